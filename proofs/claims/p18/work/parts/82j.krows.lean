set_option maxHeartbeats 4000000 in
set_option maxRecDepth 100000 in
theorem mk_S_ruleAt : ∀ (D : va_G) (ad : Nat → Nat) (ca : Nat → ClassId) (rf : Nat → Nat → Option Nat) (σ : Sg) (hS : rngK σ) (hRF : RFok ad rf) (x0 : Int) (g_x0 : rng x0) (K : Int → Prop) (hw : wp5_S_ruleAt σ x0 K) (l : Launch) (sz : Nat), Met l yX11_ruleAt (Cond.code yX11_ruleAt cX11_ruleAt 2 (some (.object "SameAfter$Rule")) :: gG) { frames := 2, cells := 0, slots := 0, locals := 85 } (cPre D (tC ca) (wK ad ca rf σ) sz [.ref (ad 0), .int (zI x0)]) (va_Sq (fun r => ∃ n : Int, r = rfO ruleC ad n ∧ K n)) 0 0 (fun _ => False) := by
  intro D ad ca rf σ hS hRF x0 g_x0 K hw l sz
  refine Met.ofW (cc := cX11_ruleAt) (maxL := 2) (ret := (some (.object "SameAfter$Rule"))) (by decide) rfl ?_
  intro p e s m args below meth c s₁ B hml hv
  obtain ⟨rfl, aks, rfl, Wd⟩ := k_enter hv
  have C : CallFix p m c cX11_ruleAt 2 s _ gG RX11 := ⟨B.exec, B.bytes, hml, findClass_of_methodNamed B.named, fun w h => atoms_spec (ws := Cond.code yX11_ruleAt cX11_ruleAt 2 (some (.object "SameAfter$Rule")) :: gG) B.pre w (List.mem_cons_of_mem _ h)⟩
  have hr := B.returns
  have hlk := B.notSynchronized
  obtain ⟨A, Wd⟩ : ∃ A, wXK D ad ca rf s σ s.heap A s.heap [] := ⟨_, Wd, hS, hRF⟩
  refine k_locals (Nat.le_of_ble_eq_true rfl) [(0, .ref (ad 0)), (1, .int (zI x0))] rfl (fun ls hl => ?_)
  unfold wp5_S_ruleAt at hw
  refine lv_iload_n C.1 C.2.1 dX11_ruleAt_0 rfl (lv_at hl 1 rfl) ?_
  refine lv_aload_n C.1 C.2.1 dX11_ruleAt_1 rfl (lv_at hl 0 rfl) ?_
  refine k_get (v := .int (zI (σ.1 0 1))) C Wd.1 KX11 _ 1 (cx0 _) (by decide) fl_X11_18 rfl dX11_ruleAt_2 ?_
  refine lv_icmp_ge (tgt := 19) C.1 C.2.1 dX11_ruleAt_5 (by decide) (fun c5 => ?_) (fun c5 => ?_)
  · have hw := hw.1 (z_le (hS.1 0 1) g_x0 c5)
    refine lv_null C.1 C.2.1 dX11_ruleAt_19 ?_
    exact k_aretP none rfl C hr hlk ⟨(-1), rfl, hw⟩ dX11_ruleAt_20
  · have hw := hw.2 (z_nle (hS.1 0 1) g_x0 c5)
    refine lv_aload_n C.1 C.2.1 dX11_ruleAt_8 rfl (lv_at hl 0 rfl) ?_
    refine k_get (v := .ref (ad 31)) C Wd.1 KX11 _ 6 (cx0 _) (by decide) fl_X11_50 rfl dX11_ruleAt_9 ?_
    refine lv_iload_n C.1 C.2.1 dX11_ruleAt_12 rfl (lv_at hl 1 rfl) ?_
    refine k_pq (k_runVK (rest := []) C aks Wd cs_X11_99 (mk_P_ruleAt D ad ca rf σ Wd.2.1 Wd.2.2 x0 g_x0 _ hw l _) (cx31 _) rfl rfl rfl rfl ⟨(Nat.le_of_ble_eq_true rfl), (Nat.le_of_ble_eq_true rfl)⟩ hl.1 rfl rfl (Nat.le_of_ble_eq_true rfl) ⟨(Nat.le_of_ble_eq_true rfl), (Nat.le_of_ble_eq_true rfl)⟩ dX11_ruleAt_13) (fun y13 hy => ?_)
    obtain ⟨r13, rfl, hw⟩ := hy
    by_cases c13 : r13 < 0
    · have hw := hw.1 c13
      rw [rfO_null c13]
      show W p l e _ s m _ below meth c _ _ _ _ _ (F0 m _ ls (.null :: []))
      refine lv_goto (tgt := 20) C.1 C.2.1 dX11_ruleAt_16 (by decide) ?_
      exact k_aretP none rfl C hr hlk ⟨(-1), rfl, hw⟩ dX11_ruleAt_20
    · have hw := hw.2 (Int.not_lt.mp c13)
      rw [rfO_nn (Int.not_lt.mp c13)]
      obtain ⟨n13_0, hw⟩ := hw
      show W p l e _ s m _ below meth c _ _ _ _ _ (F0 m _ ls (.ref (ad (ruleC r13.toNat)) :: []))
      refine lv_goto (tgt := 20) C.1 C.2.1 dX11_ruleAt_16 (by decide) ?_
      exact k_aretP (some (ad (ruleC r13.toNat))) rfl C hr hlk ⟨r13, (rfO_ref n13_0).symm, hw⟩ dX11_ruleAt_20
set_option maxHeartbeats 4000000 in
set_option maxRecDepth 100000 in
theorem mk_W_expressionEnd : ∀ (D : va_G) (ad : Nat → Nat) (ca : Nat → ClassId) (rf : Nat → Nat → Option Nat) (σ : Sg) (hS : rngK σ) (hRF : RFok ad rf) (n0 : Int) (x0 : Int) (h_n0 : 0 ≤ n0 ∧ n0 < 35) (g_x0 : rng x0) (K : Int → Prop) (hw : wp5_W_expressionEnd σ n0 x0 K) (l : Launch) (sz : Nat), Met l yX8_expressionEnd (Cond.code yX8_expressionEnd cX8_expressionEnd 4 (some .int) :: gG) { frames := 2, cells := 0, slots := 0, locals := 96 } (cPre D (tC ca) (wK ad ca rf σ) sz [.ref (ad (rowC n0.toNat)), .int (zI x0)]) (vp_Si (fun r => ∃ x : Int, r = zI x ∧ rng x ∧ K x)) 0 0 (fun _ => False) := by
  intro D ad ca rf σ hS hRF n0 x0 h_n0 g_x0 K hw l sz
  refine Met.ofW (cc := cX8_expressionEnd) (maxL := 4) (ret := (some .int)) (by decide) rfl ?_
  intro p e s m args below meth c s₁ B hml hv
  obtain ⟨rfl, aks, rfl, Wd⟩ := k_enter hv
  have C : CallFix p m c cX8_expressionEnd 4 s _ gG RX8 := ⟨B.exec, B.bytes, hml, findClass_of_methodNamed B.named, fun w h => atoms_spec (ws := Cond.code yX8_expressionEnd cX8_expressionEnd 4 (some .int) :: gG) B.pre w (List.mem_cons_of_mem _ h)⟩
  have hr := B.returns
  have hlk := B.notSynchronized
  obtain ⟨A, Wd⟩ : ∃ A, wXK D ad ca rf s σ s.heap A s.heap [] := ⟨_, Wd, hS, hRF⟩
  refine k_locals (Nat.le_of_ble_eq_true rfl) [(0, .ref (ad (rowC n0.toNat))), (1, .int (zI x0))] rfl (fun ls hl => ?_)
  unfold wp5_W_expressionEnd at hw
  refine lv_iload_n C.1 C.2.1 dX8_expressionEnd_0 rfl (lv_at hl 1 rfl) ?_
  refine lv_iconst (v := zI 0) C.1 C.2.1 dX8_expressionEnd_1 (by decide) ?_
  refine k_mmax (v := zI (max x0 0)) C hl.1 ml_X8_9 st_Lib_Math_max_name in_J9 cd_max (Nat.le_of_ble_eq_true rfl) (Nat.le_of_ble_eq_true rfl) (Nat.le_of_ble_eq_true rfl) (Nat.le_of_ble_eq_true rfl) (zmax_eq _ _ g_x0 (show rng 0 from by decide)) dX8_expressionEnd_2 ?_
  refine lv_istore_n (lv' := [(2, .int (zI (max x0 0))), (0, .ref (ad (rowC n0.toNat))), (1, .int (zI x0))]) C.1 C.2.1 dX8_expressionEnd_5 rfl hl (by decide) rfl (fun ls hl => ?_)
  replace hl := lv_sub hl [1, 2, 0] rfl
  refine lv_iconst (v := zI 1) C.1 C.2.1 dX8_expressionEnd_6 (by decide) ?_
  refine lv_istore_n (lv' := [(3, .int (zI 1)), (0, .ref (ad (rowC n0.toNat))), (1, .int (zI x0)), (2, .int (zI (max x0 0)))]) C.1 C.2.1 dX8_expressionEnd_7 rfl hl (by decide) rfl (fun ls hl => ?_)
  replace hl := lv_sub hl [1, 2, 3, 0] rfl
  refine k_lp2 hw (fun (l2_8 : Int) (l3_8 : Int) H locs ls => rng l2_8 ∧ rng l3_8 ∧ wXK D ad ca rf s σ H A s.heap locs ∧ H = s.heap ∧ locs = [] ∧ lv_has ls 4 [(0, .ref (ad (rowC n0.toNat))), (2, .int (zI l2_8)), (3, .int (zI l3_8))]) (fun (l2_8 : Int) (l3_8 : Int) ls => F0 m 8 ls []) (fun L8 hL8 l2_8 l3_8 hw H locs ls hi => ?_) _ _ _ ⟨(rng_max g_x0 (show rng 0 from by decide)), (show rng 1 from by decide), Wd, rfl, rfl, lv_sub hl [0, 2, 3] rfl⟩
  obtain ⟨g_l2_8, g_l3_8, Wd, rfl, rfl, hl⟩ := hi
  unfold wp5_W_expressionEnd_8 at hw
  refine lv_iload_n C.1 C.2.1 dX8_expressionEnd_8 rfl (lv_at hl 2 rfl) ?_
  refine lv_if_le (tgt := 46) C.1 C.2.1 dX8_expressionEnd_9 (by decide) (fun c9 => ?_) (fun c9 => ?_)
  · have hw := hw.1 (z0_le g_l3_8 c9)
    refine lv_iload_n C.1 C.2.1 dX8_expressionEnd_46 rfl (lv_at hl 1 rfl) ?_
    exact k_zretP C hr hlk rfl ⟨_, rfl, g_l2_8, hw⟩ dX8_expressionEnd_47
  · have hw := hw.2 (z0_nle g_l3_8 c9)
    refine lv_iload_n C.1 C.2.1 dX8_expressionEnd_12 rfl (lv_at hl 1 rfl) ?_
    refine lv_aload_n C.1 C.2.1 dX8_expressionEnd_13 rfl (lv_at hl 0 rfl) ?_
    refine k_get (v := .int (zI (σ.2.2.1 0 n0))) C Wd.1 KX8 _ 1 (cxRow h_n0) (by decide) fl_X8_21 rfl dX8_expressionEnd_14 ?_
    refine lv_icmp_ge (tgt := 46) C.1 C.2.1 dX8_expressionEnd_17 (by decide) (fun c17 => ?_) (fun c17 => ?_)
    · have hw := hw.1 (z_le (rgY hS (N := 35) h_n0) g_l2_8 c17)
      refine lv_iload_n C.1 C.2.1 dX8_expressionEnd_46 rfl (lv_at hl 1 rfl) ?_
      exact k_zretP C hr hlk rfl ⟨_, rfl, g_l2_8, hw⟩ dX8_expressionEnd_47
    · have hw := hw.2 (z_nle (rgY hS (N := 35) h_n0) g_l2_8 c17)
      refine lv_iload_n C.1 C.2.1 dX8_expressionEnd_20 rfl (lv_at hl 2 rfl) ?_
      refine lv_aload_n C.1 C.2.1 dX8_expressionEnd_21 rfl (lv_at hl 0 rfl) ?_
      refine k_get (v := .ref (ad ((rowC n0.toNat) + 1))) C Wd.1 KX8 _ 0 (cxRow h_n0) (by decide) fl_X8_15 rfl dX8_expressionEnd_22 ?_
      refine lv_iload_n C.1 C.2.1 dX8_expressionEnd_25 rfl (lv_at hl 1 rfl) ?_
      obtain ⟨n26_0, hw⟩ := hw
      refine k_ialdK (g := (σ.2.2.2 0 n0)) C Wd (cxRowc h_n0) (tyR h_n0) (capN n26_0) (capL _) dX8_expressionEnd_26 ?_
      have ga26 : rng (σ.2.2.2 0 n0 l2_8) := rngL (rgZ (c := 0) Wd.2.1 h_n0) n26_0
      refine k_pi (k_runS (rest := [.int (zI l3_8)]) C aks Wd.1 cs_X8_49 (mk_W_isOperation D (σ.2.2.2 0 n0 l2_8) ga26 _ hw l _) [] rfl (by decide) [] rfl rfl rfl ⟨(Nat.le_of_ble_eq_true rfl), (Nat.le_of_ble_eq_true rfl)⟩ hl.1 rfl rfl (Nat.le_of_ble_eq_true rfl) ⟨(Nat.le_of_ble_eq_true rfl), (Nat.le_of_ble_eq_true rfl)⟩ dX8_expressionEnd_27) (fun y27 hy => ?_)
      obtain ⟨r27, rfl, g_r27, hw⟩ := hy
      refine lv_if_eq (tgt := 37) C.1 C.2.1 dX8_expressionEnd_30 (by decide) (fun c30 => ?_) (fun c30 => ?_)
      · have hw := hw.1 (z0_eq g_r27 c30)
        refine lv_iconst (v := zI (-1)) C.1 C.2.1 dX8_expressionEnd_37 (by decide) ?_
        refine k_iadd (v := zI (l3_8 + (-1))) C (zI_iadd _ _) dX8_expressionEnd_38 ?_
        refine lv_istore_n (lv' := [(3, .int (zI (l3_8 + (-1)))), (0, .ref (ad (rowC n0.toNat))), (2, .int (zI l2_8))]) C.1 C.2.1 dX8_expressionEnd_39 rfl hl (by decide) rfl (fun ls hl => ?_)
        replace hl := lv_sub hl [1, 2, 0] rfl
        refine lv_iinc (v := zI (l2_8 + 1)) (lv' := [(2, .int (zI (l2_8 + 1))), (0, .ref (ad (rowC n0.toNat))), (3, .int (zI (l3_8 + (-1))))]) C.1 C.2.1 dX8_expressionEnd_40 hl (k := 1) rfl (zI_inc _ _ (by decide)) (by decide) rfl (fun ls hl => ?_)
        replace hl := lv_sub hl [1, 0, 2] rfl
        refine lv_goto (tgt := 8) C.1 C.2.1 dX8_expressionEnd_43 (by decide) ?_
        obtain ⟨g43_6, hw⟩ := hw
        obtain ⟨g43_7, hw⟩ := hw
        exact hL8 _ _ hw _ _ _ ⟨g43_6, g43_7, Wd, rfl, rfl, lv_sub hl [0, 1, 2] rfl⟩
      · have hw := hw.2 (z0_ne g_r27 c30)
        refine lv_iconst (v := zI 1) C.1 C.2.1 dX8_expressionEnd_33 (by decide) ?_
        refine lv_goto (tgt := 38) C.1 C.2.1 dX8_expressionEnd_34 (by decide) ?_
        refine k_iadd (v := zI (l3_8 + 1)) C (zI_iadd _ _) dX8_expressionEnd_38 ?_
        refine lv_istore_n (lv' := [(3, .int (zI (l3_8 + 1))), (0, .ref (ad (rowC n0.toNat))), (2, .int (zI l2_8))]) C.1 C.2.1 dX8_expressionEnd_39 rfl hl (by decide) rfl (fun ls hl => ?_)
        replace hl := lv_sub hl [1, 2, 0] rfl
        refine lv_iinc (v := zI (l2_8 + 1)) (lv' := [(2, .int (zI (l2_8 + 1))), (0, .ref (ad (rowC n0.toNat))), (3, .int (zI (l3_8 + 1)))]) C.1 C.2.1 dX8_expressionEnd_40 hl (k := 1) rfl (zI_inc _ _ (by decide)) (by decide) rfl (fun ls hl => ?_)
        replace hl := lv_sub hl [1, 0, 2] rfl
        refine lv_goto (tgt := 8) C.1 C.2.1 dX8_expressionEnd_43 (by decide) ?_
        obtain ⟨g43_8, hw⟩ := hw
        obtain ⟨g43_9, hw⟩ := hw
        exact hL8 _ _ hw _ _ _ ⟨g43_8, g43_9, Wd, rfl, rfl, lv_sub hl [0, 1, 2] rfl⟩
set_option maxHeartbeats 4000000 in
set_option maxRecDepth 100000 in
theorem mk_W_repeats : ∀ (D : va_G) (ad : Nat → Nat) (ca : Nat → ClassId) (rf : Nat → Nat → Option Nat) (σ : Sg) (hS : rngK σ) (hRF : RFok ad rf) (n0 : Int) (x0 : Int) (x1 : Int) (x2 : Int) (h_n0 : 0 ≤ n0 ∧ n0 < 35) (g_x0 : rng x0) (g_x1 : rng x1) (g_x2 : rng x2) (K : Int → Prop) (hw : wp5_W_repeats σ n0 x0 x1 x2 K) (l : Launch) (sz : Nat), Met l yX8_repeats (Cond.code yX8_repeats cX8_repeats 5 (some .boolean) :: gG) { frames := 1, cells := 0, slots := 0, locals := 64 } (cPre D (tC ca) (wK ad ca rf σ) sz [.ref (ad (rowC n0.toNat)), .int (zI x0), .int (zI x1), .int (zI x2)]) (vp_Si (fun r => ∃ x : Int, r = zI x ∧ rng x ∧ K x)) 0 0 (fun _ => False) := by
  intro D ad ca rf σ hS hRF n0 x0 x1 x2 h_n0 g_x0 g_x1 g_x2 K hw l sz
  refine Met.ofW (cc := cX8_repeats) (maxL := 5) (ret := (some .boolean)) (by decide) rfl ?_
  intro p e s m args below meth c s₁ B hml hv
  obtain ⟨rfl, aks, rfl, Wd⟩ := k_enter hv
  have C : CallFix p m c cX8_repeats 5 s _ gG RX8 := ⟨B.exec, B.bytes, hml, findClass_of_methodNamed B.named, fun w h => atoms_spec (ws := Cond.code yX8_repeats cX8_repeats 5 (some .boolean) :: gG) B.pre w (List.mem_cons_of_mem _ h)⟩
  have hr := B.returns
  have hlk := B.notSynchronized
  obtain ⟨A, Wd⟩ : ∃ A, wXK D ad ca rf s σ s.heap A s.heap [] := ⟨_, Wd, hS, hRF⟩
  refine k_locals (Nat.le_of_ble_eq_true rfl) [(0, .ref (ad (rowC n0.toNat))), (1, .int (zI x0)), (2, .int (zI x1)), (3, .int (zI x2))] rfl (fun ls hl => ?_)
  unfold wp5_W_repeats at hw
  refine lv_iload_n C.1 C.2.1 dX8_repeats_0 rfl (lv_at hl 1 rfl) ?_
  refine lv_if_lt (tgt := 28) C.1 C.2.1 dX8_repeats_1 (by decide) (fun c1 => ?_) (fun c1 => ?_)
  · have hw := hw.1 (z0_lt g_x0 c1)
    refine lv_iconst (v := zI 0) C.1 C.2.1 dX8_repeats_28 (by decide) ?_
    exact k_zretP C hr hlk (by decide) ⟨_, rfl, (show rng 0 from by decide), hw⟩ dX8_repeats_29
  · have hw := hw.2 (z0_nlt g_x0 c1)
    refine lv_iload_n C.1 C.2.1 dX8_repeats_4 rfl (lv_at hl 2 rfl) ?_
    refine lv_if_lt (tgt := 28) C.1 C.2.1 dX8_repeats_5 (by decide) (fun c5 => ?_) (fun c5 => ?_)
    · have hw := hw.1 (z0_lt g_x1 c5)
      refine lv_iconst (v := zI 0) C.1 C.2.1 dX8_repeats_28 (by decide) ?_
      exact k_zretP C hr hlk (by decide) ⟨_, rfl, (show rng 0 from by decide), hw⟩ dX8_repeats_29
    · have hw := hw.2 (z0_nlt g_x1 c5)
      refine lv_iload_n C.1 C.2.1 dX8_repeats_8 rfl (lv_at hl 3 rfl) ?_
      refine lv_aload_n C.1 C.2.1 dX8_repeats_9 rfl (lv_at hl 0 rfl) ?_
      refine k_get (v := .int (zI (σ.2.2.1 0 n0))) C Wd.1 KX8 _ 1 (cxRow h_n0) (by decide) fl_X8_21 rfl dX8_repeats_10 ?_
      refine lv_iload_n C.1 C.2.1 dX8_repeats_13 rfl (lv_at hl 1 rfl) ?_
      refine k_isub (v := zI ((σ.2.2.1 0 n0) - x0)) C (zI_isub _ _) dX8_repeats_14 ?_
      obtain ⟨g15_6, hw⟩ := hw
      refine lv_icmp_gt (tgt := 28) C.1 C.2.1 dX8_repeats_15 (by decide) (fun c15 => ?_) (fun c15 => ?_)
      · have hw := hw.1 (z_lt g15_6 g_x2 c15)
        refine lv_iconst (v := zI 0) C.1 C.2.1 dX8_repeats_28 (by decide) ?_
        exact k_zretP C hr hlk (by decide) ⟨_, rfl, (show rng 0 from by decide), hw⟩ dX8_repeats_29
      · have hw := hw.2 (z_nlt g15_6 g_x2 c15)
        refine lv_iload_n C.1 C.2.1 dX8_repeats_18 rfl (lv_at hl 3 rfl) ?_
        refine lv_aload_n C.1 C.2.1 dX8_repeats_19 rfl (lv_at hl 0 rfl) ?_
        refine k_get (v := .int (zI (σ.2.2.1 0 n0))) C Wd.1 KX8 _ 1 (cxRow h_n0) (by decide) fl_X8_21 rfl dX8_repeats_20 ?_
        refine lv_iload_n C.1 C.2.1 dX8_repeats_23 rfl (lv_at hl 2 rfl) ?_
        refine k_isub (v := zI ((σ.2.2.1 0 n0) - x1)) C (zI_isub _ _) dX8_repeats_24 ?_
        obtain ⟨g25_7, hw⟩ := hw
        refine lv_icmp_le (tgt := 30) C.1 C.2.1 dX8_repeats_25 (by decide) (fun c25 => ?_) (fun c25 => ?_)
        · have hw := hw.1 (z_le g_x2 g25_7 c25)
          refine lv_iconst (v := zI 0) C.1 C.2.1 dX8_repeats_30 (by decide) ?_
          refine lv_istore (lv' := [(4, .int (zI 0)), (0, .ref (ad (rowC n0.toNat))), (1, .int (zI x0)), (2, .int (zI x1)), (3, .int (zI x2))]) C.1 C.2.1 dX8_repeats_31 hl (by decide) rfl (fun ls hl => ?_)
          replace hl := lv_sub hl [1, 2, 3, 4, 0] rfl
          refine k_lp1 hw (fun (l4_33 : Int) H locs ls => rng l4_33 ∧ wXK D ad ca rf s σ H A s.heap locs ∧ H = s.heap ∧ locs = [] ∧ lv_has ls 5 [(0, .ref (ad (rowC n0.toNat))), (1, .int (zI x0)), (2, .int (zI x1)), (3, .int (zI x2)), (4, .int (zI l4_33))]) (fun (l4_33 : Int) ls => F0 m 33 ls []) (fun L33 hL33 l4_33 hw H locs ls hi => ?_) _ _ _ ⟨(show rng 0 from by decide), Wd, rfl, rfl, lv_sub hl [0, 1, 2, 3, 4] rfl⟩
          obtain ⟨g_l4_33, Wd, rfl, rfl, hl⟩ := hi
          unfold wp5_W_repeats_33 at hw
          refine lv_iload C.1 C.2.1 dX8_repeats_33 (lv_at hl 4 rfl) ?_
          refine lv_iload_n C.1 C.2.1 dX8_repeats_35 rfl (lv_at hl 3 rfl) ?_
          refine lv_icmp_ge (tgt := 68) C.1 C.2.1 dX8_repeats_36 (by decide) (fun c36 => ?_) (fun c36 => ?_)
          · have hw := hw.1 (z_le g_x2 g_l4_33 c36)
            refine lv_iconst (v := zI 1) C.1 C.2.1 dX8_repeats_68 (by decide) ?_
            exact k_zretP C hr hlk (by decide) ⟨_, rfl, (show rng 1 from by decide), hw⟩ dX8_repeats_69
          · have hw := hw.2 (z_nle g_x2 g_l4_33 c36)
            refine lv_aload_n C.1 C.2.1 dX8_repeats_39 rfl (lv_at hl 0 rfl) ?_
            refine k_get (v := .ref (ad ((rowC n0.toNat) + 1))) C Wd.1 KX8 _ 0 (cxRow h_n0) (by decide) fl_X8_15 rfl dX8_repeats_40 ?_
            refine lv_iload_n C.1 C.2.1 dX8_repeats_43 rfl (lv_at hl 1 rfl) ?_
            refine lv_iload C.1 C.2.1 dX8_repeats_44 (lv_at hl 4 rfl) ?_
            refine k_iadd (v := zI (x0 + l4_33)) C (zI_iadd _ _) dX8_repeats_46 ?_
            obtain ⟨n47_0, hw⟩ := hw
            refine k_ialdK (g := (σ.2.2.2 0 n0)) C Wd (cxRowc h_n0) (tyR h_n0) (capN n47_0) (capL _) dX8_repeats_47 ?_
            have ga47 : rng (σ.2.2.2 0 n0 (x0 + l4_33)) := rngL (rgZ (c := 0) Wd.2.1 h_n0) n47_0
            refine lv_aload_n C.1 C.2.1 dX8_repeats_48 rfl (lv_at hl 0 rfl) ?_
            refine k_get (v := .ref (ad ((rowC n0.toNat) + 1))) C Wd.1 KX8 _ 0 (cxRow h_n0) (by decide) fl_X8_15 rfl dX8_repeats_49 ?_
            refine lv_iload_n C.1 C.2.1 dX8_repeats_52 rfl (lv_at hl 2 rfl) ?_
            refine lv_iload C.1 C.2.1 dX8_repeats_53 (lv_at hl 4 rfl) ?_
            refine k_iadd (v := zI (x1 + l4_33)) C (zI_iadd _ _) dX8_repeats_55 ?_
            obtain ⟨n56_1, hw⟩ := hw
            refine k_ialdK (g := (σ.2.2.2 0 n0)) C Wd (cxRowc h_n0) (tyR h_n0) (capN n56_1) (capL _) dX8_repeats_56 ?_
            have ga56 : rng (σ.2.2.2 0 n0 (x1 + l4_33)) := rngL (rgZ (c := 0) Wd.2.1 h_n0) n56_1
            refine lv_icmp_eq (tgt := 62) C.1 C.2.1 dX8_repeats_57 (by decide) (fun c57 => ?_) (fun c57 => ?_)
            · have hw := hw.1 (z_eq ga47 ga56 c57)
              refine lv_iinc (v := zI (l4_33 + 1)) (lv' := [(4, .int (zI (l4_33 + 1))), (0, .ref (ad (rowC n0.toNat))), (1, .int (zI x0)), (2, .int (zI x1)), (3, .int (zI x2))]) C.1 C.2.1 dX8_repeats_62 hl (k := 4) rfl (zI_inc _ _ (by decide)) (by decide) rfl (fun ls hl => ?_)
              replace hl := lv_sub hl [1, 2, 3, 4, 0] rfl
              refine lv_goto (tgt := 33) C.1 C.2.1 dX8_repeats_65 (by decide) ?_
              obtain ⟨g65_8, hw⟩ := hw
              exact hL33 _ hw _ _ _ ⟨g65_8, Wd, rfl, rfl, lv_sub hl [0, 1, 2, 3, 4] rfl⟩
            · have hw := hw.2 (z_ne ga47 ga56 c57)
              refine lv_iconst (v := zI 0) C.1 C.2.1 dX8_repeats_60 (by decide) ?_
              exact k_zretP C hr hlk (by decide) ⟨_, rfl, (show rng 0 from by decide), hw⟩ dX8_repeats_61
        · have hw := hw.2 (z_nle g_x2 g25_7 c25)
          refine lv_iconst (v := zI 0) C.1 C.2.1 dX8_repeats_28 (by decide) ?_
          exact k_zretP C hr hlk (by decide) ⟨_, rfl, (show rng 0 from by decide), hw⟩ dX8_repeats_29
set_option maxHeartbeats 4000000 in
set_option maxRecDepth 100000 in
theorem mk_U_bind : ∀ (D : va_G) (ad : Nat → Nat) (ca : Nat → ClassId) (rf : Nat → Nat → Option Nat) (σ : Sg) (hS : rngK σ) (hRF : RFok ad rf) (n0 : Int) (x0 : Int) (x1 : Int) (x2 : Int) (x3 : Int) (h_n0 : 0 ≤ n0 ∧ n0 < 12) (g_x0 : 0 ≤ x0 ∧ x0 < 35) (g_x1 : rng x1) (g_x2 : rng x2) (g_x3 : rng x3) (K : Int → Sg → Prop) (hw : wp5_U_bind σ n0 x0 x1 x2 x3 K) (l : Launch) (sz : Nat), Met l yX9_bind (Cond.code yX9_bind cX9_bind 6 (some .boolean) :: gG) { frames := 2, cells := 0, slots := 0, locals := 88 } (cPre D (tC ca) (wK ad ca rf σ) sz [.ref (ad (ruleC n0.toNat)), .ref (ad (rowC x0.toNat)), .int (zI x1), .int (zI x2), .int (zI x3)]) (va_Qi (fun (r : Int32) (u : Sg) => (∃ x : Int, r = zI x ∧ rng x ∧ K x u) ∧ rngK u) (fun u t => cB D (va_A (wK ad ca rf σ) sz) [] (wK ad ca rf u) t) (va_A (wK ad ca rf σ) sz)) 0 0 (va_A (wK ad ca rf σ) sz) := by
  intro D ad ca rf σ hS hRF n0 x0 x1 x2 x3 h_n0 g_x0 g_x1 g_x2 g_x3 K hw l sz
  refine Met.ofW (cc := cX9_bind) (maxL := 6) (ret := (some .boolean)) (by decide) rfl ?_
  intro p e s m args below meth c s₁ B hml hv
  obtain ⟨rfl, aks, rfl, Wd⟩ := k_enter hv
  have C : CallFix p m c cX9_bind 6 s _ gG RX9 := ⟨B.exec, B.bytes, hml, findClass_of_methodNamed B.named, fun w h => atoms_spec (ws := Cond.code yX9_bind cX9_bind 6 (some .boolean) :: gG) B.pre w (List.mem_cons_of_mem _ h)⟩
  have hr := B.returns
  have hlk := B.notSynchronized
  generalize va_A (wK ad ca rf σ) s.heap.size = A at Wd ⊢
  replace Wd : wXK D ad ca rf s σ s.heap A s.heap [] := ⟨Wd, hS, hRF⟩
  refine k_locals (Nat.le_of_ble_eq_true rfl) [(0, .ref (ad (ruleC n0.toNat))), (1, .ref (ad (rowC x0.toNat))), (2, .int (zI x1)), (3, .int (zI x2)), (4, .int (zI x3))] rfl (fun ls hl => ?_)
  unfold wp5_U_bind at hw
  refine lv_iload_n C.1 C.2.1 dX9_bind_0 rfl (lv_at hl 2 rfl) ?_
  refine lv_if_lt (tgt := 9) C.1 C.2.1 dX9_bind_1 (by decide) (fun c1 => ?_) (fun c1 => ?_)
  · have hw := hw.1 (z0_lt g_x1 c1)
    refine lv_iconst (v := zI 0) C.1 C.2.1 dX9_bind_9 (by decide) ?_
    exact k_retKi C hr hlk (by decide) Wd ⟨_, rfl, (show rng 0 from by decide), hw⟩ dX9_bind_10
  · have hw := hw.2 (z0_nlt g_x1 c1)
    refine lv_iload_n C.1 C.2.1 dX9_bind_4 rfl (lv_at hl 2 rfl) ?_
    refine lv_iconst (v := zI 3) C.1 C.2.1 dX9_bind_5 (by decide) ?_
    refine lv_icmp_lt (tgt := 11) C.1 C.2.1 dX9_bind_6 (by decide) (fun c6 => ?_) (fun c6 => ?_)
    · have hw := hw.1 (z_lt g_x1 (show rng 3 from by decide) c6)
      refine lv_aload_n C.1 C.2.1 dX9_bind_11 rfl (lv_at hl 0 rfl) ?_
      refine k_get (v := .ref (ad ((ruleC n0.toNat) + 5))) C Wd.1 KX9 _ 3 (cxRule h_n0) (by decide) fl_X9_23 rfl dX9_bind_12 ?_
      refine lv_iload_n C.1 C.2.1 dX9_bind_15 rfl (lv_at hl 2 rfl) ?_
      obtain ⟨n16_0, hw⟩ := hw
      refine k_ialdK (g := (σ.2.2.2 2 n0)) C Wd (cxU5 h_n0) (tyU5 h_n0) n16_0 (by decide) dX9_bind_16 ?_
      have ga16 : rng (σ.2.2.2 2 n0 x1) := rngL (rgZ (c := 2) Wd.2.1 h_n0) n16_0
      refine lv_iconst (v := zI (-1)) C.1 C.2.1 dX9_bind_17 (by decide) ?_
      refine lv_icmp_eq (tgt := 67) C.1 C.2.1 dX9_bind_18 (by decide) (fun c18 => ?_) (fun c18 => ?_)
      · have hw := hw.1 (z_eq ga16 (show rng (-1) from by decide) c18)
        refine lv_aload_n C.1 C.2.1 dX9_bind_67 rfl (lv_at hl 0 rfl) ?_
        refine k_get (v := .ref (ad ((ruleC n0.toNat) + 5))) C Wd.1 KX9 _ 3 (cxRule h_n0) (by decide) fl_X9_23 rfl dX9_bind_68 ?_
        refine lv_iload_n C.1 C.2.1 dX9_bind_71 rfl (lv_at hl 2 rfl) ?_
        refine lv_iload_n C.1 C.2.1 dX9_bind_72 rfl (lv_at hl 3 rfl) ?_
        refine k_iastU5 (n := n0) (g := (σ.2.2.2 2 n0)) (i := x1) (v := x2) C Wd h_n0 rfl n16_0 (ruZ (rgZ (c := 2) Wd.2.1 h_n0) g_x2) dX9_bind_73 (fun H locs Wd => ?_)
        refine lv_aload_n C.1 C.2.1 dX9_bind_74 rfl (lv_at hl 0 rfl) ?_
        refine k_get (v := .ref (ad ((ruleC n0.toNat) + 6))) C Wd.1 KX9 _ 4 (cxRule h_n0) (by decide) fl_X9_27 rfl dX9_bind_75 ?_
        refine lv_iload_n C.1 C.2.1 dX9_bind_78 rfl (lv_at hl 2 rfl) ?_
        refine lv_iload C.1 C.2.1 dX9_bind_79 (lv_at hl 4 rfl) ?_
        refine k_iastU6 (n := n0) (g := (σ.2.2.2 3 n0)) (i := x1) (v := x3) C Wd h_n0 rfl n16_0 (ruZ (rgZ (c := 3) Wd.2.1 h_n0) g_x3) dX9_bind_81 (fun H locs Wd => ?_)
        refine lv_iconst (v := zI 1) C.1 C.2.1 dX9_bind_82 (by decide) ?_
        exact k_retKi C hr hlk (by decide) Wd ⟨_, rfl, (show rng 1 from by decide), hw⟩ dX9_bind_83
      · have hw := hw.2 (z_ne ga16 (show rng (-1) from by decide) c18)
        refine lv_iload C.1 C.2.1 dX9_bind_21 (lv_at hl 4 rfl) ?_
        refine lv_iload_n C.1 C.2.1 dX9_bind_23 rfl (lv_at hl 3 rfl) ?_
        refine k_isub (v := zI (x3 - x2)) C (zI_isub _ _) dX9_bind_24 ?_
        refine lv_istore (lv' := [(5, .int (zI (x3 - x2))), (0, .ref (ad (ruleC n0.toNat))), (1, .ref (ad (rowC x0.toNat))), (2, .int (zI x1)), (3, .int (zI x2)), (4, .int (zI x3))]) C.1 C.2.1 dX9_bind_25 hl (by decide) rfl (fun ls hl => ?_)
        replace hl := lv_sub hl [1, 2, 3, 4, 5, 0] rfl
        refine lv_aload_n C.1 C.2.1 dX9_bind_27 rfl (lv_at hl 0 rfl) ?_
        refine k_get (v := .ref (ad ((ruleC n0.toNat) + 6))) C Wd.1 KX9 _ 4 (cxRule h_n0) (by decide) fl_X9_27 rfl dX9_bind_28 ?_
        refine lv_iload_n C.1 C.2.1 dX9_bind_31 rfl (lv_at hl 2 rfl) ?_
        refine k_ialdK (g := (σ.2.2.2 3 n0)) C Wd (cxU6 h_n0) (tyU6 h_n0) n16_0 (by decide) dX9_bind_32 ?_
        have ga32 : rng (σ.2.2.2 3 n0 x1) := rngL (rgZ (c := 3) Wd.2.1 h_n0) n16_0
        refine lv_aload_n C.1 C.2.1 dX9_bind_33 rfl (lv_at hl 0 rfl) ?_
        refine k_get (v := .ref (ad ((ruleC n0.toNat) + 5))) C Wd.1 KX9 _ 3 (cxRule h_n0) (by decide) fl_X9_23 rfl dX9_bind_34 ?_
        refine lv_iload_n C.1 C.2.1 dX9_bind_37 rfl (lv_at hl 2 rfl) ?_
        refine k_ialdK (g := (σ.2.2.2 2 n0)) C Wd (cxU5 h_n0) (tyU5 h_n0) n16_0 (by decide) dX9_bind_38 ?_
        refine k_isub (v := zI ((σ.2.2.2 3 n0 x1) - (σ.2.2.2 2 n0 x1))) C (zI_isub _ _) dX9_bind_39 ?_
        refine lv_iload C.1 C.2.1 dX9_bind_40 (lv_at hl 5 rfl) ?_
        obtain ⟨g42_2, hw⟩ := hw
        obtain ⟨g42_3, hw⟩ := hw
        refine lv_icmp_ne (tgt := 65) C.1 C.2.1 dX9_bind_42 (by decide) (fun c42 => ?_) (fun c42 => ?_)
        · have hw := hw.1 (z_ne g42_2 g42_3 c42)
          refine lv_iconst (v := zI 0) C.1 C.2.1 dX9_bind_65 (by decide) ?_
          exact k_retKi C hr hlk (by decide) Wd ⟨_, rfl, (show rng 0 from by decide), hw⟩ dX9_bind_66
        · have hw := hw.2 (z_eq g42_2 g42_3 c42)
          refine lv_aload_n C.1 C.2.1 dX9_bind_45 rfl (lv_at hl 1 rfl) ?_
          refine lv_aload_n C.1 C.2.1 dX9_bind_46 rfl (lv_at hl 0 rfl) ?_
          refine k_get (v := .ref (ad ((ruleC n0.toNat) + 5))) C Wd.1 KX9 _ 3 (cxRule h_n0) (by decide) fl_X9_23 rfl dX9_bind_47 ?_
          refine lv_iload_n C.1 C.2.1 dX9_bind_50 rfl (lv_at hl 2 rfl) ?_
          refine k_ialdK (g := (σ.2.2.2 2 n0)) C Wd (cxU5 h_n0) (tyU5 h_n0) n16_0 (by decide) dX9_bind_51 ?_
          refine lv_iload_n C.1 C.2.1 dX9_bind_52 rfl (lv_at hl 3 rfl) ?_
          refine lv_iload C.1 C.2.1 dX9_bind_53 (lv_at hl 5 rfl) ?_
          refine k_pi (k_runVK (rest := []) C aks Wd cs_X9_59 (mk_W_repeats D ad ca rf σ Wd.2.1 Wd.2.2 x0 (σ.2.2.2 2 n0 x1) x2 (x3 - x2) g_x0 ga16 g_x2 g42_3 _ hw l _) (cxRow g_x0) rfl rfl rfl rfl ⟨(Nat.le_of_ble_eq_true rfl), (Nat.le_of_ble_eq_true rfl)⟩ hl.1 rfl rfl (Nat.le_of_ble_eq_true rfl) ⟨(Nat.le_of_ble_eq_true rfl), (Nat.le_of_ble_eq_true rfl)⟩ dX9_bind_55) (fun y55 hy => ?_)
          obtain ⟨r55, rfl, g_r55, hw⟩ := hy
          refine lv_if_eq (tgt := 65) C.1 C.2.1 dX9_bind_58 (by decide) (fun c58 => ?_) (fun c58 => ?_)
          · have hw := hw.1 (z0_eq g_r55 c58)
            refine lv_iconst (v := zI 0) C.1 C.2.1 dX9_bind_65 (by decide) ?_
            exact k_retKi C hr hlk (by decide) Wd ⟨_, rfl, (show rng 0 from by decide), hw⟩ dX9_bind_66
          · have hw := hw.2 (z0_ne g_r55 c58)
            refine lv_iconst (v := zI 1) C.1 C.2.1 dX9_bind_61 (by decide) ?_
            refine lv_goto (tgt := 66) C.1 C.2.1 dX9_bind_62 (by decide) ?_
            exact k_retKi C hr hlk (by decide) Wd ⟨_, rfl, (show rng 1 from by decide), hw⟩ dX9_bind_66
    · have hw := hw.2 (z_nlt g_x1 (show rng 3 from by decide) c6)
      refine lv_iconst (v := zI 0) C.1 C.2.1 dX9_bind_9 (by decide) ?_
      exact k_retKi C hr hlk (by decide) Wd ⟨_, rfl, (show rng 0 from by decide), hw⟩ dX9_bind_10
set_option maxHeartbeats 4000000 in
set_option maxRecDepth 100000 in
theorem mk_U_matches : ∀ (D : va_G) (ad : Nat → Nat) (ca : Nat → ClassId) (rf : Nat → Nat → Option Nat) (σ : Sg) (hS : rngK σ) (hRF : RFok ad rf) (n0 : Int) (x0 : Int) (x1 : Int) (h_n0 : 0 ≤ n0 ∧ n0 < 12) (g_x0 : 0 ≤ x0 ∧ x0 < 35) (g_x1 : rng x1) (K : Int → Sg → Prop) (hw : wp5_U_matches σ n0 x0 x1 K) (l : Launch) (sz : Nat), Met l yX9_matches (Cond.code yX9_matches cX9_matches 7 (some .boolean) :: gG) { frames := 3, cells := 0, slots := 0, locals := 119 } (cPre D (tC ca) (wK ad ca rf σ) sz [.ref (ad (ruleC n0.toNat)), .ref (ad (rowC x0.toNat)), .int (zI x1)]) (va_Qi (fun (r : Int32) (u : Sg) => (∃ x : Int, r = zI x ∧ rng x ∧ K x u) ∧ rngK u) (fun u t => cB D (va_A (wK ad ca rf σ) sz) [] (wK ad ca rf u) t) (va_A (wK ad ca rf σ) sz)) 0 0 (va_A (wK ad ca rf σ) sz) := by
  intro D ad ca rf σ hS hRF n0 x0 x1 h_n0 g_x0 g_x1 K hw l sz
  refine Met.ofW (cc := cX9_matches) (maxL := 7) (ret := (some .boolean)) (by decide) rfl ?_
  intro p e s m args below meth c s₁ B hml hv
  obtain ⟨rfl, aks, rfl, Wd⟩ := k_enter hv
  have C : CallFix p m c cX9_matches 7 s _ gG RX9 := ⟨B.exec, B.bytes, hml, findClass_of_methodNamed B.named, fun w h => atoms_spec (ws := Cond.code yX9_matches cX9_matches 7 (some .boolean) :: gG) B.pre w (List.mem_cons_of_mem _ h)⟩
  have hr := B.returns
  have hlk := B.notSynchronized
  generalize va_A (wK ad ca rf σ) s.heap.size = A at Wd ⊢
  replace Wd : wXK D ad ca rf s σ s.heap A s.heap [] := ⟨Wd, hS, hRF⟩
  refine k_locals (Nat.le_of_ble_eq_true rfl) [(0, .ref (ad (ruleC n0.toNat))), (1, .ref (ad (rowC x0.toNat))), (2, .int (zI x1))] rfl (fun ls hl => ?_)
  unfold wp5_U_matches at hw
  refine lv_aload_n C.1 C.2.1 dX9_matches_0 rfl (lv_at hl 1 rfl) ?_
  refine lv_iload_n C.1 C.2.1 dX9_matches_1 rfl (lv_at hl 2 rfl) ?_
  refine k_pi (k_runVK (rest := []) C aks Wd cs_X9_37 (mk_W_cell D ad ca rf σ Wd.2.1 Wd.2.2 x0 x1 g_x0 g_x1 _ hw l _) (cxRow g_x0) rfl rfl rfl rfl ⟨(Nat.le_of_ble_eq_true rfl), (Nat.le_of_ble_eq_true rfl)⟩ hl.1 rfl rfl (Nat.le_of_ble_eq_true rfl) ⟨(Nat.le_of_ble_eq_true rfl), (Nat.le_of_ble_eq_true rfl)⟩ dX9_matches_2) (fun y2 hy => ?_)
  obtain ⟨r2, rfl, g_r2, hw⟩ := hy
  refine k_pi (k_runS (rest := []) C aks Wd.1 cs_X9_48 (mk_W_isExpression D r2 g_r2 _ hw l _) [] rfl (by decide) [] rfl rfl rfl ⟨(Nat.le_of_ble_eq_true rfl), (Nat.le_of_ble_eq_true rfl)⟩ hl.1 rfl rfl (Nat.le_of_ble_eq_true rfl) ⟨(Nat.le_of_ble_eq_true rfl), (Nat.le_of_ble_eq_true rfl)⟩ dX9_matches_5) (fun y5 hy => ?_)
  obtain ⟨r5, rfl, g_r5, hw⟩ := hy
  refine lv_if_ne (tgt := 13) C.1 C.2.1 dX9_matches_8 (by decide) (fun c8 => ?_) (fun c8 => ?_)
  · have hw := hw.1 (z0_ne g_r5 c8)
    refine lv_iconst (v := zI 0) C.1 C.2.1 dX9_matches_13 (by decide) ?_
    refine lv_istore_n (lv' := [(3, .int (zI 0)), (0, .ref (ad (ruleC n0.toNat))), (1, .ref (ad (rowC x0.toNat))), (2, .int (zI x1))]) C.1 C.2.1 dX9_matches_14 rfl hl (by decide) rfl (fun ls hl => ?_)
    replace hl := lv_sub hl [1, 2, 3, 0] rfl
    refine k_lp2 hw (fun (l3_15 : Int) (σ15 : Sg) H locs ls => rng l3_15 ∧ wXK D ad ca rf s σ15 H A s.heap locs ∧ lv_has ls 7 [(0, .ref (ad (ruleC n0.toNat))), (1, .ref (ad (rowC x0.toNat))), (2, .int (zI x1)), (3, .int (zI l3_15))]) (fun (l3_15 : Int) (σ15 : Sg) ls => F0 m 15 ls []) (fun L15 hL15 l3_15 σ15 hw H locs ls hi => ?_) _ _ _ ⟨(show rng 0 from by decide), Wd, lv_sub hl [0, 1, 2, 3] rfl⟩
    obtain ⟨g_l3_15, Wd, hl⟩ := hi
    have hS_σ15 := Wd.2.1
    unfold wp5_U_matches_15 at hw
    refine lv_iload_n C.1 C.2.1 dX9_matches_15 rfl (lv_at hl 3 rfl) ?_
    refine lv_iconst (v := zI 3) C.1 C.2.1 dX9_matches_16 (by decide) ?_
    refine lv_icmp_ge (tgt := 40) C.1 C.2.1 dX9_matches_17 (by decide) (fun c17 => ?_) (fun c17 => ?_)
    · have hw := hw.1 (z_le (show rng 3 from by decide) g_l3_15 c17)
      refine lv_iload_n C.1 C.2.1 dX9_matches_40 rfl (lv_at hl 2 rfl) ?_
      refine lv_istore_n (lv' := [(3, .int (zI x1)), (0, .ref (ad (ruleC n0.toNat))), (1, .ref (ad (rowC x0.toNat))), (2, .int (zI x1))]) C.1 C.2.1 dX9_matches_41 rfl hl (by decide) rfl (fun ls hl => ?_)
      replace hl := lv_sub hl [1, 2, 3, 0] rfl
      refine lv_iconst (v := zI 0) C.1 C.2.1 dX9_matches_42 (by decide) ?_
      refine lv_istore (lv' := [(4, .int (zI 0)), (0, .ref (ad (ruleC n0.toNat))), (1, .ref (ad (rowC x0.toNat))), (2, .int (zI x1)), (3, .int (zI x1))]) C.1 C.2.1 dX9_matches_43 hl (by decide) rfl (fun ls hl => ?_)
      replace hl := lv_sub hl [1, 2, 3, 4, 0] rfl
      refine k_lp3 hw (fun (l3_45 : Int) (l4_45 : Int) (σ45 : Sg) H locs ls => rng l3_45 ∧ rng l4_45 ∧ wXK D ad ca rf s σ45 H A s.heap locs ∧ lv_has ls 7 [(0, .ref (ad (ruleC n0.toNat))), (1, .ref (ad (rowC x0.toNat))), (3, .int (zI l3_45)), (4, .int (zI l4_45))]) (fun (l3_45 : Int) (l4_45 : Int) (σ45 : Sg) ls => F0 m 45 ls []) (fun L45 hL45 l3_45 l4_45 σ45 hw H locs ls hi => ?_) _ _ _ ⟨g_x1, (show rng 0 from by decide), Wd, lv_sub hl [0, 1, 3, 4] rfl⟩
      obtain ⟨g_l3_45, g_l4_45, Wd, hl⟩ := hi
      have hS_σ45 := Wd.2.1
      unfold wp5_U_matches_45 at hw
      refine lv_iload C.1 C.2.1 dX9_matches_45 (lv_at hl 3 rfl) ?_
      refine lv_aload_n C.1 C.2.1 dX9_matches_47 rfl (lv_at hl 0 rfl) ?_
      have nr48 : 0 ≤ (11 + 2 * n0) ∧ (11 + 2 * n0) < 35 := by omega
      refine k_get (v := .ref (ad (rowC (11 + 2 * n0).toNat))) C Wd.1 KX9 _ 0 (cxRule h_n0) (by decide) fl_X9_14 rfl dX9_matches_48 ?_
      refine k_get (v := .int (zI (σ45.2.2.1 0 (11 + 2 * n0)))) C Wd.1 KX8 _ 1 (cxRow nr48) (by decide) fl_X9_34 rfl dX9_matches_51 ?_
      refine lv_icmp_ge (tgt := 136) C.1 C.2.1 dX9_matches_54 (by decide) (fun c54 => ?_) (fun c54 => ?_)
      · have hw := hw.1 (z_le (rgY hS_σ45 (N := 35) nr48) g_l4_45 c54)
        refine lv_iconst (v := zI 1) C.1 C.2.1 dX9_matches_136 (by decide) ?_
        exact k_retKi C hr hlk (by decide) Wd ⟨_, rfl, (show rng 1 from by decide), hw⟩ dX9_matches_137
      · have hw := hw.2 (z_nle (rgY hS_σ45 (N := 35) nr48) g_l4_45 c54)
        refine lv_aload_n C.1 C.2.1 dX9_matches_57 rfl (lv_at hl 0 rfl) ?_
        refine k_get (v := .ref (ad (rowC (11 + 2 * n0).toNat))) C Wd.1 KX9 _ 0 (cxRule h_n0) (by decide) fl_X9_14 rfl dX9_matches_58 ?_
        refine lv_iload C.1 C.2.1 dX9_matches_61 (lv_at hl 3 rfl) ?_
        refine k_pi (k_runVK (rest := []) C aks Wd cs_X9_37 (mk_W_cell D ad ca rf σ45 Wd.2.1 Wd.2.2 (11 + 2 * n0) l4_45 nr48 g_l4_45 _ hw l _) (cxRow nr48) rfl rfl rfl rfl ⟨(Nat.le_of_ble_eq_true rfl), (Nat.le_of_ble_eq_true rfl)⟩ hl.1 rfl rfl (Nat.le_of_ble_eq_true rfl) ⟨(Nat.le_of_ble_eq_true rfl), (Nat.le_of_ble_eq_true rfl)⟩ dX9_matches_63) (fun y63 hy => ?_)
        obtain ⟨r63, rfl, g_r63, hw⟩ := hy
        refine k_pi (k_runS (rest := []) C aks Wd.1 cs_X9_41 (mk_U_letterOf D r63 g_r63 _ hw l _) [] rfl (by decide) [] rfl rfl rfl ⟨(Nat.le_of_ble_eq_true rfl), (Nat.le_of_ble_eq_true rfl)⟩ hl.1 rfl rfl (Nat.le_of_ble_eq_true rfl) ⟨(Nat.le_of_ble_eq_true rfl), (Nat.le_of_ble_eq_true rfl)⟩ dX9_matches_66) (fun y66 hy => ?_)
        obtain ⟨r66, rfl, g_r66, hw⟩ := hy
        refine lv_istore (lv' := [(5, .int (zI r66)), (0, .ref (ad (ruleC n0.toNat))), (1, .ref (ad (rowC x0.toNat))), (3, .int (zI l3_45)), (4, .int (zI l4_45))]) C.1 C.2.1 dX9_matches_69 hl (by decide) rfl (fun ls hl => ?_)
        replace hl := lv_sub hl [1, 2, 3, 4, 0] rfl
        refine lv_iload C.1 C.2.1 dX9_matches_71 (lv_at hl 4 rfl) ?_
        refine lv_iconst (v := zI (-1)) C.1 C.2.1 dX9_matches_73 (by decide) ?_
        refine lv_icmp_eq (tgt := 105) C.1 C.2.1 dX9_matches_74 (by decide) (fun c74 => ?_) (fun c74 => ?_)
        · have hw := hw.1 (z_eq g_r66 (show rng (-1) from by decide) c74)
          refine lv_aload_n C.1 C.2.1 dX9_matches_105 rfl (lv_at hl 0 rfl) ?_
          refine k_get (v := .ref (ad (rowC (11 + 2 * n0).toNat))) C Wd.1 KX9 _ 0 (cxRule h_n0) (by decide) fl_X9_14 rfl dX9_matches_106 ?_
          refine lv_iload C.1 C.2.1 dX9_matches_109 (lv_at hl 3 rfl) ?_
          refine k_pi (k_runVK (rest := []) C aks Wd cs_X9_37 (mk_W_cell D ad ca rf σ45 Wd.2.1 Wd.2.2 (11 + 2 * n0) l4_45 nr48 g_l4_45 _ hw l _) (cxRow nr48) rfl rfl rfl rfl ⟨(Nat.le_of_ble_eq_true rfl), (Nat.le_of_ble_eq_true rfl)⟩ hl.1 rfl rfl (Nat.le_of_ble_eq_true rfl) ⟨(Nat.le_of_ble_eq_true rfl), (Nat.le_of_ble_eq_true rfl)⟩ dX9_matches_111) (fun y111 hy => ?_)
          obtain ⟨r111, rfl, g_r111, hw⟩ := hy
          refine lv_aload_n C.1 C.2.1 dX9_matches_114 rfl (lv_at hl 1 rfl) ?_
          refine lv_iload_n C.1 C.2.1 dX9_matches_115 rfl (lv_at hl 2 rfl) ?_
          refine k_pi (k_runVK (rest := [.int (zI r111)]) C aks Wd cs_X9_37 (mk_W_cell D ad ca rf σ45 Wd.2.1 Wd.2.2 x0 l3_45 g_x0 g_l3_45 _ hw l _) (cxRow g_x0) rfl rfl rfl rfl ⟨(Nat.le_of_ble_eq_true rfl), (Nat.le_of_ble_eq_true rfl)⟩ hl.1 rfl rfl (Nat.le_of_ble_eq_true rfl) ⟨(Nat.le_of_ble_eq_true rfl), (Nat.le_of_ble_eq_true rfl)⟩ dX9_matches_116) (fun y116 hy => ?_)
          obtain ⟨r116, rfl, g_r116, hw⟩ := hy
          refine lv_icmp_ne (tgt := 128) C.1 C.2.1 dX9_matches_119 (by decide) (fun c119 => ?_) (fun c119 => ?_)
          · have hw := hw.1 (z_ne g_r111 g_r116 c119)
            refine lv_iconst (v := zI 0) C.1 C.2.1 dX9_matches_128 (by decide) ?_
            exact k_retKi C hr hlk (by decide) Wd ⟨_, rfl, (show rng 0 from by decide), hw⟩ dX9_matches_129
          · have hw := hw.2 (z_eq g_r111 g_r116 c119)
            refine lv_iinc (v := zI (l3_45 + 1)) (lv' := [(3, .int (zI (l3_45 + 1))), (0, .ref (ad (ruleC n0.toNat))), (1, .ref (ad (rowC x0.toNat))), (4, .int (zI l4_45)), (5, .int (zI r66))]) C.1 C.2.1 dX9_matches_122 hl (k := 2) rfl (zI_inc _ _ (by decide)) (by decide) rfl (fun ls hl => ?_)
            replace hl := lv_sub hl [1, 2, 0, 3, 4] rfl
            refine lv_goto (tgt := 130) C.1 C.2.1 dX9_matches_125 (by decide) ?_
            refine lv_iinc (v := zI (l4_45 + 1)) (lv' := [(4, .int (zI (l4_45 + 1))), (0, .ref (ad (ruleC n0.toNat))), (1, .ref (ad (rowC x0.toNat))), (3, .int (zI (l3_45 + 1))), (5, .int (zI r66))]) C.1 C.2.1 dX9_matches_130 hl (k := 3) rfl (zI_inc _ _ (by decide)) (by decide) rfl (fun ls hl => ?_)
            replace hl := lv_sub hl [1, 2, 3, 0, 4] rfl
            refine lv_goto (tgt := 45) C.1 C.2.1 dX9_matches_133 (by decide) ?_
            obtain ⟨g133_8, hw⟩ := hw
            obtain ⟨g133_9, hw⟩ := hw
            exact hL45 _ _ _ hw _ _ _ ⟨g133_8, g133_9, Wd, lv_sub hl [0, 1, 2, 3] rfl⟩
        · have hw := hw.2 (z_ne g_r66 (show rng (-1) from by decide) c74)
          refine lv_aload_n C.1 C.2.1 dX9_matches_77 rfl (lv_at hl 1 rfl) ?_
          refine lv_iload_n C.1 C.2.1 dX9_matches_78 rfl (lv_at hl 2 rfl) ?_
          refine k_pi (k_runVK (rest := []) C aks Wd cs_X9_52 (mk_W_expressionEnd D ad ca rf σ45 Wd.2.1 Wd.2.2 x0 l3_45 g_x0 g_l3_45 _ hw l _) (cxRow g_x0) rfl rfl rfl rfl ⟨(Nat.le_of_ble_eq_true rfl), (Nat.le_of_ble_eq_true rfl)⟩ hl.1 rfl rfl (Nat.le_of_ble_eq_true rfl) ⟨(Nat.le_of_ble_eq_true rfl), (Nat.le_of_ble_eq_true rfl)⟩ dX9_matches_79) (fun y79 hy => ?_)
          obtain ⟨r79, rfl, g_r79, hw⟩ := hy
          refine lv_istore (lv' := [(6, .int (zI r79)), (0, .ref (ad (ruleC n0.toNat))), (1, .ref (ad (rowC x0.toNat))), (3, .int (zI l3_45)), (4, .int (zI l4_45)), (5, .int (zI r66))]) C.1 C.2.1 dX9_matches_82 hl (by decide) rfl (fun ls hl => ?_)
          replace hl := lv_sub hl [1, 2, 3, 4, 5, 0] rfl
          refine lv_aload_n C.1 C.2.1 dX9_matches_84 rfl (lv_at hl 0 rfl) ?_
          refine lv_aload_n C.1 C.2.1 dX9_matches_85 rfl (lv_at hl 1 rfl) ?_
          refine lv_iload C.1 C.2.1 dX9_matches_86 (lv_at hl 4 rfl) ?_
          refine lv_iload_n C.1 C.2.1 dX9_matches_88 rfl (lv_at hl 2 rfl) ?_
          refine lv_iload C.1 C.2.1 dX9_matches_89 (lv_at hl 5 rfl) ?_
          refine k_cKi Wd (k_runVK (rest := []) C aks Wd cs_X9_55 (mk_U_bind D ad ca rf σ45 Wd.2.1 Wd.2.2 n0 x0 r66 l3_45 r79 h_n0 g_x0 g_r66 g_l3_45 g_r79 _ hw l _) (cxRule h_n0) rfl rfl rfl rfl ⟨(Nat.le_of_ble_eq_true rfl), (Nat.le_of_ble_eq_true rfl)⟩ hl.1 rfl rfl (Nat.le_of_ble_eq_true rfl) ⟨(Nat.le_of_ble_eq_true rfl), (Nat.le_of_ble_eq_true rfl)⟩ dX9_matches_91) (fun r91 σr91 H locs g_r91 hw Wd => ?_)
          have hS_σr91 := Wd.2.1
          refine lv_if_ne (tgt := 99) C.1 C.2.1 dX9_matches_94 (by decide) (fun c94 => ?_) (fun c94 => ?_)
          · have hw := hw.1 (z0_ne g_r91 c94)
            refine lv_iload C.1 C.2.1 dX9_matches_99 (lv_at hl 5 rfl) ?_
            refine lv_istore_n (lv' := [(3, .int (zI r79)), (0, .ref (ad (ruleC n0.toNat))), (1, .ref (ad (rowC x0.toNat))), (4, .int (zI l4_45)), (5, .int (zI r66)), (6, .int (zI r79))]) C.1 C.2.1 dX9_matches_101 rfl hl (by decide) rfl (fun ls hl => ?_)
            replace hl := lv_sub hl [1, 2, 0, 3, 4, 5] rfl
            refine lv_goto (tgt := 130) C.1 C.2.1 dX9_matches_102 (by decide) ?_
            refine lv_iinc (v := zI (l4_45 + 1)) (lv' := [(4, .int (zI (l4_45 + 1))), (0, .ref (ad (ruleC n0.toNat))), (1, .ref (ad (rowC x0.toNat))), (3, .int (zI r79)), (5, .int (zI r66)), (6, .int (zI r79))]) C.1 C.2.1 dX9_matches_130 hl (k := 3) rfl (zI_inc _ _ (by decide)) (by decide) rfl (fun ls hl => ?_)
            replace hl := lv_sub hl [1, 2, 3, 0, 4, 5] rfl
            refine lv_goto (tgt := 45) C.1 C.2.1 dX9_matches_133 (by decide) ?_
            obtain ⟨g133_10, hw⟩ := hw
            exact hL45 _ _ _ hw _ _ _ ⟨g_r79, g133_10, Wd, lv_sub hl [0, 1, 2, 3] rfl⟩
          · have hw := hw.2 (z0_eq g_r91 c94)
            refine lv_iconst (v := zI 0) C.1 C.2.1 dX9_matches_97 (by decide) ?_
            exact k_retKi C hr hlk (by decide) Wd ⟨_, rfl, (show rng 0 from by decide), hw⟩ dX9_matches_98
    · have hw := hw.2 (z_nle (show rng 3 from by decide) g_l3_15 c17)
      refine lv_aload_n C.1 C.2.1 dX9_matches_20 rfl (lv_at hl 0 rfl) ?_
      refine k_get (v := .ref (ad ((ruleC n0.toNat) + 5))) C Wd.1 KX9 _ 3 (cxRule h_n0) (by decide) fl_X9_23 rfl dX9_matches_21 ?_
      refine lv_iload_n C.1 C.2.1 dX9_matches_24 rfl (lv_at hl 3 rfl) ?_
      refine lv_iconst (v := zI (-1)) C.1 C.2.1 dX9_matches_25 (by decide) ?_
      obtain ⟨n26_0, hw⟩ := hw
      refine k_iastU5 (n := n0) (g := (σ15.2.2.2 2 n0)) (i := l3_15) (v := (-1)) C Wd h_n0 rfl n26_0 (ruZ (rgZ (c := 2) Wd.2.1 h_n0) (show rng (-1) from by decide)) dX9_matches_26 (fun H locs Wd => ?_)
      refine lv_aload_n C.1 C.2.1 dX9_matches_27 rfl (lv_at hl 0 rfl) ?_
      refine k_get (v := .ref (ad ((ruleC n0.toNat) + 6))) C Wd.1 KX9 _ 4 (cxRule h_n0) (by decide) fl_X9_27 rfl dX9_matches_28 ?_
      refine lv_iload_n C.1 C.2.1 dX9_matches_31 rfl (lv_at hl 3 rfl) ?_
      refine lv_iconst (v := zI (-1)) C.1 C.2.1 dX9_matches_32 (by decide) ?_
      refine k_iastU6 (n := n0) (g := (σ15.2.2.2 3 n0)) (i := l3_15) (v := (-1)) C Wd h_n0 rfl n26_0 (ruZ (rgZ (c := 3) Wd.2.1 h_n0) (show rng (-1) from by decide)) dX9_matches_33 (fun H locs Wd => ?_)
      refine lv_iinc (v := zI (l3_15 + 1)) (lv' := [(3, .int (zI (l3_15 + 1))), (0, .ref (ad (ruleC n0.toNat))), (1, .ref (ad (rowC x0.toNat))), (2, .int (zI x1))]) C.1 C.2.1 dX9_matches_34 hl (k := 3) rfl (zI_inc _ _ (by decide)) (by decide) rfl (fun ls hl => ?_)
      replace hl := lv_sub hl [1, 2, 3, 0] rfl
      refine lv_goto (tgt := 15) C.1 C.2.1 dX9_matches_37 (by decide) ?_
      obtain ⟨g37_11, hw⟩ := hw
      exact hL15 _ _ hw _ _ _ ⟨g37_11, Wd, lv_sub hl [0, 1, 2, 3] rfl⟩
  · have hw := hw.2 (z0_eq g_r5 c8)
    refine lv_iconst (v := zI 0) C.1 C.2.1 dX9_matches_11 (by decide) ?_
    exact k_retKi C hr hlk (by decide) Wd ⟨_, rfl, (show rng 0 from by decide), hw⟩ dX9_matches_12
set_option maxHeartbeats 4000000 in
set_option maxRecDepth 100000 in
theorem mk_U_countIn : ∀ (D : va_G) (ad : Nat → Nat) (ca : Nat → ClassId) (rf : Nat → Nat → Option Nat) (σ : Sg) (hS : rngK σ) (hRF : RFok ad rf) (n0 : Int) (x0 : Int) (h_n0 : 0 ≤ n0 ∧ n0 < 12) (g_x0 : 0 ≤ x0 ∧ x0 < 35) (K : Int → Sg → Prop) (hw : wp5_U_countIn σ n0 x0 K) (l : Launch) (sz : Nat), Met l yX9_countIn (Cond.code yX9_countIn cX9_countIn 4 (some .int) :: gG) { frames := 4, cells := 0, slots := 0, locals := 145 } (cPre D (tC ca) (wK ad ca rf σ) sz [.ref (ad (ruleC n0.toNat)), .ref (ad (rowC x0.toNat))]) (va_Qi (fun (r : Int32) (u : Sg) => (∃ x : Int, r = zI x ∧ rng x ∧ K x u) ∧ rngK u) (fun u t => cB D (va_A (wK ad ca rf σ) sz) [] (wK ad ca rf u) t) (va_A (wK ad ca rf σ) sz)) 0 0 (va_A (wK ad ca rf σ) sz) := by
  intro D ad ca rf σ hS hRF n0 x0 h_n0 g_x0 K hw l sz
  refine Met.ofW (cc := cX9_countIn) (maxL := 4) (ret := (some .int)) (by decide) rfl ?_
  intro p e s m args below meth c s₁ B hml hv
  obtain ⟨rfl, aks, rfl, Wd⟩ := k_enter hv
  have C : CallFix p m c cX9_countIn 4 s _ gG RX9 := ⟨B.exec, B.bytes, hml, findClass_of_methodNamed B.named, fun w h => atoms_spec (ws := Cond.code yX9_countIn cX9_countIn 4 (some .int) :: gG) B.pre w (List.mem_cons_of_mem _ h)⟩
  have hr := B.returns
  have hlk := B.notSynchronized
  generalize va_A (wK ad ca rf σ) s.heap.size = A at Wd ⊢
  replace Wd : wXK D ad ca rf s σ s.heap A s.heap [] := ⟨Wd, hS, hRF⟩
  refine k_locals (Nat.le_of_ble_eq_true rfl) [(0, .ref (ad (ruleC n0.toNat))), (1, .ref (ad (rowC x0.toNat)))] rfl (fun ls hl => ?_)
  unfold wp5_U_countIn at hw
  refine lv_iconst (v := zI 0) C.1 C.2.1 dX9_countIn_0 (by decide) ?_
  refine lv_istore_n (lv' := [(2, .int (zI 0)), (0, .ref (ad (ruleC n0.toNat))), (1, .ref (ad (rowC x0.toNat)))]) C.1 C.2.1 dX9_countIn_1 rfl hl (by decide) rfl (fun ls hl => ?_)
  replace hl := lv_sub hl [1, 2, 0] rfl
  refine lv_iconst (v := zI 0) C.1 C.2.1 dX9_countIn_2 (by decide) ?_
  refine lv_istore_n (lv' := [(3, .int (zI 0)), (0, .ref (ad (ruleC n0.toNat))), (1, .ref (ad (rowC x0.toNat))), (2, .int (zI 0))]) C.1 C.2.1 dX9_countIn_3 rfl hl (by decide) rfl (fun ls hl => ?_)
  replace hl := lv_sub hl [1, 2, 3, 0] rfl
  refine k_lp3 hw (fun (l2_4 : Int) (l3_4 : Int) (σ4 : Sg) H locs ls => rng l2_4 ∧ rng l3_4 ∧ wXK D ad ca rf s σ4 H A s.heap locs ∧ lv_has ls 4 [(0, .ref (ad (ruleC n0.toNat))), (1, .ref (ad (rowC x0.toNat))), (2, .int (zI l2_4)), (3, .int (zI l3_4))]) (fun (l2_4 : Int) (l3_4 : Int) (σ4 : Sg) ls => F0 m 4 ls []) (fun L4 hL4 l2_4 l3_4 σ4 hw H locs ls hi => ?_) _ _ _ ⟨(show rng 0 from by decide), (show rng 0 from by decide), Wd, lv_sub hl [0, 1, 2, 3] rfl⟩
  obtain ⟨g_l2_4, g_l3_4, Wd, hl⟩ := hi
  have hS_σ4 := Wd.2.1
  unfold wp5_U_countIn_4 at hw
  refine lv_iload_n C.1 C.2.1 dX9_countIn_4 rfl (lv_at hl 3 rfl) ?_
  refine lv_aload_n C.1 C.2.1 dX9_countIn_5 rfl (lv_at hl 1 rfl) ?_
  refine k_get (v := .int (zI (σ4.2.2.1 0 x0))) C Wd.1 KX8 _ 1 (cxRow g_x0) (by decide) fl_X9_34 rfl dX9_countIn_6 ?_
  refine lv_icmp_ge (tgt := 30) C.1 C.2.1 dX9_countIn_9 (by decide) (fun c9 => ?_) (fun c9 => ?_)
  · have hw := hw.1 (z_le (rgY hS_σ4 (N := 35) g_x0) g_l3_4 c9)
    refine lv_iload_n C.1 C.2.1 dX9_countIn_30 rfl (lv_at hl 2 rfl) ?_
    exact k_retKi C hr hlk rfl Wd ⟨_, rfl, g_l2_4, hw⟩ dX9_countIn_31
  · have hw := hw.2 (z_nle (rgY hS_σ4 (N := 35) g_x0) g_l3_4 c9)
    refine lv_aload_n C.1 C.2.1 dX9_countIn_12 rfl (lv_at hl 0 rfl) ?_
    refine lv_aload_n C.1 C.2.1 dX9_countIn_13 rfl (lv_at hl 1 rfl) ?_
    refine lv_iload_n C.1 C.2.1 dX9_countIn_14 rfl (lv_at hl 3 rfl) ?_
    refine k_cKi Wd (k_runVK (rest := []) C aks Wd cs_X9_44 (mk_U_matches D ad ca rf σ4 Wd.2.1 Wd.2.2 n0 x0 l3_4 h_n0 g_x0 g_l3_4 _ hw l _) (cxRule h_n0) rfl rfl rfl rfl ⟨(Nat.le_of_ble_eq_true rfl), (Nat.le_of_ble_eq_true rfl)⟩ hl.1 rfl rfl (Nat.le_of_ble_eq_true rfl) ⟨(Nat.le_of_ble_eq_true rfl), (Nat.le_of_ble_eq_true rfl)⟩ dX9_countIn_15) (fun r15 σr15 H locs g_r15 hw Wd => ?_)
    have hS_σr15 := Wd.2.1
    refine lv_if_eq (tgt := 24) C.1 C.2.1 dX9_countIn_18 (by decide) (fun c18 => ?_) (fun c18 => ?_)
    · have hw := hw.1 (z0_eq g_r15 c18)
      refine lv_iinc (v := zI (l3_4 + 1)) (lv' := [(3, .int (zI (l3_4 + 1))), (0, .ref (ad (ruleC n0.toNat))), (1, .ref (ad (rowC x0.toNat))), (2, .int (zI l2_4))]) C.1 C.2.1 dX9_countIn_24 hl (k := 3) rfl (zI_inc _ _ (by decide)) (by decide) rfl (fun ls hl => ?_)
      replace hl := lv_sub hl [1, 2, 3, 0] rfl
      refine lv_goto (tgt := 4) C.1 C.2.1 dX9_countIn_27 (by decide) ?_
      obtain ⟨g27_4, hw⟩ := hw
      exact hL4 _ _ _ hw _ _ _ ⟨g_l2_4, g27_4, Wd, lv_sub hl [0, 1, 2, 3] rfl⟩
    · have hw := hw.2 (z0_ne g_r15 c18)
      refine lv_iinc (v := zI (l2_4 + 1)) (lv' := [(2, .int (zI (l2_4 + 1))), (0, .ref (ad (ruleC n0.toNat))), (1, .ref (ad (rowC x0.toNat))), (3, .int (zI l3_4))]) C.1 C.2.1 dX9_countIn_21 hl (k := 2) rfl (zI_inc _ _ (by decide)) (by decide) rfl (fun ls hl => ?_)
      replace hl := lv_sub hl [1, 2, 0, 3] rfl
      refine lv_iinc (v := zI (l3_4 + 1)) (lv' := [(3, .int (zI (l3_4 + 1))), (0, .ref (ad (ruleC n0.toNat))), (1, .ref (ad (rowC x0.toNat))), (2, .int (zI (l2_4 + 1)))]) C.1 C.2.1 dX9_countIn_24 hl (k := 3) rfl (zI_inc _ _ (by decide)) (by decide) rfl (fun ls hl => ?_)
      replace hl := lv_sub hl [1, 2, 3, 0] rfl
      refine lv_goto (tgt := 4) C.1 C.2.1 dX9_countIn_27 (by decide) ?_
      obtain ⟨g27_5, hw⟩ := hw
      obtain ⟨g27_6, hw⟩ := hw
      exact hL4 _ _ _ hw _ _ _ ⟨g27_5, g27_6, Wd, lv_sub hl [0, 1, 2, 3] rfl⟩
set_option maxHeartbeats 4000000 in
set_option maxRecDepth 100000 in
theorem mk_S_places : ∀ (D : va_G) (ad : Nat → Nat) (ca : Nat → ClassId) (rf : Nat → Nat → Option Nat) (σ : Sg) (hS : rngK σ) (hRF : RFok ad rf) (x0 : Int) (x1 : Int) (g_x0 : rng x0) (g_x1 : rng x1) (K : Int → Sg → Prop) (hw : wp5_S_places σ x0 x1 K) (l : Launch) (sz : Nat), Met l yX11_places (Cond.code yX11_places cX11_places 5 (some .int) :: gG) { frames := 5, cells := 0, slots := 0, locals := 168 } (cPre D (tC ca) (wK ad ca rf σ) sz [.ref (ad 0), .int (zI x0), .int (zI x1)]) (va_Qi (fun (r : Int32) (u : Sg) => (∃ x : Int, r = zI x ∧ rng x ∧ K x u) ∧ rngK u) (fun u t => cB D (va_A (wK ad ca rf σ) sz) [] (wK ad ca rf u) t) (va_A (wK ad ca rf σ) sz)) 0 0 (va_A (wK ad ca rf σ) sz) := by
  intro D ad ca rf σ hS hRF x0 x1 g_x0 g_x1 K hw l sz
  refine Met.ofW (cc := cX11_places) (maxL := 5) (ret := (some .int)) (by decide) rfl ?_
  intro p e s m args below meth c s₁ B hml hv
  obtain ⟨rfl, aks, rfl, Wd⟩ := k_enter hv
  have C : CallFix p m c cX11_places 5 s _ gG RX11 := ⟨B.exec, B.bytes, hml, findClass_of_methodNamed B.named, fun w h => atoms_spec (ws := Cond.code yX11_places cX11_places 5 (some .int) :: gG) B.pre w (List.mem_cons_of_mem _ h)⟩
  have hr := B.returns
  have hlk := B.notSynchronized
  generalize va_A (wK ad ca rf σ) s.heap.size = A at Wd ⊢
  replace Wd : wXK D ad ca rf s σ s.heap A s.heap [] := ⟨Wd, hS, hRF⟩
  refine k_locals (Nat.le_of_ble_eq_true rfl) [(0, .ref (ad 0)), (1, .int (zI x0)), (2, .int (zI x1))] rfl (fun ls hl => ?_)
  unfold wp5_S_places at hw
  refine lv_aload_n C.1 C.2.1 dX11_places_0 rfl (lv_at hl 0 rfl) ?_
  refine lv_iload_n C.1 C.2.1 dX11_places_1 rfl (lv_at hl 1 rfl) ?_
  refine k_pq (k_runVK (rest := []) C aks Wd cs_X11_165 (mk_S_ruleAt D ad ca rf σ Wd.2.1 Wd.2.2 x0 g_x0 _ hw l _) (cx0 _) rfl rfl rfl rfl ⟨(Nat.le_of_ble_eq_true rfl), (Nat.le_of_ble_eq_true rfl)⟩ hl.1 rfl rfl (Nat.le_of_ble_eq_true rfl) ⟨(Nat.le_of_ble_eq_true rfl), (Nat.le_of_ble_eq_true rfl)⟩ dX11_places_2) (fun y2 hy => ?_)
  obtain ⟨r2, rfl, hw⟩ := hy
  by_cases c2 : r2 < 0
  · have hw := hw.1 c2
    rw [rfO_null c2]
    show W p l e _ s m _ below meth c _ _ _ _ _ (F0 m _ ls (.null :: []))
    refine lv_astore_nN (lv' := [(3, .null), (0, .ref (ad 0)), (1, .int (zI x0)), (2, .int (zI x1))]) C.1 C.2.1 dX11_places_5 rfl hl (by decide) rfl (fun ls hl => ?_)
    replace hl := lv_sub hl [1, 2, 3, 0] rfl
    refine lv_aload_n C.1 C.2.1 dX11_places_6 rfl (lv_at hl 0 rfl) ?_
    refine lv_iload_n C.1 C.2.1 dX11_places_7 rfl (lv_at hl 2 rfl) ?_
    refine k_pq (k_runVK (rest := []) C aks Wd cs_X11_77 (mk_S_slotAt D ad ca rf σ Wd.2.1 Wd.2.2 x1 g_x1 _ hw l _) (cx0 _) rfl rfl rfl rfl ⟨(Nat.le_of_ble_eq_true rfl), (Nat.le_of_ble_eq_true rfl)⟩ hl.1 rfl rfl (Nat.le_of_ble_eq_true rfl) ⟨(Nat.le_of_ble_eq_true rfl), (Nat.le_of_ble_eq_true rfl)⟩ dX11_places_8) (fun y8 hy => ?_)
    obtain ⟨r8, rfl, hw⟩ := hy
    by_cases c8 : r8 < 0
    · have hw := hw.1 c8
      rw [rfO_null c8]
      show W p l e _ s m _ below meth c _ _ _ _ _ (F0 m _ ls (.null :: []))
      refine lv_astoreN (lv' := [(4, .null), (0, .ref (ad 0)), (1, .int (zI x0)), (2, .int (zI x1)), (3, .null)]) C.1 C.2.1 dX11_places_11 hl (by decide) rfl (fun ls hl => ?_)
      replace hl := lv_sub hl [1, 2, 3, 4, 0] rfl
      refine lv_aload_nN C.1 C.2.1 dX11_places_13 rfl (lv_at hl 3 rfl) ?_
      refine lv_ifnullN (tgt := 22) C.1 C.2.1 dX11_places_14 (by decide) ?_
      refine lv_iconst (v := zI (-1)) C.1 C.2.1 dX11_places_22 (by decide) ?_
      refine lv_goto (tgt := 32) C.1 C.2.1 dX11_places_23 (by decide) ?_
      exact k_retKi C hr hlk rfl Wd ⟨_, rfl, (show rng (-1) from by decide), hw⟩ dX11_places_32
    · have hw := hw.2 (Int.not_lt.mp c8)
      rw [rfO_nn (Int.not_lt.mp c8)]
      obtain ⟨n8_0, hw⟩ := hw
      show W p l e _ s m _ below meth c _ _ _ _ _ (F0 m _ ls (.ref (ad (rowC r8.toNat)) :: []))
      refine lv_astore (lv' := [(4, .ref (ad (rowC r8.toNat))), (0, .ref (ad 0)), (1, .int (zI x0)), (2, .int (zI x1)), (3, .null)]) C.1 C.2.1 dX11_places_11 hl (by decide) rfl (fun ls hl => ?_)
      replace hl := lv_sub hl [1, 2, 3, 4, 0] rfl
      refine lv_aload_nN C.1 C.2.1 dX11_places_13 rfl (lv_at hl 3 rfl) ?_
      refine lv_ifnullN (tgt := 22) C.1 C.2.1 dX11_places_14 (by decide) ?_
      refine lv_iconst (v := zI (-1)) C.1 C.2.1 dX11_places_22 (by decide) ?_
      refine lv_goto (tgt := 32) C.1 C.2.1 dX11_places_23 (by decide) ?_
      exact k_retKi C hr hlk rfl Wd ⟨_, rfl, (show rng (-1) from by decide), hw⟩ dX11_places_32
  · have hw := hw.2 (Int.not_lt.mp c2)
    rw [rfO_nn (Int.not_lt.mp c2)]
    obtain ⟨n2_0, hw⟩ := hw
    show W p l e _ s m _ below meth c _ _ _ _ _ (F0 m _ ls (.ref (ad (ruleC r2.toNat)) :: []))
    refine lv_astore_n (lv' := [(3, .ref (ad (ruleC r2.toNat))), (0, .ref (ad 0)), (1, .int (zI x0)), (2, .int (zI x1))]) C.1 C.2.1 dX11_places_5 rfl hl (by decide) rfl (fun ls hl => ?_)
    replace hl := lv_sub hl [1, 2, 3, 0] rfl
    refine lv_aload_n C.1 C.2.1 dX11_places_6 rfl (lv_at hl 0 rfl) ?_
    refine lv_iload_n C.1 C.2.1 dX11_places_7 rfl (lv_at hl 2 rfl) ?_
    refine k_pq (k_runVK (rest := []) C aks Wd cs_X11_77 (mk_S_slotAt D ad ca rf σ Wd.2.1 Wd.2.2 x1 g_x1 _ hw l _) (cx0 _) rfl rfl rfl rfl ⟨(Nat.le_of_ble_eq_true rfl), (Nat.le_of_ble_eq_true rfl)⟩ hl.1 rfl rfl (Nat.le_of_ble_eq_true rfl) ⟨(Nat.le_of_ble_eq_true rfl), (Nat.le_of_ble_eq_true rfl)⟩ dX11_places_8) (fun y8 hy => ?_)
    obtain ⟨r8, rfl, hw⟩ := hy
    by_cases c8 : r8 < 0
    · have hw := hw.1 c8
      rw [rfO_null c8]
      show W p l e _ s m _ below meth c _ _ _ _ _ (F0 m _ ls (.null :: []))
      refine lv_astoreN (lv' := [(4, .null), (0, .ref (ad 0)), (1, .int (zI x0)), (2, .int (zI x1)), (3, .ref (ad (ruleC r2.toNat)))]) C.1 C.2.1 dX11_places_11 hl (by decide) rfl (fun ls hl => ?_)
      replace hl := lv_sub hl [1, 2, 3, 4, 0] rfl
      refine lv_aload_n C.1 C.2.1 dX11_places_13 rfl (lv_at hl 3 rfl) ?_
      refine lv_ifnull C.1 C.2.1 dX11_places_14 ?_
      refine lv_aloadN C.1 C.2.1 dX11_places_17 (lv_at hl 4 rfl) ?_
      refine lv_ifnonnullN C.1 C.2.1 dX11_places_19 ?_
      refine lv_iconst (v := zI (-1)) C.1 C.2.1 dX11_places_22 (by decide) ?_
      refine lv_goto (tgt := 32) C.1 C.2.1 dX11_places_23 (by decide) ?_
      exact k_retKi C hr hlk rfl Wd ⟨_, rfl, (show rng (-1) from by decide), hw⟩ dX11_places_32
    · have hw := hw.2 (Int.not_lt.mp c8)
      rw [rfO_nn (Int.not_lt.mp c8)]
      obtain ⟨n8_0, hw⟩ := hw
      show W p l e _ s m _ below meth c _ _ _ _ _ (F0 m _ ls (.ref (ad (rowC r8.toNat)) :: []))
      refine lv_astore (lv' := [(4, .ref (ad (rowC r8.toNat))), (0, .ref (ad 0)), (1, .int (zI x0)), (2, .int (zI x1)), (3, .ref (ad (ruleC r2.toNat)))]) C.1 C.2.1 dX11_places_11 hl (by decide) rfl (fun ls hl => ?_)
      replace hl := lv_sub hl [1, 2, 3, 4, 0] rfl
      refine lv_aload_n C.1 C.2.1 dX11_places_13 rfl (lv_at hl 3 rfl) ?_
      refine lv_ifnull C.1 C.2.1 dX11_places_14 ?_
      refine lv_aload C.1 C.2.1 dX11_places_17 (lv_at hl 4 rfl) ?_
      refine lv_ifnonnull (tgt := 26) C.1 C.2.1 dX11_places_19 (by decide) ?_
      refine lv_aload_n C.1 C.2.1 dX11_places_26 rfl (lv_at hl 3 rfl) ?_
      refine lv_aload C.1 C.2.1 dX11_places_27 (lv_at hl 4 rfl) ?_
      refine k_cKi Wd (k_runVK (rest := []) C aks Wd cs_X11_177 (mk_U_countIn D ad ca rf σ Wd.2.1 Wd.2.2 r2 r8 n2_0 n8_0 _ hw l _) (cxRule n2_0) rfl rfl rfl rfl ⟨(Nat.le_of_ble_eq_true rfl), (Nat.le_of_ble_eq_true rfl)⟩ hl.1 rfl rfl (Nat.le_of_ble_eq_true rfl) ⟨(Nat.le_of_ble_eq_true rfl), (Nat.le_of_ble_eq_true rfl)⟩ dX11_places_29) (fun r29 σr29 H locs g_r29 hw Wd => ?_)
      have hS_σr29 := Wd.2.1
      exact k_retKi C hr hlk rfl Wd ⟨_, rfl, g_r29, hw⟩ dX11_places_32
set_option maxHeartbeats 4000000 in
set_option maxRecDepth 100000 in
theorem mk_U_placeIn : ∀ (D : va_G) (ad : Nat → Nat) (ca : Nat → ClassId) (rf : Nat → Nat → Option Nat) (σ : Sg) (hS : rngK σ) (hRF : RFok ad rf) (n0 : Int) (x0 : Int) (x1 : Int) (h_n0 : 0 ≤ n0 ∧ n0 < 12) (g_x0 : 0 ≤ x0 ∧ x0 < 35) (g_x1 : rng x1) (K : Int → Sg → Prop) (hw : wp5_U_placeIn σ n0 x0 x1 K) (l : Launch) (sz : Nat), Met l yX9_placeIn (Cond.code yX9_placeIn cX9_placeIn 5 (some .int) :: gG) { frames := 4, cells := 0, slots := 0, locals := 145 } (cPre D (tC ca) (wK ad ca rf σ) sz [.ref (ad (ruleC n0.toNat)), .ref (ad (rowC x0.toNat)), .int (zI x1)]) (va_Qi (fun (r : Int32) (u : Sg) => (∃ x : Int, r = zI x ∧ rng x ∧ K x u) ∧ rngK u) (fun u t => cB D (va_A (wK ad ca rf σ) sz) [] (wK ad ca rf u) t) (va_A (wK ad ca rf σ) sz)) 0 0 (va_A (wK ad ca rf σ) sz) := by
  intro D ad ca rf σ hS hRF n0 x0 x1 h_n0 g_x0 g_x1 K hw l sz
  refine Met.ofW (cc := cX9_placeIn) (maxL := 5) (ret := (some .int)) (by decide) rfl ?_
  intro p e s m args below meth c s₁ B hml hv
  obtain ⟨rfl, aks, rfl, Wd⟩ := k_enter hv
  have C : CallFix p m c cX9_placeIn 5 s _ gG RX9 := ⟨B.exec, B.bytes, hml, findClass_of_methodNamed B.named, fun w h => atoms_spec (ws := Cond.code yX9_placeIn cX9_placeIn 5 (some .int) :: gG) B.pre w (List.mem_cons_of_mem _ h)⟩
  have hr := B.returns
  have hlk := B.notSynchronized
  generalize va_A (wK ad ca rf σ) s.heap.size = A at Wd ⊢
  replace Wd : wXK D ad ca rf s σ s.heap A s.heap [] := ⟨Wd, hS, hRF⟩
  refine k_locals (Nat.le_of_ble_eq_true rfl) [(0, .ref (ad (ruleC n0.toNat))), (1, .ref (ad (rowC x0.toNat))), (2, .int (zI x1))] rfl (fun ls hl => ?_)
  unfold wp5_U_placeIn at hw
  refine lv_iconst (v := zI 0) C.1 C.2.1 dX9_placeIn_0 (by decide) ?_
  refine lv_istore_n (lv' := [(3, .int (zI 0)), (0, .ref (ad (ruleC n0.toNat))), (1, .ref (ad (rowC x0.toNat))), (2, .int (zI x1))]) C.1 C.2.1 dX9_placeIn_1 rfl hl (by decide) rfl (fun ls hl => ?_)
  replace hl := lv_sub hl [1, 2, 3, 0] rfl
  refine lv_iconst (v := zI 0) C.1 C.2.1 dX9_placeIn_2 (by decide) ?_
  refine lv_istore (lv' := [(4, .int (zI 0)), (0, .ref (ad (ruleC n0.toNat))), (1, .ref (ad (rowC x0.toNat))), (2, .int (zI x1)), (3, .int (zI 0))]) C.1 C.2.1 dX9_placeIn_3 hl (by decide) rfl (fun ls hl => ?_)
  replace hl := lv_sub hl [1, 2, 3, 4, 0] rfl
  refine k_lp3 hw (fun (l3_5 : Int) (l4_5 : Int) (σ5 : Sg) H locs ls => rng l3_5 ∧ rng l4_5 ∧ wXK D ad ca rf s σ5 H A s.heap locs ∧ lv_has ls 5 [(0, .ref (ad (ruleC n0.toNat))), (1, .ref (ad (rowC x0.toNat))), (2, .int (zI x1)), (3, .int (zI l3_5)), (4, .int (zI l4_5))]) (fun (l3_5 : Int) (l4_5 : Int) (σ5 : Sg) ls => F0 m 5 ls []) (fun L5 hL5 l3_5 l4_5 σ5 hw H locs ls hi => ?_) _ _ _ ⟨(show rng 0 from by decide), (show rng 0 from by decide), Wd, lv_sub hl [0, 1, 2, 3, 4] rfl⟩
  obtain ⟨g_l3_5, g_l4_5, Wd, hl⟩ := hi
  have hS_σ5 := Wd.2.1
  unfold wp5_U_placeIn_5 at hw
  refine lv_iload C.1 C.2.1 dX9_placeIn_5 (lv_at hl 4 rfl) ?_
  refine lv_aload_n C.1 C.2.1 dX9_placeIn_7 rfl (lv_at hl 1 rfl) ?_
  refine k_get (v := .int (zI (σ5.2.2.1 0 x0))) C Wd.1 KX8 _ 1 (cxRow g_x0) (by decide) fl_X9_34 rfl dX9_placeIn_8 ?_
  refine lv_icmp_ge (tgt := 45) C.1 C.2.1 dX9_placeIn_11 (by decide) (fun c11 => ?_) (fun c11 => ?_)
  · have hw := hw.1 (z_le (rgY hS_σ5 (N := 35) g_x0) g_l4_5 c11)
    refine lv_iconst (v := zI (-1)) C.1 C.2.1 dX9_placeIn_45 (by decide) ?_
    exact k_retKi C hr hlk rfl Wd ⟨_, rfl, (show rng (-1) from by decide), hw⟩ dX9_placeIn_46
  · have hw := hw.2 (z_nle (rgY hS_σ5 (N := 35) g_x0) g_l4_5 c11)
    refine lv_iload_n C.1 C.2.1 dX9_placeIn_14 rfl (lv_at hl 2 rfl) ?_
    refine lv_if_lt (tgt := 45) C.1 C.2.1 dX9_placeIn_15 (by decide) (fun c15 => ?_) (fun c15 => ?_)
    · have hw := hw.1 (z0_lt g_x1 c15)
      refine lv_iconst (v := zI (-1)) C.1 C.2.1 dX9_placeIn_45 (by decide) ?_
      exact k_retKi C hr hlk rfl Wd ⟨_, rfl, (show rng (-1) from by decide), hw⟩ dX9_placeIn_46
    · have hw := hw.2 (z0_nlt g_x1 c15)
      refine lv_aload_n C.1 C.2.1 dX9_placeIn_18 rfl (lv_at hl 0 rfl) ?_
      refine lv_aload_n C.1 C.2.1 dX9_placeIn_19 rfl (lv_at hl 1 rfl) ?_
      refine lv_iload C.1 C.2.1 dX9_placeIn_20 (lv_at hl 4 rfl) ?_
      refine k_cKi Wd (k_runVK (rest := []) C aks Wd cs_X9_44 (mk_U_matches D ad ca rf σ5 Wd.2.1 Wd.2.2 n0 x0 l4_5 h_n0 g_x0 g_l4_5 _ hw l _) (cxRule h_n0) rfl rfl rfl rfl ⟨(Nat.le_of_ble_eq_true rfl), (Nat.le_of_ble_eq_true rfl)⟩ hl.1 rfl rfl (Nat.le_of_ble_eq_true rfl) ⟨(Nat.le_of_ble_eq_true rfl), (Nat.le_of_ble_eq_true rfl)⟩ dX9_placeIn_22) (fun r22 σr22 H locs g_r22 hw Wd => ?_)
      have hS_σr22 := Wd.2.1
      refine lv_if_eq (tgt := 39) C.1 C.2.1 dX9_placeIn_25 (by decide) (fun c25 => ?_) (fun c25 => ?_)
      · have hw := hw.1 (z0_eq g_r22 c25)
        refine lv_iinc (v := zI (l4_5 + 1)) (lv' := [(4, .int (zI (l4_5 + 1))), (0, .ref (ad (ruleC n0.toNat))), (1, .ref (ad (rowC x0.toNat))), (2, .int (zI x1)), (3, .int (zI l3_5))]) C.1 C.2.1 dX9_placeIn_39 hl (k := 4) rfl (zI_inc _ _ (by decide)) (by decide) rfl (fun ls hl => ?_)
        replace hl := lv_sub hl [1, 2, 3, 4, 0] rfl
        refine lv_goto (tgt := 5) C.1 C.2.1 dX9_placeIn_42 (by decide) ?_
        obtain ⟨g42_4, hw⟩ := hw
        exact hL5 _ _ _ hw _ _ _ ⟨g_l3_5, g42_4, Wd, lv_sub hl [0, 1, 2, 3, 4] rfl⟩
      · have hw := hw.2 (z0_ne g_r22 c25)
        refine lv_iload_n C.1 C.2.1 dX9_placeIn_28 rfl (lv_at hl 3 rfl) ?_
        refine lv_iload_n C.1 C.2.1 dX9_placeIn_29 rfl (lv_at hl 2 rfl) ?_
        refine lv_icmp_ne (tgt := 36) C.1 C.2.1 dX9_placeIn_30 (by decide) (fun c30 => ?_) (fun c30 => ?_)
        · have hw := hw.1 (z_ne g_l3_5 g_x1 c30)
          refine lv_iinc (v := zI (l3_5 + 1)) (lv' := [(3, .int (zI (l3_5 + 1))), (0, .ref (ad (ruleC n0.toNat))), (1, .ref (ad (rowC x0.toNat))), (2, .int (zI x1)), (4, .int (zI l4_5))]) C.1 C.2.1 dX9_placeIn_36 hl (k := 3) rfl (zI_inc _ _ (by decide)) (by decide) rfl (fun ls hl => ?_)
          replace hl := lv_sub hl [1, 2, 3, 0, 4] rfl
          refine lv_iinc (v := zI (l4_5 + 1)) (lv' := [(4, .int (zI (l4_5 + 1))), (0, .ref (ad (ruleC n0.toNat))), (1, .ref (ad (rowC x0.toNat))), (2, .int (zI x1)), (3, .int (zI (l3_5 + 1)))]) C.1 C.2.1 dX9_placeIn_39 hl (k := 4) rfl (zI_inc _ _ (by decide)) (by decide) rfl (fun ls hl => ?_)
          replace hl := lv_sub hl [1, 2, 3, 4, 0] rfl
          refine lv_goto (tgt := 5) C.1 C.2.1 dX9_placeIn_42 (by decide) ?_
          obtain ⟨g42_5, hw⟩ := hw
          obtain ⟨g42_6, hw⟩ := hw
          exact hL5 _ _ _ hw _ _ _ ⟨g42_5, g42_6, Wd, lv_sub hl [0, 1, 2, 3, 4] rfl⟩
        · have hw := hw.2 (z_eq g_l3_5 g_x1 c30)
          refine lv_iload C.1 C.2.1 dX9_placeIn_33 (lv_at hl 4 rfl) ?_
          exact k_retKi C hr hlk rfl Wd ⟨_, rfl, g_l4_5, hw⟩ dX9_placeIn_35
set_option maxHeartbeats 4000000 in
set_option maxRecDepth 100000 in
theorem mk_U_lengthOfRight : ∀ (D : va_G) (ad : Nat → Nat) (ca : Nat → ClassId) (rf : Nat → Nat → Option Nat) (σ : Sg) (hS : rngK σ) (hRF : RFok ad rf) (n0 : Int) (h_n0 : 0 ≤ n0 ∧ n0 < 12) (K : Int → Prop) (hw : wp5_U_lengthOfRight σ n0 K) (l : Launch) (sz : Nat), Met l yX9_lengthOfRight (Cond.code yX9_lengthOfRight cX9_lengthOfRight 4 (some .int) :: gG) { frames := 2, cells := 0, slots := 0, locals := 85 } (cPre D (tC ca) (wK ad ca rf σ) sz [.ref (ad (ruleC n0.toNat))]) (vp_Si (fun r => ∃ x : Int, r = zI x ∧ rng x ∧ K x)) 0 0 (fun _ => False) := by
  intro D ad ca rf σ hS hRF n0 h_n0 K hw l sz
  refine Met.ofW (cc := cX9_lengthOfRight) (maxL := 4) (ret := (some .int)) (by decide) rfl ?_
  intro p e s m args below meth c s₁ B hml hv
  obtain ⟨rfl, aks, rfl, Wd⟩ := k_enter hv
  have C : CallFix p m c cX9_lengthOfRight 4 s _ gG RX9 := ⟨B.exec, B.bytes, hml, findClass_of_methodNamed B.named, fun w h => atoms_spec (ws := Cond.code yX9_lengthOfRight cX9_lengthOfRight 4 (some .int) :: gG) B.pre w (List.mem_cons_of_mem _ h)⟩
  have hr := B.returns
  have hlk := B.notSynchronized
  obtain ⟨A, Wd⟩ : ∃ A, wXK D ad ca rf s σ s.heap A s.heap [] := ⟨_, Wd, hS, hRF⟩
  refine k_locals (Nat.le_of_ble_eq_true rfl) [(0, .ref (ad (ruleC n0.toNat)))] rfl (fun ls hl => ?_)
  unfold wp5_U_lengthOfRight at hw
  refine lv_iconst (v := zI 0) C.1 C.2.1 dX9_lengthOfRight_0 (by decide) ?_
  refine lv_istore_n (lv' := [(1, .int (zI 0)), (0, .ref (ad (ruleC n0.toNat)))]) C.1 C.2.1 dX9_lengthOfRight_1 rfl hl (by decide) rfl (fun ls hl => ?_)
  replace hl := lv_sub hl [1, 0] rfl
  refine lv_iconst (v := zI 0) C.1 C.2.1 dX9_lengthOfRight_2 (by decide) ?_
  refine lv_istore_n (lv' := [(2, .int (zI 0)), (0, .ref (ad (ruleC n0.toNat))), (1, .int (zI 0))]) C.1 C.2.1 dX9_lengthOfRight_3 rfl hl (by decide) rfl (fun ls hl => ?_)
  replace hl := lv_sub hl [1, 2, 0] rfl
  refine k_lp2 hw (fun (l1_4 : Int) (l2_4 : Int) H locs ls => rng l1_4 ∧ rng l2_4 ∧ wXK D ad ca rf s σ H A s.heap locs ∧ H = s.heap ∧ locs = [] ∧ lv_has ls 4 [(0, .ref (ad (ruleC n0.toNat))), (1, .int (zI l1_4)), (2, .int (zI l2_4))]) (fun (l1_4 : Int) (l2_4 : Int) ls => F0 m 4 ls []) (fun L4 hL4 l1_4 l2_4 hw H locs ls hi => ?_) _ _ _ ⟨(show rng 0 from by decide), (show rng 0 from by decide), Wd, rfl, rfl, lv_sub hl [0, 1, 2] rfl⟩
  obtain ⟨g_l1_4, g_l2_4, Wd, rfl, rfl, hl⟩ := hi
  unfold wp5_U_lengthOfRight_4 at hw
  refine lv_iload_n C.1 C.2.1 dX9_lengthOfRight_4 rfl (lv_at hl 2 rfl) ?_
  refine lv_aload_n C.1 C.2.1 dX9_lengthOfRight_5 rfl (lv_at hl 0 rfl) ?_
  have nr6 : 0 ≤ (12 + 2 * n0) ∧ (12 + 2 * n0) < 35 := by omega
  refine k_get (v := .ref (ad (rowC (12 + 2 * n0).toNat))) C Wd.1 KX9 _ 1 (cxRule h_n0) (by decide) fl_X9_20 rfl dX9_lengthOfRight_6 ?_
  refine k_get (v := .int (zI (σ.2.2.1 0 (12 + 2 * n0)))) C Wd.1 KX8 _ 1 (cxRow nr6) (by decide) fl_X9_34 rfl dX9_lengthOfRight_9 ?_
  refine lv_icmp_ge (tgt := 58) C.1 C.2.1 dX9_lengthOfRight_12 (by decide) (fun c12 => ?_) (fun c12 => ?_)
  · have hw := hw.1 (z_le (rgY hS (N := 35) nr6) g_l2_4 c12)
    refine lv_iload_n C.1 C.2.1 dX9_lengthOfRight_58 rfl (lv_at hl 1 rfl) ?_
    exact k_zretP C hr hlk rfl ⟨_, rfl, g_l1_4, hw⟩ dX9_lengthOfRight_59
  · have hw := hw.2 (z_nle (rgY hS (N := 35) nr6) g_l2_4 c12)
    refine lv_aload_n C.1 C.2.1 dX9_lengthOfRight_15 rfl (lv_at hl 0 rfl) ?_
    refine k_get (v := .ref (ad (rowC (12 + 2 * n0).toNat))) C Wd.1 KX9 _ 1 (cxRule h_n0) (by decide) fl_X9_20 rfl dX9_lengthOfRight_16 ?_
    refine lv_iload_n C.1 C.2.1 dX9_lengthOfRight_19 rfl (lv_at hl 2 rfl) ?_
    refine k_pi (k_runVK (rest := []) C aks Wd cs_X9_37 (mk_W_cell D ad ca rf σ Wd.2.1 Wd.2.2 (12 + 2 * n0) l2_4 nr6 g_l2_4 _ hw l _) (cxRow nr6) rfl rfl rfl rfl ⟨(Nat.le_of_ble_eq_true rfl), (Nat.le_of_ble_eq_true rfl)⟩ hl.1 rfl rfl (Nat.le_of_ble_eq_true rfl) ⟨(Nat.le_of_ble_eq_true rfl), (Nat.le_of_ble_eq_true rfl)⟩ dX9_lengthOfRight_20) (fun y20 hy => ?_)
    obtain ⟨r20, rfl, g_r20, hw⟩ := hy
    refine k_pi (k_runS (rest := []) C aks Wd.1 cs_X9_41 (mk_U_letterOf D r20 g_r20 _ hw l _) [] rfl (by decide) [] rfl rfl rfl ⟨(Nat.le_of_ble_eq_true rfl), (Nat.le_of_ble_eq_true rfl)⟩ hl.1 rfl rfl (Nat.le_of_ble_eq_true rfl) ⟨(Nat.le_of_ble_eq_true rfl), (Nat.le_of_ble_eq_true rfl)⟩ dX9_lengthOfRight_23) (fun y23 hy => ?_)
    obtain ⟨r23, rfl, g_r23, hw⟩ := hy
    refine lv_istore_n (lv' := [(3, .int (zI r23)), (0, .ref (ad (ruleC n0.toNat))), (1, .int (zI l1_4)), (2, .int (zI l2_4))]) C.1 C.2.1 dX9_lengthOfRight_26 rfl hl (by decide) rfl (fun ls hl => ?_)
    replace hl := lv_sub hl [1, 2, 3, 0] rfl
    refine lv_iload_n C.1 C.2.1 dX9_lengthOfRight_27 rfl (lv_at hl 1 rfl) ?_
    refine lv_iload_n C.1 C.2.1 dX9_lengthOfRight_28 rfl (lv_at hl 3 rfl) ?_
    refine lv_iconst (v := zI (-1)) C.1 C.2.1 dX9_lengthOfRight_29 (by decide) ?_
    refine lv_icmp_ne (tgt := 37) C.1 C.2.1 dX9_lengthOfRight_30 (by decide) (fun c30 => ?_) (fun c30 => ?_)
    · have hw := hw.1 (z_ne g_r23 (show rng (-1) from by decide) c30)
      refine lv_aload_n C.1 C.2.1 dX9_lengthOfRight_37 rfl (lv_at hl 0 rfl) ?_
      refine k_get (v := .ref (ad ((ruleC n0.toNat) + 6))) C Wd.1 KX9 _ 4 (cxRule h_n0) (by decide) fl_X9_27 rfl dX9_lengthOfRight_38 ?_
      refine lv_iload_n C.1 C.2.1 dX9_lengthOfRight_41 rfl (lv_at hl 3 rfl) ?_
      obtain ⟨n42_0, hw⟩ := hw
      refine k_ialdK (g := (σ.2.2.2 3 n0)) C Wd (cxU6 h_n0) (tyU6 h_n0) n42_0 (by decide) dX9_lengthOfRight_42 ?_
      have ga42 : rng (σ.2.2.2 3 n0 r23) := rngL (rgZ (c := 3) Wd.2.1 h_n0) n42_0
      refine lv_aload_n C.1 C.2.1 dX9_lengthOfRight_43 rfl (lv_at hl 0 rfl) ?_
      refine k_get (v := .ref (ad ((ruleC n0.toNat) + 5))) C Wd.1 KX9 _ 3 (cxRule h_n0) (by decide) fl_X9_23 rfl dX9_lengthOfRight_44 ?_
      refine lv_iload_n C.1 C.2.1 dX9_lengthOfRight_47 rfl (lv_at hl 3 rfl) ?_
      refine k_ialdK (g := (σ.2.2.2 2 n0)) C Wd (cxU5 h_n0) (tyU5 h_n0) n42_0 (by decide) dX9_lengthOfRight_48 ?_
      have ga48 : rng (σ.2.2.2 2 n0 r23) := rngL (rgZ (c := 2) Wd.2.1 h_n0) n42_0
      refine k_isub (v := zI ((σ.2.2.2 3 n0 r23) - (σ.2.2.2 2 n0 r23))) C (zI_isub _ _) dX9_lengthOfRight_49 ?_
      refine k_iadd (v := zI (l1_4 + ((σ.2.2.2 3 n0 r23) - (σ.2.2.2 2 n0 r23)))) C (zI_iadd _ _) dX9_lengthOfRight_50 ?_
      refine lv_istore_n (lv' := [(1, .int (zI (l1_4 + ((σ.2.2.2 3 n0 r23) - (σ.2.2.2 2 n0 r23))))), (0, .ref (ad (ruleC n0.toNat))), (2, .int (zI l2_4)), (3, .int (zI r23))]) C.1 C.2.1 dX9_lengthOfRight_51 rfl hl (by decide) rfl (fun ls hl => ?_)
      replace hl := lv_sub hl [1, 0, 2, 3] rfl
      refine lv_iinc (v := zI (l2_4 + 1)) (lv' := [(2, .int (zI (l2_4 + 1))), (0, .ref (ad (ruleC n0.toNat))), (1, .int (zI (l1_4 + ((σ.2.2.2 3 n0 r23) - (σ.2.2.2 2 n0 r23))))), (3, .int (zI r23))]) C.1 C.2.1 dX9_lengthOfRight_52 hl (k := 2) rfl (zI_inc _ _ (by decide)) (by decide) rfl (fun ls hl => ?_)
      replace hl := lv_sub hl [1, 2, 0, 3] rfl
      refine lv_goto (tgt := 4) C.1 C.2.1 dX9_lengthOfRight_55 (by decide) ?_
      obtain ⟨g55_4, hw⟩ := hw
      obtain ⟨g55_5, hw⟩ := hw
      exact hL4 _ _ hw _ _ _ ⟨g55_4, g55_5, Wd, rfl, rfl, lv_sub hl [0, 1, 2] rfl⟩
    · have hw := hw.2 (z_eq g_r23 (show rng (-1) from by decide) c30)
      refine lv_iconst (v := zI 1) C.1 C.2.1 dX9_lengthOfRight_33 (by decide) ?_
      refine lv_goto (tgt := 50) C.1 C.2.1 dX9_lengthOfRight_34 (by decide) ?_
      refine k_iadd (v := zI (l1_4 + 1)) C (zI_iadd _ _) dX9_lengthOfRight_50 ?_
      refine lv_istore_n (lv' := [(1, .int (zI (l1_4 + 1))), (0, .ref (ad (ruleC n0.toNat))), (2, .int (zI l2_4)), (3, .int (zI r23))]) C.1 C.2.1 dX9_lengthOfRight_51 rfl hl (by decide) rfl (fun ls hl => ?_)
      replace hl := lv_sub hl [1, 0, 2, 3] rfl
      refine lv_iinc (v := zI (l2_4 + 1)) (lv' := [(2, .int (zI (l2_4 + 1))), (0, .ref (ad (ruleC n0.toNat))), (1, .int (zI (l1_4 + 1))), (3, .int (zI r23))]) C.1 C.2.1 dX9_lengthOfRight_52 hl (k := 2) rfl (zI_inc _ _ (by decide)) (by decide) rfl (fun ls hl => ?_)
      replace hl := lv_sub hl [1, 2, 0, 3] rfl
      refine lv_goto (tgt := 4) C.1 C.2.1 dX9_lengthOfRight_55 (by decide) ?_
      obtain ⟨g55_6, hw⟩ := hw
      obtain ⟨g55_7, hw⟩ := hw
      exact hL4 _ _ hw _ _ _ ⟨g55_6, g55_7, Wd, rfl, rfl, lv_sub hl [0, 1, 2] rfl⟩
set_option maxHeartbeats 4000000 in
set_option maxRecDepth 100000 in
theorem mk_U_rewrite : ∀ (D : va_G) (ad : Nat → Nat) (ca : Nat → ClassId) (rf : Nat → Nat → Option Nat) (σ : Sg) (hS : rngK σ) (hRF : RFok ad rf) (n0 : Int) (x0 : Int) (x1 : Int) (x2 : Int) (h_n0 : 0 ≤ n0 ∧ n0 < 12) (g_x0 : 0 ≤ x0 ∧ x0 < 35) (g_x1 : rng x1) (g_x2 : 0 ≤ x2 ∧ x2 < 35) (K : Int → Sg → Prop) (hw : wp5_U_rewrite σ n0 x0 x1 x2 K) (l : Launch) (sz : Nat), Met l yX9_rewrite (Cond.code yX9_rewrite cX9_rewrite 7 (some .boolean) :: gG) { frames := 4, cells := 0, slots := 0, locals := 145 } (cPre D (tC ca) (wK ad ca rf σ) sz [.ref (ad (ruleC n0.toNat)), .ref (ad (rowC x0.toNat)), .int (zI x1), .ref (ad (rowC x2.toNat))]) (va_Qi (fun (r : Int32) (u : Sg) => (∃ x : Int, r = zI x ∧ rng x ∧ K x u) ∧ rngK u) (fun u t => cB D (va_A (wK ad ca rf σ) sz) [] (wK ad ca rf u) t) (va_A (wK ad ca rf σ) sz)) 0 0 (va_A (wK ad ca rf σ) sz) := by
  intro D ad ca rf σ hS hRF n0 x0 x1 x2 h_n0 g_x0 g_x1 g_x2 K hw l sz
  refine Met.ofW (cc := cX9_rewrite) (maxL := 7) (ret := (some .boolean)) (by decide) rfl ?_
  intro p e s m args below meth c s₁ B hml hv
  obtain ⟨rfl, aks, rfl, Wd⟩ := k_enter hv
  have C : CallFix p m c cX9_rewrite 7 s _ gG RX9 := ⟨B.exec, B.bytes, hml, findClass_of_methodNamed B.named, fun w h => atoms_spec (ws := Cond.code yX9_rewrite cX9_rewrite 7 (some .boolean) :: gG) B.pre w (List.mem_cons_of_mem _ h)⟩
  have hr := B.returns
  have hlk := B.notSynchronized
  generalize va_A (wK ad ca rf σ) s.heap.size = A at Wd ⊢
  replace Wd : wXK D ad ca rf s σ s.heap A s.heap [] := ⟨Wd, hS, hRF⟩
  refine k_locals (Nat.le_of_ble_eq_true rfl) [(0, .ref (ad (ruleC n0.toNat))), (1, .ref (ad (rowC x0.toNat))), (2, .int (zI x1)), (3, .ref (ad (rowC x2.toNat)))] rfl (fun ls hl => ?_)
  unfold wp5_U_rewrite at hw
  refine lv_aload_n C.1 C.2.1 dX9_rewrite_0 rfl (lv_at hl 0 rfl) ?_
  refine lv_aload_n C.1 C.2.1 dX9_rewrite_1 rfl (lv_at hl 1 rfl) ?_
  refine lv_iload_n C.1 C.2.1 dX9_rewrite_2 rfl (lv_at hl 2 rfl) ?_
  refine k_cKi Wd (k_runVK (rest := []) C aks Wd cs_X9_44 (mk_U_matches D ad ca rf σ Wd.2.1 Wd.2.2 n0 x0 x1 h_n0 g_x0 g_x1 _ hw l _) (cxRule h_n0) rfl rfl rfl rfl ⟨(Nat.le_of_ble_eq_true rfl), (Nat.le_of_ble_eq_true rfl)⟩ hl.1 rfl rfl (Nat.le_of_ble_eq_true rfl) ⟨(Nat.le_of_ble_eq_true rfl), (Nat.le_of_ble_eq_true rfl)⟩ dX9_rewrite_3) (fun r3 σr3 H locs g_r3 hw Wd => ?_)
  have hS_σr3 := Wd.2.1
  refine lv_if_ne (tgt := 11) C.1 C.2.1 dX9_rewrite_6 (by decide) (fun c6 => ?_) (fun c6 => ?_)
  · have hw := hw.1 (z0_ne g_r3 c6)
    refine lv_aload_n C.1 C.2.1 dX9_rewrite_11 rfl (lv_at hl 1 rfl) ?_
    refine lv_iload_n C.1 C.2.1 dX9_rewrite_12 rfl (lv_at hl 2 rfl) ?_
    refine k_pi (k_runVK (rest := []) C aks Wd cs_X9_52 (mk_W_expressionEnd D ad ca rf σr3 Wd.2.1 Wd.2.2 x0 x1 g_x0 g_x1 _ hw l _) (cxRow g_x0) rfl rfl rfl rfl ⟨(Nat.le_of_ble_eq_true rfl), (Nat.le_of_ble_eq_true rfl)⟩ hl.1 rfl rfl (Nat.le_of_ble_eq_true rfl) ⟨(Nat.le_of_ble_eq_true rfl), (Nat.le_of_ble_eq_true rfl)⟩ dX9_rewrite_13) (fun y13 hy => ?_)
    obtain ⟨r13, rfl, g_r13, hw⟩ := hy
    refine lv_istore (lv' := [(4, .int (zI r13)), (0, .ref (ad (ruleC n0.toNat))), (1, .ref (ad (rowC x0.toNat))), (2, .int (zI x1)), (3, .ref (ad (rowC x2.toNat)))]) C.1 C.2.1 dX9_rewrite_16 hl (by decide) rfl (fun ls hl => ?_)
    replace hl := lv_sub hl [1, 2, 3, 4, 0] rfl
    refine lv_aload_n C.1 C.2.1 dX9_rewrite_18 rfl (lv_at hl 1 rfl) ?_
    refine k_pi (k_runVK (rest := []) C aks Wd cs_X9_63 (mk_W_expressions D ad ca rf σr3 Wd.2.1 Wd.2.2 x0 g_x0 _ hw l _) (cxRow g_x0) rfl rfl rfl rfl ⟨(Nat.le_of_ble_eq_true rfl), (Nat.le_of_ble_eq_true rfl)⟩ hl.1 rfl rfl (Nat.le_of_ble_eq_true rfl) ⟨(Nat.le_of_ble_eq_true rfl), (Nat.le_of_ble_eq_true rfl)⟩ dX9_rewrite_19) (fun y19 hy => ?_)
    obtain ⟨r19, rfl, g_r19, hw⟩ := hy
    refine lv_iload C.1 C.2.1 dX9_rewrite_22 (lv_at hl 4 rfl) ?_
    refine lv_iload_n C.1 C.2.1 dX9_rewrite_24 rfl (lv_at hl 2 rfl) ?_
    refine k_isub (v := zI (r13 - x1)) C (zI_isub _ _) dX9_rewrite_25 ?_
    refine k_isub (v := zI (r19 - (r13 - x1))) C (zI_isub _ _) dX9_rewrite_26 ?_
    refine lv_aload_n C.1 C.2.1 dX9_rewrite_27 rfl (lv_at hl 0 rfl) ?_
    refine k_pi (k_runVK (rest := [.int (zI (r19 - (r13 - x1)))]) C aks Wd cs_X9_67 (mk_U_lengthOfRight D ad ca rf σr3 Wd.2.1 Wd.2.2 n0 h_n0 _ hw l _) (cxRule h_n0) rfl rfl rfl rfl ⟨(Nat.le_of_ble_eq_true rfl), (Nat.le_of_ble_eq_true rfl)⟩ hl.1 rfl rfl (Nat.le_of_ble_eq_true rfl) ⟨(Nat.le_of_ble_eq_true rfl), (Nat.le_of_ble_eq_true rfl)⟩ dX9_rewrite_28) (fun y28 hy => ?_)
    obtain ⟨r28, rfl, g_r28, hw⟩ := hy
    refine k_iadd (v := zI ((r19 - (r13 - x1)) + r28)) C (zI_iadd _ _) dX9_rewrite_31 ?_
    refine lv_sipush (v := zI 300) C.1 C.2.1 dX9_rewrite_32 (zS (by decide) (by decide)) ?_
    obtain ⟨g35_4, hw⟩ := hw
    refine lv_icmp_le (tgt := 40) C.1 C.2.1 dX9_rewrite_35 (by decide) (fun c35 => ?_) (fun c35 => ?_)
    · have hw := hw.1 (z_le g35_4 (show rng 300 from by decide) c35)
      refine lv_aload_n C.1 C.2.1 dX9_rewrite_40 rfl (lv_at hl 3 rfl) ?_
      refine lv_iconst (v := zI 0) C.1 C.2.1 dX9_rewrite_41 (by decide) ?_
      refine k_putRL (n := x2) (v := 0) C Wd g_x2 fl_X9_34 (show rng 0 from by decide) dX9_rewrite_42 (fun H locs Wd => ?_)
      refine lv_aload_n C.1 C.2.1 dX9_rewrite_45 rfl (lv_at hl 3 rfl) ?_
      refine lv_aload_n C.1 C.2.1 dX9_rewrite_46 rfl (lv_at hl 1 rfl) ?_
      refine lv_iconst (v := zI 0) C.1 C.2.1 dX9_rewrite_47 (by decide) ?_
      refine lv_iload_n C.1 C.2.1 dX9_rewrite_48 rfl (lv_at hl 2 rfl) ?_
      refine k_cKv Wd (k_runVK (rest := []) C aks Wd cs_X9_70 (mk_W_addPart D ad ca rf (pY σr3 0 x2 0) Wd.2.1 Wd.2.2 x2 x0 0 x1 g_x2 g_x0 (show rng 0 from by decide) g_x1 _ hw l _) (cxRow g_x2) rfl rfl rfl rfl ⟨(Nat.le_of_ble_eq_true rfl), (Nat.le_of_ble_eq_true rfl)⟩ hl.1 rfl rfl (Nat.le_of_ble_eq_true rfl) ⟨(Nat.le_of_ble_eq_true rfl), (Nat.le_of_ble_eq_true rfl)⟩ dX9_rewrite_49) (fun σr49 H locs hw Wd => ?_)
      have hS_σr49 := Wd.2.1
      refine lv_iconst (v := zI 0) C.1 C.2.1 dX9_rewrite_52 (by decide) ?_
      refine lv_istore (lv' := [(5, .int (zI 0)), (0, .ref (ad (ruleC n0.toNat))), (1, .ref (ad (rowC x0.toNat))), (2, .int (zI x1)), (3, .ref (ad (rowC x2.toNat))), (4, .int (zI r13))]) C.1 C.2.1 dX9_rewrite_53 hl (by decide) rfl (fun ls hl => ?_)
      replace hl := lv_sub hl [1, 2, 3, 4, 5, 0] rfl
      refine k_lp2 hw (fun (l5_55 : Int) (σ55 : Sg) H locs ls => rng l5_55 ∧ wXK D ad ca rf s σ55 H A s.heap locs ∧ lv_has ls 7 [(0, .ref (ad (ruleC n0.toNat))), (1, .ref (ad (rowC x0.toNat))), (3, .ref (ad (rowC x2.toNat))), (4, .int (zI r13)), (5, .int (zI l5_55))]) (fun (l5_55 : Int) (σ55 : Sg) ls => F0 m 55 ls []) (fun L55 hL55 l5_55 σ55 hw H locs ls hi => ?_) _ _ _ ⟨(show rng 0 from by decide), Wd, lv_sub hl [0, 1, 3, 4, 5] rfl⟩
      obtain ⟨g_l5_55, Wd, hl⟩ := hi
      have hS_σ55 := Wd.2.1
      unfold wp5_U_rewrite_55 at hw
      refine lv_iload C.1 C.2.1 dX9_rewrite_55 (lv_at hl 4 rfl) ?_
      refine lv_aload_n C.1 C.2.1 dX9_rewrite_57 rfl (lv_at hl 0 rfl) ?_
      have nr58 : 0 ≤ (12 + 2 * n0) ∧ (12 + 2 * n0) < 35 := by omega
      refine k_get (v := .ref (ad (rowC (12 + 2 * n0).toNat))) C Wd.1 KX9 _ 1 (cxRule h_n0) (by decide) fl_X9_20 rfl dX9_rewrite_58 ?_
      refine k_get (v := .int (zI (σ55.2.2.1 0 (12 + 2 * n0)))) C Wd.1 KX8 _ 1 (cxRow nr58) (by decide) fl_X9_34 rfl dX9_rewrite_61 ?_
      refine lv_icmp_ge (tgt := 128) C.1 C.2.1 dX9_rewrite_64 (by decide) (fun c64 => ?_) (fun c64 => ?_)
      · have hw := hw.1 (z_le (rgY hS_σ55 (N := 35) nr58) g_l5_55 c64)
        refine lv_aload_n C.1 C.2.1 dX9_rewrite_128 rfl (lv_at hl 2 rfl) ?_
        refine lv_aload_n C.1 C.2.1 dX9_rewrite_129 rfl (lv_at hl 1 rfl) ?_
        refine lv_iload C.1 C.2.1 dX9_rewrite_130 (lv_at hl 3 rfl) ?_
        refine lv_aload_n C.1 C.2.1 dX9_rewrite_132 rfl (lv_at hl 1 rfl) ?_
        refine k_get (v := .int (zI (σ55.2.2.1 0 x0))) C Wd.1 KX8 _ 1 (cxRow g_x0) (by decide) fl_X9_34 rfl dX9_rewrite_133 ?_
        refine k_cKv Wd (k_runVK (rest := []) C aks Wd cs_X9_70 (mk_W_addPart D ad ca rf σ55 Wd.2.1 Wd.2.2 x2 x0 r13 (σ55.2.2.1 0 x0) g_x2 g_x0 g_r13 (rgY hS_σ55 (N := 35) g_x0) _ hw l _) (cxRow g_x2) rfl rfl rfl rfl ⟨(Nat.le_of_ble_eq_true rfl), (Nat.le_of_ble_eq_true rfl)⟩ hl.1 rfl rfl (Nat.le_of_ble_eq_true rfl) ⟨(Nat.le_of_ble_eq_true rfl), (Nat.le_of_ble_eq_true rfl)⟩ dX9_rewrite_136) (fun σr136 H locs hw Wd => ?_)
        have hS_σr136 := Wd.2.1
        refine lv_iconst (v := zI 1) C.1 C.2.1 dX9_rewrite_139 (by decide) ?_
        exact k_retKi C hr hlk (by decide) Wd ⟨_, rfl, (show rng 1 from by decide), hw⟩ dX9_rewrite_140
      · have hw := hw.2 (z_nle (rgY hS_σ55 (N := 35) nr58) g_l5_55 c64)
        refine lv_aload_n C.1 C.2.1 dX9_rewrite_67 rfl (lv_at hl 0 rfl) ?_
        refine k_get (v := .ref (ad (rowC (12 + 2 * n0).toNat))) C Wd.1 KX9 _ 1 (cxRule h_n0) (by decide) fl_X9_20 rfl dX9_rewrite_68 ?_
        refine lv_iload C.1 C.2.1 dX9_rewrite_71 (lv_at hl 4 rfl) ?_
        refine k_pi (k_runVK (rest := []) C aks Wd cs_X9_37 (mk_W_cell D ad ca rf σ55 Wd.2.1 Wd.2.2 (12 + 2 * n0) l5_55 nr58 g_l5_55 _ hw l _) (cxRow nr58) rfl rfl rfl rfl ⟨(Nat.le_of_ble_eq_true rfl), (Nat.le_of_ble_eq_true rfl)⟩ hl.1 rfl rfl (Nat.le_of_ble_eq_true rfl) ⟨(Nat.le_of_ble_eq_true rfl), (Nat.le_of_ble_eq_true rfl)⟩ dX9_rewrite_73) (fun y73 hy => ?_)
        obtain ⟨r73, rfl, g_r73, hw⟩ := hy
        refine k_pi (k_runS (rest := []) C aks Wd.1 cs_X9_41 (mk_U_letterOf D r73 g_r73 _ hw l _) [] rfl (by decide) [] rfl rfl rfl ⟨(Nat.le_of_ble_eq_true rfl), (Nat.le_of_ble_eq_true rfl)⟩ hl.1 rfl rfl (Nat.le_of_ble_eq_true rfl) ⟨(Nat.le_of_ble_eq_true rfl), (Nat.le_of_ble_eq_true rfl)⟩ dX9_rewrite_76) (fun y76 hy => ?_)
        obtain ⟨r76, rfl, g_r76, hw⟩ := hy
        refine lv_istore (lv' := [(6, .int (zI r76)), (0, .ref (ad (ruleC n0.toNat))), (1, .ref (ad (rowC x0.toNat))), (3, .ref (ad (rowC x2.toNat))), (4, .int (zI r13)), (5, .int (zI l5_55))]) C.1 C.2.1 dX9_rewrite_79 hl (by decide) rfl (fun ls hl => ?_)
        replace hl := lv_sub hl [1, 2, 3, 4, 5, 0] rfl
        refine lv_iload C.1 C.2.1 dX9_rewrite_81 (lv_at hl 5 rfl) ?_
        refine lv_iconst (v := zI (-1)) C.1 C.2.1 dX9_rewrite_83 (by decide) ?_
        refine lv_icmp_ne (tgt := 103) C.1 C.2.1 dX9_rewrite_84 (by decide) (fun c84 => ?_) (fun c84 => ?_)
        · have hw := hw.1 (z_ne g_r76 (show rng (-1) from by decide) c84)
          refine lv_aload_n C.1 C.2.1 dX9_rewrite_103 rfl (lv_at hl 2 rfl) ?_
          refine lv_aload_n C.1 C.2.1 dX9_rewrite_104 rfl (lv_at hl 1 rfl) ?_
          refine lv_aload_n C.1 C.2.1 dX9_rewrite_105 rfl (lv_at hl 0 rfl) ?_
          refine k_get (v := .ref (ad ((ruleC n0.toNat) + 5))) C Wd.1 KX9 _ 3 (cxRule h_n0) (by decide) fl_X9_23 rfl dX9_rewrite_106 ?_
          refine lv_iload C.1 C.2.1 dX9_rewrite_109 (lv_at hl 5 rfl) ?_
          obtain ⟨n111_0, hw⟩ := hw
          refine k_ialdK (g := (σ55.2.2.2 2 n0)) C Wd (cxU5 h_n0) (tyU5 h_n0) n111_0 (by decide) dX9_rewrite_111 ?_
          have ga111 : rng (σ55.2.2.2 2 n0 r76) := rngL (rgZ (c := 2) Wd.2.1 h_n0) n111_0
          refine lv_aload_n C.1 C.2.1 dX9_rewrite_112 rfl (lv_at hl 0 rfl) ?_
          refine k_get (v := .ref (ad ((ruleC n0.toNat) + 6))) C Wd.1 KX9 _ 4 (cxRule h_n0) (by decide) fl_X9_27 rfl dX9_rewrite_113 ?_
          refine lv_iload C.1 C.2.1 dX9_rewrite_116 (lv_at hl 5 rfl) ?_
          refine k_ialdK (g := (σ55.2.2.2 3 n0)) C Wd (cxU6 h_n0) (tyU6 h_n0) n111_0 (by decide) dX9_rewrite_118 ?_
          have ga118 : rng (σ55.2.2.2 3 n0 r76) := rngL (rgZ (c := 3) Wd.2.1 h_n0) n111_0
          refine k_cKv Wd (k_runVK (rest := []) C aks Wd cs_X9_70 (mk_W_addPart D ad ca rf σ55 Wd.2.1 Wd.2.2 x2 x0 (σ55.2.2.2 2 n0 r76) (σ55.2.2.2 3 n0 r76) g_x2 g_x0 ga111 ga118 _ hw l _) (cxRow g_x2) rfl rfl rfl rfl ⟨(Nat.le_of_ble_eq_true rfl), (Nat.le_of_ble_eq_true rfl)⟩ hl.1 rfl rfl (Nat.le_of_ble_eq_true rfl) ⟨(Nat.le_of_ble_eq_true rfl), (Nat.le_of_ble_eq_true rfl)⟩ dX9_rewrite_119) (fun σr119 H locs hw Wd => ?_)
          have hS_σr119 := Wd.2.1
          refine lv_iinc (v := zI (l5_55 + 1)) (lv' := [(5, .int (zI (l5_55 + 1))), (0, .ref (ad (ruleC n0.toNat))), (1, .ref (ad (rowC x0.toNat))), (3, .ref (ad (rowC x2.toNat))), (4, .int (zI r13)), (6, .int (zI r76))]) C.1 C.2.1 dX9_rewrite_122 hl (k := 4) rfl (zI_inc _ _ (by decide)) (by decide) rfl (fun ls hl => ?_)
          replace hl := lv_sub hl [1, 2, 3, 4, 0, 5] rfl
          refine lv_goto (tgt := 55) C.1 C.2.1 dX9_rewrite_125 (by decide) ?_
          obtain ⟨g125_5, hw⟩ := hw
          exact hL55 _ _ hw _ _ _ ⟨g125_5, Wd, lv_sub hl [0, 1, 2, 3, 4] rfl⟩
        · have hw := hw.2 (z_eq g_r76 (show rng (-1) from by decide) c84)
          refine lv_aload_n C.1 C.2.1 dX9_rewrite_87 rfl (lv_at hl 2 rfl) ?_
          refine lv_aload_n C.1 C.2.1 dX9_rewrite_88 rfl (lv_at hl 0 rfl) ?_
          refine k_get (v := .ref (ad (rowC (12 + 2 * n0).toNat))) C Wd.1 KX9 _ 1 (cxRule h_n0) (by decide) fl_X9_20 rfl dX9_rewrite_89 ?_
          refine lv_iload C.1 C.2.1 dX9_rewrite_92 (lv_at hl 4 rfl) ?_
          refine k_pi (k_runVK (rest := [.ref (ad (rowC x2.toNat))]) C aks Wd cs_X9_37 (mk_W_cell D ad ca rf σ55 Wd.2.1 Wd.2.2 (12 + 2 * n0) l5_55 nr58 g_l5_55 _ hw l _) (cxRow nr58) rfl rfl rfl rfl ⟨(Nat.le_of_ble_eq_true rfl), (Nat.le_of_ble_eq_true rfl)⟩ hl.1 rfl rfl (Nat.le_of_ble_eq_true rfl) ⟨(Nat.le_of_ble_eq_true rfl), (Nat.le_of_ble_eq_true rfl)⟩ dX9_rewrite_94) (fun y94 hy => ?_)
          obtain ⟨r94, rfl, g_r94, hw⟩ := hy
          refine k_cKv Wd (k_runVK (rest := []) C aks Wd cs_X9_74 (mk_W_add D ad ca rf σ55 Wd.2.1 Wd.2.2 x2 r94 g_x2 g_r94 _ hw l _) (cxRow g_x2) rfl rfl rfl rfl ⟨(Nat.le_of_ble_eq_true rfl), (Nat.le_of_ble_eq_true rfl)⟩ hl.1 rfl rfl (Nat.le_of_ble_eq_true rfl) ⟨(Nat.le_of_ble_eq_true rfl), (Nat.le_of_ble_eq_true rfl)⟩ dX9_rewrite_97) (fun σr97 H locs hw Wd => ?_)
          have hS_σr97 := Wd.2.1
          refine lv_goto (tgt := 122) C.1 C.2.1 dX9_rewrite_100 (by decide) ?_
          refine lv_iinc (v := zI (l5_55 + 1)) (lv' := [(5, .int (zI (l5_55 + 1))), (0, .ref (ad (ruleC n0.toNat))), (1, .ref (ad (rowC x0.toNat))), (3, .ref (ad (rowC x2.toNat))), (4, .int (zI r13)), (6, .int (zI r76))]) C.1 C.2.1 dX9_rewrite_122 hl (k := 4) rfl (zI_inc _ _ (by decide)) (by decide) rfl (fun ls hl => ?_)
          replace hl := lv_sub hl [1, 2, 3, 4, 0, 5] rfl
          refine lv_goto (tgt := 55) C.1 C.2.1 dX9_rewrite_125 (by decide) ?_
          obtain ⟨g125_6, hw⟩ := hw
          exact hL55 _ _ hw _ _ _ ⟨g125_6, Wd, lv_sub hl [0, 1, 2, 3, 4] rfl⟩
    · have hw := hw.2 (z_nle g35_4 (show rng 300 from by decide) c35)
      refine lv_iconst (v := zI 0) C.1 C.2.1 dX9_rewrite_38 (by decide) ?_
      exact k_retKi C hr hlk (by decide) Wd ⟨_, rfl, (show rng 0 from by decide), hw⟩ dX9_rewrite_39
  · have hw := hw.2 (z0_eq g_r3 c6)
    refine lv_iconst (v := zI 0) C.1 C.2.1 dX9_rewrite_9 (by decide) ?_
    exact k_retKi C hr hlk (by decide) Wd ⟨_, rfl, (show rng 0 from by decide), hw⟩ dX9_rewrite_10
set_option maxHeartbeats 4000000 in
set_option maxRecDepth 100000 in
theorem mk_S_apply : ∀ (D : va_G) (ad : Nat → Nat) (ca : Nat → ClassId) (rf : Nat → Nat → Option Nat) (σ : Sg) (hS : rngK σ) (hRF : RFok ad rf) (x0 : Int) (x1 : Int) (x2 : Int) (x3 : Int) (g_x0 : rng x0) (g_x1 : rng x1) (g_x2 : rng x2) (g_x3 : rng x3) (K : Int → Sg → Prop) (hw : wp5_S_apply σ x0 x1 x2 x3 K) (l : Launch) (sz : Nat), Met l yX11_apply (Cond.code yX11_apply cX11_apply 9 (some .boolean) :: gG) { frames := 5, cells := 0, slots := 0, locals := 171 } (cPre D (tC ca) (wK ad ca rf σ) sz [.ref (ad 0), .int (zI x0), .int (zI x1), .int (zI x2), .int (zI x3)]) (va_Qi (fun (r : Int32) (u : Sg) => (∃ x : Int, r = zI x ∧ rng x ∧ K x u) ∧ rngK u) (fun u t => cB D (va_A (wK ad ca rf σ) sz) [] (wK ad ca rf u) t) (va_A (wK ad ca rf σ) sz)) 0 0 (va_A (wK ad ca rf σ) sz) := by
  intro D ad ca rf σ hS hRF x0 x1 x2 x3 g_x0 g_x1 g_x2 g_x3 K hw l sz
  refine Met.ofW (cc := cX11_apply) (maxL := 9) (ret := (some .boolean)) (by decide) rfl ?_
  intro p e s m args below meth c s₁ B hml hv
  obtain ⟨rfl, aks, rfl, Wd⟩ := k_enter hv
  have C : CallFix p m c cX11_apply 9 s _ gG RX11 := ⟨B.exec, B.bytes, hml, findClass_of_methodNamed B.named, fun w h => atoms_spec (ws := Cond.code yX11_apply cX11_apply 9 (some .boolean) :: gG) B.pre w (List.mem_cons_of_mem _ h)⟩
  have hr := B.returns
  have hlk := B.notSynchronized
  generalize va_A (wK ad ca rf σ) s.heap.size = A at Wd ⊢
  replace Wd : wXK D ad ca rf s σ s.heap A s.heap [] := ⟨Wd, hS, hRF⟩
  refine k_locals (Nat.le_of_ble_eq_true rfl) [(0, .ref (ad 0)), (1, .int (zI x0)), (2, .int (zI x1)), (3, .int (zI x2)), (4, .int (zI x3))] rfl (fun ls hl => ?_)
  unfold wp5_S_apply at hw
  refine lv_aload_n C.1 C.2.1 dX11_apply_0 rfl (lv_at hl 0 rfl) ?_
  refine lv_iload_n C.1 C.2.1 dX11_apply_1 rfl (lv_at hl 1 rfl) ?_
  refine k_pq (k_runVK (rest := []) C aks Wd cs_X11_165 (mk_S_ruleAt D ad ca rf σ Wd.2.1 Wd.2.2 x0 g_x0 _ hw l _) (cx0 _) rfl rfl rfl rfl ⟨(Nat.le_of_ble_eq_true rfl), (Nat.le_of_ble_eq_true rfl)⟩ hl.1 rfl rfl (Nat.le_of_ble_eq_true rfl) ⟨(Nat.le_of_ble_eq_true rfl), (Nat.le_of_ble_eq_true rfl)⟩ dX11_apply_2) (fun y2 hy => ?_)
  obtain ⟨r2, rfl, hw⟩ := hy
  by_cases c2 : r2 < 0
  · have hw := hw.1 c2
    rw [rfO_null c2]
    show W p l e _ s m _ below meth c _ _ _ _ _ (F0 m _ ls (.null :: []))
    refine lv_astoreN (lv' := [(5, .null), (0, .ref (ad 0)), (1, .int (zI x0)), (2, .int (zI x1)), (3, .int (zI x2)), (4, .int (zI x3))]) C.1 C.2.1 dX11_apply_5 hl (by decide) rfl (fun ls hl => ?_)
    replace hl := lv_sub hl [1, 2, 3, 4, 5, 0] rfl
    refine lv_aload_n C.1 C.2.1 dX11_apply_7 rfl (lv_at hl 0 rfl) ?_
    refine lv_iload_n C.1 C.2.1 dX11_apply_8 rfl (lv_at hl 2 rfl) ?_
    refine k_pq (k_runVK (rest := []) C aks Wd cs_X11_77 (mk_S_slotAt D ad ca rf σ Wd.2.1 Wd.2.2 x1 g_x1 _ hw l _) (cx0 _) rfl rfl rfl rfl ⟨(Nat.le_of_ble_eq_true rfl), (Nat.le_of_ble_eq_true rfl)⟩ hl.1 rfl rfl (Nat.le_of_ble_eq_true rfl) ⟨(Nat.le_of_ble_eq_true rfl), (Nat.le_of_ble_eq_true rfl)⟩ dX11_apply_9) (fun y9 hy => ?_)
    obtain ⟨r9, rfl, hw⟩ := hy
    by_cases c9 : r9 < 0
    · have hw := hw.1 c9
      rw [rfO_null c9]
      show W p l e _ s m _ below meth c _ _ _ _ _ (F0 m _ ls (.null :: []))
      refine lv_astoreN (lv' := [(6, .null), (0, .ref (ad 0)), (1, .int (zI x0)), (2, .int (zI x1)), (3, .int (zI x2)), (4, .int (zI x3)), (5, .null)]) C.1 C.2.1 dX11_apply_12 hl (by decide) rfl (fun ls hl => ?_)
      replace hl := lv_sub hl [1, 2, 3, 4, 5, 6, 0] rfl
      refine lv_aload_n C.1 C.2.1 dX11_apply_14 rfl (lv_at hl 0 rfl) ?_
      refine lv_iload C.1 C.2.1 dX11_apply_15 (lv_at hl 4 rfl) ?_
      refine k_pq (k_runVK (rest := []) C aks Wd cs_X11_77 (mk_S_slotAt D ad ca rf σ Wd.2.1 Wd.2.2 x3 g_x3 _ hw l _) (cx0 _) rfl rfl rfl rfl ⟨(Nat.le_of_ble_eq_true rfl), (Nat.le_of_ble_eq_true rfl)⟩ hl.1 rfl rfl (Nat.le_of_ble_eq_true rfl) ⟨(Nat.le_of_ble_eq_true rfl), (Nat.le_of_ble_eq_true rfl)⟩ dX11_apply_17) (fun y17 hy => ?_)
      obtain ⟨r17, rfl, hw⟩ := hy
      by_cases c17 : r17 < 0
      · have hw := hw.1 c17
        rw [rfO_null c17]
        show W p l e _ s m _ below meth c _ _ _ _ _ (F0 m _ ls (.null :: []))
        refine lv_astoreN (lv' := [(7, .null), (0, .ref (ad 0)), (1, .int (zI x0)), (2, .int (zI x1)), (3, .int (zI x2)), (4, .int (zI x3)), (5, .null), (6, .null)]) C.1 C.2.1 dX11_apply_20 hl (by decide) rfl (fun ls hl => ?_)
        replace hl := lv_sub hl [1, 2, 3, 4, 5, 6, 7, 0] rfl
        refine lv_aloadN C.1 C.2.1 dX11_apply_22 (lv_at hl 5 rfl) ?_
        refine lv_ifnullN (tgt := 37) C.1 C.2.1 dX11_apply_24 (by decide) ?_
        refine lv_iconst (v := zI 0) C.1 C.2.1 dX11_apply_37 (by decide) ?_
        exact k_retKi C hr hlk (by decide) Wd ⟨_, rfl, (show rng 0 from by decide), hw⟩ dX11_apply_38
      · have hw := hw.2 (Int.not_lt.mp c17)
        rw [rfO_nn (Int.not_lt.mp c17)]
        obtain ⟨n17_0, hw⟩ := hw
        show W p l e _ s m _ below meth c _ _ _ _ _ (F0 m _ ls (.ref (ad (rowC r17.toNat)) :: []))
        refine lv_astore (lv' := [(7, .ref (ad (rowC r17.toNat))), (0, .ref (ad 0)), (1, .int (zI x0)), (2, .int (zI x1)), (3, .int (zI x2)), (4, .int (zI x3)), (5, .null), (6, .null)]) C.1 C.2.1 dX11_apply_20 hl (by decide) rfl (fun ls hl => ?_)
        replace hl := lv_sub hl [1, 2, 3, 4, 5, 6, 7, 0] rfl
        refine lv_aloadN C.1 C.2.1 dX11_apply_22 (lv_at hl 5 rfl) ?_
        refine lv_ifnullN (tgt := 37) C.1 C.2.1 dX11_apply_24 (by decide) ?_
        refine lv_iconst (v := zI 0) C.1 C.2.1 dX11_apply_37 (by decide) ?_
        exact k_retKi C hr hlk (by decide) Wd ⟨_, rfl, (show rng 0 from by decide), hw⟩ dX11_apply_38
    · have hw := hw.2 (Int.not_lt.mp c9)
      rw [rfO_nn (Int.not_lt.mp c9)]
      obtain ⟨n9_0, hw⟩ := hw
      show W p l e _ s m _ below meth c _ _ _ _ _ (F0 m _ ls (.ref (ad (rowC r9.toNat)) :: []))
      refine lv_astore (lv' := [(6, .ref (ad (rowC r9.toNat))), (0, .ref (ad 0)), (1, .int (zI x0)), (2, .int (zI x1)), (3, .int (zI x2)), (4, .int (zI x3)), (5, .null)]) C.1 C.2.1 dX11_apply_12 hl (by decide) rfl (fun ls hl => ?_)
      replace hl := lv_sub hl [1, 2, 3, 4, 5, 6, 0] rfl
      refine lv_aload_n C.1 C.2.1 dX11_apply_14 rfl (lv_at hl 0 rfl) ?_
      refine lv_iload C.1 C.2.1 dX11_apply_15 (lv_at hl 4 rfl) ?_
      refine k_pq (k_runVK (rest := []) C aks Wd cs_X11_77 (mk_S_slotAt D ad ca rf σ Wd.2.1 Wd.2.2 x3 g_x3 _ hw l _) (cx0 _) rfl rfl rfl rfl ⟨(Nat.le_of_ble_eq_true rfl), (Nat.le_of_ble_eq_true rfl)⟩ hl.1 rfl rfl (Nat.le_of_ble_eq_true rfl) ⟨(Nat.le_of_ble_eq_true rfl), (Nat.le_of_ble_eq_true rfl)⟩ dX11_apply_17) (fun y17 hy => ?_)
      obtain ⟨r17, rfl, hw⟩ := hy
      by_cases c17 : r17 < 0
      · have hw := hw.1 c17
        rw [rfO_null c17]
        show W p l e _ s m _ below meth c _ _ _ _ _ (F0 m _ ls (.null :: []))
        refine lv_astoreN (lv' := [(7, .null), (0, .ref (ad 0)), (1, .int (zI x0)), (2, .int (zI x1)), (3, .int (zI x2)), (4, .int (zI x3)), (5, .null), (6, .ref (ad (rowC r9.toNat)))]) C.1 C.2.1 dX11_apply_20 hl (by decide) rfl (fun ls hl => ?_)
        replace hl := lv_sub hl [1, 2, 3, 4, 5, 6, 7, 0] rfl
        refine lv_aloadN C.1 C.2.1 dX11_apply_22 (lv_at hl 5 rfl) ?_
        refine lv_ifnullN (tgt := 37) C.1 C.2.1 dX11_apply_24 (by decide) ?_
        refine lv_iconst (v := zI 0) C.1 C.2.1 dX11_apply_37 (by decide) ?_
        exact k_retKi C hr hlk (by decide) Wd ⟨_, rfl, (show rng 0 from by decide), hw⟩ dX11_apply_38
      · have hw := hw.2 (Int.not_lt.mp c17)
        rw [rfO_nn (Int.not_lt.mp c17)]
        obtain ⟨n17_0, hw⟩ := hw
        show W p l e _ s m _ below meth c _ _ _ _ _ (F0 m _ ls (.ref (ad (rowC r17.toNat)) :: []))
        refine lv_astore (lv' := [(7, .ref (ad (rowC r17.toNat))), (0, .ref (ad 0)), (1, .int (zI x0)), (2, .int (zI x1)), (3, .int (zI x2)), (4, .int (zI x3)), (5, .null), (6, .ref (ad (rowC r9.toNat)))]) C.1 C.2.1 dX11_apply_20 hl (by decide) rfl (fun ls hl => ?_)
        replace hl := lv_sub hl [1, 2, 3, 4, 5, 6, 7, 0] rfl
        refine lv_aloadN C.1 C.2.1 dX11_apply_22 (lv_at hl 5 rfl) ?_
        refine lv_ifnullN (tgt := 37) C.1 C.2.1 dX11_apply_24 (by decide) ?_
        refine lv_iconst (v := zI 0) C.1 C.2.1 dX11_apply_37 (by decide) ?_
        exact k_retKi C hr hlk (by decide) Wd ⟨_, rfl, (show rng 0 from by decide), hw⟩ dX11_apply_38
  · have hw := hw.2 (Int.not_lt.mp c2)
    rw [rfO_nn (Int.not_lt.mp c2)]
    obtain ⟨n2_0, hw⟩ := hw
    show W p l e _ s m _ below meth c _ _ _ _ _ (F0 m _ ls (.ref (ad (ruleC r2.toNat)) :: []))
    refine lv_astore (lv' := [(5, .ref (ad (ruleC r2.toNat))), (0, .ref (ad 0)), (1, .int (zI x0)), (2, .int (zI x1)), (3, .int (zI x2)), (4, .int (zI x3))]) C.1 C.2.1 dX11_apply_5 hl (by decide) rfl (fun ls hl => ?_)
    replace hl := lv_sub hl [1, 2, 3, 4, 5, 0] rfl
    refine lv_aload_n C.1 C.2.1 dX11_apply_7 rfl (lv_at hl 0 rfl) ?_
    refine lv_iload_n C.1 C.2.1 dX11_apply_8 rfl (lv_at hl 2 rfl) ?_
    refine k_pq (k_runVK (rest := []) C aks Wd cs_X11_77 (mk_S_slotAt D ad ca rf σ Wd.2.1 Wd.2.2 x1 g_x1 _ hw l _) (cx0 _) rfl rfl rfl rfl ⟨(Nat.le_of_ble_eq_true rfl), (Nat.le_of_ble_eq_true rfl)⟩ hl.1 rfl rfl (Nat.le_of_ble_eq_true rfl) ⟨(Nat.le_of_ble_eq_true rfl), (Nat.le_of_ble_eq_true rfl)⟩ dX11_apply_9) (fun y9 hy => ?_)
    obtain ⟨r9, rfl, hw⟩ := hy
    by_cases c9 : r9 < 0
    · have hw := hw.1 c9
      rw [rfO_null c9]
      show W p l e _ s m _ below meth c _ _ _ _ _ (F0 m _ ls (.null :: []))
      refine lv_astoreN (lv' := [(6, .null), (0, .ref (ad 0)), (1, .int (zI x0)), (2, .int (zI x1)), (3, .int (zI x2)), (4, .int (zI x3)), (5, .ref (ad (ruleC r2.toNat)))]) C.1 C.2.1 dX11_apply_12 hl (by decide) rfl (fun ls hl => ?_)
      replace hl := lv_sub hl [1, 2, 3, 4, 5, 6, 0] rfl
      refine lv_aload_n C.1 C.2.1 dX11_apply_14 rfl (lv_at hl 0 rfl) ?_
      refine lv_iload C.1 C.2.1 dX11_apply_15 (lv_at hl 4 rfl) ?_
      refine k_pq (k_runVK (rest := []) C aks Wd cs_X11_77 (mk_S_slotAt D ad ca rf σ Wd.2.1 Wd.2.2 x3 g_x3 _ hw l _) (cx0 _) rfl rfl rfl rfl ⟨(Nat.le_of_ble_eq_true rfl), (Nat.le_of_ble_eq_true rfl)⟩ hl.1 rfl rfl (Nat.le_of_ble_eq_true rfl) ⟨(Nat.le_of_ble_eq_true rfl), (Nat.le_of_ble_eq_true rfl)⟩ dX11_apply_17) (fun y17 hy => ?_)
      obtain ⟨r17, rfl, hw⟩ := hy
      by_cases c17 : r17 < 0
      · have hw := hw.1 c17
        rw [rfO_null c17]
        show W p l e _ s m _ below meth c _ _ _ _ _ (F0 m _ ls (.null :: []))
        refine lv_astoreN (lv' := [(7, .null), (0, .ref (ad 0)), (1, .int (zI x0)), (2, .int (zI x1)), (3, .int (zI x2)), (4, .int (zI x3)), (5, .ref (ad (ruleC r2.toNat))), (6, .null)]) C.1 C.2.1 dX11_apply_20 hl (by decide) rfl (fun ls hl => ?_)
        replace hl := lv_sub hl [1, 2, 3, 4, 5, 6, 7, 0] rfl
        refine lv_aload C.1 C.2.1 dX11_apply_22 (lv_at hl 5 rfl) ?_
        refine lv_ifnull C.1 C.2.1 dX11_apply_24 ?_
        refine lv_aloadN C.1 C.2.1 dX11_apply_27 (lv_at hl 6 rfl) ?_
        refine lv_ifnullN (tgt := 37) C.1 C.2.1 dX11_apply_29 (by decide) ?_
        refine lv_iconst (v := zI 0) C.1 C.2.1 dX11_apply_37 (by decide) ?_
        exact k_retKi C hr hlk (by decide) Wd ⟨_, rfl, (show rng 0 from by decide), hw⟩ dX11_apply_38
      · have hw := hw.2 (Int.not_lt.mp c17)
        rw [rfO_nn (Int.not_lt.mp c17)]
        obtain ⟨n17_0, hw⟩ := hw
        show W p l e _ s m _ below meth c _ _ _ _ _ (F0 m _ ls (.ref (ad (rowC r17.toNat)) :: []))
        refine lv_astore (lv' := [(7, .ref (ad (rowC r17.toNat))), (0, .ref (ad 0)), (1, .int (zI x0)), (2, .int (zI x1)), (3, .int (zI x2)), (4, .int (zI x3)), (5, .ref (ad (ruleC r2.toNat))), (6, .null)]) C.1 C.2.1 dX11_apply_20 hl (by decide) rfl (fun ls hl => ?_)
        replace hl := lv_sub hl [1, 2, 3, 4, 5, 6, 7, 0] rfl
        refine lv_aload C.1 C.2.1 dX11_apply_22 (lv_at hl 5 rfl) ?_
        refine lv_ifnull C.1 C.2.1 dX11_apply_24 ?_
        refine lv_aloadN C.1 C.2.1 dX11_apply_27 (lv_at hl 6 rfl) ?_
        refine lv_ifnullN (tgt := 37) C.1 C.2.1 dX11_apply_29 (by decide) ?_
        refine lv_iconst (v := zI 0) C.1 C.2.1 dX11_apply_37 (by decide) ?_
        exact k_retKi C hr hlk (by decide) Wd ⟨_, rfl, (show rng 0 from by decide), hw⟩ dX11_apply_38
    · have hw := hw.2 (Int.not_lt.mp c9)
      rw [rfO_nn (Int.not_lt.mp c9)]
      obtain ⟨n9_0, hw⟩ := hw
      show W p l e _ s m _ below meth c _ _ _ _ _ (F0 m _ ls (.ref (ad (rowC r9.toNat)) :: []))
      refine lv_astore (lv' := [(6, .ref (ad (rowC r9.toNat))), (0, .ref (ad 0)), (1, .int (zI x0)), (2, .int (zI x1)), (3, .int (zI x2)), (4, .int (zI x3)), (5, .ref (ad (ruleC r2.toNat)))]) C.1 C.2.1 dX11_apply_12 hl (by decide) rfl (fun ls hl => ?_)
      replace hl := lv_sub hl [1, 2, 3, 4, 5, 6, 0] rfl
      refine lv_aload_n C.1 C.2.1 dX11_apply_14 rfl (lv_at hl 0 rfl) ?_
      refine lv_iload C.1 C.2.1 dX11_apply_15 (lv_at hl 4 rfl) ?_
      refine k_pq (k_runVK (rest := []) C aks Wd cs_X11_77 (mk_S_slotAt D ad ca rf σ Wd.2.1 Wd.2.2 x3 g_x3 _ hw l _) (cx0 _) rfl rfl rfl rfl ⟨(Nat.le_of_ble_eq_true rfl), (Nat.le_of_ble_eq_true rfl)⟩ hl.1 rfl rfl (Nat.le_of_ble_eq_true rfl) ⟨(Nat.le_of_ble_eq_true rfl), (Nat.le_of_ble_eq_true rfl)⟩ dX11_apply_17) (fun y17 hy => ?_)
      obtain ⟨r17, rfl, hw⟩ := hy
      by_cases c17 : r17 < 0
      · have hw := hw.1 c17
        rw [rfO_null c17]
        show W p l e _ s m _ below meth c _ _ _ _ _ (F0 m _ ls (.null :: []))
        refine lv_astoreN (lv' := [(7, .null), (0, .ref (ad 0)), (1, .int (zI x0)), (2, .int (zI x1)), (3, .int (zI x2)), (4, .int (zI x3)), (5, .ref (ad (ruleC r2.toNat))), (6, .ref (ad (rowC r9.toNat)))]) C.1 C.2.1 dX11_apply_20 hl (by decide) rfl (fun ls hl => ?_)
        replace hl := lv_sub hl [1, 2, 3, 4, 5, 6, 7, 0] rfl
        refine lv_aload C.1 C.2.1 dX11_apply_22 (lv_at hl 5 rfl) ?_
        refine lv_ifnull C.1 C.2.1 dX11_apply_24 ?_
        refine lv_aload C.1 C.2.1 dX11_apply_27 (lv_at hl 6 rfl) ?_
        refine lv_ifnull C.1 C.2.1 dX11_apply_29 ?_
        refine lv_aloadN C.1 C.2.1 dX11_apply_32 (lv_at hl 7 rfl) ?_
        refine lv_ifnonnullN C.1 C.2.1 dX11_apply_34 ?_
        refine lv_iconst (v := zI 0) C.1 C.2.1 dX11_apply_37 (by decide) ?_
        exact k_retKi C hr hlk (by decide) Wd ⟨_, rfl, (show rng 0 from by decide), hw⟩ dX11_apply_38
      · have hw := hw.2 (Int.not_lt.mp c17)
        rw [rfO_nn (Int.not_lt.mp c17)]
        obtain ⟨n17_0, hw⟩ := hw
        show W p l e _ s m _ below meth c _ _ _ _ _ (F0 m _ ls (.ref (ad (rowC r17.toNat)) :: []))
        refine lv_astore (lv' := [(7, .ref (ad (rowC r17.toNat))), (0, .ref (ad 0)), (1, .int (zI x0)), (2, .int (zI x1)), (3, .int (zI x2)), (4, .int (zI x3)), (5, .ref (ad (ruleC r2.toNat))), (6, .ref (ad (rowC r9.toNat)))]) C.1 C.2.1 dX11_apply_20 hl (by decide) rfl (fun ls hl => ?_)
        replace hl := lv_sub hl [1, 2, 3, 4, 5, 6, 7, 0] rfl
        refine lv_aload C.1 C.2.1 dX11_apply_22 (lv_at hl 5 rfl) ?_
        refine lv_ifnull C.1 C.2.1 dX11_apply_24 ?_
        refine lv_aload C.1 C.2.1 dX11_apply_27 (lv_at hl 6 rfl) ?_
        refine lv_ifnull C.1 C.2.1 dX11_apply_29 ?_
        refine lv_aload C.1 C.2.1 dX11_apply_32 (lv_at hl 7 rfl) ?_
        refine lv_ifnonnull (tgt := 39) C.1 C.2.1 dX11_apply_34 (by decide) ?_
        refine lv_aload C.1 C.2.1 dX11_apply_39 (lv_at hl 5 rfl) ?_
        refine lv_aload C.1 C.2.1 dX11_apply_41 (lv_at hl 6 rfl) ?_
        refine lv_iload_n C.1 C.2.1 dX11_apply_43 rfl (lv_at hl 3 rfl) ?_
        refine k_cKi Wd (k_runVK (rest := []) C aks Wd cs_X11_183 (mk_U_placeIn D ad ca rf σ Wd.2.1 Wd.2.2 r2 r9 x2 n2_0 n9_0 g_x2 _ hw l _) (cxRule n2_0) rfl rfl rfl rfl ⟨(Nat.le_of_ble_eq_true rfl), (Nat.le_of_ble_eq_true rfl)⟩ hl.1 rfl rfl (Nat.le_of_ble_eq_true rfl) ⟨(Nat.le_of_ble_eq_true rfl), (Nat.le_of_ble_eq_true rfl)⟩ dX11_apply_44) (fun r44 σr44 H locs g_r44 hw Wd => ?_)
        have hS_σr44 := Wd.2.1
        refine lv_istore (lv' := [(8, .int (zI r44)), (0, .ref (ad 0)), (1, .int (zI x0)), (2, .int (zI x1)), (3, .int (zI x2)), (4, .int (zI x3)), (5, .ref (ad (ruleC r2.toNat))), (6, .ref (ad (rowC r9.toNat))), (7, .ref (ad (rowC r17.toNat)))]) C.1 C.2.1 dX11_apply_47 hl (by decide) rfl (fun ls hl => ?_)
        replace hl := lv_sub hl [1, 2, 3, 4, 5, 6, 7, 8, 0] rfl
        refine lv_iload C.1 C.2.1 dX11_apply_49 (lv_at hl 8 rfl) ?_
        refine lv_iconst (v := zI (-1)) C.1 C.2.1 dX11_apply_51 (by decide) ?_
        refine lv_icmp_eq (tgt := 71) C.1 C.2.1 dX11_apply_52 (by decide) (fun c52 => ?_) (fun c52 => ?_)
        · have hw := hw.1 (z_eq g_r44 (show rng (-1) from by decide) c52)
          refine lv_iconst (v := zI 0) C.1 C.2.1 dX11_apply_71 (by decide) ?_
          exact k_retKi C hr hlk (by decide) Wd ⟨_, rfl, (show rng 0 from by decide), hw⟩ dX11_apply_72
        · have hw := hw.2 (z_ne g_r44 (show rng (-1) from by decide) c52)
          refine lv_aload C.1 C.2.1 dX11_apply_55 (lv_at hl 5 rfl) ?_
          refine lv_aload C.1 C.2.1 dX11_apply_57 (lv_at hl 6 rfl) ?_
          refine lv_iload C.1 C.2.1 dX11_apply_59 (lv_at hl 8 rfl) ?_
          refine lv_aload_n C.1 C.2.1 dX11_apply_61 rfl (lv_at hl 0 rfl) ?_
          refine k_get (v := .ref (ad 117)) C Wd.1 KX11 _ 2 (cx0 _) (by decide) fl_X11_22 rfl dX11_apply_62 ?_
          refine k_cKi Wd (k_runVK (rest := []) C aks Wd cs_X11_187 (mk_U_rewrite D ad ca rf σr44 Wd.2.1 Wd.2.2 r2 r9 r44 8 n2_0 n9_0 g_r44 (show (0 : Int) ≤ 8 ∧ (8 : Int) < 35 from by decide) _ hw l _) (cxRule n2_0) rfl rfl rfl rfl ⟨(Nat.le_of_ble_eq_true rfl), (Nat.le_of_ble_eq_true rfl)⟩ hl.1 rfl rfl (Nat.le_of_ble_eq_true rfl) ⟨(Nat.le_of_ble_eq_true rfl), (Nat.le_of_ble_eq_true rfl)⟩ dX11_apply_65) (fun r65 σr65 H locs g_r65 hw Wd => ?_)
          have hS_σr65 := Wd.2.1
          refine lv_if_ne (tgt := 73) C.1 C.2.1 dX11_apply_68 (by decide) (fun c68 => ?_) (fun c68 => ?_)
          · have hw := hw.1 (z0_ne g_r65 c68)
            refine lv_aload C.1 C.2.1 dX11_apply_73 (lv_at hl 7 rfl) ?_
            refine lv_aload_n C.1 C.2.1 dX11_apply_75 rfl (lv_at hl 0 rfl) ?_
            refine k_get (v := .ref (ad 117)) C Wd.1 KX11 _ 2 (cx0 _) (by decide) fl_X11_22 rfl dX11_apply_76 ?_
            refine k_cKv Wd (k_runVK (rest := []) C aks Wd cs_X11_92 (mk_W_copy D ad ca rf σr65 Wd.2.1 Wd.2.2 r17 8 n17_0 (show (0 : Int) ≤ 8 ∧ (8 : Int) < 35 from by decide) _ hw l _) (cxRow n17_0) rfl rfl rfl rfl ⟨(Nat.le_of_ble_eq_true rfl), (Nat.le_of_ble_eq_true rfl)⟩ hl.1 rfl rfl (Nat.le_of_ble_eq_true rfl) ⟨(Nat.le_of_ble_eq_true rfl), (Nat.le_of_ble_eq_true rfl)⟩ dX11_apply_79) (fun σr79 H locs hw Wd => ?_)
            have hS_σr79 := Wd.2.1
            refine lv_iconst (v := zI 1) C.1 C.2.1 dX11_apply_82 (by decide) ?_
            exact k_retKi C hr hlk (by decide) Wd ⟨_, rfl, (show rng 1 from by decide), hw⟩ dX11_apply_83
          · have hw := hw.2 (z0_eq g_r65 c68)
            refine lv_iconst (v := zI 0) C.1 C.2.1 dX11_apply_71 (by decide) ?_
            exact k_retKi C hr hlk (by decide) Wd ⟨_, rfl, (show rng 0 from by decide), hw⟩ dX11_apply_72
