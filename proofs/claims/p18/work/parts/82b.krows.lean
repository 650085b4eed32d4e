set_option maxHeartbeats 4000000 in
set_option maxRecDepth 100000 in
theorem mk_T_advance : ∀ (D : va_G) (ad : Nat → Nat) (ca : Nat → ClassId) (rf : Nat → Nat → Option Nat) (σ : Sg) (hS : rngK σ) (hRF : RFok ad rf) (adK adV : Nat → Nat) (tq : Nat) (x0 : Int) (g_x0 : rng x0) (K : Sg → Prop) (hw : wp5_T_advance σ x0 K) (l : Launch) (sz : Nat), Met l yX10_advance (Cond.code yX10_advance cX10_advance 3 none :: gG) { frames := 7, cells := 0, slots := 0, locals := 343 } (cPS RX10 ixT adK adV tq D (tC ca) (wK ad ca rf σ) sz [.ref (ad 3), .int (zI x0)]) (va_Qv (fun (u : Sg) => K u ∧ rngK u) (fun u t => cB D (va_A (wK ad ca rf σ) sz) [] (wK ad ca rf u) t) (va_A (wK ad ca rf σ) sz)) 0 0 (va_A (wK ad ca rf σ) sz) := by
  intro D ad ca rf σ hS hRF adK adV tq x0 g_x0 K hw l sz
  refine Met.ofW (cc := cX10_advance) (maxL := 3) (ret := none) (by decide) rfl ?_
  intro p e s m args below meth c s₁ B hml hv
  obtain ⟨hv, hE⟩ := hv
  obtain ⟨rfl, aks, rfl, Wd⟩ := k_enter hv
  have C : CallFix p m c cX10_advance 3 s _ gG RX10 := ⟨B.exec, B.bytes, hml, findClass_of_methodNamed B.named, fun w h => atoms_spec (ws := Cond.code yX10_advance cX10_advance 3 none :: gG) B.pre w (List.mem_cons_of_mem _ h)⟩
  have hr := B.returns
  have hlk := B.notSynchronized
  generalize va_A (wK ad ca rf σ) s.heap.size = A at Wd hE ⊢
  replace Wd : wXK D ad ca rf s σ s.heap A s.heap [] := ⟨Wd, hS, hRF⟩
  refine k_locals (Nat.le_of_ble_eq_true rfl) [(0, .ref (ad 3)), (1, .int (zI x0))] rfl (fun ls hl => ?_)
  unfold wp5_T_advance at hw
  refine lv_aload_n C.1 C.2.1 dX10_advance_0 rfl (lv_at hl 0 rfl) ?_
  refine lv_aload_n C.1 C.2.1 dX10_advance_1 rfl (lv_at hl 0 rfl) ?_
  refine k_get (v := .int (zI (σ.1 3 5))) C Wd.1 KX10 _ 5 (cx3 _) (by decide) fl_X10_19 rfl dX10_advance_2 ?_
  refine k_putK (v := (σ.1 3 5)) C Wd KX10 3 4 (by decide) (cx3 _) rfl (by decide) fl_X10_22 rfl rfl rfl (Nat.le_of_ble_eq_true rfl) (hS.1 3 5) dX10_advance_5 (fun H locs Wd => ?_)
  refine lv_aload_n C.1 C.2.1 dX10_advance_8 rfl (lv_at hl 0 rfl) ?_
  refine k_get (v := .int (zI (σ.1 3 5))) C Wd.1 KX10 _ 5 (cx3 _) (by decide) fl_X10_19 rfl dX10_advance_9 ?_
  refine lv_istore_n (lv' := [(2, .int (zI (σ.1 3 5))), (0, .ref (ad 3)), (1, .int (zI x0))]) C.1 C.2.1 dX10_advance_12 rfl hl (by decide) rfl (fun ls hl => ?_)
  replace hl := lv_sub hl [1, 2, 0] rfl
  refine k_lp2 hw (fun (l2_13 : Int) (σ13 : Sg) H locs ls => rng l2_13 ∧ wXK D ad ca rf s σ13 H A s.heap locs ∧ lv_has ls 3 [(0, .ref (ad 3)), (1, .int (zI x0)), (2, .int (zI l2_13))]) (fun (l2_13 : Int) (σ13 : Sg) ls => F0 m 13 ls []) (fun L13 hL13 l2_13 σ13 hw H locs ls hi => ?_) _ _ _ ⟨(hS.1 3 5), Wd, lv_sub hl [0, 1, 2] rfl⟩
  obtain ⟨g_l2_13, Wd, hl⟩ := hi
  have hS_σ13 := Wd.2.1
  unfold wp5_T_advance_13 at hw
  refine lv_iload_n C.1 C.2.1 dX10_advance_13 rfl (lv_at hl 2 rfl) ?_
  refine lv_aload_n C.1 C.2.1 dX10_advance_14 rfl (lv_at hl 0 rfl) ?_
  refine k_get (v := .int (zI (σ13.1 3 1))) C Wd.1 KX10 _ 1 (cx3 _) (by decide) fl_X10_15 rfl dX10_advance_15 ?_
  refine k_cut0 (fun H locs ls => wp5_T_advance_54 K x0 σ13 ∧ wXK D ad ca rf s σ13 H A s.heap locs ∧ lv_has ls 3 [(0, .ref (ad 3)), (1, .int (zI x0))]) (fun  ls => F0 m 54 ls []) (fun  H locs ls hi => ?_) (fun J54 => ?_)
  · obtain ⟨hw, Wd, hl⟩ := hi
    unfold wp5_T_advance_54 at hw
    refine lv_aload_n C.1 C.2.1 dX10_advance_54 rfl (lv_at hl 0 rfl) ?_
    refine lv_aload_n C.1 C.2.1 dX10_advance_55 rfl (lv_at hl 0 rfl) ?_
    refine k_get (v := .int (zI (σ13.1 3 4))) C Wd.1 KX10 _ 4 (cx3 _) (by decide) fl_X10_22 rfl dX10_advance_56 ?_
    refine k_pi (k_runVK (rest := []) C aks Wd cs_X10_31 (mk_T_byteAt D ad ca rf σ13 Wd.2.1 Wd.2.2 (σ13.1 3 4) (hS_σ13.1 3 4) _ hw l _) (cx3 _) rfl rfl rfl rfl ⟨(Nat.le_of_ble_eq_true rfl), (Nat.le_of_ble_eq_true rfl)⟩ hl.1 rfl rfl (Nat.le_of_ble_eq_true rfl) ⟨(Nat.le_of_ble_eq_true rfl), (Nat.le_of_ble_eq_true rfl)⟩ dX10_advance_59) (fun y59 hy => ?_)
    obtain ⟨r59, rfl, g_r59, hw⟩ := hy
    refine lv_istore_n (lv' := [(2, .int (zI r59)), (0, .ref (ad 3)), (1, .int (zI x0))]) C.1 C.2.1 dX10_advance_62 rfl hl (by decide) rfl (fun ls hl => ?_)
    replace hl := lv_sub hl [1, 2, 0] rfl
    refine lv_iload_n C.1 C.2.1 dX10_advance_63 rfl (lv_at hl 2 rfl) ?_
    refine k_pi (k_runS (rest := []) C aks Wd.1 cs_X10_35 (mk_T_isLetter D r59 g_r59 _ hw l _) [] rfl (by decide) [] rfl rfl rfl ⟨(Nat.le_of_ble_eq_true rfl), (Nat.le_of_ble_eq_true rfl)⟩ hl.1 rfl rfl (Nat.le_of_ble_eq_true rfl) ⟨(Nat.le_of_ble_eq_true rfl), (Nat.le_of_ble_eq_true rfl)⟩ dX10_advance_64) (fun y64 hy => ?_)
    obtain ⟨r64, rfl, g_r64, hw⟩ := hy
    refine lv_if_eq (tgt := 77) C.1 C.2.1 dX10_advance_67 (by decide) (fun c67 => ?_) (fun c67 => ?_)
    · have hw := hw.1 (z0_eq g_r64 c67)
      refine lv_iload_n C.1 C.2.1 dX10_advance_77 rfl (lv_at hl 2 rfl) ?_
      refine k_pi (k_runS (rest := []) C aks Wd.1 cs_X10_42 (mk_T_isDigit D r59 g_r59 _ hw l _) [] rfl (by decide) [] rfl rfl rfl ⟨(Nat.le_of_ble_eq_true rfl), (Nat.le_of_ble_eq_true rfl)⟩ hl.1 rfl rfl (Nat.le_of_ble_eq_true rfl) ⟨(Nat.le_of_ble_eq_true rfl), (Nat.le_of_ble_eq_true rfl)⟩ dX10_advance_78) (fun y78 hy => ?_)
      obtain ⟨r78, rfl, g_r78, hw⟩ := hy
      refine lv_if_eq (tgt := 91) C.1 C.2.1 dX10_advance_81 (by decide) (fun c81 => ?_) (fun c81 => ?_)
      · have hw := hw.1 (z0_eq g_r78 c81)
        refine lv_aload_n C.1 C.2.1 dX10_advance_91 rfl (lv_at hl 0 rfl) ?_
        refine lv_iload_n C.1 C.2.1 dX10_advance_92 rfl (lv_at hl 2 rfl) ?_
        refine lv_iload_n C.1 C.2.1 dX10_advance_93 rfl (lv_at hl 1 rfl) ?_
        refine k_cKv Wd (k_runVK (rest := []) C aks Wd cs_X10_48 (mk_T_takeSign D ad ca rf σ13 Wd.2.1 Wd.2.2 r59 x0 g_r59 g_x0 _ hw l _) (cx3 _) rfl rfl rfl rfl ⟨(Nat.le_of_ble_eq_true rfl), (Nat.le_of_ble_eq_true rfl)⟩ hl.1 rfl rfl (Nat.le_of_ble_eq_true rfl) ⟨(Nat.le_of_ble_eq_true rfl), (Nat.le_of_ble_eq_true rfl)⟩ dX10_advance_94) (fun σr94 H locs hw Wd => ?_)
        have hS_σr94 := Wd.2.1
        exact k_retKv C hr hlk Wd hw dX10_advance_97
      · have hw := hw.2 (z0_ne g_r78 c81)
        refine lv_aload_n C.1 C.2.1 dX10_advance_84 rfl (lv_at hl 0 rfl) ?_
        refine k_cKv Wd (k_runVK (rest := []) C aks Wd cs_X10_45 (mk_T_takeDigits D ad ca rf σ13 Wd.2.1 Wd.2.2   _ hw l _) (cx3 _) rfl rfl rfl rfl ⟨(Nat.le_of_ble_eq_true rfl), (Nat.le_of_ble_eq_true rfl)⟩ hl.1 rfl rfl (Nat.le_of_ble_eq_true rfl) ⟨(Nat.le_of_ble_eq_true rfl), (Nat.le_of_ble_eq_true rfl)⟩ dX10_advance_85) (fun σr85 H locs hw Wd => ?_)
        have hS_σr85 := Wd.2.1
        refine lv_goto (tgt := 97) C.1 C.2.1 dX10_advance_88 (by decide) ?_
        exact k_retKv C hr hlk Wd hw dX10_advance_97
    · have hw := hw.2 (z0_ne g_r64 c67)
      refine lv_aload_n C.1 C.2.1 dX10_advance_70 rfl (lv_at hl 0 rfl) ?_
      refine k_cKv Wd (k_runVKS (rest := []) C aks hE Wd cs_X10_39 (mk_T_takeLetters D ad ca rf σ13 Wd.2.1 Wd.2.2 adK adV tq   _ hw l _) (cx3 _) rfl rfl rfl rfl ⟨(Nat.le_of_ble_eq_true rfl), (Nat.le_of_ble_eq_true rfl)⟩ hl.1 rfl rfl (Nat.le_of_ble_eq_true rfl) ⟨(Nat.le_of_ble_eq_true rfl), (Nat.le_of_ble_eq_true rfl)⟩ dX10_advance_71) (fun σr71 H locs hw Wd => ?_)
      have hS_σr71 := Wd.2.1
      refine lv_goto (tgt := 97) C.1 C.2.1 dX10_advance_74 (by decide) ?_
      exact k_retKv C hr hlk Wd hw dX10_advance_97
  refine lv_icmp_ge (tgt := 54) C.1 C.2.1 dX10_advance_18 (by decide) (fun c18 => ?_) (fun c18 => ?_)
  · have hw := hw.1 (z_le (hS_σ13.1 3 1) g_l2_13 c18)
    exact J54  _ _ _ ⟨hw, Wd, lv_sub hl [0, 1] rfl⟩
  · have hw := hw.2 (z_nle (hS_σ13.1 3 1) g_l2_13 c18)
    refine lv_aload_n C.1 C.2.1 dX10_advance_21 rfl (lv_at hl 0 rfl) ?_
    refine lv_iload_n C.1 C.2.1 dX10_advance_22 rfl (lv_at hl 2 rfl) ?_
    refine k_pi (k_runVK (rest := []) C aks Wd cs_X10_31 (mk_T_byteAt D ad ca rf σ13 Wd.2.1 Wd.2.2 l2_13 g_l2_13 _ hw l _) (cx3 _) rfl rfl rfl rfl ⟨(Nat.le_of_ble_eq_true rfl), (Nat.le_of_ble_eq_true rfl)⟩ hl.1 rfl rfl (Nat.le_of_ble_eq_true rfl) ⟨(Nat.le_of_ble_eq_true rfl), (Nat.le_of_ble_eq_true rfl)⟩ dX10_advance_23) (fun y23 hy => ?_)
    obtain ⟨r23, rfl, g_r23, hw⟩ := hy
    refine lv_bipush (v := zI 32) C.1 C.2.1 dX10_advance_26 (by decide) ?_
    refine lv_icmp_eq (tgt := 41) C.1 C.2.1 dX10_advance_28 (by decide) (fun c28 => ?_) (fun c28 => ?_)
    · have hw := hw.1 (z_eq g_r23 (show rng 32 from by decide) c28)
      refine lv_aload_n C.1 C.2.1 dX10_advance_41 rfl (lv_at hl 0 rfl) ?_
      refine lv_iload_n C.1 C.2.1 dX10_advance_42 rfl (lv_at hl 2 rfl) ?_
      refine lv_iconst (v := zI 1) C.1 C.2.1 dX10_advance_43 (by decide) ?_
      refine k_iadd (v := zI (l2_13 + 1)) C (zI_iadd _ _) dX10_advance_44 ?_
      obtain ⟨g45_8, hw⟩ := hw
      refine k_putK (v := (l2_13 + 1)) C Wd KX10 3 4 (by decide) (cx3 _) rfl (by decide) fl_X10_22 rfl rfl rfl (Nat.le_of_ble_eq_true rfl) g45_8 dX10_advance_45 (fun H locs Wd => ?_)
      refine lv_iinc (v := zI (l2_13 + 1)) (lv' := [(2, .int (zI (l2_13 + 1))), (0, .ref (ad 3)), (1, .int (zI x0))]) C.1 C.2.1 dX10_advance_48 hl (k := 2) rfl (zI_inc _ _ (by decide)) (by decide) rfl (fun ls hl => ?_)
      replace hl := lv_sub hl [1, 2, 0] rfl
      refine lv_goto (tgt := 13) C.1 C.2.1 dX10_advance_51 (by decide) ?_
      exact hL13 _ _ hw _ _ _ ⟨g45_8, Wd, lv_sub hl [0, 1, 2] rfl⟩
    · have hw := hw.2 (z_ne g_r23 (show rng 32 from by decide) c28)
      refine lv_aload_n C.1 C.2.1 dX10_advance_31 rfl (lv_at hl 0 rfl) ?_
      refine lv_iload_n C.1 C.2.1 dX10_advance_32 rfl (lv_at hl 2 rfl) ?_
      refine k_pi (k_runVK (rest := []) C aks Wd cs_X10_31 (mk_T_byteAt D ad ca rf σ13 Wd.2.1 Wd.2.2 l2_13 g_l2_13 _ hw l _) (cx3 _) rfl rfl rfl rfl ⟨(Nat.le_of_ble_eq_true rfl), (Nat.le_of_ble_eq_true rfl)⟩ hl.1 rfl rfl (Nat.le_of_ble_eq_true rfl) ⟨(Nat.le_of_ble_eq_true rfl), (Nat.le_of_ble_eq_true rfl)⟩ dX10_advance_33) (fun y33 hy => ?_)
      obtain ⟨r33, rfl, g_r33, hw⟩ := hy
      refine lv_bipush (v := zI 10) C.1 C.2.1 dX10_advance_36 (by decide) ?_
      refine lv_icmp_ne (tgt := 54) C.1 C.2.1 dX10_advance_38 (by decide) (fun c38 => ?_) (fun c38 => ?_)
      · have hw := hw.1 (z_ne g_r33 (show rng 10 from by decide) c38)
        exact J54  _ _ _ ⟨hw, Wd, lv_sub hl [0, 1] rfl⟩
      · have hw := hw.2 (z_eq g_r33 (show rng 10 from by decide) c38)
        refine lv_aload_n C.1 C.2.1 dX10_advance_41 rfl (lv_at hl 0 rfl) ?_
        refine lv_iload_n C.1 C.2.1 dX10_advance_42 rfl (lv_at hl 2 rfl) ?_
        refine lv_iconst (v := zI 1) C.1 C.2.1 dX10_advance_43 (by decide) ?_
        refine k_iadd (v := zI (l2_13 + 1)) C (zI_iadd _ _) dX10_advance_44 ?_
        obtain ⟨g45_9, hw⟩ := hw
        refine k_putK (v := (l2_13 + 1)) C Wd KX10 3 4 (by decide) (cx3 _) rfl (by decide) fl_X10_22 rfl rfl rfl (Nat.le_of_ble_eq_true rfl) g45_9 dX10_advance_45 (fun H locs Wd => ?_)
        refine lv_iinc (v := zI (l2_13 + 1)) (lv' := [(2, .int (zI (l2_13 + 1))), (0, .ref (ad 3)), (1, .int (zI x0))]) C.1 C.2.1 dX10_advance_48 hl (k := 2) rfl (zI_inc _ _ (by decide)) (by decide) rfl (fun ls hl => ?_)
        replace hl := lv_sub hl [1, 2, 0] rfl
        refine lv_goto (tgt := 13) C.1 C.2.1 dX10_advance_51 (by decide) ?_
        exact hL13 _ _ hw _ _ _ ⟨g45_9, Wd, lv_sub hl [0, 1, 2] rfl⟩
set_option maxHeartbeats 4000000 in
set_option maxRecDepth 100000 in
theorem mk_W_add : ∀ (D : va_G) (ad : Nat → Nat) (ca : Nat → ClassId) (rf : Nat → Nat → Option Nat) (σ : Sg) (hS : rngK σ) (hRF : RFok ad rf) (n0 : Int) (x0 : Int) (h_n0 : 0 ≤ n0 ∧ n0 < 35) (g_x0 : rng x0) (K : Sg → Prop) (hw : wp5_W_add σ n0 x0 K) (l : Launch) (sz : Nat), Met l yX8_add (Cond.code yX8_add cX8_add 2 none :: gG) { frames := 1, cells := 0, slots := 0, locals := 64 } (cPre D (tC ca) (wK ad ca rf σ) sz [.ref (ad (rowC n0.toNat)), .int (zI x0)]) (va_Qv (fun (u : Sg) => K u ∧ rngK u) (fun u t => cB D (va_A (wK ad ca rf σ) sz) [] (wK ad ca rf u) t) (va_A (wK ad ca rf σ) sz)) 0 0 (va_A (wK ad ca rf σ) sz) := by
  intro D ad ca rf σ hS hRF n0 x0 h_n0 g_x0 K hw l sz
  refine Met.ofW (cc := cX8_add) (maxL := 2) (ret := none) (by decide) rfl ?_
  intro p e s m args below meth c s₁ B hml hv
  obtain ⟨rfl, aks, rfl, Wd⟩ := k_enter hv
  have C : CallFix p m c cX8_add 2 s _ gG RX8 := ⟨B.exec, B.bytes, hml, findClass_of_methodNamed B.named, fun w h => atoms_spec (ws := Cond.code yX8_add cX8_add 2 none :: gG) B.pre w (List.mem_cons_of_mem _ h)⟩
  have hr := B.returns
  have hlk := B.notSynchronized
  generalize va_A (wK ad ca rf σ) s.heap.size = A at Wd ⊢
  replace Wd : wXK D ad ca rf s σ s.heap A s.heap [] := ⟨Wd, hS, hRF⟩
  refine k_locals (Nat.le_of_ble_eq_true rfl) [(0, .ref (ad (rowC n0.toNat))), (1, .int (zI x0))] rfl (fun ls hl => ?_)
  unfold wp5_W_add at hw
  refine lv_aload_n C.1 C.2.1 dX8_add_0 rfl (lv_at hl 0 rfl) ?_
  refine k_get (v := .int (zI (σ.2.2.1 0 n0))) C Wd.1 KX8 _ 1 (cxRow h_n0) (by decide) fl_X8_21 rfl dX8_add_1 ?_
  refine lv_aload_n C.1 C.2.1 dX8_add_4 rfl (lv_at hl 0 rfl) ?_
  refine k_get (v := .ref (ad ((rowC n0.toNat) + 1))) C Wd.1 KX8 _ 0 (cxRow h_n0) (by decide) fl_X8_15 rfl dX8_add_5 ?_
  refine k_lenR (n := n0) C Wd h_n0 dX8_add_8 ?_
  refine lv_icmp_ge (tgt := 32) C.1 C.2.1 dX8_add_9 (by decide) (fun c9 => ?_) (fun c9 => ?_)
  · have hw := hw.1 (z_le (rng_cap _) (rgY hS (N := 35) h_n0) c9)
    exact k_retKv C hr hlk Wd hw dX8_add_32
  · have hw := hw.2 (z_nle (rng_cap _) (rgY hS (N := 35) h_n0) c9)
    refine lv_aload_n C.1 C.2.1 dX8_add_12 rfl (lv_at hl 0 rfl) ?_
    refine k_get (v := .ref (ad ((rowC n0.toNat) + 1))) C Wd.1 KX8 _ 0 (cxRow h_n0) (by decide) fl_X8_15 rfl dX8_add_13 ?_
    refine lv_aload_n C.1 C.2.1 dX8_add_16 rfl (lv_at hl 0 rfl) ?_
    refine k_get (v := .int (zI (σ.2.2.1 0 n0))) C Wd.1 KX8 _ 1 (cxRow h_n0) (by decide) fl_X8_21 rfl dX8_add_17 ?_
    refine lv_iload_n C.1 C.2.1 dX8_add_20 rfl (lv_at hl 1 rfl) ?_
    obtain ⟨n21_0, hw⟩ := hw
    refine k_iastR (n := n0) (g := (σ.2.2.2 0 n0)) (i := (σ.2.2.1 0 n0)) (v := x0) C Wd h_n0 rfl n21_0 (ruZ (rgZ (c := 0) Wd.2.1 h_n0) g_x0) dX8_add_21 (fun H locs Wd => ?_)
    refine lv_aload_n C.1 C.2.1 dX8_add_22 rfl (lv_at hl 0 rfl) ?_
    refine lv_dup C.1 C.2.1 dX8_add_23 rfl ?_
    refine k_get (v := .int (zI (σ.2.2.1 0 n0))) C Wd.1 KX8 _ 1 (cxRow h_n0) (by decide) fl_X8_21 rfl dX8_add_24 ?_
    refine lv_iconst (v := zI 1) C.1 C.2.1 dX8_add_27 (by decide) ?_
    refine k_iadd (v := zI ((σ.2.2.1 0 n0) + 1)) C (zI_iadd _ _) dX8_add_28 ?_
    obtain ⟨g29_1, hw⟩ := hw
    refine k_putRL (n := n0) (v := ((σ.2.2.1 0 n0) + 1)) C Wd h_n0 fl_X8_21 g29_1 dX8_add_29 (fun H locs Wd => ?_)
    exact k_retKv C hr hlk Wd hw dX8_add_32
set_option maxHeartbeats 4000000 in
set_option maxRecDepth 100000 in
theorem mk_R_closeBlock : ∀ (D : va_G) (ad : Nat → Nat) (ca : Nat → ClassId) (rf : Nat → Nat → Option Nat) (σ : Sg) (hS : rngK σ) (hRF : RFok ad rf) (K : Sg → Prop) (hw : wp5_R_closeBlock σ K) (l : Launch) (sz : Nat), Met l yX6_closeBlock (Cond.code yX6_closeBlock cX6_closeBlock 1 none :: gG) { frames := 2, cells := 0, slots := 0, locals := 85 } (cPre D (tC ca) (wK ad ca rf σ) sz [.ref (ad 2)]) (va_Qv (fun (u : Sg) => K u ∧ rngK u) (fun u t => cB D (va_A (wK ad ca rf σ) sz) [] (wK ad ca rf u) t) (va_A (wK ad ca rf σ) sz)) 0 0 (va_A (wK ad ca rf σ) sz) := by
  intro D ad ca rf σ hS hRF  K hw l sz
  refine Met.ofW (cc := cX6_closeBlock) (maxL := 1) (ret := none) (by decide) rfl ?_
  intro p e s m args below meth c s₁ B hml hv
  obtain ⟨rfl, aks, rfl, Wd⟩ := k_enter hv
  have C : CallFix p m c cX6_closeBlock 1 s _ gG RX6 := ⟨B.exec, B.bytes, hml, findClass_of_methodNamed B.named, fun w h => atoms_spec (ws := Cond.code yX6_closeBlock cX6_closeBlock 1 none :: gG) B.pre w (List.mem_cons_of_mem _ h)⟩
  have hr := B.returns
  have hlk := B.notSynchronized
  generalize va_A (wK ad ca rf σ) s.heap.size = A at Wd ⊢
  replace Wd : wXK D ad ca rf s σ s.heap A s.heap [] := ⟨Wd, hS, hRF⟩
  refine k_locals (Nat.le_of_ble_eq_true rfl) [(0, .ref (ad 2))] rfl (fun ls hl => ?_)
  unfold wp5_R_closeBlock at hw
  refine lv_aload_n C.1 C.2.1 dX6_closeBlock_0 rfl (lv_at hl 0 rfl) ?_
  refine k_get (v := .int (zI (σ.1 2 13))) C Wd.1 KX6 _ 13 (cx2 _) (by decide) fl_X6_82 rfl dX6_closeBlock_1 ?_
  refine lv_if_le (tgt := 16) C.1 C.2.1 dX6_closeBlock_4 (by decide) (fun c4 => ?_) (fun c4 => ?_)
  · have hw := hw.1 (z0_le (hS.1 2 13) c4)
    exact k_retKv C hr hlk Wd hw dX6_closeBlock_16
  · have hw := hw.2 (z0_nle (hS.1 2 13) c4)
    refine lv_aload_n C.1 C.2.1 dX6_closeBlock_7 rfl (lv_at hl 0 rfl) ?_
    refine k_get (v := .int (zI (σ.1 2 13))) C Wd.1 KX6 _ 13 (cx2 _) (by decide) fl_X6_82 rfl dX6_closeBlock_8 ?_
    refine lv_bipush (v := zI 8) C.1 C.2.1 dX6_closeBlock_11 (by decide) ?_
    refine lv_icmp_le (tgt := 17) C.1 C.2.1 dX6_closeBlock_13 (by decide) (fun c13 => ?_) (fun c13 => ?_)
    · have hw := hw.1 (z_le (hS.1 2 13) (show rng 8 from by decide) c13)
      refine lv_aload_n C.1 C.2.1 dX6_closeBlock_17 rfl (lv_at hl 0 rfl) ?_
      refine lv_dup C.1 C.2.1 dX6_closeBlock_18 rfl ?_
      refine k_get (v := .int (zI (σ.1 2 13))) C Wd.1 KX6 _ 13 (cx2 _) (by decide) fl_X6_82 rfl dX6_closeBlock_19 ?_
      refine lv_iconst (v := zI 1) C.1 C.2.1 dX6_closeBlock_22 (by decide) ?_
      refine k_isub (v := zI ((σ.1 2 13) - 1)) C (zI_isub _ _) dX6_closeBlock_23 ?_
      obtain ⟨g24_1, hw⟩ := hw
      refine k_putK (v := ((σ.1 2 13) - 1)) C Wd KX6 2 13 (by decide) (cx2 _) rfl (by decide) fl_X6_82 rfl rfl rfl (Nat.le_of_ble_eq_true rfl) g24_1 dX6_closeBlock_24 (fun H locs Wd => ?_)
      refine lv_aload_n C.1 C.2.1 dX6_closeBlock_27 rfl (lv_at hl 0 rfl) ?_
      refine k_get (v := .ref (ad 5)) C Wd.1 KX6 _ 14 (cx2 _) (by decide) fl_X6_27 rfl dX6_closeBlock_28 ?_
      refine lv_aload_n C.1 C.2.1 dX6_closeBlock_31 rfl (lv_at hl 0 rfl) ?_
      refine k_get (v := .int (zI ((σ.1 2 13) - 1))) C Wd.1 KX6 _ 13 (cx2 _) (by decide) fl_X6_82 rfl dX6_closeBlock_32 ?_
      obtain ⟨n35_1, hw⟩ := hw
      refine k_ialdK (g := (σ.2.1 5)) C Wd (cx5 _) (tC_at (by decide) rfl) n35_1 (by decide) dX6_closeBlock_35 ?_
      have ga35 : rng (σ.2.1 5 ((σ.1 2 13) - 1)) := rngL (fun j => (Wd.2.1).2.1 5 j) n35_1
      refine lv_bipush (v := zI 112) C.1 C.2.1 dX6_closeBlock_36 (by decide) ?_
      refine lv_icmp_ne (tgt := 58) C.1 C.2.1 dX6_closeBlock_38 (by decide) (fun c38 => ?_) (fun c38 => ?_)
      · have hw := hw.1 (z_ne ga35 (show rng 112 from by decide) c38)
        refine lv_aload_n C.1 C.2.1 dX6_closeBlock_58 rfl (lv_at hl 0 rfl) ?_
        obtain ⟨n59_0, hw⟩ := hw
        refine k_get (v := .ref (ad (rowC (σ.1 2 3).toNat))) C Wd.1 KX6 _ 3 (cx2 _) (by decide) fl_X6_23 (congrArg some (rvR_ref n59_0)) dX6_closeBlock_59 ?_
        refine lv_bipush (v := zI 114) C.1 C.2.1 dX6_closeBlock_62 (by decide) ?_
        refine k_cKv Wd (k_runVK (rest := []) C aks Wd cs_X6_119 (mk_W_add D ad ca rf (pU σ 2 13 ((σ.1 2 13) - 1)) Wd.2.1 Wd.2.2 (σ.1 2 3) 114 n59_0 (show rng 114 from by decide) _ hw l _) (cxRow n59_0) rfl rfl rfl rfl ⟨(Nat.le_of_ble_eq_true rfl), (Nat.le_of_ble_eq_true rfl)⟩ hl.1 rfl rfl (Nat.le_of_ble_eq_true rfl) ⟨(Nat.le_of_ble_eq_true rfl), (Nat.le_of_ble_eq_true rfl)⟩ dX6_closeBlock_64) (fun σr64 H locs hw Wd => ?_)
        have hS_σr64 := Wd.2.1
        refine lv_aload_n C.1 C.2.1 dX6_closeBlock_67 rfl (lv_at hl 0 rfl) ?_
        refine lv_iconst (v := zI 0) C.1 C.2.1 dX6_closeBlock_68 (by decide) ?_
        refine k_putK (v := 0) C Wd KX6 2 5 (by decide) (cx2 _) rfl (by decide) fl_X6_52 rfl rfl rfl (Nat.le_of_ble_eq_true rfl) (show rng 0 from by decide) dX6_closeBlock_69 (fun H locs Wd => ?_)
        exact k_retKv C hr hlk Wd hw dX6_closeBlock_72
      · have hw := hw.2 (z_eq ga35 (show rng 112 from by decide) c38)
        refine lv_aload_n C.1 C.2.1 dX6_closeBlock_41 rfl (lv_at hl 0 rfl) ?_
        obtain ⟨n42_0, hw⟩ := hw
        refine k_get (v := .ref (ad (rowC (σ.1 2 3).toNat))) C Wd.1 KX6 _ 3 (cx2 _) (by decide) fl_X6_23 (congrArg some (rvR_ref n42_0)) dX6_closeBlock_42 ?_
        refine lv_bipush (v := zI 113) C.1 C.2.1 dX6_closeBlock_45 (by decide) ?_
        refine k_cKv Wd (k_runVK (rest := []) C aks Wd cs_X6_119 (mk_W_add D ad ca rf (pU σ 2 13 ((σ.1 2 13) - 1)) Wd.2.1 Wd.2.2 (σ.1 2 3) 113 n42_0 (show rng 113 from by decide) _ hw l _) (cxRow n42_0) rfl rfl rfl rfl ⟨(Nat.le_of_ble_eq_true rfl), (Nat.le_of_ble_eq_true rfl)⟩ hl.1 rfl rfl (Nat.le_of_ble_eq_true rfl) ⟨(Nat.le_of_ble_eq_true rfl), (Nat.le_of_ble_eq_true rfl)⟩ dX6_closeBlock_47) (fun σr47 H locs hw Wd => ?_)
        have hS_σr47 := Wd.2.1
        refine lv_aload_n C.1 C.2.1 dX6_closeBlock_50 rfl (lv_at hl 0 rfl) ?_
        refine lv_iconst (v := zI 1) C.1 C.2.1 dX6_closeBlock_51 (by decide) ?_
        refine k_putK (v := 1) C Wd KX6 2 5 (by decide) (cx2 _) rfl (by decide) fl_X6_52 rfl rfl rfl (Nat.le_of_ble_eq_true rfl) (show rng 1 from by decide) dX6_closeBlock_52 (fun H locs Wd => ?_)
        refine lv_goto (tgt := 72) C.1 C.2.1 dX6_closeBlock_55 (by decide) ?_
        exact k_retKv C hr hlk Wd hw dX6_closeBlock_72
    · have hw := hw.2 (z_nle (hS.1 2 13) (show rng 8 from by decide) c13)
      exact k_retKv C hr hlk Wd hw dX6_closeBlock_16
set_option maxHeartbeats 4000000 in
set_option maxRecDepth 100000 in
theorem mk_R_refuse : ∀ (D : va_G) (ad : Nat → Nat) (ca : Nat → ClassId) (rf : Nat → Nat → Option Nat) (σ : Sg) (hS : rngK σ) (hRF : RFok ad rf) (x0 : Int) (g_x0 : rng x0) (K : Sg → Prop) (hw : wp5_R_refuse σ x0 K) (l : Launch) (sz : Nat), Met l yX6_refuse (Cond.code yX6_refuse cX6_refuse 2 none :: gG) { frames := 1, cells := 0, slots := 0, locals := 64 } (cPre D (tC ca) (wK ad ca rf σ) sz [.ref (ad 2), .int (zI x0)]) (va_Qv (fun (u : Sg) => K u ∧ rngK u) (fun u t => cB D (va_A (wK ad ca rf σ) sz) [] (wK ad ca rf u) t) (va_A (wK ad ca rf σ) sz)) 0 0 (va_A (wK ad ca rf σ) sz) := by
  intro D ad ca rf σ hS hRF x0 g_x0 K hw l sz
  refine Met.ofW (cc := cX6_refuse) (maxL := 2) (ret := none) (by decide) rfl ?_
  intro p e s m args below meth c s₁ B hml hv
  obtain ⟨rfl, aks, rfl, Wd⟩ := k_enter hv
  have C : CallFix p m c cX6_refuse 2 s _ gG RX6 := ⟨B.exec, B.bytes, hml, findClass_of_methodNamed B.named, fun w h => atoms_spec (ws := Cond.code yX6_refuse cX6_refuse 2 none :: gG) B.pre w (List.mem_cons_of_mem _ h)⟩
  have hr := B.returns
  have hlk := B.notSynchronized
  generalize va_A (wK ad ca rf σ) s.heap.size = A at Wd ⊢
  replace Wd : wXK D ad ca rf s σ s.heap A s.heap [] := ⟨Wd, hS, hRF⟩
  refine k_locals (Nat.le_of_ble_eq_true rfl) [(0, .ref (ad 2)), (1, .int (zI x0))] rfl (fun ls hl => ?_)
  unfold wp5_R_refuse at hw
  refine lv_aload_n C.1 C.2.1 dX6_refuse_0 rfl (lv_at hl 0 rfl) ?_
  refine lv_iload_n C.1 C.2.1 dX6_refuse_1 rfl (lv_at hl 1 rfl) ?_
  refine k_putK (v := x0) C Wd KX6 2 1 (by decide) (cx2 _) rfl (by decide) fl_X6_37 rfl rfl rfl (Nat.le_of_ble_eq_true rfl) g_x0 dX6_refuse_2 (fun H locs Wd => ?_)
  refine lv_aload_n C.1 C.2.1 dX6_refuse_5 rfl (lv_at hl 0 rfl) ?_
  refine lv_aload_n C.1 C.2.1 dX6_refuse_6 rfl (lv_at hl 0 rfl) ?_
  refine k_get (v := .ref (ad 3)) C Wd.1 KX6 _ 0 (cx2 _) (by decide) fl_X6_12 rfl dX6_refuse_7 ?_
  refine k_get (v := .int (zI (σ.1 3 4))) C Wd.1 KX10 _ 4 (cx3 _) (by decide) fl_X6_116 rfl dX6_refuse_10 ?_
  refine k_putK (v := (σ.1 3 4)) C Wd KX6 2 2 (by decide) (cx2 _) rfl (by decide) fl_X6_41 rfl rfl rfl (Nat.le_of_ble_eq_true rfl) (hS.1 3 4) dX6_refuse_13 (fun H locs Wd => ?_)
  exact k_retKv C hr hlk Wd hw dX6_refuse_16
set_option maxHeartbeats 4000000 in
set_option maxRecDepth 100000 in
theorem mk_R_beginExpression : ∀ (D : va_G) (ad : Nat → Nat) (ca : Nat → ClassId) (rf : Nat → Nat → Option Nat) (σ : Sg) (hS : rngK σ) (hRF : RFok ad rf) (x0 : Int) (g_x0 : rng x0) (K : Sg → Prop) (hw : wp5_R_beginExpression σ x0 K) (l : Launch) (sz : Nat), Met l yX6_beginExpression (Cond.code yX6_beginExpression cX6_beginExpression 2 none :: gG) { frames := 1, cells := 0, slots := 0, locals := 64 } (cPre D (tC ca) (wK ad ca rf σ) sz [.ref (ad 2), .int (zI x0)]) (va_Qv (fun (u : Sg) => K u ∧ rngK u) (fun u t => cB D (va_A (wK ad ca rf σ) sz) [] (wK ad ca rf u) t) (va_A (wK ad ca rf σ) sz)) 0 0 (va_A (wK ad ca rf σ) sz) := by
  intro D ad ca rf σ hS hRF x0 g_x0 K hw l sz
  refine Met.ofW (cc := cX6_beginExpression) (maxL := 2) (ret := none) (by decide) rfl ?_
  intro p e s m args below meth c s₁ B hml hv
  obtain ⟨rfl, aks, rfl, Wd⟩ := k_enter hv
  have C : CallFix p m c cX6_beginExpression 2 s _ gG RX6 := ⟨B.exec, B.bytes, hml, findClass_of_methodNamed B.named, fun w h => atoms_spec (ws := Cond.code yX6_beginExpression cX6_beginExpression 2 none :: gG) B.pre w (List.mem_cons_of_mem _ h)⟩
  have hr := B.returns
  have hlk := B.notSynchronized
  generalize va_A (wK ad ca rf σ) s.heap.size = A at Wd ⊢
  replace Wd : wXK D ad ca rf s σ s.heap A s.heap [] := ⟨Wd, hS, hRF⟩
  refine k_locals (Nat.le_of_ble_eq_true rfl) [(0, .ref (ad 2)), (1, .int (zI x0))] rfl (fun ls hl => ?_)
  unfold wp5_R_beginExpression at hw
  refine lv_aload_n C.1 C.2.1 dX6_beginExpression_0 rfl (lv_at hl 0 rfl) ?_
  refine lv_iload_n C.1 C.2.1 dX6_beginExpression_1 rfl (lv_at hl 1 rfl) ?_
  refine k_putK (v := x0) C Wd KX6 2 6 (by decide) (cx2 _) rfl (by decide) fl_X6_140 rfl rfl rfl (Nat.le_of_ble_eq_true rfl) g_x0 dX6_beginExpression_2 (fun H locs Wd => ?_)
  refine lv_aload_n C.1 C.2.1 dX6_beginExpression_5 rfl (lv_at hl 0 rfl) ?_
  refine lv_aload_n C.1 C.2.1 dX6_beginExpression_6 rfl (lv_at hl 0 rfl) ?_
  obtain ⟨n7_0, hw⟩ := hw
  refine k_get (v := .ref (ad (rowC (σ.1 2 3).toNat))) C Wd.1 KX6 _ 3 (cx2 _) (by decide) fl_X6_23 (congrArg some (rvR_ref n7_0)) dX6_beginExpression_7 ?_
  refine k_get (v := .int (zI (σ.2.2.1 0 (σ.1 2 3)))) C Wd.1 KX8 _ 1 (cxRow n7_0) (by decide) fl_X6_66 rfl dX6_beginExpression_10 ?_
  refine k_putK (v := (σ.2.2.1 0 (σ.1 2 3))) C Wd KX6 2 10 (by decide) (cx2 _) rfl (by decide) fl_X6_143 rfl rfl rfl (Nat.le_of_ble_eq_true rfl) (rgY hS (N := 35) n7_0) dX6_beginExpression_13 (fun H locs Wd => ?_)
  refine lv_aload_n C.1 C.2.1 dX6_beginExpression_16 rfl (lv_at hl 0 rfl) ?_
  refine lv_aload_n C.1 C.2.1 dX6_beginExpression_17 rfl (lv_at hl 0 rfl) ?_
  refine k_get (v := .ref (ad (rowC (σ.1 2 3).toNat))) C Wd.1 KX6 _ 3 (cx2 _) (by decide) fl_X6_23 (congrArg some (rvR_ref n7_0)) dX6_beginExpression_18 ?_
  refine k_get (v := .int (zI (σ.2.2.1 0 (σ.1 2 3)))) C Wd.1 KX8 _ 1 (cxRow n7_0) (by decide) fl_X6_66 rfl dX6_beginExpression_21 ?_
  refine k_putK (v := (σ.2.2.1 0 (σ.1 2 3))) C Wd KX6 2 11 (by decide) (cx2 _) rfl (by decide) fl_X6_146 rfl rfl rfl (Nat.le_of_ble_eq_true rfl) (rgY hS (N := 35) n7_0) dX6_beginExpression_24 (fun H locs Wd => ?_)
  refine lv_aload_n C.1 C.2.1 dX6_beginExpression_27 rfl (lv_at hl 0 rfl) ?_
  refine lv_iconst (v := zI 5) C.1 C.2.1 dX6_beginExpression_28 (by decide) ?_
  refine k_putK (v := 5) C Wd KX6 2 5 (by decide) (cx2 _) rfl (by decide) fl_X6_52 rfl rfl rfl (Nat.le_of_ble_eq_true rfl) (show rng 5 from by decide) dX6_beginExpression_29 (fun H locs Wd => ?_)
  exact k_retKv C hr hlk Wd hw dX6_beginExpression_32
set_option maxHeartbeats 4000000 in
set_option maxRecDepth 100000 in
theorem mk_R_beginStatement : ∀ (D : va_G) (ad : Nat → Nat) (ca : Nat → ClassId) (rf : Nat → Nat → Option Nat) (σ : Sg) (hS : rngK σ) (hRF : RFok ad rf) (x0 : Int) (g_x0 : rng x0) (K : Sg → Prop) (hw : wp5_R_beginStatement σ x0 K) (l : Launch) (sz : Nat), Met l yX6_beginStatement (Cond.code yX6_beginStatement cX6_beginStatement 2 none :: gG) { frames := 2, cells := 0, slots := 0, locals := 85 } (cPre D (tC ca) (wK ad ca rf σ) sz [.ref (ad 2), .int (zI x0)]) (va_Qv (fun (u : Sg) => K u ∧ rngK u) (fun u t => cB D (va_A (wK ad ca rf σ) sz) [] (wK ad ca rf u) t) (va_A (wK ad ca rf σ) sz)) 0 0 (va_A (wK ad ca rf σ) sz) := by
  intro D ad ca rf σ hS hRF x0 g_x0 K hw l sz
  refine Met.ofW (cc := cX6_beginStatement) (maxL := 2) (ret := none) (by decide) rfl ?_
  intro p e s m args below meth c s₁ B hml hv
  obtain ⟨rfl, aks, rfl, Wd⟩ := k_enter hv
  have C : CallFix p m c cX6_beginStatement 2 s _ gG RX6 := ⟨B.exec, B.bytes, hml, findClass_of_methodNamed B.named, fun w h => atoms_spec (ws := Cond.code yX6_beginStatement cX6_beginStatement 2 none :: gG) B.pre w (List.mem_cons_of_mem _ h)⟩
  have hr := B.returns
  have hlk := B.notSynchronized
  generalize va_A (wK ad ca rf σ) s.heap.size = A at Wd ⊢
  replace Wd : wXK D ad ca rf s σ s.heap A s.heap [] := ⟨Wd, hS, hRF⟩
  refine k_locals (Nat.le_of_ble_eq_true rfl) [(0, .ref (ad 2)), (1, .int (zI x0))] rfl (fun ls hl => ?_)
  unfold wp5_R_beginStatement at hw
  refine lv_iload_n C.1 C.2.1 dX6_beginStatement_0 rfl (lv_at hl 1 rfl) ?_
  refine lv_iconst (v := zI 4) C.1 C.2.1 dX6_beginStatement_1 (by decide) ?_
  refine lv_icmp_ne (tgt := 22) C.1 C.2.1 dX6_beginStatement_2 (by decide) (fun c2 => ?_) (fun c2 => ?_)
  · have hw := hw.1 (z_ne g_x0 (show rng 4 from by decide) c2)
    refine lv_iload_n C.1 C.2.1 dX6_beginStatement_22 rfl (lv_at hl 1 rfl) ?_
    refine lv_iconst (v := zI 5) C.1 C.2.1 dX6_beginStatement_23 (by decide) ?_
    refine lv_icmp_ne (tgt := 44) C.1 C.2.1 dX6_beginStatement_24 (by decide) (fun c24 => ?_) (fun c24 => ?_)
    · have hw := hw.1 (z_ne g_x0 (show rng 5 from by decide) c24)
      refine lv_iload_n C.1 C.2.1 dX6_beginStatement_44 rfl (lv_at hl 1 rfl) ?_
      refine lv_iconst (v := zI 3) C.1 C.2.1 dX6_beginStatement_45 (by decide) ?_
      refine lv_icmp_ne (tgt := 74) C.1 C.2.1 dX6_beginStatement_46 (by decide) (fun c46 => ?_) (fun c46 => ?_)
      · have hw := hw.1 (z_ne g_x0 (show rng 3 from by decide) c46)
        refine lv_aload_n C.1 C.2.1 dX6_beginStatement_74 rfl (lv_at hl 0 rfl) ?_
        obtain ⟨n75_0, hw⟩ := hw
        refine k_get (v := .ref (ad (rowC (σ.1 2 3).toNat))) C Wd.1 KX6 _ 3 (cx2 _) (by decide) fl_X6_23 (congrArg some (rvR_ref n75_0)) dX6_beginStatement_75 ?_
        refine lv_iload_n C.1 C.2.1 dX6_beginStatement_78 rfl (lv_at hl 1 rfl) ?_
        refine lv_bipush (v := zI 6) C.1 C.2.1 dX6_beginStatement_79 (by decide) ?_
        refine k_cut1 (fun (s0_91 : Int) H locs ls => rng s0_91 ∧ wp5_R_beginStatement_91 K σ s0_91 ∧ wXK D ad ca rf s σ H A s.heap locs ∧ lv_has ls 2 [(0, .ref (ad 2))]) (fun (s0_91 : Int) ls => F0 m 91 ls [.int (zI s0_91), .ref (ad (rowC (σ.1 2 3).toNat))]) (fun s0_91 H locs ls hi => ?_) (fun J91 => ?_)
        · obtain ⟨g_s0_91, hw, Wd, hl⟩ := hi
          unfold wp5_R_beginStatement_91 at hw
          refine k_cKv Wd (k_runVK (rest := []) C aks Wd cs_X6_119 (mk_W_add D ad ca rf σ Wd.2.1 Wd.2.2 (σ.1 2 3) s0_91 n75_0 g_s0_91 _ hw l _) (cxRow n75_0) rfl rfl rfl rfl ⟨(Nat.le_of_ble_eq_true rfl), (Nat.le_of_ble_eq_true rfl)⟩ hl.1 rfl rfl (Nat.le_of_ble_eq_true rfl) ⟨(Nat.le_of_ble_eq_true rfl), (Nat.le_of_ble_eq_true rfl)⟩ dX6_beginStatement_91) (fun σr91 H locs hw Wd => ?_)
          have hS_σr91 := Wd.2.1
          refine lv_aload_n C.1 C.2.1 dX6_beginStatement_94 rfl (lv_at hl 0 rfl) ?_
          refine lv_aload_n C.1 C.2.1 dX6_beginStatement_95 rfl (lv_at hl 0 rfl) ?_
          obtain ⟨n96_0, hw⟩ := hw
          refine k_get (v := .ref (ad (rowC (σr91.1 2 3).toNat))) C Wd.1 KX6 _ 3 (cx2 _) (by decide) fl_X6_23 (congrArg some (rvR_ref n96_0)) dX6_beginStatement_96 ?_
          refine k_get (v := .int (zI (σr91.2.2.1 0 (σr91.1 2 3)))) C Wd.1 KX8 _ 1 (cxRow n96_0) (by decide) fl_X6_66 rfl dX6_beginStatement_99 ?_
          refine k_putK (v := (σr91.2.2.1 0 (σr91.1 2 3))) C Wd KX6 2 12 (by decide) (cx2 _) rfl (by decide) fl_X6_137 rfl rfl rfl (Nat.le_of_ble_eq_true rfl) (rgY hS_σr91 (N := 35) n96_0) dX6_beginStatement_102 (fun H locs Wd => ?_)
          refine lv_aload_n C.1 C.2.1 dX6_beginStatement_105 rfl (lv_at hl 0 rfl) ?_
          refine k_get (v := .ref (ad (rowC (σr91.1 2 3).toNat))) C Wd.1 KX6 _ 3 (cx2 _) (by decide) fl_X6_23 (congrArg some (rvR_ref n96_0)) dX6_beginStatement_106 ?_
          refine lv_sipush (v := zI 130) C.1 C.2.1 dX6_beginStatement_109 (zS (by decide) (by decide)) ?_
          refine k_cKv Wd (k_runVK (rest := []) C aks Wd cs_X6_119 (mk_W_add D ad ca rf (pU σr91 2 12 (σr91.2.2.1 0 (σr91.1 2 3))) Wd.2.1 Wd.2.2 (σr91.1 2 3) 130 n96_0 (show rng 130 from by decide) _ hw l _) (cxRow n96_0) rfl rfl rfl rfl ⟨(Nat.le_of_ble_eq_true rfl), (Nat.le_of_ble_eq_true rfl)⟩ hl.1 rfl rfl (Nat.le_of_ble_eq_true rfl) ⟨(Nat.le_of_ble_eq_true rfl), (Nat.le_of_ble_eq_true rfl)⟩ dX6_beginStatement_112) (fun σr112 H locs hw Wd => ?_)
          have hS_σr112 := Wd.2.1
          refine lv_aload_n C.1 C.2.1 dX6_beginStatement_115 rfl (lv_at hl 0 rfl) ?_
          refine lv_iconst (v := zI 1) C.1 C.2.1 dX6_beginStatement_116 (by decide) ?_
          refine k_cKv Wd (k_runVK (rest := []) C aks Wd cs_X6_63 (mk_R_beginExpression D ad ca rf σr112 Wd.2.1 Wd.2.2 1 (show rng 1 from by decide) _ hw l _) (cx2 _) rfl rfl rfl rfl ⟨(Nat.le_of_ble_eq_true rfl), (Nat.le_of_ble_eq_true rfl)⟩ hl.1 rfl rfl (Nat.le_of_ble_eq_true rfl) ⟨(Nat.le_of_ble_eq_true rfl), (Nat.le_of_ble_eq_true rfl)⟩ dX6_beginStatement_117) (fun σr117 H locs hw Wd => ?_)
          have hS_σr117 := Wd.2.1
          exact k_retKv C hr hlk Wd hw dX6_beginStatement_120
        refine lv_icmp_ne (tgt := 89) C.1 C.2.1 dX6_beginStatement_81 (by decide) (fun c81 => ?_) (fun c81 => ?_)
        · have hw := hw.1 (z_ne g_x0 (show rng 6 from by decide) c81)
          refine lv_bipush (v := zI 115) C.1 C.2.1 dX6_beginStatement_89 (by decide) ?_
          exact J91 115 _ _ _ ⟨(show rng 115 from by decide), hw, Wd, lv_sub hl [0] rfl⟩
        · have hw := hw.2 (z_eq g_x0 (show rng 6 from by decide) c81)
          refine lv_bipush (v := zI 112) C.1 C.2.1 dX6_beginStatement_84 (by decide) ?_
          refine lv_goto (tgt := 91) C.1 C.2.1 dX6_beginStatement_86 (by decide) ?_
          exact J91 112 _ _ _ ⟨(show rng 112 from by decide), hw, Wd, lv_sub hl [0] rfl⟩
      · have hw := hw.2 (z_eq g_x0 (show rng 3 from by decide) c46)
        refine lv_aload_n C.1 C.2.1 dX6_beginStatement_49 rfl (lv_at hl 0 rfl) ?_
        obtain ⟨n50_0, hw⟩ := hw
        refine k_get (v := .ref (ad (rowC (σ.1 2 3).toNat))) C Wd.1 KX6 _ 3 (cx2 _) (by decide) fl_X6_23 (congrArg some (rvR_ref n50_0)) dX6_beginStatement_50 ?_
        refine lv_bipush (v := zI 100) C.1 C.2.1 dX6_beginStatement_53 (by decide) ?_
        refine lv_aload_n C.1 C.2.1 dX6_beginStatement_55 rfl (lv_at hl 0 rfl) ?_
        refine k_get (v := .ref (ad 3)) C Wd.1 KX6 _ 0 (cx2 _) (by decide) fl_X6_12 rfl dX6_beginStatement_56 ?_
        refine k_get (v := .int (zI (σ.1 3 3))) C Wd.1 KX10 _ 3 (cx3 _) (by decide) fl_X6_131 rfl dX6_beginStatement_59 ?_
        refine k_iadd (v := zI (100 + (σ.1 3 3))) C (zI_iadd _ _) dX6_beginStatement_62 ?_
        obtain ⟨g63_2, hw⟩ := hw
        refine k_cKv Wd (k_runVK (rest := []) C aks Wd cs_X6_119 (mk_W_add D ad ca rf σ Wd.2.1 Wd.2.2 (σ.1 2 3) (100 + (σ.1 3 3)) n50_0 g63_2 _ hw l _) (cxRow n50_0) rfl rfl rfl rfl ⟨(Nat.le_of_ble_eq_true rfl), (Nat.le_of_ble_eq_true rfl)⟩ hl.1 rfl rfl (Nat.le_of_ble_eq_true rfl) ⟨(Nat.le_of_ble_eq_true rfl), (Nat.le_of_ble_eq_true rfl)⟩ dX6_beginStatement_63) (fun σr63 H locs hw Wd => ?_)
        have hS_σr63 := Wd.2.1
        refine lv_aload_n C.1 C.2.1 dX6_beginStatement_66 rfl (lv_at hl 0 rfl) ?_
        refine lv_iconst (v := zI 3) C.1 C.2.1 dX6_beginStatement_67 (by decide) ?_
        refine k_putK (v := 3) C Wd KX6 2 5 (by decide) (cx2 _) rfl (by decide) fl_X6_52 rfl rfl rfl (Nat.le_of_ble_eq_true rfl) (show rng 3 from by decide) dX6_beginStatement_68 (fun H locs Wd => ?_)
        refine lv_goto (tgt := 120) C.1 C.2.1 dX6_beginStatement_71 (by decide) ?_
        exact k_retKv C hr hlk Wd hw dX6_beginStatement_120
    · have hw := hw.2 (z_eq g_x0 (show rng 5 from by decide) c24)
      refine lv_aload_n C.1 C.2.1 dX6_beginStatement_27 rfl (lv_at hl 0 rfl) ?_
      obtain ⟨n28_0, hw⟩ := hw
      refine k_get (v := .ref (ad (rowC (σ.1 2 3).toNat))) C Wd.1 KX6 _ 3 (cx2 _) (by decide) fl_X6_23 (congrArg some (rvR_ref n28_0)) dX6_beginStatement_28 ?_
      refine lv_bipush (v := zI 111) C.1 C.2.1 dX6_beginStatement_31 (by decide) ?_
      refine k_cKv Wd (k_runVK (rest := []) C aks Wd cs_X6_119 (mk_W_add D ad ca rf σ Wd.2.1 Wd.2.2 (σ.1 2 3) 111 n28_0 (show rng 111 from by decide) _ hw l _) (cxRow n28_0) rfl rfl rfl rfl ⟨(Nat.le_of_ble_eq_true rfl), (Nat.le_of_ble_eq_true rfl)⟩ hl.1 rfl rfl (Nat.le_of_ble_eq_true rfl) ⟨(Nat.le_of_ble_eq_true rfl), (Nat.le_of_ble_eq_true rfl)⟩ dX6_beginStatement_33) (fun σr33 H locs hw Wd => ?_)
      have hS_σr33 := Wd.2.1
      refine lv_aload_n C.1 C.2.1 dX6_beginStatement_36 rfl (lv_at hl 0 rfl) ?_
      refine lv_iconst (v := zI 4) C.1 C.2.1 dX6_beginStatement_37 (by decide) ?_
      refine k_putK (v := 4) C Wd KX6 2 5 (by decide) (cx2 _) rfl (by decide) fl_X6_52 rfl rfl rfl (Nat.le_of_ble_eq_true rfl) (show rng 4 from by decide) dX6_beginStatement_38 (fun H locs Wd => ?_)
      refine lv_goto (tgt := 120) C.1 C.2.1 dX6_beginStatement_41 (by decide) ?_
      exact k_retKv C hr hlk Wd hw dX6_beginStatement_120
  · have hw := hw.2 (z_eq g_x0 (show rng 4 from by decide) c2)
    refine lv_aload_n C.1 C.2.1 dX6_beginStatement_5 rfl (lv_at hl 0 rfl) ?_
    obtain ⟨n6_0, hw⟩ := hw
    refine k_get (v := .ref (ad (rowC (σ.1 2 3).toNat))) C Wd.1 KX6 _ 3 (cx2 _) (by decide) fl_X6_23 (congrArg some (rvR_ref n6_0)) dX6_beginStatement_6 ?_
    refine lv_bipush (v := zI 110) C.1 C.2.1 dX6_beginStatement_9 (by decide) ?_
    refine k_cKv Wd (k_runVK (rest := []) C aks Wd cs_X6_119 (mk_W_add D ad ca rf σ Wd.2.1 Wd.2.2 (σ.1 2 3) 110 n6_0 (show rng 110 from by decide) _ hw l _) (cxRow n6_0) rfl rfl rfl rfl ⟨(Nat.le_of_ble_eq_true rfl), (Nat.le_of_ble_eq_true rfl)⟩ hl.1 rfl rfl (Nat.le_of_ble_eq_true rfl) ⟨(Nat.le_of_ble_eq_true rfl), (Nat.le_of_ble_eq_true rfl)⟩ dX6_beginStatement_11) (fun σr11 H locs hw Wd => ?_)
    have hS_σr11 := Wd.2.1
    refine lv_aload_n C.1 C.2.1 dX6_beginStatement_14 rfl (lv_at hl 0 rfl) ?_
    refine lv_iconst (v := zI 0) C.1 C.2.1 dX6_beginStatement_15 (by decide) ?_
    refine k_cKv Wd (k_runVK (rest := []) C aks Wd cs_X6_63 (mk_R_beginExpression D ad ca rf σr11 Wd.2.1 Wd.2.2 0 (show rng 0 from by decide) _ hw l _) (cx2 _) rfl rfl rfl rfl ⟨(Nat.le_of_ble_eq_true rfl), (Nat.le_of_ble_eq_true rfl)⟩ hl.1 rfl rfl (Nat.le_of_ble_eq_true rfl) ⟨(Nat.le_of_ble_eq_true rfl), (Nat.le_of_ble_eq_true rfl)⟩ dX6_beginStatement_16) (fun σr16 H locs hw Wd => ?_)
    have hS_σr16 := Wd.2.1
    refine lv_goto (tgt := 120) C.1 C.2.1 dX6_beginStatement_19 (by decide) ?_
    exact k_retKv C hr hlk Wd hw dX6_beginStatement_120
set_option maxHeartbeats 4000000 in
set_option maxRecDepth 100000 in
theorem mk_R_takeStatement : ∀ (D : va_G) (ad : Nat → Nat) (ca : Nat → ClassId) (rf : Nat → Nat → Option Nat) (σ : Sg) (hS : rngK σ) (hRF : RFok ad rf) (K : Sg → Prop) (hw : wp5_R_takeStatement σ K) (l : Launch) (sz : Nat), Met l yX6_takeStatement (Cond.code yX6_takeStatement cX6_takeStatement 5 none :: gG) { frames := 3, cells := 0, slots := 0, locals := 106 } (cPre D (tC ca) (wK ad ca rf σ) sz [.ref (ad 2)]) (va_Qv (fun (u : Sg) => K u ∧ rngK u) (fun u t => cB D (va_A (wK ad ca rf σ) sz) [] (wK ad ca rf u) t) (va_A (wK ad ca rf σ) sz)) 0 0 (va_A (wK ad ca rf σ) sz) := by
  intro D ad ca rf σ hS hRF  K hw l sz
  refine Met.ofW (cc := cX6_takeStatement) (maxL := 5) (ret := none) (by decide) rfl ?_
  intro p e s m args below meth c s₁ B hml hv
  obtain ⟨rfl, aks, rfl, Wd⟩ := k_enter hv
  have C : CallFix p m c cX6_takeStatement 5 s _ gG RX6 := ⟨B.exec, B.bytes, hml, findClass_of_methodNamed B.named, fun w h => atoms_spec (ws := Cond.code yX6_takeStatement cX6_takeStatement 5 none :: gG) B.pre w (List.mem_cons_of_mem _ h)⟩
  have hr := B.returns
  have hlk := B.notSynchronized
  generalize va_A (wK ad ca rf σ) s.heap.size = A at Wd ⊢
  replace Wd : wXK D ad ca rf s σ s.heap A s.heap [] := ⟨Wd, hS, hRF⟩
  refine k_locals (Nat.le_of_ble_eq_true rfl) [(0, .ref (ad 2))] rfl (fun ls hl => ?_)
  unfold wp5_R_takeStatement at hw
  refine lv_aload_n C.1 C.2.1 dX6_takeStatement_0 rfl (lv_at hl 0 rfl) ?_
  refine k_get (v := .ref (ad 3)) C Wd.1 KX6 _ 0 (cx2 _) (by decide) fl_X6_12 rfl dX6_takeStatement_1 ?_
  refine k_get (v := .int (zI (σ.1 3 2))) C Wd.1 KX10 _ 2 (cx3 _) (by decide) fl_X6_88 rfl dX6_takeStatement_4 ?_
  refine lv_istore_n (lv' := [(1, .int (zI (σ.1 3 2))), (0, .ref (ad 2))]) C.1 C.2.1 dX6_takeStatement_7 rfl hl (by decide) rfl (fun ls hl => ?_)
  replace hl := lv_sub hl [1, 0] rfl
  refine lv_iload_n C.1 C.2.1 dX6_takeStatement_8 rfl (lv_at hl 1 rfl) ?_
  refine lv_iconst (v := zI 1) C.1 C.2.1 dX6_takeStatement_9 (by decide) ?_
  refine k_cut0 (fun H locs ls => wp5_R_takeStatement_21 K σ ∧ wXK D ad ca rf s σ H A s.heap locs ∧ lv_has ls 5 [(0, .ref (ad 2)), (1, .int (zI (σ.1 3 2)))]) (fun  ls => F0 m 21 ls []) (fun  H locs ls hi => ?_) (fun J21 => ?_)
  · obtain ⟨hw, Wd, hl⟩ := hi
    unfold wp5_R_takeStatement_21 at hw
    refine lv_iload_n C.1 C.2.1 dX6_takeStatement_21 rfl (lv_at hl 1 rfl) ?_
    refine lv_bipush (v := zI 125) C.1 C.2.1 dX6_takeStatement_22 (by decide) ?_
    refine k_cut0 (fun H locs ls => wp5_R_takeStatement_39 K σ ∧ wXK D ad ca rf s σ H A s.heap locs ∧ lv_has ls 5 [(0, .ref (ad 2)), (1, .int (zI (σ.1 3 2)))]) (fun  ls => F0 m 39 ls []) (fun  H locs ls hi => ?_) (fun J39 => ?_)
    · obtain ⟨hw, Wd, hl⟩ := hi
      unfold wp5_R_takeStatement_39 at hw
      refine lv_iload_n C.1 C.2.1 dX6_takeStatement_39 rfl (lv_at hl 1 rfl) ?_
      refine lv_iconst (v := zI 3) C.1 C.2.1 dX6_takeStatement_40 (by decide) ?_
      refine k_cut1 (fun (s0_61 : Int) H locs ls => rng s0_61 ∧ wp5_R_takeStatement_61 K σ s0_61 ∧ wXK D ad ca rf s σ H A s.heap locs ∧ lv_has ls 5 [(0, .ref (ad 2)), (1, .int (zI (σ.1 3 2)))]) (fun (s0_61 : Int) ls => F0 m 61 ls [.int (zI s0_61)]) (fun s0_61 H locs ls hi => ?_) (fun J61 => ?_)
      · obtain ⟨g_s0_61, hw, Wd, hl⟩ := hi
        unfold wp5_R_takeStatement_61 at hw
        refine lv_istore_n (lv' := [(2, .int (zI s0_61)), (0, .ref (ad 2)), (1, .int (zI (σ.1 3 2)))]) C.1 C.2.1 dX6_takeStatement_61 rfl hl (by decide) rfl (fun ls hl => ?_)
        replace hl := lv_sub hl [1, 2, 0] rfl
        refine lv_iload_n C.1 C.2.1 dX6_takeStatement_62 rfl (lv_at hl 1 rfl) ?_
        refine lv_iconst (v := zI 4) C.1 C.2.1 dX6_takeStatement_63 (by decide) ?_
        refine k_cut1 (fun (s0_77 : Int) H locs ls => rng s0_77 ∧ wp5_R_takeStatement_77 K σ s0_61 s0_77 ∧ wXK D ad ca rf s σ H A s.heap locs ∧ lv_has ls 5 [(0, .ref (ad 2)), (1, .int (zI (σ.1 3 2))), (2, .int (zI s0_61))]) (fun (s0_77 : Int) ls => F0 m 77 ls [.int (zI s0_77)]) (fun s0_77 H locs ls hi => ?_) (fun J77 => ?_)
        · obtain ⟨g_s0_77, hw, Wd, hl⟩ := hi
          unfold wp5_R_takeStatement_77 at hw
          refine lv_istore_n (lv' := [(3, .int (zI s0_77)), (0, .ref (ad 2)), (1, .int (zI (σ.1 3 2))), (2, .int (zI s0_61))]) C.1 C.2.1 dX6_takeStatement_77 rfl hl (by decide) rfl (fun ls hl => ?_)
          replace hl := lv_sub hl [1, 2, 3, 0] rfl
          refine lv_iload_n C.1 C.2.1 dX6_takeStatement_78 rfl (lv_at hl 1 rfl) ?_
          refine lv_bipush (v := zI 6) C.1 C.2.1 dX6_takeStatement_79 (by decide) ?_
          refine k_cut1 (fun (s0_95 : Int) H locs ls => rng s0_95 ∧ wp5_R_takeStatement_95 K σ s0_61 s0_77 s0_95 ∧ wXK D ad ca rf s σ H A s.heap locs ∧ lv_has ls 5 [(0, .ref (ad 2)), (1, .int (zI (σ.1 3 2))), (2, .int (zI s0_61)), (3, .int (zI s0_77))]) (fun (s0_95 : Int) ls => F0 m 95 ls [.int (zI s0_95)]) (fun s0_95 H locs ls hi => ?_) (fun J95 => ?_)
          · obtain ⟨g_s0_95, hw, Wd, hl⟩ := hi
            unfold wp5_R_takeStatement_95 at hw
            refine lv_istore (lv' := [(4, .int (zI s0_95)), (0, .ref (ad 2)), (1, .int (zI (σ.1 3 2))), (2, .int (zI s0_61)), (3, .int (zI s0_77))]) C.1 C.2.1 dX6_takeStatement_95 hl (by decide) rfl (fun ls hl => ?_)
            replace hl := lv_sub hl [1, 2, 3, 4, 0] rfl
            refine lv_iload_n C.1 C.2.1 dX6_takeStatement_97 rfl (lv_at hl 2 rfl) ?_
            refine k_cut0 (fun H locs ls => wp5_R_takeStatement_118 K σ ∧ wXK D ad ca rf s σ H A s.heap locs ∧ lv_has ls 5 [(0, .ref (ad 2)), (1, .int (zI (σ.1 3 2)))]) (fun  ls => F0 m 118 ls []) (fun  H locs ls hi => ?_) (fun J118 => ?_)
            · obtain ⟨hw, Wd, hl⟩ := hi
              unfold wp5_R_takeStatement_118 at hw
              refine lv_aload_n C.1 C.2.1 dX6_takeStatement_118 rfl (lv_at hl 0 rfl) ?_
              refine k_get (v := .int (zI (σ.1 2 7))) C Wd.1 KX6 _ 7 (cx2 _) (by decide) fl_X6_73 rfl dX6_takeStatement_119 ?_
              refine lv_bipush (v := zI 40) C.1 C.2.1 dX6_takeStatement_122 (by decide) ?_
              refine lv_icmp_lt (tgt := 135) C.1 C.2.1 dX6_takeStatement_124 (by decide) (fun c124 => ?_) (fun c124 => ?_)
              · have hw := hw.1 (z_lt (hS.1 2 7) (show rng 40 from by decide) c124)
                refine lv_aload_n C.1 C.2.1 dX6_takeStatement_135 rfl (lv_at hl 0 rfl) ?_
                refine lv_dup C.1 C.2.1 dX6_takeStatement_136 rfl ?_
                refine k_get (v := .int (zI (σ.1 2 7))) C Wd.1 KX6 _ 7 (cx2 _) (by decide) fl_X6_73 rfl dX6_takeStatement_137 ?_
                refine lv_iconst (v := zI 1) C.1 C.2.1 dX6_takeStatement_140 (by decide) ?_
                refine k_iadd (v := zI ((σ.1 2 7) + 1)) C (zI_iadd _ _) dX6_takeStatement_141 ?_
                obtain ⟨g142_4, hw⟩ := hw
                refine k_putK (v := ((σ.1 2 7) + 1)) C Wd KX6 2 7 (by decide) (cx2 _) rfl (by decide) fl_X6_73 rfl rfl rfl (Nat.le_of_ble_eq_true rfl) g142_4 dX6_takeStatement_142 (fun H locs Wd => ?_)
                refine lv_aload_n C.1 C.2.1 dX6_takeStatement_145 rfl (lv_at hl 0 rfl) ?_
                refine lv_iload_n C.1 C.2.1 dX6_takeStatement_146 rfl (lv_at hl 1 rfl) ?_
                refine k_cKv Wd (k_runVK (rest := []) C aks Wd cs_X6_134 (mk_R_beginStatement D ad ca rf (pU σ 2 7 ((σ.1 2 7) + 1)) Wd.2.1 Wd.2.2 (σ.1 3 2) (hS.1 3 2) _ hw l _) (cx2 _) rfl rfl rfl rfl ⟨(Nat.le_of_ble_eq_true rfl), (Nat.le_of_ble_eq_true rfl)⟩ hl.1 rfl rfl (Nat.le_of_ble_eq_true rfl) ⟨(Nat.le_of_ble_eq_true rfl), (Nat.le_of_ble_eq_true rfl)⟩ dX6_takeStatement_147) (fun σr147 H locs hw Wd => ?_)
                have hS_σr147 := Wd.2.1
                exact k_retKv C hr hlk Wd hw dX6_takeStatement_150
              · have hw := hw.2 (z_nlt (hS.1 2 7) (show rng 40 from by decide) c124)
                refine lv_aload_n C.1 C.2.1 dX6_takeStatement_127 rfl (lv_at hl 0 rfl) ?_
                refine lv_iconst (v := zI 3) C.1 C.2.1 dX6_takeStatement_128 (by decide) ?_
                refine k_cKv Wd (k_runVK (rest := []) C aks Wd cs_X6_125 (mk_R_refuse D ad ca rf σ Wd.2.1 Wd.2.2 3 (show rng 3 from by decide) _ hw l _) (cx2 _) rfl rfl rfl rfl ⟨(Nat.le_of_ble_eq_true rfl), (Nat.le_of_ble_eq_true rfl)⟩ hl.1 rfl rfl (Nat.le_of_ble_eq_true rfl) ⟨(Nat.le_of_ble_eq_true rfl), (Nat.le_of_ble_eq_true rfl)⟩ dX6_takeStatement_129) (fun σr129 H locs hw Wd => ?_)
                have hS_σr129 := Wd.2.1
                refine lv_goto (tgt := 150) C.1 C.2.1 dX6_takeStatement_132 (by decide) ?_
                exact k_retKv C hr hlk Wd hw dX6_takeStatement_150
            refine lv_if_ne (tgt := 118) C.1 C.2.1 dX6_takeStatement_98 (by decide) (fun c98 => ?_) (fun c98 => ?_)
            · have hw := hw.1 (z0_ne g_s0_61 c98)
              exact J118  _ _ _ ⟨hw, Wd, lv_sub hl [0, 1] rfl⟩
            · have hw := hw.2 (z0_eq g_s0_61 c98)
              refine lv_iload_n C.1 C.2.1 dX6_takeStatement_101 rfl (lv_at hl 3 rfl) ?_
              refine lv_if_ne (tgt := 118) C.1 C.2.1 dX6_takeStatement_102 (by decide) (fun c102 => ?_) (fun c102 => ?_)
              · have hw := hw.1 (z0_ne g_s0_77 c102)
                exact J118  _ _ _ ⟨hw, Wd, lv_sub hl [0, 1] rfl⟩
              · have hw := hw.2 (z0_eq g_s0_77 c102)
                refine lv_iload C.1 C.2.1 dX6_takeStatement_105 (lv_at hl 4 rfl) ?_
                refine lv_if_ne (tgt := 118) C.1 C.2.1 dX6_takeStatement_107 (by decide) (fun c107 => ?_) (fun c107 => ?_)
                · have hw := hw.1 (z0_ne g_s0_95 c107)
                  exact J118  _ _ _ ⟨hw, Wd, lv_sub hl [0, 1] rfl⟩
                · have hw := hw.2 (z0_eq g_s0_95 c107)
                  refine lv_aload_n C.1 C.2.1 dX6_takeStatement_110 rfl (lv_at hl 0 rfl) ?_
                  refine lv_iconst (v := zI 1) C.1 C.2.1 dX6_takeStatement_111 (by decide) ?_
                  refine k_cKv Wd (k_runVK (rest := []) C aks Wd cs_X6_125 (mk_R_refuse D ad ca rf σ Wd.2.1 Wd.2.2 1 (show rng 1 from by decide) _ hw l _) (cx2 _) rfl rfl rfl rfl ⟨(Nat.le_of_ble_eq_true rfl), (Nat.le_of_ble_eq_true rfl)⟩ hl.1 rfl rfl (Nat.le_of_ble_eq_true rfl) ⟨(Nat.le_of_ble_eq_true rfl), (Nat.le_of_ble_eq_true rfl)⟩ dX6_takeStatement_112) (fun σr112 H locs hw Wd => ?_)
                  have hS_σr112 := Wd.2.1
                  refine lv_goto (tgt := 150) C.1 C.2.1 dX6_takeStatement_115 (by decide) ?_
                  exact k_retKv C hr hlk Wd hw dX6_takeStatement_150
          refine k_cut0 (fun H locs ls => wp5_R_takeStatement_90 K σ s0_61 s0_77 ∧ wXK D ad ca rf s σ H A s.heap locs ∧ lv_has ls 5 [(0, .ref (ad 2)), (1, .int (zI (σ.1 3 2))), (2, .int (zI s0_61)), (3, .int (zI s0_77))]) (fun  ls => F0 m 90 ls []) (fun  H locs ls hi => ?_) (fun J90 => ?_)
          · obtain ⟨hw, Wd, hl⟩ := hi
            unfold wp5_R_takeStatement_90 at hw
            refine lv_iconst (v := zI 1) C.1 C.2.1 dX6_takeStatement_90 (by decide) ?_
            refine lv_goto (tgt := 95) C.1 C.2.1 dX6_takeStatement_91 (by decide) ?_
            exact J95 1 _ _ _ ⟨(show rng 1 from by decide), hw, Wd, lv_sub hl [0, 1, 2, 3] rfl⟩
          refine lv_icmp_eq (tgt := 90) C.1 C.2.1 dX6_takeStatement_81 (by decide) (fun c81 => ?_) (fun c81 => ?_)
          · have hw := hw.1 (z_eq (hS.1 3 2) (show rng 6 from by decide) c81)
            exact J90  _ _ _ ⟨hw, Wd, lv_sub hl [0, 1, 2, 3] rfl⟩
          · have hw := hw.2 (z_ne (hS.1 3 2) (show rng 6 from by decide) c81)
            refine lv_iload_n C.1 C.2.1 dX6_takeStatement_84 rfl (lv_at hl 1 rfl) ?_
            refine lv_bipush (v := zI 8) C.1 C.2.1 dX6_takeStatement_85 (by decide) ?_
            refine lv_icmp_ne (tgt := 94) C.1 C.2.1 dX6_takeStatement_87 (by decide) (fun c87 => ?_) (fun c87 => ?_)
            · have hw := hw.1 (z_ne (hS.1 3 2) (show rng 8 from by decide) c87)
              refine lv_iconst (v := zI 0) C.1 C.2.1 dX6_takeStatement_94 (by decide) ?_
              exact J95 0 _ _ _ ⟨(show rng 0 from by decide), hw, Wd, lv_sub hl [0, 1, 2, 3] rfl⟩
            · have hw := hw.2 (z_eq (hS.1 3 2) (show rng 8 from by decide) c87)
              exact J90  _ _ _ ⟨hw, Wd, lv_sub hl [0, 1, 2, 3] rfl⟩
        refine k_cut0 (fun H locs ls => wp5_R_takeStatement_72 K σ s0_61 ∧ wXK D ad ca rf s σ H A s.heap locs ∧ lv_has ls 5 [(0, .ref (ad 2)), (1, .int (zI (σ.1 3 2))), (2, .int (zI s0_61))]) (fun  ls => F0 m 72 ls []) (fun  H locs ls hi => ?_) (fun J72 => ?_)
        · obtain ⟨hw, Wd, hl⟩ := hi
          unfold wp5_R_takeStatement_72 at hw
          refine lv_iconst (v := zI 1) C.1 C.2.1 dX6_takeStatement_72 (by decide) ?_
          refine lv_goto (tgt := 77) C.1 C.2.1 dX6_takeStatement_73 (by decide) ?_
          exact J77 1 _ _ _ ⟨(show rng 1 from by decide), hw, Wd, lv_sub hl [0, 1, 2] rfl⟩
        refine lv_icmp_eq (tgt := 72) C.1 C.2.1 dX6_takeStatement_64 (by decide) (fun c64 => ?_) (fun c64 => ?_)
        · have hw := hw.1 (z_eq (hS.1 3 2) (show rng 4 from by decide) c64)
          exact J72  _ _ _ ⟨hw, Wd, lv_sub hl [0, 1, 2] rfl⟩
        · have hw := hw.2 (z_ne (hS.1 3 2) (show rng 4 from by decide) c64)
          refine lv_iload_n C.1 C.2.1 dX6_takeStatement_67 rfl (lv_at hl 1 rfl) ?_
          refine lv_iconst (v := zI 5) C.1 C.2.1 dX6_takeStatement_68 (by decide) ?_
          refine lv_icmp_ne (tgt := 76) C.1 C.2.1 dX6_takeStatement_69 (by decide) (fun c69 => ?_) (fun c69 => ?_)
          · have hw := hw.1 (z_ne (hS.1 3 2) (show rng 5 from by decide) c69)
            refine lv_iconst (v := zI 0) C.1 C.2.1 dX6_takeStatement_76 (by decide) ?_
            exact J77 0 _ _ _ ⟨(show rng 0 from by decide), hw, Wd, lv_sub hl [0, 1, 2] rfl⟩
          · have hw := hw.2 (z_eq (hS.1 3 2) (show rng 5 from by decide) c69)
            exact J72  _ _ _ ⟨hw, Wd, lv_sub hl [0, 1, 2] rfl⟩
      refine k_cut0 (fun H locs ls => wp5_R_takeStatement_60 K σ ∧ wXK D ad ca rf s σ H A s.heap locs ∧ lv_has ls 5 [(0, .ref (ad 2)), (1, .int (zI (σ.1 3 2)))]) (fun  ls => F0 m 60 ls []) (fun  H locs ls hi => ?_) (fun J60 => ?_)
      · obtain ⟨hw, Wd, hl⟩ := hi
        unfold wp5_R_takeStatement_60 at hw
        refine lv_iconst (v := zI 0) C.1 C.2.1 dX6_takeStatement_60 (by decide) ?_
        exact J61 0 _ _ _ ⟨(show rng 0 from by decide), hw, Wd, lv_sub hl [0, 1] rfl⟩
      refine lv_icmp_ne (tgt := 60) C.1 C.2.1 dX6_takeStatement_41 (by decide) (fun c41 => ?_) (fun c41 => ?_)
      · have hw := hw.1 (z_ne (hS.1 3 2) (show rng 3 from by decide) c41)
        exact J60  _ _ _ ⟨hw, Wd, lv_sub hl [0, 1] rfl⟩
      · have hw := hw.2 (z_eq (hS.1 3 2) (show rng 3 from by decide) c41)
        refine lv_aload_n C.1 C.2.1 dX6_takeStatement_44 rfl (lv_at hl 0 rfl) ?_
        refine k_get (v := .ref (ad 3)) C Wd.1 KX6 _ 0 (cx2 _) (by decide) fl_X6_12 rfl dX6_takeStatement_45 ?_
        refine k_get (v := .int (zI (σ.1 3 3))) C Wd.1 KX10 _ 3 (cx3 _) (by decide) fl_X6_131 rfl dX6_takeStatement_48 ?_
        refine lv_bipush (v := zI 6) C.1 C.2.1 dX6_takeStatement_51 (by decide) ?_
        refine lv_icmp_ge (tgt := 60) C.1 C.2.1 dX6_takeStatement_53 (by decide) (fun c53 => ?_) (fun c53 => ?_)
        · have hw := hw.1 (z_le (show rng 6 from by decide) (hS.1 3 3) c53)
          exact J60  _ _ _ ⟨hw, Wd, lv_sub hl [0, 1] rfl⟩
        · have hw := hw.2 (z_nle (show rng 6 from by decide) (hS.1 3 3) c53)
          refine lv_iconst (v := zI 1) C.1 C.2.1 dX6_takeStatement_56 (by decide) ?_
          refine lv_goto (tgt := 61) C.1 C.2.1 dX6_takeStatement_57 (by decide) ?_
          exact J61 1 _ _ _ ⟨(show rng 1 from by decide), hw, Wd, lv_sub hl [0, 1] rfl⟩
    refine lv_icmp_ne (tgt := 39) C.1 C.2.1 dX6_takeStatement_24 (by decide) (fun c24 => ?_) (fun c24 => ?_)
    · have hw := hw.1 (z_ne (hS.1 3 2) (show rng 125 from by decide) c24)
      exact J39  _ _ _ ⟨hw, Wd, lv_sub hl [0, 1] rfl⟩
    · have hw := hw.2 (z_eq (hS.1 3 2) (show rng 125 from by decide) c24)
      refine lv_aload_n C.1 C.2.1 dX6_takeStatement_27 rfl (lv_at hl 0 rfl) ?_
      refine k_get (v := .int (zI (σ.1 2 13))) C Wd.1 KX6 _ 13 (cx2 _) (by decide) fl_X6_82 rfl dX6_takeStatement_28 ?_
      refine lv_if_le (tgt := 39) C.1 C.2.1 dX6_takeStatement_31 (by decide) (fun c31 => ?_) (fun c31 => ?_)
      · have hw := hw.1 (z0_le (hS.1 2 13) c31)
        exact J39  _ _ _ ⟨hw, Wd, lv_sub hl [0, 1] rfl⟩
      · have hw := hw.2 (z0_nle (hS.1 2 13) c31)
        refine lv_aload_n C.1 C.2.1 dX6_takeStatement_34 rfl (lv_at hl 0 rfl) ?_
        refine k_cKv Wd (k_runVK (rest := []) C aks Wd cs_X6_128 (mk_R_closeBlock D ad ca rf σ Wd.2.1 Wd.2.2   _ hw l _) (cx2 _) rfl rfl rfl rfl ⟨(Nat.le_of_ble_eq_true rfl), (Nat.le_of_ble_eq_true rfl)⟩ hl.1 rfl rfl (Nat.le_of_ble_eq_true rfl) ⟨(Nat.le_of_ble_eq_true rfl), (Nat.le_of_ble_eq_true rfl)⟩ dX6_takeStatement_35) (fun σr35 H locs hw Wd => ?_)
        have hS_σr35 := Wd.2.1
        exact k_retKv C hr hlk Wd hw dX6_takeStatement_38
  refine lv_icmp_ne (tgt := 21) C.1 C.2.1 dX6_takeStatement_10 (by decide) (fun c10 => ?_) (fun c10 => ?_)
  · have hw := hw.1 (z_ne (hS.1 3 2) (show rng 1 from by decide) c10)
    exact J21  _ _ _ ⟨hw, Wd, lv_sub hl [0, 1] rfl⟩
  · have hw := hw.2 (z_eq (hS.1 3 2) (show rng 1 from by decide) c10)
    refine lv_aload_n C.1 C.2.1 dX6_takeStatement_13 rfl (lv_at hl 0 rfl) ?_
    refine k_get (v := .int (zI (σ.1 2 13))) C Wd.1 KX6 _ 13 (cx2 _) (by decide) fl_X6_82 rfl dX6_takeStatement_14 ?_
    refine lv_if_ne (tgt := 21) C.1 C.2.1 dX6_takeStatement_17 (by decide) (fun c17 => ?_) (fun c17 => ?_)
    · have hw := hw.1 (z0_ne (hS.1 2 13) c17)
      exact J21  _ _ _ ⟨hw, Wd, lv_sub hl [0, 1] rfl⟩
    · have hw := hw.2 (z0_eq (hS.1 2 13) c17)
      exact k_retKv C hr hlk Wd hw dX6_takeStatement_20
set_option maxHeartbeats 4000000 in
set_option maxRecDepth 100000 in
theorem mk_R_takeBehindThen : ∀ (D : va_G) (ad : Nat → Nat) (ca : Nat → ClassId) (rf : Nat → Nat → Option Nat) (σ : Sg) (hS : rngK σ) (hRF : RFok ad rf) (K : Sg → Prop) (hw : wp5_R_takeBehindThen σ K) (l : Launch) (sz : Nat), Met l yX6_takeBehindThen (Cond.code yX6_takeBehindThen cX6_takeBehindThen 1 none :: gG) { frames := 4, cells := 0, slots := 0, locals := 130 } (cPre D (tC ca) (wK ad ca rf σ) sz [.ref (ad 2)]) (va_Qv (fun (u : Sg) => K u ∧ rngK u) (fun u t => cB D (va_A (wK ad ca rf σ) sz) [] (wK ad ca rf u) t) (va_A (wK ad ca rf σ) sz)) 0 0 (va_A (wK ad ca rf σ) sz) := by
  intro D ad ca rf σ hS hRF  K hw l sz
  refine Met.ofW (cc := cX6_takeBehindThen) (maxL := 1) (ret := none) (by decide) rfl ?_
  intro p e s m args below meth c s₁ B hml hv
  obtain ⟨rfl, aks, rfl, Wd⟩ := k_enter hv
  have C : CallFix p m c cX6_takeBehindThen 1 s _ gG RX6 := ⟨B.exec, B.bytes, hml, findClass_of_methodNamed B.named, fun w h => atoms_spec (ws := Cond.code yX6_takeBehindThen cX6_takeBehindThen 1 none :: gG) B.pre w (List.mem_cons_of_mem _ h)⟩
  have hr := B.returns
  have hlk := B.notSynchronized
  generalize va_A (wK ad ca rf σ) s.heap.size = A at Wd ⊢
  replace Wd : wXK D ad ca rf s σ s.heap A s.heap [] := ⟨Wd, hS, hRF⟩
  refine k_locals (Nat.le_of_ble_eq_true rfl) [(0, .ref (ad 2))] rfl (fun ls hl => ?_)
  unfold wp5_R_takeBehindThen at hw
  refine lv_aload_n C.1 C.2.1 dX6_takeBehindThen_0 rfl (lv_at hl 0 rfl) ?_
  refine k_get (v := .ref (ad 3)) C Wd.1 KX6 _ 0 (cx2 _) (by decide) fl_X6_12 rfl dX6_takeBehindThen_1 ?_
  refine k_get (v := .int (zI (σ.1 3 2))) C Wd.1 KX10 _ 2 (cx3 _) (by decide) fl_X6_88 rfl dX6_takeBehindThen_4 ?_
  refine lv_bipush (v := zI 7) C.1 C.2.1 dX6_takeBehindThen_7 (by decide) ?_
  refine lv_icmp_ne (tgt := 20) C.1 C.2.1 dX6_takeBehindThen_9 (by decide) (fun c9 => ?_) (fun c9 => ?_)
  · have hw := hw.1 (z_ne (hS.1 3 2) (show rng 7 from by decide) c9)
    refine lv_aload_n C.1 C.2.1 dX6_takeBehindThen_20 rfl (lv_at hl 0 rfl) ?_
    obtain ⟨n21_0, hw⟩ := hw
    refine k_get (v := .ref (ad (rowC (σ.1 2 3).toNat))) C Wd.1 KX6 _ 3 (cx2 _) (by decide) fl_X6_23 (congrArg some (rvR_ref n21_0)) dX6_takeBehindThen_21 ?_
    refine lv_bipush (v := zI 114) C.1 C.2.1 dX6_takeBehindThen_24 (by decide) ?_
    refine k_cKv Wd (k_runVK (rest := []) C aks Wd cs_X6_119 (mk_W_add D ad ca rf σ Wd.2.1 Wd.2.2 (σ.1 2 3) 114 n21_0 (show rng 114 from by decide) _ hw l _) (cxRow n21_0) rfl rfl rfl rfl ⟨(Nat.le_of_ble_eq_true rfl), (Nat.le_of_ble_eq_true rfl)⟩ hl.1 rfl rfl (Nat.le_of_ble_eq_true rfl) ⟨(Nat.le_of_ble_eq_true rfl), (Nat.le_of_ble_eq_true rfl)⟩ dX6_takeBehindThen_26) (fun σr26 H locs hw Wd => ?_)
    have hS_σr26 := Wd.2.1
    refine lv_aload_n C.1 C.2.1 dX6_takeBehindThen_29 rfl (lv_at hl 0 rfl) ?_
    refine lv_iconst (v := zI 0) C.1 C.2.1 dX6_takeBehindThen_30 (by decide) ?_
    refine k_putK (v := 0) C Wd KX6 2 5 (by decide) (cx2 _) rfl (by decide) fl_X6_52 rfl rfl rfl (Nat.le_of_ble_eq_true rfl) (show rng 0 from by decide) dX6_takeBehindThen_31 (fun H locs Wd => ?_)
    refine lv_aload_n C.1 C.2.1 dX6_takeBehindThen_34 rfl (lv_at hl 0 rfl) ?_
    refine k_cKv Wd (k_runVK (rest := []) C aks Wd cs_X6_113 (mk_R_takeStatement D ad ca rf (pU σr26 2 5 0) Wd.2.1 Wd.2.2   _ hw l _) (cx2 _) rfl rfl rfl rfl ⟨(Nat.le_of_ble_eq_true rfl), (Nat.le_of_ble_eq_true rfl)⟩ hl.1 rfl rfl (Nat.le_of_ble_eq_true rfl) ⟨(Nat.le_of_ble_eq_true rfl), (Nat.le_of_ble_eq_true rfl)⟩ dX6_takeBehindThen_35) (fun σr35 H locs hw Wd => ?_)
    have hS_σr35 := Wd.2.1
    exact k_retKv C hr hlk Wd hw dX6_takeBehindThen_38
  · have hw := hw.2 (z_eq (hS.1 3 2) (show rng 7 from by decide) c9)
    refine lv_aload_n C.1 C.2.1 dX6_takeBehindThen_12 rfl (lv_at hl 0 rfl) ?_
    refine lv_iconst (v := zI 2) C.1 C.2.1 dX6_takeBehindThen_13 (by decide) ?_
    refine k_putK (v := 2) C Wd KX6 2 5 (by decide) (cx2 _) rfl (by decide) fl_X6_52 rfl rfl rfl (Nat.le_of_ble_eq_true rfl) (show rng 2 from by decide) dX6_takeBehindThen_14 (fun H locs Wd => ?_)
    refine lv_goto (tgt := 38) C.1 C.2.1 dX6_takeBehindThen_17 (by decide) ?_
    exact k_retKv C hr hlk Wd hw dX6_takeBehindThen_38
set_option maxHeartbeats 4000000 in
set_option maxRecDepth 100000 in
theorem mk_R_open : ∀ (D : va_G) (ad : Nat → Nat) (ca : Nat → ClassId) (rf : Nat → Nat → Option Nat) (σ : Sg) (hS : rngK σ) (hRF : RFok ad rf) (x0 : Int) (g_x0 : rng x0) (K : Int → Sg → Prop) (hw : wp5_R_open σ x0 K) (l : Launch) (sz : Nat), Met l yX6_open (Cond.code yX6_open cX6_open 2 (some .boolean) :: gG) { frames := 2, cells := 0, slots := 0, locals := 85 } (cPre D (tC ca) (wK ad ca rf σ) sz [.ref (ad 2), .int (zI x0)]) (va_Qi (fun (r : Int32) (u : Sg) => (∃ x : Int, r = zI x ∧ rng x ∧ K x u) ∧ rngK u) (fun u t => cB D (va_A (wK ad ca rf σ) sz) [] (wK ad ca rf u) t) (va_A (wK ad ca rf σ) sz)) 0 0 (va_A (wK ad ca rf σ) sz) := by
  intro D ad ca rf σ hS hRF x0 g_x0 K hw l sz
  refine Met.ofW (cc := cX6_open) (maxL := 2) (ret := (some .boolean)) (by decide) rfl ?_
  intro p e s m args below meth c s₁ B hml hv
  obtain ⟨rfl, aks, rfl, Wd⟩ := k_enter hv
  have C : CallFix p m c cX6_open 2 s _ gG RX6 := ⟨B.exec, B.bytes, hml, findClass_of_methodNamed B.named, fun w h => atoms_spec (ws := Cond.code yX6_open cX6_open 2 (some .boolean) :: gG) B.pre w (List.mem_cons_of_mem _ h)⟩
  have hr := B.returns
  have hlk := B.notSynchronized
  generalize va_A (wK ad ca rf σ) s.heap.size = A at Wd ⊢
  replace Wd : wXK D ad ca rf s σ s.heap A s.heap [] := ⟨Wd, hS, hRF⟩
  refine k_locals (Nat.le_of_ble_eq_true rfl) [(0, .ref (ad 2)), (1, .int (zI x0))] rfl (fun ls hl => ?_)
  unfold wp5_R_open at hw
  refine lv_aload_n C.1 C.2.1 dX6_open_0 rfl (lv_at hl 0 rfl) ?_
  refine k_get (v := .int (zI (σ.1 2 13))) C Wd.1 KX6 _ 13 (cx2 _) (by decide) fl_X6_82 rfl dX6_open_1 ?_
  refine k_cut0 (fun H locs ls => wp5_R_open_16 K σ ∧ wXK D ad ca rf s σ H A s.heap locs ∧ lv_has ls 2 [(0, .ref (ad 2))]) (fun  ls => F0 m 16 ls []) (fun  H locs ls hi => ?_) (fun J16 => ?_)
  · obtain ⟨hw, Wd, hl⟩ := hi
    unfold wp5_R_open_16 at hw
    refine lv_aload_n C.1 C.2.1 dX6_open_16 rfl (lv_at hl 0 rfl) ?_
    refine lv_iconst (v := zI 3) C.1 C.2.1 dX6_open_17 (by decide) ?_
    refine k_cKv Wd (k_runVK (rest := []) C aks Wd cs_X6_125 (mk_R_refuse D ad ca rf σ Wd.2.1 Wd.2.2 3 (show rng 3 from by decide) _ hw l _) (cx2 _) rfl rfl rfl rfl ⟨(Nat.le_of_ble_eq_true rfl), (Nat.le_of_ble_eq_true rfl)⟩ hl.1 rfl rfl (Nat.le_of_ble_eq_true rfl) ⟨(Nat.le_of_ble_eq_true rfl), (Nat.le_of_ble_eq_true rfl)⟩ dX6_open_18) (fun σr18 H locs hw Wd => ?_)
    have hS_σr18 := Wd.2.1
    refine lv_iconst (v := zI 0) C.1 C.2.1 dX6_open_21 (by decide) ?_
    exact k_retKi C hr hlk (by decide) Wd ⟨_, rfl, (show rng 0 from by decide), hw⟩ dX6_open_22
  refine lv_if_lt (tgt := 16) C.1 C.2.1 dX6_open_4 (by decide) (fun c4 => ?_) (fun c4 => ?_)
  · have hw := hw.1 (z0_lt (hS.1 2 13) c4)
    exact J16  _ _ _ ⟨hw, Wd, lv_sub hl [0] rfl⟩
  · have hw := hw.2 (z0_nlt (hS.1 2 13) c4)
    refine lv_aload_n C.1 C.2.1 dX6_open_7 rfl (lv_at hl 0 rfl) ?_
    refine k_get (v := .int (zI (σ.1 2 13))) C Wd.1 KX6 _ 13 (cx2 _) (by decide) fl_X6_82 rfl dX6_open_8 ?_
    refine lv_bipush (v := zI 8) C.1 C.2.1 dX6_open_11 (by decide) ?_
    refine lv_icmp_lt (tgt := 23) C.1 C.2.1 dX6_open_13 (by decide) (fun c13 => ?_) (fun c13 => ?_)
    · have hw := hw.1 (z_lt (hS.1 2 13) (show rng 8 from by decide) c13)
      refine lv_aload_n C.1 C.2.1 dX6_open_23 rfl (lv_at hl 0 rfl) ?_
      refine k_get (v := .ref (ad 5)) C Wd.1 KX6 _ 14 (cx2 _) (by decide) fl_X6_27 rfl dX6_open_24 ?_
      refine lv_aload_n C.1 C.2.1 dX6_open_27 rfl (lv_at hl 0 rfl) ?_
      refine k_get (v := .int (zI (σ.1 2 13))) C Wd.1 KX6 _ 13 (cx2 _) (by decide) fl_X6_82 rfl dX6_open_28 ?_
      refine lv_iload_n C.1 C.2.1 dX6_open_31 rfl (lv_at hl 1 rfl) ?_
      obtain ⟨n32_0, hw⟩ := hw
      refine k_iastF (g := (σ.2.1 5)) (i := (σ.1 2 13)) (v := x0) C Wd 5 (by decide) (cx5 _) (fun f => cx5a _ f) (tC_at (by decide) rfl) n32_0 (by decide) (ruZ (fun j => Wd.2.1.2.1 5 j) g_x0) dX6_open_32 (fun H locs Wd => ?_)
      refine lv_aload_n C.1 C.2.1 dX6_open_33 rfl (lv_at hl 0 rfl) ?_
      refine k_get (v := .ref (ad 6)) C Wd.1 KX6 _ 15 (cx2 _) (by decide) fl_X6_31 rfl dX6_open_34 ?_
      refine lv_aload_n C.1 C.2.1 dX6_open_37 rfl (lv_at hl 0 rfl) ?_
      refine k_get (v := .int (zI (σ.1 2 13))) C Wd.1 KX6 _ 13 (cx2 _) (by decide) fl_X6_82 rfl dX6_open_38 ?_
      refine lv_aload_n C.1 C.2.1 dX6_open_41 rfl (lv_at hl 0 rfl) ?_
      refine k_get (v := .int (zI (σ.1 2 10))) C Wd.1 KX6 _ 10 (cx2 _) (by decide) fl_X6_143 rfl dX6_open_42 ?_
      refine k_iastF (g := (σ.2.1 6)) (i := (σ.1 2 13)) (v := (σ.1 2 10)) C Wd 6 (by decide) (cx6 _) (fun f => cx6a _ f) (tC_at (by decide) rfl) n32_0 (by decide) (ruZ (fun j => Wd.2.1.2.1 6 j) (hS.1 2 10)) dX6_open_45 (fun H locs Wd => ?_)
      refine lv_aload_n C.1 C.2.1 dX6_open_46 rfl (lv_at hl 0 rfl) ?_
      refine k_get (v := .ref (ad 7)) C Wd.1 KX6 _ 16 (cx2 _) (by decide) fl_X6_34 rfl dX6_open_47 ?_
      refine lv_aload_n C.1 C.2.1 dX6_open_50 rfl (lv_at hl 0 rfl) ?_
      refine k_get (v := .int (zI (σ.1 2 13))) C Wd.1 KX6 _ 13 (cx2 _) (by decide) fl_X6_82 rfl dX6_open_51 ?_
      refine lv_aload_n C.1 C.2.1 dX6_open_54 rfl (lv_at hl 0 rfl) ?_
      refine k_get (v := .int (zI (σ.1 2 11))) C Wd.1 KX6 _ 11 (cx2 _) (by decide) fl_X6_146 rfl dX6_open_55 ?_
      refine k_iastF (g := (σ.2.1 7)) (i := (σ.1 2 13)) (v := (σ.1 2 11)) C Wd 7 (by decide) (cx7 _) (fun f => cx7a _ f) (tC_at (by decide) rfl) n32_0 (by decide) (ruZ (fun j => Wd.2.1.2.1 7 j) (hS.1 2 11)) dX6_open_58 (fun H locs Wd => ?_)
      refine lv_aload_n C.1 C.2.1 dX6_open_59 rfl (lv_at hl 0 rfl) ?_
      refine lv_dup C.1 C.2.1 dX6_open_60 rfl ?_
      refine k_get (v := .int (zI (σ.1 2 13))) C Wd.1 KX6 _ 13 (cx2 _) (by decide) fl_X6_82 rfl dX6_open_61 ?_
      refine lv_iconst (v := zI 1) C.1 C.2.1 dX6_open_64 (by decide) ?_
      refine k_iadd (v := zI ((σ.1 2 13) + 1)) C (zI_iadd _ _) dX6_open_65 ?_
      obtain ⟨g66_1, hw⟩ := hw
      refine k_putK (v := ((σ.1 2 13) + 1)) C Wd KX6 2 13 (by decide) (cx2 _) rfl (by decide) fl_X6_82 rfl rfl rfl (Nat.le_of_ble_eq_true rfl) g66_1 dX6_open_66 (fun H locs Wd => ?_)
      refine lv_iconst (v := zI 1) C.1 C.2.1 dX6_open_69 (by decide) ?_
      exact k_retKi C hr hlk (by decide) Wd ⟨_, rfl, (show rng 1 from by decide), hw⟩ dX6_open_70
    · have hw := hw.2 (z_nlt (hS.1 2 13) (show rng 8 from by decide) c13)
      exact J16  _ _ _ ⟨hw, Wd, lv_sub hl [0] rfl⟩
set_option maxHeartbeats 4000000 in
set_option maxRecDepth 100000 in
theorem mk_R_openBlock : ∀ (D : va_G) (ad : Nat → Nat) (ca : Nat → ClassId) (rf : Nat → Nat → Option Nat) (σ : Sg) (hS : rngK σ) (hRF : RFok ad rf) (x0 : Int) (g_x0 : rng x0) (K : Sg → Prop) (hw : wp5_R_openBlock σ x0 K) (l : Launch) (sz : Nat), Met l yX6_openBlock (Cond.code yX6_openBlock cX6_openBlock 2 none :: gG) { frames := 3, cells := 0, slots := 0, locals := 106 } (cPre D (tC ca) (wK ad ca rf σ) sz [.ref (ad 2), .int (zI x0)]) (va_Qv (fun (u : Sg) => K u ∧ rngK u) (fun u t => cB D (va_A (wK ad ca rf σ) sz) [] (wK ad ca rf u) t) (va_A (wK ad ca rf σ) sz)) 0 0 (va_A (wK ad ca rf σ) sz) := by
  intro D ad ca rf σ hS hRF x0 g_x0 K hw l sz
  refine Met.ofW (cc := cX6_openBlock) (maxL := 2) (ret := none) (by decide) rfl ?_
  intro p e s m args below meth c s₁ B hml hv
  obtain ⟨rfl, aks, rfl, Wd⟩ := k_enter hv
  have C : CallFix p m c cX6_openBlock 2 s _ gG RX6 := ⟨B.exec, B.bytes, hml, findClass_of_methodNamed B.named, fun w h => atoms_spec (ws := Cond.code yX6_openBlock cX6_openBlock 2 none :: gG) B.pre w (List.mem_cons_of_mem _ h)⟩
  have hr := B.returns
  have hlk := B.notSynchronized
  generalize va_A (wK ad ca rf σ) s.heap.size = A at Wd ⊢
  replace Wd : wXK D ad ca rf s σ s.heap A s.heap [] := ⟨Wd, hS, hRF⟩
  refine k_locals (Nat.le_of_ble_eq_true rfl) [(0, .ref (ad 2)), (1, .int (zI x0))] rfl (fun ls hl => ?_)
  unfold wp5_R_openBlock at hw
  refine lv_aload_n C.1 C.2.1 dX6_openBlock_0 rfl (lv_at hl 0 rfl) ?_
  refine lv_iload_n C.1 C.2.1 dX6_openBlock_1 rfl (lv_at hl 1 rfl) ?_
  refine k_cKi Wd (k_runVK (rest := []) C aks Wd cs_X6_149 (mk_R_open D ad ca rf σ Wd.2.1 Wd.2.2 x0 g_x0 _ hw l _) (cx2 _) rfl rfl rfl rfl ⟨(Nat.le_of_ble_eq_true rfl), (Nat.le_of_ble_eq_true rfl)⟩ hl.1 rfl rfl (Nat.le_of_ble_eq_true rfl) ⟨(Nat.le_of_ble_eq_true rfl), (Nat.le_of_ble_eq_true rfl)⟩ dX6_openBlock_2) (fun r2 σr2 H locs g_r2 hw Wd => ?_)
  have hS_σr2 := Wd.2.1
  refine lv_if_eq (tgt := 13) C.1 C.2.1 dX6_openBlock_5 (by decide) (fun c5 => ?_) (fun c5 => ?_)
  · have hw := hw.1 (z0_eq g_r2 c5)
    exact k_retKv C hr hlk Wd hw dX6_openBlock_13
  · have hw := hw.2 (z0_ne g_r2 c5)
    refine lv_aload_n C.1 C.2.1 dX6_openBlock_8 rfl (lv_at hl 0 rfl) ?_
    refine lv_iconst (v := zI 0) C.1 C.2.1 dX6_openBlock_9 (by decide) ?_
    refine k_putK (v := 0) C Wd KX6 2 5 (by decide) (cx2 _) rfl (by decide) fl_X6_52 rfl rfl rfl (Nat.le_of_ble_eq_true rfl) (show rng 0 from by decide) dX6_openBlock_10 (fun H locs Wd => ?_)
    exact k_retKv C hr hlk Wd hw dX6_openBlock_13
set_option maxHeartbeats 4000000 in
set_option maxRecDepth 100000 in
theorem mk_R_takeElseBrace : ∀ (D : va_G) (ad : Nat → Nat) (ca : Nat → ClassId) (rf : Nat → Nat → Option Nat) (σ : Sg) (hS : rngK σ) (hRF : RFok ad rf) (K : Sg → Prop) (hw : wp5_R_takeElseBrace σ K) (l : Launch) (sz : Nat), Met l yX6_takeElseBrace (Cond.code yX6_takeElseBrace cX6_takeElseBrace 1 none :: gG) { frames := 4, cells := 0, slots := 0, locals := 127 } (cPre D (tC ca) (wK ad ca rf σ) sz [.ref (ad 2)]) (va_Qv (fun (u : Sg) => K u ∧ rngK u) (fun u t => cB D (va_A (wK ad ca rf σ) sz) [] (wK ad ca rf u) t) (va_A (wK ad ca rf σ) sz)) 0 0 (va_A (wK ad ca rf σ) sz) := by
  intro D ad ca rf σ hS hRF  K hw l sz
  refine Met.ofW (cc := cX6_takeElseBrace) (maxL := 1) (ret := none) (by decide) rfl ?_
  intro p e s m args below meth c s₁ B hml hv
  obtain ⟨rfl, aks, rfl, Wd⟩ := k_enter hv
  have C : CallFix p m c cX6_takeElseBrace 1 s _ gG RX6 := ⟨B.exec, B.bytes, hml, findClass_of_methodNamed B.named, fun w h => atoms_spec (ws := Cond.code yX6_takeElseBrace cX6_takeElseBrace 1 none :: gG) B.pre w (List.mem_cons_of_mem _ h)⟩
  have hr := B.returns
  have hlk := B.notSynchronized
  generalize va_A (wK ad ca rf σ) s.heap.size = A at Wd ⊢
  replace Wd : wXK D ad ca rf s σ s.heap A s.heap [] := ⟨Wd, hS, hRF⟩
  refine k_locals (Nat.le_of_ble_eq_true rfl) [(0, .ref (ad 2))] rfl (fun ls hl => ?_)
  unfold wp5_R_takeElseBrace at hw
  refine lv_aload_n C.1 C.2.1 dX6_takeElseBrace_0 rfl (lv_at hl 0 rfl) ?_
  refine k_get (v := .ref (ad 3)) C Wd.1 KX6 _ 0 (cx2 _) (by decide) fl_X6_12 rfl dX6_takeElseBrace_1 ?_
  refine k_get (v := .int (zI (σ.1 3 2))) C Wd.1 KX10 _ 2 (cx3 _) (by decide) fl_X6_88 rfl dX6_takeElseBrace_4 ?_
  refine lv_bipush (v := zI 123) C.1 C.2.1 dX6_takeElseBrace_7 (by decide) ?_
  refine lv_icmp_ne (tgt := 21) C.1 C.2.1 dX6_takeElseBrace_9 (by decide) (fun c9 => ?_) (fun c9 => ?_)
  · have hw := hw.1 (z_ne (hS.1 3 2) (show rng 123 from by decide) c9)
    refine lv_aload_n C.1 C.2.1 dX6_takeElseBrace_21 rfl (lv_at hl 0 rfl) ?_
    refine lv_iconst (v := zI 1) C.1 C.2.1 dX6_takeElseBrace_22 (by decide) ?_
    refine k_cKv Wd (k_runVK (rest := []) C aks Wd cs_X6_125 (mk_R_refuse D ad ca rf σ Wd.2.1 Wd.2.2 1 (show rng 1 from by decide) _ hw l _) (cx2 _) rfl rfl rfl rfl ⟨(Nat.le_of_ble_eq_true rfl), (Nat.le_of_ble_eq_true rfl)⟩ hl.1 rfl rfl (Nat.le_of_ble_eq_true rfl) ⟨(Nat.le_of_ble_eq_true rfl), (Nat.le_of_ble_eq_true rfl)⟩ dX6_takeElseBrace_23) (fun σr23 H locs hw Wd => ?_)
    have hS_σr23 := Wd.2.1
    exact k_retKv C hr hlk Wd hw dX6_takeElseBrace_26
  · have hw := hw.2 (z_eq (hS.1 3 2) (show rng 123 from by decide) c9)
    refine lv_aload_n C.1 C.2.1 dX6_takeElseBrace_12 rfl (lv_at hl 0 rfl) ?_
    refine lv_bipush (v := zI 113) C.1 C.2.1 dX6_takeElseBrace_13 (by decide) ?_
    refine k_cKv Wd (k_runVK (rest := []) C aks Wd cs_X6_122 (mk_R_openBlock D ad ca rf σ Wd.2.1 Wd.2.2 113 (show rng 113 from by decide) _ hw l _) (cx2 _) rfl rfl rfl rfl ⟨(Nat.le_of_ble_eq_true rfl), (Nat.le_of_ble_eq_true rfl)⟩ hl.1 rfl rfl (Nat.le_of_ble_eq_true rfl) ⟨(Nat.le_of_ble_eq_true rfl), (Nat.le_of_ble_eq_true rfl)⟩ dX6_takeElseBrace_15) (fun σr15 H locs hw Wd => ?_)
    have hS_σr15 := Wd.2.1
    refine lv_goto (tgt := 26) C.1 C.2.1 dX6_takeElseBrace_18 (by decide) ?_
    exact k_retKv C hr hlk Wd hw dX6_takeElseBrace_26
set_option maxHeartbeats 4000000 in
set_option maxRecDepth 100000 in
theorem mk_R_takeSetSign : ∀ (D : va_G) (ad : Nat → Nat) (ca : Nat → ClassId) (rf : Nat → Nat → Option Nat) (σ : Sg) (hS : rngK σ) (hRF : RFok ad rf) (K : Sg → Prop) (hw : wp5_R_takeSetSign σ K) (l : Launch) (sz : Nat), Met l yX6_takeSetSign (Cond.code yX6_takeSetSign cX6_takeSetSign 1 none :: gG) { frames := 2, cells := 0, slots := 0, locals := 85 } (cPre D (tC ca) (wK ad ca rf σ) sz [.ref (ad 2)]) (va_Qv (fun (u : Sg) => K u ∧ rngK u) (fun u t => cB D (va_A (wK ad ca rf σ) sz) [] (wK ad ca rf u) t) (va_A (wK ad ca rf σ) sz)) 0 0 (va_A (wK ad ca rf σ) sz) := by
  intro D ad ca rf σ hS hRF  K hw l sz
  refine Met.ofW (cc := cX6_takeSetSign) (maxL := 1) (ret := none) (by decide) rfl ?_
  intro p e s m args below meth c s₁ B hml hv
  obtain ⟨rfl, aks, rfl, Wd⟩ := k_enter hv
  have C : CallFix p m c cX6_takeSetSign 1 s _ gG RX6 := ⟨B.exec, B.bytes, hml, findClass_of_methodNamed B.named, fun w h => atoms_spec (ws := Cond.code yX6_takeSetSign cX6_takeSetSign 1 none :: gG) B.pre w (List.mem_cons_of_mem _ h)⟩
  have hr := B.returns
  have hlk := B.notSynchronized
  generalize va_A (wK ad ca rf σ) s.heap.size = A at Wd ⊢
  replace Wd : wXK D ad ca rf s σ s.heap A s.heap [] := ⟨Wd, hS, hRF⟩
  refine k_locals (Nat.le_of_ble_eq_true rfl) [(0, .ref (ad 2))] rfl (fun ls hl => ?_)
  unfold wp5_R_takeSetSign at hw
  refine lv_aload_n C.1 C.2.1 dX6_takeSetSign_0 rfl (lv_at hl 0 rfl) ?_
  refine k_get (v := .ref (ad 3)) C Wd.1 KX6 _ 0 (cx2 _) (by decide) fl_X6_12 rfl dX6_takeSetSign_1 ?_
  refine k_get (v := .int (zI (σ.1 3 2))) C Wd.1 KX10 _ 2 (cx3 _) (by decide) fl_X6_88 rfl dX6_takeSetSign_4 ?_
  refine lv_bipush (v := zI 61) C.1 C.2.1 dX6_takeSetSign_7 (by decide) ?_
  refine lv_icmp_ne (tgt := 20) C.1 C.2.1 dX6_takeSetSign_9 (by decide) (fun c9 => ?_) (fun c9 => ?_)
  · have hw := hw.1 (z_ne (hS.1 3 2) (show rng 61 from by decide) c9)
    refine lv_aload_n C.1 C.2.1 dX6_takeSetSign_20 rfl (lv_at hl 0 rfl) ?_
    refine lv_iconst (v := zI 1) C.1 C.2.1 dX6_takeSetSign_21 (by decide) ?_
    refine k_cKv Wd (k_runVK (rest := []) C aks Wd cs_X6_125 (mk_R_refuse D ad ca rf σ Wd.2.1 Wd.2.2 1 (show rng 1 from by decide) _ hw l _) (cx2 _) rfl rfl rfl rfl ⟨(Nat.le_of_ble_eq_true rfl), (Nat.le_of_ble_eq_true rfl)⟩ hl.1 rfl rfl (Nat.le_of_ble_eq_true rfl) ⟨(Nat.le_of_ble_eq_true rfl), (Nat.le_of_ble_eq_true rfl)⟩ dX6_takeSetSign_22) (fun σr22 H locs hw Wd => ?_)
    have hS_σr22 := Wd.2.1
    exact k_retKv C hr hlk Wd hw dX6_takeSetSign_25
  · have hw := hw.2 (z_eq (hS.1 3 2) (show rng 61 from by decide) c9)
    refine lv_aload_n C.1 C.2.1 dX6_takeSetSign_12 rfl (lv_at hl 0 rfl) ?_
    refine lv_iconst (v := zI 0) C.1 C.2.1 dX6_takeSetSign_13 (by decide) ?_
    refine k_cKv Wd (k_runVK (rest := []) C aks Wd cs_X6_63 (mk_R_beginExpression D ad ca rf σ Wd.2.1 Wd.2.2 0 (show rng 0 from by decide) _ hw l _) (cx2 _) rfl rfl rfl rfl ⟨(Nat.le_of_ble_eq_true rfl), (Nat.le_of_ble_eq_true rfl)⟩ hl.1 rfl rfl (Nat.le_of_ble_eq_true rfl) ⟨(Nat.le_of_ble_eq_true rfl), (Nat.le_of_ble_eq_true rfl)⟩ dX6_takeSetSign_14) (fun σr14 H locs hw Wd => ?_)
    have hS_σr14 := Wd.2.1
    refine lv_goto (tgt := 25) C.1 C.2.1 dX6_takeSetSign_17 (by decide) ?_
    exact k_retKv C hr hlk Wd hw dX6_takeSetSign_25
set_option maxHeartbeats 4000000 in
set_option maxRecDepth 100000 in
theorem mk_R_takeSemicolon : ∀ (D : va_G) (ad : Nat → Nat) (ca : Nat → ClassId) (rf : Nat → Nat → Option Nat) (σ : Sg) (hS : rngK σ) (hRF : RFok ad rf) (K : Sg → Prop) (hw : wp5_R_takeSemicolon σ K) (l : Launch) (sz : Nat), Met l yX6_takeSemicolon (Cond.code yX6_takeSemicolon cX6_takeSemicolon 1 none :: gG) { frames := 2, cells := 0, slots := 0, locals := 85 } (cPre D (tC ca) (wK ad ca rf σ) sz [.ref (ad 2)]) (va_Qv (fun (u : Sg) => K u ∧ rngK u) (fun u t => cB D (va_A (wK ad ca rf σ) sz) [] (wK ad ca rf u) t) (va_A (wK ad ca rf σ) sz)) 0 0 (va_A (wK ad ca rf σ) sz) := by
  intro D ad ca rf σ hS hRF  K hw l sz
  refine Met.ofW (cc := cX6_takeSemicolon) (maxL := 1) (ret := none) (by decide) rfl ?_
  intro p e s m args below meth c s₁ B hml hv
  obtain ⟨rfl, aks, rfl, Wd⟩ := k_enter hv
  have C : CallFix p m c cX6_takeSemicolon 1 s _ gG RX6 := ⟨B.exec, B.bytes, hml, findClass_of_methodNamed B.named, fun w h => atoms_spec (ws := Cond.code yX6_takeSemicolon cX6_takeSemicolon 1 none :: gG) B.pre w (List.mem_cons_of_mem _ h)⟩
  have hr := B.returns
  have hlk := B.notSynchronized
  generalize va_A (wK ad ca rf σ) s.heap.size = A at Wd ⊢
  replace Wd : wXK D ad ca rf s σ s.heap A s.heap [] := ⟨Wd, hS, hRF⟩
  refine k_locals (Nat.le_of_ble_eq_true rfl) [(0, .ref (ad 2))] rfl (fun ls hl => ?_)
  unfold wp5_R_takeSemicolon at hw
  refine lv_aload_n C.1 C.2.1 dX6_takeSemicolon_0 rfl (lv_at hl 0 rfl) ?_
  refine k_get (v := .ref (ad 3)) C Wd.1 KX6 _ 0 (cx2 _) (by decide) fl_X6_12 rfl dX6_takeSemicolon_1 ?_
  refine k_get (v := .int (zI (σ.1 3 2))) C Wd.1 KX10 _ 2 (cx3 _) (by decide) fl_X6_88 rfl dX6_takeSemicolon_4 ?_
  refine lv_bipush (v := zI 59) C.1 C.2.1 dX6_takeSemicolon_7 (by decide) ?_
  refine lv_icmp_ne (tgt := 20) C.1 C.2.1 dX6_takeSemicolon_9 (by decide) (fun c9 => ?_) (fun c9 => ?_)
  · have hw := hw.1 (z_ne (hS.1 3 2) (show rng 59 from by decide) c9)
    refine lv_aload_n C.1 C.2.1 dX6_takeSemicolon_20 rfl (lv_at hl 0 rfl) ?_
    refine lv_iconst (v := zI 1) C.1 C.2.1 dX6_takeSemicolon_21 (by decide) ?_
    refine k_cKv Wd (k_runVK (rest := []) C aks Wd cs_X6_125 (mk_R_refuse D ad ca rf σ Wd.2.1 Wd.2.2 1 (show rng 1 from by decide) _ hw l _) (cx2 _) rfl rfl rfl rfl ⟨(Nat.le_of_ble_eq_true rfl), (Nat.le_of_ble_eq_true rfl)⟩ hl.1 rfl rfl (Nat.le_of_ble_eq_true rfl) ⟨(Nat.le_of_ble_eq_true rfl), (Nat.le_of_ble_eq_true rfl)⟩ dX6_takeSemicolon_22) (fun σr22 H locs hw Wd => ?_)
    have hS_σr22 := Wd.2.1
    exact k_retKv C hr hlk Wd hw dX6_takeSemicolon_25
  · have hw := hw.2 (z_eq (hS.1 3 2) (show rng 59 from by decide) c9)
    refine lv_aload_n C.1 C.2.1 dX6_takeSemicolon_12 rfl (lv_at hl 0 rfl) ?_
    refine lv_iconst (v := zI 0) C.1 C.2.1 dX6_takeSemicolon_13 (by decide) ?_
    refine k_putK (v := 0) C Wd KX6 2 5 (by decide) (cx2 _) rfl (by decide) fl_X6_52 rfl rfl rfl (Nat.le_of_ble_eq_true rfl) (show rng 0 from by decide) dX6_takeSemicolon_14 (fun H locs Wd => ?_)
    refine lv_goto (tgt := 25) C.1 C.2.1 dX6_takeSemicolon_17 (by decide) ?_
    exact k_retKv C hr hlk Wd hw dX6_takeSemicolon_25
set_option maxHeartbeats 4000000 in
set_option maxRecDepth 100000 in
theorem mk_U_hasLetter : ∀ (D : va_G) (ad : Nat → Nat) (ca : Nat → ClassId) (rf : Nat → Nat → Option Nat) (σ : Sg) (hS : rngK σ) (hRF : RFok ad rf) (n0 : Int) (x0 : Int) (h_n0 : 0 ≤ n0 ∧ n0 < 12) (g_x0 : rng x0) (K : Int → Prop) (hw : wp5_U_hasLetter σ n0 x0 K) (l : Launch) (sz : Nat), Met l yX9_hasLetter (Cond.code yX9_hasLetter cX9_hasLetter 2 (some .boolean) :: gG) { frames := 1, cells := 0, slots := 0, locals := 64 } (cPre D (tC ca) (wK ad ca rf σ) sz [.ref (ad (ruleC n0.toNat)), .int (zI x0)]) (vp_Si (fun r => ∃ x : Int, r = zI x ∧ rng x ∧ K x)) 0 0 (fun _ => False) := by
  intro D ad ca rf σ hS hRF n0 x0 h_n0 g_x0 K hw l sz
  refine Met.ofW (cc := cX9_hasLetter) (maxL := 2) (ret := (some .boolean)) (by decide) rfl ?_
  intro p e s m args below meth c s₁ B hml hv
  obtain ⟨rfl, aks, rfl, Wd⟩ := k_enter hv
  have C : CallFix p m c cX9_hasLetter 2 s _ gG RX9 := ⟨B.exec, B.bytes, hml, findClass_of_methodNamed B.named, fun w h => atoms_spec (ws := Cond.code yX9_hasLetter cX9_hasLetter 2 (some .boolean) :: gG) B.pre w (List.mem_cons_of_mem _ h)⟩
  have hr := B.returns
  have hlk := B.notSynchronized
  obtain ⟨A, Wd⟩ : ∃ A, wXK D ad ca rf s σ s.heap A s.heap [] := ⟨_, Wd, hS, hRF⟩
  refine k_locals (Nat.le_of_ble_eq_true rfl) [(0, .ref (ad (ruleC n0.toNat))), (1, .int (zI x0))] rfl (fun ls hl => ?_)
  unfold wp5_U_hasLetter at hw
  refine lv_iload_n C.1 C.2.1 dX9_hasLetter_0 rfl (lv_at hl 1 rfl) ?_
  refine lv_if_lt (tgt := 24) C.1 C.2.1 dX9_hasLetter_1 (by decide) (fun c1 => ?_) (fun c1 => ?_)
  · have hw := hw.1 (z0_lt g_x0 c1)
    refine lv_iconst (v := zI 0) C.1 C.2.1 dX9_hasLetter_24 (by decide) ?_
    exact k_zretP C hr hlk (by decide) ⟨_, rfl, (show rng 0 from by decide), hw⟩ dX9_hasLetter_25
  · have hw := hw.2 (z0_nlt g_x0 c1)
    refine lv_iload_n C.1 C.2.1 dX9_hasLetter_4 rfl (lv_at hl 1 rfl) ?_
    refine lv_iconst (v := zI 3) C.1 C.2.1 dX9_hasLetter_5 (by decide) ?_
    refine lv_icmp_ge (tgt := 24) C.1 C.2.1 dX9_hasLetter_6 (by decide) (fun c6 => ?_) (fun c6 => ?_)
    · have hw := hw.1 (z_le (show rng 3 from by decide) g_x0 c6)
      refine lv_iconst (v := zI 0) C.1 C.2.1 dX9_hasLetter_24 (by decide) ?_
      exact k_zretP C hr hlk (by decide) ⟨_, rfl, (show rng 0 from by decide), hw⟩ dX9_hasLetter_25
    · have hw := hw.2 (z_nle (show rng 3 from by decide) g_x0 c6)
      refine lv_aload_n C.1 C.2.1 dX9_hasLetter_9 rfl (lv_at hl 0 rfl) ?_
      refine k_get (v := .int (zI (σ.2.2.1 1 n0))) C Wd.1 KX9 _ 2 (cxRule h_n0) (by decide) fl_X9_30 rfl dX9_hasLetter_10 ?_
      refine lv_iload_n C.1 C.2.1 dX9_hasLetter_13 rfl (lv_at hl 1 rfl) ?_
      refine k_ishr (v := zI (zishr (σ.2.2.1 1 n0) x0)) C (zishr_eq _ _) dX9_hasLetter_14 ?_
      refine lv_iconst (v := zI 1) C.1 C.2.1 dX9_hasLetter_15 (by decide) ?_
      refine k_iand (v := zI (ziand (zishr (σ.2.2.1 1 n0) x0) 1)) C (ziand_eq _ _) dX9_hasLetter_16 ?_
      refine lv_if_eq (tgt := 24) C.1 C.2.1 dX9_hasLetter_17 (by decide) (fun c17 => ?_) (fun c17 => ?_)
      · have hw := hw.1 (z0_eq (rng_toInt _) c17)
        refine lv_iconst (v := zI 0) C.1 C.2.1 dX9_hasLetter_24 (by decide) ?_
        exact k_zretP C hr hlk (by decide) ⟨_, rfl, (show rng 0 from by decide), hw⟩ dX9_hasLetter_25
      · have hw := hw.2 (z0_ne (rng_toInt _) c17)
        refine lv_iconst (v := zI 1) C.1 C.2.1 dX9_hasLetter_20 (by decide) ?_
        refine lv_goto (tgt := 25) C.1 C.2.1 dX9_hasLetter_21 (by decide) ?_
        exact k_zretP C hr hlk (by decide) ⟨_, rfl, (show rng 1 from by decide), hw⟩ dX9_hasLetter_25
set_option maxHeartbeats 4000000 in
set_option maxRecDepth 100000 in
theorem mk_R_countThing : ∀ (D : va_G) (ad : Nat → Nat) (ca : Nat → ClassId) (rf : Nat → Nat → Option Nat) (σ : Sg) (hS : rngK σ) (hRF : RFok ad rf) (K : Int → Sg → Prop) (hw : wp5_R_countThing σ K) (l : Launch) (sz : Nat), Met l yX6_countThing (Cond.code yX6_countThing cX6_countThing 1 (some .boolean) :: gG) { frames := 2, cells := 0, slots := 0, locals := 85 } (cPre D (tC ca) (wK ad ca rf σ) sz [.ref (ad 2)]) (va_Qi (fun (r : Int32) (u : Sg) => (∃ x : Int, r = zI x ∧ rng x ∧ K x u) ∧ rngK u) (fun u t => cB D (va_A (wK ad ca rf σ) sz) [] (wK ad ca rf u) t) (va_A (wK ad ca rf σ) sz)) 0 0 (va_A (wK ad ca rf σ) sz) := by
  intro D ad ca rf σ hS hRF  K hw l sz
  refine Met.ofW (cc := cX6_countThing) (maxL := 1) (ret := (some .boolean)) (by decide) rfl ?_
  intro p e s m args below meth c s₁ B hml hv
  obtain ⟨rfl, aks, rfl, Wd⟩ := k_enter hv
  have C : CallFix p m c cX6_countThing 1 s _ gG RX6 := ⟨B.exec, B.bytes, hml, findClass_of_methodNamed B.named, fun w h => atoms_spec (ws := Cond.code yX6_countThing cX6_countThing 1 (some .boolean) :: gG) B.pre w (List.mem_cons_of_mem _ h)⟩
  have hr := B.returns
  have hlk := B.notSynchronized
  generalize va_A (wK ad ca rf σ) s.heap.size = A at Wd ⊢
  replace Wd : wXK D ad ca rf s σ s.heap A s.heap [] := ⟨Wd, hS, hRF⟩
  refine k_locals (Nat.le_of_ble_eq_true rfl) [(0, .ref (ad 2))] rfl (fun ls hl => ?_)
  unfold wp5_R_countThing at hw
  refine lv_aload_n C.1 C.2.1 dX6_countThing_0 rfl (lv_at hl 0 rfl) ?_
  refine k_get (v := .int (zI (σ.1 2 8))) C Wd.1 KX6 _ 8 (cx2 _) (by decide) fl_X6_76 rfl dX6_countThing_1 ?_
  refine lv_aload_n C.1 C.2.1 dX6_countThing_4 rfl (lv_at hl 0 rfl) ?_
  refine k_get (v := .int (zI (σ.1 2 9))) C Wd.1 KX6 _ 9 (cx2 _) (by decide) fl_X6_79 rfl dX6_countThing_5 ?_
  refine lv_icmp_lt (tgt := 18) C.1 C.2.1 dX6_countThing_8 (by decide) (fun c8 => ?_) (fun c8 => ?_)
  · have hw := hw.1 (z_lt (hS.1 2 8) (hS.1 2 9) c8)
    refine lv_aload_n C.1 C.2.1 dX6_countThing_18 rfl (lv_at hl 0 rfl) ?_
    refine lv_dup C.1 C.2.1 dX6_countThing_19 rfl ?_
    refine k_get (v := .int (zI (σ.1 2 8))) C Wd.1 KX6 _ 8 (cx2 _) (by decide) fl_X6_76 rfl dX6_countThing_20 ?_
    refine lv_iconst (v := zI 1) C.1 C.2.1 dX6_countThing_23 (by decide) ?_
    refine k_iadd (v := zI ((σ.1 2 8) + 1)) C (zI_iadd _ _) dX6_countThing_24 ?_
    obtain ⟨g25_1, hw⟩ := hw
    refine k_putK (v := ((σ.1 2 8) + 1)) C Wd KX6 2 8 (by decide) (cx2 _) rfl (by decide) fl_X6_76 rfl rfl rfl (Nat.le_of_ble_eq_true rfl) g25_1 dX6_countThing_25 (fun H locs Wd => ?_)
    refine lv_iconst (v := zI 1) C.1 C.2.1 dX6_countThing_28 (by decide) ?_
    exact k_retKi C hr hlk (by decide) Wd ⟨_, rfl, (show rng 1 from by decide), hw⟩ dX6_countThing_29
  · have hw := hw.2 (z_nlt (hS.1 2 8) (hS.1 2 9) c8)
    refine lv_aload_n C.1 C.2.1 dX6_countThing_11 rfl (lv_at hl 0 rfl) ?_
    refine lv_iconst (v := zI 3) C.1 C.2.1 dX6_countThing_12 (by decide) ?_
    refine k_cKv Wd (k_runVK (rest := []) C aks Wd cs_X6_125 (mk_R_refuse D ad ca rf σ Wd.2.1 Wd.2.2 3 (show rng 3 from by decide) _ hw l _) (cx2 _) rfl rfl rfl rfl ⟨(Nat.le_of_ble_eq_true rfl), (Nat.le_of_ble_eq_true rfl)⟩ hl.1 rfl rfl (Nat.le_of_ble_eq_true rfl) ⟨(Nat.le_of_ble_eq_true rfl), (Nat.le_of_ble_eq_true rfl)⟩ dX6_countThing_13) (fun σr13 H locs hw Wd => ?_)
    have hS_σr13 := Wd.2.1
    refine lv_iconst (v := zI 0) C.1 C.2.1 dX6_countThing_16 (by decide) ?_
    exact k_retKi C hr hlk (by decide) Wd ⟨_, rfl, (show rng 0 from by decide), hw⟩ dX6_countThing_17
set_option maxHeartbeats 4000000 in
set_option maxRecDepth 100000 in
theorem mk_R_takeLetter : ∀ (D : va_G) (ad : Nat → Nat) (ca : Nat → ClassId) (rf : Nat → Nat → Option Nat) (σ : Sg) (hS : rngK σ) (hRF : RFok ad rf) (K : Sg → Prop) (hw : wp5_R_takeLetter σ K) (l : Launch) (sz : Nat), Met l yX6_takeLetter (Cond.code yX6_takeLetter cX6_takeLetter 2 none :: gG) { frames := 3, cells := 0, slots := 0, locals := 105 } (cPre D (tC ca) (wK ad ca rf σ) sz [.ref (ad 2)]) (va_Qv (fun (u : Sg) => K u ∧ rngK u) (fun u t => cB D (va_A (wK ad ca rf σ) sz) [] (wK ad ca rf u) t) (va_A (wK ad ca rf σ) sz)) 0 0 (va_A (wK ad ca rf σ) sz) := by
  intro D ad ca rf σ hS hRF  K hw l sz
  refine Met.ofW (cc := cX6_takeLetter) (maxL := 2) (ret := none) (by decide) rfl ?_
  intro p e s m args below meth c s₁ B hml hv
  obtain ⟨rfl, aks, rfl, Wd⟩ := k_enter hv
  have C : CallFix p m c cX6_takeLetter 2 s _ gG RX6 := ⟨B.exec, B.bytes, hml, findClass_of_methodNamed B.named, fun w h => atoms_spec (ws := Cond.code yX6_takeLetter cX6_takeLetter 2 none :: gG) B.pre w (List.mem_cons_of_mem _ h)⟩
  have hr := B.returns
  have hlk := B.notSynchronized
  generalize va_A (wK ad ca rf σ) s.heap.size = A at Wd ⊢
  replace Wd : wXK D ad ca rf s σ s.heap A s.heap [] := ⟨Wd, hS, hRF⟩
  refine k_locals (Nat.le_of_ble_eq_true rfl) [(0, .ref (ad 2))] rfl (fun ls hl => ?_)
  unfold wp5_R_takeLetter at hw
  refine lv_aload_n C.1 C.2.1 dX6_takeLetter_0 rfl (lv_at hl 0 rfl) ?_
  refine k_cut1 (fun (s0_27 : Int) H locs ls => rng s0_27 ∧ wp5_R_takeLetter_27 K σ s0_27 ∧ wXK D ad ca rf s σ H A s.heap locs ∧ lv_has ls 2 [(0, .ref (ad 2))]) (fun (s0_27 : Int) ls => F0 m 27 ls [.int (zI s0_27)]) (fun s0_27 H locs ls hi => ?_) (fun J27 => ?_)
  · obtain ⟨g_s0_27, hw, Wd, hl⟩ := hi
    unfold wp5_R_takeLetter_27 at hw
    refine lv_istore_n (lv' := [(1, .int (zI s0_27)), (0, .ref (ad 2))]) C.1 C.2.1 dX6_takeLetter_27 rfl hl (by decide) rfl (fun ls hl => ?_)
    replace hl := lv_sub hl [1, 0] rfl
    refine lv_iload_n C.1 C.2.1 dX6_takeLetter_28 rfl (lv_at hl 1 rfl) ?_
    refine k_cut0 (fun H locs ls => wp5_R_takeLetter_49 K σ ∧ wXK D ad ca rf s σ H A s.heap locs ∧ lv_has ls 2 [(0, .ref (ad 2))]) (fun  ls => F0 m 49 ls []) (fun  H locs ls hi => ?_) (fun J49 => ?_)
    · obtain ⟨hw, Wd, hl⟩ := hi
      unfold wp5_R_takeLetter_49 at hw
      refine lv_aload_n C.1 C.2.1 dX6_takeLetter_49 rfl (lv_at hl 0 rfl) ?_
      refine lv_iconst (v := zI 1) C.1 C.2.1 dX6_takeLetter_50 (by decide) ?_
      refine k_cKv Wd (k_runVK (rest := []) C aks Wd cs_X6_125 (mk_R_refuse D ad ca rf σ Wd.2.1 Wd.2.2 1 (show rng 1 from by decide) _ hw l _) (cx2 _) rfl rfl rfl rfl ⟨(Nat.le_of_ble_eq_true rfl), (Nat.le_of_ble_eq_true rfl)⟩ hl.1 rfl rfl (Nat.le_of_ble_eq_true rfl) ⟨(Nat.le_of_ble_eq_true rfl), (Nat.le_of_ble_eq_true rfl)⟩ dX6_takeLetter_51) (fun σr51 H locs hw Wd => ?_)
      have hS_σr51 := Wd.2.1
      refine lv_goto (tgt := 115) C.1 C.2.1 dX6_takeLetter_54 (by decide) ?_
      exact k_retKv C hr hlk Wd hw dX6_takeLetter_115
    refine lv_if_lt (tgt := 49) C.1 C.2.1 dX6_takeLetter_29 (by decide) (fun c29 => ?_) (fun c29 => ?_)
    · have hw := hw.1 (z0_lt g_s0_27 c29)
      exact J49  _ _ _ ⟨hw, Wd, lv_sub hl [0] rfl⟩
    · have hw := hw.2 (z0_nlt g_s0_27 c29)
      refine lv_iload_n C.1 C.2.1 dX6_takeLetter_32 rfl (lv_at hl 1 rfl) ?_
      refine lv_aload_n C.1 C.2.1 dX6_takeLetter_33 rfl (lv_at hl 0 rfl) ?_
      refine k_cut1 (fun (s0_46 : Int) H locs ls => rng s0_46 ∧ wp5_R_takeLetter_46 K σ s0_27 s0_46 ∧ wXK D ad ca rf s σ H A s.heap locs ∧ lv_has ls 2 [(0, .ref (ad 2)), (1, .int (zI s0_27))]) (fun (s0_46 : Int) ls => F0 m 46 ls [.int (zI s0_46), .int (zI s0_27)]) (fun s0_46 H locs ls hi => ?_) (fun J46 => ?_)
      · obtain ⟨g_s0_46, hw, Wd, hl⟩ := hi
        unfold wp5_R_takeLetter_46 at hw
        refine lv_icmp_lt (tgt := 57) C.1 C.2.1 dX6_takeLetter_46 (by decide) (fun c46 => ?_) (fun c46 => ?_)
        · have hw := hw.1 (z_lt g_s0_27 g_s0_46 c46)
          refine lv_aload_n C.1 C.2.1 dX6_takeLetter_57 rfl (lv_at hl 0 rfl) ?_
          refine k_get (v := .int (zI (σ.1 2 6))) C Wd.1 KX6 _ 6 (cx2 _) (by decide) fl_X6_140 rfl dX6_takeLetter_58 ?_
          refine lv_iconst (v := zI 4) C.1 C.2.1 dX6_takeLetter_61 (by decide) ?_
          refine k_cut0 (fun H locs ls => wp5_R_takeLetter_91 K σ s0_27 ∧ wXK D ad ca rf s σ H A s.heap locs ∧ lv_has ls 2 [(0, .ref (ad 2)), (1, .int (zI s0_27))]) (fun  ls => F0 m 91 ls []) (fun  H locs ls hi => ?_) (fun J91 => ?_)
          · obtain ⟨hw, Wd, hl⟩ := hi
            unfold wp5_R_takeLetter_91 at hw
            refine lv_aload_n C.1 C.2.1 dX6_takeLetter_91 rfl (lv_at hl 0 rfl) ?_
            refine k_cKi Wd (k_runVK (rest := []) C aks Wd cs_X6_158 (mk_R_countThing D ad ca rf σ Wd.2.1 Wd.2.2   _ hw l _) (cx2 _) rfl rfl rfl rfl ⟨(Nat.le_of_ble_eq_true rfl), (Nat.le_of_ble_eq_true rfl)⟩ hl.1 rfl rfl (Nat.le_of_ble_eq_true rfl) ⟨(Nat.le_of_ble_eq_true rfl), (Nat.le_of_ble_eq_true rfl)⟩ dX6_takeLetter_92) (fun r92 σr92 H locs g_r92 hw Wd => ?_)
            have hS_σr92 := Wd.2.1
            refine lv_if_eq (tgt := 115) C.1 C.2.1 dX6_takeLetter_95 (by decide) (fun c95 => ?_) (fun c95 => ?_)
            · have hw := hw.1 (z0_eq g_r92 c95)
              exact k_retKv C hr hlk Wd hw dX6_takeLetter_115
            · have hw := hw.2 (z0_ne g_r92 c95)
              refine lv_aload_n C.1 C.2.1 dX6_takeLetter_98 rfl (lv_at hl 0 rfl) ?_
              obtain ⟨n99_0, hw⟩ := hw
              refine k_get (v := .ref (ad (rowC (σr92.1 2 3).toNat))) C Wd.1 KX6 _ 3 (cx2 _) (by decide) fl_X6_23 (congrArg some (rvR_ref n99_0)) dX6_takeLetter_99 ?_
              refine lv_bipush (v := zI 20) C.1 C.2.1 dX6_takeLetter_102 (by decide) ?_
              refine lv_iload_n C.1 C.2.1 dX6_takeLetter_104 rfl (lv_at hl 1 rfl) ?_
              refine k_iadd (v := zI (20 + s0_27)) C (zI_iadd _ _) dX6_takeLetter_105 ?_
              obtain ⟨g106_3, hw⟩ := hw
              refine k_cKv Wd (k_runVK (rest := []) C aks Wd cs_X6_119 (mk_W_add D ad ca rf σr92 Wd.2.1 Wd.2.2 (σr92.1 2 3) (20 + s0_27) n99_0 g106_3 _ hw l _) (cxRow n99_0) rfl rfl rfl rfl ⟨(Nat.le_of_ble_eq_true rfl), (Nat.le_of_ble_eq_true rfl)⟩ hl.1 rfl rfl (Nat.le_of_ble_eq_true rfl) ⟨(Nat.le_of_ble_eq_true rfl), (Nat.le_of_ble_eq_true rfl)⟩ dX6_takeLetter_106) (fun σr106 H locs hw Wd => ?_)
              have hS_σr106 := Wd.2.1
              refine lv_aload_n C.1 C.2.1 dX6_takeLetter_109 rfl (lv_at hl 0 rfl) ?_
              refine lv_bipush (v := zI 6) C.1 C.2.1 dX6_takeLetter_110 (by decide) ?_
              refine k_putK (v := 6) C Wd KX6 2 5 (by decide) (cx2 _) rfl (by decide) fl_X6_52 rfl rfl rfl (Nat.le_of_ble_eq_true rfl) (show rng 6 from by decide) dX6_takeLetter_112 (fun H locs Wd => ?_)
              exact k_retKv C hr hlk Wd hw dX6_takeLetter_115
          refine lv_icmp_ne (tgt := 91) C.1 C.2.1 dX6_takeLetter_62 (by decide) (fun c62 => ?_) (fun c62 => ?_)
          · have hw := hw.1 (z_ne (hS.1 2 6) (show rng 4 from by decide) c62)
            exact J91  _ _ _ ⟨hw, Wd, lv_sub hl [0, 1] rfl⟩
          · have hw := hw.2 (z_eq (hS.1 2 6) (show rng 4 from by decide) c62)
            refine lv_aload_n C.1 C.2.1 dX6_takeLetter_65 rfl (lv_at hl 0 rfl) ?_
            by_cases c66 : (σ.1 2 4) < 0
            · have hw := hw.1 c66
              refine k_get (v := .null) C Wd.1 KX6 _ 4 (cx2 _) (by decide) fl_X6_69 (congrArg some (rvN_null c66)) dX6_takeLetter_66 ?_
              refine lv_ifnullN (tgt := 91) C.1 C.2.1 dX6_takeLetter_69 (by decide) ?_
              exact J91  _ _ _ ⟨hw, Wd, lv_sub hl [0, 1] rfl⟩
            · have hw := hw.2 (Int.not_lt.mp c66)
              obtain ⟨n66_0, hw⟩ := hw
              refine k_get (v := .ref (ad (ruleC (σ.1 2 4).toNat))) C Wd.1 KX6 _ 4 (cx2 _) (by decide) fl_X6_69 (congrArg some (rvN_ref n66_0)) dX6_takeLetter_66 ?_
              refine lv_ifnull C.1 C.2.1 dX6_takeLetter_69 ?_
              refine lv_aload_n C.1 C.2.1 dX6_takeLetter_72 rfl (lv_at hl 0 rfl) ?_
              refine k_get (v := .ref (ad (ruleC (σ.1 2 4).toNat))) C Wd.1 KX6 _ 4 (cx2 _) (by decide) fl_X6_69 (congrArg some (rvN_ref n66_0)) dX6_takeLetter_73 ?_
              refine lv_iload_n C.1 C.2.1 dX6_takeLetter_76 rfl (lv_at hl 1 rfl) ?_
              refine k_pi (k_runVK (rest := []) C aks Wd cs_X6_162 (mk_U_hasLetter D ad ca rf σ Wd.2.1 Wd.2.2 (σ.1 2 4) s0_27 n66_0 g_s0_27 _ hw l _) (cxRule n66_0) rfl rfl rfl rfl ⟨(Nat.le_of_ble_eq_true rfl), (Nat.le_of_ble_eq_true rfl)⟩ hl.1 rfl rfl (Nat.le_of_ble_eq_true rfl) ⟨(Nat.le_of_ble_eq_true rfl), (Nat.le_of_ble_eq_true rfl)⟩ dX6_takeLetter_77) (fun y77 hy => ?_)
              obtain ⟨r77, rfl, g_r77, hw⟩ := hy
              refine lv_if_ne (tgt := 91) C.1 C.2.1 dX6_takeLetter_80 (by decide) (fun c80 => ?_) (fun c80 => ?_)
              · have hw := hw.1 (z0_ne g_r77 c80)
                exact J91  _ _ _ ⟨hw, Wd, lv_sub hl [0, 1] rfl⟩
              · have hw := hw.2 (z0_eq g_r77 c80)
                refine lv_aload_n C.1 C.2.1 dX6_takeLetter_83 rfl (lv_at hl 0 rfl) ?_
                refine lv_iconst (v := zI 2) C.1 C.2.1 dX6_takeLetter_84 (by decide) ?_
                refine k_cKv Wd (k_runVK (rest := []) C aks Wd cs_X6_125 (mk_R_refuse D ad ca rf σ Wd.2.1 Wd.2.2 2 (show rng 2 from by decide) _ hw l _) (cx2 _) rfl rfl rfl rfl ⟨(Nat.le_of_ble_eq_true rfl), (Nat.le_of_ble_eq_true rfl)⟩ hl.1 rfl rfl (Nat.le_of_ble_eq_true rfl) ⟨(Nat.le_of_ble_eq_true rfl), (Nat.le_of_ble_eq_true rfl)⟩ dX6_takeLetter_85) (fun σr85 H locs hw Wd => ?_)
                have hS_σr85 := Wd.2.1
                refine lv_goto (tgt := 115) C.1 C.2.1 dX6_takeLetter_88 (by decide) ?_
                exact k_retKv C hr hlk Wd hw dX6_takeLetter_115
        · have hw := hw.2 (z_nlt g_s0_27 g_s0_46 c46)
          exact J49  _ _ _ ⟨hw, Wd, lv_sub hl [0] rfl⟩
      by_cases c34 : (σ.1 2 4) < 0
      · have hw := hw.1 c34
        refine k_get (v := .null) C Wd.1 KX6 _ 4 (cx2 _) (by decide) fl_X6_69 (congrArg some (rvN_null c34)) dX6_takeLetter_34 ?_
        refine lv_ifnonnullN C.1 C.2.1 dX6_takeLetter_37 ?_
        refine lv_bipush (v := zI 6) C.1 C.2.1 dX6_takeLetter_40 (by decide) ?_
        refine lv_goto (tgt := 46) C.1 C.2.1 dX6_takeLetter_42 (by decide) ?_
        exact J46 6 _ _ _ ⟨(show rng 6 from by decide), hw, Wd, lv_sub hl [0, 1] rfl⟩
      · have hw := hw.2 (Int.not_lt.mp c34)
        obtain ⟨n34_0, hw⟩ := hw
        refine k_get (v := .ref (ad (ruleC (σ.1 2 4).toNat))) C Wd.1 KX6 _ 4 (cx2 _) (by decide) fl_X6_69 (congrArg some (rvN_ref n34_0)) dX6_takeLetter_34 ?_
        refine lv_ifnonnull (tgt := 45) C.1 C.2.1 dX6_takeLetter_37 (by decide) ?_
        refine lv_iconst (v := zI 3) C.1 C.2.1 dX6_takeLetter_45 (by decide) ?_
        exact J46 3 _ _ _ ⟨(show rng 3 from by decide), hw, Wd, lv_sub hl [0, 1] rfl⟩
  by_cases c1 : (σ.1 2 4) < 0
  · have hw := hw.1 c1
    refine k_get (v := .null) C Wd.1 KX6 _ 4 (cx2 _) (by decide) fl_X6_69 (congrArg some (rvN_null c1)) dX6_takeLetter_1 ?_
    refine lv_ifnonnullN C.1 C.2.1 dX6_takeLetter_4 ?_
    refine lv_aload_n C.1 C.2.1 dX6_takeLetter_7 rfl (lv_at hl 0 rfl) ?_
    refine k_get (v := .ref (ad 3)) C Wd.1 KX6 _ 0 (cx2 _) (by decide) fl_X6_12 rfl dX6_takeLetter_8 ?_
    refine k_get (v := .int (zI (σ.1 3 3))) C Wd.1 KX10 _ 3 (cx3 _) (by decide) fl_X6_131 rfl dX6_takeLetter_11 ?_
    refine lv_goto (tgt := 27) C.1 C.2.1 dX6_takeLetter_14 (by decide) ?_
    exact J27 (σ.1 3 3) _ _ _ ⟨(hS.1 3 3), hw, Wd, lv_sub hl [0] rfl⟩
  · have hw := hw.2 (Int.not_lt.mp c1)
    obtain ⟨n1_0, hw⟩ := hw
    refine k_get (v := .ref (ad (ruleC (σ.1 2 4).toNat))) C Wd.1 KX6 _ 4 (cx2 _) (by decide) fl_X6_69 (congrArg some (rvN_ref n1_0)) dX6_takeLetter_1 ?_
    refine lv_ifnonnull (tgt := 17) C.1 C.2.1 dX6_takeLetter_4 (by decide) ?_
    refine lv_aload_n C.1 C.2.1 dX6_takeLetter_17 rfl (lv_at hl 0 rfl) ?_
    refine k_get (v := .ref (ad 3)) C Wd.1 KX6 _ 0 (cx2 _) (by decide) fl_X6_12 rfl dX6_takeLetter_18 ?_
    refine k_get (v := .int (zI (σ.1 3 3))) C Wd.1 KX10 _ 3 (cx3 _) (by decide) fl_X6_131 rfl dX6_takeLetter_21 ?_
    refine lv_bipush (v := zI 23) C.1 C.2.1 dX6_takeLetter_24 (by decide) ?_
    refine k_isub (v := zI ((σ.1 3 3) - 23)) C (zI_isub _ _) dX6_takeLetter_26 ?_
    obtain ⟨g26_4, hw⟩ := hw
    exact J27 ((σ.1 3 3) - 23) _ _ _ ⟨g26_4, hw, Wd, lv_sub hl [0] rfl⟩
