set_option maxHeartbeats 4000000 in
set_option maxRecDepth 100000 in
theorem mk_T_put : ∀ (D : va_G) (ad : Nat → Nat) (ca : Nat → ClassId) (rf : Nat → Nat → Option Nat) (σ : Sg) (hS : rngK σ) (hRF : RFok ad rf) (x0 : Int) (g_x0 : rng x0) (K : Sg → Prop) (hw : wp5_T_put σ x0 K) (l : Launch) (sz : Nat), Met l yX10_put (Cond.code yX10_put cX10_put 3 none :: gG) { frames := 1, cells := 0, slots := 0, locals := 64 } (cPre D (tC ca) (wK ad ca rf σ) sz [.ref (ad 3), .int (zI x0)]) (va_Qv (fun (u : Sg) => K u ∧ rngK u) (fun u t => cB D (va_A (wK ad ca rf σ) sz) [] (wK ad ca rf u) t) (va_A (wK ad ca rf σ) sz)) 0 0 (va_A (wK ad ca rf σ) sz) := by
  intro D ad ca rf σ hS hRF x0 g_x0 K hw l sz
  refine Met.ofW (cc := cX10_put) (maxL := 3) (ret := none) (by decide) rfl ?_
  intro p e s m args below meth c s₁ B hml hv
  obtain ⟨rfl, aks, rfl, Wd⟩ := k_enter hv
  have C : CallFix p m c cX10_put 3 s _ gG RX10 := ⟨B.exec, B.bytes, hml, findClass_of_methodNamed B.named, fun w h => atoms_spec (ws := Cond.code yX10_put cX10_put 3 none :: gG) B.pre w (List.mem_cons_of_mem _ h)⟩
  have hr := B.returns
  have hlk := B.notSynchronized
  generalize va_A (wK ad ca rf σ) s.heap.size = A at Wd ⊢
  replace Wd : wXK D ad ca rf s σ s.heap A s.heap [] := ⟨Wd, hS, hRF⟩
  refine k_locals (Nat.le_of_ble_eq_true rfl) [(0, .ref (ad 3)), (1, .int (zI x0))] rfl (fun ls hl => ?_)
  unfold wp5_T_put at hw
  refine lv_bipush (v := zI 24) C.1 C.2.1 dX10_put_0 (by decide) ?_
  refine lv_istore_n (lv' := [(2, .int (zI 24)), (0, .ref (ad 3)), (1, .int (zI x0))]) C.1 C.2.1 dX10_put_2 rfl hl (by decide) rfl (fun ls hl => ?_)
  replace hl := lv_sub hl [1, 2, 0] rfl
  refine k_lp2 hw (fun (l2_3 : Int) (σ3 : Sg) H locs ls => rng l2_3 ∧ wXK D ad ca rf s σ3 H A s.heap locs ∧ lv_has ls 3 [(0, .ref (ad 3)), (1, .int (zI x0)), (2, .int (zI l2_3))]) (fun (l2_3 : Int) (σ3 : Sg) ls => F0 m 3 ls []) (fun L3 hL3 l2_3 σ3 hw H locs ls hi => ?_) _ _ _ ⟨(show rng 24 from by decide), Wd, lv_sub hl [0, 1, 2] rfl⟩
  obtain ⟨g_l2_3, Wd, hl⟩ := hi
  have hS_σ3 := Wd.2.1
  unfold wp5_T_put_3 at hw
  refine lv_iload_n C.1 C.2.1 dX10_put_3 rfl (lv_at hl 2 rfl) ?_
  refine lv_if_lt (tgt := 51) C.1 C.2.1 dX10_put_4 (by decide) (fun c4 => ?_) (fun c4 => ?_)
  · have hw := hw.1 (z0_lt g_l2_3 c4)
    exact k_retKv C hr hlk Wd hw dX10_put_51
  · have hw := hw.2 (z0_nlt g_l2_3 c4)
    refine lv_aload_n C.1 C.2.1 dX10_put_7 rfl (lv_at hl 0 rfl) ?_
    refine k_get (v := .int (zI (σ3.1 3 1))) C Wd.1 KX10 _ 1 (cx3 _) (by decide) fl_X10_15 rfl dX10_put_8 ?_
    refine lv_aload_n C.1 C.2.1 dX10_put_11 rfl (lv_at hl 0 rfl) ?_
    refine k_get (v := .ref (ad 4)) C Wd.1 KX10 _ 0 (cx3 _) (by decide) fl_X10_11 rfl dX10_put_12 ?_
    refine k_alen (v := zI 800) C Wd.1 4 4 (cx4 _) (tC_at (by decide) rfl) rfl dX10_put_15 ?_
    refine lv_icmp_ge (tgt := 51) C.1 C.2.1 dX10_put_16 (by decide) (fun c16 => ?_) (fun c16 => ?_)
    · have hw := hw.1 (z_le (show rng 800 from by decide) (hS_σ3.1 3 1) c16)
      exact k_retKv C hr hlk Wd hw dX10_put_51
    · have hw := hw.2 (z_nle (show rng 800 from by decide) (hS_σ3.1 3 1) c16)
      refine lv_aload_n C.1 C.2.1 dX10_put_19 rfl (lv_at hl 0 rfl) ?_
      refine k_get (v := .ref (ad 4)) C Wd.1 KX10 _ 0 (cx3 _) (by decide) fl_X10_11 rfl dX10_put_20 ?_
      refine lv_aload_n C.1 C.2.1 dX10_put_23 rfl (lv_at hl 0 rfl) ?_
      refine k_get (v := .int (zI (σ3.1 3 1))) C Wd.1 KX10 _ 1 (cx3 _) (by decide) fl_X10_15 rfl dX10_put_24 ?_
      refine lv_iload_n C.1 C.2.1 dX10_put_27 rfl (lv_at hl 1 rfl) ?_
      refine lv_iload_n C.1 C.2.1 dX10_put_28 rfl (lv_at hl 2 rfl) ?_
      refine lv_iushr (v := zI (ziushr x0 l2_3)) C.1 C.2.1 dX10_put_29 (ziushr_eq _ _) ?_
      refine lv_sipush (v := zI 255) C.1 C.2.1 dX10_put_30 (zS (by decide) (by decide)) ?_
      refine k_iand (v := zI (ziand (ziushr x0 l2_3) 255)) C (ziand_eq _ _) dX10_put_33 ?_
      obtain ⟨n34_0, hw⟩ := hw
      refine k_iastF (g := (σ3.2.1 4)) (i := (σ3.1 3 1)) (v := (ziand (ziushr x0 l2_3) 255)) C Wd 4 (by decide) (cx4 _) (fun f => cx4a _ f) (tC_at (by decide) rfl) n34_0 (by decide) (ruZ (fun j => Wd.2.1.2.1 4 j) (rng_toInt _)) dX10_put_34 (fun H locs Wd => ?_)
      refine lv_aload_n C.1 C.2.1 dX10_put_35 rfl (lv_at hl 0 rfl) ?_
      refine lv_dup C.1 C.2.1 dX10_put_36 rfl ?_
      refine k_get (v := .int (zI (σ3.1 3 1))) C Wd.1 KX10 _ 1 (cx3 _) (by decide) fl_X10_15 rfl dX10_put_37 ?_
      refine lv_iconst (v := zI 1) C.1 C.2.1 dX10_put_40 (by decide) ?_
      refine k_iadd (v := zI ((σ3.1 3 1) + 1)) C (zI_iadd _ _) dX10_put_41 ?_
      obtain ⟨g42_5, hw⟩ := hw
      refine k_putK (v := ((σ3.1 3 1) + 1)) C Wd KX10 3 1 (by decide) (cx3 _) rfl (by decide) fl_X10_15 rfl rfl rfl (Nat.le_of_ble_eq_true rfl) g42_5 dX10_put_42 (fun H locs Wd => ?_)
      refine lv_iinc (v := zI (l2_3 - 8)) (lv' := [(2, .int (zI (l2_3 - 8))), (0, .ref (ad 3)), (1, .int (zI x0))]) C.1 C.2.1 dX10_put_45 hl (k := 2) rfl (zI_dec _ _ (by decide)) (by decide) rfl (fun ls hl => ?_)
      replace hl := lv_sub hl [1, 2, 0] rfl
      refine lv_goto (tgt := 3) C.1 C.2.1 dX10_put_48 (by decide) ?_
      obtain ⟨g48_6, hw⟩ := hw
      exact hL3 _ _ hw _ _ _ ⟨g48_6, Wd, lv_sub hl [0, 1, 2] rfl⟩
set_option maxHeartbeats 4000000 in
set_option maxRecDepth 100000 in
theorem mk_S_feed : ∀ (D : va_G) (ad : Nat → Nat) (ca : Nat → ClassId) (rf : Nat → Nat → Option Nat) (σ : Sg) (hS : rngK σ) (hRF : RFok ad rf) (x0 : Int) (x1 : Int) (x2 : Int) (x3 : Int) (x4 : Int) (g_x0 : rng x0) (g_x1 : rng x1) (g_x2 : rng x2) (g_x3 : rng x3) (g_x4 : rng x4) (K : Int → Sg → Prop) (hw : wp5_S_feed σ x0 x1 x2 x3 x4 K) (l : Launch) (sz : Nat), Met l yX11_feed (Cond.code yX11_feed cX11_feed 7 (some .int) :: gG) { frames := 2, cells := 0, slots := 0, locals := 86 } (cPre D (tC ca) (wK ad ca rf σ) sz [.ref (ad 0), .int (zI x0), .int (zI x1), .int (zI x2), .int (zI x3), .int (zI x4)]) (va_Qi (fun (r : Int32) (u : Sg) => (∃ x : Int, r = zI x ∧ rng x ∧ K x u) ∧ rngK u) (fun u t => cB D (va_A (wK ad ca rf σ) sz) [] (wK ad ca rf u) t) (va_A (wK ad ca rf σ) sz)) 0 0 (va_A (wK ad ca rf σ) sz) := by
  intro D ad ca rf σ hS hRF x0 x1 x2 x3 x4 g_x0 g_x1 g_x2 g_x3 g_x4 K hw l sz
  refine Met.ofW (cc := cX11_feed) (maxL := 7) (ret := (some .int)) (by decide) rfl ?_
  intro p e s m args below meth c s₁ B hml hv
  obtain ⟨rfl, aks, rfl, Wd⟩ := k_enter hv
  have C : CallFix p m c cX11_feed 7 s _ gG RX11 := ⟨B.exec, B.bytes, hml, findClass_of_methodNamed B.named, fun w h => atoms_spec (ws := Cond.code yX11_feed cX11_feed 7 (some .int) :: gG) B.pre w (List.mem_cons_of_mem _ h)⟩
  have hr := B.returns
  have hlk := B.notSynchronized
  generalize va_A (wK ad ca rf σ) s.heap.size = A at Wd ⊢
  replace Wd : wXK D ad ca rf s σ s.heap A s.heap [] := ⟨Wd, hS, hRF⟩
  refine k_locals (Nat.le_of_ble_eq_true rfl) [(0, .ref (ad 0)), (1, .int (zI x0)), (2, .int (zI x1)), (3, .int (zI x2)), (4, .int (zI x3)), (5, .int (zI x4))] rfl (fun ls hl => ?_)
  unfold wp5_S_feed at hw
  refine lv_aload_n C.1 C.2.1 dX11_feed_0 rfl (lv_at hl 0 rfl) ?_
  refine k_get (v := .ref (ad 2)) C Wd.1 KX11 _ 3 (cx0 _) (by decide) fl_X11_29 rfl dX11_feed_1 ?_
  refine k_get (v := .ref (ad 3)) C Wd.1 KX6 _ 0 (cx2 _) (by decide) fl_X11_61 rfl dX11_feed_4 ?_
  refine lv_astore (lv' := [(6, .ref (ad 3)), (0, .ref (ad 0)), (1, .int (zI x0)), (2, .int (zI x1)), (3, .int (zI x2)), (4, .int (zI x3)), (5, .int (zI x4))]) C.1 C.2.1 dX11_feed_7 hl (by decide) rfl (fun ls hl => ?_)
  replace hl := lv_sub hl [1, 2, 3, 4, 5, 6, 0] rfl
  refine lv_aload C.1 C.2.1 dX11_feed_9 (lv_at hl 6 rfl) ?_
  refine k_get (v := .int (zI (σ.1 3 1))) C Wd.1 KX10 _ 1 (cx3 _) (by decide) fl_X11_65 rfl dX11_feed_11 ?_
  refine lv_bipush (v := zI 20) C.1 C.2.1 dX11_feed_14 (by decide) ?_
  refine k_iadd (v := zI ((σ.1 3 1) + 20)) C (zI_iadd _ _) dX11_feed_16 ?_
  refine lv_sipush (v := zI 800) C.1 C.2.1 dX11_feed_17 (zS (by decide) (by decide)) ?_
  obtain ⟨g20_1, hw⟩ := hw
  refine lv_icmp_le (tgt := 25) C.1 C.2.1 dX11_feed_20 (by decide) (fun c20 => ?_) (fun c20 => ?_)
  · have hw := hw.1 (z_le g20_1 (show rng 800 from by decide) c20)
    refine lv_aload C.1 C.2.1 dX11_feed_25 (lv_at hl 6 rfl) ?_
    refine lv_iload_n C.1 C.2.1 dX11_feed_27 rfl (lv_at hl 1 rfl) ?_
    refine k_cKv Wd (k_runVK (rest := []) C aks Wd cs_X11_70 (mk_T_put D ad ca rf σ Wd.2.1 Wd.2.2 x0 g_x0 _ hw l _) (cx3 _) rfl rfl rfl rfl ⟨(Nat.le_of_ble_eq_true rfl), (Nat.le_of_ble_eq_true rfl)⟩ hl.1 rfl rfl (Nat.le_of_ble_eq_true rfl) ⟨(Nat.le_of_ble_eq_true rfl), (Nat.le_of_ble_eq_true rfl)⟩ dX11_feed_28) (fun σr28 H locs hw Wd => ?_)
    have hS_σr28 := Wd.2.1
    refine lv_aload C.1 C.2.1 dX11_feed_31 (lv_at hl 6 rfl) ?_
    refine lv_iload_n C.1 C.2.1 dX11_feed_33 rfl (lv_at hl 2 rfl) ?_
    refine k_cKv Wd (k_runVK (rest := []) C aks Wd cs_X11_70 (mk_T_put D ad ca rf σr28 Wd.2.1 Wd.2.2 x1 g_x1 _ hw l _) (cx3 _) rfl rfl rfl rfl ⟨(Nat.le_of_ble_eq_true rfl), (Nat.le_of_ble_eq_true rfl)⟩ hl.1 rfl rfl (Nat.le_of_ble_eq_true rfl) ⟨(Nat.le_of_ble_eq_true rfl), (Nat.le_of_ble_eq_true rfl)⟩ dX11_feed_34) (fun σr34 H locs hw Wd => ?_)
    have hS_σr34 := Wd.2.1
    refine lv_aload C.1 C.2.1 dX11_feed_37 (lv_at hl 6 rfl) ?_
    refine lv_iload_n C.1 C.2.1 dX11_feed_39 rfl (lv_at hl 3 rfl) ?_
    refine k_cKv Wd (k_runVK (rest := []) C aks Wd cs_X11_70 (mk_T_put D ad ca rf σr34 Wd.2.1 Wd.2.2 x2 g_x2 _ hw l _) (cx3 _) rfl rfl rfl rfl ⟨(Nat.le_of_ble_eq_true rfl), (Nat.le_of_ble_eq_true rfl)⟩ hl.1 rfl rfl (Nat.le_of_ble_eq_true rfl) ⟨(Nat.le_of_ble_eq_true rfl), (Nat.le_of_ble_eq_true rfl)⟩ dX11_feed_40) (fun σr40 H locs hw Wd => ?_)
    have hS_σr40 := Wd.2.1
    refine lv_aload C.1 C.2.1 dX11_feed_43 (lv_at hl 6 rfl) ?_
    refine lv_iload C.1 C.2.1 dX11_feed_45 (lv_at hl 4 rfl) ?_
    refine k_cKv Wd (k_runVK (rest := []) C aks Wd cs_X11_70 (mk_T_put D ad ca rf σr40 Wd.2.1 Wd.2.2 x3 g_x3 _ hw l _) (cx3 _) rfl rfl rfl rfl ⟨(Nat.le_of_ble_eq_true rfl), (Nat.le_of_ble_eq_true rfl)⟩ hl.1 rfl rfl (Nat.le_of_ble_eq_true rfl) ⟨(Nat.le_of_ble_eq_true rfl), (Nat.le_of_ble_eq_true rfl)⟩ dX11_feed_47) (fun σr47 H locs hw Wd => ?_)
    have hS_σr47 := Wd.2.1
    refine lv_aload C.1 C.2.1 dX11_feed_50 (lv_at hl 6 rfl) ?_
    refine lv_iload C.1 C.2.1 dX11_feed_52 (lv_at hl 5 rfl) ?_
    refine k_cKv Wd (k_runVK (rest := []) C aks Wd cs_X11_70 (mk_T_put D ad ca rf σr47 Wd.2.1 Wd.2.2 x4 g_x4 _ hw l _) (cx3 _) rfl rfl rfl rfl ⟨(Nat.le_of_ble_eq_true rfl), (Nat.le_of_ble_eq_true rfl)⟩ hl.1 rfl rfl (Nat.le_of_ble_eq_true rfl) ⟨(Nat.le_of_ble_eq_true rfl), (Nat.le_of_ble_eq_true rfl)⟩ dX11_feed_54) (fun σr54 H locs hw Wd => ?_)
    have hS_σr54 := Wd.2.1
    refine lv_aload C.1 C.2.1 dX11_feed_57 (lv_at hl 6 rfl) ?_
    refine k_get (v := .int (zI (σr54.1 3 1))) C Wd.1 KX10 _ 1 (cx3 _) (by decide) fl_X11_65 rfl dX11_feed_59 ?_
    exact k_retKi C hr hlk rfl Wd ⟨_, rfl, (hS_σr54.1 3 1), hw⟩ dX11_feed_62
  · have hw := hw.2 (z_nle g20_1 (show rng 800 from by decide) c20)
    refine lv_iconst (v := zI (-1)) C.1 C.2.1 dX11_feed_23 (by decide) ?_
    exact k_retKi C hr hlk rfl Wd ⟨_, rfl, (show rng (-1) from by decide), hw⟩ dX11_feed_24
set_option maxHeartbeats 4000000 in
set_option maxRecDepth 100000 in
theorem mk_T_shorten : ∀ (D : va_G) (ad : Nat → Nat) (ca : Nat → ClassId) (rf : Nat → Nat → Option Nat) (σ : Sg) (hS : rngK σ) (hRF : RFok ad rf) (x0 : Int) (g_x0 : rng x0) (K : Int → Sg → Prop) (hw : wp5_T_shorten σ x0 K) (l : Launch) (sz : Nat), Met l yX10_shorten (Cond.code yX10_shorten cX10_shorten 2 (some .boolean) :: gG) { frames := 1, cells := 0, slots := 0, locals := 64 } (cPre D (tC ca) (wK ad ca rf σ) sz [.ref (ad 3), .int (zI x0)]) (va_Qi (fun (r : Int32) (u : Sg) => (∃ x : Int, r = zI x ∧ rng x ∧ K x u) ∧ rngK u) (fun u t => cB D (va_A (wK ad ca rf σ) sz) [] (wK ad ca rf u) t) (va_A (wK ad ca rf σ) sz)) 0 0 (va_A (wK ad ca rf σ) sz) := by
  intro D ad ca rf σ hS hRF x0 g_x0 K hw l sz
  refine Met.ofW (cc := cX10_shorten) (maxL := 2) (ret := (some .boolean)) (by decide) rfl ?_
  intro p e s m args below meth c s₁ B hml hv
  obtain ⟨rfl, aks, rfl, Wd⟩ := k_enter hv
  have C : CallFix p m c cX10_shorten 2 s _ gG RX10 := ⟨B.exec, B.bytes, hml, findClass_of_methodNamed B.named, fun w h => atoms_spec (ws := Cond.code yX10_shorten cX10_shorten 2 (some .boolean) :: gG) B.pre w (List.mem_cons_of_mem _ h)⟩
  have hr := B.returns
  have hlk := B.notSynchronized
  generalize va_A (wK ad ca rf σ) s.heap.size = A at Wd ⊢
  replace Wd : wXK D ad ca rf s σ s.heap A s.heap [] := ⟨Wd, hS, hRF⟩
  refine k_locals (Nat.le_of_ble_eq_true rfl) [(0, .ref (ad 3)), (1, .int (zI x0))] rfl (fun ls hl => ?_)
  unfold wp5_T_shorten at hw
  refine lv_iload_n C.1 C.2.1 dX10_shorten_0 rfl (lv_at hl 1 rfl) ?_
  refine lv_if_lt (tgt := 12) C.1 C.2.1 dX10_shorten_1 (by decide) (fun c1 => ?_) (fun c1 => ?_)
  · have hw := hw.1 (z0_lt g_x0 c1)
    refine lv_iconst (v := zI 0) C.1 C.2.1 dX10_shorten_12 (by decide) ?_
    exact k_retKi C hr hlk (by decide) Wd ⟨_, rfl, (show rng 0 from by decide), hw⟩ dX10_shorten_13
  · have hw := hw.2 (z0_nlt g_x0 c1)
    refine lv_iload_n C.1 C.2.1 dX10_shorten_4 rfl (lv_at hl 1 rfl) ?_
    refine lv_aload_n C.1 C.2.1 dX10_shorten_5 rfl (lv_at hl 0 rfl) ?_
    refine k_get (v := .int (zI (σ.1 3 1))) C Wd.1 KX10 _ 1 (cx3 _) (by decide) fl_X10_15 rfl dX10_shorten_6 ?_
    refine lv_icmp_le (tgt := 14) C.1 C.2.1 dX10_shorten_9 (by decide) (fun c9 => ?_) (fun c9 => ?_)
    · have hw := hw.1 (z_le g_x0 (hS.1 3 1) c9)
      refine lv_aload_n C.1 C.2.1 dX10_shorten_14 rfl (lv_at hl 0 rfl) ?_
      refine lv_iload_n C.1 C.2.1 dX10_shorten_15 rfl (lv_at hl 1 rfl) ?_
      refine k_putK (v := x0) C Wd KX10 3 1 (by decide) (cx3 _) rfl (by decide) fl_X10_15 rfl rfl rfl (Nat.le_of_ble_eq_true rfl) g_x0 dX10_shorten_16 (fun H locs Wd => ?_)
      refine lv_iconst (v := zI 1) C.1 C.2.1 dX10_shorten_19 (by decide) ?_
      exact k_retKi C hr hlk (by decide) Wd ⟨_, rfl, (show rng 1 from by decide), hw⟩ dX10_shorten_20
    · have hw := hw.2 (z_nle g_x0 (hS.1 3 1) c9)
      refine lv_iconst (v := zI 0) C.1 C.2.1 dX10_shorten_12 (by decide) ?_
      exact k_retKi C hr hlk (by decide) Wd ⟨_, rfl, (show rng 0 from by decide), hw⟩ dX10_shorten_13
set_option maxHeartbeats 4000000 in
set_option maxRecDepth 100000 in
theorem mk_S_end : ∀ (D : va_G) (ad : Nat → Nat) (ca : Nat → ClassId) (rf : Nat → Nat → Option Nat) (σ : Sg) (hS : rngK σ) (hRF : RFok ad rf) (x0 : Int) (g_x0 : rng x0) (K : Int → Sg → Prop) (hw : wp5_S_end σ x0 K) (l : Launch) (sz : Nat), Met l yX11_end (Cond.code yX11_end cX11_end 2 (some .boolean) :: gG) { frames := 2, cells := 0, slots := 0, locals := 85 } (cPre D (tC ca) (wK ad ca rf σ) sz [.ref (ad 0), .int (zI x0)]) (va_Qi (fun (r : Int32) (u : Sg) => (∃ x : Int, r = zI x ∧ rng x ∧ K x u) ∧ rngK u) (fun u t => cB D (va_A (wK ad ca rf σ) sz) [] (wK ad ca rf u) t) (va_A (wK ad ca rf σ) sz)) 0 0 (va_A (wK ad ca rf σ) sz) := by
  intro D ad ca rf σ hS hRF x0 g_x0 K hw l sz
  refine Met.ofW (cc := cX11_end) (maxL := 2) (ret := (some .boolean)) (by decide) rfl ?_
  intro p e s m args below meth c s₁ B hml hv
  obtain ⟨rfl, aks, rfl, Wd⟩ := k_enter hv
  have C : CallFix p m c cX11_end 2 s _ gG RX11 := ⟨B.exec, B.bytes, hml, findClass_of_methodNamed B.named, fun w h => atoms_spec (ws := Cond.code yX11_end cX11_end 2 (some .boolean) :: gG) B.pre w (List.mem_cons_of_mem _ h)⟩
  have hr := B.returns
  have hlk := B.notSynchronized
  generalize va_A (wK ad ca rf σ) s.heap.size = A at Wd ⊢
  replace Wd : wXK D ad ca rf s σ s.heap A s.heap [] := ⟨Wd, hS, hRF⟩
  refine k_locals (Nat.le_of_ble_eq_true rfl) [(0, .ref (ad 0)), (1, .int (zI x0))] rfl (fun ls hl => ?_)
  unfold wp5_S_end at hw
  refine lv_aload_n C.1 C.2.1 dX11_end_0 rfl (lv_at hl 0 rfl) ?_
  refine k_get (v := .ref (ad 2)) C Wd.1 KX11 _ 3 (cx0 _) (by decide) fl_X11_29 rfl dX11_end_1 ?_
  refine k_get (v := .ref (ad 3)) C Wd.1 KX6 _ 0 (cx2 _) (by decide) fl_X11_61 rfl dX11_end_4 ?_
  refine lv_iload_n C.1 C.2.1 dX11_end_7 rfl (lv_at hl 1 rfl) ?_
  refine k_cKi Wd (k_runVK (rest := []) C aks Wd cs_X11_73 (mk_T_shorten D ad ca rf σ Wd.2.1 Wd.2.2 x0 g_x0 _ hw l _) (cx3 _) rfl rfl rfl rfl ⟨(Nat.le_of_ble_eq_true rfl), (Nat.le_of_ble_eq_true rfl)⟩ hl.1 rfl rfl (Nat.le_of_ble_eq_true rfl) ⟨(Nat.le_of_ble_eq_true rfl), (Nat.le_of_ble_eq_true rfl)⟩ dX11_end_8) (fun r8 σr8 H locs g_r8 hw Wd => ?_)
  have hS_σr8 := Wd.2.1
  obtain ⟨b11_0, hw⟩ := hw
  exact k_retKi C hr hlk (zI_nb b11_0) Wd ⟨_, rfl, g_r8, hw⟩ dX11_end_11
set_option maxHeartbeats 4000000 in
set_option maxRecDepth 100000 in
theorem mk_S_fault : ∀ (D : va_G) (ad : Nat → Nat) (ca : Nat → ClassId) (rf : Nat → Nat → Option Nat) (σ : Sg) (hS : rngK σ) (hRF : RFok ad rf) (x0 : Int) (g_x0 : rng x0) (K : Int → Prop) (hw : wp5_S_fault σ x0 K) (l : Launch) (sz : Nat), Met l yX11_fault (Cond.code yX11_fault cX11_fault 2 (some .int) :: gG) { frames := 1, cells := 0, slots := 0, locals := 64 } (cPre D (tC ca) (wK ad ca rf σ) sz [.ref (ad 0), .int (zI x0)]) (vp_Si (fun r => ∃ x : Int, r = zI x ∧ rng x ∧ K x)) 0 0 (fun _ => False) := by
  intro D ad ca rf σ hS hRF x0 g_x0 K hw l sz
  refine Met.ofW (cc := cX11_fault) (maxL := 2) (ret := (some .int)) (by decide) rfl ?_
  intro p e s m args below meth c s₁ B hml hv
  obtain ⟨rfl, aks, rfl, Wd⟩ := k_enter hv
  have C : CallFix p m c cX11_fault 2 s _ gG RX11 := ⟨B.exec, B.bytes, hml, findClass_of_methodNamed B.named, fun w h => atoms_spec (ws := Cond.code yX11_fault cX11_fault 2 (some .int) :: gG) B.pre w (List.mem_cons_of_mem _ h)⟩
  have hr := B.returns
  have hlk := B.notSynchronized
  obtain ⟨A, Wd⟩ : ∃ A, wXK D ad ca rf s σ s.heap A s.heap [] := ⟨_, Wd, hS, hRF⟩
  refine k_locals (Nat.le_of_ble_eq_true rfl) [(0, .ref (ad 0)), (1, .int (zI x0))] rfl (fun ls hl => ?_)
  unfold wp5_S_fault at hw
  refine lv_iload_n C.1 C.2.1 dX11_fault_0 rfl (lv_at hl 1 rfl) ?_
  refine lv_if_ne (tgt := 12) C.1 C.2.1 dX11_fault_1 (by decide) (fun c1 => ?_) (fun c1 => ?_)
  · have hw := hw.1 (z0_ne g_x0 c1)
    refine lv_iload_n C.1 C.2.1 dX11_fault_12 rfl (lv_at hl 1 rfl) ?_
    refine lv_iconst (v := zI 1) C.1 C.2.1 dX11_fault_13 (by decide) ?_
    refine lv_icmp_ne (tgt := 27) C.1 C.2.1 dX11_fault_14 (by decide) (fun c14 => ?_) (fun c14 => ?_)
    · have hw := hw.1 (z_ne g_x0 (show rng 1 from by decide) c14)
      refine lv_iconst (v := zI (-1)) C.1 C.2.1 dX11_fault_27 (by decide) ?_
      exact k_zretP C hr hlk rfl ⟨_, rfl, (show rng (-1) from by decide), hw⟩ dX11_fault_28
    · have hw := hw.2 (z_eq g_x0 (show rng 1 from by decide) c14)
      refine lv_aload_n C.1 C.2.1 dX11_fault_17 rfl (lv_at hl 0 rfl) ?_
      refine k_get (v := .ref (ad 2)) C Wd.1 KX11 _ 3 (cx0 _) (by decide) fl_X11_29 rfl dX11_fault_18 ?_
      refine k_get (v := .int (zI (σ.1 2 2))) C Wd.1 KX6 _ 2 (cx2 _) (by decide) fl_X11_110 rfl dX11_fault_21 ?_
      refine lv_goto (tgt := 28) C.1 C.2.1 dX11_fault_24 (by decide) ?_
      exact k_zretP C hr hlk rfl ⟨_, rfl, (hS.1 2 2), hw⟩ dX11_fault_28
  · have hw := hw.2 (z0_eq g_x0 c1)
    refine lv_aload_n C.1 C.2.1 dX11_fault_4 rfl (lv_at hl 0 rfl) ?_
    refine k_get (v := .ref (ad 2)) C Wd.1 KX11 _ 3 (cx0 _) (by decide) fl_X11_29 rfl dX11_fault_5 ?_
    refine k_get (v := .int (zI (σ.1 2 1))) C Wd.1 KX6 _ 1 (cx2 _) (by decide) fl_X11_107 rfl dX11_fault_8 ?_
    exact k_zretP C hr hlk rfl ⟨_, rfl, (hS.1 2 1), hw⟩ dX11_fault_11
set_option maxHeartbeats 4000000 in
set_option maxRecDepth 100000 in
theorem mk_S_slotAt : ∀ (D : va_G) (ad : Nat → Nat) (ca : Nat → ClassId) (rf : Nat → Nat → Option Nat) (σ : Sg) (hS : rngK σ) (hRF : RFok ad rf) (x0 : Int) (g_x0 : rng x0) (K : Int → Prop) (hw : wp5_S_slotAt σ x0 K) (l : Launch) (sz : Nat), Met l yX11_slotAt (Cond.code yX11_slotAt cX11_slotAt 2 (some (.object "SameAfter$Row")) :: gG) { frames := 1, cells := 0, slots := 0, locals := 64 } (cPre D (tC ca) (wK ad ca rf σ) sz [.ref (ad 0), .int (zI x0)]) (va_Sq (fun r => ∃ n : Int, r = rfO rowC ad n ∧ K n)) 0 0 (fun _ => False) := by
  intro D ad ca rf σ hS hRF x0 g_x0 K hw l sz
  refine Met.ofW (cc := cX11_slotAt) (maxL := 2) (ret := (some (.object "SameAfter$Row"))) (by decide) rfl ?_
  intro p e s m args below meth c s₁ B hml hv
  obtain ⟨rfl, aks, rfl, Wd⟩ := k_enter hv
  have C : CallFix p m c cX11_slotAt 2 s _ gG RX11 := ⟨B.exec, B.bytes, hml, findClass_of_methodNamed B.named, fun w h => atoms_spec (ws := Cond.code yX11_slotAt cX11_slotAt 2 (some (.object "SameAfter$Row")) :: gG) B.pre w (List.mem_cons_of_mem _ h)⟩
  have hr := B.returns
  have hlk := B.notSynchronized
  obtain ⟨A, Wd⟩ : ∃ A, wXK D ad ca rf s σ s.heap A s.heap [] := ⟨_, Wd, hS, hRF⟩
  refine k_locals (Nat.le_of_ble_eq_true rfl) [(0, .ref (ad 0)), (1, .int (zI x0))] rfl (fun ls hl => ?_)
  unfold wp5_S_slotAt at hw
  refine lv_iload_n C.1 C.2.1 dX11_slotAt_0 rfl (lv_at hl 1 rfl) ?_
  refine lv_if_lt (tgt := 22) C.1 C.2.1 dX11_slotAt_1 (by decide) (fun c1 => ?_) (fun c1 => ?_)
  · have hw := hw.1 (z0_lt g_x0 c1)
    refine lv_null C.1 C.2.1 dX11_slotAt_22 ?_
    exact k_aretP none rfl C hr hlk ⟨(-1), rfl, hw⟩ dX11_slotAt_23
  · have hw := hw.2 (z0_nlt g_x0 c1)
    refine lv_iload_n C.1 C.2.1 dX11_slotAt_4 rfl (lv_at hl 1 rfl) ?_
    refine lv_aload_n C.1 C.2.1 dX11_slotAt_5 rfl (lv_at hl 0 rfl) ?_
    refine k_get (v := .ref (ad 1)) C Wd.1 KX11 _ 0 (cx0 _) (by decide) fl_X11_11 rfl dX11_slotAt_6 ?_
    refine k_alen (v := zI 6) C Wd.1 1 1 (cx1 _) (tC_at' (by decide)) rfl dX11_slotAt_9 ?_
    refine lv_icmp_ge (tgt := 22) C.1 C.2.1 dX11_slotAt_10 (by decide) (fun c10 => ?_) (fun c10 => ?_)
    · have hw := hw.1 (z_le (show rng 6 from by decide) g_x0 c10)
      refine lv_null C.1 C.2.1 dX11_slotAt_22 ?_
      exact k_aretP none rfl C hr hlk ⟨(-1), rfl, hw⟩ dX11_slotAt_23
    · have hw := hw.2 (z_nle (show rng 6 from by decide) g_x0 c10)
      refine lv_aload_n C.1 C.2.1 dX11_slotAt_13 rfl (lv_at hl 0 rfl) ?_
      refine k_get (v := .ref (ad 1)) C Wd.1 KX11 _ 0 (cx0 _) (by decide) fl_X11_11 rfl dX11_slotAt_14 ?_
      refine lv_iload_n C.1 C.2.1 dX11_slotAt_17 rfl (lv_at hl 1 rfl) ?_
      obtain ⟨n18_0, hw⟩ := hw
      refine k_slot (i := x0) C Wd n18_0 dX11_slotAt_18 ?_
      have nr18 : 0 ≤ x0 ∧ x0 < 35 := by omega
      refine lv_goto (tgt := 23) C.1 C.2.1 dX11_slotAt_19 (by decide) ?_
      exact k_aretP (some (ad (rowC x0.toNat))) rfl C hr hlk ⟨x0, (rfO_ref nr18).symm, hw⟩ dX11_slotAt_23
set_option maxHeartbeats 4000000 in
set_option maxRecDepth 100000 in
theorem mk_R_drop : ∀ (D : va_G) (ad : Nat → Nat) (ca : Nat → ClassId) (rf : Nat → Nat → Option Nat) (σ : Sg) (hS : rngK σ) (hRF : RFok ad rf) (K : Sg → Prop) (hw : wp5_R_drop σ K) (l : Launch) (sz : Nat), Met l yX6_drop (Cond.code yX6_drop cX6_drop 1 none :: gG) { frames := 2, cells := 0, slots := 0, locals := 85 } (cPre D (tC ca) (wK ad ca rf σ) sz [.ref (ad 2)]) (va_Qv (fun (u : Sg) => K u ∧ rngK u) (fun u t => cB D (va_A (wK ad ca rf σ) sz) [] (wK ad ca rf u) t) (va_A (wK ad ca rf σ) sz)) 0 0 (va_A (wK ad ca rf σ) sz) := by
  intro D ad ca rf σ hS hRF  K hw l sz
  refine Met.ofW (cc := cX6_drop) (maxL := 1) (ret := none) (by decide) rfl ?_
  intro p e s m args below meth c s₁ B hml hv
  obtain ⟨rfl, aks, rfl, Wd⟩ := k_enter hv
  have C : CallFix p m c cX6_drop 1 s _ gG RX6 := ⟨B.exec, B.bytes, hml, findClass_of_methodNamed B.named, fun w h => atoms_spec (ws := Cond.code yX6_drop cX6_drop 1 none :: gG) B.pre w (List.mem_cons_of_mem _ h)⟩
  have hr := B.returns
  have hlk := B.notSynchronized
  generalize va_A (wK ad ca rf σ) s.heap.size = A at Wd ⊢
  replace Wd : wXK D ad ca rf s σ s.heap A s.heap [] := ⟨Wd, hS, hRF⟩
  refine k_locals (Nat.le_of_ble_eq_true rfl) [(0, .ref (ad 2))] rfl (fun ls hl => ?_)
  unfold wp5_R_drop at hw
  refine lv_aload_n C.1 C.2.1 dX6_drop_0 rfl (lv_at hl 0 rfl) ?_
  refine lv_iconst (v := zI 0) C.1 C.2.1 dX6_drop_1 (by decide) ?_
  refine k_putK (v := 0) C Wd KX6 2 1 (by decide) (cx2 _) rfl (by decide) fl_X6_37 rfl rfl rfl (Nat.le_of_ble_eq_true rfl) (show rng 0 from by decide) dX6_drop_2 (fun H locs Wd => ?_)
  refine lv_aload_n C.1 C.2.1 dX6_drop_5 rfl (lv_at hl 0 rfl) ?_
  refine lv_iconst (v := zI (-1)) C.1 C.2.1 dX6_drop_6 (by decide) ?_
  refine k_putK (v := (-1)) C Wd KX6 2 2 (by decide) (cx2 _) rfl (by decide) fl_X6_41 rfl rfl rfl (Nat.le_of_ble_eq_true rfl) (show rng (-1) from by decide) dX6_drop_7 (fun H locs Wd => ?_)
  refine lv_aload_n C.1 C.2.1 dX6_drop_10 rfl (lv_at hl 0 rfl) ?_
  refine k_get (v := .ref (ad 3)) C Wd.1 KX6 _ 0 (cx2 _) (by decide) fl_X6_12 rfl dX6_drop_11 ?_
  refine lv_iconst (v := zI 0) C.1 C.2.1 dX6_drop_14 (by decide) ?_
  refine k_cKi Wd (k_runVK (rest := []) C aks Wd cs_X6_44 (mk_T_shorten D ad ca rf (pU (pU σ 2 1 0) 2 2 (-1)) Wd.2.1 Wd.2.2 0 (show rng 0 from by decide) _ hw l _) (cx3 _) rfl rfl rfl rfl ⟨(Nat.le_of_ble_eq_true rfl), (Nat.le_of_ble_eq_true rfl)⟩ hl.1 rfl rfl (Nat.le_of_ble_eq_true rfl) ⟨(Nat.le_of_ble_eq_true rfl), (Nat.le_of_ble_eq_true rfl)⟩ dX6_drop_15) (fun r15 σr15 H locs g_r15 hw Wd => ?_)
  have hS_σr15 := Wd.2.1
  refine lv_pop C.1 C.2.1 dX6_drop_18 rfl ?_
  exact k_retKv C hr hlk Wd hw dX6_drop_19
set_option maxHeartbeats 4000000 in
set_option maxRecDepth 100000 in
theorem mk_T_rewind : ∀ (D : va_G) (ad : Nat → Nat) (ca : Nat → ClassId) (rf : Nat → Nat → Option Nat) (σ : Sg) (hS : rngK σ) (hRF : RFok ad rf) (K : Sg → Prop) (hw : wp5_T_rewind σ K) (l : Launch) (sz : Nat), Met l yX10_rewind (Cond.code yX10_rewind cX10_rewind 1 none :: gG) { frames := 1, cells := 0, slots := 0, locals := 64 } (cPre D (tC ca) (wK ad ca rf σ) sz [.ref (ad 3)]) (va_Qv (fun (u : Sg) => K u ∧ rngK u) (fun u t => cB D (va_A (wK ad ca rf σ) sz) [] (wK ad ca rf u) t) (va_A (wK ad ca rf σ) sz)) 0 0 (va_A (wK ad ca rf σ) sz) := by
  intro D ad ca rf σ hS hRF  K hw l sz
  refine Met.ofW (cc := cX10_rewind) (maxL := 1) (ret := none) (by decide) rfl ?_
  intro p e s m args below meth c s₁ B hml hv
  obtain ⟨rfl, aks, rfl, Wd⟩ := k_enter hv
  have C : CallFix p m c cX10_rewind 1 s _ gG RX10 := ⟨B.exec, B.bytes, hml, findClass_of_methodNamed B.named, fun w h => atoms_spec (ws := Cond.code yX10_rewind cX10_rewind 1 none :: gG) B.pre w (List.mem_cons_of_mem _ h)⟩
  have hr := B.returns
  have hlk := B.notSynchronized
  generalize va_A (wK ad ca rf σ) s.heap.size = A at Wd ⊢
  replace Wd : wXK D ad ca rf s σ s.heap A s.heap [] := ⟨Wd, hS, hRF⟩
  refine k_locals (Nat.le_of_ble_eq_true rfl) [(0, .ref (ad 3))] rfl (fun ls hl => ?_)
  unfold wp5_T_rewind at hw
  refine lv_aload_n C.1 C.2.1 dX10_rewind_0 rfl (lv_at hl 0 rfl) ?_
  refine lv_iconst (v := zI 0) C.1 C.2.1 dX10_rewind_1 (by decide) ?_
  refine k_putK (v := 0) C Wd KX10 3 5 (by decide) (cx3 _) rfl (by decide) fl_X10_19 rfl rfl rfl (Nat.le_of_ble_eq_true rfl) (show rng 0 from by decide) dX10_rewind_2 (fun H locs Wd => ?_)
  refine lv_aload_n C.1 C.2.1 dX10_rewind_5 rfl (lv_at hl 0 rfl) ?_
  refine lv_iconst (v := zI 0) C.1 C.2.1 dX10_rewind_6 (by decide) ?_
  refine k_putK (v := 0) C Wd KX10 3 4 (by decide) (cx3 _) rfl (by decide) fl_X10_22 rfl rfl rfl (Nat.le_of_ble_eq_true rfl) (show rng 0 from by decide) dX10_rewind_7 (fun H locs Wd => ?_)
  refine lv_aload_n C.1 C.2.1 dX10_rewind_10 rfl (lv_at hl 0 rfl) ?_
  refine lv_iconst (v := zI 0) C.1 C.2.1 dX10_rewind_11 (by decide) ?_
  refine k_putK (v := 0) C Wd KX10 3 2 (by decide) (cx3 _) rfl (by decide) fl_X10_25 rfl rfl rfl (Nat.le_of_ble_eq_true rfl) (show rng 0 from by decide) dX10_rewind_12 (fun H locs Wd => ?_)
  refine lv_aload_n C.1 C.2.1 dX10_rewind_15 rfl (lv_at hl 0 rfl) ?_
  refine lv_iconst (v := zI 0) C.1 C.2.1 dX10_rewind_16 (by decide) ?_
  refine k_putK (v := 0) C Wd KX10 3 3 (by decide) (cx3 _) rfl (by decide) fl_X10_28 rfl rfl rfl (Nat.le_of_ble_eq_true rfl) (show rng 0 from by decide) dX10_rewind_17 (fun H locs Wd => ?_)
  exact k_retKv C hr hlk Wd hw dX10_rewind_20
set_option maxHeartbeats 4000000 in
set_option maxRecDepth 100000 in
theorem mk_R_begin_n1 : ∀ (D : va_G) (ad : Nat → Nat) (ca : Nat → ClassId) (rf : Nat → Nat → Option Nat) (σ : Sg) (hS : rngK σ) (hRF : RFok ad rf) (x0 : Int) (x2 : Int) (g_x0 : 0 ≤ x0 ∧ x0 < 35) (g_x2 : rng x2) (K : Sg → Prop) (hw : wp5_R_begin_n1 σ x0 x2 K) (l : Launch) (sz : Nat), Met l yX6_begin (Cond.code yX6_begin cX6_begin 4 none :: gG) { frames := 2, cells := 0, slots := 0, locals := 84 } (cPre D (tC ca) (wK ad ca rf σ) sz [.ref (ad 2), .ref (ad (rowC x0.toNat)), .null, .int (zI x2)]) (va_Qv (fun (u : Sg) => K u ∧ rngK u) (fun u t => cB D (va_A (wK ad ca rf σ) sz) [] (wK ad ca rf u) t) (va_A (wK ad ca rf σ) sz)) 0 0 (va_A (wK ad ca rf σ) sz) := by
  intro D ad ca rf σ hS hRF x0 x2 g_x0 g_x2 K hw l sz
  refine Met.ofW (cc := cX6_begin) (maxL := 4) (ret := none) (by decide) rfl ?_
  intro p e s m args below meth c s₁ B hml hv
  obtain ⟨rfl, aks, rfl, Wd⟩ := k_enter hv
  have C : CallFix p m c cX6_begin 4 s _ gG RX6 := ⟨B.exec, B.bytes, hml, findClass_of_methodNamed B.named, fun w h => atoms_spec (ws := Cond.code yX6_begin cX6_begin 4 none :: gG) B.pre w (List.mem_cons_of_mem _ h)⟩
  have hr := B.returns
  have hlk := B.notSynchronized
  generalize va_A (wK ad ca rf σ) s.heap.size = A at Wd ⊢
  replace Wd : wXK D ad ca rf s σ s.heap A s.heap [] := ⟨Wd, hS, hRF⟩
  refine k_locals (Nat.le_of_ble_eq_true rfl) [(0, .ref (ad 2)), (1, .ref (ad (rowC x0.toNat))), (2, .null), (3, .int (zI x2))] rfl (fun ls hl => ?_)
  unfold wp5_R_begin_n1 at hw
  refine lv_aload_n C.1 C.2.1 dX6_begin_0 rfl (lv_at hl 0 rfl) ?_
  refine lv_iconst (v := zI 0) C.1 C.2.1 dX6_begin_1 (by decide) ?_
  refine k_putK (v := 0) C Wd KX6 2 1 (by decide) (cx2 _) rfl (by decide) fl_X6_37 rfl rfl rfl (Nat.le_of_ble_eq_true rfl) (show rng 0 from by decide) dX6_begin_2 (fun H locs Wd => ?_)
  refine lv_aload_n C.1 C.2.1 dX6_begin_5 rfl (lv_at hl 0 rfl) ?_
  refine lv_iconst (v := zI (-1)) C.1 C.2.1 dX6_begin_6 (by decide) ?_
  refine k_putK (v := (-1)) C Wd KX6 2 2 (by decide) (cx2 _) rfl (by decide) fl_X6_41 rfl rfl rfl (Nat.le_of_ble_eq_true rfl) (show rng (-1) from by decide) dX6_begin_7 (fun H locs Wd => ?_)
  refine lv_aload_n C.1 C.2.1 dX6_begin_10 rfl (lv_at hl 0 rfl) ?_
  refine lv_aload_n C.1 C.2.1 dX6_begin_11 rfl (lv_at hl 1 rfl) ?_
  refine k_putRow (n := x0) C Wd g_x0 fl_X6_23 dX6_begin_12 (fun H locs Wd => ?_)
  refine lv_aload_n C.1 C.2.1 dX6_begin_15 rfl (lv_at hl 0 rfl) ?_
  refine k_get (v := .ref (ad (rowC x0.toNat))) C Wd.1 KX6 _ 3 (cx2 _) (by decide) fl_X6_23 (congrArg some (rvR_ref g_x0)) dX6_begin_16 ?_
  refine lv_iconst (v := zI 0) C.1 C.2.1 dX6_begin_19 (by decide) ?_
  refine k_putRL (n := x0) (v := 0) C Wd g_x0 fl_X6_66 (show rng 0 from by decide) dX6_begin_20 (fun H locs Wd => ?_)
  refine lv_aload_n C.1 C.2.1 dX6_begin_23 rfl (lv_at hl 0 rfl) ?_
  refine lv_aload_nN C.1 C.2.1 dX6_begin_24 rfl (lv_at hl 2 rfl) ?_
  refine k_putK (v := (-1)) C Wd KX6 2 4 (by decide) (cx2 _) rfl (by decide) fl_X6_69 rfl rfl rfl (Nat.le_of_ble_eq_true rfl) (show rng (-1) from by decide) dX6_begin_25 (fun H locs Wd => ?_)
  refine lv_aload_n C.1 C.2.1 dX6_begin_28 rfl (lv_at hl 0 rfl) ?_
  refine lv_iconst (v := zI 0) C.1 C.2.1 dX6_begin_29 (by decide) ?_
  refine k_putK (v := 0) C Wd KX6 2 7 (by decide) (cx2 _) rfl (by decide) fl_X6_73 rfl rfl rfl (Nat.le_of_ble_eq_true rfl) (show rng 0 from by decide) dX6_begin_30 (fun H locs Wd => ?_)
  refine lv_aload_n C.1 C.2.1 dX6_begin_33 rfl (lv_at hl 0 rfl) ?_
  refine lv_iconst (v := zI 0) C.1 C.2.1 dX6_begin_34 (by decide) ?_
  refine k_putK (v := 0) C Wd KX6 2 8 (by decide) (cx2 _) rfl (by decide) fl_X6_76 rfl rfl rfl (Nat.le_of_ble_eq_true rfl) (show rng 0 from by decide) dX6_begin_35 (fun H locs Wd => ?_)
  refine lv_aload_n C.1 C.2.1 dX6_begin_38 rfl (lv_at hl 0 rfl) ?_
  refine lv_iload_n C.1 C.2.1 dX6_begin_39 rfl (lv_at hl 3 rfl) ?_
  refine k_putK (v := x2) C Wd KX6 2 9 (by decide) (cx2 _) rfl (by decide) fl_X6_79 rfl rfl rfl (Nat.le_of_ble_eq_true rfl) g_x2 dX6_begin_40 (fun H locs Wd => ?_)
  refine lv_aload_n C.1 C.2.1 dX6_begin_43 rfl (lv_at hl 0 rfl) ?_
  refine lv_iconst (v := zI 0) C.1 C.2.1 dX6_begin_44 (by decide) ?_
  refine k_putK (v := 0) C Wd KX6 2 13 (by decide) (cx2 _) rfl (by decide) fl_X6_82 rfl rfl rfl (Nat.le_of_ble_eq_true rfl) (show rng 0 from by decide) dX6_begin_45 (fun H locs Wd => ?_)
  refine lv_aload_n C.1 C.2.1 dX6_begin_48 rfl (lv_at hl 0 rfl) ?_
  refine k_get (v := .ref (ad 3)) C Wd.1 KX6 _ 0 (cx2 _) (by decide) fl_X6_12 rfl dX6_begin_49 ?_
  refine k_cKv Wd (k_runVK (rest := []) C aks Wd cs_X6_85 (mk_T_rewind D ad ca rf (pU (pU (pU (pU (pU (pY (pU (pU (pU σ 2 1 0) 2 2 (-1)) 2 3 x0) 0 x0 0) 2 4 (-1)) 2 7 0) 2 8 0) 2 9 x2) 2 13 0) Wd.2.1 Wd.2.2   _ hw l _) (cx3 _) rfl rfl rfl rfl ⟨(Nat.le_of_ble_eq_true rfl), (Nat.le_of_ble_eq_true rfl)⟩ hl.1 rfl rfl (Nat.le_of_ble_eq_true rfl) ⟨(Nat.le_of_ble_eq_true rfl), (Nat.le_of_ble_eq_true rfl)⟩ dX6_begin_52) (fun σr52 H locs hw Wd => ?_)
  have hS_σr52 := Wd.2.1
  exact k_retKv C hr hlk Wd hw dX6_begin_55
set_option maxHeartbeats 4000000 in
set_option maxRecDepth 100000 in
theorem mk_R_beginProgram : ∀ (D : va_G) (ad : Nat → Nat) (ca : Nat → ClassId) (rf : Nat → Nat → Option Nat) (σ : Sg) (hS : rngK σ) (hRF : RFok ad rf) (x0 : Int) (g_x0 : 0 ≤ x0 ∧ x0 < 35) (K : Sg → Prop) (hw : wp5_R_beginProgram σ x0 K) (l : Launch) (sz : Nat), Met l yX6_beginProgram (Cond.code yX6_beginProgram cX6_beginProgram 2 none :: gG) { frames := 3, cells := 0, slots := 0, locals := 107 } (cPre D (tC ca) (wK ad ca rf σ) sz [.ref (ad 2), .ref (ad (rowC x0.toNat))]) (va_Qv (fun (u : Sg) => K u ∧ rngK u) (fun u t => cB D (va_A (wK ad ca rf σ) sz) [] (wK ad ca rf u) t) (va_A (wK ad ca rf σ) sz)) 0 0 (va_A (wK ad ca rf σ) sz) := by
  intro D ad ca rf σ hS hRF x0 g_x0 K hw l sz
  refine Met.ofW (cc := cX6_beginProgram) (maxL := 2) (ret := none) (by decide) rfl ?_
  intro p e s m args below meth c s₁ B hml hv
  obtain ⟨rfl, aks, rfl, Wd⟩ := k_enter hv
  have C : CallFix p m c cX6_beginProgram 2 s _ gG RX6 := ⟨B.exec, B.bytes, hml, findClass_of_methodNamed B.named, fun w h => atoms_spec (ws := Cond.code yX6_beginProgram cX6_beginProgram 2 none :: gG) B.pre w (List.mem_cons_of_mem _ h)⟩
  have hr := B.returns
  have hlk := B.notSynchronized
  generalize va_A (wK ad ca rf σ) s.heap.size = A at Wd ⊢
  replace Wd : wXK D ad ca rf s σ s.heap A s.heap [] := ⟨Wd, hS, hRF⟩
  refine k_locals (Nat.le_of_ble_eq_true rfl) [(0, .ref (ad 2)), (1, .ref (ad (rowC x0.toNat)))] rfl (fun ls hl => ?_)
  unfold wp5_R_beginProgram at hw
  refine lv_aload_n C.1 C.2.1 dX6_beginProgram_0 rfl (lv_at hl 0 rfl) ?_
  refine lv_aload_n C.1 C.2.1 dX6_beginProgram_1 rfl (lv_at hl 1 rfl) ?_
  refine lv_null C.1 C.2.1 dX6_beginProgram_2 ?_
  refine lv_sipush (v := zI 300) C.1 C.2.1 dX6_beginProgram_3 (zS (by decide) (by decide)) ?_
  refine k_cKv Wd (k_runVK (rest := []) C aks Wd cs_X6_48 (mk_R_begin_n1 D ad ca rf σ Wd.2.1 Wd.2.2 x0 300 g_x0 (show rng 300 from by decide) _ hw l _) (cx2 _) rfl rfl rfl rfl ⟨(Nat.le_of_ble_eq_true rfl), (Nat.le_of_ble_eq_true rfl)⟩ hl.1 rfl rfl (Nat.le_of_ble_eq_true rfl) ⟨(Nat.le_of_ble_eq_true rfl), (Nat.le_of_ble_eq_true rfl)⟩ dX6_beginProgram_6) (fun σr6 H locs hw Wd => ?_)
  have hS_σr6 := Wd.2.1
  refine lv_aload_n C.1 C.2.1 dX6_beginProgram_9 rfl (lv_at hl 0 rfl) ?_
  refine lv_iconst (v := zI 0) C.1 C.2.1 dX6_beginProgram_10 (by decide) ?_
  refine k_putK (v := 0) C Wd KX6 2 5 (by decide) (cx2 _) rfl (by decide) fl_X6_52 rfl rfl rfl (Nat.le_of_ble_eq_true rfl) (show rng 0 from by decide) dX6_beginProgram_11 (fun H locs Wd => ?_)
  exact k_retKv C hr hlk Wd hw dX6_beginProgram_14
set_option maxHeartbeats 4000000 in
set_option maxRecDepth 100000 in
theorem mk_T_byteAt : ∀ (D : va_G) (ad : Nat → Nat) (ca : Nat → ClassId) (rf : Nat → Nat → Option Nat) (σ : Sg) (hS : rngK σ) (hRF : RFok ad rf) (x0 : Int) (g_x0 : rng x0) (K : Int → Prop) (hw : wp5_T_byteAt σ x0 K) (l : Launch) (sz : Nat), Met l yX10_byteAt (Cond.code yX10_byteAt cX10_byteAt 2 (some .int) :: gG) { frames := 1, cells := 0, slots := 0, locals := 64 } (cPre D (tC ca) (wK ad ca rf σ) sz [.ref (ad 3), .int (zI x0)]) (vp_Si (fun r => ∃ x : Int, r = zI x ∧ rng x ∧ K x)) 0 0 (fun _ => False) := by
  intro D ad ca rf σ hS hRF x0 g_x0 K hw l sz
  refine Met.ofW (cc := cX10_byteAt) (maxL := 2) (ret := (some .int)) (by decide) rfl ?_
  intro p e s m args below meth c s₁ B hml hv
  obtain ⟨rfl, aks, rfl, Wd⟩ := k_enter hv
  have C : CallFix p m c cX10_byteAt 2 s _ gG RX10 := ⟨B.exec, B.bytes, hml, findClass_of_methodNamed B.named, fun w h => atoms_spec (ws := Cond.code yX10_byteAt cX10_byteAt 2 (some .int) :: gG) B.pre w (List.mem_cons_of_mem _ h)⟩
  have hr := B.returns
  have hlk := B.notSynchronized
  obtain ⟨A, Wd⟩ : ∃ A, wXK D ad ca rf s σ s.heap A s.heap [] := ⟨_, Wd, hS, hRF⟩
  refine k_locals (Nat.le_of_ble_eq_true rfl) [(0, .ref (ad 3)), (1, .int (zI x0))] rfl (fun ls hl => ?_)
  unfold wp5_T_byteAt at hw
  refine lv_iload_n C.1 C.2.1 dX10_byteAt_0 rfl (lv_at hl 1 rfl) ?_
  refine lv_if_lt (tgt := 21) C.1 C.2.1 dX10_byteAt_1 (by decide) (fun c1 => ?_) (fun c1 => ?_)
  · have hw := hw.1 (z0_lt g_x0 c1)
    refine lv_iconst (v := zI (-1)) C.1 C.2.1 dX10_byteAt_21 (by decide) ?_
    exact k_zretP C hr hlk rfl ⟨_, rfl, (show rng (-1) from by decide), hw⟩ dX10_byteAt_22
  · have hw := hw.2 (z0_nlt g_x0 c1)
    refine lv_iload_n C.1 C.2.1 dX10_byteAt_4 rfl (lv_at hl 1 rfl) ?_
    refine lv_aload_n C.1 C.2.1 dX10_byteAt_5 rfl (lv_at hl 0 rfl) ?_
    refine k_get (v := .int (zI (σ.1 3 1))) C Wd.1 KX10 _ 1 (cx3 _) (by decide) fl_X10_15 rfl dX10_byteAt_6 ?_
    refine lv_icmp_ge (tgt := 21) C.1 C.2.1 dX10_byteAt_9 (by decide) (fun c9 => ?_) (fun c9 => ?_)
    · have hw := hw.1 (z_le (hS.1 3 1) g_x0 c9)
      refine lv_iconst (v := zI (-1)) C.1 C.2.1 dX10_byteAt_21 (by decide) ?_
      exact k_zretP C hr hlk rfl ⟨_, rfl, (show rng (-1) from by decide), hw⟩ dX10_byteAt_22
    · have hw := hw.2 (z_nle (hS.1 3 1) g_x0 c9)
      refine lv_aload_n C.1 C.2.1 dX10_byteAt_12 rfl (lv_at hl 0 rfl) ?_
      refine k_get (v := .ref (ad 4)) C Wd.1 KX10 _ 0 (cx3 _) (by decide) fl_X10_11 rfl dX10_byteAt_13 ?_
      refine lv_iload_n C.1 C.2.1 dX10_byteAt_16 rfl (lv_at hl 1 rfl) ?_
      obtain ⟨n17_0, hw⟩ := hw
      refine k_ialdK (g := (σ.2.1 4)) C Wd (cx4 _) (tC_at (by decide) rfl) n17_0 (by decide) dX10_byteAt_17 ?_
      have ga17 : rng (σ.2.1 4 x0) := rngL (fun j => (Wd.2.1).2.1 4 j) n17_0
      refine lv_goto (tgt := 22) C.1 C.2.1 dX10_byteAt_18 (by decide) ?_
      exact k_zretP C hr hlk rfl ⟨_, rfl, ga17, hw⟩ dX10_byteAt_22
set_option maxHeartbeats 4000000 in
set_option maxRecDepth 100000 in
theorem mk_T_isSmallLetter : ∀ (D : va_G) (x0 : Int) (g_x0 : rng x0) (K : Int → Prop) (hw : wp5_T_isSmallLetter x0 K) (l : Launch) (sz : Nat), Met l yX10_isSmallLetter (Cond.code yX10_isSmallLetter cX10_isSmallLetter 1 (some .boolean) :: gG) { frames := 1, cells := 0, slots := 0, locals := 64 } (cPre D [] [] sz [.int (zI x0)]) (vp_Si (fun r => ∃ x : Int, r = zI x ∧ rng x ∧ K x)) 0 0 (fun _ => False) := by
  intro D x0 g_x0 K hw l sz
  refine Met.ofW (cc := cX10_isSmallLetter) (maxL := 1) (ret := (some .boolean)) (by decide) rfl ?_
  intro p e s m args below meth c s₁ B hml hv
  obtain ⟨rfl, aks, rfl, Wd⟩ := k_enter hv
  have C : CallFix p m c cX10_isSmallLetter 1 s _ gG RX10 := ⟨B.exec, B.bytes, hml, findClass_of_methodNamed B.named, fun w h => atoms_spec (ws := Cond.code yX10_isSmallLetter cX10_isSmallLetter 1 (some .boolean) :: gG) B.pre w (List.mem_cons_of_mem _ h)⟩
  have hr := B.returns
  have hlk := B.notSynchronized
  obtain ⟨A, Wd⟩ : ∃ A, wX D [] s [] s.heap A s.heap [] := ⟨_, Wd⟩
  refine k_locals (Nat.le_of_ble_eq_true rfl) [(0, .int (zI x0))] rfl (fun ls hl => ?_)
  unfold wp5_T_isSmallLetter at hw
  refine lv_iload_n C.1 C.2.1 dX10_isSmallLetter_0 rfl (lv_at hl 0 rfl) ?_
  refine lv_bipush (v := zI 97) C.1 C.2.1 dX10_isSmallLetter_1 (by decide) ?_
  refine lv_icmp_lt (tgt := 16) C.1 C.2.1 dX10_isSmallLetter_3 (by decide) (fun c3 => ?_) (fun c3 => ?_)
  · have hw := hw.1 (z_lt g_x0 (show rng 97 from by decide) c3)
    refine lv_iconst (v := zI 0) C.1 C.2.1 dX10_isSmallLetter_16 (by decide) ?_
    exact k_zretP C hr hlk (by decide) ⟨_, rfl, (show rng 0 from by decide), hw⟩ dX10_isSmallLetter_17
  · have hw := hw.2 (z_nlt g_x0 (show rng 97 from by decide) c3)
    refine lv_iload_n C.1 C.2.1 dX10_isSmallLetter_6 rfl (lv_at hl 0 rfl) ?_
    refine lv_bipush (v := zI 122) C.1 C.2.1 dX10_isSmallLetter_7 (by decide) ?_
    refine lv_icmp_gt (tgt := 16) C.1 C.2.1 dX10_isSmallLetter_9 (by decide) (fun c9 => ?_) (fun c9 => ?_)
    · have hw := hw.1 (z_lt (show rng 122 from by decide) g_x0 c9)
      refine lv_iconst (v := zI 0) C.1 C.2.1 dX10_isSmallLetter_16 (by decide) ?_
      exact k_zretP C hr hlk (by decide) ⟨_, rfl, (show rng 0 from by decide), hw⟩ dX10_isSmallLetter_17
    · have hw := hw.2 (z_nlt (show rng 122 from by decide) g_x0 c9)
      refine lv_iconst (v := zI 1) C.1 C.2.1 dX10_isSmallLetter_12 (by decide) ?_
      refine lv_goto (tgt := 17) C.1 C.2.1 dX10_isSmallLetter_13 (by decide) ?_
      exact k_zretP C hr hlk (by decide) ⟨_, rfl, (show rng 1 from by decide), hw⟩ dX10_isSmallLetter_17
set_option maxHeartbeats 4000000 in
set_option maxRecDepth 100000 in
theorem mk_T_isLetter : ∀ (D : va_G) (x0 : Int) (g_x0 : rng x0) (K : Int → Prop) (hw : wp5_T_isLetter x0 K) (l : Launch) (sz : Nat), Met l yX10_isLetter (Cond.code yX10_isLetter cX10_isLetter 1 (some .boolean) :: gG) { frames := 2, cells := 0, slots := 0, locals := 84 } (cPre D [] [] sz [.int (zI x0)]) (vp_Si (fun r => ∃ x : Int, r = zI x ∧ rng x ∧ K x)) 0 0 (fun _ => False) := by
  intro D x0 g_x0 K hw l sz
  refine Met.ofW (cc := cX10_isLetter) (maxL := 1) (ret := (some .boolean)) (by decide) rfl ?_
  intro p e s m args below meth c s₁ B hml hv
  obtain ⟨rfl, aks, rfl, Wd⟩ := k_enter hv
  have C : CallFix p m c cX10_isLetter 1 s _ gG RX10 := ⟨B.exec, B.bytes, hml, findClass_of_methodNamed B.named, fun w h => atoms_spec (ws := Cond.code yX10_isLetter cX10_isLetter 1 (some .boolean) :: gG) B.pre w (List.mem_cons_of_mem _ h)⟩
  have hr := B.returns
  have hlk := B.notSynchronized
  obtain ⟨A, Wd⟩ : ∃ A, wX D [] s [] s.heap A s.heap [] := ⟨_, Wd⟩
  refine k_locals (Nat.le_of_ble_eq_true rfl) [(0, .int (zI x0))] rfl (fun ls hl => ?_)
  unfold wp5_T_isLetter at hw
  refine lv_iload_n C.1 C.2.1 dX10_isLetter_0 rfl (lv_at hl 0 rfl) ?_
  refine k_pi (k_runS (rest := []) C aks Wd cs_X10_52 (mk_T_isSmallLetter D x0 g_x0 _ hw l _) [] rfl (by decide) [] rfl rfl rfl ⟨(Nat.le_of_ble_eq_true rfl), (Nat.le_of_ble_eq_true rfl)⟩ hl.1 rfl rfl (Nat.le_of_ble_eq_true rfl) ⟨(Nat.le_of_ble_eq_true rfl), (Nat.le_of_ble_eq_true rfl)⟩ dX10_isLetter_1) (fun y1 hy => ?_)
  obtain ⟨r1, rfl, g_r1, hw⟩ := hy
  refine lv_if_ne (tgt := 19) C.1 C.2.1 dX10_isLetter_4 (by decide) (fun c4 => ?_) (fun c4 => ?_)
  · have hw := hw.1 (z0_ne g_r1 c4)
    refine lv_iconst (v := zI 1) C.1 C.2.1 dX10_isLetter_19 (by decide) ?_
    refine lv_goto (tgt := 24) C.1 C.2.1 dX10_isLetter_20 (by decide) ?_
    exact k_zretP C hr hlk (by decide) ⟨_, rfl, (show rng 1 from by decide), hw⟩ dX10_isLetter_24
  · have hw := hw.2 (z0_eq g_r1 c4)
    refine lv_iload_n C.1 C.2.1 dX10_isLetter_7 rfl (lv_at hl 0 rfl) ?_
    refine lv_bipush (v := zI 65) C.1 C.2.1 dX10_isLetter_8 (by decide) ?_
    refine lv_icmp_lt (tgt := 23) C.1 C.2.1 dX10_isLetter_10 (by decide) (fun c10 => ?_) (fun c10 => ?_)
    · have hw := hw.1 (z_lt g_x0 (show rng 65 from by decide) c10)
      refine lv_iconst (v := zI 0) C.1 C.2.1 dX10_isLetter_23 (by decide) ?_
      exact k_zretP C hr hlk (by decide) ⟨_, rfl, (show rng 0 from by decide), hw⟩ dX10_isLetter_24
    · have hw := hw.2 (z_nlt g_x0 (show rng 65 from by decide) c10)
      refine lv_iload_n C.1 C.2.1 dX10_isLetter_13 rfl (lv_at hl 0 rfl) ?_
      refine lv_bipush (v := zI 90) C.1 C.2.1 dX10_isLetter_14 (by decide) ?_
      refine lv_icmp_gt (tgt := 23) C.1 C.2.1 dX10_isLetter_16 (by decide) (fun c16 => ?_) (fun c16 => ?_)
      · have hw := hw.1 (z_lt (show rng 90 from by decide) g_x0 c16)
        refine lv_iconst (v := zI 0) C.1 C.2.1 dX10_isLetter_23 (by decide) ?_
        exact k_zretP C hr hlk (by decide) ⟨_, rfl, (show rng 0 from by decide), hw⟩ dX10_isLetter_24
      · have hw := hw.2 (z_nlt (show rng 90 from by decide) g_x0 c16)
        refine lv_iconst (v := zI 1) C.1 C.2.1 dX10_isLetter_19 (by decide) ?_
        refine lv_goto (tgt := 24) C.1 C.2.1 dX10_isLetter_20 (by decide) ?_
        exact k_zretP C hr hlk (by decide) ⟨_, rfl, (show rng 1 from by decide), hw⟩ dX10_isLetter_24
set_option maxHeartbeats 4000000 in
set_option maxRecDepth 100000 in
theorem mk_T_isDigit : ∀ (D : va_G) (x0 : Int) (g_x0 : rng x0) (K : Int → Prop) (hw : wp5_T_isDigit x0 K) (l : Launch) (sz : Nat), Met l yX10_isDigit (Cond.code yX10_isDigit cX10_isDigit 1 (some .boolean) :: gG) { frames := 1, cells := 0, slots := 0, locals := 64 } (cPre D [] [] sz [.int (zI x0)]) (vp_Si (fun r => ∃ x : Int, r = zI x ∧ rng x ∧ K x)) 0 0 (fun _ => False) := by
  intro D x0 g_x0 K hw l sz
  refine Met.ofW (cc := cX10_isDigit) (maxL := 1) (ret := (some .boolean)) (by decide) rfl ?_
  intro p e s m args below meth c s₁ B hml hv
  obtain ⟨rfl, aks, rfl, Wd⟩ := k_enter hv
  have C : CallFix p m c cX10_isDigit 1 s _ gG RX10 := ⟨B.exec, B.bytes, hml, findClass_of_methodNamed B.named, fun w h => atoms_spec (ws := Cond.code yX10_isDigit cX10_isDigit 1 (some .boolean) :: gG) B.pre w (List.mem_cons_of_mem _ h)⟩
  have hr := B.returns
  have hlk := B.notSynchronized
  obtain ⟨A, Wd⟩ : ∃ A, wX D [] s [] s.heap A s.heap [] := ⟨_, Wd⟩
  refine k_locals (Nat.le_of_ble_eq_true rfl) [(0, .int (zI x0))] rfl (fun ls hl => ?_)
  unfold wp5_T_isDigit at hw
  refine lv_iload_n C.1 C.2.1 dX10_isDigit_0 rfl (lv_at hl 0 rfl) ?_
  refine lv_bipush (v := zI 48) C.1 C.2.1 dX10_isDigit_1 (by decide) ?_
  refine lv_icmp_lt (tgt := 16) C.1 C.2.1 dX10_isDigit_3 (by decide) (fun c3 => ?_) (fun c3 => ?_)
  · have hw := hw.1 (z_lt g_x0 (show rng 48 from by decide) c3)
    refine lv_iconst (v := zI 0) C.1 C.2.1 dX10_isDigit_16 (by decide) ?_
    exact k_zretP C hr hlk (by decide) ⟨_, rfl, (show rng 0 from by decide), hw⟩ dX10_isDigit_17
  · have hw := hw.2 (z_nlt g_x0 (show rng 48 from by decide) c3)
    refine lv_iload_n C.1 C.2.1 dX10_isDigit_6 rfl (lv_at hl 0 rfl) ?_
    refine lv_bipush (v := zI 57) C.1 C.2.1 dX10_isDigit_7 (by decide) ?_
    refine lv_icmp_gt (tgt := 16) C.1 C.2.1 dX10_isDigit_9 (by decide) (fun c9 => ?_) (fun c9 => ?_)
    · have hw := hw.1 (z_lt (show rng 57 from by decide) g_x0 c9)
      refine lv_iconst (v := zI 0) C.1 C.2.1 dX10_isDigit_16 (by decide) ?_
      exact k_zretP C hr hlk (by decide) ⟨_, rfl, (show rng 0 from by decide), hw⟩ dX10_isDigit_17
    · have hw := hw.2 (z_nlt (show rng 57 from by decide) g_x0 c9)
      refine lv_iconst (v := zI 1) C.1 C.2.1 dX10_isDigit_12 (by decide) ?_
      refine lv_goto (tgt := 17) C.1 C.2.1 dX10_isDigit_13 (by decide) ?_
      exact k_zretP C hr hlk (by decide) ⟨_, rfl, (show rng 1 from by decide), hw⟩ dX10_isDigit_17
set_option maxHeartbeats 4000000 in
set_option maxRecDepth 100000 in
theorem mk_T_isSign : ∀ (D : va_G) (x0 : Int) (g_x0 : rng x0) (K : Int → Prop) (hw : wp5_T_isSign x0 K) (l : Launch) (sz : Nat), Met l yX10_isSign (Cond.code yX10_isSign cX10_isSign 3 (some .boolean) :: gG) { frames := 1, cells := 0, slots := 0, locals := 64 } (cPre D [] [] sz [.int (zI x0)]) (vp_Si (fun r => ∃ x : Int, r = zI x ∧ rng x ∧ K x)) 0 0 (fun _ => False) := by
  intro D x0 g_x0 K hw l sz
  refine Met.ofW (cc := cX10_isSign) (maxL := 3) (ret := (some .boolean)) (by decide) rfl ?_
  intro p e s m args below meth c s₁ B hml hv
  obtain ⟨rfl, aks, rfl, Wd⟩ := k_enter hv
  have C : CallFix p m c cX10_isSign 3 s _ gG RX10 := ⟨B.exec, B.bytes, hml, findClass_of_methodNamed B.named, fun w h => atoms_spec (ws := Cond.code yX10_isSign cX10_isSign 3 (some .boolean) :: gG) B.pre w (List.mem_cons_of_mem _ h)⟩
  have hr := B.returns
  have hlk := B.notSynchronized
  obtain ⟨A, Wd⟩ : ∃ A, wX D [] s [] s.heap A s.heap [] := ⟨_, Wd⟩
  refine k_locals (Nat.le_of_ble_eq_true rfl) [(0, .int (zI x0))] rfl (fun ls hl => ?_)
  unfold wp5_T_isSign at hw
  refine lv_iload_n C.1 C.2.1 dX10_isSign_0 rfl (lv_at hl 0 rfl) ?_
  refine lv_bipush (v := zI 43) C.1 C.2.1 dX10_isSign_1 (by decide) ?_
  refine k_cut1 (fun (s0_35 : Int) H locs ls => rng s0_35 ∧ wp5_T_isSign_35 K x0 s0_35 ∧ wX D [] s [] H A s.heap locs ∧ H = s.heap ∧ locs = [] ∧ lv_has ls 3 [(0, .int (zI x0))]) (fun (s0_35 : Int) ls => F0 m 35 ls [.int (zI s0_35)]) (fun s0_35 H locs ls hi => ?_) (fun J35 => ?_)
  · obtain ⟨g_s0_35, hw, Wd, rfl, rfl, hl⟩ := hi
    unfold wp5_T_isSign_35 at hw
    refine lv_istore_n (lv' := [(1, .int (zI s0_35)), (0, .int (zI x0))]) C.1 C.2.1 dX10_isSign_35 rfl hl (by decide) rfl (fun ls hl => ?_)
    replace hl := lv_sub hl [1, 0] rfl
    refine lv_iload_n C.1 C.2.1 dX10_isSign_36 rfl (lv_at hl 0 rfl) ?_
    refine lv_bipush (v := zI 60) C.1 C.2.1 dX10_isSign_37 (by decide) ?_
    refine k_cut1 (fun (s0_59 : Int) H locs ls => rng s0_59 ∧ wp5_T_isSign_59 K x0 s0_35 s0_59 ∧ wX D [] s [] H A s.heap locs ∧ H = s.heap ∧ locs = [] ∧ lv_has ls 3 [(0, .int (zI x0)), (1, .int (zI s0_35))]) (fun (s0_59 : Int) ls => F0 m 59 ls [.int (zI s0_59)]) (fun s0_59 H locs ls hi => ?_) (fun J59 => ?_)
    · obtain ⟨g_s0_59, hw, Wd, rfl, rfl, hl⟩ := hi
      unfold wp5_T_isSign_59 at hw
      refine lv_istore_n (lv' := [(2, .int (zI s0_59)), (0, .int (zI x0)), (1, .int (zI s0_35))]) C.1 C.2.1 dX10_isSign_59 rfl hl (by decide) rfl (fun ls hl => ?_)
      replace hl := lv_sub hl [1, 2, 0] rfl
      refine lv_iload_n C.1 C.2.1 dX10_isSign_60 rfl (lv_at hl 1 rfl) ?_
      refine lv_if_ne (tgt := 86) C.1 C.2.1 dX10_isSign_61 (by decide) (fun c61 => ?_) (fun c61 => ?_)
      · have hw := hw.1 (z0_ne g_s0_35 c61)
        refine lv_iconst (v := zI 1) C.1 C.2.1 dX10_isSign_86 (by decide) ?_
        refine lv_goto (tgt := 91) C.1 C.2.1 dX10_isSign_87 (by decide) ?_
        exact k_zretP C hr hlk (by decide) ⟨_, rfl, (show rng 1 from by decide), hw⟩ dX10_isSign_91
      · have hw := hw.2 (z0_eq g_s0_35 c61)
        refine lv_iload_n C.1 C.2.1 dX10_isSign_64 rfl (lv_at hl 2 rfl) ?_
        refine lv_if_ne (tgt := 86) C.1 C.2.1 dX10_isSign_65 (by decide) (fun c65 => ?_) (fun c65 => ?_)
        · have hw := hw.1 (z0_ne g_s0_59 c65)
          refine lv_iconst (v := zI 1) C.1 C.2.1 dX10_isSign_86 (by decide) ?_
          refine lv_goto (tgt := 91) C.1 C.2.1 dX10_isSign_87 (by decide) ?_
          exact k_zretP C hr hlk (by decide) ⟨_, rfl, (show rng 1 from by decide), hw⟩ dX10_isSign_91
        · have hw := hw.2 (z0_eq g_s0_59 c65)
          refine lv_iload_n C.1 C.2.1 dX10_isSign_68 rfl (lv_at hl 0 rfl) ?_
          refine lv_bipush (v := zI 59) C.1 C.2.1 dX10_isSign_69 (by decide) ?_
          refine lv_icmp_eq (tgt := 86) C.1 C.2.1 dX10_isSign_71 (by decide) (fun c71 => ?_) (fun c71 => ?_)
          · have hw := hw.1 (z_eq g_x0 (show rng 59 from by decide) c71)
            refine lv_iconst (v := zI 1) C.1 C.2.1 dX10_isSign_86 (by decide) ?_
            refine lv_goto (tgt := 91) C.1 C.2.1 dX10_isSign_87 (by decide) ?_
            exact k_zretP C hr hlk (by decide) ⟨_, rfl, (show rng 1 from by decide), hw⟩ dX10_isSign_91
          · have hw := hw.2 (z_ne g_x0 (show rng 59 from by decide) c71)
            refine lv_iload_n C.1 C.2.1 dX10_isSign_74 rfl (lv_at hl 0 rfl) ?_
            refine lv_bipush (v := zI 123) C.1 C.2.1 dX10_isSign_75 (by decide) ?_
            refine lv_icmp_eq (tgt := 86) C.1 C.2.1 dX10_isSign_77 (by decide) (fun c77 => ?_) (fun c77 => ?_)
            · have hw := hw.1 (z_eq g_x0 (show rng 123 from by decide) c77)
              refine lv_iconst (v := zI 1) C.1 C.2.1 dX10_isSign_86 (by decide) ?_
              refine lv_goto (tgt := 91) C.1 C.2.1 dX10_isSign_87 (by decide) ?_
              exact k_zretP C hr hlk (by decide) ⟨_, rfl, (show rng 1 from by decide), hw⟩ dX10_isSign_91
            · have hw := hw.2 (z_ne g_x0 (show rng 123 from by decide) c77)
              refine lv_iload_n C.1 C.2.1 dX10_isSign_80 rfl (lv_at hl 0 rfl) ?_
              refine lv_bipush (v := zI 125) C.1 C.2.1 dX10_isSign_81 (by decide) ?_
              refine lv_icmp_ne (tgt := 90) C.1 C.2.1 dX10_isSign_83 (by decide) (fun c83 => ?_) (fun c83 => ?_)
              · have hw := hw.1 (z_ne g_x0 (show rng 125 from by decide) c83)
                refine lv_iconst (v := zI 0) C.1 C.2.1 dX10_isSign_90 (by decide) ?_
                exact k_zretP C hr hlk (by decide) ⟨_, rfl, (show rng 0 from by decide), hw⟩ dX10_isSign_91
              · have hw := hw.2 (z_eq g_x0 (show rng 125 from by decide) c83)
                refine lv_iconst (v := zI 1) C.1 C.2.1 dX10_isSign_86 (by decide) ?_
                refine lv_goto (tgt := 91) C.1 C.2.1 dX10_isSign_87 (by decide) ?_
                exact k_zretP C hr hlk (by decide) ⟨_, rfl, (show rng 1 from by decide), hw⟩ dX10_isSign_91
    refine k_cut0 (fun H locs ls => wp5_T_isSign_54 K x0 s0_35 ∧ wX D [] s [] H A s.heap locs ∧ H = s.heap ∧ locs = [] ∧ lv_has ls 3 [(0, .int (zI x0)), (1, .int (zI s0_35))]) (fun  ls => F0 m 54 ls []) (fun  H locs ls hi => ?_) (fun J54 => ?_)
    · obtain ⟨hw, Wd, rfl, rfl, hl⟩ := hi
      unfold wp5_T_isSign_54 at hw
      refine lv_iconst (v := zI 1) C.1 C.2.1 dX10_isSign_54 (by decide) ?_
      refine lv_goto (tgt := 59) C.1 C.2.1 dX10_isSign_55 (by decide) ?_
      exact J59 1 _ _ _ ⟨(show rng 1 from by decide), hw, Wd, rfl, rfl, lv_sub hl [0, 1] rfl⟩
    refine lv_icmp_eq (tgt := 54) C.1 C.2.1 dX10_isSign_39 (by decide) (fun c39 => ?_) (fun c39 => ?_)
    · have hw := hw.1 (z_eq g_x0 (show rng 60 from by decide) c39)
      exact J54  _ _ _ ⟨hw, Wd, rfl, rfl, lv_sub hl [0, 1] rfl⟩
    · have hw := hw.2 (z_ne g_x0 (show rng 60 from by decide) c39)
      refine lv_iload_n C.1 C.2.1 dX10_isSign_42 rfl (lv_at hl 0 rfl) ?_
      refine lv_bipush (v := zI 61) C.1 C.2.1 dX10_isSign_43 (by decide) ?_
      refine lv_icmp_eq (tgt := 54) C.1 C.2.1 dX10_isSign_45 (by decide) (fun c45 => ?_) (fun c45 => ?_)
      · have hw := hw.1 (z_eq g_x0 (show rng 61 from by decide) c45)
        exact J54  _ _ _ ⟨hw, Wd, rfl, rfl, lv_sub hl [0, 1] rfl⟩
      · have hw := hw.2 (z_ne g_x0 (show rng 61 from by decide) c45)
        refine lv_iload_n C.1 C.2.1 dX10_isSign_48 rfl (lv_at hl 0 rfl) ?_
        refine lv_bipush (v := zI 62) C.1 C.2.1 dX10_isSign_49 (by decide) ?_
        refine lv_icmp_ne (tgt := 58) C.1 C.2.1 dX10_isSign_51 (by decide) (fun c51 => ?_) (fun c51 => ?_)
        · have hw := hw.1 (z_ne g_x0 (show rng 62 from by decide) c51)
          refine lv_iconst (v := zI 0) C.1 C.2.1 dX10_isSign_58 (by decide) ?_
          exact J59 0 _ _ _ ⟨(show rng 0 from by decide), hw, Wd, rfl, rfl, lv_sub hl [0, 1] rfl⟩
        · have hw := hw.2 (z_eq g_x0 (show rng 62 from by decide) c51)
          exact J54  _ _ _ ⟨hw, Wd, rfl, rfl, lv_sub hl [0, 1] rfl⟩
  refine k_cut0 (fun H locs ls => wp5_T_isSign_30 K x0 ∧ wX D [] s [] H A s.heap locs ∧ H = s.heap ∧ locs = [] ∧ lv_has ls 3 [(0, .int (zI x0))]) (fun  ls => F0 m 30 ls []) (fun  H locs ls hi => ?_) (fun J30 => ?_)
  · obtain ⟨hw, Wd, rfl, rfl, hl⟩ := hi
    unfold wp5_T_isSign_30 at hw
    refine lv_iconst (v := zI 1) C.1 C.2.1 dX10_isSign_30 (by decide) ?_
    refine lv_goto (tgt := 35) C.1 C.2.1 dX10_isSign_31 (by decide) ?_
    exact J35 1 _ _ _ ⟨(show rng 1 from by decide), hw, Wd, rfl, rfl, lv_sub hl [0] rfl⟩
  refine lv_icmp_eq (tgt := 30) C.1 C.2.1 dX10_isSign_3 (by decide) (fun c3 => ?_) (fun c3 => ?_)
  · have hw := hw.1 (z_eq g_x0 (show rng 43 from by decide) c3)
    exact J30  _ _ _ ⟨hw, Wd, rfl, rfl, lv_sub hl [0] rfl⟩
  · have hw := hw.2 (z_ne g_x0 (show rng 43 from by decide) c3)
    refine lv_iload_n C.1 C.2.1 dX10_isSign_6 rfl (lv_at hl 0 rfl) ?_
    refine lv_bipush (v := zI 45) C.1 C.2.1 dX10_isSign_7 (by decide) ?_
    refine lv_icmp_eq (tgt := 30) C.1 C.2.1 dX10_isSign_9 (by decide) (fun c9 => ?_) (fun c9 => ?_)
    · have hw := hw.1 (z_eq g_x0 (show rng 45 from by decide) c9)
      exact J30  _ _ _ ⟨hw, Wd, rfl, rfl, lv_sub hl [0] rfl⟩
    · have hw := hw.2 (z_ne g_x0 (show rng 45 from by decide) c9)
      refine lv_iload_n C.1 C.2.1 dX10_isSign_12 rfl (lv_at hl 0 rfl) ?_
      refine lv_bipush (v := zI 42) C.1 C.2.1 dX10_isSign_13 (by decide) ?_
      refine lv_icmp_eq (tgt := 30) C.1 C.2.1 dX10_isSign_15 (by decide) (fun c15 => ?_) (fun c15 => ?_)
      · have hw := hw.1 (z_eq g_x0 (show rng 42 from by decide) c15)
        exact J30  _ _ _ ⟨hw, Wd, rfl, rfl, lv_sub hl [0] rfl⟩
      · have hw := hw.2 (z_ne g_x0 (show rng 42 from by decide) c15)
        refine lv_iload_n C.1 C.2.1 dX10_isSign_18 rfl (lv_at hl 0 rfl) ?_
        refine lv_bipush (v := zI 40) C.1 C.2.1 dX10_isSign_19 (by decide) ?_
        refine lv_icmp_eq (tgt := 30) C.1 C.2.1 dX10_isSign_21 (by decide) (fun c21 => ?_) (fun c21 => ?_)
        · have hw := hw.1 (z_eq g_x0 (show rng 40 from by decide) c21)
          exact J30  _ _ _ ⟨hw, Wd, rfl, rfl, lv_sub hl [0] rfl⟩
        · have hw := hw.2 (z_ne g_x0 (show rng 40 from by decide) c21)
          refine lv_iload_n C.1 C.2.1 dX10_isSign_24 rfl (lv_at hl 0 rfl) ?_
          refine lv_bipush (v := zI 41) C.1 C.2.1 dX10_isSign_25 (by decide) ?_
          refine lv_icmp_ne (tgt := 34) C.1 C.2.1 dX10_isSign_27 (by decide) (fun c27 => ?_) (fun c27 => ?_)
          · have hw := hw.1 (z_ne g_x0 (show rng 41 from by decide) c27)
            refine lv_iconst (v := zI 0) C.1 C.2.1 dX10_isSign_34 (by decide) ?_
            exact J35 0 _ _ _ ⟨(show rng 0 from by decide), hw, Wd, rfl, rfl, lv_sub hl [0] rfl⟩
          · have hw := hw.2 (z_eq g_x0 (show rng 41 from by decide) c27)
            exact J30  _ _ _ ⟨hw, Wd, rfl, rfl, lv_sub hl [0] rfl⟩
set_option maxHeartbeats 4000000 in
set_option maxRecDepth 100000 in
theorem mk_T_takeSign : ∀ (D : va_G) (ad : Nat → Nat) (ca : Nat → ClassId) (rf : Nat → Nat → Option Nat) (σ : Sg) (hS : rngK σ) (hRF : RFok ad rf) (x0 : Int) (x1 : Int) (g_x0 : rng x0) (g_x1 : rng x1) (K : Sg → Prop) (hw : wp5_T_takeSign σ x0 x1 K) (l : Launch) (sz : Nat), Met l yX10_takeSign (Cond.code yX10_takeSign cX10_takeSign 3 none :: gG) { frames := 2, cells := 0, slots := 0, locals := 86 } (cPre D (tC ca) (wK ad ca rf σ) sz [.ref (ad 3), .int (zI x0), .int (zI x1)]) (va_Qv (fun (u : Sg) => K u ∧ rngK u) (fun u t => cB D (va_A (wK ad ca rf σ) sz) [] (wK ad ca rf u) t) (va_A (wK ad ca rf σ) sz)) 0 0 (va_A (wK ad ca rf σ) sz) := by
  intro D ad ca rf σ hS hRF x0 x1 g_x0 g_x1 K hw l sz
  refine Met.ofW (cc := cX10_takeSign) (maxL := 3) (ret := none) (by decide) rfl ?_
  intro p e s m args below meth c s₁ B hml hv
  obtain ⟨rfl, aks, rfl, Wd⟩ := k_enter hv
  have C : CallFix p m c cX10_takeSign 3 s _ gG RX10 := ⟨B.exec, B.bytes, hml, findClass_of_methodNamed B.named, fun w h => atoms_spec (ws := Cond.code yX10_takeSign cX10_takeSign 3 none :: gG) B.pre w (List.mem_cons_of_mem _ h)⟩
  have hr := B.returns
  have hlk := B.notSynchronized
  generalize va_A (wK ad ca rf σ) s.heap.size = A at Wd ⊢
  replace Wd : wXK D ad ca rf s σ s.heap A s.heap [] := ⟨Wd, hS, hRF⟩
  refine k_locals (Nat.le_of_ble_eq_true rfl) [(0, .ref (ad 3)), (1, .int (zI x0)), (2, .int (zI x1))] rfl (fun ls hl => ?_)
  unfold wp5_T_takeSign at hw
  refine lv_aload_n C.1 C.2.1 dX10_takeSign_0 rfl (lv_at hl 0 rfl) ?_
  refine lv_aload_n C.1 C.2.1 dX10_takeSign_1 rfl (lv_at hl 0 rfl) ?_
  refine k_get (v := .int (zI (σ.1 3 4))) C Wd.1 KX10 _ 4 (cx3 _) (by decide) fl_X10_22 rfl dX10_takeSign_2 ?_
  refine lv_iconst (v := zI 1) C.1 C.2.1 dX10_takeSign_5 (by decide) ?_
  refine k_iadd (v := zI ((σ.1 3 4) + 1)) C (zI_iadd _ _) dX10_takeSign_6 ?_
  obtain ⟨g7_2, hw⟩ := hw
  refine k_putK (v := ((σ.1 3 4) + 1)) C Wd KX10 3 5 (by decide) (cx3 _) rfl (by decide) fl_X10_19 rfl rfl rfl (Nat.le_of_ble_eq_true rfl) g7_2 dX10_takeSign_7 (fun H locs Wd => ?_)
  refine lv_iload_n C.1 C.2.1 dX10_takeSign_10 rfl (lv_at hl 1 rfl) ?_
  refine lv_iconst (v := zI (-1)) C.1 C.2.1 dX10_takeSign_11 (by decide) ?_
  refine lv_icmp_ne (tgt := 31) C.1 C.2.1 dX10_takeSign_12 (by decide) (fun c12 => ?_) (fun c12 => ?_)
  · have hw := hw.1 (z_ne g_x0 (show rng (-1) from by decide) c12)
    refine lv_iload_n C.1 C.2.1 dX10_takeSign_31 rfl (lv_at hl 2 rfl) ?_
    refine k_cut0 (fun H locs ls => wp5_T_takeSign_75 K σ x0 ∧ wXK D ad ca rf s (pU σ 3 5 ((σ.1 3 4) + 1)) H A s.heap locs ∧ lv_has ls 3 [(0, .ref (ad 3)), (1, .int (zI x0))]) (fun  ls => F0 m 75 ls []) (fun  H locs ls hi => ?_) (fun J75 => ?_)
    · obtain ⟨hw, Wd, hl⟩ := hi
      unfold wp5_T_takeSign_75 at hw
      refine lv_aload_n C.1 C.2.1 dX10_takeSign_75 rfl (lv_at hl 0 rfl) ?_
      refine lv_iload_n C.1 C.2.1 dX10_takeSign_76 rfl (lv_at hl 1 rfl) ?_
      refine k_pi (k_runS (rest := [.ref (ad 3)]) C aks Wd.1 cs_X10_78 (mk_T_isSign D x0 g_x0 _ hw l _) [] rfl (by decide) [] rfl rfl rfl ⟨(Nat.le_of_ble_eq_true rfl), (Nat.le_of_ble_eq_true rfl)⟩ hl.1 rfl rfl (Nat.le_of_ble_eq_true rfl) ⟨(Nat.le_of_ble_eq_true rfl), (Nat.le_of_ble_eq_true rfl)⟩ dX10_takeSign_77) (fun y77 hy => ?_)
      obtain ⟨r77, rfl, g_r77, hw⟩ := hy
      refine lv_if_eq (tgt := 87) C.1 C.2.1 dX10_takeSign_80 (by decide) (fun c80 => ?_) (fun c80 => ?_)
      · have hw := hw.1 (z0_eq g_r77 c80)
        refine lv_iconst (v := zI 0) C.1 C.2.1 dX10_takeSign_87 (by decide) ?_
        refine k_putK (v := 0) C Wd KX10 3 2 (by decide) (cx3 _) rfl (by decide) fl_X10_25 rfl rfl rfl (Nat.le_of_ble_eq_true rfl) (show rng 0 from by decide) dX10_takeSign_88 (fun H locs Wd => ?_)
        exact k_retKv C hr hlk Wd hw dX10_takeSign_91
      · have hw := hw.2 (z0_ne g_r77 c80)
        refine lv_iload_n C.1 C.2.1 dX10_takeSign_83 rfl (lv_at hl 1 rfl) ?_
        refine lv_goto (tgt := 88) C.1 C.2.1 dX10_takeSign_84 (by decide) ?_
        refine k_putK (v := x0) C Wd KX10 3 2 (by decide) (cx3 _) rfl (by decide) fl_X10_25 rfl rfl rfl (Nat.le_of_ble_eq_true rfl) g_x0 dX10_takeSign_88 (fun H locs Wd => ?_)
        exact k_retKv C hr hlk Wd hw dX10_takeSign_91
    refine lv_if_eq (tgt := 75) C.1 C.2.1 dX10_takeSign_32 (by decide) (fun c32 => ?_) (fun c32 => ?_)
    · have hw := hw.1 (z0_eq g_x1 c32)
      exact J75  _ _ _ ⟨hw, Wd, lv_sub hl [0, 1] rfl⟩
    · have hw := hw.2 (z0_ne g_x1 c32)
      refine lv_iload_n C.1 C.2.1 dX10_takeSign_35 rfl (lv_at hl 1 rfl) ?_
      refine lv_bipush (v := zI 45) C.1 C.2.1 dX10_takeSign_36 (by decide) ?_
      refine lv_icmp_ne (tgt := 75) C.1 C.2.1 dX10_takeSign_38 (by decide) (fun c38 => ?_) (fun c38 => ?_)
      · have hw := hw.1 (z_ne g_x0 (show rng 45 from by decide) c38)
        exact J75  _ _ _ ⟨hw, Wd, lv_sub hl [0, 1] rfl⟩
      · have hw := hw.2 (z_eq g_x0 (show rng 45 from by decide) c38)
        refine lv_aload_n C.1 C.2.1 dX10_takeSign_41 rfl (lv_at hl 0 rfl) ?_
        refine lv_aload_n C.1 C.2.1 dX10_takeSign_42 rfl (lv_at hl 0 rfl) ?_
        refine k_get (v := .int (zI (σ.1 3 4))) C Wd.1 KX10 _ 4 (cx3 _) (by decide) fl_X10_22 rfl dX10_takeSign_43 ?_
        refine lv_iconst (v := zI 1) C.1 C.2.1 dX10_takeSign_46 (by decide) ?_
        refine k_iadd (v := zI ((σ.1 3 4) + 1)) C (zI_iadd _ _) dX10_takeSign_47 ?_
        refine k_pi (k_runVK (rest := []) C aks Wd cs_X10_31 (mk_T_byteAt D ad ca rf (pU σ 3 5 ((σ.1 3 4) + 1)) Wd.2.1 Wd.2.2 ((σ.1 3 4) + 1) g7_2 _ hw l _) (cx3 _) rfl rfl rfl rfl ⟨(Nat.le_of_ble_eq_true rfl), (Nat.le_of_ble_eq_true rfl)⟩ hl.1 rfl rfl (Nat.le_of_ble_eq_true rfl) ⟨(Nat.le_of_ble_eq_true rfl), (Nat.le_of_ble_eq_true rfl)⟩ dX10_takeSign_48) (fun y48 hy => ?_)
        obtain ⟨r48, rfl, g_r48, hw⟩ := hy
        refine lv_bipush (v := zI 62) C.1 C.2.1 dX10_takeSign_51 (by decide) ?_
        refine lv_icmp_ne (tgt := 75) C.1 C.2.1 dX10_takeSign_53 (by decide) (fun c53 => ?_) (fun c53 => ?_)
        · have hw := hw.1 (z_ne g_r48 (show rng 62 from by decide) c53)
          exact J75  _ _ _ ⟨hw, Wd, lv_sub hl [0, 1] rfl⟩
        · have hw := hw.2 (z_eq g_r48 (show rng 62 from by decide) c53)
          refine lv_aload_n C.1 C.2.1 dX10_takeSign_56 rfl (lv_at hl 0 rfl) ?_
          refine lv_bipush (v := zI 9) C.1 C.2.1 dX10_takeSign_57 (by decide) ?_
          refine k_putK (v := 9) C Wd KX10 3 2 (by decide) (cx3 _) rfl (by decide) fl_X10_25 rfl rfl rfl (Nat.le_of_ble_eq_true rfl) (show rng 9 from by decide) dX10_takeSign_59 (fun H locs Wd => ?_)
          refine lv_aload_n C.1 C.2.1 dX10_takeSign_62 rfl (lv_at hl 0 rfl) ?_
          refine lv_aload_n C.1 C.2.1 dX10_takeSign_63 rfl (lv_at hl 0 rfl) ?_
          refine k_get (v := .int (zI (σ.1 3 4))) C Wd.1 KX10 _ 4 (cx3 _) (by decide) fl_X10_22 rfl dX10_takeSign_64 ?_
          refine lv_iconst (v := zI 2) C.1 C.2.1 dX10_takeSign_67 (by decide) ?_
          refine k_iadd (v := zI ((σ.1 3 4) + 2)) C (zI_iadd _ _) dX10_takeSign_68 ?_
          obtain ⟨g69_3, hw⟩ := hw
          refine k_putK (v := ((σ.1 3 4) + 2)) C Wd KX10 3 5 (by decide) (cx3 _) rfl (by decide) fl_X10_19 rfl rfl rfl (Nat.le_of_ble_eq_true rfl) g69_3 dX10_takeSign_69 (fun H locs Wd => ?_)
          refine lv_goto (tgt := 91) C.1 C.2.1 dX10_takeSign_72 (by decide) ?_
          exact k_retKv C hr hlk Wd hw dX10_takeSign_91
  · have hw := hw.2 (z_eq g_x0 (show rng (-1) from by decide) c12)
    refine lv_aload_n C.1 C.2.1 dX10_takeSign_15 rfl (lv_at hl 0 rfl) ?_
    refine lv_iconst (v := zI 1) C.1 C.2.1 dX10_takeSign_16 (by decide) ?_
    refine k_putK (v := 1) C Wd KX10 3 2 (by decide) (cx3 _) rfl (by decide) fl_X10_25 rfl rfl rfl (Nat.le_of_ble_eq_true rfl) (show rng 1 from by decide) dX10_takeSign_17 (fun H locs Wd => ?_)
    refine lv_aload_n C.1 C.2.1 dX10_takeSign_20 rfl (lv_at hl 0 rfl) ?_
    refine lv_aload_n C.1 C.2.1 dX10_takeSign_21 rfl (lv_at hl 0 rfl) ?_
    refine k_get (v := .int (zI (σ.1 3 4))) C Wd.1 KX10 _ 4 (cx3 _) (by decide) fl_X10_22 rfl dX10_takeSign_22 ?_
    refine k_putK (v := (σ.1 3 4)) C Wd KX10 3 5 (by decide) (cx3 _) rfl (by decide) fl_X10_19 rfl rfl rfl (Nat.le_of_ble_eq_true rfl) (hS.1 3 4) dX10_takeSign_25 (fun H locs Wd => ?_)
    refine lv_goto (tgt := 91) C.1 C.2.1 dX10_takeSign_28 (by decide) ?_
    exact k_retKv C hr hlk Wd hw dX10_takeSign_91
set_option maxHeartbeats 4000000 in
set_option maxRecDepth 100000 in
theorem mk_T_takeDigits : ∀ (D : va_G) (ad : Nat → Nat) (ca : Nat → ClassId) (rf : Nat → Nat → Option Nat) (σ : Sg) (hS : rngK σ) (hRF : RFok ad rf) (K : Sg → Prop) (hw : wp5_T_takeDigits σ K) (l : Launch) (sz : Nat), Met l yX10_takeDigits (Cond.code yX10_takeDigits cX10_takeDigits 2 none :: gG) { frames := 2, cells := 0, slots := 0, locals := 85 } (cPre D (tC ca) (wK ad ca rf σ) sz [.ref (ad 3)]) (va_Qv (fun (u : Sg) => K u ∧ rngK u) (fun u t => cB D (va_A (wK ad ca rf σ) sz) [] (wK ad ca rf u) t) (va_A (wK ad ca rf σ) sz)) 0 0 (va_A (wK ad ca rf σ) sz) := by
  intro D ad ca rf σ hS hRF  K hw l sz
  refine Met.ofW (cc := cX10_takeDigits) (maxL := 2) (ret := none) (by decide) rfl ?_
  intro p e s m args below meth c s₁ B hml hv
  obtain ⟨rfl, aks, rfl, Wd⟩ := k_enter hv
  have C : CallFix p m c cX10_takeDigits 2 s _ gG RX10 := ⟨B.exec, B.bytes, hml, findClass_of_methodNamed B.named, fun w h => atoms_spec (ws := Cond.code yX10_takeDigits cX10_takeDigits 2 none :: gG) B.pre w (List.mem_cons_of_mem _ h)⟩
  have hr := B.returns
  have hlk := B.notSynchronized
  generalize va_A (wK ad ca rf σ) s.heap.size = A at Wd ⊢
  replace Wd : wXK D ad ca rf s σ s.heap A s.heap [] := ⟨Wd, hS, hRF⟩
  refine k_locals (Nat.le_of_ble_eq_true rfl) [(0, .ref (ad 3))] rfl (fun ls hl => ?_)
  unfold wp5_T_takeDigits at hw
  refine lv_aload_n C.1 C.2.1 dX10_takeDigits_0 rfl (lv_at hl 0 rfl) ?_
  refine lv_aload_n C.1 C.2.1 dX10_takeDigits_1 rfl (lv_at hl 0 rfl) ?_
  refine k_get (v := .int (zI (σ.1 3 4))) C Wd.1 KX10 _ 4 (cx3 _) (by decide) fl_X10_22 rfl dX10_takeDigits_2 ?_
  refine k_putK (v := (σ.1 3 4)) C Wd KX10 3 5 (by decide) (cx3 _) rfl (by decide) fl_X10_19 rfl rfl rfl (Nat.le_of_ble_eq_true rfl) (hS.1 3 4) dX10_takeDigits_5 (fun H locs Wd => ?_)
  refine lv_aload_n C.1 C.2.1 dX10_takeDigits_8 rfl (lv_at hl 0 rfl) ?_
  refine lv_iconst (v := zI 0) C.1 C.2.1 dX10_takeDigits_9 (by decide) ?_
  refine k_putK (v := 0) C Wd KX10 3 3 (by decide) (cx3 _) rfl (by decide) fl_X10_28 rfl rfl rfl (Nat.le_of_ble_eq_true rfl) (show rng 0 from by decide) dX10_takeDigits_10 (fun H locs Wd => ?_)
  refine lv_aload_n C.1 C.2.1 dX10_takeDigits_13 rfl (lv_at hl 0 rfl) ?_
  refine k_get (v := .int (zI (σ.1 3 4))) C Wd.1 KX10 _ 4 (cx3 _) (by decide) fl_X10_22 rfl dX10_takeDigits_14 ?_
  refine lv_istore_n (lv' := [(1, .int (zI (σ.1 3 4))), (0, .ref (ad 3))]) C.1 C.2.1 dX10_takeDigits_17 rfl hl (by decide) rfl (fun ls hl => ?_)
  replace hl := lv_sub hl [1, 0] rfl
  refine k_lp2 hw (fun (l1_18 : Int) (σ18 : Sg) H locs ls => rng l1_18 ∧ wXK D ad ca rf s σ18 H A s.heap locs ∧ lv_has ls 2 [(0, .ref (ad 3)), (1, .int (zI l1_18))]) (fun (l1_18 : Int) (σ18 : Sg) ls => F0 m 18 ls []) (fun L18 hL18 l1_18 σ18 hw H locs ls hi => ?_) _ _ _ ⟨(hS.1 3 4), Wd, lv_sub hl [0, 1] rfl⟩
  obtain ⟨g_l1_18, Wd, hl⟩ := hi
  have hS_σ18 := Wd.2.1
  unfold wp5_T_takeDigits_18 at hw
  refine lv_iload_n C.1 C.2.1 dX10_takeDigits_18 rfl (lv_at hl 1 rfl) ?_
  refine lv_aload_n C.1 C.2.1 dX10_takeDigits_19 rfl (lv_at hl 0 rfl) ?_
  refine k_get (v := .int (zI (σ18.1 3 1))) C Wd.1 KX10 _ 1 (cx3 _) (by decide) fl_X10_15 rfl dX10_takeDigits_20 ?_
  refine k_cut0 (fun H locs ls => wp5_T_takeDigits_87 K σ18 ∧ wXK D ad ca rf s σ18 H A s.heap locs ∧ lv_has ls 2 [(0, .ref (ad 3))]) (fun  ls => F0 m 87 ls []) (fun  H locs ls hi => ?_) (fun J87 => ?_)
  · obtain ⟨hw, Wd, hl⟩ := hi
    unfold wp5_T_takeDigits_87 at hw
    refine lv_aload_n C.1 C.2.1 dX10_takeDigits_87 rfl (lv_at hl 0 rfl) ?_
    refine lv_aload_n C.1 C.2.1 dX10_takeDigits_88 rfl (lv_at hl 0 rfl) ?_
    refine k_get (v := .int (zI (σ18.1 3 5))) C Wd.1 KX10 _ 5 (cx3 _) (by decide) fl_X10_19 rfl dX10_takeDigits_89 ?_
    refine lv_aload_n C.1 C.2.1 dX10_takeDigits_92 rfl (lv_at hl 0 rfl) ?_
    refine k_get (v := .int (zI (σ18.1 3 4))) C Wd.1 KX10 _ 4 (cx3 _) (by decide) fl_X10_22 rfl dX10_takeDigits_93 ?_
    refine k_isub (v := zI ((σ18.1 3 5) - (σ18.1 3 4))) C (zI_isub _ _) dX10_takeDigits_96 ?_
    refine lv_iconst (v := zI 4) C.1 C.2.1 dX10_takeDigits_97 (by decide) ?_
    obtain ⟨g98_16, hw⟩ := hw
    refine lv_icmp_gt (tgt := 105) C.1 C.2.1 dX10_takeDigits_98 (by decide) (fun c98 => ?_) (fun c98 => ?_)
    · have hw := hw.1 (z_lt (show rng 4 from by decide) g98_16 c98)
      refine lv_iconst (v := zI 0) C.1 C.2.1 dX10_takeDigits_105 (by decide) ?_
      refine k_putK (v := 0) C Wd KX10 3 2 (by decide) (cx3 _) rfl (by decide) fl_X10_25 rfl rfl rfl (Nat.le_of_ble_eq_true rfl) (show rng 0 from by decide) dX10_takeDigits_106 (fun H locs Wd => ?_)
      exact k_retKv C hr hlk Wd hw dX10_takeDigits_109
    · have hw := hw.2 (z_nlt (show rng 4 from by decide) g98_16 c98)
      refine lv_iconst (v := zI 2) C.1 C.2.1 dX10_takeDigits_101 (by decide) ?_
      refine lv_goto (tgt := 106) C.1 C.2.1 dX10_takeDigits_102 (by decide) ?_
      refine k_putK (v := 2) C Wd KX10 3 2 (by decide) (cx3 _) rfl (by decide) fl_X10_25 rfl rfl rfl (Nat.le_of_ble_eq_true rfl) (show rng 2 from by decide) dX10_takeDigits_106 (fun H locs Wd => ?_)
      exact k_retKv C hr hlk Wd hw dX10_takeDigits_109
  refine lv_icmp_ge (tgt := 87) C.1 C.2.1 dX10_takeDigits_23 (by decide) (fun c23 => ?_) (fun c23 => ?_)
  · have hw := hw.1 (z_le (hS_σ18.1 3 1) g_l1_18 c23)
    exact J87  _ _ _ ⟨hw, Wd, lv_sub hl [0] rfl⟩
  · have hw := hw.2 (z_nle (hS_σ18.1 3 1) g_l1_18 c23)
    refine lv_aload_n C.1 C.2.1 dX10_takeDigits_26 rfl (lv_at hl 0 rfl) ?_
    refine lv_iload_n C.1 C.2.1 dX10_takeDigits_27 rfl (lv_at hl 1 rfl) ?_
    refine k_pi (k_runVK (rest := []) C aks Wd cs_X10_31 (mk_T_byteAt D ad ca rf σ18 Wd.2.1 Wd.2.2 l1_18 g_l1_18 _ hw l _) (cx3 _) rfl rfl rfl rfl ⟨(Nat.le_of_ble_eq_true rfl), (Nat.le_of_ble_eq_true rfl)⟩ hl.1 rfl rfl (Nat.le_of_ble_eq_true rfl) ⟨(Nat.le_of_ble_eq_true rfl), (Nat.le_of_ble_eq_true rfl)⟩ dX10_takeDigits_28) (fun y28 hy => ?_)
    obtain ⟨r28, rfl, g_r28, hw⟩ := hy
    refine k_pi (k_runS (rest := []) C aks Wd.1 cs_X10_42 (mk_T_isDigit D r28 g_r28 _ hw l _) [] rfl (by decide) [] rfl rfl rfl ⟨(Nat.le_of_ble_eq_true rfl), (Nat.le_of_ble_eq_true rfl)⟩ hl.1 rfl rfl (Nat.le_of_ble_eq_true rfl) ⟨(Nat.le_of_ble_eq_true rfl), (Nat.le_of_ble_eq_true rfl)⟩ dX10_takeDigits_31) (fun y31 hy => ?_)
    obtain ⟨r31, rfl, g_r31, hw⟩ := hy
    refine lv_if_eq (tgt := 87) C.1 C.2.1 dX10_takeDigits_34 (by decide) (fun c34 => ?_) (fun c34 => ?_)
    · have hw := hw.1 (z0_eq g_r31 c34)
      exact J87  _ _ _ ⟨hw, Wd, lv_sub hl [0] rfl⟩
    · have hw := hw.2 (z0_ne g_r31 c34)
      refine lv_aload_n C.1 C.2.1 dX10_takeDigits_37 rfl (lv_at hl 0 rfl) ?_
      refine lv_iload_n C.1 C.2.1 dX10_takeDigits_38 rfl (lv_at hl 1 rfl) ?_
      refine lv_aload_n C.1 C.2.1 dX10_takeDigits_39 rfl (lv_at hl 0 rfl) ?_
      refine k_get (v := .int (zI (σ18.1 3 4))) C Wd.1 KX10 _ 4 (cx3 _) (by decide) fl_X10_22 rfl dX10_takeDigits_40 ?_
      refine k_isub (v := zI (l1_18 - (σ18.1 3 4))) C (zI_isub _ _) dX10_takeDigits_43 ?_
      refine lv_iconst (v := zI 4) C.1 C.2.1 dX10_takeDigits_44 (by decide) ?_
      obtain ⟨g45_17, hw⟩ := hw
      refine lv_icmp_ge (tgt := 67) C.1 C.2.1 dX10_takeDigits_45 (by decide) (fun c45 => ?_) (fun c45 => ?_)
      · have hw := hw.1 (z_le (show rng 4 from by decide) g45_17 c45)
        refine lv_aload_n C.1 C.2.1 dX10_takeDigits_67 rfl (lv_at hl 0 rfl) ?_
        refine k_get (v := .int (zI (σ18.1 3 3))) C Wd.1 KX10 _ 3 (cx3 _) (by decide) fl_X10_28 rfl dX10_takeDigits_68 ?_
        refine k_putK (v := (σ18.1 3 3)) C Wd KX10 3 3 (by decide) (cx3 _) rfl (by decide) fl_X10_28 rfl rfl rfl (Nat.le_of_ble_eq_true rfl) (hS_σ18.1 3 3) dX10_takeDigits_71 (fun H locs Wd => ?_)
        refine lv_aload_n C.1 C.2.1 dX10_takeDigits_74 rfl (lv_at hl 0 rfl) ?_
        refine lv_iload_n C.1 C.2.1 dX10_takeDigits_75 rfl (lv_at hl 1 rfl) ?_
        refine lv_iconst (v := zI 1) C.1 C.2.1 dX10_takeDigits_76 (by decide) ?_
        refine k_iadd (v := zI (l1_18 + 1)) C (zI_iadd _ _) dX10_takeDigits_77 ?_
        obtain ⟨g78_18, hw⟩ := hw
        refine k_putK (v := (l1_18 + 1)) C Wd KX10 3 5 (by decide) (cx3 _) rfl (by decide) fl_X10_19 rfl rfl rfl (Nat.le_of_ble_eq_true rfl) g78_18 dX10_takeDigits_78 (fun H locs Wd => ?_)
        refine lv_iinc (v := zI (l1_18 + 1)) (lv' := [(1, .int (zI (l1_18 + 1))), (0, .ref (ad 3))]) C.1 C.2.1 dX10_takeDigits_81 hl (k := 1) rfl (zI_inc _ _ (by decide)) (by decide) rfl (fun ls hl => ?_)
        replace hl := lv_sub hl [1, 0] rfl
        refine lv_goto (tgt := 18) C.1 C.2.1 dX10_takeDigits_84 (by decide) ?_
        exact hL18 _ _ hw _ _ _ ⟨g78_18, Wd, lv_sub hl [0, 1] rfl⟩
      · have hw := hw.2 (z_nle (show rng 4 from by decide) g45_17 c45)
        refine lv_aload_n C.1 C.2.1 dX10_takeDigits_48 rfl (lv_at hl 0 rfl) ?_
        refine k_get (v := .int (zI (σ18.1 3 3))) C Wd.1 KX10 _ 3 (cx3 _) (by decide) fl_X10_28 rfl dX10_takeDigits_49 ?_
        refine lv_bipush (v := zI 10) C.1 C.2.1 dX10_takeDigits_52 (by decide) ?_
        refine k_imul (v := zI ((σ18.1 3 3) * 10)) C (zI_imul _ _) dX10_takeDigits_54 ?_
        refine lv_aload_n C.1 C.2.1 dX10_takeDigits_55 rfl (lv_at hl 0 rfl) ?_
        refine lv_iload_n C.1 C.2.1 dX10_takeDigits_56 rfl (lv_at hl 1 rfl) ?_
        refine k_pi (k_runVK (rest := [.int (zI ((σ18.1 3 3) * 10)), .ref (ad 3)]) C aks Wd cs_X10_31 (mk_T_byteAt D ad ca rf σ18 Wd.2.1 Wd.2.2 l1_18 g_l1_18 _ hw l _) (cx3 _) rfl rfl rfl rfl ⟨(Nat.le_of_ble_eq_true rfl), (Nat.le_of_ble_eq_true rfl)⟩ hl.1 rfl rfl (Nat.le_of_ble_eq_true rfl) ⟨(Nat.le_of_ble_eq_true rfl), (Nat.le_of_ble_eq_true rfl)⟩ dX10_takeDigits_57) (fun y57 hy => ?_)
        obtain ⟨r57, rfl, g_r57, hw⟩ := hy
        refine k_iadd (v := zI (((σ18.1 3 3) * 10) + r57)) C (zI_iadd _ _) dX10_takeDigits_60 ?_
        refine lv_bipush (v := zI 48) C.1 C.2.1 dX10_takeDigits_61 (by decide) ?_
        refine k_isub (v := zI ((((σ18.1 3 3) * 10) + r57) - 48)) C (zI_isub _ _) dX10_takeDigits_63 ?_
        refine lv_goto (tgt := 71) C.1 C.2.1 dX10_takeDigits_64 (by decide) ?_
        obtain ⟨g71_19, hw⟩ := hw
        refine k_putK (v := ((((σ18.1 3 3) * 10) + r57) - 48)) C Wd KX10 3 3 (by decide) (cx3 _) rfl (by decide) fl_X10_28 rfl rfl rfl (Nat.le_of_ble_eq_true rfl) g71_19 dX10_takeDigits_71 (fun H locs Wd => ?_)
        refine lv_aload_n C.1 C.2.1 dX10_takeDigits_74 rfl (lv_at hl 0 rfl) ?_
        refine lv_iload_n C.1 C.2.1 dX10_takeDigits_75 rfl (lv_at hl 1 rfl) ?_
        refine lv_iconst (v := zI 1) C.1 C.2.1 dX10_takeDigits_76 (by decide) ?_
        refine k_iadd (v := zI (l1_18 + 1)) C (zI_iadd _ _) dX10_takeDigits_77 ?_
        obtain ⟨g78_20, hw⟩ := hw
        refine k_putK (v := (l1_18 + 1)) C Wd KX10 3 5 (by decide) (cx3 _) rfl (by decide) fl_X10_19 rfl rfl rfl (Nat.le_of_ble_eq_true rfl) g78_20 dX10_takeDigits_78 (fun H locs Wd => ?_)
        refine lv_iinc (v := zI (l1_18 + 1)) (lv' := [(1, .int (zI (l1_18 + 1))), (0, .ref (ad 3))]) C.1 C.2.1 dX10_takeDigits_81 hl (k := 1) rfl (zI_inc _ _ (by decide)) (by decide) rfl (fun ls hl => ?_)
        replace hl := lv_sub hl [1, 0] rfl
        refine lv_goto (tgt := 18) C.1 C.2.1 dX10_takeDigits_84 (by decide) ?_
        exact hL18 _ _ hw _ _ _ ⟨g78_20, Wd, lv_sub hl [0, 1] rfl⟩
set_option maxHeartbeats 4000000 in
set_option maxRecDepth 100000 in
theorem mk_T_isText : ∀ (D : va_G) (ad : Nat → Nat) (ca : Nat → ClassId) (rf : Nat → Nat → Option Nat) (σ : Sg) (hS : rngK σ) (hRF : RFok ad rf) (adK adV : Nat → Nat) (tq : Nat) (i0 : Nat) (hi0 : i0 < 5) (K : Int → Prop) (hw : wp5_T_isText σ (i0 : Int) K) (l : Launch) (sz : Nat), Met l yX10_isText (Cond.code yX10_isText cX10_isText 3 (some .boolean) :: gG) { frames := 5, cells := 0, slots := 0, locals := 300 } (cPS RX10 ixT adK adV tq D (tC ca) (wK ad ca rf σ) sz [.ref (ad 3), .ref (adK i0)]) (vp_Si (fun r => ∃ x : Int, r = zI x ∧ rng x ∧ K x)) 0 0 (fun _ => False) := by
  intro D ad ca rf σ hS hRF adK adV tq i0 hi0 K hw l sz
  refine Met.ofW (cc := cX10_isText) (maxL := 3) (ret := (some .boolean)) (by decide) rfl ?_
  intro p e s m args below meth c s₁ B hml hv
  obtain ⟨hv, hE⟩ := hv
  obtain ⟨rfl, aks, rfl, Wd⟩ := k_enter hv
  have C : CallFix p m c cX10_isText 3 s _ gG RX10 := ⟨B.exec, B.bytes, hml, findClass_of_methodNamed B.named, fun w h => atoms_spec (ws := Cond.code yX10_isText cX10_isText 3 (some .boolean) :: gG) B.pre w (List.mem_cons_of_mem _ h)⟩
  have hr := B.returns
  have hlk := B.notSynchronized
  obtain ⟨A, Wd, hE⟩ : ∃ A, wXK D ad ca rf s σ s.heap A s.heap [] ∧ sK RX10 ixT adK adV tq A s s.heap := ⟨_, ⟨Wd, hS, hRF⟩, hE⟩
  refine k_locals (Nat.le_of_ble_eq_true rfl) [(0, .ref (ad 3)), (1, .ref (adK i0))] rfl (fun ls hl => ?_)
  unfold wp5_T_isText at hw
  refine lv_aload_n C.1 C.2.1 dX10_isText_0 rfl (lv_at hl 1 rfl) ?_
  refine k_pi (k_runVE (rest := []) C aks hE hi0 Wd.1 cs_X10_69 (js_length i0 hi0 _ _ _ _ _ D l _) rfl rfl ⟨(Nat.le_of_ble_eq_true rfl), (Nat.le_of_ble_eq_true rfl)⟩ hl.1 rfl rfl (Nat.le_of_ble_eq_true rfl) ⟨(Nat.le_of_ble_eq_true rfl), (Nat.le_of_ble_eq_true rfl)⟩ dX10_isText_1) (fun y1 hy => ?_)
  obtain rfl := js_lenZ hi0 hy
  refine lv_aload_n C.1 C.2.1 dX10_isText_4 rfl (lv_at hl 0 rfl) ?_
  refine k_get (v := .int (zI (σ.1 3 5))) C Wd.1 KX10 _ 5 (cx3 _) (by decide) fl_X10_19 rfl dX10_isText_5 ?_
  refine lv_aload_n C.1 C.2.1 dX10_isText_8 rfl (lv_at hl 0 rfl) ?_
  refine k_get (v := .int (zI (σ.1 3 4))) C Wd.1 KX10 _ 4 (cx3 _) (by decide) fl_X10_22 rfl dX10_isText_9 ?_
  refine k_isub (v := zI ((σ.1 3 5) - (σ.1 3 4))) C (zI_isub _ _) dX10_isText_12 ?_
  obtain ⟨g13_7, hw⟩ := hw
  refine lv_icmp_eq (tgt := 18) C.1 C.2.1 dX10_isText_13 (by decide) (fun c13 => ?_) (fun c13 => ?_)
  · have hw := hw.1 (z_eq (js_gN hi0) g13_7 c13)
    refine lv_iconst (v := zI 0) C.1 C.2.1 dX10_isText_18 (by decide) ?_
    refine lv_istore_n (lv' := [(2, .int (zI 0)), (0, .ref (ad 3)), (1, .ref (adK i0))]) C.1 C.2.1 dX10_isText_19 rfl hl (by decide) rfl (fun ls hl => ?_)
    replace hl := lv_sub hl [1, 2, 0] rfl
    refine k_lp1 hw (fun (l2_20 : Int) H locs ls => rng l2_20 ∧ wXK D ad ca rf s σ H A s.heap locs ∧ H = s.heap ∧ locs = [] ∧ lv_has ls 3 [(0, .ref (ad 3)), (1, .ref (adK i0)), (2, .int (zI l2_20))]) (fun (l2_20 : Int) ls => F0 m 20 ls []) (fun L20 hL20 l2_20 hw H locs ls hi => ?_) _ _ _ ⟨(show rng 0 from by decide), Wd, rfl, rfl, lv_sub hl [0, 1, 2] rfl⟩
    obtain ⟨g_l2_20, Wd, rfl, rfl, hl⟩ := hi
    unfold wp5_T_isText_20 at hw
    refine lv_iload_n C.1 C.2.1 dX10_isText_20 rfl (lv_at hl 2 rfl) ?_
    refine lv_aload_n C.1 C.2.1 dX10_isText_21 rfl (lv_at hl 1 rfl) ?_
    refine k_pi (k_runVE (rest := [.int (zI l2_20)]) C aks hE hi0 Wd.1 cs_X10_69 (js_length i0 hi0 _ _ _ _ _ D l _) rfl rfl ⟨(Nat.le_of_ble_eq_true rfl), (Nat.le_of_ble_eq_true rfl)⟩ hl.1 rfl rfl (Nat.le_of_ble_eq_true rfl) ⟨(Nat.le_of_ble_eq_true rfl), (Nat.le_of_ble_eq_true rfl)⟩ dX10_isText_22) (fun y22 hy => ?_)
    obtain rfl := js_lenZ hi0 hy
    refine lv_icmp_ge (tgt := 54) C.1 C.2.1 dX10_isText_25 (by decide) (fun c25 => ?_) (fun c25 => ?_)
    · have hw := hw.1 (z_le (js_gN hi0) g_l2_20 c25)
      refine lv_iconst (v := zI 1) C.1 C.2.1 dX10_isText_54 (by decide) ?_
      exact k_zretP C hr hlk (by decide) ⟨_, rfl, (show rng 1 from by decide), hw⟩ dX10_isText_55
    · have hw := hw.2 (z_nle (js_gN hi0) g_l2_20 c25)
      refine lv_aload_n C.1 C.2.1 dX10_isText_28 rfl (lv_at hl 0 rfl) ?_
      refine lv_aload_n C.1 C.2.1 dX10_isText_29 rfl (lv_at hl 0 rfl) ?_
      refine k_get (v := .int (zI (σ.1 3 4))) C Wd.1 KX10 _ 4 (cx3 _) (by decide) fl_X10_22 rfl dX10_isText_30 ?_
      refine lv_iload_n C.1 C.2.1 dX10_isText_33 rfl (lv_at hl 2 rfl) ?_
      refine k_iadd (v := zI ((σ.1 3 4) + l2_20)) C (zI_iadd _ _) dX10_isText_34 ?_
      obtain ⟨g35_8, hw⟩ := hw
      refine k_pi (k_runVK (rest := []) C aks Wd cs_X10_31 (mk_T_byteAt D ad ca rf σ Wd.2.1 Wd.2.2 ((σ.1 3 4) + l2_20) g35_8 _ hw l _) (cx3 _) rfl rfl rfl rfl ⟨(Nat.le_of_ble_eq_true rfl), (Nat.le_of_ble_eq_true rfl)⟩ hl.1 rfl rfl (Nat.le_of_ble_eq_true rfl) ⟨(Nat.le_of_ble_eq_true rfl), (Nat.le_of_ble_eq_true rfl)⟩ dX10_isText_35) (fun y35 hy => ?_)
      obtain ⟨r35, rfl, g_r35, hw⟩ := hy
      refine lv_aload_n C.1 C.2.1 dX10_isText_38 rfl (lv_at hl 1 rfl) ?_
      refine lv_iload_n C.1 C.2.1 dX10_isText_39 rfl (lv_at hl 2 rfl) ?_
      obtain ⟨a40, hw⟩ := hw
      refine k_pi (k_runVE (rest := [.int (zI r35)]) C aks hE hi0 Wd.1 cs_X10_74 (js_charAtZ i0 hi0 l2_20 a40 _ _ _ _ _ D l _) rfl rfl ⟨(Nat.le_of_ble_eq_true rfl), (Nat.le_of_ble_eq_true rfl)⟩ hl.1 rfl rfl (Nat.le_of_ble_eq_true rfl) ⟨(Nat.le_of_ble_eq_true rfl), (Nat.le_of_ble_eq_true rfl)⟩ dX10_isText_40) (fun y40 hy => ?_)
      obtain rfl := hy
      refine lv_icmp_eq (tgt := 48) C.1 C.2.1 dX10_isText_43 (by decide) (fun c43 => ?_) (fun c43 => ?_)
      · have hw := hw.1 (z_eq g_r35 (js_gC hi0 a40) c43)
        refine lv_iinc (v := zI (l2_20 + 1)) (lv' := [(2, .int (zI (l2_20 + 1))), (0, .ref (ad 3)), (1, .ref (adK i0))]) C.1 C.2.1 dX10_isText_48 hl (k := 2) rfl (zI_inc _ _ (by decide)) (by decide) rfl (fun ls hl => ?_)
        replace hl := lv_sub hl [1, 2, 0] rfl
        refine lv_goto (tgt := 20) C.1 C.2.1 dX10_isText_51 (by decide) ?_
        obtain ⟨g51_9, hw⟩ := hw
        exact hL20 _ hw _ _ _ ⟨g51_9, Wd, rfl, rfl, lv_sub hl [0, 1, 2] rfl⟩
      · have hw := hw.2 (z_ne g_r35 (js_gC hi0 a40) c43)
        refine lv_iconst (v := zI 0) C.1 C.2.1 dX10_isText_46 (by decide) ?_
        exact k_zretP C hr hlk (by decide) ⟨_, rfl, (show rng 0 from by decide), hw⟩ dX10_isText_47
  · have hw := hw.2 (z_ne (js_gN hi0) g13_7 c13)
    refine lv_iconst (v := zI 0) C.1 C.2.1 dX10_isText_16 (by decide) ?_
    exact k_zretP C hr hlk (by decide) ⟨_, rfl, (show rng 0 from by decide), hw⟩ dX10_isText_17
set_option maxHeartbeats 4000000 in
set_option maxRecDepth 100000 in
theorem mk_T_takeLetters : ∀ (D : va_G) (ad : Nat → Nat) (ca : Nat → ClassId) (rf : Nat → Nat → Option Nat) (σ : Sg) (hS : rngK σ) (hRF : RFok ad rf) (adK adV : Nat → Nat) (tq : Nat) (K : Sg → Prop) (hw : wp5_T_takeLetters σ K) (l : Launch) (sz : Nat), Met l yX10_takeLetters (Cond.code yX10_takeLetters cX10_takeLetters 2 none :: gG) { frames := 6, cells := 0, slots := 0, locals := 322 } (cPS RX10 ixT adK adV tq D (tC ca) (wK ad ca rf σ) sz [.ref (ad 3)]) (va_Qv (fun (u : Sg) => K u ∧ rngK u) (fun u t => cB D (va_A (wK ad ca rf σ) sz) [] (wK ad ca rf u) t) (va_A (wK ad ca rf σ) sz)) 0 0 (va_A (wK ad ca rf σ) sz) := by
  intro D ad ca rf σ hS hRF adK adV tq  K hw l sz
  refine Met.ofW (cc := cX10_takeLetters) (maxL := 2) (ret := none) (by decide) rfl ?_
  intro p e s m args below meth c s₁ B hml hv
  obtain ⟨hv, hE⟩ := hv
  obtain ⟨rfl, aks, rfl, Wd⟩ := k_enter hv
  have C : CallFix p m c cX10_takeLetters 2 s _ gG RX10 := ⟨B.exec, B.bytes, hml, findClass_of_methodNamed B.named, fun w h => atoms_spec (ws := Cond.code yX10_takeLetters cX10_takeLetters 2 none :: gG) B.pre w (List.mem_cons_of_mem _ h)⟩
  have hr := B.returns
  have hlk := B.notSynchronized
  generalize va_A (wK ad ca rf σ) s.heap.size = A at Wd hE ⊢
  replace Wd : wXK D ad ca rf s σ s.heap A s.heap [] := ⟨Wd, hS, hRF⟩
  refine k_locals (Nat.le_of_ble_eq_true rfl) [(0, .ref (ad 3))] rfl (fun ls hl => ?_)
  unfold wp5_T_takeLetters at hw
  refine lv_aload_n C.1 C.2.1 dX10_takeLetters_0 rfl (lv_at hl 0 rfl) ?_
  refine lv_aload_n C.1 C.2.1 dX10_takeLetters_1 rfl (lv_at hl 0 rfl) ?_
  refine k_get (v := .int (zI (σ.1 3 4))) C Wd.1 KX10 _ 4 (cx3 _) (by decide) fl_X10_22 rfl dX10_takeLetters_2 ?_
  refine k_putK (v := (σ.1 3 4)) C Wd KX10 3 5 (by decide) (cx3 _) rfl (by decide) fl_X10_19 rfl rfl rfl (Nat.le_of_ble_eq_true rfl) (hS.1 3 4) dX10_takeLetters_5 (fun H locs Wd => ?_)
  refine lv_aload_n C.1 C.2.1 dX10_takeLetters_8 rfl (lv_at hl 0 rfl) ?_
  refine k_get (v := .int (zI (σ.1 3 4))) C Wd.1 KX10 _ 4 (cx3 _) (by decide) fl_X10_22 rfl dX10_takeLetters_9 ?_
  refine lv_istore_n (lv' := [(1, .int (zI (σ.1 3 4))), (0, .ref (ad 3))]) C.1 C.2.1 dX10_takeLetters_12 rfl hl (by decide) rfl (fun ls hl => ?_)
  replace hl := lv_sub hl [1, 0] rfl
  refine k_lp2 hw (fun (l1_13 : Int) (σ13 : Sg) H locs ls => rng l1_13 ∧ wXK D ad ca rf s σ13 H A s.heap locs ∧ lv_has ls 2 [(0, .ref (ad 3)), (1, .int (zI l1_13))]) (fun (l1_13 : Int) (σ13 : Sg) ls => F0 m 13 ls []) (fun L13 hL13 l1_13 σ13 hw H locs ls hi => ?_) _ _ _ ⟨(hS.1 3 4), Wd, lv_sub hl [0, 1] rfl⟩
  obtain ⟨g_l1_13, Wd, hl⟩ := hi
  have hS_σ13 := Wd.2.1
  unfold wp5_T_takeLetters_13 at hw
  refine lv_iload_n C.1 C.2.1 dX10_takeLetters_13 rfl (lv_at hl 1 rfl) ?_
  refine lv_aload_n C.1 C.2.1 dX10_takeLetters_14 rfl (lv_at hl 0 rfl) ?_
  refine k_get (v := .int (zI (σ13.1 3 1))) C Wd.1 KX10 _ 1 (cx3 _) (by decide) fl_X10_15 rfl dX10_takeLetters_15 ?_
  refine k_cut0 (fun H locs ls => wp5_T_takeLetters_45 K σ13 ∧ wXK D ad ca rf s σ13 H A s.heap locs ∧ lv_has ls 2 [(0, .ref (ad 3))]) (fun  ls => F0 m 45 ls []) (fun  H locs ls hi => ?_) (fun J45 => ?_)
  · obtain ⟨hw, Wd, hl⟩ := hi
    unfold wp5_T_takeLetters_45 at hw
    refine lv_aload_n C.1 C.2.1 dX10_takeLetters_45 rfl (lv_at hl 0 rfl) ?_
    refine lv_aload_n C.1 C.2.1 dX10_takeLetters_46 rfl (lv_at hl 0 rfl) ?_
    refine lv_aload_n C.1 C.2.1 dX10_takeLetters_47 rfl (lv_at hl 0 rfl) ?_
    refine k_get (v := .int (zI (σ13.1 3 4))) C Wd.1 KX10 _ 4 (cx3 _) (by decide) fl_X10_22 rfl dX10_takeLetters_48 ?_
    refine k_pi (k_runVK (rest := [.ref (ad 3)]) C aks Wd cs_X10_31 (mk_T_byteAt D ad ca rf σ13 Wd.2.1 Wd.2.2 (σ13.1 3 4) (hS_σ13.1 3 4) _ hw l _) (cx3 _) rfl rfl rfl rfl ⟨(Nat.le_of_ble_eq_true rfl), (Nat.le_of_ble_eq_true rfl)⟩ hl.1 rfl rfl (Nat.le_of_ble_eq_true rfl) ⟨(Nat.le_of_ble_eq_true rfl), (Nat.le_of_ble_eq_true rfl)⟩ dX10_takeLetters_51) (fun y51 hy => ?_)
    obtain ⟨r51, rfl, g_r51, hw⟩ := hy
    refine lv_bipush (v := zI 97) C.1 C.2.1 dX10_takeLetters_54 (by decide) ?_
    refine k_isub (v := zI (r51 - 97)) C (zI_isub _ _) dX10_takeLetters_56 ?_
    obtain ⟨g57_9, hw⟩ := hw
    refine k_putK (v := (r51 - 97)) C Wd KX10 3 3 (by decide) (cx3 _) rfl (by decide) fl_X10_28 rfl rfl rfl (Nat.le_of_ble_eq_true rfl) g57_9 dX10_takeLetters_57 (fun H locs Wd => ?_)
    refine lv_aload_n C.1 C.2.1 dX10_takeLetters_60 rfl (lv_at hl 0 rfl) ?_
    refine k_get (v := .int (zI (σ13.1 3 5))) C Wd.1 KX10 _ 5 (cx3 _) (by decide) fl_X10_19 rfl dX10_takeLetters_61 ?_
    refine lv_aload_n C.1 C.2.1 dX10_takeLetters_64 rfl (lv_at hl 0 rfl) ?_
    refine k_get (v := .int (zI (σ13.1 3 4))) C Wd.1 KX10 _ 4 (cx3 _) (by decide) fl_X10_22 rfl dX10_takeLetters_65 ?_
    refine k_isub (v := zI ((σ13.1 3 5) - (σ13.1 3 4))) C (zI_isub _ _) dX10_takeLetters_68 ?_
    refine lv_iconst (v := zI 1) C.1 C.2.1 dX10_takeLetters_69 (by decide) ?_
    obtain ⟨g70_10, hw⟩ := hw
    refine lv_icmp_ne (tgt := 99) C.1 C.2.1 dX10_takeLetters_70 (by decide) (fun c70 => ?_) (fun c70 => ?_)
    · have hw := hw.1 (z_ne g70_10 (show rng 1 from by decide) c70)
      refine lv_aload_n C.1 C.2.1 dX10_takeLetters_99 rfl (lv_at hl 0 rfl) ?_
      refine va_ldcS C.1 C.2.1 C.2.2.2.1 (hE.2.1 0 (by decide)) dX10_takeLetters_100 ?_
      refine k_pi (k_runVKS (rest := []) C aks hE Wd cs_X10_57 (mk_T_isText D ad ca rf (pU σ13 3 3 (r51 - 97)) Wd.2.1 Wd.2.2 adK adV tq 0 (by decide) _ hw l _) (cx3 _) rfl rfl rfl rfl ⟨(Nat.le_of_ble_eq_true rfl), (Nat.le_of_ble_eq_true rfl)⟩ hl.1 rfl rfl (Nat.le_of_ble_eq_true rfl) ⟨(Nat.le_of_ble_eq_true rfl), (Nat.le_of_ble_eq_true rfl)⟩ dX10_takeLetters_102) (fun y102 hy => ?_)
      obtain ⟨r102, rfl, g_r102, hw⟩ := hy
      refine lv_if_eq (tgt := 116) C.1 C.2.1 dX10_takeLetters_105 (by decide) (fun c105 => ?_) (fun c105 => ?_)
      · have hw := hw.1 (z0_eq g_r102 c105)
        refine lv_aload_n C.1 C.2.1 dX10_takeLetters_116 rfl (lv_at hl 0 rfl) ?_
        refine va_ldcS C.1 C.2.1 C.2.2.2.1 (hE.2.1 1 (by decide)) dX10_takeLetters_117 ?_
        refine k_pi (k_runVKS (rest := []) C aks hE Wd cs_X10_57 (mk_T_isText D ad ca rf (pU σ13 3 3 (r51 - 97)) Wd.2.1 Wd.2.2 adK adV tq 1 (by decide) _ hw l _) (cx3 _) rfl rfl rfl rfl ⟨(Nat.le_of_ble_eq_true rfl), (Nat.le_of_ble_eq_true rfl)⟩ hl.1 rfl rfl (Nat.le_of_ble_eq_true rfl) ⟨(Nat.le_of_ble_eq_true rfl), (Nat.le_of_ble_eq_true rfl)⟩ dX10_takeLetters_119) (fun y119 hy => ?_)
        obtain ⟨r119, rfl, g_r119, hw⟩ := hy
        refine lv_if_eq (tgt := 133) C.1 C.2.1 dX10_takeLetters_122 (by decide) (fun c122 => ?_) (fun c122 => ?_)
        · have hw := hw.1 (z0_eq g_r119 c122)
          refine lv_aload_n C.1 C.2.1 dX10_takeLetters_133 rfl (lv_at hl 0 rfl) ?_
          refine va_ldcS C.1 C.2.1 C.2.2.2.1 (hE.2.1 2 (by decide)) dX10_takeLetters_134 ?_
          refine k_pi (k_runVKS (rest := []) C aks hE Wd cs_X10_57 (mk_T_isText D ad ca rf (pU σ13 3 3 (r51 - 97)) Wd.2.1 Wd.2.2 adK adV tq 2 (by decide) _ hw l _) (cx3 _) rfl rfl rfl rfl ⟨(Nat.le_of_ble_eq_true rfl), (Nat.le_of_ble_eq_true rfl)⟩ hl.1 rfl rfl (Nat.le_of_ble_eq_true rfl) ⟨(Nat.le_of_ble_eq_true rfl), (Nat.le_of_ble_eq_true rfl)⟩ dX10_takeLetters_136) (fun y136 hy => ?_)
          obtain ⟨r136, rfl, g_r136, hw⟩ := hy
          refine lv_if_eq (tgt := 151) C.1 C.2.1 dX10_takeLetters_139 (by decide) (fun c139 => ?_) (fun c139 => ?_)
          · have hw := hw.1 (z0_eq g_r136 c139)
            refine lv_aload_n C.1 C.2.1 dX10_takeLetters_151 rfl (lv_at hl 0 rfl) ?_
            refine va_ldcS C.1 C.2.1 C.2.2.2.1 (hE.2.1 3 (by decide)) dX10_takeLetters_152 ?_
            refine k_pi (k_runVKS (rest := []) C aks hE Wd cs_X10_57 (mk_T_isText D ad ca rf (pU σ13 3 3 (r51 - 97)) Wd.2.1 Wd.2.2 adK adV tq 3 (by decide) _ hw l _) (cx3 _) rfl rfl rfl rfl ⟨(Nat.le_of_ble_eq_true rfl), (Nat.le_of_ble_eq_true rfl)⟩ hl.1 rfl rfl (Nat.le_of_ble_eq_true rfl) ⟨(Nat.le_of_ble_eq_true rfl), (Nat.le_of_ble_eq_true rfl)⟩ dX10_takeLetters_154) (fun y154 hy => ?_)
            obtain ⟨r154, rfl, g_r154, hw⟩ := hy
            refine lv_if_eq (tgt := 169) C.1 C.2.1 dX10_takeLetters_157 (by decide) (fun c157 => ?_) (fun c157 => ?_)
            · have hw := hw.1 (z0_eq g_r154 c157)
              refine lv_aload_n C.1 C.2.1 dX10_takeLetters_169 rfl (lv_at hl 0 rfl) ?_
              refine lv_aload_n C.1 C.2.1 dX10_takeLetters_170 rfl (lv_at hl 0 rfl) ?_
              refine va_ldcS C.1 C.2.1 C.2.2.2.1 (hE.2.1 4 (by decide)) dX10_takeLetters_171 ?_
              refine k_pi (k_runVKS (rest := [.ref (ad 3)]) C aks hE Wd cs_X10_57 (mk_T_isText D ad ca rf (pU σ13 3 3 (r51 - 97)) Wd.2.1 Wd.2.2 adK adV tq 4 (by decide) _ hw l _) (cx3 _) rfl rfl rfl rfl ⟨(Nat.le_of_ble_eq_true rfl), (Nat.le_of_ble_eq_true rfl)⟩ hl.1 rfl rfl (Nat.le_of_ble_eq_true rfl) ⟨(Nat.le_of_ble_eq_true rfl), (Nat.le_of_ble_eq_true rfl)⟩ dX10_takeLetters_173) (fun y173 hy => ?_)
              obtain ⟨r173, rfl, g_r173, hw⟩ := hy
              refine lv_if_eq (tgt := 184) C.1 C.2.1 dX10_takeLetters_176 (by decide) (fun c176 => ?_) (fun c176 => ?_)
              · have hw := hw.1 (z0_eq g_r173 c176)
                refine lv_iconst (v := zI 0) C.1 C.2.1 dX10_takeLetters_184 (by decide) ?_
                refine k_putK (v := 0) C Wd KX10 3 2 (by decide) (cx3 _) rfl (by decide) fl_X10_25 rfl rfl rfl (Nat.le_of_ble_eq_true rfl) (show rng 0 from by decide) dX10_takeLetters_185 (fun H locs Wd => ?_)
                exact k_retKv C hr hlk Wd hw dX10_takeLetters_188
              · have hw := hw.2 (z0_ne g_r173 c176)
                refine lv_bipush (v := zI 8) C.1 C.2.1 dX10_takeLetters_179 (by decide) ?_
                refine lv_goto (tgt := 185) C.1 C.2.1 dX10_takeLetters_181 (by decide) ?_
                refine k_putK (v := 8) C Wd KX10 3 2 (by decide) (cx3 _) rfl (by decide) fl_X10_25 rfl rfl rfl (Nat.le_of_ble_eq_true rfl) (show rng 8 from by decide) dX10_takeLetters_185 (fun H locs Wd => ?_)
                exact k_retKv C hr hlk Wd hw dX10_takeLetters_188
            · have hw := hw.2 (z0_ne g_r154 c157)
              refine lv_aload_n C.1 C.2.1 dX10_takeLetters_160 rfl (lv_at hl 0 rfl) ?_
              refine lv_bipush (v := zI 7) C.1 C.2.1 dX10_takeLetters_161 (by decide) ?_
              refine k_putK (v := 7) C Wd KX10 3 2 (by decide) (cx3 _) rfl (by decide) fl_X10_25 rfl rfl rfl (Nat.le_of_ble_eq_true rfl) (show rng 7 from by decide) dX10_takeLetters_163 (fun H locs Wd => ?_)
              refine lv_goto (tgt := 188) C.1 C.2.1 dX10_takeLetters_166 (by decide) ?_
              exact k_retKv C hr hlk Wd hw dX10_takeLetters_188
          · have hw := hw.2 (z0_ne g_r136 c139)
            refine lv_aload_n C.1 C.2.1 dX10_takeLetters_142 rfl (lv_at hl 0 rfl) ?_
            refine lv_bipush (v := zI 6) C.1 C.2.1 dX10_takeLetters_143 (by decide) ?_
            refine k_putK (v := 6) C Wd KX10 3 2 (by decide) (cx3 _) rfl (by decide) fl_X10_25 rfl rfl rfl (Nat.le_of_ble_eq_true rfl) (show rng 6 from by decide) dX10_takeLetters_145 (fun H locs Wd => ?_)
            refine lv_goto (tgt := 188) C.1 C.2.1 dX10_takeLetters_148 (by decide) ?_
            exact k_retKv C hr hlk Wd hw dX10_takeLetters_188
        · have hw := hw.2 (z0_ne g_r119 c122)
          refine lv_aload_n C.1 C.2.1 dX10_takeLetters_125 rfl (lv_at hl 0 rfl) ?_
          refine lv_iconst (v := zI 5) C.1 C.2.1 dX10_takeLetters_126 (by decide) ?_
          refine k_putK (v := 5) C Wd KX10 3 2 (by decide) (cx3 _) rfl (by decide) fl_X10_25 rfl rfl rfl (Nat.le_of_ble_eq_true rfl) (show rng 5 from by decide) dX10_takeLetters_127 (fun H locs Wd => ?_)
          refine lv_goto (tgt := 188) C.1 C.2.1 dX10_takeLetters_130 (by decide) ?_
          exact k_retKv C hr hlk Wd hw dX10_takeLetters_188
      · have hw := hw.2 (z0_ne g_r102 c105)
        refine lv_aload_n C.1 C.2.1 dX10_takeLetters_108 rfl (lv_at hl 0 rfl) ?_
        refine lv_iconst (v := zI 4) C.1 C.2.1 dX10_takeLetters_109 (by decide) ?_
        refine k_putK (v := 4) C Wd KX10 3 2 (by decide) (cx3 _) rfl (by decide) fl_X10_25 rfl rfl rfl (Nat.le_of_ble_eq_true rfl) (show rng 4 from by decide) dX10_takeLetters_110 (fun H locs Wd => ?_)
        refine lv_goto (tgt := 188) C.1 C.2.1 dX10_takeLetters_113 (by decide) ?_
        exact k_retKv C hr hlk Wd hw dX10_takeLetters_188
    · have hw := hw.2 (z_eq g70_10 (show rng 1 from by decide) c70)
      refine lv_aload_n C.1 C.2.1 dX10_takeLetters_73 rfl (lv_at hl 0 rfl) ?_
      refine lv_aload_n C.1 C.2.1 dX10_takeLetters_74 rfl (lv_at hl 0 rfl) ?_
      refine lv_aload_n C.1 C.2.1 dX10_takeLetters_75 rfl (lv_at hl 0 rfl) ?_
      refine k_get (v := .int (zI (σ13.1 3 4))) C Wd.1 KX10 _ 4 (cx3 _) (by decide) fl_X10_22 rfl dX10_takeLetters_76 ?_
      refine k_pi (k_runVK (rest := [.ref (ad 3)]) C aks Wd cs_X10_31 (mk_T_byteAt D ad ca rf (pU σ13 3 3 (r51 - 97)) Wd.2.1 Wd.2.2 (σ13.1 3 4) (hS_σ13.1 3 4) _ hw l _) (cx3 _) rfl rfl rfl rfl ⟨(Nat.le_of_ble_eq_true rfl), (Nat.le_of_ble_eq_true rfl)⟩ hl.1 rfl rfl (Nat.le_of_ble_eq_true rfl) ⟨(Nat.le_of_ble_eq_true rfl), (Nat.le_of_ble_eq_true rfl)⟩ dX10_takeLetters_79) (fun y79 hy => ?_)
      obtain ⟨r79, rfl, g_r79, hw⟩ := hy
      refine k_pi (k_runS (rest := [.ref (ad 3)]) C aks Wd.1 cs_X10_52 (mk_T_isSmallLetter D r79 g_r79 _ hw l _) [] rfl (by decide) [] rfl rfl rfl ⟨(Nat.le_of_ble_eq_true rfl), (Nat.le_of_ble_eq_true rfl)⟩ hl.1 rfl rfl (Nat.le_of_ble_eq_true rfl) ⟨(Nat.le_of_ble_eq_true rfl), (Nat.le_of_ble_eq_true rfl)⟩ dX10_takeLetters_82) (fun y82 hy => ?_)
      obtain ⟨r82, rfl, g_r82, hw⟩ := hy
      refine lv_if_eq (tgt := 92) C.1 C.2.1 dX10_takeLetters_85 (by decide) (fun c85 => ?_) (fun c85 => ?_)
      · have hw := hw.1 (z0_eq g_r82 c85)
        refine lv_iconst (v := zI 0) C.1 C.2.1 dX10_takeLetters_92 (by decide) ?_
        refine k_putK (v := 0) C Wd KX10 3 2 (by decide) (cx3 _) rfl (by decide) fl_X10_25 rfl rfl rfl (Nat.le_of_ble_eq_true rfl) (show rng 0 from by decide) dX10_takeLetters_93 (fun H locs Wd => ?_)
        refine lv_goto (tgt := 188) C.1 C.2.1 dX10_takeLetters_96 (by decide) ?_
        exact k_retKv C hr hlk Wd hw dX10_takeLetters_188
      · have hw := hw.2 (z0_ne g_r82 c85)
        refine lv_iconst (v := zI 3) C.1 C.2.1 dX10_takeLetters_88 (by decide) ?_
        refine lv_goto (tgt := 93) C.1 C.2.1 dX10_takeLetters_89 (by decide) ?_
        refine k_putK (v := 3) C Wd KX10 3 2 (by decide) (cx3 _) rfl (by decide) fl_X10_25 rfl rfl rfl (Nat.le_of_ble_eq_true rfl) (show rng 3 from by decide) dX10_takeLetters_93 (fun H locs Wd => ?_)
        refine lv_goto (tgt := 188) C.1 C.2.1 dX10_takeLetters_96 (by decide) ?_
        exact k_retKv C hr hlk Wd hw dX10_takeLetters_188
  refine lv_icmp_ge (tgt := 45) C.1 C.2.1 dX10_takeLetters_18 (by decide) (fun c18 => ?_) (fun c18 => ?_)
  · have hw := hw.1 (z_le (hS_σ13.1 3 1) g_l1_13 c18)
    exact J45  _ _ _ ⟨hw, Wd, lv_sub hl [0] rfl⟩
  · have hw := hw.2 (z_nle (hS_σ13.1 3 1) g_l1_13 c18)
    refine lv_aload_n C.1 C.2.1 dX10_takeLetters_21 rfl (lv_at hl 0 rfl) ?_
    refine lv_iload_n C.1 C.2.1 dX10_takeLetters_22 rfl (lv_at hl 1 rfl) ?_
    refine k_pi (k_runVK (rest := []) C aks Wd cs_X10_31 (mk_T_byteAt D ad ca rf σ13 Wd.2.1 Wd.2.2 l1_13 g_l1_13 _ hw l _) (cx3 _) rfl rfl rfl rfl ⟨(Nat.le_of_ble_eq_true rfl), (Nat.le_of_ble_eq_true rfl)⟩ hl.1 rfl rfl (Nat.le_of_ble_eq_true rfl) ⟨(Nat.le_of_ble_eq_true rfl), (Nat.le_of_ble_eq_true rfl)⟩ dX10_takeLetters_23) (fun y23 hy => ?_)
    obtain ⟨r23, rfl, g_r23, hw⟩ := hy
    refine k_pi (k_runS (rest := []) C aks Wd.1 cs_X10_35 (mk_T_isLetter D r23 g_r23 _ hw l _) [] rfl (by decide) [] rfl rfl rfl ⟨(Nat.le_of_ble_eq_true rfl), (Nat.le_of_ble_eq_true rfl)⟩ hl.1 rfl rfl (Nat.le_of_ble_eq_true rfl) ⟨(Nat.le_of_ble_eq_true rfl), (Nat.le_of_ble_eq_true rfl)⟩ dX10_takeLetters_26) (fun y26 hy => ?_)
    obtain ⟨r26, rfl, g_r26, hw⟩ := hy
    refine lv_if_eq (tgt := 45) C.1 C.2.1 dX10_takeLetters_29 (by decide) (fun c29 => ?_) (fun c29 => ?_)
    · have hw := hw.1 (z0_eq g_r26 c29)
      exact J45  _ _ _ ⟨hw, Wd, lv_sub hl [0] rfl⟩
    · have hw := hw.2 (z0_ne g_r26 c29)
      refine lv_aload_n C.1 C.2.1 dX10_takeLetters_32 rfl (lv_at hl 0 rfl) ?_
      refine lv_iload_n C.1 C.2.1 dX10_takeLetters_33 rfl (lv_at hl 1 rfl) ?_
      refine lv_iconst (v := zI 1) C.1 C.2.1 dX10_takeLetters_34 (by decide) ?_
      refine k_iadd (v := zI (l1_13 + 1)) C (zI_iadd _ _) dX10_takeLetters_35 ?_
      obtain ⟨g36_11, hw⟩ := hw
      refine k_putK (v := (l1_13 + 1)) C Wd KX10 3 5 (by decide) (cx3 _) rfl (by decide) fl_X10_19 rfl rfl rfl (Nat.le_of_ble_eq_true rfl) g36_11 dX10_takeLetters_36 (fun H locs Wd => ?_)
      refine lv_iinc (v := zI (l1_13 + 1)) (lv' := [(1, .int (zI (l1_13 + 1))), (0, .ref (ad 3))]) C.1 C.2.1 dX10_takeLetters_39 hl (k := 1) rfl (zI_inc _ _ (by decide)) (by decide) rfl (fun ls hl => ?_)
      replace hl := lv_sub hl [1, 0] rfl
      refine lv_goto (tgt := 13) C.1 C.2.1 dX10_takeLetters_42 (by decide) ?_
      exact hL13 _ _ hw _ _ _ ⟨g36_11, Wd, lv_sub hl [0, 1] rfl⟩
