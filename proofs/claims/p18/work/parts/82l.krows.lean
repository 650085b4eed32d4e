set_option maxHeartbeats 4000000 in
set_option maxRecDepth 100000 in
theorem mk_F_linkAt_71 : ∀ (D : va_G) (ad : Nat → Nat) (ca : Nat → ClassId) (rf : Nat → Nat → Option Nat) (σ : Sg) (hS : rngK σ) (hRF : RFok ad rf) (x0 : Int) (x1 : Int) (x2 : Int) (g_x0 : rng x0) (g_x1 : rng x1) (g_x2 : rng x2) (K : Int → Sg → Prop) (hw : wp5_F_linkAt σ 71 x0 x1 x2 K) (l : Launch) (sz : Nat), Met l yX1_linkAt (Cond.code yX1_linkAt cX1_linkAt 4 (some .int) :: gG) { frames := 2, cells := 0, slots := 0, locals := 85 } (cPre D (tC ca) (wK ad ca rf σ) sz [.ref (ad 71), .int (zI x0), .int (zI x1), .int (zI x2)]) (va_Qi (fun (r : Int32) (u : Sg) => (∃ x : Int, r = zI x ∧ rng x ∧ K x u) ∧ rngK u) (fun u t => cB D (va_A (wK ad ca rf σ) sz) [] (wK ad ca rf u) t) (va_A (wK ad ca rf σ) sz)) 0 0 (va_A (wK ad ca rf σ) sz) := by
  intro D ad ca rf σ hS hRF x0 x1 x2 g_x0 g_x1 g_x2 K hw l sz
  refine Met.ofW (cc := cX1_linkAt) (maxL := 4) (ret := (some .int)) (by decide) rfl ?_
  intro p e s m args below meth c s₁ B hml hv
  obtain ⟨rfl, aks, rfl, Wd⟩ := k_enter hv
  have C : CallFix p m c cX1_linkAt 4 s _ gG RX1 := ⟨B.exec, B.bytes, hml, findClass_of_methodNamed B.named, fun w h => atoms_spec (ws := Cond.code yX1_linkAt cX1_linkAt 4 (some .int) :: gG) B.pre w (List.mem_cons_of_mem _ h)⟩
  have hr := B.returns
  have hlk := B.notSynchronized
  generalize va_A (wK ad ca rf σ) s.heap.size = A at Wd ⊢
  replace Wd : wXK D ad ca rf s σ s.heap A s.heap [] := ⟨Wd, hS, hRF⟩
  refine k_locals (Nat.le_of_ble_eq_true rfl) [(0, .ref (ad 71)), (1, .int (zI x0)), (2, .int (zI x1)), (3, .int (zI x2))] rfl (fun ls hl => ?_)
  unfold wp5_F_linkAt at hw
  refine lv_aload_n C.1 C.2.1 dX1_linkAt_0 rfl (lv_at hl 0 rfl) ?_
  refine lv_iload_n C.1 C.2.1 dX1_linkAt_1 rfl (lv_at hl 2 rfl) ?_
  refine k_pi (k_runVK (rest := []) C aks Wd cs_X1_70 (mk_F_isHere_71 D ad ca rf σ Wd.2.1 Wd.2.2 x1 g_x1 _ hw l _) (cx71 _) rfl rfl rfl rfl ⟨(Nat.le_of_ble_eq_true rfl), (Nat.le_of_ble_eq_true rfl)⟩ hl.1 rfl rfl (Nat.le_of_ble_eq_true rfl) ⟨(Nat.le_of_ble_eq_true rfl), (Nat.le_of_ble_eq_true rfl)⟩ dX1_linkAt_2) (fun y2 hy => ?_)
  obtain ⟨r2, rfl, g_r2, hw⟩ := hy
  refine lv_if_ne (tgt := 10) C.1 C.2.1 dX1_linkAt_5 (by decide) (fun c5 => ?_) (fun c5 => ?_)
  · have hw := hw.1 (z0_ne g_r2 c5)
    refine lv_iload_n C.1 C.2.1 dX1_linkAt_10 rfl (lv_at hl 1 rfl) ?_
    refine lv_bipush (v := zI 114) C.1 C.2.1 dX1_linkAt_11 (by decide) ?_
    refine lv_icmp_ne (tgt := 40) C.1 C.2.1 dX1_linkAt_13 (by decide) (fun c13 => ?_) (fun c13 => ?_)
    · have hw := hw.1 (z_ne g_x0 (show rng 114 from by decide) c13)
      refine lv_iload_n C.1 C.2.1 dX1_linkAt_40 rfl (lv_at hl 1 rfl) ?_
      refine lv_bipush (v := zI 113) C.1 C.2.1 dX1_linkAt_41 (by decide) ?_
      refine lv_icmp_ne (tgt := 60) C.1 C.2.1 dX1_linkAt_43 (by decide) (fun c43 => ?_) (fun c43 => ?_)
      · have hw := hw.1 (z_ne g_x0 (show rng 113 from by decide) c43)
        refine lv_iload_n C.1 C.2.1 dX1_linkAt_60 rfl (lv_at hl 1 rfl) ?_
        refine lv_bipush (v := zI 111) C.1 C.2.1 dX1_linkAt_61 (by decide) ?_
        refine k_cut1 (fun (σ73 : Sg) H locs ls => wp5_F_linkAt_73 K 71 x0 x1 σ73 ∧ wXK D ad ca rf s σ73 H A s.heap locs ∧ lv_has ls 4 [(0, .ref (ad 71)), (1, .int (zI x0)), (2, .int (zI x1))]) (fun (σ73 : Sg) ls => F0 m 73 ls []) (fun σ73 H locs ls hi => ?_) (fun J73 => ?_)
        · obtain ⟨hw, Wd, hl⟩ := hi
          have hS_σ73 := Wd.2.1
          unfold wp5_F_linkAt_73 at hw
          refine lv_iload_n C.1 C.2.1 dX1_linkAt_73 rfl (lv_at hl 1 rfl) ?_
          refine lv_bipush (v := zI 115) C.1 C.2.1 dX1_linkAt_74 (by decide) ?_
          refine lv_icmp_ne (tgt := 91) C.1 C.2.1 dX1_linkAt_76 (by decide) (fun c76 => ?_) (fun c76 => ?_)
          · have hw := hw.1 (z_ne g_x0 (show rng 115 from by decide) c76)
            refine lv_iload_n C.1 C.2.1 dX1_linkAt_91 rfl (lv_at hl 2 rfl) ?_
            exact k_retKi C hr hlk rfl Wd ⟨_, rfl, g_x1, hw⟩ dX1_linkAt_92
          · have hw := hw.2 (z_eq g_x0 (show rng 115 from by decide) c76)
            refine lv_aload_n C.1 C.2.1 dX1_linkAt_79 rfl (lv_at hl 0 rfl) ?_
            refine k_get (v := .ref (ad 77)) C Wd.1 KX1 _ 7 (cx71 _) (by decide) fl_X1_36 rfl dX1_linkAt_80 ?_
            refine lv_iload_n C.1 C.2.1 dX1_linkAt_83 rfl (lv_at hl 2 rfl) ?_
            refine lv_aload_n C.1 C.2.1 dX1_linkAt_84 rfl (lv_at hl 0 rfl) ?_
            refine k_get (v := .ref (ad 81)) C Wd.1 KX1 _ 11 (cx71 _) (by decide) fl_X1_48 rfl dX1_linkAt_85 ?_
            refine lv_iload_n C.1 C.2.1 dX1_linkAt_88 rfl (lv_at hl 2 rfl) ?_
            obtain ⟨n89_0, hw⟩ := hw
            refine k_ialdK (g := (σ73.2.1 81)) C Wd (cx81 _) (tC_at (by decide) rfl) n89_0 (by decide) dX1_linkAt_89 ?_
            have ga89 : rng (σ73.2.1 81 x1) := rngL (fun j => (Wd.2.1).2.1 81 j) n89_0
            refine k_iastF (g := (σ73.2.1 77)) (i := x1) (v := (σ73.2.1 81 x1)) C Wd 77 (by decide) (cx77 _) (fun f => cx77a _ f) (tC_at (by decide) rfl) n89_0 (by decide) (ruZ (fun j => Wd.2.1.2.1 77 j) ga89) dX1_linkAt_90 (fun H locs Wd => ?_)
            refine lv_iload_n C.1 C.2.1 dX1_linkAt_91 rfl (lv_at hl 2 rfl) ?_
            exact k_retKi C hr hlk rfl Wd ⟨_, rfl, g_x1, hw⟩ dX1_linkAt_92
        refine lv_icmp_eq (tgt := 73) C.1 C.2.1 dX1_linkAt_63 (by decide) (fun c63 => ?_) (fun c63 => ?_)
        · have hw := hw.1 (z_eq g_x0 (show rng 111 from by decide) c63)
          exact J73 σ _ _ _ ⟨hw, Wd, lv_sub hl [0, 1, 2] rfl⟩
        · have hw := hw.2 (z_ne g_x0 (show rng 111 from by decide) c63)
          refine lv_aload_n C.1 C.2.1 dX1_linkAt_66 rfl (lv_at hl 0 rfl) ?_
          refine k_get (v := .ref (ad 76)) C Wd.1 KX1 _ 6 (cx71 _) (by decide) fl_X1_33 rfl dX1_linkAt_67 ?_
          refine lv_iload_n C.1 C.2.1 dX1_linkAt_70 rfl (lv_at hl 2 rfl) ?_
          refine lv_iload_n C.1 C.2.1 dX1_linkAt_71 rfl (lv_at hl 3 rfl) ?_
          obtain ⟨n72_0, hw⟩ := hw
          refine k_iastF (g := (σ.2.1 76)) (i := x1) (v := x2) C Wd 76 (by decide) (cx76 _) (fun f => cx76a _ f) (tC_at (by decide) rfl) n72_0 (by decide) (ruZ (fun j => Wd.2.1.2.1 76 j) g_x2) dX1_linkAt_72 (fun H locs Wd => ?_)
          exact J73 (pF σ 76 (uZ (σ.2.1 76) x1 x2)) _ _ _ ⟨hw, Wd, lv_sub hl [0, 1, 2] rfl⟩
      · have hw := hw.2 (z_eq g_x0 (show rng 113 from by decide) c43)
        refine lv_aload_n C.1 C.2.1 dX1_linkAt_46 rfl (lv_at hl 0 rfl) ?_
        refine k_get (v := .ref (ad 77)) C Wd.1 KX1 _ 7 (cx71 _) (by decide) fl_X1_36 rfl dX1_linkAt_47 ?_
        refine lv_iload_n C.1 C.2.1 dX1_linkAt_50 rfl (lv_at hl 2 rfl) ?_
        refine lv_iload_n C.1 C.2.1 dX1_linkAt_51 rfl (lv_at hl 3 rfl) ?_
        obtain ⟨n52_0, hw⟩ := hw
        refine k_iastF (g := (σ.2.1 77)) (i := x1) (v := x2) C Wd 77 (by decide) (cx77 _) (fun f => cx77a _ f) (tC_at (by decide) rfl) n52_0 (by decide) (ruZ (fun j => Wd.2.1.2.1 77 j) g_x2) dX1_linkAt_52 (fun H locs Wd => ?_)
        refine lv_aload_n C.1 C.2.1 dX1_linkAt_53 rfl (lv_at hl 0 rfl) ?_
        refine k_get (v := .ref (ad 81)) C Wd.1 KX1 _ 11 (cx71 _) (by decide) fl_X1_48 rfl dX1_linkAt_54 ?_
        refine lv_iload_n C.1 C.2.1 dX1_linkAt_57 rfl (lv_at hl 2 rfl) ?_
        refine k_ialdK (g := (σ.2.1 81)) C Wd (cx81 _) (tC_at (by decide) rfl) n52_0 (by decide) dX1_linkAt_58 ?_
        have ga58 : rng (σ.2.1 81 x1) := rngL (fun j => (Wd.2.1).2.1 81 j) n52_0
        exact k_retKi C hr hlk rfl Wd ⟨_, rfl, ga58, hw⟩ dX1_linkAt_59
    · have hw := hw.2 (z_eq g_x0 (show rng 114 from by decide) c13)
      refine lv_aload_n C.1 C.2.1 dX1_linkAt_16 rfl (lv_at hl 0 rfl) ?_
      refine k_get (v := .ref (ad 81)) C Wd.1 KX1 _ 11 (cx71 _) (by decide) fl_X1_48 rfl dX1_linkAt_17 ?_
      refine lv_iload_n C.1 C.2.1 dX1_linkAt_20 rfl (lv_at hl 2 rfl) ?_
      refine lv_iload_n C.1 C.2.1 dX1_linkAt_21 rfl (lv_at hl 3 rfl) ?_
      obtain ⟨n22_0, hw⟩ := hw
      refine k_iastF (g := (σ.2.1 81)) (i := x1) (v := x2) C Wd 81 (by decide) (cx81 _) (fun f => cx81a _ f) (tC_at (by decide) rfl) n22_0 (by decide) (ruZ (fun j => Wd.2.1.2.1 81 j) g_x2) dX1_linkAt_22 (fun H locs Wd => ?_)
      refine lv_aload_n C.1 C.2.1 dX1_linkAt_23 rfl (lv_at hl 0 rfl) ?_
      refine k_get (v := .ref (ad 73)) C Wd.1 KX1 _ 3 (cx71 _) (by decide) fl_X1_24 rfl dX1_linkAt_24 ?_
      refine lv_iload_n C.1 C.2.1 dX1_linkAt_27 rfl (lv_at hl 2 rfl) ?_
      refine k_ialdK (g := (σ.2.1 73)) C Wd (cx73 _) (tC_at (by decide) rfl) n22_0 (by decide) dX1_linkAt_28 ?_
      have ga28 : rng (σ.2.1 73 x1) := rngL (fun j => (Wd.2.1).2.1 73 j) n22_0
      refine lv_bipush (v := zI 115) C.1 C.2.1 dX1_linkAt_29 (by decide) ?_
      refine lv_icmp_ne (tgt := 38) C.1 C.2.1 dX1_linkAt_31 (by decide) (fun c31 => ?_) (fun c31 => ?_)
      · have hw := hw.1 (z_ne ga28 (show rng 115 from by decide) c31)
        refine lv_iload_n C.1 C.2.1 dX1_linkAt_38 rfl (lv_at hl 3 rfl) ?_
        exact k_retKi C hr hlk rfl Wd ⟨_, rfl, g_x2, hw⟩ dX1_linkAt_39
      · have hw := hw.2 (z_eq ga28 (show rng 115 from by decide) c31)
        refine lv_iload_n C.1 C.2.1 dX1_linkAt_34 rfl (lv_at hl 2 rfl) ?_
        refine lv_goto (tgt := 39) C.1 C.2.1 dX1_linkAt_35 (by decide) ?_
        exact k_retKi C hr hlk rfl Wd ⟨_, rfl, g_x1, hw⟩ dX1_linkAt_39
  · have hw := hw.2 (z0_eq g_r2 c5)
    refine lv_iload_n C.1 C.2.1 dX1_linkAt_8 rfl (lv_at hl 3 rfl) ?_
    exact k_retKi C hr hlk rfl Wd ⟨_, rfl, g_x2, hw⟩ dX1_linkAt_9
set_option maxHeartbeats 4000000 in
set_option maxRecDepth 100000 in
theorem mk_F_link_71 : ∀ (D : va_G) (ad : Nat → Nat) (ca : Nat → ClassId) (rf : Nat → Nat → Option Nat) (σ : Sg) (hS : rngK σ) (hRF : RFok ad rf) (K : Sg → Prop) (hw : wp5_F_link σ 71 K) (l : Launch) (sz : Nat), Met l yX1_link (Cond.code yX1_link cX1_link 4 none :: gG) { frames := 3, cells := 0, slots := 0, locals := 108 } (cPre D (tC ca) (wK ad ca rf σ) sz [.ref (ad 71)]) (va_Qv (fun (u : Sg) => K u ∧ rngK u) (fun u t => cB D (va_A (wK ad ca rf σ) sz) [] (wK ad ca rf u) t) (va_A (wK ad ca rf σ) sz)) 0 0 (va_A (wK ad ca rf σ) sz) := by
  intro D ad ca rf σ hS hRF  K hw l sz
  refine Met.ofW (cc := cX1_link) (maxL := 4) (ret := none) (by decide) rfl ?_
  intro p e s m args below meth c s₁ B hml hv
  obtain ⟨rfl, aks, rfl, Wd⟩ := k_enter hv
  have C : CallFix p m c cX1_link 4 s _ gG RX1 := ⟨B.exec, B.bytes, hml, findClass_of_methodNamed B.named, fun w h => atoms_spec (ws := Cond.code yX1_link cX1_link 4 none :: gG) B.pre w (List.mem_cons_of_mem _ h)⟩
  have hr := B.returns
  have hlk := B.notSynchronized
  generalize va_A (wK ad ca rf σ) s.heap.size = A at Wd ⊢
  replace Wd : wXK D ad ca rf s σ s.heap A s.heap [] := ⟨Wd, hS, hRF⟩
  refine k_locals (Nat.le_of_ble_eq_true rfl) [(0, .ref (ad 71))] rfl (fun ls hl => ?_)
  unfold wp5_F_link at hw
  refine lv_iconst (v := zI (-1)) C.1 C.2.1 dX1_link_0 (by decide) ?_
  refine lv_istore_n (lv' := [(1, .int (zI (-1))), (0, .ref (ad 71))]) C.1 C.2.1 dX1_link_1 rfl hl (by decide) rfl (fun ls hl => ?_)
  replace hl := lv_sub hl [1, 0] rfl
  refine lv_aload_n C.1 C.2.1 dX1_link_2 rfl (lv_at hl 0 rfl) ?_
  obtain ⟨n3_0, hw⟩ := hw
  refine k_get (v := .ref (ad (rowC (σ.1 71 0).toNat))) C Wd.1 KX1 _ 0 (cx71 _) (by decide) fl_X1_14 (congrArg some (rvW_ref n3_0)) dX1_link_3 ?_
  refine k_get (v := .int (zI (σ.2.2.1 0 (σ.1 71 0)))) C Wd.1 KX8 _ 1 (cxRow n3_0) (by decide) fl_X1_78 rfl dX1_link_6 ?_
  refine lv_aload_n C.1 C.2.1 dX1_link_9 rfl (lv_at hl 0 rfl) ?_
  refine k_get (v := .ref (ad 83)) C Wd.1 KX1 _ 13 (cx71 _) (by decide) fl_X1_54 rfl dX1_link_10 ?_
  refine k_alen (v := zI 480) C Wd.1 83 83 (cx83 _) (tC_at (by decide) rfl) rfl dX1_link_13 ?_
  refine k_mmin (v := zI (min (σ.2.2.1 0 (σ.1 71 0)) 480)) C hl.1 ml_X1_103 st_Lib_Math_min_name in_J9 cd_min (Nat.le_of_ble_eq_true rfl) (Nat.le_of_ble_eq_true rfl) (Nat.le_of_ble_eq_true rfl) (Nat.le_of_ble_eq_true rfl) (zmin_eq _ _ (rgY hS (N := 35) n3_0) (show rng 480 from by decide)) dX1_link_14 ?_
  refine lv_iconst (v := zI 1) C.1 C.2.1 dX1_link_17 (by decide) ?_
  refine k_isub (v := zI ((min (σ.2.2.1 0 (σ.1 71 0)) 480) - 1)) C (zI_isub _ _) dX1_link_18 ?_
  refine lv_istore_n (lv' := [(2, .int (zI ((min (σ.2.2.1 0 (σ.1 71 0)) 480) - 1))), (0, .ref (ad 71)), (1, .int (zI (-1)))]) C.1 C.2.1 dX1_link_19 rfl hl (by decide) rfl (fun ls hl => ?_)
  replace hl := lv_sub hl [1, 2, 0] rfl
  obtain ⟨g19_5, hw⟩ := hw
  refine k_lp3 hw (fun (l1_20 : Int) (l2_20 : Int) (σ20 : Sg) H locs ls => rng l1_20 ∧ rng l2_20 ∧ wXK D ad ca rf s σ20 H A s.heap locs ∧ lv_has ls 4 [(0, .ref (ad 71)), (1, .int (zI l1_20)), (2, .int (zI l2_20))]) (fun (l1_20 : Int) (l2_20 : Int) (σ20 : Sg) ls => F0 m 20 ls []) (fun L20 hL20 l1_20 l2_20 σ20 hw H locs ls hi => ?_) _ _ _ ⟨(show rng (-1) from by decide), g19_5, Wd, lv_sub hl [0, 1, 2] rfl⟩
  obtain ⟨g_l1_20, g_l2_20, Wd, hl⟩ := hi
  have hS_σ20 := Wd.2.1
  unfold wp5_F_link_20 at hw
  refine lv_iload_n C.1 C.2.1 dX1_link_20 rfl (lv_at hl 2 rfl) ?_
  refine lv_if_lt (tgt := 60) C.1 C.2.1 dX1_link_21 (by decide) (fun c21 => ?_) (fun c21 => ?_)
  · have hw := hw.1 (z0_lt g_l2_20 c21)
    exact k_retKv C hr hlk Wd hw dX1_link_60
  · have hw := hw.2 (z0_nlt g_l2_20 c21)
    refine lv_aload_n C.1 C.2.1 dX1_link_24 rfl (lv_at hl 0 rfl) ?_
    refine k_get (v := .ref (ad 83)) C Wd.1 KX1 _ 13 (cx71 _) (by decide) fl_X1_54 rfl dX1_link_25 ?_
    refine lv_iload_n C.1 C.2.1 dX1_link_28 rfl (lv_at hl 2 rfl) ?_
    obtain ⟨n29_0, hw⟩ := hw
    refine k_ialdK (g := (σ20.2.1 83)) C Wd (cx83 _) (tC_at (by decide) rfl) n29_0 (by decide) dX1_link_29 ?_
    have ga29 : rng (σ20.2.1 83 l2_20) := rngL (fun j => (Wd.2.1).2.1 83 j) n29_0
    refine lv_istore_n (lv' := [(3, .int (zI (σ20.2.1 83 l2_20))), (0, .ref (ad 71)), (1, .int (zI l1_20)), (2, .int (zI l2_20))]) C.1 C.2.1 dX1_link_30 rfl hl (by decide) rfl (fun ls hl => ?_)
    replace hl := lv_sub hl [1, 2, 3, 0] rfl
    refine lv_aload_n C.1 C.2.1 dX1_link_31 rfl (lv_at hl 0 rfl) ?_
    refine lv_iload_n C.1 C.2.1 dX1_link_32 rfl (lv_at hl 3 rfl) ?_
    refine k_pi (k_runVK (rest := []) C aks Wd cs_X1_70 (mk_F_isHere_71 D ad ca rf σ20 Wd.2.1 Wd.2.2 (σ20.2.1 83 l2_20) ga29 _ hw l _) (cx71 _) rfl rfl rfl rfl ⟨(Nat.le_of_ble_eq_true rfl), (Nat.le_of_ble_eq_true rfl)⟩ hl.1 rfl rfl (Nat.le_of_ble_eq_true rfl) ⟨(Nat.le_of_ble_eq_true rfl), (Nat.le_of_ble_eq_true rfl)⟩ dX1_link_33) (fun y33 hy => ?_)
    obtain ⟨r33, rfl, g_r33, hw⟩ := hy
    refine lv_if_eq (tgt := 54) C.1 C.2.1 dX1_link_36 (by decide) (fun c36 => ?_) (fun c36 => ?_)
    · have hw := hw.1 (z0_eq g_r33 c36)
      refine lv_iinc (v := zI (l2_20 - 1)) (lv' := [(2, .int (zI (l2_20 - 1))), (0, .ref (ad 71)), (1, .int (zI l1_20)), (3, .int (zI (σ20.2.1 83 l2_20)))]) C.1 C.2.1 dX1_link_54 hl (k := 2) rfl (zI_dec _ _ (by decide)) (by decide) rfl (fun ls hl => ?_)
      replace hl := lv_sub hl [1, 2, 0, 3] rfl
      refine lv_goto (tgt := 20) C.1 C.2.1 dX1_link_57 (by decide) ?_
      obtain ⟨g57_6, hw⟩ := hw
      exact hL20 _ _ _ hw _ _ _ ⟨g_l1_20, g57_6, Wd, lv_sub hl [0, 1, 2] rfl⟩
    · have hw := hw.2 (z0_ne g_r33 c36)
      refine lv_aload_n C.1 C.2.1 dX1_link_39 rfl (lv_at hl 0 rfl) ?_
      refine lv_aload_n C.1 C.2.1 dX1_link_40 rfl (lv_at hl 0 rfl) ?_
      obtain ⟨n41_0, hw⟩ := hw
      refine k_get (v := .ref (ad (rowC (σ20.1 71 0).toNat))) C Wd.1 KX1 _ 0 (cx71 _) (by decide) fl_X1_14 (congrArg some (rvW_ref n41_0)) dX1_link_41 ?_
      refine lv_iload_n C.1 C.2.1 dX1_link_44 rfl (lv_at hl 2 rfl) ?_
      refine k_pi (k_runVK (rest := [.ref (ad 71)]) C aks Wd cs_X1_81 (mk_W_cell D ad ca rf σ20 Wd.2.1 Wd.2.2 (σ20.1 71 0) l2_20 n41_0 g_l2_20 _ hw l _) (cxRow n41_0) rfl rfl rfl rfl ⟨(Nat.le_of_ble_eq_true rfl), (Nat.le_of_ble_eq_true rfl)⟩ hl.1 rfl rfl (Nat.le_of_ble_eq_true rfl) ⟨(Nat.le_of_ble_eq_true rfl), (Nat.le_of_ble_eq_true rfl)⟩ dX1_link_45) (fun y45 hy => ?_)
      obtain ⟨r45, rfl, g_r45, hw⟩ := hy
      refine lv_iload_n C.1 C.2.1 dX1_link_48 rfl (lv_at hl 3 rfl) ?_
      refine lv_iload_n C.1 C.2.1 dX1_link_49 rfl (lv_at hl 1 rfl) ?_
      refine k_cKi Wd (k_runVK (rest := []) C aks Wd cs_X1_109 (mk_F_linkAt_71 D ad ca rf σ20 Wd.2.1 Wd.2.2 r45 (σ20.2.1 83 l2_20) l1_20 g_r45 ga29 g_l1_20 _ hw l _) (cx71 _) rfl rfl rfl rfl ⟨(Nat.le_of_ble_eq_true rfl), (Nat.le_of_ble_eq_true rfl)⟩ hl.1 rfl rfl (Nat.le_of_ble_eq_true rfl) ⟨(Nat.le_of_ble_eq_true rfl), (Nat.le_of_ble_eq_true rfl)⟩ dX1_link_50) (fun r50 σr50 H locs g_r50 hw Wd => ?_)
      have hS_σr50 := Wd.2.1
      refine lv_istore_n (lv' := [(1, .int (zI r50)), (0, .ref (ad 71)), (2, .int (zI l2_20)), (3, .int (zI (σ20.2.1 83 l2_20)))]) C.1 C.2.1 dX1_link_53 rfl hl (by decide) rfl (fun ls hl => ?_)
      replace hl := lv_sub hl [1, 0, 2, 3] rfl
      refine lv_iinc (v := zI (l2_20 - 1)) (lv' := [(2, .int (zI (l2_20 - 1))), (0, .ref (ad 71)), (1, .int (zI r50)), (3, .int (zI (σ20.2.1 83 l2_20)))]) C.1 C.2.1 dX1_link_54 hl (k := 2) rfl (zI_dec _ _ (by decide)) (by decide) rfl (fun ls hl => ?_)
      replace hl := lv_sub hl [1, 2, 0, 3] rfl
      refine lv_goto (tgt := 20) C.1 C.2.1 dX1_link_57 (by decide) ?_
      obtain ⟨g57_7, hw⟩ := hw
      exact hL20 _ _ _ hw _ _ _ ⟨g_r50, g57_7, Wd, lv_sub hl [0, 1, 2] rfl⟩
set_option maxHeartbeats 4000000 in
set_option maxRecDepth 100000 in
theorem mk_F_aheadOf_71 : ∀ (D : va_G) (ad : Nat → Nat) (ca : Nat → ClassId) (rf : Nat → Nat → Option Nat) (σ : Sg) (hS : rngK σ) (hRF : RFok ad rf) (x0 : Int) (g_x0 : rng x0) (K : Int → Prop) (hw : wp5_F_aheadOf σ 71 x0 K) (l : Launch) (sz : Nat), Met l yX1_aheadOf (Cond.code yX1_aheadOf cX1_aheadOf 2 (some .int) :: gG) { frames := 2, cells := 0, slots := 0, locals := 85 } (cPre D (tC ca) (wK ad ca rf σ) sz [.ref (ad 71), .int (zI x0)]) (vp_Si (fun r => ∃ x : Int, r = zI x ∧ rng x ∧ K x)) 0 0 (fun _ => False) := by
  intro D ad ca rf σ hS hRF x0 g_x0 K hw l sz
  refine Met.ofW (cc := cX1_aheadOf) (maxL := 2) (ret := (some .int)) (by decide) rfl ?_
  intro p e s m args below meth c s₁ B hml hv
  obtain ⟨rfl, aks, rfl, Wd⟩ := k_enter hv
  have C : CallFix p m c cX1_aheadOf 2 s _ gG RX1 := ⟨B.exec, B.bytes, hml, findClass_of_methodNamed B.named, fun w h => atoms_spec (ws := Cond.code yX1_aheadOf cX1_aheadOf 2 (some .int) :: gG) B.pre w (List.mem_cons_of_mem _ h)⟩
  have hr := B.returns
  have hlk := B.notSynchronized
  obtain ⟨A, Wd⟩ : ∃ A, wXK D ad ca rf s σ s.heap A s.heap [] := ⟨_, Wd, hS, hRF⟩
  refine k_locals (Nat.le_of_ble_eq_true rfl) [(0, .ref (ad 71)), (1, .int (zI x0))] rfl (fun ls hl => ?_)
  unfold wp5_F_aheadOf at hw
  refine lv_aload_n C.1 C.2.1 dX1_aheadOf_0 rfl (lv_at hl 0 rfl) ?_
  refine lv_iload_n C.1 C.2.1 dX1_aheadOf_1 rfl (lv_at hl 1 rfl) ?_
  refine k_pi (k_runVK (rest := []) C aks Wd cs_X1_70 (mk_F_isHere_71 D ad ca rf σ Wd.2.1 Wd.2.2 x0 g_x0 _ hw l _) (cx71 _) rfl rfl rfl rfl ⟨(Nat.le_of_ble_eq_true rfl), (Nat.le_of_ble_eq_true rfl)⟩ hl.1 rfl rfl (Nat.le_of_ble_eq_true rfl) ⟨(Nat.le_of_ble_eq_true rfl), (Nat.le_of_ble_eq_true rfl)⟩ dX1_aheadOf_2) (fun y2 hy => ?_)
  obtain ⟨r2, rfl, g_r2, hw⟩ := hy
  refine lv_if_eq (tgt := 17) C.1 C.2.1 dX1_aheadOf_5 (by decide) (fun c5 => ?_) (fun c5 => ?_)
  · have hw := hw.1 (z0_eq g_r2 c5)
    refine lv_iconst (v := zI 0) C.1 C.2.1 dX1_aheadOf_17 (by decide) ?_
    exact k_zretP C hr hlk rfl ⟨_, rfl, (show rng 0 from by decide), hw⟩ dX1_aheadOf_18
  · have hw := hw.2 (z0_ne g_r2 c5)
    refine lv_aload_n C.1 C.2.1 dX1_aheadOf_8 rfl (lv_at hl 0 rfl) ?_
    refine k_get (v := .ref (ad 80)) C Wd.1 KX1 _ 10 (cx71 _) (by decide) fl_X1_45 rfl dX1_aheadOf_9 ?_
    refine lv_iload_n C.1 C.2.1 dX1_aheadOf_12 rfl (lv_at hl 1 rfl) ?_
    obtain ⟨n13_0, hw⟩ := hw
    refine k_ialdK (g := (σ.2.1 80)) C Wd (cx80 _) (tC_at (by decide) rfl) n13_0 (by decide) dX1_aheadOf_13 ?_
    have ga13 : rng (σ.2.1 80 x0) := rngL (fun j => (Wd.2.1).2.1 80 j) n13_0
    refine lv_goto (tgt := 18) C.1 C.2.1 dX1_aheadOf_14 (by decide) ?_
    exact k_zretP C hr hlk rfl ⟨_, rfl, ga13, hw⟩ dX1_aheadOf_18
set_option maxHeartbeats 4000000 in
set_option maxRecDepth 100000 in
theorem mk_F_settle_71 : ∀ (D : va_G) (ad : Nat → Nat) (ca : Nat → ClassId) (rf : Nat → Nat → Option Nat) (σ : Sg) (hS : rngK σ) (hRF : RFok ad rf) (K : Sg → Prop) (hw : wp5_F_settle σ 71 K) (l : Launch) (sz : Nat), Met l yX1_settle (Cond.code yX1_settle cX1_settle 5 none :: gG) { frames := 3, cells := 0, slots := 0, locals := 106 } (cPre D (tC ca) (wK ad ca rf σ) sz [.ref (ad 71)]) (va_Qv (fun (u : Sg) => K u ∧ rngK u) (fun u t => cB D (va_A (wK ad ca rf σ) sz) [] (wK ad ca rf u) t) (va_A (wK ad ca rf σ) sz)) 0 0 (va_A (wK ad ca rf σ) sz) := by
  intro D ad ca rf σ hS hRF  K hw l sz
  refine Met.ofW (cc := cX1_settle) (maxL := 5) (ret := none) (by decide) rfl ?_
  intro p e s m args below meth c s₁ B hml hv
  obtain ⟨rfl, aks, rfl, Wd⟩ := k_enter hv
  have C : CallFix p m c cX1_settle 5 s _ gG RX1 := ⟨B.exec, B.bytes, hml, findClass_of_methodNamed B.named, fun w h => atoms_spec (ws := Cond.code yX1_settle cX1_settle 5 none :: gG) B.pre w (List.mem_cons_of_mem _ h)⟩
  have hr := B.returns
  have hlk := B.notSynchronized
  generalize va_A (wK ad ca rf σ) s.heap.size = A at Wd ⊢
  replace Wd : wXK D ad ca rf s σ s.heap A s.heap [] := ⟨Wd, hS, hRF⟩
  refine k_locals (Nat.le_of_ble_eq_true rfl) [(0, .ref (ad 71))] rfl (fun ls hl => ?_)
  unfold wp5_F_settle at hw
  refine lv_iconst (v := zI 0) C.1 C.2.1 dX1_settle_0 (by decide) ?_
  refine lv_istore_n (lv' := [(1, .int (zI 0)), (0, .ref (ad 71))]) C.1 C.2.1 dX1_settle_1 rfl hl (by decide) rfl (fun ls hl => ?_)
  replace hl := lv_sub hl [1, 0] rfl
  refine k_lp2 hw (fun (l1_2 : Int) (σ2 : Sg) H locs ls => rng l1_2 ∧ wXK D ad ca rf s σ2 H A s.heap locs ∧ lv_has ls 5 [(0, .ref (ad 71)), (1, .int (zI l1_2))]) (fun (l1_2 : Int) (σ2 : Sg) ls => F0 m 2 ls []) (fun L2 hL2 l1_2 σ2 hw H locs ls hi => ?_) _ _ _ ⟨(show rng 0 from by decide), Wd, lv_sub hl [0, 1] rfl⟩
  obtain ⟨g_l1_2, Wd, hl⟩ := hi
  have hS_σ2 := Wd.2.1
  unfold wp5_F_settle_2 at hw
  refine lv_iload_n C.1 C.2.1 dX1_settle_2 rfl (lv_at hl 1 rfl) ?_
  refine lv_aload_n C.1 C.2.1 dX1_settle_3 rfl (lv_at hl 0 rfl) ?_
  refine k_get (v := .int (zI (σ2.1 71 1))) C Wd.1 KX1 _ 1 (cx71 _) (by decide) fl_X1_57 rfl dX1_settle_4 ?_
  refine k_cut0 (fun H locs ls => wp5_F_settle_29 K 71 σ2 ∧ wXK D ad ca rf s σ2 H A s.heap locs ∧ lv_has ls 5 [(0, .ref (ad 71))]) (fun  ls => F0 m 29 ls []) (fun  H locs ls hi => ?_) (fun J29 => ?_)
  · obtain ⟨hw, Wd, hl⟩ := hi
    unfold wp5_F_settle_29 at hw
    refine lv_iconst (v := zI 1) C.1 C.2.1 dX1_settle_29 (by decide) ?_
    refine lv_istore_n (lv' := [(1, .int (zI 1)), (0, .ref (ad 71))]) C.1 C.2.1 dX1_settle_30 rfl hl (by decide) rfl (fun ls hl => ?_)
    replace hl := lv_sub hl [1, 0] rfl
    refine lv_iconst (v := zI 0) C.1 C.2.1 dX1_settle_31 (by decide) ?_
    refine lv_istore_n (lv' := [(2, .int (zI 0)), (0, .ref (ad 71)), (1, .int (zI 1))]) C.1 C.2.1 dX1_settle_32 rfl hl (by decide) rfl (fun ls hl => ?_)
    replace hl := lv_sub hl [1, 2, 0] rfl
    refine k_lp3 hw (fun (l1_33 : Int) (l2_33 : Int) (σ33 : Sg) H locs ls => rng l1_33 ∧ rng l2_33 ∧ wXK D ad ca rf s σ33 H A s.heap locs ∧ lv_has ls 5 [(0, .ref (ad 71)), (1, .int (zI l1_33)), (2, .int (zI l2_33))]) (fun (l1_33 : Int) (l2_33 : Int) (σ33 : Sg) ls => F0 m 33 ls []) (fun L33 hL33 l1_33 l2_33 σ33 hw H locs ls hi => ?_) _ _ _ ⟨(show rng 1 from by decide), (show rng 0 from by decide), Wd, lv_sub hl [0, 1, 2] rfl⟩
    obtain ⟨g_l1_33, g_l2_33, Wd, hl⟩ := hi
    have hS_σ33 := Wd.2.1
    unfold wp5_F_settle_33 at hw
    refine lv_iload_n C.1 C.2.1 dX1_settle_33 rfl (lv_at hl 2 rfl) ?_
    refine lv_sipush (v := zI 241) C.1 C.2.1 dX1_settle_34 (zS (by decide) (by decide)) ?_
    refine lv_icmp_ge (tgt := 142) C.1 C.2.1 dX1_settle_37 (by decide) (fun c37 => ?_) (fun c37 => ?_)
    · have hw := hw.1 (z_le (show rng 241 from by decide) g_l2_33 c37)
      exact k_retKv C hr hlk Wd hw dX1_settle_142
    · have hw := hw.2 (z_nle (show rng 241 from by decide) g_l2_33 c37)
      refine lv_iload_n C.1 C.2.1 dX1_settle_40 rfl (lv_at hl 1 rfl) ?_
      refine lv_if_eq (tgt := 142) C.1 C.2.1 dX1_settle_41 (by decide) (fun c41 => ?_) (fun c41 => ?_)
      · have hw := hw.1 (z0_eq g_l1_33 c41)
        exact k_retKv C hr hlk Wd hw dX1_settle_142
      · have hw := hw.2 (z0_ne g_l1_33 c41)
        refine lv_iconst (v := zI 0) C.1 C.2.1 dX1_settle_44 (by decide) ?_
        refine lv_istore_n (lv' := [(1, .int (zI 0)), (0, .ref (ad 71)), (2, .int (zI l2_33))]) C.1 C.2.1 dX1_settle_45 rfl hl (by decide) rfl (fun ls hl => ?_)
        replace hl := lv_sub hl [1, 0, 2] rfl
        refine lv_aload_n C.1 C.2.1 dX1_settle_46 rfl (lv_at hl 0 rfl) ?_
        refine k_get (v := .int (zI (σ33.1 71 1))) C Wd.1 KX1 _ 1 (cx71 _) (by decide) fl_X1_57 rfl dX1_settle_47 ?_
        refine lv_bipush (v := zI 40) C.1 C.2.1 dX1_settle_50 (by decide) ?_
        refine k_mmin (v := zI (min (σ33.1 71 1) 40)) C hl.1 ml_X1_103 st_Lib_Math_min_name in_J9 cd_min (Nat.le_of_ble_eq_true rfl) (Nat.le_of_ble_eq_true rfl) (Nat.le_of_ble_eq_true rfl) (Nat.le_of_ble_eq_true rfl) (zmin_eq _ _ (hS_σ33.1 71 1) (show rng 40 from by decide)) dX1_settle_52 ?_
        refine lv_iconst (v := zI 1) C.1 C.2.1 dX1_settle_55 (by decide) ?_
        refine k_isub (v := zI ((min (σ33.1 71 1) 40) - 1)) C (zI_isub _ _) dX1_settle_56 ?_
        refine lv_istore_n (lv' := [(3, .int (zI ((min (σ33.1 71 1) 40) - 1))), (0, .ref (ad 71)), (1, .int (zI 0)), (2, .int (zI l2_33))]) C.1 C.2.1 dX1_settle_57 rfl hl (by decide) rfl (fun ls hl => ?_)
        replace hl := lv_sub hl [1, 2, 3, 0] rfl
        obtain ⟨g57_23, hw⟩ := hw
        refine k_lp3 hw (fun (l1_58 : Int) (l3_58 : Int) (σ58 : Sg) H locs ls => rng l1_58 ∧ rng l3_58 ∧ wXK D ad ca rf s σ58 H A s.heap locs ∧ lv_has ls 5 [(0, .ref (ad 71)), (1, .int (zI l1_58)), (2, .int (zI l2_33)), (3, .int (zI l3_58))]) (fun (l1_58 : Int) (l3_58 : Int) (σ58 : Sg) ls => F0 m 58 ls []) (fun L58 hL58 l1_58 l3_58 σ58 hw H locs ls hi => ?_) _ _ _ ⟨(show rng 0 from by decide), g57_23, Wd, lv_sub hl [0, 1, 2, 3] rfl⟩
        obtain ⟨g_l1_58, g_l3_58, Wd, hl⟩ := hi
        have hS_σ58 := Wd.2.1
        unfold wp5_F_settle_58 at hw
        refine lv_iload_n C.1 C.2.1 dX1_settle_58 rfl (lv_at hl 3 rfl) ?_
        refine lv_if_lt (tgt := 136) C.1 C.2.1 dX1_settle_59 (by decide) (fun c59 => ?_) (fun c59 => ?_)
        · have hw := hw.1 (z0_lt g_l3_58 c59)
          refine lv_iinc (v := zI (l2_33 + 1)) (lv' := [(2, .int (zI (l2_33 + 1))), (0, .ref (ad 71)), (1, .int (zI l1_58)), (3, .int (zI l3_58))]) C.1 C.2.1 dX1_settle_136 hl (k := 2) rfl (zI_inc _ _ (by decide)) (by decide) rfl (fun ls hl => ?_)
          replace hl := lv_sub hl [1, 2, 0, 3] rfl
          refine lv_goto (tgt := 33) C.1 C.2.1 dX1_settle_139 (by decide) ?_
          obtain ⟨g139_24, hw⟩ := hw
          exact hL33 _ _ _ hw _ _ _ ⟨g_l1_58, g139_24, Wd, lv_sub hl [0, 1, 2] rfl⟩
        · have hw := hw.2 (z0_nlt g_l3_58 c59)
          refine lv_aload_n C.1 C.2.1 dX1_settle_62 rfl (lv_at hl 0 rfl) ?_
          refine k_get (v := .ref (ad 78)) C Wd.1 KX1 _ 8 (cx71 _) (by decide) fl_X1_39 rfl dX1_settle_63 ?_
          refine lv_iload_n C.1 C.2.1 dX1_settle_66 rfl (lv_at hl 3 rfl) ?_
          obtain ⟨n67_0, hw⟩ := hw
          refine k_ialdK (g := (σ58.2.1 78)) C Wd (cx78 _) (tC_at (by decide) rfl) n67_0 (by decide) dX1_settle_67 ?_
          have ga67 : rng (σ58.2.1 78 l3_58) := rngL (fun j => (Wd.2.1).2.1 78 j) n67_0
          refine lv_aload_n C.1 C.2.1 dX1_settle_68 rfl (lv_at hl 0 rfl) ?_
          refine lv_aload_n C.1 C.2.1 dX1_settle_69 rfl (lv_at hl 0 rfl) ?_
          refine k_get (v := .ref (ad 76)) C Wd.1 KX1 _ 6 (cx71 _) (by decide) fl_X1_33 rfl dX1_settle_70 ?_
          refine lv_iload_n C.1 C.2.1 dX1_settle_73 rfl (lv_at hl 3 rfl) ?_
          refine k_ialdK (g := (σ58.2.1 76)) C Wd (cx76 _) (tC_at (by decide) rfl) n67_0 (by decide) dX1_settle_74 ?_
          have ga74 : rng (σ58.2.1 76 l3_58) := rngL (fun j => (Wd.2.1).2.1 76 j) n67_0
          refine k_pi (k_runVK (rest := [.int (zI (σ58.2.1 78 l3_58))]) C aks Wd cs_X1_74 (mk_F_aheadOf_71 D ad ca rf σ58 Wd.2.1 Wd.2.2 (σ58.2.1 76 l3_58) ga74 _ hw l _) (cx71 _) rfl rfl rfl rfl ⟨(Nat.le_of_ble_eq_true rfl), (Nat.le_of_ble_eq_true rfl)⟩ hl.1 rfl rfl (Nat.le_of_ble_eq_true rfl) ⟨(Nat.le_of_ble_eq_true rfl), (Nat.le_of_ble_eq_true rfl)⟩ dX1_settle_75) (fun y75 hy => ?_)
          obtain ⟨r75, rfl, g_r75, hw⟩ := hy
          refine lv_aload_n C.1 C.2.1 dX1_settle_78 rfl (lv_at hl 0 rfl) ?_
          refine lv_aload_n C.1 C.2.1 dX1_settle_79 rfl (lv_at hl 0 rfl) ?_
          refine k_get (v := .ref (ad 77)) C Wd.1 KX1 _ 7 (cx71 _) (by decide) fl_X1_36 rfl dX1_settle_80 ?_
          refine lv_iload_n C.1 C.2.1 dX1_settle_83 rfl (lv_at hl 3 rfl) ?_
          refine k_ialdK (g := (σ58.2.1 77)) C Wd (cx77 _) (tC_at (by decide) rfl) n67_0 (by decide) dX1_settle_84 ?_
          have ga84 : rng (σ58.2.1 77 l3_58) := rngL (fun j => (Wd.2.1).2.1 77 j) n67_0
          refine k_pi (k_runVK (rest := [.int (zI r75), .int (zI (σ58.2.1 78 l3_58))]) C aks Wd cs_X1_74 (mk_F_aheadOf_71 D ad ca rf σ58 Wd.2.1 Wd.2.2 (σ58.2.1 77 l3_58) ga84 _ hw l _) (cx71 _) rfl rfl rfl rfl ⟨(Nat.le_of_ble_eq_true rfl), (Nat.le_of_ble_eq_true rfl)⟩ hl.1 rfl rfl (Nat.le_of_ble_eq_true rfl) ⟨(Nat.le_of_ble_eq_true rfl), (Nat.le_of_ble_eq_true rfl)⟩ dX1_settle_85) (fun y85 hy => ?_)
          obtain ⟨r85, rfl, g_r85, hw⟩ := hy
          refine k_ior (v := zI (zior r75 r85)) C (zior_eq _ _) dX1_settle_88 ?_
          refine lv_aload_n C.1 C.2.1 dX1_settle_89 rfl (lv_at hl 0 rfl) ?_
          refine k_get (v := .ref (ad 79)) C Wd.1 KX1 _ 9 (cx71 _) (by decide) fl_X1_42 rfl dX1_settle_90 ?_
          refine lv_iload_n C.1 C.2.1 dX1_settle_93 rfl (lv_at hl 3 rfl) ?_
          refine k_ialdK (g := (σ58.2.1 79)) C Wd (cx79 _) (tC_at (by decide) rfl) n67_0 (by decide) dX1_settle_94 ?_
          have ga94 : rng (σ58.2.1 79 l3_58) := rngL (fun j => (Wd.2.1).2.1 79 j) n67_0
          refine lv_iconst (v := zI (-1)) C.1 C.2.1 dX1_settle_95 (by decide) ?_
          refine k_ixor (v := zI (zixor (σ58.2.1 79 l3_58) (-1))) C (zixor_eq _ _) dX1_settle_96 ?_
          refine k_iand (v := zI (ziand (zior r75 r85) (zixor (σ58.2.1 79 l3_58) (-1)))) C (ziand_eq _ _) dX1_settle_97 ?_
          refine k_ior (v := zI (zior (σ58.2.1 78 l3_58) (ziand (zior r75 r85) (zixor (σ58.2.1 79 l3_58) (-1))))) C (zior_eq _ _) dX1_settle_98 ?_
          refine lv_istore (lv' := [(4, .int (zI (zior (σ58.2.1 78 l3_58) (ziand (zior r75 r85) (zixor (σ58.2.1 79 l3_58) (-1)))))), (0, .ref (ad 71)), (1, .int (zI l1_58)), (2, .int (zI l2_33)), (3, .int (zI l3_58))]) C.1 C.2.1 dX1_settle_99 hl (by decide) rfl (fun ls hl => ?_)
          replace hl := lv_sub hl [1, 2, 3, 4, 0] rfl
          refine lv_iload_n C.1 C.2.1 dX1_settle_101 rfl (lv_at hl 1 rfl) ?_
          refine k_cut0 (fun H locs ls => wp5_F_settle_116 71 l3_58 r75 r85 σ58 L58 ∧ wXK D ad ca rf s σ58 H A s.heap locs ∧ lv_has ls 5 [(0, .ref (ad 71)), (2, .int (zI l2_33)), (3, .int (zI l3_58)), (4, .int (zI (zior (σ58.2.1 78 l3_58) (ziand (zior r75 r85) (zixor (σ58.2.1 79 l3_58) (-1))))))]) (fun  ls => F0 m 116 ls []) (fun  H locs ls hi => ?_) (fun J116 => ?_)
          · obtain ⟨hw, Wd, hl⟩ := hi
            unfold wp5_F_settle_116 at hw
            refine lv_iconst (v := zI 1) C.1 C.2.1 dX1_settle_116 (by decide) ?_
            refine lv_goto (tgt := 121) C.1 C.2.1 dX1_settle_117 (by decide) ?_
            refine lv_istore_n (lv' := [(1, .int (zI 1)), (0, .ref (ad 71)), (2, .int (zI l2_33)), (3, .int (zI l3_58)), (4, .int (zI (zior (σ58.2.1 78 l3_58) (ziand (zior r75 r85) (zixor (σ58.2.1 79 l3_58) (-1))))))]) C.1 C.2.1 dX1_settle_121 rfl hl (by decide) rfl (fun ls hl => ?_)
            replace hl := lv_sub hl [1, 0, 2, 3, 4] rfl
            refine lv_aload_n C.1 C.2.1 dX1_settle_122 rfl (lv_at hl 0 rfl) ?_
            refine k_get (v := .ref (ad 80)) C Wd.1 KX1 _ 10 (cx71 _) (by decide) fl_X1_45 rfl dX1_settle_123 ?_
            refine lv_iload_n C.1 C.2.1 dX1_settle_126 rfl (lv_at hl 3 rfl) ?_
            refine lv_iload C.1 C.2.1 dX1_settle_127 (lv_at hl 4 rfl) ?_
            refine k_iastF (g := (σ58.2.1 80)) (i := l3_58) (v := (zior (σ58.2.1 78 l3_58) (ziand (zior r75 r85) (zixor (σ58.2.1 79 l3_58) (-1))))) C Wd 80 (by decide) (cx80 _) (fun f => cx80a _ f) (tC_at (by decide) rfl) n67_0 (by decide) (ruZ (fun j => Wd.2.1.2.1 80 j) (rng_toInt _)) dX1_settle_129 (fun H locs Wd => ?_)
            refine lv_iinc (v := zI (l3_58 - 1)) (lv' := [(3, .int (zI (l3_58 - 1))), (0, .ref (ad 71)), (1, .int (zI 1)), (2, .int (zI l2_33)), (4, .int (zI (zior (σ58.2.1 78 l3_58) (ziand (zior r75 r85) (zixor (σ58.2.1 79 l3_58) (-1))))))]) C.1 C.2.1 dX1_settle_130 hl (k := 3) rfl (zI_dec _ _ (by decide)) (by decide) rfl (fun ls hl => ?_)
            replace hl := lv_sub hl [1, 2, 3, 0, 4] rfl
            refine lv_goto (tgt := 58) C.1 C.2.1 dX1_settle_133 (by decide) ?_
            obtain ⟨g133_25, hw⟩ := hw
            exact hL58 _ _ _ hw _ _ _ ⟨(show rng 1 from by decide), g133_25, Wd, lv_sub hl [0, 1, 2, 3] rfl⟩
          refine lv_if_ne (tgt := 116) C.1 C.2.1 dX1_settle_102 (by decide) (fun c102 => ?_) (fun c102 => ?_)
          · have hw := hw.1 (z0_ne g_l1_58 c102)
            exact J116  _ _ _ ⟨hw, Wd, lv_sub hl [0, 2, 3, 4] rfl⟩
          · have hw := hw.2 (z0_eq g_l1_58 c102)
            refine lv_iload C.1 C.2.1 dX1_settle_105 (lv_at hl 4 rfl) ?_
            refine lv_aload_n C.1 C.2.1 dX1_settle_107 rfl (lv_at hl 0 rfl) ?_
            refine k_get (v := .ref (ad 80)) C Wd.1 KX1 _ 10 (cx71 _) (by decide) fl_X1_45 rfl dX1_settle_108 ?_
            refine lv_iload_n C.1 C.2.1 dX1_settle_111 rfl (lv_at hl 3 rfl) ?_
            refine k_ialdK (g := (σ58.2.1 80)) C Wd (cx80 _) (tC_at (by decide) rfl) n67_0 (by decide) dX1_settle_112 ?_
            have ga112 : rng (σ58.2.1 80 l3_58) := rngL (fun j => (Wd.2.1).2.1 80 j) n67_0
            refine lv_icmp_eq (tgt := 120) C.1 C.2.1 dX1_settle_113 (by decide) (fun c113 => ?_) (fun c113 => ?_)
            · have hw := hw.1 (z_eq (rng_toInt _) ga112 c113)
              refine lv_iconst (v := zI 0) C.1 C.2.1 dX1_settle_120 (by decide) ?_
              refine lv_istore_n (lv' := [(1, .int (zI 0)), (0, .ref (ad 71)), (2, .int (zI l2_33)), (3, .int (zI l3_58)), (4, .int (zI (zior (σ58.2.1 78 l3_58) (ziand (zior r75 r85) (zixor (σ58.2.1 79 l3_58) (-1))))))]) C.1 C.2.1 dX1_settle_121 rfl hl (by decide) rfl (fun ls hl => ?_)
              replace hl := lv_sub hl [1, 0, 2, 3, 4] rfl
              refine lv_aload_n C.1 C.2.1 dX1_settle_122 rfl (lv_at hl 0 rfl) ?_
              refine k_get (v := .ref (ad 80)) C Wd.1 KX1 _ 10 (cx71 _) (by decide) fl_X1_45 rfl dX1_settle_123 ?_
              refine lv_iload_n C.1 C.2.1 dX1_settle_126 rfl (lv_at hl 3 rfl) ?_
              refine lv_iload C.1 C.2.1 dX1_settle_127 (lv_at hl 4 rfl) ?_
              refine k_iastF (g := (σ58.2.1 80)) (i := l3_58) (v := (zior (σ58.2.1 78 l3_58) (ziand (zior r75 r85) (zixor (σ58.2.1 79 l3_58) (-1))))) C Wd 80 (by decide) (cx80 _) (fun f => cx80a _ f) (tC_at (by decide) rfl) n67_0 (by decide) (ruZ (fun j => Wd.2.1.2.1 80 j) (rng_toInt _)) dX1_settle_129 (fun H locs Wd => ?_)
              refine lv_iinc (v := zI (l3_58 - 1)) (lv' := [(3, .int (zI (l3_58 - 1))), (0, .ref (ad 71)), (1, .int (zI 0)), (2, .int (zI l2_33)), (4, .int (zI (zior (σ58.2.1 78 l3_58) (ziand (zior r75 r85) (zixor (σ58.2.1 79 l3_58) (-1))))))]) C.1 C.2.1 dX1_settle_130 hl (k := 3) rfl (zI_dec _ _ (by decide)) (by decide) rfl (fun ls hl => ?_)
              replace hl := lv_sub hl [1, 2, 3, 0, 4] rfl
              refine lv_goto (tgt := 58) C.1 C.2.1 dX1_settle_133 (by decide) ?_
              obtain ⟨g133_26, hw⟩ := hw
              exact hL58 _ _ _ hw _ _ _ ⟨(show rng 0 from by decide), g133_26, Wd, lv_sub hl [0, 1, 2, 3] rfl⟩
            · have hw := hw.2 (z_ne (rng_toInt _) ga112 c113)
              exact J116  _ _ _ ⟨hw, Wd, lv_sub hl [0, 2, 3, 4] rfl⟩
  refine lv_icmp_ge (tgt := 29) C.1 C.2.1 dX1_settle_7 (by decide) (fun c7 => ?_) (fun c7 => ?_)
  · have hw := hw.1 (z_le (hS_σ2.1 71 1) g_l1_2 c7)
    exact J29  _ _ _ ⟨hw, Wd, lv_sub hl [0] rfl⟩
  · have hw := hw.2 (z_nle (hS_σ2.1 71 1) g_l1_2 c7)
    refine lv_iload_n C.1 C.2.1 dX1_settle_10 rfl (lv_at hl 1 rfl) ?_
    refine lv_bipush (v := zI 40) C.1 C.2.1 dX1_settle_11 (by decide) ?_
    refine lv_icmp_ge (tgt := 29) C.1 C.2.1 dX1_settle_13 (by decide) (fun c13 => ?_) (fun c13 => ?_)
    · have hw := hw.1 (z_le (show rng 40 from by decide) g_l1_2 c13)
      exact J29  _ _ _ ⟨hw, Wd, lv_sub hl [0] rfl⟩
    · have hw := hw.2 (z_nle (show rng 40 from by decide) g_l1_2 c13)
      refine lv_aload_n C.1 C.2.1 dX1_settle_16 rfl (lv_at hl 0 rfl) ?_
      refine k_get (v := .ref (ad 80)) C Wd.1 KX1 _ 10 (cx71 _) (by decide) fl_X1_45 rfl dX1_settle_17 ?_
      refine lv_iload_n C.1 C.2.1 dX1_settle_20 rfl (lv_at hl 1 rfl) ?_
      refine lv_iconst (v := zI 0) C.1 C.2.1 dX1_settle_21 (by decide) ?_
      obtain ⟨n22_0, hw⟩ := hw
      refine k_iastF (g := (σ2.2.1 80)) (i := l1_2) (v := 0) C Wd 80 (by decide) (cx80 _) (fun f => cx80a _ f) (tC_at (by decide) rfl) n22_0 (by decide) (ruZ (fun j => Wd.2.1.2.1 80 j) (show rng 0 from by decide)) dX1_settle_22 (fun H locs Wd => ?_)
      refine lv_iinc (v := zI (l1_2 + 1)) (lv' := [(1, .int (zI (l1_2 + 1))), (0, .ref (ad 71))]) C.1 C.2.1 dX1_settle_23 hl (k := 1) rfl (zI_inc _ _ (by decide)) (by decide) rfl (fun ls hl => ?_)
      replace hl := lv_sub hl [1, 0] rfl
      refine lv_goto (tgt := 2) C.1 C.2.1 dX1_settle_26 (by decide) ?_
      obtain ⟨g26_27, hw⟩ := hw
      exact hL2 _ _ hw _ _ _ ⟨g26_27, Wd, lv_sub hl [0, 1] rfl⟩
set_option maxHeartbeats 4000000 in
set_option maxRecDepth 100000 in
theorem mk_F_trace_71 : ∀ (D : va_G) (ad : Nat → Nat) (ca : Nat → ClassId) (rf : Nat → Nat → Option Nat) (σ : Sg) (hS : rngK σ) (hRF : RFok ad rf) (x0 : Int) (g_x0 : 0 ≤ x0 ∧ x0 < 35) (K : Sg → Prop) (hw : wp5_F_trace σ 71 x0 K) (l : Launch) (sz : Nat), Met l yX1_trace (Cond.code yX1_trace cX1_trace 2 none :: gG) { frames := 4, cells := 0, slots := 0, locals := 131 } (cPre D (tC ca) (wK ad ca rf σ) sz [.ref (ad 71), .ref (ad (rowC x0.toNat))]) (va_Qv (fun (u : Sg) => K u ∧ rngK u) (fun u t => cB D (va_A (wK ad ca rf σ) sz) [] (wK ad ca rf u) t) (va_A (wK ad ca rf σ) sz)) 0 0 (va_A (wK ad ca rf σ) sz) := by
  intro D ad ca rf σ hS hRF x0 g_x0 K hw l sz
  refine Met.ofW (cc := cX1_trace) (maxL := 2) (ret := none) (by decide) rfl ?_
  intro p e s m args below meth c s₁ B hml hv
  obtain ⟨rfl, aks, rfl, Wd⟩ := k_enter hv
  have C : CallFix p m c cX1_trace 2 s _ gG RX1 := ⟨B.exec, B.bytes, hml, findClass_of_methodNamed B.named, fun w h => atoms_spec (ws := Cond.code yX1_trace cX1_trace 2 none :: gG) B.pre w (List.mem_cons_of_mem _ h)⟩
  have hr := B.returns
  have hlk := B.notSynchronized
  generalize va_A (wK ad ca rf σ) s.heap.size = A at Wd ⊢
  replace Wd : wXK D ad ca rf s σ s.heap A s.heap [] := ⟨Wd, hS, hRF⟩
  refine k_locals (Nat.le_of_ble_eq_true rfl) [(0, .ref (ad 71)), (1, .ref (ad (rowC x0.toNat)))] rfl (fun ls hl => ?_)
  unfold wp5_F_trace at hw
  refine lv_aload_n C.1 C.2.1 dX1_trace_0 rfl (lv_at hl 0 rfl) ?_
  refine lv_aload_n C.1 C.2.1 dX1_trace_1 rfl (lv_at hl 1 rfl) ?_
  refine k_putW71 (n := x0) C Wd g_x0 fl_X1_14 dX1_trace_2 (fun H locs Wd => ?_)
  refine lv_aload_n C.1 C.2.1 dX1_trace_5 rfl (lv_at hl 0 rfl) ?_
  refine k_cKv Wd (k_runVK (rest := []) C aks Wd cs_X1_61 (mk_F_number_71 D ad ca rf (pU σ 71 0 x0) Wd.2.1 Wd.2.2   _ hw l _) (cx71 _) rfl rfl rfl rfl ⟨(Nat.le_of_ble_eq_true rfl), (Nat.le_of_ble_eq_true rfl)⟩ hl.1 rfl rfl (Nat.le_of_ble_eq_true rfl) ⟨(Nat.le_of_ble_eq_true rfl), (Nat.le_of_ble_eq_true rfl)⟩ dX1_trace_6) (fun σr6 H locs hw Wd => ?_)
  have hS_σr6 := Wd.2.1
  refine lv_aload_n C.1 C.2.1 dX1_trace_9 rfl (lv_at hl 0 rfl) ?_
  refine k_cKv Wd (k_runVK (rest := []) C aks Wd cs_X1_64 (mk_F_link_71 D ad ca rf σr6 Wd.2.1 Wd.2.2   _ hw l _) (cx71 _) rfl rfl rfl rfl ⟨(Nat.le_of_ble_eq_true rfl), (Nat.le_of_ble_eq_true rfl)⟩ hl.1 rfl rfl (Nat.le_of_ble_eq_true rfl) ⟨(Nat.le_of_ble_eq_true rfl), (Nat.le_of_ble_eq_true rfl)⟩ dX1_trace_10) (fun σr10 H locs hw Wd => ?_)
  have hS_σr10 := Wd.2.1
  refine lv_aload_n C.1 C.2.1 dX1_trace_13 rfl (lv_at hl 0 rfl) ?_
  refine k_cKv Wd (k_runVK (rest := []) C aks Wd cs_X1_67 (mk_F_settle_71 D ad ca rf σr10 Wd.2.1 Wd.2.2   _ hw l _) (cx71 _) rfl rfl rfl rfl ⟨(Nat.le_of_ble_eq_true rfl), (Nat.le_of_ble_eq_true rfl)⟩ hl.1 rfl rfl (Nat.le_of_ble_eq_true rfl) ⟨(Nat.le_of_ble_eq_true rfl), (Nat.le_of_ble_eq_true rfl)⟩ dX1_trace_14) (fun σr14 H locs hw Wd => ?_)
  have hS_σr14 := Wd.2.1
  exact k_retKv C hr hlk Wd hw dX1_trace_17
set_option maxHeartbeats 4000000 in
set_option maxRecDepth 100000 in
theorem mk_F_setBy_71 : ∀ (D : va_G) (ad : Nat → Nat) (ca : Nat → ClassId) (rf : Nat → Nat → Option Nat) (σ : Sg) (hS : rngK σ) (hRF : RFok ad rf) (x0 : Int) (g_x0 : rng x0) (K : Int → Prop) (hw : wp5_F_setBy σ 71 x0 K) (l : Launch) (sz : Nat), Met l yX1_setBy (Cond.code yX1_setBy cX1_setBy 2 (some .int) :: gG) { frames := 2, cells := 0, slots := 0, locals := 85 } (cPre D (tC ca) (wK ad ca rf σ) sz [.ref (ad 71), .int (zI x0)]) (vp_Si (fun r => ∃ x : Int, r = zI x ∧ rng x ∧ K x)) 0 0 (fun _ => False) := by
  intro D ad ca rf σ hS hRF x0 g_x0 K hw l sz
  refine Met.ofW (cc := cX1_setBy) (maxL := 2) (ret := (some .int)) (by decide) rfl ?_
  intro p e s m args below meth c s₁ B hml hv
  obtain ⟨rfl, aks, rfl, Wd⟩ := k_enter hv
  have C : CallFix p m c cX1_setBy 2 s _ gG RX1 := ⟨B.exec, B.bytes, hml, findClass_of_methodNamed B.named, fun w h => atoms_spec (ws := Cond.code yX1_setBy cX1_setBy 2 (some .int) :: gG) B.pre w (List.mem_cons_of_mem _ h)⟩
  have hr := B.returns
  have hlk := B.notSynchronized
  obtain ⟨A, Wd⟩ : ∃ A, wXK D ad ca rf s σ s.heap A s.heap [] := ⟨_, Wd, hS, hRF⟩
  refine k_locals (Nat.le_of_ble_eq_true rfl) [(0, .ref (ad 71)), (1, .int (zI x0))] rfl (fun ls hl => ?_)
  unfold wp5_F_setBy at hw
  refine lv_aload_n C.1 C.2.1 dX1_setBy_0 rfl (lv_at hl 0 rfl) ?_
  refine lv_iload_n C.1 C.2.1 dX1_setBy_1 rfl (lv_at hl 1 rfl) ?_
  refine k_pi (k_runVK (rest := []) C aks Wd cs_X1_70 (mk_F_isHere_71 D ad ca rf σ Wd.2.1 Wd.2.2 x0 g_x0 _ hw l _) (cx71 _) rfl rfl rfl rfl ⟨(Nat.le_of_ble_eq_true rfl), (Nat.le_of_ble_eq_true rfl)⟩ hl.1 rfl rfl (Nat.le_of_ble_eq_true rfl) ⟨(Nat.le_of_ble_eq_true rfl), (Nat.le_of_ble_eq_true rfl)⟩ dX1_setBy_2) (fun y2 hy => ?_)
  obtain ⟨r2, rfl, g_r2, hw⟩ := hy
  refine lv_if_eq (tgt := 17) C.1 C.2.1 dX1_setBy_5 (by decide) (fun c5 => ?_) (fun c5 => ?_)
  · have hw := hw.1 (z0_eq g_r2 c5)
    refine lv_iconst (v := zI 0) C.1 C.2.1 dX1_setBy_17 (by decide) ?_
    exact k_zretP C hr hlk rfl ⟨_, rfl, (show rng 0 from by decide), hw⟩ dX1_setBy_18
  · have hw := hw.2 (z0_ne g_r2 c5)
    refine lv_aload_n C.1 C.2.1 dX1_setBy_8 rfl (lv_at hl 0 rfl) ?_
    refine k_get (v := .ref (ad 79)) C Wd.1 KX1 _ 9 (cx71 _) (by decide) fl_X1_42 rfl dX1_setBy_9 ?_
    refine lv_iload_n C.1 C.2.1 dX1_setBy_12 rfl (lv_at hl 1 rfl) ?_
    obtain ⟨n13_0, hw⟩ := hw
    refine k_ialdK (g := (σ.2.1 79)) C Wd (cx79 _) (tC_at (by decide) rfl) n13_0 (by decide) dX1_setBy_13 ?_
    have ga13 : rng (σ.2.1 79 x0) := rngL (fun j => (Wd.2.1).2.1 79 j) n13_0
    refine lv_goto (tgt := 18) C.1 C.2.1 dX1_setBy_14 (by decide) ?_
    exact k_zretP C hr hlk rfl ⟨_, rfl, ga13, hw⟩ dX1_setBy_18
set_option maxHeartbeats 4000000 in
set_option maxRecDepth 100000 in
theorem mk_F_behind_71 : ∀ (D : va_G) (ad : Nat → Nat) (ca : Nat → ClassId) (rf : Nat → Nat → Option Nat) (σ : Sg) (hS : rngK σ) (hRF : RFok ad rf) (x0 : Int) (g_x0 : rng x0) (K : Int → Prop) (hw : wp5_F_behind σ 71 x0 K) (l : Launch) (sz : Nat), Met l yX1_behind (Cond.code yX1_behind cX1_behind 2 (some .int) :: gG) { frames := 3, cells := 0, slots := 0, locals := 106 } (cPre D (tC ca) (wK ad ca rf σ) sz [.ref (ad 71), .int (zI x0)]) (vp_Si (fun r => ∃ x : Int, r = zI x ∧ rng x ∧ K x)) 0 0 (fun _ => False) := by
  intro D ad ca rf σ hS hRF x0 g_x0 K hw l sz
  refine Met.ofW (cc := cX1_behind) (maxL := 2) (ret := (some .int)) (by decide) rfl ?_
  intro p e s m args below meth c s₁ B hml hv
  obtain ⟨rfl, aks, rfl, Wd⟩ := k_enter hv
  have C : CallFix p m c cX1_behind 2 s _ gG RX1 := ⟨B.exec, B.bytes, hml, findClass_of_methodNamed B.named, fun w h => atoms_spec (ws := Cond.code yX1_behind cX1_behind 2 (some .int) :: gG) B.pre w (List.mem_cons_of_mem _ h)⟩
  have hr := B.returns
  have hlk := B.notSynchronized
  obtain ⟨A, Wd⟩ : ∃ A, wXK D ad ca rf s σ s.heap A s.heap [] := ⟨_, Wd, hS, hRF⟩
  refine k_locals (Nat.le_of_ble_eq_true rfl) [(0, .ref (ad 71)), (1, .int (zI x0))] rfl (fun ls hl => ?_)
  unfold wp5_F_behind at hw
  refine lv_aload_n C.1 C.2.1 dX1_behind_0 rfl (lv_at hl 0 rfl) ?_
  refine lv_iload_n C.1 C.2.1 dX1_behind_1 rfl (lv_at hl 1 rfl) ?_
  refine k_pi (k_runVK (rest := []) C aks Wd cs_X1_70 (mk_F_isHere_71 D ad ca rf σ Wd.2.1 Wd.2.2 x0 g_x0 _ hw l _) (cx71 _) rfl rfl rfl rfl ⟨(Nat.le_of_ble_eq_true rfl), (Nat.le_of_ble_eq_true rfl)⟩ hl.1 rfl rfl (Nat.le_of_ble_eq_true rfl) ⟨(Nat.le_of_ble_eq_true rfl), (Nat.le_of_ble_eq_true rfl)⟩ dX1_behind_2) (fun y2 hy => ?_)
  obtain ⟨r2, rfl, g_r2, hw⟩ := hy
  refine lv_if_eq (tgt := 32) C.1 C.2.1 dX1_behind_5 (by decide) (fun c5 => ?_) (fun c5 => ?_)
  · have hw := hw.1 (z0_eq g_r2 c5)
    refine lv_iconst (v := zI 0) C.1 C.2.1 dX1_behind_32 (by decide) ?_
    exact k_zretP C hr hlk rfl ⟨_, rfl, (show rng 0 from by decide), hw⟩ dX1_behind_33
  · have hw := hw.2 (z0_ne g_r2 c5)
    refine lv_aload_n C.1 C.2.1 dX1_behind_8 rfl (lv_at hl 0 rfl) ?_
    refine lv_aload_n C.1 C.2.1 dX1_behind_9 rfl (lv_at hl 0 rfl) ?_
    refine k_get (v := .ref (ad 76)) C Wd.1 KX1 _ 6 (cx71 _) (by decide) fl_X1_33 rfl dX1_behind_10 ?_
    refine lv_iload_n C.1 C.2.1 dX1_behind_13 rfl (lv_at hl 1 rfl) ?_
    obtain ⟨n14_0, hw⟩ := hw
    refine k_ialdK (g := (σ.2.1 76)) C Wd (cx76 _) (tC_at (by decide) rfl) n14_0 (by decide) dX1_behind_14 ?_
    have ga14 : rng (σ.2.1 76 x0) := rngL (fun j => (Wd.2.1).2.1 76 j) n14_0
    refine k_pi (k_runVK (rest := []) C aks Wd cs_X1_74 (mk_F_aheadOf_71 D ad ca rf σ Wd.2.1 Wd.2.2 (σ.2.1 76 x0) ga14 _ hw l _) (cx71 _) rfl rfl rfl rfl ⟨(Nat.le_of_ble_eq_true rfl), (Nat.le_of_ble_eq_true rfl)⟩ hl.1 rfl rfl (Nat.le_of_ble_eq_true rfl) ⟨(Nat.le_of_ble_eq_true rfl), (Nat.le_of_ble_eq_true rfl)⟩ dX1_behind_15) (fun y15 hy => ?_)
    obtain ⟨r15, rfl, g_r15, hw⟩ := hy
    refine lv_aload_n C.1 C.2.1 dX1_behind_18 rfl (lv_at hl 0 rfl) ?_
    refine lv_aload_n C.1 C.2.1 dX1_behind_19 rfl (lv_at hl 0 rfl) ?_
    refine k_get (v := .ref (ad 77)) C Wd.1 KX1 _ 7 (cx71 _) (by decide) fl_X1_36 rfl dX1_behind_20 ?_
    refine lv_iload_n C.1 C.2.1 dX1_behind_23 rfl (lv_at hl 1 rfl) ?_
    refine k_ialdK (g := (σ.2.1 77)) C Wd (cx77 _) (tC_at (by decide) rfl) n14_0 (by decide) dX1_behind_24 ?_
    have ga24 : rng (σ.2.1 77 x0) := rngL (fun j => (Wd.2.1).2.1 77 j) n14_0
    refine k_pi (k_runVK (rest := [.int (zI r15)]) C aks Wd cs_X1_74 (mk_F_aheadOf_71 D ad ca rf σ Wd.2.1 Wd.2.2 (σ.2.1 77 x0) ga24 _ hw l _) (cx71 _) rfl rfl rfl rfl ⟨(Nat.le_of_ble_eq_true rfl), (Nat.le_of_ble_eq_true rfl)⟩ hl.1 rfl rfl (Nat.le_of_ble_eq_true rfl) ⟨(Nat.le_of_ble_eq_true rfl), (Nat.le_of_ble_eq_true rfl)⟩ dX1_behind_25) (fun y25 hy => ?_)
    obtain ⟨r25, rfl, g_r25, hw⟩ := hy
    refine k_ior (v := zI (zior r15 r25)) C (zior_eq _ _) dX1_behind_28 ?_
    refine lv_goto (tgt := 33) C.1 C.2.1 dX1_behind_29 (by decide) ?_
    exact k_zretP C hr hlk rfl ⟨_, rfl, (rng_toInt _), hw⟩ dX1_behind_33
set_option maxHeartbeats 4000000 in
set_option maxRecDepth 100000 in
theorem mk_A_dead : ∀ (D : va_G) (ad : Nat → Nat) (ca : Nat → ClassId) (rf : Nat → Nat → Option Nat) (σ : Sg) (hS : rngK σ) (hRF : RFok ad rf) (x0 : Int) (g_x0 : 0 ≤ x0 ∧ x0 < 35) (K : Sg → Prop) (hw : wp5_A_dead σ x0 K) (l : Launch) (sz : Nat), Met l yX0_dead (Cond.code yX0_dead cX0_dead 6 none :: gG) { frames := 5, cells := 0, slots := 0, locals := 152 } (cPre D (tC ca) (wK ad ca rf σ) sz [.ref (ad 70), .ref (ad (rowC x0.toNat))]) (va_Qv (fun (u : Sg) => K u ∧ rngK u) (fun u t => cB D (va_A (wK ad ca rf σ) sz) [] (wK ad ca rf u) t) (va_A (wK ad ca rf σ) sz)) 0 0 (va_A (wK ad ca rf σ) sz) := by
  intro D ad ca rf σ hS hRF x0 g_x0 K hw l sz
  refine Met.ofW (cc := cX0_dead) (maxL := 6) (ret := none) (by decide) rfl ?_
  intro p e s m args below meth c s₁ B hml hv
  obtain ⟨rfl, aks, rfl, Wd⟩ := k_enter hv
  have C : CallFix p m c cX0_dead 6 s _ gG RX0 := ⟨B.exec, B.bytes, hml, findClass_of_methodNamed B.named, fun w h => atoms_spec (ws := Cond.code yX0_dead cX0_dead 6 none :: gG) B.pre w (List.mem_cons_of_mem _ h)⟩
  have hr := B.returns
  have hlk := B.notSynchronized
  generalize va_A (wK ad ca rf σ) s.heap.size = A at Wd ⊢
  replace Wd : wXK D ad ca rf s σ s.heap A s.heap [] := ⟨Wd, hS, hRF⟩
  refine k_locals (Nat.le_of_ble_eq_true rfl) [(0, .ref (ad 70)), (1, .ref (ad (rowC x0.toNat)))] rfl (fun ls hl => ?_)
  unfold wp5_A_dead at hw
  refine lv_iconst (v := zI 1) C.1 C.2.1 dX0_dead_0 (by decide) ?_
  refine lv_istore_n (lv' := [(2, .int (zI 1)), (0, .ref (ad 70)), (1, .ref (ad (rowC x0.toNat)))]) C.1 C.2.1 dX0_dead_1 rfl hl (by decide) rfl (fun ls hl => ?_)
  replace hl := lv_sub hl [1, 2, 0] rfl
  refine lv_iconst (v := zI 0) C.1 C.2.1 dX0_dead_2 (by decide) ?_
  refine lv_istore_n (lv' := [(3, .int (zI 0)), (0, .ref (ad 70)), (1, .ref (ad (rowC x0.toNat))), (2, .int (zI 1))]) C.1 C.2.1 dX0_dead_3 rfl hl (by decide) rfl (fun ls hl => ?_)
  replace hl := lv_sub hl [1, 2, 3, 0] rfl
  refine k_lp3 hw (fun (l2_4 : Int) (l3_4 : Int) (σ4 : Sg) H locs ls => rng l2_4 ∧ rng l3_4 ∧ wXK D ad ca rf s σ4 H A s.heap locs ∧ lv_has ls 6 [(0, .ref (ad 70)), (1, .ref (ad (rowC x0.toNat))), (2, .int (zI l2_4)), (3, .int (zI l3_4))]) (fun (l2_4 : Int) (l3_4 : Int) (σ4 : Sg) ls => F0 m 4 ls []) (fun L4 hL4 l2_4 l3_4 σ4 hw H locs ls hi => ?_) _ _ _ ⟨(show rng 1 from by decide), (show rng 0 from by decide), Wd, lv_sub hl [0, 1, 2, 3] rfl⟩
  obtain ⟨g_l2_4, g_l3_4, Wd, hl⟩ := hi
  have hS_σ4 := Wd.2.1
  unfold wp5_A_dead_4 at hw
  refine lv_iload_n C.1 C.2.1 dX0_dead_4 rfl (lv_at hl 3 rfl) ?_
  refine lv_bipush (v := zI 40) C.1 C.2.1 dX0_dead_5 (by decide) ?_
  refine lv_icmp_gt (tgt := 121) C.1 C.2.1 dX0_dead_7 (by decide) (fun c7 => ?_) (fun c7 => ?_)
  · have hw := hw.1 (z_lt (show rng 40 from by decide) g_l3_4 c7)
    exact k_retKv C hr hlk Wd hw dX0_dead_121
  · have hw := hw.2 (z_nlt (show rng 40 from by decide) g_l3_4 c7)
    refine lv_iload_n C.1 C.2.1 dX0_dead_10 rfl (lv_at hl 2 rfl) ?_
    refine lv_if_eq (tgt := 121) C.1 C.2.1 dX0_dead_11 (by decide) (fun c11 => ?_) (fun c11 => ?_)
    · have hw := hw.1 (z0_eq g_l2_4 c11)
      exact k_retKv C hr hlk Wd hw dX0_dead_121
    · have hw := hw.2 (z0_ne g_l2_4 c11)
      refine lv_iconst (v := zI 0) C.1 C.2.1 dX0_dead_14 (by decide) ?_
      refine lv_istore_n (lv' := [(2, .int (zI 0)), (0, .ref (ad 70)), (1, .ref (ad (rowC x0.toNat))), (3, .int (zI l3_4))]) C.1 C.2.1 dX0_dead_15 rfl hl (by decide) rfl (fun ls hl => ?_)
      replace hl := lv_sub hl [1, 2, 0, 3] rfl
      refine lv_aload_n C.1 C.2.1 dX0_dead_16 rfl (lv_at hl 0 rfl) ?_
      refine k_get (v := .ref (ad 71)) C Wd.1 KX0 _ 1 (cx70 _) (by decide) fl_X0_23 rfl dX0_dead_17 ?_
      refine lv_aload_n C.1 C.2.1 dX0_dead_20 rfl (lv_at hl 1 rfl) ?_
      refine k_cKv Wd (k_runVK (rest := []) C aks Wd cs_X0_74 (mk_F_trace_71 D ad ca rf σ4 Wd.2.1 Wd.2.2 x0 g_x0 _ hw l _) (cx71 _) rfl rfl rfl rfl ⟨(Nat.le_of_ble_eq_true rfl), (Nat.le_of_ble_eq_true rfl)⟩ hl.1 rfl rfl (Nat.le_of_ble_eq_true rfl) ⟨(Nat.le_of_ble_eq_true rfl), (Nat.le_of_ble_eq_true rfl)⟩ dX0_dead_21) (fun σr21 H locs hw Wd => ?_)
      have hS_σr21 := Wd.2.1
      refine lv_aload_n C.1 C.2.1 dX0_dead_24 rfl (lv_at hl 0 rfl) ?_
      refine k_get (v := .ref (ad 71)) C Wd.1 KX0 _ 1 (cx70 _) (by decide) fl_X0_23 rfl dX0_dead_25 ?_
      refine k_get (v := .int (zI (σr21.1 71 1))) C Wd.1 KX1 _ 1 (cx71 _) (by decide) fl_X0_77 rfl dX0_dead_28 ?_
      refine lv_iconst (v := zI 1) C.1 C.2.1 dX0_dead_31 (by decide) ?_
      refine k_isub (v := zI ((σr21.1 71 1) - 1)) C (zI_isub _ _) dX0_dead_32 ?_
      refine lv_istore (lv' := [(4, .int (zI ((σr21.1 71 1) - 1))), (0, .ref (ad 70)), (1, .ref (ad (rowC x0.toNat))), (2, .int (zI 0)), (3, .int (zI l3_4))]) C.1 C.2.1 dX0_dead_33 hl (by decide) rfl (fun ls hl => ?_)
      replace hl := lv_sub hl [1, 2, 3, 4, 0] rfl
      obtain ⟨g33_11, hw⟩ := hw
      refine k_lp3 hw (fun (l2_35 : Int) (l4_35 : Int) (σ35 : Sg) H locs ls => rng l2_35 ∧ rng l4_35 ∧ wXK D ad ca rf s σ35 H A s.heap locs ∧ lv_has ls 6 [(0, .ref (ad 70)), (1, .ref (ad (rowC x0.toNat))), (2, .int (zI l2_35)), (3, .int (zI l3_4)), (4, .int (zI l4_35))]) (fun (l2_35 : Int) (l4_35 : Int) (σ35 : Sg) ls => F0 m 35 ls []) (fun L35 hL35 l2_35 l4_35 σ35 hw H locs ls hi => ?_) _ _ _ ⟨(show rng 0 from by decide), g33_11, Wd, lv_sub hl [0, 1, 2, 3, 4] rfl⟩
      obtain ⟨g_l2_35, g_l4_35, Wd, hl⟩ := hi
      have hS_σ35 := Wd.2.1
      unfold wp5_A_dead_35 at hw
      refine lv_iload C.1 C.2.1 dX0_dead_35 (lv_at hl 4 rfl) ?_
      refine lv_if_lt (tgt := 115) C.1 C.2.1 dX0_dead_37 (by decide) (fun c37 => ?_) (fun c37 => ?_)
      · have hw := hw.1 (z0_lt g_l4_35 c37)
        refine lv_iinc (v := zI (l3_4 + 1)) (lv' := [(3, .int (zI (l3_4 + 1))), (0, .ref (ad 70)), (1, .ref (ad (rowC x0.toNat))), (2, .int (zI l2_35)), (4, .int (zI l4_35))]) C.1 C.2.1 dX0_dead_115 hl (k := 3) rfl (zI_inc _ _ (by decide)) (by decide) rfl (fun ls hl => ?_)
        replace hl := lv_sub hl [1, 2, 3, 0, 4] rfl
        refine lv_goto (tgt := 4) C.1 C.2.1 dX0_dead_118 (by decide) ?_
        obtain ⟨g118_12, hw⟩ := hw
        exact hL4 _ _ _ hw _ _ _ ⟨g_l2_35, g118_12, Wd, lv_sub hl [0, 1, 2, 3] rfl⟩
      · have hw := hw.2 (z0_nlt g_l4_35 c37)
        refine lv_aload_n C.1 C.2.1 dX0_dead_40 rfl (lv_at hl 0 rfl) ?_
        refine k_get (v := .ref (ad 71)) C Wd.1 KX0 _ 1 (cx70 _) (by decide) fl_X0_23 rfl dX0_dead_41 ?_
        refine lv_iload C.1 C.2.1 dX0_dead_44 (lv_at hl 4 rfl) ?_
        refine k_pi (k_runVK (rest := []) C aks Wd cs_X0_80 (mk_F_setBy_71 D ad ca rf σ35 Wd.2.1 Wd.2.2 l4_35 g_l4_35 _ hw l _) (cx71 _) rfl rfl rfl rfl ⟨(Nat.le_of_ble_eq_true rfl), (Nat.le_of_ble_eq_true rfl)⟩ hl.1 rfl rfl (Nat.le_of_ble_eq_true rfl) ⟨(Nat.le_of_ble_eq_true rfl), (Nat.le_of_ble_eq_true rfl)⟩ dX0_dead_46) (fun y46 hy => ?_)
        obtain ⟨r46, rfl, g_r46, hw⟩ := hy
        refine lv_istore (lv' := [(5, .int (zI r46)), (0, .ref (ad 70)), (1, .ref (ad (rowC x0.toNat))), (2, .int (zI l2_35)), (3, .int (zI l3_4)), (4, .int (zI l4_35))]) C.1 C.2.1 dX0_dead_49 hl (by decide) rfl (fun ls hl => ?_)
        replace hl := lv_sub hl [1, 2, 3, 4, 5, 0] rfl
        refine lv_iload C.1 C.2.1 dX0_dead_51 (lv_at hl 5 rfl) ?_
        refine lv_if_eq (tgt := 109) C.1 C.2.1 dX0_dead_53 (by decide) (fun c53 => ?_) (fun c53 => ?_)
        · have hw := hw.1 (z0_eq g_r46 c53)
          refine lv_iinc (v := zI (l4_35 - 1)) (lv' := [(4, .int (zI (l4_35 - 1))), (0, .ref (ad 70)), (1, .ref (ad (rowC x0.toNat))), (2, .int (zI l2_35)), (3, .int (zI l3_4)), (5, .int (zI r46))]) C.1 C.2.1 dX0_dead_109 hl (k := 4) rfl (zI_dec _ _ (by decide)) (by decide) rfl (fun ls hl => ?_)
          replace hl := lv_sub hl [1, 2, 3, 4, 0, 5] rfl
          refine lv_goto (tgt := 35) C.1 C.2.1 dX0_dead_112 (by decide) ?_
          obtain ⟨g112_13, hw⟩ := hw
          exact hL35 _ _ _ hw _ _ _ ⟨g_l2_35, g112_13, Wd, lv_sub hl [0, 1, 2, 3, 4] rfl⟩
        · have hw := hw.2 (z0_ne g_r46 c53)
          refine lv_iload C.1 C.2.1 dX0_dead_56 (lv_at hl 5 rfl) ?_
          refine lv_aload_n C.1 C.2.1 dX0_dead_58 rfl (lv_at hl 0 rfl) ?_
          refine k_get (v := .ref (ad 71)) C Wd.1 KX0 _ 1 (cx70 _) (by decide) fl_X0_23 rfl dX0_dead_59 ?_
          refine lv_iload C.1 C.2.1 dX0_dead_62 (lv_at hl 4 rfl) ?_
          refine k_pi (k_runVK (rest := [.int (zI r46)]) C aks Wd cs_X0_83 (mk_F_behind_71 D ad ca rf σ35 Wd.2.1 Wd.2.2 l4_35 g_l4_35 _ hw l _) (cx71 _) rfl rfl rfl rfl ⟨(Nat.le_of_ble_eq_true rfl), (Nat.le_of_ble_eq_true rfl)⟩ hl.1 rfl rfl (Nat.le_of_ble_eq_true rfl) ⟨(Nat.le_of_ble_eq_true rfl), (Nat.le_of_ble_eq_true rfl)⟩ dX0_dead_64) (fun y64 hy => ?_)
          obtain ⟨r64, rfl, g_r64, hw⟩ := hy
          refine k_iand (v := zI (ziand r46 r64)) C (ziand_eq _ _) dX0_dead_67 ?_
          refine lv_if_ne (tgt := 109) C.1 C.2.1 dX0_dead_68 (by decide) (fun c68 => ?_) (fun c68 => ?_)
          · have hw := hw.1 (z0_ne (rng_toInt _) c68)
            refine lv_iinc (v := zI (l4_35 - 1)) (lv' := [(4, .int (zI (l4_35 - 1))), (0, .ref (ad 70)), (1, .ref (ad (rowC x0.toNat))), (2, .int (zI l2_35)), (3, .int (zI l3_4)), (5, .int (zI r46))]) C.1 C.2.1 dX0_dead_109 hl (k := 4) rfl (zI_dec _ _ (by decide)) (by decide) rfl (fun ls hl => ?_)
            replace hl := lv_sub hl [1, 2, 3, 4, 0, 5] rfl
            refine lv_goto (tgt := 35) C.1 C.2.1 dX0_dead_112 (by decide) ?_
            obtain ⟨g112_14, hw⟩ := hw
            exact hL35 _ _ _ hw _ _ _ ⟨g_l2_35, g112_14, Wd, lv_sub hl [0, 1, 2, 3, 4] rfl⟩
          · have hw := hw.2 (z0_eq (rng_toInt _) c68)
            refine lv_aload_n C.1 C.2.1 dX0_dead_71 rfl (lv_at hl 0 rfl) ?_
            refine k_get (v := .ref (ad 71)) C Wd.1 KX0 _ 1 (cx70 _) (by decide) fl_X0_23 rfl dX0_dead_72 ?_
            refine lv_iload C.1 C.2.1 dX0_dead_75 (lv_at hl 4 rfl) ?_
            refine k_pi (k_runVK (rest := []) C aks Wd cs_X0_86 (mk_F_isHere_71 D ad ca rf σ35 Wd.2.1 Wd.2.2 l4_35 g_l4_35 _ hw l _) (cx71 _) rfl rfl rfl rfl ⟨(Nat.le_of_ble_eq_true rfl), (Nat.le_of_ble_eq_true rfl)⟩ hl.1 rfl rfl (Nat.le_of_ble_eq_true rfl) ⟨(Nat.le_of_ble_eq_true rfl), (Nat.le_of_ble_eq_true rfl)⟩ dX0_dead_77) (fun y77 hy => ?_)
            obtain ⟨r77, rfl, g_r77, hw⟩ := hy
            refine lv_if_eq (tgt := 109) C.1 C.2.1 dX0_dead_80 (by decide) (fun c80 => ?_) (fun c80 => ?_)
            · have hw := hw.1 (z0_eq g_r77 c80)
              refine lv_iinc (v := zI (l4_35 - 1)) (lv' := [(4, .int (zI (l4_35 - 1))), (0, .ref (ad 70)), (1, .ref (ad (rowC x0.toNat))), (2, .int (zI l2_35)), (3, .int (zI l3_4)), (5, .int (zI r46))]) C.1 C.2.1 dX0_dead_109 hl (k := 4) rfl (zI_dec _ _ (by decide)) (by decide) rfl (fun ls hl => ?_)
              replace hl := lv_sub hl [1, 2, 3, 4, 0, 5] rfl
              refine lv_goto (tgt := 35) C.1 C.2.1 dX0_dead_112 (by decide) ?_
              obtain ⟨g112_15, hw⟩ := hw
              exact hL35 _ _ _ hw _ _ _ ⟨g_l2_35, g112_15, Wd, lv_sub hl [0, 1, 2, 3, 4] rfl⟩
            · have hw := hw.2 (z0_ne g_r77 c80)
              refine lv_aload_n C.1 C.2.1 dX0_dead_83 rfl (lv_at hl 1 rfl) ?_
              refine lv_aload_n C.1 C.2.1 dX0_dead_84 rfl (lv_at hl 0 rfl) ?_
              refine k_get (v := .ref (ad 71)) C Wd.1 KX0 _ 1 (cx70 _) (by decide) fl_X0_23 rfl dX0_dead_85 ?_
              refine k_get (v := .ref (ad 72)) C Wd.1 KX1 _ 2 (cx71 _) (by decide) fl_X0_89 rfl dX0_dead_88 ?_
              refine lv_iload C.1 C.2.1 dX0_dead_91 (lv_at hl 4 rfl) ?_
              obtain ⟨n93_0, hw⟩ := hw
              refine k_ialdK (g := (σ35.2.1 72)) C Wd (cx72 _) (tC_at (by decide) rfl) n93_0 (by decide) dX0_dead_93 ?_
              have ga93 : rng (σ35.2.1 72 l4_35) := rngL (fun j => (Wd.2.1).2.1 72 j) n93_0
              refine lv_aload_n C.1 C.2.1 dX0_dead_94 rfl (lv_at hl 0 rfl) ?_
              refine k_get (v := .ref (ad 71)) C Wd.1 KX0 _ 1 (cx70 _) (by decide) fl_X0_23 rfl dX0_dead_95 ?_
              refine k_get (v := .ref (ad 75)) C Wd.1 KX1 _ 5 (cx71 _) (by decide) fl_X0_93 rfl dX0_dead_98 ?_
              refine lv_iload C.1 C.2.1 dX0_dead_101 (lv_at hl 4 rfl) ?_
              refine k_ialdK (g := (σ35.2.1 75)) C Wd (cx75 _) (tC_at (by decide) rfl) n93_0 (by decide) dX0_dead_103 ?_
              have ga103 : rng (σ35.2.1 75 l4_35) := rngL (fun j => (Wd.2.1).2.1 75 j) n93_0
              refine k_cKv Wd (k_runVK (rest := []) C aks Wd cs_X0_65 (mk_W_remove D ad ca rf σ35 Wd.2.1 Wd.2.2 x0 (σ35.2.1 72 l4_35) (σ35.2.1 75 l4_35) g_x0 ga93 ga103 _ hw l _) (cxRow g_x0) rfl rfl rfl rfl ⟨(Nat.le_of_ble_eq_true rfl), (Nat.le_of_ble_eq_true rfl)⟩ hl.1 rfl rfl (Nat.le_of_ble_eq_true rfl) ⟨(Nat.le_of_ble_eq_true rfl), (Nat.le_of_ble_eq_true rfl)⟩ dX0_dead_104) (fun σr104 H locs hw Wd => ?_)
              have hS_σr104 := Wd.2.1
              refine lv_iconst (v := zI 1) C.1 C.2.1 dX0_dead_107 (by decide) ?_
              refine lv_istore_n (lv' := [(2, .int (zI 1)), (0, .ref (ad 70)), (1, .ref (ad (rowC x0.toNat))), (3, .int (zI l3_4)), (4, .int (zI l4_35)), (5, .int (zI r46))]) C.1 C.2.1 dX0_dead_108 rfl hl (by decide) rfl (fun ls hl => ?_)
              replace hl := lv_sub hl [1, 2, 0, 3, 4, 5] rfl
              refine lv_iinc (v := zI (l4_35 - 1)) (lv' := [(4, .int (zI (l4_35 - 1))), (0, .ref (ad 70)), (1, .ref (ad (rowC x0.toNat))), (2, .int (zI 1)), (3, .int (zI l3_4)), (5, .int (zI r46))]) C.1 C.2.1 dX0_dead_109 hl (k := 4) rfl (zI_dec _ _ (by decide)) (by decide) rfl (fun ls hl => ?_)
              replace hl := lv_sub hl [1, 2, 3, 4, 0, 5] rfl
              refine lv_goto (tgt := 35) C.1 C.2.1 dX0_dead_112 (by decide) ?_
              obtain ⟨g112_16, hw⟩ := hw
              exact hL35 _ _ _ hw _ _ _ ⟨(show rng 1 from by decide), g112_16, Wd, lv_sub hl [0, 1, 2, 3, 4] rfl⟩
set_option maxHeartbeats 4000000 in
set_option maxRecDepth 100000 in
theorem mk_W_has : ∀ (D : va_G) (ad : Nat → Nat) (ca : Nat → ClassId) (rf : Nat → Nat → Option Nat) (σ : Sg) (hS : rngK σ) (hRF : RFok ad rf) (n0 : Int) (x0 : Int) (x1 : Int) (x2 : Int) (h_n0 : 0 ≤ n0 ∧ n0 < 35) (g_x0 : rng x0) (g_x1 : rng x1) (g_x2 : rng x2) (K : Int → Prop) (hw : wp5_W_has σ n0 x0 x1 x2 K) (l : Launch) (sz : Nat), Met l yX8_has (Cond.code yX8_has cX8_has 5 (some .boolean) :: gG) { frames := 1, cells := 0, slots := 0, locals := 96 } (cPre D (tC ca) (wK ad ca rf σ) sz [.ref (ad (rowC n0.toNat)), .int (zI x0), .int (zI x1), .int (zI x2)]) (vp_Si (fun r => ∃ x : Int, r = zI x ∧ rng x ∧ K x)) 0 0 (fun _ => False) := by
  intro D ad ca rf σ hS hRF n0 x0 x1 x2 h_n0 g_x0 g_x1 g_x2 K hw l sz
  refine Met.ofW (cc := cX8_has) (maxL := 5) (ret := (some .boolean)) (by decide) rfl ?_
  intro p e s m args below meth c s₁ B hml hv
  obtain ⟨rfl, aks, rfl, Wd⟩ := k_enter hv
  have C : CallFix p m c cX8_has 5 s _ gG RX8 := ⟨B.exec, B.bytes, hml, findClass_of_methodNamed B.named, fun w h => atoms_spec (ws := Cond.code yX8_has cX8_has 5 (some .boolean) :: gG) B.pre w (List.mem_cons_of_mem _ h)⟩
  have hr := B.returns
  have hlk := B.notSynchronized
  obtain ⟨A, Wd⟩ : ∃ A, wXK D ad ca rf s σ s.heap A s.heap [] := ⟨_, Wd, hS, hRF⟩
  refine k_locals (Nat.le_of_ble_eq_true rfl) [(0, .ref (ad (rowC n0.toNat))), (1, .int (zI x0)), (2, .int (zI x1)), (3, .int (zI x2))] rfl (fun ls hl => ?_)
  unfold wp5_W_has at hw
  refine lv_iload_n C.1 C.2.1 dX8_has_0 rfl (lv_at hl 2 rfl) ?_
  refine lv_iconst (v := zI 0) C.1 C.2.1 dX8_has_1 (by decide) ?_
  refine k_mmax (v := zI (max x1 0)) C hl.1 ml_X8_9 st_Lib_Math_max_name in_J9 cd_max (Nat.le_of_ble_eq_true rfl) (Nat.le_of_ble_eq_true rfl) (Nat.le_of_ble_eq_true rfl) (Nat.le_of_ble_eq_true rfl) (zmax_eq _ _ g_x1 (show rng 0 from by decide)) dX8_has_2 ?_
  refine lv_istore (lv' := [(4, .int (zI (max x1 0))), (0, .ref (ad (rowC n0.toNat))), (1, .int (zI x0)), (2, .int (zI x1)), (3, .int (zI x2))]) C.1 C.2.1 dX8_has_5 hl (by decide) rfl (fun ls hl => ?_)
  replace hl := lv_sub hl [1, 2, 3, 4, 0] rfl
  refine k_lp1 hw (fun (l4_7 : Int) H locs ls => rng l4_7 ∧ wXK D ad ca rf s σ H A s.heap locs ∧ H = s.heap ∧ locs = [] ∧ lv_has ls 5 [(0, .ref (ad (rowC n0.toNat))), (1, .int (zI x0)), (3, .int (zI x2)), (4, .int (zI l4_7))]) (fun (l4_7 : Int) ls => F0 m 7 ls []) (fun L7 hL7 l4_7 hw H locs ls hi => ?_) _ _ _ ⟨(rng_max g_x1 (show rng 0 from by decide)), Wd, rfl, rfl, lv_sub hl [0, 1, 3, 4] rfl⟩
  obtain ⟨g_l4_7, Wd, rfl, rfl, hl⟩ := hi
  unfold wp5_W_has_7 at hw
  refine lv_iload C.1 C.2.1 dX8_has_7 (lv_at hl 3 rfl) ?_
  refine lv_iload_n C.1 C.2.1 dX8_has_9 rfl (lv_at hl 2 rfl) ?_
  refine lv_icmp_ge (tgt := 41) C.1 C.2.1 dX8_has_10 (by decide) (fun c10 => ?_) (fun c10 => ?_)
  · have hw := hw.1 (z_le g_x2 g_l4_7 c10)
    refine lv_iconst (v := zI 0) C.1 C.2.1 dX8_has_41 (by decide) ?_
    exact k_zretP C hr hlk (by decide) ⟨_, rfl, (show rng 0 from by decide), hw⟩ dX8_has_42
  · have hw := hw.2 (z_nle g_x2 g_l4_7 c10)
    refine lv_iload C.1 C.2.1 dX8_has_13 (lv_at hl 3 rfl) ?_
    refine lv_aload_n C.1 C.2.1 dX8_has_15 rfl (lv_at hl 0 rfl) ?_
    refine k_get (v := .int (zI (σ.2.2.1 0 n0))) C Wd.1 KX8 _ 1 (cxRow h_n0) (by decide) fl_X8_21 rfl dX8_has_16 ?_
    refine lv_icmp_ge (tgt := 41) C.1 C.2.1 dX8_has_19 (by decide) (fun c19 => ?_) (fun c19 => ?_)
    · have hw := hw.1 (z_le (rgY hS (N := 35) h_n0) g_l4_7 c19)
      refine lv_iconst (v := zI 0) C.1 C.2.1 dX8_has_41 (by decide) ?_
      exact k_zretP C hr hlk (by decide) ⟨_, rfl, (show rng 0 from by decide), hw⟩ dX8_has_42
    · have hw := hw.2 (z_nle (rgY hS (N := 35) h_n0) g_l4_7 c19)
      refine lv_aload_n C.1 C.2.1 dX8_has_22 rfl (lv_at hl 0 rfl) ?_
      refine k_get (v := .ref (ad ((rowC n0.toNat) + 1))) C Wd.1 KX8 _ 0 (cxRow h_n0) (by decide) fl_X8_15 rfl dX8_has_23 ?_
      refine lv_iload C.1 C.2.1 dX8_has_26 (lv_at hl 3 rfl) ?_
      obtain ⟨n28_0, hw⟩ := hw
      refine k_ialdK (g := (σ.2.2.2 0 n0)) C Wd (cxRowc h_n0) (tyR h_n0) (capN n28_0) (capL _) dX8_has_28 ?_
      have ga28 : rng (σ.2.2.2 0 n0 l4_7) := rngL (rgZ (c := 0) Wd.2.1 h_n0) n28_0
      refine lv_iload_n C.1 C.2.1 dX8_has_29 rfl (lv_at hl 1 rfl) ?_
      refine lv_icmp_ne (tgt := 35) C.1 C.2.1 dX8_has_30 (by decide) (fun c30 => ?_) (fun c30 => ?_)
      · have hw := hw.1 (z_ne ga28 g_x0 c30)
        refine lv_iinc (v := zI (l4_7 + 1)) (lv' := [(4, .int (zI (l4_7 + 1))), (0, .ref (ad (rowC n0.toNat))), (1, .int (zI x0)), (3, .int (zI x2))]) C.1 C.2.1 dX8_has_35 hl (k := 3) rfl (zI_inc _ _ (by decide)) (by decide) rfl (fun ls hl => ?_)
        replace hl := lv_sub hl [1, 2, 3, 0] rfl
        refine lv_goto (tgt := 7) C.1 C.2.1 dX8_has_38 (by decide) ?_
        obtain ⟨g38_2, hw⟩ := hw
        exact hL7 _ hw _ _ _ ⟨g38_2, Wd, rfl, rfl, lv_sub hl [0, 1, 2, 3] rfl⟩
      · have hw := hw.2 (z_eq ga28 g_x0 c30)
        refine lv_iconst (v := zI 1) C.1 C.2.1 dX8_has_33 (by decide) ?_
        exact k_zretP C hr hlk (by decide) ⟨_, rfl, (show rng 1 from by decide), hw⟩ dX8_has_34
set_option maxHeartbeats 4000000 in
set_option maxRecDepth 100000 in
theorem mk_A_hastyDead : ∀ (D : va_G) (ad : Nat → Nat) (ca : Nat → ClassId) (rf : Nat → Nat → Option Nat) (σ : Sg) (hS : rngK σ) (hRF : RFok ad rf) (x0 : Int) (g_x0 : 0 ≤ x0 ∧ x0 < 35) (K : Sg → Prop) (hw : wp5_A_hastyDead σ x0 K) (l : Launch) (sz : Nat), Met l yX0_hastyDead (Cond.code yX0_hastyDead cX0_hastyDead 5 none :: gG) { frames := 3, cells := 0, slots := 0, locals := 120 } (cPre D (tC ca) (wK ad ca rf σ) sz [.ref (ad 70), .ref (ad (rowC x0.toNat))]) (va_Qv (fun (u : Sg) => K u ∧ rngK u) (fun u t => cB D (va_A (wK ad ca rf σ) sz) [] (wK ad ca rf u) t) (va_A (wK ad ca rf σ) sz)) 0 0 (va_A (wK ad ca rf σ) sz) := by
  intro D ad ca rf σ hS hRF x0 g_x0 K hw l sz
  refine Met.ofW (cc := cX0_hastyDead) (maxL := 5) (ret := none) (by decide) rfl ?_
  intro p e s m args below meth c s₁ B hml hv
  obtain ⟨rfl, aks, rfl, Wd⟩ := k_enter hv
  have C : CallFix p m c cX0_hastyDead 5 s _ gG RX0 := ⟨B.exec, B.bytes, hml, findClass_of_methodNamed B.named, fun w h => atoms_spec (ws := Cond.code yX0_hastyDead cX0_hastyDead 5 none :: gG) B.pre w (List.mem_cons_of_mem _ h)⟩
  have hr := B.returns
  have hlk := B.notSynchronized
  generalize va_A (wK ad ca rf σ) s.heap.size = A at Wd ⊢
  replace Wd : wXK D ad ca rf s σ s.heap A s.heap [] := ⟨Wd, hS, hRF⟩
  refine k_locals (Nat.le_of_ble_eq_true rfl) [(0, .ref (ad 70)), (1, .ref (ad (rowC x0.toNat)))] rfl (fun ls hl => ?_)
  unfold wp5_A_hastyDead at hw
  refine lv_aload_n C.1 C.2.1 dX0_hastyDead_0 rfl (lv_at hl 1 rfl) ?_
  refine k_get (v := .int (zI (σ.2.2.1 0 x0))) C Wd.1 KX8 _ 1 (cxRow g_x0) (by decide) fl_X0_31 rfl dX0_hastyDead_1 ?_
  refine lv_iconst (v := zI 1) C.1 C.2.1 dX0_hastyDead_4 (by decide) ?_
  refine k_isub (v := zI ((σ.2.2.1 0 x0) - 1)) C (zI_isub _ _) dX0_hastyDead_5 ?_
  refine lv_istore_n (lv' := [(2, .int (zI ((σ.2.2.1 0 x0) - 1))), (0, .ref (ad 70)), (1, .ref (ad (rowC x0.toNat)))]) C.1 C.2.1 dX0_hastyDead_6 rfl hl (by decide) rfl (fun ls hl => ?_)
  replace hl := lv_sub hl [1, 2, 0] rfl
  obtain ⟨g6_9, hw⟩ := hw
  refine k_lp2 hw (fun (l2_7 : Int) (σ7 : Sg) H locs ls => rng l2_7 ∧ wXK D ad ca rf s σ7 H A s.heap locs ∧ lv_has ls 5 [(1, .ref (ad (rowC x0.toNat))), (2, .int (zI l2_7))]) (fun (l2_7 : Int) (σ7 : Sg) ls => F0 m 7 ls []) (fun L7 hL7 l2_7 σ7 hw H locs ls hi => ?_) _ _ _ ⟨g6_9, Wd, lv_sub hl [1, 2] rfl⟩
  obtain ⟨g_l2_7, Wd, hl⟩ := hi
  have hS_σ7 := Wd.2.1
  unfold wp5_A_hastyDead_7 at hw
  refine lv_iload_n C.1 C.2.1 dX0_hastyDead_7 rfl (lv_at hl 1 rfl) ?_
  refine lv_if_lt (tgt := 66) C.1 C.2.1 dX0_hastyDead_8 (by decide) (fun c8 => ?_) (fun c8 => ?_)
  · have hw := hw.1 (z0_lt g_l2_7 c8)
    exact k_retKv C hr hlk Wd hw dX0_hastyDead_66
  · have hw := hw.2 (z0_nlt g_l2_7 c8)
    refine lv_aload_n C.1 C.2.1 dX0_hastyDead_11 rfl (lv_at hl 0 rfl) ?_
    refine lv_iload_n C.1 C.2.1 dX0_hastyDead_12 rfl (lv_at hl 1 rfl) ?_
    refine k_pi (k_runVK (rest := []) C aks Wd cs_X0_35 (mk_W_cell D ad ca rf σ7 Wd.2.1 Wd.2.2 x0 l2_7 g_x0 g_l2_7 _ hw l _) (cxRow g_x0) rfl rfl rfl rfl ⟨(Nat.le_of_ble_eq_true rfl), (Nat.le_of_ble_eq_true rfl)⟩ hl.1 rfl rfl (Nat.le_of_ble_eq_true rfl) ⟨(Nat.le_of_ble_eq_true rfl), (Nat.le_of_ble_eq_true rfl)⟩ dX0_hastyDead_13) (fun y13 hy => ?_)
    obtain ⟨r13, rfl, g_r13, hw⟩ := hy
    refine lv_istore_n (lv' := [(3, .int (zI r13)), (1, .ref (ad (rowC x0.toNat))), (2, .int (zI l2_7))]) C.1 C.2.1 dX0_hastyDead_16 rfl hl (by decide) rfl (fun ls hl => ?_)
    replace hl := lv_sub hl [1, 2, 0] rfl
    refine lv_aload_n C.1 C.2.1 dX0_hastyDead_17 rfl (lv_at hl 0 rfl) ?_
    refine lv_iload_n C.1 C.2.1 dX0_hastyDead_18 rfl (lv_at hl 1 rfl) ?_
    refine lv_iconst (v := zI 1) C.1 C.2.1 dX0_hastyDead_19 (by decide) ?_
    refine k_iadd (v := zI (l2_7 + 1)) C (zI_iadd _ _) dX0_hastyDead_20 ?_
    obtain ⟨g21_10, hw⟩ := hw
    refine k_pi (k_runVK (rest := []) C aks Wd cs_X0_96 (mk_W_expressionEnd D ad ca rf σ7 Wd.2.1 Wd.2.2 x0 (l2_7 + 1) g_x0 g21_10 _ hw l _) (cxRow g_x0) rfl rfl rfl rfl ⟨(Nat.le_of_ble_eq_true rfl), (Nat.le_of_ble_eq_true rfl)⟩ hl.1 rfl rfl (Nat.le_of_ble_eq_true rfl) ⟨(Nat.le_of_ble_eq_true rfl), (Nat.le_of_ble_eq_true rfl)⟩ dX0_hastyDead_21) (fun y21 hy => ?_)
    obtain ⟨r21, rfl, g_r21, hw⟩ := hy
    refine lv_istore (lv' := [(4, .int (zI r21)), (1, .ref (ad (rowC x0.toNat))), (2, .int (zI l2_7)), (3, .int (zI r13))]) C.1 C.2.1 dX0_hastyDead_24 hl (by decide) rfl (fun ls hl => ?_)
    replace hl := lv_sub hl [1, 2, 3, 0] rfl
    refine lv_iload_n C.1 C.2.1 dX0_hastyDead_26 rfl (lv_at hl 2 rfl) ?_
    refine k_pi (k_runS (rest := []) C aks Wd.1 cs_X0_99 (mk_W_isSet D r13 g_r13 _ hw l _) [] rfl (by decide) [] rfl rfl rfl ⟨(Nat.le_of_ble_eq_true rfl), (Nat.le_of_ble_eq_true rfl)⟩ hl.1 rfl rfl (Nat.le_of_ble_eq_true rfl) ⟨(Nat.le_of_ble_eq_true rfl), (Nat.le_of_ble_eq_true rfl)⟩ dX0_hastyDead_27) (fun y27 hy => ?_)
    obtain ⟨r27, rfl, g_r27, hw⟩ := hy
    refine lv_if_eq (tgt := 60) C.1 C.2.1 dX0_hastyDead_30 (by decide) (fun c30 => ?_) (fun c30 => ?_)
    · have hw := hw.1 (z0_eq g_r27 c30)
      refine lv_iinc (v := zI (l2_7 - 1)) (lv' := [(2, .int (zI (l2_7 - 1))), (1, .ref (ad (rowC x0.toNat))), (3, .int (zI r13)), (4, .int (zI r21))]) C.1 C.2.1 dX0_hastyDead_60 hl (k := 1) rfl (zI_dec _ _ (by decide)) (by decide) rfl (fun ls hl => ?_)
      replace hl := lv_sub hl [1, 0, 2, 3] rfl
      refine lv_goto (tgt := 7) C.1 C.2.1 dX0_hastyDead_63 (by decide) ?_
      obtain ⟨g63_11, hw⟩ := hw
      exact hL7 _ _ hw _ _ _ ⟨g63_11, Wd, lv_sub hl [0, 1] rfl⟩
    · have hw := hw.2 (z0_ne g_r27 c30)
      refine lv_aload_n C.1 C.2.1 dX0_hastyDead_33 rfl (lv_at hl 0 rfl) ?_
      refine lv_iload_n C.1 C.2.1 dX0_hastyDead_34 rfl (lv_at hl 2 rfl) ?_
      refine lv_bipush (v := zI 100) C.1 C.2.1 dX0_hastyDead_35 (by decide) ?_
      refine k_isub (v := zI (r13 - 100)) C (zI_isub _ _) dX0_hastyDead_37 ?_
      refine lv_bipush (v := zI 20) C.1 C.2.1 dX0_hastyDead_38 (by decide) ?_
      refine k_iadd (v := zI ((r13 - 100) + 20)) C (zI_iadd _ _) dX0_hastyDead_40 ?_
      refine lv_iload C.1 C.2.1 dX0_hastyDead_41 (lv_at hl 3 rfl) ?_
      refine lv_aload_n C.1 C.2.1 dX0_hastyDead_43 rfl (lv_at hl 0 rfl) ?_
      refine k_get (v := .int (zI (σ7.2.2.1 0 x0))) C Wd.1 KX8 _ 1 (cxRow g_x0) (by decide) fl_X0_31 rfl dX0_hastyDead_44 ?_
      obtain ⟨g47_12, hw⟩ := hw
      refine k_pi (k_runVK (rest := []) C aks Wd cs_X0_102 (mk_W_has D ad ca rf σ7 Wd.2.1 Wd.2.2 x0 ((r13 - 100) + 20) r21 (σ7.2.2.1 0 x0) g_x0 g47_12 g_r21 (rgY hS_σ7 (N := 35) g_x0) _ hw l _) (cxRow g_x0) rfl rfl rfl rfl ⟨(Nat.le_of_ble_eq_true rfl), (Nat.le_of_ble_eq_true rfl)⟩ hl.1 rfl rfl (Nat.le_of_ble_eq_true rfl) ⟨(Nat.le_of_ble_eq_true rfl), (Nat.le_of_ble_eq_true rfl)⟩ dX0_hastyDead_47) (fun y47 hy => ?_)
      obtain ⟨r47, rfl, g_r47, hw⟩ := hy
      refine lv_if_ne (tgt := 60) C.1 C.2.1 dX0_hastyDead_50 (by decide) (fun c50 => ?_) (fun c50 => ?_)
      · have hw := hw.1 (z0_ne g_r47 c50)
        refine lv_iinc (v := zI (l2_7 - 1)) (lv' := [(2, .int (zI (l2_7 - 1))), (1, .ref (ad (rowC x0.toNat))), (3, .int (zI r13)), (4, .int (zI r21))]) C.1 C.2.1 dX0_hastyDead_60 hl (k := 1) rfl (zI_dec _ _ (by decide)) (by decide) rfl (fun ls hl => ?_)
        replace hl := lv_sub hl [1, 0, 2, 3] rfl
        refine lv_goto (tgt := 7) C.1 C.2.1 dX0_hastyDead_63 (by decide) ?_
        obtain ⟨g63_13, hw⟩ := hw
        exact hL7 _ _ hw _ _ _ ⟨g63_13, Wd, lv_sub hl [0, 1] rfl⟩
      · have hw := hw.2 (z0_eq g_r47 c50)
        refine lv_aload_n C.1 C.2.1 dX0_hastyDead_53 rfl (lv_at hl 0 rfl) ?_
        refine lv_iload_n C.1 C.2.1 dX0_hastyDead_54 rfl (lv_at hl 1 rfl) ?_
        refine lv_iload C.1 C.2.1 dX0_hastyDead_55 (lv_at hl 3 rfl) ?_
        refine k_cKv Wd (k_runVK (rest := []) C aks Wd cs_X0_65 (mk_W_remove D ad ca rf σ7 Wd.2.1 Wd.2.2 x0 l2_7 r21 g_x0 g_l2_7 g_r21 _ hw l _) (cxRow g_x0) rfl rfl rfl rfl ⟨(Nat.le_of_ble_eq_true rfl), (Nat.le_of_ble_eq_true rfl)⟩ hl.1 rfl rfl (Nat.le_of_ble_eq_true rfl) ⟨(Nat.le_of_ble_eq_true rfl), (Nat.le_of_ble_eq_true rfl)⟩ dX0_hastyDead_57) (fun σr57 H locs hw Wd => ?_)
        have hS_σr57 := Wd.2.1
        refine lv_iinc (v := zI (l2_7 - 1)) (lv' := [(2, .int (zI (l2_7 - 1))), (1, .ref (ad (rowC x0.toNat))), (3, .int (zI r13)), (4, .int (zI r21))]) C.1 C.2.1 dX0_hastyDead_60 hl (k := 1) rfl (zI_dec _ _ (by decide)) (by decide) rfl (fun ls hl => ?_)
        replace hl := lv_sub hl [1, 0, 2, 3] rfl
        refine lv_goto (tgt := 7) C.1 C.2.1 dX0_hastyDead_63 (by decide) ?_
        obtain ⟨g63_14, hw⟩ := hw
        exact hL7 _ _ hw _ _ _ ⟨g63_14, Wd, lv_sub hl [0, 1] rfl⟩
set_option maxHeartbeats 4000000 in
set_option maxRecDepth 100000 in
theorem mk_W_statementEnd : ∀ (D : va_G) (ad : Nat → Nat) (ca : Nat → ClassId) (rf : Nat → Nat → Option Nat) (σ : Sg) (hS : rngK σ) (hRF : RFok ad rf) (n0 : Int) (x0 : Int) (h_n0 : 0 ≤ n0 ∧ n0 < 35) (g_x0 : rng x0) (K : Int → Prop) (hw : wp5_W_statementEnd σ n0 x0 K) (l : Launch) (sz : Nat), Met l yX8_statementEnd (Cond.code yX8_statementEnd cX8_statementEnd 3 (some .int) :: gG) { frames := 3, cells := 0, slots := 0, locals := 119 } (cPre D (tC ca) (wK ad ca rf σ) sz [.ref (ad (rowC n0.toNat)), .int (zI x0)]) (vp_Si (fun r => ∃ x : Int, r = zI x ∧ rng x ∧ K x)) 0 0 (fun _ => False) := by
  intro D ad ca rf σ hS hRF n0 x0 h_n0 g_x0 K hw l sz
  refine Met.ofW (cc := cX8_statementEnd) (maxL := 3) (ret := (some .int)) (by decide) rfl ?_
  intro p e s m args below meth c s₁ B hml hv
  obtain ⟨rfl, aks, rfl, Wd⟩ := k_enter hv
  have C : CallFix p m c cX8_statementEnd 3 s _ gG RX8 := ⟨B.exec, B.bytes, hml, findClass_of_methodNamed B.named, fun w h => atoms_spec (ws := Cond.code yX8_statementEnd cX8_statementEnd 3 (some .int) :: gG) B.pre w (List.mem_cons_of_mem _ h)⟩
  have hr := B.returns
  have hlk := B.notSynchronized
  obtain ⟨A, Wd⟩ : ∃ A, wXK D ad ca rf s σ s.heap A s.heap [] := ⟨_, Wd, hS, hRF⟩
  refine k_locals (Nat.le_of_ble_eq_true rfl) [(0, .ref (ad (rowC n0.toNat))), (1, .int (zI x0))] rfl (fun ls hl => ?_)
  unfold wp5_W_statementEnd at hw
  refine lv_aload_n C.1 C.2.1 dX8_statementEnd_0 rfl (lv_at hl 0 rfl) ?_
  refine lv_iload_n C.1 C.2.1 dX8_statementEnd_1 rfl (lv_at hl 1 rfl) ?_
  refine k_pi (k_runVK (rest := []) C aks Wd cs_X8_55 (mk_W_cell D ad ca rf σ Wd.2.1 Wd.2.2 n0 x0 h_n0 g_x0 _ hw l _) (cxRow h_n0) rfl rfl rfl rfl ⟨(Nat.le_of_ble_eq_true rfl), (Nat.le_of_ble_eq_true rfl)⟩ hl.1 rfl rfl (Nat.le_of_ble_eq_true rfl) ⟨(Nat.le_of_ble_eq_true rfl), (Nat.le_of_ble_eq_true rfl)⟩ dX8_statementEnd_2) (fun y2 hy => ?_)
  obtain ⟨r2, rfl, g_r2, hw⟩ := hy
  refine lv_istore_n (lv' := [(2, .int (zI r2)), (0, .ref (ad (rowC n0.toNat))), (1, .int (zI x0))]) C.1 C.2.1 dX8_statementEnd_5 rfl hl (by decide) rfl (fun ls hl => ?_)
  replace hl := lv_sub hl [1, 2, 0] rfl
  refine lv_iload_n C.1 C.2.1 dX8_statementEnd_6 rfl (lv_at hl 2 rfl) ?_
  refine k_pi (k_runS (rest := []) C aks Wd.1 cs_X8_52 (mk_W_isBranch D r2 g_r2 _ hw l _) [] rfl (by decide) [] rfl rfl rfl ⟨(Nat.le_of_ble_eq_true rfl), (Nat.le_of_ble_eq_true rfl)⟩ hl.1 rfl rfl (Nat.le_of_ble_eq_true rfl) ⟨(Nat.le_of_ble_eq_true rfl), (Nat.le_of_ble_eq_true rfl)⟩ dX8_statementEnd_7) (fun y7 hy => ?_)
  obtain ⟨r7, rfl, g_r7, hw⟩ := hy
  refine lv_if_eq (tgt := 21) C.1 C.2.1 dX8_statementEnd_10 (by decide) (fun c10 => ?_) (fun c10 => ?_)
  · have hw := hw.1 (z0_eq g_r7 c10)
    refine lv_iload_n C.1 C.2.1 dX8_statementEnd_21 rfl (lv_at hl 2 rfl) ?_
    refine lv_bipush (v := zI 111) C.1 C.2.1 dX8_statementEnd_22 (by decide) ?_
    refine lv_icmp_ne (tgt := 33) C.1 C.2.1 dX8_statementEnd_24 (by decide) (fun c24 => ?_) (fun c24 => ?_)
    · have hw := hw.1 (z_ne g_r2 (show rng 111 from by decide) c24)
      refine lv_aload_n C.1 C.2.1 dX8_statementEnd_33 rfl (lv_at hl 0 rfl) ?_
      refine lv_iload_n C.1 C.2.1 dX8_statementEnd_34 rfl (lv_at hl 1 rfl) ?_
      refine lv_iconst (v := zI 1) C.1 C.2.1 dX8_statementEnd_35 (by decide) ?_
      refine k_iadd (v := zI (x0 + 1)) C (zI_iadd _ _) dX8_statementEnd_36 ?_
      obtain ⟨g37_3, hw⟩ := hw
      refine k_pi (k_runVK (rest := []) C aks Wd cs_X8_62 (mk_W_expressionEnd D ad ca rf σ Wd.2.1 Wd.2.2 n0 (x0 + 1) h_n0 g37_3 _ hw l _) (cxRow h_n0) rfl rfl rfl rfl ⟨(Nat.le_of_ble_eq_true rfl), (Nat.le_of_ble_eq_true rfl)⟩ hl.1 rfl rfl (Nat.le_of_ble_eq_true rfl) ⟨(Nat.le_of_ble_eq_true rfl), (Nat.le_of_ble_eq_true rfl)⟩ dX8_statementEnd_37) (fun y37 hy => ?_)
      obtain ⟨r37, rfl, g_r37, hw⟩ := hy
      exact k_zretP C hr hlk rfl ⟨_, rfl, g_r37, hw⟩ dX8_statementEnd_40
    · have hw := hw.2 (z_eq g_r2 (show rng 111 from by decide) c24)
      refine lv_iload_n C.1 C.2.1 dX8_statementEnd_27 rfl (lv_at hl 1 rfl) ?_
      refine lv_iconst (v := zI 1) C.1 C.2.1 dX8_statementEnd_28 (by decide) ?_
      refine k_iadd (v := zI (x0 + 1)) C (zI_iadd _ _) dX8_statementEnd_29 ?_
      refine lv_goto (tgt := 40) C.1 C.2.1 dX8_statementEnd_30 (by decide) ?_
      obtain ⟨g40_4, hw⟩ := hw
      exact k_zretP C hr hlk rfl ⟨_, rfl, g40_4, hw⟩ dX8_statementEnd_40
  · have hw := hw.2 (z0_ne g_r7 c10)
    refine lv_aload_n C.1 C.2.1 dX8_statementEnd_13 rfl (lv_at hl 0 rfl) ?_
    refine lv_iload_n C.1 C.2.1 dX8_statementEnd_14 rfl (lv_at hl 1 rfl) ?_
    refine k_pi (k_runVK (rest := []) C aks Wd cs_X8_59 (mk_W_closeOf D ad ca rf σ Wd.2.1 Wd.2.2 n0 x0 h_n0 g_x0 _ hw l _) (cxRow h_n0) rfl rfl rfl rfl ⟨(Nat.le_of_ble_eq_true rfl), (Nat.le_of_ble_eq_true rfl)⟩ hl.1 rfl rfl (Nat.le_of_ble_eq_true rfl) ⟨(Nat.le_of_ble_eq_true rfl), (Nat.le_of_ble_eq_true rfl)⟩ dX8_statementEnd_15) (fun y15 hy => ?_)
    obtain ⟨r15, rfl, g_r15, hw⟩ := hy
    refine lv_iconst (v := zI 1) C.1 C.2.1 dX8_statementEnd_18 (by decide) ?_
    refine k_iadd (v := zI (r15 + 1)) C (zI_iadd _ _) dX8_statementEnd_19 ?_
    obtain ⟨g20_5, hw⟩ := hw
    exact k_zretP C hr hlk rfl ⟨_, rfl, g20_5, hw⟩ dX8_statementEnd_20
set_option maxHeartbeats 4000000 in
set_option maxRecDepth 100000 in
theorem mk_W_replace : ∀ (D : va_G) (ad : Nat → Nat) (ca : Nat → ClassId) (rf : Nat → Nat → Option Nat) (σ : Sg) (hS : rngK σ) (hRF : RFok ad rf) (n0 : Int) (x0 : Int) (x1 : Int) (x2 : Int) (x3 : Int) (h_n0 : 0 ≤ n0 ∧ n0 < 35) (g_x0 : rng x0) (g_x1 : rng x1) (g_x2 : rng x2) (g_x3 : rng x3) (K : Sg → Prop) (hw : wp5_W_replace σ n0 x0 x1 x2 x3 K) (l : Launch) (sz : Nat), Met l yX8_replace (Cond.code yX8_replace cX8_replace 6 none :: gG) { frames := 1, cells := 0, slots := 0, locals := 96 } (cPre D (tC ca) (wK ad ca rf σ) sz [.ref (ad (rowC n0.toNat)), .int (zI x0), .int (zI x1), .int (zI x2), .int (zI x3)]) (va_Qv (fun (u : Sg) => K u ∧ rngK u) (fun u t => cB D (va_A (wK ad ca rf σ) sz) [] (wK ad ca rf u) t) (va_A (wK ad ca rf σ) sz)) 0 0 (va_A (wK ad ca rf σ) sz) := by
  intro D ad ca rf σ hS hRF n0 x0 x1 x2 x3 h_n0 g_x0 g_x1 g_x2 g_x3 K hw l sz
  refine Met.ofW (cc := cX8_replace) (maxL := 6) (ret := none) (by decide) rfl ?_
  intro p e s m args below meth c s₁ B hml hv
  obtain ⟨rfl, aks, rfl, Wd⟩ := k_enter hv
  have C : CallFix p m c cX8_replace 6 s _ gG RX8 := ⟨B.exec, B.bytes, hml, findClass_of_methodNamed B.named, fun w h => atoms_spec (ws := Cond.code yX8_replace cX8_replace 6 none :: gG) B.pre w (List.mem_cons_of_mem _ h)⟩
  have hr := B.returns
  have hlk := B.notSynchronized
  generalize va_A (wK ad ca rf σ) s.heap.size = A at Wd ⊢
  replace Wd : wXK D ad ca rf s σ s.heap A s.heap [] := ⟨Wd, hS, hRF⟩
  refine k_locals (Nat.le_of_ble_eq_true rfl) [(0, .ref (ad (rowC n0.toNat))), (1, .int (zI x0)), (2, .int (zI x1)), (3, .int (zI x2)), (4, .int (zI x3))] rfl (fun ls hl => ?_)
  unfold wp5_W_replace at hw
  refine lv_iload_n C.1 C.2.1 dX8_replace_0 rfl (lv_at hl 3 rfl) ?_
  refine lv_iconst (v := zI 0) C.1 C.2.1 dX8_replace_1 (by decide) ?_
  refine k_mmax (v := zI (max x2 0)) C hl.1 ml_X8_9 st_Lib_Math_max_name in_J9 cd_max (Nat.le_of_ble_eq_true rfl) (Nat.le_of_ble_eq_true rfl) (Nat.le_of_ble_eq_true rfl) (Nat.le_of_ble_eq_true rfl) (zmax_eq _ _ g_x2 (show rng 0 from by decide)) dX8_replace_2 ?_
  refine lv_istore (lv' := [(5, .int (zI (max x2 0))), (0, .ref (ad (rowC n0.toNat))), (1, .int (zI x0)), (2, .int (zI x1)), (3, .int (zI x2)), (4, .int (zI x3))]) C.1 C.2.1 dX8_replace_5 hl (by decide) rfl (fun ls hl => ?_)
  replace hl := lv_sub hl [1, 2, 3, 4, 5, 0] rfl
  refine k_lp2 hw (fun (l5_7 : Int) (σ7 : Sg) H locs ls => rng l5_7 ∧ wXK D ad ca rf s σ7 H A s.heap locs ∧ lv_has ls 6 [(0, .ref (ad (rowC n0.toNat))), (1, .int (zI x0)), (2, .int (zI x1)), (4, .int (zI x3)), (5, .int (zI l5_7))]) (fun (l5_7 : Int) (σ7 : Sg) ls => F0 m 7 ls []) (fun L7 hL7 l5_7 σ7 hw H locs ls hi => ?_) _ _ _ ⟨(rng_max g_x2 (show rng 0 from by decide)), Wd, lv_sub hl [0, 1, 2, 4, 5] rfl⟩
  obtain ⟨g_l5_7, Wd, hl⟩ := hi
  have hS_σ7 := Wd.2.1
  unfold wp5_W_replace_7 at hw
  refine lv_iload C.1 C.2.1 dX8_replace_7 (lv_at hl 4 rfl) ?_
  refine lv_iload C.1 C.2.1 dX8_replace_9 (lv_at hl 3 rfl) ?_
  refine lv_icmp_ge (tgt := 48) C.1 C.2.1 dX8_replace_11 (by decide) (fun c11 => ?_) (fun c11 => ?_)
  · have hw := hw.1 (z_le g_x3 g_l5_7 c11)
    exact k_retKv C hr hlk Wd hw dX8_replace_48
  · have hw := hw.2 (z_nle g_x3 g_l5_7 c11)
    refine lv_iload C.1 C.2.1 dX8_replace_14 (lv_at hl 4 rfl) ?_
    refine lv_aload_n C.1 C.2.1 dX8_replace_16 rfl (lv_at hl 0 rfl) ?_
    refine k_get (v := .int (zI (σ7.2.2.1 0 n0))) C Wd.1 KX8 _ 1 (cxRow h_n0) (by decide) fl_X8_21 rfl dX8_replace_17 ?_
    refine lv_icmp_ge (tgt := 48) C.1 C.2.1 dX8_replace_20 (by decide) (fun c20 => ?_) (fun c20 => ?_)
    · have hw := hw.1 (z_le (rgY hS_σ7 (N := 35) h_n0) g_l5_7 c20)
      exact k_retKv C hr hlk Wd hw dX8_replace_48
    · have hw := hw.2 (z_nle (rgY hS_σ7 (N := 35) h_n0) g_l5_7 c20)
      refine lv_aload_n C.1 C.2.1 dX8_replace_23 rfl (lv_at hl 0 rfl) ?_
      refine k_get (v := .ref (ad ((rowC n0.toNat) + 1))) C Wd.1 KX8 _ 0 (cxRow h_n0) (by decide) fl_X8_15 rfl dX8_replace_24 ?_
      refine lv_iload C.1 C.2.1 dX8_replace_27 (lv_at hl 4 rfl) ?_
      obtain ⟨n29_0, hw⟩ := hw
      refine k_ialdK (g := (σ7.2.2.2 0 n0)) C Wd (cxRowc h_n0) (tyR h_n0) (capN n29_0) (capL _) dX8_replace_29 ?_
      have ga29 : rng (σ7.2.2.2 0 n0 l5_7) := rngL (rgZ (c := 0) Wd.2.1 h_n0) n29_0
      refine lv_iload_n C.1 C.2.1 dX8_replace_30 rfl (lv_at hl 1 rfl) ?_
      refine lv_icmp_ne (tgt := 42) C.1 C.2.1 dX8_replace_31 (by decide) (fun c31 => ?_) (fun c31 => ?_)
      · have hw := hw.1 (z_ne ga29 g_x0 c31)
        refine lv_iinc (v := zI (l5_7 + 1)) (lv' := [(5, .int (zI (l5_7 + 1))), (0, .ref (ad (rowC n0.toNat))), (1, .int (zI x0)), (2, .int (zI x1)), (4, .int (zI x3))]) C.1 C.2.1 dX8_replace_42 hl (k := 4) rfl (zI_inc _ _ (by decide)) (by decide) rfl (fun ls hl => ?_)
        replace hl := lv_sub hl [1, 2, 3, 4, 0] rfl
        refine lv_goto (tgt := 7) C.1 C.2.1 dX8_replace_45 (by decide) ?_
        obtain ⟨g45_2, hw⟩ := hw
        exact hL7 _ _ hw _ _ _ ⟨g45_2, Wd, lv_sub hl [0, 1, 2, 3, 4] rfl⟩
      · have hw := hw.2 (z_eq ga29 g_x0 c31)
        refine lv_aload_n C.1 C.2.1 dX8_replace_34 rfl (lv_at hl 0 rfl) ?_
        refine k_get (v := .ref (ad ((rowC n0.toNat) + 1))) C Wd.1 KX8 _ 0 (cxRow h_n0) (by decide) fl_X8_15 rfl dX8_replace_35 ?_
        refine lv_iload C.1 C.2.1 dX8_replace_38 (lv_at hl 4 rfl) ?_
        refine lv_iload_n C.1 C.2.1 dX8_replace_40 rfl (lv_at hl 2 rfl) ?_
        refine k_iastR (n := n0) (g := (σ7.2.2.2 0 n0)) (i := l5_7) (v := x1) C Wd h_n0 rfl n29_0 (ruZ (rgZ (c := 0) Wd.2.1 h_n0) g_x1) dX8_replace_41 (fun H locs Wd => ?_)
        refine lv_iinc (v := zI (l5_7 + 1)) (lv' := [(5, .int (zI (l5_7 + 1))), (0, .ref (ad (rowC n0.toNat))), (1, .int (zI x0)), (2, .int (zI x1)), (4, .int (zI x3))]) C.1 C.2.1 dX8_replace_42 hl (k := 4) rfl (zI_inc _ _ (by decide)) (by decide) rfl (fun ls hl => ?_)
        replace hl := lv_sub hl [1, 2, 3, 4, 0] rfl
        refine lv_goto (tgt := 7) C.1 C.2.1 dX8_replace_45 (by decide) ?_
        obtain ⟨g45_3, hw⟩ := hw
        exact hL7 _ _ hw _ _ _ ⟨g45_3, Wd, lv_sub hl [0, 1, 2, 3, 4] rfl⟩
set_option maxHeartbeats 4000000 in
set_option maxRecDepth 100000 in
theorem mk_A_copyBehind : ∀ (D : va_G) (ad : Nat → Nat) (ca : Nat → ClassId) (rf : Nat → Nat → Option Nat) (σ : Sg) (hS : rngK σ) (hRF : RFok ad rf) (x0 : Int) (x1 : Int) (x2 : Int) (x3 : Int) (g_x0 : 0 ≤ x0 ∧ x0 < 35) (g_x1 : rng x1) (g_x2 : rng x2) (g_x3 : rng x3) (K : Sg → Prop) (hw : wp5_A_copyBehind σ x0 x1 x2 x3 K) (l : Launch) (sz : Nat), Met l yX0_copyBehind (Cond.code yX0_copyBehind cX0_copyBehind 9 none :: gG) { frames := 4, cells := 0, slots := 0, locals := 141 } (cPre D (tC ca) (wK ad ca rf σ) sz [.ref (ad 70), .ref (ad (rowC x0.toNat)), .int (zI x1), .int (zI x2), .int (zI x3)]) (va_Qv (fun (u : Sg) => K u ∧ rngK u) (fun u t => cB D (va_A (wK ad ca rf σ) sz) [] (wK ad ca rf u) t) (va_A (wK ad ca rf σ) sz)) 0 0 (va_A (wK ad ca rf σ) sz) := by
  intro D ad ca rf σ hS hRF x0 x1 x2 x3 g_x0 g_x1 g_x2 g_x3 K hw l sz
  refine Met.ofW (cc := cX0_copyBehind) (maxL := 9) (ret := none) (by decide) rfl ?_
  intro p e s m args below meth c s₁ B hml hv
  obtain ⟨rfl, aks, rfl, Wd⟩ := k_enter hv
  have C : CallFix p m c cX0_copyBehind 9 s _ gG RX0 := ⟨B.exec, B.bytes, hml, findClass_of_methodNamed B.named, fun w h => atoms_spec (ws := Cond.code yX0_copyBehind cX0_copyBehind 9 none :: gG) B.pre w (List.mem_cons_of_mem _ h)⟩
  have hr := B.returns
  have hlk := B.notSynchronized
  generalize va_A (wK ad ca rf σ) s.heap.size = A at Wd ⊢
  replace Wd : wXK D ad ca rf s σ s.heap A s.heap [] := ⟨Wd, hS, hRF⟩
  refine k_locals (Nat.le_of_ble_eq_true rfl) [(0, .ref (ad 70)), (1, .ref (ad (rowC x0.toNat))), (2, .int (zI x1)), (3, .int (zI x2)), (4, .int (zI x3))] rfl (fun ls hl => ?_)
  unfold wp5_A_copyBehind at hw
  refine lv_iload_n C.1 C.2.1 dX0_copyBehind_0 rfl (lv_at hl 2 rfl) ?_
  refine lv_istore (lv' := [(5, .int (zI x1)), (0, .ref (ad 70)), (1, .ref (ad (rowC x0.toNat))), (2, .int (zI x1)), (3, .int (zI x2)), (4, .int (zI x3))]) C.1 C.2.1 dX0_copyBehind_1 hl (by decide) rfl (fun ls hl => ?_)
  replace hl := lv_sub hl [1, 2, 3, 4, 5, 0] rfl
  refine lv_iconst (v := zI 0) C.1 C.2.1 dX0_copyBehind_3 (by decide) ?_
  refine lv_istore (lv' := [(6, .int (zI 0)), (0, .ref (ad 70)), (1, .ref (ad (rowC x0.toNat))), (2, .int (zI x1)), (3, .int (zI x2)), (4, .int (zI x3)), (5, .int (zI x1))]) C.1 C.2.1 dX0_copyBehind_4 hl (by decide) rfl (fun ls hl => ?_)
  replace hl := lv_sub hl [1, 2, 3, 4, 5, 6, 0] rfl
  refine k_lp3 hw (fun (l5_6 : Int) (l6_6 : Int) (σ6 : Sg) H locs ls => rng l5_6 ∧ rng l6_6 ∧ wXK D ad ca rf s σ6 H A s.heap locs ∧ lv_has ls 9 [(1, .ref (ad (rowC x0.toNat))), (3, .int (zI x2)), (4, .int (zI x3)), (5, .int (zI l5_6)), (6, .int (zI l6_6))]) (fun (l5_6 : Int) (l6_6 : Int) (σ6 : Sg) ls => F0 m 6 ls []) (fun L6 hL6 l5_6 l6_6 σ6 hw H locs ls hi => ?_) _ _ _ ⟨g_x1, (show rng 0 from by decide), Wd, lv_sub hl [1, 3, 4, 5, 6] rfl⟩
  obtain ⟨g_l5_6, g_l6_6, Wd, hl⟩ := hi
  have hS_σ6 := Wd.2.1
  unfold wp5_A_copyBehind_6 at hw
  refine lv_iload C.1 C.2.1 dX0_copyBehind_6 (lv_at hl 4 rfl) ?_
  refine lv_bipush (v := zI 40) C.1 C.2.1 dX0_copyBehind_8 (by decide) ?_
  refine lv_icmp_ge (tgt := 98) C.1 C.2.1 dX0_copyBehind_10 (by decide) (fun c10 => ?_) (fun c10 => ?_)
  · have hw := hw.1 (z_le (show rng 40 from by decide) g_l6_6 c10)
    exact k_retKv C hr hlk Wd hw dX0_copyBehind_98
  · have hw := hw.2 (z_nle (show rng 40 from by decide) g_l6_6 c10)
    refine lv_aload_n C.1 C.2.1 dX0_copyBehind_13 rfl (lv_at hl 0 rfl) ?_
    refine lv_iload C.1 C.2.1 dX0_copyBehind_14 (lv_at hl 3 rfl) ?_
    refine k_pi (k_runVK (rest := []) C aks Wd cs_X0_35 (mk_W_cell D ad ca rf σ6 Wd.2.1 Wd.2.2 x0 l5_6 g_x0 g_l5_6 _ hw l _) (cxRow g_x0) rfl rfl rfl rfl ⟨(Nat.le_of_ble_eq_true rfl), (Nat.le_of_ble_eq_true rfl)⟩ hl.1 rfl rfl (Nat.le_of_ble_eq_true rfl) ⟨(Nat.le_of_ble_eq_true rfl), (Nat.le_of_ble_eq_true rfl)⟩ dX0_copyBehind_16) (fun y16 hy => ?_)
    obtain ⟨r16, rfl, g_r16, hw⟩ := hy
    refine k_pi (k_runS (rest := []) C aks Wd.1 cs_X0_112 (mk_W_isStatement D r16 g_r16 _ hw l _) [] rfl (by decide) [] rfl rfl rfl ⟨(Nat.le_of_ble_eq_true rfl), (Nat.le_of_ble_eq_true rfl)⟩ hl.1 rfl rfl (Nat.le_of_ble_eq_true rfl) ⟨(Nat.le_of_ble_eq_true rfl), (Nat.le_of_ble_eq_true rfl)⟩ dX0_copyBehind_19) (fun y19 hy => ?_)
    obtain ⟨r19, rfl, g_r19, hw⟩ := hy
    refine lv_if_eq (tgt := 98) C.1 C.2.1 dX0_copyBehind_22 (by decide) (fun c22 => ?_) (fun c22 => ?_)
    · have hw := hw.1 (z0_eq g_r19 c22)
      exact k_retKv C hr hlk Wd hw dX0_copyBehind_98
    · have hw := hw.2 (z0_ne g_r19 c22)
      refine lv_aload_n C.1 C.2.1 dX0_copyBehind_25 rfl (lv_at hl 0 rfl) ?_
      refine lv_iload C.1 C.2.1 dX0_copyBehind_26 (lv_at hl 3 rfl) ?_
      refine k_pi (k_runVK (rest := []) C aks Wd cs_X0_115 (mk_W_statementEnd D ad ca rf σ6 Wd.2.1 Wd.2.2 x0 l5_6 g_x0 g_l5_6 _ hw l _) (cxRow g_x0) rfl rfl rfl rfl ⟨(Nat.le_of_ble_eq_true rfl), (Nat.le_of_ble_eq_true rfl)⟩ hl.1 rfl rfl (Nat.le_of_ble_eq_true rfl) ⟨(Nat.le_of_ble_eq_true rfl), (Nat.le_of_ble_eq_true rfl)⟩ dX0_copyBehind_28) (fun y28 hy => ?_)
      obtain ⟨r28, rfl, g_r28, hw⟩ := hy
      refine lv_istore (lv' := [(7, .int (zI r28)), (1, .ref (ad (rowC x0.toNat))), (3, .int (zI x2)), (4, .int (zI x3)), (5, .int (zI l5_6)), (6, .int (zI l6_6))]) C.1 C.2.1 dX0_copyBehind_31 hl (by decide) rfl (fun ls hl => ?_)
      replace hl := lv_sub hl [1, 2, 3, 4, 5, 0] rfl
      refine lv_aload_n C.1 C.2.1 dX0_copyBehind_33 rfl (lv_at hl 0 rfl) ?_
      refine lv_bipush (v := zI 100) C.1 C.2.1 dX0_copyBehind_34 (by decide) ?_
      refine lv_iload_n C.1 C.2.1 dX0_copyBehind_36 rfl (lv_at hl 1 rfl) ?_
      refine k_iadd (v := zI (100 + x2)) C (zI_iadd _ _) dX0_copyBehind_37 ?_
      refine lv_iload C.1 C.2.1 dX0_copyBehind_38 (lv_at hl 3 rfl) ?_
      refine lv_iload C.1 C.2.1 dX0_copyBehind_40 (lv_at hl 5 rfl) ?_
      obtain ⟨g42_14, hw⟩ := hw
      refine k_pi (k_runVK (rest := []) C aks Wd cs_X0_102 (mk_W_has D ad ca rf σ6 Wd.2.1 Wd.2.2 x0 (100 + x2) l5_6 r28 g_x0 g42_14 g_l5_6 g_r28 _ hw l _) (cxRow g_x0) rfl rfl rfl rfl ⟨(Nat.le_of_ble_eq_true rfl), (Nat.le_of_ble_eq_true rfl)⟩ hl.1 rfl rfl (Nat.le_of_ble_eq_true rfl) ⟨(Nat.le_of_ble_eq_true rfl), (Nat.le_of_ble_eq_true rfl)⟩ dX0_copyBehind_42) (fun y42 hy => ?_)
      obtain ⟨r42, rfl, g_r42, hw⟩ := hy
      refine lv_istore (lv' := [(8, .int (zI r42)), (1, .ref (ad (rowC x0.toNat))), (3, .int (zI x2)), (4, .int (zI x3)), (5, .int (zI l5_6)), (6, .int (zI l6_6)), (7, .int (zI r28))]) C.1 C.2.1 dX0_copyBehind_45 hl (by decide) rfl (fun ls hl => ?_)
      replace hl := lv_sub hl [1, 2, 3, 4, 5, 6, 0] rfl
      refine lv_iload C.1 C.2.1 dX0_copyBehind_47 (lv_at hl 6 rfl) ?_
      refine k_cut0 (fun H locs ls => wp5_A_copyBehind_65 K x0 x2 x3 l5_6 l6_6 r28 r42 σ6 L6 ∧ wXK D ad ca rf s σ6 H A s.heap locs ∧ lv_has ls 9 [(1, .ref (ad (rowC x0.toNat))), (3, .int (zI x2)), (4, .int (zI x3)), (5, .int (zI l5_6)), (6, .int (zI l6_6)), (7, .int (zI r28)), (8, .int (zI r42))]) (fun  ls => F0 m 65 ls []) (fun  H locs ls hi => ?_) (fun J65 => ?_)
      · obtain ⟨hw, Wd, hl⟩ := hi
        unfold wp5_A_copyBehind_65 at hw
        refine lv_aload_n C.1 C.2.1 dX0_copyBehind_65 rfl (lv_at hl 0 rfl) ?_
        refine lv_bipush (v := zI 20) C.1 C.2.1 dX0_copyBehind_66 (by decide) ?_
        refine lv_iload_n C.1 C.2.1 dX0_copyBehind_68 rfl (lv_at hl 1 rfl) ?_
        refine k_iadd (v := zI (20 + x2)) C (zI_iadd _ _) dX0_copyBehind_69 ?_
        refine lv_bipush (v := zI 20) C.1 C.2.1 dX0_copyBehind_70 (by decide) ?_
        refine lv_iload C.1 C.2.1 dX0_copyBehind_72 (lv_at hl 2 rfl) ?_
        refine k_iadd (v := zI (20 + x3)) C (zI_iadd _ _) dX0_copyBehind_74 ?_
        refine lv_iload C.1 C.2.1 dX0_copyBehind_75 (lv_at hl 3 rfl) ?_
        refine lv_iload C.1 C.2.1 dX0_copyBehind_77 (lv_at hl 5 rfl) ?_
        obtain ⟨g79_15, hw⟩ := hw
        obtain ⟨g79_16, hw⟩ := hw
        refine k_cKv Wd (k_runVK (rest := []) C aks Wd cs_X0_118 (mk_W_replace D ad ca rf σ6 Wd.2.1 Wd.2.2 x0 (20 + x2) (20 + x3) l5_6 r28 g_x0 g79_15 g79_16 g_l5_6 g_r28 _ hw l _) (cxRow g_x0) rfl rfl rfl rfl ⟨(Nat.le_of_ble_eq_true rfl), (Nat.le_of_ble_eq_true rfl)⟩ hl.1 rfl rfl (Nat.le_of_ble_eq_true rfl) ⟨(Nat.le_of_ble_eq_true rfl), (Nat.le_of_ble_eq_true rfl)⟩ dX0_copyBehind_79) (fun σr79 H locs hw Wd => ?_)
        have hS_σr79 := Wd.2.1
        refine lv_iload C.1 C.2.1 dX0_copyBehind_82 (lv_at hl 6 rfl) ?_
        refine lv_if_eq (tgt := 88) C.1 C.2.1 dX0_copyBehind_84 (by decide) (fun c84 => ?_) (fun c84 => ?_)
        · have hw := hw.1 (z0_eq g_r42 c84)
          refine lv_iload C.1 C.2.1 dX0_copyBehind_88 (lv_at hl 5 rfl) ?_
          refine lv_istore (lv' := [(5, .int (zI r28)), (1, .ref (ad (rowC x0.toNat))), (3, .int (zI x2)), (4, .int (zI x3)), (6, .int (zI l6_6)), (7, .int (zI r28)), (8, .int (zI r42))]) C.1 C.2.1 dX0_copyBehind_90 hl (by decide) rfl (fun ls hl => ?_)
          replace hl := lv_sub hl [1, 2, 3, 0, 4, 5, 6] rfl
          refine lv_iinc (v := zI (l6_6 + 1)) (lv' := [(6, .int (zI (l6_6 + 1))), (1, .ref (ad (rowC x0.toNat))), (3, .int (zI x2)), (4, .int (zI x3)), (5, .int (zI r28)), (7, .int (zI r28)), (8, .int (zI r42))]) C.1 C.2.1 dX0_copyBehind_92 hl (k := 4) rfl (zI_inc _ _ (by decide)) (by decide) rfl (fun ls hl => ?_)
          replace hl := lv_sub hl [1, 2, 3, 4, 0, 5, 6] rfl
          refine lv_goto (tgt := 6) C.1 C.2.1 dX0_copyBehind_95 (by decide) ?_
          obtain ⟨g95_17, hw⟩ := hw
          exact hL6 _ _ _ hw _ _ _ ⟨g_r28, g95_17, Wd, lv_sub hl [0, 1, 2, 3, 4] rfl⟩
        · have hw := hw.2 (z0_ne g_r42 c84)
          exact k_retKv C hr hlk Wd hw dX0_copyBehind_87
      refine lv_if_eq (tgt := 65) C.1 C.2.1 dX0_copyBehind_49 (by decide) (fun c49 => ?_) (fun c49 => ?_)
      · have hw := hw.1 (z0_eq g_r42 c49)
        exact J65  _ _ _ ⟨hw, Wd, lv_sub hl [0, 1, 2, 3, 4, 5, 6] rfl⟩
      · have hw := hw.2 (z0_ne g_r42 c49)
        refine lv_aload_n C.1 C.2.1 dX0_copyBehind_52 rfl (lv_at hl 0 rfl) ?_
        refine lv_iload C.1 C.2.1 dX0_copyBehind_53 (lv_at hl 3 rfl) ?_
        refine k_pi (k_runVK (rest := []) C aks Wd cs_X0_35 (mk_W_cell D ad ca rf σ6 Wd.2.1 Wd.2.2 x0 l5_6 g_x0 g_l5_6 _ hw l _) (cxRow g_x0) rfl rfl rfl rfl ⟨(Nat.le_of_ble_eq_true rfl), (Nat.le_of_ble_eq_true rfl)⟩ hl.1 rfl rfl (Nat.le_of_ble_eq_true rfl) ⟨(Nat.le_of_ble_eq_true rfl), (Nat.le_of_ble_eq_true rfl)⟩ dX0_copyBehind_55) (fun y55 hy => ?_)
        obtain ⟨r55, rfl, g_r55, hw⟩ := hy
        refine k_pi (k_runS (rest := []) C aks Wd.1 cs_X0_43 (mk_W_isBranch D r55 g_r55 _ hw l _) [] rfl (by decide) [] rfl rfl rfl ⟨(Nat.le_of_ble_eq_true rfl), (Nat.le_of_ble_eq_true rfl)⟩ hl.1 rfl rfl (Nat.le_of_ble_eq_true rfl) ⟨(Nat.le_of_ble_eq_true rfl), (Nat.le_of_ble_eq_true rfl)⟩ dX0_copyBehind_58) (fun y58 hy => ?_)
        obtain ⟨r58, rfl, g_r58, hw⟩ := hy
        refine lv_if_eq (tgt := 65) C.1 C.2.1 dX0_copyBehind_61 (by decide) (fun c61 => ?_) (fun c61 => ?_)
        · have hw := hw.1 (z0_eq g_r58 c61)
          exact J65  _ _ _ ⟨hw, Wd, lv_sub hl [0, 1, 2, 3, 4, 5, 6] rfl⟩
        · have hw := hw.2 (z0_ne g_r58 c61)
          exact k_retKv C hr hlk Wd hw dX0_copyBehind_64
