set_option maxHeartbeats 4000000 in
set_option maxRecDepth 100000 in
theorem mk_F_link_54 : ∀ (D : va_G) (ad : Nat → Nat) (ca : Nat → ClassId) (rf : Nat → Nat → Option Nat) (σ : Sg) (hS : rngK σ) (hRF : RFok ad rf) (K : Sg → Prop) (hw : wp5_F_link σ 54 K) (l : Launch) (sz : Nat), Met l yX1_link (Cond.code yX1_link cX1_link 4 none :: gG) { frames := 3, cells := 0, slots := 0, locals := 108 } (cPre D (tC ca) (wK ad ca rf σ) sz [.ref (ad 54)]) (va_Qv (fun (u : Sg) => K u ∧ rngK u) (fun u t => cB D (va_A (wK ad ca rf σ) sz) [] (wK ad ca rf u) t) (va_A (wK ad ca rf σ) sz)) 0 0 (va_A (wK ad ca rf σ) sz) := by
  intro D ad ca rf σ hS hRF  K hw l sz
  refine Met.ofW (cc := cX1_link) (maxL := 4) (ret := none) (by decide) rfl ?_
  intro p e s m args below meth c s₁ B hml hv
  obtain ⟨rfl, aks, rfl, Wd⟩ := k_enter hv
  have C : CallFix p m c cX1_link 4 s _ gG RX1 := ⟨B.exec, B.bytes, hml, findClass_of_methodNamed B.named, fun w h => atoms_spec (ws := Cond.code yX1_link cX1_link 4 none :: gG) B.pre w (List.mem_cons_of_mem _ h)⟩
  have hr := B.returns
  have hlk := B.notSynchronized
  generalize va_A (wK ad ca rf σ) s.heap.size = A at Wd ⊢
  replace Wd : wXK D ad ca rf s σ s.heap A s.heap [] := ⟨Wd, hS, hRF⟩
  refine k_locals (Nat.le_of_ble_eq_true rfl) [(0, .ref (ad 54))] rfl (fun ls hl => ?_)
  unfold wp5_F_link at hw
  refine lv_iconst (v := zI (-1)) C.1 C.2.1 dX1_link_0 (by decide) ?_
  refine lv_istore_n (lv' := [(1, .int (zI (-1))), (0, .ref (ad 54))]) C.1 C.2.1 dX1_link_1 rfl hl (by decide) rfl (fun ls hl => ?_)
  replace hl := lv_sub hl [1, 0] rfl
  refine lv_aload_n C.1 C.2.1 dX1_link_2 rfl (lv_at hl 0 rfl) ?_
  obtain ⟨n3_0, hw⟩ := hw
  refine k_get (v := .ref (ad (rowC (σ.1 54 0).toNat))) C Wd.1 KX1 _ 0 (cx54 _) (by decide) fl_X1_14 (congrArg some (rvW_ref n3_0)) dX1_link_3 ?_
  refine k_get (v := .int (zI (σ.2.2.1 0 (σ.1 54 0)))) C Wd.1 KX8 _ 1 (cxRow n3_0) (by decide) fl_X1_78 rfl dX1_link_6 ?_
  refine lv_aload_n C.1 C.2.1 dX1_link_9 rfl (lv_at hl 0 rfl) ?_
  refine k_get (v := .ref (ad 66)) C Wd.1 KX1 _ 13 (cx54 _) (by decide) fl_X1_54 rfl dX1_link_10 ?_
  refine k_alen (v := zI 480) C Wd.1 66 66 (cx66 _) (tC_at (by decide) rfl) rfl dX1_link_13 ?_
  refine k_mmin (v := zI (min (σ.2.2.1 0 (σ.1 54 0)) 480)) C hl.1 ml_X1_103 st_Lib_Math_min_name in_J9 cd_min (Nat.le_of_ble_eq_true rfl) (Nat.le_of_ble_eq_true rfl) (Nat.le_of_ble_eq_true rfl) (Nat.le_of_ble_eq_true rfl) (zmin_eq _ _ (rgY hS (N := 35) n3_0) (show rng 480 from by decide)) dX1_link_14 ?_
  refine lv_iconst (v := zI 1) C.1 C.2.1 dX1_link_17 (by decide) ?_
  refine k_isub (v := zI ((min (σ.2.2.1 0 (σ.1 54 0)) 480) - 1)) C (zI_isub _ _) dX1_link_18 ?_
  refine lv_istore_n (lv' := [(2, .int (zI ((min (σ.2.2.1 0 (σ.1 54 0)) 480) - 1))), (0, .ref (ad 54)), (1, .int (zI (-1)))]) C.1 C.2.1 dX1_link_19 rfl hl (by decide) rfl (fun ls hl => ?_)
  replace hl := lv_sub hl [1, 2, 0] rfl
  obtain ⟨g19_5, hw⟩ := hw
  refine k_lp3 hw (fun (l1_20 : Int) (l2_20 : Int) (σ20 : Sg) H locs ls => rng l1_20 ∧ rng l2_20 ∧ wXK D ad ca rf s σ20 H A s.heap locs ∧ lv_has ls 4 [(0, .ref (ad 54)), (1, .int (zI l1_20)), (2, .int (zI l2_20))]) (fun (l1_20 : Int) (l2_20 : Int) (σ20 : Sg) ls => F0 m 20 ls []) (fun L20 hL20 l1_20 l2_20 σ20 hw H locs ls hi => ?_) _ _ _ ⟨(show rng (-1) from by decide), g19_5, Wd, lv_sub hl [0, 1, 2] rfl⟩
  obtain ⟨g_l1_20, g_l2_20, Wd, hl⟩ := hi
  have hS_σ20 := Wd.2.1
  unfold wp5_F_link_20 at hw
  refine lv_iload_n C.1 C.2.1 dX1_link_20 rfl (lv_at hl 2 rfl) ?_
  refine lv_if_lt (tgt := 60) C.1 C.2.1 dX1_link_21 (by decide) (fun c21 => ?_) (fun c21 => ?_)
  · have hw := hw.1 (z0_lt g_l2_20 c21)
    exact k_retKv C hr hlk Wd hw dX1_link_60
  · have hw := hw.2 (z0_nlt g_l2_20 c21)
    refine lv_aload_n C.1 C.2.1 dX1_link_24 rfl (lv_at hl 0 rfl) ?_
    refine k_get (v := .ref (ad 66)) C Wd.1 KX1 _ 13 (cx54 _) (by decide) fl_X1_54 rfl dX1_link_25 ?_
    refine lv_iload_n C.1 C.2.1 dX1_link_28 rfl (lv_at hl 2 rfl) ?_
    obtain ⟨n29_0, hw⟩ := hw
    refine k_ialdK (g := (σ20.2.1 66)) C Wd (cx66 _) (tC_at (by decide) rfl) n29_0 (by decide) dX1_link_29 ?_
    have ga29 : rng (σ20.2.1 66 l2_20) := rngL (fun j => (Wd.2.1).2.1 66 j) n29_0
    refine lv_istore_n (lv' := [(3, .int (zI (σ20.2.1 66 l2_20))), (0, .ref (ad 54)), (1, .int (zI l1_20)), (2, .int (zI l2_20))]) C.1 C.2.1 dX1_link_30 rfl hl (by decide) rfl (fun ls hl => ?_)
    replace hl := lv_sub hl [1, 2, 3, 0] rfl
    refine lv_aload_n C.1 C.2.1 dX1_link_31 rfl (lv_at hl 0 rfl) ?_
    refine lv_iload_n C.1 C.2.1 dX1_link_32 rfl (lv_at hl 3 rfl) ?_
    refine k_pi (k_runVK (rest := []) C aks Wd cs_X1_70 (mk_F_isHere_54 D ad ca rf σ20 Wd.2.1 Wd.2.2 (σ20.2.1 66 l2_20) ga29 _ hw l _) (cx54 _) rfl rfl rfl rfl ⟨(Nat.le_of_ble_eq_true rfl), (Nat.le_of_ble_eq_true rfl)⟩ hl.1 rfl rfl (Nat.le_of_ble_eq_true rfl) ⟨(Nat.le_of_ble_eq_true rfl), (Nat.le_of_ble_eq_true rfl)⟩ dX1_link_33) (fun y33 hy => ?_)
    obtain ⟨r33, rfl, g_r33, hw⟩ := hy
    refine lv_if_eq (tgt := 54) C.1 C.2.1 dX1_link_36 (by decide) (fun c36 => ?_) (fun c36 => ?_)
    · have hw := hw.1 (z0_eq g_r33 c36)
      refine lv_iinc (v := zI (l2_20 - 1)) (lv' := [(2, .int (zI (l2_20 - 1))), (0, .ref (ad 54)), (1, .int (zI l1_20)), (3, .int (zI (σ20.2.1 66 l2_20)))]) C.1 C.2.1 dX1_link_54 hl (k := 2) rfl (zI_dec _ _ (by decide)) (by decide) rfl (fun ls hl => ?_)
      replace hl := lv_sub hl [1, 2, 0, 3] rfl
      refine lv_goto (tgt := 20) C.1 C.2.1 dX1_link_57 (by decide) ?_
      obtain ⟨g57_6, hw⟩ := hw
      exact hL20 _ _ _ hw _ _ _ ⟨g_l1_20, g57_6, Wd, lv_sub hl [0, 1, 2] rfl⟩
    · have hw := hw.2 (z0_ne g_r33 c36)
      refine lv_aload_n C.1 C.2.1 dX1_link_39 rfl (lv_at hl 0 rfl) ?_
      refine lv_aload_n C.1 C.2.1 dX1_link_40 rfl (lv_at hl 0 rfl) ?_
      obtain ⟨n41_0, hw⟩ := hw
      refine k_get (v := .ref (ad (rowC (σ20.1 54 0).toNat))) C Wd.1 KX1 _ 0 (cx54 _) (by decide) fl_X1_14 (congrArg some (rvW_ref n41_0)) dX1_link_41 ?_
      refine lv_iload_n C.1 C.2.1 dX1_link_44 rfl (lv_at hl 2 rfl) ?_
      refine k_pi (k_runVK (rest := [.ref (ad 54)]) C aks Wd cs_X1_81 (mk_W_cell D ad ca rf σ20 Wd.2.1 Wd.2.2 (σ20.1 54 0) l2_20 n41_0 g_l2_20 _ hw l _) (cxRow n41_0) rfl rfl rfl rfl ⟨(Nat.le_of_ble_eq_true rfl), (Nat.le_of_ble_eq_true rfl)⟩ hl.1 rfl rfl (Nat.le_of_ble_eq_true rfl) ⟨(Nat.le_of_ble_eq_true rfl), (Nat.le_of_ble_eq_true rfl)⟩ dX1_link_45) (fun y45 hy => ?_)
      obtain ⟨r45, rfl, g_r45, hw⟩ := hy
      refine lv_iload_n C.1 C.2.1 dX1_link_48 rfl (lv_at hl 3 rfl) ?_
      refine lv_iload_n C.1 C.2.1 dX1_link_49 rfl (lv_at hl 1 rfl) ?_
      refine k_cKi Wd (k_runVK (rest := []) C aks Wd cs_X1_109 (mk_F_linkAt_54 D ad ca rf σ20 Wd.2.1 Wd.2.2 r45 (σ20.2.1 66 l2_20) l1_20 g_r45 ga29 g_l1_20 _ hw l _) (cx54 _) rfl rfl rfl rfl ⟨(Nat.le_of_ble_eq_true rfl), (Nat.le_of_ble_eq_true rfl)⟩ hl.1 rfl rfl (Nat.le_of_ble_eq_true rfl) ⟨(Nat.le_of_ble_eq_true rfl), (Nat.le_of_ble_eq_true rfl)⟩ dX1_link_50) (fun r50 σr50 H locs g_r50 hw Wd => ?_)
      have hS_σr50 := Wd.2.1
      refine lv_istore_n (lv' := [(1, .int (zI r50)), (0, .ref (ad 54)), (2, .int (zI l2_20)), (3, .int (zI (σ20.2.1 66 l2_20)))]) C.1 C.2.1 dX1_link_53 rfl hl (by decide) rfl (fun ls hl => ?_)
      replace hl := lv_sub hl [1, 0, 2, 3] rfl
      refine lv_iinc (v := zI (l2_20 - 1)) (lv' := [(2, .int (zI (l2_20 - 1))), (0, .ref (ad 54)), (1, .int (zI r50)), (3, .int (zI (σ20.2.1 66 l2_20)))]) C.1 C.2.1 dX1_link_54 hl (k := 2) rfl (zI_dec _ _ (by decide)) (by decide) rfl (fun ls hl => ?_)
      replace hl := lv_sub hl [1, 2, 0, 3] rfl
      refine lv_goto (tgt := 20) C.1 C.2.1 dX1_link_57 (by decide) ?_
      obtain ⟨g57_7, hw⟩ := hw
      exact hL20 _ _ _ hw _ _ _ ⟨g_r50, g57_7, Wd, lv_sub hl [0, 1, 2] rfl⟩
set_option maxHeartbeats 4000000 in
set_option maxRecDepth 100000 in
theorem mk_F_aheadOf_54 : ∀ (D : va_G) (ad : Nat → Nat) (ca : Nat → ClassId) (rf : Nat → Nat → Option Nat) (σ : Sg) (hS : rngK σ) (hRF : RFok ad rf) (x0 : Int) (g_x0 : rng x0) (K : Int → Prop) (hw : wp5_F_aheadOf σ 54 x0 K) (l : Launch) (sz : Nat), Met l yX1_aheadOf (Cond.code yX1_aheadOf cX1_aheadOf 2 (some .int) :: gG) { frames := 2, cells := 0, slots := 0, locals := 85 } (cPre D (tC ca) (wK ad ca rf σ) sz [.ref (ad 54), .int (zI x0)]) (vp_Si (fun r => ∃ x : Int, r = zI x ∧ rng x ∧ K x)) 0 0 (fun _ => False) := by
  intro D ad ca rf σ hS hRF x0 g_x0 K hw l sz
  refine Met.ofW (cc := cX1_aheadOf) (maxL := 2) (ret := (some .int)) (by decide) rfl ?_
  intro p e s m args below meth c s₁ B hml hv
  obtain ⟨rfl, aks, rfl, Wd⟩ := k_enter hv
  have C : CallFix p m c cX1_aheadOf 2 s _ gG RX1 := ⟨B.exec, B.bytes, hml, findClass_of_methodNamed B.named, fun w h => atoms_spec (ws := Cond.code yX1_aheadOf cX1_aheadOf 2 (some .int) :: gG) B.pre w (List.mem_cons_of_mem _ h)⟩
  have hr := B.returns
  have hlk := B.notSynchronized
  obtain ⟨A, Wd⟩ : ∃ A, wXK D ad ca rf s σ s.heap A s.heap [] := ⟨_, Wd, hS, hRF⟩
  refine k_locals (Nat.le_of_ble_eq_true rfl) [(0, .ref (ad 54)), (1, .int (zI x0))] rfl (fun ls hl => ?_)
  unfold wp5_F_aheadOf at hw
  refine lv_aload_n C.1 C.2.1 dX1_aheadOf_0 rfl (lv_at hl 0 rfl) ?_
  refine lv_iload_n C.1 C.2.1 dX1_aheadOf_1 rfl (lv_at hl 1 rfl) ?_
  refine k_pi (k_runVK (rest := []) C aks Wd cs_X1_70 (mk_F_isHere_54 D ad ca rf σ Wd.2.1 Wd.2.2 x0 g_x0 _ hw l _) (cx54 _) rfl rfl rfl rfl ⟨(Nat.le_of_ble_eq_true rfl), (Nat.le_of_ble_eq_true rfl)⟩ hl.1 rfl rfl (Nat.le_of_ble_eq_true rfl) ⟨(Nat.le_of_ble_eq_true rfl), (Nat.le_of_ble_eq_true rfl)⟩ dX1_aheadOf_2) (fun y2 hy => ?_)
  obtain ⟨r2, rfl, g_r2, hw⟩ := hy
  refine lv_if_eq (tgt := 17) C.1 C.2.1 dX1_aheadOf_5 (by decide) (fun c5 => ?_) (fun c5 => ?_)
  · have hw := hw.1 (z0_eq g_r2 c5)
    refine lv_iconst (v := zI 0) C.1 C.2.1 dX1_aheadOf_17 (by decide) ?_
    exact k_zretP C hr hlk rfl ⟨_, rfl, (show rng 0 from by decide), hw⟩ dX1_aheadOf_18
  · have hw := hw.2 (z0_ne g_r2 c5)
    refine lv_aload_n C.1 C.2.1 dX1_aheadOf_8 rfl (lv_at hl 0 rfl) ?_
    refine k_get (v := .ref (ad 63)) C Wd.1 KX1 _ 10 (cx54 _) (by decide) fl_X1_45 rfl dX1_aheadOf_9 ?_
    refine lv_iload_n C.1 C.2.1 dX1_aheadOf_12 rfl (lv_at hl 1 rfl) ?_
    obtain ⟨n13_0, hw⟩ := hw
    refine k_ialdK (g := (σ.2.1 63)) C Wd (cx63 _) (tC_at (by decide) rfl) n13_0 (by decide) dX1_aheadOf_13 ?_
    have ga13 : rng (σ.2.1 63 x0) := rngL (fun j => (Wd.2.1).2.1 63 j) n13_0
    refine lv_goto (tgt := 18) C.1 C.2.1 dX1_aheadOf_14 (by decide) ?_
    exact k_zretP C hr hlk rfl ⟨_, rfl, ga13, hw⟩ dX1_aheadOf_18
set_option maxHeartbeats 4000000 in
set_option maxRecDepth 100000 in
theorem mk_F_settle_54 : ∀ (D : va_G) (ad : Nat → Nat) (ca : Nat → ClassId) (rf : Nat → Nat → Option Nat) (σ : Sg) (hS : rngK σ) (hRF : RFok ad rf) (K : Sg → Prop) (hw : wp5_F_settle σ 54 K) (l : Launch) (sz : Nat), Met l yX1_settle (Cond.code yX1_settle cX1_settle 5 none :: gG) { frames := 3, cells := 0, slots := 0, locals := 106 } (cPre D (tC ca) (wK ad ca rf σ) sz [.ref (ad 54)]) (va_Qv (fun (u : Sg) => K u ∧ rngK u) (fun u t => cB D (va_A (wK ad ca rf σ) sz) [] (wK ad ca rf u) t) (va_A (wK ad ca rf σ) sz)) 0 0 (va_A (wK ad ca rf σ) sz) := by
  intro D ad ca rf σ hS hRF  K hw l sz
  refine Met.ofW (cc := cX1_settle) (maxL := 5) (ret := none) (by decide) rfl ?_
  intro p e s m args below meth c s₁ B hml hv
  obtain ⟨rfl, aks, rfl, Wd⟩ := k_enter hv
  have C : CallFix p m c cX1_settle 5 s _ gG RX1 := ⟨B.exec, B.bytes, hml, findClass_of_methodNamed B.named, fun w h => atoms_spec (ws := Cond.code yX1_settle cX1_settle 5 none :: gG) B.pre w (List.mem_cons_of_mem _ h)⟩
  have hr := B.returns
  have hlk := B.notSynchronized
  generalize va_A (wK ad ca rf σ) s.heap.size = A at Wd ⊢
  replace Wd : wXK D ad ca rf s σ s.heap A s.heap [] := ⟨Wd, hS, hRF⟩
  refine k_locals (Nat.le_of_ble_eq_true rfl) [(0, .ref (ad 54))] rfl (fun ls hl => ?_)
  unfold wp5_F_settle at hw
  refine lv_iconst (v := zI 0) C.1 C.2.1 dX1_settle_0 (by decide) ?_
  refine lv_istore_n (lv' := [(1, .int (zI 0)), (0, .ref (ad 54))]) C.1 C.2.1 dX1_settle_1 rfl hl (by decide) rfl (fun ls hl => ?_)
  replace hl := lv_sub hl [1, 0] rfl
  refine k_lp2 hw (fun (l1_2 : Int) (σ2 : Sg) H locs ls => rng l1_2 ∧ wXK D ad ca rf s σ2 H A s.heap locs ∧ lv_has ls 5 [(0, .ref (ad 54)), (1, .int (zI l1_2))]) (fun (l1_2 : Int) (σ2 : Sg) ls => F0 m 2 ls []) (fun L2 hL2 l1_2 σ2 hw H locs ls hi => ?_) _ _ _ ⟨(show rng 0 from by decide), Wd, lv_sub hl [0, 1] rfl⟩
  obtain ⟨g_l1_2, Wd, hl⟩ := hi
  have hS_σ2 := Wd.2.1
  unfold wp5_F_settle_2 at hw
  refine lv_iload_n C.1 C.2.1 dX1_settle_2 rfl (lv_at hl 1 rfl) ?_
  refine lv_aload_n C.1 C.2.1 dX1_settle_3 rfl (lv_at hl 0 rfl) ?_
  refine k_get (v := .int (zI (σ2.1 54 1))) C Wd.1 KX1 _ 1 (cx54 _) (by decide) fl_X1_57 rfl dX1_settle_4 ?_
  refine k_cut0 (fun H locs ls => wp5_F_settle_29 K 54 σ2 ∧ wXK D ad ca rf s σ2 H A s.heap locs ∧ lv_has ls 5 [(0, .ref (ad 54))]) (fun  ls => F0 m 29 ls []) (fun  H locs ls hi => ?_) (fun J29 => ?_)
  · obtain ⟨hw, Wd, hl⟩ := hi
    unfold wp5_F_settle_29 at hw
    refine lv_iconst (v := zI 1) C.1 C.2.1 dX1_settle_29 (by decide) ?_
    refine lv_istore_n (lv' := [(1, .int (zI 1)), (0, .ref (ad 54))]) C.1 C.2.1 dX1_settle_30 rfl hl (by decide) rfl (fun ls hl => ?_)
    replace hl := lv_sub hl [1, 0] rfl
    refine lv_iconst (v := zI 0) C.1 C.2.1 dX1_settle_31 (by decide) ?_
    refine lv_istore_n (lv' := [(2, .int (zI 0)), (0, .ref (ad 54)), (1, .int (zI 1))]) C.1 C.2.1 dX1_settle_32 rfl hl (by decide) rfl (fun ls hl => ?_)
    replace hl := lv_sub hl [1, 2, 0] rfl
    refine k_lp3 hw (fun (l1_33 : Int) (l2_33 : Int) (σ33 : Sg) H locs ls => rng l1_33 ∧ rng l2_33 ∧ wXK D ad ca rf s σ33 H A s.heap locs ∧ lv_has ls 5 [(0, .ref (ad 54)), (1, .int (zI l1_33)), (2, .int (zI l2_33))]) (fun (l1_33 : Int) (l2_33 : Int) (σ33 : Sg) ls => F0 m 33 ls []) (fun L33 hL33 l1_33 l2_33 σ33 hw H locs ls hi => ?_) _ _ _ ⟨(show rng 1 from by decide), (show rng 0 from by decide), Wd, lv_sub hl [0, 1, 2] rfl⟩
    obtain ⟨g_l1_33, g_l2_33, Wd, hl⟩ := hi
    have hS_σ33 := Wd.2.1
    unfold wp5_F_settle_33 at hw
    refine lv_iload_n C.1 C.2.1 dX1_settle_33 rfl (lv_at hl 2 rfl) ?_
    refine lv_sipush (v := zI 241) C.1 C.2.1 dX1_settle_34 (zS (by decide) (by decide)) ?_
    refine lv_icmp_ge (tgt := 142) C.1 C.2.1 dX1_settle_37 (by decide) (fun c37 => ?_) (fun c37 => ?_)
    · have hw := hw.1 (z_le (show rng 241 from by decide) g_l2_33 c37)
      exact k_retKv C hr hlk Wd hw dX1_settle_142
    · have hw := hw.2 (z_nle (show rng 241 from by decide) g_l2_33 c37)
      refine lv_iload_n C.1 C.2.1 dX1_settle_40 rfl (lv_at hl 1 rfl) ?_
      refine lv_if_eq (tgt := 142) C.1 C.2.1 dX1_settle_41 (by decide) (fun c41 => ?_) (fun c41 => ?_)
      · have hw := hw.1 (z0_eq g_l1_33 c41)
        exact k_retKv C hr hlk Wd hw dX1_settle_142
      · have hw := hw.2 (z0_ne g_l1_33 c41)
        refine lv_iconst (v := zI 0) C.1 C.2.1 dX1_settle_44 (by decide) ?_
        refine lv_istore_n (lv' := [(1, .int (zI 0)), (0, .ref (ad 54)), (2, .int (zI l2_33))]) C.1 C.2.1 dX1_settle_45 rfl hl (by decide) rfl (fun ls hl => ?_)
        replace hl := lv_sub hl [1, 0, 2] rfl
        refine lv_aload_n C.1 C.2.1 dX1_settle_46 rfl (lv_at hl 0 rfl) ?_
        refine k_get (v := .int (zI (σ33.1 54 1))) C Wd.1 KX1 _ 1 (cx54 _) (by decide) fl_X1_57 rfl dX1_settle_47 ?_
        refine lv_bipush (v := zI 40) C.1 C.2.1 dX1_settle_50 (by decide) ?_
        refine k_mmin (v := zI (min (σ33.1 54 1) 40)) C hl.1 ml_X1_103 st_Lib_Math_min_name in_J9 cd_min (Nat.le_of_ble_eq_true rfl) (Nat.le_of_ble_eq_true rfl) (Nat.le_of_ble_eq_true rfl) (Nat.le_of_ble_eq_true rfl) (zmin_eq _ _ (hS_σ33.1 54 1) (show rng 40 from by decide)) dX1_settle_52 ?_
        refine lv_iconst (v := zI 1) C.1 C.2.1 dX1_settle_55 (by decide) ?_
        refine k_isub (v := zI ((min (σ33.1 54 1) 40) - 1)) C (zI_isub _ _) dX1_settle_56 ?_
        refine lv_istore_n (lv' := [(3, .int (zI ((min (σ33.1 54 1) 40) - 1))), (0, .ref (ad 54)), (1, .int (zI 0)), (2, .int (zI l2_33))]) C.1 C.2.1 dX1_settle_57 rfl hl (by decide) rfl (fun ls hl => ?_)
        replace hl := lv_sub hl [1, 2, 3, 0] rfl
        obtain ⟨g57_23, hw⟩ := hw
        refine k_lp3 hw (fun (l1_58 : Int) (l3_58 : Int) (σ58 : Sg) H locs ls => rng l1_58 ∧ rng l3_58 ∧ wXK D ad ca rf s σ58 H A s.heap locs ∧ lv_has ls 5 [(0, .ref (ad 54)), (1, .int (zI l1_58)), (2, .int (zI l2_33)), (3, .int (zI l3_58))]) (fun (l1_58 : Int) (l3_58 : Int) (σ58 : Sg) ls => F0 m 58 ls []) (fun L58 hL58 l1_58 l3_58 σ58 hw H locs ls hi => ?_) _ _ _ ⟨(show rng 0 from by decide), g57_23, Wd, lv_sub hl [0, 1, 2, 3] rfl⟩
        obtain ⟨g_l1_58, g_l3_58, Wd, hl⟩ := hi
        have hS_σ58 := Wd.2.1
        unfold wp5_F_settle_58 at hw
        refine lv_iload_n C.1 C.2.1 dX1_settle_58 rfl (lv_at hl 3 rfl) ?_
        refine lv_if_lt (tgt := 136) C.1 C.2.1 dX1_settle_59 (by decide) (fun c59 => ?_) (fun c59 => ?_)
        · have hw := hw.1 (z0_lt g_l3_58 c59)
          refine lv_iinc (v := zI (l2_33 + 1)) (lv' := [(2, .int (zI (l2_33 + 1))), (0, .ref (ad 54)), (1, .int (zI l1_58)), (3, .int (zI l3_58))]) C.1 C.2.1 dX1_settle_136 hl (k := 2) rfl (zI_inc _ _ (by decide)) (by decide) rfl (fun ls hl => ?_)
          replace hl := lv_sub hl [1, 2, 0, 3] rfl
          refine lv_goto (tgt := 33) C.1 C.2.1 dX1_settle_139 (by decide) ?_
          obtain ⟨g139_24, hw⟩ := hw
          exact hL33 _ _ _ hw _ _ _ ⟨g_l1_58, g139_24, Wd, lv_sub hl [0, 1, 2] rfl⟩
        · have hw := hw.2 (z0_nlt g_l3_58 c59)
          refine lv_aload_n C.1 C.2.1 dX1_settle_62 rfl (lv_at hl 0 rfl) ?_
          refine k_get (v := .ref (ad 61)) C Wd.1 KX1 _ 8 (cx54 _) (by decide) fl_X1_39 rfl dX1_settle_63 ?_
          refine lv_iload_n C.1 C.2.1 dX1_settle_66 rfl (lv_at hl 3 rfl) ?_
          obtain ⟨n67_0, hw⟩ := hw
          refine k_ialdK (g := (σ58.2.1 61)) C Wd (cx61 _) (tC_at (by decide) rfl) n67_0 (by decide) dX1_settle_67 ?_
          have ga67 : rng (σ58.2.1 61 l3_58) := rngL (fun j => (Wd.2.1).2.1 61 j) n67_0
          refine lv_aload_n C.1 C.2.1 dX1_settle_68 rfl (lv_at hl 0 rfl) ?_
          refine lv_aload_n C.1 C.2.1 dX1_settle_69 rfl (lv_at hl 0 rfl) ?_
          refine k_get (v := .ref (ad 59)) C Wd.1 KX1 _ 6 (cx54 _) (by decide) fl_X1_33 rfl dX1_settle_70 ?_
          refine lv_iload_n C.1 C.2.1 dX1_settle_73 rfl (lv_at hl 3 rfl) ?_
          refine k_ialdK (g := (σ58.2.1 59)) C Wd (cx59 _) (tC_at (by decide) rfl) n67_0 (by decide) dX1_settle_74 ?_
          have ga74 : rng (σ58.2.1 59 l3_58) := rngL (fun j => (Wd.2.1).2.1 59 j) n67_0
          refine k_pi (k_runVK (rest := [.int (zI (σ58.2.1 61 l3_58))]) C aks Wd cs_X1_74 (mk_F_aheadOf_54 D ad ca rf σ58 Wd.2.1 Wd.2.2 (σ58.2.1 59 l3_58) ga74 _ hw l _) (cx54 _) rfl rfl rfl rfl ⟨(Nat.le_of_ble_eq_true rfl), (Nat.le_of_ble_eq_true rfl)⟩ hl.1 rfl rfl (Nat.le_of_ble_eq_true rfl) ⟨(Nat.le_of_ble_eq_true rfl), (Nat.le_of_ble_eq_true rfl)⟩ dX1_settle_75) (fun y75 hy => ?_)
          obtain ⟨r75, rfl, g_r75, hw⟩ := hy
          refine lv_aload_n C.1 C.2.1 dX1_settle_78 rfl (lv_at hl 0 rfl) ?_
          refine lv_aload_n C.1 C.2.1 dX1_settle_79 rfl (lv_at hl 0 rfl) ?_
          refine k_get (v := .ref (ad 60)) C Wd.1 KX1 _ 7 (cx54 _) (by decide) fl_X1_36 rfl dX1_settle_80 ?_
          refine lv_iload_n C.1 C.2.1 dX1_settle_83 rfl (lv_at hl 3 rfl) ?_
          refine k_ialdK (g := (σ58.2.1 60)) C Wd (cx60 _) (tC_at (by decide) rfl) n67_0 (by decide) dX1_settle_84 ?_
          have ga84 : rng (σ58.2.1 60 l3_58) := rngL (fun j => (Wd.2.1).2.1 60 j) n67_0
          refine k_pi (k_runVK (rest := [.int (zI r75), .int (zI (σ58.2.1 61 l3_58))]) C aks Wd cs_X1_74 (mk_F_aheadOf_54 D ad ca rf σ58 Wd.2.1 Wd.2.2 (σ58.2.1 60 l3_58) ga84 _ hw l _) (cx54 _) rfl rfl rfl rfl ⟨(Nat.le_of_ble_eq_true rfl), (Nat.le_of_ble_eq_true rfl)⟩ hl.1 rfl rfl (Nat.le_of_ble_eq_true rfl) ⟨(Nat.le_of_ble_eq_true rfl), (Nat.le_of_ble_eq_true rfl)⟩ dX1_settle_85) (fun y85 hy => ?_)
          obtain ⟨r85, rfl, g_r85, hw⟩ := hy
          refine k_ior (v := zI (zior r75 r85)) C (zior_eq _ _) dX1_settle_88 ?_
          refine lv_aload_n C.1 C.2.1 dX1_settle_89 rfl (lv_at hl 0 rfl) ?_
          refine k_get (v := .ref (ad 62)) C Wd.1 KX1 _ 9 (cx54 _) (by decide) fl_X1_42 rfl dX1_settle_90 ?_
          refine lv_iload_n C.1 C.2.1 dX1_settle_93 rfl (lv_at hl 3 rfl) ?_
          refine k_ialdK (g := (σ58.2.1 62)) C Wd (cx62 _) (tC_at (by decide) rfl) n67_0 (by decide) dX1_settle_94 ?_
          have ga94 : rng (σ58.2.1 62 l3_58) := rngL (fun j => (Wd.2.1).2.1 62 j) n67_0
          refine lv_iconst (v := zI (-1)) C.1 C.2.1 dX1_settle_95 (by decide) ?_
          refine k_ixor (v := zI (zixor (σ58.2.1 62 l3_58) (-1))) C (zixor_eq _ _) dX1_settle_96 ?_
          refine k_iand (v := zI (ziand (zior r75 r85) (zixor (σ58.2.1 62 l3_58) (-1)))) C (ziand_eq _ _) dX1_settle_97 ?_
          refine k_ior (v := zI (zior (σ58.2.1 61 l3_58) (ziand (zior r75 r85) (zixor (σ58.2.1 62 l3_58) (-1))))) C (zior_eq _ _) dX1_settle_98 ?_
          refine lv_istore (lv' := [(4, .int (zI (zior (σ58.2.1 61 l3_58) (ziand (zior r75 r85) (zixor (σ58.2.1 62 l3_58) (-1)))))), (0, .ref (ad 54)), (1, .int (zI l1_58)), (2, .int (zI l2_33)), (3, .int (zI l3_58))]) C.1 C.2.1 dX1_settle_99 hl (by decide) rfl (fun ls hl => ?_)
          replace hl := lv_sub hl [1, 2, 3, 4, 0] rfl
          refine lv_iload_n C.1 C.2.1 dX1_settle_101 rfl (lv_at hl 1 rfl) ?_
          refine k_cut0 (fun H locs ls => wp5_F_settle_116 54 l3_58 r75 r85 σ58 L58 ∧ wXK D ad ca rf s σ58 H A s.heap locs ∧ lv_has ls 5 [(0, .ref (ad 54)), (2, .int (zI l2_33)), (3, .int (zI l3_58)), (4, .int (zI (zior (σ58.2.1 61 l3_58) (ziand (zior r75 r85) (zixor (σ58.2.1 62 l3_58) (-1))))))]) (fun  ls => F0 m 116 ls []) (fun  H locs ls hi => ?_) (fun J116 => ?_)
          · obtain ⟨hw, Wd, hl⟩ := hi
            unfold wp5_F_settle_116 at hw
            refine lv_iconst (v := zI 1) C.1 C.2.1 dX1_settle_116 (by decide) ?_
            refine lv_goto (tgt := 121) C.1 C.2.1 dX1_settle_117 (by decide) ?_
            refine lv_istore_n (lv' := [(1, .int (zI 1)), (0, .ref (ad 54)), (2, .int (zI l2_33)), (3, .int (zI l3_58)), (4, .int (zI (zior (σ58.2.1 61 l3_58) (ziand (zior r75 r85) (zixor (σ58.2.1 62 l3_58) (-1))))))]) C.1 C.2.1 dX1_settle_121 rfl hl (by decide) rfl (fun ls hl => ?_)
            replace hl := lv_sub hl [1, 0, 2, 3, 4] rfl
            refine lv_aload_n C.1 C.2.1 dX1_settle_122 rfl (lv_at hl 0 rfl) ?_
            refine k_get (v := .ref (ad 63)) C Wd.1 KX1 _ 10 (cx54 _) (by decide) fl_X1_45 rfl dX1_settle_123 ?_
            refine lv_iload_n C.1 C.2.1 dX1_settle_126 rfl (lv_at hl 3 rfl) ?_
            refine lv_iload C.1 C.2.1 dX1_settle_127 (lv_at hl 4 rfl) ?_
            refine k_iastF (g := (σ58.2.1 63)) (i := l3_58) (v := (zior (σ58.2.1 61 l3_58) (ziand (zior r75 r85) (zixor (σ58.2.1 62 l3_58) (-1))))) C Wd 63 (by decide) (cx63 _) (fun f => cx63a _ f) (tC_at (by decide) rfl) n67_0 (by decide) (ruZ (fun j => Wd.2.1.2.1 63 j) (rng_toInt _)) dX1_settle_129 (fun H locs Wd => ?_)
            refine lv_iinc (v := zI (l3_58 - 1)) (lv' := [(3, .int (zI (l3_58 - 1))), (0, .ref (ad 54)), (1, .int (zI 1)), (2, .int (zI l2_33)), (4, .int (zI (zior (σ58.2.1 61 l3_58) (ziand (zior r75 r85) (zixor (σ58.2.1 62 l3_58) (-1))))))]) C.1 C.2.1 dX1_settle_130 hl (k := 3) rfl (zI_dec _ _ (by decide)) (by decide) rfl (fun ls hl => ?_)
            replace hl := lv_sub hl [1, 2, 3, 0, 4] rfl
            refine lv_goto (tgt := 58) C.1 C.2.1 dX1_settle_133 (by decide) ?_
            obtain ⟨g133_25, hw⟩ := hw
            exact hL58 _ _ _ hw _ _ _ ⟨(show rng 1 from by decide), g133_25, Wd, lv_sub hl [0, 1, 2, 3] rfl⟩
          refine lv_if_ne (tgt := 116) C.1 C.2.1 dX1_settle_102 (by decide) (fun c102 => ?_) (fun c102 => ?_)
          · have hw := hw.1 (z0_ne g_l1_58 c102)
            exact J116  _ _ _ ⟨hw, Wd, lv_sub hl [0, 2, 3, 4] rfl⟩
          · have hw := hw.2 (z0_eq g_l1_58 c102)
            refine lv_iload C.1 C.2.1 dX1_settle_105 (lv_at hl 4 rfl) ?_
            refine lv_aload_n C.1 C.2.1 dX1_settle_107 rfl (lv_at hl 0 rfl) ?_
            refine k_get (v := .ref (ad 63)) C Wd.1 KX1 _ 10 (cx54 _) (by decide) fl_X1_45 rfl dX1_settle_108 ?_
            refine lv_iload_n C.1 C.2.1 dX1_settle_111 rfl (lv_at hl 3 rfl) ?_
            refine k_ialdK (g := (σ58.2.1 63)) C Wd (cx63 _) (tC_at (by decide) rfl) n67_0 (by decide) dX1_settle_112 ?_
            have ga112 : rng (σ58.2.1 63 l3_58) := rngL (fun j => (Wd.2.1).2.1 63 j) n67_0
            refine lv_icmp_eq (tgt := 120) C.1 C.2.1 dX1_settle_113 (by decide) (fun c113 => ?_) (fun c113 => ?_)
            · have hw := hw.1 (z_eq (rng_toInt _) ga112 c113)
              refine lv_iconst (v := zI 0) C.1 C.2.1 dX1_settle_120 (by decide) ?_
              refine lv_istore_n (lv' := [(1, .int (zI 0)), (0, .ref (ad 54)), (2, .int (zI l2_33)), (3, .int (zI l3_58)), (4, .int (zI (zior (σ58.2.1 61 l3_58) (ziand (zior r75 r85) (zixor (σ58.2.1 62 l3_58) (-1))))))]) C.1 C.2.1 dX1_settle_121 rfl hl (by decide) rfl (fun ls hl => ?_)
              replace hl := lv_sub hl [1, 0, 2, 3, 4] rfl
              refine lv_aload_n C.1 C.2.1 dX1_settle_122 rfl (lv_at hl 0 rfl) ?_
              refine k_get (v := .ref (ad 63)) C Wd.1 KX1 _ 10 (cx54 _) (by decide) fl_X1_45 rfl dX1_settle_123 ?_
              refine lv_iload_n C.1 C.2.1 dX1_settle_126 rfl (lv_at hl 3 rfl) ?_
              refine lv_iload C.1 C.2.1 dX1_settle_127 (lv_at hl 4 rfl) ?_
              refine k_iastF (g := (σ58.2.1 63)) (i := l3_58) (v := (zior (σ58.2.1 61 l3_58) (ziand (zior r75 r85) (zixor (σ58.2.1 62 l3_58) (-1))))) C Wd 63 (by decide) (cx63 _) (fun f => cx63a _ f) (tC_at (by decide) rfl) n67_0 (by decide) (ruZ (fun j => Wd.2.1.2.1 63 j) (rng_toInt _)) dX1_settle_129 (fun H locs Wd => ?_)
              refine lv_iinc (v := zI (l3_58 - 1)) (lv' := [(3, .int (zI (l3_58 - 1))), (0, .ref (ad 54)), (1, .int (zI 0)), (2, .int (zI l2_33)), (4, .int (zI (zior (σ58.2.1 61 l3_58) (ziand (zior r75 r85) (zixor (σ58.2.1 62 l3_58) (-1))))))]) C.1 C.2.1 dX1_settle_130 hl (k := 3) rfl (zI_dec _ _ (by decide)) (by decide) rfl (fun ls hl => ?_)
              replace hl := lv_sub hl [1, 2, 3, 0, 4] rfl
              refine lv_goto (tgt := 58) C.1 C.2.1 dX1_settle_133 (by decide) ?_
              obtain ⟨g133_26, hw⟩ := hw
              exact hL58 _ _ _ hw _ _ _ ⟨(show rng 0 from by decide), g133_26, Wd, lv_sub hl [0, 1, 2, 3] rfl⟩
            · have hw := hw.2 (z_ne (rng_toInt _) ga112 c113)
              exact J116  _ _ _ ⟨hw, Wd, lv_sub hl [0, 2, 3, 4] rfl⟩
  refine lv_icmp_ge (tgt := 29) C.1 C.2.1 dX1_settle_7 (by decide) (fun c7 => ?_) (fun c7 => ?_)
  · have hw := hw.1 (z_le (hS_σ2.1 54 1) g_l1_2 c7)
    exact J29  _ _ _ ⟨hw, Wd, lv_sub hl [0] rfl⟩
  · have hw := hw.2 (z_nle (hS_σ2.1 54 1) g_l1_2 c7)
    refine lv_iload_n C.1 C.2.1 dX1_settle_10 rfl (lv_at hl 1 rfl) ?_
    refine lv_bipush (v := zI 40) C.1 C.2.1 dX1_settle_11 (by decide) ?_
    refine lv_icmp_ge (tgt := 29) C.1 C.2.1 dX1_settle_13 (by decide) (fun c13 => ?_) (fun c13 => ?_)
    · have hw := hw.1 (z_le (show rng 40 from by decide) g_l1_2 c13)
      exact J29  _ _ _ ⟨hw, Wd, lv_sub hl [0] rfl⟩
    · have hw := hw.2 (z_nle (show rng 40 from by decide) g_l1_2 c13)
      refine lv_aload_n C.1 C.2.1 dX1_settle_16 rfl (lv_at hl 0 rfl) ?_
      refine k_get (v := .ref (ad 63)) C Wd.1 KX1 _ 10 (cx54 _) (by decide) fl_X1_45 rfl dX1_settle_17 ?_
      refine lv_iload_n C.1 C.2.1 dX1_settle_20 rfl (lv_at hl 1 rfl) ?_
      refine lv_iconst (v := zI 0) C.1 C.2.1 dX1_settle_21 (by decide) ?_
      obtain ⟨n22_0, hw⟩ := hw
      refine k_iastF (g := (σ2.2.1 63)) (i := l1_2) (v := 0) C Wd 63 (by decide) (cx63 _) (fun f => cx63a _ f) (tC_at (by decide) rfl) n22_0 (by decide) (ruZ (fun j => Wd.2.1.2.1 63 j) (show rng 0 from by decide)) dX1_settle_22 (fun H locs Wd => ?_)
      refine lv_iinc (v := zI (l1_2 + 1)) (lv' := [(1, .int (zI (l1_2 + 1))), (0, .ref (ad 54))]) C.1 C.2.1 dX1_settle_23 hl (k := 1) rfl (zI_inc _ _ (by decide)) (by decide) rfl (fun ls hl => ?_)
      replace hl := lv_sub hl [1, 0] rfl
      refine lv_goto (tgt := 2) C.1 C.2.1 dX1_settle_26 (by decide) ?_
      obtain ⟨g26_27, hw⟩ := hw
      exact hL2 _ _ hw _ _ _ ⟨g26_27, Wd, lv_sub hl [0, 1] rfl⟩
set_option maxHeartbeats 4000000 in
set_option maxRecDepth 100000 in
theorem mk_F_trace_54 : ∀ (D : va_G) (ad : Nat → Nat) (ca : Nat → ClassId) (rf : Nat → Nat → Option Nat) (σ : Sg) (hS : rngK σ) (hRF : RFok ad rf) (x0 : Int) (g_x0 : 0 ≤ x0 ∧ x0 < 35) (K : Sg → Prop) (hw : wp5_F_trace σ 54 x0 K) (l : Launch) (sz : Nat), Met l yX1_trace (Cond.code yX1_trace cX1_trace 2 none :: gG) { frames := 4, cells := 0, slots := 0, locals := 131 } (cPre D (tC ca) (wK ad ca rf σ) sz [.ref (ad 54), .ref (ad (rowC x0.toNat))]) (va_Qv (fun (u : Sg) => K u ∧ rngK u) (fun u t => cB D (va_A (wK ad ca rf σ) sz) [] (wK ad ca rf u) t) (va_A (wK ad ca rf σ) sz)) 0 0 (va_A (wK ad ca rf σ) sz) := by
  intro D ad ca rf σ hS hRF x0 g_x0 K hw l sz
  refine Met.ofW (cc := cX1_trace) (maxL := 2) (ret := none) (by decide) rfl ?_
  intro p e s m args below meth c s₁ B hml hv
  obtain ⟨rfl, aks, rfl, Wd⟩ := k_enter hv
  have C : CallFix p m c cX1_trace 2 s _ gG RX1 := ⟨B.exec, B.bytes, hml, findClass_of_methodNamed B.named, fun w h => atoms_spec (ws := Cond.code yX1_trace cX1_trace 2 none :: gG) B.pre w (List.mem_cons_of_mem _ h)⟩
  have hr := B.returns
  have hlk := B.notSynchronized
  generalize va_A (wK ad ca rf σ) s.heap.size = A at Wd ⊢
  replace Wd : wXK D ad ca rf s σ s.heap A s.heap [] := ⟨Wd, hS, hRF⟩
  refine k_locals (Nat.le_of_ble_eq_true rfl) [(0, .ref (ad 54)), (1, .ref (ad (rowC x0.toNat)))] rfl (fun ls hl => ?_)
  unfold wp5_F_trace at hw
  refine lv_aload_n C.1 C.2.1 dX1_trace_0 rfl (lv_at hl 0 rfl) ?_
  refine lv_aload_n C.1 C.2.1 dX1_trace_1 rfl (lv_at hl 1 rfl) ?_
  refine k_putW54 (n := x0) C Wd g_x0 fl_X1_14 dX1_trace_2 (fun H locs Wd => ?_)
  refine lv_aload_n C.1 C.2.1 dX1_trace_5 rfl (lv_at hl 0 rfl) ?_
  refine k_cKv Wd (k_runVK (rest := []) C aks Wd cs_X1_61 (mk_F_number_54 D ad ca rf (pU σ 54 0 x0) Wd.2.1 Wd.2.2   _ hw l _) (cx54 _) rfl rfl rfl rfl ⟨(Nat.le_of_ble_eq_true rfl), (Nat.le_of_ble_eq_true rfl)⟩ hl.1 rfl rfl (Nat.le_of_ble_eq_true rfl) ⟨(Nat.le_of_ble_eq_true rfl), (Nat.le_of_ble_eq_true rfl)⟩ dX1_trace_6) (fun σr6 H locs hw Wd => ?_)
  have hS_σr6 := Wd.2.1
  refine lv_aload_n C.1 C.2.1 dX1_trace_9 rfl (lv_at hl 0 rfl) ?_
  refine k_cKv Wd (k_runVK (rest := []) C aks Wd cs_X1_64 (mk_F_link_54 D ad ca rf σr6 Wd.2.1 Wd.2.2   _ hw l _) (cx54 _) rfl rfl rfl rfl ⟨(Nat.le_of_ble_eq_true rfl), (Nat.le_of_ble_eq_true rfl)⟩ hl.1 rfl rfl (Nat.le_of_ble_eq_true rfl) ⟨(Nat.le_of_ble_eq_true rfl), (Nat.le_of_ble_eq_true rfl)⟩ dX1_trace_10) (fun σr10 H locs hw Wd => ?_)
  have hS_σr10 := Wd.2.1
  refine lv_aload_n C.1 C.2.1 dX1_trace_13 rfl (lv_at hl 0 rfl) ?_
  refine k_cKv Wd (k_runVK (rest := []) C aks Wd cs_X1_67 (mk_F_settle_54 D ad ca rf σr10 Wd.2.1 Wd.2.2   _ hw l _) (cx54 _) rfl rfl rfl rfl ⟨(Nat.le_of_ble_eq_true rfl), (Nat.le_of_ble_eq_true rfl)⟩ hl.1 rfl rfl (Nat.le_of_ble_eq_true rfl) ⟨(Nat.le_of_ble_eq_true rfl), (Nat.le_of_ble_eq_true rfl)⟩ dX1_trace_14) (fun σr14 H locs hw Wd => ?_)
  have hS_σr14 := Wd.2.1
  exact k_retKv C hr hlk Wd hw dX1_trace_17
set_option maxHeartbeats 4000000 in
set_option maxRecDepth 100000 in
theorem mk_W_reckonM_33 : ∀ (D : va_G) (ad : Nat → Nat) (ca : Nat → ClassId) (rf : Nat → Nat → Option Nat) (σ : Sg) (hS : rngK σ) (hRF : RFok ad rf) (n0 : Int) (x0 : Int) (x1 : Int) (h_n0 : 0 ≤ n0 ∧ n0 < 35) (g_x0 : rng x0) (g_x1 : rng x1) (K : Sg → Prop) (hw : wp5_W_reckonM σ 33 n0 x0 x1 K) (l : Launch) (sz : Nat), Met l yX8_reckon (Cond.code yX8_reckon cX8_reckon 9 none :: gG) { frames := 2, cells := 0, slots := 0, locals := 96 } (cPre D (tC ca) (wK ad ca rf σ) sz [.ref (ad (rowC n0.toNat)), .int (zI x0), .int (zI x1), .ref (ad 35), .ref (ad 36)]) (va_Qv (fun (u : Sg) => K u ∧ rngK u) (fun u t => cB D (va_A (wK ad ca rf σ) sz) [] (wK ad ca rf u) t) (va_A (wK ad ca rf σ) sz)) 0 0 (va_A (wK ad ca rf σ) sz) := by
  intro D ad ca rf σ hS hRF n0 x0 x1 h_n0 g_x0 g_x1 K hw l sz
  refine Met.ofW (cc := cX8_reckon) (maxL := 9) (ret := none) (by decide) rfl ?_
  intro p e s m args below meth c s₁ B hml hv
  obtain ⟨rfl, aks, rfl, Wd⟩ := k_enter hv
  have C : CallFix p m c cX8_reckon 9 s _ gG RX8 := ⟨B.exec, B.bytes, hml, findClass_of_methodNamed B.named, fun w h => atoms_spec (ws := Cond.code yX8_reckon cX8_reckon 9 none :: gG) B.pre w (List.mem_cons_of_mem _ h)⟩
  have hr := B.returns
  have hlk := B.notSynchronized
  generalize va_A (wK ad ca rf σ) s.heap.size = A at Wd ⊢
  replace Wd : wXK D ad ca rf s σ s.heap A s.heap [] := ⟨Wd, hS, hRF⟩
  refine k_locals (Nat.le_of_ble_eq_true rfl) [(0, .ref (ad (rowC n0.toNat))), (1, .int (zI x0)), (2, .int (zI x1)), (3, .ref (ad 35)), (4, .ref (ad 36))] rfl (fun ls hl => ?_)
  unfold wp5_W_reckonM at hw
  refine lv_iconst (v := zI 0) C.1 C.2.1 dX8_reckon_0 (by decide) ?_
  refine lv_istore (lv' := [(5, .int (zI 0)), (0, .ref (ad (rowC n0.toNat))), (1, .int (zI x0)), (2, .int (zI x1)), (3, .ref (ad 35)), (4, .ref (ad 36))]) C.1 C.2.1 dX8_reckon_1 hl (by decide) rfl (fun ls hl => ?_)
  replace hl := lv_sub hl [1, 2, 3, 4, 5, 0] rfl
  refine lv_iload_n C.1 C.2.1 dX8_reckon_3 rfl (lv_at hl 2 rfl) ?_
  refine lv_aload_n C.1 C.2.1 dX8_reckon_4 rfl (lv_at hl 0 rfl) ?_
  refine k_get (v := .int (zI (σ.2.2.1 0 n0))) C Wd.1 KX8 _ 1 (cxRow h_n0) (by decide) fl_X8_21 rfl dX8_reckon_5 ?_
  refine k_mmin (v := zI (min x1 (σ.2.2.1 0 n0))) C hl.1 ml_X8_65 st_Lib_Math_min_name in_J9 cd_min (Nat.le_of_ble_eq_true rfl) (Nat.le_of_ble_eq_true rfl) (Nat.le_of_ble_eq_true rfl) (Nat.le_of_ble_eq_true rfl) (zmin_eq _ _ g_x1 (rgY hS (N := 35) h_n0)) dX8_reckon_8 ?_
  refine lv_iconst (v := zI 1) C.1 C.2.1 dX8_reckon_11 (by decide) ?_
  refine k_isub (v := zI ((min x1 (σ.2.2.1 0 n0)) - 1)) C (zI_isub _ _) dX8_reckon_12 ?_
  refine lv_istore (lv' := [(6, .int (zI ((min x1 (σ.2.2.1 0 n0)) - 1))), (0, .ref (ad (rowC n0.toNat))), (1, .int (zI x0)), (2, .int (zI x1)), (3, .ref (ad 35)), (4, .ref (ad 36)), (5, .int (zI 0))]) C.1 C.2.1 dX8_reckon_13 hl (by decide) rfl (fun ls hl => ?_)
  replace hl := lv_sub hl [1, 2, 3, 4, 5, 6, 0] rfl
  obtain ⟨g13_10, hw⟩ := hw
  refine k_lp3 hw (fun (l5_15 : Int) (l6_15 : Int) (σ15 : Sg) H locs ls => rng l5_15 ∧ rng l6_15 ∧ wXK D ad ca rf s σ15 H A s.heap locs ∧ lv_has ls 9 [(0, .ref (ad (rowC n0.toNat))), (1, .int (zI x0)), (3, .ref (ad 35)), (4, .ref (ad 36)), (5, .int (zI l5_15)), (6, .int (zI l6_15))]) (fun (l5_15 : Int) (l6_15 : Int) (σ15 : Sg) ls => F0 m 15 ls []) (fun L15 hL15 l5_15 l6_15 σ15 hw H locs ls hi => ?_) _ _ _ ⟨(show rng 0 from by decide), g13_10, Wd, lv_sub hl [0, 1, 3, 4, 5, 6] rfl⟩
  obtain ⟨g_l5_15, g_l6_15, Wd, hl⟩ := hi
  have hS_σ15 := Wd.2.1
  unfold wp5_W_reckonM_15 at hw
  refine lv_iload C.1 C.2.1 dX8_reckon_15 (lv_at hl 5 rfl) ?_
  refine lv_iload_n C.1 C.2.1 dX8_reckon_17 rfl (lv_at hl 1 rfl) ?_
  refine lv_icmp_lt (tgt := 143) C.1 C.2.1 dX8_reckon_18 (by decide) (fun c18 => ?_) (fun c18 => ?_)
  · have hw := hw.1 (z_lt g_l6_15 g_x0 c18)
    exact k_retKv C hr hlk Wd hw dX8_reckon_143
  · have hw := hw.2 (z_nlt g_l6_15 g_x0 c18)
    refine lv_iload C.1 C.2.1 dX8_reckon_21 (lv_at hl 5 rfl) ?_
    refine lv_if_lt (tgt := 143) C.1 C.2.1 dX8_reckon_23 (by decide) (fun c23 => ?_) (fun c23 => ?_)
    · have hw := hw.1 (z0_lt g_l6_15 c23)
      exact k_retKv C hr hlk Wd hw dX8_reckon_143
    · have hw := hw.2 (z0_nlt g_l6_15 c23)
      refine lv_aload_n C.1 C.2.1 dX8_reckon_26 rfl (lv_at hl 0 rfl) ?_
      refine k_get (v := .ref (ad ((rowC n0.toNat) + 1))) C Wd.1 KX8 _ 0 (cxRow h_n0) (by decide) fl_X8_15 rfl dX8_reckon_27 ?_
      refine lv_iload C.1 C.2.1 dX8_reckon_30 (lv_at hl 5 rfl) ?_
      obtain ⟨n32_0, hw⟩ := hw
      refine k_ialdK (g := (σ15.2.2.2 0 n0)) C Wd (cxRowc h_n0) (tyR h_n0) (capN n32_0) (capL _) dX8_reckon_32 ?_
      have ga32 : rng (σ15.2.2.2 0 n0 l6_15) := rngL (rgZ (c := 0) Wd.2.1 h_n0) n32_0
      refine lv_istore (lv' := [(7, .int (zI (σ15.2.2.2 0 n0 l6_15))), (0, .ref (ad (rowC n0.toNat))), (1, .int (zI x0)), (3, .ref (ad 35)), (4, .ref (ad 36)), (5, .int (zI l5_15)), (6, .int (zI l6_15))]) C.1 C.2.1 dX8_reckon_33 hl (by decide) rfl (fun ls hl => ?_)
      replace hl := lv_sub hl [1, 2, 3, 4, 5, 6, 0] rfl
      refine lv_iload C.1 C.2.1 dX8_reckon_35 (lv_at hl 6 rfl) ?_
      refine k_pi (k_runS (rest := []) C aks Wd.1 cs_X8_49 (mk_W_isOperation D (σ15.2.2.2 0 n0 l6_15) ga32 _ hw l _) [] rfl (by decide) [] rfl rfl rfl ⟨(Nat.le_of_ble_eq_true rfl), (Nat.le_of_ble_eq_true rfl)⟩ hl.1 rfl rfl (Nat.le_of_ble_eq_true rfl) ⟨(Nat.le_of_ble_eq_true rfl), (Nat.le_of_ble_eq_true rfl)⟩ dX8_reckon_37) (fun y37 hy => ?_)
      obtain ⟨r37, rfl, g_r37, hw⟩ := hy
      refine lv_if_eq (tgt := 89) C.1 C.2.1 dX8_reckon_40 (by decide) (fun c40 => ?_) (fun c40 => ?_)
      · have hw := hw.1 (z0_eq g_r37 c40)
        refine lv_iload C.1 C.2.1 dX8_reckon_89 (lv_at hl 4 rfl) ?_
        refine lv_aload C.1 C.2.1 dX8_reckon_91 (lv_at hl 3 rfl) ?_
        refine k_alen (v := zI 300) C Wd.1 36 36 (cx36 _) (tC_at (by decide) rfl) rfl dX8_reckon_93 ?_
        refine lv_icmp_ge (tgt := 137) C.1 C.2.1 dX8_reckon_94 (by decide) (fun c94 => ?_) (fun c94 => ?_)
        · have hw := hw.1 (z_le (show rng 300 from by decide) g_l5_15 c94)
          refine lv_iinc (v := zI (l6_15 - 1)) (lv' := [(6, .int (zI (l6_15 - 1))), (0, .ref (ad (rowC n0.toNat))), (1, .int (zI x0)), (3, .ref (ad 35)), (4, .ref (ad 36)), (5, .int (zI l5_15)), (7, .int (zI (σ15.2.2.2 0 n0 l6_15)))]) C.1 C.2.1 dX8_reckon_137 hl (k := 5) rfl (zI_dec _ _ (by decide)) (by decide) rfl (fun ls hl => ?_)
          replace hl := lv_sub hl [1, 2, 3, 4, 5, 0, 6] rfl
          refine lv_goto (tgt := 15) C.1 C.2.1 dX8_reckon_140 (by decide) ?_
          obtain ⟨g140_11, hw⟩ := hw
          exact hL15 _ _ _ hw _ _ _ ⟨g_l5_15, g140_11, Wd, lv_sub hl [0, 1, 2, 3, 4, 5] rfl⟩
        · have hw := hw.2 (z_nle (show rng 300 from by decide) g_l5_15 c94)
          refine lv_iload C.1 C.2.1 dX8_reckon_97 (lv_at hl 6 rfl) ?_
          refine lv_bipush (v := zI 20) C.1 C.2.1 dX8_reckon_99 (by decide) ?_
          refine k_isub (v := zI ((σ15.2.2.2 0 n0 l6_15) - 20)) C (zI_isub _ _) dX8_reckon_101 ?_
          refine lv_istore (lv' := [(8, .int (zI ((σ15.2.2.2 0 n0 l6_15) - 20))), (0, .ref (ad (rowC n0.toNat))), (1, .int (zI x0)), (3, .ref (ad 35)), (4, .ref (ad 36)), (5, .int (zI l5_15)), (6, .int (zI l6_15)), (7, .int (zI (σ15.2.2.2 0 n0 l6_15)))]) C.1 C.2.1 dX8_reckon_102 hl (by decide) rfl (fun ls hl => ?_)
          replace hl := lv_sub hl [1, 2, 3, 4, 5, 6, 7, 0] rfl
          refine lv_aload C.1 C.2.1 dX8_reckon_104 (lv_at hl 3 rfl) ?_
          refine lv_iload C.1 C.2.1 dX8_reckon_106 (lv_at hl 4 rfl) ?_
          refine lv_iload C.1 C.2.1 dX8_reckon_108 (lv_at hl 7 rfl) ?_
          obtain ⟨g110_12, hw⟩ := hw
          refine lv_if_ge (tgt := 118) C.1 C.2.1 dX8_reckon_110 (by decide) (fun c110 => ?_) (fun c110 => ?_)
          · have hw := hw.1 (z0_ler g110_12 c110)
            refine lv_iload C.1 C.2.1 dX8_reckon_118 (lv_at hl 7 rfl) ?_
            refine lv_aload_n C.1 C.2.1 dX8_reckon_120 rfl (lv_at hl 2 rfl) ?_
            refine k_alen (v := zI 6) C Wd.1 35 35 (cx35 _) (tC_at (by decide) rfl) rfl dX8_reckon_121 ?_
            refine lv_icmp_ge (tgt := 132) C.1 C.2.1 dX8_reckon_122 (by decide) (fun c122 => ?_) (fun c122 => ?_)
            · have hw := hw.1 (z_le (show rng 6 from by decide) g110_12 c122)
              refine lv_iconst (v := zI 0) C.1 C.2.1 dX8_reckon_132 (by decide) ?_
              obtain ⟨n133_0, hw⟩ := hw
              refine k_iastF (g := (σ15.2.1 36)) (i := l5_15) (v := 0) C Wd 36 (by decide) (cx36 _) (fun f => cx36a _ f) (tC_at (by decide) rfl) n133_0 (by decide) (ruZ (fun j => Wd.2.1.2.1 36 j) (show rng 0 from by decide)) dX8_reckon_133 (fun H locs Wd => ?_)
              refine lv_iinc (v := zI (l5_15 + 1)) (lv' := [(5, .int (zI (l5_15 + 1))), (0, .ref (ad (rowC n0.toNat))), (1, .int (zI x0)), (3, .ref (ad 35)), (4, .ref (ad 36)), (6, .int (zI l6_15)), (7, .int (zI (σ15.2.2.2 0 n0 l6_15))), (8, .int (zI ((σ15.2.2.2 0 n0 l6_15) - 20)))]) C.1 C.2.1 dX8_reckon_134 hl (k := 4) rfl (zI_inc _ _ (by decide)) (by decide) rfl (fun ls hl => ?_)
              replace hl := lv_sub hl [1, 2, 3, 4, 0, 5, 6, 7] rfl
              refine lv_iinc (v := zI (l6_15 - 1)) (lv' := [(6, .int (zI (l6_15 - 1))), (0, .ref (ad (rowC n0.toNat))), (1, .int (zI x0)), (3, .ref (ad 35)), (4, .ref (ad 36)), (5, .int (zI (l5_15 + 1))), (7, .int (zI (σ15.2.2.2 0 n0 l6_15))), (8, .int (zI ((σ15.2.2.2 0 n0 l6_15) - 20)))]) C.1 C.2.1 dX8_reckon_137 hl (k := 5) rfl (zI_dec _ _ (by decide)) (by decide) rfl (fun ls hl => ?_)
              replace hl := lv_sub hl [1, 2, 3, 4, 5, 0, 6, 7] rfl
              refine lv_goto (tgt := 15) C.1 C.2.1 dX8_reckon_140 (by decide) ?_
              obtain ⟨g140_13, hw⟩ := hw
              obtain ⟨g140_14, hw⟩ := hw
              exact hL15 _ _ _ hw _ _ _ ⟨g140_13, g140_14, Wd, lv_sub hl [0, 1, 2, 3, 4, 5] rfl⟩
            · have hw := hw.2 (z_nle (show rng 6 from by decide) g110_12 c122)
              refine lv_aload_n C.1 C.2.1 dX8_reckon_125 rfl (lv_at hl 2 rfl) ?_
              refine lv_iload C.1 C.2.1 dX8_reckon_126 (lv_at hl 7 rfl) ?_
              obtain ⟨n128_0, hw⟩ := hw
              refine k_ialdK (g := (σ15.2.1 35)) C Wd (cx35 _) (tC_at (by decide) rfl) n128_0 (by decide) dX8_reckon_128 ?_
              have ga128 : rng (σ15.2.1 35 ((σ15.2.2.2 0 n0 l6_15) - 20)) := rngL (fun j => (Wd.2.1).2.1 35 j) n128_0
              refine lv_goto (tgt := 133) C.1 C.2.1 dX8_reckon_129 (by decide) ?_
              obtain ⟨n133_0, hw⟩ := hw
              refine k_iastF (g := (σ15.2.1 36)) (i := l5_15) (v := (σ15.2.1 35 ((σ15.2.2.2 0 n0 l6_15) - 20))) C Wd 36 (by decide) (cx36 _) (fun f => cx36a _ f) (tC_at (by decide) rfl) n133_0 (by decide) (ruZ (fun j => Wd.2.1.2.1 36 j) ga128) dX8_reckon_133 (fun H locs Wd => ?_)
              refine lv_iinc (v := zI (l5_15 + 1)) (lv' := [(5, .int (zI (l5_15 + 1))), (0, .ref (ad (rowC n0.toNat))), (1, .int (zI x0)), (3, .ref (ad 35)), (4, .ref (ad 36)), (6, .int (zI l6_15)), (7, .int (zI (σ15.2.2.2 0 n0 l6_15))), (8, .int (zI ((σ15.2.2.2 0 n0 l6_15) - 20)))]) C.1 C.2.1 dX8_reckon_134 hl (k := 4) rfl (zI_inc _ _ (by decide)) (by decide) rfl (fun ls hl => ?_)
              replace hl := lv_sub hl [1, 2, 3, 4, 0, 5, 6, 7] rfl
              refine lv_iinc (v := zI (l6_15 - 1)) (lv' := [(6, .int (zI (l6_15 - 1))), (0, .ref (ad (rowC n0.toNat))), (1, .int (zI x0)), (3, .ref (ad 35)), (4, .ref (ad 36)), (5, .int (zI (l5_15 + 1))), (7, .int (zI (σ15.2.2.2 0 n0 l6_15))), (8, .int (zI ((σ15.2.2.2 0 n0 l6_15) - 20)))]) C.1 C.2.1 dX8_reckon_137 hl (k := 5) rfl (zI_dec _ _ (by decide)) (by decide) rfl (fun ls hl => ?_)
              replace hl := lv_sub hl [1, 2, 3, 4, 5, 0, 6, 7] rfl
              refine lv_goto (tgt := 15) C.1 C.2.1 dX8_reckon_140 (by decide) ?_
              obtain ⟨g140_15, hw⟩ := hw
              obtain ⟨g140_16, hw⟩ := hw
              exact hL15 _ _ _ hw _ _ _ ⟨g140_15, g140_16, Wd, lv_sub hl [0, 1, 2, 3, 4, 5] rfl⟩
          · have hw := hw.2 (z0_nler g110_12 c110)
            refine lv_iload C.1 C.2.1 dX8_reckon_113 (lv_at hl 6 rfl) ?_
            refine lv_goto (tgt := 133) C.1 C.2.1 dX8_reckon_115 (by decide) ?_
            obtain ⟨n133_0, hw⟩ := hw
            refine k_iastF (g := (σ15.2.1 36)) (i := l5_15) (v := (σ15.2.2.2 0 n0 l6_15)) C Wd 36 (by decide) (cx36 _) (fun f => cx36a _ f) (tC_at (by decide) rfl) n133_0 (by decide) (ruZ (fun j => Wd.2.1.2.1 36 j) ga32) dX8_reckon_133 (fun H locs Wd => ?_)
            refine lv_iinc (v := zI (l5_15 + 1)) (lv' := [(5, .int (zI (l5_15 + 1))), (0, .ref (ad (rowC n0.toNat))), (1, .int (zI x0)), (3, .ref (ad 35)), (4, .ref (ad 36)), (6, .int (zI l6_15)), (7, .int (zI (σ15.2.2.2 0 n0 l6_15))), (8, .int (zI ((σ15.2.2.2 0 n0 l6_15) - 20)))]) C.1 C.2.1 dX8_reckon_134 hl (k := 4) rfl (zI_inc _ _ (by decide)) (by decide) rfl (fun ls hl => ?_)
            replace hl := lv_sub hl [1, 2, 3, 4, 0, 5, 6, 7] rfl
            refine lv_iinc (v := zI (l6_15 - 1)) (lv' := [(6, .int (zI (l6_15 - 1))), (0, .ref (ad (rowC n0.toNat))), (1, .int (zI x0)), (3, .ref (ad 35)), (4, .ref (ad 36)), (5, .int (zI (l5_15 + 1))), (7, .int (zI (σ15.2.2.2 0 n0 l6_15))), (8, .int (zI ((σ15.2.2.2 0 n0 l6_15) - 20)))]) C.1 C.2.1 dX8_reckon_137 hl (k := 5) rfl (zI_dec _ _ (by decide)) (by decide) rfl (fun ls hl => ?_)
            replace hl := lv_sub hl [1, 2, 3, 4, 5, 0, 6, 7] rfl
            refine lv_goto (tgt := 15) C.1 C.2.1 dX8_reckon_140 (by decide) ?_
            obtain ⟨g140_17, hw⟩ := hw
            obtain ⟨g140_18, hw⟩ := hw
            exact hL15 _ _ _ hw _ _ _ ⟨g140_17, g140_18, Wd, lv_sub hl [0, 1, 2, 3, 4, 5] rfl⟩
      · have hw := hw.2 (z0_ne g_r37 c40)
        refine lv_iload C.1 C.2.1 dX8_reckon_43 (lv_at hl 4 rfl) ?_
        refine lv_iconst (v := zI 2) C.1 C.2.1 dX8_reckon_45 (by decide) ?_
        refine lv_icmp_lt (tgt := 137) C.1 C.2.1 dX8_reckon_46 (by decide) (fun c46 => ?_) (fun c46 => ?_)
        · have hw := hw.1 (z_lt g_l5_15 (show rng 2 from by decide) c46)
          refine lv_iinc (v := zI (l6_15 - 1)) (lv' := [(6, .int (zI (l6_15 - 1))), (0, .ref (ad (rowC n0.toNat))), (1, .int (zI x0)), (3, .ref (ad 35)), (4, .ref (ad 36)), (5, .int (zI l5_15)), (7, .int (zI (σ15.2.2.2 0 n0 l6_15)))]) C.1 C.2.1 dX8_reckon_137 hl (k := 5) rfl (zI_dec _ _ (by decide)) (by decide) rfl (fun ls hl => ?_)
          replace hl := lv_sub hl [1, 2, 3, 4, 5, 0, 6] rfl
          refine lv_goto (tgt := 15) C.1 C.2.1 dX8_reckon_140 (by decide) ?_
          obtain ⟨g140_19, hw⟩ := hw
          exact hL15 _ _ _ hw _ _ _ ⟨g_l5_15, g140_19, Wd, lv_sub hl [0, 1, 2, 3, 4, 5] rfl⟩
        · have hw := hw.2 (z_nlt g_l5_15 (show rng 2 from by decide) c46)
          refine lv_iload C.1 C.2.1 dX8_reckon_49 (lv_at hl 4 rfl) ?_
          refine lv_aload C.1 C.2.1 dX8_reckon_51 (lv_at hl 3 rfl) ?_
          refine k_alen (v := zI 300) C Wd.1 36 36 (cx36 _) (tC_at (by decide) rfl) rfl dX8_reckon_53 ?_
          refine lv_icmp_gt (tgt := 137) C.1 C.2.1 dX8_reckon_54 (by decide) (fun c54 => ?_) (fun c54 => ?_)
          · have hw := hw.1 (z_lt (show rng 300 from by decide) g_l5_15 c54)
            refine lv_iinc (v := zI (l6_15 - 1)) (lv' := [(6, .int (zI (l6_15 - 1))), (0, .ref (ad (rowC n0.toNat))), (1, .int (zI x0)), (3, .ref (ad 35)), (4, .ref (ad 36)), (5, .int (zI l5_15)), (7, .int (zI (σ15.2.2.2 0 n0 l6_15)))]) C.1 C.2.1 dX8_reckon_137 hl (k := 5) rfl (zI_dec _ _ (by decide)) (by decide) rfl (fun ls hl => ?_)
            replace hl := lv_sub hl [1, 2, 3, 4, 5, 0, 6] rfl
            refine lv_goto (tgt := 15) C.1 C.2.1 dX8_reckon_140 (by decide) ?_
            obtain ⟨g140_20, hw⟩ := hw
            exact hL15 _ _ _ hw _ _ _ ⟨g_l5_15, g140_20, Wd, lv_sub hl [0, 1, 2, 3, 4, 5] rfl⟩
          · have hw := hw.2 (z_nlt (show rng 300 from by decide) g_l5_15 c54)
            refine lv_aload C.1 C.2.1 dX8_reckon_57 (lv_at hl 3 rfl) ?_
            refine lv_iload C.1 C.2.1 dX8_reckon_59 (lv_at hl 4 rfl) ?_
            refine lv_iconst (v := zI 2) C.1 C.2.1 dX8_reckon_61 (by decide) ?_
            refine k_isub (v := zI (l5_15 - 2)) C (zI_isub _ _) dX8_reckon_62 ?_
            refine lv_iload C.1 C.2.1 dX8_reckon_63 (lv_at hl 6 rfl) ?_
            refine lv_aload C.1 C.2.1 dX8_reckon_65 (lv_at hl 3 rfl) ?_
            refine lv_iload C.1 C.2.1 dX8_reckon_67 (lv_at hl 4 rfl) ?_
            refine lv_iconst (v := zI 1) C.1 C.2.1 dX8_reckon_69 (by decide) ?_
            refine k_isub (v := zI (l5_15 - 1)) C (zI_isub _ _) dX8_reckon_70 ?_
            obtain ⟨n71_0, hw⟩ := hw
            refine k_ialdK (g := (σ15.2.1 36)) C Wd (cx36 _) (tC_at (by decide) rfl) n71_0 (by decide) dX8_reckon_71 ?_
            have ga71 : rng (σ15.2.1 36 (l5_15 - 1)) := rngL (fun j => (Wd.2.1).2.1 36 j) n71_0
            refine lv_aload C.1 C.2.1 dX8_reckon_72 (lv_at hl 3 rfl) ?_
            refine lv_iload C.1 C.2.1 dX8_reckon_74 (lv_at hl 4 rfl) ?_
            refine lv_iconst (v := zI 2) C.1 C.2.1 dX8_reckon_76 (by decide) ?_
            refine k_isub (v := zI (l5_15 - 2)) C (zI_isub _ _) dX8_reckon_77 ?_
            obtain ⟨n78_1, hw⟩ := hw
            refine k_ialdK (g := (σ15.2.1 36)) C Wd (cx36 _) (tC_at (by decide) rfl) n78_1 (by decide) dX8_reckon_78 ?_
            have ga78 : rng (σ15.2.1 36 (l5_15 - 2)) := rngL (fun j => (Wd.2.1).2.1 36 j) n78_1
            refine k_pi (k_runS (rest := [.int (zI (l5_15 - 2)), .ref (ad 36)]) C aks Wd.1 cs_X8_68 (mk_W_result D (σ15.2.2.2 0 n0 l6_15) (σ15.2.1 36 (l5_15 - 1)) (σ15.2.1 36 (l5_15 - 2)) ga32 ga71 ga78 _ hw l _) [] rfl (by decide) [] rfl rfl rfl ⟨(Nat.le_of_ble_eq_true rfl), (Nat.le_of_ble_eq_true rfl)⟩ hl.1 rfl rfl (Nat.le_of_ble_eq_true rfl) ⟨(Nat.le_of_ble_eq_true rfl), (Nat.le_of_ble_eq_true rfl)⟩ dX8_reckon_79) (fun y79 hy => ?_)
            obtain ⟨r79, rfl, g_r79, hw⟩ := hy
            refine k_iastF (g := (σ15.2.1 36)) (i := (l5_15 - 2)) (v := r79) C Wd 36 (by decide) (cx36 _) (fun f => cx36a _ f) (tC_at (by decide) rfl) n78_1 (by decide) (ruZ (fun j => Wd.2.1.2.1 36 j) g_r79) dX8_reckon_82 (fun H locs Wd => ?_)
            refine lv_iinc (v := zI (l5_15 - 1)) (lv' := [(5, .int (zI (l5_15 - 1))), (0, .ref (ad (rowC n0.toNat))), (1, .int (zI x0)), (3, .ref (ad 35)), (4, .ref (ad 36)), (6, .int (zI l6_15)), (7, .int (zI (σ15.2.2.2 0 n0 l6_15)))]) C.1 C.2.1 dX8_reckon_83 hl (k := 4) rfl (zI_dec _ _ (by decide)) (by decide) rfl (fun ls hl => ?_)
            replace hl := lv_sub hl [1, 2, 3, 4, 0, 5, 6] rfl
            refine lv_goto (tgt := 137) C.1 C.2.1 dX8_reckon_86 (by decide) ?_
            refine lv_iinc (v := zI (l6_15 - 1)) (lv' := [(6, .int (zI (l6_15 - 1))), (0, .ref (ad (rowC n0.toNat))), (1, .int (zI x0)), (3, .ref (ad 35)), (4, .ref (ad 36)), (5, .int (zI (l5_15 - 1))), (7, .int (zI (σ15.2.2.2 0 n0 l6_15)))]) C.1 C.2.1 dX8_reckon_137 hl (k := 5) rfl (zI_dec _ _ (by decide)) (by decide) rfl (fun ls hl => ?_)
            replace hl := lv_sub hl [1, 2, 3, 4, 5, 0, 6] rfl
            refine lv_goto (tgt := 15) C.1 C.2.1 dX8_reckon_140 (by decide) ?_
            obtain ⟨g140_21, hw⟩ := hw
            obtain ⟨g140_22, hw⟩ := hw
            exact hL15 _ _ _ hw _ _ _ ⟨g140_21, g140_22, Wd, lv_sub hl [0, 1, 2, 3, 4, 5] rfl⟩
set_option maxHeartbeats 4000000 in
set_option maxRecDepth 100000 in
theorem mk_M_doStatement_33 : ∀ (D : va_G) (ad : Nat → Nat) (ca : Nat → ClassId) (rf : Nat → Nat → Option Nat) (σ : Sg) (hS : rngK σ) (hRF : RFok ad rf) (x0 : Int) (g_x0 : rng x0) (K : Int → Sg → Prop) (hw : wp5_M_doStatement σ 33 x0 K) (l : Launch) (sz : Nat), Met l yX3_doStatement (Cond.code yX3_doStatement cX3_doStatement 4 (some .int) :: gG) { frames := 3, cells := 0, slots := 0, locals := 124 } (cPre D (tC ca) (wK ad ca rf σ) sz [.ref (ad 33), .int (zI x0)]) (va_Qi (fun (r : Int32) (u : Sg) => (∃ x : Int, r = zI x ∧ rng x ∧ K x u) ∧ rngK u) (fun u t => cB D (va_A (wK ad ca rf σ) sz) [] (wK ad ca rf u) t) (va_A (wK ad ca rf σ) sz)) 0 0 (va_A (wK ad ca rf σ) sz) := by
  intro D ad ca rf σ hS hRF x0 g_x0 K hw l sz
  refine Met.ofW (cc := cX3_doStatement) (maxL := 4) (ret := (some .int)) (by decide) rfl ?_
  intro p e s m args below meth c s₁ B hml hv
  obtain ⟨rfl, aks, rfl, Wd⟩ := k_enter hv
  have C : CallFix p m c cX3_doStatement 4 s _ gG RX3 := ⟨B.exec, B.bytes, hml, findClass_of_methodNamed B.named, fun w h => atoms_spec (ws := Cond.code yX3_doStatement cX3_doStatement 4 (some .int) :: gG) B.pre w (List.mem_cons_of_mem _ h)⟩
  have hr := B.returns
  have hlk := B.notSynchronized
  generalize va_A (wK ad ca rf σ) s.heap.size = A at Wd ⊢
  replace Wd : wXK D ad ca rf s σ s.heap A s.heap [] := ⟨Wd, hS, hRF⟩
  refine k_locals (Nat.le_of_ble_eq_true rfl) [(0, .ref (ad 33)), (1, .int (zI x0))] rfl (fun ls hl => ?_)
  unfold wp5_M_doStatement at hw
  refine lv_aload_n C.1 C.2.1 dX3_doStatement_0 rfl (lv_at hl 0 rfl) ?_
  refine k_get (v := .ref (ad 37)) C Wd.1 KX3 _ 0 (cx33 _) (by decide) fl_X3_12 rfl dX3_doStatement_1 ?_
  refine lv_iload_n C.1 C.2.1 dX3_doStatement_4 rfl (lv_at hl 1 rfl) ?_
  refine k_pi (k_runVK (rest := []) C aks Wd cs_X3_48 (mk_F_isHere_37 D ad ca rf σ Wd.2.1 Wd.2.2 x0 g_x0 _ hw l _) (cx37 _) rfl rfl rfl rfl ⟨(Nat.le_of_ble_eq_true rfl), (Nat.le_of_ble_eq_true rfl)⟩ hl.1 rfl rfl (Nat.le_of_ble_eq_true rfl) ⟨(Nat.le_of_ble_eq_true rfl), (Nat.le_of_ble_eq_true rfl)⟩ dX3_doStatement_5) (fun y5 hy => ?_)
  obtain ⟨r5, rfl, g_r5, hw⟩ := hy
  refine lv_if_ne (tgt := 13) C.1 C.2.1 dX3_doStatement_8 (by decide) (fun c8 => ?_) (fun c8 => ?_)
  · have hw := hw.1 (z0_ne g_r5 c8)
    refine lv_aload_n C.1 C.2.1 dX3_doStatement_13 rfl (lv_at hl 0 rfl) ?_
    refine k_get (v := .ref (ad 37)) C Wd.1 KX3 _ 0 (cx33 _) (by decide) fl_X3_12 rfl dX3_doStatement_14 ?_
    refine k_get (v := .ref (ad 39)) C Wd.1 KX1 _ 3 (cx37 _) (by decide) fl_X3_52 rfl dX3_doStatement_17 ?_
    refine lv_iload_n C.1 C.2.1 dX3_doStatement_20 rfl (lv_at hl 1 rfl) ?_
    obtain ⟨n21_0, hw⟩ := hw
    refine k_ialdK (g := (σ.2.1 39)) C Wd (cx39 _) (tC_at (by decide) rfl) n21_0 (by decide) dX3_doStatement_21 ?_
    have ga21 : rng (σ.2.1 39 x0) := rngL (fun j => (Wd.2.1).2.1 39 j) n21_0
    refine lv_istore_n (lv' := [(2, .int (zI (σ.2.1 39 x0))), (0, .ref (ad 33)), (1, .int (zI x0))]) C.1 C.2.1 dX3_doStatement_22 rfl hl (by decide) rfl (fun ls hl => ?_)
    replace hl := lv_sub hl [1, 2, 0] rfl
    refine lv_iload_n C.1 C.2.1 dX3_doStatement_23 rfl (lv_at hl 2 rfl) ?_
    refine lv_bipush (v := zI 111) C.1 C.2.1 dX3_doStatement_24 (by decide) ?_
    refine lv_icmp_ne (tgt := 32) C.1 C.2.1 dX3_doStatement_26 (by decide) (fun c26 => ?_) (fun c26 => ?_)
    · have hw := hw.1 (z_ne ga21 (show rng 111 from by decide) c26)
      refine lv_aload_n C.1 C.2.1 dX3_doStatement_32 rfl (lv_at hl 0 rfl) ?_
      refine k_get (v := .ref (ad 37)) C Wd.1 KX3 _ 0 (cx33 _) (by decide) fl_X3_12 rfl dX3_doStatement_33 ?_
      obtain ⟨n36_0, hw⟩ := hw
      refine k_get (v := .ref (ad (rowC (σ.1 37 0).toNat))) C Wd.1 KX1 _ 0 (cx37 _) (by decide) fl_X3_55 (congrArg some (rvW_ref n36_0)) dX3_doStatement_36 ?_
      refine lv_aload_n C.1 C.2.1 dX3_doStatement_39 rfl (lv_at hl 0 rfl) ?_
      refine k_get (v := .ref (ad 37)) C Wd.1 KX3 _ 0 (cx33 _) (by decide) fl_X3_12 rfl dX3_doStatement_40 ?_
      refine k_get (v := .ref (ad 40)) C Wd.1 KX1 _ 4 (cx37 _) (by decide) fl_X3_59 rfl dX3_doStatement_43 ?_
      refine lv_iload_n C.1 C.2.1 dX3_doStatement_46 rfl (lv_at hl 1 rfl) ?_
      refine k_ialdK (g := (σ.2.1 40)) C Wd (cx40 _) (tC_at (by decide) rfl) n21_0 (by decide) dX3_doStatement_47 ?_
      have ga47 : rng (σ.2.1 40 x0) := rngL (fun j => (Wd.2.1).2.1 40 j) n21_0
      refine lv_aload_n C.1 C.2.1 dX3_doStatement_48 rfl (lv_at hl 0 rfl) ?_
      refine k_get (v := .ref (ad 37)) C Wd.1 KX3 _ 0 (cx33 _) (by decide) fl_X3_12 rfl dX3_doStatement_49 ?_
      refine k_get (v := .ref (ad 41)) C Wd.1 KX1 _ 5 (cx37 _) (by decide) fl_X3_62 rfl dX3_doStatement_52 ?_
      refine lv_iload_n C.1 C.2.1 dX3_doStatement_55 rfl (lv_at hl 1 rfl) ?_
      refine k_ialdK (g := (σ.2.1 41)) C Wd (cx41 _) (tC_at (by decide) rfl) n21_0 (by decide) dX3_doStatement_56 ?_
      have ga56 : rng (σ.2.1 41 x0) := rngL (fun j => (Wd.2.1).2.1 41 j) n21_0
      refine lv_aload_n C.1 C.2.1 dX3_doStatement_57 rfl (lv_at hl 0 rfl) ?_
      refine k_get (v := .ref (ad 35)) C Wd.1 KX3 _ 5 (cx33 _) (by decide) fl_X3_22 rfl dX3_doStatement_58 ?_
      refine lv_aload_n C.1 C.2.1 dX3_doStatement_61 rfl (lv_at hl 0 rfl) ?_
      refine k_get (v := .ref (ad 36)) C Wd.1 KX3 _ 6 (cx33 _) (by decide) fl_X3_25 rfl dX3_doStatement_62 ?_
      refine k_cKv Wd (k_runVK (rest := []) C aks Wd cs_X3_65 (mk_W_reckonM_33 D ad ca rf σ Wd.2.1 Wd.2.2 (σ.1 37 0) (σ.2.1 40 x0) (σ.2.1 41 x0) n36_0 ga47 ga56 _ hw l _) (cxRow n36_0) rfl rfl rfl rfl ⟨(Nat.le_of_ble_eq_true rfl), (Nat.le_of_ble_eq_true rfl)⟩ hl.1 rfl rfl (Nat.le_of_ble_eq_true rfl) ⟨(Nat.le_of_ble_eq_true rfl), (Nat.le_of_ble_eq_true rfl)⟩ dX3_doStatement_65) (fun σr65 H locs hw Wd => ?_)
      have hS_σr65 := Wd.2.1
      refine lv_iload_n C.1 C.2.1 dX3_doStatement_68 rfl (lv_at hl 2 rfl) ?_
      refine k_pi (k_runS (rest := []) C aks Wd.1 cs_X3_71 (mk_W_isBranch D (σ.2.1 39 x0) ga21 _ hw l _) [] rfl (by decide) [] rfl rfl rfl ⟨(Nat.le_of_ble_eq_true rfl), (Nat.le_of_ble_eq_true rfl)⟩ hl.1 rfl rfl (Nat.le_of_ble_eq_true rfl) ⟨(Nat.le_of_ble_eq_true rfl), (Nat.le_of_ble_eq_true rfl)⟩ dX3_doStatement_69) (fun y69 hy => ?_)
      obtain ⟨r69, rfl, g_r69, hw⟩ := hy
      refine lv_if_eq (tgt := 138) C.1 C.2.1 dX3_doStatement_72 (by decide) (fun c72 => ?_) (fun c72 => ?_)
      · have hw := hw.1 (z0_eq g_r69 c72)
        refine lv_iload_n C.1 C.2.1 dX3_doStatement_138 rfl (lv_at hl 2 rfl) ?_
        refine lv_bipush (v := zI 110) C.1 C.2.1 dX3_doStatement_139 (by decide) ?_
        refine k_cut0 (fun H locs ls => wp5_M_doStatement_184 K σ 33 x0 σr65 ∧ wXK D ad ca rf s σr65 H A s.heap locs ∧ lv_has ls 4 [(0, .ref (ad 33)), (1, .int (zI x0)), (2, .int (zI (σ.2.1 39 x0)))]) (fun  ls => F0 m 184 ls []) (fun  H locs ls hi => ?_) (fun J184 => ?_)
        · obtain ⟨hw, Wd, hl⟩ := hi
          unfold wp5_M_doStatement_184 at hw
          refine lv_iload_n C.1 C.2.1 dX3_doStatement_184 rfl (lv_at hl 2 rfl) ?_
          refine k_pi (k_runS (rest := []) C aks Wd.1 cs_X3_90 (mk_W_isSet D (σ.2.1 39 x0) ga21 _ hw l _) [] rfl (by decide) [] rfl rfl rfl ⟨(Nat.le_of_ble_eq_true rfl), (Nat.le_of_ble_eq_true rfl)⟩ hl.1 rfl rfl (Nat.le_of_ble_eq_true rfl) ⟨(Nat.le_of_ble_eq_true rfl), (Nat.le_of_ble_eq_true rfl)⟩ dX3_doStatement_185) (fun y185 hy => ?_)
          obtain ⟨r185, rfl, g_r185, hw⟩ := hy
          refine lv_if_eq (tgt := 206) C.1 C.2.1 dX3_doStatement_188 (by decide) (fun c188 => ?_) (fun c188 => ?_)
          · have hw := hw.1 (z0_eq g_r185 c188)
            refine lv_aload_n C.1 C.2.1 dX3_doStatement_206 rfl (lv_at hl 0 rfl) ?_
            refine k_get (v := .ref (ad 37)) C Wd.1 KX3 _ 0 (cx33 _) (by decide) fl_X3_12 rfl dX3_doStatement_207 ?_
            refine k_get (v := .ref (ad 42)) C Wd.1 KX1 _ 6 (cx37 _) (by decide) fl_X3_84 rfl dX3_doStatement_210 ?_
            refine lv_iload_n C.1 C.2.1 dX3_doStatement_213 rfl (lv_at hl 1 rfl) ?_
            refine k_ialdK (g := (σr65.2.1 42)) C Wd (cx42 _) (tC_at (by decide) rfl) n21_0 (by decide) dX3_doStatement_214 ?_
            have ga214 : rng (σr65.2.1 42 x0) := rngL (fun j => (Wd.2.1).2.1 42 j) n21_0
            exact k_retKi C hr hlk rfl Wd ⟨_, rfl, ga214, hw⟩ dX3_doStatement_215
          · have hw := hw.2 (z0_ne g_r185 c188)
            refine lv_aload_n C.1 C.2.1 dX3_doStatement_191 rfl (lv_at hl 0 rfl) ?_
            refine k_get (v := .ref (ad 35)) C Wd.1 KX3 _ 5 (cx33 _) (by decide) fl_X3_22 rfl dX3_doStatement_192 ?_
            refine lv_iload_n C.1 C.2.1 dX3_doStatement_195 rfl (lv_at hl 2 rfl) ?_
            refine lv_bipush (v := zI 100) C.1 C.2.1 dX3_doStatement_196 (by decide) ?_
            refine k_isub (v := zI ((σ.2.1 39 x0) - 100)) C (zI_isub _ _) dX3_doStatement_198 ?_
            refine lv_aload_n C.1 C.2.1 dX3_doStatement_199 rfl (lv_at hl 0 rfl) ?_
            refine k_get (v := .ref (ad 36)) C Wd.1 KX3 _ 6 (cx33 _) (by decide) fl_X3_25 rfl dX3_doStatement_200 ?_
            refine lv_iconst (v := zI 0) C.1 C.2.1 dX3_doStatement_203 (by decide) ?_
            refine k_ialdK (g := (σr65.2.1 36)) C Wd (cx36 _) (tC_at (by decide) rfl) (show (0 : Int) ≤ 0 ∧ (0 : Int) < 300 from by decide) (by decide) dX3_doStatement_204 ?_
            have ga204 : rng (σr65.2.1 36 0) := rngL (fun j => (Wd.2.1).2.1 36 j) (show (0 : Int) ≤ 0 ∧ (0 : Int) < 300 from by decide)
            obtain ⟨n205_0, hw⟩ := hw
            refine k_iastF (g := (σr65.2.1 35)) (i := ((σ.2.1 39 x0) - 100)) (v := (σr65.2.1 36 0)) C Wd 35 (by decide) (cx35 _) (fun f => cx35a _ f) (tC_at (by decide) rfl) n205_0 (by decide) (ruZ (fun j => Wd.2.1.2.1 35 j) ga204) dX3_doStatement_205 (fun H locs Wd => ?_)
            refine lv_aload_n C.1 C.2.1 dX3_doStatement_206 rfl (lv_at hl 0 rfl) ?_
            refine k_get (v := .ref (ad 37)) C Wd.1 KX3 _ 0 (cx33 _) (by decide) fl_X3_12 rfl dX3_doStatement_207 ?_
            refine k_get (v := .ref (ad 42)) C Wd.1 KX1 _ 6 (cx37 _) (by decide) fl_X3_84 rfl dX3_doStatement_210 ?_
            refine lv_iload_n C.1 C.2.1 dX3_doStatement_213 rfl (lv_at hl 1 rfl) ?_
            refine k_ialdK (g := (σr65.2.1 42)) C Wd (cx42 _) (tC_at (by decide) rfl) n21_0 (by decide) dX3_doStatement_214 ?_
            have ga214 : rng (σr65.2.1 42 x0) := rngL (fun j => (Wd.2.1).2.1 42 j) n21_0
            exact k_retKi C hr hlk rfl Wd ⟨_, rfl, ga214, hw⟩ dX3_doStatement_215
        refine lv_icmp_ne (tgt := 184) C.1 C.2.1 dX3_doStatement_141 (by decide) (fun c141 => ?_) (fun c141 => ?_)
        · have hw := hw.1 (z_ne ga21 (show rng 110 from by decide) c141)
          exact J184  _ _ _ ⟨hw, Wd, lv_sub hl [0, 1, 2] rfl⟩
        · have hw := hw.2 (z_eq ga21 (show rng 110 from by decide) c141)
          refine lv_aload_n C.1 C.2.1 dX3_doStatement_144 rfl (lv_at hl 0 rfl) ?_
          refine k_get (v := .int (zI (σr65.1 33 2))) C Wd.1 KX3 _ 2 (cx33 _) (by decide) fl_X3_28 rfl dX3_doStatement_145 ?_
          refine lv_aload_n C.1 C.2.1 dX3_doStatement_148 rfl (lv_at hl 0 rfl) ?_
          refine k_get (v := .ref (ad 34)) C Wd.1 KX3 _ 1 (cx33 _) (by decide) fl_X3_18 rfl dX3_doStatement_149 ?_
          refine k_alen (v := zI 100) C Wd.1 34 34 (cx34 _) (tC_at (by decide) rfl) rfl dX3_doStatement_152 ?_
          refine lv_icmp_ge (tgt := 184) C.1 C.2.1 dX3_doStatement_153 (by decide) (fun c153 => ?_) (fun c153 => ?_)
          · have hw := hw.1 (z_le (show rng 100 from by decide) (hS_σr65.1 33 2) c153)
            exact J184  _ _ _ ⟨hw, Wd, lv_sub hl [0, 1, 2] rfl⟩
          · have hw := hw.2 (z_nle (show rng 100 from by decide) (hS_σr65.1 33 2) c153)
            refine lv_aload_n C.1 C.2.1 dX3_doStatement_156 rfl (lv_at hl 0 rfl) ?_
            refine k_get (v := .ref (ad 34)) C Wd.1 KX3 _ 1 (cx33 _) (by decide) fl_X3_18 rfl dX3_doStatement_157 ?_
            refine lv_aload_n C.1 C.2.1 dX3_doStatement_160 rfl (lv_at hl 0 rfl) ?_
            refine k_get (v := .int (zI (σr65.1 33 2))) C Wd.1 KX3 _ 2 (cx33 _) (by decide) fl_X3_28 rfl dX3_doStatement_161 ?_
            refine lv_aload_n C.1 C.2.1 dX3_doStatement_164 rfl (lv_at hl 0 rfl) ?_
            refine k_get (v := .ref (ad 36)) C Wd.1 KX3 _ 6 (cx33 _) (by decide) fl_X3_25 rfl dX3_doStatement_165 ?_
            refine lv_iconst (v := zI 0) C.1 C.2.1 dX3_doStatement_168 (by decide) ?_
            refine k_ialdK (g := (σr65.2.1 36)) C Wd (cx36 _) (tC_at (by decide) rfl) (show (0 : Int) ≤ 0 ∧ (0 : Int) < 300 from by decide) (by decide) dX3_doStatement_169 ?_
            have ga169 : rng (σr65.2.1 36 0) := rngL (fun j => (Wd.2.1).2.1 36 j) (show (0 : Int) ≤ 0 ∧ (0 : Int) < 300 from by decide)
            obtain ⟨n170_0, hw⟩ := hw
            refine k_iastF (g := (σr65.2.1 34)) (i := (σr65.1 33 2)) (v := (σr65.2.1 36 0)) C Wd 34 (by decide) (cx34 _) (fun f => cx34a _ f) (tC_at (by decide) rfl) n170_0 (by decide) (ruZ (fun j => Wd.2.1.2.1 34 j) ga169) dX3_doStatement_170 (fun H locs Wd => ?_)
            refine lv_aload_n C.1 C.2.1 dX3_doStatement_171 rfl (lv_at hl 0 rfl) ?_
            refine lv_dup C.1 C.2.1 dX3_doStatement_172 rfl ?_
            refine k_get (v := .int (zI (σr65.1 33 2))) C Wd.1 KX3 _ 2 (cx33 _) (by decide) fl_X3_28 rfl dX3_doStatement_173 ?_
            refine lv_iconst (v := zI 1) C.1 C.2.1 dX3_doStatement_176 (by decide) ?_
            refine k_iadd (v := zI ((σr65.1 33 2) + 1)) C (zI_iadd _ _) dX3_doStatement_177 ?_
            obtain ⟨g178_2, hw⟩ := hw
            refine k_putK (v := ((σr65.1 33 2) + 1)) C Wd KX3 33 2 (by decide) (cx33 _) rfl (by decide) fl_X3_28 rfl rfl rfl (Nat.le_of_ble_eq_true rfl) g178_2 dX3_doStatement_178 (fun H locs Wd => ?_)
            refine lv_goto (tgt := 206) C.1 C.2.1 dX3_doStatement_181 (by decide) ?_
            refine lv_aload_n C.1 C.2.1 dX3_doStatement_206 rfl (lv_at hl 0 rfl) ?_
            refine k_get (v := .ref (ad 37)) C Wd.1 KX3 _ 0 (cx33 _) (by decide) fl_X3_12 rfl dX3_doStatement_207 ?_
            refine k_get (v := .ref (ad 42)) C Wd.1 KX1 _ 6 (cx37 _) (by decide) fl_X3_84 rfl dX3_doStatement_210 ?_
            refine lv_iload_n C.1 C.2.1 dX3_doStatement_213 rfl (lv_at hl 1 rfl) ?_
            refine k_ialdK (g := (σr65.2.1 42)) C Wd (cx42 _) (tC_at (by decide) rfl) n21_0 (by decide) dX3_doStatement_214 ?_
            have ga214 : rng (σr65.2.1 42 x0) := rngL (fun j => (Wd.2.1).2.1 42 j) n21_0
            exact k_retKi C hr hlk rfl Wd ⟨_, rfl, ga214, hw⟩ dX3_doStatement_215
      · have hw := hw.2 (z0_ne g_r69 c72)
        refine lv_aload_n C.1 C.2.1 dX3_doStatement_75 rfl (lv_at hl 0 rfl) ?_
        refine k_get (v := .ref (ad 37)) C Wd.1 KX3 _ 0 (cx33 _) (by decide) fl_X3_12 rfl dX3_doStatement_76 ?_
        obtain ⟨n79_0, hw⟩ := hw
        refine k_get (v := .ref (ad (rowC (σr65.1 37 0).toNat))) C Wd.1 KX1 _ 0 (cx37 _) (by decide) fl_X3_55 (congrArg some (rvW_ref n79_0)) dX3_doStatement_79 ?_
        refine lv_aload_n C.1 C.2.1 dX3_doStatement_82 rfl (lv_at hl 0 rfl) ?_
        refine k_get (v := .ref (ad 37)) C Wd.1 KX3 _ 0 (cx33 _) (by decide) fl_X3_12 rfl dX3_doStatement_83 ?_
        refine k_get (v := .ref (ad 38)) C Wd.1 KX1 _ 2 (cx37 _) (by decide) fl_X3_74 rfl dX3_doStatement_86 ?_
        refine lv_iload_n C.1 C.2.1 dX3_doStatement_89 rfl (lv_at hl 1 rfl) ?_
        refine k_ialdK (g := (σr65.2.1 38)) C Wd (cx38 _) (tC_at (by decide) rfl) n21_0 (by decide) dX3_doStatement_90 ?_
        have ga90 : rng (σr65.2.1 38 x0) := rngL (fun j => (Wd.2.1).2.1 38 j) n21_0
        refine lv_iconst (v := zI 1) C.1 C.2.1 dX3_doStatement_91 (by decide) ?_
        refine k_iadd (v := zI ((σr65.2.1 38 x0) + 1)) C (zI_iadd _ _) dX3_doStatement_92 ?_
        obtain ⟨g93_3, hw⟩ := hw
        refine k_pi (k_runVK (rest := []) C aks Wd cs_X3_77 (mk_W_cell D ad ca rf σr65 Wd.2.1 Wd.2.2 (σr65.1 37 0) ((σr65.2.1 38 x0) + 1) n79_0 g93_3 _ hw l _) (cxRow n79_0) rfl rfl rfl rfl ⟨(Nat.le_of_ble_eq_true rfl), (Nat.le_of_ble_eq_true rfl)⟩ hl.1 rfl rfl (Nat.le_of_ble_eq_true rfl) ⟨(Nat.le_of_ble_eq_true rfl), (Nat.le_of_ble_eq_true rfl)⟩ dX3_doStatement_93) (fun y93 hy => ?_)
        obtain ⟨r93, rfl, g_r93, hw⟩ := hy
        refine lv_aload_n C.1 C.2.1 dX3_doStatement_96 rfl (lv_at hl 0 rfl) ?_
        refine k_get (v := .ref (ad 36)) C Wd.1 KX3 _ 6 (cx33 _) (by decide) fl_X3_25 rfl dX3_doStatement_97 ?_
        refine lv_iconst (v := zI 1) C.1 C.2.1 dX3_doStatement_100 (by decide) ?_
        refine k_ialdK (g := (σr65.2.1 36)) C Wd (cx36 _) (tC_at (by decide) rfl) (show (0 : Int) ≤ 1 ∧ (1 : Int) < 300 from by decide) (by decide) dX3_doStatement_101 ?_
        have ga101 : rng (σr65.2.1 36 1) := rngL (fun j => (Wd.2.1).2.1 36 j) (show (0 : Int) ≤ 1 ∧ (1 : Int) < 300 from by decide)
        refine lv_aload_n C.1 C.2.1 dX3_doStatement_102 rfl (lv_at hl 0 rfl) ?_
        refine k_get (v := .ref (ad 36)) C Wd.1 KX3 _ 6 (cx33 _) (by decide) fl_X3_25 rfl dX3_doStatement_103 ?_
        refine lv_iconst (v := zI 0) C.1 C.2.1 dX3_doStatement_106 (by decide) ?_
        refine k_ialdK (g := (σr65.2.1 36)) C Wd (cx36 _) (tC_at (by decide) rfl) (show (0 : Int) ≤ 0 ∧ (0 : Int) < 300 from by decide) (by decide) dX3_doStatement_107 ?_
        have ga107 : rng (σr65.2.1 36 0) := rngL (fun j => (Wd.2.1).2.1 36 j) (show (0 : Int) ≤ 0 ∧ (0 : Int) < 300 from by decide)
        refine k_pi (k_runS (rest := []) C aks Wd.1 cs_X3_80 (mk_W_holds D r93 (σr65.2.1 36 1) (σr65.2.1 36 0) g_r93 ga101 ga107 _ hw l _) [] rfl (by decide) [] rfl rfl rfl ⟨(Nat.le_of_ble_eq_true rfl), (Nat.le_of_ble_eq_true rfl)⟩ hl.1 rfl rfl (Nat.le_of_ble_eq_true rfl) ⟨(Nat.le_of_ble_eq_true rfl), (Nat.le_of_ble_eq_true rfl)⟩ dX3_doStatement_108) (fun y108 hy => ?_)
        obtain ⟨r108, rfl, g_r108, hw⟩ := hy
        refine lv_istore_n (lv' := [(3, .int (zI r108)), (0, .ref (ad 33)), (1, .int (zI x0)), (2, .int (zI (σ.2.1 39 x0)))]) C.1 C.2.1 dX3_doStatement_111 rfl hl (by decide) rfl (fun ls hl => ?_)
        replace hl := lv_sub hl [1, 2, 3, 0] rfl
        refine lv_iload_n C.1 C.2.1 dX3_doStatement_112 rfl (lv_at hl 3 rfl) ?_
        refine lv_if_eq (tgt := 128) C.1 C.2.1 dX3_doStatement_113 (by decide) (fun c113 => ?_) (fun c113 => ?_)
        · have hw := hw.1 (z0_eq g_r108 c113)
          refine lv_aload_n C.1 C.2.1 dX3_doStatement_128 rfl (lv_at hl 0 rfl) ?_
          refine k_get (v := .ref (ad 37)) C Wd.1 KX3 _ 0 (cx33 _) (by decide) fl_X3_12 rfl dX3_doStatement_129 ?_
          refine k_get (v := .ref (ad 43)) C Wd.1 KX1 _ 7 (cx37 _) (by decide) fl_X3_87 rfl dX3_doStatement_132 ?_
          refine lv_iload_n C.1 C.2.1 dX3_doStatement_135 rfl (lv_at hl 1 rfl) ?_
          refine k_ialdK (g := (σr65.2.1 43)) C Wd (cx43 _) (tC_at (by decide) rfl) n21_0 (by decide) dX3_doStatement_136 ?_
          have ga136 : rng (σr65.2.1 43 x0) := rngL (fun j => (Wd.2.1).2.1 43 j) n21_0
          exact k_retKi C hr hlk rfl Wd ⟨_, rfl, ga136, hw⟩ dX3_doStatement_137
        · have hw := hw.2 (z0_ne g_r108 c113)
          refine lv_aload_n C.1 C.2.1 dX3_doStatement_116 rfl (lv_at hl 0 rfl) ?_
          refine k_get (v := .ref (ad 37)) C Wd.1 KX3 _ 0 (cx33 _) (by decide) fl_X3_12 rfl dX3_doStatement_117 ?_
          refine k_get (v := .ref (ad 42)) C Wd.1 KX1 _ 6 (cx37 _) (by decide) fl_X3_84 rfl dX3_doStatement_120 ?_
          refine lv_iload_n C.1 C.2.1 dX3_doStatement_123 rfl (lv_at hl 1 rfl) ?_
          refine k_ialdK (g := (σr65.2.1 42)) C Wd (cx42 _) (tC_at (by decide) rfl) n21_0 (by decide) dX3_doStatement_124 ?_
          have ga124 : rng (σr65.2.1 42 x0) := rngL (fun j => (Wd.2.1).2.1 42 j) n21_0
          refine lv_goto (tgt := 137) C.1 C.2.1 dX3_doStatement_125 (by decide) ?_
          exact k_retKi C hr hlk rfl Wd ⟨_, rfl, ga124, hw⟩ dX3_doStatement_137
    · have hw := hw.2 (z_eq ga21 (show rng 111 from by decide) c26)
      refine lv_bipush (v := zI (-2)) C.1 C.2.1 dX3_doStatement_29 (by decide) ?_
      exact k_retKi C hr hlk rfl Wd ⟨_, rfl, (show rng (-2) from by decide), hw⟩ dX3_doStatement_31
  · have hw := hw.2 (z0_eq g_r5 c8)
    refine lv_iconst (v := zI (-1)) C.1 C.2.1 dX3_doStatement_11 (by decide) ?_
    exact k_retKi C hr hlk rfl Wd ⟨_, rfl, (show rng (-1) from by decide), hw⟩ dX3_doStatement_12
set_option maxHeartbeats 4000000 in
set_option maxRecDepth 100000 in
theorem mk_M_go_33 : ∀ (D : va_G) (ad : Nat → Nat) (ca : Nat → ClassId) (rf : Nat → Nat → Option Nat) (σ : Sg) (hS : rngK σ) (hRF : RFok ad rf) (x0 : Int) (x1 : Int) (g_x0 : rng x0) (g_x1 : rng x1) (K : Sg → Prop) (hw : wp5_M_go σ 33 x0 x1 K) (l : Launch) (sz : Nat), Met l yX3_go (Cond.code yX3_go cX3_go 4 none :: gG) { frames := 4, cells := 0, slots := 0, locals := 147 } (cPre D (tC ca) (wK ad ca rf σ) sz [.ref (ad 33), .int (zI x0), .int (zI x1)]) (va_Qv (fun (u : Sg) => K u ∧ rngK u) (fun u t => cB D (va_A (wK ad ca rf σ) sz) [] (wK ad ca rf u) t) (va_A (wK ad ca rf σ) sz)) 0 0 (va_A (wK ad ca rf σ) sz) := by
  intro D ad ca rf σ hS hRF x0 x1 g_x0 g_x1 K hw l sz
  refine Met.ofW (cc := cX3_go) (maxL := 4) (ret := none) (by decide) rfl ?_
  intro p e s m args below meth c s₁ B hml hv
  obtain ⟨rfl, aks, rfl, Wd⟩ := k_enter hv
  have C : CallFix p m c cX3_go 4 s _ gG RX3 := ⟨B.exec, B.bytes, hml, findClass_of_methodNamed B.named, fun w h => atoms_spec (ws := Cond.code yX3_go cX3_go 4 none :: gG) B.pre w (List.mem_cons_of_mem _ h)⟩
  have hr := B.returns
  have hlk := B.notSynchronized
  generalize va_A (wK ad ca rf σ) s.heap.size = A at Wd ⊢
  replace Wd : wXK D ad ca rf s σ s.heap A s.heap [] := ⟨Wd, hS, hRF⟩
  refine k_locals (Nat.le_of_ble_eq_true rfl) [(0, .ref (ad 33)), (1, .int (zI x0)), (2, .int (zI x1))] rfl (fun ls hl => ?_)
  unfold wp5_M_go at hw
  refine lv_iconst (v := zI 0) C.1 C.2.1 dX3_go_0 (by decide) ?_
  refine lv_istore_n (lv' := [(3, .int (zI 0)), (0, .ref (ad 33)), (1, .int (zI x0)), (2, .int (zI x1))]) C.1 C.2.1 dX3_go_1 rfl hl (by decide) rfl (fun ls hl => ?_)
  replace hl := lv_sub hl [1, 2, 3, 0] rfl
  refine k_lp2 hw (fun (l3_2 : Int) (σ2 : Sg) H locs ls => rng l3_2 ∧ wXK D ad ca rf s σ2 H A s.heap locs ∧ lv_has ls 4 [(0, .ref (ad 33)), (1, .int (zI x0)), (2, .int (zI x1)), (3, .int (zI l3_2))]) (fun (l3_2 : Int) (σ2 : Sg) ls => F0 m 2 ls []) (fun L2 hL2 l3_2 σ2 hw H locs ls hi => ?_) _ _ _ ⟨(show rng 0 from by decide), Wd, lv_sub hl [0, 1, 2, 3] rfl⟩
  obtain ⟨g_l3_2, Wd, hl⟩ := hi
  have hS_σ2 := Wd.2.1
  unfold wp5_M_go_2 at hw
  refine lv_iload_n C.1 C.2.1 dX3_go_2 rfl (lv_at hl 3 rfl) ?_
  refine lv_aload_n C.1 C.2.1 dX3_go_3 rfl (lv_at hl 0 rfl) ?_
  refine k_get (v := .ref (ad 35)) C Wd.1 KX3 _ 5 (cx33 _) (by decide) fl_X3_22 rfl dX3_go_4 ?_
  refine k_alen (v := zI 6) C Wd.1 35 35 (cx35 _) (tC_at (by decide) rfl) rfl dX3_go_7 ?_
  refine lv_icmp_ge (tgt := 41) C.1 C.2.1 dX3_go_8 (by decide) (fun c8 => ?_) (fun c8 => ?_)
  · have hw := hw.1 (z_le (show rng 6 from by decide) g_l3_2 c8)
    refine lv_aload_n C.1 C.2.1 dX3_go_41 rfl (lv_at hl 0 rfl) ?_
    refine lv_iconst (v := zI 0) C.1 C.2.1 dX3_go_42 (by decide) ?_
    refine k_putK (v := 0) C Wd KX3 33 2 (by decide) (cx33 _) rfl (by decide) fl_X3_28 rfl rfl rfl (Nat.le_of_ble_eq_true rfl) (show rng 0 from by decide) dX3_go_43 (fun H locs Wd => ?_)
    refine lv_aload_n C.1 C.2.1 dX3_go_46 rfl (lv_at hl 0 rfl) ?_
    refine k_get (v := .ref (ad 37)) C Wd.1 KX3 _ 0 (cx33 _) (by decide) fl_X3_12 rfl dX3_go_47 ?_
    refine k_get (v := .int (zI (σ2.1 37 1))) C Wd.1 KX1 _ 1 (cx37 _) (by decide) fl_X3_32 rfl dX3_go_50 ?_
    refine k_cut1 (fun (s0_61 : Int) H locs ls => rng s0_61 ∧ wp5_M_go_61 K 33 σ2 s0_61 ∧ wXK D ad ca rf s (pU σ2 33 2 0) H A s.heap locs ∧ lv_has ls 4 [(0, .ref (ad 33))]) (fun (s0_61 : Int) ls => F0 m 61 ls [.int (zI s0_61)]) (fun s0_61 H locs ls hi => ?_) (fun J61 => ?_)
    · obtain ⟨g_s0_61, hw, Wd, hl⟩ := hi
      unfold wp5_M_go_61 at hw
      refine lv_istore_n (lv' := [(3, .int (zI s0_61)), (0, .ref (ad 33))]) C.1 C.2.1 dX3_go_61 rfl hl (by decide) rfl (fun ls hl => ?_)
      replace hl := lv_sub hl [1, 0] rfl
      refine lv_aload_n C.1 C.2.1 dX3_go_62 rfl (lv_at hl 0 rfl) ?_
      refine lv_iconst (v := zI 0) C.1 C.2.1 dX3_go_63 (by decide) ?_
      refine k_putK (v := 0) C Wd KX3 33 3 (by decide) (cx33 _) rfl (by decide) fl_X3_35 rfl rfl rfl (Nat.le_of_ble_eq_true rfl) (show rng 0 from by decide) dX3_go_64 (fun H locs Wd => ?_)
      refine k_lp2 hw (fun (l3_67 : Int) (σ67 : Sg) H locs ls => rng l3_67 ∧ wXK D ad ca rf s σ67 H A s.heap locs ∧ lv_has ls 4 [(0, .ref (ad 33)), (3, .int (zI l3_67))]) (fun (l3_67 : Int) (σ67 : Sg) ls => F0 m 67 ls []) (fun L67 hL67 l3_67 σ67 hw H locs ls hi => ?_) _ _ _ ⟨g_s0_61, Wd, lv_sub hl [0, 1] rfl⟩
      obtain ⟨g_l3_67, Wd, hl⟩ := hi
      have hS_σ67 := Wd.2.1
      unfold wp5_M_go_67 at hw
      refine lv_aload_n C.1 C.2.1 dX3_go_67 rfl (lv_at hl 0 rfl) ?_
      refine k_get (v := .int (zI (σ67.1 33 3))) C Wd.1 KX3 _ 3 (cx33 _) (by decide) fl_X3_35 rfl dX3_go_68 ?_
      refine lv_bipush (v := zI 100) C.1 C.2.1 dX3_go_71 (by decide) ?_
      refine k_cut0 (fun H locs ls => wp5_M_go_99 K 33 l3_67 σ67 ∧ wXK D ad ca rf s σ67 H A s.heap locs ∧ lv_has ls 4 [(0, .ref (ad 33)), (3, .int (zI l3_67))]) (fun  ls => F0 m 99 ls []) (fun  H locs ls hi => ?_) (fun J99 => ?_)
      · obtain ⟨hw, Wd, hl⟩ := hi
        unfold wp5_M_go_99 at hw
        refine lv_aload_n C.1 C.2.1 dX3_go_99 rfl (lv_at hl 0 rfl) ?_
        refine lv_iload_n C.1 C.2.1 dX3_go_100 rfl (lv_at hl 1 rfl) ?_
        refine lv_bipush (v := zI (-2)) C.1 C.2.1 dX3_go_101 (by decide) ?_
        refine lv_icmp_ne (tgt := 110) C.1 C.2.1 dX3_go_103 (by decide) (fun c103 => ?_) (fun c103 => ?_)
        · have hw := hw.1 (z_ne g_l3_67 (show rng (-2) from by decide) c103)
          refine lv_iload_n C.1 C.2.1 dX3_go_110 rfl (lv_at hl 1 rfl) ?_
          refine lv_if_lt (tgt := 118) C.1 C.2.1 dX3_go_111 (by decide) (fun c111 => ?_) (fun c111 => ?_)
          · have hw := hw.1 (z0_lt g_l3_67 c111)
            refine lv_iconst (v := zI 0) C.1 C.2.1 dX3_go_118 (by decide) ?_
            refine k_putK (v := 0) C Wd KX3 33 4 (by decide) (cx33 _) rfl (by decide) fl_X3_42 rfl rfl rfl (Nat.le_of_ble_eq_true rfl) (show rng 0 from by decide) dX3_go_119 (fun H locs Wd => ?_)
            exact k_retKv C hr hlk Wd hw dX3_go_122
          · have hw := hw.2 (z0_nlt g_l3_67 c111)
            refine lv_iconst (v := zI 2) C.1 C.2.1 dX3_go_114 (by decide) ?_
            refine lv_goto (tgt := 119) C.1 C.2.1 dX3_go_115 (by decide) ?_
            refine k_putK (v := 2) C Wd KX3 33 4 (by decide) (cx33 _) rfl (by decide) fl_X3_42 rfl rfl rfl (Nat.le_of_ble_eq_true rfl) (show rng 2 from by decide) dX3_go_119 (fun H locs Wd => ?_)
            exact k_retKv C hr hlk Wd hw dX3_go_122
        · have hw := hw.2 (z_eq g_l3_67 (show rng (-2) from by decide) c103)
          refine lv_iconst (v := zI 1) C.1 C.2.1 dX3_go_106 (by decide) ?_
          refine lv_goto (tgt := 119) C.1 C.2.1 dX3_go_107 (by decide) ?_
          refine k_putK (v := 1) C Wd KX3 33 4 (by decide) (cx33 _) rfl (by decide) fl_X3_42 rfl rfl rfl (Nat.le_of_ble_eq_true rfl) (show rng 1 from by decide) dX3_go_119 (fun H locs Wd => ?_)
          exact k_retKv C hr hlk Wd hw dX3_go_122
      refine lv_icmp_ge (tgt := 99) C.1 C.2.1 dX3_go_73 (by decide) (fun c73 => ?_) (fun c73 => ?_)
      · have hw := hw.1 (z_le (show rng 100 from by decide) (hS_σ67.1 33 3) c73)
        exact J99  _ _ _ ⟨hw, Wd, lv_sub hl [0, 1] rfl⟩
      · have hw := hw.2 (z_nle (show rng 100 from by decide) (hS_σ67.1 33 3) c73)
        refine lv_iload_n C.1 C.2.1 dX3_go_76 rfl (lv_at hl 1 rfl) ?_
        refine lv_if_lt (tgt := 99) C.1 C.2.1 dX3_go_77 (by decide) (fun c77 => ?_) (fun c77 => ?_)
        · have hw := hw.1 (z0_lt g_l3_67 c77)
          exact J99  _ _ _ ⟨hw, Wd, lv_sub hl [0, 1] rfl⟩
        · have hw := hw.2 (z0_nlt g_l3_67 c77)
          refine lv_aload_n C.1 C.2.1 dX3_go_80 rfl (lv_at hl 0 rfl) ?_
          refine lv_iload_n C.1 C.2.1 dX3_go_81 rfl (lv_at hl 1 rfl) ?_
          refine k_cKi Wd (k_runVK (rest := []) C aks Wd cs_X3_38 (mk_M_doStatement_33 D ad ca rf σ67 Wd.2.1 Wd.2.2 l3_67 g_l3_67 _ hw l _) (cx33 _) rfl rfl rfl rfl ⟨(Nat.le_of_ble_eq_true rfl), (Nat.le_of_ble_eq_true rfl)⟩ hl.1 rfl rfl (Nat.le_of_ble_eq_true rfl) ⟨(Nat.le_of_ble_eq_true rfl), (Nat.le_of_ble_eq_true rfl)⟩ dX3_go_82) (fun r82 σr82 H locs g_r82 hw Wd => ?_)
          have hS_σr82 := Wd.2.1
          refine lv_istore_n (lv' := [(3, .int (zI r82)), (0, .ref (ad 33))]) C.1 C.2.1 dX3_go_85 rfl hl (by decide) rfl (fun ls hl => ?_)
          replace hl := lv_sub hl [1, 0] rfl
          refine lv_aload_n C.1 C.2.1 dX3_go_86 rfl (lv_at hl 0 rfl) ?_
          refine lv_dup C.1 C.2.1 dX3_go_87 rfl ?_
          refine k_get (v := .int (zI (σr82.1 33 3))) C Wd.1 KX3 _ 3 (cx33 _) (by decide) fl_X3_35 rfl dX3_go_88 ?_
          refine lv_iconst (v := zI 1) C.1 C.2.1 dX3_go_91 (by decide) ?_
          refine k_iadd (v := zI ((σr82.1 33 3) + 1)) C (zI_iadd _ _) dX3_go_92 ?_
          obtain ⟨g93_10, hw⟩ := hw
          refine k_putK (v := ((σr82.1 33 3) + 1)) C Wd KX3 33 3 (by decide) (cx33 _) rfl (by decide) fl_X3_35 rfl rfl rfl (Nat.le_of_ble_eq_true rfl) g93_10 dX3_go_93 (fun H locs Wd => ?_)
          refine lv_goto (tgt := 67) C.1 C.2.1 dX3_go_96 (by decide) ?_
          exact hL67 _ _ hw _ _ _ ⟨g_r82, Wd, lv_sub hl [0, 1] rfl⟩
    refine lv_if_le (tgt := 60) C.1 C.2.1 dX3_go_53 (by decide) (fun c53 => ?_) (fun c53 => ?_)
    · have hw := hw.1 (z0_le (hS_σ2.1 37 1) c53)
      refine lv_iconst (v := zI (-1)) C.1 C.2.1 dX3_go_60 (by decide) ?_
      exact J61 (-1) _ _ _ ⟨(show rng (-1) from by decide), hw, Wd, lv_sub hl [0] rfl⟩
    · have hw := hw.2 (z0_nle (hS_σ2.1 37 1) c53)
      refine lv_iconst (v := zI 0) C.1 C.2.1 dX3_go_56 (by decide) ?_
      refine lv_goto (tgt := 61) C.1 C.2.1 dX3_go_57 (by decide) ?_
      exact J61 0 _ _ _ ⟨(show rng 0 from by decide), hw, Wd, lv_sub hl [0] rfl⟩
  · have hw := hw.2 (z_nle (show rng 6 from by decide) g_l3_2 c8)
    refine lv_aload_n C.1 C.2.1 dX3_go_11 rfl (lv_at hl 0 rfl) ?_
    refine k_get (v := .ref (ad 35)) C Wd.1 KX3 _ 5 (cx33 _) (by decide) fl_X3_22 rfl dX3_go_12 ?_
    refine lv_iload_n C.1 C.2.1 dX3_go_15 rfl (lv_at hl 3 rfl) ?_
    refine lv_iload_n C.1 C.2.1 dX3_go_16 rfl (lv_at hl 3 rfl) ?_
    refine lv_if_ne (tgt := 24) C.1 C.2.1 dX3_go_17 (by decide) (fun c17 => ?_) (fun c17 => ?_)
    · have hw := hw.1 (z0_ne g_l3_2 c17)
      refine lv_iload_n C.1 C.2.1 dX3_go_24 rfl (lv_at hl 3 rfl) ?_
      refine lv_iconst (v := zI 1) C.1 C.2.1 dX3_go_25 (by decide) ?_
      refine lv_icmp_ne (tgt := 33) C.1 C.2.1 dX3_go_26 (by decide) (fun c26 => ?_) (fun c26 => ?_)
      · have hw := hw.1 (z_ne g_l3_2 (show rng 1 from by decide) c26)
        refine lv_iconst (v := zI 0) C.1 C.2.1 dX3_go_33 (by decide) ?_
        obtain ⟨n34_0, hw⟩ := hw
        refine k_iastF (g := (σ2.2.1 35)) (i := l3_2) (v := 0) C Wd 35 (by decide) (cx35 _) (fun f => cx35a _ f) (tC_at (by decide) rfl) n34_0 (by decide) (ruZ (fun j => Wd.2.1.2.1 35 j) (show rng 0 from by decide)) dX3_go_34 (fun H locs Wd => ?_)
        refine lv_iinc (v := zI (l3_2 + 1)) (lv' := [(3, .int (zI (l3_2 + 1))), (0, .ref (ad 33)), (1, .int (zI x0)), (2, .int (zI x1))]) C.1 C.2.1 dX3_go_35 hl (k := 3) rfl (zI_inc _ _ (by decide)) (by decide) rfl (fun ls hl => ?_)
        replace hl := lv_sub hl [1, 2, 3, 0] rfl
        refine lv_goto (tgt := 2) C.1 C.2.1 dX3_go_38 (by decide) ?_
        obtain ⟨g38_11, hw⟩ := hw
        exact hL2 _ _ hw _ _ _ ⟨g38_11, Wd, lv_sub hl [0, 1, 2, 3] rfl⟩
      · have hw := hw.2 (z_eq g_l3_2 (show rng 1 from by decide) c26)
        refine lv_iload_n C.1 C.2.1 dX3_go_29 rfl (lv_at hl 2 rfl) ?_
        refine lv_goto (tgt := 34) C.1 C.2.1 dX3_go_30 (by decide) ?_
        obtain ⟨n34_0, hw⟩ := hw
        refine k_iastF (g := (σ2.2.1 35)) (i := l3_2) (v := x1) C Wd 35 (by decide) (cx35 _) (fun f => cx35a _ f) (tC_at (by decide) rfl) n34_0 (by decide) (ruZ (fun j => Wd.2.1.2.1 35 j) g_x1) dX3_go_34 (fun H locs Wd => ?_)
        refine lv_iinc (v := zI (l3_2 + 1)) (lv' := [(3, .int (zI (l3_2 + 1))), (0, .ref (ad 33)), (1, .int (zI x0)), (2, .int (zI x1))]) C.1 C.2.1 dX3_go_35 hl (k := 3) rfl (zI_inc _ _ (by decide)) (by decide) rfl (fun ls hl => ?_)
        replace hl := lv_sub hl [1, 2, 3, 0] rfl
        refine lv_goto (tgt := 2) C.1 C.2.1 dX3_go_38 (by decide) ?_
        obtain ⟨g38_12, hw⟩ := hw
        exact hL2 _ _ hw _ _ _ ⟨g38_12, Wd, lv_sub hl [0, 1, 2, 3] rfl⟩
    · have hw := hw.2 (z0_eq g_l3_2 c17)
      refine lv_iload_n C.1 C.2.1 dX3_go_20 rfl (lv_at hl 1 rfl) ?_
      refine lv_goto (tgt := 34) C.1 C.2.1 dX3_go_21 (by decide) ?_
      obtain ⟨n34_0, hw⟩ := hw
      refine k_iastF (g := (σ2.2.1 35)) (i := l3_2) (v := x0) C Wd 35 (by decide) (cx35 _) (fun f => cx35a _ f) (tC_at (by decide) rfl) n34_0 (by decide) (ruZ (fun j => Wd.2.1.2.1 35 j) g_x0) dX3_go_34 (fun H locs Wd => ?_)
      refine lv_iinc (v := zI (l3_2 + 1)) (lv' := [(3, .int (zI (l3_2 + 1))), (0, .ref (ad 33)), (1, .int (zI x0)), (2, .int (zI x1))]) C.1 C.2.1 dX3_go_35 hl (k := 3) rfl (zI_inc _ _ (by decide)) (by decide) rfl (fun ls hl => ?_)
      replace hl := lv_sub hl [1, 2, 3, 0] rfl
      refine lv_goto (tgt := 2) C.1 C.2.1 dX3_go_38 (by decide) ?_
      obtain ⟨g38_13, hw⟩ := hw
      exact hL2 _ _ hw _ _ _ ⟨g38_13, Wd, lv_sub hl [0, 1, 2, 3] rfl⟩
set_option maxHeartbeats 4000000 in
set_option maxRecDepth 100000 in
theorem mk_W_reckonM_50 : ∀ (D : va_G) (ad : Nat → Nat) (ca : Nat → ClassId) (rf : Nat → Nat → Option Nat) (σ : Sg) (hS : rngK σ) (hRF : RFok ad rf) (n0 : Int) (x0 : Int) (x1 : Int) (h_n0 : 0 ≤ n0 ∧ n0 < 35) (g_x0 : rng x0) (g_x1 : rng x1) (K : Sg → Prop) (hw : wp5_W_reckonM σ 50 n0 x0 x1 K) (l : Launch) (sz : Nat), Met l yX8_reckon (Cond.code yX8_reckon cX8_reckon 9 none :: gG) { frames := 2, cells := 0, slots := 0, locals := 96 } (cPre D (tC ca) (wK ad ca rf σ) sz [.ref (ad (rowC n0.toNat)), .int (zI x0), .int (zI x1), .ref (ad 52), .ref (ad 53)]) (va_Qv (fun (u : Sg) => K u ∧ rngK u) (fun u t => cB D (va_A (wK ad ca rf σ) sz) [] (wK ad ca rf u) t) (va_A (wK ad ca rf σ) sz)) 0 0 (va_A (wK ad ca rf σ) sz) := by
  intro D ad ca rf σ hS hRF n0 x0 x1 h_n0 g_x0 g_x1 K hw l sz
  refine Met.ofW (cc := cX8_reckon) (maxL := 9) (ret := none) (by decide) rfl ?_
  intro p e s m args below meth c s₁ B hml hv
  obtain ⟨rfl, aks, rfl, Wd⟩ := k_enter hv
  have C : CallFix p m c cX8_reckon 9 s _ gG RX8 := ⟨B.exec, B.bytes, hml, findClass_of_methodNamed B.named, fun w h => atoms_spec (ws := Cond.code yX8_reckon cX8_reckon 9 none :: gG) B.pre w (List.mem_cons_of_mem _ h)⟩
  have hr := B.returns
  have hlk := B.notSynchronized
  generalize va_A (wK ad ca rf σ) s.heap.size = A at Wd ⊢
  replace Wd : wXK D ad ca rf s σ s.heap A s.heap [] := ⟨Wd, hS, hRF⟩
  refine k_locals (Nat.le_of_ble_eq_true rfl) [(0, .ref (ad (rowC n0.toNat))), (1, .int (zI x0)), (2, .int (zI x1)), (3, .ref (ad 52)), (4, .ref (ad 53))] rfl (fun ls hl => ?_)
  unfold wp5_W_reckonM at hw
  refine lv_iconst (v := zI 0) C.1 C.2.1 dX8_reckon_0 (by decide) ?_
  refine lv_istore (lv' := [(5, .int (zI 0)), (0, .ref (ad (rowC n0.toNat))), (1, .int (zI x0)), (2, .int (zI x1)), (3, .ref (ad 52)), (4, .ref (ad 53))]) C.1 C.2.1 dX8_reckon_1 hl (by decide) rfl (fun ls hl => ?_)
  replace hl := lv_sub hl [1, 2, 3, 4, 5, 0] rfl
  refine lv_iload_n C.1 C.2.1 dX8_reckon_3 rfl (lv_at hl 2 rfl) ?_
  refine lv_aload_n C.1 C.2.1 dX8_reckon_4 rfl (lv_at hl 0 rfl) ?_
  refine k_get (v := .int (zI (σ.2.2.1 0 n0))) C Wd.1 KX8 _ 1 (cxRow h_n0) (by decide) fl_X8_21 rfl dX8_reckon_5 ?_
  refine k_mmin (v := zI (min x1 (σ.2.2.1 0 n0))) C hl.1 ml_X8_65 st_Lib_Math_min_name in_J9 cd_min (Nat.le_of_ble_eq_true rfl) (Nat.le_of_ble_eq_true rfl) (Nat.le_of_ble_eq_true rfl) (Nat.le_of_ble_eq_true rfl) (zmin_eq _ _ g_x1 (rgY hS (N := 35) h_n0)) dX8_reckon_8 ?_
  refine lv_iconst (v := zI 1) C.1 C.2.1 dX8_reckon_11 (by decide) ?_
  refine k_isub (v := zI ((min x1 (σ.2.2.1 0 n0)) - 1)) C (zI_isub _ _) dX8_reckon_12 ?_
  refine lv_istore (lv' := [(6, .int (zI ((min x1 (σ.2.2.1 0 n0)) - 1))), (0, .ref (ad (rowC n0.toNat))), (1, .int (zI x0)), (2, .int (zI x1)), (3, .ref (ad 52)), (4, .ref (ad 53)), (5, .int (zI 0))]) C.1 C.2.1 dX8_reckon_13 hl (by decide) rfl (fun ls hl => ?_)
  replace hl := lv_sub hl [1, 2, 3, 4, 5, 6, 0] rfl
  obtain ⟨g13_10, hw⟩ := hw
  refine k_lp3 hw (fun (l5_15 : Int) (l6_15 : Int) (σ15 : Sg) H locs ls => rng l5_15 ∧ rng l6_15 ∧ wXK D ad ca rf s σ15 H A s.heap locs ∧ lv_has ls 9 [(0, .ref (ad (rowC n0.toNat))), (1, .int (zI x0)), (3, .ref (ad 52)), (4, .ref (ad 53)), (5, .int (zI l5_15)), (6, .int (zI l6_15))]) (fun (l5_15 : Int) (l6_15 : Int) (σ15 : Sg) ls => F0 m 15 ls []) (fun L15 hL15 l5_15 l6_15 σ15 hw H locs ls hi => ?_) _ _ _ ⟨(show rng 0 from by decide), g13_10, Wd, lv_sub hl [0, 1, 3, 4, 5, 6] rfl⟩
  obtain ⟨g_l5_15, g_l6_15, Wd, hl⟩ := hi
  have hS_σ15 := Wd.2.1
  unfold wp5_W_reckonM_15 at hw
  refine lv_iload C.1 C.2.1 dX8_reckon_15 (lv_at hl 5 rfl) ?_
  refine lv_iload_n C.1 C.2.1 dX8_reckon_17 rfl (lv_at hl 1 rfl) ?_
  refine lv_icmp_lt (tgt := 143) C.1 C.2.1 dX8_reckon_18 (by decide) (fun c18 => ?_) (fun c18 => ?_)
  · have hw := hw.1 (z_lt g_l6_15 g_x0 c18)
    exact k_retKv C hr hlk Wd hw dX8_reckon_143
  · have hw := hw.2 (z_nlt g_l6_15 g_x0 c18)
    refine lv_iload C.1 C.2.1 dX8_reckon_21 (lv_at hl 5 rfl) ?_
    refine lv_if_lt (tgt := 143) C.1 C.2.1 dX8_reckon_23 (by decide) (fun c23 => ?_) (fun c23 => ?_)
    · have hw := hw.1 (z0_lt g_l6_15 c23)
      exact k_retKv C hr hlk Wd hw dX8_reckon_143
    · have hw := hw.2 (z0_nlt g_l6_15 c23)
      refine lv_aload_n C.1 C.2.1 dX8_reckon_26 rfl (lv_at hl 0 rfl) ?_
      refine k_get (v := .ref (ad ((rowC n0.toNat) + 1))) C Wd.1 KX8 _ 0 (cxRow h_n0) (by decide) fl_X8_15 rfl dX8_reckon_27 ?_
      refine lv_iload C.1 C.2.1 dX8_reckon_30 (lv_at hl 5 rfl) ?_
      obtain ⟨n32_0, hw⟩ := hw
      refine k_ialdK (g := (σ15.2.2.2 0 n0)) C Wd (cxRowc h_n0) (tyR h_n0) (capN n32_0) (capL _) dX8_reckon_32 ?_
      have ga32 : rng (σ15.2.2.2 0 n0 l6_15) := rngL (rgZ (c := 0) Wd.2.1 h_n0) n32_0
      refine lv_istore (lv' := [(7, .int (zI (σ15.2.2.2 0 n0 l6_15))), (0, .ref (ad (rowC n0.toNat))), (1, .int (zI x0)), (3, .ref (ad 52)), (4, .ref (ad 53)), (5, .int (zI l5_15)), (6, .int (zI l6_15))]) C.1 C.2.1 dX8_reckon_33 hl (by decide) rfl (fun ls hl => ?_)
      replace hl := lv_sub hl [1, 2, 3, 4, 5, 6, 0] rfl
      refine lv_iload C.1 C.2.1 dX8_reckon_35 (lv_at hl 6 rfl) ?_
      refine k_pi (k_runS (rest := []) C aks Wd.1 cs_X8_49 (mk_W_isOperation D (σ15.2.2.2 0 n0 l6_15) ga32 _ hw l _) [] rfl (by decide) [] rfl rfl rfl ⟨(Nat.le_of_ble_eq_true rfl), (Nat.le_of_ble_eq_true rfl)⟩ hl.1 rfl rfl (Nat.le_of_ble_eq_true rfl) ⟨(Nat.le_of_ble_eq_true rfl), (Nat.le_of_ble_eq_true rfl)⟩ dX8_reckon_37) (fun y37 hy => ?_)
      obtain ⟨r37, rfl, g_r37, hw⟩ := hy
      refine lv_if_eq (tgt := 89) C.1 C.2.1 dX8_reckon_40 (by decide) (fun c40 => ?_) (fun c40 => ?_)
      · have hw := hw.1 (z0_eq g_r37 c40)
        refine lv_iload C.1 C.2.1 dX8_reckon_89 (lv_at hl 4 rfl) ?_
        refine lv_aload C.1 C.2.1 dX8_reckon_91 (lv_at hl 3 rfl) ?_
        refine k_alen (v := zI 300) C Wd.1 53 53 (cx53 _) (tC_at (by decide) rfl) rfl dX8_reckon_93 ?_
        refine lv_icmp_ge (tgt := 137) C.1 C.2.1 dX8_reckon_94 (by decide) (fun c94 => ?_) (fun c94 => ?_)
        · have hw := hw.1 (z_le (show rng 300 from by decide) g_l5_15 c94)
          refine lv_iinc (v := zI (l6_15 - 1)) (lv' := [(6, .int (zI (l6_15 - 1))), (0, .ref (ad (rowC n0.toNat))), (1, .int (zI x0)), (3, .ref (ad 52)), (4, .ref (ad 53)), (5, .int (zI l5_15)), (7, .int (zI (σ15.2.2.2 0 n0 l6_15)))]) C.1 C.2.1 dX8_reckon_137 hl (k := 5) rfl (zI_dec _ _ (by decide)) (by decide) rfl (fun ls hl => ?_)
          replace hl := lv_sub hl [1, 2, 3, 4, 5, 0, 6] rfl
          refine lv_goto (tgt := 15) C.1 C.2.1 dX8_reckon_140 (by decide) ?_
          obtain ⟨g140_11, hw⟩ := hw
          exact hL15 _ _ _ hw _ _ _ ⟨g_l5_15, g140_11, Wd, lv_sub hl [0, 1, 2, 3, 4, 5] rfl⟩
        · have hw := hw.2 (z_nle (show rng 300 from by decide) g_l5_15 c94)
          refine lv_iload C.1 C.2.1 dX8_reckon_97 (lv_at hl 6 rfl) ?_
          refine lv_bipush (v := zI 20) C.1 C.2.1 dX8_reckon_99 (by decide) ?_
          refine k_isub (v := zI ((σ15.2.2.2 0 n0 l6_15) - 20)) C (zI_isub _ _) dX8_reckon_101 ?_
          refine lv_istore (lv' := [(8, .int (zI ((σ15.2.2.2 0 n0 l6_15) - 20))), (0, .ref (ad (rowC n0.toNat))), (1, .int (zI x0)), (3, .ref (ad 52)), (4, .ref (ad 53)), (5, .int (zI l5_15)), (6, .int (zI l6_15)), (7, .int (zI (σ15.2.2.2 0 n0 l6_15)))]) C.1 C.2.1 dX8_reckon_102 hl (by decide) rfl (fun ls hl => ?_)
          replace hl := lv_sub hl [1, 2, 3, 4, 5, 6, 7, 0] rfl
          refine lv_aload C.1 C.2.1 dX8_reckon_104 (lv_at hl 3 rfl) ?_
          refine lv_iload C.1 C.2.1 dX8_reckon_106 (lv_at hl 4 rfl) ?_
          refine lv_iload C.1 C.2.1 dX8_reckon_108 (lv_at hl 7 rfl) ?_
          obtain ⟨g110_12, hw⟩ := hw
          refine lv_if_ge (tgt := 118) C.1 C.2.1 dX8_reckon_110 (by decide) (fun c110 => ?_) (fun c110 => ?_)
          · have hw := hw.1 (z0_ler g110_12 c110)
            refine lv_iload C.1 C.2.1 dX8_reckon_118 (lv_at hl 7 rfl) ?_
            refine lv_aload_n C.1 C.2.1 dX8_reckon_120 rfl (lv_at hl 2 rfl) ?_
            refine k_alen (v := zI 6) C Wd.1 52 52 (cx52 _) (tC_at (by decide) rfl) rfl dX8_reckon_121 ?_
            refine lv_icmp_ge (tgt := 132) C.1 C.2.1 dX8_reckon_122 (by decide) (fun c122 => ?_) (fun c122 => ?_)
            · have hw := hw.1 (z_le (show rng 6 from by decide) g110_12 c122)
              refine lv_iconst (v := zI 0) C.1 C.2.1 dX8_reckon_132 (by decide) ?_
              obtain ⟨n133_0, hw⟩ := hw
              refine k_iastF (g := (σ15.2.1 53)) (i := l5_15) (v := 0) C Wd 53 (by decide) (cx53 _) (fun f => cx53a _ f) (tC_at (by decide) rfl) n133_0 (by decide) (ruZ (fun j => Wd.2.1.2.1 53 j) (show rng 0 from by decide)) dX8_reckon_133 (fun H locs Wd => ?_)
              refine lv_iinc (v := zI (l5_15 + 1)) (lv' := [(5, .int (zI (l5_15 + 1))), (0, .ref (ad (rowC n0.toNat))), (1, .int (zI x0)), (3, .ref (ad 52)), (4, .ref (ad 53)), (6, .int (zI l6_15)), (7, .int (zI (σ15.2.2.2 0 n0 l6_15))), (8, .int (zI ((σ15.2.2.2 0 n0 l6_15) - 20)))]) C.1 C.2.1 dX8_reckon_134 hl (k := 4) rfl (zI_inc _ _ (by decide)) (by decide) rfl (fun ls hl => ?_)
              replace hl := lv_sub hl [1, 2, 3, 4, 0, 5, 6, 7] rfl
              refine lv_iinc (v := zI (l6_15 - 1)) (lv' := [(6, .int (zI (l6_15 - 1))), (0, .ref (ad (rowC n0.toNat))), (1, .int (zI x0)), (3, .ref (ad 52)), (4, .ref (ad 53)), (5, .int (zI (l5_15 + 1))), (7, .int (zI (σ15.2.2.2 0 n0 l6_15))), (8, .int (zI ((σ15.2.2.2 0 n0 l6_15) - 20)))]) C.1 C.2.1 dX8_reckon_137 hl (k := 5) rfl (zI_dec _ _ (by decide)) (by decide) rfl (fun ls hl => ?_)
              replace hl := lv_sub hl [1, 2, 3, 4, 5, 0, 6, 7] rfl
              refine lv_goto (tgt := 15) C.1 C.2.1 dX8_reckon_140 (by decide) ?_
              obtain ⟨g140_13, hw⟩ := hw
              obtain ⟨g140_14, hw⟩ := hw
              exact hL15 _ _ _ hw _ _ _ ⟨g140_13, g140_14, Wd, lv_sub hl [0, 1, 2, 3, 4, 5] rfl⟩
            · have hw := hw.2 (z_nle (show rng 6 from by decide) g110_12 c122)
              refine lv_aload_n C.1 C.2.1 dX8_reckon_125 rfl (lv_at hl 2 rfl) ?_
              refine lv_iload C.1 C.2.1 dX8_reckon_126 (lv_at hl 7 rfl) ?_
              obtain ⟨n128_0, hw⟩ := hw
              refine k_ialdK (g := (σ15.2.1 52)) C Wd (cx52 _) (tC_at (by decide) rfl) n128_0 (by decide) dX8_reckon_128 ?_
              have ga128 : rng (σ15.2.1 52 ((σ15.2.2.2 0 n0 l6_15) - 20)) := rngL (fun j => (Wd.2.1).2.1 52 j) n128_0
              refine lv_goto (tgt := 133) C.1 C.2.1 dX8_reckon_129 (by decide) ?_
              obtain ⟨n133_0, hw⟩ := hw
              refine k_iastF (g := (σ15.2.1 53)) (i := l5_15) (v := (σ15.2.1 52 ((σ15.2.2.2 0 n0 l6_15) - 20))) C Wd 53 (by decide) (cx53 _) (fun f => cx53a _ f) (tC_at (by decide) rfl) n133_0 (by decide) (ruZ (fun j => Wd.2.1.2.1 53 j) ga128) dX8_reckon_133 (fun H locs Wd => ?_)
              refine lv_iinc (v := zI (l5_15 + 1)) (lv' := [(5, .int (zI (l5_15 + 1))), (0, .ref (ad (rowC n0.toNat))), (1, .int (zI x0)), (3, .ref (ad 52)), (4, .ref (ad 53)), (6, .int (zI l6_15)), (7, .int (zI (σ15.2.2.2 0 n0 l6_15))), (8, .int (zI ((σ15.2.2.2 0 n0 l6_15) - 20)))]) C.1 C.2.1 dX8_reckon_134 hl (k := 4) rfl (zI_inc _ _ (by decide)) (by decide) rfl (fun ls hl => ?_)
              replace hl := lv_sub hl [1, 2, 3, 4, 0, 5, 6, 7] rfl
              refine lv_iinc (v := zI (l6_15 - 1)) (lv' := [(6, .int (zI (l6_15 - 1))), (0, .ref (ad (rowC n0.toNat))), (1, .int (zI x0)), (3, .ref (ad 52)), (4, .ref (ad 53)), (5, .int (zI (l5_15 + 1))), (7, .int (zI (σ15.2.2.2 0 n0 l6_15))), (8, .int (zI ((σ15.2.2.2 0 n0 l6_15) - 20)))]) C.1 C.2.1 dX8_reckon_137 hl (k := 5) rfl (zI_dec _ _ (by decide)) (by decide) rfl (fun ls hl => ?_)
              replace hl := lv_sub hl [1, 2, 3, 4, 5, 0, 6, 7] rfl
              refine lv_goto (tgt := 15) C.1 C.2.1 dX8_reckon_140 (by decide) ?_
              obtain ⟨g140_15, hw⟩ := hw
              obtain ⟨g140_16, hw⟩ := hw
              exact hL15 _ _ _ hw _ _ _ ⟨g140_15, g140_16, Wd, lv_sub hl [0, 1, 2, 3, 4, 5] rfl⟩
          · have hw := hw.2 (z0_nler g110_12 c110)
            refine lv_iload C.1 C.2.1 dX8_reckon_113 (lv_at hl 6 rfl) ?_
            refine lv_goto (tgt := 133) C.1 C.2.1 dX8_reckon_115 (by decide) ?_
            obtain ⟨n133_0, hw⟩ := hw
            refine k_iastF (g := (σ15.2.1 53)) (i := l5_15) (v := (σ15.2.2.2 0 n0 l6_15)) C Wd 53 (by decide) (cx53 _) (fun f => cx53a _ f) (tC_at (by decide) rfl) n133_0 (by decide) (ruZ (fun j => Wd.2.1.2.1 53 j) ga32) dX8_reckon_133 (fun H locs Wd => ?_)
            refine lv_iinc (v := zI (l5_15 + 1)) (lv' := [(5, .int (zI (l5_15 + 1))), (0, .ref (ad (rowC n0.toNat))), (1, .int (zI x0)), (3, .ref (ad 52)), (4, .ref (ad 53)), (6, .int (zI l6_15)), (7, .int (zI (σ15.2.2.2 0 n0 l6_15))), (8, .int (zI ((σ15.2.2.2 0 n0 l6_15) - 20)))]) C.1 C.2.1 dX8_reckon_134 hl (k := 4) rfl (zI_inc _ _ (by decide)) (by decide) rfl (fun ls hl => ?_)
            replace hl := lv_sub hl [1, 2, 3, 4, 0, 5, 6, 7] rfl
            refine lv_iinc (v := zI (l6_15 - 1)) (lv' := [(6, .int (zI (l6_15 - 1))), (0, .ref (ad (rowC n0.toNat))), (1, .int (zI x0)), (3, .ref (ad 52)), (4, .ref (ad 53)), (5, .int (zI (l5_15 + 1))), (7, .int (zI (σ15.2.2.2 0 n0 l6_15))), (8, .int (zI ((σ15.2.2.2 0 n0 l6_15) - 20)))]) C.1 C.2.1 dX8_reckon_137 hl (k := 5) rfl (zI_dec _ _ (by decide)) (by decide) rfl (fun ls hl => ?_)
            replace hl := lv_sub hl [1, 2, 3, 4, 5, 0, 6, 7] rfl
            refine lv_goto (tgt := 15) C.1 C.2.1 dX8_reckon_140 (by decide) ?_
            obtain ⟨g140_17, hw⟩ := hw
            obtain ⟨g140_18, hw⟩ := hw
            exact hL15 _ _ _ hw _ _ _ ⟨g140_17, g140_18, Wd, lv_sub hl [0, 1, 2, 3, 4, 5] rfl⟩
      · have hw := hw.2 (z0_ne g_r37 c40)
        refine lv_iload C.1 C.2.1 dX8_reckon_43 (lv_at hl 4 rfl) ?_
        refine lv_iconst (v := zI 2) C.1 C.2.1 dX8_reckon_45 (by decide) ?_
        refine lv_icmp_lt (tgt := 137) C.1 C.2.1 dX8_reckon_46 (by decide) (fun c46 => ?_) (fun c46 => ?_)
        · have hw := hw.1 (z_lt g_l5_15 (show rng 2 from by decide) c46)
          refine lv_iinc (v := zI (l6_15 - 1)) (lv' := [(6, .int (zI (l6_15 - 1))), (0, .ref (ad (rowC n0.toNat))), (1, .int (zI x0)), (3, .ref (ad 52)), (4, .ref (ad 53)), (5, .int (zI l5_15)), (7, .int (zI (σ15.2.2.2 0 n0 l6_15)))]) C.1 C.2.1 dX8_reckon_137 hl (k := 5) rfl (zI_dec _ _ (by decide)) (by decide) rfl (fun ls hl => ?_)
          replace hl := lv_sub hl [1, 2, 3, 4, 5, 0, 6] rfl
          refine lv_goto (tgt := 15) C.1 C.2.1 dX8_reckon_140 (by decide) ?_
          obtain ⟨g140_19, hw⟩ := hw
          exact hL15 _ _ _ hw _ _ _ ⟨g_l5_15, g140_19, Wd, lv_sub hl [0, 1, 2, 3, 4, 5] rfl⟩
        · have hw := hw.2 (z_nlt g_l5_15 (show rng 2 from by decide) c46)
          refine lv_iload C.1 C.2.1 dX8_reckon_49 (lv_at hl 4 rfl) ?_
          refine lv_aload C.1 C.2.1 dX8_reckon_51 (lv_at hl 3 rfl) ?_
          refine k_alen (v := zI 300) C Wd.1 53 53 (cx53 _) (tC_at (by decide) rfl) rfl dX8_reckon_53 ?_
          refine lv_icmp_gt (tgt := 137) C.1 C.2.1 dX8_reckon_54 (by decide) (fun c54 => ?_) (fun c54 => ?_)
          · have hw := hw.1 (z_lt (show rng 300 from by decide) g_l5_15 c54)
            refine lv_iinc (v := zI (l6_15 - 1)) (lv' := [(6, .int (zI (l6_15 - 1))), (0, .ref (ad (rowC n0.toNat))), (1, .int (zI x0)), (3, .ref (ad 52)), (4, .ref (ad 53)), (5, .int (zI l5_15)), (7, .int (zI (σ15.2.2.2 0 n0 l6_15)))]) C.1 C.2.1 dX8_reckon_137 hl (k := 5) rfl (zI_dec _ _ (by decide)) (by decide) rfl (fun ls hl => ?_)
            replace hl := lv_sub hl [1, 2, 3, 4, 5, 0, 6] rfl
            refine lv_goto (tgt := 15) C.1 C.2.1 dX8_reckon_140 (by decide) ?_
            obtain ⟨g140_20, hw⟩ := hw
            exact hL15 _ _ _ hw _ _ _ ⟨g_l5_15, g140_20, Wd, lv_sub hl [0, 1, 2, 3, 4, 5] rfl⟩
          · have hw := hw.2 (z_nlt (show rng 300 from by decide) g_l5_15 c54)
            refine lv_aload C.1 C.2.1 dX8_reckon_57 (lv_at hl 3 rfl) ?_
            refine lv_iload C.1 C.2.1 dX8_reckon_59 (lv_at hl 4 rfl) ?_
            refine lv_iconst (v := zI 2) C.1 C.2.1 dX8_reckon_61 (by decide) ?_
            refine k_isub (v := zI (l5_15 - 2)) C (zI_isub _ _) dX8_reckon_62 ?_
            refine lv_iload C.1 C.2.1 dX8_reckon_63 (lv_at hl 6 rfl) ?_
            refine lv_aload C.1 C.2.1 dX8_reckon_65 (lv_at hl 3 rfl) ?_
            refine lv_iload C.1 C.2.1 dX8_reckon_67 (lv_at hl 4 rfl) ?_
            refine lv_iconst (v := zI 1) C.1 C.2.1 dX8_reckon_69 (by decide) ?_
            refine k_isub (v := zI (l5_15 - 1)) C (zI_isub _ _) dX8_reckon_70 ?_
            obtain ⟨n71_0, hw⟩ := hw
            refine k_ialdK (g := (σ15.2.1 53)) C Wd (cx53 _) (tC_at (by decide) rfl) n71_0 (by decide) dX8_reckon_71 ?_
            have ga71 : rng (σ15.2.1 53 (l5_15 - 1)) := rngL (fun j => (Wd.2.1).2.1 53 j) n71_0
            refine lv_aload C.1 C.2.1 dX8_reckon_72 (lv_at hl 3 rfl) ?_
            refine lv_iload C.1 C.2.1 dX8_reckon_74 (lv_at hl 4 rfl) ?_
            refine lv_iconst (v := zI 2) C.1 C.2.1 dX8_reckon_76 (by decide) ?_
            refine k_isub (v := zI (l5_15 - 2)) C (zI_isub _ _) dX8_reckon_77 ?_
            obtain ⟨n78_1, hw⟩ := hw
            refine k_ialdK (g := (σ15.2.1 53)) C Wd (cx53 _) (tC_at (by decide) rfl) n78_1 (by decide) dX8_reckon_78 ?_
            have ga78 : rng (σ15.2.1 53 (l5_15 - 2)) := rngL (fun j => (Wd.2.1).2.1 53 j) n78_1
            refine k_pi (k_runS (rest := [.int (zI (l5_15 - 2)), .ref (ad 53)]) C aks Wd.1 cs_X8_68 (mk_W_result D (σ15.2.2.2 0 n0 l6_15) (σ15.2.1 53 (l5_15 - 1)) (σ15.2.1 53 (l5_15 - 2)) ga32 ga71 ga78 _ hw l _) [] rfl (by decide) [] rfl rfl rfl ⟨(Nat.le_of_ble_eq_true rfl), (Nat.le_of_ble_eq_true rfl)⟩ hl.1 rfl rfl (Nat.le_of_ble_eq_true rfl) ⟨(Nat.le_of_ble_eq_true rfl), (Nat.le_of_ble_eq_true rfl)⟩ dX8_reckon_79) (fun y79 hy => ?_)
            obtain ⟨r79, rfl, g_r79, hw⟩ := hy
            refine k_iastF (g := (σ15.2.1 53)) (i := (l5_15 - 2)) (v := r79) C Wd 53 (by decide) (cx53 _) (fun f => cx53a _ f) (tC_at (by decide) rfl) n78_1 (by decide) (ruZ (fun j => Wd.2.1.2.1 53 j) g_r79) dX8_reckon_82 (fun H locs Wd => ?_)
            refine lv_iinc (v := zI (l5_15 - 1)) (lv' := [(5, .int (zI (l5_15 - 1))), (0, .ref (ad (rowC n0.toNat))), (1, .int (zI x0)), (3, .ref (ad 52)), (4, .ref (ad 53)), (6, .int (zI l6_15)), (7, .int (zI (σ15.2.2.2 0 n0 l6_15)))]) C.1 C.2.1 dX8_reckon_83 hl (k := 4) rfl (zI_dec _ _ (by decide)) (by decide) rfl (fun ls hl => ?_)
            replace hl := lv_sub hl [1, 2, 3, 4, 0, 5, 6] rfl
            refine lv_goto (tgt := 137) C.1 C.2.1 dX8_reckon_86 (by decide) ?_
            refine lv_iinc (v := zI (l6_15 - 1)) (lv' := [(6, .int (zI (l6_15 - 1))), (0, .ref (ad (rowC n0.toNat))), (1, .int (zI x0)), (3, .ref (ad 52)), (4, .ref (ad 53)), (5, .int (zI (l5_15 - 1))), (7, .int (zI (σ15.2.2.2 0 n0 l6_15)))]) C.1 C.2.1 dX8_reckon_137 hl (k := 5) rfl (zI_dec _ _ (by decide)) (by decide) rfl (fun ls hl => ?_)
            replace hl := lv_sub hl [1, 2, 3, 4, 5, 0, 6] rfl
            refine lv_goto (tgt := 15) C.1 C.2.1 dX8_reckon_140 (by decide) ?_
            obtain ⟨g140_21, hw⟩ := hw
            obtain ⟨g140_22, hw⟩ := hw
            exact hL15 _ _ _ hw _ _ _ ⟨g140_21, g140_22, Wd, lv_sub hl [0, 1, 2, 3, 4, 5] rfl⟩
