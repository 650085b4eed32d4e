set_option maxHeartbeats 4000000 in
set_option maxRecDepth 100000 in
theorem mk_G_deal1 : ∀ (D : va_G) (ad : Nat → Nat) (ca : Nat → ClassId) (rf : Nat → Nat → Option Nat) (σ : Sg) (hS : rngK σ) (hRF : RFok ad rf) (x1 : Int) (x2 : Int) (g_x1 : rng x1) (g_x2 : rng x2) (K : Int → Sg → Prop) (hw : wp5_G_deal1 σ x1 x2 K) (l : Launch) (sz : Nat), Met l yX7_deal (Cond.code yX7_deal cX7_deal 5 (some .boolean) :: gG) { frames := 9, cells := 0, slots := 0, locals := 249 } (cPre D (tC ca) (wK ad ca rf σ) sz [.ref (ad 84), .int (zI 1), .int (zI x1), .int (zI x2)]) (va_Qi (fun (r : Int32) (u : Sg) => (∃ x : Int, r = zI x ∧ rng x ∧ K x u) ∧ rngK u) (fun u t => cB D (va_A (wK ad ca rf σ) sz) [] (wK ad ca rf u) t) (va_A (wK ad ca rf σ) sz)) 0 0 (va_A (wK ad ca rf σ) sz) := by
  intro D ad ca rf σ hS hRF x1 x2 g_x1 g_x2 K hw l sz
  refine Met.ofW (cc := cX7_deal) (maxL := 5) (ret := (some .boolean)) (by decide) rfl ?_
  intro p e s m args below meth c s₁ B hml hv
  obtain ⟨rfl, aks, rfl, Wd⟩ := k_enter hv
  have C : CallFix p m c cX7_deal 5 s _ gG RX7 := ⟨B.exec, B.bytes, hml, findClass_of_methodNamed B.named, fun w h => atoms_spec (ws := Cond.code yX7_deal cX7_deal 5 (some .boolean) :: gG) B.pre w (List.mem_cons_of_mem _ h)⟩
  have hr := B.returns
  have hlk := B.notSynchronized
  generalize va_A (wK ad ca rf σ) s.heap.size = A at Wd ⊢
  replace Wd : wXK D ad ca rf s σ s.heap A s.heap [] := ⟨Wd, hS, hRF⟩
  refine k_locals (Nat.le_of_ble_eq_true rfl) [(0, .ref (ad 84)), (1, .int (zI 1)), (2, .int (zI x1)), (3, .int (zI x2))] rfl (fun ls hl => ?_)
  unfold wp5_G_deal1 at hw
  refine lv_iload_n C.1 C.2.1 dX7_deal_0 rfl (lv_at hl 1 rfl) ?_
  refine k_pi (k_runN (rest := []) C aks Wd.1 aks.2.2.2 cs_X7_71 (mk_S_isVariable D 1 (show rng 1 from by decide) _ hw l _) [] rfl (by decide) [] rfl rfl rfl ⟨(Nat.le_of_ble_eq_true rfl), (Nat.le_of_ble_eq_true rfl)⟩ hl.1 rfl rfl (Nat.le_of_ble_eq_true rfl) ⟨(Nat.le_of_ble_eq_true rfl), (Nat.le_of_ble_eq_true rfl)⟩ dX7_deal_1) (fun y1 hy => ?_)
  obtain ⟨r1, rfl, g_r1, hw⟩ := hy
  refine lv_if_ne (tgt := 9) C.1 C.2.1 dX7_deal_4 (by decide) (fun c4 => ?_) (fun c4 => ?_)
  · have hw := hw.1 (z0_ne g_r1 c4)
    refine lv_aload_n C.1 C.2.1 dX7_deal_9 rfl (lv_at hl 0 rfl) ?_
    refine k_get (v := .ref (ad 87)) C Wd.1 KX7 _ 3 (cx84 _) (by decide) fl_X7_25 rfl dX7_deal_10 ?_
    refine lv_iload_n C.1 C.2.1 dX7_deal_13 rfl (lv_at hl 1 rfl) ?_
    refine lv_iconst (v := zI (-1)) C.1 C.2.1 dX7_deal_14 (by decide) ?_
    refine k_iastF (g := (σ.2.1 87)) (i := 1) (v := (-1)) C Wd 87 (by decide) (cx87 _) (fun f => cx87a _ f) (tC_at (by decide) rfl) (show (0 : Int) ≤ 1 ∧ (1 : Int) < 6 from by decide) (by decide) (ruZ (fun j => Wd.2.1.2.1 87 j) (show rng (-1) from by decide)) dX7_deal_15 (fun H locs Wd => ?_)
    refine lv_iload_n C.1 C.2.1 dX7_deal_16 rfl (lv_at hl 2 rfl) ?_
    refine lv_iload_n C.1 C.2.1 dX7_deal_17 rfl (lv_at hl 1 rfl) ?_
    refine k_ishr (v := zI (zishr x1 1)) C (zishr_eq _ _) dX7_deal_18 ?_
    refine lv_iconst (v := zI 1) C.1 C.2.1 dX7_deal_19 (by decide) ?_
    refine k_iand (v := zI (ziand (zishr x1 1) 1)) C (ziand_eq _ _) dX7_deal_20 ?_
    refine lv_if_ne (tgt := 34) C.1 C.2.1 dX7_deal_21 (by decide) (fun c21 => ?_) (fun c21 => ?_)
    · have hw := hw.1 (z0_ne (rng_toInt _) c21)
      refine lv_iconst (v := zI 0) C.1 C.2.1 dX7_deal_34 (by decide) ?_
      refine lv_istore (lv' := [(4, .int (zI 0)), (0, .ref (ad 84)), (1, .int (zI 1)), (2, .int (zI x1)), (3, .int (zI x2))]) C.1 C.2.1 dX7_deal_35 hl (by decide) rfl (fun ls hl => ?_)
      replace hl := lv_sub hl [1, 2, 3, 4, 0] rfl
      refine k_lp2 hw (fun (l4_37 : Int) (σ37 : Sg) H locs ls => rng l4_37 ∧ wXK D ad ca rf s σ37 H A s.heap locs ∧ lv_has ls 5 [(0, .ref (ad 84)), (1, .int (zI 1)), (2, .int (zI x1)), (3, .int (zI x2)), (4, .int (zI l4_37))]) (fun (l4_37 : Int) (σ37 : Sg) ls => F0 m 37 ls []) (fun L37 hL37 l4_37 σ37 hw H locs ls hi => ?_) _ _ _ ⟨(show rng 0 from by decide), Wd, lv_sub hl [0, 1, 2, 3, 4] rfl⟩
      obtain ⟨g_l4_37, Wd, hl⟩ := hi
      have hS_σ37 := Wd.2.1
      unfold wp5_G_deal1_37 at hw
      refine lv_iload C.1 C.2.1 dX7_deal_37 (lv_at hl 4 rfl) ?_
      refine lv_iload_n C.1 C.2.1 dX7_deal_39 rfl (lv_at hl 3 rfl) ?_
      refine lv_icmp_ge (tgt := 81) C.1 C.2.1 dX7_deal_40 (by decide) (fun c40 => ?_) (fun c40 => ?_)
      · have hw := hw.1 (z_le g_x2 g_l4_37 c40)
        refine lv_aload_n C.1 C.2.1 dX7_deal_81 rfl (lv_at hl 0 rfl) ?_
        refine k_get (v := .ref (ad 87)) C Wd.1 KX7 _ 3 (cx84 _) (by decide) fl_X7_25 rfl dX7_deal_82 ?_
        refine lv_iload_n C.1 C.2.1 dX7_deal_85 rfl (lv_at hl 1 rfl) ?_
        refine lv_iconst (v := zI (-1)) C.1 C.2.1 dX7_deal_86 (by decide) ?_
        refine k_iastF (g := (σ37.2.1 87)) (i := 1) (v := (-1)) C Wd 87 (by decide) (cx87 _) (fun f => cx87a _ f) (tC_at (by decide) rfl) (show (0 : Int) ≤ 1 ∧ (1 : Int) < 6 from by decide) (by decide) (ruZ (fun j => Wd.2.1.2.1 87 j) (show rng (-1) from by decide)) dX7_deal_87 (fun H locs Wd => ?_)
        refine lv_iconst (v := zI 0) C.1 C.2.1 dX7_deal_88 (by decide) ?_
        exact k_retKi C hr hlk (by decide) Wd ⟨_, rfl, (show rng 0 from by decide), hw⟩ dX7_deal_89
      · have hw := hw.2 (z_nle g_x2 g_l4_37 c40)
        refine lv_aload_n C.1 C.2.1 dX7_deal_43 rfl (lv_at hl 0 rfl) ?_
        refine lv_iload_n C.1 C.2.1 dX7_deal_44 rfl (lv_at hl 1 rfl) ?_
        refine lv_iload C.1 C.2.1 dX7_deal_45 (lv_at hl 4 rfl) ?_
        refine k_pi (k_runVK (rest := []) C aks Wd cs_X7_85 (mk_G_isFree D ad ca rf σ37 Wd.2.1 Wd.2.2 1 l4_37 (show rng 1 from by decide) g_l4_37 _ hw l _) (cx84 _) rfl rfl rfl rfl ⟨(Nat.le_of_ble_eq_true rfl), (Nat.le_of_ble_eq_true rfl)⟩ hl.1 rfl rfl (Nat.le_of_ble_eq_true rfl) ⟨(Nat.le_of_ble_eq_true rfl), (Nat.le_of_ble_eq_true rfl)⟩ dX7_deal_47) (fun y47 hy => ?_)
        obtain ⟨r47, rfl, g_r47, hw⟩ := hy
        refine lv_if_eq (tgt := 75) C.1 C.2.1 dX7_deal_50 (by decide) (fun c50 => ?_) (fun c50 => ?_)
        · have hw := hw.1 (z0_eq g_r47 c50)
          refine lv_iinc (v := zI (l4_37 + 1)) (lv' := [(4, .int (zI (l4_37 + 1))), (0, .ref (ad 84)), (1, .int (zI 1)), (2, .int (zI x1)), (3, .int (zI x2))]) C.1 C.2.1 dX7_deal_75 hl (k := 4) rfl (zI_inc _ _ (by decide)) (by decide) rfl (fun ls hl => ?_)
          replace hl := lv_sub hl [1, 2, 3, 4, 0] rfl
          refine lv_goto (tgt := 37) C.1 C.2.1 dX7_deal_78 (by decide) ?_
          obtain ⟨g78_2, hw⟩ := hw
          exact hL37 _ _ hw _ _ _ ⟨g78_2, Wd, lv_sub hl [0, 1, 2, 3, 4] rfl⟩
        · have hw := hw.2 (z0_ne g_r47 c50)
          refine lv_aload_n C.1 C.2.1 dX7_deal_53 rfl (lv_at hl 0 rfl) ?_
          refine k_get (v := .ref (ad 87)) C Wd.1 KX7 _ 3 (cx84 _) (by decide) fl_X7_25 rfl dX7_deal_54 ?_
          refine lv_iload_n C.1 C.2.1 dX7_deal_57 rfl (lv_at hl 1 rfl) ?_
          refine lv_iload C.1 C.2.1 dX7_deal_58 (lv_at hl 4 rfl) ?_
          refine k_iastF (g := (σ37.2.1 87)) (i := 1) (v := l4_37) C Wd 87 (by decide) (cx87 _) (fun f => cx87a _ f) (tC_at (by decide) rfl) (show (0 : Int) ≤ 1 ∧ (1 : Int) < 6 from by decide) (by decide) (ruZ (fun j => Wd.2.1.2.1 87 j) g_l4_37) dX7_deal_60 (fun H locs Wd => ?_)
          refine lv_aload_n C.1 C.2.1 dX7_deal_61 rfl (lv_at hl 0 rfl) ?_
          refine lv_iload_n C.1 C.2.1 dX7_deal_62 rfl (lv_at hl 1 rfl) ?_
          refine lv_iconst (v := zI 1) C.1 C.2.1 dX7_deal_63 (by decide) ?_
          refine k_iadd (v := zI 2) C (by decide) dX7_deal_64 ?_
          refine lv_iload_n C.1 C.2.1 dX7_deal_65 rfl (lv_at hl 2 rfl) ?_
          refine lv_iload_n C.1 C.2.1 dX7_deal_66 rfl (lv_at hl 3 rfl) ?_
          refine k_cKi Wd (k_runVK (rest := []) C aks Wd cs_X7_74 (mk_G_deal2 D ad ca rf (pF σ37 87 (uZ (σ37.2.1 87) 1 l4_37)) Wd.2.1 Wd.2.2 x1 x2 g_x1 g_x2 _ hw l _) (cx84 _) rfl rfl rfl rfl ⟨(Nat.le_of_ble_eq_true rfl), (Nat.le_of_ble_eq_true rfl)⟩ hl.1 rfl rfl (Nat.le_of_ble_eq_true rfl) ⟨(Nat.le_of_ble_eq_true rfl), (Nat.le_of_ble_eq_true rfl)⟩ dX7_deal_67) (fun r67 σr67 H locs g_r67 hw Wd => ?_)
          have hS_σr67 := Wd.2.1
          refine lv_if_eq (tgt := 75) C.1 C.2.1 dX7_deal_70 (by decide) (fun c70 => ?_) (fun c70 => ?_)
          · have hw := hw.1 (z0_eq g_r67 c70)
            refine lv_iinc (v := zI (l4_37 + 1)) (lv' := [(4, .int (zI (l4_37 + 1))), (0, .ref (ad 84)), (1, .int (zI 1)), (2, .int (zI x1)), (3, .int (zI x2))]) C.1 C.2.1 dX7_deal_75 hl (k := 4) rfl (zI_inc _ _ (by decide)) (by decide) rfl (fun ls hl => ?_)
            replace hl := lv_sub hl [1, 2, 3, 4, 0] rfl
            refine lv_goto (tgt := 37) C.1 C.2.1 dX7_deal_78 (by decide) ?_
            obtain ⟨g78_3, hw⟩ := hw
            exact hL37 _ _ hw _ _ _ ⟨g78_3, Wd, lv_sub hl [0, 1, 2, 3, 4] rfl⟩
          · have hw := hw.2 (z0_ne g_r67 c70)
            refine lv_iconst (v := zI 1) C.1 C.2.1 dX7_deal_73 (by decide) ?_
            exact k_retKi C hr hlk (by decide) Wd ⟨_, rfl, (show rng 1 from by decide), hw⟩ dX7_deal_74
    · have hw := hw.2 (z0_eq (rng_toInt _) c21)
      refine lv_aload_n C.1 C.2.1 dX7_deal_24 rfl (lv_at hl 0 rfl) ?_
      refine lv_iload_n C.1 C.2.1 dX7_deal_25 rfl (lv_at hl 1 rfl) ?_
      refine lv_iconst (v := zI 1) C.1 C.2.1 dX7_deal_26 (by decide) ?_
      refine k_iadd (v := zI 2) C (by decide) dX7_deal_27 ?_
      refine lv_iload_n C.1 C.2.1 dX7_deal_28 rfl (lv_at hl 2 rfl) ?_
      refine lv_iload_n C.1 C.2.1 dX7_deal_29 rfl (lv_at hl 3 rfl) ?_
      refine k_cKi Wd (k_runVK (rest := []) C aks Wd cs_X7_74 (mk_G_deal2 D ad ca rf (pF σ 87 (uZ (σ.2.1 87) 1 (-1))) Wd.2.1 Wd.2.2 x1 x2 g_x1 g_x2 _ hw l _) (cx84 _) rfl rfl rfl rfl ⟨(Nat.le_of_ble_eq_true rfl), (Nat.le_of_ble_eq_true rfl)⟩ hl.1 rfl rfl (Nat.le_of_ble_eq_true rfl) ⟨(Nat.le_of_ble_eq_true rfl), (Nat.le_of_ble_eq_true rfl)⟩ dX7_deal_30) (fun r30 σr30 H locs g_r30 hw Wd => ?_)
      have hS_σr30 := Wd.2.1
      obtain ⟨b33_0, hw⟩ := hw
      exact k_retKi C hr hlk (zI_nb b33_0) Wd ⟨_, rfl, g_r30, hw⟩ dX7_deal_33
  · have hw := hw.2 (z0_eq g_r1 c4)
    refine lv_iconst (v := zI 1) C.1 C.2.1 dX7_deal_7 (by decide) ?_
    exact k_retKi C hr hlk (by decide) Wd ⟨_, rfl, (show rng 1 from by decide), hw⟩ dX7_deal_8
set_option maxHeartbeats 4000000 in
set_option maxRecDepth 100000 in
theorem mk_G_deal0 : ∀ (D : va_G) (ad : Nat → Nat) (ca : Nat → ClassId) (rf : Nat → Nat → Option Nat) (σ : Sg) (hS : rngK σ) (hRF : RFok ad rf) (x1 : Int) (x2 : Int) (g_x1 : rng x1) (g_x2 : rng x2) (K : Int → Sg → Prop) (hw : wp5_G_deal0 σ x1 x2 K) (l : Launch) (sz : Nat), Met l yX7_deal (Cond.code yX7_deal cX7_deal 5 (some .boolean) :: gG) { frames := 10, cells := 0, slots := 0, locals := 273 } (cPre D (tC ca) (wK ad ca rf σ) sz [.ref (ad 84), .int (zI 0), .int (zI x1), .int (zI x2)]) (va_Qi (fun (r : Int32) (u : Sg) => (∃ x : Int, r = zI x ∧ rng x ∧ K x u) ∧ rngK u) (fun u t => cB D (va_A (wK ad ca rf σ) sz) [] (wK ad ca rf u) t) (va_A (wK ad ca rf σ) sz)) 0 0 (va_A (wK ad ca rf σ) sz) := by
  intro D ad ca rf σ hS hRF x1 x2 g_x1 g_x2 K hw l sz
  refine Met.ofW (cc := cX7_deal) (maxL := 5) (ret := (some .boolean)) (by decide) rfl ?_
  intro p e s m args below meth c s₁ B hml hv
  obtain ⟨rfl, aks, rfl, Wd⟩ := k_enter hv
  have C : CallFix p m c cX7_deal 5 s _ gG RX7 := ⟨B.exec, B.bytes, hml, findClass_of_methodNamed B.named, fun w h => atoms_spec (ws := Cond.code yX7_deal cX7_deal 5 (some .boolean) :: gG) B.pre w (List.mem_cons_of_mem _ h)⟩
  have hr := B.returns
  have hlk := B.notSynchronized
  generalize va_A (wK ad ca rf σ) s.heap.size = A at Wd ⊢
  replace Wd : wXK D ad ca rf s σ s.heap A s.heap [] := ⟨Wd, hS, hRF⟩
  refine k_locals (Nat.le_of_ble_eq_true rfl) [(0, .ref (ad 84)), (1, .int (zI 0)), (2, .int (zI x1)), (3, .int (zI x2))] rfl (fun ls hl => ?_)
  unfold wp5_G_deal0 at hw
  refine lv_iload_n C.1 C.2.1 dX7_deal_0 rfl (lv_at hl 1 rfl) ?_
  refine k_pi (k_runN (rest := []) C aks Wd.1 aks.2.2.2 cs_X7_71 (mk_S_isVariable D 0 (show rng 0 from by decide) _ hw l _) [] rfl (by decide) [] rfl rfl rfl ⟨(Nat.le_of_ble_eq_true rfl), (Nat.le_of_ble_eq_true rfl)⟩ hl.1 rfl rfl (Nat.le_of_ble_eq_true rfl) ⟨(Nat.le_of_ble_eq_true rfl), (Nat.le_of_ble_eq_true rfl)⟩ dX7_deal_1) (fun y1 hy => ?_)
  obtain ⟨r1, rfl, g_r1, hw⟩ := hy
  refine lv_if_ne (tgt := 9) C.1 C.2.1 dX7_deal_4 (by decide) (fun c4 => ?_) (fun c4 => ?_)
  · have hw := hw.1 (z0_ne g_r1 c4)
    refine lv_aload_n C.1 C.2.1 dX7_deal_9 rfl (lv_at hl 0 rfl) ?_
    refine k_get (v := .ref (ad 87)) C Wd.1 KX7 _ 3 (cx84 _) (by decide) fl_X7_25 rfl dX7_deal_10 ?_
    refine lv_iload_n C.1 C.2.1 dX7_deal_13 rfl (lv_at hl 1 rfl) ?_
    refine lv_iconst (v := zI (-1)) C.1 C.2.1 dX7_deal_14 (by decide) ?_
    refine k_iastF (g := (σ.2.1 87)) (i := 0) (v := (-1)) C Wd 87 (by decide) (cx87 _) (fun f => cx87a _ f) (tC_at (by decide) rfl) (show (0 : Int) ≤ 0 ∧ (0 : Int) < 6 from by decide) (by decide) (ruZ (fun j => Wd.2.1.2.1 87 j) (show rng (-1) from by decide)) dX7_deal_15 (fun H locs Wd => ?_)
    refine lv_iload_n C.1 C.2.1 dX7_deal_16 rfl (lv_at hl 2 rfl) ?_
    refine lv_iload_n C.1 C.2.1 dX7_deal_17 rfl (lv_at hl 1 rfl) ?_
    refine k_ishr (v := zI (zishr x1 0)) C (zishr_eq _ _) dX7_deal_18 ?_
    refine lv_iconst (v := zI 1) C.1 C.2.1 dX7_deal_19 (by decide) ?_
    refine k_iand (v := zI (ziand (zishr x1 0) 1)) C (ziand_eq _ _) dX7_deal_20 ?_
    refine lv_if_ne (tgt := 34) C.1 C.2.1 dX7_deal_21 (by decide) (fun c21 => ?_) (fun c21 => ?_)
    · have hw := hw.1 (z0_ne (rng_toInt _) c21)
      refine lv_iconst (v := zI 0) C.1 C.2.1 dX7_deal_34 (by decide) ?_
      refine lv_istore (lv' := [(4, .int (zI 0)), (0, .ref (ad 84)), (1, .int (zI 0)), (2, .int (zI x1)), (3, .int (zI x2))]) C.1 C.2.1 dX7_deal_35 hl (by decide) rfl (fun ls hl => ?_)
      replace hl := lv_sub hl [1, 2, 3, 4, 0] rfl
      refine k_lp2 hw (fun (l4_37 : Int) (σ37 : Sg) H locs ls => rng l4_37 ∧ wXK D ad ca rf s σ37 H A s.heap locs ∧ lv_has ls 5 [(0, .ref (ad 84)), (1, .int (zI 0)), (2, .int (zI x1)), (3, .int (zI x2)), (4, .int (zI l4_37))]) (fun (l4_37 : Int) (σ37 : Sg) ls => F0 m 37 ls []) (fun L37 hL37 l4_37 σ37 hw H locs ls hi => ?_) _ _ _ ⟨(show rng 0 from by decide), Wd, lv_sub hl [0, 1, 2, 3, 4] rfl⟩
      obtain ⟨g_l4_37, Wd, hl⟩ := hi
      have hS_σ37 := Wd.2.1
      unfold wp5_G_deal0_37 at hw
      refine lv_iload C.1 C.2.1 dX7_deal_37 (lv_at hl 4 rfl) ?_
      refine lv_iload_n C.1 C.2.1 dX7_deal_39 rfl (lv_at hl 3 rfl) ?_
      refine lv_icmp_ge (tgt := 81) C.1 C.2.1 dX7_deal_40 (by decide) (fun c40 => ?_) (fun c40 => ?_)
      · have hw := hw.1 (z_le g_x2 g_l4_37 c40)
        refine lv_aload_n C.1 C.2.1 dX7_deal_81 rfl (lv_at hl 0 rfl) ?_
        refine k_get (v := .ref (ad 87)) C Wd.1 KX7 _ 3 (cx84 _) (by decide) fl_X7_25 rfl dX7_deal_82 ?_
        refine lv_iload_n C.1 C.2.1 dX7_deal_85 rfl (lv_at hl 1 rfl) ?_
        refine lv_iconst (v := zI (-1)) C.1 C.2.1 dX7_deal_86 (by decide) ?_
        refine k_iastF (g := (σ37.2.1 87)) (i := 0) (v := (-1)) C Wd 87 (by decide) (cx87 _) (fun f => cx87a _ f) (tC_at (by decide) rfl) (show (0 : Int) ≤ 0 ∧ (0 : Int) < 6 from by decide) (by decide) (ruZ (fun j => Wd.2.1.2.1 87 j) (show rng (-1) from by decide)) dX7_deal_87 (fun H locs Wd => ?_)
        refine lv_iconst (v := zI 0) C.1 C.2.1 dX7_deal_88 (by decide) ?_
        exact k_retKi C hr hlk (by decide) Wd ⟨_, rfl, (show rng 0 from by decide), hw⟩ dX7_deal_89
      · have hw := hw.2 (z_nle g_x2 g_l4_37 c40)
        refine lv_aload_n C.1 C.2.1 dX7_deal_43 rfl (lv_at hl 0 rfl) ?_
        refine lv_iload_n C.1 C.2.1 dX7_deal_44 rfl (lv_at hl 1 rfl) ?_
        refine lv_iload C.1 C.2.1 dX7_deal_45 (lv_at hl 4 rfl) ?_
        refine k_pi (k_runVK (rest := []) C aks Wd cs_X7_85 (mk_G_isFree D ad ca rf σ37 Wd.2.1 Wd.2.2 0 l4_37 (show rng 0 from by decide) g_l4_37 _ hw l _) (cx84 _) rfl rfl rfl rfl ⟨(Nat.le_of_ble_eq_true rfl), (Nat.le_of_ble_eq_true rfl)⟩ hl.1 rfl rfl (Nat.le_of_ble_eq_true rfl) ⟨(Nat.le_of_ble_eq_true rfl), (Nat.le_of_ble_eq_true rfl)⟩ dX7_deal_47) (fun y47 hy => ?_)
        obtain ⟨r47, rfl, g_r47, hw⟩ := hy
        refine lv_if_eq (tgt := 75) C.1 C.2.1 dX7_deal_50 (by decide) (fun c50 => ?_) (fun c50 => ?_)
        · have hw := hw.1 (z0_eq g_r47 c50)
          refine lv_iinc (v := zI (l4_37 + 1)) (lv' := [(4, .int (zI (l4_37 + 1))), (0, .ref (ad 84)), (1, .int (zI 0)), (2, .int (zI x1)), (3, .int (zI x2))]) C.1 C.2.1 dX7_deal_75 hl (k := 4) rfl (zI_inc _ _ (by decide)) (by decide) rfl (fun ls hl => ?_)
          replace hl := lv_sub hl [1, 2, 3, 4, 0] rfl
          refine lv_goto (tgt := 37) C.1 C.2.1 dX7_deal_78 (by decide) ?_
          obtain ⟨g78_2, hw⟩ := hw
          exact hL37 _ _ hw _ _ _ ⟨g78_2, Wd, lv_sub hl [0, 1, 2, 3, 4] rfl⟩
        · have hw := hw.2 (z0_ne g_r47 c50)
          refine lv_aload_n C.1 C.2.1 dX7_deal_53 rfl (lv_at hl 0 rfl) ?_
          refine k_get (v := .ref (ad 87)) C Wd.1 KX7 _ 3 (cx84 _) (by decide) fl_X7_25 rfl dX7_deal_54 ?_
          refine lv_iload_n C.1 C.2.1 dX7_deal_57 rfl (lv_at hl 1 rfl) ?_
          refine lv_iload C.1 C.2.1 dX7_deal_58 (lv_at hl 4 rfl) ?_
          refine k_iastF (g := (σ37.2.1 87)) (i := 0) (v := l4_37) C Wd 87 (by decide) (cx87 _) (fun f => cx87a _ f) (tC_at (by decide) rfl) (show (0 : Int) ≤ 0 ∧ (0 : Int) < 6 from by decide) (by decide) (ruZ (fun j => Wd.2.1.2.1 87 j) g_l4_37) dX7_deal_60 (fun H locs Wd => ?_)
          refine lv_aload_n C.1 C.2.1 dX7_deal_61 rfl (lv_at hl 0 rfl) ?_
          refine lv_iload_n C.1 C.2.1 dX7_deal_62 rfl (lv_at hl 1 rfl) ?_
          refine lv_iconst (v := zI 1) C.1 C.2.1 dX7_deal_63 (by decide) ?_
          refine k_iadd (v := zI 1) C (by decide) dX7_deal_64 ?_
          refine lv_iload_n C.1 C.2.1 dX7_deal_65 rfl (lv_at hl 2 rfl) ?_
          refine lv_iload_n C.1 C.2.1 dX7_deal_66 rfl (lv_at hl 3 rfl) ?_
          refine k_cKi Wd (k_runVK (rest := []) C aks Wd cs_X7_74 (mk_G_deal1 D ad ca rf (pF σ37 87 (uZ (σ37.2.1 87) 0 l4_37)) Wd.2.1 Wd.2.2 x1 x2 g_x1 g_x2 _ hw l _) (cx84 _) rfl rfl rfl rfl ⟨(Nat.le_of_ble_eq_true rfl), (Nat.le_of_ble_eq_true rfl)⟩ hl.1 rfl rfl (Nat.le_of_ble_eq_true rfl) ⟨(Nat.le_of_ble_eq_true rfl), (Nat.le_of_ble_eq_true rfl)⟩ dX7_deal_67) (fun r67 σr67 H locs g_r67 hw Wd => ?_)
          have hS_σr67 := Wd.2.1
          refine lv_if_eq (tgt := 75) C.1 C.2.1 dX7_deal_70 (by decide) (fun c70 => ?_) (fun c70 => ?_)
          · have hw := hw.1 (z0_eq g_r67 c70)
            refine lv_iinc (v := zI (l4_37 + 1)) (lv' := [(4, .int (zI (l4_37 + 1))), (0, .ref (ad 84)), (1, .int (zI 0)), (2, .int (zI x1)), (3, .int (zI x2))]) C.1 C.2.1 dX7_deal_75 hl (k := 4) rfl (zI_inc _ _ (by decide)) (by decide) rfl (fun ls hl => ?_)
            replace hl := lv_sub hl [1, 2, 3, 4, 0] rfl
            refine lv_goto (tgt := 37) C.1 C.2.1 dX7_deal_78 (by decide) ?_
            obtain ⟨g78_3, hw⟩ := hw
            exact hL37 _ _ hw _ _ _ ⟨g78_3, Wd, lv_sub hl [0, 1, 2, 3, 4] rfl⟩
          · have hw := hw.2 (z0_ne g_r67 c70)
            refine lv_iconst (v := zI 1) C.1 C.2.1 dX7_deal_73 (by decide) ?_
            exact k_retKi C hr hlk (by decide) Wd ⟨_, rfl, (show rng 1 from by decide), hw⟩ dX7_deal_74
    · have hw := hw.2 (z0_eq (rng_toInt _) c21)
      refine lv_aload_n C.1 C.2.1 dX7_deal_24 rfl (lv_at hl 0 rfl) ?_
      refine lv_iload_n C.1 C.2.1 dX7_deal_25 rfl (lv_at hl 1 rfl) ?_
      refine lv_iconst (v := zI 1) C.1 C.2.1 dX7_deal_26 (by decide) ?_
      refine k_iadd (v := zI 1) C (by decide) dX7_deal_27 ?_
      refine lv_iload_n C.1 C.2.1 dX7_deal_28 rfl (lv_at hl 2 rfl) ?_
      refine lv_iload_n C.1 C.2.1 dX7_deal_29 rfl (lv_at hl 3 rfl) ?_
      refine k_cKi Wd (k_runVK (rest := []) C aks Wd cs_X7_74 (mk_G_deal1 D ad ca rf (pF σ 87 (uZ (σ.2.1 87) 0 (-1))) Wd.2.1 Wd.2.2 x1 x2 g_x1 g_x2 _ hw l _) (cx84 _) rfl rfl rfl rfl ⟨(Nat.le_of_ble_eq_true rfl), (Nat.le_of_ble_eq_true rfl)⟩ hl.1 rfl rfl (Nat.le_of_ble_eq_true rfl) ⟨(Nat.le_of_ble_eq_true rfl), (Nat.le_of_ble_eq_true rfl)⟩ dX7_deal_30) (fun r30 σr30 H locs g_r30 hw Wd => ?_)
      have hS_σr30 := Wd.2.1
      obtain ⟨b33_0, hw⟩ := hw
      exact k_retKi C hr hlk (zI_nb b33_0) Wd ⟨_, rfl, g_r30, hw⟩ dX7_deal_33
  · have hw := hw.2 (z0_eq g_r1 c4)
    refine lv_iconst (v := zI 1) C.1 C.2.1 dX7_deal_7 (by decide) ?_
    exact k_retKi C hr hlk (by decide) Wd ⟨_, rfl, (show rng 1 from by decide), hw⟩ dX7_deal_8
set_option maxHeartbeats 4000000 in
set_option maxRecDepth 100000 in
theorem mk_G_fewest : ∀ (D : va_G) (ad : Nat → Nat) (ca : Nat → ClassId) (rf : Nat → Nat → Option Nat) (σ : Sg) (hS : rngK σ) (hRF : RFok ad rf) (K : Int → Sg → Prop) (hw : wp5_G_fewest σ K) (l : Launch) (sz : Nat), Met l yX7_fewest (Cond.code yX7_fewest cX7_fewest 2 (some .int) :: gG) { frames := 11, cells := 0, slots := 0, locals := 297 } (cPre D (tC ca) (wK ad ca rf σ) sz [.ref (ad 84)]) (va_Qi (fun (r : Int32) (u : Sg) => (∃ x : Int, r = zI x ∧ rng x ∧ K x u) ∧ rngK u) (fun u t => cB D (va_A (wK ad ca rf σ) sz) [] (wK ad ca rf u) t) (va_A (wK ad ca rf σ) sz)) 0 0 (va_A (wK ad ca rf σ) sz) := by
  intro D ad ca rf σ hS hRF  K hw l sz
  refine Met.ofW (cc := cX7_fewest) (maxL := 2) (ret := (some .int)) (by decide) rfl ?_
  intro p e s m args below meth c s₁ B hml hv
  obtain ⟨rfl, aks, rfl, Wd⟩ := k_enter hv
  have C : CallFix p m c cX7_fewest 2 s _ gG RX7 := ⟨B.exec, B.bytes, hml, findClass_of_methodNamed B.named, fun w h => atoms_spec (ws := Cond.code yX7_fewest cX7_fewest 2 (some .int) :: gG) B.pre w (List.mem_cons_of_mem _ h)⟩
  have hr := B.returns
  have hlk := B.notSynchronized
  generalize va_A (wK ad ca rf σ) s.heap.size = A at Wd ⊢
  replace Wd : wXK D ad ca rf s σ s.heap A s.heap [] := ⟨Wd, hS, hRF⟩
  refine k_locals (Nat.le_of_ble_eq_true rfl) [(0, .ref (ad 84))] rfl (fun ls hl => ?_)
  unfold wp5_G_fewest at hw
  refine lv_iconst (v := zI 0) C.1 C.2.1 dX7_fewest_0 (by decide) ?_
  refine lv_istore_n (lv' := [(1, .int (zI 0)), (0, .ref (ad 84))]) C.1 C.2.1 dX7_fewest_1 rfl hl (by decide) rfl (fun ls hl => ?_)
  replace hl := lv_sub hl [1, 0] rfl
  refine k_lp2 hw (fun (l1_2 : Int) (σ2 : Sg) H locs ls => rng l1_2 ∧ wXK D ad ca rf s σ2 H A s.heap locs ∧ lv_has ls 2 [(0, .ref (ad 84)), (1, .int (zI l1_2))]) (fun (l1_2 : Int) (σ2 : Sg) ls => F0 m 2 ls []) (fun L2 hL2 l1_2 σ2 hw H locs ls hi => ?_) _ _ _ ⟨(show rng 0 from by decide), Wd, lv_sub hl [0, 1] rfl⟩
  obtain ⟨g_l1_2, Wd, hl⟩ := hi
  have hS_σ2 := Wd.2.1
  unfold wp5_G_fewest_2 at hw
  refine lv_iload_n C.1 C.2.1 dX7_fewest_2 rfl (lv_at hl 1 rfl) ?_
  refine lv_bipush (v := zI 6) C.1 C.2.1 dX7_fewest_3 (by decide) ?_
  refine lv_icmp_ge (tgt := 29) C.1 C.2.1 dX7_fewest_5 (by decide) (fun c5 => ?_) (fun c5 => ?_)
  · have hw := hw.1 (z_le (show rng 6 from by decide) g_l1_2 c5)
    refine lv_aload_n C.1 C.2.1 dX7_fewest_29 rfl (lv_at hl 0 rfl) ?_
    refine lv_iconst (v := zI 0) C.1 C.2.1 dX7_fewest_30 (by decide) ?_
    refine lv_aload_n C.1 C.2.1 dX7_fewest_31 rfl (lv_at hl 0 rfl) ?_
    refine k_get (v := .int (zI (σ2.1 84 4))) C Wd.1 KX7 _ 4 (cx84 _) (by decide) fl_X7_32 rfl dX7_fewest_32 ?_
    refine lv_bipush (v := zI 6) C.1 C.2.1 dX7_fewest_35 (by decide) ?_
    refine k_cKi Wd (k_runVK (rest := []) C aks Wd cs_X7_74 (mk_G_deal0 D ad ca rf σ2 Wd.2.1 Wd.2.2 (σ2.1 84 4) 6 (hS_σ2.1 84 4) (show rng 6 from by decide) _ hw l _) (cx84 _) rfl rfl rfl rfl ⟨(Nat.le_of_ble_eq_true rfl), (Nat.le_of_ble_eq_true rfl)⟩ hl.1 rfl rfl (Nat.le_of_ble_eq_true rfl) ⟨(Nat.le_of_ble_eq_true rfl), (Nat.le_of_ble_eq_true rfl)⟩ dX7_fewest_37) (fun r37 σr37 H locs g_r37 hw Wd => ?_)
    have hS_σr37 := Wd.2.1
    refine lv_pop C.1 C.2.1 dX7_fewest_40 rfl ?_
    refine lv_bipush (v := zI 6) C.1 C.2.1 dX7_fewest_41 (by decide) ?_
    exact k_retKi C hr hlk rfl Wd ⟨_, rfl, (show rng 6 from by decide), hw⟩ dX7_fewest_43
  · have hw := hw.2 (z_nle (show rng 6 from by decide) g_l1_2 c5)
    refine lv_aload_n C.1 C.2.1 dX7_fewest_8 rfl (lv_at hl 0 rfl) ?_
    refine lv_iconst (v := zI 0) C.1 C.2.1 dX7_fewest_9 (by decide) ?_
    refine lv_aload_n C.1 C.2.1 dX7_fewest_10 rfl (lv_at hl 0 rfl) ?_
    refine k_get (v := .int (zI (σ2.1 84 4))) C Wd.1 KX7 _ 4 (cx84 _) (by decide) fl_X7_32 rfl dX7_fewest_11 ?_
    refine lv_iload_n C.1 C.2.1 dX7_fewest_14 rfl (lv_at hl 1 rfl) ?_
    refine k_cKi Wd (k_runVK (rest := []) C aks Wd cs_X7_74 (mk_G_deal0 D ad ca rf σ2 Wd.2.1 Wd.2.2 (σ2.1 84 4) l1_2 (hS_σ2.1 84 4) g_l1_2 _ hw l _) (cx84 _) rfl rfl rfl rfl ⟨(Nat.le_of_ble_eq_true rfl), (Nat.le_of_ble_eq_true rfl)⟩ hl.1 rfl rfl (Nat.le_of_ble_eq_true rfl) ⟨(Nat.le_of_ble_eq_true rfl), (Nat.le_of_ble_eq_true rfl)⟩ dX7_fewest_15) (fun r15 σr15 H locs g_r15 hw Wd => ?_)
    have hS_σr15 := Wd.2.1
    refine lv_if_eq (tgt := 23) C.1 C.2.1 dX7_fewest_18 (by decide) (fun c18 => ?_) (fun c18 => ?_)
    · have hw := hw.1 (z0_eq g_r15 c18)
      refine lv_iinc (v := zI (l1_2 + 1)) (lv' := [(1, .int (zI (l1_2 + 1))), (0, .ref (ad 84))]) C.1 C.2.1 dX7_fewest_23 hl (k := 1) rfl (zI_inc _ _ (by decide)) (by decide) rfl (fun ls hl => ?_)
      replace hl := lv_sub hl [1, 0] rfl
      refine lv_goto (tgt := 2) C.1 C.2.1 dX7_fewest_26 (by decide) ?_
      obtain ⟨g26_2, hw⟩ := hw
      exact hL2 _ _ hw _ _ _ ⟨g26_2, Wd, lv_sub hl [0, 1] rfl⟩
    · have hw := hw.2 (z0_ne g_r15 c18)
      refine lv_iload_n C.1 C.2.1 dX7_fewest_21 rfl (lv_at hl 1 rfl) ?_
      exact k_retKi C hr hlk rfl Wd ⟨_, rfl, g_l1_2, hw⟩ dX7_fewest_22
set_option maxHeartbeats 4000000 in
set_option maxRecDepth 100000 in
theorem mk_G_registerOf : ∀ (D : va_G) (ad : Nat → Nat) (ca : Nat → ClassId) (rf : Nat → Nat → Option Nat) (σ : Sg) (hS : rngK σ) (hRF : RFok ad rf) (x0 : Int) (g_x0 : rng x0) (K : Int → Sg → Prop) (hw : wp5_G_registerOf σ x0 K) (l : Launch) (sz : Nat), Met l yX7_registerOf (Cond.code yX7_registerOf cX7_registerOf 2 (some .int) :: gG) { frames := 12, cells := 0, slots := 0, locals := 318 } (cPre D (tC ca) (wK ad ca rf σ) sz [.ref (ad 84), .int (zI x0)]) (va_Qi (fun (r : Int32) (u : Sg) => (∃ x : Int, r = zI x ∧ rng x ∧ K x u) ∧ rngK u) (fun u t => cB D (va_A (wK ad ca rf σ) sz) [] (wK ad ca rf u) t) (va_A (wK ad ca rf σ) sz)) 0 0 (va_A (wK ad ca rf σ) sz) := by
  intro D ad ca rf σ hS hRF x0 g_x0 K hw l sz
  refine Met.ofW (cc := cX7_registerOf) (maxL := 2) (ret := (some .int)) (by decide) rfl ?_
  intro p e s m args below meth c s₁ B hml hv
  obtain ⟨rfl, aks, rfl, Wd⟩ := k_enter hv
  have C : CallFix p m c cX7_registerOf 2 s _ gG RX7 := ⟨B.exec, B.bytes, hml, findClass_of_methodNamed B.named, fun w h => atoms_spec (ws := Cond.code yX7_registerOf cX7_registerOf 2 (some .int) :: gG) B.pre w (List.mem_cons_of_mem _ h)⟩
  have hr := B.returns
  have hlk := B.notSynchronized
  generalize va_A (wK ad ca rf σ) s.heap.size = A at Wd ⊢
  replace Wd : wXK D ad ca rf s σ s.heap A s.heap [] := ⟨Wd, hS, hRF⟩
  refine k_locals (Nat.le_of_ble_eq_true rfl) [(0, .ref (ad 84)), (1, .int (zI x0))] rfl (fun ls hl => ?_)
  unfold wp5_G_registerOf at hw
  refine lv_aload_n C.1 C.2.1 dX7_registerOf_0 rfl (lv_at hl 0 rfl) ?_
  refine k_cKi Wd (k_runVK (rest := []) C aks Wd cs_X7_78 (mk_G_fewest D ad ca rf σ Wd.2.1 Wd.2.2   _ hw l _) (cx84 _) rfl rfl rfl rfl ⟨(Nat.le_of_ble_eq_true rfl), (Nat.le_of_ble_eq_true rfl)⟩ hl.1 rfl rfl (Nat.le_of_ble_eq_true rfl) ⟨(Nat.le_of_ble_eq_true rfl), (Nat.le_of_ble_eq_true rfl)⟩ dX7_registerOf_1) (fun r1 σr1 H locs g_r1 hw Wd => ?_)
  have hS_σr1 := Wd.2.1
  refine lv_pop C.1 C.2.1 dX7_registerOf_4 rfl ?_
  refine lv_iload_n C.1 C.2.1 dX7_registerOf_5 rfl (lv_at hl 1 rfl) ?_
  refine k_pi (k_runN (rest := []) C aks Wd.1 aks.2.2.2 cs_X7_71 (mk_S_isVariable D x0 g_x0 _ hw l _) [] rfl (by decide) [] rfl rfl rfl ⟨(Nat.le_of_ble_eq_true rfl), (Nat.le_of_ble_eq_true rfl)⟩ hl.1 rfl rfl (Nat.le_of_ble_eq_true rfl) ⟨(Nat.le_of_ble_eq_true rfl), (Nat.le_of_ble_eq_true rfl)⟩ dX7_registerOf_6) (fun y6 hy => ?_)
  obtain ⟨r6, rfl, g_r6, hw⟩ := hy
  refine lv_if_eq (tgt := 21) C.1 C.2.1 dX7_registerOf_9 (by decide) (fun c9 => ?_) (fun c9 => ?_)
  · have hw := hw.1 (z0_eq g_r6 c9)
    refine lv_iconst (v := zI (-1)) C.1 C.2.1 dX7_registerOf_21 (by decide) ?_
    exact k_retKi C hr hlk rfl Wd ⟨_, rfl, (show rng (-1) from by decide), hw⟩ dX7_registerOf_22
  · have hw := hw.2 (z0_ne g_r6 c9)
    refine lv_aload_n C.1 C.2.1 dX7_registerOf_12 rfl (lv_at hl 0 rfl) ?_
    refine k_get (v := .ref (ad 87)) C Wd.1 KX7 _ 3 (cx84 _) (by decide) fl_X7_25 rfl dX7_registerOf_13 ?_
    refine lv_iload_n C.1 C.2.1 dX7_registerOf_16 rfl (lv_at hl 1 rfl) ?_
    obtain ⟨n17_0, hw⟩ := hw
    refine k_ialdK (g := (σr1.2.1 87)) C Wd (cx87 _) (tC_at (by decide) rfl) n17_0 (by decide) dX7_registerOf_17 ?_
    have ga17 : rng (σr1.2.1 87 x0) := rngL (fun j => (Wd.2.1).2.1 87 j) n17_0
    refine lv_goto (tgt := 22) C.1 C.2.1 dX7_registerOf_18 (by decide) ?_
    exact k_retKi C hr hlk rfl Wd ⟨_, rfl, ga17, hw⟩ dX7_registerOf_22
set_option maxHeartbeats 4000000 in
set_option maxRecDepth 100000 in
theorem mk_G_comingsOf : ∀ (D : va_G) (ad : Nat → Nat) (ca : Nat → ClassId) (rf : Nat → Nat → Option Nat) (σ : Sg) (hS : rngK σ) (hRF : RFok ad rf) (x0 : Int) (g_x0 : rng x0) (K : Int → Prop) (hw : wp5_G_comingsOf σ x0 K) (l : Launch) (sz : Nat), Met l yX7_comingsOf (Cond.code yX7_comingsOf cX7_comingsOf 4 (some .int) :: gG) { frames := 1, cells := 0, slots := 0, locals := 64 } (cPre D (tC ca) (wK ad ca rf σ) sz [.ref (ad 84), .int (zI x0)]) (vp_Si (fun r => ∃ x : Int, r = zI x ∧ rng x ∧ K x)) 0 0 (fun _ => False) := by
  intro D ad ca rf σ hS hRF x0 g_x0 K hw l sz
  refine Met.ofW (cc := cX7_comingsOf) (maxL := 4) (ret := (some .int)) (by decide) rfl ?_
  intro p e s m args below meth c s₁ B hml hv
  obtain ⟨rfl, aks, rfl, Wd⟩ := k_enter hv
  have C : CallFix p m c cX7_comingsOf 4 s _ gG RX7 := ⟨B.exec, B.bytes, hml, findClass_of_methodNamed B.named, fun w h => atoms_spec (ws := Cond.code yX7_comingsOf cX7_comingsOf 4 (some .int) :: gG) B.pre w (List.mem_cons_of_mem _ h)⟩
  have hr := B.returns
  have hlk := B.notSynchronized
  obtain ⟨A, Wd⟩ : ∃ A, wXK D ad ca rf s σ s.heap A s.heap [] := ⟨_, Wd, hS, hRF⟩
  refine k_locals (Nat.le_of_ble_eq_true rfl) [(0, .ref (ad 84)), (1, .int (zI x0))] rfl (fun ls hl => ?_)
  unfold wp5_G_comingsOf at hw
  refine lv_iconst (v := zI 0) C.1 C.2.1 dX7_comingsOf_0 (by decide) ?_
  refine lv_istore_n (lv' := [(2, .int (zI 0)), (0, .ref (ad 84)), (1, .int (zI x0))]) C.1 C.2.1 dX7_comingsOf_1 rfl hl (by decide) rfl (fun ls hl => ?_)
  replace hl := lv_sub hl [1, 2, 0] rfl
  refine lv_iconst (v := zI 0) C.1 C.2.1 dX7_comingsOf_2 (by decide) ?_
  refine lv_istore_n (lv' := [(3, .int (zI 0)), (0, .ref (ad 84)), (1, .int (zI x0)), (2, .int (zI 0))]) C.1 C.2.1 dX7_comingsOf_3 rfl hl (by decide) rfl (fun ls hl => ?_)
  replace hl := lv_sub hl [1, 2, 3, 0] rfl
  refine k_lp2 hw (fun (l2_4 : Int) (l3_4 : Int) H locs ls => rng l2_4 ∧ rng l3_4 ∧ wXK D ad ca rf s σ H A s.heap locs ∧ H = s.heap ∧ locs = [] ∧ lv_has ls 4 [(0, .ref (ad 84)), (1, .int (zI x0)), (2, .int (zI l2_4)), (3, .int (zI l3_4))]) (fun (l2_4 : Int) (l3_4 : Int) ls => F0 m 4 ls []) (fun L4 hL4 l2_4 l3_4 hw H locs ls hi => ?_) _ _ _ ⟨(show rng 0 from by decide), (show rng 0 from by decide), Wd, rfl, rfl, lv_sub hl [0, 1, 2, 3] rfl⟩
  obtain ⟨g_l2_4, g_l3_4, Wd, rfl, rfl, hl⟩ := hi
  unfold wp5_G_comingsOf_4 at hw
  refine lv_iload_n C.1 C.2.1 dX7_comingsOf_4 rfl (lv_at hl 3 rfl) ?_
  refine lv_bipush (v := zI 6) C.1 C.2.1 dX7_comingsOf_5 (by decide) ?_
  refine lv_icmp_ge (tgt := 37) C.1 C.2.1 dX7_comingsOf_7 (by decide) (fun c7 => ?_) (fun c7 => ?_)
  · have hw := hw.1 (z_le (show rng 6 from by decide) g_l3_4 c7)
    refine lv_iload_n C.1 C.2.1 dX7_comingsOf_37 rfl (lv_at hl 2 rfl) ?_
    exact k_zretP C hr hlk rfl ⟨_, rfl, g_l2_4, hw⟩ dX7_comingsOf_38
  · have hw := hw.2 (z_nle (show rng 6 from by decide) g_l3_4 c7)
    refine lv_iload_n C.1 C.2.1 dX7_comingsOf_10 rfl (lv_at hl 2 rfl) ?_
    refine lv_iload_n C.1 C.2.1 dX7_comingsOf_11 rfl (lv_at hl 1 rfl) ?_
    refine lv_iload_n C.1 C.2.1 dX7_comingsOf_12 rfl (lv_at hl 3 rfl) ?_
    refine k_ishr (v := zI (zishr x0 l3_4)) C (zishr_eq _ _) dX7_comingsOf_13 ?_
    refine lv_iconst (v := zI 1) C.1 C.2.1 dX7_comingsOf_14 (by decide) ?_
    refine k_iand (v := zI (ziand (zishr x0 l3_4) 1)) C (ziand_eq _ _) dX7_comingsOf_15 ?_
    refine lv_if_eq (tgt := 28) C.1 C.2.1 dX7_comingsOf_16 (by decide) (fun c16 => ?_) (fun c16 => ?_)
    · have hw := hw.1 (z0_eq (rng_toInt _) c16)
      refine lv_iconst (v := zI 0) C.1 C.2.1 dX7_comingsOf_28 (by decide) ?_
      refine k_iadd (v := zI (l2_4 + 0)) C (zI_iadd _ _) dX7_comingsOf_29 ?_
      refine lv_istore_n (lv' := [(2, .int (zI (l2_4 + 0))), (0, .ref (ad 84)), (1, .int (zI x0)), (3, .int (zI l3_4))]) C.1 C.2.1 dX7_comingsOf_30 rfl hl (by decide) rfl (fun ls hl => ?_)
      replace hl := lv_sub hl [1, 2, 0, 3] rfl
      refine lv_iinc (v := zI (l3_4 + 1)) (lv' := [(3, .int (zI (l3_4 + 1))), (0, .ref (ad 84)), (1, .int (zI x0)), (2, .int (zI (l2_4 + 0)))]) C.1 C.2.1 dX7_comingsOf_31 hl (k := 3) rfl (zI_inc _ _ (by decide)) (by decide) rfl (fun ls hl => ?_)
      replace hl := lv_sub hl [1, 2, 3, 0] rfl
      refine lv_goto (tgt := 4) C.1 C.2.1 dX7_comingsOf_34 (by decide) ?_
      obtain ⟨g34_4, hw⟩ := hw
      obtain ⟨g34_5, hw⟩ := hw
      exact hL4 _ _ hw _ _ _ ⟨g34_4, g34_5, Wd, rfl, rfl, lv_sub hl [0, 1, 2, 3] rfl⟩
    · have hw := hw.2 (z0_ne (rng_toInt _) c16)
      refine lv_aload_n C.1 C.2.1 dX7_comingsOf_19 rfl (lv_at hl 0 rfl) ?_
      refine k_get (v := .ref (ad 86)) C Wd.1 KX7 _ 2 (cx84 _) (by decide) fl_X7_22 rfl dX7_comingsOf_20 ?_
      refine lv_iload_n C.1 C.2.1 dX7_comingsOf_23 rfl (lv_at hl 3 rfl) ?_
      obtain ⟨n24_0, hw⟩ := hw
      refine k_ialdK (g := (σ.2.1 86)) C Wd (cx86 _) (tC_at (by decide) rfl) n24_0 (by decide) dX7_comingsOf_24 ?_
      have ga24 : rng (σ.2.1 86 l3_4) := rngL (fun j => (Wd.2.1).2.1 86 j) n24_0
      refine lv_goto (tgt := 29) C.1 C.2.1 dX7_comingsOf_25 (by decide) ?_
      refine k_iadd (v := zI (l2_4 + (σ.2.1 86 l3_4))) C (zI_iadd _ _) dX7_comingsOf_29 ?_
      refine lv_istore_n (lv' := [(2, .int (zI (l2_4 + (σ.2.1 86 l3_4)))), (0, .ref (ad 84)), (1, .int (zI x0)), (3, .int (zI l3_4))]) C.1 C.2.1 dX7_comingsOf_30 rfl hl (by decide) rfl (fun ls hl => ?_)
      replace hl := lv_sub hl [1, 2, 0, 3] rfl
      refine lv_iinc (v := zI (l3_4 + 1)) (lv' := [(3, .int (zI (l3_4 + 1))), (0, .ref (ad 84)), (1, .int (zI x0)), (2, .int (zI (l2_4 + (σ.2.1 86 l3_4))))]) C.1 C.2.1 dX7_comingsOf_31 hl (k := 3) rfl (zI_inc _ _ (by decide)) (by decide) rfl (fun ls hl => ?_)
      replace hl := lv_sub hl [1, 2, 3, 0] rfl
      refine lv_goto (tgt := 4) C.1 C.2.1 dX7_comingsOf_34 (by decide) ?_
      obtain ⟨g34_6, hw⟩ := hw
      obtain ⟨g34_7, hw⟩ := hw
      exact hL4 _ _ hw _ _ _ ⟨g34_6, g34_7, Wd, rfl, rfl, lv_sub hl [0, 1, 2, 3] rfl⟩
set_option maxHeartbeats 4000000 in
set_option maxRecDepth 100000 in
theorem mk_G_spills : ∀ (D : va_G) (ad : Nat → Nat) (ca : Nat → ClassId) (rf : Nat → Nat → Option Nat) (σ : Sg) (hS : rngK σ) (hRF : RFok ad rf) (x0 : Int) (g_x0 : rng x0) (K : Int → Sg → Prop) (hw : wp5_G_spills σ x0 K) (l : Launch) (sz : Nat), Met l yX7_spills (Cond.code yX7_spills cX7_spills 6 (some .int) :: gG) { frames := 11, cells := 0, slots := 0, locals := 297 } (cPre D (tC ca) (wK ad ca rf σ) sz [.ref (ad 84), .int (zI x0)]) (va_Qi (fun (r : Int32) (u : Sg) => (∃ x : Int, r = zI x ∧ rng x ∧ K x u) ∧ rngK u) (fun u t => cB D (va_A (wK ad ca rf σ) sz) [] (wK ad ca rf u) t) (va_A (wK ad ca rf σ) sz)) 0 0 (va_A (wK ad ca rf σ) sz) := by
  intro D ad ca rf σ hS hRF x0 g_x0 K hw l sz
  refine Met.ofW (cc := cX7_spills) (maxL := 6) (ret := (some .int)) (by decide) rfl ?_
  intro p e s m args below meth c s₁ B hml hv
  obtain ⟨rfl, aks, rfl, Wd⟩ := k_enter hv
  have C : CallFix p m c cX7_spills 6 s _ gG RX7 := ⟨B.exec, B.bytes, hml, findClass_of_methodNamed B.named, fun w h => atoms_spec (ws := Cond.code yX7_spills cX7_spills 6 (some .int) :: gG) B.pre w (List.mem_cons_of_mem _ h)⟩
  have hr := B.returns
  have hlk := B.notSynchronized
  generalize va_A (wK ad ca rf σ) s.heap.size = A at Wd ⊢
  replace Wd : wXK D ad ca rf s σ s.heap A s.heap [] := ⟨Wd, hS, hRF⟩
  refine k_locals (Nat.le_of_ble_eq_true rfl) [(0, .ref (ad 84)), (1, .int (zI x0))] rfl (fun ls hl => ?_)
  unfold wp5_G_spills at hw
  refine lv_aload_n C.1 C.2.1 dX7_spills_0 rfl (lv_at hl 0 rfl) ?_
  refine k_get (v := .int (zI (σ.1 84 4))) C Wd.1 KX7 _ 4 (cx84 _) (by decide) fl_X7_32 rfl dX7_spills_1 ?_
  refine lv_istore_n (lv' := [(2, .int (zI (σ.1 84 4))), (0, .ref (ad 84)), (1, .int (zI x0))]) C.1 C.2.1 dX7_spills_4 rfl hl (by decide) rfl (fun ls hl => ?_)
  replace hl := lv_sub hl [1, 2, 0] rfl
  refine lv_aload_n C.1 C.2.1 dX7_spills_5 rfl (lv_at hl 0 rfl) ?_
  refine lv_aload_n C.1 C.2.1 dX7_spills_6 rfl (lv_at hl 0 rfl) ?_
  refine k_get (v := .int (zI (σ.1 84 4))) C Wd.1 KX7 _ 4 (cx84 _) (by decide) fl_X7_32 rfl dX7_spills_7 ?_
  refine k_pi (k_runVK (rest := []) C aks Wd cs_X7_82 (mk_G_comingsOf D ad ca rf σ Wd.2.1 Wd.2.2 (σ.1 84 4) (hS.1 84 4) _ hw l _) (cx84 _) rfl rfl rfl rfl ⟨(Nat.le_of_ble_eq_true rfl), (Nat.le_of_ble_eq_true rfl)⟩ hl.1 rfl rfl (Nat.le_of_ble_eq_true rfl) ⟨(Nat.le_of_ble_eq_true rfl), (Nat.le_of_ble_eq_true rfl)⟩ dX7_spills_10) (fun y10 hy => ?_)
  obtain ⟨r10, rfl, g_r10, hw⟩ := hy
  refine lv_istore_n (lv' := [(3, .int (zI r10)), (0, .ref (ad 84)), (1, .int (zI x0)), (2, .int (zI (σ.1 84 4)))]) C.1 C.2.1 dX7_spills_13 rfl hl (by decide) rfl (fun ls hl => ?_)
  replace hl := lv_sub hl [1, 2, 3, 0] rfl
  refine lv_iconst (v := zI 0) C.1 C.2.1 dX7_spills_14 (by decide) ?_
  refine lv_istore (lv' := [(4, .int (zI 0)), (0, .ref (ad 84)), (1, .int (zI x0)), (2, .int (zI (σ.1 84 4))), (3, .int (zI r10))]) C.1 C.2.1 dX7_spills_15 hl (by decide) rfl (fun ls hl => ?_)
  replace hl := lv_sub hl [1, 2, 3, 4, 0] rfl
  refine k_lp4 hw (fun (l2_17 : Int) (l3_17 : Int) (l4_17 : Int) (σ17 : Sg) H locs ls => rng l2_17 ∧ rng l3_17 ∧ rng l4_17 ∧ wXK D ad ca rf s σ17 H A s.heap locs ∧ lv_has ls 6 [(0, .ref (ad 84)), (1, .int (zI x0)), (2, .int (zI l2_17)), (3, .int (zI l3_17)), (4, .int (zI l4_17))]) (fun (l2_17 : Int) (l3_17 : Int) (l4_17 : Int) (σ17 : Sg) ls => F0 m 17 ls []) (fun L17 hL17 l2_17 l3_17 l4_17 σ17 hw H locs ls hi => ?_) _ _ _ ⟨(hS.1 84 4), g_r10, (show rng 0 from by decide), Wd, lv_sub hl [0, 1, 2, 3, 4] rfl⟩
  obtain ⟨g_l2_17, g_l3_17, g_l4_17, Wd, hl⟩ := hi
  have hS_σ17 := Wd.2.1
  unfold wp5_G_spills_17 at hw
  refine lv_iload C.1 C.2.1 dX7_spills_17 (lv_at hl 4 rfl) ?_
  refine lv_bipush (v := zI 64) C.1 C.2.1 dX7_spills_19 (by decide) ?_
  refine lv_icmp_ge (tgt := 68) C.1 C.2.1 dX7_spills_21 (by decide) (fun c21 => ?_) (fun c21 => ?_)
  · have hw := hw.1 (z_le (show rng 64 from by decide) g_l4_17 c21)
    refine lv_iload_n C.1 C.2.1 dX7_spills_68 rfl (lv_at hl 2 rfl) ?_
    exact k_retKi C hr hlk rfl Wd ⟨_, rfl, g_l2_17, hw⟩ dX7_spills_69
  · have hw := hw.2 (z_nle (show rng 64 from by decide) g_l4_17 c21)
    refine lv_aload_n C.1 C.2.1 dX7_spills_24 rfl (lv_at hl 0 rfl) ?_
    refine lv_iload C.1 C.2.1 dX7_spills_25 (lv_at hl 4 rfl) ?_
    refine k_pi (k_runVK (rest := []) C aks Wd cs_X7_82 (mk_G_comingsOf D ad ca rf σ17 Wd.2.1 Wd.2.2 l4_17 g_l4_17 _ hw l _) (cx84 _) rfl rfl rfl rfl ⟨(Nat.le_of_ble_eq_true rfl), (Nat.le_of_ble_eq_true rfl)⟩ hl.1 rfl rfl (Nat.le_of_ble_eq_true rfl) ⟨(Nat.le_of_ble_eq_true rfl), (Nat.le_of_ble_eq_true rfl)⟩ dX7_spills_27) (fun y27 hy => ?_)
    obtain ⟨r27, rfl, g_r27, hw⟩ := hy
    refine lv_istore (lv' := [(5, .int (zI r27)), (0, .ref (ad 84)), (1, .int (zI x0)), (2, .int (zI l2_17)), (3, .int (zI l3_17)), (4, .int (zI l4_17))]) C.1 C.2.1 dX7_spills_30 hl (by decide) rfl (fun ls hl => ?_)
    replace hl := lv_sub hl [1, 2, 3, 4, 5, 0] rfl
    refine lv_iload C.1 C.2.1 dX7_spills_32 (lv_at hl 5 rfl) ?_
    refine lv_iload_n C.1 C.2.1 dX7_spills_34 rfl (lv_at hl 3 rfl) ?_
    refine lv_icmp_ge (tgt := 62) C.1 C.2.1 dX7_spills_35 (by decide) (fun c35 => ?_) (fun c35 => ?_)
    · have hw := hw.1 (z_le g_l3_17 g_r27 c35)
      refine lv_iinc (v := zI (l4_17 + 1)) (lv' := [(4, .int (zI (l4_17 + 1))), (0, .ref (ad 84)), (1, .int (zI x0)), (2, .int (zI l2_17)), (3, .int (zI l3_17)), (5, .int (zI r27))]) C.1 C.2.1 dX7_spills_62 hl (k := 4) rfl (zI_inc _ _ (by decide)) (by decide) rfl (fun ls hl => ?_)
      replace hl := lv_sub hl [1, 2, 3, 4, 0, 5] rfl
      refine lv_goto (tgt := 17) C.1 C.2.1 dX7_spills_65 (by decide) ?_
      obtain ⟨g65_6, hw⟩ := hw
      exact hL17 _ _ _ _ hw _ _ _ ⟨g_l2_17, g_l3_17, g65_6, Wd, lv_sub hl [0, 1, 2, 3, 4] rfl⟩
    · have hw := hw.2 (z_nle g_l3_17 g_r27 c35)
      refine lv_aload_n C.1 C.2.1 dX7_spills_38 rfl (lv_at hl 0 rfl) ?_
      refine lv_iconst (v := zI 0) C.1 C.2.1 dX7_spills_39 (by decide) ?_
      refine lv_aload_n C.1 C.2.1 dX7_spills_40 rfl (lv_at hl 0 rfl) ?_
      refine k_get (v := .int (zI (σ17.1 84 4))) C Wd.1 KX7 _ 4 (cx84 _) (by decide) fl_X7_32 rfl dX7_spills_41 ?_
      refine lv_iload C.1 C.2.1 dX7_spills_44 (lv_at hl 4 rfl) ?_
      refine lv_iconst (v := zI (-1)) C.1 C.2.1 dX7_spills_46 (by decide) ?_
      refine k_ixor (v := zI (zixor l4_17 (-1))) C (zixor_eq _ _) dX7_spills_47 ?_
      refine k_iand (v := zI (ziand (σ17.1 84 4) (zixor l4_17 (-1)))) C (ziand_eq _ _) dX7_spills_48 ?_
      refine lv_iload_n C.1 C.2.1 dX7_spills_49 rfl (lv_at hl 1 rfl) ?_
      refine k_cKi Wd (k_runVK (rest := []) C aks Wd cs_X7_74 (mk_G_deal0 D ad ca rf σ17 Wd.2.1 Wd.2.2 (ziand (σ17.1 84 4) (zixor l4_17 (-1))) x0 (rng_toInt _) g_x0 _ hw l _) (cx84 _) rfl rfl rfl rfl ⟨(Nat.le_of_ble_eq_true rfl), (Nat.le_of_ble_eq_true rfl)⟩ hl.1 rfl rfl (Nat.le_of_ble_eq_true rfl) ⟨(Nat.le_of_ble_eq_true rfl), (Nat.le_of_ble_eq_true rfl)⟩ dX7_spills_50) (fun r50 σr50 H locs g_r50 hw Wd => ?_)
      have hS_σr50 := Wd.2.1
      refine lv_if_eq (tgt := 62) C.1 C.2.1 dX7_spills_53 (by decide) (fun c53 => ?_) (fun c53 => ?_)
      · have hw := hw.1 (z0_eq g_r50 c53)
        refine lv_iinc (v := zI (l4_17 + 1)) (lv' := [(4, .int (zI (l4_17 + 1))), (0, .ref (ad 84)), (1, .int (zI x0)), (2, .int (zI l2_17)), (3, .int (zI l3_17)), (5, .int (zI r27))]) C.1 C.2.1 dX7_spills_62 hl (k := 4) rfl (zI_inc _ _ (by decide)) (by decide) rfl (fun ls hl => ?_)
        replace hl := lv_sub hl [1, 2, 3, 4, 0, 5] rfl
        refine lv_goto (tgt := 17) C.1 C.2.1 dX7_spills_65 (by decide) ?_
        obtain ⟨g65_7, hw⟩ := hw
        exact hL17 _ _ _ _ hw _ _ _ ⟨g_l2_17, g_l3_17, g65_7, Wd, lv_sub hl [0, 1, 2, 3, 4] rfl⟩
      · have hw := hw.2 (z0_ne g_r50 c53)
        refine lv_iload C.1 C.2.1 dX7_spills_56 (lv_at hl 4 rfl) ?_
        refine lv_istore_n (lv' := [(2, .int (zI l4_17)), (0, .ref (ad 84)), (1, .int (zI x0)), (3, .int (zI l3_17)), (4, .int (zI l4_17)), (5, .int (zI r27))]) C.1 C.2.1 dX7_spills_58 rfl hl (by decide) rfl (fun ls hl => ?_)
        replace hl := lv_sub hl [1, 2, 0, 3, 4, 5] rfl
        refine lv_iload C.1 C.2.1 dX7_spills_59 (lv_at hl 5 rfl) ?_
        refine lv_istore_n (lv' := [(3, .int (zI r27)), (0, .ref (ad 84)), (1, .int (zI x0)), (2, .int (zI l4_17)), (4, .int (zI l4_17)), (5, .int (zI r27))]) C.1 C.2.1 dX7_spills_61 rfl hl (by decide) rfl (fun ls hl => ?_)
        replace hl := lv_sub hl [1, 2, 3, 0, 4, 5] rfl
        refine lv_iinc (v := zI (l4_17 + 1)) (lv' := [(4, .int (zI (l4_17 + 1))), (0, .ref (ad 84)), (1, .int (zI x0)), (2, .int (zI l4_17)), (3, .int (zI r27)), (5, .int (zI r27))]) C.1 C.2.1 dX7_spills_62 hl (k := 4) rfl (zI_inc _ _ (by decide)) (by decide) rfl (fun ls hl => ?_)
        replace hl := lv_sub hl [1, 2, 3, 4, 0, 5] rfl
        refine lv_goto (tgt := 17) C.1 C.2.1 dX7_spills_65 (by decide) ?_
        obtain ⟨g65_8, hw⟩ := hw
        exact hL17 _ _ _ _ hw _ _ _ ⟨g_l4_17, g_r27, g65_8, Wd, lv_sub hl [0, 1, 2, 3, 4] rfl⟩
set_option maxHeartbeats 4000000 in
set_option maxRecDepth 100000 in
theorem mk_S_registers : ∀ (D : va_G) (ad : Nat → Nat) (ca : Nat → ClassId) (rf : Nat → Nat → Option Nat) (σ : Sg) (hS : rngK σ) (hRF : RFok ad rf) (x0 : Int) (x1 : Int) (g_x0 : rng x0) (g_x1 : rng x1) (K : Int → Sg → Prop) (hw : wp5_S_registers σ x0 x1 K) (l : Launch) (sz : Nat), Met l yX11_registers (Cond.code yX11_registers cX11_registers 4 (some .int) :: gG) { frames := 13, cells := 0, slots := 0, locals := 339 } (cPre D (tC ca) (wK ad ca rf σ) sz [.ref (ad 0), .int (zI x0), .int (zI x1)]) (va_Qi (fun (r : Int32) (u : Sg) => (∃ x : Int, r = zI x ∧ rng x ∧ K x u) ∧ rngK u) (fun u t => cB D (va_A (wK ad ca rf σ) sz) [] (wK ad ca rf u) t) (va_A (wK ad ca rf σ) sz)) 0 0 (va_A (wK ad ca rf σ) sz) := by
  intro D ad ca rf σ hS hRF x0 x1 g_x0 g_x1 K hw l sz
  refine Met.ofW (cc := cX11_registers) (maxL := 4) (ret := (some .int)) (by decide) rfl ?_
  intro p e s m args below meth c s₁ B hml hv
  obtain ⟨rfl, aks, rfl, Wd⟩ := k_enter hv
  have C : CallFix p m c cX11_registers 4 s _ gG RX11 := ⟨B.exec, B.bytes, hml, findClass_of_methodNamed B.named, fun w h => atoms_spec (ws := Cond.code yX11_registers cX11_registers 4 (some .int) :: gG) B.pre w (List.mem_cons_of_mem _ h)⟩
  have hr := B.returns
  have hlk := B.notSynchronized
  generalize va_A (wK ad ca rf σ) s.heap.size = A at Wd ⊢
  replace Wd : wXK D ad ca rf s σ s.heap A s.heap [] := ⟨Wd, hS, hRF⟩
  refine k_locals (Nat.le_of_ble_eq_true rfl) [(0, .ref (ad 0)), (1, .int (zI x0)), (2, .int (zI x1))] rfl (fun ls hl => ?_)
  unfold wp5_S_registers at hw
  refine lv_aload_n C.1 C.2.1 dX11_registers_0 rfl (lv_at hl 0 rfl) ?_
  refine lv_iload_n C.1 C.2.1 dX11_registers_1 rfl (lv_at hl 1 rfl) ?_
  refine k_pq (k_runVK (rest := []) C aks Wd cs_X11_77 (mk_S_slotAt D ad ca rf σ Wd.2.1 Wd.2.2 x0 g_x0 _ hw l _) (cx0 _) rfl rfl rfl rfl ⟨(Nat.le_of_ble_eq_true rfl), (Nat.le_of_ble_eq_true rfl)⟩ hl.1 rfl rfl (Nat.le_of_ble_eq_true rfl) ⟨(Nat.le_of_ble_eq_true rfl), (Nat.le_of_ble_eq_true rfl)⟩ dX11_registers_2) (fun y2 hy => ?_)
  obtain ⟨r2, rfl, hw⟩ := hy
  by_cases c2 : r2 < 0
  · have hw := hw.1 c2
    rw [rfO_null c2]
    show W p l e _ s m _ below meth c _ _ _ _ _ (F0 m _ ls (.null :: []))
    refine lv_astore_nN (lv' := [(3, .null), (0, .ref (ad 0)), (1, .int (zI x0)), (2, .int (zI x1))]) C.1 C.2.1 dX11_registers_5 rfl hl (by decide) rfl (fun ls hl => ?_)
    replace hl := lv_sub hl [1, 2, 3, 0] rfl
    refine lv_aload_nN C.1 C.2.1 dX11_registers_6 rfl (lv_at hl 3 rfl) ?_
    refine lv_ifnonnullN C.1 C.2.1 dX11_registers_7 ?_
    refine lv_iconst (v := zI (-1)) C.1 C.2.1 dX11_registers_10 (by decide) ?_
    exact k_retKi C hr hlk rfl Wd ⟨_, rfl, (show rng (-1) from by decide), hw⟩ dX11_registers_11
  · have hw := hw.2 (Int.not_lt.mp c2)
    rw [rfO_nn (Int.not_lt.mp c2)]
    obtain ⟨n2_0, hw⟩ := hw
    show W p l e _ s m _ below meth c _ _ _ _ _ (F0 m _ ls (.ref (ad (rowC r2.toNat)) :: []))
    refine lv_astore_n (lv' := [(3, .ref (ad (rowC r2.toNat))), (0, .ref (ad 0)), (1, .int (zI x0)), (2, .int (zI x1))]) C.1 C.2.1 dX11_registers_5 rfl hl (by decide) rfl (fun ls hl => ?_)
    replace hl := lv_sub hl [1, 2, 3, 0] rfl
    refine lv_aload_n C.1 C.2.1 dX11_registers_6 rfl (lv_at hl 3 rfl) ?_
    refine lv_ifnonnull (tgt := 12) C.1 C.2.1 dX11_registers_7 (by decide) ?_
    refine lv_aload_n C.1 C.2.1 dX11_registers_12 rfl (lv_at hl 0 rfl) ?_
    refine k_get (v := .ref (ad 84)) C Wd.1 KX11 _ 7 (cx0 _) (by decide) fl_X11_57 rfl dX11_registers_13 ?_
    refine lv_aload_n C.1 C.2.1 dX11_registers_16 rfl (lv_at hl 3 rfl) ?_
    refine k_cKv Wd (k_runVK (rest := []) C aks Wd cs_X11_220 (mk_G_study D ad ca rf σ Wd.2.1 Wd.2.2 r2 n2_0 _ hw l _) (cx84 _) rfl rfl rfl rfl ⟨(Nat.le_of_ble_eq_true rfl), (Nat.le_of_ble_eq_true rfl)⟩ hl.1 rfl rfl (Nat.le_of_ble_eq_true rfl) ⟨(Nat.le_of_ble_eq_true rfl), (Nat.le_of_ble_eq_true rfl)⟩ dX11_registers_17) (fun σr17 H locs hw Wd => ?_)
    have hS_σr17 := Wd.2.1
    refine lv_iload_n C.1 C.2.1 dX11_registers_20 rfl (lv_at hl 2 rfl) ?_
    refine lv_if_ne (tgt := 32) C.1 C.2.1 dX11_registers_21 (by decide) (fun c21 => ?_) (fun c21 => ?_)
    · have hw := hw.1 (z0_ne g_x1 c21)
      refine lv_iload_n C.1 C.2.1 dX11_registers_32 rfl (lv_at hl 2 rfl) ?_
      refine lv_bipush (v := zI 10) C.1 C.2.1 dX11_registers_33 (by decide) ?_
      refine k_cut0 (fun H locs ls => wp5_S_registers_56 K x1 σr17 ∧ wXK D ad ca rf s σr17 H A s.heap locs ∧ lv_has ls 4 [(0, .ref (ad 0)), (2, .int (zI x1))]) (fun  ls => F0 m 56 ls []) (fun  H locs ls hi => ?_) (fun J56 => ?_)
      · obtain ⟨hw, Wd, hl⟩ := hi
        unfold wp5_S_registers_56 at hw
        refine lv_iload_n C.1 C.2.1 dX11_registers_56 rfl (lv_at hl 1 rfl) ?_
        refine lv_bipush (v := zI 20) C.1 C.2.1 dX11_registers_57 (by decide) ?_
        refine lv_icmp_lt (tgt := 82) C.1 C.2.1 dX11_registers_59 (by decide) (fun c59 => ?_) (fun c59 => ?_)
        · have hw := hw.1 (z_lt g_x1 (show rng 20 from by decide) c59)
          refine lv_iconst (v := zI (-1)) C.1 C.2.1 dX11_registers_82 (by decide) ?_
          exact k_retKi C hr hlk rfl Wd ⟨_, rfl, (show rng (-1) from by decide), hw⟩ dX11_registers_83
        · have hw := hw.2 (z_nlt g_x1 (show rng 20 from by decide) c59)
          refine lv_iload_n C.1 C.2.1 dX11_registers_62 rfl (lv_at hl 1 rfl) ?_
          refine lv_bipush (v := zI 26) C.1 C.2.1 dX11_registers_63 (by decide) ?_
          refine lv_icmp_gt (tgt := 82) C.1 C.2.1 dX11_registers_65 (by decide) (fun c65 => ?_) (fun c65 => ?_)
          · have hw := hw.1 (z_lt (show rng 26 from by decide) g_x1 c65)
            refine lv_iconst (v := zI (-1)) C.1 C.2.1 dX11_registers_82 (by decide) ?_
            exact k_retKi C hr hlk rfl Wd ⟨_, rfl, (show rng (-1) from by decide), hw⟩ dX11_registers_83
          · have hw := hw.2 (z_nlt (show rng 26 from by decide) g_x1 c65)
            refine lv_aload_n C.1 C.2.1 dX11_registers_68 rfl (lv_at hl 0 rfl) ?_
            refine k_get (v := .ref (ad 84)) C Wd.1 KX11 _ 7 (cx0 _) (by decide) fl_X11_57 rfl dX11_registers_69 ?_
            refine lv_iload_n C.1 C.2.1 dX11_registers_72 rfl (lv_at hl 1 rfl) ?_
            refine lv_bipush (v := zI 20) C.1 C.2.1 dX11_registers_73 (by decide) ?_
            refine k_isub (v := zI (x1 - 20)) C (zI_isub _ _) dX11_registers_75 ?_
            obtain ⟨g76_2, hw⟩ := hw
            refine k_cKi Wd (k_runVK (rest := []) C aks Wd cs_X11_229 (mk_G_spills D ad ca rf σr17 Wd.2.1 Wd.2.2 (x1 - 20) g76_2 _ hw l _) (cx84 _) rfl rfl rfl rfl ⟨(Nat.le_of_ble_eq_true rfl), (Nat.le_of_ble_eq_true rfl)⟩ hl.1 rfl rfl (Nat.le_of_ble_eq_true rfl) ⟨(Nat.le_of_ble_eq_true rfl), (Nat.le_of_ble_eq_true rfl)⟩ dX11_registers_76) (fun r76 σr76 H locs g_r76 hw Wd => ?_)
            have hS_σr76 := Wd.2.1
            refine lv_goto (tgt := 83) C.1 C.2.1 dX11_registers_79 (by decide) ?_
            exact k_retKi C hr hlk rfl Wd ⟨_, rfl, g_r76, hw⟩ dX11_registers_83
      refine lv_icmp_lt (tgt := 56) C.1 C.2.1 dX11_registers_35 (by decide) (fun c35 => ?_) (fun c35 => ?_)
      · have hw := hw.1 (z_lt g_x1 (show rng 10 from by decide) c35)
        exact J56  _ _ _ ⟨hw, Wd, lv_sub hl [0, 2] rfl⟩
      · have hw := hw.2 (z_nlt g_x1 (show rng 10 from by decide) c35)
        refine lv_iload_n C.1 C.2.1 dX11_registers_38 rfl (lv_at hl 2 rfl) ?_
        refine lv_bipush (v := zI 16) C.1 C.2.1 dX11_registers_39 (by decide) ?_
        refine lv_icmp_ge (tgt := 56) C.1 C.2.1 dX11_registers_41 (by decide) (fun c41 => ?_) (fun c41 => ?_)
        · have hw := hw.1 (z_le (show rng 16 from by decide) g_x1 c41)
          exact J56  _ _ _ ⟨hw, Wd, lv_sub hl [0, 2] rfl⟩
        · have hw := hw.2 (z_nle (show rng 16 from by decide) g_x1 c41)
          refine lv_aload_n C.1 C.2.1 dX11_registers_44 rfl (lv_at hl 0 rfl) ?_
          refine k_get (v := .ref (ad 84)) C Wd.1 KX11 _ 7 (cx0 _) (by decide) fl_X11_57 rfl dX11_registers_45 ?_
          refine lv_iload_n C.1 C.2.1 dX11_registers_48 rfl (lv_at hl 2 rfl) ?_
          refine lv_bipush (v := zI 10) C.1 C.2.1 dX11_registers_49 (by decide) ?_
          refine k_isub (v := zI (x1 - 10)) C (zI_isub _ _) dX11_registers_51 ?_
          obtain ⟨g52_3, hw⟩ := hw
          refine k_cKi Wd (k_runVK (rest := []) C aks Wd cs_X11_226 (mk_G_registerOf D ad ca rf σr17 Wd.2.1 Wd.2.2 (x1 - 10) g52_3 _ hw l _) (cx84 _) rfl rfl rfl rfl ⟨(Nat.le_of_ble_eq_true rfl), (Nat.le_of_ble_eq_true rfl)⟩ hl.1 rfl rfl (Nat.le_of_ble_eq_true rfl) ⟨(Nat.le_of_ble_eq_true rfl), (Nat.le_of_ble_eq_true rfl)⟩ dX11_registers_52) (fun r52 σr52 H locs g_r52 hw Wd => ?_)
          have hS_σr52 := Wd.2.1
          exact k_retKi C hr hlk rfl Wd ⟨_, rfl, g_r52, hw⟩ dX11_registers_55
    · have hw := hw.2 (z0_eq g_x1 c21)
      refine lv_aload_n C.1 C.2.1 dX11_registers_24 rfl (lv_at hl 0 rfl) ?_
      refine k_get (v := .ref (ad 84)) C Wd.1 KX11 _ 7 (cx0 _) (by decide) fl_X11_57 rfl dX11_registers_25 ?_
      refine k_cKi Wd (k_runVK (rest := []) C aks Wd cs_X11_223 (mk_G_fewest D ad ca rf σr17 Wd.2.1 Wd.2.2   _ hw l _) (cx84 _) rfl rfl rfl rfl ⟨(Nat.le_of_ble_eq_true rfl), (Nat.le_of_ble_eq_true rfl)⟩ hl.1 rfl rfl (Nat.le_of_ble_eq_true rfl) ⟨(Nat.le_of_ble_eq_true rfl), (Nat.le_of_ble_eq_true rfl)⟩ dX11_registers_28) (fun r28 σr28 H locs g_r28 hw Wd => ?_)
      have hS_σr28 := Wd.2.1
      exact k_retKi C hr hlk rfl Wd ⟨_, rfl, g_r28, hw⟩ dX11_registers_31
set_option maxHeartbeats 4000000 in
set_option maxRecDepth 100000 in
theorem mk_S_clash : ∀ (D : va_G) (ad : Nat → Nat) (ca : Nat → ClassId) (rf : Nat → Nat → Option Nat) (σ : Sg) (hS : rngK σ) (hRF : RFok ad rf) (x0 : Int) (x1 : Int) (x2 : Int) (g_x0 : rng x0) (g_x1 : rng x1) (g_x2 : rng x2) (K : Int → Sg → Prop) (hw : wp5_S_clash σ x0 x1 x2 K) (l : Launch) (sz : Nat), Met l yX11_clash (Cond.code yX11_clash cX11_clash 5 (some .int) :: gG) { frames := 6, cells := 0, slots := 0, locals := 174 } (cPre D (tC ca) (wK ad ca rf σ) sz [.ref (ad 0), .int (zI x0), .int (zI x1), .int (zI x2)]) (va_Qi (fun (r : Int32) (u : Sg) => (∃ x : Int, r = zI x ∧ rng x ∧ K x u) ∧ rngK u) (fun u t => cB D (va_A (wK ad ca rf σ) sz) [] (wK ad ca rf u) t) (va_A (wK ad ca rf σ) sz)) 0 0 (va_A (wK ad ca rf σ) sz) := by
  intro D ad ca rf σ hS hRF x0 x1 x2 g_x0 g_x1 g_x2 K hw l sz
  refine Met.ofW (cc := cX11_clash) (maxL := 5) (ret := (some .int)) (by decide) rfl ?_
  intro p e s m args below meth c s₁ B hml hv
  obtain ⟨rfl, aks, rfl, Wd⟩ := k_enter hv
  have C : CallFix p m c cX11_clash 5 s _ gG RX11 := ⟨B.exec, B.bytes, hml, findClass_of_methodNamed B.named, fun w h => atoms_spec (ws := Cond.code yX11_clash cX11_clash 5 (some .int) :: gG) B.pre w (List.mem_cons_of_mem _ h)⟩
  have hr := B.returns
  have hlk := B.notSynchronized
  generalize va_A (wK ad ca rf σ) s.heap.size = A at Wd ⊢
  replace Wd : wXK D ad ca rf s σ s.heap A s.heap [] := ⟨Wd, hS, hRF⟩
  refine k_locals (Nat.le_of_ble_eq_true rfl) [(0, .ref (ad 0)), (1, .int (zI x0)), (2, .int (zI x1)), (3, .int (zI x2))] rfl (fun ls hl => ?_)
  unfold wp5_S_clash at hw
  refine lv_aload_n C.1 C.2.1 dX11_clash_0 rfl (lv_at hl 0 rfl) ?_
  refine lv_iload_n C.1 C.2.1 dX11_clash_1 rfl (lv_at hl 1 rfl) ?_
  refine k_pq (k_runVK (rest := []) C aks Wd cs_X11_77 (mk_S_slotAt D ad ca rf σ Wd.2.1 Wd.2.2 x0 g_x0 _ hw l _) (cx0 _) rfl rfl rfl rfl ⟨(Nat.le_of_ble_eq_true rfl), (Nat.le_of_ble_eq_true rfl)⟩ hl.1 rfl rfl (Nat.le_of_ble_eq_true rfl) ⟨(Nat.le_of_ble_eq_true rfl), (Nat.le_of_ble_eq_true rfl)⟩ dX11_clash_2) (fun y2 hy => ?_)
  obtain ⟨r2, rfl, hw⟩ := hy
  by_cases c2 : r2 < 0
  · have hw := hw.1 c2
    rw [rfO_null c2]
    show W p l e _ s m _ below meth c _ _ _ _ _ (F0 m _ ls (.null :: []))
    refine lv_astoreN (lv' := [(4, .null), (0, .ref (ad 0)), (1, .int (zI x0)), (2, .int (zI x1)), (3, .int (zI x2))]) C.1 C.2.1 dX11_clash_5 hl (by decide) rfl (fun ls hl => ?_)
    replace hl := lv_sub hl [1, 2, 3, 4, 0] rfl
    refine lv_aloadN C.1 C.2.1 dX11_clash_7 (lv_at hl 4 rfl) ?_
    refine lv_ifnullN (tgt := 31) C.1 C.2.1 dX11_clash_9 (by decide) ?_
    refine lv_iconst (v := zI (-1)) C.1 C.2.1 dX11_clash_31 (by decide) ?_
    exact k_retKi C hr hlk rfl Wd ⟨_, rfl, (show rng (-1) from by decide), hw⟩ dX11_clash_32
  · have hw := hw.2 (Int.not_lt.mp c2)
    rw [rfO_nn (Int.not_lt.mp c2)]
    obtain ⟨n2_0, hw⟩ := hw
    show W p l e _ s m _ below meth c _ _ _ _ _ (F0 m _ ls (.ref (ad (rowC r2.toNat)) :: []))
    refine lv_astore (lv' := [(4, .ref (ad (rowC r2.toNat))), (0, .ref (ad 0)), (1, .int (zI x0)), (2, .int (zI x1)), (3, .int (zI x2))]) C.1 C.2.1 dX11_clash_5 hl (by decide) rfl (fun ls hl => ?_)
    replace hl := lv_sub hl [1, 2, 3, 4, 0] rfl
    refine lv_aload C.1 C.2.1 dX11_clash_7 (lv_at hl 4 rfl) ?_
    refine lv_ifnull C.1 C.2.1 dX11_clash_9 ?_
    refine lv_iload_n C.1 C.2.1 dX11_clash_12 rfl (lv_at hl 2 rfl) ?_
    refine k_pi (k_runS (rest := []) C aks Wd.1 cs_X11_232 (mk_S_isVariable D x1 g_x1 _ hw l _) [] rfl (by decide) [] rfl rfl rfl ⟨(Nat.le_of_ble_eq_true rfl), (Nat.le_of_ble_eq_true rfl)⟩ hl.1 rfl rfl (Nat.le_of_ble_eq_true rfl) ⟨(Nat.le_of_ble_eq_true rfl), (Nat.le_of_ble_eq_true rfl)⟩ dX11_clash_13) (fun y13 hy => ?_)
    obtain ⟨r13, rfl, g_r13, hw⟩ := hy
    refine lv_if_eq (tgt := 31) C.1 C.2.1 dX11_clash_16 (by decide) (fun c16 => ?_) (fun c16 => ?_)
    · have hw := hw.1 (z0_eq g_r13 c16)
      refine lv_iconst (v := zI (-1)) C.1 C.2.1 dX11_clash_31 (by decide) ?_
      exact k_retKi C hr hlk rfl Wd ⟨_, rfl, (show rng (-1) from by decide), hw⟩ dX11_clash_32
    · have hw := hw.2 (z0_ne g_r13 c16)
      refine lv_iload_n C.1 C.2.1 dX11_clash_19 rfl (lv_at hl 3 rfl) ?_
      refine k_pi (k_runS (rest := []) C aks Wd.1 cs_X11_232 (mk_S_isVariable D x2 g_x2 _ hw l _) [] rfl (by decide) [] rfl rfl rfl ⟨(Nat.le_of_ble_eq_true rfl), (Nat.le_of_ble_eq_true rfl)⟩ hl.1 rfl rfl (Nat.le_of_ble_eq_true rfl) ⟨(Nat.le_of_ble_eq_true rfl), (Nat.le_of_ble_eq_true rfl)⟩ dX11_clash_20) (fun y20 hy => ?_)
      obtain ⟨r20, rfl, g_r20, hw⟩ := hy
      refine lv_if_eq (tgt := 31) C.1 C.2.1 dX11_clash_23 (by decide) (fun c23 => ?_) (fun c23 => ?_)
      · have hw := hw.1 (z0_eq g_r20 c23)
        refine lv_iconst (v := zI (-1)) C.1 C.2.1 dX11_clash_31 (by decide) ?_
        exact k_retKi C hr hlk rfl Wd ⟨_, rfl, (show rng (-1) from by decide), hw⟩ dX11_clash_32
      · have hw := hw.2 (z0_ne g_r20 c23)
        refine lv_iload_n C.1 C.2.1 dX11_clash_26 rfl (lv_at hl 2 rfl) ?_
        refine lv_iload_n C.1 C.2.1 dX11_clash_27 rfl (lv_at hl 3 rfl) ?_
        refine lv_icmp_ne (tgt := 33) C.1 C.2.1 dX11_clash_28 (by decide) (fun c28 => ?_) (fun c28 => ?_)
        · have hw := hw.1 (z_ne g_x1 g_x2 c28)
          refine lv_aload_n C.1 C.2.1 dX11_clash_33 rfl (lv_at hl 0 rfl) ?_
          refine k_get (v := .ref (ad 84)) C Wd.1 KX11 _ 7 (cx0 _) (by decide) fl_X11_57 rfl dX11_clash_34 ?_
          refine lv_aload C.1 C.2.1 dX11_clash_37 (lv_at hl 4 rfl) ?_
          refine k_cKv Wd (k_runVK (rest := []) C aks Wd cs_X11_220 (mk_G_study D ad ca rf σ Wd.2.1 Wd.2.2 r2 n2_0 _ hw l _) (cx84 _) rfl rfl rfl rfl ⟨(Nat.le_of_ble_eq_true rfl), (Nat.le_of_ble_eq_true rfl)⟩ hl.1 rfl rfl (Nat.le_of_ble_eq_true rfl) ⟨(Nat.le_of_ble_eq_true rfl), (Nat.le_of_ble_eq_true rfl)⟩ dX11_clash_39) (fun σr39 H locs hw Wd => ?_)
          have hS_σr39 := Wd.2.1
          refine lv_aload_n C.1 C.2.1 dX11_clash_42 rfl (lv_at hl 0 rfl) ?_
          refine k_get (v := .ref (ad 84)) C Wd.1 KX11 _ 7 (cx0 _) (by decide) fl_X11_57 rfl dX11_clash_43 ?_
          refine lv_iload_n C.1 C.2.1 dX11_clash_46 rfl (lv_at hl 2 rfl) ?_
          refine lv_iload_n C.1 C.2.1 dX11_clash_47 rfl (lv_at hl 3 rfl) ?_
          refine k_pi (k_runVK (rest := []) C aks Wd cs_X11_235 (mk_G_clashing D ad ca rf σr39 Wd.2.1 Wd.2.2 x1 x2 g_x1 g_x2 _ hw l _) (cx84 _) rfl rfl rfl rfl ⟨(Nat.le_of_ble_eq_true rfl), (Nat.le_of_ble_eq_true rfl)⟩ hl.1 rfl rfl (Nat.le_of_ble_eq_true rfl) ⟨(Nat.le_of_ble_eq_true rfl), (Nat.le_of_ble_eq_true rfl)⟩ dX11_clash_48) (fun y48 hy => ?_)
          obtain ⟨r48, rfl, g_r48, hw⟩ := hy
          refine lv_if_eq (tgt := 58) C.1 C.2.1 dX11_clash_51 (by decide) (fun c51 => ?_) (fun c51 => ?_)
          · have hw := hw.1 (z0_eq g_r48 c51)
            refine lv_iconst (v := zI 0) C.1 C.2.1 dX11_clash_58 (by decide) ?_
            exact k_retKi C hr hlk rfl Wd ⟨_, rfl, (show rng 0 from by decide), hw⟩ dX11_clash_59
          · have hw := hw.2 (z0_ne g_r48 c51)
            refine lv_iconst (v := zI 1) C.1 C.2.1 dX11_clash_54 (by decide) ?_
            refine lv_goto (tgt := 59) C.1 C.2.1 dX11_clash_55 (by decide) ?_
            exact k_retKi C hr hlk rfl Wd ⟨_, rfl, (show rng 1 from by decide), hw⟩ dX11_clash_59
        · have hw := hw.2 (z_eq g_x1 g_x2 c28)
          refine lv_iconst (v := zI (-1)) C.1 C.2.1 dX11_clash_31 (by decide) ?_
          exact k_retKi C hr hlk rfl Wd ⟨_, rfl, (show rng (-1) from by decide), hw⟩ dX11_clash_32
set_option maxHeartbeats 4000000 in
set_option maxRecDepth 100000 in
theorem mk_W_reckonP : ∀ (D : va_G) (ad : Nat → Nat) (ca : Nat → ClassId) (rf : Nat → Nat → Option Nat) (σ : Sg) (hS : rngK σ) (hRF : RFok ad rf) (n0 : Int) (x0 : Int) (x1 : Int) (h_n0 : 0 ≤ n0 ∧ n0 < 35) (g_x0 : rng x0) (g_x1 : rng x1) (K : Sg → Prop) (hw : wp5_W_reckonP σ n0 x0 x1 K) (l : Launch) (sz : Nat), Met l yX8_reckon (Cond.code yX8_reckon cX8_reckon 9 none :: gG) { frames := 2, cells := 0, slots := 0, locals := 96 } (cPre D (tC ca) (wK ad ca rf σ) sz [.ref (ad (rowC n0.toNat)), .int (zI x0), .int (zI x1), .ref (ad 26), .ref (ad 27)]) (va_Qv (fun (u : Sg) => K u ∧ rngK u) (fun u t => cB D (va_A (wK ad ca rf σ) sz) [] (wK ad ca rf u) t) (va_A (wK ad ca rf σ) sz)) 0 0 (va_A (wK ad ca rf σ) sz) := by
  intro D ad ca rf σ hS hRF n0 x0 x1 h_n0 g_x0 g_x1 K hw l sz
  refine Met.ofW (cc := cX8_reckon) (maxL := 9) (ret := none) (by decide) rfl ?_
  intro p e s m args below meth c s₁ B hml hv
  obtain ⟨rfl, aks, rfl, Wd⟩ := k_enter hv
  have C : CallFix p m c cX8_reckon 9 s _ gG RX8 := ⟨B.exec, B.bytes, hml, findClass_of_methodNamed B.named, fun w h => atoms_spec (ws := Cond.code yX8_reckon cX8_reckon 9 none :: gG) B.pre w (List.mem_cons_of_mem _ h)⟩
  have hr := B.returns
  have hlk := B.notSynchronized
  generalize va_A (wK ad ca rf σ) s.heap.size = A at Wd ⊢
  replace Wd : wXK D ad ca rf s σ s.heap A s.heap [] := ⟨Wd, hS, hRF⟩
  refine k_locals (Nat.le_of_ble_eq_true rfl) [(0, .ref (ad (rowC n0.toNat))), (1, .int (zI x0)), (2, .int (zI x1)), (3, .ref (ad 26)), (4, .ref (ad 27))] rfl (fun ls hl => ?_)
  unfold wp5_W_reckonP at hw
  refine lv_iconst (v := zI 0) C.1 C.2.1 dX8_reckon_0 (by decide) ?_
  refine lv_istore (lv' := [(5, .int (zI 0)), (0, .ref (ad (rowC n0.toNat))), (1, .int (zI x0)), (2, .int (zI x1)), (3, .ref (ad 26)), (4, .ref (ad 27))]) C.1 C.2.1 dX8_reckon_1 hl (by decide) rfl (fun ls hl => ?_)
  replace hl := lv_sub hl [1, 2, 3, 4, 5, 0] rfl
  refine lv_iload_n C.1 C.2.1 dX8_reckon_3 rfl (lv_at hl 2 rfl) ?_
  refine lv_aload_n C.1 C.2.1 dX8_reckon_4 rfl (lv_at hl 0 rfl) ?_
  refine k_get (v := .int (zI (σ.2.2.1 0 n0))) C Wd.1 KX8 _ 1 (cxRow h_n0) (by decide) fl_X8_21 rfl dX8_reckon_5 ?_
  refine k_mmin (v := zI (min x1 (σ.2.2.1 0 n0))) C hl.1 ml_X8_65 st_Lib_Math_min_name in_J9 cd_min (Nat.le_of_ble_eq_true rfl) (Nat.le_of_ble_eq_true rfl) (Nat.le_of_ble_eq_true rfl) (Nat.le_of_ble_eq_true rfl) (zmin_eq _ _ g_x1 (rgY hS (N := 35) h_n0)) dX8_reckon_8 ?_
  refine lv_iconst (v := zI 1) C.1 C.2.1 dX8_reckon_11 (by decide) ?_
  refine k_isub (v := zI ((min x1 (σ.2.2.1 0 n0)) - 1)) C (zI_isub _ _) dX8_reckon_12 ?_
  refine lv_istore (lv' := [(6, .int (zI ((min x1 (σ.2.2.1 0 n0)) - 1))), (0, .ref (ad (rowC n0.toNat))), (1, .int (zI x0)), (2, .int (zI x1)), (3, .ref (ad 26)), (4, .ref (ad 27)), (5, .int (zI 0))]) C.1 C.2.1 dX8_reckon_13 hl (by decide) rfl (fun ls hl => ?_)
  replace hl := lv_sub hl [1, 2, 3, 4, 5, 6, 0] rfl
  obtain ⟨g13_10, hw⟩ := hw
  refine k_lp3 hw (fun (l5_15 : Int) (l6_15 : Int) (σ15 : Sg) H locs ls => rng l5_15 ∧ rng l6_15 ∧ wXK D ad ca rf s σ15 H A s.heap locs ∧ lv_has ls 9 [(0, .ref (ad (rowC n0.toNat))), (1, .int (zI x0)), (3, .ref (ad 26)), (4, .ref (ad 27)), (5, .int (zI l5_15)), (6, .int (zI l6_15))]) (fun (l5_15 : Int) (l6_15 : Int) (σ15 : Sg) ls => F0 m 15 ls []) (fun L15 hL15 l5_15 l6_15 σ15 hw H locs ls hi => ?_) _ _ _ ⟨(show rng 0 from by decide), g13_10, Wd, lv_sub hl [0, 1, 3, 4, 5, 6] rfl⟩
  obtain ⟨g_l5_15, g_l6_15, Wd, hl⟩ := hi
  have hS_σ15 := Wd.2.1
  unfold wp5_W_reckonP_15 at hw
  refine lv_iload C.1 C.2.1 dX8_reckon_15 (lv_at hl 5 rfl) ?_
  refine lv_iload_n C.1 C.2.1 dX8_reckon_17 rfl (lv_at hl 1 rfl) ?_
  refine lv_icmp_lt (tgt := 143) C.1 C.2.1 dX8_reckon_18 (by decide) (fun c18 => ?_) (fun c18 => ?_)
  · have hw := hw.1 (z_lt g_l6_15 g_x0 c18)
    exact k_retKv C hr hlk Wd hw dX8_reckon_143
  · have hw := hw.2 (z_nlt g_l6_15 g_x0 c18)
    refine lv_iload C.1 C.2.1 dX8_reckon_21 (lv_at hl 5 rfl) ?_
    refine lv_if_lt (tgt := 143) C.1 C.2.1 dX8_reckon_23 (by decide) (fun c23 => ?_) (fun c23 => ?_)
    · have hw := hw.1 (z0_lt g_l6_15 c23)
      exact k_retKv C hr hlk Wd hw dX8_reckon_143
    · have hw := hw.2 (z0_nlt g_l6_15 c23)
      refine lv_aload_n C.1 C.2.1 dX8_reckon_26 rfl (lv_at hl 0 rfl) ?_
      refine k_get (v := .ref (ad ((rowC n0.toNat) + 1))) C Wd.1 KX8 _ 0 (cxRow h_n0) (by decide) fl_X8_15 rfl dX8_reckon_27 ?_
      refine lv_iload C.1 C.2.1 dX8_reckon_30 (lv_at hl 5 rfl) ?_
      obtain ⟨n32_0, hw⟩ := hw
      refine k_ialdK (g := (σ15.2.2.2 0 n0)) C Wd (cxRowc h_n0) (tyR h_n0) (capN n32_0) (capL _) dX8_reckon_32 ?_
      have ga32 : rng (σ15.2.2.2 0 n0 l6_15) := rngL (rgZ (c := 0) Wd.2.1 h_n0) n32_0
      refine lv_istore (lv' := [(7, .int (zI (σ15.2.2.2 0 n0 l6_15))), (0, .ref (ad (rowC n0.toNat))), (1, .int (zI x0)), (3, .ref (ad 26)), (4, .ref (ad 27)), (5, .int (zI l5_15)), (6, .int (zI l6_15))]) C.1 C.2.1 dX8_reckon_33 hl (by decide) rfl (fun ls hl => ?_)
      replace hl := lv_sub hl [1, 2, 3, 4, 5, 6, 0] rfl
      refine lv_iload C.1 C.2.1 dX8_reckon_35 (lv_at hl 6 rfl) ?_
      refine k_pi (k_runS (rest := []) C aks Wd.1 cs_X8_49 (mk_W_isOperation D (σ15.2.2.2 0 n0 l6_15) ga32 _ hw l _) [] rfl (by decide) [] rfl rfl rfl ⟨(Nat.le_of_ble_eq_true rfl), (Nat.le_of_ble_eq_true rfl)⟩ hl.1 rfl rfl (Nat.le_of_ble_eq_true rfl) ⟨(Nat.le_of_ble_eq_true rfl), (Nat.le_of_ble_eq_true rfl)⟩ dX8_reckon_37) (fun y37 hy => ?_)
      obtain ⟨r37, rfl, g_r37, hw⟩ := hy
      refine lv_if_eq (tgt := 89) C.1 C.2.1 dX8_reckon_40 (by decide) (fun c40 => ?_) (fun c40 => ?_)
      · have hw := hw.1 (z0_eq g_r37 c40)
        refine lv_iload C.1 C.2.1 dX8_reckon_89 (lv_at hl 4 rfl) ?_
        refine lv_aload C.1 C.2.1 dX8_reckon_91 (lv_at hl 3 rfl) ?_
        refine k_alen (v := zI 40) C Wd.1 27 27 (cx27 _) (tC_at (by decide) rfl) rfl dX8_reckon_93 ?_
        refine lv_icmp_ge (tgt := 137) C.1 C.2.1 dX8_reckon_94 (by decide) (fun c94 => ?_) (fun c94 => ?_)
        · have hw := hw.1 (z_le (show rng 40 from by decide) g_l5_15 c94)
          refine lv_iinc (v := zI (l6_15 - 1)) (lv' := [(6, .int (zI (l6_15 - 1))), (0, .ref (ad (rowC n0.toNat))), (1, .int (zI x0)), (3, .ref (ad 26)), (4, .ref (ad 27)), (5, .int (zI l5_15)), (7, .int (zI (σ15.2.2.2 0 n0 l6_15)))]) C.1 C.2.1 dX8_reckon_137 hl (k := 5) rfl (zI_dec _ _ (by decide)) (by decide) rfl (fun ls hl => ?_)
          replace hl := lv_sub hl [1, 2, 3, 4, 5, 0, 6] rfl
          refine lv_goto (tgt := 15) C.1 C.2.1 dX8_reckon_140 (by decide) ?_
          obtain ⟨g140_11, hw⟩ := hw
          exact hL15 _ _ _ hw _ _ _ ⟨g_l5_15, g140_11, Wd, lv_sub hl [0, 1, 2, 3, 4, 5] rfl⟩
        · have hw := hw.2 (z_nle (show rng 40 from by decide) g_l5_15 c94)
          refine lv_iload C.1 C.2.1 dX8_reckon_97 (lv_at hl 6 rfl) ?_
          refine lv_bipush (v := zI 20) C.1 C.2.1 dX8_reckon_99 (by decide) ?_
          refine k_isub (v := zI ((σ15.2.2.2 0 n0 l6_15) - 20)) C (zI_isub _ _) dX8_reckon_101 ?_
          refine lv_istore (lv' := [(8, .int (zI ((σ15.2.2.2 0 n0 l6_15) - 20))), (0, .ref (ad (rowC n0.toNat))), (1, .int (zI x0)), (3, .ref (ad 26)), (4, .ref (ad 27)), (5, .int (zI l5_15)), (6, .int (zI l6_15)), (7, .int (zI (σ15.2.2.2 0 n0 l6_15)))]) C.1 C.2.1 dX8_reckon_102 hl (by decide) rfl (fun ls hl => ?_)
          replace hl := lv_sub hl [1, 2, 3, 4, 5, 6, 7, 0] rfl
          refine lv_aload C.1 C.2.1 dX8_reckon_104 (lv_at hl 3 rfl) ?_
          refine lv_iload C.1 C.2.1 dX8_reckon_106 (lv_at hl 4 rfl) ?_
          refine lv_iload C.1 C.2.1 dX8_reckon_108 (lv_at hl 7 rfl) ?_
          obtain ⟨g110_12, hw⟩ := hw
          refine lv_if_ge (tgt := 118) C.1 C.2.1 dX8_reckon_110 (by decide) (fun c110 => ?_) (fun c110 => ?_)
          · have hw := hw.1 (z0_ler g110_12 c110)
            refine lv_iload C.1 C.2.1 dX8_reckon_118 (lv_at hl 7 rfl) ?_
            refine lv_aload_n C.1 C.2.1 dX8_reckon_120 rfl (lv_at hl 2 rfl) ?_
            refine k_alen (v := zI 3) C Wd.1 26 26 (cx26 _) (tC_at (by decide) rfl) rfl dX8_reckon_121 ?_
            refine lv_icmp_ge (tgt := 132) C.1 C.2.1 dX8_reckon_122 (by decide) (fun c122 => ?_) (fun c122 => ?_)
            · have hw := hw.1 (z_le (show rng 3 from by decide) g110_12 c122)
              refine lv_iconst (v := zI 0) C.1 C.2.1 dX8_reckon_132 (by decide) ?_
              obtain ⟨n133_0, hw⟩ := hw
              refine k_iastF (g := (σ15.2.1 27)) (i := l5_15) (v := 0) C Wd 27 (by decide) (cx27 _) (fun f => cx27a _ f) (tC_at (by decide) rfl) n133_0 (by decide) (ruZ (fun j => Wd.2.1.2.1 27 j) (show rng 0 from by decide)) dX8_reckon_133 (fun H locs Wd => ?_)
              refine lv_iinc (v := zI (l5_15 + 1)) (lv' := [(5, .int (zI (l5_15 + 1))), (0, .ref (ad (rowC n0.toNat))), (1, .int (zI x0)), (3, .ref (ad 26)), (4, .ref (ad 27)), (6, .int (zI l6_15)), (7, .int (zI (σ15.2.2.2 0 n0 l6_15))), (8, .int (zI ((σ15.2.2.2 0 n0 l6_15) - 20)))]) C.1 C.2.1 dX8_reckon_134 hl (k := 4) rfl (zI_inc _ _ (by decide)) (by decide) rfl (fun ls hl => ?_)
              replace hl := lv_sub hl [1, 2, 3, 4, 0, 5, 6, 7] rfl
              refine lv_iinc (v := zI (l6_15 - 1)) (lv' := [(6, .int (zI (l6_15 - 1))), (0, .ref (ad (rowC n0.toNat))), (1, .int (zI x0)), (3, .ref (ad 26)), (4, .ref (ad 27)), (5, .int (zI (l5_15 + 1))), (7, .int (zI (σ15.2.2.2 0 n0 l6_15))), (8, .int (zI ((σ15.2.2.2 0 n0 l6_15) - 20)))]) C.1 C.2.1 dX8_reckon_137 hl (k := 5) rfl (zI_dec _ _ (by decide)) (by decide) rfl (fun ls hl => ?_)
              replace hl := lv_sub hl [1, 2, 3, 4, 5, 0, 6, 7] rfl
              refine lv_goto (tgt := 15) C.1 C.2.1 dX8_reckon_140 (by decide) ?_
              obtain ⟨g140_13, hw⟩ := hw
              obtain ⟨g140_14, hw⟩ := hw
              exact hL15 _ _ _ hw _ _ _ ⟨g140_13, g140_14, Wd, lv_sub hl [0, 1, 2, 3, 4, 5] rfl⟩
            · have hw := hw.2 (z_nle (show rng 3 from by decide) g110_12 c122)
              refine lv_aload_n C.1 C.2.1 dX8_reckon_125 rfl (lv_at hl 2 rfl) ?_
              refine lv_iload C.1 C.2.1 dX8_reckon_126 (lv_at hl 7 rfl) ?_
              obtain ⟨n128_0, hw⟩ := hw
              refine k_ialdK (g := (σ15.2.1 26)) C Wd (cx26 _) (tC_at (by decide) rfl) n128_0 (by decide) dX8_reckon_128 ?_
              have ga128 : rng (σ15.2.1 26 ((σ15.2.2.2 0 n0 l6_15) - 20)) := rngL (fun j => (Wd.2.1).2.1 26 j) n128_0
              refine lv_goto (tgt := 133) C.1 C.2.1 dX8_reckon_129 (by decide) ?_
              obtain ⟨n133_0, hw⟩ := hw
              refine k_iastF (g := (σ15.2.1 27)) (i := l5_15) (v := (σ15.2.1 26 ((σ15.2.2.2 0 n0 l6_15) - 20))) C Wd 27 (by decide) (cx27 _) (fun f => cx27a _ f) (tC_at (by decide) rfl) n133_0 (by decide) (ruZ (fun j => Wd.2.1.2.1 27 j) ga128) dX8_reckon_133 (fun H locs Wd => ?_)
              refine lv_iinc (v := zI (l5_15 + 1)) (lv' := [(5, .int (zI (l5_15 + 1))), (0, .ref (ad (rowC n0.toNat))), (1, .int (zI x0)), (3, .ref (ad 26)), (4, .ref (ad 27)), (6, .int (zI l6_15)), (7, .int (zI (σ15.2.2.2 0 n0 l6_15))), (8, .int (zI ((σ15.2.2.2 0 n0 l6_15) - 20)))]) C.1 C.2.1 dX8_reckon_134 hl (k := 4) rfl (zI_inc _ _ (by decide)) (by decide) rfl (fun ls hl => ?_)
              replace hl := lv_sub hl [1, 2, 3, 4, 0, 5, 6, 7] rfl
              refine lv_iinc (v := zI (l6_15 - 1)) (lv' := [(6, .int (zI (l6_15 - 1))), (0, .ref (ad (rowC n0.toNat))), (1, .int (zI x0)), (3, .ref (ad 26)), (4, .ref (ad 27)), (5, .int (zI (l5_15 + 1))), (7, .int (zI (σ15.2.2.2 0 n0 l6_15))), (8, .int (zI ((σ15.2.2.2 0 n0 l6_15) - 20)))]) C.1 C.2.1 dX8_reckon_137 hl (k := 5) rfl (zI_dec _ _ (by decide)) (by decide) rfl (fun ls hl => ?_)
              replace hl := lv_sub hl [1, 2, 3, 4, 5, 0, 6, 7] rfl
              refine lv_goto (tgt := 15) C.1 C.2.1 dX8_reckon_140 (by decide) ?_
              obtain ⟨g140_15, hw⟩ := hw
              obtain ⟨g140_16, hw⟩ := hw
              exact hL15 _ _ _ hw _ _ _ ⟨g140_15, g140_16, Wd, lv_sub hl [0, 1, 2, 3, 4, 5] rfl⟩
          · have hw := hw.2 (z0_nler g110_12 c110)
            refine lv_iload C.1 C.2.1 dX8_reckon_113 (lv_at hl 6 rfl) ?_
            refine lv_goto (tgt := 133) C.1 C.2.1 dX8_reckon_115 (by decide) ?_
            obtain ⟨n133_0, hw⟩ := hw
            refine k_iastF (g := (σ15.2.1 27)) (i := l5_15) (v := (σ15.2.2.2 0 n0 l6_15)) C Wd 27 (by decide) (cx27 _) (fun f => cx27a _ f) (tC_at (by decide) rfl) n133_0 (by decide) (ruZ (fun j => Wd.2.1.2.1 27 j) ga32) dX8_reckon_133 (fun H locs Wd => ?_)
            refine lv_iinc (v := zI (l5_15 + 1)) (lv' := [(5, .int (zI (l5_15 + 1))), (0, .ref (ad (rowC n0.toNat))), (1, .int (zI x0)), (3, .ref (ad 26)), (4, .ref (ad 27)), (6, .int (zI l6_15)), (7, .int (zI (σ15.2.2.2 0 n0 l6_15))), (8, .int (zI ((σ15.2.2.2 0 n0 l6_15) - 20)))]) C.1 C.2.1 dX8_reckon_134 hl (k := 4) rfl (zI_inc _ _ (by decide)) (by decide) rfl (fun ls hl => ?_)
            replace hl := lv_sub hl [1, 2, 3, 4, 0, 5, 6, 7] rfl
            refine lv_iinc (v := zI (l6_15 - 1)) (lv' := [(6, .int (zI (l6_15 - 1))), (0, .ref (ad (rowC n0.toNat))), (1, .int (zI x0)), (3, .ref (ad 26)), (4, .ref (ad 27)), (5, .int (zI (l5_15 + 1))), (7, .int (zI (σ15.2.2.2 0 n0 l6_15))), (8, .int (zI ((σ15.2.2.2 0 n0 l6_15) - 20)))]) C.1 C.2.1 dX8_reckon_137 hl (k := 5) rfl (zI_dec _ _ (by decide)) (by decide) rfl (fun ls hl => ?_)
            replace hl := lv_sub hl [1, 2, 3, 4, 5, 0, 6, 7] rfl
            refine lv_goto (tgt := 15) C.1 C.2.1 dX8_reckon_140 (by decide) ?_
            obtain ⟨g140_17, hw⟩ := hw
            obtain ⟨g140_18, hw⟩ := hw
            exact hL15 _ _ _ hw _ _ _ ⟨g140_17, g140_18, Wd, lv_sub hl [0, 1, 2, 3, 4, 5] rfl⟩
      · have hw := hw.2 (z0_ne g_r37 c40)
        refine lv_iload C.1 C.2.1 dX8_reckon_43 (lv_at hl 4 rfl) ?_
        refine lv_iconst (v := zI 2) C.1 C.2.1 dX8_reckon_45 (by decide) ?_
        refine lv_icmp_lt (tgt := 137) C.1 C.2.1 dX8_reckon_46 (by decide) (fun c46 => ?_) (fun c46 => ?_)
        · have hw := hw.1 (z_lt g_l5_15 (show rng 2 from by decide) c46)
          refine lv_iinc (v := zI (l6_15 - 1)) (lv' := [(6, .int (zI (l6_15 - 1))), (0, .ref (ad (rowC n0.toNat))), (1, .int (zI x0)), (3, .ref (ad 26)), (4, .ref (ad 27)), (5, .int (zI l5_15)), (7, .int (zI (σ15.2.2.2 0 n0 l6_15)))]) C.1 C.2.1 dX8_reckon_137 hl (k := 5) rfl (zI_dec _ _ (by decide)) (by decide) rfl (fun ls hl => ?_)
          replace hl := lv_sub hl [1, 2, 3, 4, 5, 0, 6] rfl
          refine lv_goto (tgt := 15) C.1 C.2.1 dX8_reckon_140 (by decide) ?_
          obtain ⟨g140_19, hw⟩ := hw
          exact hL15 _ _ _ hw _ _ _ ⟨g_l5_15, g140_19, Wd, lv_sub hl [0, 1, 2, 3, 4, 5] rfl⟩
        · have hw := hw.2 (z_nlt g_l5_15 (show rng 2 from by decide) c46)
          refine lv_iload C.1 C.2.1 dX8_reckon_49 (lv_at hl 4 rfl) ?_
          refine lv_aload C.1 C.2.1 dX8_reckon_51 (lv_at hl 3 rfl) ?_
          refine k_alen (v := zI 40) C Wd.1 27 27 (cx27 _) (tC_at (by decide) rfl) rfl dX8_reckon_53 ?_
          refine lv_icmp_gt (tgt := 137) C.1 C.2.1 dX8_reckon_54 (by decide) (fun c54 => ?_) (fun c54 => ?_)
          · have hw := hw.1 (z_lt (show rng 40 from by decide) g_l5_15 c54)
            refine lv_iinc (v := zI (l6_15 - 1)) (lv' := [(6, .int (zI (l6_15 - 1))), (0, .ref (ad (rowC n0.toNat))), (1, .int (zI x0)), (3, .ref (ad 26)), (4, .ref (ad 27)), (5, .int (zI l5_15)), (7, .int (zI (σ15.2.2.2 0 n0 l6_15)))]) C.1 C.2.1 dX8_reckon_137 hl (k := 5) rfl (zI_dec _ _ (by decide)) (by decide) rfl (fun ls hl => ?_)
            replace hl := lv_sub hl [1, 2, 3, 4, 5, 0, 6] rfl
            refine lv_goto (tgt := 15) C.1 C.2.1 dX8_reckon_140 (by decide) ?_
            obtain ⟨g140_20, hw⟩ := hw
            exact hL15 _ _ _ hw _ _ _ ⟨g_l5_15, g140_20, Wd, lv_sub hl [0, 1, 2, 3, 4, 5] rfl⟩
          · have hw := hw.2 (z_nlt (show rng 40 from by decide) g_l5_15 c54)
            refine lv_aload C.1 C.2.1 dX8_reckon_57 (lv_at hl 3 rfl) ?_
            refine lv_iload C.1 C.2.1 dX8_reckon_59 (lv_at hl 4 rfl) ?_
            refine lv_iconst (v := zI 2) C.1 C.2.1 dX8_reckon_61 (by decide) ?_
            refine k_isub (v := zI (l5_15 - 2)) C (zI_isub _ _) dX8_reckon_62 ?_
            refine lv_iload C.1 C.2.1 dX8_reckon_63 (lv_at hl 6 rfl) ?_
            refine lv_aload C.1 C.2.1 dX8_reckon_65 (lv_at hl 3 rfl) ?_
            refine lv_iload C.1 C.2.1 dX8_reckon_67 (lv_at hl 4 rfl) ?_
            refine lv_iconst (v := zI 1) C.1 C.2.1 dX8_reckon_69 (by decide) ?_
            refine k_isub (v := zI (l5_15 - 1)) C (zI_isub _ _) dX8_reckon_70 ?_
            obtain ⟨n71_0, hw⟩ := hw
            refine k_ialdK (g := (σ15.2.1 27)) C Wd (cx27 _) (tC_at (by decide) rfl) n71_0 (by decide) dX8_reckon_71 ?_
            have ga71 : rng (σ15.2.1 27 (l5_15 - 1)) := rngL (fun j => (Wd.2.1).2.1 27 j) n71_0
            refine lv_aload C.1 C.2.1 dX8_reckon_72 (lv_at hl 3 rfl) ?_
            refine lv_iload C.1 C.2.1 dX8_reckon_74 (lv_at hl 4 rfl) ?_
            refine lv_iconst (v := zI 2) C.1 C.2.1 dX8_reckon_76 (by decide) ?_
            refine k_isub (v := zI (l5_15 - 2)) C (zI_isub _ _) dX8_reckon_77 ?_
            obtain ⟨n78_1, hw⟩ := hw
            refine k_ialdK (g := (σ15.2.1 27)) C Wd (cx27 _) (tC_at (by decide) rfl) n78_1 (by decide) dX8_reckon_78 ?_
            have ga78 : rng (σ15.2.1 27 (l5_15 - 2)) := rngL (fun j => (Wd.2.1).2.1 27 j) n78_1
            refine k_pi (k_runS (rest := [.int (zI (l5_15 - 2)), .ref (ad 27)]) C aks Wd.1 cs_X8_68 (mk_W_result D (σ15.2.2.2 0 n0 l6_15) (σ15.2.1 27 (l5_15 - 1)) (σ15.2.1 27 (l5_15 - 2)) ga32 ga71 ga78 _ hw l _) [] rfl (by decide) [] rfl rfl rfl ⟨(Nat.le_of_ble_eq_true rfl), (Nat.le_of_ble_eq_true rfl)⟩ hl.1 rfl rfl (Nat.le_of_ble_eq_true rfl) ⟨(Nat.le_of_ble_eq_true rfl), (Nat.le_of_ble_eq_true rfl)⟩ dX8_reckon_79) (fun y79 hy => ?_)
            obtain ⟨r79, rfl, g_r79, hw⟩ := hy
            refine k_iastF (g := (σ15.2.1 27)) (i := (l5_15 - 2)) (v := r79) C Wd 27 (by decide) (cx27 _) (fun f => cx27a _ f) (tC_at (by decide) rfl) n78_1 (by decide) (ruZ (fun j => Wd.2.1.2.1 27 j) g_r79) dX8_reckon_82 (fun H locs Wd => ?_)
            refine lv_iinc (v := zI (l5_15 - 1)) (lv' := [(5, .int (zI (l5_15 - 1))), (0, .ref (ad (rowC n0.toNat))), (1, .int (zI x0)), (3, .ref (ad 26)), (4, .ref (ad 27)), (6, .int (zI l6_15)), (7, .int (zI (σ15.2.2.2 0 n0 l6_15)))]) C.1 C.2.1 dX8_reckon_83 hl (k := 4) rfl (zI_dec _ _ (by decide)) (by decide) rfl (fun ls hl => ?_)
            replace hl := lv_sub hl [1, 2, 3, 4, 0, 5, 6] rfl
            refine lv_goto (tgt := 137) C.1 C.2.1 dX8_reckon_86 (by decide) ?_
            refine lv_iinc (v := zI (l6_15 - 1)) (lv' := [(6, .int (zI (l6_15 - 1))), (0, .ref (ad (rowC n0.toNat))), (1, .int (zI x0)), (3, .ref (ad 26)), (4, .ref (ad 27)), (5, .int (zI (l5_15 - 1))), (7, .int (zI (σ15.2.2.2 0 n0 l6_15)))]) C.1 C.2.1 dX8_reckon_137 hl (k := 5) rfl (zI_dec _ _ (by decide)) (by decide) rfl (fun ls hl => ?_)
            replace hl := lv_sub hl [1, 2, 3, 4, 5, 0, 6] rfl
            refine lv_goto (tgt := 15) C.1 C.2.1 dX8_reckon_140 (by decide) ?_
            obtain ⟨g140_21, hw⟩ := hw
            obtain ⟨g140_22, hw⟩ := hw
            exact hL15 _ _ _ hw _ _ _ ⟨g140_21, g140_22, Wd, lv_sub hl [0, 1, 2, 3, 4, 5] rfl⟩
set_option maxHeartbeats 4000000 in
set_option maxRecDepth 100000 in
theorem mk_B_valueOf : ∀ (D : va_G) (ad : Nat → Nat) (ca : Nat → ClassId) (rf : Nat → Nat → Option Nat) (σ : Sg) (hS : rngK σ) (hRF : RFok ad rf) (x0 : Int) (g_x0 : 0 ≤ x0 ∧ x0 < 35) (K : Int → Sg → Prop) (hw : wp5_B_valueOf σ x0 K) (l : Launch) (sz : Nat), Met l yX5_valueOf (Cond.code yX5_valueOf cX5_valueOf 2 (some .int) :: gG) { frames := 3, cells := 0, slots := 0, locals := 124 } (cPre D (tC ca) (wK ad ca rf σ) sz [.ref (ad 25), .ref (ad (rowC x0.toNat))]) (va_Qi (fun (r : Int32) (u : Sg) => (∃ x : Int, r = zI x ∧ rng x ∧ K x u) ∧ rngK u) (fun u t => cB D (va_A (wK ad ca rf σ) sz) [] (wK ad ca rf u) t) (va_A (wK ad ca rf σ) sz)) 0 0 (va_A (wK ad ca rf σ) sz) := by
  intro D ad ca rf σ hS hRF x0 g_x0 K hw l sz
  refine Met.ofW (cc := cX5_valueOf) (maxL := 2) (ret := (some .int)) (by decide) rfl ?_
  intro p e s m args below meth c s₁ B hml hv
  obtain ⟨rfl, aks, rfl, Wd⟩ := k_enter hv
  have C : CallFix p m c cX5_valueOf 2 s _ gG RX5 := ⟨B.exec, B.bytes, hml, findClass_of_methodNamed B.named, fun w h => atoms_spec (ws := Cond.code yX5_valueOf cX5_valueOf 2 (some .int) :: gG) B.pre w (List.mem_cons_of_mem _ h)⟩
  have hr := B.returns
  have hlk := B.notSynchronized
  generalize va_A (wK ad ca rf σ) s.heap.size = A at Wd ⊢
  replace Wd : wXK D ad ca rf s σ s.heap A s.heap [] := ⟨Wd, hS, hRF⟩
  refine k_locals (Nat.le_of_ble_eq_true rfl) [(0, .ref (ad 25)), (1, .ref (ad (rowC x0.toNat)))] rfl (fun ls hl => ?_)
  unfold wp5_B_valueOf at hw
  refine lv_aload_n C.1 C.2.1 dX5_valueOf_0 rfl (lv_at hl 1 rfl) ?_
  refine lv_iconst (v := zI 0) C.1 C.2.1 dX5_valueOf_1 (by decide) ?_
  refine lv_aload_n C.1 C.2.1 dX5_valueOf_2 rfl (lv_at hl 1 rfl) ?_
  refine k_get (v := .int (zI (σ.2.2.1 0 x0))) C Wd.1 KX8 _ 1 (cxRow g_x0) (by decide) fl_X5_57 rfl dX5_valueOf_3 ?_
  refine lv_aload_n C.1 C.2.1 dX5_valueOf_6 rfl (lv_at hl 0 rfl) ?_
  refine k_get (v := .ref (ad 26)) C Wd.1 KX5 _ 2 (cx25 _) (by decide) fl_X5_9 rfl dX5_valueOf_7 ?_
  refine lv_aload_n C.1 C.2.1 dX5_valueOf_10 rfl (lv_at hl 0 rfl) ?_
  refine k_get (v := .ref (ad 27)) C Wd.1 KX5 _ 3 (cx25 _) (by decide) fl_X5_15 rfl dX5_valueOf_11 ?_
  refine k_cKv Wd (k_runVK (rest := []) C aks Wd cs_X5_62 (mk_W_reckonP D ad ca rf σ Wd.2.1 Wd.2.2 x0 0 (σ.2.2.1 0 x0) g_x0 (show rng 0 from by decide) (rgY hS (N := 35) g_x0) _ hw l _) (cxRow g_x0) rfl rfl rfl rfl ⟨(Nat.le_of_ble_eq_true rfl), (Nat.le_of_ble_eq_true rfl)⟩ hl.1 rfl rfl (Nat.le_of_ble_eq_true rfl) ⟨(Nat.le_of_ble_eq_true rfl), (Nat.le_of_ble_eq_true rfl)⟩ dX5_valueOf_14) (fun σr14 H locs hw Wd => ?_)
  have hS_σr14 := Wd.2.1
  refine lv_aload_n C.1 C.2.1 dX5_valueOf_17 rfl (lv_at hl 0 rfl) ?_
  refine k_get (v := .ref (ad 27)) C Wd.1 KX5 _ 3 (cx25 _) (by decide) fl_X5_15 rfl dX5_valueOf_18 ?_
  refine lv_iconst (v := zI 0) C.1 C.2.1 dX5_valueOf_21 (by decide) ?_
  refine k_ialdK (g := (σr14.2.1 27)) C Wd (cx27 _) (tC_at (by decide) rfl) (show (0 : Int) ≤ 0 ∧ (0 : Int) < 40 from by decide) (by decide) dX5_valueOf_22 ?_
  have ga22 : rng (σr14.2.1 27 0) := rngL (fun j => (Wd.2.1).2.1 27 j) (show (0 : Int) ≤ 0 ∧ (0 : Int) < 40 from by decide)
  exact k_retKi C hr hlk rfl Wd ⟨_, rfl, ga22, hw⟩ dX5_valueOf_23
set_option maxHeartbeats 4000000 in
set_option maxRecDepth 100000 in
theorem mk_B_tryOne : ∀ (D : va_G) (ad : Nat → Nat) (ca : Nat → ClassId) (rf : Nat → Nat → Option Nat) (σ : Sg) (hS : rngK σ) (hRF : RFok ad rf) (x0 : Int) (x1 : Int) (x2 : Int) (x3 : Int) (g_x0 : 0 ≤ x0 ∧ x0 < 12) (g_x1 : rng x1) (g_x2 : rng x2) (g_x3 : rng x3) (K : Sg → Prop) (hw : wp5_B_tryOne σ x0 x1 x2 x3 K) (l : Launch) (sz : Nat), Met l yX5_tryOne (Cond.code yX5_tryOne cX5_tryOne 5 none :: gG) { frames := 4, cells := 0, slots := 0, locals := 145 } (cPre D (tC ca) (wK ad ca rf σ) sz [.ref (ad 25), .ref (ad (ruleC x0.toNat)), .int (zI x1), .int (zI x2), .int (zI x3)]) (va_Qv (fun (u : Sg) => K u ∧ rngK u) (fun u t => cB D (va_A (wK ad ca rf σ) sz) [] (wK ad ca rf u) t) (va_A (wK ad ca rf σ) sz)) 0 0 (va_A (wK ad ca rf σ) sz) := by
  intro D ad ca rf σ hS hRF x0 x1 x2 x3 g_x0 g_x1 g_x2 g_x3 K hw l sz
  refine Met.ofW (cc := cX5_tryOne) (maxL := 5) (ret := none) (by decide) rfl ?_
  intro p e s m args below meth c s₁ B hml hv
  obtain ⟨rfl, aks, rfl, Wd⟩ := k_enter hv
  have C : CallFix p m c cX5_tryOne 5 s _ gG RX5 := ⟨B.exec, B.bytes, hml, findClass_of_methodNamed B.named, fun w h => atoms_spec (ws := Cond.code yX5_tryOne cX5_tryOne 5 none :: gG) B.pre w (List.mem_cons_of_mem _ h)⟩
  have hr := B.returns
  have hlk := B.notSynchronized
  generalize va_A (wK ad ca rf σ) s.heap.size = A at Wd ⊢
  replace Wd : wXK D ad ca rf s σ s.heap A s.heap [] := ⟨Wd, hS, hRF⟩
  refine k_locals (Nat.le_of_ble_eq_true rfl) [(0, .ref (ad 25)), (1, .ref (ad (ruleC x0.toNat))), (2, .int (zI x1)), (3, .int (zI x2)), (4, .int (zI x3))] rfl (fun ls hl => ?_)
  unfold wp5_B_tryOne at hw
  refine lv_aload_n C.1 C.2.1 dX5_tryOne_0 rfl (lv_at hl 0 rfl) ?_
  refine k_get (v := .ref (ad 26)) C Wd.1 KX5 _ 2 (cx25 _) (by decide) fl_X5_9 rfl dX5_tryOne_1 ?_
  refine lv_iconst (v := zI 0) C.1 C.2.1 dX5_tryOne_4 (by decide) ?_
  refine lv_iload_n C.1 C.2.1 dX5_tryOne_5 rfl (lv_at hl 2 rfl) ?_
  refine k_iastF (g := (σ.2.1 26)) (i := 0) (v := x1) C Wd 26 (by decide) (cx26 _) (fun f => cx26a _ f) (tC_at (by decide) rfl) (show (0 : Int) ≤ 0 ∧ (0 : Int) < 3 from by decide) (by decide) (ruZ (fun j => Wd.2.1.2.1 26 j) g_x1) dX5_tryOne_6 (fun H locs Wd => ?_)
  refine lv_aload_n C.1 C.2.1 dX5_tryOne_7 rfl (lv_at hl 0 rfl) ?_
  refine k_get (v := .ref (ad 26)) C Wd.1 KX5 _ 2 (cx25 _) (by decide) fl_X5_9 rfl dX5_tryOne_8 ?_
  refine lv_iconst (v := zI 1) C.1 C.2.1 dX5_tryOne_11 (by decide) ?_
  refine lv_iload_n C.1 C.2.1 dX5_tryOne_12 rfl (lv_at hl 3 rfl) ?_
  refine k_iastF (g := (uZ (σ.2.1 26) 0 x1)) (i := 1) (v := x2) C Wd 26 (by decide) (cx26 _) (fun f => cx26a _ f) (tC_at (by decide) rfl) (show (0 : Int) ≤ 1 ∧ (1 : Int) < 3 from by decide) (by decide) (ruZ (fun j => Wd.2.1.2.1 26 j) g_x2) dX5_tryOne_13 (fun H locs Wd => ?_)
  refine lv_aload_n C.1 C.2.1 dX5_tryOne_14 rfl (lv_at hl 0 rfl) ?_
  refine k_get (v := .ref (ad 26)) C Wd.1 KX5 _ 2 (cx25 _) (by decide) fl_X5_9 rfl dX5_tryOne_15 ?_
  refine lv_iconst (v := zI 2) C.1 C.2.1 dX5_tryOne_18 (by decide) ?_
  refine lv_iload C.1 C.2.1 dX5_tryOne_19 (lv_at hl 4 rfl) ?_
  refine k_iastF (g := (uZ (uZ (σ.2.1 26) 0 x1) 1 x2)) (i := 2) (v := x3) C Wd 26 (by decide) (cx26 _) (fun f => cx26a _ f) (tC_at (by decide) rfl) (show (0 : Int) ≤ 2 ∧ (2 : Int) < 3 from by decide) (by decide) (ruZ (fun j => Wd.2.1.2.1 26 j) g_x3) dX5_tryOne_21 (fun H locs Wd => ?_)
  refine lv_aload_n C.1 C.2.1 dX5_tryOne_22 rfl (lv_at hl 0 rfl) ?_
  refine lv_aload_n C.1 C.2.1 dX5_tryOne_23 rfl (lv_at hl 1 rfl) ?_
  have nr24 : 0 ≤ (11 + 2 * x0) ∧ (11 + 2 * x0) < 35 := by omega
  refine k_get (v := .ref (ad (rowC (11 + 2 * x0).toNat))) C Wd.1 KX9 _ 0 (cxRule g_x0) (by decide) fl_X5_46 rfl dX5_tryOne_24 ?_
  refine k_cKi Wd (k_runVK (rest := []) C aks Wd cs_X5_50 (mk_B_valueOf D ad ca rf (pF (pF (pF σ 26 (uZ (σ.2.1 26) 0 x1)) 26 (uZ (uZ (σ.2.1 26) 0 x1) 1 x2)) 26 (uZ (uZ (uZ (σ.2.1 26) 0 x1) 1 x2) 2 x3)) Wd.2.1 Wd.2.2 (11 + 2 * x0) nr24 _ hw l _) (cx25 _) rfl rfl rfl rfl ⟨(Nat.le_of_ble_eq_true rfl), (Nat.le_of_ble_eq_true rfl)⟩ hl.1 rfl rfl (Nat.le_of_ble_eq_true rfl) ⟨(Nat.le_of_ble_eq_true rfl), (Nat.le_of_ble_eq_true rfl)⟩ dX5_tryOne_27) (fun r27 σr27 H locs g_r27 hw Wd => ?_)
  have hS_σr27 := Wd.2.1
  refine lv_aload_n C.1 C.2.1 dX5_tryOne_30 rfl (lv_at hl 0 rfl) ?_
  refine lv_aload_n C.1 C.2.1 dX5_tryOne_31 rfl (lv_at hl 1 rfl) ?_
  have nr32 : 0 ≤ (12 + 2 * x0) ∧ (12 + 2 * x0) < 35 := by omega
  refine k_get (v := .ref (ad (rowC (12 + 2 * x0).toNat))) C Wd.1 KX9 _ 1 (cxRule g_x0) (by decide) fl_X5_54 rfl dX5_tryOne_32 ?_
  refine k_cKi Wd (k_runVK (rest := [.int (zI r27)]) C aks Wd cs_X5_50 (mk_B_valueOf D ad ca rf σr27 Wd.2.1 Wd.2.2 (12 + 2 * x0) nr32 _ hw l _) (cx25 _) rfl rfl rfl rfl ⟨(Nat.le_of_ble_eq_true rfl), (Nat.le_of_ble_eq_true rfl)⟩ hl.1 rfl rfl (Nat.le_of_ble_eq_true rfl) ⟨(Nat.le_of_ble_eq_true rfl), (Nat.le_of_ble_eq_true rfl)⟩ dX5_tryOne_35) (fun r35 σr35 H locs g_r35 hw Wd => ?_)
  have hS_σr35 := Wd.2.1
  refine lv_icmp_ne (tgt := 42) C.1 C.2.1 dX5_tryOne_38 (by decide) (fun c38 => ?_) (fun c38 => ?_)
  · have hw := hw.1 (z_ne g_r27 g_r35 c38)
    refine lv_aload_n C.1 C.2.1 dX5_tryOne_42 rfl (lv_at hl 0 rfl) ?_
    refine k_get (v := .int (zI (σr35.1 25 1))) C Wd.1 KX5 _ 1 (cx25 _) (by decide) fl_X5_33 rfl dX5_tryOne_43 ?_
    refine lv_if_ne (tgt := 65) C.1 C.2.1 dX5_tryOne_46 (by decide) (fun c46 => ?_) (fun c46 => ?_)
    · have hw := hw.1 (z0_ne (hS_σr35.1 25 1) c46)
      refine lv_aload_n C.1 C.2.1 dX5_tryOne_65 rfl (lv_at hl 0 rfl) ?_
      refine lv_dup C.1 C.2.1 dX5_tryOne_66 rfl ?_
      refine k_get (v := .int (zI (σr35.1 25 1))) C Wd.1 KX5 _ 1 (cx25 _) (by decide) fl_X5_33 rfl dX5_tryOne_67 ?_
      refine lv_iconst (v := zI 1) C.1 C.2.1 dX5_tryOne_70 (by decide) ?_
      refine k_iadd (v := zI ((σr35.1 25 1) + 1)) C (zI_iadd _ _) dX5_tryOne_71 ?_
      obtain ⟨g72_3, hw⟩ := hw
      refine k_putK (v := ((σr35.1 25 1) + 1)) C Wd KX5 25 1 (by decide) (cx25 _) rfl (by decide) fl_X5_33 rfl rfl rfl (Nat.le_of_ble_eq_true rfl) g72_3 dX5_tryOne_72 (fun H locs Wd => ?_)
      exact k_retKv C hr hlk Wd hw dX5_tryOne_75
    · have hw := hw.2 (z0_eq (hS_σr35.1 25 1) c46)
      refine lv_aload_n C.1 C.2.1 dX5_tryOne_49 rfl (lv_at hl 0 rfl) ?_
      refine lv_iload_n C.1 C.2.1 dX5_tryOne_50 rfl (lv_at hl 2 rfl) ?_
      refine lv_bipush (v := zI 16) C.1 C.2.1 dX5_tryOne_51 (by decide) ?_
      refine k_imul (v := zI (x1 * 16)) C (zI_imul _ _) dX5_tryOne_53 ?_
      refine lv_iload_n C.1 C.2.1 dX5_tryOne_54 rfl (lv_at hl 3 rfl) ?_
      refine k_iadd (v := zI ((x1 * 16) + x2)) C (zI_iadd _ _) dX5_tryOne_55 ?_
      refine lv_bipush (v := zI 16) C.1 C.2.1 dX5_tryOne_56 (by decide) ?_
      refine k_imul (v := zI (((x1 * 16) + x2) * 16)) C (zI_imul _ _) dX5_tryOne_58 ?_
      refine lv_iload C.1 C.2.1 dX5_tryOne_59 (lv_at hl 4 rfl) ?_
      refine k_iadd (v := zI ((((x1 * 16) + x2) * 16) + x3)) C (zI_iadd _ _) dX5_tryOne_61 ?_
      obtain ⟨g62_4, hw⟩ := hw
      refine k_putK (v := ((((x1 * 16) + x2) * 16) + x3)) C Wd KX5 25 0 (by decide) (cx25 _) rfl (by decide) fl_X5_29 rfl rfl rfl (Nat.le_of_ble_eq_true rfl) g62_4 dX5_tryOne_62 (fun H locs Wd => ?_)
      refine lv_aload_n C.1 C.2.1 dX5_tryOne_65 rfl (lv_at hl 0 rfl) ?_
      refine lv_dup C.1 C.2.1 dX5_tryOne_66 rfl ?_
      refine k_get (v := .int (zI (σr35.1 25 1))) C Wd.1 KX5 _ 1 (cx25 _) (by decide) fl_X5_33 rfl dX5_tryOne_67 ?_
      refine lv_iconst (v := zI 1) C.1 C.2.1 dX5_tryOne_70 (by decide) ?_
      refine k_iadd (v := zI ((σr35.1 25 1) + 1)) C (zI_iadd _ _) dX5_tryOne_71 ?_
      obtain ⟨g72_5, hw⟩ := hw
      refine k_putK (v := ((σr35.1 25 1) + 1)) C Wd KX5 25 1 (by decide) (cx25 _) rfl (by decide) fl_X5_33 rfl rfl rfl (Nat.le_of_ble_eq_true rfl) g72_5 dX5_tryOne_72 (fun H locs Wd => ?_)
      exact k_retKv C hr hlk Wd hw dX5_tryOne_75
  · have hw := hw.2 (z_eq g_r27 g_r35 c38)
    exact k_retKv C hr hlk Wd hw dX5_tryOne_41
