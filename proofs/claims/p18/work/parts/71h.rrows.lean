set_option maxHeartbeats 4000000 in
set_option maxRecDepth 100000 in
theorem mt_clashAll : ∀ (D : va_G) (h : Nat) (ad : Nat → Nat) (ca : Nat → ClassId) (I : Nat → Int) (F : Nat → Int → Int) (hS : rngS I F) (x0 : Int) (g_x0 : rng x0) (K : (Int → Int) → Prop) (hw : wp_clashAll (F 54) x0 K) (l : Launch) (sz : Nat), Met l yX12_clashAll (Cond.code yX12_clashAll cX12_clashAll 3 none :: gG) { frames := 1, cells := 0, slots := 0, locals := 64 } (cPre D (tM ca) (wM h ad ca I F) sz [.ref h, .int (zI x0)]) (va_Qv (fun (u : (Int → Int)) => K u ∧ rngS I (sF F 54 u)) (fun u t => cB D (va_A (wM h ad ca I F) sz) [] (wM h ad ca I (sF F 54 u)) t) (va_A (wM h ad ca I F) sz)) 0 0 (va_A (wM h ad ca I F) sz) := by
  intro D h ad ca I F hS x0 g_x0 K hw l sz
  refine Met.ofW (cc := cX12_clashAll) (maxL := 3) (ret := none) (by decide) rfl ?_
  intro p e s m args below meth c s₁ B hml hv
  obtain ⟨rfl, aks, rfl, Wd⟩ := k_enter hv
  have C : CallFix p m c cX12_clashAll 3 s _ gG RX12 := ⟨B.exec, B.bytes, hml, findClass_of_methodNamed B.named, fun w h => atoms_spec (ws := Cond.code yX12_clashAll cX12_clashAll 3 none :: gG) B.pre w (List.mem_cons_of_mem _ h)⟩
  have hr := B.returns
  have hlk := B.notSynchronized
  generalize va_A (wM h ad ca I F) s.heap.size = A at Wd ⊢
  replace Wd : wXM D ca s h ad I F s.heap A s.heap [] := ⟨Wd, hS⟩
  refine k_locals (Nat.le_of_ble_eq_true rfl) [(0, .ref h), (1, .int (zI x0))] rfl (fun ls hl => ?_)
  unfold wp_clashAll at hw
  refine lv_iconst (v := zI 0) C.1 C.2.1 dX12_clashAll_0 (by decide) ?_
  refine lv_istore_n (lv' := [(2, .int (zI 0)), (0, .ref h), (1, .int (zI x0))]) C.1 C.2.1 dX12_clashAll_1 rfl hl (by decide) rfl (fun ls hl => ?_)
  replace hl := lv_sub hl [1, 2, 0] rfl
  refine k_lp2 hw (fun (l2_2 : Int) (clashes_2 : Int → Int) H locs ls => rng l2_2 ∧ wXM D ca s h ad I (sF F 54 clashes_2) H A s.heap locs ∧ lv_has ls 3 [(0, .ref h), (1, .int (zI x0)), (2, .int (zI l2_2))]) (fun (l2_2 : Int) (clashes_2 : Int → Int) ls => F0 m 2 ls []) (fun L2 hL2 l2_2 clashes_2 hw H locs ls hi => ?_) _ _ _ ⟨(show rng 0 from by decide), wMc Wd rfl rfl ⟨hS.1, (rsF hS.2 (hS.2 54))⟩, lv_sub hl [0, 1, 2] rfl⟩
  obtain ⟨g_l2_2, Wd, hl⟩ := hi
  have Wd2 := Wd
  unfold wp_clashAll_2 at hw
  refine lv_iload_n C.1 C.2.1 dX12_clashAll_2 rfl (lv_at hl 2 rfl) ?_
  refine lv_bipush (v := zI 6) C.1 C.2.1 dX12_clashAll_3 (by decide) ?_
  refine lv_icmp_ge (tgt := 39) C.1 C.2.1 dX12_clashAll_5 (by decide) (fun c5 => ?_) (fun c5 => ?_)
  · have hw := hw.1 (z_le (show rng 6 from by decide) g_l2_2 c5)
    exact k_retMv C hr hlk Wd (u := clashes_2) rfl rfl ⟨hw, ⟨hS.1, (rsF hS.2 (fun j => Wd2.2.2 54 j))⟩⟩ dX12_clashAll_39
  · have hw := hw.2 (z_nle (show rng 6 from by decide) g_l2_2 c5)
    refine lv_iload_n C.1 C.2.1 dX12_clashAll_8 rfl (lv_at hl 1 rfl) ?_
    refine lv_iload_n C.1 C.2.1 dX12_clashAll_9 rfl (lv_at hl 2 rfl) ?_
    refine k_ishr (v := zI (zishr x0 l2_2)) C (zishr_eq _ _) dX12_clashAll_10 ?_
    refine lv_iconst (v := zI 1) C.1 C.2.1 dX12_clashAll_11 (by decide) ?_
    refine k_iand (v := zI (ziand (zishr x0 l2_2) 1)) C (ziand_eq _ _) dX12_clashAll_12 ?_
    refine lv_iconst (v := zI 1) C.1 C.2.1 dX12_clashAll_13 (by decide) ?_
    refine lv_icmp_ne (tgt := 33) C.1 C.2.1 dX12_clashAll_14 (by decide) (fun c14 => ?_) (fun c14 => ?_)
    · have hw := hw.1 (z_ne (rng_toInt _) (show rng 1 from by decide) c14)
      refine lv_iinc (v := zI (l2_2 + 1)) (lv' := [(2, .int (zI (l2_2 + 1))), (0, .ref h), (1, .int (zI x0))]) C.1 C.2.1 dX12_clashAll_33 hl (k := 2) rfl (zI_inc _ _ (by decide)) (by decide) rfl (fun ls hl => ?_)
      replace hl := lv_sub hl [1, 2, 0] rfl
      refine lv_goto (tgt := 2) C.1 C.2.1 dX12_clashAll_36 (by decide) ?_
      obtain ⟨g36_0, hw⟩ := hw
      exact hL2 _ _ hw _ _ _ ⟨g36_0, wMc Wd rfl rfl ⟨hS.1, (rsF hS.2 (fun j => Wd2.2.2 54 j))⟩, lv_sub hl [0, 1, 2] rfl⟩
    · have hw := hw.2 (z_eq (rng_toInt _) (show rng 1 from by decide) c14)
      refine lv_aload_n C.1 C.2.1 dX12_clashAll_17 rfl (lv_at hl 0 rfl) ?_
      refine k_get (v := .ref (ad 54)) C Wd.1 KX12 0 54 wM0 (by decide) fl_X12_84 rfl dX12_clashAll_18 ?_
      refine lv_iload_n C.1 C.2.1 dX12_clashAll_21 rfl (lv_at hl 2 rfl) ?_
      refine lv_dup2_11 C.1 C.2.1 dX12_clashAll_22 rfl rfl ?_
      obtain ⟨a23, hw⟩ := hw
      refine k_ialdM (g := clashes_2) C Wd 24 23 rfl rfl a23 (by decide) dX12_clashAll_23 ?_
      have g23 : rng (clashes_2 l2_2) := rngL (fun j => Wd2.2.2 54 j) a23
      refine lv_iload_n C.1 C.2.1 dX12_clashAll_24 rfl (lv_at hl 1 rfl) ?_
      refine lv_iconst (v := zI 1) C.1 C.2.1 dX12_clashAll_25 (by decide) ?_
      refine lv_iload_n C.1 C.2.1 dX12_clashAll_26 rfl (lv_at hl 2 rfl) ?_
      refine k_ishl (v := zI (zishl 1 l2_2)) C (zishl_eq _ _) dX12_clashAll_27 ?_
      refine lv_iconst (v := zI (-1)) C.1 C.2.1 dX12_clashAll_28 (by decide) ?_
      refine k_ixor (v := zI (zixor (zishl 1 l2_2) (-1))) C (zixor_eq _ _) dX12_clashAll_29 ?_
      refine k_iand (v := zI (ziand x0 (zixor (zishl 1 l2_2) (-1)))) C (ziand_eq _ _) dX12_clashAll_30 ?_
      refine k_ior (v := zI (zior (clashes_2 l2_2) (ziand x0 (zixor (zishl 1 l2_2) (-1))))) C (zior_eq _ _) dX12_clashAll_31 ?_
      obtain ⟨a32, hw⟩ := hw
      have q32 : ∀ j : Nat, rng ((uZ clashes_2 l2_2 (zior (clashes_2 l2_2) (ziand x0 (zixor (zishl 1 l2_2) (-1))))) j) := ruZ (fun j => Wd2.2.2 54 j) (rng_toInt _)
      refine k_iastM (g := clashes_2) C Wd 23 23 (sF F 54 (uZ clashes_2 l2_2 (zior (clashes_2 l2_2) (ziand x0 (zixor (zishl 1 l2_2) (-1)))))) rfl rfl a32 (by decide) rfl rfl (rsF hS.2 q32) dX12_clashAll_32 (fun H locs Wd => ?_)
      refine lv_iinc (v := zI (l2_2 + 1)) (lv' := [(2, .int (zI (l2_2 + 1))), (0, .ref h), (1, .int (zI x0))]) C.1 C.2.1 dX12_clashAll_33 hl (k := 2) rfl (zI_inc _ _ (by decide)) (by decide) rfl (fun ls hl => ?_)
      replace hl := lv_sub hl [1, 2, 0] rfl
      refine lv_goto (tgt := 2) C.1 C.2.1 dX12_clashAll_36 (by decide) ?_
      obtain ⟨g36_0, hw⟩ := hw
      exact hL2 _ _ hw _ _ _ ⟨g36_0, wMc Wd rfl rfl ⟨hS.1, (rsF hS.2 q32)⟩, lv_sub hl [0, 1, 2] rfl⟩
set_option maxHeartbeats 4000000 in
set_option maxRecDepth 100000 in
theorem mt_clashSet : ∀ (D : va_G) (h : Nat) (ad : Nat → Nat) (ca : Nat → ClassId) (I : Nat → Int) (F : Nat → Int → Int) (hS : rngS I F) (x0 : Int) (x1 : Int) (g_x0 : rng x0) (g_x1 : rng x1) (K : (Int → Int) → Prop) (hw : wp_clashSet (F 54) x0 x1 K) (l : Launch) (sz : Nat), Met l yX12_clashSet (Cond.code yX12_clashSet cX12_clashSet 4 none :: gG) { frames := 1, cells := 0, slots := 0, locals := 64 } (cPre D (tM ca) (wM h ad ca I F) sz [.ref h, .int (zI x0), .int (zI x1)]) (va_Qv (fun (u : (Int → Int)) => K u ∧ rngS I (sF F 54 u)) (fun u t => cB D (va_A (wM h ad ca I F) sz) [] (wM h ad ca I (sF F 54 u)) t) (va_A (wM h ad ca I F) sz)) 0 0 (va_A (wM h ad ca I F) sz) := by
  intro D h ad ca I F hS x0 x1 g_x0 g_x1 K hw l sz
  refine Met.ofW (cc := cX12_clashSet) (maxL := 4) (ret := none) (by decide) rfl ?_
  intro p e s m args below meth c s₁ B hml hv
  obtain ⟨rfl, aks, rfl, Wd⟩ := k_enter hv
  have C : CallFix p m c cX12_clashSet 4 s _ gG RX12 := ⟨B.exec, B.bytes, hml, findClass_of_methodNamed B.named, fun w h => atoms_spec (ws := Cond.code yX12_clashSet cX12_clashSet 4 none :: gG) B.pre w (List.mem_cons_of_mem _ h)⟩
  have hr := B.returns
  have hlk := B.notSynchronized
  generalize va_A (wM h ad ca I F) s.heap.size = A at Wd ⊢
  replace Wd : wXM D ca s h ad I F s.heap A s.heap [] := ⟨Wd, hS⟩
  refine k_locals (Nat.le_of_ble_eq_true rfl) [(0, .ref h), (1, .int (zI x0)), (2, .int (zI x1))] rfl (fun ls hl => ?_)
  unfold wp_clashSet at hw
  refine lv_aload_n C.1 C.2.1 dX12_clashSet_0 rfl (lv_at hl 0 rfl) ?_
  refine k_get (v := .ref (ad 54)) C Wd.1 KX12 0 54 wM0 (by decide) fl_X12_84 rfl dX12_clashSet_1 ?_
  refine lv_iload_n C.1 C.2.1 dX12_clashSet_4 rfl (lv_at hl 1 rfl) ?_
  refine lv_dup2_11 C.1 C.2.1 dX12_clashSet_5 rfl rfl ?_
  obtain ⟨a6, hw⟩ := hw
  refine k_ialdM (g := (F 54)) C Wd 24 23 rfl rfl a6 (by decide) dX12_clashSet_6 ?_
  have g6 : rng ((F 54) x0) := rngL (hS.2 54) a6
  refine lv_iload_n C.1 C.2.1 dX12_clashSet_7 rfl (lv_at hl 2 rfl) ?_
  refine lv_iconst (v := zI 1) C.1 C.2.1 dX12_clashSet_8 (by decide) ?_
  refine lv_iload_n C.1 C.2.1 dX12_clashSet_9 rfl (lv_at hl 1 rfl) ?_
  refine k_ishl (v := zI (zishl 1 x0)) C (zishl_eq _ _) dX12_clashSet_10 ?_
  refine lv_iconst (v := zI (-1)) C.1 C.2.1 dX12_clashSet_11 (by decide) ?_
  refine k_ixor (v := zI (zixor (zishl 1 x0) (-1))) C (zixor_eq _ _) dX12_clashSet_12 ?_
  refine k_iand (v := zI (ziand x1 (zixor (zishl 1 x0) (-1)))) C (ziand_eq _ _) dX12_clashSet_13 ?_
  refine k_ior (v := zI (zior ((F 54) x0) (ziand x1 (zixor (zishl 1 x0) (-1))))) C (zior_eq _ _) dX12_clashSet_14 ?_
  obtain ⟨a15, hw⟩ := hw
  have q15 : ∀ j : Nat, rng ((uZ (F 54) x0 (zior ((F 54) x0) (ziand x1 (zixor (zishl 1 x0) (-1))))) j) := ruZ (hS.2 54) (rng_toInt _)
  refine k_iastM (g := (F 54)) C Wd 23 23 (sF F 54 (uZ (F 54) x0 (zior ((F 54) x0) (ziand x1 (zixor (zishl 1 x0) (-1)))))) rfl rfl a15 (by decide) rfl rfl (rsF hS.2 q15) dX12_clashSet_15 (fun H locs Wd => ?_)
  refine lv_iconst (v := zI 0) C.1 C.2.1 dX12_clashSet_16 (by decide) ?_
  refine lv_istore_n (lv' := [(3, .int (zI 0)), (0, .ref h), (1, .int (zI x0)), (2, .int (zI x1))]) C.1 C.2.1 dX12_clashSet_17 rfl hl (by decide) rfl (fun ls hl => ?_)
  replace hl := lv_sub hl [1, 2, 3, 0] rfl
  refine k_lp2 hw (fun (l3_18 : Int) (clashes_18 : Int → Int) H locs ls => rng l3_18 ∧ wXM D ca s h ad I (sF F 54 clashes_18) H A s.heap locs ∧ lv_has ls 4 [(0, .ref h), (1, .int (zI x0)), (2, .int (zI x1)), (3, .int (zI l3_18))]) (fun (l3_18 : Int) (clashes_18 : Int → Int) ls => F0 m 18 ls []) (fun L18 hL18 l3_18 clashes_18 hw H locs ls hi => ?_) _ _ _ ⟨(show rng 0 from by decide), wMc Wd rfl rfl ⟨hS.1, (rsF hS.2 q15)⟩, lv_sub hl [0, 1, 2, 3] rfl⟩
  obtain ⟨g_l3_18, Wd, hl⟩ := hi
  have Wd18 := Wd
  unfold wp_clashSet_18 at hw
  refine lv_iload_n C.1 C.2.1 dX12_clashSet_18 rfl (lv_at hl 3 rfl) ?_
  refine lv_bipush (v := zI 6) C.1 C.2.1 dX12_clashSet_19 (by decide) ?_
  refine lv_icmp_ge (tgt := 56) C.1 C.2.1 dX12_clashSet_21 (by decide) (fun c21 => ?_) (fun c21 => ?_)
  · have hw := hw.1 (z_le (show rng 6 from by decide) g_l3_18 c21)
    exact k_retMv C hr hlk Wd (u := clashes_18) rfl rfl ⟨hw, ⟨hS.1, (rsF hS.2 (fun j => Wd18.2.2 54 j))⟩⟩ dX12_clashSet_56
  · have hw := hw.2 (z_nle (show rng 6 from by decide) g_l3_18 c21)
    refine lv_iload_n C.1 C.2.1 dX12_clashSet_24 rfl (lv_at hl 3 rfl) ?_
    refine lv_iload_n C.1 C.2.1 dX12_clashSet_25 rfl (lv_at hl 1 rfl) ?_
    refine lv_icmp_eq (tgt := 50) C.1 C.2.1 dX12_clashSet_26 (by decide) (fun c26 => ?_) (fun c26 => ?_)
    · have hw := hw.1 (z_eq g_l3_18 g_x0 c26)
      refine lv_iinc (v := zI (l3_18 + 1)) (lv' := [(3, .int (zI (l3_18 + 1))), (0, .ref h), (1, .int (zI x0)), (2, .int (zI x1))]) C.1 C.2.1 dX12_clashSet_50 hl (k := 3) rfl (zI_inc _ _ (by decide)) (by decide) rfl (fun ls hl => ?_)
      replace hl := lv_sub hl [1, 2, 3, 0] rfl
      refine lv_goto (tgt := 18) C.1 C.2.1 dX12_clashSet_53 (by decide) ?_
      obtain ⟨g53_0, hw⟩ := hw
      exact hL18 _ _ hw _ _ _ ⟨g53_0, wMc Wd rfl rfl ⟨hS.1, (rsF hS.2 (fun j => Wd18.2.2 54 j))⟩, lv_sub hl [0, 1, 2, 3] rfl⟩
    · have hw := hw.2 (z_ne g_l3_18 g_x0 c26)
      refine lv_iload_n C.1 C.2.1 dX12_clashSet_29 rfl (lv_at hl 2 rfl) ?_
      refine lv_iload_n C.1 C.2.1 dX12_clashSet_30 rfl (lv_at hl 3 rfl) ?_
      refine k_ishr (v := zI (zishr x1 l3_18)) C (zishr_eq _ _) dX12_clashSet_31 ?_
      refine lv_iconst (v := zI 1) C.1 C.2.1 dX12_clashSet_32 (by decide) ?_
      refine k_iand (v := zI (ziand (zishr x1 l3_18) 1)) C (ziand_eq _ _) dX12_clashSet_33 ?_
      refine lv_iconst (v := zI 1) C.1 C.2.1 dX12_clashSet_34 (by decide) ?_
      refine lv_icmp_ne (tgt := 50) C.1 C.2.1 dX12_clashSet_35 (by decide) (fun c35 => ?_) (fun c35 => ?_)
      · have hw := hw.1 (z_ne (rng_toInt _) (show rng 1 from by decide) c35)
        refine lv_iinc (v := zI (l3_18 + 1)) (lv' := [(3, .int (zI (l3_18 + 1))), (0, .ref h), (1, .int (zI x0)), (2, .int (zI x1))]) C.1 C.2.1 dX12_clashSet_50 hl (k := 3) rfl (zI_inc _ _ (by decide)) (by decide) rfl (fun ls hl => ?_)
        replace hl := lv_sub hl [1, 2, 3, 0] rfl
        refine lv_goto (tgt := 18) C.1 C.2.1 dX12_clashSet_53 (by decide) ?_
        obtain ⟨g53_0, hw⟩ := hw
        exact hL18 _ _ hw _ _ _ ⟨g53_0, wMc Wd rfl rfl ⟨hS.1, (rsF hS.2 (fun j => Wd18.2.2 54 j))⟩, lv_sub hl [0, 1, 2, 3] rfl⟩
      · have hw := hw.2 (z_eq (rng_toInt _) (show rng 1 from by decide) c35)
        refine lv_aload_n C.1 C.2.1 dX12_clashSet_38 rfl (lv_at hl 0 rfl) ?_
        refine k_get (v := .ref (ad 54)) C Wd.1 KX12 0 54 wM0 (by decide) fl_X12_84 rfl dX12_clashSet_39 ?_
        refine lv_iload_n C.1 C.2.1 dX12_clashSet_42 rfl (lv_at hl 3 rfl) ?_
        refine lv_dup2_11 C.1 C.2.1 dX12_clashSet_43 rfl rfl ?_
        obtain ⟨a44, hw⟩ := hw
        refine k_ialdM (g := clashes_18) C Wd 24 23 rfl rfl a44 (by decide) dX12_clashSet_44 ?_
        have g44 : rng (clashes_18 l3_18) := rngL (fun j => Wd18.2.2 54 j) a44
        refine lv_iconst (v := zI 1) C.1 C.2.1 dX12_clashSet_45 (by decide) ?_
        refine lv_iload_n C.1 C.2.1 dX12_clashSet_46 rfl (lv_at hl 1 rfl) ?_
        refine k_ishl (v := zI (zishl 1 x0)) C (zishl_eq _ _) dX12_clashSet_47 ?_
        refine k_ior (v := zI (zior (clashes_18 l3_18) (zishl 1 x0))) C (zior_eq _ _) dX12_clashSet_48 ?_
        obtain ⟨a49, hw⟩ := hw
        have q49 : ∀ j : Nat, rng ((uZ clashes_18 l3_18 (zior (clashes_18 l3_18) (zishl 1 x0))) j) := ruZ (fun j => Wd18.2.2 54 j) (rng_toInt _)
        refine k_iastM (g := clashes_18) C Wd 23 23 (sF F 54 (uZ clashes_18 l3_18 (zior (clashes_18 l3_18) (zishl 1 x0)))) rfl rfl a49 (by decide) rfl rfl (rsF hS.2 q49) dX12_clashSet_49 (fun H locs Wd => ?_)
        refine lv_iinc (v := zI (l3_18 + 1)) (lv' := [(3, .int (zI (l3_18 + 1))), (0, .ref h), (1, .int (zI x0)), (2, .int (zI x1))]) C.1 C.2.1 dX12_clashSet_50 hl (k := 3) rfl (zI_inc _ _ (by decide)) (by decide) rfl (fun ls hl => ?_)
        replace hl := lv_sub hl [1, 2, 3, 0] rfl
        refine lv_goto (tgt := 18) C.1 C.2.1 dX12_clashSet_53 (by decide) ?_
        obtain ⟨g53_0, hw⟩ := hw
        exact hL18 _ _ hw _ _ _ ⟨g53_0, wMc Wd rfl rfl ⟨hS.1, (rsF hS.2 q49)⟩, lv_sub hl [0, 1, 2, 3] rfl⟩
set_option maxHeartbeats 4000000 in
set_option maxRecDepth 100000 in
theorem mg_clashFrom (n : Nat) : (∀ (D : va_G) (h : Nat) (ad : Nat → Nat) (ca : Nat → ClassId) (I : Nat → Int) (F : Nat → Int → Int) (hS : rngS I F) (x0 : Int) (x1 : Int) (g_x0 : rng x0) (g_x1 : rng x1) (K : (Int → Int) → Prop) (hw : wp_clashFrom n (F 2) (I 4) (F 54) x0 x1 K) (l : Launch) (sz : Nat), Met l yX12_clashFrom (Cond.code yX12_clashFrom cX12_clashFrom 7 none :: gG) { frames := 711 + n, cells := 0, slots := 0, locals := 15658 + 26 * n } (cPre D (tM ca) (wM h ad ca I F) sz [.ref h, .int (zI x0), .int (zI x1)]) (va_Qv (fun (u : (Int → Int)) => K u ∧ rngS I (sF F 54 u)) (fun u t => cB D (va_A (wM h ad ca I F) sz) [] (wM h ad ca I (sF F 54 u)) t) (va_A (wM h ad ca I F) sz)) 0 0 (va_A (wM h ad ca I F) sz)) := by
  induction n with
  | zero => exact (fun _ _ _ _ _ _ _ _ _ _ _ _ hw => absurd hw id)
  | succ n ih =>
    have ih_clashFrom := ih
    intro D h ad ca I F hS x0 x1 g_x0 g_x1 K hw l sz
    refine Met.ofW (cc := cX12_clashFrom) (maxL := 7) (ret := none) (by decide) rfl ?_
    intro p e s m args below meth c s₁ B hml hv
    obtain ⟨rfl, aks, rfl, Wd⟩ := k_enter hv
    have C : CallFix p m c cX12_clashFrom 7 s _ gG RX12 := ⟨B.exec, B.bytes, hml, findClass_of_methodNamed B.named, fun w h => atoms_spec (ws := Cond.code yX12_clashFrom cX12_clashFrom 7 none :: gG) B.pre w (List.mem_cons_of_mem _ h)⟩
    have hr := B.returns
    have hlk := B.notSynchronized
    generalize va_A (wM h ad ca I F) s.heap.size = A at Wd ⊢
    replace Wd : wXM D ca s h ad I F s.heap A s.heap [] := ⟨Wd, hS⟩
    refine k_locals (Nat.le_of_ble_eq_true rfl) [(0, .ref h), (1, .int (zI x0)), (2, .int (zI x1))] rfl (fun ls hl => ?_)
    replace hw : wp_clashFrom_b (wp_clashFrom n) (F 2) (I 4) (F 54) x0 x1 K := hw
    unfold wp_clashFrom_b at hw
    refine lv_iload_n C.1 C.2.1 dX12_clashFrom_0 rfl (lv_at hl 1 rfl) ?_
    refine lv_istore_n (lv' := [(3, .int (zI x0)), (0, .ref h), (1, .int (zI x0)), (2, .int (zI x1))]) C.1 C.2.1 dX12_clashFrom_1 rfl hl (by decide) rfl (fun ls hl => ?_)
    replace hl := lv_sub hl [1, 2, 3, 0] rfl
    refine k_lp2 hw (fun (l3_2 : Int) (clashes_2 : Int → Int) H locs ls => rng l3_2 ∧ wXM D ca s h ad I (sF F 54 clashes_2) H A s.heap locs ∧ lv_has ls 7 [(0, .ref h), (2, .int (zI x1)), (3, .int (zI l3_2))]) (fun (l3_2 : Int) (clashes_2 : Int → Int) ls => F0 m 2 ls []) (fun L2 hL2 l3_2 clashes_2 hw H locs ls hi => ?_) _ _ _ ⟨g_x0, wMc Wd rfl rfl ⟨hS.1, (rsF hS.2 (hS.2 54))⟩, lv_sub hl [0, 2, 3] rfl⟩
    obtain ⟨g_l3_2, Wd, hl⟩ := hi
    have Wd2 := Wd
    unfold wp_clashFrom_2 at hw
    refine lv_aload_n C.1 C.2.1 dX12_clashFrom_2 rfl (lv_at hl 0 rfl) ?_
    refine lv_iload_n C.1 C.2.1 dX12_clashFrom_3 rfl (lv_at hl 2 rfl) ?_
    refine k_pi (k_runVM (rest := []) C aks Wd cs_X12_107 (mt_isLast D h ad ca I (sF F 54 clashes_2) Wd.2 l3_2 g_l3_2 _ hw l _) rfl rfl ⟨(by show 1 + 1 ≤ 711 + (n + 1); omega), (by show 8 + (2 + 11) + (64) ≤ 15658 + 26 * (n + 1); omega)⟩ hl.1 rfl rfl (Nat.le_of_ble_eq_true rfl) ⟨(Nat.le_of_ble_eq_true rfl), (Nat.le_of_ble_eq_true rfl)⟩ dX12_clashFrom_4) (fun y4 hy => ?_)
    obtain ⟨r4, rfl, g_r4, hw⟩ := hy
    refine lv_if_ne (tgt := 150) C.1 C.2.1 dX12_clashFrom_7 (by decide) (fun c7 => ?_) (fun c7 => ?_)
    · have hw := hw.1 (z0_ne g_r4 c7)
      exact k_retMv C hr hlk Wd (u := clashes_2) rfl rfl ⟨hw, ⟨hS.1, (rsF hS.2 (fun j => Wd2.2.2 54 j))⟩⟩ dX12_clashFrom_150
    · have hw := hw.2 (z0_eq g_r4 c7)
      refine lv_aload_n C.1 C.2.1 dX12_clashFrom_10 rfl (lv_at hl 0 rfl) ?_
      refine lv_aload_n C.1 C.2.1 dX12_clashFrom_11 rfl (lv_at hl 0 rfl) ?_
      refine lv_iload_n C.1 C.2.1 dX12_clashFrom_12 rfl (lv_at hl 2 rfl) ?_
      refine k_pi (k_runVM (rest := [.ref h]) C aks Wd cs_X12_104 (mt_behind D h ad ca I (sF F 54 clashes_2) Wd.2 l3_2 g_l3_2 _ hw l _) rfl rfl ⟨(by show 606 + 1 ≤ 711 + (n + 1); omega), (by show 8 + (3 + 11) + (12908) ≤ 15658 + 26 * (n + 1); omega)⟩ hl.1 rfl rfl (Nat.le_of_ble_eq_true rfl) ⟨(Nat.le_of_ble_eq_true rfl), (Nat.le_of_ble_eq_true rfl)⟩ dX12_clashFrom_13) (fun y13 hy => ?_)
      obtain ⟨r13, rfl, g_r13, hw⟩ := hy
      refine lv_iload_n C.1 C.2.1 dX12_clashFrom_16 rfl (lv_at hl 1 rfl) ?_
      refine k_pi (k_runVM (rest := []) C aks Wd cs_X12_277 (mt_liveFrom D h ad ca I (sF F 54 clashes_2) Wd.2 r13 x1 g_r13 g_x1 _ hw l _) rfl rfl ⟨(by show 709 + 1 ≤ 711 + (n + 1); omega), (by show 8 + (3 + 11) + (15592) ≤ 15658 + 26 * (n + 1); omega)⟩ hl.1 rfl rfl (Nat.le_of_ble_eq_true rfl) ⟨(Nat.le_of_ble_eq_true rfl), (Nat.le_of_ble_eq_true rfl)⟩ dX12_clashFrom_17) (fun y17 hy => ?_)
      obtain ⟨r17, rfl, g_r17, hw⟩ := hy
      refine lv_istore (lv' := [(4, .int (zI r17)), (0, .ref h), (2, .int (zI x1)), (3, .int (zI l3_2))]) C.1 C.2.1 dX12_clashFrom_20 hl (by decide) rfl (fun ls hl => ?_)
      replace hl := lv_sub hl [1, 2, 3, 0] rfl
      refine lv_aload_n C.1 C.2.1 dX12_clashFrom_22 rfl (lv_at hl 0 rfl) ?_
      refine k_get (v := .ref (ad 2)) C Wd.1 KX12 0 2 wM0 (by decide) fl_X12_16 rfl dX12_clashFrom_23 ?_
      refine lv_iload_n C.1 C.2.1 dX12_clashFrom_26 rfl (lv_at hl 2 rfl) ?_
      obtain ⟨a27, hw⟩ := hw
      refine k_ialdM (g := (F 2)) C Wd 3 2 rfl rfl a27 (by decide) dX12_clashFrom_27 ?_
      have g27 : rng ((F 2) l3_2) := rngL (hS.2 2) a27
      refine lv_istore (lv' := [(5, .int (zI ((F 2) l3_2))), (0, .ref h), (2, .int (zI x1)), (3, .int (zI l3_2)), (4, .int (zI r17))]) C.1 C.2.1 dX12_clashFrom_28 hl (by decide) rfl (fun ls hl => ?_)
      replace hl := lv_sub hl [1, 2, 3, 4, 0] rfl
      refine lv_aload_n C.1 C.2.1 dX12_clashFrom_30 rfl (lv_at hl 0 rfl) ?_
      refine lv_aload_n C.1 C.2.1 dX12_clashFrom_31 rfl (lv_at hl 0 rfl) ?_
      refine lv_iload_n C.1 C.2.1 dX12_clashFrom_32 rfl (lv_at hl 2 rfl) ?_
      refine lv_iload C.1 C.2.1 dX12_clashFrom_33 (lv_at hl 3 rfl) ?_
      refine k_pi (k_runVM (rest := [.ref h]) C aks Wd cs_X12_376 (mt_liveAt D h ad ca I (sF F 54 clashes_2) Wd.2 l3_2 r17 g_l3_2 g_r17 _ hw l _) rfl rfl ⟨(by show 709 + 1 ≤ 711 + (n + 1); omega), (by show 8 + (7 + 11) + (15592) ≤ 15658 + 26 * (n + 1); omega)⟩ hl.1 rfl rfl (Nat.le_of_ble_eq_true rfl) ⟨(Nat.le_of_ble_eq_true rfl), (Nat.le_of_ble_eq_true rfl)⟩ dX12_clashFrom_35) (fun y35 hy => ?_)
      obtain ⟨r35, rfl, g_r35, hw⟩ := hy
      refine k_cMv Wd (k_runVM (rest := []) C aks Wd cs_X12_457 (mt_clashAll D h ad ca I (sF F 54 clashes_2) Wd.2 r35 g_r35 _ hw l _) rfl rfl ⟨(by show 1 + 1 ≤ 711 + (n + 1); omega), (by show 8 + (3 + 11) + (64) ≤ 15658 + 26 * (n + 1); omega)⟩ hl.1 rfl rfl (Nat.le_of_ble_eq_true rfl) ⟨(Nat.le_of_ble_eq_true rfl), (Nat.le_of_ble_eq_true rfl)⟩ dX12_clashFrom_38) (fun clashes_r38 H locs hw Wd => ?_)
      have Wc38 := Wd
      have Wd : wXM D ca s h ad I (sF F 54 clashes_r38) H A s.heap locs := wMc Wd rfl rfl ⟨hS.1, (rsF hS.2 (fun j => Wc38.2.2 54 j))⟩
      refine lv_iload C.1 C.2.1 dX12_clashFrom_41 (lv_at hl 4 rfl) ?_
      refine lv_bipush (v := zI 100) C.1 C.2.1 dX12_clashFrom_43 (by decide) ?_
      refine lv_bipush (v := zI 105) C.1 C.2.1 dX12_clashFrom_45 (by decide) ?_
      refine k_pi (k_runS (rest := []) C aks Wd.1 cs_X12_90 (mt_isIn D ((F 2) l3_2) 100 105 g27 (show rng 100 from by decide) (show rng 105 from by decide) _ hw l _) [] rfl (by decide) [] rfl rfl rfl ⟨(by show 1 + 1 ≤ 711 + (n + 1); omega), (by show 8 + (3 + 11) + (64) ≤ 15658 + 26 * (n + 1); omega)⟩ hl.1 rfl rfl (Nat.le_of_ble_eq_true rfl) ⟨(Nat.le_of_ble_eq_true rfl), (Nat.le_of_ble_eq_true rfl)⟩ dX12_clashFrom_47) (fun y47 hy => ?_)
      obtain ⟨r47, rfl, g_r47, hw⟩ := hy
      refine k_cut1 (fun (clashes_64 : Int → Int) H locs ls => wp_clashFrom_64 (wp_clashFrom n) (F 2) (I 4) l3_2 r17 L2 clashes_64 ∧ wXM D ca s h ad I (sF F 54 clashes_64) H A s.heap locs ∧ lv_has ls 7 [(0, .ref h), (2, .int (zI x1)), (3, .int (zI l3_2)), (4, .int (zI r17)), (5, .int (zI ((F 2) l3_2)))]) (fun (clashes_64 : Int → Int) ls => F0 m 64 ls []) (fun clashes_64 H locs ls hi => ?_) (fun J64 => ?_)
      · obtain ⟨hw, Wd, hl⟩ := hi
        have Wd64 := Wd
        unfold wp_clashFrom_64 at hw
        refine lv_iload C.1 C.2.1 dX12_clashFrom_64 (lv_at hl 4 rfl) ?_
        refine lv_bipush (v := zI 115) C.1 C.2.1 dX12_clashFrom_66 (by decide) ?_
        refine k_cut1 (fun (clashes_87 : Int → Int) H locs ls => wp_clashFrom_87 (wp_clashFrom n) (F 2) (I 4) l3_2 r17 L2 clashes_87 ∧ wXM D ca s h ad I (sF F 54 clashes_87) H A s.heap locs ∧ lv_has ls 7 [(0, .ref h), (2, .int (zI x1)), (3, .int (zI l3_2)), (4, .int (zI r17)), (5, .int (zI ((F 2) l3_2)))]) (fun (clashes_87 : Int → Int) ls => F0 m 87 ls []) (fun clashes_87 H locs ls hi => ?_) (fun J87 => ?_)
        · obtain ⟨hw, Wd, hl⟩ := hi
          have Wd87 := Wd
          unfold wp_clashFrom_87 at hw
          refine lv_iload C.1 C.2.1 dX12_clashFrom_87 (lv_at hl 4 rfl) ?_
          refine lv_bipush (v := zI 112) C.1 C.2.1 dX12_clashFrom_89 (by decide) ?_
          refine k_cut1 (fun (clashes_141 : Int → Int) H locs ls => wp_clashFrom_141 (F 2) l3_2 L2 clashes_141 ∧ wXM D ca s h ad I (sF F 54 clashes_141) H A s.heap locs ∧ lv_has ls 7 [(0, .ref h), (2, .int (zI x1)), (3, .int (zI l3_2))]) (fun (clashes_141 : Int → Int) ls => F0 m 141 ls []) (fun clashes_141 H locs ls hi => ?_) (fun J141 => ?_)
          · obtain ⟨hw, Wd, hl⟩ := hi
            have Wd141 := Wd
            unfold wp_clashFrom_141 at hw
            refine lv_aload_n C.1 C.2.1 dX12_clashFrom_141 rfl (lv_at hl 0 rfl) ?_
            refine lv_iload_n C.1 C.2.1 dX12_clashFrom_142 rfl (lv_at hl 2 rfl) ?_
            refine k_pi (k_runVM (rest := []) C aks Wd cs_X12_104 (mt_behind D h ad ca I (sF F 54 clashes_141) Wd.2 l3_2 g_l3_2 _ hw l _) rfl rfl ⟨(by show 606 + 1 ≤ 711 + (n + 1); omega), (by show 8 + (3 + 11) + (12908) ≤ 15658 + 26 * (n + 1); omega)⟩ hl.1 rfl rfl (Nat.le_of_ble_eq_true rfl) ⟨(Nat.le_of_ble_eq_true rfl), (Nat.le_of_ble_eq_true rfl)⟩ dX12_clashFrom_143) (fun y143 hy => ?_)
            obtain ⟨r143, rfl, g_r143, hw⟩ := hy
            refine lv_istore_n (lv' := [(3, .int (zI r143)), (0, .ref h), (2, .int (zI x1))]) C.1 C.2.1 dX12_clashFrom_146 rfl hl (by decide) rfl (fun ls hl => ?_)
            replace hl := lv_sub hl [1, 2, 0] rfl
            refine lv_goto (tgt := 2) C.1 C.2.1 dX12_clashFrom_147 (by decide) ?_
            exact hL2 _ _ hw _ _ _ ⟨g_r143, wMc Wd rfl rfl ⟨hS.1, (rsF hS.2 (fun j => Wd141.2.2 54 j))⟩, lv_sub hl [0, 1, 2] rfl⟩
          refine lv_icmp_eq (tgt := 97) C.1 C.2.1 dX12_clashFrom_91 (by decide) (fun c91 => ?_) (fun c91 => ?_)
          · have hw := hw.1 (z_eq g27 (show rng 112 from by decide) c91)
            refine lv_aload_n C.1 C.2.1 dX12_clashFrom_97 rfl (lv_at hl 0 rfl) ?_
            refine lv_aload_n C.1 C.2.1 dX12_clashFrom_98 rfl (lv_at hl 0 rfl) ?_
            refine lv_iload_n C.1 C.2.1 dX12_clashFrom_99 rfl (lv_at hl 2 rfl) ?_
            refine k_pi (k_runVM (rest := [.ref h]) C aks Wd cs_X12_101 (mt_body D h ad ca I (sF F 54 clashes_87) Wd.2 l3_2 g_l3_2 _ hw l _) rfl rfl ⟨(by show 504 + 1 ≤ 711 + (n + 1); omega), (by show 8 + (2 + 11) + (10647) ≤ 15658 + 26 * (n + 1); omega)⟩ hl.1 rfl rfl (Nat.le_of_ble_eq_true rfl) ⟨(Nat.le_of_ble_eq_true rfl), (Nat.le_of_ble_eq_true rfl)⟩ dX12_clashFrom_100) (fun y100 hy => ?_)
            obtain ⟨r100, rfl, g_r100, hw⟩ := hy
            refine k_pi (k_runVM (rest := []) C aks Wd cs_X12_309 (mt_close D h ad ca I (sF F 54 clashes_87) Wd.2 r100 g_r100 _ hw l _) rfl rfl ⟨(by show 607 + 1 ≤ 711 + (n + 1); omega), (by show 8 + (3 + 11) + (12930) ≤ 15658 + 26 * (n + 1); omega)⟩ hl.1 rfl rfl (Nat.le_of_ble_eq_true rfl) ⟨(Nat.le_of_ble_eq_true rfl), (Nat.le_of_ble_eq_true rfl)⟩ dX12_clashFrom_103) (fun y103 hy => ?_)
            obtain ⟨r103, rfl, g_r103, hw⟩ := hy
            refine lv_istore (lv' := [(6, .int (zI r103)), (0, .ref h), (2, .int (zI x1)), (3, .int (zI l3_2)), (4, .int (zI r17)), (5, .int (zI ((F 2) l3_2)))]) C.1 C.2.1 dX12_clashFrom_106 hl (by decide) rfl (fun ls hl => ?_)
            replace hl := lv_sub hl [1, 2, 3, 4, 5, 0] rfl
            refine lv_aload_n C.1 C.2.1 dX12_clashFrom_108 rfl (lv_at hl 0 rfl) ?_
            refine lv_aload_n C.1 C.2.1 dX12_clashFrom_109 rfl (lv_at hl 0 rfl) ?_
            refine lv_iload_n C.1 C.2.1 dX12_clashFrom_110 rfl (lv_at hl 2 rfl) ?_
            refine k_pi (k_runVM (rest := [.ref h]) C aks Wd cs_X12_101 (mt_body D h ad ca I (sF F 54 clashes_87) Wd.2 l3_2 g_l3_2 _ hw l _) rfl rfl ⟨(by show 504 + 1 ≤ 711 + (n + 1); omega), (by show 8 + (2 + 11) + (10647) ≤ 15658 + 26 * (n + 1); omega)⟩ hl.1 rfl rfl (Nat.le_of_ble_eq_true rfl) ⟨(Nat.le_of_ble_eq_true rfl), (Nat.le_of_ble_eq_true rfl)⟩ dX12_clashFrom_111) (fun y111 hy => ?_)
            obtain ⟨r111, rfl, g_r111, hw⟩ := hy
            refine lv_iload C.1 C.2.1 dX12_clashFrom_114 (lv_at hl 3 rfl) ?_
            refine k_cMv Wd (k_runVM (rest := []) C aks Wd cs_X12_463 (ih_clashFrom D h ad ca I (sF F 54 clashes_87) Wd.2 r111 r17 g_r111 g_r17 _ hw l _) rfl rfl ⟨(by show 711 + n + 1 ≤ 711 + (n + 1); omega), (by show 8 + (7 + 11) + (15658 + 26 * n) ≤ 15658 + 26 * (n + 1); omega)⟩ hl.1 rfl rfl (Nat.le_of_ble_eq_true rfl) ⟨(Nat.le_of_ble_eq_true rfl), (Nat.le_of_ble_eq_true rfl)⟩ dX12_clashFrom_116) (fun clashes_r116 H locs hw Wd => ?_)
            have Wc116 := Wd
            have Wd : wXM D ca s h ad I (sF F 54 clashes_r116) H A s.heap locs := wMc Wd rfl rfl ⟨hS.1, (rsF hS.2 (fun j => Wc116.2.2 54 j))⟩
            refine lv_aload_n C.1 C.2.1 dX12_clashFrom_119 rfl (lv_at hl 0 rfl) ?_
            refine k_get (v := .ref (ad 2)) C Wd.1 KX12 0 2 wM0 (by decide) fl_X12_16 rfl dX12_clashFrom_120 ?_
            refine lv_iload C.1 C.2.1 dX12_clashFrom_123 (lv_at hl 5 rfl) ?_
            obtain ⟨a125, hw⟩ := hw
            refine k_ialdM (g := (F 2)) C Wd 3 2 rfl rfl a125 (by decide) dX12_clashFrom_125 ?_
            have g125 : rng ((F 2) r103) := rngL (hS.2 2) a125
            refine lv_bipush (v := zI 113) C.1 C.2.1 dX12_clashFrom_126 (by decide) ?_
            refine lv_icmp_ne (tgt := 141) C.1 C.2.1 dX12_clashFrom_128 (by decide) (fun c128 => ?_) (fun c128 => ?_)
            · have hw := hw.1 (z_ne g125 (show rng 113 from by decide) c128)
              exact J141 clashes_r116 _ _ _ ⟨hw, wMc Wd rfl rfl ⟨hS.1, (rsF hS.2 (fun j => Wc116.2.2 54 j))⟩, lv_sub hl [0, 1, 2] rfl⟩
            · have hw := hw.2 (z_eq g125 (show rng 113 from by decide) c128)
              refine lv_aload_n C.1 C.2.1 dX12_clashFrom_131 rfl (lv_at hl 0 rfl) ?_
              refine lv_iload C.1 C.2.1 dX12_clashFrom_132 (lv_at hl 5 rfl) ?_
              refine lv_iconst (v := zI 1) C.1 C.2.1 dX12_clashFrom_134 (by decide) ?_
              refine k_iadd (v := zI (r103 + 1)) C (zI_iadd _ _) dX12_clashFrom_135 ?_
              refine lv_iload C.1 C.2.1 dX12_clashFrom_136 (lv_at hl 3 rfl) ?_
              obtain ⟨g138_0, hw⟩ := hw
              refine k_cMv Wd (k_runVM (rest := []) C aks Wd cs_X12_463 (ih_clashFrom D h ad ca I (sF F 54 clashes_r116) Wd.2 (r103 + 1) r17 g138_0 g_r17 _ hw l _) rfl rfl ⟨(by show 711 + n + 1 ≤ 711 + (n + 1); omega), (by show 8 + (7 + 11) + (15658 + 26 * n) ≤ 15658 + 26 * (n + 1); omega)⟩ hl.1 rfl rfl (Nat.le_of_ble_eq_true rfl) ⟨(Nat.le_of_ble_eq_true rfl), (Nat.le_of_ble_eq_true rfl)⟩ dX12_clashFrom_138) (fun clashes_r138 H locs hw Wd => ?_)
              have Wc138 := Wd
              have Wd : wXM D ca s h ad I (sF F 54 clashes_r138) H A s.heap locs := wMc Wd rfl rfl ⟨hS.1, (rsF hS.2 (fun j => Wc138.2.2 54 j))⟩
              exact J141 clashes_r138 _ _ _ ⟨hw, wMc Wd rfl rfl ⟨hS.1, (rsF hS.2 (fun j => Wc138.2.2 54 j))⟩, lv_sub hl [0, 1, 2] rfl⟩
          · have hw := hw.2 (z_ne g27 (show rng 112 from by decide) c91)
            refine lv_goto (tgt := 141) C.1 C.2.1 dX12_clashFrom_94 (by decide) ?_
            exact J141 clashes_87 _ _ _ ⟨hw, wMc Wd rfl rfl ⟨hS.1, (rsF hS.2 (fun j => Wd87.2.2 54 j))⟩, lv_sub hl [0, 1, 2] rfl⟩
        refine lv_icmp_ne (tgt := 87) C.1 C.2.1 dX12_clashFrom_68 (by decide) (fun c68 => ?_) (fun c68 => ?_)
        · have hw := hw.1 (z_ne g27 (show rng 115 from by decide) c68)
          exact J87 clashes_64 _ _ _ ⟨hw, wMc Wd rfl rfl ⟨hS.1, (rsF hS.2 (fun j => Wd64.2.2 54 j))⟩, lv_sub hl [0, 1, 2, 3, 4] rfl⟩
        · have hw := hw.2 (z_eq g27 (show rng 115 from by decide) c68)
          refine lv_aload_n C.1 C.2.1 dX12_clashFrom_71 rfl (lv_at hl 0 rfl) ?_
          refine lv_aload_n C.1 C.2.1 dX12_clashFrom_72 rfl (lv_at hl 0 rfl) ?_
          refine lv_iload_n C.1 C.2.1 dX12_clashFrom_73 rfl (lv_at hl 2 rfl) ?_
          refine k_pi (k_runVM (rest := [.ref h]) C aks Wd cs_X12_101 (mt_body D h ad ca I (sF F 54 clashes_64) Wd.2 l3_2 g_l3_2 _ hw l _) rfl rfl ⟨(by show 504 + 1 ≤ 711 + (n + 1); omega), (by show 8 + (2 + 11) + (10647) ≤ 15658 + 26 * (n + 1); omega)⟩ hl.1 rfl rfl (Nat.le_of_ble_eq_true rfl) ⟨(Nat.le_of_ble_eq_true rfl), (Nat.le_of_ble_eq_true rfl)⟩ dX12_clashFrom_74) (fun y74 hy => ?_)
          obtain ⟨r74, rfl, g_r74, hw⟩ := hy
          refine lv_aload_n C.1 C.2.1 dX12_clashFrom_77 rfl (lv_at hl 0 rfl) ?_
          refine lv_iload_n C.1 C.2.1 dX12_clashFrom_78 rfl (lv_at hl 2 rfl) ?_
          refine lv_iload C.1 C.2.1 dX12_clashFrom_79 (lv_at hl 3 rfl) ?_
          refine k_pi (k_runVM (rest := [.int (zI r74), .ref h]) C aks Wd cs_X12_376 (mt_liveAt D h ad ca I (sF F 54 clashes_64) Wd.2 l3_2 r17 g_l3_2 g_r17 _ hw l _) rfl rfl ⟨(by show 709 + 1 ≤ 711 + (n + 1); omega), (by show 8 + (7 + 11) + (15592) ≤ 15658 + 26 * (n + 1); omega)⟩ hl.1 rfl rfl (Nat.le_of_ble_eq_true rfl) ⟨(Nat.le_of_ble_eq_true rfl), (Nat.le_of_ble_eq_true rfl)⟩ dX12_clashFrom_81) (fun y81 hy => ?_)
          obtain ⟨r81, rfl, g_r81, hw⟩ := hy
          refine k_cMv Wd (k_runVM (rest := []) C aks Wd cs_X12_463 (ih_clashFrom D h ad ca I (sF F 54 clashes_64) Wd.2 r74 r81 g_r74 g_r81 _ hw l _) rfl rfl ⟨(by show 711 + n + 1 ≤ 711 + (n + 1); omega), (by show 8 + (7 + 11) + (15658 + 26 * n) ≤ 15658 + 26 * (n + 1); omega)⟩ hl.1 rfl rfl (Nat.le_of_ble_eq_true rfl) ⟨(Nat.le_of_ble_eq_true rfl), (Nat.le_of_ble_eq_true rfl)⟩ dX12_clashFrom_84) (fun clashes_r84 H locs hw Wd => ?_)
          have Wc84 := Wd
          have Wd : wXM D ca s h ad I (sF F 54 clashes_r84) H A s.heap locs := wMc Wd rfl rfl ⟨hS.1, (rsF hS.2 (fun j => Wc84.2.2 54 j))⟩
          exact J87 clashes_r84 _ _ _ ⟨hw, wMc Wd rfl rfl ⟨hS.1, (rsF hS.2 (fun j => Wc84.2.2 54 j))⟩, lv_sub hl [0, 1, 2, 3, 4] rfl⟩
      refine lv_if_eq (tgt := 64) C.1 C.2.1 dX12_clashFrom_50 (by decide) (fun c50 => ?_) (fun c50 => ?_)
      · have hw := hw.1 (z0_eq g_r47 c50)
        exact J64 clashes_r38 _ _ _ ⟨hw, wMc Wd rfl rfl ⟨hS.1, (rsF hS.2 (fun j => Wc38.2.2 54 j))⟩, lv_sub hl [0, 1, 2, 3, 4] rfl⟩
      · have hw := hw.2 (z0_ne g_r47 c50)
        refine lv_aload_n C.1 C.2.1 dX12_clashFrom_53 rfl (lv_at hl 0 rfl) ?_
        refine lv_iload C.1 C.2.1 dX12_clashFrom_54 (lv_at hl 4 rfl) ?_
        refine lv_bipush (v := zI 100) C.1 C.2.1 dX12_clashFrom_56 (by decide) ?_
        refine k_isub (v := zI (((F 2) l3_2) - 100)) C (zI_isub _ _) dX12_clashFrom_58 ?_
        refine lv_iload C.1 C.2.1 dX12_clashFrom_59 (lv_at hl 3 rfl) ?_
        obtain ⟨g61_0, hw⟩ := hw
        refine k_cMv Wd (k_runVM (rest := []) C aks Wd cs_X12_460 (mt_clashSet D h ad ca I (sF F 54 clashes_r38) Wd.2 (((F 2) l3_2) - 100) r17 g61_0 g_r17 _ hw l _) rfl rfl ⟨(by show 1 + 1 ≤ 711 + (n + 1); omega), (by show 8 + (4 + 11) + (64) ≤ 15658 + 26 * (n + 1); omega)⟩ hl.1 rfl rfl (Nat.le_of_ble_eq_true rfl) ⟨(Nat.le_of_ble_eq_true rfl), (Nat.le_of_ble_eq_true rfl)⟩ dX12_clashFrom_61) (fun clashes_r61 H locs hw Wd => ?_)
        have Wc61 := Wd
        have Wd : wXM D ca s h ad I (sF F 54 clashes_r61) H A s.heap locs := wMc Wd rfl rfl ⟨hS.1, (rsF hS.2 (fun j => Wc61.2.2 54 j))⟩
        exact J64 clashes_r61 _ _ _ ⟨hw, wMc Wd rfl rfl ⟨hS.1, (rsF hS.2 (fun j => Wc61.2.2 54 j))⟩, lv_sub hl [0, 1, 2, 3, 4] rfl⟩
theorem mt_clashFrom : ∀ (D : va_G) (h : Nat) (ad : Nat → Nat) (ca : Nat → ClassId) (I : Nat → Int) (F : Nat → Int → Int) (hS : rngS I F) (x0 : Int) (x1 : Int) (g_x0 : rng x0) (g_x1 : rng x1) (K : (Int → Int) → Prop) (hw : wp_clashFrom 100 (F 2) (I 4) (F 54) x0 x1 K) (l : Launch) (sz : Nat), Met l yX12_clashFrom (Cond.code yX12_clashFrom cX12_clashFrom 7 none :: gG) { frames := 811, cells := 0, slots := 0, locals := 18258 } (cPre D (tM ca) (wM h ad ca I F) sz [.ref h, .int (zI x0), .int (zI x1)]) (va_Qv (fun (u : (Int → Int)) => K u ∧ rngS I (sF F 54 u)) (fun u t => cB D (va_A (wM h ad ca I F) sz) [] (wM h ad ca I (sF F 54 u)) t) (va_A (wM h ad ca I F) sz)) 0 0 (va_A (wM h ad ca I F) sz) := mg_clashFrom 100
set_option maxHeartbeats 4000000 in
set_option maxRecDepth 100000 in
theorem mt_clashIn : ∀ (D : va_G) (h : Nat) (ad : Nat → Nat) (ca : Nat → ClassId) (I : Nat → Int) (F : Nat → Int → Int) (hS : rngS I F) (x0 : Int) (g_x0 : rng x0) (K : (Int → Int) → Int → (Int → Int) → Prop) (hw : wp_clashIn (F 0) (F 1) (F 2) (I 4) (F 54) x0 K) (l : Launch) (sz : Nat), Met l yX12_clashIn (Cond.code yX12_clashIn cX12_clashIn 3 none :: gG) { frames := 812, cells := 0, slots := 0, locals := 18284 } (cPre D (tM ca) (wM h ad ca I F) sz [.ref h, .int (zI x0)]) (va_Qv (fun (u : (Int → Int) × (Int) × (Int → Int)) => K u.1 u.2.1 u.2.2 ∧ rngS (sI I 4 u.2.1) (sF (sF F 2 u.1) 54 u.2.2)) (fun u t => cB D (va_A (wM h ad ca I F) sz) [] (wM h ad ca (sI I 4 u.2.1) (sF (sF F 2 u.1) 54 u.2.2)) t) (va_A (wM h ad ca I F) sz)) 0 0 (va_A (wM h ad ca I F) sz) := by
  intro D h ad ca I F hS x0 g_x0 K hw l sz
  refine Met.ofW (cc := cX12_clashIn) (maxL := 3) (ret := none) (by decide) rfl ?_
  intro p e s m args below meth c s₁ B hml hv
  obtain ⟨rfl, aks, rfl, Wd⟩ := k_enter hv
  have C : CallFix p m c cX12_clashIn 3 s _ gG RX12 := ⟨B.exec, B.bytes, hml, findClass_of_methodNamed B.named, fun w h => atoms_spec (ws := Cond.code yX12_clashIn cX12_clashIn 3 none :: gG) B.pre w (List.mem_cons_of_mem _ h)⟩
  have hr := B.returns
  have hlk := B.notSynchronized
  generalize va_A (wM h ad ca I F) s.heap.size = A at Wd ⊢
  replace Wd : wXM D ca s h ad I F s.heap A s.heap [] := ⟨Wd, hS⟩
  refine k_locals (Nat.le_of_ble_eq_true rfl) [(0, .ref h), (1, .int (zI x0))] rfl (fun ls hl => ?_)
  unfold wp_clashIn at hw
  refine lv_aload_n C.1 C.2.1 dX12_clashIn_0 rfl (lv_at hl 0 rfl) ?_
  refine lv_iload_n C.1 C.2.1 dX12_clashIn_1 rfl (lv_at hl 1 rfl) ?_
  refine k_cMv Wd (k_runVM (rest := []) C aks Wd cs_X12_271 (mt_takes D h ad ca I F Wd.2 x0 g_x0 _ hw l _) rfl rfl ⟨(Nat.le_of_ble_eq_true rfl), (Nat.le_of_ble_eq_true rfl)⟩ hl.1 rfl rfl (Nat.le_of_ble_eq_true rfl) ⟨(Nat.le_of_ble_eq_true rfl), (Nat.le_of_ble_eq_true rfl)⟩ dX12_clashIn_2) (fun u2 H locs hw Wd => ?_)
  obtain ⟨row_r2, many_r2⟩ := u2
  dsimp only at hw
  have Wc2 := Wd
  have Wd : wXM D ca s h ad (sI I 4 many_r2) (sF F 2 row_r2) H A s.heap locs := wMc Wd rfl rfl ⟨(rsI hS.1 (Wc2.2.1 4)), (rsF hS.2 (fun j => Wc2.2.2 2 j))⟩
  refine lv_iconst (v := zI 0) C.1 C.2.1 dX12_clashIn_5 (by decide) ?_
  refine lv_istore_n (lv' := [(2, .int (zI 0)), (0, .ref h), (1, .int (zI x0))]) C.1 C.2.1 dX12_clashIn_6 rfl hl (by decide) rfl (fun ls hl => ?_)
  replace hl := lv_sub hl [1, 2, 0] rfl
  refine k_lp2 hw (fun (l2_7 : Int) (clashes_7 : Int → Int) H locs ls => rng l2_7 ∧ wXM D ca s h ad (sI I 4 many_r2) (sF (sF F 2 row_r2) 54 clashes_7) H A s.heap locs ∧ lv_has ls 3 [(0, .ref h), (2, .int (zI l2_7))]) (fun (l2_7 : Int) (clashes_7 : Int → Int) ls => F0 m 7 ls []) (fun L7 hL7 l2_7 clashes_7 hw H locs ls hi => ?_) _ _ _ ⟨(show rng 0 from by decide), wMc Wd rfl rfl ⟨(rsI hS.1 (Wc2.2.1 4)), (rsF (rsF hS.2 (fun j => Wc2.2.2 2 j)) (hS.2 54))⟩, lv_sub hl [0, 2] rfl⟩
  obtain ⟨g_l2_7, Wd, hl⟩ := hi
  have Wd7 := Wd
  unfold wp_clashIn_7 at hw
  refine lv_iload_n C.1 C.2.1 dX12_clashIn_7 rfl (lv_at hl 1 rfl) ?_
  refine lv_bipush (v := zI 6) C.1 C.2.1 dX12_clashIn_8 (by decide) ?_
  refine lv_icmp_ge (tgt := 26) C.1 C.2.1 dX12_clashIn_10 (by decide) (fun c10 => ?_) (fun c10 => ?_)
  · have hw := hw.1 (z_le (show rng 6 from by decide) g_l2_7 c10)
    refine lv_aload_n C.1 C.2.1 dX12_clashIn_26 rfl (lv_at hl 0 rfl) ?_
    refine lv_iconst (v := zI 0) C.1 C.2.1 dX12_clashIn_27 (by decide) ?_
    refine lv_iconst (v := zI 0) C.1 C.2.1 dX12_clashIn_28 (by decide) ?_
    refine k_cMv Wd (k_runVM (rest := []) C aks Wd cs_X12_463 (mt_clashFrom D h ad ca (sI I 4 many_r2) (sF (sF F 2 row_r2) 54 clashes_7) Wd.2 0 0 (show rng 0 from by decide) (show rng 0 from by decide) _ hw l _) rfl rfl ⟨(Nat.le_of_ble_eq_true rfl), (Nat.le_of_ble_eq_true rfl)⟩ hl.1 rfl rfl (Nat.le_of_ble_eq_true rfl) ⟨(Nat.le_of_ble_eq_true rfl), (Nat.le_of_ble_eq_true rfl)⟩ dX12_clashIn_29) (fun clashes_r29 H locs hw Wd => ?_)
    have Wc29 := Wd
    have Wd : wXM D ca s h ad (sI I 4 many_r2) (sF (sF F 2 row_r2) 54 clashes_r29) H A s.heap locs := wMc Wd rfl rfl ⟨(rsI hS.1 (Wc2.2.1 4)), (rsF (rsF hS.2 (fun j => Wc2.2.2 2 j)) (fun j => Wc29.2.2 54 j))⟩
    exact k_retMv C hr hlk Wd (u := (row_r2, many_r2, clashes_r29)) rfl rfl ⟨hw, ⟨(rsI hS.1 (Wc2.2.1 4)), (rsF (rsF hS.2 (fun j => Wc2.2.2 2 j)) (fun j => Wc29.2.2 54 j))⟩⟩ dX12_clashIn_32
  · have hw := hw.2 (z_nle (show rng 6 from by decide) g_l2_7 c10)
    refine lv_aload_n C.1 C.2.1 dX12_clashIn_13 rfl (lv_at hl 0 rfl) ?_
    refine k_get (v := .ref (ad 54)) C Wd.1 KX12 0 54 wM0 (by decide) fl_X12_84 rfl dX12_clashIn_14 ?_
    refine lv_iload_n C.1 C.2.1 dX12_clashIn_17 rfl (lv_at hl 1 rfl) ?_
    refine lv_iconst (v := zI 0) C.1 C.2.1 dX12_clashIn_18 (by decide) ?_
    obtain ⟨a19, hw⟩ := hw
    have q19 : ∀ j : Nat, rng ((uZ clashes_7 l2_7 0) j) := ruZ (fun j => Wd7.2.2 54 j) (show rng 0 from by decide)
    refine k_iastM (g := clashes_7) C Wd 23 23 (sF (sF F 2 row_r2) 54 (uZ clashes_7 l2_7 0)) rfl rfl a19 (by decide) rfl rfl (rsF (rsF hS.2 (fun j => Wc2.2.2 2 j)) q19) dX12_clashIn_19 (fun H locs Wd => ?_)
    refine lv_iinc (v := zI (l2_7 + 1)) (lv' := [(2, .int (zI (l2_7 + 1))), (0, .ref h)]) C.1 C.2.1 dX12_clashIn_20 hl (k := 1) rfl (zI_inc _ _ (by decide)) (by decide) rfl (fun ls hl => ?_)
    replace hl := lv_sub hl [1, 0] rfl
    refine lv_goto (tgt := 7) C.1 C.2.1 dX12_clashIn_23 (by decide) ?_
    obtain ⟨g23_0, hw⟩ := hw
    exact hL7 _ _ hw _ _ _ ⟨g23_0, wMc Wd rfl rfl ⟨(rsI hS.1 (Wc2.2.1 4)), (rsF (rsF hS.2 (fun j => Wc2.2.2 2 j)) q19)⟩, lv_sub hl [0, 1] rfl⟩
set_option maxHeartbeats 4000000 in
set_option maxRecDepth 100000 in
theorem mt_inRow : ∀ (D : va_G) (h : Nat) (ad : Nat → Nat) (ca : Nat → ClassId) (I : Nat → Int) (F : Nat → Int → Int) (hS : rngS I F) (K : Int → Prop) (hw : wp_inRow (F 2) (I 4) K) (l : Launch) (sz : Nat), Met l yX12_inRow (Cond.code yX12_inRow cX12_inRow 3 (some .int) :: gG) { frames := 3, cells := 0, slots := 0, locals := 110 } (cPre D (tM ca) (wM h ad ca I F) sz [.ref h]) (vp_Si (fun r => ∃ x : Int, r = zI x ∧ rng x ∧ K x)) 0 0 (fun _ => False) := by
  intro D h ad ca I F hS  K hw l sz
  refine Met.ofW (cc := cX12_inRow) (maxL := 3) (ret := (some .int)) (by decide) rfl ?_
  intro p e s m args below meth c s₁ B hml hv
  obtain ⟨rfl, aks, rfl, Wd⟩ := k_enter hv
  have C : CallFix p m c cX12_inRow 3 s _ gG RX12 := ⟨B.exec, B.bytes, hml, findClass_of_methodNamed B.named, fun w h => atoms_spec (ws := Cond.code yX12_inRow cX12_inRow 3 (some .int) :: gG) B.pre w (List.mem_cons_of_mem _ h)⟩
  have hr := B.returns
  have hlk := B.notSynchronized
  obtain ⟨A, Wd⟩ : ∃ A, wXM D ca s h ad I F s.heap A s.heap [] := ⟨_, Wd, hS⟩
  refine k_locals (Nat.le_of_ble_eq_true rfl) [(0, .ref h)] rfl (fun ls hl => ?_)
  unfold wp_inRow at hw
  refine lv_aload_n C.1 C.2.1 dX12_inRow_0 rfl (lv_at hl 0 rfl) ?_
  refine lv_iconst (v := zI 0) C.1 C.2.1 dX12_inRow_1 (by decide) ?_
  refine lv_aload_n C.1 C.2.1 dX12_inRow_2 rfl (lv_at hl 0 rfl) ?_
  refine k_get (v := .int (zI (I 4))) C Wd.1 KX12 0 4 wM0 (by decide) fl_X12_98 rfl dX12_inRow_3 ?_
  refine k_pi (k_runVM (rest := []) C aks Wd cs_X12_379 (mt_reads D h ad ca I F Wd.2 0 (I 4) (show rng 0 from by decide) (hS.1 4) _ hw l _) rfl rfl ⟨(Nat.le_of_ble_eq_true rfl), (Nat.le_of_ble_eq_true rfl)⟩ hl.1 rfl rfl (Nat.le_of_ble_eq_true rfl) ⟨(Nat.le_of_ble_eq_true rfl), (Nat.le_of_ble_eq_true rfl)⟩ dX12_inRow_6) (fun y6 hy => ?_)
  obtain ⟨r6, rfl, g_r6, hw⟩ := hy
  refine lv_istore_n (lv' := [(1, .int (zI r6)), (0, .ref h)]) C.1 C.2.1 dX12_inRow_9 rfl hl (by decide) rfl (fun ls hl => ?_)
  replace hl := lv_sub hl [1, 0] rfl
  refine lv_iconst (v := zI 0) C.1 C.2.1 dX12_inRow_10 (by decide) ?_
  refine lv_istore_n (lv' := [(2, .int (zI 0)), (0, .ref h), (1, .int (zI r6))]) C.1 C.2.1 dX12_inRow_11 rfl hl (by decide) rfl (fun ls hl => ?_)
  replace hl := lv_sub hl [1, 2, 0] rfl
  refine k_lp2 hw (fun (l1_12 : Int) (l2_12 : Int) H locs ls => rng l1_12 ∧ rng l2_12 ∧ wXM D ca s h ad I F H A s.heap locs ∧ H = s.heap ∧ locs = [] ∧ lv_has ls 3 [(0, .ref h), (1, .int (zI l1_12)), (2, .int (zI l2_12))]) (fun (l1_12 : Int) (l2_12 : Int) ls => F0 m 12 ls []) (fun L12 hL12 l1_12 l2_12 hw H locs ls hi => ?_) _ _ _ ⟨g_r6, (show rng 0 from by decide), Wd, rfl, rfl, lv_sub hl [0, 1, 2] rfl⟩
  obtain ⟨g_l1_12, g_l2_12, Wd, rfl, rfl, hl⟩ := hi
  have Wd12 := Wd
  unfold wp_inRow_12 at hw
  refine lv_iload_n C.1 C.2.1 dX12_inRow_12 rfl (lv_at hl 2 rfl) ?_
  refine lv_bipush (v := zI 6) C.1 C.2.1 dX12_inRow_13 (by decide) ?_
  refine lv_icmp_ge (tgt := 47) C.1 C.2.1 dX12_inRow_15 (by decide) (fun c15 => ?_) (fun c15 => ?_)
  · have hw := hw.1 (z_le (show rng 6 from by decide) g_l2_12 c15)
    refine lv_iload_n C.1 C.2.1 dX12_inRow_47 rfl (lv_at hl 1 rfl) ?_
    exact k_zretP C hr hlk rfl ⟨_, rfl, g_l1_12, hw⟩ dX12_inRow_48
  · have hw := hw.2 (z_nle (show rng 6 from by decide) g_l2_12 c15)
    refine lv_iload_n C.1 C.2.1 dX12_inRow_18 rfl (lv_at hl 1 rfl) ?_
    refine lv_aload_n C.1 C.2.1 dX12_inRow_19 rfl (lv_at hl 0 rfl) ?_
    refine lv_iconst (v := zI 0) C.1 C.2.1 dX12_inRow_20 (by decide) ?_
    refine lv_aload_n C.1 C.2.1 dX12_inRow_21 rfl (lv_at hl 0 rfl) ?_
    refine k_get (v := .int (zI (I 4))) C Wd.1 KX12 0 4 wM0 (by decide) fl_X12_98 rfl dX12_inRow_22 ?_
    refine lv_iload_n C.1 C.2.1 dX12_inRow_25 rfl (lv_at hl 2 rfl) ?_
    refine k_pi (k_runVM (rest := [.int (zI l1_12)]) C aks Wd cs_X12_409 (mt_sets D h ad ca I F Wd.2 0 (I 4) l2_12 (show rng 0 from by decide) (hS.1 4) g_l2_12 _ hw l _) rfl rfl ⟨(Nat.le_of_ble_eq_true rfl), (Nat.le_of_ble_eq_true rfl)⟩ hl.1 rfl rfl (Nat.le_of_ble_eq_true rfl) ⟨(Nat.le_of_ble_eq_true rfl), (Nat.le_of_ble_eq_true rfl)⟩ dX12_inRow_26) (fun y26 hy => ?_)
    obtain ⟨r26, rfl, g_r26, hw⟩ := hy
    refine lv_if_eq (tgt := 38) C.1 C.2.1 dX12_inRow_29 (by decide) (fun c29 => ?_) (fun c29 => ?_)
    · have hw := hw.1 (z0_eq g_r26 c29)
      refine lv_iconst (v := zI 0) C.1 C.2.1 dX12_inRow_38 (by decide) ?_
      refine k_ior (v := zI (zior l1_12 0)) C (zior_eq _ _) dX12_inRow_39 ?_
      refine lv_istore_n (lv' := [(1, .int (zI (zior l1_12 0))), (0, .ref h), (2, .int (zI l2_12))]) C.1 C.2.1 dX12_inRow_40 rfl hl (by decide) rfl (fun ls hl => ?_)
      replace hl := lv_sub hl [1, 0, 2] rfl
      refine lv_iinc (v := zI (l2_12 + 1)) (lv' := [(2, .int (zI (l2_12 + 1))), (0, .ref h), (1, .int (zI (zior l1_12 0)))]) C.1 C.2.1 dX12_inRow_41 hl (k := 2) rfl (zI_inc _ _ (by decide)) (by decide) rfl (fun ls hl => ?_)
      replace hl := lv_sub hl [1, 2, 0] rfl
      refine lv_goto (tgt := 12) C.1 C.2.1 dX12_inRow_44 (by decide) ?_
      obtain ⟨g44_0, hw⟩ := hw
      exact hL12 _ _ hw _ _ _ ⟨(rng_toInt _), g44_0, Wd, rfl, rfl, lv_sub hl [0, 1, 2] rfl⟩
    · have hw := hw.2 (z0_ne g_r26 c29)
      refine lv_iconst (v := zI 1) C.1 C.2.1 dX12_inRow_32 (by decide) ?_
      refine lv_iload_n C.1 C.2.1 dX12_inRow_33 rfl (lv_at hl 2 rfl) ?_
      refine k_ishl (v := zI (zishl 1 l2_12)) C (zishl_eq _ _) dX12_inRow_34 ?_
      refine lv_goto (tgt := 39) C.1 C.2.1 dX12_inRow_35 (by decide) ?_
      refine k_ior (v := zI (zior l1_12 (zishl 1 l2_12))) C (zior_eq _ _) dX12_inRow_39 ?_
      refine lv_istore_n (lv' := [(1, .int (zI (zior l1_12 (zishl 1 l2_12)))), (0, .ref h), (2, .int (zI l2_12))]) C.1 C.2.1 dX12_inRow_40 rfl hl (by decide) rfl (fun ls hl => ?_)
      replace hl := lv_sub hl [1, 0, 2] rfl
      refine lv_iinc (v := zI (l2_12 + 1)) (lv' := [(2, .int (zI (l2_12 + 1))), (0, .ref h), (1, .int (zI (zior l1_12 (zishl 1 l2_12))))]) C.1 C.2.1 dX12_inRow_41 hl (k := 2) rfl (zI_inc _ _ (by decide)) (by decide) rfl (fun ls hl => ?_)
      replace hl := lv_sub hl [1, 2, 0] rfl
      refine lv_goto (tgt := 12) C.1 C.2.1 dX12_inRow_44 (by decide) ?_
      obtain ⟨g44_0, hw⟩ := hw
      exact hL12 _ _ hw _ _ _ ⟨(rng_toInt _), g44_0, Wd, rfl, rfl, lv_sub hl [0, 1, 2] rfl⟩
set_option maxHeartbeats 4000000 in
set_option maxRecDepth 100000 in
theorem mt_deals : ∀ (D : va_G) (h : Nat) (ad : Nat → Nat) (ca : Nat → ClassId) (I : Nat → Int) (F : Nat → Int → Int) (hS : rngS I F) (x0 : Int) (x1 : Int) (g_x0 : rng x0) (g_x1 : rng x1) (K : Int → (Int → Int) → Prop) (hw : wp_deals (F 54) (F 55) x0 x1 K) (l : Launch) (sz : Nat), Met l yX12_deals (Cond.code yX12_deals cX12_deals 9 (some .boolean) :: gG) { frames := 1, cells := 0, slots := 0, locals := 64 } (cPre D (tM ca) (wM h ad ca I F) sz [.ref h, .int (zI x0), .int (zI x1)]) (va_Qi (fun (r : Int32) (u : (Int → Int)) => (∃ x : Int, r = zI x ∧ rng x ∧ K x u) ∧ rngS I (sF F 55 u)) (fun u t => cB D (va_A (wM h ad ca I F) sz) [] (wM h ad ca I (sF F 55 u)) t) (va_A (wM h ad ca I F) sz)) 0 0 (va_A (wM h ad ca I F) sz) := by
  intro D h ad ca I F hS x0 x1 g_x0 g_x1 K hw l sz
  refine Met.ofW (cc := cX12_deals) (maxL := 9) (ret := (some .boolean)) (by decide) rfl ?_
  intro p e s m args below meth c s₁ B hml hv
  obtain ⟨rfl, aks, rfl, Wd⟩ := k_enter hv
  have C : CallFix p m c cX12_deals 9 s _ gG RX12 := ⟨B.exec, B.bytes, hml, findClass_of_methodNamed B.named, fun w h => atoms_spec (ws := Cond.code yX12_deals cX12_deals 9 (some .boolean) :: gG) B.pre w (List.mem_cons_of_mem _ h)⟩
  have hr := B.returns
  have hlk := B.notSynchronized
  generalize va_A (wM h ad ca I F) s.heap.size = A at Wd ⊢
  replace Wd : wXM D ca s h ad I F s.heap A s.heap [] := ⟨Wd, hS⟩
  refine k_locals (Nat.le_of_ble_eq_true rfl) [(0, .ref h), (1, .int (zI x0)), (2, .int (zI x1))] rfl (fun ls hl => ?_)
  unfold wp_deals at hw
  refine lv_iconst (v := zI 1) C.1 C.2.1 dX12_deals_0 (by decide) ?_
  refine lv_istore_n (lv' := [(3, .int (zI 1)), (0, .ref h), (1, .int (zI x0)), (2, .int (zI x1))]) C.1 C.2.1 dX12_deals_1 rfl hl (by decide) rfl (fun ls hl => ?_)
  replace hl := lv_sub hl [1, 2, 3, 0] rfl
  refine lv_iconst (v := zI 0) C.1 C.2.1 dX12_deals_2 (by decide) ?_
  refine lv_istore (lv' := [(4, .int (zI 0)), (0, .ref h), (1, .int (zI x0)), (2, .int (zI x1)), (3, .int (zI 1))]) C.1 C.2.1 dX12_deals_3 hl (by decide) rfl (fun ls hl => ?_)
  replace hl := lv_sub hl [1, 2, 3, 4, 0] rfl
  refine k_lp2 hw (fun (l3_5 : Int) (l4_5 : Int) H locs ls => rng l3_5 ∧ rng l4_5 ∧ wXM D ca s h ad I F H A s.heap locs ∧ lv_has ls 9 [(0, .ref h), (1, .int (zI x0)), (2, .int (zI x1)), (3, .int (zI l3_5)), (4, .int (zI l4_5))]) (fun (l3_5 : Int) (l4_5 : Int) ls => F0 m 5 ls []) (fun L5 hL5 l3_5 l4_5 hw H locs ls hi => ?_) _ _ _ ⟨(show rng 1 from by decide), (show rng 0 from by decide), Wd, lv_sub hl [0, 1, 2, 3, 4] rfl⟩
  obtain ⟨g_l3_5, g_l4_5, Wd, hl⟩ := hi
  have Wd5 := Wd
  unfold wp_deals_5 at hw
  refine lv_iload C.1 C.2.1 dX12_deals_5 (lv_at hl 4 rfl) ?_
  refine lv_bipush (v := zI 6) C.1 C.2.1 dX12_deals_7 (by decide) ?_
  refine lv_icmp_ge (tgt := 36) C.1 C.2.1 dX12_deals_9 (by decide) (fun c9 => ?_) (fun c9 => ?_)
  · have hw := hw.1 (z_le (show rng 6 from by decide) g_l4_5 c9)
    refine lv_iconst (v := zI 0) C.1 C.2.1 dX12_deals_36 (by decide) ?_
    refine lv_istore (lv' := [(4, .int (zI 0)), (0, .ref h), (1, .int (zI x0)), (2, .int (zI x1)), (3, .int (zI l3_5))]) C.1 C.2.1 dX12_deals_37 hl (by decide) rfl (fun ls hl => ?_)
    replace hl := lv_sub hl [1, 2, 3, 4, 0] rfl
    refine k_lp2 hw (fun (l4_39 : Int) (deal_39 : Int → Int) H locs ls => rng l4_39 ∧ wXM D ca s h ad I (sF F 55 deal_39) H A s.heap locs ∧ lv_has ls 9 [(0, .ref h), (1, .int (zI x0)), (2, .int (zI x1)), (3, .int (zI l3_5)), (4, .int (zI l4_39))]) (fun (l4_39 : Int) (deal_39 : Int → Int) ls => F0 m 39 ls []) (fun L39 hL39 l4_39 deal_39 hw H locs ls hi => ?_) _ _ _ ⟨(show rng 0 from by decide), wMc Wd rfl rfl ⟨hS.1, (rsF hS.2 (hS.2 55))⟩, lv_sub hl [0, 1, 2, 3, 4] rfl⟩
    obtain ⟨g_l4_39, Wd, hl⟩ := hi
    have Wd39 := Wd
    unfold wp_deals_39 at hw
    refine lv_iload C.1 C.2.1 dX12_deals_39 (lv_at hl 4 rfl) ?_
    refine lv_iload_n C.1 C.2.1 dX12_deals_41 rfl (lv_at hl 3 rfl) ?_
    refine lv_icmp_ge (tgt := 203) C.1 C.2.1 dX12_deals_42 (by decide) (fun c42 => ?_) (fun c42 => ?_)
    · have hw := hw.1 (z_le g_l3_5 g_l4_39 c42)
      refine lv_iconst (v := zI 0) C.1 C.2.1 dX12_deals_203 (by decide) ?_
      exact k_retMi C hr hlk (by decide) Wd (u := deal_39) rfl rfl ⟨⟨_, rfl, (show rng 0 from by decide), hw⟩, ⟨hS.1, (rsF hS.2 (fun j => Wd39.2.2 55 j))⟩⟩ dX12_deals_204
    · have hw := hw.2 (z_nle g_l3_5 g_l4_39 c42)
      refine lv_iload C.1 C.2.1 dX12_deals_45 (lv_at hl 4 rfl) ?_
      refine lv_istore (lv' := [(5, .int (zI l4_39)), (0, .ref h), (1, .int (zI x0)), (2, .int (zI x1)), (3, .int (zI l3_5)), (4, .int (zI l4_39))]) C.1 C.2.1 dX12_deals_47 hl (by decide) rfl (fun ls hl => ?_)
      replace hl := lv_sub hl [1, 2, 3, 4, 5, 0] rfl
      refine lv_iconst (v := zI 5) C.1 C.2.1 dX12_deals_49 (by decide) ?_
      refine lv_istore (lv' := [(6, .int (zI 5)), (0, .ref h), (1, .int (zI x0)), (2, .int (zI x1)), (3, .int (zI l3_5)), (4, .int (zI l4_39)), (5, .int (zI l4_39))]) C.1 C.2.1 dX12_deals_50 hl (by decide) rfl (fun ls hl => ?_)
      replace hl := lv_sub hl [1, 2, 3, 4, 5, 6, 0] rfl
      refine k_lp3 hw (fun (l5_52 : Int) (l6_52 : Int) (deal_52 : Int → Int) H locs ls => rng l5_52 ∧ rng l6_52 ∧ wXM D ca s h ad I (sF F 55 deal_52) H A s.heap locs ∧ lv_has ls 9 [(0, .ref h), (1, .int (zI x0)), (2, .int (zI x1)), (3, .int (zI l3_5)), (4, .int (zI l4_39)), (5, .int (zI l5_52)), (6, .int (zI l6_52))]) (fun (l5_52 : Int) (l6_52 : Int) (deal_52 : Int → Int) ls => F0 m 52 ls []) (fun L52 hL52 l5_52 l6_52 deal_52 hw H locs ls hi => ?_) _ _ _ ⟨g_l4_39, (show rng 5 from by decide), wMc Wd rfl rfl ⟨hS.1, (rsF hS.2 (fun j => Wd39.2.2 55 j))⟩, lv_sub hl [0, 1, 2, 3, 4, 5, 6] rfl⟩
      obtain ⟨g_l5_52, g_l6_52, Wd, hl⟩ := hi
      have Wd52 := Wd
      unfold wp_deals_52 at hw
      refine lv_iload C.1 C.2.1 dX12_deals_52 (lv_at hl 6 rfl) ?_
      refine lv_if_lt (tgt := 100) C.1 C.2.1 dX12_deals_54 (by decide) (fun c54 => ?_) (fun c54 => ?_)
      · have hw := hw.1 (z0_lt g_l6_52 c54)
        refine lv_iconst (v := zI 1) C.1 C.2.1 dX12_deals_100 (by decide) ?_
        refine lv_istore (lv' := [(6, .int (zI 1)), (0, .ref h), (1, .int (zI x0)), (2, .int (zI x1)), (3, .int (zI l3_5)), (4, .int (zI l4_39)), (5, .int (zI l5_52))]) C.1 C.2.1 dX12_deals_101 hl (by decide) rfl (fun ls hl => ?_)
        replace hl := lv_sub hl [1, 2, 3, 4, 5, 6, 0] rfl
        refine lv_iconst (v := zI 0) C.1 C.2.1 dX12_deals_103 (by decide) ?_
        refine lv_istore (lv' := [(7, .int (zI 0)), (0, .ref h), (1, .int (zI x0)), (2, .int (zI x1)), (3, .int (zI l3_5)), (4, .int (zI l4_39)), (5, .int (zI l5_52)), (6, .int (zI 1))]) C.1 C.2.1 dX12_deals_104 hl (by decide) rfl (fun ls hl => ?_)
        replace hl := lv_sub hl [1, 2, 3, 4, 5, 6, 7, 0] rfl
        refine k_lp2 hw (fun (l6_106 : Int) (l7_106 : Int) H locs ls => rng l6_106 ∧ rng l7_106 ∧ wXM D ca s h ad I (sF F 55 deal_52) H A s.heap locs ∧ lv_has ls 9 [(0, .ref h), (1, .int (zI x0)), (2, .int (zI x1)), (3, .int (zI l3_5)), (4, .int (zI l4_39)), (6, .int (zI l6_106)), (7, .int (zI l7_106))]) (fun (l6_106 : Int) (l7_106 : Int) ls => F0 m 106 ls []) (fun L106 hL106 l6_106 l7_106 hw H locs ls hi => ?_) _ _ _ ⟨(show rng 1 from by decide), (show rng 0 from by decide), wMc Wd rfl rfl ⟨hS.1, (rsF hS.2 (fun j => Wd52.2.2 55 j))⟩, lv_sub hl [0, 1, 2, 3, 4, 6, 7] rfl⟩
        obtain ⟨g_l6_106, g_l7_106, Wd, hl⟩ := hi
        have Wd106 := Wd
        unfold wp_deals_106 at hw
        refine lv_iload C.1 C.2.1 dX12_deals_106 (lv_at hl 6 rfl) ?_
        refine lv_bipush (v := zI 6) C.1 C.2.1 dX12_deals_108 (by decide) ?_
        refine lv_icmp_ge (tgt := 190) C.1 C.2.1 dX12_deals_110 (by decide) (fun c110 => ?_) (fun c110 => ?_)
        · have hw := hw.1 (z_le (show rng 6 from by decide) g_l7_106 c110)
          refine lv_iload C.1 C.2.1 dX12_deals_190 (lv_at hl 5 rfl) ?_
          refine lv_if_eq (tgt := 197) C.1 C.2.1 dX12_deals_192 (by decide) (fun c192 => ?_) (fun c192 => ?_)
          · have hw := hw.1 (z0_eq g_l6_106 c192)
            refine lv_iinc (v := zI (l4_39 + 1)) (lv' := [(4, .int (zI (l4_39 + 1))), (0, .ref h), (1, .int (zI x0)), (2, .int (zI x1)), (3, .int (zI l3_5)), (6, .int (zI l6_106)), (7, .int (zI l7_106))]) C.1 C.2.1 dX12_deals_197 hl (k := 4) rfl (zI_inc _ _ (by decide)) (by decide) rfl (fun ls hl => ?_)
            replace hl := lv_sub hl [1, 2, 3, 4, 0, 5, 6] rfl
            refine lv_goto (tgt := 39) C.1 C.2.1 dX12_deals_200 (by decide) ?_
            obtain ⟨g200_0, hw⟩ := hw
            exact hL39 _ _ hw _ _ _ ⟨g200_0, wMc Wd rfl rfl ⟨hS.1, (rsF hS.2 (fun j => Wd52.2.2 55 j))⟩, lv_sub hl [0, 1, 2, 3, 4] rfl⟩
          · have hw := hw.2 (z0_ne g_l6_106 c192)
            refine lv_iconst (v := zI 1) C.1 C.2.1 dX12_deals_195 (by decide) ?_
            exact k_retMi C hr hlk (by decide) Wd (u := deal_52) rfl rfl ⟨⟨_, rfl, (show rng 1 from by decide), hw⟩, ⟨hS.1, (rsF hS.2 (fun j => Wd52.2.2 55 j))⟩⟩ dX12_deals_196
        · have hw := hw.2 (z_nle (show rng 6 from by decide) g_l7_106 c110)
          refine lv_iconst (v := zI 0) C.1 C.2.1 dX12_deals_113 (by decide) ?_
          refine lv_istore (lv' := [(8, .int (zI 0)), (0, .ref h), (1, .int (zI x0)), (2, .int (zI x1)), (3, .int (zI l3_5)), (4, .int (zI l4_39)), (6, .int (zI l6_106)), (7, .int (zI l7_106))]) C.1 C.2.1 dX12_deals_114 hl (by decide) rfl (fun ls hl => ?_)
          replace hl := lv_sub hl [1, 2, 3, 4, 5, 6, 7, 0] rfl
          refine k_lp2 hw (fun (l6_116 : Int) (l8_116 : Int) H locs ls => rng l6_116 ∧ rng l8_116 ∧ wXM D ca s h ad I (sF F 55 deal_52) H A s.heap locs ∧ lv_has ls 9 [(0, .ref h), (1, .int (zI x0)), (2, .int (zI x1)), (3, .int (zI l3_5)), (4, .int (zI l4_39)), (6, .int (zI l6_116)), (7, .int (zI l7_106)), (8, .int (zI l8_116))]) (fun (l6_116 : Int) (l8_116 : Int) ls => F0 m 116 ls []) (fun L116 hL116 l6_116 l8_116 hw H locs ls hi => ?_) _ _ _ ⟨g_l6_106, (show rng 0 from by decide), wMc Wd rfl rfl ⟨hS.1, (rsF hS.2 (fun j => Wd52.2.2 55 j))⟩, lv_sub hl [0, 1, 2, 3, 4, 5, 6, 7] rfl⟩
          obtain ⟨g_l6_116, g_l8_116, Wd, hl⟩ := hi
          have Wd116 := Wd
          unfold wp_deals_116 at hw
          refine lv_iload C.1 C.2.1 dX12_deals_116 (lv_at hl 7 rfl) ?_
          refine lv_iload C.1 C.2.1 dX12_deals_118 (lv_at hl 6 rfl) ?_
          refine lv_icmp_ge (tgt := 184) C.1 C.2.1 dX12_deals_120 (by decide) (fun c120 => ?_) (fun c120 => ?_)
          · have hw := hw.1 (z_le g_l7_106 g_l8_116 c120)
            refine lv_iinc (v := zI (l7_106 + 1)) (lv' := [(7, .int (zI (l7_106 + 1))), (0, .ref h), (1, .int (zI x0)), (2, .int (zI x1)), (3, .int (zI l3_5)), (4, .int (zI l4_39)), (6, .int (zI l6_116)), (8, .int (zI l8_116))]) C.1 C.2.1 dX12_deals_184 hl (k := 6) rfl (zI_inc _ _ (by decide)) (by decide) rfl (fun ls hl => ?_)
            replace hl := lv_sub hl [1, 2, 3, 4, 5, 6, 0, 7] rfl
            refine lv_goto (tgt := 106) C.1 C.2.1 dX12_deals_187 (by decide) ?_
            obtain ⟨g187_0, hw⟩ := hw
            exact hL106 _ _ hw _ _ _ ⟨g_l6_116, g187_0, wMc Wd rfl rfl ⟨hS.1, (rsF hS.2 (fun j => Wd52.2.2 55 j))⟩, lv_sub hl [0, 1, 2, 3, 4, 5, 6] rfl⟩
          · have hw := hw.2 (z_nle g_l7_106 g_l8_116 c120)
            refine lv_iload C.1 C.2.1 dX12_deals_123 (lv_at hl 5 rfl) ?_
            refine lv_if_eq (tgt := 175) C.1 C.2.1 dX12_deals_125 (by decide) (fun c125 => ?_) (fun c125 => ?_)
            · have hw := hw.1 (z0_eq g_l6_116 c125)
              refine lv_iconst (v := zI 0) C.1 C.2.1 dX12_deals_175 (by decide) ?_
              refine lv_istore (lv' := [(6, .int (zI 0)), (0, .ref h), (1, .int (zI x0)), (2, .int (zI x1)), (3, .int (zI l3_5)), (4, .int (zI l4_39)), (7, .int (zI l7_106)), (8, .int (zI l8_116))]) C.1 C.2.1 dX12_deals_176 hl (by decide) rfl (fun ls hl => ?_)
              replace hl := lv_sub hl [1, 2, 3, 4, 5, 0, 6, 7] rfl
              refine lv_iinc (v := zI (l8_116 + 1)) (lv' := [(8, .int (zI (l8_116 + 1))), (0, .ref h), (1, .int (zI x0)), (2, .int (zI x1)), (3, .int (zI l3_5)), (4, .int (zI l4_39)), (6, .int (zI 0)), (7, .int (zI l7_106))]) C.1 C.2.1 dX12_deals_178 hl (k := 7) rfl (zI_inc _ _ (by decide)) (by decide) rfl (fun ls hl => ?_)
              replace hl := lv_sub hl [1, 2, 3, 4, 5, 6, 7, 0] rfl
              refine lv_goto (tgt := 116) C.1 C.2.1 dX12_deals_181 (by decide) ?_
              obtain ⟨g181_0, hw⟩ := hw
              exact hL116 _ _ hw _ _ _ ⟨(show rng 0 from by decide), g181_0, wMc Wd rfl rfl ⟨hS.1, (rsF hS.2 (fun j => Wd52.2.2 55 j))⟩, lv_sub hl [0, 1, 2, 3, 4, 5, 6, 7] rfl⟩
            · have hw := hw.2 (z0_ne g_l6_116 c125)
              refine lv_aload_n C.1 C.2.1 dX12_deals_128 rfl (lv_at hl 0 rfl) ?_
              refine k_get (v := .ref (ad 55)) C Wd.1 KX12 0 55 wM0 (by decide) fl_X12_87 rfl dX12_deals_129 ?_
              refine lv_iload C.1 C.2.1 dX12_deals_132 (lv_at hl 6 rfl) ?_
              obtain ⟨a134, hw⟩ := hw
              refine k_ialdM (g := deal_52) C Wd 25 24 rfl rfl a134 (by decide) dX12_deals_134 ?_
              have g134 : rng (deal_52 l7_106) := rngL (fun j => Wd52.2.2 55 j) a134
              refine lv_iconst (v := zI (-1)) C.1 C.2.1 dX12_deals_135 (by decide) ?_
              refine lv_icmp_eq (tgt := 171) C.1 C.2.1 dX12_deals_136 (by decide) (fun c136 => ?_) (fun c136 => ?_)
              · have hw := hw.1 (z_eq g134 (show rng (-1) from by decide) c136)
                refine lv_iconst (v := zI 1) C.1 C.2.1 dX12_deals_171 (by decide) ?_
                refine lv_goto (tgt := 176) C.1 C.2.1 dX12_deals_172 (by decide) ?_
                refine lv_istore (lv' := [(6, .int (zI 1)), (0, .ref h), (1, .int (zI x0)), (2, .int (zI x1)), (3, .int (zI l3_5)), (4, .int (zI l4_39)), (7, .int (zI l7_106)), (8, .int (zI l8_116))]) C.1 C.2.1 dX12_deals_176 hl (by decide) rfl (fun ls hl => ?_)
                replace hl := lv_sub hl [1, 2, 3, 4, 5, 0, 6, 7] rfl
                refine lv_iinc (v := zI (l8_116 + 1)) (lv' := [(8, .int (zI (l8_116 + 1))), (0, .ref h), (1, .int (zI x0)), (2, .int (zI x1)), (3, .int (zI l3_5)), (4, .int (zI l4_39)), (6, .int (zI 1)), (7, .int (zI l7_106))]) C.1 C.2.1 dX12_deals_178 hl (k := 7) rfl (zI_inc _ _ (by decide)) (by decide) rfl (fun ls hl => ?_)
                replace hl := lv_sub hl [1, 2, 3, 4, 5, 6, 7, 0] rfl
                refine lv_goto (tgt := 116) C.1 C.2.1 dX12_deals_181 (by decide) ?_
                obtain ⟨g181_0, hw⟩ := hw
                exact hL116 _ _ hw _ _ _ ⟨(show rng 1 from by decide), g181_0, wMc Wd rfl rfl ⟨hS.1, (rsF hS.2 (fun j => Wd52.2.2 55 j))⟩, lv_sub hl [0, 1, 2, 3, 4, 5, 6, 7] rfl⟩
              · have hw := hw.2 (z_ne g134 (show rng (-1) from by decide) c136)
                refine lv_aload_n C.1 C.2.1 dX12_deals_139 rfl (lv_at hl 0 rfl) ?_
                refine k_get (v := .ref (ad 55)) C Wd.1 KX12 0 55 wM0 (by decide) fl_X12_87 rfl dX12_deals_140 ?_
                refine lv_iload C.1 C.2.1 dX12_deals_143 (lv_at hl 6 rfl) ?_
                obtain ⟨a145, hw⟩ := hw
                refine k_ialdM (g := deal_52) C Wd 25 24 rfl rfl a145 (by decide) dX12_deals_145 ?_
                refine lv_aload_n C.1 C.2.1 dX12_deals_146 rfl (lv_at hl 0 rfl) ?_
                refine k_get (v := .ref (ad 55)) C Wd.1 KX12 0 55 wM0 (by decide) fl_X12_87 rfl dX12_deals_147 ?_
                refine lv_iload C.1 C.2.1 dX12_deals_150 (lv_at hl 7 rfl) ?_
                obtain ⟨a152, hw⟩ := hw
                refine k_ialdM (g := deal_52) C Wd 25 24 rfl rfl a152 (by decide) dX12_deals_152 ?_
                have g152 : rng (deal_52 l8_116) := rngL (fun j => Wd52.2.2 55 j) a152
                refine lv_icmp_ne (tgt := 171) C.1 C.2.1 dX12_deals_153 (by decide) (fun c153 => ?_) (fun c153 => ?_)
                · have hw := hw.1 (z_ne g134 g152 c153)
                  refine lv_iconst (v := zI 1) C.1 C.2.1 dX12_deals_171 (by decide) ?_
                  refine lv_goto (tgt := 176) C.1 C.2.1 dX12_deals_172 (by decide) ?_
                  refine lv_istore (lv' := [(6, .int (zI 1)), (0, .ref h), (1, .int (zI x0)), (2, .int (zI x1)), (3, .int (zI l3_5)), (4, .int (zI l4_39)), (7, .int (zI l7_106)), (8, .int (zI l8_116))]) C.1 C.2.1 dX12_deals_176 hl (by decide) rfl (fun ls hl => ?_)
                  replace hl := lv_sub hl [1, 2, 3, 4, 5, 0, 6, 7] rfl
                  refine lv_iinc (v := zI (l8_116 + 1)) (lv' := [(8, .int (zI (l8_116 + 1))), (0, .ref h), (1, .int (zI x0)), (2, .int (zI x1)), (3, .int (zI l3_5)), (4, .int (zI l4_39)), (6, .int (zI 1)), (7, .int (zI l7_106))]) C.1 C.2.1 dX12_deals_178 hl (k := 7) rfl (zI_inc _ _ (by decide)) (by decide) rfl (fun ls hl => ?_)
                  replace hl := lv_sub hl [1, 2, 3, 4, 5, 6, 7, 0] rfl
                  refine lv_goto (tgt := 116) C.1 C.2.1 dX12_deals_181 (by decide) ?_
                  obtain ⟨g181_0, hw⟩ := hw
                  exact hL116 _ _ hw _ _ _ ⟨(show rng 1 from by decide), g181_0, wMc Wd rfl rfl ⟨hS.1, (rsF hS.2 (fun j => Wd52.2.2 55 j))⟩, lv_sub hl [0, 1, 2, 3, 4, 5, 6, 7] rfl⟩
                · have hw := hw.2 (z_eq g134 g152 c153)
                  refine lv_aload_n C.1 C.2.1 dX12_deals_156 rfl (lv_at hl 0 rfl) ?_
                  refine k_get (v := .ref (ad 54)) C Wd.1 KX12 0 54 wM0 (by decide) fl_X12_84 rfl dX12_deals_157 ?_
                  refine lv_iload C.1 C.2.1 dX12_deals_160 (lv_at hl 6 rfl) ?_
                  obtain ⟨a162, hw⟩ := hw
                  refine k_ialdM (g := (F 54)) C Wd 24 23 rfl rfl a162 (by decide) dX12_deals_162 ?_
                  have g162 : rng ((F 54) l7_106) := rngL (hS.2 54) a162
                  refine lv_iload C.1 C.2.1 dX12_deals_163 (lv_at hl 7 rfl) ?_
                  refine k_ishr (v := zI (zishr ((F 54) l7_106) l8_116)) C (zishr_eq _ _) dX12_deals_165 ?_
                  refine lv_iconst (v := zI 1) C.1 C.2.1 dX12_deals_166 (by decide) ?_
                  refine k_iand (v := zI (ziand (zishr ((F 54) l7_106) l8_116) 1)) C (ziand_eq _ _) dX12_deals_167 ?_
                  refine lv_if_ne (tgt := 175) C.1 C.2.1 dX12_deals_168 (by decide) (fun c168 => ?_) (fun c168 => ?_)
                  · have hw := hw.1 (z0_ne (rng_toInt _) c168)
                    refine lv_iconst (v := zI 0) C.1 C.2.1 dX12_deals_175 (by decide) ?_
                    refine lv_istore (lv' := [(6, .int (zI 0)), (0, .ref h), (1, .int (zI x0)), (2, .int (zI x1)), (3, .int (zI l3_5)), (4, .int (zI l4_39)), (7, .int (zI l7_106)), (8, .int (zI l8_116))]) C.1 C.2.1 dX12_deals_176 hl (by decide) rfl (fun ls hl => ?_)
                    replace hl := lv_sub hl [1, 2, 3, 4, 5, 0, 6, 7] rfl
                    refine lv_iinc (v := zI (l8_116 + 1)) (lv' := [(8, .int (zI (l8_116 + 1))), (0, .ref h), (1, .int (zI x0)), (2, .int (zI x1)), (3, .int (zI l3_5)), (4, .int (zI l4_39)), (6, .int (zI 0)), (7, .int (zI l7_106))]) C.1 C.2.1 dX12_deals_178 hl (k := 7) rfl (zI_inc _ _ (by decide)) (by decide) rfl (fun ls hl => ?_)
                    replace hl := lv_sub hl [1, 2, 3, 4, 5, 6, 7, 0] rfl
                    refine lv_goto (tgt := 116) C.1 C.2.1 dX12_deals_181 (by decide) ?_
                    obtain ⟨g181_0, hw⟩ := hw
                    exact hL116 _ _ hw _ _ _ ⟨(show rng 0 from by decide), g181_0, wMc Wd rfl rfl ⟨hS.1, (rsF hS.2 (fun j => Wd52.2.2 55 j))⟩, lv_sub hl [0, 1, 2, 3, 4, 5, 6, 7] rfl⟩
                  · have hw := hw.2 (z0_eq (rng_toInt _) c168)
                    refine lv_iconst (v := zI 1) C.1 C.2.1 dX12_deals_171 (by decide) ?_
                    refine lv_goto (tgt := 176) C.1 C.2.1 dX12_deals_172 (by decide) ?_
                    refine lv_istore (lv' := [(6, .int (zI 1)), (0, .ref h), (1, .int (zI x0)), (2, .int (zI x1)), (3, .int (zI l3_5)), (4, .int (zI l4_39)), (7, .int (zI l7_106)), (8, .int (zI l8_116))]) C.1 C.2.1 dX12_deals_176 hl (by decide) rfl (fun ls hl => ?_)
                    replace hl := lv_sub hl [1, 2, 3, 4, 5, 0, 6, 7] rfl
                    refine lv_iinc (v := zI (l8_116 + 1)) (lv' := [(8, .int (zI (l8_116 + 1))), (0, .ref h), (1, .int (zI x0)), (2, .int (zI x1)), (3, .int (zI l3_5)), (4, .int (zI l4_39)), (6, .int (zI 1)), (7, .int (zI l7_106))]) C.1 C.2.1 dX12_deals_178 hl (k := 7) rfl (zI_inc _ _ (by decide)) (by decide) rfl (fun ls hl => ?_)
                    replace hl := lv_sub hl [1, 2, 3, 4, 5, 6, 7, 0] rfl
                    refine lv_goto (tgt := 116) C.1 C.2.1 dX12_deals_181 (by decide) ?_
                    obtain ⟨g181_0, hw⟩ := hw
                    exact hL116 _ _ hw _ _ _ ⟨(show rng 1 from by decide), g181_0, wMc Wd rfl rfl ⟨hS.1, (rsF hS.2 (fun j => Wd52.2.2 55 j))⟩, lv_sub hl [0, 1, 2, 3, 4, 5, 6, 7] rfl⟩
      · have hw := hw.2 (z0_nlt g_l6_52 c54)
        refine lv_aload_n C.1 C.2.1 dX12_deals_57 rfl (lv_at hl 0 rfl) ?_
        refine k_get (v := .ref (ad 55)) C Wd.1 KX12 0 55 wM0 (by decide) fl_X12_87 rfl dX12_deals_58 ?_
        refine lv_iload C.1 C.2.1 dX12_deals_61 (lv_at hl 6 rfl) ?_
        refine lv_iconst (v := zI (-1)) C.1 C.2.1 dX12_deals_63 (by decide) ?_
        obtain ⟨a64, hw⟩ := hw
        have q64 : ∀ j : Nat, rng ((uZ deal_52 l6_52 (-1)) j) := ruZ (fun j => Wd52.2.2 55 j) (show rng (-1) from by decide)
        refine k_iastM (g := deal_52) C Wd 24 24 (sF F 55 (uZ deal_52 l6_52 (-1))) rfl rfl a64 (by decide) rfl rfl (rsF hS.2 q64) dX12_deals_64 (fun H locs Wd => ?_)
        refine lv_iload_n C.1 C.2.1 dX12_deals_65 rfl (lv_at hl 1 rfl) ?_
        refine lv_iload C.1 C.2.1 dX12_deals_66 (lv_at hl 6 rfl) ?_
        refine k_ishr (v := zI (zishr x0 l6_52)) C (zishr_eq _ _) dX12_deals_68 ?_
        refine lv_iconst (v := zI 1) C.1 C.2.1 dX12_deals_69 (by decide) ?_
        refine k_iand (v := zI (ziand (zishr x0 l6_52) 1)) C (ziand_eq _ _) dX12_deals_70 ?_
        refine lv_if_ne (tgt := 77) C.1 C.2.1 dX12_deals_71 (by decide) (fun c71 => ?_) (fun c71 => ?_)
        · have hw := hw.1 (z0_ne (rng_toInt _) c71)
          refine lv_aload_n C.1 C.2.1 dX12_deals_77 rfl (lv_at hl 0 rfl) ?_
          refine k_get (v := .ref (ad 55)) C Wd.1 KX12 0 55 wM0 (by decide) fl_X12_87 rfl dX12_deals_78 ?_
          refine lv_iload C.1 C.2.1 dX12_deals_81 (lv_at hl 6 rfl) ?_
          refine lv_iload C.1 C.2.1 dX12_deals_83 (lv_at hl 5 rfl) ?_
          refine lv_iload_n C.1 C.2.1 dX12_deals_85 rfl (lv_at hl 2 rfl) ?_
          obtain ⟨n86, hw⟩ := hw
          refine k_irem (v := zI (zirem l5_52 x1)) C (zI_ne0 g_x1 n86) (zirem_eq _ _) dX12_deals_86 ?_
          obtain ⟨a87, hw⟩ := hw
          obtain ⟨f87, e87⟩ : ∃ f : Int → Int, f = (uZ (uZ deal_52 l6_52 (-1)) l6_52 (zirem l5_52 x1)) := ⟨_, rfl⟩
          have hw := hw f87 e87
          have q87 : ∀ j : Nat, rng (f87 j) := by rw [e87]; exact ruZ q64 (rng_toInt _)
          refine k_iastM (g := (uZ deal_52 l6_52 (-1))) C Wd 24 24 (sF F 55 f87) rfl rfl a87 (by decide) e87.symm rfl (rsF hS.2 q87) dX12_deals_87 (fun H locs Wd => ?_)
          refine lv_iload C.1 C.2.1 dX12_deals_88 (lv_at hl 5 rfl) ?_
          refine lv_iload_n C.1 C.2.1 dX12_deals_90 rfl (lv_at hl 2 rfl) ?_
          obtain ⟨n91, hw⟩ := hw
          refine k_idiv (v := zI (zidiv l5_52 x1)) C (zI_ne0 g_x1 n91) (zidiv_eq _ _) dX12_deals_91 ?_
          refine lv_istore (lv' := [(5, .int (zI (zidiv l5_52 x1))), (0, .ref h), (1, .int (zI x0)), (2, .int (zI x1)), (3, .int (zI l3_5)), (4, .int (zI l4_39)), (6, .int (zI l6_52))]) C.1 C.2.1 dX12_deals_92 hl (by decide) rfl (fun ls hl => ?_)
          replace hl := lv_sub hl [1, 2, 3, 4, 5, 0, 6] rfl
          refine lv_iinc (v := zI (l6_52 - 1)) (lv' := [(6, .int (zI (l6_52 - 1))), (0, .ref h), (1, .int (zI x0)), (2, .int (zI x1)), (3, .int (zI l3_5)), (4, .int (zI l4_39)), (5, .int (zI (zidiv l5_52 x1)))]) C.1 C.2.1 dX12_deals_94 hl (k := 6) rfl (zI_dec _ _ (by decide)) (by decide) rfl (fun ls hl => ?_)
          replace hl := lv_sub hl [1, 2, 3, 4, 5, 6, 0] rfl
          refine lv_goto (tgt := 52) C.1 C.2.1 dX12_deals_97 (by decide) ?_
          obtain ⟨g97_0, hw⟩ := hw
          exact hL52 _ _ _ hw _ _ _ ⟨(rng_toInt _), g97_0, wMc Wd rfl rfl ⟨hS.1, (rsF hS.2 q87)⟩, lv_sub hl [0, 1, 2, 3, 4, 5, 6] rfl⟩
        · have hw := hw.2 (z0_eq (rng_toInt _) c71)
          refine lv_goto (tgt := 94) C.1 C.2.1 dX12_deals_74 (by decide) ?_
          refine lv_iinc (v := zI (l6_52 - 1)) (lv' := [(6, .int (zI (l6_52 - 1))), (0, .ref h), (1, .int (zI x0)), (2, .int (zI x1)), (3, .int (zI l3_5)), (4, .int (zI l4_39)), (5, .int (zI l5_52))]) C.1 C.2.1 dX12_deals_94 hl (k := 6) rfl (zI_dec _ _ (by decide)) (by decide) rfl (fun ls hl => ?_)
          replace hl := lv_sub hl [1, 2, 3, 4, 5, 6, 0] rfl
          refine lv_goto (tgt := 52) C.1 C.2.1 dX12_deals_97 (by decide) ?_
          obtain ⟨g97_0, hw⟩ := hw
          exact hL52 _ _ _ hw _ _ _ ⟨g_l5_52, g97_0, wMc Wd rfl rfl ⟨hS.1, (rsF hS.2 q64)⟩, lv_sub hl [0, 1, 2, 3, 4, 5, 6] rfl⟩
  · have hw := hw.2 (z_nle (show rng 6 from by decide) g_l4_5 c9)
    refine lv_iload_n C.1 C.2.1 dX12_deals_12 rfl (lv_at hl 3 rfl) ?_
    refine lv_iload_n C.1 C.2.1 dX12_deals_13 rfl (lv_at hl 1 rfl) ?_
    refine lv_iload C.1 C.2.1 dX12_deals_14 (lv_at hl 4 rfl) ?_
    refine k_ishr (v := zI (zishr x0 l4_5)) C (zishr_eq _ _) dX12_deals_16 ?_
    refine lv_iconst (v := zI 1) C.1 C.2.1 dX12_deals_17 (by decide) ?_
    refine k_iand (v := zI (ziand (zishr x0 l4_5) 1)) C (ziand_eq _ _) dX12_deals_18 ?_
    refine lv_iconst (v := zI 1) C.1 C.2.1 dX12_deals_19 (by decide) ?_
    refine lv_icmp_ne (tgt := 27) C.1 C.2.1 dX12_deals_20 (by decide) (fun c20 => ?_) (fun c20 => ?_)
    · have hw := hw.1 (z_ne (rng_toInt _) (show rng 1 from by decide) c20)
      refine lv_iconst (v := zI 1) C.1 C.2.1 dX12_deals_27 (by decide) ?_
      refine k_imul (v := zI (l3_5 * 1)) C (zI_imul _ _) dX12_deals_28 ?_
      refine lv_istore_n (lv' := [(3, .int (zI (l3_5 * 1))), (0, .ref h), (1, .int (zI x0)), (2, .int (zI x1)), (4, .int (zI l4_5))]) C.1 C.2.1 dX12_deals_29 rfl hl (by decide) rfl (fun ls hl => ?_)
      replace hl := lv_sub hl [1, 2, 3, 0, 4] rfl
      refine lv_iinc (v := zI (l4_5 + 1)) (lv' := [(4, .int (zI (l4_5 + 1))), (0, .ref h), (1, .int (zI x0)), (2, .int (zI x1)), (3, .int (zI (l3_5 * 1)))]) C.1 C.2.1 dX12_deals_30 hl (k := 4) rfl (zI_inc _ _ (by decide)) (by decide) rfl (fun ls hl => ?_)
      replace hl := lv_sub hl [1, 2, 3, 4, 0] rfl
      refine lv_goto (tgt := 5) C.1 C.2.1 dX12_deals_33 (by decide) ?_
      obtain ⟨g33_0, hw⟩ := hw
      obtain ⟨g33_1, hw⟩ := hw
      exact hL5 _ _ hw _ _ _ ⟨g33_0, g33_1, Wd, lv_sub hl [0, 1, 2, 3, 4] rfl⟩
    · have hw := hw.2 (z_eq (rng_toInt _) (show rng 1 from by decide) c20)
      refine lv_iload_n C.1 C.2.1 dX12_deals_23 rfl (lv_at hl 2 rfl) ?_
      refine lv_goto (tgt := 28) C.1 C.2.1 dX12_deals_24 (by decide) ?_
      refine k_imul (v := zI (l3_5 * x1)) C (zI_imul _ _) dX12_deals_28 ?_
      refine lv_istore_n (lv' := [(3, .int (zI (l3_5 * x1))), (0, .ref h), (1, .int (zI x0)), (2, .int (zI x1)), (4, .int (zI l4_5))]) C.1 C.2.1 dX12_deals_29 rfl hl (by decide) rfl (fun ls hl => ?_)
      replace hl := lv_sub hl [1, 2, 3, 0, 4] rfl
      refine lv_iinc (v := zI (l4_5 + 1)) (lv' := [(4, .int (zI (l4_5 + 1))), (0, .ref h), (1, .int (zI x0)), (2, .int (zI x1)), (3, .int (zI (l3_5 * x1)))]) C.1 C.2.1 dX12_deals_30 hl (k := 4) rfl (zI_inc _ _ (by decide)) (by decide) rfl (fun ls hl => ?_)
      replace hl := lv_sub hl [1, 2, 3, 4, 0] rfl
      refine lv_goto (tgt := 5) C.1 C.2.1 dX12_deals_33 (by decide) ?_
      obtain ⟨g33_0, hw⟩ := hw
      obtain ⟨g33_1, hw⟩ := hw
      exact hL5 _ _ hw _ _ _ ⟨g33_0, g33_1, Wd, lv_sub hl [0, 1, 2, 3, 4] rfl⟩
set_option maxHeartbeats 4000000 in
set_option maxRecDepth 100000 in
theorem mt_enough : ∀ (D : va_G) (h : Nat) (ad : Nat → Nat) (ca : Nat → ClassId) (I : Nat → Int) (F : Nat → Int → Int) (hS : rngS I F) (x0 : Int) (g_x0 : rng x0) (K : Int → (Int → Int) → Prop) (hw : wp_enough (F 54) (F 55) x0 K) (l : Launch) (sz : Nat), Met l yX12_enough (Cond.code yX12_enough cX12_enough 3 (some .int) :: gG) { frames := 2, cells := 0, slots := 0, locals := 92 } (cPre D (tM ca) (wM h ad ca I F) sz [.ref h, .int (zI x0)]) (va_Qi (fun (r : Int32) (u : (Int → Int)) => (∃ x : Int, r = zI x ∧ rng x ∧ K x u) ∧ rngS I (sF F 55 u)) (fun u t => cB D (va_A (wM h ad ca I F) sz) [] (wM h ad ca I (sF F 55 u)) t) (va_A (wM h ad ca I F) sz)) 0 0 (va_A (wM h ad ca I F) sz) := by
  intro D h ad ca I F hS x0 g_x0 K hw l sz
  refine Met.ofW (cc := cX12_enough) (maxL := 3) (ret := (some .int)) (by decide) rfl ?_
  intro p e s m args below meth c s₁ B hml hv
  obtain ⟨rfl, aks, rfl, Wd⟩ := k_enter hv
  have C : CallFix p m c cX12_enough 3 s _ gG RX12 := ⟨B.exec, B.bytes, hml, findClass_of_methodNamed B.named, fun w h => atoms_spec (ws := Cond.code yX12_enough cX12_enough 3 (some .int) :: gG) B.pre w (List.mem_cons_of_mem _ h)⟩
  have hr := B.returns
  have hlk := B.notSynchronized
  generalize va_A (wM h ad ca I F) s.heap.size = A at Wd ⊢
  replace Wd : wXM D ca s h ad I F s.heap A s.heap [] := ⟨Wd, hS⟩
  refine k_locals (Nat.le_of_ble_eq_true rfl) [(0, .ref h), (1, .int (zI x0))] rfl (fun ls hl => ?_)
  unfold wp_enough at hw
  refine lv_iconst (v := zI 0) C.1 C.2.1 dX12_enough_0 (by decide) ?_
  refine lv_istore_n (lv' := [(2, .int (zI 0)), (0, .ref h), (1, .int (zI x0))]) C.1 C.2.1 dX12_enough_1 rfl hl (by decide) rfl (fun ls hl => ?_)
  replace hl := lv_sub hl [1, 2, 0] rfl
  refine k_lp2 hw (fun (l2_2 : Int) (deal_2 : Int → Int) H locs ls => rng l2_2 ∧ wXM D ca s h ad I (sF F 55 deal_2) H A s.heap locs ∧ lv_has ls 3 [(0, .ref h), (1, .int (zI x0)), (2, .int (zI l2_2))]) (fun (l2_2 : Int) (deal_2 : Int → Int) ls => F0 m 2 ls []) (fun L2 hL2 l2_2 deal_2 hw H locs ls hi => ?_) _ _ _ ⟨(show rng 0 from by decide), wMc Wd rfl rfl ⟨hS.1, (rsF hS.2 (hS.2 55))⟩, lv_sub hl [0, 1, 2] rfl⟩
  obtain ⟨g_l2_2, Wd, hl⟩ := hi
  have Wd2 := Wd
  unfold wp_enough_2 at hw
  refine lv_aload_n C.1 C.2.1 dX12_enough_2 rfl (lv_at hl 0 rfl) ?_
  refine lv_iload_n C.1 C.2.1 dX12_enough_3 rfl (lv_at hl 1 rfl) ?_
  refine lv_iload_n C.1 C.2.1 dX12_enough_4 rfl (lv_at hl 2 rfl) ?_
  refine k_cMi Wd (k_runVM (rest := []) C aks Wd cs_X12_466 (mt_deals D h ad ca I (sF F 55 deal_2) Wd.2 x0 l2_2 g_x0 g_l2_2 _ hw l _) rfl rfl ⟨(Nat.le_of_ble_eq_true rfl), (Nat.le_of_ble_eq_true rfl)⟩ hl.1 rfl rfl (Nat.le_of_ble_eq_true rfl) ⟨(Nat.le_of_ble_eq_true rfl), (Nat.le_of_ble_eq_true rfl)⟩ dX12_enough_5) (fun r5 deal_r5 H locs g_r5 hw Wd => ?_)
  have Wc5 := Wd
  have Wd : wXM D ca s h ad I (sF F 55 deal_r5) H A s.heap locs := wMc Wd rfl rfl ⟨hS.1, (rsF hS.2 (fun j => Wc5.2.2 55 j))⟩
  refine lv_if_ne (tgt := 17) C.1 C.2.1 dX12_enough_8 (by decide) (fun c8 => ?_) (fun c8 => ?_)
  · have hw := hw.1 (z0_ne g_r5 c8)
    refine lv_iload_n C.1 C.2.1 dX12_enough_17 rfl (lv_at hl 2 rfl) ?_
    exact k_retMi C hr hlk rfl Wd (u := deal_r5) rfl rfl ⟨⟨_, rfl, g_l2_2, hw⟩, ⟨hS.1, (rsF hS.2 (fun j => Wc5.2.2 55 j))⟩⟩ dX12_enough_18
  · have hw := hw.2 (z0_eq g_r5 c8)
    refine lv_iinc (v := zI (l2_2 + 1)) (lv' := [(2, .int (zI (l2_2 + 1))), (0, .ref h), (1, .int (zI x0))]) C.1 C.2.1 dX12_enough_11 hl (k := 2) rfl (zI_inc _ _ (by decide)) (by decide) rfl (fun ls hl => ?_)
    replace hl := lv_sub hl [1, 2, 0] rfl
    refine lv_goto (tgt := 2) C.1 C.2.1 dX12_enough_14 (by decide) ?_
    obtain ⟨g14_0, hw⟩ := hw
    exact hL2 _ _ hw _ _ _ ⟨g14_0, wMc Wd rfl rfl ⟨hS.1, (rsF hS.2 (fun j => Wc5.2.2 55 j))⟩, lv_sub hl [0, 1, 2] rfl⟩
set_option maxHeartbeats 4000000 in
set_option maxRecDepth 100000 in
theorem mt_timesOf : ∀ (D : va_G) (h : Nat) (ad : Nat → Nat) (ca : Nat → ClassId) (I : Nat → Int) (F : Nat → Int → Int) (hS : rngS I F) (x0 : Int) (g_x0 : rng x0) (K : Int → Prop) (hw : wp_timesOf (F 2) (I 4) x0 K) (l : Launch) (sz : Nat), Met l yX12_timesOf (Cond.code yX12_timesOf cX12_timesOf 6 (some .int) :: gG) { frames := 2, cells := 0, slots := 0, locals := 86 } (cPre D (tM ca) (wM h ad ca I F) sz [.ref h, .int (zI x0)]) (vp_Si (fun r => ∃ x : Int, r = zI x ∧ rng x ∧ K x)) 0 0 (fun _ => False) := by
  intro D h ad ca I F hS x0 g_x0 K hw l sz
  refine Met.ofW (cc := cX12_timesOf) (maxL := 6) (ret := (some .int)) (by decide) rfl ?_
  intro p e s m args below meth c s₁ B hml hv
  obtain ⟨rfl, aks, rfl, Wd⟩ := k_enter hv
  have C : CallFix p m c cX12_timesOf 6 s _ gG RX12 := ⟨B.exec, B.bytes, hml, findClass_of_methodNamed B.named, fun w h => atoms_spec (ws := Cond.code yX12_timesOf cX12_timesOf 6 (some .int) :: gG) B.pre w (List.mem_cons_of_mem _ h)⟩
  have hr := B.returns
  have hlk := B.notSynchronized
  obtain ⟨A, Wd⟩ : ∃ A, wXM D ca s h ad I F s.heap A s.heap [] := ⟨_, Wd, hS⟩
  refine k_locals (Nat.le_of_ble_eq_true rfl) [(0, .ref h), (1, .int (zI x0))] rfl (fun ls hl => ?_)
  unfold wp_timesOf at hw
  refine lv_iconst (v := zI 0) C.1 C.2.1 dX12_timesOf_0 (by decide) ?_
  refine lv_istore_n (lv' := [(2, .int (zI 0)), (0, .ref h), (1, .int (zI x0))]) C.1 C.2.1 dX12_timesOf_1 rfl hl (by decide) rfl (fun ls hl => ?_)
  replace hl := lv_sub hl [1, 2, 0] rfl
  refine lv_iconst (v := zI 0) C.1 C.2.1 dX12_timesOf_2 (by decide) ?_
  refine lv_istore_n (lv' := [(3, .int (zI 0)), (0, .ref h), (1, .int (zI x0)), (2, .int (zI 0))]) C.1 C.2.1 dX12_timesOf_3 rfl hl (by decide) rfl (fun ls hl => ?_)
  replace hl := lv_sub hl [1, 2, 3, 0] rfl
  refine k_lp2 hw (fun (l2_4 : Int) (l3_4 : Int) H locs ls => rng l2_4 ∧ rng l3_4 ∧ wXM D ca s h ad I F H A s.heap locs ∧ H = s.heap ∧ locs = [] ∧ lv_has ls 6 [(0, .ref h), (1, .int (zI x0)), (2, .int (zI l2_4)), (3, .int (zI l3_4))]) (fun (l2_4 : Int) (l3_4 : Int) ls => F0 m 4 ls []) (fun L4 hL4 l2_4 l3_4 hw H locs ls hi => ?_) _ _ _ ⟨(show rng 0 from by decide), (show rng 0 from by decide), Wd, rfl, rfl, lv_sub hl [0, 1, 2, 3] rfl⟩
  obtain ⟨g_l2_4, g_l3_4, Wd, rfl, rfl, hl⟩ := hi
  have Wd4 := Wd
  unfold wp_timesOf_4 at hw
  refine lv_iload_n C.1 C.2.1 dX12_timesOf_4 rfl (lv_at hl 3 rfl) ?_
  refine lv_aload_n C.1 C.2.1 dX12_timesOf_5 rfl (lv_at hl 0 rfl) ?_
  refine k_get (v := .int (zI (I 4))) C Wd.1 KX12 0 4 wM0 (by decide) fl_X12_98 rfl dX12_timesOf_6 ?_
  refine lv_icmp_ge (tgt := 93) C.1 C.2.1 dX12_timesOf_9 (by decide) (fun c9 => ?_) (fun c9 => ?_)
  · have hw := hw.1 (z_le (hS.1 4) g_l3_4 c9)
    refine lv_iload_n C.1 C.2.1 dX12_timesOf_93 rfl (lv_at hl 2 rfl) ?_
    exact k_zretP C hr hlk rfl ⟨_, rfl, g_l2_4, hw⟩ dX12_timesOf_94
  · have hw := hw.2 (z_nle (hS.1 4) g_l3_4 c9)
    refine lv_aload_n C.1 C.2.1 dX12_timesOf_12 rfl (lv_at hl 0 rfl) ?_
    refine k_get (v := .ref (ad 2)) C Wd.1 KX12 0 2 wM0 (by decide) fl_X12_16 rfl dX12_timesOf_13 ?_
    refine lv_iload_n C.1 C.2.1 dX12_timesOf_16 rfl (lv_at hl 3 rfl) ?_
    obtain ⟨a17, hw⟩ := hw
    refine k_ialdM (g := (F 2)) C Wd 3 2 rfl rfl a17 (by decide) dX12_timesOf_17 ?_
    have g17 : rng ((F 2) l3_4) := rngL (hS.2 2) a17
    refine lv_istore (lv' := [(4, .int (zI ((F 2) l3_4))), (0, .ref h), (1, .int (zI x0)), (2, .int (zI l2_4)), (3, .int (zI l3_4))]) C.1 C.2.1 dX12_timesOf_18 hl (by decide) rfl (fun ls hl => ?_)
    replace hl := lv_sub hl [1, 2, 3, 4, 0] rfl
    refine lv_iload C.1 C.2.1 dX12_timesOf_20 (lv_at hl 4 rfl) ?_
    refine lv_bipush (v := zI 20) C.1 C.2.1 dX12_timesOf_22 (by decide) ?_
    refine lv_bipush (v := zI 25) C.1 C.2.1 dX12_timesOf_24 (by decide) ?_
    refine k_pi (k_runS (rest := []) C aks Wd.1 cs_X12_90 (mt_isIn D ((F 2) l3_4) 20 25 g17 (show rng 20 from by decide) (show rng 25 from by decide) _ hw l _) [] rfl (by decide) [] rfl rfl rfl ⟨(Nat.le_of_ble_eq_true rfl), (Nat.le_of_ble_eq_true rfl)⟩ hl.1 rfl rfl (Nat.le_of_ble_eq_true rfl) ⟨(Nat.le_of_ble_eq_true rfl), (Nat.le_of_ble_eq_true rfl)⟩ dX12_timesOf_26) (fun y26 hy => ?_)
    obtain ⟨r26, rfl, g_r26, hw⟩ := hy
    refine k_cut1 (fun (s0_61 : Int) H locs ls => rng s0_61 ∧ wp_timesOf_61 x0 l2_4 l3_4 L4 s0_61 ∧ wXM D ca s h ad I F H A s.heap locs ∧ H = s.heap ∧ locs = [] ∧ lv_has ls 6 [(0, .ref h), (1, .int (zI x0)), (2, .int (zI l2_4)), (3, .int (zI l3_4))]) (fun (s0_61 : Int) ls => F0 m 61 ls [.int (zI s0_61)]) (fun s0_61 H locs ls hi => ?_) (fun J61 => ?_)
    · obtain ⟨g_s0_61, hw, Wd, rfl, rfl, hl⟩ := hi
      have Wd61 := Wd
      unfold wp_timesOf_61 at hw
      refine lv_istore (lv' := [(5, .int (zI s0_61)), (0, .ref h), (1, .int (zI x0)), (2, .int (zI l2_4)), (3, .int (zI l3_4))]) C.1 C.2.1 dX12_timesOf_61 hl (by decide) rfl (fun ls hl => ?_)
      replace hl := lv_sub hl [1, 2, 3, 4, 0] rfl
      refine lv_iload_n C.1 C.2.1 dX12_timesOf_63 rfl (lv_at hl 2 rfl) ?_
      refine lv_iload C.1 C.2.1 dX12_timesOf_64 (lv_at hl 4 rfl) ?_
      refine lv_iconst (v := zI (-1)) C.1 C.2.1 dX12_timesOf_66 (by decide) ?_
      refine lv_icmp_eq (tgt := 84) C.1 C.2.1 dX12_timesOf_67 (by decide) (fun c67 => ?_) (fun c67 => ?_)
      · have hw := hw.1 (z_eq g_s0_61 (show rng (-1) from by decide) c67)
        refine lv_iconst (v := zI 0) C.1 C.2.1 dX12_timesOf_84 (by decide) ?_
        refine k_iadd (v := zI (l2_4 + 0)) C (zI_iadd _ _) dX12_timesOf_85 ?_
        refine lv_istore_n (lv' := [(2, .int (zI (l2_4 + 0))), (0, .ref h), (1, .int (zI x0)), (3, .int (zI l3_4)), (5, .int (zI s0_61))]) C.1 C.2.1 dX12_timesOf_86 rfl hl (by decide) rfl (fun ls hl => ?_)
        replace hl := lv_sub hl [1, 2, 0, 3, 4] rfl
        refine lv_iinc (v := zI (l3_4 + 1)) (lv' := [(3, .int (zI (l3_4 + 1))), (0, .ref h), (1, .int (zI x0)), (2, .int (zI (l2_4 + 0))), (5, .int (zI s0_61))]) C.1 C.2.1 dX12_timesOf_87 hl (k := 3) rfl (zI_inc _ _ (by decide)) (by decide) rfl (fun ls hl => ?_)
        replace hl := lv_sub hl [1, 2, 3, 0, 4] rfl
        refine lv_goto (tgt := 4) C.1 C.2.1 dX12_timesOf_90 (by decide) ?_
        obtain ⟨g90_0, hw⟩ := hw
        obtain ⟨g90_1, hw⟩ := hw
        exact hL4 _ _ hw _ _ _ ⟨g90_0, g90_1, Wd, rfl, rfl, lv_sub hl [0, 1, 2, 3] rfl⟩
      · have hw := hw.2 (z_ne g_s0_61 (show rng (-1) from by decide) c67)
        refine lv_iload_n C.1 C.2.1 dX12_timesOf_70 rfl (lv_at hl 1 rfl) ?_
        refine lv_iload C.1 C.2.1 dX12_timesOf_71 (lv_at hl 4 rfl) ?_
        refine k_ishr (v := zI (zishr x0 s0_61)) C (zishr_eq _ _) dX12_timesOf_73 ?_
        refine lv_iconst (v := zI 1) C.1 C.2.1 dX12_timesOf_74 (by decide) ?_
        refine k_iand (v := zI (ziand (zishr x0 s0_61) 1)) C (ziand_eq _ _) dX12_timesOf_75 ?_
        refine lv_iconst (v := zI 1) C.1 C.2.1 dX12_timesOf_76 (by decide) ?_
        refine lv_icmp_ne (tgt := 84) C.1 C.2.1 dX12_timesOf_77 (by decide) (fun c77 => ?_) (fun c77 => ?_)
        · have hw := hw.1 (z_ne (rng_toInt _) (show rng 1 from by decide) c77)
          refine lv_iconst (v := zI 0) C.1 C.2.1 dX12_timesOf_84 (by decide) ?_
          refine k_iadd (v := zI (l2_4 + 0)) C (zI_iadd _ _) dX12_timesOf_85 ?_
          refine lv_istore_n (lv' := [(2, .int (zI (l2_4 + 0))), (0, .ref h), (1, .int (zI x0)), (3, .int (zI l3_4)), (5, .int (zI s0_61))]) C.1 C.2.1 dX12_timesOf_86 rfl hl (by decide) rfl (fun ls hl => ?_)
          replace hl := lv_sub hl [1, 2, 0, 3, 4] rfl
          refine lv_iinc (v := zI (l3_4 + 1)) (lv' := [(3, .int (zI (l3_4 + 1))), (0, .ref h), (1, .int (zI x0)), (2, .int (zI (l2_4 + 0))), (5, .int (zI s0_61))]) C.1 C.2.1 dX12_timesOf_87 hl (k := 3) rfl (zI_inc _ _ (by decide)) (by decide) rfl (fun ls hl => ?_)
          replace hl := lv_sub hl [1, 2, 3, 0, 4] rfl
          refine lv_goto (tgt := 4) C.1 C.2.1 dX12_timesOf_90 (by decide) ?_
          obtain ⟨g90_0, hw⟩ := hw
          obtain ⟨g90_1, hw⟩ := hw
          exact hL4 _ _ hw _ _ _ ⟨g90_0, g90_1, Wd, rfl, rfl, lv_sub hl [0, 1, 2, 3] rfl⟩
        · have hw := hw.2 (z_eq (rng_toInt _) (show rng 1 from by decide) c77)
          refine lv_iconst (v := zI 1) C.1 C.2.1 dX12_timesOf_80 (by decide) ?_
          refine lv_goto (tgt := 85) C.1 C.2.1 dX12_timesOf_81 (by decide) ?_
          refine k_iadd (v := zI (l2_4 + 1)) C (zI_iadd _ _) dX12_timesOf_85 ?_
          refine lv_istore_n (lv' := [(2, .int (zI (l2_4 + 1))), (0, .ref h), (1, .int (zI x0)), (3, .int (zI l3_4)), (5, .int (zI s0_61))]) C.1 C.2.1 dX12_timesOf_86 rfl hl (by decide) rfl (fun ls hl => ?_)
          replace hl := lv_sub hl [1, 2, 0, 3, 4] rfl
          refine lv_iinc (v := zI (l3_4 + 1)) (lv' := [(3, .int (zI (l3_4 + 1))), (0, .ref h), (1, .int (zI x0)), (2, .int (zI (l2_4 + 1))), (5, .int (zI s0_61))]) C.1 C.2.1 dX12_timesOf_87 hl (k := 3) rfl (zI_inc _ _ (by decide)) (by decide) rfl (fun ls hl => ?_)
          replace hl := lv_sub hl [1, 2, 3, 0, 4] rfl
          refine lv_goto (tgt := 4) C.1 C.2.1 dX12_timesOf_90 (by decide) ?_
          obtain ⟨g90_0, hw⟩ := hw
          obtain ⟨g90_1, hw⟩ := hw
          exact hL4 _ _ hw _ _ _ ⟨g90_0, g90_1, Wd, rfl, rfl, lv_sub hl [0, 1, 2, 3] rfl⟩
    refine lv_if_eq (tgt := 40) C.1 C.2.1 dX12_timesOf_29 (by decide) (fun c29 => ?_) (fun c29 => ?_)
    · have hw := hw.1 (z0_eq g_r26 c29)
      refine lv_iload C.1 C.2.1 dX12_timesOf_40 (lv_at hl 4 rfl) ?_
      refine lv_bipush (v := zI 100) C.1 C.2.1 dX12_timesOf_42 (by decide) ?_
      refine lv_bipush (v := zI 105) C.1 C.2.1 dX12_timesOf_44 (by decide) ?_
      refine k_pi (k_runS (rest := []) C aks Wd.1 cs_X12_90 (mt_isIn D ((F 2) l3_4) 100 105 g17 (show rng 100 from by decide) (show rng 105 from by decide) _ hw l _) [] rfl (by decide) [] rfl rfl rfl ⟨(Nat.le_of_ble_eq_true rfl), (Nat.le_of_ble_eq_true rfl)⟩ hl.1 rfl rfl (Nat.le_of_ble_eq_true rfl) ⟨(Nat.le_of_ble_eq_true rfl), (Nat.le_of_ble_eq_true rfl)⟩ dX12_timesOf_46) (fun y46 hy => ?_)
      obtain ⟨r46, rfl, g_r46, hw⟩ := hy
      refine lv_if_eq (tgt := 60) C.1 C.2.1 dX12_timesOf_49 (by decide) (fun c49 => ?_) (fun c49 => ?_)
      · have hw := hw.1 (z0_eq g_r46 c49)
        refine lv_iconst (v := zI (-1)) C.1 C.2.1 dX12_timesOf_60 (by decide) ?_
        exact J61 (-1) _ _ _ ⟨(show rng (-1) from by decide), hw, Wd, rfl, rfl, lv_sub hl [0, 1, 2, 3] rfl⟩
      · have hw := hw.2 (z0_ne g_r46 c49)
        refine lv_iload C.1 C.2.1 dX12_timesOf_52 (lv_at hl 4 rfl) ?_
        refine lv_bipush (v := zI 100) C.1 C.2.1 dX12_timesOf_54 (by decide) ?_
        refine k_isub (v := zI (((F 2) l3_4) - 100)) C (zI_isub _ _) dX12_timesOf_56 ?_
        refine lv_goto (tgt := 61) C.1 C.2.1 dX12_timesOf_57 (by decide) ?_
        obtain ⟨g57_0, hw⟩ := hw
        exact J61 (((F 2) l3_4) - 100) _ _ _ ⟨g57_0, hw, Wd, rfl, rfl, lv_sub hl [0, 1, 2, 3] rfl⟩
    · have hw := hw.2 (z0_ne g_r26 c29)
      refine lv_iload C.1 C.2.1 dX12_timesOf_32 (lv_at hl 4 rfl) ?_
      refine lv_bipush (v := zI 20) C.1 C.2.1 dX12_timesOf_34 (by decide) ?_
      refine k_isub (v := zI (((F 2) l3_4) - 20)) C (zI_isub _ _) dX12_timesOf_36 ?_
      refine lv_goto (tgt := 61) C.1 C.2.1 dX12_timesOf_37 (by decide) ?_
      obtain ⟨g37_0, hw⟩ := hw
      exact J61 (((F 2) l3_4) - 20) _ _ _ ⟨g37_0, hw, Wd, rfl, rfl, lv_sub hl [0, 1, 2, 3] rfl⟩
set_option maxHeartbeats 4000000 in
set_option maxRecDepth 100000 in
theorem mt_spills : ∀ (D : va_G) (h : Nat) (ad : Nat → Nat) (ca : Nat → ClassId) (I : Nat → Int) (F : Nat → Int → Int) (hS : rngS I F) (x0 : Int) (x1 : Int) (g_x0 : rng x0) (g_x1 : rng x1) (K : Int → (Int → Int) → Prop) (hw : wp_spills (F 2) (I 4) (F 54) (F 55) x0 x1 K) (l : Launch) (sz : Nat), Met l yX12_spills (Cond.code yX12_spills cX12_spills 5 (some .int) :: gG) { frames := 3, cells := 0, slots := 0, locals := 111 } (cPre D (tM ca) (wM h ad ca I F) sz [.ref h, .int (zI x0), .int (zI x1)]) (va_Qi (fun (r : Int32) (u : (Int → Int)) => (∃ x : Int, r = zI x ∧ rng x ∧ K x u) ∧ rngS I (sF F 55 u)) (fun u t => cB D (va_A (wM h ad ca I F) sz) [] (wM h ad ca I (sF F 55 u)) t) (va_A (wM h ad ca I F) sz)) 0 0 (va_A (wM h ad ca I F) sz) := by
  intro D h ad ca I F hS x0 x1 g_x0 g_x1 K hw l sz
  refine Met.ofW (cc := cX12_spills) (maxL := 5) (ret := (some .int)) (by decide) rfl ?_
  intro p e s m args below meth c s₁ B hml hv
  obtain ⟨rfl, aks, rfl, Wd⟩ := k_enter hv
  have C : CallFix p m c cX12_spills 5 s _ gG RX12 := ⟨B.exec, B.bytes, hml, findClass_of_methodNamed B.named, fun w h => atoms_spec (ws := Cond.code yX12_spills cX12_spills 5 (some .int) :: gG) B.pre w (List.mem_cons_of_mem _ h)⟩
  have hr := B.returns
  have hlk := B.notSynchronized
  generalize va_A (wM h ad ca I F) s.heap.size = A at Wd ⊢
  replace Wd : wXM D ca s h ad I F s.heap A s.heap [] := ⟨Wd, hS⟩
  refine k_locals (Nat.le_of_ble_eq_true rfl) [(0, .ref h), (1, .int (zI x0)), (2, .int (zI x1))] rfl (fun ls hl => ?_)
  unfold wp_spills at hw
  refine lv_iconst (v := zI (-1)) C.1 C.2.1 dX12_spills_0 (by decide) ?_
  refine lv_istore_n (lv' := [(3, .int (zI (-1))), (0, .ref h), (1, .int (zI x0)), (2, .int (zI x1))]) C.1 C.2.1 dX12_spills_1 rfl hl (by decide) rfl (fun ls hl => ?_)
  replace hl := lv_sub hl [1, 2, 3, 0] rfl
  refine lv_iconst (v := zI 0) C.1 C.2.1 dX12_spills_2 (by decide) ?_
  refine lv_istore (lv' := [(4, .int (zI 0)), (0, .ref h), (1, .int (zI x0)), (2, .int (zI x1)), (3, .int (zI (-1)))]) C.1 C.2.1 dX12_spills_3 hl (by decide) rfl (fun ls hl => ?_)
  replace hl := lv_sub hl [1, 2, 3, 4, 0] rfl
  refine k_lp3 hw (fun (l3_5 : Int) (l4_5 : Int) (deal_5 : Int → Int) H locs ls => rng l3_5 ∧ rng l4_5 ∧ wXM D ca s h ad I (sF F 55 deal_5) H A s.heap locs ∧ lv_has ls 5 [(0, .ref h), (1, .int (zI x0)), (2, .int (zI x1)), (3, .int (zI l3_5)), (4, .int (zI l4_5))]) (fun (l3_5 : Int) (l4_5 : Int) (deal_5 : Int → Int) ls => F0 m 5 ls []) (fun L5 hL5 l3_5 l4_5 deal_5 hw H locs ls hi => ?_) _ _ _ ⟨(show rng (-1) from by decide), (show rng 0 from by decide), wMc Wd rfl rfl ⟨hS.1, (rsF hS.2 (hS.2 55))⟩, lv_sub hl [0, 1, 2, 3, 4] rfl⟩
  obtain ⟨g_l3_5, g_l4_5, Wd, hl⟩ := hi
  have Wd5 := Wd
  unfold wp_spills_5 at hw
  refine lv_iload C.1 C.2.1 dX12_spills_5 (lv_at hl 4 rfl) ?_
  refine lv_bipush (v := zI 64) C.1 C.2.1 dX12_spills_7 (by decide) ?_
  refine lv_icmp_ge (tgt := 63) C.1 C.2.1 dX12_spills_9 (by decide) (fun c9 => ?_) (fun c9 => ?_)
  · have hw := hw.1 (z_le (show rng 64 from by decide) g_l4_5 c9)
    refine lv_iload_n C.1 C.2.1 dX12_spills_63 rfl (lv_at hl 3 rfl) ?_
    exact k_retMi C hr hlk rfl Wd (u := deal_5) rfl rfl ⟨⟨_, rfl, g_l3_5, hw⟩, ⟨hS.1, (rsF hS.2 (fun j => Wd5.2.2 55 j))⟩⟩ dX12_spills_64
  · have hw := hw.2 (z_nle (show rng 64 from by decide) g_l4_5 c9)
    refine lv_iload C.1 C.2.1 dX12_spills_12 (lv_at hl 4 rfl) ?_
    refine lv_iload_n C.1 C.2.1 dX12_spills_14 rfl (lv_at hl 1 rfl) ?_
    refine lv_iconst (v := zI (-1)) C.1 C.2.1 dX12_spills_15 (by decide) ?_
    refine k_ixor (v := zI (zixor x0 (-1))) C (zixor_eq _ _) dX12_spills_16 ?_
    refine k_iand (v := zI (ziand l4_5 (zixor x0 (-1)))) C (ziand_eq _ _) dX12_spills_17 ?_
    refine lv_if_ne (tgt := 57) C.1 C.2.1 dX12_spills_18 (by decide) (fun c18 => ?_) (fun c18 => ?_)
    · have hw := hw.1 (z0_ne (rng_toInt _) c18)
      refine lv_iinc (v := zI (l4_5 + 1)) (lv' := [(4, .int (zI (l4_5 + 1))), (0, .ref h), (1, .int (zI x0)), (2, .int (zI x1)), (3, .int (zI l3_5))]) C.1 C.2.1 dX12_spills_57 hl (k := 4) rfl (zI_inc _ _ (by decide)) (by decide) rfl (fun ls hl => ?_)
      replace hl := lv_sub hl [1, 2, 3, 4, 0] rfl
      refine lv_goto (tgt := 5) C.1 C.2.1 dX12_spills_60 (by decide) ?_
      obtain ⟨g60_0, hw⟩ := hw
      exact hL5 _ _ _ hw _ _ _ ⟨g_l3_5, g60_0, wMc Wd rfl rfl ⟨hS.1, (rsF hS.2 (fun j => Wd5.2.2 55 j))⟩, lv_sub hl [0, 1, 2, 3, 4] rfl⟩
    · have hw := hw.2 (z0_eq (rng_toInt _) c18)
      refine lv_iload_n C.1 C.2.1 dX12_spills_21 rfl (lv_at hl 3 rfl) ?_
      refine lv_iconst (v := zI (-1)) C.1 C.2.1 dX12_spills_22 (by decide) ?_
      refine k_cut0 (fun  H locs ls => wp_spills_40 (F 54) x0 x1 deal_5 l3_5 l4_5 L5 ∧ wXM D ca s h ad I (sF F 55 deal_5) H A s.heap locs ∧ lv_has ls 5 [(0, .ref h), (1, .int (zI x0)), (2, .int (zI x1)), (3, .int (zI l3_5)), (4, .int (zI l4_5))]) (fun  ls => F0 m 40 ls []) (fun  H locs ls hi => ?_) (fun J40 => ?_)
      · obtain ⟨hw, Wd, hl⟩ := hi
        have Wd40 := Wd
        unfold wp_spills_40 at hw
        refine lv_aload_n C.1 C.2.1 dX12_spills_40 rfl (lv_at hl 0 rfl) ?_
        refine lv_iload_n C.1 C.2.1 dX12_spills_41 rfl (lv_at hl 1 rfl) ?_
        refine lv_iload C.1 C.2.1 dX12_spills_42 (lv_at hl 4 rfl) ?_
        refine lv_iconst (v := zI (-1)) C.1 C.2.1 dX12_spills_44 (by decide) ?_
        refine k_ixor (v := zI (zixor l4_5 (-1))) C (zixor_eq _ _) dX12_spills_45 ?_
        refine k_iand (v := zI (ziand x0 (zixor l4_5 (-1)))) C (ziand_eq _ _) dX12_spills_46 ?_
        refine lv_iload_n C.1 C.2.1 dX12_spills_47 rfl (lv_at hl 2 rfl) ?_
        refine k_cMi Wd (k_runVM (rest := []) C aks Wd cs_X12_466 (mt_deals D h ad ca I (sF F 55 deal_5) Wd.2 (ziand x0 (zixor l4_5 (-1))) x1 (rng_toInt _) g_x1 _ hw l _) rfl rfl ⟨(Nat.le_of_ble_eq_true rfl), (Nat.le_of_ble_eq_true rfl)⟩ hl.1 rfl rfl (Nat.le_of_ble_eq_true rfl) ⟨(Nat.le_of_ble_eq_true rfl), (Nat.le_of_ble_eq_true rfl)⟩ dX12_spills_48) (fun r48 deal_r48 H locs g_r48 hw Wd => ?_)
        have Wc48 := Wd
        have Wd : wXM D ca s h ad I (sF F 55 deal_r48) H A s.heap locs := wMc Wd rfl rfl ⟨hS.1, (rsF hS.2 (fun j => Wc48.2.2 55 j))⟩
        refine lv_if_eq (tgt := 57) C.1 C.2.1 dX12_spills_51 (by decide) (fun c51 => ?_) (fun c51 => ?_)
        · have hw := hw.1 (z0_eq g_r48 c51)
          refine lv_iinc (v := zI (l4_5 + 1)) (lv' := [(4, .int (zI (l4_5 + 1))), (0, .ref h), (1, .int (zI x0)), (2, .int (zI x1)), (3, .int (zI l3_5))]) C.1 C.2.1 dX12_spills_57 hl (k := 4) rfl (zI_inc _ _ (by decide)) (by decide) rfl (fun ls hl => ?_)
          replace hl := lv_sub hl [1, 2, 3, 4, 0] rfl
          refine lv_goto (tgt := 5) C.1 C.2.1 dX12_spills_60 (by decide) ?_
          obtain ⟨g60_0, hw⟩ := hw
          exact hL5 _ _ _ hw _ _ _ ⟨g_l3_5, g60_0, wMc Wd rfl rfl ⟨hS.1, (rsF hS.2 (fun j => Wc48.2.2 55 j))⟩, lv_sub hl [0, 1, 2, 3, 4] rfl⟩
        · have hw := hw.2 (z0_ne g_r48 c51)
          refine lv_iload C.1 C.2.1 dX12_spills_54 (lv_at hl 4 rfl) ?_
          refine lv_istore_n (lv' := [(3, .int (zI l4_5)), (0, .ref h), (1, .int (zI x0)), (2, .int (zI x1)), (4, .int (zI l4_5))]) C.1 C.2.1 dX12_spills_56 rfl hl (by decide) rfl (fun ls hl => ?_)
          replace hl := lv_sub hl [1, 2, 3, 0, 4] rfl
          refine lv_iinc (v := zI (l4_5 + 1)) (lv' := [(4, .int (zI (l4_5 + 1))), (0, .ref h), (1, .int (zI x0)), (2, .int (zI x1)), (3, .int (zI l4_5))]) C.1 C.2.1 dX12_spills_57 hl (k := 4) rfl (zI_inc _ _ (by decide)) (by decide) rfl (fun ls hl => ?_)
          replace hl := lv_sub hl [1, 2, 3, 4, 0] rfl
          refine lv_goto (tgt := 5) C.1 C.2.1 dX12_spills_60 (by decide) ?_
          obtain ⟨g60_0, hw⟩ := hw
          exact hL5 _ _ _ hw _ _ _ ⟨g_l4_5, g60_0, wMc Wd rfl rfl ⟨hS.1, (rsF hS.2 (fun j => Wc48.2.2 55 j))⟩, lv_sub hl [0, 1, 2, 3, 4] rfl⟩
      refine lv_icmp_eq (tgt := 40) C.1 C.2.1 dX12_spills_23 (by decide) (fun c23 => ?_) (fun c23 => ?_)
      · have hw := hw.1 (z_eq g_l3_5 (show rng (-1) from by decide) c23)
        exact J40  _ _ _ ⟨hw, wMc Wd rfl rfl ⟨hS.1, (rsF hS.2 (fun j => Wd5.2.2 55 j))⟩, lv_sub hl [0, 1, 2, 3, 4] rfl⟩
      · have hw := hw.2 (z_ne g_l3_5 (show rng (-1) from by decide) c23)
        refine lv_aload_n C.1 C.2.1 dX12_spills_26 rfl (lv_at hl 0 rfl) ?_
        refine lv_iload C.1 C.2.1 dX12_spills_27 (lv_at hl 4 rfl) ?_
        refine k_pi (k_runVM (rest := []) C aks Wd cs_X12_469 (mt_timesOf D h ad ca I (sF F 55 deal_5) Wd.2 l4_5 g_l4_5 _ hw l _) rfl rfl ⟨(Nat.le_of_ble_eq_true rfl), (Nat.le_of_ble_eq_true rfl)⟩ hl.1 rfl rfl (Nat.le_of_ble_eq_true rfl) ⟨(Nat.le_of_ble_eq_true rfl), (Nat.le_of_ble_eq_true rfl)⟩ dX12_spills_29) (fun y29 hy => ?_)
        obtain ⟨r29, rfl, g_r29, hw⟩ := hy
        refine lv_aload_n C.1 C.2.1 dX12_spills_32 rfl (lv_at hl 0 rfl) ?_
        refine lv_iload_n C.1 C.2.1 dX12_spills_33 rfl (lv_at hl 3 rfl) ?_
        refine k_pi (k_runVM (rest := [.int (zI r29)]) C aks Wd cs_X12_469 (mt_timesOf D h ad ca I (sF F 55 deal_5) Wd.2 l3_5 g_l3_5 _ hw l _) rfl rfl ⟨(Nat.le_of_ble_eq_true rfl), (Nat.le_of_ble_eq_true rfl)⟩ hl.1 rfl rfl (Nat.le_of_ble_eq_true rfl) ⟨(Nat.le_of_ble_eq_true rfl), (Nat.le_of_ble_eq_true rfl)⟩ dX12_spills_34) (fun y34 hy => ?_)
        obtain ⟨r34, rfl, g_r34, hw⟩ := hy
        refine lv_icmp_ge (tgt := 57) C.1 C.2.1 dX12_spills_37 (by decide) (fun c37 => ?_) (fun c37 => ?_)
        · have hw := hw.1 (z_le g_r34 g_r29 c37)
          refine lv_iinc (v := zI (l4_5 + 1)) (lv' := [(4, .int (zI (l4_5 + 1))), (0, .ref h), (1, .int (zI x0)), (2, .int (zI x1)), (3, .int (zI l3_5))]) C.1 C.2.1 dX12_spills_57 hl (k := 4) rfl (zI_inc _ _ (by decide)) (by decide) rfl (fun ls hl => ?_)
          replace hl := lv_sub hl [1, 2, 3, 4, 0] rfl
          refine lv_goto (tgt := 5) C.1 C.2.1 dX12_spills_60 (by decide) ?_
          obtain ⟨g60_0, hw⟩ := hw
          exact hL5 _ _ _ hw _ _ _ ⟨g_l3_5, g60_0, wMc Wd rfl rfl ⟨hS.1, (rsF hS.2 (fun j => Wd5.2.2 55 j))⟩, lv_sub hl [0, 1, 2, 3, 4] rfl⟩
        · have hw := hw.2 (z_nle g_r34 g_r29 c37)
          exact J40  _ _ _ ⟨hw, wMc Wd rfl rfl ⟨hS.1, (rsF hS.2 (fun j => Wd5.2.2 55 j))⟩, lv_sub hl [0, 1, 2, 3, 4] rfl⟩
set_option maxHeartbeats 4000000 in
set_option maxRecDepth 100000 in
theorem mt_registers : ∀ (D : va_G) (h : Nat) (ad : Nat → Nat) (ca : Nat → ClassId) (I : Nat → Int) (F : Nat → Int → Int) (hS : rngS I F) (x0 : Int) (x1 : Int) (g_x0 : rng x0) (g_x1 : rng x1) (K : Int → (Int → Int) → Int → (Int → Int) → (Int → Int) → Prop) (hw : wp_registers (F 0) (F 1) (F 2) (I 4) (F 54) (F 55) x0 x1 K) (l : Launch) (sz : Nat), Met l yX12_registers (Cond.code yX12_registers cX12_registers 5 (some .int) :: gG) { frames := 813, cells := 0, slots := 0, locals := 18306 } (cPre D (tM ca) (wM h ad ca I F) sz [.ref h, .int (zI x0), .int (zI x1)]) (va_Qi (fun (r : Int32) (u : (Int → Int) × (Int) × (Int → Int) × (Int → Int)) => (∃ x : Int, r = zI x ∧ rng x ∧ K x u.1 u.2.1 u.2.2.1 u.2.2.2) ∧ rngS (sI I 4 u.2.1) (sF (sF (sF F 2 u.1) 54 u.2.2.1) 55 u.2.2.2)) (fun u t => cB D (va_A (wM h ad ca I F) sz) [] (wM h ad ca (sI I 4 u.2.1) (sF (sF (sF F 2 u.1) 54 u.2.2.1) 55 u.2.2.2)) t) (va_A (wM h ad ca I F) sz)) 0 0 (va_A (wM h ad ca I F) sz) := by
  intro D h ad ca I F hS x0 x1 g_x0 g_x1 K hw l sz
  refine Met.ofW (cc := cX12_registers) (maxL := 5) (ret := (some .int)) (by decide) rfl ?_
  intro p e s m args below meth c s₁ B hml hv
  obtain ⟨rfl, aks, rfl, Wd⟩ := k_enter hv
  have C : CallFix p m c cX12_registers 5 s _ gG RX12 := ⟨B.exec, B.bytes, hml, findClass_of_methodNamed B.named, fun w h => atoms_spec (ws := Cond.code yX12_registers cX12_registers 5 (some .int) :: gG) B.pre w (List.mem_cons_of_mem _ h)⟩
  have hr := B.returns
  have hlk := B.notSynchronized
  generalize va_A (wM h ad ca I F) s.heap.size = A at Wd ⊢
  replace Wd : wXM D ca s h ad I F s.heap A s.heap [] := ⟨Wd, hS⟩
  refine k_locals (Nat.le_of_ble_eq_true rfl) [(0, .ref h), (1, .int (zI x0)), (2, .int (zI x1))] rfl (fun ls hl => ?_)
  unfold wp_registers at hw
  refine lv_iload_n C.1 C.2.1 dX12_registers_0 rfl (lv_at hl 1 rfl) ?_
  refine k_pi (k_runS (rest := []) C aks Wd.1 cs_X12_249 (mt_isSlot D x0 g_x0 _ hw l _) [] rfl (by decide) [] rfl rfl rfl ⟨(Nat.le_of_ble_eq_true rfl), (Nat.le_of_ble_eq_true rfl)⟩ hl.1 rfl rfl (Nat.le_of_ble_eq_true rfl) ⟨(Nat.le_of_ble_eq_true rfl), (Nat.le_of_ble_eq_true rfl)⟩ dX12_registers_1) (fun y1 hy => ?_)
  obtain ⟨r1, rfl, g_r1, hw⟩ := hy
  refine lv_if_eq (tgt := 33) C.1 C.2.1 dX12_registers_4 (by decide) (fun c4 => ?_) (fun c4 => ?_)
  · have hw := hw.1 (z0_eq g_r1 c4)
    refine lv_iconst (v := zI (-1)) C.1 C.2.1 dX12_registers_33 (by decide) ?_
    exact k_retMi C hr hlk rfl Wd (u := ((F 2), (I 4), (F 54), (F 55))) rfl rfl ⟨⟨_, rfl, (show rng (-1) from by decide), hw⟩, ⟨(rsI hS.1 (hS.1 4)), (rsF (rsF (rsF hS.2 (hS.2 2)) (hS.2 54)) (hS.2 55))⟩⟩ dX12_registers_34
  · have hw := hw.2 (z0_ne g_r1 c4)
    refine lv_iload_n C.1 C.2.1 dX12_registers_7 rfl (lv_at hl 2 rfl) ?_
    refine k_cut0 (fun  H locs ls => wp_registers_35 K (F 0) (F 1) (F 2) (I 4) (F 54) (F 55) x0 x1 ∧ wXM D ca s h ad I F H A s.heap locs ∧ lv_has ls 5 [(0, .ref h), (1, .int (zI x0)), (2, .int (zI x1))]) (fun  ls => F0 m 35 ls []) (fun  H locs ls hi => ?_) (fun J35 => ?_)
    · obtain ⟨hw, Wd, hl⟩ := hi
      have Wd35 := Wd
      unfold wp_registers_35 at hw
      refine lv_aload_n C.1 C.2.1 dX12_registers_35 rfl (lv_at hl 0 rfl) ?_
      refine lv_iload_n C.1 C.2.1 dX12_registers_36 rfl (lv_at hl 1 rfl) ?_
      refine k_cMv Wd (k_runVM (rest := []) C aks Wd cs_X12_472 (mt_clashIn D h ad ca I F Wd.2 x0 g_x0 _ hw l _) rfl rfl ⟨(Nat.le_of_ble_eq_true rfl), (Nat.le_of_ble_eq_true rfl)⟩ hl.1 rfl rfl (Nat.le_of_ble_eq_true rfl) ⟨(Nat.le_of_ble_eq_true rfl), (Nat.le_of_ble_eq_true rfl)⟩ dX12_registers_37) (fun u37 H locs hw Wd => ?_)
      obtain ⟨row_r37, many_r37, clashes_r37⟩ := u37
      dsimp only at hw
      have Wc37 := Wd
      have Wd : wXM D ca s h ad (sI I 4 many_r37) (sF (sF F 2 row_r37) 54 clashes_r37) H A s.heap locs := wMc Wd rfl rfl ⟨(rsI hS.1 (Wc37.2.1 4)), (rsF (rsF hS.2 (fun j => Wc37.2.2 2 j)) (fun j => Wc37.2.2 54 j))⟩
      refine lv_aload_n C.1 C.2.1 dX12_registers_40 rfl (lv_at hl 0 rfl) ?_
      refine k_pi (k_runVM (rest := []) C aks Wd cs_X12_475 (mt_inRow D h ad ca (sI I 4 many_r37) (sF (sF F 2 row_r37) 54 clashes_r37) Wd.2   _ hw l _) rfl rfl ⟨(Nat.le_of_ble_eq_true rfl), (Nat.le_of_ble_eq_true rfl)⟩ hl.1 rfl rfl (Nat.le_of_ble_eq_true rfl) ⟨(Nat.le_of_ble_eq_true rfl), (Nat.le_of_ble_eq_true rfl)⟩ dX12_registers_41) (fun y41 hy => ?_)
      obtain ⟨r41, rfl, g_r41, hw⟩ := hy
      refine lv_istore_n (lv' := [(3, .int (zI r41)), (0, .ref h), (1, .int (zI x0)), (2, .int (zI x1))]) C.1 C.2.1 dX12_registers_44 rfl hl (by decide) rfl (fun ls hl => ?_)
      replace hl := lv_sub hl [1, 2, 3, 0] rfl
      refine lv_iload_n C.1 C.2.1 dX12_registers_45 rfl (lv_at hl 2 rfl) ?_
      refine lv_bipush (v := zI 15) C.1 C.2.1 dX12_registers_46 (by decide) ?_
      refine lv_icmp_le (tgt := 61) C.1 C.2.1 dX12_registers_48 (by decide) (fun c48 => ?_) (fun c48 => ?_)
      · have hw := hw.1 (z_le g_x1 (show rng 15 from by decide) c48)
        refine lv_aload_n C.1 C.2.1 dX12_registers_61 rfl (lv_at hl 0 rfl) ?_
        refine lv_iload_n C.1 C.2.1 dX12_registers_62 rfl (lv_at hl 3 rfl) ?_
        refine k_cMi Wd (k_runVM (rest := []) C aks Wd cs_X12_481 (mt_enough D h ad ca (sI I 4 many_r37) (sF (sF F 2 row_r37) 54 clashes_r37) Wd.2 r41 g_r41 _ hw l _) rfl rfl ⟨(Nat.le_of_ble_eq_true rfl), (Nat.le_of_ble_eq_true rfl)⟩ hl.1 rfl rfl (Nat.le_of_ble_eq_true rfl) ⟨(Nat.le_of_ble_eq_true rfl), (Nat.le_of_ble_eq_true rfl)⟩ dX12_registers_63) (fun r63 deal_r63 H locs g_r63 hw Wd => ?_)
        have Wc63 := Wd
        have Wd : wXM D ca s h ad (sI I 4 many_r37) (sF (sF (sF F 2 row_r37) 54 clashes_r37) 55 deal_r63) H A s.heap locs := wMc Wd rfl rfl ⟨(rsI hS.1 (Wc37.2.1 4)), (rsF (rsF (rsF hS.2 (fun j => Wc37.2.2 2 j)) (fun j => Wc37.2.2 54 j)) (fun j => Wc63.2.2 55 j))⟩
        refine lv_istore (lv' := [(4, .int (zI r63)), (0, .ref h), (1, .int (zI x0)), (2, .int (zI x1)), (3, .int (zI r41))]) C.1 C.2.1 dX12_registers_66 hl (by decide) rfl (fun ls hl => ?_)
        replace hl := lv_sub hl [1, 2, 3, 4, 0] rfl
        refine lv_iload_n C.1 C.2.1 dX12_registers_68 rfl (lv_at hl 2 rfl) ?_
        refine lv_if_ne (tgt := 77) C.1 C.2.1 dX12_registers_69 (by decide) (fun c69 => ?_) (fun c69 => ?_)
        · have hw := hw.1 (z0_ne g_x1 c69)
          refine lv_aload_n C.1 C.2.1 dX12_registers_77 rfl (lv_at hl 0 rfl) ?_
          refine k_get (v := .ref (ad 55)) C Wd.1 KX12 0 55 wM0 (by decide) fl_X12_87 rfl dX12_registers_78 ?_
          refine lv_iload_n C.1 C.2.1 dX12_registers_81 rfl (lv_at hl 2 rfl) ?_
          refine lv_bipush (v := zI 10) C.1 C.2.1 dX12_registers_82 (by decide) ?_
          refine k_isub (v := zI (x1 - 10)) C (zI_isub _ _) dX12_registers_84 ?_
          obtain ⟨a85, hw⟩ := hw
          refine k_ialdM (g := deal_r63) C Wd 25 24 rfl rfl a85 (by decide) dX12_registers_85 ?_
          have g85 : rng (deal_r63 (x1 - 10)) := rngL (fun j => Wc63.2.2 55 j) a85
          exact k_retMi C hr hlk rfl Wd (u := (row_r37, many_r37, clashes_r37, deal_r63)) rfl rfl ⟨⟨_, rfl, g85, hw⟩, ⟨(rsI hS.1 (Wc37.2.1 4)), (rsF (rsF (rsF hS.2 (fun j => Wc37.2.2 2 j)) (fun j => Wc37.2.2 54 j)) (fun j => Wc63.2.2 55 j))⟩⟩ dX12_registers_86
        · have hw := hw.2 (z0_eq g_x1 c69)
          refine lv_iload C.1 C.2.1 dX12_registers_72 (lv_at hl 4 rfl) ?_
          refine lv_goto (tgt := 86) C.1 C.2.1 dX12_registers_74 (by decide) ?_
          exact k_retMi C hr hlk rfl Wd (u := (row_r37, many_r37, clashes_r37, deal_r63)) rfl rfl ⟨⟨_, rfl, g_r63, hw⟩, ⟨(rsI hS.1 (Wc37.2.1 4)), (rsF (rsF (rsF hS.2 (fun j => Wc37.2.2 2 j)) (fun j => Wc37.2.2 54 j)) (fun j => Wc63.2.2 55 j))⟩⟩ dX12_registers_86
      · have hw := hw.2 (z_nle g_x1 (show rng 15 from by decide) c48)
        refine lv_aload_n C.1 C.2.1 dX12_registers_51 rfl (lv_at hl 0 rfl) ?_
        refine lv_iload_n C.1 C.2.1 dX12_registers_52 rfl (lv_at hl 3 rfl) ?_
        refine lv_iload_n C.1 C.2.1 dX12_registers_53 rfl (lv_at hl 2 rfl) ?_
        refine lv_bipush (v := zI 20) C.1 C.2.1 dX12_registers_54 (by decide) ?_
        refine k_isub (v := zI (x1 - 20)) C (zI_isub _ _) dX12_registers_56 ?_
        obtain ⟨g57_0, hw⟩ := hw
        refine k_cMi Wd (k_runVM (rest := []) C aks Wd cs_X12_478 (mt_spills D h ad ca (sI I 4 many_r37) (sF (sF F 2 row_r37) 54 clashes_r37) Wd.2 r41 (x1 - 20) g_r41 g57_0 _ hw l _) rfl rfl ⟨(Nat.le_of_ble_eq_true rfl), (Nat.le_of_ble_eq_true rfl)⟩ hl.1 rfl rfl (Nat.le_of_ble_eq_true rfl) ⟨(Nat.le_of_ble_eq_true rfl), (Nat.le_of_ble_eq_true rfl)⟩ dX12_registers_57) (fun r57 deal_r57 H locs g_r57 hw Wd => ?_)
        have Wc57 := Wd
        have Wd : wXM D ca s h ad (sI I 4 many_r37) (sF (sF (sF F 2 row_r37) 54 clashes_r37) 55 deal_r57) H A s.heap locs := wMc Wd rfl rfl ⟨(rsI hS.1 (Wc37.2.1 4)), (rsF (rsF (rsF hS.2 (fun j => Wc37.2.2 2 j)) (fun j => Wc37.2.2 54 j)) (fun j => Wc57.2.2 55 j))⟩
        exact k_retMi C hr hlk rfl Wd (u := (row_r37, many_r37, clashes_r37, deal_r57)) rfl rfl ⟨⟨_, rfl, g_r57, hw⟩, ⟨(rsI hS.1 (Wc37.2.1 4)), (rsF (rsF (rsF hS.2 (fun j => Wc37.2.2 2 j)) (fun j => Wc37.2.2 54 j)) (fun j => Wc57.2.2 55 j))⟩⟩ dX12_registers_60
    refine lv_if_eq (tgt := 35) C.1 C.2.1 dX12_registers_8 (by decide) (fun c8 => ?_) (fun c8 => ?_)
    · have hw := hw.1 (z0_eq g_x1 c8)
      exact J35  _ _ _ ⟨hw, Wd, lv_sub hl [0, 1, 2] rfl⟩
    · have hw := hw.2 (z0_ne g_x1 c8)
      refine lv_iload_n C.1 C.2.1 dX12_registers_11 rfl (lv_at hl 2 rfl) ?_
      refine lv_bipush (v := zI 10) C.1 C.2.1 dX12_registers_12 (by decide) ?_
      refine lv_bipush (v := zI 15) C.1 C.2.1 dX12_registers_14 (by decide) ?_
      refine k_pi (k_runS (rest := []) C aks Wd.1 cs_X12_90 (mt_isIn D x1 10 15 g_x1 (show rng 10 from by decide) (show rng 15 from by decide) _ hw l _) [] rfl (by decide) [] rfl rfl rfl ⟨(Nat.le_of_ble_eq_true rfl), (Nat.le_of_ble_eq_true rfl)⟩ hl.1 rfl rfl (Nat.le_of_ble_eq_true rfl) ⟨(Nat.le_of_ble_eq_true rfl), (Nat.le_of_ble_eq_true rfl)⟩ dX12_registers_16) (fun y16 hy => ?_)
      obtain ⟨r16, rfl, g_r16, hw⟩ := hy
      refine lv_if_ne (tgt := 35) C.1 C.2.1 dX12_registers_19 (by decide) (fun c19 => ?_) (fun c19 => ?_)
      · have hw := hw.1 (z0_ne g_r16 c19)
        exact J35  _ _ _ ⟨hw, Wd, lv_sub hl [0, 1, 2] rfl⟩
      · have hw := hw.2 (z0_eq g_r16 c19)
        refine lv_iload_n C.1 C.2.1 dX12_registers_22 rfl (lv_at hl 2 rfl) ?_
        refine lv_bipush (v := zI 20) C.1 C.2.1 dX12_registers_23 (by decide) ?_
        refine lv_bipush (v := zI 26) C.1 C.2.1 dX12_registers_25 (by decide) ?_
        refine k_pi (k_runS (rest := []) C aks Wd.1 cs_X12_90 (mt_isIn D x1 20 26 g_x1 (show rng 20 from by decide) (show rng 26 from by decide) _ hw l _) [] rfl (by decide) [] rfl rfl rfl ⟨(Nat.le_of_ble_eq_true rfl), (Nat.le_of_ble_eq_true rfl)⟩ hl.1 rfl rfl (Nat.le_of_ble_eq_true rfl) ⟨(Nat.le_of_ble_eq_true rfl), (Nat.le_of_ble_eq_true rfl)⟩ dX12_registers_27) (fun y27 hy => ?_)
        obtain ⟨r27, rfl, g_r27, hw⟩ := hy
        refine lv_if_ne (tgt := 35) C.1 C.2.1 dX12_registers_30 (by decide) (fun c30 => ?_) (fun c30 => ?_)
        · have hw := hw.1 (z0_ne g_r27 c30)
          exact J35  _ _ _ ⟨hw, Wd, lv_sub hl [0, 1, 2] rfl⟩
        · have hw := hw.2 (z0_eq g_r27 c30)
          refine lv_iconst (v := zI (-1)) C.1 C.2.1 dX12_registers_33 (by decide) ?_
          exact k_retMi C hr hlk rfl Wd (u := ((F 2), (I 4), (F 54), (F 55))) rfl rfl ⟨⟨_, rfl, (show rng (-1) from by decide), hw⟩, ⟨(rsI hS.1 (hS.1 4)), (rsF (rsF (rsF hS.2 (hS.2 2)) (hS.2 54)) (hS.2 55))⟩⟩ dX12_registers_34
set_option maxHeartbeats 4000000 in
set_option maxRecDepth 100000 in
theorem mt_clash : ∀ (D : va_G) (h : Nat) (ad : Nat → Nat) (ca : Nat → ClassId) (I : Nat → Int) (F : Nat → Int → Int) (hS : rngS I F) (x0 : Int) (x1 : Int) (x2 : Int) (g_x0 : rng x0) (g_x1 : rng x1) (g_x2 : rng x2) (K : Int → (Int → Int) → Int → (Int → Int) → Prop) (hw : wp_clash (F 0) (F 1) (F 2) (I 4) (F 54) x0 x1 x2 K) (l : Launch) (sz : Nat), Met l yX12_clash (Cond.code yX12_clash cX12_clash 4 (some .int) :: gG) { frames := 813, cells := 0, slots := 0, locals := 18306 } (cPre D (tM ca) (wM h ad ca I F) sz [.ref h, .int (zI x0), .int (zI x1), .int (zI x2)]) (va_Qi (fun (r : Int32) (u : (Int → Int) × (Int) × (Int → Int)) => (∃ x : Int, r = zI x ∧ rng x ∧ K x u.1 u.2.1 u.2.2) ∧ rngS (sI I 4 u.2.1) (sF (sF F 2 u.1) 54 u.2.2)) (fun u t => cB D (va_A (wM h ad ca I F) sz) [] (wM h ad ca (sI I 4 u.2.1) (sF (sF F 2 u.1) 54 u.2.2)) t) (va_A (wM h ad ca I F) sz)) 0 0 (va_A (wM h ad ca I F) sz) := by
  intro D h ad ca I F hS x0 x1 x2 g_x0 g_x1 g_x2 K hw l sz
  refine Met.ofW (cc := cX12_clash) (maxL := 4) (ret := (some .int)) (by decide) rfl ?_
  intro p e s m args below meth c s₁ B hml hv
  obtain ⟨rfl, aks, rfl, Wd⟩ := k_enter hv
  have C : CallFix p m c cX12_clash 4 s _ gG RX12 := ⟨B.exec, B.bytes, hml, findClass_of_methodNamed B.named, fun w h => atoms_spec (ws := Cond.code yX12_clash cX12_clash 4 (some .int) :: gG) B.pre w (List.mem_cons_of_mem _ h)⟩
  have hr := B.returns
  have hlk := B.notSynchronized
  generalize va_A (wM h ad ca I F) s.heap.size = A at Wd ⊢
  replace Wd : wXM D ca s h ad I F s.heap A s.heap [] := ⟨Wd, hS⟩
  refine k_locals (Nat.le_of_ble_eq_true rfl) [(0, .ref h), (1, .int (zI x0)), (2, .int (zI x1)), (3, .int (zI x2))] rfl (fun ls hl => ?_)
  unfold wp_clash at hw
  refine lv_iload_n C.1 C.2.1 dX12_clash_0 rfl (lv_at hl 1 rfl) ?_
  refine k_pi (k_runS (rest := []) C aks Wd.1 cs_X12_249 (mt_isSlot D x0 g_x0 _ hw l _) [] rfl (by decide) [] rfl rfl rfl ⟨(Nat.le_of_ble_eq_true rfl), (Nat.le_of_ble_eq_true rfl)⟩ hl.1 rfl rfl (Nat.le_of_ble_eq_true rfl) ⟨(Nat.le_of_ble_eq_true rfl), (Nat.le_of_ble_eq_true rfl)⟩ dX12_clash_1) (fun y1 hy => ?_)
  obtain ⟨r1, rfl, g_r1, hw⟩ := hy
  refine lv_if_eq (tgt := 30) C.1 C.2.1 dX12_clash_4 (by decide) (fun c4 => ?_) (fun c4 => ?_)
  · have hw := hw.1 (z0_eq g_r1 c4)
    refine lv_iconst (v := zI (-1)) C.1 C.2.1 dX12_clash_30 (by decide) ?_
    exact k_retMi C hr hlk rfl Wd (u := ((F 2), (I 4), (F 54))) rfl rfl ⟨⟨_, rfl, (show rng (-1) from by decide), hw⟩, ⟨(rsI hS.1 (hS.1 4)), (rsF (rsF hS.2 (hS.2 2)) (hS.2 54))⟩⟩ dX12_clash_31
  · have hw := hw.2 (z0_ne g_r1 c4)
    refine lv_iload_n C.1 C.2.1 dX12_clash_7 rfl (lv_at hl 2 rfl) ?_
    refine lv_iconst (v := zI 0) C.1 C.2.1 dX12_clash_8 (by decide) ?_
    refine lv_iconst (v := zI 5) C.1 C.2.1 dX12_clash_9 (by decide) ?_
    refine k_pi (k_runS (rest := []) C aks Wd.1 cs_X12_90 (mt_isIn D x1 0 5 g_x1 (show rng 0 from by decide) (show rng 5 from by decide) _ hw l _) [] rfl (by decide) [] rfl rfl rfl ⟨(Nat.le_of_ble_eq_true rfl), (Nat.le_of_ble_eq_true rfl)⟩ hl.1 rfl rfl (Nat.le_of_ble_eq_true rfl) ⟨(Nat.le_of_ble_eq_true rfl), (Nat.le_of_ble_eq_true rfl)⟩ dX12_clash_10) (fun y10 hy => ?_)
    obtain ⟨r10, rfl, g_r10, hw⟩ := hy
    refine lv_if_eq (tgt := 30) C.1 C.2.1 dX12_clash_13 (by decide) (fun c13 => ?_) (fun c13 => ?_)
    · have hw := hw.1 (z0_eq g_r10 c13)
      refine lv_iconst (v := zI (-1)) C.1 C.2.1 dX12_clash_30 (by decide) ?_
      exact k_retMi C hr hlk rfl Wd (u := ((F 2), (I 4), (F 54))) rfl rfl ⟨⟨_, rfl, (show rng (-1) from by decide), hw⟩, ⟨(rsI hS.1 (hS.1 4)), (rsF (rsF hS.2 (hS.2 2)) (hS.2 54))⟩⟩ dX12_clash_31
    · have hw := hw.2 (z0_ne g_r10 c13)
      refine lv_iload_n C.1 C.2.1 dX12_clash_16 rfl (lv_at hl 3 rfl) ?_
      refine lv_iconst (v := zI 0) C.1 C.2.1 dX12_clash_17 (by decide) ?_
      refine lv_iconst (v := zI 5) C.1 C.2.1 dX12_clash_18 (by decide) ?_
      refine k_pi (k_runS (rest := []) C aks Wd.1 cs_X12_90 (mt_isIn D x2 0 5 g_x2 (show rng 0 from by decide) (show rng 5 from by decide) _ hw l _) [] rfl (by decide) [] rfl rfl rfl ⟨(Nat.le_of_ble_eq_true rfl), (Nat.le_of_ble_eq_true rfl)⟩ hl.1 rfl rfl (Nat.le_of_ble_eq_true rfl) ⟨(Nat.le_of_ble_eq_true rfl), (Nat.le_of_ble_eq_true rfl)⟩ dX12_clash_19) (fun y19 hy => ?_)
      obtain ⟨r19, rfl, g_r19, hw⟩ := hy
      refine lv_if_eq (tgt := 30) C.1 C.2.1 dX12_clash_22 (by decide) (fun c22 => ?_) (fun c22 => ?_)
      · have hw := hw.1 (z0_eq g_r19 c22)
        refine lv_iconst (v := zI (-1)) C.1 C.2.1 dX12_clash_30 (by decide) ?_
        exact k_retMi C hr hlk rfl Wd (u := ((F 2), (I 4), (F 54))) rfl rfl ⟨⟨_, rfl, (show rng (-1) from by decide), hw⟩, ⟨(rsI hS.1 (hS.1 4)), (rsF (rsF hS.2 (hS.2 2)) (hS.2 54))⟩⟩ dX12_clash_31
      · have hw := hw.2 (z0_ne g_r19 c22)
        refine lv_iload_n C.1 C.2.1 dX12_clash_25 rfl (lv_at hl 2 rfl) ?_
        refine lv_iload_n C.1 C.2.1 dX12_clash_26 rfl (lv_at hl 3 rfl) ?_
        refine lv_icmp_ne (tgt := 32) C.1 C.2.1 dX12_clash_27 (by decide) (fun c27 => ?_) (fun c27 => ?_)
        · have hw := hw.1 (z_ne g_x1 g_x2 c27)
          refine lv_aload_n C.1 C.2.1 dX12_clash_32 rfl (lv_at hl 0 rfl) ?_
          refine lv_iload_n C.1 C.2.1 dX12_clash_33 rfl (lv_at hl 1 rfl) ?_
          refine k_cMv Wd (k_runVM (rest := []) C aks Wd cs_X12_472 (mt_clashIn D h ad ca I F Wd.2 x0 g_x0 _ hw l _) rfl rfl ⟨(Nat.le_of_ble_eq_true rfl), (Nat.le_of_ble_eq_true rfl)⟩ hl.1 rfl rfl (Nat.le_of_ble_eq_true rfl) ⟨(Nat.le_of_ble_eq_true rfl), (Nat.le_of_ble_eq_true rfl)⟩ dX12_clash_34) (fun u34 H locs hw Wd => ?_)
          obtain ⟨row_r34, many_r34, clashes_r34⟩ := u34
          dsimp only at hw
          have Wc34 := Wd
          have Wd : wXM D ca s h ad (sI I 4 many_r34) (sF (sF F 2 row_r34) 54 clashes_r34) H A s.heap locs := wMc Wd rfl rfl ⟨(rsI hS.1 (Wc34.2.1 4)), (rsF (rsF hS.2 (fun j => Wc34.2.2 2 j)) (fun j => Wc34.2.2 54 j))⟩
          refine lv_aload_n C.1 C.2.1 dX12_clash_37 rfl (lv_at hl 0 rfl) ?_
          refine k_get (v := .ref (ad 54)) C Wd.1 KX12 0 54 wM0 (by decide) fl_X12_84 rfl dX12_clash_38 ?_
          refine lv_iload_n C.1 C.2.1 dX12_clash_41 rfl (lv_at hl 2 rfl) ?_
          obtain ⟨a42, hw⟩ := hw
          refine k_ialdM (g := clashes_r34) C Wd 24 23 rfl rfl a42 (by decide) dX12_clash_42 ?_
          have g42 : rng (clashes_r34 x1) := rngL (fun j => Wc34.2.2 54 j) a42
          refine lv_iload_n C.1 C.2.1 dX12_clash_43 rfl (lv_at hl 3 rfl) ?_
          refine k_ishr (v := zI (zishr (clashes_r34 x1) x2)) C (zishr_eq _ _) dX12_clash_44 ?_
          refine lv_iconst (v := zI 1) C.1 C.2.1 dX12_clash_45 (by decide) ?_
          refine k_iand (v := zI (ziand (zishr (clashes_r34 x1) x2) 1)) C (ziand_eq _ _) dX12_clash_46 ?_
          exact k_retMi C hr hlk rfl Wd (u := (row_r34, many_r34, clashes_r34)) rfl rfl ⟨⟨_, rfl, (rng_toInt _), hw⟩, ⟨(rsI hS.1 (Wc34.2.1 4)), (rsF (rsF hS.2 (fun j => Wc34.2.2 2 j)) (fun j => Wc34.2.2 54 j))⟩⟩ dX12_clash_47
        · have hw := hw.2 (z_eq g_x1 g_x2 c27)
          refine lv_iconst (v := zI (-1)) C.1 C.2.1 dX12_clash_30 (by decide) ?_
          exact k_retMi C hr hlk rfl Wd (u := ((F 2), (I 4), (F 54))) rfl rfl ⟨⟨_, rfl, (show rng (-1) from by decide), hw⟩, ⟨(rsI hS.1 (hS.1 4)), (rsF (rsF hS.2 (hS.2 2)) (hS.2 54))⟩⟩ dX12_clash_31
