set_option maxHeartbeats 4000000 in
set_option maxRecDepth 100000 in
theorem mk_F_isHere_12 : ∀ (D : va_G) (ad : Nat → Nat) (ca : Nat → ClassId) (rf : Nat → Nat → Option Nat) (σ : Sg) (hS : rngK σ) (hRF : RFok ad rf) (x0 : Int) (g_x0 : rng x0) (K : Int → Prop) (hw : wp5_F_isHere σ 12 x0 K) (l : Launch) (sz : Nat), Met l yX1_isHere (Cond.code yX1_isHere cX1_isHere 2 (some .boolean) :: gG) { frames := 1, cells := 0, slots := 0, locals := 64 } (cPre D (tC ca) (wK ad ca rf σ) sz [.ref (ad 12), .int (zI x0)]) (vp_Si (fun r => ∃ x : Int, r = zI x ∧ rng x ∧ K x)) 0 0 (fun _ => False) := by
  intro D ad ca rf σ hS hRF x0 g_x0 K hw l sz
  refine Met.ofW (cc := cX1_isHere) (maxL := 2) (ret := (some .boolean)) (by decide) rfl ?_
  intro p e s m args below meth c s₁ B hml hv
  obtain ⟨rfl, aks, rfl, Wd⟩ := k_enter hv
  have C : CallFix p m c cX1_isHere 2 s _ gG RX1 := ⟨B.exec, B.bytes, hml, findClass_of_methodNamed B.named, fun w h => atoms_spec (ws := Cond.code yX1_isHere cX1_isHere 2 (some .boolean) :: gG) B.pre w (List.mem_cons_of_mem _ h)⟩
  have hr := B.returns
  have hlk := B.notSynchronized
  obtain ⟨A, Wd⟩ : ∃ A, wXK D ad ca rf s σ s.heap A s.heap [] := ⟨_, Wd, hS, hRF⟩
  refine k_locals (Nat.le_of_ble_eq_true rfl) [(0, .ref (ad 12)), (1, .int (zI x0))] rfl (fun ls hl => ?_)
  unfold wp5_F_isHere at hw
  refine lv_iload_n C.1 C.2.1 dX1_isHere_0 rfl (lv_at hl 1 rfl) ?_
  refine lv_if_lt (tgt := 22) C.1 C.2.1 dX1_isHere_1 (by decide) (fun c1 => ?_) (fun c1 => ?_)
  · have hw := hw.1 (z0_lt g_x0 c1)
    refine lv_iconst (v := zI 0) C.1 C.2.1 dX1_isHere_22 (by decide) ?_
    exact k_zretP C hr hlk (by decide) ⟨_, rfl, (show rng 0 from by decide), hw⟩ dX1_isHere_23
  · have hw := hw.2 (z0_nlt g_x0 c1)
    refine lv_iload_n C.1 C.2.1 dX1_isHere_4 rfl (lv_at hl 1 rfl) ?_
    refine lv_aload_n C.1 C.2.1 dX1_isHere_5 rfl (lv_at hl 0 rfl) ?_
    refine k_get (v := .int (zI (σ.1 12 1))) C Wd.1 KX1 _ 1 (cx12 _) (by decide) fl_X1_57 rfl dX1_isHere_6 ?_
    refine lv_icmp_ge (tgt := 22) C.1 C.2.1 dX1_isHere_9 (by decide) (fun c9 => ?_) (fun c9 => ?_)
    · have hw := hw.1 (z_le (hS.1 12 1) g_x0 c9)
      refine lv_iconst (v := zI 0) C.1 C.2.1 dX1_isHere_22 (by decide) ?_
      exact k_zretP C hr hlk (by decide) ⟨_, rfl, (show rng 0 from by decide), hw⟩ dX1_isHere_23
    · have hw := hw.2 (z_nle (hS.1 12 1) g_x0 c9)
      refine lv_iload_n C.1 C.2.1 dX1_isHere_12 rfl (lv_at hl 1 rfl) ?_
      refine lv_bipush (v := zI 40) C.1 C.2.1 dX1_isHere_13 (by decide) ?_
      refine lv_icmp_ge (tgt := 22) C.1 C.2.1 dX1_isHere_15 (by decide) (fun c15 => ?_) (fun c15 => ?_)
      · have hw := hw.1 (z_le (show rng 40 from by decide) g_x0 c15)
        refine lv_iconst (v := zI 0) C.1 C.2.1 dX1_isHere_22 (by decide) ?_
        exact k_zretP C hr hlk (by decide) ⟨_, rfl, (show rng 0 from by decide), hw⟩ dX1_isHere_23
      · have hw := hw.2 (z_nle (show rng 40 from by decide) g_x0 c15)
        refine lv_iconst (v := zI 1) C.1 C.2.1 dX1_isHere_18 (by decide) ?_
        refine lv_goto (tgt := 23) C.1 C.2.1 dX1_isHere_19 (by decide) ?_
        exact k_zretP C hr hlk (by decide) ⟨_, rfl, (show rng 1 from by decide), hw⟩ dX1_isHere_23
set_option maxHeartbeats 4000000 in
set_option maxRecDepth 100000 in
theorem mk_W_isRead : ∀ (D : va_G) (x0 : Int) (g_x0 : rng x0) (K : Int → Prop) (hw : wp5_W_isRead x0 K) (l : Launch) (sz : Nat), Met l yX8_isRead (Cond.code yX8_isRead cX8_isRead 1 (some .boolean) :: gG) { frames := 1, cells := 0, slots := 0, locals := 64 } (cPre D [] [] sz [.int (zI x0)]) (vp_Si (fun r => ∃ x : Int, r = zI x ∧ rng x ∧ K x)) 0 0 (fun _ => False) := by
  intro D x0 g_x0 K hw l sz
  refine Met.ofW (cc := cX8_isRead) (maxL := 1) (ret := (some .boolean)) (by decide) rfl ?_
  intro p e s m args below meth c s₁ B hml hv
  obtain ⟨rfl, aks, rfl, Wd⟩ := k_enter hv
  have C : CallFix p m c cX8_isRead 1 s _ gG RX8 := ⟨B.exec, B.bytes, hml, findClass_of_methodNamed B.named, fun w h => atoms_spec (ws := Cond.code yX8_isRead cX8_isRead 1 (some .boolean) :: gG) B.pre w (List.mem_cons_of_mem _ h)⟩
  have hr := B.returns
  have hlk := B.notSynchronized
  obtain ⟨A, Wd⟩ : ∃ A, wX D [] s [] s.heap A s.heap [] := ⟨_, Wd⟩
  refine k_locals (Nat.le_of_ble_eq_true rfl) [(0, .int (zI x0))] rfl (fun ls hl => ?_)
  unfold wp5_W_isRead at hw
  refine lv_iload_n C.1 C.2.1 dX8_isRead_0 rfl (lv_at hl 0 rfl) ?_
  refine lv_bipush (v := zI 20) C.1 C.2.1 dX8_isRead_1 (by decide) ?_
  refine lv_icmp_lt (tgt := 16) C.1 C.2.1 dX8_isRead_3 (by decide) (fun c3 => ?_) (fun c3 => ?_)
  · have hw := hw.1 (z_lt g_x0 (show rng 20 from by decide) c3)
    refine lv_iconst (v := zI 0) C.1 C.2.1 dX8_isRead_16 (by decide) ?_
    exact k_zretP C hr hlk (by decide) ⟨_, rfl, (show rng 0 from by decide), hw⟩ dX8_isRead_17
  · have hw := hw.2 (z_nlt g_x0 (show rng 20 from by decide) c3)
    refine lv_iload_n C.1 C.2.1 dX8_isRead_6 rfl (lv_at hl 0 rfl) ?_
    refine lv_bipush (v := zI 26) C.1 C.2.1 dX8_isRead_7 (by decide) ?_
    refine lv_icmp_ge (tgt := 16) C.1 C.2.1 dX8_isRead_9 (by decide) (fun c9 => ?_) (fun c9 => ?_)
    · have hw := hw.1 (z_le (show rng 26 from by decide) g_x0 c9)
      refine lv_iconst (v := zI 0) C.1 C.2.1 dX8_isRead_16 (by decide) ?_
      exact k_zretP C hr hlk (by decide) ⟨_, rfl, (show rng 0 from by decide), hw⟩ dX8_isRead_17
    · have hw := hw.2 (z_nle (show rng 26 from by decide) g_x0 c9)
      refine lv_iconst (v := zI 1) C.1 C.2.1 dX8_isRead_12 (by decide) ?_
      refine lv_goto (tgt := 17) C.1 C.2.1 dX8_isRead_13 (by decide) ?_
      exact k_zretP C hr hlk (by decide) ⟨_, rfl, (show rng 1 from by decide), hw⟩ dX8_isRead_17
set_option maxHeartbeats 4000000 in
set_option maxRecDepth 100000 in
theorem mk_F_number_12 : ∀ (D : va_G) (ad : Nat → Nat) (ca : Nat → ClassId) (rf : Nat → Nat → Option Nat) (σ : Sg) (hS : rngK σ) (hRF : RFok ad rf) (K : Sg → Prop) (hw : wp5_F_number σ 12 K) (l : Launch) (sz : Nat), Met l yX1_number (Cond.code yX1_number cX1_number 4 none :: gG) { frames := 3, cells := 0, slots := 0, locals := 106 } (cPre D (tC ca) (wK ad ca rf σ) sz [.ref (ad 12)]) (va_Qv (fun (u : Sg) => K u ∧ rngK u) (fun u t => cB D (va_A (wK ad ca rf σ) sz) [] (wK ad ca rf u) t) (va_A (wK ad ca rf σ) sz)) 0 0 (va_A (wK ad ca rf σ) sz) := by
  intro D ad ca rf σ hS hRF  K hw l sz
  refine Met.ofW (cc := cX1_number) (maxL := 4) (ret := none) (by decide) rfl ?_
  intro p e s m args below meth c s₁ B hml hv
  obtain ⟨rfl, aks, rfl, Wd⟩ := k_enter hv
  have C : CallFix p m c cX1_number 4 s _ gG RX1 := ⟨B.exec, B.bytes, hml, findClass_of_methodNamed B.named, fun w h => atoms_spec (ws := Cond.code yX1_number cX1_number 4 none :: gG) B.pre w (List.mem_cons_of_mem _ h)⟩
  have hr := B.returns
  have hlk := B.notSynchronized
  generalize va_A (wK ad ca rf σ) s.heap.size = A at Wd ⊢
  replace Wd : wXK D ad ca rf s σ s.heap A s.heap [] := ⟨Wd, hS, hRF⟩
  refine k_locals (Nat.le_of_ble_eq_true rfl) [(0, .ref (ad 12))] rfl (fun ls hl => ?_)
  unfold wp5_F_number at hw
  refine lv_iconst (v := zI 0) C.1 C.2.1 dX1_number_0 (by decide) ?_
  refine lv_istore_n (lv' := [(1, .int (zI 0)), (0, .ref (ad 12))]) C.1 C.2.1 dX1_number_1 rfl hl (by decide) rfl (fun ls hl => ?_)
  replace hl := lv_sub hl [1, 0] rfl
  refine lv_aload_n C.1 C.2.1 dX1_number_2 rfl (lv_at hl 0 rfl) ?_
  refine lv_iconst (v := zI 0) C.1 C.2.1 dX1_number_3 (by decide) ?_
  refine k_putK (v := 0) C Wd KX1 12 1 (by decide) (cx12 _) rfl (by decide) fl_X1_57 rfl rfl rfl (Nat.le_of_ble_eq_true rfl) (show rng 0 from by decide) dX1_number_4 (fun H locs Wd => ?_)
  refine lv_iconst (v := zI 0) C.1 C.2.1 dX1_number_7 (by decide) ?_
  refine lv_istore_n (lv' := [(2, .int (zI 0)), (0, .ref (ad 12)), (1, .int (zI 0))]) C.1 C.2.1 dX1_number_8 rfl hl (by decide) rfl (fun ls hl => ?_)
  replace hl := lv_sub hl [1, 2, 0] rfl
  refine k_lp3 hw (fun (l1_9 : Int) (l2_9 : Int) (σ9 : Sg) H locs ls => rng l1_9 ∧ rng l2_9 ∧ wXK D ad ca rf s σ9 H A s.heap locs ∧ lv_has ls 4 [(0, .ref (ad 12)), (1, .int (zI l1_9)), (2, .int (zI l2_9))]) (fun (l1_9 : Int) (l2_9 : Int) (σ9 : Sg) ls => F0 m 9 ls []) (fun L9 hL9 l1_9 l2_9 σ9 hw H locs ls hi => ?_) _ _ _ ⟨(show rng 0 from by decide), (show rng 0 from by decide), Wd, lv_sub hl [0, 1, 2] rfl⟩
  obtain ⟨g_l1_9, g_l2_9, Wd, hl⟩ := hi
  have hS_σ9 := Wd.2.1
  unfold wp5_F_number_9 at hw
  refine lv_iload_n C.1 C.2.1 dX1_number_9 rfl (lv_at hl 2 rfl) ?_
  refine lv_aload_n C.1 C.2.1 dX1_number_10 rfl (lv_at hl 0 rfl) ?_
  obtain ⟨n11_0, hw⟩ := hw
  refine k_get (v := .ref (ad (rowC (σ9.1 12 0).toNat))) C Wd.1 KX1 _ 0 (cx12 _) (by decide) fl_X1_14 (congrArg some (rvW_ref n11_0)) dX1_number_11 ?_
  refine k_get (v := .int (zI (σ9.2.2.1 0 (σ9.1 12 0)))) C Wd.1 KX8 _ 1 (cxRow n11_0) (by decide) fl_X1_78 rfl dX1_number_14 ?_
  refine lv_icmp_ge (tgt := 235) C.1 C.2.1 dX1_number_17 (by decide) (fun c17 => ?_) (fun c17 => ?_)
  · have hw := hw.1 (z_le (rgY hS_σ9 (N := 35) n11_0) g_l2_9 c17)
    exact k_retKv C hr hlk Wd hw dX1_number_235
  · have hw := hw.2 (z_nle (rgY hS_σ9 (N := 35) n11_0) g_l2_9 c17)
    refine lv_iload_n C.1 C.2.1 dX1_number_20 rfl (lv_at hl 2 rfl) ?_
    refine lv_aload_n C.1 C.2.1 dX1_number_21 rfl (lv_at hl 0 rfl) ?_
    refine k_get (v := .ref (ad 24)) C Wd.1 KX1 _ 13 (cx12 _) (by decide) fl_X1_54 rfl dX1_number_22 ?_
    refine k_alen (v := zI 480) C Wd.1 24 24 (cx24 _) (tC_at (by decide) rfl) rfl dX1_number_25 ?_
    refine lv_icmp_ge (tgt := 235) C.1 C.2.1 dX1_number_26 (by decide) (fun c26 => ?_) (fun c26 => ?_)
    · have hw := hw.1 (z_le (show rng 480 from by decide) g_l2_9 c26)
      exact k_retKv C hr hlk Wd hw dX1_number_235
    · have hw := hw.2 (z_nle (show rng 480 from by decide) g_l2_9 c26)
      refine lv_aload_n C.1 C.2.1 dX1_number_29 rfl (lv_at hl 0 rfl) ?_
      refine k_get (v := .ref (ad (rowC (σ9.1 12 0).toNat))) C Wd.1 KX1 _ 0 (cx12 _) (by decide) fl_X1_14 (congrArg some (rvW_ref n11_0)) dX1_number_30 ?_
      refine lv_iload_n C.1 C.2.1 dX1_number_33 rfl (lv_at hl 2 rfl) ?_
      refine k_pi (k_runVK (rest := []) C aks Wd cs_X1_81 (mk_W_cell D ad ca rf σ9 Wd.2.1 Wd.2.2 (σ9.1 12 0) l2_9 n11_0 g_l2_9 _ hw l _) (cxRow n11_0) rfl rfl rfl rfl ⟨(Nat.le_of_ble_eq_true rfl), (Nat.le_of_ble_eq_true rfl)⟩ hl.1 rfl rfl (Nat.le_of_ble_eq_true rfl) ⟨(Nat.le_of_ble_eq_true rfl), (Nat.le_of_ble_eq_true rfl)⟩ dX1_number_34) (fun y34 hy => ?_)
      obtain ⟨r34, rfl, g_r34, hw⟩ := hy
      refine lv_istore_n (lv' := [(3, .int (zI r34)), (0, .ref (ad 12)), (1, .int (zI l1_9)), (2, .int (zI l2_9))]) C.1 C.2.1 dX1_number_37 rfl hl (by decide) rfl (fun ls hl => ?_)
      replace hl := lv_sub hl [1, 2, 3, 0] rfl
      refine lv_aload_n C.1 C.2.1 dX1_number_38 rfl (lv_at hl 0 rfl) ?_
      refine k_get (v := .ref (ad 24)) C Wd.1 KX1 _ 13 (cx12 _) (by decide) fl_X1_54 rfl dX1_number_39 ?_
      refine lv_iload_n C.1 C.2.1 dX1_number_42 rfl (lv_at hl 2 rfl) ?_
      refine lv_iconst (v := zI (-1)) C.1 C.2.1 dX1_number_43 (by decide) ?_
      obtain ⟨n44_0, hw⟩ := hw
      refine k_iastF (g := (σ9.2.1 24)) (i := l2_9) (v := (-1)) C Wd 24 (by decide) (cx24 _) (fun f => cx24a _ f) (tC_at (by decide) rfl) n44_0 (by decide) (ruZ (fun j => Wd.2.1.2.1 24 j) (show rng (-1) from by decide)) dX1_number_44 (fun H locs Wd => ?_)
      refine lv_iload_n C.1 C.2.1 dX1_number_45 rfl (lv_at hl 3 rfl) ?_
      refine k_pi (k_runS (rest := []) C aks Wd.1 cs_X1_84 (mk_W_isStatement D r34 g_r34 _ hw l _) [] rfl (by decide) [] rfl rfl rfl ⟨(Nat.le_of_ble_eq_true rfl), (Nat.le_of_ble_eq_true rfl)⟩ hl.1 rfl rfl (Nat.le_of_ble_eq_true rfl) ⟨(Nat.le_of_ble_eq_true rfl), (Nat.le_of_ble_eq_true rfl)⟩ dX1_number_46) (fun y46 hy => ?_)
      obtain ⟨r46, rfl, g_r46, hw⟩ := hy
      refine k_cut0 (fun H locs ls => wp5_F_number_109 12 l1_9 l2_9 r34 σ9 L9 ∧ wXK D ad ca rf s (pF σ9 24 (uZ (σ9.2.1 24) l2_9 (-1))) H A s.heap locs ∧ lv_has ls 4 [(0, .ref (ad 12)), (1, .int (zI l1_9)), (2, .int (zI l2_9)), (3, .int (zI r34))]) (fun  ls => F0 m 109 ls []) (fun  H locs ls hi => ?_) (fun J109 => ?_)
      · obtain ⟨hw, Wd, hl⟩ := hi
        unfold wp5_F_number_109 at hw
        refine lv_iload_n C.1 C.2.1 dX1_number_109 rfl (lv_at hl 3 rfl) ?_
        refine lv_bipush (v := zI 113) C.1 C.2.1 dX1_number_110 (by decide) ?_
        refine k_cut0 (fun H locs ls => wp5_F_number_136 12 l1_9 l2_9 r34 σ9 L9 ∧ wXK D ad ca rf s (pF σ9 24 (uZ (σ9.2.1 24) l2_9 (-1))) H A s.heap locs ∧ lv_has ls 4 [(0, .ref (ad 12)), (1, .int (zI l1_9)), (2, .int (zI l2_9)), (3, .int (zI r34))]) (fun  ls => F0 m 136 ls []) (fun  H locs ls hi => ?_) (fun J136 => ?_)
        · obtain ⟨hw, Wd, hl⟩ := hi
          unfold wp5_F_number_136 at hw
          refine lv_iload_n C.1 C.2.1 dX1_number_136 rfl (lv_at hl 3 rfl) ?_
          refine lv_bipush (v := zI 114) C.1 C.2.1 dX1_number_137 (by decide) ?_
          refine k_cut0 (fun H locs ls => wp5_F_number_164 12 l1_9 l2_9 r34 σ9 L9 ∧ wXK D ad ca rf s (pF σ9 24 (uZ (σ9.2.1 24) l2_9 (-1))) H A s.heap locs ∧ lv_has ls 4 [(0, .ref (ad 12)), (1, .int (zI l1_9)), (2, .int (zI l2_9)), (3, .int (zI r34))]) (fun  ls => F0 m 164 ls []) (fun  H locs ls hi => ?_) (fun J164 => ?_)
          · obtain ⟨hw, Wd, hl⟩ := hi
            unfold wp5_F_number_164 at hw
            refine lv_iload_n C.1 C.2.1 dX1_number_164 rfl (lv_at hl 3 rfl) ?_
            refine k_pi (k_runS (rest := []) C aks Wd.1 cs_X1_94 (mk_W_isExpression D r34 g_r34 _ hw l _) [] rfl (by decide) [] rfl rfl rfl ⟨(Nat.le_of_ble_eq_true rfl), (Nat.le_of_ble_eq_true rfl)⟩ hl.1 rfl rfl (Nat.le_of_ble_eq_true rfl) ⟨(Nat.le_of_ble_eq_true rfl), (Nat.le_of_ble_eq_true rfl)⟩ dX1_number_165) (fun y165 hy => ?_)
            obtain ⟨r165, rfl, g_r165, hw⟩ := hy
            refine lv_if_eq (tgt := 229) C.1 C.2.1 dX1_number_168 (by decide) (fun c168 => ?_) (fun c168 => ?_)
            · have hw := hw.1 (z0_eq g_r165 c168)
              refine lv_iinc (v := zI (l2_9 + 1)) (lv' := [(2, .int (zI (l2_9 + 1))), (0, .ref (ad 12)), (1, .int (zI l1_9)), (3, .int (zI r34))]) C.1 C.2.1 dX1_number_229 hl (k := 2) rfl (zI_inc _ _ (by decide)) (by decide) rfl (fun ls hl => ?_)
              replace hl := lv_sub hl [1, 2, 0, 3] rfl
              refine lv_goto (tgt := 9) C.1 C.2.1 dX1_number_232 (by decide) ?_
              obtain ⟨g232_13, hw⟩ := hw
              exact hL9 _ _ _ hw _ _ _ ⟨g_l1_9, g232_13, Wd, lv_sub hl [0, 1, 2] rfl⟩
            · have hw := hw.2 (z0_ne g_r165 c168)
              refine lv_aload_n C.1 C.2.1 dX1_number_171 rfl (lv_at hl 0 rfl) ?_
              refine lv_aload_n C.1 C.2.1 dX1_number_172 rfl (lv_at hl 0 rfl) ?_
              refine k_get (v := .int (zI (σ9.1 12 1))) C Wd.1 KX1 _ 1 (cx12 _) (by decide) fl_X1_57 rfl dX1_number_173 ?_
              refine lv_iconst (v := zI 1) C.1 C.2.1 dX1_number_176 (by decide) ?_
              refine k_isub (v := zI ((σ9.1 12 1) - 1)) C (zI_isub _ _) dX1_number_177 ?_
              obtain ⟨g178_14, hw⟩ := hw
              refine k_pi (k_runVK (rest := []) C aks Wd cs_X1_70 (mk_F_isHere_12 D ad ca rf (pF σ9 24 (uZ (σ9.2.1 24) l2_9 (-1))) Wd.2.1 Wd.2.2 ((σ9.1 12 1) - 1) g178_14 _ hw l _) (cx12 _) rfl rfl rfl rfl ⟨(Nat.le_of_ble_eq_true rfl), (Nat.le_of_ble_eq_true rfl)⟩ hl.1 rfl rfl (Nat.le_of_ble_eq_true rfl) ⟨(Nat.le_of_ble_eq_true rfl), (Nat.le_of_ble_eq_true rfl)⟩ dX1_number_178) (fun y178 hy => ?_)
              obtain ⟨r178, rfl, g_r178, hw⟩ := hy
              refine lv_if_eq (tgt := 229) C.1 C.2.1 dX1_number_181 (by decide) (fun c181 => ?_) (fun c181 => ?_)
              · have hw := hw.1 (z0_eq g_r178 c181)
                refine lv_iinc (v := zI (l2_9 + 1)) (lv' := [(2, .int (zI (l2_9 + 1))), (0, .ref (ad 12)), (1, .int (zI l1_9)), (3, .int (zI r34))]) C.1 C.2.1 dX1_number_229 hl (k := 2) rfl (zI_inc _ _ (by decide)) (by decide) rfl (fun ls hl => ?_)
                replace hl := lv_sub hl [1, 2, 0, 3] rfl
                refine lv_goto (tgt := 9) C.1 C.2.1 dX1_number_232 (by decide) ?_
                obtain ⟨g232_15, hw⟩ := hw
                exact hL9 _ _ _ hw _ _ _ ⟨g_l1_9, g232_15, Wd, lv_sub hl [0, 1, 2] rfl⟩
              · have hw := hw.2 (z0_ne g_r178 c181)
                refine lv_aload_n C.1 C.2.1 dX1_number_184 rfl (lv_at hl 0 rfl) ?_
                refine k_get (v := .ref (ad 16)) C Wd.1 KX1 _ 5 (cx12 _) (by decide) fl_X1_30 rfl dX1_number_185 ?_
                refine lv_aload_n C.1 C.2.1 dX1_number_188 rfl (lv_at hl 0 rfl) ?_
                refine k_get (v := .int (zI (σ9.1 12 1))) C Wd.1 KX1 _ 1 (cx12 _) (by decide) fl_X1_57 rfl dX1_number_189 ?_
                refine lv_iconst (v := zI 1) C.1 C.2.1 dX1_number_192 (by decide) ?_
                refine k_isub (v := zI ((σ9.1 12 1) - 1)) C (zI_isub _ _) dX1_number_193 ?_
                refine lv_iload_n C.1 C.2.1 dX1_number_194 rfl (lv_at hl 2 rfl) ?_
                refine lv_iconst (v := zI 1) C.1 C.2.1 dX1_number_195 (by decide) ?_
                refine k_iadd (v := zI (l2_9 + 1)) C (zI_iadd _ _) dX1_number_196 ?_
                obtain ⟨g197_16, hw⟩ := hw
                obtain ⟨n197_1, hw⟩ := hw
                refine k_iastF (g := (σ9.2.1 16)) (i := ((σ9.1 12 1) - 1)) (v := (l2_9 + 1)) C Wd 16 (by decide) (cx16 _) (fun f => cx16a _ f) (tC_at (by decide) rfl) n197_1 (by decide) (ruZ (fun j => Wd.2.1.2.1 16 j) g197_16) dX1_number_197 (fun H locs Wd => ?_)
                refine lv_aload_n C.1 C.2.1 dX1_number_198 rfl (lv_at hl 0 rfl) ?_
                refine k_get (v := .ref (ad 19)) C Wd.1 KX1 _ 8 (cx12 _) (by decide) fl_X1_39 rfl dX1_number_199 ?_
                refine lv_aload_n C.1 C.2.1 dX1_number_202 rfl (lv_at hl 0 rfl) ?_
                refine k_get (v := .int (zI (σ9.1 12 1))) C Wd.1 KX1 _ 1 (cx12 _) (by decide) fl_X1_57 rfl dX1_number_203 ?_
                refine lv_iconst (v := zI 1) C.1 C.2.1 dX1_number_206 (by decide) ?_
                refine k_isub (v := zI ((σ9.1 12 1) - 1)) C (zI_isub _ _) dX1_number_207 ?_
                refine lv_dup2_11 C.1 C.2.1 dX1_number_208 rfl rfl ?_
                refine k_ialdK (g := (σ9.2.1 19)) C Wd (cx19 _) (tC_at (by decide) rfl) n197_1 (by decide) dX1_number_209 ?_
                have ga209 : rng (σ9.2.1 19 ((σ9.1 12 1) - 1)) := rngL (fun j => (Wd.2.1).2.1 19 j) n197_1
                refine lv_iload_n C.1 C.2.1 dX1_number_210 rfl (lv_at hl 3 rfl) ?_
                refine k_pi (k_runS (rest := [.int (zI (σ9.2.1 19 ((σ9.1 12 1) - 1))), .int (zI ((σ9.1 12 1) - 1)), .ref (ad 19)]) C aks Wd.1 cs_X1_97 (mk_W_isRead D r34 g_r34 _ hw l _) [] rfl (by decide) [] rfl rfl rfl ⟨(Nat.le_of_ble_eq_true rfl), (Nat.le_of_ble_eq_true rfl)⟩ hl.1 rfl rfl (Nat.le_of_ble_eq_true rfl) ⟨(Nat.le_of_ble_eq_true rfl), (Nat.le_of_ble_eq_true rfl)⟩ dX1_number_211) (fun y211 hy => ?_)
                obtain ⟨r211, rfl, g_r211, hw⟩ := hy
                refine lv_if_eq (tgt := 226) C.1 C.2.1 dX1_number_214 (by decide) (fun c214 => ?_) (fun c214 => ?_)
                · have hw := hw.1 (z0_eq g_r211 c214)
                  refine lv_iconst (v := zI 0) C.1 C.2.1 dX1_number_226 (by decide) ?_
                  refine k_ior (v := zI (zior (σ9.2.1 19 ((σ9.1 12 1) - 1)) 0)) C (zior_eq _ _) dX1_number_227 ?_
                  refine k_iastF (g := (σ9.2.1 19)) (i := ((σ9.1 12 1) - 1)) (v := (zior (σ9.2.1 19 ((σ9.1 12 1) - 1)) 0)) C Wd 19 (by decide) (cx19 _) (fun f => cx19a _ f) (tC_at (by decide) rfl) n197_1 (by decide) (ruZ (fun j => Wd.2.1.2.1 19 j) (rng_toInt _)) dX1_number_228 (fun H locs Wd => ?_)
                  refine lv_iinc (v := zI (l2_9 + 1)) (lv' := [(2, .int (zI (l2_9 + 1))), (0, .ref (ad 12)), (1, .int (zI l1_9)), (3, .int (zI r34))]) C.1 C.2.1 dX1_number_229 hl (k := 2) rfl (zI_inc _ _ (by decide)) (by decide) rfl (fun ls hl => ?_)
                  replace hl := lv_sub hl [1, 2, 0, 3] rfl
                  refine lv_goto (tgt := 9) C.1 C.2.1 dX1_number_232 (by decide) ?_
                  exact hL9 _ _ _ hw _ _ _ ⟨g_l1_9, g197_16, Wd, lv_sub hl [0, 1, 2] rfl⟩
                · have hw := hw.2 (z0_ne g_r211 c214)
                  refine lv_iconst (v := zI 1) C.1 C.2.1 dX1_number_217 (by decide) ?_
                  refine lv_iload_n C.1 C.2.1 dX1_number_218 rfl (lv_at hl 3 rfl) ?_
                  refine lv_bipush (v := zI 20) C.1 C.2.1 dX1_number_219 (by decide) ?_
                  refine k_isub (v := zI (r34 - 20)) C (zI_isub _ _) dX1_number_221 ?_
                  refine k_ishl (v := zI (zishl 1 (r34 - 20))) C (zishl_eq _ _) dX1_number_222 ?_
                  refine lv_goto (tgt := 227) C.1 C.2.1 dX1_number_223 (by decide) ?_
                  refine k_ior (v := zI (zior (σ9.2.1 19 ((σ9.1 12 1) - 1)) (zishl 1 (r34 - 20)))) C (zior_eq _ _) dX1_number_227 ?_
                  refine k_iastF (g := (σ9.2.1 19)) (i := ((σ9.1 12 1) - 1)) (v := (zior (σ9.2.1 19 ((σ9.1 12 1) - 1)) (zishl 1 (r34 - 20)))) C Wd 19 (by decide) (cx19 _) (fun f => cx19a _ f) (tC_at (by decide) rfl) n197_1 (by decide) (ruZ (fun j => Wd.2.1.2.1 19 j) (rng_toInt _)) dX1_number_228 (fun H locs Wd => ?_)
                  refine lv_iinc (v := zI (l2_9 + 1)) (lv' := [(2, .int (zI (l2_9 + 1))), (0, .ref (ad 12)), (1, .int (zI l1_9)), (3, .int (zI r34))]) C.1 C.2.1 dX1_number_229 hl (k := 2) rfl (zI_inc _ _ (by decide)) (by decide) rfl (fun ls hl => ?_)
                  replace hl := lv_sub hl [1, 2, 0, 3] rfl
                  refine lv_goto (tgt := 9) C.1 C.2.1 dX1_number_232 (by decide) ?_
                  exact hL9 _ _ _ hw _ _ _ ⟨g_l1_9, g197_16, Wd, lv_sub hl [0, 1, 2] rfl⟩
          refine lv_icmp_ne (tgt := 164) C.1 C.2.1 dX1_number_139 (by decide) (fun c139 => ?_) (fun c139 => ?_)
          · have hw := hw.1 (z_ne g_r34 (show rng 114 from by decide) c139)
            exact J164  _ _ _ ⟨hw, Wd, lv_sub hl [0, 1, 2, 3] rfl⟩
          · have hw := hw.2 (z_eq g_r34 (show rng 114 from by decide) c139)
            refine lv_iload_n C.1 C.2.1 dX1_number_142 rfl (lv_at hl 1 rfl) ?_
            refine lv_if_le (tgt := 164) C.1 C.2.1 dX1_number_143 (by decide) (fun c143 => ?_) (fun c143 => ?_)
            · have hw := hw.1 (z0_le g_l1_9 c143)
              exact J164  _ _ _ ⟨hw, Wd, lv_sub hl [0, 1, 2, 3] rfl⟩
            · have hw := hw.2 (z0_nle g_l1_9 c143)
              refine lv_iinc (v := zI (l1_9 - 1)) (lv' := [(1, .int (zI (l1_9 - 1))), (0, .ref (ad 12)), (2, .int (zI l2_9)), (3, .int (zI r34))]) C.1 C.2.1 dX1_number_146 hl (k := 1) rfl (zI_dec _ _ (by decide)) (by decide) rfl (fun ls hl => ?_)
              replace hl := lv_sub hl [1, 0, 2, 3] rfl
              refine lv_aload_n C.1 C.2.1 dX1_number_149 rfl (lv_at hl 0 rfl) ?_
              refine k_get (v := .ref (ad 24)) C Wd.1 KX1 _ 13 (cx12 _) (by decide) fl_X1_54 rfl dX1_number_150 ?_
              refine lv_iload_n C.1 C.2.1 dX1_number_153 rfl (lv_at hl 2 rfl) ?_
              refine lv_aload_n C.1 C.2.1 dX1_number_154 rfl (lv_at hl 0 rfl) ?_
              refine k_get (v := .ref (ad 23)) C Wd.1 KX1 _ 12 (cx12 _) (by decide) fl_X1_51 rfl dX1_number_155 ?_
              refine lv_iload_n C.1 C.2.1 dX1_number_158 rfl (lv_at hl 1 rfl) ?_
              obtain ⟨n159_0, hw⟩ := hw
              refine k_ialdK (g := (σ9.2.1 23)) C Wd (cx23 _) (tC_at (by decide) rfl) n159_0 (by decide) dX1_number_159 ?_
              have ga159 : rng (σ9.2.1 23 (l1_9 - 1)) := rngL (fun j => (Wd.2.1).2.1 23 j) n159_0
              refine k_iastF (g := (uZ (σ9.2.1 24) l2_9 (-1))) (i := l2_9) (v := (σ9.2.1 23 (l1_9 - 1))) C Wd 24 (by decide) (cx24 _) (fun f => cx24a _ f) (tC_at (by decide) rfl) n44_0 (by decide) (ruZ (fun j => Wd.2.1.2.1 24 j) ga159) dX1_number_160 (fun H locs Wd => ?_)
              refine lv_goto (tgt := 229) C.1 C.2.1 dX1_number_161 (by decide) ?_
              refine lv_iinc (v := zI (l2_9 + 1)) (lv' := [(2, .int (zI (l2_9 + 1))), (0, .ref (ad 12)), (1, .int (zI (l1_9 - 1))), (3, .int (zI r34))]) C.1 C.2.1 dX1_number_229 hl (k := 2) rfl (zI_inc _ _ (by decide)) (by decide) rfl (fun ls hl => ?_)
              replace hl := lv_sub hl [1, 2, 0, 3] rfl
              refine lv_goto (tgt := 9) C.1 C.2.1 dX1_number_232 (by decide) ?_
              obtain ⟨g232_17, hw⟩ := hw
              obtain ⟨g232_18, hw⟩ := hw
              exact hL9 _ _ _ hw _ _ _ ⟨g232_17, g232_18, Wd, lv_sub hl [0, 1, 2] rfl⟩
        refine lv_icmp_ne (tgt := 136) C.1 C.2.1 dX1_number_112 (by decide) (fun c112 => ?_) (fun c112 => ?_)
        · have hw := hw.1 (z_ne g_r34 (show rng 113 from by decide) c112)
          exact J136  _ _ _ ⟨hw, Wd, lv_sub hl [0, 1, 2, 3] rfl⟩
        · have hw := hw.2 (z_eq g_r34 (show rng 113 from by decide) c112)
          refine lv_iload_n C.1 C.2.1 dX1_number_115 rfl (lv_at hl 1 rfl) ?_
          refine lv_if_le (tgt := 136) C.1 C.2.1 dX1_number_116 (by decide) (fun c116 => ?_) (fun c116 => ?_)
          · have hw := hw.1 (z0_le g_l1_9 c116)
            exact J136  _ _ _ ⟨hw, Wd, lv_sub hl [0, 1, 2, 3] rfl⟩
          · have hw := hw.2 (z0_nle g_l1_9 c116)
            refine lv_aload_n C.1 C.2.1 dX1_number_119 rfl (lv_at hl 0 rfl) ?_
            refine k_get (v := .ref (ad 24)) C Wd.1 KX1 _ 13 (cx12 _) (by decide) fl_X1_54 rfl dX1_number_120 ?_
            refine lv_iload_n C.1 C.2.1 dX1_number_123 rfl (lv_at hl 2 rfl) ?_
            refine lv_aload_n C.1 C.2.1 dX1_number_124 rfl (lv_at hl 0 rfl) ?_
            refine k_get (v := .ref (ad 23)) C Wd.1 KX1 _ 12 (cx12 _) (by decide) fl_X1_51 rfl dX1_number_125 ?_
            refine lv_iload_n C.1 C.2.1 dX1_number_128 rfl (lv_at hl 1 rfl) ?_
            refine lv_iconst (v := zI 1) C.1 C.2.1 dX1_number_129 (by decide) ?_
            refine k_isub (v := zI (l1_9 - 1)) C (zI_isub _ _) dX1_number_130 ?_
            obtain ⟨n131_0, hw⟩ := hw
            refine k_ialdK (g := (σ9.2.1 23)) C Wd (cx23 _) (tC_at (by decide) rfl) n131_0 (by decide) dX1_number_131 ?_
            have ga131 : rng (σ9.2.1 23 (l1_9 - 1)) := rngL (fun j => (Wd.2.1).2.1 23 j) n131_0
            refine k_iastF (g := (uZ (σ9.2.1 24) l2_9 (-1))) (i := l2_9) (v := (σ9.2.1 23 (l1_9 - 1))) C Wd 24 (by decide) (cx24 _) (fun f => cx24a _ f) (tC_at (by decide) rfl) n44_0 (by decide) (ruZ (fun j => Wd.2.1.2.1 24 j) ga131) dX1_number_132 (fun H locs Wd => ?_)
            refine lv_goto (tgt := 229) C.1 C.2.1 dX1_number_133 (by decide) ?_
            refine lv_iinc (v := zI (l2_9 + 1)) (lv' := [(2, .int (zI (l2_9 + 1))), (0, .ref (ad 12)), (1, .int (zI l1_9)), (3, .int (zI r34))]) C.1 C.2.1 dX1_number_229 hl (k := 2) rfl (zI_inc _ _ (by decide)) (by decide) rfl (fun ls hl => ?_)
            replace hl := lv_sub hl [1, 2, 0, 3] rfl
            refine lv_goto (tgt := 9) C.1 C.2.1 dX1_number_232 (by decide) ?_
            obtain ⟨g232_19, hw⟩ := hw
            exact hL9 _ _ _ hw _ _ _ ⟨g_l1_9, g232_19, Wd, lv_sub hl [0, 1, 2] rfl⟩
      refine lv_if_eq (tgt := 109) C.1 C.2.1 dX1_number_49 (by decide) (fun c49 => ?_) (fun c49 => ?_)
      · have hw := hw.1 (z0_eq g_r46 c49)
        exact J109  _ _ _ ⟨hw, Wd, lv_sub hl [0, 1, 2, 3] rfl⟩
      · have hw := hw.2 (z0_ne g_r46 c49)
        refine lv_aload_n C.1 C.2.1 dX1_number_52 rfl (lv_at hl 0 rfl) ?_
        refine k_get (v := .int (zI (σ9.1 12 1))) C Wd.1 KX1 _ 1 (cx12 _) (by decide) fl_X1_57 rfl dX1_number_53 ?_
        refine lv_bipush (v := zI 40) C.1 C.2.1 dX1_number_56 (by decide) ?_
        refine lv_icmp_ge (tgt := 109) C.1 C.2.1 dX1_number_58 (by decide) (fun c58 => ?_) (fun c58 => ?_)
        · have hw := hw.1 (z_le (show rng 40 from by decide) (hS_σ9.1 12 1) c58)
          exact J109  _ _ _ ⟨hw, Wd, lv_sub hl [0, 1, 2, 3] rfl⟩
        · have hw := hw.2 (z_nle (show rng 40 from by decide) (hS_σ9.1 12 1) c58)
          refine lv_aload_n C.1 C.2.1 dX1_number_61 rfl (lv_at hl 0 rfl) ?_
          refine k_get (v := .ref (ad 24)) C Wd.1 KX1 _ 13 (cx12 _) (by decide) fl_X1_54 rfl dX1_number_62 ?_
          refine lv_iload_n C.1 C.2.1 dX1_number_65 rfl (lv_at hl 2 rfl) ?_
          refine lv_aload_n C.1 C.2.1 dX1_number_66 rfl (lv_at hl 0 rfl) ?_
          refine k_get (v := .int (zI (σ9.1 12 1))) C Wd.1 KX1 _ 1 (cx12 _) (by decide) fl_X1_57 rfl dX1_number_67 ?_
          refine k_iastF (g := (uZ (σ9.2.1 24) l2_9 (-1))) (i := l2_9) (v := (σ9.1 12 1)) C Wd 24 (by decide) (cx24 _) (fun f => cx24a _ f) (tC_at (by decide) rfl) n44_0 (by decide) (ruZ (fun j => Wd.2.1.2.1 24 j) (hS_σ9.1 12 1)) dX1_number_70 (fun H locs Wd => ?_)
          refine lv_iload_n C.1 C.2.1 dX1_number_71 rfl (lv_at hl 3 rfl) ?_
          refine k_pi (k_runS (rest := []) C aks Wd.1 cs_X1_87 (mk_W_isBranch D r34 g_r34 _ hw l _) [] rfl (by decide) [] rfl rfl rfl ⟨(Nat.le_of_ble_eq_true rfl), (Nat.le_of_ble_eq_true rfl)⟩ hl.1 rfl rfl (Nat.le_of_ble_eq_true rfl) ⟨(Nat.le_of_ble_eq_true rfl), (Nat.le_of_ble_eq_true rfl)⟩ dX1_number_72) (fun y72 hy => ?_)
          obtain ⟨r72, rfl, g_r72, hw⟩ := hy
          refine k_cut2 (fun (l1_100 : Int) (σ100 : Sg) H locs ls => rng l1_100 ∧ wp5_F_number_100 12 l2_9 r34 L9 l1_100 σ100 ∧ wXK D ad ca rf s σ100 H A s.heap locs ∧ lv_has ls 4 [(0, .ref (ad 12)), (1, .int (zI l1_100)), (2, .int (zI l2_9)), (3, .int (zI r34))]) (fun (l1_100 : Int) (σ100 : Sg) ls => F0 m 100 ls []) (fun l1_100 σ100 H locs ls hi => ?_) (fun J100 => ?_)
          · obtain ⟨g_l1_100, hw, Wd, hl⟩ := hi
            have hS_σ100 := Wd.2.1
            unfold wp5_F_number_100 at hw
            refine lv_aload_n C.1 C.2.1 dX1_number_100 rfl (lv_at hl 0 rfl) ?_
            refine lv_iload_n C.1 C.2.1 dX1_number_101 rfl (lv_at hl 2 rfl) ?_
            refine lv_iload_n C.1 C.2.1 dX1_number_102 rfl (lv_at hl 3 rfl) ?_
            refine k_cKv Wd (k_runVK (rest := []) C aks Wd cs_X1_90 (mk_F_begin_12 D ad ca rf σ100 Wd.2.1 Wd.2.2 l2_9 r34 g_l2_9 g_r34 _ hw l _) (cx12 _) rfl rfl rfl rfl ⟨(Nat.le_of_ble_eq_true rfl), (Nat.le_of_ble_eq_true rfl)⟩ hl.1 rfl rfl (Nat.le_of_ble_eq_true rfl) ⟨(Nat.le_of_ble_eq_true rfl), (Nat.le_of_ble_eq_true rfl)⟩ dX1_number_103) (fun σr103 H locs hw Wd => ?_)
            have hS_σr103 := Wd.2.1
            refine lv_goto (tgt := 229) C.1 C.2.1 dX1_number_106 (by decide) ?_
            refine lv_iinc (v := zI (l2_9 + 1)) (lv' := [(2, .int (zI (l2_9 + 1))), (0, .ref (ad 12)), (1, .int (zI l1_100)), (3, .int (zI r34))]) C.1 C.2.1 dX1_number_229 hl (k := 2) rfl (zI_inc _ _ (by decide)) (by decide) rfl (fun ls hl => ?_)
            replace hl := lv_sub hl [1, 2, 0, 3] rfl
            refine lv_goto (tgt := 9) C.1 C.2.1 dX1_number_232 (by decide) ?_
            obtain ⟨g232_20, hw⟩ := hw
            exact hL9 _ _ _ hw _ _ _ ⟨g_l1_100, g232_20, Wd, lv_sub hl [0, 1, 2] rfl⟩
          refine lv_if_eq (tgt := 100) C.1 C.2.1 dX1_number_75 (by decide) (fun c75 => ?_) (fun c75 => ?_)
          · have hw := hw.1 (z0_eq g_r72 c75)
            exact J100 l1_9 (pF (pF σ9 24 (uZ (σ9.2.1 24) l2_9 (-1))) 24 (uZ (uZ (σ9.2.1 24) l2_9 (-1)) l2_9 (σ9.1 12 1))) _ _ _ ⟨g_l1_9, hw, Wd, lv_sub hl [0, 1, 2, 3] rfl⟩
          · have hw := hw.2 (z0_ne g_r72 c75)
            refine lv_iload_n C.1 C.2.1 dX1_number_78 rfl (lv_at hl 1 rfl) ?_
            refine lv_aload_n C.1 C.2.1 dX1_number_79 rfl (lv_at hl 0 rfl) ?_
            refine k_get (v := .ref (ad 23)) C Wd.1 KX1 _ 12 (cx12 _) (by decide) fl_X1_51 rfl dX1_number_80 ?_
            refine k_alen (v := zI 40) C Wd.1 23 23 (cx23 _) (tC_at (by decide) rfl) rfl dX1_number_83 ?_
            refine lv_icmp_ge (tgt := 100) C.1 C.2.1 dX1_number_84 (by decide) (fun c84 => ?_) (fun c84 => ?_)
            · have hw := hw.1 (z_le (show rng 40 from by decide) g_l1_9 c84)
              exact J100 l1_9 (pF (pF σ9 24 (uZ (σ9.2.1 24) l2_9 (-1))) 24 (uZ (uZ (σ9.2.1 24) l2_9 (-1)) l2_9 (σ9.1 12 1))) _ _ _ ⟨g_l1_9, hw, Wd, lv_sub hl [0, 1, 2, 3] rfl⟩
            · have hw := hw.2 (z_nle (show rng 40 from by decide) g_l1_9 c84)
              refine lv_aload_n C.1 C.2.1 dX1_number_87 rfl (lv_at hl 0 rfl) ?_
              refine k_get (v := .ref (ad 23)) C Wd.1 KX1 _ 12 (cx12 _) (by decide) fl_X1_51 rfl dX1_number_88 ?_
              refine lv_iload_n C.1 C.2.1 dX1_number_91 rfl (lv_at hl 1 rfl) ?_
              refine lv_aload_n C.1 C.2.1 dX1_number_92 rfl (lv_at hl 0 rfl) ?_
              refine k_get (v := .int (zI (σ9.1 12 1))) C Wd.1 KX1 _ 1 (cx12 _) (by decide) fl_X1_57 rfl dX1_number_93 ?_
              obtain ⟨n96_0, hw⟩ := hw
              refine k_iastF (g := (σ9.2.1 23)) (i := l1_9) (v := (σ9.1 12 1)) C Wd 23 (by decide) (cx23 _) (fun f => cx23a _ f) (tC_at (by decide) rfl) n96_0 (by decide) (ruZ (fun j => Wd.2.1.2.1 23 j) (hS_σ9.1 12 1)) dX1_number_96 (fun H locs Wd => ?_)
              refine lv_iinc (v := zI (l1_9 + 1)) (lv' := [(1, .int (zI (l1_9 + 1))), (0, .ref (ad 12)), (2, .int (zI l2_9)), (3, .int (zI r34))]) C.1 C.2.1 dX1_number_97 hl (k := 1) rfl (zI_inc _ _ (by decide)) (by decide) rfl (fun ls hl => ?_)
              replace hl := lv_sub hl [1, 0, 2, 3] rfl
              obtain ⟨g97_21, hw⟩ := hw
              exact J100 (l1_9 + 1) (pF (pF (pF σ9 24 (uZ (σ9.2.1 24) l2_9 (-1))) 24 (uZ (uZ (σ9.2.1 24) l2_9 (-1)) l2_9 (σ9.1 12 1))) 23 (uZ (σ9.2.1 23) l1_9 (σ9.1 12 1))) _ _ _ ⟨g97_21, hw, Wd, lv_sub hl [0, 1, 2, 3] rfl⟩
set_option maxHeartbeats 4000000 in
set_option maxRecDepth 100000 in
theorem mk_F_linkAt_12 : ∀ (D : va_G) (ad : Nat → Nat) (ca : Nat → ClassId) (rf : Nat → Nat → Option Nat) (σ : Sg) (hS : rngK σ) (hRF : RFok ad rf) (x0 : Int) (x1 : Int) (x2 : Int) (g_x0 : rng x0) (g_x1 : rng x1) (g_x2 : rng x2) (K : Int → Sg → Prop) (hw : wp5_F_linkAt σ 12 x0 x1 x2 K) (l : Launch) (sz : Nat), Met l yX1_linkAt (Cond.code yX1_linkAt cX1_linkAt 4 (some .int) :: gG) { frames := 2, cells := 0, slots := 0, locals := 85 } (cPre D (tC ca) (wK ad ca rf σ) sz [.ref (ad 12), .int (zI x0), .int (zI x1), .int (zI x2)]) (va_Qi (fun (r : Int32) (u : Sg) => (∃ x : Int, r = zI x ∧ rng x ∧ K x u) ∧ rngK u) (fun u t => cB D (va_A (wK ad ca rf σ) sz) [] (wK ad ca rf u) t) (va_A (wK ad ca rf σ) sz)) 0 0 (va_A (wK ad ca rf σ) sz) := by
  intro D ad ca rf σ hS hRF x0 x1 x2 g_x0 g_x1 g_x2 K hw l sz
  refine Met.ofW (cc := cX1_linkAt) (maxL := 4) (ret := (some .int)) (by decide) rfl ?_
  intro p e s m args below meth c s₁ B hml hv
  obtain ⟨rfl, aks, rfl, Wd⟩ := k_enter hv
  have C : CallFix p m c cX1_linkAt 4 s _ gG RX1 := ⟨B.exec, B.bytes, hml, findClass_of_methodNamed B.named, fun w h => atoms_spec (ws := Cond.code yX1_linkAt cX1_linkAt 4 (some .int) :: gG) B.pre w (List.mem_cons_of_mem _ h)⟩
  have hr := B.returns
  have hlk := B.notSynchronized
  generalize va_A (wK ad ca rf σ) s.heap.size = A at Wd ⊢
  replace Wd : wXK D ad ca rf s σ s.heap A s.heap [] := ⟨Wd, hS, hRF⟩
  refine k_locals (Nat.le_of_ble_eq_true rfl) [(0, .ref (ad 12)), (1, .int (zI x0)), (2, .int (zI x1)), (3, .int (zI x2))] rfl (fun ls hl => ?_)
  unfold wp5_F_linkAt at hw
  refine lv_aload_n C.1 C.2.1 dX1_linkAt_0 rfl (lv_at hl 0 rfl) ?_
  refine lv_iload_n C.1 C.2.1 dX1_linkAt_1 rfl (lv_at hl 2 rfl) ?_
  refine k_pi (k_runVK (rest := []) C aks Wd cs_X1_70 (mk_F_isHere_12 D ad ca rf σ Wd.2.1 Wd.2.2 x1 g_x1 _ hw l _) (cx12 _) rfl rfl rfl rfl ⟨(Nat.le_of_ble_eq_true rfl), (Nat.le_of_ble_eq_true rfl)⟩ hl.1 rfl rfl (Nat.le_of_ble_eq_true rfl) ⟨(Nat.le_of_ble_eq_true rfl), (Nat.le_of_ble_eq_true rfl)⟩ dX1_linkAt_2) (fun y2 hy => ?_)
  obtain ⟨r2, rfl, g_r2, hw⟩ := hy
  refine lv_if_ne (tgt := 10) C.1 C.2.1 dX1_linkAt_5 (by decide) (fun c5 => ?_) (fun c5 => ?_)
  · have hw := hw.1 (z0_ne g_r2 c5)
    refine lv_iload_n C.1 C.2.1 dX1_linkAt_10 rfl (lv_at hl 1 rfl) ?_
    refine lv_bipush (v := zI 114) C.1 C.2.1 dX1_linkAt_11 (by decide) ?_
    refine lv_icmp_ne (tgt := 40) C.1 C.2.1 dX1_linkAt_13 (by decide) (fun c13 => ?_) (fun c13 => ?_)
    · have hw := hw.1 (z_ne g_x0 (show rng 114 from by decide) c13)
      refine lv_iload_n C.1 C.2.1 dX1_linkAt_40 rfl (lv_at hl 1 rfl) ?_
      refine lv_bipush (v := zI 113) C.1 C.2.1 dX1_linkAt_41 (by decide) ?_
      refine lv_icmp_ne (tgt := 60) C.1 C.2.1 dX1_linkAt_43 (by decide) (fun c43 => ?_) (fun c43 => ?_)
      · have hw := hw.1 (z_ne g_x0 (show rng 113 from by decide) c43)
        refine lv_iload_n C.1 C.2.1 dX1_linkAt_60 rfl (lv_at hl 1 rfl) ?_
        refine lv_bipush (v := zI 111) C.1 C.2.1 dX1_linkAt_61 (by decide) ?_
        refine k_cut1 (fun (σ73 : Sg) H locs ls => wp5_F_linkAt_73 K 12 x0 x1 σ73 ∧ wXK D ad ca rf s σ73 H A s.heap locs ∧ lv_has ls 4 [(0, .ref (ad 12)), (1, .int (zI x0)), (2, .int (zI x1))]) (fun (σ73 : Sg) ls => F0 m 73 ls []) (fun σ73 H locs ls hi => ?_) (fun J73 => ?_)
        · obtain ⟨hw, Wd, hl⟩ := hi
          have hS_σ73 := Wd.2.1
          unfold wp5_F_linkAt_73 at hw
          refine lv_iload_n C.1 C.2.1 dX1_linkAt_73 rfl (lv_at hl 1 rfl) ?_
          refine lv_bipush (v := zI 115) C.1 C.2.1 dX1_linkAt_74 (by decide) ?_
          refine lv_icmp_ne (tgt := 91) C.1 C.2.1 dX1_linkAt_76 (by decide) (fun c76 => ?_) (fun c76 => ?_)
          · have hw := hw.1 (z_ne g_x0 (show rng 115 from by decide) c76)
            refine lv_iload_n C.1 C.2.1 dX1_linkAt_91 rfl (lv_at hl 2 rfl) ?_
            exact k_retKi C hr hlk rfl Wd ⟨_, rfl, g_x1, hw⟩ dX1_linkAt_92
          · have hw := hw.2 (z_eq g_x0 (show rng 115 from by decide) c76)
            refine lv_aload_n C.1 C.2.1 dX1_linkAt_79 rfl (lv_at hl 0 rfl) ?_
            refine k_get (v := .ref (ad 18)) C Wd.1 KX1 _ 7 (cx12 _) (by decide) fl_X1_36 rfl dX1_linkAt_80 ?_
            refine lv_iload_n C.1 C.2.1 dX1_linkAt_83 rfl (lv_at hl 2 rfl) ?_
            refine lv_aload_n C.1 C.2.1 dX1_linkAt_84 rfl (lv_at hl 0 rfl) ?_
            refine k_get (v := .ref (ad 22)) C Wd.1 KX1 _ 11 (cx12 _) (by decide) fl_X1_48 rfl dX1_linkAt_85 ?_
            refine lv_iload_n C.1 C.2.1 dX1_linkAt_88 rfl (lv_at hl 2 rfl) ?_
            obtain ⟨n89_0, hw⟩ := hw
            refine k_ialdK (g := (σ73.2.1 22)) C Wd (cx22 _) (tC_at (by decide) rfl) n89_0 (by decide) dX1_linkAt_89 ?_
            have ga89 : rng (σ73.2.1 22 x1) := rngL (fun j => (Wd.2.1).2.1 22 j) n89_0
            refine k_iastF (g := (σ73.2.1 18)) (i := x1) (v := (σ73.2.1 22 x1)) C Wd 18 (by decide) (cx18 _) (fun f => cx18a _ f) (tC_at (by decide) rfl) n89_0 (by decide) (ruZ (fun j => Wd.2.1.2.1 18 j) ga89) dX1_linkAt_90 (fun H locs Wd => ?_)
            refine lv_iload_n C.1 C.2.1 dX1_linkAt_91 rfl (lv_at hl 2 rfl) ?_
            exact k_retKi C hr hlk rfl Wd ⟨_, rfl, g_x1, hw⟩ dX1_linkAt_92
        refine lv_icmp_eq (tgt := 73) C.1 C.2.1 dX1_linkAt_63 (by decide) (fun c63 => ?_) (fun c63 => ?_)
        · have hw := hw.1 (z_eq g_x0 (show rng 111 from by decide) c63)
          exact J73 σ _ _ _ ⟨hw, Wd, lv_sub hl [0, 1, 2] rfl⟩
        · have hw := hw.2 (z_ne g_x0 (show rng 111 from by decide) c63)
          refine lv_aload_n C.1 C.2.1 dX1_linkAt_66 rfl (lv_at hl 0 rfl) ?_
          refine k_get (v := .ref (ad 17)) C Wd.1 KX1 _ 6 (cx12 _) (by decide) fl_X1_33 rfl dX1_linkAt_67 ?_
          refine lv_iload_n C.1 C.2.1 dX1_linkAt_70 rfl (lv_at hl 2 rfl) ?_
          refine lv_iload_n C.1 C.2.1 dX1_linkAt_71 rfl (lv_at hl 3 rfl) ?_
          obtain ⟨n72_0, hw⟩ := hw
          refine k_iastF (g := (σ.2.1 17)) (i := x1) (v := x2) C Wd 17 (by decide) (cx17 _) (fun f => cx17a _ f) (tC_at (by decide) rfl) n72_0 (by decide) (ruZ (fun j => Wd.2.1.2.1 17 j) g_x2) dX1_linkAt_72 (fun H locs Wd => ?_)
          exact J73 (pF σ 17 (uZ (σ.2.1 17) x1 x2)) _ _ _ ⟨hw, Wd, lv_sub hl [0, 1, 2] rfl⟩
      · have hw := hw.2 (z_eq g_x0 (show rng 113 from by decide) c43)
        refine lv_aload_n C.1 C.2.1 dX1_linkAt_46 rfl (lv_at hl 0 rfl) ?_
        refine k_get (v := .ref (ad 18)) C Wd.1 KX1 _ 7 (cx12 _) (by decide) fl_X1_36 rfl dX1_linkAt_47 ?_
        refine lv_iload_n C.1 C.2.1 dX1_linkAt_50 rfl (lv_at hl 2 rfl) ?_
        refine lv_iload_n C.1 C.2.1 dX1_linkAt_51 rfl (lv_at hl 3 rfl) ?_
        obtain ⟨n52_0, hw⟩ := hw
        refine k_iastF (g := (σ.2.1 18)) (i := x1) (v := x2) C Wd 18 (by decide) (cx18 _) (fun f => cx18a _ f) (tC_at (by decide) rfl) n52_0 (by decide) (ruZ (fun j => Wd.2.1.2.1 18 j) g_x2) dX1_linkAt_52 (fun H locs Wd => ?_)
        refine lv_aload_n C.1 C.2.1 dX1_linkAt_53 rfl (lv_at hl 0 rfl) ?_
        refine k_get (v := .ref (ad 22)) C Wd.1 KX1 _ 11 (cx12 _) (by decide) fl_X1_48 rfl dX1_linkAt_54 ?_
        refine lv_iload_n C.1 C.2.1 dX1_linkAt_57 rfl (lv_at hl 2 rfl) ?_
        refine k_ialdK (g := (σ.2.1 22)) C Wd (cx22 _) (tC_at (by decide) rfl) n52_0 (by decide) dX1_linkAt_58 ?_
        have ga58 : rng (σ.2.1 22 x1) := rngL (fun j => (Wd.2.1).2.1 22 j) n52_0
        exact k_retKi C hr hlk rfl Wd ⟨_, rfl, ga58, hw⟩ dX1_linkAt_59
    · have hw := hw.2 (z_eq g_x0 (show rng 114 from by decide) c13)
      refine lv_aload_n C.1 C.2.1 dX1_linkAt_16 rfl (lv_at hl 0 rfl) ?_
      refine k_get (v := .ref (ad 22)) C Wd.1 KX1 _ 11 (cx12 _) (by decide) fl_X1_48 rfl dX1_linkAt_17 ?_
      refine lv_iload_n C.1 C.2.1 dX1_linkAt_20 rfl (lv_at hl 2 rfl) ?_
      refine lv_iload_n C.1 C.2.1 dX1_linkAt_21 rfl (lv_at hl 3 rfl) ?_
      obtain ⟨n22_0, hw⟩ := hw
      refine k_iastF (g := (σ.2.1 22)) (i := x1) (v := x2) C Wd 22 (by decide) (cx22 _) (fun f => cx22a _ f) (tC_at (by decide) rfl) n22_0 (by decide) (ruZ (fun j => Wd.2.1.2.1 22 j) g_x2) dX1_linkAt_22 (fun H locs Wd => ?_)
      refine lv_aload_n C.1 C.2.1 dX1_linkAt_23 rfl (lv_at hl 0 rfl) ?_
      refine k_get (v := .ref (ad 14)) C Wd.1 KX1 _ 3 (cx12 _) (by decide) fl_X1_24 rfl dX1_linkAt_24 ?_
      refine lv_iload_n C.1 C.2.1 dX1_linkAt_27 rfl (lv_at hl 2 rfl) ?_
      refine k_ialdK (g := (σ.2.1 14)) C Wd (cx14 _) (tC_at (by decide) rfl) n22_0 (by decide) dX1_linkAt_28 ?_
      have ga28 : rng (σ.2.1 14 x1) := rngL (fun j => (Wd.2.1).2.1 14 j) n22_0
      refine lv_bipush (v := zI 115) C.1 C.2.1 dX1_linkAt_29 (by decide) ?_
      refine lv_icmp_ne (tgt := 38) C.1 C.2.1 dX1_linkAt_31 (by decide) (fun c31 => ?_) (fun c31 => ?_)
      · have hw := hw.1 (z_ne ga28 (show rng 115 from by decide) c31)
        refine lv_iload_n C.1 C.2.1 dX1_linkAt_38 rfl (lv_at hl 3 rfl) ?_
        exact k_retKi C hr hlk rfl Wd ⟨_, rfl, g_x2, hw⟩ dX1_linkAt_39
      · have hw := hw.2 (z_eq ga28 (show rng 115 from by decide) c31)
        refine lv_iload_n C.1 C.2.1 dX1_linkAt_34 rfl (lv_at hl 2 rfl) ?_
        refine lv_goto (tgt := 39) C.1 C.2.1 dX1_linkAt_35 (by decide) ?_
        exact k_retKi C hr hlk rfl Wd ⟨_, rfl, g_x1, hw⟩ dX1_linkAt_39
  · have hw := hw.2 (z0_eq g_r2 c5)
    refine lv_iload_n C.1 C.2.1 dX1_linkAt_8 rfl (lv_at hl 3 rfl) ?_
    exact k_retKi C hr hlk rfl Wd ⟨_, rfl, g_x2, hw⟩ dX1_linkAt_9
set_option maxHeartbeats 4000000 in
set_option maxRecDepth 100000 in
theorem mk_F_link_12 : ∀ (D : va_G) (ad : Nat → Nat) (ca : Nat → ClassId) (rf : Nat → Nat → Option Nat) (σ : Sg) (hS : rngK σ) (hRF : RFok ad rf) (K : Sg → Prop) (hw : wp5_F_link σ 12 K) (l : Launch) (sz : Nat), Met l yX1_link (Cond.code yX1_link cX1_link 4 none :: gG) { frames := 3, cells := 0, slots := 0, locals := 108 } (cPre D (tC ca) (wK ad ca rf σ) sz [.ref (ad 12)]) (va_Qv (fun (u : Sg) => K u ∧ rngK u) (fun u t => cB D (va_A (wK ad ca rf σ) sz) [] (wK ad ca rf u) t) (va_A (wK ad ca rf σ) sz)) 0 0 (va_A (wK ad ca rf σ) sz) := by
  intro D ad ca rf σ hS hRF  K hw l sz
  refine Met.ofW (cc := cX1_link) (maxL := 4) (ret := none) (by decide) rfl ?_
  intro p e s m args below meth c s₁ B hml hv
  obtain ⟨rfl, aks, rfl, Wd⟩ := k_enter hv
  have C : CallFix p m c cX1_link 4 s _ gG RX1 := ⟨B.exec, B.bytes, hml, findClass_of_methodNamed B.named, fun w h => atoms_spec (ws := Cond.code yX1_link cX1_link 4 none :: gG) B.pre w (List.mem_cons_of_mem _ h)⟩
  have hr := B.returns
  have hlk := B.notSynchronized
  generalize va_A (wK ad ca rf σ) s.heap.size = A at Wd ⊢
  replace Wd : wXK D ad ca rf s σ s.heap A s.heap [] := ⟨Wd, hS, hRF⟩
  refine k_locals (Nat.le_of_ble_eq_true rfl) [(0, .ref (ad 12))] rfl (fun ls hl => ?_)
  unfold wp5_F_link at hw
  refine lv_iconst (v := zI (-1)) C.1 C.2.1 dX1_link_0 (by decide) ?_
  refine lv_istore_n (lv' := [(1, .int (zI (-1))), (0, .ref (ad 12))]) C.1 C.2.1 dX1_link_1 rfl hl (by decide) rfl (fun ls hl => ?_)
  replace hl := lv_sub hl [1, 0] rfl
  refine lv_aload_n C.1 C.2.1 dX1_link_2 rfl (lv_at hl 0 rfl) ?_
  obtain ⟨n3_0, hw⟩ := hw
  refine k_get (v := .ref (ad (rowC (σ.1 12 0).toNat))) C Wd.1 KX1 _ 0 (cx12 _) (by decide) fl_X1_14 (congrArg some (rvW_ref n3_0)) dX1_link_3 ?_
  refine k_get (v := .int (zI (σ.2.2.1 0 (σ.1 12 0)))) C Wd.1 KX8 _ 1 (cxRow n3_0) (by decide) fl_X1_78 rfl dX1_link_6 ?_
  refine lv_aload_n C.1 C.2.1 dX1_link_9 rfl (lv_at hl 0 rfl) ?_
  refine k_get (v := .ref (ad 24)) C Wd.1 KX1 _ 13 (cx12 _) (by decide) fl_X1_54 rfl dX1_link_10 ?_
  refine k_alen (v := zI 480) C Wd.1 24 24 (cx24 _) (tC_at (by decide) rfl) rfl dX1_link_13 ?_
  refine k_mmin (v := zI (min (σ.2.2.1 0 (σ.1 12 0)) 480)) C hl.1 ml_X1_103 st_Lib_Math_min_name in_J9 cd_min (Nat.le_of_ble_eq_true rfl) (Nat.le_of_ble_eq_true rfl) (Nat.le_of_ble_eq_true rfl) (Nat.le_of_ble_eq_true rfl) (zmin_eq _ _ (rgY hS (N := 35) n3_0) (show rng 480 from by decide)) dX1_link_14 ?_
  refine lv_iconst (v := zI 1) C.1 C.2.1 dX1_link_17 (by decide) ?_
  refine k_isub (v := zI ((min (σ.2.2.1 0 (σ.1 12 0)) 480) - 1)) C (zI_isub _ _) dX1_link_18 ?_
  refine lv_istore_n (lv' := [(2, .int (zI ((min (σ.2.2.1 0 (σ.1 12 0)) 480) - 1))), (0, .ref (ad 12)), (1, .int (zI (-1)))]) C.1 C.2.1 dX1_link_19 rfl hl (by decide) rfl (fun ls hl => ?_)
  replace hl := lv_sub hl [1, 2, 0] rfl
  obtain ⟨g19_5, hw⟩ := hw
  refine k_lp3 hw (fun (l1_20 : Int) (l2_20 : Int) (σ20 : Sg) H locs ls => rng l1_20 ∧ rng l2_20 ∧ wXK D ad ca rf s σ20 H A s.heap locs ∧ lv_has ls 4 [(0, .ref (ad 12)), (1, .int (zI l1_20)), (2, .int (zI l2_20))]) (fun (l1_20 : Int) (l2_20 : Int) (σ20 : Sg) ls => F0 m 20 ls []) (fun L20 hL20 l1_20 l2_20 σ20 hw H locs ls hi => ?_) _ _ _ ⟨(show rng (-1) from by decide), g19_5, Wd, lv_sub hl [0, 1, 2] rfl⟩
  obtain ⟨g_l1_20, g_l2_20, Wd, hl⟩ := hi
  have hS_σ20 := Wd.2.1
  unfold wp5_F_link_20 at hw
  refine lv_iload_n C.1 C.2.1 dX1_link_20 rfl (lv_at hl 2 rfl) ?_
  refine lv_if_lt (tgt := 60) C.1 C.2.1 dX1_link_21 (by decide) (fun c21 => ?_) (fun c21 => ?_)
  · have hw := hw.1 (z0_lt g_l2_20 c21)
    exact k_retKv C hr hlk Wd hw dX1_link_60
  · have hw := hw.2 (z0_nlt g_l2_20 c21)
    refine lv_aload_n C.1 C.2.1 dX1_link_24 rfl (lv_at hl 0 rfl) ?_
    refine k_get (v := .ref (ad 24)) C Wd.1 KX1 _ 13 (cx12 _) (by decide) fl_X1_54 rfl dX1_link_25 ?_
    refine lv_iload_n C.1 C.2.1 dX1_link_28 rfl (lv_at hl 2 rfl) ?_
    obtain ⟨n29_0, hw⟩ := hw
    refine k_ialdK (g := (σ20.2.1 24)) C Wd (cx24 _) (tC_at (by decide) rfl) n29_0 (by decide) dX1_link_29 ?_
    have ga29 : rng (σ20.2.1 24 l2_20) := rngL (fun j => (Wd.2.1).2.1 24 j) n29_0
    refine lv_istore_n (lv' := [(3, .int (zI (σ20.2.1 24 l2_20))), (0, .ref (ad 12)), (1, .int (zI l1_20)), (2, .int (zI l2_20))]) C.1 C.2.1 dX1_link_30 rfl hl (by decide) rfl (fun ls hl => ?_)
    replace hl := lv_sub hl [1, 2, 3, 0] rfl
    refine lv_aload_n C.1 C.2.1 dX1_link_31 rfl (lv_at hl 0 rfl) ?_
    refine lv_iload_n C.1 C.2.1 dX1_link_32 rfl (lv_at hl 3 rfl) ?_
    refine k_pi (k_runVK (rest := []) C aks Wd cs_X1_70 (mk_F_isHere_12 D ad ca rf σ20 Wd.2.1 Wd.2.2 (σ20.2.1 24 l2_20) ga29 _ hw l _) (cx12 _) rfl rfl rfl rfl ⟨(Nat.le_of_ble_eq_true rfl), (Nat.le_of_ble_eq_true rfl)⟩ hl.1 rfl rfl (Nat.le_of_ble_eq_true rfl) ⟨(Nat.le_of_ble_eq_true rfl), (Nat.le_of_ble_eq_true rfl)⟩ dX1_link_33) (fun y33 hy => ?_)
    obtain ⟨r33, rfl, g_r33, hw⟩ := hy
    refine lv_if_eq (tgt := 54) C.1 C.2.1 dX1_link_36 (by decide) (fun c36 => ?_) (fun c36 => ?_)
    · have hw := hw.1 (z0_eq g_r33 c36)
      refine lv_iinc (v := zI (l2_20 - 1)) (lv' := [(2, .int (zI (l2_20 - 1))), (0, .ref (ad 12)), (1, .int (zI l1_20)), (3, .int (zI (σ20.2.1 24 l2_20)))]) C.1 C.2.1 dX1_link_54 hl (k := 2) rfl (zI_dec _ _ (by decide)) (by decide) rfl (fun ls hl => ?_)
      replace hl := lv_sub hl [1, 2, 0, 3] rfl
      refine lv_goto (tgt := 20) C.1 C.2.1 dX1_link_57 (by decide) ?_
      obtain ⟨g57_6, hw⟩ := hw
      exact hL20 _ _ _ hw _ _ _ ⟨g_l1_20, g57_6, Wd, lv_sub hl [0, 1, 2] rfl⟩
    · have hw := hw.2 (z0_ne g_r33 c36)
      refine lv_aload_n C.1 C.2.1 dX1_link_39 rfl (lv_at hl 0 rfl) ?_
      refine lv_aload_n C.1 C.2.1 dX1_link_40 rfl (lv_at hl 0 rfl) ?_
      obtain ⟨n41_0, hw⟩ := hw
      refine k_get (v := .ref (ad (rowC (σ20.1 12 0).toNat))) C Wd.1 KX1 _ 0 (cx12 _) (by decide) fl_X1_14 (congrArg some (rvW_ref n41_0)) dX1_link_41 ?_
      refine lv_iload_n C.1 C.2.1 dX1_link_44 rfl (lv_at hl 2 rfl) ?_
      refine k_pi (k_runVK (rest := [.ref (ad 12)]) C aks Wd cs_X1_81 (mk_W_cell D ad ca rf σ20 Wd.2.1 Wd.2.2 (σ20.1 12 0) l2_20 n41_0 g_l2_20 _ hw l _) (cxRow n41_0) rfl rfl rfl rfl ⟨(Nat.le_of_ble_eq_true rfl), (Nat.le_of_ble_eq_true rfl)⟩ hl.1 rfl rfl (Nat.le_of_ble_eq_true rfl) ⟨(Nat.le_of_ble_eq_true rfl), (Nat.le_of_ble_eq_true rfl)⟩ dX1_link_45) (fun y45 hy => ?_)
      obtain ⟨r45, rfl, g_r45, hw⟩ := hy
      refine lv_iload_n C.1 C.2.1 dX1_link_48 rfl (lv_at hl 3 rfl) ?_
      refine lv_iload_n C.1 C.2.1 dX1_link_49 rfl (lv_at hl 1 rfl) ?_
      refine k_cKi Wd (k_runVK (rest := []) C aks Wd cs_X1_109 (mk_F_linkAt_12 D ad ca rf σ20 Wd.2.1 Wd.2.2 r45 (σ20.2.1 24 l2_20) l1_20 g_r45 ga29 g_l1_20 _ hw l _) (cx12 _) rfl rfl rfl rfl ⟨(Nat.le_of_ble_eq_true rfl), (Nat.le_of_ble_eq_true rfl)⟩ hl.1 rfl rfl (Nat.le_of_ble_eq_true rfl) ⟨(Nat.le_of_ble_eq_true rfl), (Nat.le_of_ble_eq_true rfl)⟩ dX1_link_50) (fun r50 σr50 H locs g_r50 hw Wd => ?_)
      have hS_σr50 := Wd.2.1
      refine lv_istore_n (lv' := [(1, .int (zI r50)), (0, .ref (ad 12)), (2, .int (zI l2_20)), (3, .int (zI (σ20.2.1 24 l2_20)))]) C.1 C.2.1 dX1_link_53 rfl hl (by decide) rfl (fun ls hl => ?_)
      replace hl := lv_sub hl [1, 0, 2, 3] rfl
      refine lv_iinc (v := zI (l2_20 - 1)) (lv' := [(2, .int (zI (l2_20 - 1))), (0, .ref (ad 12)), (1, .int (zI r50)), (3, .int (zI (σ20.2.1 24 l2_20)))]) C.1 C.2.1 dX1_link_54 hl (k := 2) rfl (zI_dec _ _ (by decide)) (by decide) rfl (fun ls hl => ?_)
      replace hl := lv_sub hl [1, 2, 0, 3] rfl
      refine lv_goto (tgt := 20) C.1 C.2.1 dX1_link_57 (by decide) ?_
      obtain ⟨g57_7, hw⟩ := hw
      exact hL20 _ _ _ hw _ _ _ ⟨g_r50, g57_7, Wd, lv_sub hl [0, 1, 2] rfl⟩
set_option maxHeartbeats 4000000 in
set_option maxRecDepth 100000 in
theorem mk_F_aheadOf_12 : ∀ (D : va_G) (ad : Nat → Nat) (ca : Nat → ClassId) (rf : Nat → Nat → Option Nat) (σ : Sg) (hS : rngK σ) (hRF : RFok ad rf) (x0 : Int) (g_x0 : rng x0) (K : Int → Prop) (hw : wp5_F_aheadOf σ 12 x0 K) (l : Launch) (sz : Nat), Met l yX1_aheadOf (Cond.code yX1_aheadOf cX1_aheadOf 2 (some .int) :: gG) { frames := 2, cells := 0, slots := 0, locals := 85 } (cPre D (tC ca) (wK ad ca rf σ) sz [.ref (ad 12), .int (zI x0)]) (vp_Si (fun r => ∃ x : Int, r = zI x ∧ rng x ∧ K x)) 0 0 (fun _ => False) := by
  intro D ad ca rf σ hS hRF x0 g_x0 K hw l sz
  refine Met.ofW (cc := cX1_aheadOf) (maxL := 2) (ret := (some .int)) (by decide) rfl ?_
  intro p e s m args below meth c s₁ B hml hv
  obtain ⟨rfl, aks, rfl, Wd⟩ := k_enter hv
  have C : CallFix p m c cX1_aheadOf 2 s _ gG RX1 := ⟨B.exec, B.bytes, hml, findClass_of_methodNamed B.named, fun w h => atoms_spec (ws := Cond.code yX1_aheadOf cX1_aheadOf 2 (some .int) :: gG) B.pre w (List.mem_cons_of_mem _ h)⟩
  have hr := B.returns
  have hlk := B.notSynchronized
  obtain ⟨A, Wd⟩ : ∃ A, wXK D ad ca rf s σ s.heap A s.heap [] := ⟨_, Wd, hS, hRF⟩
  refine k_locals (Nat.le_of_ble_eq_true rfl) [(0, .ref (ad 12)), (1, .int (zI x0))] rfl (fun ls hl => ?_)
  unfold wp5_F_aheadOf at hw
  refine lv_aload_n C.1 C.2.1 dX1_aheadOf_0 rfl (lv_at hl 0 rfl) ?_
  refine lv_iload_n C.1 C.2.1 dX1_aheadOf_1 rfl (lv_at hl 1 rfl) ?_
  refine k_pi (k_runVK (rest := []) C aks Wd cs_X1_70 (mk_F_isHere_12 D ad ca rf σ Wd.2.1 Wd.2.2 x0 g_x0 _ hw l _) (cx12 _) rfl rfl rfl rfl ⟨(Nat.le_of_ble_eq_true rfl), (Nat.le_of_ble_eq_true rfl)⟩ hl.1 rfl rfl (Nat.le_of_ble_eq_true rfl) ⟨(Nat.le_of_ble_eq_true rfl), (Nat.le_of_ble_eq_true rfl)⟩ dX1_aheadOf_2) (fun y2 hy => ?_)
  obtain ⟨r2, rfl, g_r2, hw⟩ := hy
  refine lv_if_eq (tgt := 17) C.1 C.2.1 dX1_aheadOf_5 (by decide) (fun c5 => ?_) (fun c5 => ?_)
  · have hw := hw.1 (z0_eq g_r2 c5)
    refine lv_iconst (v := zI 0) C.1 C.2.1 dX1_aheadOf_17 (by decide) ?_
    exact k_zretP C hr hlk rfl ⟨_, rfl, (show rng 0 from by decide), hw⟩ dX1_aheadOf_18
  · have hw := hw.2 (z0_ne g_r2 c5)
    refine lv_aload_n C.1 C.2.1 dX1_aheadOf_8 rfl (lv_at hl 0 rfl) ?_
    refine k_get (v := .ref (ad 21)) C Wd.1 KX1 _ 10 (cx12 _) (by decide) fl_X1_45 rfl dX1_aheadOf_9 ?_
    refine lv_iload_n C.1 C.2.1 dX1_aheadOf_12 rfl (lv_at hl 1 rfl) ?_
    obtain ⟨n13_0, hw⟩ := hw
    refine k_ialdK (g := (σ.2.1 21)) C Wd (cx21 _) (tC_at (by decide) rfl) n13_0 (by decide) dX1_aheadOf_13 ?_
    have ga13 : rng (σ.2.1 21 x0) := rngL (fun j => (Wd.2.1).2.1 21 j) n13_0
    refine lv_goto (tgt := 18) C.1 C.2.1 dX1_aheadOf_14 (by decide) ?_
    exact k_zretP C hr hlk rfl ⟨_, rfl, ga13, hw⟩ dX1_aheadOf_18
set_option maxHeartbeats 4000000 in
set_option maxRecDepth 100000 in
theorem mk_F_settle_12 : ∀ (D : va_G) (ad : Nat → Nat) (ca : Nat → ClassId) (rf : Nat → Nat → Option Nat) (σ : Sg) (hS : rngK σ) (hRF : RFok ad rf) (K : Sg → Prop) (hw : wp5_F_settle σ 12 K) (l : Launch) (sz : Nat), Met l yX1_settle (Cond.code yX1_settle cX1_settle 5 none :: gG) { frames := 3, cells := 0, slots := 0, locals := 106 } (cPre D (tC ca) (wK ad ca rf σ) sz [.ref (ad 12)]) (va_Qv (fun (u : Sg) => K u ∧ rngK u) (fun u t => cB D (va_A (wK ad ca rf σ) sz) [] (wK ad ca rf u) t) (va_A (wK ad ca rf σ) sz)) 0 0 (va_A (wK ad ca rf σ) sz) := by
  intro D ad ca rf σ hS hRF  K hw l sz
  refine Met.ofW (cc := cX1_settle) (maxL := 5) (ret := none) (by decide) rfl ?_
  intro p e s m args below meth c s₁ B hml hv
  obtain ⟨rfl, aks, rfl, Wd⟩ := k_enter hv
  have C : CallFix p m c cX1_settle 5 s _ gG RX1 := ⟨B.exec, B.bytes, hml, findClass_of_methodNamed B.named, fun w h => atoms_spec (ws := Cond.code yX1_settle cX1_settle 5 none :: gG) B.pre w (List.mem_cons_of_mem _ h)⟩
  have hr := B.returns
  have hlk := B.notSynchronized
  generalize va_A (wK ad ca rf σ) s.heap.size = A at Wd ⊢
  replace Wd : wXK D ad ca rf s σ s.heap A s.heap [] := ⟨Wd, hS, hRF⟩
  refine k_locals (Nat.le_of_ble_eq_true rfl) [(0, .ref (ad 12))] rfl (fun ls hl => ?_)
  unfold wp5_F_settle at hw
  refine lv_iconst (v := zI 0) C.1 C.2.1 dX1_settle_0 (by decide) ?_
  refine lv_istore_n (lv' := [(1, .int (zI 0)), (0, .ref (ad 12))]) C.1 C.2.1 dX1_settle_1 rfl hl (by decide) rfl (fun ls hl => ?_)
  replace hl := lv_sub hl [1, 0] rfl
  refine k_lp2 hw (fun (l1_2 : Int) (σ2 : Sg) H locs ls => rng l1_2 ∧ wXK D ad ca rf s σ2 H A s.heap locs ∧ lv_has ls 5 [(0, .ref (ad 12)), (1, .int (zI l1_2))]) (fun (l1_2 : Int) (σ2 : Sg) ls => F0 m 2 ls []) (fun L2 hL2 l1_2 σ2 hw H locs ls hi => ?_) _ _ _ ⟨(show rng 0 from by decide), Wd, lv_sub hl [0, 1] rfl⟩
  obtain ⟨g_l1_2, Wd, hl⟩ := hi
  have hS_σ2 := Wd.2.1
  unfold wp5_F_settle_2 at hw
  refine lv_iload_n C.1 C.2.1 dX1_settle_2 rfl (lv_at hl 1 rfl) ?_
  refine lv_aload_n C.1 C.2.1 dX1_settle_3 rfl (lv_at hl 0 rfl) ?_
  refine k_get (v := .int (zI (σ2.1 12 1))) C Wd.1 KX1 _ 1 (cx12 _) (by decide) fl_X1_57 rfl dX1_settle_4 ?_
  refine k_cut0 (fun H locs ls => wp5_F_settle_29 K 12 σ2 ∧ wXK D ad ca rf s σ2 H A s.heap locs ∧ lv_has ls 5 [(0, .ref (ad 12))]) (fun  ls => F0 m 29 ls []) (fun  H locs ls hi => ?_) (fun J29 => ?_)
  · obtain ⟨hw, Wd, hl⟩ := hi
    unfold wp5_F_settle_29 at hw
    refine lv_iconst (v := zI 1) C.1 C.2.1 dX1_settle_29 (by decide) ?_
    refine lv_istore_n (lv' := [(1, .int (zI 1)), (0, .ref (ad 12))]) C.1 C.2.1 dX1_settle_30 rfl hl (by decide) rfl (fun ls hl => ?_)
    replace hl := lv_sub hl [1, 0] rfl
    refine lv_iconst (v := zI 0) C.1 C.2.1 dX1_settle_31 (by decide) ?_
    refine lv_istore_n (lv' := [(2, .int (zI 0)), (0, .ref (ad 12)), (1, .int (zI 1))]) C.1 C.2.1 dX1_settle_32 rfl hl (by decide) rfl (fun ls hl => ?_)
    replace hl := lv_sub hl [1, 2, 0] rfl
    refine k_lp3 hw (fun (l1_33 : Int) (l2_33 : Int) (σ33 : Sg) H locs ls => rng l1_33 ∧ rng l2_33 ∧ wXK D ad ca rf s σ33 H A s.heap locs ∧ lv_has ls 5 [(0, .ref (ad 12)), (1, .int (zI l1_33)), (2, .int (zI l2_33))]) (fun (l1_33 : Int) (l2_33 : Int) (σ33 : Sg) ls => F0 m 33 ls []) (fun L33 hL33 l1_33 l2_33 σ33 hw H locs ls hi => ?_) _ _ _ ⟨(show rng 1 from by decide), (show rng 0 from by decide), Wd, lv_sub hl [0, 1, 2] rfl⟩
    obtain ⟨g_l1_33, g_l2_33, Wd, hl⟩ := hi
    have hS_σ33 := Wd.2.1
    unfold wp5_F_settle_33 at hw
    refine lv_iload_n C.1 C.2.1 dX1_settle_33 rfl (lv_at hl 2 rfl) ?_
    refine lv_sipush (v := zI 241) C.1 C.2.1 dX1_settle_34 (zS (by decide) (by decide)) ?_
    refine lv_icmp_ge (tgt := 142) C.1 C.2.1 dX1_settle_37 (by decide) (fun c37 => ?_) (fun c37 => ?_)
    · have hw := hw.1 (z_le (show rng 241 from by decide) g_l2_33 c37)
      exact k_retKv C hr hlk Wd hw dX1_settle_142
    · have hw := hw.2 (z_nle (show rng 241 from by decide) g_l2_33 c37)
      refine lv_iload_n C.1 C.2.1 dX1_settle_40 rfl (lv_at hl 1 rfl) ?_
      refine lv_if_eq (tgt := 142) C.1 C.2.1 dX1_settle_41 (by decide) (fun c41 => ?_) (fun c41 => ?_)
      · have hw := hw.1 (z0_eq g_l1_33 c41)
        exact k_retKv C hr hlk Wd hw dX1_settle_142
      · have hw := hw.2 (z0_ne g_l1_33 c41)
        refine lv_iconst (v := zI 0) C.1 C.2.1 dX1_settle_44 (by decide) ?_
        refine lv_istore_n (lv' := [(1, .int (zI 0)), (0, .ref (ad 12)), (2, .int (zI l2_33))]) C.1 C.2.1 dX1_settle_45 rfl hl (by decide) rfl (fun ls hl => ?_)
        replace hl := lv_sub hl [1, 0, 2] rfl
        refine lv_aload_n C.1 C.2.1 dX1_settle_46 rfl (lv_at hl 0 rfl) ?_
        refine k_get (v := .int (zI (σ33.1 12 1))) C Wd.1 KX1 _ 1 (cx12 _) (by decide) fl_X1_57 rfl dX1_settle_47 ?_
        refine lv_bipush (v := zI 40) C.1 C.2.1 dX1_settle_50 (by decide) ?_
        refine k_mmin (v := zI (min (σ33.1 12 1) 40)) C hl.1 ml_X1_103 st_Lib_Math_min_name in_J9 cd_min (Nat.le_of_ble_eq_true rfl) (Nat.le_of_ble_eq_true rfl) (Nat.le_of_ble_eq_true rfl) (Nat.le_of_ble_eq_true rfl) (zmin_eq _ _ (hS_σ33.1 12 1) (show rng 40 from by decide)) dX1_settle_52 ?_
        refine lv_iconst (v := zI 1) C.1 C.2.1 dX1_settle_55 (by decide) ?_
        refine k_isub (v := zI ((min (σ33.1 12 1) 40) - 1)) C (zI_isub _ _) dX1_settle_56 ?_
        refine lv_istore_n (lv' := [(3, .int (zI ((min (σ33.1 12 1) 40) - 1))), (0, .ref (ad 12)), (1, .int (zI 0)), (2, .int (zI l2_33))]) C.1 C.2.1 dX1_settle_57 rfl hl (by decide) rfl (fun ls hl => ?_)
        replace hl := lv_sub hl [1, 2, 3, 0] rfl
        obtain ⟨g57_23, hw⟩ := hw
        refine k_lp3 hw (fun (l1_58 : Int) (l3_58 : Int) (σ58 : Sg) H locs ls => rng l1_58 ∧ rng l3_58 ∧ wXK D ad ca rf s σ58 H A s.heap locs ∧ lv_has ls 5 [(0, .ref (ad 12)), (1, .int (zI l1_58)), (2, .int (zI l2_33)), (3, .int (zI l3_58))]) (fun (l1_58 : Int) (l3_58 : Int) (σ58 : Sg) ls => F0 m 58 ls []) (fun L58 hL58 l1_58 l3_58 σ58 hw H locs ls hi => ?_) _ _ _ ⟨(show rng 0 from by decide), g57_23, Wd, lv_sub hl [0, 1, 2, 3] rfl⟩
        obtain ⟨g_l1_58, g_l3_58, Wd, hl⟩ := hi
        have hS_σ58 := Wd.2.1
        unfold wp5_F_settle_58 at hw
        refine lv_iload_n C.1 C.2.1 dX1_settle_58 rfl (lv_at hl 3 rfl) ?_
        refine lv_if_lt (tgt := 136) C.1 C.2.1 dX1_settle_59 (by decide) (fun c59 => ?_) (fun c59 => ?_)
        · have hw := hw.1 (z0_lt g_l3_58 c59)
          refine lv_iinc (v := zI (l2_33 + 1)) (lv' := [(2, .int (zI (l2_33 + 1))), (0, .ref (ad 12)), (1, .int (zI l1_58)), (3, .int (zI l3_58))]) C.1 C.2.1 dX1_settle_136 hl (k := 2) rfl (zI_inc _ _ (by decide)) (by decide) rfl (fun ls hl => ?_)
          replace hl := lv_sub hl [1, 2, 0, 3] rfl
          refine lv_goto (tgt := 33) C.1 C.2.1 dX1_settle_139 (by decide) ?_
          obtain ⟨g139_24, hw⟩ := hw
          exact hL33 _ _ _ hw _ _ _ ⟨g_l1_58, g139_24, Wd, lv_sub hl [0, 1, 2] rfl⟩
        · have hw := hw.2 (z0_nlt g_l3_58 c59)
          refine lv_aload_n C.1 C.2.1 dX1_settle_62 rfl (lv_at hl 0 rfl) ?_
          refine k_get (v := .ref (ad 19)) C Wd.1 KX1 _ 8 (cx12 _) (by decide) fl_X1_39 rfl dX1_settle_63 ?_
          refine lv_iload_n C.1 C.2.1 dX1_settle_66 rfl (lv_at hl 3 rfl) ?_
          obtain ⟨n67_0, hw⟩ := hw
          refine k_ialdK (g := (σ58.2.1 19)) C Wd (cx19 _) (tC_at (by decide) rfl) n67_0 (by decide) dX1_settle_67 ?_
          have ga67 : rng (σ58.2.1 19 l3_58) := rngL (fun j => (Wd.2.1).2.1 19 j) n67_0
          refine lv_aload_n C.1 C.2.1 dX1_settle_68 rfl (lv_at hl 0 rfl) ?_
          refine lv_aload_n C.1 C.2.1 dX1_settle_69 rfl (lv_at hl 0 rfl) ?_
          refine k_get (v := .ref (ad 17)) C Wd.1 KX1 _ 6 (cx12 _) (by decide) fl_X1_33 rfl dX1_settle_70 ?_
          refine lv_iload_n C.1 C.2.1 dX1_settle_73 rfl (lv_at hl 3 rfl) ?_
          refine k_ialdK (g := (σ58.2.1 17)) C Wd (cx17 _) (tC_at (by decide) rfl) n67_0 (by decide) dX1_settle_74 ?_
          have ga74 : rng (σ58.2.1 17 l3_58) := rngL (fun j => (Wd.2.1).2.1 17 j) n67_0
          refine k_pi (k_runVK (rest := [.int (zI (σ58.2.1 19 l3_58))]) C aks Wd cs_X1_74 (mk_F_aheadOf_12 D ad ca rf σ58 Wd.2.1 Wd.2.2 (σ58.2.1 17 l3_58) ga74 _ hw l _) (cx12 _) rfl rfl rfl rfl ⟨(Nat.le_of_ble_eq_true rfl), (Nat.le_of_ble_eq_true rfl)⟩ hl.1 rfl rfl (Nat.le_of_ble_eq_true rfl) ⟨(Nat.le_of_ble_eq_true rfl), (Nat.le_of_ble_eq_true rfl)⟩ dX1_settle_75) (fun y75 hy => ?_)
          obtain ⟨r75, rfl, g_r75, hw⟩ := hy
          refine lv_aload_n C.1 C.2.1 dX1_settle_78 rfl (lv_at hl 0 rfl) ?_
          refine lv_aload_n C.1 C.2.1 dX1_settle_79 rfl (lv_at hl 0 rfl) ?_
          refine k_get (v := .ref (ad 18)) C Wd.1 KX1 _ 7 (cx12 _) (by decide) fl_X1_36 rfl dX1_settle_80 ?_
          refine lv_iload_n C.1 C.2.1 dX1_settle_83 rfl (lv_at hl 3 rfl) ?_
          refine k_ialdK (g := (σ58.2.1 18)) C Wd (cx18 _) (tC_at (by decide) rfl) n67_0 (by decide) dX1_settle_84 ?_
          have ga84 : rng (σ58.2.1 18 l3_58) := rngL (fun j => (Wd.2.1).2.1 18 j) n67_0
          refine k_pi (k_runVK (rest := [.int (zI r75), .int (zI (σ58.2.1 19 l3_58))]) C aks Wd cs_X1_74 (mk_F_aheadOf_12 D ad ca rf σ58 Wd.2.1 Wd.2.2 (σ58.2.1 18 l3_58) ga84 _ hw l _) (cx12 _) rfl rfl rfl rfl ⟨(Nat.le_of_ble_eq_true rfl), (Nat.le_of_ble_eq_true rfl)⟩ hl.1 rfl rfl (Nat.le_of_ble_eq_true rfl) ⟨(Nat.le_of_ble_eq_true rfl), (Nat.le_of_ble_eq_true rfl)⟩ dX1_settle_85) (fun y85 hy => ?_)
          obtain ⟨r85, rfl, g_r85, hw⟩ := hy
          refine k_ior (v := zI (zior r75 r85)) C (zior_eq _ _) dX1_settle_88 ?_
          refine lv_aload_n C.1 C.2.1 dX1_settle_89 rfl (lv_at hl 0 rfl) ?_
          refine k_get (v := .ref (ad 20)) C Wd.1 KX1 _ 9 (cx12 _) (by decide) fl_X1_42 rfl dX1_settle_90 ?_
          refine lv_iload_n C.1 C.2.1 dX1_settle_93 rfl (lv_at hl 3 rfl) ?_
          refine k_ialdK (g := (σ58.2.1 20)) C Wd (cx20 _) (tC_at (by decide) rfl) n67_0 (by decide) dX1_settle_94 ?_
          have ga94 : rng (σ58.2.1 20 l3_58) := rngL (fun j => (Wd.2.1).2.1 20 j) n67_0
          refine lv_iconst (v := zI (-1)) C.1 C.2.1 dX1_settle_95 (by decide) ?_
          refine k_ixor (v := zI (zixor (σ58.2.1 20 l3_58) (-1))) C (zixor_eq _ _) dX1_settle_96 ?_
          refine k_iand (v := zI (ziand (zior r75 r85) (zixor (σ58.2.1 20 l3_58) (-1)))) C (ziand_eq _ _) dX1_settle_97 ?_
          refine k_ior (v := zI (zior (σ58.2.1 19 l3_58) (ziand (zior r75 r85) (zixor (σ58.2.1 20 l3_58) (-1))))) C (zior_eq _ _) dX1_settle_98 ?_
          refine lv_istore (lv' := [(4, .int (zI (zior (σ58.2.1 19 l3_58) (ziand (zior r75 r85) (zixor (σ58.2.1 20 l3_58) (-1)))))), (0, .ref (ad 12)), (1, .int (zI l1_58)), (2, .int (zI l2_33)), (3, .int (zI l3_58))]) C.1 C.2.1 dX1_settle_99 hl (by decide) rfl (fun ls hl => ?_)
          replace hl := lv_sub hl [1, 2, 3, 4, 0] rfl
          refine lv_iload_n C.1 C.2.1 dX1_settle_101 rfl (lv_at hl 1 rfl) ?_
          refine k_cut0 (fun H locs ls => wp5_F_settle_116 12 l3_58 r75 r85 σ58 L58 ∧ wXK D ad ca rf s σ58 H A s.heap locs ∧ lv_has ls 5 [(0, .ref (ad 12)), (2, .int (zI l2_33)), (3, .int (zI l3_58)), (4, .int (zI (zior (σ58.2.1 19 l3_58) (ziand (zior r75 r85) (zixor (σ58.2.1 20 l3_58) (-1))))))]) (fun  ls => F0 m 116 ls []) (fun  H locs ls hi => ?_) (fun J116 => ?_)
          · obtain ⟨hw, Wd, hl⟩ := hi
            unfold wp5_F_settle_116 at hw
            refine lv_iconst (v := zI 1) C.1 C.2.1 dX1_settle_116 (by decide) ?_
            refine lv_goto (tgt := 121) C.1 C.2.1 dX1_settle_117 (by decide) ?_
            refine lv_istore_n (lv' := [(1, .int (zI 1)), (0, .ref (ad 12)), (2, .int (zI l2_33)), (3, .int (zI l3_58)), (4, .int (zI (zior (σ58.2.1 19 l3_58) (ziand (zior r75 r85) (zixor (σ58.2.1 20 l3_58) (-1))))))]) C.1 C.2.1 dX1_settle_121 rfl hl (by decide) rfl (fun ls hl => ?_)
            replace hl := lv_sub hl [1, 0, 2, 3, 4] rfl
            refine lv_aload_n C.1 C.2.1 dX1_settle_122 rfl (lv_at hl 0 rfl) ?_
            refine k_get (v := .ref (ad 21)) C Wd.1 KX1 _ 10 (cx12 _) (by decide) fl_X1_45 rfl dX1_settle_123 ?_
            refine lv_iload_n C.1 C.2.1 dX1_settle_126 rfl (lv_at hl 3 rfl) ?_
            refine lv_iload C.1 C.2.1 dX1_settle_127 (lv_at hl 4 rfl) ?_
            refine k_iastF (g := (σ58.2.1 21)) (i := l3_58) (v := (zior (σ58.2.1 19 l3_58) (ziand (zior r75 r85) (zixor (σ58.2.1 20 l3_58) (-1))))) C Wd 21 (by decide) (cx21 _) (fun f => cx21a _ f) (tC_at (by decide) rfl) n67_0 (by decide) (ruZ (fun j => Wd.2.1.2.1 21 j) (rng_toInt _)) dX1_settle_129 (fun H locs Wd => ?_)
            refine lv_iinc (v := zI (l3_58 - 1)) (lv' := [(3, .int (zI (l3_58 - 1))), (0, .ref (ad 12)), (1, .int (zI 1)), (2, .int (zI l2_33)), (4, .int (zI (zior (σ58.2.1 19 l3_58) (ziand (zior r75 r85) (zixor (σ58.2.1 20 l3_58) (-1))))))]) C.1 C.2.1 dX1_settle_130 hl (k := 3) rfl (zI_dec _ _ (by decide)) (by decide) rfl (fun ls hl => ?_)
            replace hl := lv_sub hl [1, 2, 3, 0, 4] rfl
            refine lv_goto (tgt := 58) C.1 C.2.1 dX1_settle_133 (by decide) ?_
            obtain ⟨g133_25, hw⟩ := hw
            exact hL58 _ _ _ hw _ _ _ ⟨(show rng 1 from by decide), g133_25, Wd, lv_sub hl [0, 1, 2, 3] rfl⟩
          refine lv_if_ne (tgt := 116) C.1 C.2.1 dX1_settle_102 (by decide) (fun c102 => ?_) (fun c102 => ?_)
          · have hw := hw.1 (z0_ne g_l1_58 c102)
            exact J116  _ _ _ ⟨hw, Wd, lv_sub hl [0, 2, 3, 4] rfl⟩
          · have hw := hw.2 (z0_eq g_l1_58 c102)
            refine lv_iload C.1 C.2.1 dX1_settle_105 (lv_at hl 4 rfl) ?_
            refine lv_aload_n C.1 C.2.1 dX1_settle_107 rfl (lv_at hl 0 rfl) ?_
            refine k_get (v := .ref (ad 21)) C Wd.1 KX1 _ 10 (cx12 _) (by decide) fl_X1_45 rfl dX1_settle_108 ?_
            refine lv_iload_n C.1 C.2.1 dX1_settle_111 rfl (lv_at hl 3 rfl) ?_
            refine k_ialdK (g := (σ58.2.1 21)) C Wd (cx21 _) (tC_at (by decide) rfl) n67_0 (by decide) dX1_settle_112 ?_
            have ga112 : rng (σ58.2.1 21 l3_58) := rngL (fun j => (Wd.2.1).2.1 21 j) n67_0
            refine lv_icmp_eq (tgt := 120) C.1 C.2.1 dX1_settle_113 (by decide) (fun c113 => ?_) (fun c113 => ?_)
            · have hw := hw.1 (z_eq (rng_toInt _) ga112 c113)
              refine lv_iconst (v := zI 0) C.1 C.2.1 dX1_settle_120 (by decide) ?_
              refine lv_istore_n (lv' := [(1, .int (zI 0)), (0, .ref (ad 12)), (2, .int (zI l2_33)), (3, .int (zI l3_58)), (4, .int (zI (zior (σ58.2.1 19 l3_58) (ziand (zior r75 r85) (zixor (σ58.2.1 20 l3_58) (-1))))))]) C.1 C.2.1 dX1_settle_121 rfl hl (by decide) rfl (fun ls hl => ?_)
              replace hl := lv_sub hl [1, 0, 2, 3, 4] rfl
              refine lv_aload_n C.1 C.2.1 dX1_settle_122 rfl (lv_at hl 0 rfl) ?_
              refine k_get (v := .ref (ad 21)) C Wd.1 KX1 _ 10 (cx12 _) (by decide) fl_X1_45 rfl dX1_settle_123 ?_
              refine lv_iload_n C.1 C.2.1 dX1_settle_126 rfl (lv_at hl 3 rfl) ?_
              refine lv_iload C.1 C.2.1 dX1_settle_127 (lv_at hl 4 rfl) ?_
              refine k_iastF (g := (σ58.2.1 21)) (i := l3_58) (v := (zior (σ58.2.1 19 l3_58) (ziand (zior r75 r85) (zixor (σ58.2.1 20 l3_58) (-1))))) C Wd 21 (by decide) (cx21 _) (fun f => cx21a _ f) (tC_at (by decide) rfl) n67_0 (by decide) (ruZ (fun j => Wd.2.1.2.1 21 j) (rng_toInt _)) dX1_settle_129 (fun H locs Wd => ?_)
              refine lv_iinc (v := zI (l3_58 - 1)) (lv' := [(3, .int (zI (l3_58 - 1))), (0, .ref (ad 12)), (1, .int (zI 0)), (2, .int (zI l2_33)), (4, .int (zI (zior (σ58.2.1 19 l3_58) (ziand (zior r75 r85) (zixor (σ58.2.1 20 l3_58) (-1))))))]) C.1 C.2.1 dX1_settle_130 hl (k := 3) rfl (zI_dec _ _ (by decide)) (by decide) rfl (fun ls hl => ?_)
              replace hl := lv_sub hl [1, 2, 3, 0, 4] rfl
              refine lv_goto (tgt := 58) C.1 C.2.1 dX1_settle_133 (by decide) ?_
              obtain ⟨g133_26, hw⟩ := hw
              exact hL58 _ _ _ hw _ _ _ ⟨(show rng 0 from by decide), g133_26, Wd, lv_sub hl [0, 1, 2, 3] rfl⟩
            · have hw := hw.2 (z_ne (rng_toInt _) ga112 c113)
              exact J116  _ _ _ ⟨hw, Wd, lv_sub hl [0, 2, 3, 4] rfl⟩
  refine lv_icmp_ge (tgt := 29) C.1 C.2.1 dX1_settle_7 (by decide) (fun c7 => ?_) (fun c7 => ?_)
  · have hw := hw.1 (z_le (hS_σ2.1 12 1) g_l1_2 c7)
    exact J29  _ _ _ ⟨hw, Wd, lv_sub hl [0] rfl⟩
  · have hw := hw.2 (z_nle (hS_σ2.1 12 1) g_l1_2 c7)
    refine lv_iload_n C.1 C.2.1 dX1_settle_10 rfl (lv_at hl 1 rfl) ?_
    refine lv_bipush (v := zI 40) C.1 C.2.1 dX1_settle_11 (by decide) ?_
    refine lv_icmp_ge (tgt := 29) C.1 C.2.1 dX1_settle_13 (by decide) (fun c13 => ?_) (fun c13 => ?_)
    · have hw := hw.1 (z_le (show rng 40 from by decide) g_l1_2 c13)
      exact J29  _ _ _ ⟨hw, Wd, lv_sub hl [0] rfl⟩
    · have hw := hw.2 (z_nle (show rng 40 from by decide) g_l1_2 c13)
      refine lv_aload_n C.1 C.2.1 dX1_settle_16 rfl (lv_at hl 0 rfl) ?_
      refine k_get (v := .ref (ad 21)) C Wd.1 KX1 _ 10 (cx12 _) (by decide) fl_X1_45 rfl dX1_settle_17 ?_
      refine lv_iload_n C.1 C.2.1 dX1_settle_20 rfl (lv_at hl 1 rfl) ?_
      refine lv_iconst (v := zI 0) C.1 C.2.1 dX1_settle_21 (by decide) ?_
      obtain ⟨n22_0, hw⟩ := hw
      refine k_iastF (g := (σ2.2.1 21)) (i := l1_2) (v := 0) C Wd 21 (by decide) (cx21 _) (fun f => cx21a _ f) (tC_at (by decide) rfl) n22_0 (by decide) (ruZ (fun j => Wd.2.1.2.1 21 j) (show rng 0 from by decide)) dX1_settle_22 (fun H locs Wd => ?_)
      refine lv_iinc (v := zI (l1_2 + 1)) (lv' := [(1, .int (zI (l1_2 + 1))), (0, .ref (ad 12))]) C.1 C.2.1 dX1_settle_23 hl (k := 1) rfl (zI_inc _ _ (by decide)) (by decide) rfl (fun ls hl => ?_)
      replace hl := lv_sub hl [1, 0] rfl
      refine lv_goto (tgt := 2) C.1 C.2.1 dX1_settle_26 (by decide) ?_
      obtain ⟨g26_27, hw⟩ := hw
      exact hL2 _ _ hw _ _ _ ⟨g26_27, Wd, lv_sub hl [0, 1] rfl⟩
set_option maxHeartbeats 4000000 in
set_option maxRecDepth 100000 in
theorem mk_F_trace_12 : ∀ (D : va_G) (ad : Nat → Nat) (ca : Nat → ClassId) (rf : Nat → Nat → Option Nat) (σ : Sg) (hS : rngK σ) (hRF : RFok ad rf) (x0 : Int) (g_x0 : 0 ≤ x0 ∧ x0 < 35) (K : Sg → Prop) (hw : wp5_F_trace σ 12 x0 K) (l : Launch) (sz : Nat), Met l yX1_trace (Cond.code yX1_trace cX1_trace 2 none :: gG) { frames := 4, cells := 0, slots := 0, locals := 131 } (cPre D (tC ca) (wK ad ca rf σ) sz [.ref (ad 12), .ref (ad (rowC x0.toNat))]) (va_Qv (fun (u : Sg) => K u ∧ rngK u) (fun u t => cB D (va_A (wK ad ca rf σ) sz) [] (wK ad ca rf u) t) (va_A (wK ad ca rf σ) sz)) 0 0 (va_A (wK ad ca rf σ) sz) := by
  intro D ad ca rf σ hS hRF x0 g_x0 K hw l sz
  refine Met.ofW (cc := cX1_trace) (maxL := 2) (ret := none) (by decide) rfl ?_
  intro p e s m args below meth c s₁ B hml hv
  obtain ⟨rfl, aks, rfl, Wd⟩ := k_enter hv
  have C : CallFix p m c cX1_trace 2 s _ gG RX1 := ⟨B.exec, B.bytes, hml, findClass_of_methodNamed B.named, fun w h => atoms_spec (ws := Cond.code yX1_trace cX1_trace 2 none :: gG) B.pre w (List.mem_cons_of_mem _ h)⟩
  have hr := B.returns
  have hlk := B.notSynchronized
  generalize va_A (wK ad ca rf σ) s.heap.size = A at Wd ⊢
  replace Wd : wXK D ad ca rf s σ s.heap A s.heap [] := ⟨Wd, hS, hRF⟩
  refine k_locals (Nat.le_of_ble_eq_true rfl) [(0, .ref (ad 12)), (1, .ref (ad (rowC x0.toNat)))] rfl (fun ls hl => ?_)
  unfold wp5_F_trace at hw
  refine lv_aload_n C.1 C.2.1 dX1_trace_0 rfl (lv_at hl 0 rfl) ?_
  refine lv_aload_n C.1 C.2.1 dX1_trace_1 rfl (lv_at hl 1 rfl) ?_
  refine k_putW12 (n := x0) C Wd g_x0 fl_X1_14 dX1_trace_2 (fun H locs Wd => ?_)
  refine lv_aload_n C.1 C.2.1 dX1_trace_5 rfl (lv_at hl 0 rfl) ?_
  refine k_cKv Wd (k_runVK (rest := []) C aks Wd cs_X1_61 (mk_F_number_12 D ad ca rf (pU σ 12 0 x0) Wd.2.1 Wd.2.2   _ hw l _) (cx12 _) rfl rfl rfl rfl ⟨(Nat.le_of_ble_eq_true rfl), (Nat.le_of_ble_eq_true rfl)⟩ hl.1 rfl rfl (Nat.le_of_ble_eq_true rfl) ⟨(Nat.le_of_ble_eq_true rfl), (Nat.le_of_ble_eq_true rfl)⟩ dX1_trace_6) (fun σr6 H locs hw Wd => ?_)
  have hS_σr6 := Wd.2.1
  refine lv_aload_n C.1 C.2.1 dX1_trace_9 rfl (lv_at hl 0 rfl) ?_
  refine k_cKv Wd (k_runVK (rest := []) C aks Wd cs_X1_64 (mk_F_link_12 D ad ca rf σr6 Wd.2.1 Wd.2.2   _ hw l _) (cx12 _) rfl rfl rfl rfl ⟨(Nat.le_of_ble_eq_true rfl), (Nat.le_of_ble_eq_true rfl)⟩ hl.1 rfl rfl (Nat.le_of_ble_eq_true rfl) ⟨(Nat.le_of_ble_eq_true rfl), (Nat.le_of_ble_eq_true rfl)⟩ dX1_trace_10) (fun σr10 H locs hw Wd => ?_)
  have hS_σr10 := Wd.2.1
  refine lv_aload_n C.1 C.2.1 dX1_trace_13 rfl (lv_at hl 0 rfl) ?_
  refine k_cKv Wd (k_runVK (rest := []) C aks Wd cs_X1_67 (mk_F_settle_12 D ad ca rf σr10 Wd.2.1 Wd.2.2   _ hw l _) (cx12 _) rfl rfl rfl rfl ⟨(Nat.le_of_ble_eq_true rfl), (Nat.le_of_ble_eq_true rfl)⟩ hl.1 rfl rfl (Nat.le_of_ble_eq_true rfl) ⟨(Nat.le_of_ble_eq_true rfl), (Nat.le_of_ble_eq_true rfl)⟩ dX1_trace_14) (fun σr14 H locs hw Wd => ?_)
  have hS_σr14 := Wd.2.1
  exact k_retKv C hr hlk Wd hw dX1_trace_17
set_option maxHeartbeats 4000000 in
set_option maxRecDepth 100000 in
theorem mk_S_size : ∀ (D : va_G) (ad : Nat → Nat) (ca : Nat → ClassId) (rf : Nat → Nat → Option Nat) (σ : Sg) (hS : rngK σ) (hRF : RFok ad rf) (x0 : Int) (x1 : Int) (g_x0 : rng x0) (g_x1 : rng x1) (K : Int → Sg → Prop) (hw : wp5_S_size σ x0 x1 K) (l : Launch) (sz : Nat), Met l yX11_size (Cond.code yX11_size cX11_size 4 (some .int) :: gG) { frames := 5, cells := 0, slots := 0, locals := 152 } (cPre D (tC ca) (wK ad ca rf σ) sz [.ref (ad 0), .int (zI x0), .int (zI x1)]) (va_Qi (fun (r : Int32) (u : Sg) => (∃ x : Int, r = zI x ∧ rng x ∧ K x u) ∧ rngK u) (fun u t => cB D (va_A (wK ad ca rf σ) sz) [] (wK ad ca rf u) t) (va_A (wK ad ca rf σ) sz)) 0 0 (va_A (wK ad ca rf σ) sz) := by
  intro D ad ca rf σ hS hRF x0 x1 g_x0 g_x1 K hw l sz
  refine Met.ofW (cc := cX11_size) (maxL := 4) (ret := (some .int)) (by decide) rfl ?_
  intro p e s m args below meth c s₁ B hml hv
  obtain ⟨rfl, aks, rfl, Wd⟩ := k_enter hv
  have C : CallFix p m c cX11_size 4 s _ gG RX11 := ⟨B.exec, B.bytes, hml, findClass_of_methodNamed B.named, fun w h => atoms_spec (ws := Cond.code yX11_size cX11_size 4 (some .int) :: gG) B.pre w (List.mem_cons_of_mem _ h)⟩
  have hr := B.returns
  have hlk := B.notSynchronized
  generalize va_A (wK ad ca rf σ) s.heap.size = A at Wd ⊢
  replace Wd : wXK D ad ca rf s σ s.heap A s.heap [] := ⟨Wd, hS, hRF⟩
  refine k_locals (Nat.le_of_ble_eq_true rfl) [(0, .ref (ad 0)), (1, .int (zI x0)), (2, .int (zI x1))] rfl (fun ls hl => ?_)
  unfold wp5_S_size at hw
  refine lv_aload_n C.1 C.2.1 dX11_size_0 rfl (lv_at hl 0 rfl) ?_
  refine lv_iload_n C.1 C.2.1 dX11_size_1 rfl (lv_at hl 1 rfl) ?_
  refine k_pq (k_runVK (rest := []) C aks Wd cs_X11_77 (mk_S_slotAt D ad ca rf σ Wd.2.1 Wd.2.2 x0 g_x0 _ hw l _) (cx0 _) rfl rfl rfl rfl ⟨(Nat.le_of_ble_eq_true rfl), (Nat.le_of_ble_eq_true rfl)⟩ hl.1 rfl rfl (Nat.le_of_ble_eq_true rfl) ⟨(Nat.le_of_ble_eq_true rfl), (Nat.le_of_ble_eq_true rfl)⟩ dX11_size_2) (fun y2 hy => ?_)
  obtain ⟨r2, rfl, hw⟩ := hy
  by_cases c2 : r2 < 0
  · have hw := hw.1 c2
    rw [rfO_null c2]
    show W p l e _ s m _ below meth c _ _ _ _ _ (F0 m _ ls (.null :: []))
    refine lv_astore_nN (lv' := [(3, .null), (0, .ref (ad 0)), (1, .int (zI x0)), (2, .int (zI x1))]) C.1 C.2.1 dX11_size_5 rfl hl (by decide) rfl (fun ls hl => ?_)
    replace hl := lv_sub hl [1, 2, 3, 0] rfl
    refine lv_aload_nN C.1 C.2.1 dX11_size_6 rfl (lv_at hl 3 rfl) ?_
    refine lv_ifnonnullN C.1 C.2.1 dX11_size_7 ?_
    refine lv_iconst (v := zI (-1)) C.1 C.2.1 dX11_size_10 (by decide) ?_
    exact k_retKi C hr hlk rfl Wd ⟨_, rfl, (show rng (-1) from by decide), hw⟩ dX11_size_11
  · have hw := hw.2 (Int.not_lt.mp c2)
    rw [rfO_nn (Int.not_lt.mp c2)]
    obtain ⟨n2_0, hw⟩ := hw
    show W p l e _ s m _ below meth c _ _ _ _ _ (F0 m _ ls (.ref (ad (rowC r2.toNat)) :: []))
    refine lv_astore_n (lv' := [(3, .ref (ad (rowC r2.toNat))), (0, .ref (ad 0)), (1, .int (zI x0)), (2, .int (zI x1))]) C.1 C.2.1 dX11_size_5 rfl hl (by decide) rfl (fun ls hl => ?_)
    replace hl := lv_sub hl [1, 2, 3, 0] rfl
    refine lv_aload_n C.1 C.2.1 dX11_size_6 rfl (lv_at hl 3 rfl) ?_
    refine lv_ifnonnull (tgt := 12) C.1 C.2.1 dX11_size_7 (by decide) ?_
    refine lv_iload_n C.1 C.2.1 dX11_size_12 rfl (lv_at hl 2 rfl) ?_
    by_cases c13_0 : x1 = 0
    · have hw := hw.1 c13_0
      refine lv_tableIn (off := 31) (tgt := 44) C.1 C.2.1 dX11_size_13 (by rw [zI_toInt g_x1]; omega) (by rw [zI_toInt g_x1]; omega) (by rw [zI_toInt g_x1, c13_0]; rfl) (by decide) ?_
      refine lv_aload_n C.1 C.2.1 dX11_size_44 rfl (lv_at hl 3 rfl) ?_
      refine k_pi (k_runVK (rest := []) C aks Wd cs_X11_95 (mk_W_statements D ad ca rf σ Wd.2.1 Wd.2.2 r2 n2_0 _ hw l _) (cxRow n2_0) rfl rfl rfl rfl ⟨(Nat.le_of_ble_eq_true rfl), (Nat.le_of_ble_eq_true rfl)⟩ hl.1 rfl rfl (Nat.le_of_ble_eq_true rfl) ⟨(Nat.le_of_ble_eq_true rfl), (Nat.le_of_ble_eq_true rfl)⟩ dX11_size_45) (fun y45 hy => ?_)
      obtain ⟨r45, rfl, g_r45, hw⟩ := hy
      exact k_retKi C hr hlk rfl Wd ⟨_, rfl, g_r45, hw⟩ dX11_size_48
    by_cases c13_1 : x1 = 1
    · have hw := hw.2.1 c13_1
      refine lv_tableIn (off := 36) (tgt := 49) C.1 C.2.1 dX11_size_13 (by rw [zI_toInt g_x1]; omega) (by rw [zI_toInt g_x1]; omega) (by rw [zI_toInt g_x1, c13_1]; rfl) (by decide) ?_
      refine lv_aload_n C.1 C.2.1 dX11_size_49 rfl (lv_at hl 3 rfl) ?_
      refine k_pi (k_runVK (rest := []) C aks Wd cs_X11_117 (mk_W_expressions D ad ca rf σ Wd.2.1 Wd.2.2 r2 n2_0 _ hw l _) (cxRow n2_0) rfl rfl rfl rfl ⟨(Nat.le_of_ble_eq_true rfl), (Nat.le_of_ble_eq_true rfl)⟩ hl.1 rfl rfl (Nat.le_of_ble_eq_true rfl) ⟨(Nat.le_of_ble_eq_true rfl), (Nat.le_of_ble_eq_true rfl)⟩ dX11_size_50) (fun y50 hy => ?_)
      obtain ⟨r50, rfl, g_r50, hw⟩ := hy
      exact k_retKi C hr hlk rfl Wd ⟨_, rfl, g_r50, hw⟩ dX11_size_53
    by_cases c13_2 : x1 = 2
    · have hw := hw.2.2.1 c13_2
      refine lv_tableIn (off := 41) (tgt := 54) C.1 C.2.1 dX11_size_13 (by rw [zI_toInt g_x1]; omega) (by rw [zI_toInt g_x1]; omega) (by rw [zI_toInt g_x1, c13_2]; rfl) (by decide) ?_
      refine lv_aload_n C.1 C.2.1 dX11_size_54 rfl (lv_at hl 3 rfl) ?_
      refine k_get (v := .int (zI (σ.2.2.1 0 r2))) C Wd.1 KX8 _ 1 (cxRow n2_0) (by decide) fl_X11_120 rfl dX11_size_55 ?_
      exact k_retKi C hr hlk rfl Wd ⟨_, rfl, (rgY hS (N := 35) n2_0), hw⟩ dX11_size_58
    by_cases c13_3 : x1 = 3
    · have hw := hw.2.2.2.1 c13_3
      refine lv_tableIn (off := 46) (tgt := 59) C.1 C.2.1 dX11_size_13 (by rw [zI_toInt g_x1]; omega) (by rw [zI_toInt g_x1]; omega) (by rw [zI_toInt g_x1, c13_3]; rfl) (by decide) ?_
      refine lv_aload_n C.1 C.2.1 dX11_size_59 rfl (lv_at hl 0 rfl) ?_
      refine k_get (v := .ref (ad 8)) C Wd.1 KX11 _ 4 (cx0 _) (by decide) fl_X11_36 rfl dX11_size_60 ?_
      refine k_get (v := .ref (ad 12)) C Wd.1 KX3 _ 0 (cx8 _) (by decide) fl_X11_121 rfl dX11_size_63 ?_
      refine lv_aload_n C.1 C.2.1 dX11_size_66 rfl (lv_at hl 3 rfl) ?_
      refine k_cKv Wd (k_runVK (rest := []) C aks Wd cs_X11_125 (mk_F_trace_12 D ad ca rf σ Wd.2.1 Wd.2.2 r2 n2_0 _ hw l _) (cx12 _) rfl rfl rfl rfl ⟨(Nat.le_of_ble_eq_true rfl), (Nat.le_of_ble_eq_true rfl)⟩ hl.1 rfl rfl (Nat.le_of_ble_eq_true rfl) ⟨(Nat.le_of_ble_eq_true rfl), (Nat.le_of_ble_eq_true rfl)⟩ dX11_size_67) (fun σr67 H locs hw Wd => ?_)
      have hS_σr67 := Wd.2.1
      refine lv_aload_n C.1 C.2.1 dX11_size_70 rfl (lv_at hl 0 rfl) ?_
      refine k_get (v := .ref (ad 8)) C Wd.1 KX11 _ 4 (cx0 _) (by decide) fl_X11_36 rfl dX11_size_71 ?_
      refine k_get (v := .ref (ad 12)) C Wd.1 KX3 _ 0 (cx8 _) (by decide) fl_X11_121 rfl dX11_size_74 ?_
      refine lv_iconst (v := zI 0) C.1 C.2.1 dX11_size_77 (by decide) ?_
      refine k_pi (k_runVK (rest := []) C aks Wd cs_X11_130 (mk_F_aheadOf_12 D ad ca rf σr67 Wd.2.1 Wd.2.2 0 (show rng 0 from by decide) _ hw l _) (cx12 _) rfl rfl rfl rfl ⟨(Nat.le_of_ble_eq_true rfl), (Nat.le_of_ble_eq_true rfl)⟩ hl.1 rfl rfl (Nat.le_of_ble_eq_true rfl) ⟨(Nat.le_of_ble_eq_true rfl), (Nat.le_of_ble_eq_true rfl)⟩ dX11_size_78) (fun y78 hy => ?_)
      obtain ⟨r78, rfl, g_r78, hw⟩ := hy
      exact k_retKi C hr hlk rfl Wd ⟨_, rfl, g_r78, hw⟩ dX11_size_81
    have hw := hw.2.2.2.2 (by omega)
    refine lv_tableOut (tgt := 82) C.1 C.2.1 dX11_size_13 (by rw [zI_toInt g_x1]; omega) (by decide) ?_
    refine lv_iconst (v := zI (-1)) C.1 C.2.1 dX11_size_82 (by decide) ?_
    exact k_retKi C hr hlk rfl Wd ⟨_, rfl, (show rng (-1) from by decide), hw⟩ dX11_size_83
set_option maxHeartbeats 4000000 in
set_option maxRecDepth 100000 in
theorem mk_S_isWord : ∀ (D : va_G) (x0 : Int) (g_x0 : rng x0) (K : Int → Prop) (hw : wp5_S_isWord x0 K) (l : Launch) (sz : Nat), Met l yX11_isWord (Cond.code yX11_isWord cX11_isWord 1 (some .boolean) :: gG) { frames := 1, cells := 0, slots := 0, locals := 64 } (cPre D [] [] sz [.int (zI x0)]) (vp_Si (fun r => ∃ x : Int, r = zI x ∧ rng x ∧ K x)) 0 0 (fun _ => False) := by
  intro D x0 g_x0 K hw l sz
  refine Met.ofW (cc := cX11_isWord) (maxL := 1) (ret := (some .boolean)) (by decide) rfl ?_
  intro p e s m args below meth c s₁ B hml hv
  obtain ⟨rfl, aks, rfl, Wd⟩ := k_enter hv
  have C : CallFix p m c cX11_isWord 1 s _ gG RX11 := ⟨B.exec, B.bytes, hml, findClass_of_methodNamed B.named, fun w h => atoms_spec (ws := Cond.code yX11_isWord cX11_isWord 1 (some .boolean) :: gG) B.pre w (List.mem_cons_of_mem _ h)⟩
  have hr := B.returns
  have hlk := B.notSynchronized
  obtain ⟨A, Wd⟩ : ∃ A, wX D [] s [] s.heap A s.heap [] := ⟨_, Wd⟩
  refine k_locals (Nat.le_of_ble_eq_true rfl) [(0, .int (zI x0))] rfl (fun ls hl => ?_)
  unfold wp5_S_isWord at hw
  refine lv_iload_n C.1 C.2.1 dX11_isWord_0 rfl (lv_at hl 0 rfl) ?_
  refine lv_if_lt (tgt := 14) C.1 C.2.1 dX11_isWord_1 (by decide) (fun c1 => ?_) (fun c1 => ?_)
  · have hw := hw.1 (z0_lt g_x0 c1)
    refine lv_iconst (v := zI 0) C.1 C.2.1 dX11_isWord_14 (by decide) ?_
    exact k_zretP C hr hlk (by decide) ⟨_, rfl, (show rng 0 from by decide), hw⟩ dX11_isWord_15
  · have hw := hw.2 (z0_nlt g_x0 c1)
    refine lv_iload_n C.1 C.2.1 dX11_isWord_4 rfl (lv_at hl 0 rfl) ?_
    refine lv_bipush (v := zI 16) C.1 C.2.1 dX11_isWord_5 (by decide) ?_
    refine lv_icmp_ge (tgt := 14) C.1 C.2.1 dX11_isWord_7 (by decide) (fun c7 => ?_) (fun c7 => ?_)
    · have hw := hw.1 (z_le (show rng 16 from by decide) g_x0 c7)
      refine lv_iconst (v := zI 0) C.1 C.2.1 dX11_isWord_14 (by decide) ?_
      exact k_zretP C hr hlk (by decide) ⟨_, rfl, (show rng 0 from by decide), hw⟩ dX11_isWord_15
    · have hw := hw.2 (z_nle (show rng 16 from by decide) g_x0 c7)
      refine lv_iconst (v := zI 1) C.1 C.2.1 dX11_isWord_10 (by decide) ?_
      refine lv_goto (tgt := 15) C.1 C.2.1 dX11_isWord_11 (by decide) ?_
      exact k_zretP C hr hlk (by decide) ⟨_, rfl, (show rng 1 from by decide), hw⟩ dX11_isWord_15
set_option maxHeartbeats 4000000 in
set_option maxRecDepth 100000 in
theorem mk_W_isOperation : ∀ (D : va_G) (x0 : Int) (g_x0 : rng x0) (K : Int → Prop) (hw : wp5_W_isOperation x0 K) (l : Launch) (sz : Nat), Met l yX8_isOperation (Cond.code yX8_isOperation cX8_isOperation 1 (some .boolean) :: gG) { frames := 1, cells := 0, slots := 0, locals := 64 } (cPre D [] [] sz [.int (zI x0)]) (vp_Si (fun r => ∃ x : Int, r = zI x ∧ rng x ∧ K x)) 0 0 (fun _ => False) := by
  intro D x0 g_x0 K hw l sz
  refine Met.ofW (cc := cX8_isOperation) (maxL := 1) (ret := (some .boolean)) (by decide) rfl ?_
  intro p e s m args below meth c s₁ B hml hv
  obtain ⟨rfl, aks, rfl, Wd⟩ := k_enter hv
  have C : CallFix p m c cX8_isOperation 1 s _ gG RX8 := ⟨B.exec, B.bytes, hml, findClass_of_methodNamed B.named, fun w h => atoms_spec (ws := Cond.code yX8_isOperation cX8_isOperation 1 (some .boolean) :: gG) B.pre w (List.mem_cons_of_mem _ h)⟩
  have hr := B.returns
  have hlk := B.notSynchronized
  obtain ⟨A, Wd⟩ : ∃ A, wX D [] s [] s.heap A s.heap [] := ⟨_, Wd⟩
  refine k_locals (Nat.le_of_ble_eq_true rfl) [(0, .int (zI x0))] rfl (fun ls hl => ?_)
  unfold wp5_W_isOperation at hw
  refine lv_iload_n C.1 C.2.1 dX8_isOperation_0 rfl (lv_at hl 0 rfl) ?_
  refine lv_bipush (v := zI 120) C.1 C.2.1 dX8_isOperation_1 (by decide) ?_
  refine lv_icmp_lt (tgt := 16) C.1 C.2.1 dX8_isOperation_3 (by decide) (fun c3 => ?_) (fun c3 => ?_)
  · have hw := hw.1 (z_lt g_x0 (show rng 120 from by decide) c3)
    refine lv_iconst (v := zI 0) C.1 C.2.1 dX8_isOperation_16 (by decide) ?_
    exact k_zretP C hr hlk (by decide) ⟨_, rfl, (show rng 0 from by decide), hw⟩ dX8_isOperation_17
  · have hw := hw.2 (z_nlt g_x0 (show rng 120 from by decide) c3)
    refine lv_iload_n C.1 C.2.1 dX8_isOperation_6 rfl (lv_at hl 0 rfl) ?_
    refine lv_bipush (v := zI 122) C.1 C.2.1 dX8_isOperation_7 (by decide) ?_
    refine lv_icmp_gt (tgt := 16) C.1 C.2.1 dX8_isOperation_9 (by decide) (fun c9 => ?_) (fun c9 => ?_)
    · have hw := hw.1 (z_lt (show rng 122 from by decide) g_x0 c9)
      refine lv_iconst (v := zI 0) C.1 C.2.1 dX8_isOperation_16 (by decide) ?_
      exact k_zretP C hr hlk (by decide) ⟨_, rfl, (show rng 0 from by decide), hw⟩ dX8_isOperation_17
    · have hw := hw.2 (z_nlt (show rng 122 from by decide) g_x0 c9)
      refine lv_iconst (v := zI 1) C.1 C.2.1 dX8_isOperation_12 (by decide) ?_
      refine lv_goto (tgt := 17) C.1 C.2.1 dX8_isOperation_13 (by decide) ?_
      exact k_zretP C hr hlk (by decide) ⟨_, rfl, (show rng 1 from by decide), hw⟩ dX8_isOperation_17
set_option maxHeartbeats 4000000 in
set_option maxRecDepth 100000 in
theorem mk_W_result : ∀ (D : va_G) (x0 : Int) (x1 : Int) (x2 : Int) (g_x0 : rng x0) (g_x1 : rng x1) (g_x2 : rng x2) (K : Int → Prop) (hw : wp5_W_result x0 x1 x2 K) (l : Launch) (sz : Nat), Met l yX8_result (Cond.code yX8_result cX8_result 4 (some .int) :: gG) { frames := 1, cells := 0, slots := 0, locals := 64 } (cPre D [] [] sz [.int (zI x0), .int (zI x1), .int (zI x2)]) (vp_Si (fun r => ∃ x : Int, r = zI x ∧ rng x ∧ K x)) 0 0 (fun _ => False) := by
  intro D x0 x1 x2 g_x0 g_x1 g_x2 K hw l sz
  refine Met.ofW (cc := cX8_result) (maxL := 4) (ret := (some .int)) (by decide) rfl ?_
  intro p e s m args below meth c s₁ B hml hv
  obtain ⟨rfl, aks, rfl, Wd⟩ := k_enter hv
  have C : CallFix p m c cX8_result 4 s _ gG RX8 := ⟨B.exec, B.bytes, hml, findClass_of_methodNamed B.named, fun w h => atoms_spec (ws := Cond.code yX8_result cX8_result 4 (some .int) :: gG) B.pre w (List.mem_cons_of_mem _ h)⟩
  have hr := B.returns
  have hlk := B.notSynchronized
  obtain ⟨A, Wd⟩ : ∃ A, wX D [] s [] s.heap A s.heap [] := ⟨_, Wd⟩
  refine k_locals (Nat.le_of_ble_eq_true rfl) [(0, .int (zI x0)), (1, .int (zI x1)), (2, .int (zI x2))] rfl (fun ls hl => ?_)
  unfold wp5_W_result at hw
  refine lv_iload_n C.1 C.2.1 dX8_result_0 rfl (lv_at hl 0 rfl) ?_
  refine lv_bipush (v := zI 120) C.1 C.2.1 dX8_result_1 (by decide) ?_
  refine lv_icmp_ne (tgt := 12) C.1 C.2.1 dX8_result_3 (by decide) (fun c3 => ?_) (fun c3 => ?_)
  · have hw := hw.1 (z_ne g_x0 (show rng 120 from by decide) c3)
    refine lv_iload_n C.1 C.2.1 dX8_result_12 rfl (lv_at hl 0 rfl) ?_
    refine lv_bipush (v := zI 121) C.1 C.2.1 dX8_result_13 (by decide) ?_
    refine lv_icmp_ne (tgt := 24) C.1 C.2.1 dX8_result_15 (by decide) (fun c15 => ?_) (fun c15 => ?_)
    · have hw := hw.1 (z_ne g_x0 (show rng 121 from by decide) c15)
      refine lv_iload_n C.1 C.2.1 dX8_result_24 rfl (lv_at hl 1 rfl) ?_
      refine lv_iload_n C.1 C.2.1 dX8_result_25 rfl (lv_at hl 2 rfl) ?_
      refine k_imul (v := zI (x1 * x2)) C (zI_imul _ _) dX8_result_26 ?_
      refine lv_istore_n (lv' := [(3, .int (zI (x1 * x2))), (0, .int (zI x0)), (1, .int (zI x1)), (2, .int (zI x2))]) C.1 C.2.1 dX8_result_27 rfl hl (by decide) rfl (fun ls hl => ?_)
      replace hl := lv_sub hl [1, 2, 3, 0] rfl
      refine lv_iload_n C.1 C.2.1 dX8_result_28 rfl (lv_at hl 3 rfl) ?_
      refine lv_bipush (v := zI 15) C.1 C.2.1 dX8_result_29 (by decide) ?_
      refine k_iand (v := zI (ziand (x1 * x2) 15)) C (ziand_eq _ _) dX8_result_31 ?_
      exact k_zretP C hr hlk rfl ⟨_, rfl, (rng_toInt _), hw⟩ dX8_result_32
    · have hw := hw.2 (z_eq g_x0 (show rng 121 from by decide) c15)
      refine lv_iload_n C.1 C.2.1 dX8_result_18 rfl (lv_at hl 1 rfl) ?_
      refine lv_iload_n C.1 C.2.1 dX8_result_19 rfl (lv_at hl 2 rfl) ?_
      refine k_isub (v := zI (x1 - x2)) C (zI_isub _ _) dX8_result_20 ?_
      refine lv_goto (tgt := 27) C.1 C.2.1 dX8_result_21 (by decide) ?_
      refine lv_istore_n (lv' := [(3, .int (zI (x1 - x2))), (0, .int (zI x0)), (1, .int (zI x1)), (2, .int (zI x2))]) C.1 C.2.1 dX8_result_27 rfl hl (by decide) rfl (fun ls hl => ?_)
      replace hl := lv_sub hl [1, 2, 3, 0] rfl
      refine lv_iload_n C.1 C.2.1 dX8_result_28 rfl (lv_at hl 3 rfl) ?_
      refine lv_bipush (v := zI 15) C.1 C.2.1 dX8_result_29 (by decide) ?_
      refine k_iand (v := zI (ziand (x1 - x2) 15)) C (ziand_eq _ _) dX8_result_31 ?_
      exact k_zretP C hr hlk rfl ⟨_, rfl, (rng_toInt _), hw⟩ dX8_result_32
  · have hw := hw.2 (z_eq g_x0 (show rng 120 from by decide) c3)
    refine lv_iload_n C.1 C.2.1 dX8_result_6 rfl (lv_at hl 1 rfl) ?_
    refine lv_iload_n C.1 C.2.1 dX8_result_7 rfl (lv_at hl 2 rfl) ?_
    refine k_iadd (v := zI (x1 + x2)) C (zI_iadd _ _) dX8_result_8 ?_
    refine lv_goto (tgt := 27) C.1 C.2.1 dX8_result_9 (by decide) ?_
    refine lv_istore_n (lv' := [(3, .int (zI (x1 + x2))), (0, .int (zI x0)), (1, .int (zI x1)), (2, .int (zI x2))]) C.1 C.2.1 dX8_result_27 rfl hl (by decide) rfl (fun ls hl => ?_)
    replace hl := lv_sub hl [1, 2, 3, 0] rfl
    refine lv_iload_n C.1 C.2.1 dX8_result_28 rfl (lv_at hl 3 rfl) ?_
    refine lv_bipush (v := zI 15) C.1 C.2.1 dX8_result_29 (by decide) ?_
    refine k_iand (v := zI (ziand (x1 + x2) 15)) C (ziand_eq _ _) dX8_result_31 ?_
    exact k_zretP C hr hlk rfl ⟨_, rfl, (rng_toInt _), hw⟩ dX8_result_32
set_option maxHeartbeats 4000000 in
set_option maxRecDepth 100000 in
theorem mk_W_reckonM_8 : ∀ (D : va_G) (ad : Nat → Nat) (ca : Nat → ClassId) (rf : Nat → Nat → Option Nat) (σ : Sg) (hS : rngK σ) (hRF : RFok ad rf) (n0 : Int) (x0 : Int) (x1 : Int) (h_n0 : 0 ≤ n0 ∧ n0 < 35) (g_x0 : rng x0) (g_x1 : rng x1) (K : Sg → Prop) (hw : wp5_W_reckonM σ 8 n0 x0 x1 K) (l : Launch) (sz : Nat), Met l yX8_reckon (Cond.code yX8_reckon cX8_reckon 9 none :: gG) { frames := 2, cells := 0, slots := 0, locals := 96 } (cPre D (tC ca) (wK ad ca rf σ) sz [.ref (ad (rowC n0.toNat)), .int (zI x0), .int (zI x1), .ref (ad 10), .ref (ad 11)]) (va_Qv (fun (u : Sg) => K u ∧ rngK u) (fun u t => cB D (va_A (wK ad ca rf σ) sz) [] (wK ad ca rf u) t) (va_A (wK ad ca rf σ) sz)) 0 0 (va_A (wK ad ca rf σ) sz) := by
  intro D ad ca rf σ hS hRF n0 x0 x1 h_n0 g_x0 g_x1 K hw l sz
  refine Met.ofW (cc := cX8_reckon) (maxL := 9) (ret := none) (by decide) rfl ?_
  intro p e s m args below meth c s₁ B hml hv
  obtain ⟨rfl, aks, rfl, Wd⟩ := k_enter hv
  have C : CallFix p m c cX8_reckon 9 s _ gG RX8 := ⟨B.exec, B.bytes, hml, findClass_of_methodNamed B.named, fun w h => atoms_spec (ws := Cond.code yX8_reckon cX8_reckon 9 none :: gG) B.pre w (List.mem_cons_of_mem _ h)⟩
  have hr := B.returns
  have hlk := B.notSynchronized
  generalize va_A (wK ad ca rf σ) s.heap.size = A at Wd ⊢
  replace Wd : wXK D ad ca rf s σ s.heap A s.heap [] := ⟨Wd, hS, hRF⟩
  refine k_locals (Nat.le_of_ble_eq_true rfl) [(0, .ref (ad (rowC n0.toNat))), (1, .int (zI x0)), (2, .int (zI x1)), (3, .ref (ad 10)), (4, .ref (ad 11))] rfl (fun ls hl => ?_)
  unfold wp5_W_reckonM at hw
  refine lv_iconst (v := zI 0) C.1 C.2.1 dX8_reckon_0 (by decide) ?_
  refine lv_istore (lv' := [(5, .int (zI 0)), (0, .ref (ad (rowC n0.toNat))), (1, .int (zI x0)), (2, .int (zI x1)), (3, .ref (ad 10)), (4, .ref (ad 11))]) C.1 C.2.1 dX8_reckon_1 hl (by decide) rfl (fun ls hl => ?_)
  replace hl := lv_sub hl [1, 2, 3, 4, 5, 0] rfl
  refine lv_iload_n C.1 C.2.1 dX8_reckon_3 rfl (lv_at hl 2 rfl) ?_
  refine lv_aload_n C.1 C.2.1 dX8_reckon_4 rfl (lv_at hl 0 rfl) ?_
  refine k_get (v := .int (zI (σ.2.2.1 0 n0))) C Wd.1 KX8 _ 1 (cxRow h_n0) (by decide) fl_X8_21 rfl dX8_reckon_5 ?_
  refine k_mmin (v := zI (min x1 (σ.2.2.1 0 n0))) C hl.1 ml_X8_65 st_Lib_Math_min_name in_J9 cd_min (Nat.le_of_ble_eq_true rfl) (Nat.le_of_ble_eq_true rfl) (Nat.le_of_ble_eq_true rfl) (Nat.le_of_ble_eq_true rfl) (zmin_eq _ _ g_x1 (rgY hS (N := 35) h_n0)) dX8_reckon_8 ?_
  refine lv_iconst (v := zI 1) C.1 C.2.1 dX8_reckon_11 (by decide) ?_
  refine k_isub (v := zI ((min x1 (σ.2.2.1 0 n0)) - 1)) C (zI_isub _ _) dX8_reckon_12 ?_
  refine lv_istore (lv' := [(6, .int (zI ((min x1 (σ.2.2.1 0 n0)) - 1))), (0, .ref (ad (rowC n0.toNat))), (1, .int (zI x0)), (2, .int (zI x1)), (3, .ref (ad 10)), (4, .ref (ad 11)), (5, .int (zI 0))]) C.1 C.2.1 dX8_reckon_13 hl (by decide) rfl (fun ls hl => ?_)
  replace hl := lv_sub hl [1, 2, 3, 4, 5, 6, 0] rfl
  obtain ⟨g13_10, hw⟩ := hw
  refine k_lp3 hw (fun (l5_15 : Int) (l6_15 : Int) (σ15 : Sg) H locs ls => rng l5_15 ∧ rng l6_15 ∧ wXK D ad ca rf s σ15 H A s.heap locs ∧ lv_has ls 9 [(0, .ref (ad (rowC n0.toNat))), (1, .int (zI x0)), (3, .ref (ad 10)), (4, .ref (ad 11)), (5, .int (zI l5_15)), (6, .int (zI l6_15))]) (fun (l5_15 : Int) (l6_15 : Int) (σ15 : Sg) ls => F0 m 15 ls []) (fun L15 hL15 l5_15 l6_15 σ15 hw H locs ls hi => ?_) _ _ _ ⟨(show rng 0 from by decide), g13_10, Wd, lv_sub hl [0, 1, 3, 4, 5, 6] rfl⟩
  obtain ⟨g_l5_15, g_l6_15, Wd, hl⟩ := hi
  have hS_σ15 := Wd.2.1
  unfold wp5_W_reckonM_15 at hw
  refine lv_iload C.1 C.2.1 dX8_reckon_15 (lv_at hl 5 rfl) ?_
  refine lv_iload_n C.1 C.2.1 dX8_reckon_17 rfl (lv_at hl 1 rfl) ?_
  refine lv_icmp_lt (tgt := 143) C.1 C.2.1 dX8_reckon_18 (by decide) (fun c18 => ?_) (fun c18 => ?_)
  · have hw := hw.1 (z_lt g_l6_15 g_x0 c18)
    exact k_retKv C hr hlk Wd hw dX8_reckon_143
  · have hw := hw.2 (z_nlt g_l6_15 g_x0 c18)
    refine lv_iload C.1 C.2.1 dX8_reckon_21 (lv_at hl 5 rfl) ?_
    refine lv_if_lt (tgt := 143) C.1 C.2.1 dX8_reckon_23 (by decide) (fun c23 => ?_) (fun c23 => ?_)
    · have hw := hw.1 (z0_lt g_l6_15 c23)
      exact k_retKv C hr hlk Wd hw dX8_reckon_143
    · have hw := hw.2 (z0_nlt g_l6_15 c23)
      refine lv_aload_n C.1 C.2.1 dX8_reckon_26 rfl (lv_at hl 0 rfl) ?_
      refine k_get (v := .ref (ad ((rowC n0.toNat) + 1))) C Wd.1 KX8 _ 0 (cxRow h_n0) (by decide) fl_X8_15 rfl dX8_reckon_27 ?_
      refine lv_iload C.1 C.2.1 dX8_reckon_30 (lv_at hl 5 rfl) ?_
      obtain ⟨n32_0, hw⟩ := hw
      refine k_ialdK (g := (σ15.2.2.2 0 n0)) C Wd (cxRowc h_n0) (tyR h_n0) (capN n32_0) (capL _) dX8_reckon_32 ?_
      have ga32 : rng (σ15.2.2.2 0 n0 l6_15) := rngL (rgZ (c := 0) Wd.2.1 h_n0) n32_0
      refine lv_istore (lv' := [(7, .int (zI (σ15.2.2.2 0 n0 l6_15))), (0, .ref (ad (rowC n0.toNat))), (1, .int (zI x0)), (3, .ref (ad 10)), (4, .ref (ad 11)), (5, .int (zI l5_15)), (6, .int (zI l6_15))]) C.1 C.2.1 dX8_reckon_33 hl (by decide) rfl (fun ls hl => ?_)
      replace hl := lv_sub hl [1, 2, 3, 4, 5, 6, 0] rfl
      refine lv_iload C.1 C.2.1 dX8_reckon_35 (lv_at hl 6 rfl) ?_
      refine k_pi (k_runS (rest := []) C aks Wd.1 cs_X8_49 (mk_W_isOperation D (σ15.2.2.2 0 n0 l6_15) ga32 _ hw l _) [] rfl (by decide) [] rfl rfl rfl ⟨(Nat.le_of_ble_eq_true rfl), (Nat.le_of_ble_eq_true rfl)⟩ hl.1 rfl rfl (Nat.le_of_ble_eq_true rfl) ⟨(Nat.le_of_ble_eq_true rfl), (Nat.le_of_ble_eq_true rfl)⟩ dX8_reckon_37) (fun y37 hy => ?_)
      obtain ⟨r37, rfl, g_r37, hw⟩ := hy
      refine lv_if_eq (tgt := 89) C.1 C.2.1 dX8_reckon_40 (by decide) (fun c40 => ?_) (fun c40 => ?_)
      · have hw := hw.1 (z0_eq g_r37 c40)
        refine lv_iload C.1 C.2.1 dX8_reckon_89 (lv_at hl 4 rfl) ?_
        refine lv_aload C.1 C.2.1 dX8_reckon_91 (lv_at hl 3 rfl) ?_
        refine k_alen (v := zI 300) C Wd.1 11 11 (cx11 _) (tC_at (by decide) rfl) rfl dX8_reckon_93 ?_
        refine lv_icmp_ge (tgt := 137) C.1 C.2.1 dX8_reckon_94 (by decide) (fun c94 => ?_) (fun c94 => ?_)
        · have hw := hw.1 (z_le (show rng 300 from by decide) g_l5_15 c94)
          refine lv_iinc (v := zI (l6_15 - 1)) (lv' := [(6, .int (zI (l6_15 - 1))), (0, .ref (ad (rowC n0.toNat))), (1, .int (zI x0)), (3, .ref (ad 10)), (4, .ref (ad 11)), (5, .int (zI l5_15)), (7, .int (zI (σ15.2.2.2 0 n0 l6_15)))]) C.1 C.2.1 dX8_reckon_137 hl (k := 5) rfl (zI_dec _ _ (by decide)) (by decide) rfl (fun ls hl => ?_)
          replace hl := lv_sub hl [1, 2, 3, 4, 5, 0, 6] rfl
          refine lv_goto (tgt := 15) C.1 C.2.1 dX8_reckon_140 (by decide) ?_
          obtain ⟨g140_11, hw⟩ := hw
          exact hL15 _ _ _ hw _ _ _ ⟨g_l5_15, g140_11, Wd, lv_sub hl [0, 1, 2, 3, 4, 5] rfl⟩
        · have hw := hw.2 (z_nle (show rng 300 from by decide) g_l5_15 c94)
          refine lv_iload C.1 C.2.1 dX8_reckon_97 (lv_at hl 6 rfl) ?_
          refine lv_bipush (v := zI 20) C.1 C.2.1 dX8_reckon_99 (by decide) ?_
          refine k_isub (v := zI ((σ15.2.2.2 0 n0 l6_15) - 20)) C (zI_isub _ _) dX8_reckon_101 ?_
          refine lv_istore (lv' := [(8, .int (zI ((σ15.2.2.2 0 n0 l6_15) - 20))), (0, .ref (ad (rowC n0.toNat))), (1, .int (zI x0)), (3, .ref (ad 10)), (4, .ref (ad 11)), (5, .int (zI l5_15)), (6, .int (zI l6_15)), (7, .int (zI (σ15.2.2.2 0 n0 l6_15)))]) C.1 C.2.1 dX8_reckon_102 hl (by decide) rfl (fun ls hl => ?_)
          replace hl := lv_sub hl [1, 2, 3, 4, 5, 6, 7, 0] rfl
          refine lv_aload C.1 C.2.1 dX8_reckon_104 (lv_at hl 3 rfl) ?_
          refine lv_iload C.1 C.2.1 dX8_reckon_106 (lv_at hl 4 rfl) ?_
          refine lv_iload C.1 C.2.1 dX8_reckon_108 (lv_at hl 7 rfl) ?_
          obtain ⟨g110_12, hw⟩ := hw
          refine lv_if_ge (tgt := 118) C.1 C.2.1 dX8_reckon_110 (by decide) (fun c110 => ?_) (fun c110 => ?_)
          · have hw := hw.1 (z0_ler g110_12 c110)
            refine lv_iload C.1 C.2.1 dX8_reckon_118 (lv_at hl 7 rfl) ?_
            refine lv_aload_n C.1 C.2.1 dX8_reckon_120 rfl (lv_at hl 2 rfl) ?_
            refine k_alen (v := zI 6) C Wd.1 10 10 (cx10 _) (tC_at (by decide) rfl) rfl dX8_reckon_121 ?_
            refine lv_icmp_ge (tgt := 132) C.1 C.2.1 dX8_reckon_122 (by decide) (fun c122 => ?_) (fun c122 => ?_)
            · have hw := hw.1 (z_le (show rng 6 from by decide) g110_12 c122)
              refine lv_iconst (v := zI 0) C.1 C.2.1 dX8_reckon_132 (by decide) ?_
              obtain ⟨n133_0, hw⟩ := hw
              refine k_iastF (g := (σ15.2.1 11)) (i := l5_15) (v := 0) C Wd 11 (by decide) (cx11 _) (fun f => cx11a _ f) (tC_at (by decide) rfl) n133_0 (by decide) (ruZ (fun j => Wd.2.1.2.1 11 j) (show rng 0 from by decide)) dX8_reckon_133 (fun H locs Wd => ?_)
              refine lv_iinc (v := zI (l5_15 + 1)) (lv' := [(5, .int (zI (l5_15 + 1))), (0, .ref (ad (rowC n0.toNat))), (1, .int (zI x0)), (3, .ref (ad 10)), (4, .ref (ad 11)), (6, .int (zI l6_15)), (7, .int (zI (σ15.2.2.2 0 n0 l6_15))), (8, .int (zI ((σ15.2.2.2 0 n0 l6_15) - 20)))]) C.1 C.2.1 dX8_reckon_134 hl (k := 4) rfl (zI_inc _ _ (by decide)) (by decide) rfl (fun ls hl => ?_)
              replace hl := lv_sub hl [1, 2, 3, 4, 0, 5, 6, 7] rfl
              refine lv_iinc (v := zI (l6_15 - 1)) (lv' := [(6, .int (zI (l6_15 - 1))), (0, .ref (ad (rowC n0.toNat))), (1, .int (zI x0)), (3, .ref (ad 10)), (4, .ref (ad 11)), (5, .int (zI (l5_15 + 1))), (7, .int (zI (σ15.2.2.2 0 n0 l6_15))), (8, .int (zI ((σ15.2.2.2 0 n0 l6_15) - 20)))]) C.1 C.2.1 dX8_reckon_137 hl (k := 5) rfl (zI_dec _ _ (by decide)) (by decide) rfl (fun ls hl => ?_)
              replace hl := lv_sub hl [1, 2, 3, 4, 5, 0, 6, 7] rfl
              refine lv_goto (tgt := 15) C.1 C.2.1 dX8_reckon_140 (by decide) ?_
              obtain ⟨g140_13, hw⟩ := hw
              obtain ⟨g140_14, hw⟩ := hw
              exact hL15 _ _ _ hw _ _ _ ⟨g140_13, g140_14, Wd, lv_sub hl [0, 1, 2, 3, 4, 5] rfl⟩
            · have hw := hw.2 (z_nle (show rng 6 from by decide) g110_12 c122)
              refine lv_aload_n C.1 C.2.1 dX8_reckon_125 rfl (lv_at hl 2 rfl) ?_
              refine lv_iload C.1 C.2.1 dX8_reckon_126 (lv_at hl 7 rfl) ?_
              obtain ⟨n128_0, hw⟩ := hw
              refine k_ialdK (g := (σ15.2.1 10)) C Wd (cx10 _) (tC_at (by decide) rfl) n128_0 (by decide) dX8_reckon_128 ?_
              have ga128 : rng (σ15.2.1 10 ((σ15.2.2.2 0 n0 l6_15) - 20)) := rngL (fun j => (Wd.2.1).2.1 10 j) n128_0
              refine lv_goto (tgt := 133) C.1 C.2.1 dX8_reckon_129 (by decide) ?_
              obtain ⟨n133_0, hw⟩ := hw
              refine k_iastF (g := (σ15.2.1 11)) (i := l5_15) (v := (σ15.2.1 10 ((σ15.2.2.2 0 n0 l6_15) - 20))) C Wd 11 (by decide) (cx11 _) (fun f => cx11a _ f) (tC_at (by decide) rfl) n133_0 (by decide) (ruZ (fun j => Wd.2.1.2.1 11 j) ga128) dX8_reckon_133 (fun H locs Wd => ?_)
              refine lv_iinc (v := zI (l5_15 + 1)) (lv' := [(5, .int (zI (l5_15 + 1))), (0, .ref (ad (rowC n0.toNat))), (1, .int (zI x0)), (3, .ref (ad 10)), (4, .ref (ad 11)), (6, .int (zI l6_15)), (7, .int (zI (σ15.2.2.2 0 n0 l6_15))), (8, .int (zI ((σ15.2.2.2 0 n0 l6_15) - 20)))]) C.1 C.2.1 dX8_reckon_134 hl (k := 4) rfl (zI_inc _ _ (by decide)) (by decide) rfl (fun ls hl => ?_)
              replace hl := lv_sub hl [1, 2, 3, 4, 0, 5, 6, 7] rfl
              refine lv_iinc (v := zI (l6_15 - 1)) (lv' := [(6, .int (zI (l6_15 - 1))), (0, .ref (ad (rowC n0.toNat))), (1, .int (zI x0)), (3, .ref (ad 10)), (4, .ref (ad 11)), (5, .int (zI (l5_15 + 1))), (7, .int (zI (σ15.2.2.2 0 n0 l6_15))), (8, .int (zI ((σ15.2.2.2 0 n0 l6_15) - 20)))]) C.1 C.2.1 dX8_reckon_137 hl (k := 5) rfl (zI_dec _ _ (by decide)) (by decide) rfl (fun ls hl => ?_)
              replace hl := lv_sub hl [1, 2, 3, 4, 5, 0, 6, 7] rfl
              refine lv_goto (tgt := 15) C.1 C.2.1 dX8_reckon_140 (by decide) ?_
              obtain ⟨g140_15, hw⟩ := hw
              obtain ⟨g140_16, hw⟩ := hw
              exact hL15 _ _ _ hw _ _ _ ⟨g140_15, g140_16, Wd, lv_sub hl [0, 1, 2, 3, 4, 5] rfl⟩
          · have hw := hw.2 (z0_nler g110_12 c110)
            refine lv_iload C.1 C.2.1 dX8_reckon_113 (lv_at hl 6 rfl) ?_
            refine lv_goto (tgt := 133) C.1 C.2.1 dX8_reckon_115 (by decide) ?_
            obtain ⟨n133_0, hw⟩ := hw
            refine k_iastF (g := (σ15.2.1 11)) (i := l5_15) (v := (σ15.2.2.2 0 n0 l6_15)) C Wd 11 (by decide) (cx11 _) (fun f => cx11a _ f) (tC_at (by decide) rfl) n133_0 (by decide) (ruZ (fun j => Wd.2.1.2.1 11 j) ga32) dX8_reckon_133 (fun H locs Wd => ?_)
            refine lv_iinc (v := zI (l5_15 + 1)) (lv' := [(5, .int (zI (l5_15 + 1))), (0, .ref (ad (rowC n0.toNat))), (1, .int (zI x0)), (3, .ref (ad 10)), (4, .ref (ad 11)), (6, .int (zI l6_15)), (7, .int (zI (σ15.2.2.2 0 n0 l6_15))), (8, .int (zI ((σ15.2.2.2 0 n0 l6_15) - 20)))]) C.1 C.2.1 dX8_reckon_134 hl (k := 4) rfl (zI_inc _ _ (by decide)) (by decide) rfl (fun ls hl => ?_)
            replace hl := lv_sub hl [1, 2, 3, 4, 0, 5, 6, 7] rfl
            refine lv_iinc (v := zI (l6_15 - 1)) (lv' := [(6, .int (zI (l6_15 - 1))), (0, .ref (ad (rowC n0.toNat))), (1, .int (zI x0)), (3, .ref (ad 10)), (4, .ref (ad 11)), (5, .int (zI (l5_15 + 1))), (7, .int (zI (σ15.2.2.2 0 n0 l6_15))), (8, .int (zI ((σ15.2.2.2 0 n0 l6_15) - 20)))]) C.1 C.2.1 dX8_reckon_137 hl (k := 5) rfl (zI_dec _ _ (by decide)) (by decide) rfl (fun ls hl => ?_)
            replace hl := lv_sub hl [1, 2, 3, 4, 5, 0, 6, 7] rfl
            refine lv_goto (tgt := 15) C.1 C.2.1 dX8_reckon_140 (by decide) ?_
            obtain ⟨g140_17, hw⟩ := hw
            obtain ⟨g140_18, hw⟩ := hw
            exact hL15 _ _ _ hw _ _ _ ⟨g140_17, g140_18, Wd, lv_sub hl [0, 1, 2, 3, 4, 5] rfl⟩
      · have hw := hw.2 (z0_ne g_r37 c40)
        refine lv_iload C.1 C.2.1 dX8_reckon_43 (lv_at hl 4 rfl) ?_
        refine lv_iconst (v := zI 2) C.1 C.2.1 dX8_reckon_45 (by decide) ?_
        refine lv_icmp_lt (tgt := 137) C.1 C.2.1 dX8_reckon_46 (by decide) (fun c46 => ?_) (fun c46 => ?_)
        · have hw := hw.1 (z_lt g_l5_15 (show rng 2 from by decide) c46)
          refine lv_iinc (v := zI (l6_15 - 1)) (lv' := [(6, .int (zI (l6_15 - 1))), (0, .ref (ad (rowC n0.toNat))), (1, .int (zI x0)), (3, .ref (ad 10)), (4, .ref (ad 11)), (5, .int (zI l5_15)), (7, .int (zI (σ15.2.2.2 0 n0 l6_15)))]) C.1 C.2.1 dX8_reckon_137 hl (k := 5) rfl (zI_dec _ _ (by decide)) (by decide) rfl (fun ls hl => ?_)
          replace hl := lv_sub hl [1, 2, 3, 4, 5, 0, 6] rfl
          refine lv_goto (tgt := 15) C.1 C.2.1 dX8_reckon_140 (by decide) ?_
          obtain ⟨g140_19, hw⟩ := hw
          exact hL15 _ _ _ hw _ _ _ ⟨g_l5_15, g140_19, Wd, lv_sub hl [0, 1, 2, 3, 4, 5] rfl⟩
        · have hw := hw.2 (z_nlt g_l5_15 (show rng 2 from by decide) c46)
          refine lv_iload C.1 C.2.1 dX8_reckon_49 (lv_at hl 4 rfl) ?_
          refine lv_aload C.1 C.2.1 dX8_reckon_51 (lv_at hl 3 rfl) ?_
          refine k_alen (v := zI 300) C Wd.1 11 11 (cx11 _) (tC_at (by decide) rfl) rfl dX8_reckon_53 ?_
          refine lv_icmp_gt (tgt := 137) C.1 C.2.1 dX8_reckon_54 (by decide) (fun c54 => ?_) (fun c54 => ?_)
          · have hw := hw.1 (z_lt (show rng 300 from by decide) g_l5_15 c54)
            refine lv_iinc (v := zI (l6_15 - 1)) (lv' := [(6, .int (zI (l6_15 - 1))), (0, .ref (ad (rowC n0.toNat))), (1, .int (zI x0)), (3, .ref (ad 10)), (4, .ref (ad 11)), (5, .int (zI l5_15)), (7, .int (zI (σ15.2.2.2 0 n0 l6_15)))]) C.1 C.2.1 dX8_reckon_137 hl (k := 5) rfl (zI_dec _ _ (by decide)) (by decide) rfl (fun ls hl => ?_)
            replace hl := lv_sub hl [1, 2, 3, 4, 5, 0, 6] rfl
            refine lv_goto (tgt := 15) C.1 C.2.1 dX8_reckon_140 (by decide) ?_
            obtain ⟨g140_20, hw⟩ := hw
            exact hL15 _ _ _ hw _ _ _ ⟨g_l5_15, g140_20, Wd, lv_sub hl [0, 1, 2, 3, 4, 5] rfl⟩
          · have hw := hw.2 (z_nlt (show rng 300 from by decide) g_l5_15 c54)
            refine lv_aload C.1 C.2.1 dX8_reckon_57 (lv_at hl 3 rfl) ?_
            refine lv_iload C.1 C.2.1 dX8_reckon_59 (lv_at hl 4 rfl) ?_
            refine lv_iconst (v := zI 2) C.1 C.2.1 dX8_reckon_61 (by decide) ?_
            refine k_isub (v := zI (l5_15 - 2)) C (zI_isub _ _) dX8_reckon_62 ?_
            refine lv_iload C.1 C.2.1 dX8_reckon_63 (lv_at hl 6 rfl) ?_
            refine lv_aload C.1 C.2.1 dX8_reckon_65 (lv_at hl 3 rfl) ?_
            refine lv_iload C.1 C.2.1 dX8_reckon_67 (lv_at hl 4 rfl) ?_
            refine lv_iconst (v := zI 1) C.1 C.2.1 dX8_reckon_69 (by decide) ?_
            refine k_isub (v := zI (l5_15 - 1)) C (zI_isub _ _) dX8_reckon_70 ?_
            obtain ⟨n71_0, hw⟩ := hw
            refine k_ialdK (g := (σ15.2.1 11)) C Wd (cx11 _) (tC_at (by decide) rfl) n71_0 (by decide) dX8_reckon_71 ?_
            have ga71 : rng (σ15.2.1 11 (l5_15 - 1)) := rngL (fun j => (Wd.2.1).2.1 11 j) n71_0
            refine lv_aload C.1 C.2.1 dX8_reckon_72 (lv_at hl 3 rfl) ?_
            refine lv_iload C.1 C.2.1 dX8_reckon_74 (lv_at hl 4 rfl) ?_
            refine lv_iconst (v := zI 2) C.1 C.2.1 dX8_reckon_76 (by decide) ?_
            refine k_isub (v := zI (l5_15 - 2)) C (zI_isub _ _) dX8_reckon_77 ?_
            obtain ⟨n78_1, hw⟩ := hw
            refine k_ialdK (g := (σ15.2.1 11)) C Wd (cx11 _) (tC_at (by decide) rfl) n78_1 (by decide) dX8_reckon_78 ?_
            have ga78 : rng (σ15.2.1 11 (l5_15 - 2)) := rngL (fun j => (Wd.2.1).2.1 11 j) n78_1
            refine k_pi (k_runS (rest := [.int (zI (l5_15 - 2)), .ref (ad 11)]) C aks Wd.1 cs_X8_68 (mk_W_result D (σ15.2.2.2 0 n0 l6_15) (σ15.2.1 11 (l5_15 - 1)) (σ15.2.1 11 (l5_15 - 2)) ga32 ga71 ga78 _ hw l _) [] rfl (by decide) [] rfl rfl rfl ⟨(Nat.le_of_ble_eq_true rfl), (Nat.le_of_ble_eq_true rfl)⟩ hl.1 rfl rfl (Nat.le_of_ble_eq_true rfl) ⟨(Nat.le_of_ble_eq_true rfl), (Nat.le_of_ble_eq_true rfl)⟩ dX8_reckon_79) (fun y79 hy => ?_)
            obtain ⟨r79, rfl, g_r79, hw⟩ := hy
            refine k_iastF (g := (σ15.2.1 11)) (i := (l5_15 - 2)) (v := r79) C Wd 11 (by decide) (cx11 _) (fun f => cx11a _ f) (tC_at (by decide) rfl) n78_1 (by decide) (ruZ (fun j => Wd.2.1.2.1 11 j) g_r79) dX8_reckon_82 (fun H locs Wd => ?_)
            refine lv_iinc (v := zI (l5_15 - 1)) (lv' := [(5, .int (zI (l5_15 - 1))), (0, .ref (ad (rowC n0.toNat))), (1, .int (zI x0)), (3, .ref (ad 10)), (4, .ref (ad 11)), (6, .int (zI l6_15)), (7, .int (zI (σ15.2.2.2 0 n0 l6_15)))]) C.1 C.2.1 dX8_reckon_83 hl (k := 4) rfl (zI_dec _ _ (by decide)) (by decide) rfl (fun ls hl => ?_)
            replace hl := lv_sub hl [1, 2, 3, 4, 0, 5, 6] rfl
            refine lv_goto (tgt := 137) C.1 C.2.1 dX8_reckon_86 (by decide) ?_
            refine lv_iinc (v := zI (l6_15 - 1)) (lv' := [(6, .int (zI (l6_15 - 1))), (0, .ref (ad (rowC n0.toNat))), (1, .int (zI x0)), (3, .ref (ad 10)), (4, .ref (ad 11)), (5, .int (zI (l5_15 - 1))), (7, .int (zI (σ15.2.2.2 0 n0 l6_15)))]) C.1 C.2.1 dX8_reckon_137 hl (k := 5) rfl (zI_dec _ _ (by decide)) (by decide) rfl (fun ls hl => ?_)
            replace hl := lv_sub hl [1, 2, 3, 4, 5, 0, 6] rfl
            refine lv_goto (tgt := 15) C.1 C.2.1 dX8_reckon_140 (by decide) ?_
            obtain ⟨g140_21, hw⟩ := hw
            obtain ⟨g140_22, hw⟩ := hw
            exact hL15 _ _ _ hw _ _ _ ⟨g140_21, g140_22, Wd, lv_sub hl [0, 1, 2, 3, 4, 5] rfl⟩
