set_option maxHeartbeats 4000000 in
set_option maxRecDepth 100000 in
theorem mk_B_tryAll : ∀ (D : va_G) (ad : Nat → Nat) (ca : Nat → ClassId) (rf : Nat → Nat → Option Nat) (σ : Sg) (hS : rngK σ) (hRF : RFok ad rf) (x0 : Int) (g_x0 : 0 ≤ x0 ∧ x0 < 12) (K : Sg → Prop) (hw : wp5_B_tryAll σ x0 K) (l : Launch) (sz : Nat), Met l yX5_tryAll (Cond.code yX5_tryAll cX5_tryAll 8 none :: gG) { frames := 5, cells := 0, slots := 0, locals := 169 } (cPre D (tC ca) (wK ad ca rf σ) sz [.ref (ad 25), .ref (ad (ruleC x0.toNat))]) (va_Qv (fun (u : Sg) => K u ∧ rngK u) (fun u t => cB D (va_A (wK ad ca rf σ) sz) [] (wK ad ca rf u) t) (va_A (wK ad ca rf σ) sz)) 0 0 (va_A (wK ad ca rf σ) sz) := by
  intro D ad ca rf σ hS hRF x0 g_x0 K hw l sz
  refine Met.ofW (cc := cX5_tryAll) (maxL := 8) (ret := none) (by decide) rfl ?_
  intro p e s m args below meth c s₁ B hml hv
  obtain ⟨rfl, aks, rfl, Wd⟩ := k_enter hv
  have C : CallFix p m c cX5_tryAll 8 s _ gG RX5 := ⟨B.exec, B.bytes, hml, findClass_of_methodNamed B.named, fun w h => atoms_spec (ws := Cond.code yX5_tryAll cX5_tryAll 8 none :: gG) B.pre w (List.mem_cons_of_mem _ h)⟩
  have hr := B.returns
  have hlk := B.notSynchronized
  generalize va_A (wK ad ca rf σ) s.heap.size = A at Wd ⊢
  replace Wd : wXK D ad ca rf s σ s.heap A s.heap [] := ⟨Wd, hS, hRF⟩
  refine k_locals (Nat.le_of_ble_eq_true rfl) [(0, .ref (ad 25)), (1, .ref (ad (ruleC x0.toNat)))] rfl (fun ls hl => ?_)
  unfold wp5_B_tryAll at hw
  refine lv_aload_n C.1 C.2.1 dX5_tryAll_0 rfl (lv_at hl 0 rfl) ?_
  refine lv_iconst (v := zI (-1)) C.1 C.2.1 dX5_tryAll_1 (by decide) ?_
  refine k_putK (v := (-1)) C Wd KX5 25 0 (by decide) (cx25 _) rfl (by decide) fl_X5_29 rfl rfl rfl (Nat.le_of_ble_eq_true rfl) (show rng (-1) from by decide) dX5_tryAll_2 (fun H locs Wd => ?_)
  refine lv_aload_n C.1 C.2.1 dX5_tryAll_5 rfl (lv_at hl 0 rfl) ?_
  refine lv_iconst (v := zI 0) C.1 C.2.1 dX5_tryAll_6 (by decide) ?_
  refine k_putK (v := 0) C Wd KX5 25 1 (by decide) (cx25 _) rfl (by decide) fl_X5_33 rfl rfl rfl (Nat.le_of_ble_eq_true rfl) (show rng 0 from by decide) dX5_tryAll_7 (fun H locs Wd => ?_)
  refine lv_aload_n C.1 C.2.1 dX5_tryAll_10 rfl (lv_at hl 1 rfl) ?_
  refine lv_iconst (v := zI 0) C.1 C.2.1 dX5_tryAll_11 (by decide) ?_
  refine k_pi (k_runVK (rest := []) C aks Wd cs_X5_36 (mk_U_hasLetter D ad ca rf (pU (pU σ 25 0 (-1)) 25 1 0) Wd.2.1 Wd.2.2 x0 0 g_x0 (show rng 0 from by decide) _ hw l _) (cxRule g_x0) rfl rfl rfl rfl ⟨(Nat.le_of_ble_eq_true rfl), (Nat.le_of_ble_eq_true rfl)⟩ hl.1 rfl rfl (Nat.le_of_ble_eq_true rfl) ⟨(Nat.le_of_ble_eq_true rfl), (Nat.le_of_ble_eq_true rfl)⟩ dX5_tryAll_12) (fun y12 hy => ?_)
  obtain ⟨r12, rfl, g_r12, hw⟩ := hy
  refine k_cut1 (fun (s0_24 : Int) H locs ls => rng s0_24 ∧ wp5_B_tryAll_24 K σ x0 s0_24 ∧ wXK D ad ca rf s (pU (pU σ 25 0 (-1)) 25 1 0) H A s.heap locs ∧ lv_has ls 8 [(0, .ref (ad 25)), (1, .ref (ad (ruleC x0.toNat)))]) (fun (s0_24 : Int) ls => F0 m 24 ls [.int (zI s0_24)]) (fun s0_24 H locs ls hi => ?_) (fun J24 => ?_)
  · obtain ⟨g_s0_24, hw, Wd, hl⟩ := hi
    unfold wp5_B_tryAll_24 at hw
    refine lv_istore_n (lv' := [(2, .int (zI s0_24)), (0, .ref (ad 25)), (1, .ref (ad (ruleC x0.toNat)))]) C.1 C.2.1 dX5_tryAll_24 rfl hl (by decide) rfl (fun ls hl => ?_)
    replace hl := lv_sub hl [1, 2, 0] rfl
    refine lv_aload_n C.1 C.2.1 dX5_tryAll_25 rfl (lv_at hl 1 rfl) ?_
    refine lv_iconst (v := zI 1) C.1 C.2.1 dX5_tryAll_26 (by decide) ?_
    refine k_pi (k_runVK (rest := []) C aks Wd cs_X5_36 (mk_U_hasLetter D ad ca rf (pU (pU σ 25 0 (-1)) 25 1 0) Wd.2.1 Wd.2.2 x0 1 g_x0 (show rng 1 from by decide) _ hw l _) (cxRule g_x0) rfl rfl rfl rfl ⟨(Nat.le_of_ble_eq_true rfl), (Nat.le_of_ble_eq_true rfl)⟩ hl.1 rfl rfl (Nat.le_of_ble_eq_true rfl) ⟨(Nat.le_of_ble_eq_true rfl), (Nat.le_of_ble_eq_true rfl)⟩ dX5_tryAll_27) (fun y27 hy => ?_)
    obtain ⟨r27, rfl, g_r27, hw⟩ := hy
    refine k_cut1 (fun (s0_39 : Int) H locs ls => rng s0_39 ∧ wp5_B_tryAll_39 K σ x0 s0_24 s0_39 ∧ wXK D ad ca rf s (pU (pU σ 25 0 (-1)) 25 1 0) H A s.heap locs ∧ lv_has ls 8 [(0, .ref (ad 25)), (1, .ref (ad (ruleC x0.toNat))), (2, .int (zI s0_24))]) (fun (s0_39 : Int) ls => F0 m 39 ls [.int (zI s0_39)]) (fun s0_39 H locs ls hi => ?_) (fun J39 => ?_)
    · obtain ⟨g_s0_39, hw, Wd, hl⟩ := hi
      unfold wp5_B_tryAll_39 at hw
      refine lv_istore_n (lv' := [(3, .int (zI s0_39)), (0, .ref (ad 25)), (1, .ref (ad (ruleC x0.toNat))), (2, .int (zI s0_24))]) C.1 C.2.1 dX5_tryAll_39 rfl hl (by decide) rfl (fun ls hl => ?_)
      replace hl := lv_sub hl [1, 2, 3, 0] rfl
      refine lv_aload_n C.1 C.2.1 dX5_tryAll_40 rfl (lv_at hl 1 rfl) ?_
      refine lv_iconst (v := zI 2) C.1 C.2.1 dX5_tryAll_41 (by decide) ?_
      refine k_pi (k_runVK (rest := []) C aks Wd cs_X5_36 (mk_U_hasLetter D ad ca rf (pU (pU σ 25 0 (-1)) 25 1 0) Wd.2.1 Wd.2.2 x0 2 g_x0 (show rng 2 from by decide) _ hw l _) (cxRule g_x0) rfl rfl rfl rfl ⟨(Nat.le_of_ble_eq_true rfl), (Nat.le_of_ble_eq_true rfl)⟩ hl.1 rfl rfl (Nat.le_of_ble_eq_true rfl) ⟨(Nat.le_of_ble_eq_true rfl), (Nat.le_of_ble_eq_true rfl)⟩ dX5_tryAll_42) (fun y42 hy => ?_)
      obtain ⟨r42, rfl, g_r42, hw⟩ := hy
      refine k_cut1 (fun (s0_54 : Int) H locs ls => rng s0_54 ∧ wp5_B_tryAll_54 K σ x0 s0_24 s0_39 s0_54 ∧ wXK D ad ca rf s (pU (pU σ 25 0 (-1)) 25 1 0) H A s.heap locs ∧ lv_has ls 8 [(0, .ref (ad 25)), (1, .ref (ad (ruleC x0.toNat))), (2, .int (zI s0_24)), (3, .int (zI s0_39))]) (fun (s0_54 : Int) ls => F0 m 54 ls [.int (zI s0_54)]) (fun s0_54 H locs ls hi => ?_) (fun J54 => ?_)
      · obtain ⟨g_s0_54, hw, Wd, hl⟩ := hi
        unfold wp5_B_tryAll_54 at hw
        refine lv_istore (lv' := [(4, .int (zI s0_54)), (0, .ref (ad 25)), (1, .ref (ad (ruleC x0.toNat))), (2, .int (zI s0_24)), (3, .int (zI s0_39))]) C.1 C.2.1 dX5_tryAll_54 hl (by decide) rfl (fun ls hl => ?_)
        replace hl := lv_sub hl [1, 2, 3, 4, 0] rfl
        refine lv_iconst (v := zI 0) C.1 C.2.1 dX5_tryAll_56 (by decide) ?_
        refine lv_istore (lv' := [(5, .int (zI 0)), (0, .ref (ad 25)), (1, .ref (ad (ruleC x0.toNat))), (2, .int (zI s0_24)), (3, .int (zI s0_39)), (4, .int (zI s0_54))]) C.1 C.2.1 dX5_tryAll_57 hl (by decide) rfl (fun ls hl => ?_)
        replace hl := lv_sub hl [1, 2, 3, 4, 5, 0] rfl
        refine k_lp2 hw (fun (l5_59 : Int) (σ59 : Sg) H locs ls => rng l5_59 ∧ wXK D ad ca rf s σ59 H A s.heap locs ∧ lv_has ls 8 [(0, .ref (ad 25)), (1, .ref (ad (ruleC x0.toNat))), (2, .int (zI s0_24)), (3, .int (zI s0_39)), (4, .int (zI s0_54)), (5, .int (zI l5_59))]) (fun (l5_59 : Int) (σ59 : Sg) ls => F0 m 59 ls []) (fun L59 hL59 l5_59 σ59 hw H locs ls hi => ?_) _ _ _ ⟨(show rng 0 from by decide), Wd, lv_sub hl [0, 1, 2, 3, 4, 5] rfl⟩
        obtain ⟨g_l5_59, Wd, hl⟩ := hi
        have hS_σ59 := Wd.2.1
        unfold wp5_B_tryAll_59 at hw
        refine lv_iload C.1 C.2.1 dX5_tryAll_59 (lv_at hl 5 rfl) ?_
        refine lv_iload_n C.1 C.2.1 dX5_tryAll_61 rfl (lv_at hl 2 rfl) ?_
        refine lv_icmp_ge (tgt := 113) C.1 C.2.1 dX5_tryAll_62 (by decide) (fun c62 => ?_) (fun c62 => ?_)
        · have hw := hw.1 (z_le g_s0_24 g_l5_59 c62)
          exact k_retKv C hr hlk Wd hw dX5_tryAll_113
        · have hw := hw.2 (z_nle g_s0_24 g_l5_59 c62)
          refine lv_iconst (v := zI 0) C.1 C.2.1 dX5_tryAll_65 (by decide) ?_
          refine lv_istore (lv' := [(6, .int (zI 0)), (0, .ref (ad 25)), (1, .ref (ad (ruleC x0.toNat))), (2, .int (zI s0_24)), (3, .int (zI s0_39)), (4, .int (zI s0_54)), (5, .int (zI l5_59))]) C.1 C.2.1 dX5_tryAll_66 hl (by decide) rfl (fun ls hl => ?_)
          replace hl := lv_sub hl [1, 2, 3, 4, 5, 6, 0] rfl
          refine k_lp2 hw (fun (l6_68 : Int) (σ68 : Sg) H locs ls => rng l6_68 ∧ wXK D ad ca rf s σ68 H A s.heap locs ∧ lv_has ls 8 [(0, .ref (ad 25)), (1, .ref (ad (ruleC x0.toNat))), (2, .int (zI s0_24)), (3, .int (zI s0_39)), (4, .int (zI s0_54)), (5, .int (zI l5_59)), (6, .int (zI l6_68))]) (fun (l6_68 : Int) (σ68 : Sg) ls => F0 m 68 ls []) (fun L68 hL68 l6_68 σ68 hw H locs ls hi => ?_) _ _ _ ⟨(show rng 0 from by decide), Wd, lv_sub hl [0, 1, 2, 3, 4, 5, 6] rfl⟩
          obtain ⟨g_l6_68, Wd, hl⟩ := hi
          have hS_σ68 := Wd.2.1
          unfold wp5_B_tryAll_68 at hw
          refine lv_iload C.1 C.2.1 dX5_tryAll_68 (lv_at hl 6 rfl) ?_
          refine lv_iload_n C.1 C.2.1 dX5_tryAll_70 rfl (lv_at hl 3 rfl) ?_
          refine lv_icmp_ge (tgt := 107) C.1 C.2.1 dX5_tryAll_71 (by decide) (fun c71 => ?_) (fun c71 => ?_)
          · have hw := hw.1 (z_le g_s0_39 g_l6_68 c71)
            refine lv_iinc (v := zI (l5_59 + 1)) (lv' := [(5, .int (zI (l5_59 + 1))), (0, .ref (ad 25)), (1, .ref (ad (ruleC x0.toNat))), (2, .int (zI s0_24)), (3, .int (zI s0_39)), (4, .int (zI s0_54)), (6, .int (zI l6_68))]) C.1 C.2.1 dX5_tryAll_107 hl (k := 5) rfl (zI_inc _ _ (by decide)) (by decide) rfl (fun ls hl => ?_)
            replace hl := lv_sub hl [1, 2, 3, 4, 5, 0, 6] rfl
            refine lv_goto (tgt := 59) C.1 C.2.1 dX5_tryAll_110 (by decide) ?_
            obtain ⟨g110_41, hw⟩ := hw
            exact hL59 _ _ hw _ _ _ ⟨g110_41, Wd, lv_sub hl [0, 1, 2, 3, 4, 5] rfl⟩
          · have hw := hw.2 (z_nle g_s0_39 g_l6_68 c71)
            refine lv_iconst (v := zI 0) C.1 C.2.1 dX5_tryAll_74 (by decide) ?_
            refine lv_istore (lv' := [(7, .int (zI 0)), (0, .ref (ad 25)), (1, .ref (ad (ruleC x0.toNat))), (2, .int (zI s0_24)), (3, .int (zI s0_39)), (4, .int (zI s0_54)), (5, .int (zI l5_59)), (6, .int (zI l6_68))]) C.1 C.2.1 dX5_tryAll_75 hl (by decide) rfl (fun ls hl => ?_)
            replace hl := lv_sub hl [1, 2, 3, 4, 5, 6, 7, 0] rfl
            refine k_lp2 hw (fun (l7_77 : Int) (σ77 : Sg) H locs ls => rng l7_77 ∧ wXK D ad ca rf s σ77 H A s.heap locs ∧ lv_has ls 8 [(0, .ref (ad 25)), (1, .ref (ad (ruleC x0.toNat))), (2, .int (zI s0_24)), (3, .int (zI s0_39)), (4, .int (zI s0_54)), (5, .int (zI l5_59)), (6, .int (zI l6_68)), (7, .int (zI l7_77))]) (fun (l7_77 : Int) (σ77 : Sg) ls => F0 m 77 ls []) (fun L77 hL77 l7_77 σ77 hw H locs ls hi => ?_) _ _ _ ⟨(show rng 0 from by decide), Wd, lv_sub hl [0, 1, 2, 3, 4, 5, 6, 7] rfl⟩
            obtain ⟨g_l7_77, Wd, hl⟩ := hi
            have hS_σ77 := Wd.2.1
            unfold wp5_B_tryAll_77 at hw
            refine lv_iload C.1 C.2.1 dX5_tryAll_77 (lv_at hl 7 rfl) ?_
            refine lv_iload C.1 C.2.1 dX5_tryAll_79 (lv_at hl 4 rfl) ?_
            refine lv_icmp_ge (tgt := 101) C.1 C.2.1 dX5_tryAll_81 (by decide) (fun c81 => ?_) (fun c81 => ?_)
            · have hw := hw.1 (z_le g_s0_54 g_l7_77 c81)
              refine lv_iinc (v := zI (l6_68 + 1)) (lv' := [(6, .int (zI (l6_68 + 1))), (0, .ref (ad 25)), (1, .ref (ad (ruleC x0.toNat))), (2, .int (zI s0_24)), (3, .int (zI s0_39)), (4, .int (zI s0_54)), (5, .int (zI l5_59)), (7, .int (zI l7_77))]) C.1 C.2.1 dX5_tryAll_101 hl (k := 6) rfl (zI_inc _ _ (by decide)) (by decide) rfl (fun ls hl => ?_)
              replace hl := lv_sub hl [1, 2, 3, 4, 5, 6, 0, 7] rfl
              refine lv_goto (tgt := 68) C.1 C.2.1 dX5_tryAll_104 (by decide) ?_
              obtain ⟨g104_42, hw⟩ := hw
              exact hL68 _ _ hw _ _ _ ⟨g104_42, Wd, lv_sub hl [0, 1, 2, 3, 4, 5, 6] rfl⟩
            · have hw := hw.2 (z_nle g_s0_54 g_l7_77 c81)
              refine lv_aload_n C.1 C.2.1 dX5_tryAll_84 rfl (lv_at hl 0 rfl) ?_
              refine lv_aload_n C.1 C.2.1 dX5_tryAll_85 rfl (lv_at hl 1 rfl) ?_
              refine lv_iload C.1 C.2.1 dX5_tryAll_86 (lv_at hl 5 rfl) ?_
              refine lv_iload C.1 C.2.1 dX5_tryAll_88 (lv_at hl 6 rfl) ?_
              refine lv_iload C.1 C.2.1 dX5_tryAll_90 (lv_at hl 7 rfl) ?_
              refine k_cKv Wd (k_runVK (rest := []) C aks Wd cs_X5_42 (mk_B_tryOne D ad ca rf σ77 Wd.2.1 Wd.2.2 x0 l5_59 l6_68 l7_77 g_x0 g_l5_59 g_l6_68 g_l7_77 _ hw l _) (cx25 _) rfl rfl rfl rfl ⟨(Nat.le_of_ble_eq_true rfl), (Nat.le_of_ble_eq_true rfl)⟩ hl.1 rfl rfl (Nat.le_of_ble_eq_true rfl) ⟨(Nat.le_of_ble_eq_true rfl), (Nat.le_of_ble_eq_true rfl)⟩ dX5_tryAll_92) (fun σr92 H locs hw Wd => ?_)
              have hS_σr92 := Wd.2.1
              refine lv_iinc (v := zI (l7_77 + 1)) (lv' := [(7, .int (zI (l7_77 + 1))), (0, .ref (ad 25)), (1, .ref (ad (ruleC x0.toNat))), (2, .int (zI s0_24)), (3, .int (zI s0_39)), (4, .int (zI s0_54)), (5, .int (zI l5_59)), (6, .int (zI l6_68))]) C.1 C.2.1 dX5_tryAll_95 hl (k := 7) rfl (zI_inc _ _ (by decide)) (by decide) rfl (fun ls hl => ?_)
              replace hl := lv_sub hl [1, 2, 3, 4, 5, 6, 7, 0] rfl
              refine lv_goto (tgt := 77) C.1 C.2.1 dX5_tryAll_98 (by decide) ?_
              obtain ⟨g98_43, hw⟩ := hw
              exact hL77 _ _ hw _ _ _ ⟨g98_43, Wd, lv_sub hl [0, 1, 2, 3, 4, 5, 6, 7] rfl⟩
      refine lv_if_eq (tgt := 53) C.1 C.2.1 dX5_tryAll_45 (by decide) (fun c45 => ?_) (fun c45 => ?_)
      · have hw := hw.1 (z0_eq g_r42 c45)
        refine lv_iconst (v := zI 1) C.1 C.2.1 dX5_tryAll_53 (by decide) ?_
        exact J54 1 _ _ _ ⟨(show rng 1 from by decide), hw, Wd, lv_sub hl [0, 1, 2, 3] rfl⟩
      · have hw := hw.2 (z0_ne g_r42 c45)
        refine lv_bipush (v := zI 16) C.1 C.2.1 dX5_tryAll_48 (by decide) ?_
        refine lv_goto (tgt := 54) C.1 C.2.1 dX5_tryAll_50 (by decide) ?_
        exact J54 16 _ _ _ ⟨(show rng 16 from by decide), hw, Wd, lv_sub hl [0, 1, 2, 3] rfl⟩
    refine lv_if_eq (tgt := 38) C.1 C.2.1 dX5_tryAll_30 (by decide) (fun c30 => ?_) (fun c30 => ?_)
    · have hw := hw.1 (z0_eq g_r27 c30)
      refine lv_iconst (v := zI 1) C.1 C.2.1 dX5_tryAll_38 (by decide) ?_
      exact J39 1 _ _ _ ⟨(show rng 1 from by decide), hw, Wd, lv_sub hl [0, 1, 2] rfl⟩
    · have hw := hw.2 (z0_ne g_r27 c30)
      refine lv_bipush (v := zI 16) C.1 C.2.1 dX5_tryAll_33 (by decide) ?_
      refine lv_goto (tgt := 39) C.1 C.2.1 dX5_tryAll_35 (by decide) ?_
      exact J39 16 _ _ _ ⟨(show rng 16 from by decide), hw, Wd, lv_sub hl [0, 1, 2] rfl⟩
  refine lv_if_eq (tgt := 23) C.1 C.2.1 dX5_tryAll_15 (by decide) (fun c15 => ?_) (fun c15 => ?_)
  · have hw := hw.1 (z0_eq g_r12 c15)
    refine lv_iconst (v := zI 1) C.1 C.2.1 dX5_tryAll_23 (by decide) ?_
    exact J24 1 _ _ _ ⟨(show rng 1 from by decide), hw, Wd, lv_sub hl [0, 1] rfl⟩
  · have hw := hw.2 (z0_ne g_r12 c15)
    refine lv_bipush (v := zI 16) C.1 C.2.1 dX5_tryAll_18 (by decide) ?_
    refine lv_goto (tgt := 24) C.1 C.2.1 dX5_tryAll_20 (by decide) ?_
    exact J24 16 _ _ _ ⟨(show rng 16 from by decide), hw, Wd, lv_sub hl [0, 1] rfl⟩
set_option maxHeartbeats 4000000 in
set_option maxRecDepth 100000 in
theorem mk_B_mostTimes : ∀ (D : va_G) (ad : Nat → Nat) (ca : Nat → ClassId) (rf : Nat → Nat → Option Nat) (σ : Sg) (hS : rngK σ) (hRF : RFok ad rf) (x0 : Int) (x1 : Int) (g_x0 : 0 ≤ x0 ∧ x0 < 35) (g_x1 : rng x1) (K : Int → Sg → Prop) (hw : wp5_B_mostTimes σ x0 x1 K) (l : Launch) (sz : Nat), Met l yX5_mostTimes (Cond.code yX5_mostTimes cX5_mostTimes 8 (some .int) :: gG) { frames := 2, cells := 0, slots := 0, locals := 96 } (cPre D (tC ca) (wK ad ca rf σ) sz [.ref (ad 25), .ref (ad (rowC x0.toNat)), .int (zI x1)]) (va_Qi (fun (r : Int32) (u : Sg) => (∃ x : Int, r = zI x ∧ rng x ∧ K x u) ∧ rngK u) (fun u t => cB D (va_A (wK ad ca rf σ) sz) [] (wK ad ca rf u) t) (va_A (wK ad ca rf σ) sz)) 0 0 (va_A (wK ad ca rf σ) sz) := by
  intro D ad ca rf σ hS hRF x0 x1 g_x0 g_x1 K hw l sz
  refine Met.ofW (cc := cX5_mostTimes) (maxL := 8) (ret := (some .int)) (by decide) rfl ?_
  intro p e s m args below meth c s₁ B hml hv
  obtain ⟨rfl, aks, rfl, Wd⟩ := k_enter hv
  have C : CallFix p m c cX5_mostTimes 8 s _ gG RX5 := ⟨B.exec, B.bytes, hml, findClass_of_methodNamed B.named, fun w h => atoms_spec (ws := Cond.code yX5_mostTimes cX5_mostTimes 8 (some .int) :: gG) B.pre w (List.mem_cons_of_mem _ h)⟩
  have hr := B.returns
  have hlk := B.notSynchronized
  generalize va_A (wK ad ca rf σ) s.heap.size = A at Wd ⊢
  replace Wd : wXK D ad ca rf s σ s.heap A s.heap [] := ⟨Wd, hS, hRF⟩
  refine k_locals (Nat.le_of_ble_eq_true rfl) [(0, .ref (ad 25)), (1, .ref (ad (rowC x0.toNat))), (2, .int (zI x1))] rfl (fun ls hl => ?_)
  unfold wp5_B_mostTimes at hw
  refine lv_iconst (v := zI 0) C.1 C.2.1 dX5_mostTimes_0 (by decide) ?_
  refine lv_istore_n (lv' := [(3, .int (zI 0)), (0, .ref (ad 25)), (1, .ref (ad (rowC x0.toNat))), (2, .int (zI x1))]) C.1 C.2.1 dX5_mostTimes_1 rfl hl (by decide) rfl (fun ls hl => ?_)
  replace hl := lv_sub hl [1, 2, 3, 0] rfl
  refine lv_aload_n C.1 C.2.1 dX5_mostTimes_2 rfl (lv_at hl 1 rfl) ?_
  refine k_get (v := .int (zI (σ.2.2.1 0 x0))) C Wd.1 KX8 _ 1 (cxRow g_x0) (by decide) fl_X5_57 rfl dX5_mostTimes_3 ?_
  refine lv_iconst (v := zI 1) C.1 C.2.1 dX5_mostTimes_6 (by decide) ?_
  refine k_isub (v := zI ((σ.2.2.1 0 x0) - 1)) C (zI_isub _ _) dX5_mostTimes_7 ?_
  refine lv_istore (lv' := [(4, .int (zI ((σ.2.2.1 0 x0) - 1))), (0, .ref (ad 25)), (1, .ref (ad (rowC x0.toNat))), (2, .int (zI x1)), (3, .int (zI 0))]) C.1 C.2.1 dX5_mostTimes_8 hl (by decide) rfl (fun ls hl => ?_)
  replace hl := lv_sub hl [1, 2, 3, 4, 0] rfl
  obtain ⟨g8_14, hw⟩ := hw
  refine k_lp3 hw (fun (l3_10 : Int) (l4_10 : Int) (σ10 : Sg) H locs ls => rng l3_10 ∧ rng l4_10 ∧ wXK D ad ca rf s σ10 H A s.heap locs ∧ lv_has ls 8 [(0, .ref (ad 25)), (1, .ref (ad (rowC x0.toNat))), (2, .int (zI x1)), (3, .int (zI l3_10)), (4, .int (zI l4_10))]) (fun (l3_10 : Int) (l4_10 : Int) (σ10 : Sg) ls => F0 m 10 ls []) (fun L10 hL10 l3_10 l4_10 σ10 hw H locs ls hi => ?_) _ _ _ ⟨(show rng 0 from by decide), g8_14, Wd, lv_sub hl [0, 1, 2, 3, 4] rfl⟩
  obtain ⟨g_l3_10, g_l4_10, Wd, hl⟩ := hi
  have hS_σ10 := Wd.2.1
  unfold wp5_B_mostTimes_10 at hw
  refine lv_iload C.1 C.2.1 dX5_mostTimes_10 (lv_at hl 4 rfl) ?_
  refine lv_if_lt (tgt := 139) C.1 C.2.1 dX5_mostTimes_12 (by decide) (fun c12 => ?_) (fun c12 => ?_)
  · have hw := hw.1 (z0_lt g_l4_10 c12)
    refine lv_iload_n C.1 C.2.1 dX5_mostTimes_139 rfl (lv_at hl 3 rfl) ?_
    refine lv_if_le (tgt := 152) C.1 C.2.1 dX5_mostTimes_140 (by decide) (fun c140 => ?_) (fun c140 => ?_)
    · have hw := hw.1 (z0_le g_l3_10 c140)
      refine lv_iconst (v := zI 0) C.1 C.2.1 dX5_mostTimes_152 (by decide) ?_
      exact k_retKi C hr hlk rfl Wd ⟨_, rfl, (show rng 0 from by decide), hw⟩ dX5_mostTimes_153
    · have hw := hw.2 (z0_nle g_l3_10 c140)
      refine lv_aload_n C.1 C.2.1 dX5_mostTimes_143 rfl (lv_at hl 0 rfl) ?_
      refine k_get (v := .ref (ad 27)) C Wd.1 KX5 _ 3 (cx25 _) (by decide) fl_X5_15 rfl dX5_mostTimes_144 ?_
      refine lv_iconst (v := zI 0) C.1 C.2.1 dX5_mostTimes_147 (by decide) ?_
      refine k_ialdK (g := (σ10.2.1 27)) C Wd (cx27 _) (tC_at (by decide) rfl) (show (0 : Int) ≤ 0 ∧ (0 : Int) < 40 from by decide) (by decide) dX5_mostTimes_148 ?_
      have ga148 : rng (σ10.2.1 27 0) := rngL (fun j => (Wd.2.1).2.1 27 j) (show (0 : Int) ≤ 0 ∧ (0 : Int) < 40 from by decide)
      refine lv_goto (tgt := 153) C.1 C.2.1 dX5_mostTimes_149 (by decide) ?_
      exact k_retKi C hr hlk rfl Wd ⟨_, rfl, ga148, hw⟩ dX5_mostTimes_153
  · have hw := hw.2 (z0_nlt g_l4_10 c12)
    refine lv_aload_n C.1 C.2.1 dX5_mostTimes_15 rfl (lv_at hl 1 rfl) ?_
    refine lv_iload C.1 C.2.1 dX5_mostTimes_16 (lv_at hl 4 rfl) ?_
    refine k_pi (k_runVK (rest := []) C aks Wd cs_X5_84 (mk_W_cell D ad ca rf σ10 Wd.2.1 Wd.2.2 x0 l4_10 g_x0 g_l4_10 _ hw l _) (cxRow g_x0) rfl rfl rfl rfl ⟨(Nat.le_of_ble_eq_true rfl), (Nat.le_of_ble_eq_true rfl)⟩ hl.1 rfl rfl (Nat.le_of_ble_eq_true rfl) ⟨(Nat.le_of_ble_eq_true rfl), (Nat.le_of_ble_eq_true rfl)⟩ dX5_mostTimes_18) (fun y18 hy => ?_)
    obtain ⟨r18, rfl, g_r18, hw⟩ := hy
    refine lv_istore (lv' := [(5, .int (zI r18)), (0, .ref (ad 25)), (1, .ref (ad (rowC x0.toNat))), (2, .int (zI x1)), (3, .int (zI l3_10)), (4, .int (zI l4_10))]) C.1 C.2.1 dX5_mostTimes_21 hl (by decide) rfl (fun ls hl => ?_)
    replace hl := lv_sub hl [1, 2, 3, 4, 5, 0] rfl
    refine lv_iload C.1 C.2.1 dX5_mostTimes_23 (lv_at hl 5 rfl) ?_
    refine k_pi (k_runS (rest := []) C aks Wd.1 cs_X5_88 (mk_W_isOperation D r18 g_r18 _ hw l _) [] rfl (by decide) [] rfl rfl rfl ⟨(Nat.le_of_ble_eq_true rfl), (Nat.le_of_ble_eq_true rfl)⟩ hl.1 rfl rfl (Nat.le_of_ble_eq_true rfl) ⟨(Nat.le_of_ble_eq_true rfl), (Nat.le_of_ble_eq_true rfl)⟩ dX5_mostTimes_25) (fun y25 hy => ?_)
    obtain ⟨r25, rfl, g_r25, hw⟩ := hy
    refine k_cut0 (fun H locs ls => wp5_B_mostTimes_66 l3_10 l4_10 r18 σ10 L10 ∧ wXK D ad ca rf s σ10 H A s.heap locs ∧ lv_has ls 8 [(0, .ref (ad 25)), (1, .ref (ad (rowC x0.toNat))), (2, .int (zI x1)), (3, .int (zI l3_10)), (4, .int (zI l4_10)), (5, .int (zI r18))]) (fun  ls => F0 m 66 ls []) (fun  H locs ls hi => ?_) (fun J66 => ?_)
    · obtain ⟨hw, Wd, hl⟩ := hi
      unfold wp5_B_mostTimes_66 at hw
      refine lv_iload_n C.1 C.2.1 dX5_mostTimes_66 rfl (lv_at hl 3 rfl) ?_
      refine lv_iconst (v := zI 2) C.1 C.2.1 dX5_mostTimes_67 (by decide) ?_
      refine lv_icmp_lt (tgt := 133) C.1 C.2.1 dX5_mostTimes_68 (by decide) (fun c68 => ?_) (fun c68 => ?_)
      · have hw := hw.1 (z_lt g_l3_10 (show rng 2 from by decide) c68)
        refine lv_iinc (v := zI (l4_10 - 1)) (lv' := [(4, .int (zI (l4_10 - 1))), (0, .ref (ad 25)), (1, .ref (ad (rowC x0.toNat))), (2, .int (zI x1)), (3, .int (zI l3_10)), (5, .int (zI r18))]) C.1 C.2.1 dX5_mostTimes_133 hl (k := 4) rfl (zI_dec _ _ (by decide)) (by decide) rfl (fun ls hl => ?_)
        replace hl := lv_sub hl [1, 2, 3, 4, 0, 5] rfl
        refine lv_goto (tgt := 10) C.1 C.2.1 dX5_mostTimes_136 (by decide) ?_
        obtain ⟨g136_15, hw⟩ := hw
        exact hL10 _ _ _ hw _ _ _ ⟨g_l3_10, g136_15, Wd, lv_sub hl [0, 1, 2, 3, 4] rfl⟩
      · have hw := hw.2 (z_nlt g_l3_10 (show rng 2 from by decide) c68)
        refine lv_iload_n C.1 C.2.1 dX5_mostTimes_71 rfl (lv_at hl 3 rfl) ?_
        refine lv_aload_n C.1 C.2.1 dX5_mostTimes_72 rfl (lv_at hl 0 rfl) ?_
        refine k_get (v := .ref (ad 27)) C Wd.1 KX5 _ 3 (cx25 _) (by decide) fl_X5_15 rfl dX5_mostTimes_73 ?_
        refine k_alen (v := zI 40) C Wd.1 27 27 (cx27 _) (tC_at (by decide) rfl) rfl dX5_mostTimes_76 ?_
        refine lv_icmp_gt (tgt := 133) C.1 C.2.1 dX5_mostTimes_77 (by decide) (fun c77 => ?_) (fun c77 => ?_)
        · have hw := hw.1 (z_lt (show rng 40 from by decide) g_l3_10 c77)
          refine lv_iinc (v := zI (l4_10 - 1)) (lv' := [(4, .int (zI (l4_10 - 1))), (0, .ref (ad 25)), (1, .ref (ad (rowC x0.toNat))), (2, .int (zI x1)), (3, .int (zI l3_10)), (5, .int (zI r18))]) C.1 C.2.1 dX5_mostTimes_133 hl (k := 4) rfl (zI_dec _ _ (by decide)) (by decide) rfl (fun ls hl => ?_)
          replace hl := lv_sub hl [1, 2, 3, 4, 0, 5] rfl
          refine lv_goto (tgt := 10) C.1 C.2.1 dX5_mostTimes_136 (by decide) ?_
          obtain ⟨g136_16, hw⟩ := hw
          exact hL10 _ _ _ hw _ _ _ ⟨g_l3_10, g136_16, Wd, lv_sub hl [0, 1, 2, 3, 4] rfl⟩
        · have hw := hw.2 (z_nlt (show rng 40 from by decide) g_l3_10 c77)
          refine lv_aload_n C.1 C.2.1 dX5_mostTimes_80 rfl (lv_at hl 0 rfl) ?_
          refine k_get (v := .ref (ad 27)) C Wd.1 KX5 _ 3 (cx25 _) (by decide) fl_X5_15 rfl dX5_mostTimes_81 ?_
          refine lv_iload_n C.1 C.2.1 dX5_mostTimes_84 rfl (lv_at hl 3 rfl) ?_
          refine lv_iconst (v := zI 1) C.1 C.2.1 dX5_mostTimes_85 (by decide) ?_
          refine k_isub (v := zI (l3_10 - 1)) C (zI_isub _ _) dX5_mostTimes_86 ?_
          obtain ⟨n87_0, hw⟩ := hw
          refine k_ialdK (g := (σ10.2.1 27)) C Wd (cx27 _) (tC_at (by decide) rfl) n87_0 (by decide) dX5_mostTimes_87 ?_
          have ga87 : rng (σ10.2.1 27 (l3_10 - 1)) := rngL (fun j => (Wd.2.1).2.1 27 j) n87_0
          refine lv_istore (lv' := [(6, .int (zI (σ10.2.1 27 (l3_10 - 1)))), (0, .ref (ad 25)), (1, .ref (ad (rowC x0.toNat))), (2, .int (zI x1)), (3, .int (zI l3_10)), (4, .int (zI l4_10)), (5, .int (zI r18))]) C.1 C.2.1 dX5_mostTimes_88 hl (by decide) rfl (fun ls hl => ?_)
          replace hl := lv_sub hl [1, 2, 3, 4, 5, 6, 0] rfl
          refine lv_aload_n C.1 C.2.1 dX5_mostTimes_90 rfl (lv_at hl 0 rfl) ?_
          refine k_get (v := .ref (ad 27)) C Wd.1 KX5 _ 3 (cx25 _) (by decide) fl_X5_15 rfl dX5_mostTimes_91 ?_
          refine lv_iload_n C.1 C.2.1 dX5_mostTimes_94 rfl (lv_at hl 3 rfl) ?_
          refine lv_iconst (v := zI 2) C.1 C.2.1 dX5_mostTimes_95 (by decide) ?_
          refine k_isub (v := zI (l3_10 - 2)) C (zI_isub _ _) dX5_mostTimes_96 ?_
          obtain ⟨n97_1, hw⟩ := hw
          refine k_ialdK (g := (σ10.2.1 27)) C Wd (cx27 _) (tC_at (by decide) rfl) n97_1 (by decide) dX5_mostTimes_97 ?_
          have ga97 : rng (σ10.2.1 27 (l3_10 - 2)) := rngL (fun j => (Wd.2.1).2.1 27 j) n97_1
          refine lv_istore (lv' := [(7, .int (zI (σ10.2.1 27 (l3_10 - 2)))), (0, .ref (ad 25)), (1, .ref (ad (rowC x0.toNat))), (2, .int (zI x1)), (3, .int (zI l3_10)), (4, .int (zI l4_10)), (5, .int (zI r18)), (6, .int (zI (σ10.2.1 27 (l3_10 - 1))))]) C.1 C.2.1 dX5_mostTimes_98 hl (by decide) rfl (fun ls hl => ?_)
          replace hl := lv_sub hl [1, 2, 3, 4, 5, 6, 7, 0] rfl
          refine lv_aload_n C.1 C.2.1 dX5_mostTimes_100 rfl (lv_at hl 0 rfl) ?_
          refine k_get (v := .ref (ad 27)) C Wd.1 KX5 _ 3 (cx25 _) (by decide) fl_X5_15 rfl dX5_mostTimes_101 ?_
          refine lv_iload_n C.1 C.2.1 dX5_mostTimes_104 rfl (lv_at hl 3 rfl) ?_
          refine lv_iconst (v := zI 2) C.1 C.2.1 dX5_mostTimes_105 (by decide) ?_
          refine k_isub (v := zI (l3_10 - 2)) C (zI_isub _ _) dX5_mostTimes_106 ?_
          refine lv_iload C.1 C.2.1 dX5_mostTimes_107 (lv_at hl 5 rfl) ?_
          refine lv_bipush (v := zI 122) C.1 C.2.1 dX5_mostTimes_109 (by decide) ?_
          refine lv_icmp_ne (tgt := 122) C.1 C.2.1 dX5_mostTimes_111 (by decide) (fun c111 => ?_) (fun c111 => ?_)
          · have hw := hw.1 (z_ne g_r18 (show rng 122 from by decide) c111)
            refine lv_iload C.1 C.2.1 dX5_mostTimes_122 (lv_at hl 6 rfl) ?_
            refine lv_iload C.1 C.2.1 dX5_mostTimes_124 (lv_at hl 7 rfl) ?_
            refine k_mmax (v := zI (max (σ10.2.1 27 (l3_10 - 1)) (σ10.2.1 27 (l3_10 - 2)))) C hl.1 ml_X5_91 st_Lib_Math_max_name in_J9 cd_max (Nat.le_of_ble_eq_true rfl) (Nat.le_of_ble_eq_true rfl) (Nat.le_of_ble_eq_true rfl) (Nat.le_of_ble_eq_true rfl) (zmax_eq _ _ ga87 ga97) dX5_mostTimes_126 ?_
            refine k_iastF (g := (σ10.2.1 27)) (i := (l3_10 - 2)) (v := (max (σ10.2.1 27 (l3_10 - 1)) (σ10.2.1 27 (l3_10 - 2)))) C Wd 27 (by decide) (cx27 _) (fun f => cx27a _ f) (tC_at (by decide) rfl) n97_1 (by decide) (ruZ (fun j => Wd.2.1.2.1 27 j) (rng_max ga87 ga97)) dX5_mostTimes_129 (fun H locs Wd => ?_)
            refine lv_iinc (v := zI (l3_10 - 1)) (lv' := [(3, .int (zI (l3_10 - 1))), (0, .ref (ad 25)), (1, .ref (ad (rowC x0.toNat))), (2, .int (zI x1)), (4, .int (zI l4_10)), (5, .int (zI r18)), (6, .int (zI (σ10.2.1 27 (l3_10 - 1)))), (7, .int (zI (σ10.2.1 27 (l3_10 - 2))))]) C.1 C.2.1 dX5_mostTimes_130 hl (k := 3) rfl (zI_dec _ _ (by decide)) (by decide) rfl (fun ls hl => ?_)
            replace hl := lv_sub hl [1, 2, 3, 0, 4, 5, 6, 7] rfl
            refine lv_iinc (v := zI (l4_10 - 1)) (lv' := [(4, .int (zI (l4_10 - 1))), (0, .ref (ad 25)), (1, .ref (ad (rowC x0.toNat))), (2, .int (zI x1)), (3, .int (zI (l3_10 - 1))), (5, .int (zI r18)), (6, .int (zI (σ10.2.1 27 (l3_10 - 1)))), (7, .int (zI (σ10.2.1 27 (l3_10 - 2))))]) C.1 C.2.1 dX5_mostTimes_133 hl (k := 4) rfl (zI_dec _ _ (by decide)) (by decide) rfl (fun ls hl => ?_)
            replace hl := lv_sub hl [1, 2, 3, 4, 0, 5, 6, 7] rfl
            refine lv_goto (tgt := 10) C.1 C.2.1 dX5_mostTimes_136 (by decide) ?_
            obtain ⟨g136_17, hw⟩ := hw
            obtain ⟨g136_18, hw⟩ := hw
            exact hL10 _ _ _ hw _ _ _ ⟨g136_17, g136_18, Wd, lv_sub hl [0, 1, 2, 3, 4] rfl⟩
          · have hw := hw.2 (z_eq g_r18 (show rng 122 from by decide) c111)
            refine lv_iload C.1 C.2.1 dX5_mostTimes_114 (lv_at hl 6 rfl) ?_
            refine lv_iload C.1 C.2.1 dX5_mostTimes_116 (lv_at hl 7 rfl) ?_
            refine k_iadd (v := zI ((σ10.2.1 27 (l3_10 - 1)) + (σ10.2.1 27 (l3_10 - 2)))) C (zI_iadd _ _) dX5_mostTimes_118 ?_
            refine lv_goto (tgt := 129) C.1 C.2.1 dX5_mostTimes_119 (by decide) ?_
            obtain ⟨g129_19, hw⟩ := hw
            refine k_iastF (g := (σ10.2.1 27)) (i := (l3_10 - 2)) (v := ((σ10.2.1 27 (l3_10 - 1)) + (σ10.2.1 27 (l3_10 - 2)))) C Wd 27 (by decide) (cx27 _) (fun f => cx27a _ f) (tC_at (by decide) rfl) n97_1 (by decide) (ruZ (fun j => Wd.2.1.2.1 27 j) g129_19) dX5_mostTimes_129 (fun H locs Wd => ?_)
            refine lv_iinc (v := zI (l3_10 - 1)) (lv' := [(3, .int (zI (l3_10 - 1))), (0, .ref (ad 25)), (1, .ref (ad (rowC x0.toNat))), (2, .int (zI x1)), (4, .int (zI l4_10)), (5, .int (zI r18)), (6, .int (zI (σ10.2.1 27 (l3_10 - 1)))), (7, .int (zI (σ10.2.1 27 (l3_10 - 2))))]) C.1 C.2.1 dX5_mostTimes_130 hl (k := 3) rfl (zI_dec _ _ (by decide)) (by decide) rfl (fun ls hl => ?_)
            replace hl := lv_sub hl [1, 2, 3, 0, 4, 5, 6, 7] rfl
            refine lv_iinc (v := zI (l4_10 - 1)) (lv' := [(4, .int (zI (l4_10 - 1))), (0, .ref (ad 25)), (1, .ref (ad (rowC x0.toNat))), (2, .int (zI x1)), (3, .int (zI (l3_10 - 1))), (5, .int (zI r18)), (6, .int (zI (σ10.2.1 27 (l3_10 - 1)))), (7, .int (zI (σ10.2.1 27 (l3_10 - 2))))]) C.1 C.2.1 dX5_mostTimes_133 hl (k := 4) rfl (zI_dec _ _ (by decide)) (by decide) rfl (fun ls hl => ?_)
            replace hl := lv_sub hl [1, 2, 3, 4, 0, 5, 6, 7] rfl
            refine lv_goto (tgt := 10) C.1 C.2.1 dX5_mostTimes_136 (by decide) ?_
            obtain ⟨g136_20, hw⟩ := hw
            obtain ⟨g136_21, hw⟩ := hw
            exact hL10 _ _ _ hw _ _ _ ⟨g136_20, g136_21, Wd, lv_sub hl [0, 1, 2, 3, 4] rfl⟩
    refine lv_if_ne (tgt := 66) C.1 C.2.1 dX5_mostTimes_28 (by decide) (fun c28 => ?_) (fun c28 => ?_)
    · have hw := hw.1 (z0_ne g_r25 c28)
      exact J66  _ _ _ ⟨hw, Wd, lv_sub hl [0, 1, 2, 3, 4, 5] rfl⟩
    · have hw := hw.2 (z0_eq g_r25 c28)
      refine lv_iload_n C.1 C.2.1 dX5_mostTimes_31 rfl (lv_at hl 3 rfl) ?_
      refine lv_aload_n C.1 C.2.1 dX5_mostTimes_32 rfl (lv_at hl 0 rfl) ?_
      refine k_get (v := .ref (ad 27)) C Wd.1 KX5 _ 3 (cx25 _) (by decide) fl_X5_15 rfl dX5_mostTimes_33 ?_
      refine k_alen (v := zI 40) C Wd.1 27 27 (cx27 _) (tC_at (by decide) rfl) rfl dX5_mostTimes_36 ?_
      refine lv_icmp_ge (tgt := 66) C.1 C.2.1 dX5_mostTimes_37 (by decide) (fun c37 => ?_) (fun c37 => ?_)
      · have hw := hw.1 (z_le (show rng 40 from by decide) g_l3_10 c37)
        exact J66  _ _ _ ⟨hw, Wd, lv_sub hl [0, 1, 2, 3, 4, 5] rfl⟩
      · have hw := hw.2 (z_nle (show rng 40 from by decide) g_l3_10 c37)
        refine lv_aload_n C.1 C.2.1 dX5_mostTimes_40 rfl (lv_at hl 0 rfl) ?_
        refine k_get (v := .ref (ad 27)) C Wd.1 KX5 _ 3 (cx25 _) (by decide) fl_X5_15 rfl dX5_mostTimes_41 ?_
        refine lv_iload_n C.1 C.2.1 dX5_mostTimes_44 rfl (lv_at hl 3 rfl) ?_
        refine lv_iload C.1 C.2.1 dX5_mostTimes_45 (lv_at hl 5 rfl) ?_
        refine lv_bipush (v := zI 20) C.1 C.2.1 dX5_mostTimes_47 (by decide) ?_
        refine lv_iload_n C.1 C.2.1 dX5_mostTimes_49 rfl (lv_at hl 2 rfl) ?_
        refine k_iadd (v := zI (20 + x1)) C (zI_iadd _ _) dX5_mostTimes_50 ?_
        obtain ⟨g51_22, hw⟩ := hw
        refine lv_icmp_ne (tgt := 58) C.1 C.2.1 dX5_mostTimes_51 (by decide) (fun c51 => ?_) (fun c51 => ?_)
        · have hw := hw.1 (z_ne g_r18 g51_22 c51)
          refine lv_iconst (v := zI 0) C.1 C.2.1 dX5_mostTimes_58 (by decide) ?_
          obtain ⟨n59_0, hw⟩ := hw
          refine k_iastF (g := (σ10.2.1 27)) (i := l3_10) (v := 0) C Wd 27 (by decide) (cx27 _) (fun f => cx27a _ f) (tC_at (by decide) rfl) n59_0 (by decide) (ruZ (fun j => Wd.2.1.2.1 27 j) (show rng 0 from by decide)) dX5_mostTimes_59 (fun H locs Wd => ?_)
          refine lv_iinc (v := zI (l3_10 + 1)) (lv' := [(3, .int (zI (l3_10 + 1))), (0, .ref (ad 25)), (1, .ref (ad (rowC x0.toNat))), (2, .int (zI x1)), (4, .int (zI l4_10)), (5, .int (zI r18))]) C.1 C.2.1 dX5_mostTimes_60 hl (k := 3) rfl (zI_inc _ _ (by decide)) (by decide) rfl (fun ls hl => ?_)
          replace hl := lv_sub hl [1, 2, 3, 0, 4, 5] rfl
          refine lv_goto (tgt := 133) C.1 C.2.1 dX5_mostTimes_63 (by decide) ?_
          refine lv_iinc (v := zI (l4_10 - 1)) (lv' := [(4, .int (zI (l4_10 - 1))), (0, .ref (ad 25)), (1, .ref (ad (rowC x0.toNat))), (2, .int (zI x1)), (3, .int (zI (l3_10 + 1))), (5, .int (zI r18))]) C.1 C.2.1 dX5_mostTimes_133 hl (k := 4) rfl (zI_dec _ _ (by decide)) (by decide) rfl (fun ls hl => ?_)
          replace hl := lv_sub hl [1, 2, 3, 4, 0, 5] rfl
          refine lv_goto (tgt := 10) C.1 C.2.1 dX5_mostTimes_136 (by decide) ?_
          obtain ⟨g136_23, hw⟩ := hw
          obtain ⟨g136_24, hw⟩ := hw
          exact hL10 _ _ _ hw _ _ _ ⟨g136_23, g136_24, Wd, lv_sub hl [0, 1, 2, 3, 4] rfl⟩
        · have hw := hw.2 (z_eq g_r18 g51_22 c51)
          refine lv_iconst (v := zI 1) C.1 C.2.1 dX5_mostTimes_54 (by decide) ?_
          refine lv_goto (tgt := 59) C.1 C.2.1 dX5_mostTimes_55 (by decide) ?_
          obtain ⟨n59_0, hw⟩ := hw
          refine k_iastF (g := (σ10.2.1 27)) (i := l3_10) (v := 1) C Wd 27 (by decide) (cx27 _) (fun f => cx27a _ f) (tC_at (by decide) rfl) n59_0 (by decide) (ruZ (fun j => Wd.2.1.2.1 27 j) (show rng 1 from by decide)) dX5_mostTimes_59 (fun H locs Wd => ?_)
          refine lv_iinc (v := zI (l3_10 + 1)) (lv' := [(3, .int (zI (l3_10 + 1))), (0, .ref (ad 25)), (1, .ref (ad (rowC x0.toNat))), (2, .int (zI x1)), (4, .int (zI l4_10)), (5, .int (zI r18))]) C.1 C.2.1 dX5_mostTimes_60 hl (k := 3) rfl (zI_inc _ _ (by decide)) (by decide) rfl (fun ls hl => ?_)
          replace hl := lv_sub hl [1, 2, 3, 0, 4, 5] rfl
          refine lv_goto (tgt := 133) C.1 C.2.1 dX5_mostTimes_63 (by decide) ?_
          refine lv_iinc (v := zI (l4_10 - 1)) (lv' := [(4, .int (zI (l4_10 - 1))), (0, .ref (ad 25)), (1, .ref (ad (rowC x0.toNat))), (2, .int (zI x1)), (3, .int (zI (l3_10 + 1))), (5, .int (zI r18))]) C.1 C.2.1 dX5_mostTimes_133 hl (k := 4) rfl (zI_dec _ _ (by decide)) (by decide) rfl (fun ls hl => ?_)
          replace hl := lv_sub hl [1, 2, 3, 4, 0, 5] rfl
          refine lv_goto (tgt := 10) C.1 C.2.1 dX5_mostTimes_136 (by decide) ?_
          obtain ⟨g136_25, hw⟩ := hw
          obtain ⟨g136_26, hw⟩ := hw
          exact hL10 _ _ _ hw _ _ _ ⟨g136_25, g136_26, Wd, lv_sub hl [0, 1, 2, 3, 4] rfl⟩
set_option maxHeartbeats 4000000 in
set_option maxRecDepth 100000 in
theorem mk_B_hasForm : ∀ (D : va_G) (ad : Nat → Nat) (ca : Nat → ClassId) (rf : Nat → Nat → Option Nat) (σ : Sg) (hS : rngK σ) (hRF : RFok ad rf) (x0 : Int) (g_x0 : 0 ≤ x0 ∧ x0 < 35) (K : Int → Sg → Prop) (hw : wp5_B_hasForm σ x0 K) (l : Launch) (sz : Nat), Met l yX5_hasForm (Cond.code yX5_hasForm cX5_hasForm 3 (some .boolean) :: gG) { frames := 3, cells := 0, slots := 0, locals := 123 } (cPre D (tC ca) (wK ad ca rf σ) sz [.ref (ad 25), .ref (ad (rowC x0.toNat))]) (va_Qi (fun (r : Int32) (u : Sg) => (∃ x : Int, r = zI x ∧ rng x ∧ K x u) ∧ rngK u) (fun u t => cB D (va_A (wK ad ca rf σ) sz) [] (wK ad ca rf u) t) (va_A (wK ad ca rf σ) sz)) 0 0 (va_A (wK ad ca rf σ) sz) := by
  intro D ad ca rf σ hS hRF x0 g_x0 K hw l sz
  refine Met.ofW (cc := cX5_hasForm) (maxL := 3) (ret := (some .boolean)) (by decide) rfl ?_
  intro p e s m args below meth c s₁ B hml hv
  obtain ⟨rfl, aks, rfl, Wd⟩ := k_enter hv
  have C : CallFix p m c cX5_hasForm 3 s _ gG RX5 := ⟨B.exec, B.bytes, hml, findClass_of_methodNamed B.named, fun w h => atoms_spec (ws := Cond.code yX5_hasForm cX5_hasForm 3 (some .boolean) :: gG) B.pre w (List.mem_cons_of_mem _ h)⟩
  have hr := B.returns
  have hlk := B.notSynchronized
  generalize va_A (wK ad ca rf σ) s.heap.size = A at Wd ⊢
  replace Wd : wXK D ad ca rf s σ s.heap A s.heap [] := ⟨Wd, hS, hRF⟩
  refine k_locals (Nat.le_of_ble_eq_true rfl) [(0, .ref (ad 25)), (1, .ref (ad (rowC x0.toNat)))] rfl (fun ls hl => ?_)
  unfold wp5_B_hasForm at hw
  refine lv_iconst (v := zI 0) C.1 C.2.1 dX5_hasForm_0 (by decide) ?_
  refine lv_istore_n (lv' := [(2, .int (zI 0)), (0, .ref (ad 25)), (1, .ref (ad (rowC x0.toNat)))]) C.1 C.2.1 dX5_hasForm_1 rfl hl (by decide) rfl (fun ls hl => ?_)
  replace hl := lv_sub hl [1, 2, 0] rfl
  refine k_lp2 hw (fun (l2_2 : Int) (σ2 : Sg) H locs ls => rng l2_2 ∧ wXK D ad ca rf s σ2 H A s.heap locs ∧ lv_has ls 3 [(0, .ref (ad 25)), (1, .ref (ad (rowC x0.toNat))), (2, .int (zI l2_2))]) (fun (l2_2 : Int) (σ2 : Sg) ls => F0 m 2 ls []) (fun L2 hL2 l2_2 σ2 hw H locs ls hi => ?_) _ _ _ ⟨(show rng 0 from by decide), Wd, lv_sub hl [0, 1, 2] rfl⟩
  obtain ⟨g_l2_2, Wd, hl⟩ := hi
  have hS_σ2 := Wd.2.1
  unfold wp5_B_hasForm_2 at hw
  refine lv_iload_n C.1 C.2.1 dX5_hasForm_2 rfl (lv_at hl 2 rfl) ?_
  refine lv_iconst (v := zI 3) C.1 C.2.1 dX5_hasForm_3 (by decide) ?_
  refine lv_icmp_ge (tgt := 26) C.1 C.2.1 dX5_hasForm_4 (by decide) (fun c4 => ?_) (fun c4 => ?_)
  · have hw := hw.1 (z_le (show rng 3 from by decide) g_l2_2 c4)
    refine lv_iconst (v := zI 1) C.1 C.2.1 dX5_hasForm_26 (by decide) ?_
    exact k_retKi C hr hlk (by decide) Wd ⟨_, rfl, (show rng 1 from by decide), hw⟩ dX5_hasForm_27
  · have hw := hw.2 (z_nle (show rng 3 from by decide) g_l2_2 c4)
    refine lv_aload_n C.1 C.2.1 dX5_hasForm_7 rfl (lv_at hl 0 rfl) ?_
    refine lv_aload_n C.1 C.2.1 dX5_hasForm_8 rfl (lv_at hl 1 rfl) ?_
    refine lv_iload_n C.1 C.2.1 dX5_hasForm_9 rfl (lv_at hl 2 rfl) ?_
    refine k_cKi Wd (k_runVK (rest := []) C aks Wd cs_X5_80 (mk_B_mostTimes D ad ca rf σ2 Wd.2.1 Wd.2.2 x0 l2_2 g_x0 g_l2_2 _ hw l _) (cx25 _) rfl rfl rfl rfl ⟨(Nat.le_of_ble_eq_true rfl), (Nat.le_of_ble_eq_true rfl)⟩ hl.1 rfl rfl (Nat.le_of_ble_eq_true rfl) ⟨(Nat.le_of_ble_eq_true rfl), (Nat.le_of_ble_eq_true rfl)⟩ dX5_hasForm_10) (fun r10 σr10 H locs g_r10 hw Wd => ?_)
    have hS_σr10 := Wd.2.1
    refine lv_bipush (v := zI 7) C.1 C.2.1 dX5_hasForm_13 (by decide) ?_
    refine lv_icmp_le (tgt := 20) C.1 C.2.1 dX5_hasForm_15 (by decide) (fun c15 => ?_) (fun c15 => ?_)
    · have hw := hw.1 (z_le g_r10 (show rng 7 from by decide) c15)
      refine lv_iinc (v := zI (l2_2 + 1)) (lv' := [(2, .int (zI (l2_2 + 1))), (0, .ref (ad 25)), (1, .ref (ad (rowC x0.toNat)))]) C.1 C.2.1 dX5_hasForm_20 hl (k := 2) rfl (zI_inc _ _ (by decide)) (by decide) rfl (fun ls hl => ?_)
      replace hl := lv_sub hl [1, 2, 0] rfl
      refine lv_goto (tgt := 2) C.1 C.2.1 dX5_hasForm_23 (by decide) ?_
      obtain ⟨g23_2, hw⟩ := hw
      exact hL2 _ _ hw _ _ _ ⟨g23_2, Wd, lv_sub hl [0, 1, 2] rfl⟩
    · have hw := hw.2 (z_nle g_r10 (show rng 7 from by decide) c15)
      refine lv_iconst (v := zI 0) C.1 C.2.1 dX5_hasForm_18 (by decide) ?_
      exact k_retKi C hr hlk (by decide) Wd ⟨_, rfl, (show rng 0 from by decide), hw⟩ dX5_hasForm_19
set_option maxHeartbeats 4000000 in
set_option maxRecDepth 100000 in
theorem mk_B_beginForm : ∀ (D : va_G) (ad : Nat → Nat) (ca : Nat → ClassId) (rf : Nat → Nat → Option Nat) (σ : Sg) (hS : rngK σ) (hRF : RFok ad rf) (x0 : Int) (x1 : Int) (g_x0 : 0 ≤ x0 ∧ x0 < 20) (g_x1 : rng x1) (K : Sg → Prop) (hw : wp5_B_beginForm σ x0 x1 K) (l : Launch) (sz : Nat), Met l yX5_beginForm (Cond.code yX5_beginForm cX5_beginForm 5 none :: gG) { frames := 2, cells := 0, slots := 0, locals := 84 } (cPre D (tC ca) (wK ad ca rf σ) sz [.ref (ad 25), .ref (ad (207 + x0.toNat)), .int (zI x1)]) (va_Qv (fun (u : Sg) => K u ∧ rngK u) (fun u t => cB D (va_A (wK ad ca rf σ) sz) [] (wK ad ca rf u) t) (va_A (wK ad ca rf σ) sz)) 0 0 (va_A (wK ad ca rf σ) sz) := by
  intro D ad ca rf σ hS hRF x0 x1 g_x0 g_x1 K hw l sz
  refine Met.ofW (cc := cX5_beginForm) (maxL := 5) (ret := none) (by decide) rfl ?_
  intro p e s m args below meth c s₁ B hml hv
  obtain ⟨rfl, aks, rfl, Wd⟩ := k_enter hv
  have C : CallFix p m c cX5_beginForm 5 s _ gG RX5 := ⟨B.exec, B.bytes, hml, findClass_of_methodNamed B.named, fun w h => atoms_spec (ws := Cond.code yX5_beginForm cX5_beginForm 5 none :: gG) B.pre w (List.mem_cons_of_mem _ h)⟩
  have hr := B.returns
  have hlk := B.notSynchronized
  generalize va_A (wK ad ca rf σ) s.heap.size = A at Wd ⊢
  replace Wd : wXK D ad ca rf s σ s.heap A s.heap [] := ⟨Wd, hS, hRF⟩
  refine k_locals (Nat.le_of_ble_eq_true rfl) [(0, .ref (ad 25)), (1, .ref (ad (207 + x0.toNat))), (2, .int (zI x1))] rfl (fun ls hl => ?_)
  unfold wp5_B_beginForm at hw
  refine lv_iconst (v := zI 0) C.1 C.2.1 dX5_beginForm_0 (by decide) ?_
  refine lv_istore_n (lv' := [(3, .int (zI 0)), (0, .ref (ad 25)), (1, .ref (ad (207 + x0.toNat))), (2, .int (zI x1))]) C.1 C.2.1 dX5_beginForm_1 rfl hl (by decide) rfl (fun ls hl => ?_)
  replace hl := lv_sub hl [1, 2, 3, 0] rfl
  refine k_lp2 hw (fun (l3_2 : Int) (σ2 : Sg) H locs ls => rng l3_2 ∧ wXK D ad ca rf s σ2 H A s.heap locs ∧ lv_has ls 5 [(1, .ref (ad (207 + x0.toNat))), (2, .int (zI x1)), (3, .int (zI l3_2))]) (fun (l3_2 : Int) (σ2 : Sg) ls => F0 m 2 ls []) (fun L2 hL2 l3_2 σ2 hw H locs ls hi => ?_) _ _ _ ⟨(show rng 0 from by decide), Wd, lv_sub hl [1, 2, 3] rfl⟩
  obtain ⟨g_l3_2, Wd, hl⟩ := hi
  have hS_σ2 := Wd.2.1
  unfold wp5_B_beginForm_2 at hw
  refine lv_iload_n C.1 C.2.1 dX5_beginForm_2 rfl (lv_at hl 2 rfl) ?_
  refine lv_aload_n C.1 C.2.1 dX5_beginForm_3 rfl (lv_at hl 0 rfl) ?_
  refine k_alen (v := zI 512) C Wd.1 _ _ (cxForm g_x0) (tyForm g_x0) rfl dX5_beginForm_4 ?_
  refine lv_icmp_ge (tgt := 18) C.1 C.2.1 dX5_beginForm_5 (by decide) (fun c5 => ?_) (fun c5 => ?_)
  · have hw := hw.1 (z_le (show rng 512 from by decide) g_l3_2 c5)
    refine lv_iload_n C.1 C.2.1 dX5_beginForm_18 rfl (lv_at hl 1 rfl) ?_
    refine k_pi (k_runS (rest := []) C aks Wd.1 cs_X5_109 (mk_U_letterOf D x1 g_x1 _ hw l _) [] rfl (by decide) [] rfl rfl rfl ⟨(Nat.le_of_ble_eq_true rfl), (Nat.le_of_ble_eq_true rfl)⟩ hl.1 rfl rfl (Nat.le_of_ble_eq_true rfl) ⟨(Nat.le_of_ble_eq_true rfl), (Nat.le_of_ble_eq_true rfl)⟩ dX5_beginForm_19) (fun y19 hy => ?_)
    obtain ⟨r19, rfl, g_r19, hw⟩ := hy
    refine lv_istore_n (lv' := [(3, .int (zI r19)), (1, .ref (ad (207 + x0.toNat))), (2, .int (zI x1))]) C.1 C.2.1 dX5_beginForm_22 rfl hl (by decide) rfl (fun ls hl => ?_)
    replace hl := lv_sub hl [1, 2, 0] rfl
    refine lv_iload_n C.1 C.2.1 dX5_beginForm_23 rfl (lv_at hl 2 rfl) ?_
    refine lv_iconst (v := zI (-1)) C.1 C.2.1 dX5_beginForm_24 (by decide) ?_
    refine k_cut1 (fun (s0_37 : Int) H locs ls => rng s0_37 ∧ wp5_B_beginForm_37 K x0 x1 r19 σ2 s0_37 ∧ wXK D ad ca rf s σ2 H A s.heap locs ∧ lv_has ls 5 [(1, .ref (ad (207 + x0.toNat))), (2, .int (zI x1)), (3, .int (zI r19))]) (fun (s0_37 : Int) ls => F0 m 37 ls [.int (zI s0_37)]) (fun s0_37 H locs ls hi => ?_) (fun J37 => ?_)
    · obtain ⟨g_s0_37, hw, Wd, hl⟩ := hi
      unfold wp5_B_beginForm_37 at hw
      refine lv_istore (lv' := [(4, .int (zI s0_37)), (1, .ref (ad (207 + x0.toNat))), (2, .int (zI x1)), (3, .int (zI r19))]) C.1 C.2.1 dX5_beginForm_37 hl (by decide) rfl (fun ls hl => ?_)
      replace hl := lv_sub hl [1, 2, 3, 0] rfl
      refine lv_iload C.1 C.2.1 dX5_beginForm_39 (lv_at hl 3 rfl) ?_
      refine lv_aload_n C.1 C.2.1 dX5_beginForm_41 rfl (lv_at hl 0 rfl) ?_
      refine k_alen (v := zI 512) C Wd.1 _ _ (cxForm g_x0) (tyForm g_x0) rfl dX5_beginForm_42 ?_
      refine lv_icmp_ge (tgt := 63) C.1 C.2.1 dX5_beginForm_43 (by decide) (fun c43 => ?_) (fun c43 => ?_)
      · have hw := hw.1 (z_le (show rng 512 from by decide) g_s0_37 c43)
        exact k_retKv C hr hlk Wd hw dX5_beginForm_63
      · have hw := hw.2 (z_nle (show rng 512 from by decide) g_s0_37 c43)
        refine lv_aload_n C.1 C.2.1 dX5_beginForm_46 rfl (lv_at hl 0 rfl) ?_
        refine lv_iload C.1 C.2.1 dX5_beginForm_47 (lv_at hl 3 rfl) ?_
        refine lv_iload_n C.1 C.2.1 dX5_beginForm_49 rfl (lv_at hl 2 rfl) ?_
        refine lv_iconst (v := zI (-1)) C.1 C.2.1 dX5_beginForm_50 (by decide) ?_
        refine lv_icmp_ne (tgt := 61) C.1 C.2.1 dX5_beginForm_51 (by decide) (fun c51 => ?_) (fun c51 => ?_)
        · have hw := hw.1 (z_ne g_r19 (show rng (-1) from by decide) c51)
          refine lv_iconst (v := zI 1) C.1 C.2.1 dX5_beginForm_61 (by decide) ?_
          obtain ⟨n62_0, hw⟩ := hw
          refine k_iastFm (n := x0) (g := (σ2.2.2.2 4 x0)) (i := s0_37) (v := 1) C Wd g_x0 rfl n62_0 (ruZ (rgZ (c := 4) Wd.2.1 g_x0) (show rng 1 from by decide)) dX5_beginForm_62 (fun H locs Wd => ?_)
          exact k_retKv C hr hlk Wd hw dX5_beginForm_63
        · have hw := hw.2 (z_eq g_r19 (show rng (-1) from by decide) c51)
          refine lv_iload_n C.1 C.2.1 dX5_beginForm_54 rfl (lv_at hl 1 rfl) ?_
          refine lv_bipush (v := zI 15) C.1 C.2.1 dX5_beginForm_55 (by decide) ?_
          refine k_iand (v := zI (ziand x1 15)) C (ziand_eq _ _) dX5_beginForm_57 ?_
          refine lv_goto (tgt := 62) C.1 C.2.1 dX5_beginForm_58 (by decide) ?_
          obtain ⟨n62_0, hw⟩ := hw
          refine k_iastFm (n := x0) (g := (σ2.2.2.2 4 x0)) (i := s0_37) (v := (ziand x1 15)) C Wd g_x0 rfl n62_0 (ruZ (rgZ (c := 4) Wd.2.1 g_x0) (rng_toInt _)) dX5_beginForm_62 (fun H locs Wd => ?_)
          exact k_retKv C hr hlk Wd hw dX5_beginForm_63
    refine lv_icmp_ne (tgt := 32) C.1 C.2.1 dX5_beginForm_25 (by decide) (fun c25 => ?_) (fun c25 => ?_)
    · have hw := hw.1 (z_ne g_r19 (show rng (-1) from by decide) c25)
      refine lv_iconst (v := zI 1) C.1 C.2.1 dX5_beginForm_32 (by decide) ?_
      refine lv_iconst (v := zI 3) C.1 C.2.1 dX5_beginForm_33 (by decide) ?_
      refine lv_iload_n C.1 C.2.1 dX5_beginForm_34 rfl (lv_at hl 2 rfl) ?_
      refine k_imul (v := zI (3 * r19)) C (zI_imul _ _) dX5_beginForm_35 ?_
      refine k_ishl (v := zI (zishl 1 (3 * r19))) C (zishl_eq _ _) dX5_beginForm_36 ?_
      exact J37 (zishl 1 (3 * r19)) _ _ _ ⟨(rng_toInt _), hw, Wd, lv_sub hl [0, 1, 2] rfl⟩
    · have hw := hw.2 (z_eq g_r19 (show rng (-1) from by decide) c25)
      refine lv_iconst (v := zI 0) C.1 C.2.1 dX5_beginForm_28 (by decide) ?_
      refine lv_goto (tgt := 37) C.1 C.2.1 dX5_beginForm_29 (by decide) ?_
      exact J37 0 _ _ _ ⟨(show rng 0 from by decide), hw, Wd, lv_sub hl [0, 1, 2] rfl⟩
  · have hw := hw.2 (z_nle (show rng 512 from by decide) g_l3_2 c5)
    refine lv_aload_n C.1 C.2.1 dX5_beginForm_8 rfl (lv_at hl 0 rfl) ?_
    refine lv_iload_n C.1 C.2.1 dX5_beginForm_9 rfl (lv_at hl 2 rfl) ?_
    refine lv_iconst (v := zI 0) C.1 C.2.1 dX5_beginForm_10 (by decide) ?_
    obtain ⟨n11_0, hw⟩ := hw
    refine k_iastFm (n := x0) (g := (σ2.2.2.2 4 x0)) (i := l3_2) (v := 0) C Wd g_x0 rfl n11_0 (ruZ (rgZ (c := 4) Wd.2.1 g_x0) (show rng 0 from by decide)) dX5_beginForm_11 (fun H locs Wd => ?_)
    refine lv_iinc (v := zI (l3_2 + 1)) (lv' := [(3, .int (zI (l3_2 + 1))), (1, .ref (ad (207 + x0.toNat))), (2, .int (zI x1))]) C.1 C.2.1 dX5_beginForm_12 hl (k := 2) rfl (zI_inc _ _ (by decide)) (by decide) rfl (fun ls hl => ?_)
    replace hl := lv_sub hl [1, 2, 0] rfl
    refine lv_goto (tgt := 2) C.1 C.2.1 dX5_beginForm_15 (by decide) ?_
    obtain ⟨g15_4, hw⟩ := hw
    exact hL2 _ _ hw _ _ _ ⟨g15_4, Wd, lv_sub hl [0, 1, 2] rfl⟩
set_option maxHeartbeats 4000000 in
set_option maxRecDepth 100000 in
theorem mk_B_addUp : ∀ (D : va_G) (ad : Nat → Nat) (ca : Nat → ClassId) (rf : Nat → Nat → Option Nat) (σ : Sg) (hS : rngK σ) (hRF : RFok ad rf) (x0 : Int) (x1 : Int) (x2 : Int) (g_x0 : 0 ≤ x0 ∧ x0 < 20) (g_x1 : 0 ≤ x1 ∧ x1 < 20) (g_x2 : rng x2) (K : Sg → Prop) (hw : wp5_B_addUp σ x0 x1 x2 K) (l : Launch) (sz : Nat), Met l yX5_addUp (Cond.code yX5_addUp cX5_addUp 5 none :: gG) { frames := 2, cells := 0, slots := 0, locals := 87 } (cPre D (tC ca) (wK ad ca rf σ) sz [.ref (ad 25), .ref (ad (207 + x0.toNat)), .ref (ad (207 + x1.toNat)), .int (zI x2)]) (va_Qv (fun (u : Sg) => K u ∧ rngK u) (fun u t => cB D (va_A (wK ad ca rf σ) sz) [] (wK ad ca rf u) t) (va_A (wK ad ca rf σ) sz)) 0 0 (va_A (wK ad ca rf σ) sz) := by
  intro D ad ca rf σ hS hRF x0 x1 x2 g_x0 g_x1 g_x2 K hw l sz
  refine Met.ofW (cc := cX5_addUp) (maxL := 5) (ret := none) (by decide) rfl ?_
  intro p e s m args below meth c s₁ B hml hv
  obtain ⟨rfl, aks, rfl, Wd⟩ := k_enter hv
  have C : CallFix p m c cX5_addUp 5 s _ gG RX5 := ⟨B.exec, B.bytes, hml, findClass_of_methodNamed B.named, fun w h => atoms_spec (ws := Cond.code yX5_addUp cX5_addUp 5 none :: gG) B.pre w (List.mem_cons_of_mem _ h)⟩
  have hr := B.returns
  have hlk := B.notSynchronized
  generalize va_A (wK ad ca rf σ) s.heap.size = A at Wd ⊢
  replace Wd : wXK D ad ca rf s σ s.heap A s.heap [] := ⟨Wd, hS, hRF⟩
  refine k_locals (Nat.le_of_ble_eq_true rfl) [(0, .ref (ad 25)), (1, .ref (ad (207 + x0.toNat))), (2, .ref (ad (207 + x1.toNat))), (3, .int (zI x2))] rfl (fun ls hl => ?_)
  unfold wp5_B_addUp at hw
  refine lv_iconst (v := zI 0) C.1 C.2.1 dX5_addUp_0 (by decide) ?_
  refine lv_istore (lv' := [(4, .int (zI 0)), (0, .ref (ad 25)), (1, .ref (ad (207 + x0.toNat))), (2, .ref (ad (207 + x1.toNat))), (3, .int (zI x2))]) C.1 C.2.1 dX5_addUp_1 hl (by decide) rfl (fun ls hl => ?_)
  replace hl := lv_sub hl [1, 2, 3, 4, 0] rfl
  refine k_lp2 hw (fun (l4_3 : Int) (σ3 : Sg) H locs ls => rng l4_3 ∧ wXK D ad ca rf s σ3 H A s.heap locs ∧ lv_has ls 5 [(1, .ref (ad (207 + x0.toNat))), (2, .ref (ad (207 + x1.toNat))), (3, .int (zI x2)), (4, .int (zI l4_3))]) (fun (l4_3 : Int) (σ3 : Sg) ls => F0 m 3 ls []) (fun L3 hL3 l4_3 σ3 hw H locs ls hi => ?_) _ _ _ ⟨(show rng 0 from by decide), Wd, lv_sub hl [1, 2, 3, 4] rfl⟩
  obtain ⟨g_l4_3, Wd, hl⟩ := hi
  have hS_σ3 := Wd.2.1
  unfold wp5_B_addUp_3 at hw
  refine lv_iload C.1 C.2.1 dX5_addUp_3 (lv_at hl 3 rfl) ?_
  refine lv_aload_n C.1 C.2.1 dX5_addUp_5 rfl (lv_at hl 0 rfl) ?_
  refine k_alen (v := zI 512) C Wd.1 _ _ (cxForm g_x0) (tyForm g_x0) rfl dX5_addUp_6 ?_
  refine lv_icmp_ge (tgt := 39) C.1 C.2.1 dX5_addUp_7 (by decide) (fun c7 => ?_) (fun c7 => ?_)
  · have hw := hw.1 (z_le (show rng 512 from by decide) g_l4_3 c7)
    exact k_retKv C hr hlk Wd hw dX5_addUp_39
  · have hw := hw.2 (z_nle (show rng 512 from by decide) g_l4_3 c7)
    refine lv_iload C.1 C.2.1 dX5_addUp_10 (lv_at hl 3 rfl) ?_
    refine lv_aload_n C.1 C.2.1 dX5_addUp_12 rfl (lv_at hl 1 rfl) ?_
    refine k_alen (v := zI 512) C Wd.1 _ _ (cxForm g_x1) (tyForm g_x1) rfl dX5_addUp_13 ?_
    refine lv_icmp_ge (tgt := 39) C.1 C.2.1 dX5_addUp_14 (by decide) (fun c14 => ?_) (fun c14 => ?_)
    · have hw := hw.1 (z_le (show rng 512 from by decide) g_l4_3 c14)
      exact k_retKv C hr hlk Wd hw dX5_addUp_39
    · have hw := hw.2 (z_nle (show rng 512 from by decide) g_l4_3 c14)
      refine lv_aload_n C.1 C.2.1 dX5_addUp_17 rfl (lv_at hl 1 rfl) ?_
      refine lv_iload C.1 C.2.1 dX5_addUp_18 (lv_at hl 3 rfl) ?_
      refine lv_iload_n C.1 C.2.1 dX5_addUp_20 rfl (lv_at hl 2 rfl) ?_
      refine lv_aload_n C.1 C.2.1 dX5_addUp_21 rfl (lv_at hl 0 rfl) ?_
      refine lv_iload C.1 C.2.1 dX5_addUp_22 (lv_at hl 3 rfl) ?_
      obtain ⟨n24_0, hw⟩ := hw
      refine k_ialdK (g := (σ3.2.2.2 4 x0)) C Wd (cxForm g_x0) (tyForm g_x0) n24_0 (by decide) dX5_addUp_24 ?_
      have ga24 : rng (σ3.2.2.2 4 x0 l4_3) := rngL (rgZ (c := 4) Wd.2.1 g_x0) n24_0
      refine lv_aload_n C.1 C.2.1 dX5_addUp_25 rfl (lv_at hl 1 rfl) ?_
      refine lv_iload C.1 C.2.1 dX5_addUp_26 (lv_at hl 3 rfl) ?_
      refine k_ialdK (g := (σ3.2.2.2 4 x1)) C Wd (cxForm g_x1) (tyForm g_x1) n24_0 (by decide) dX5_addUp_28 ?_
      have ga28 : rng (σ3.2.2.2 4 x1 l4_3) := rngL (rgZ (c := 4) Wd.2.1 g_x1) n24_0
      refine k_pi (k_runS (rest := [.int (zI l4_3), .ref (ad (207 + x1.toNat))]) C aks Wd.1 cs_X5_112 (mk_W_result D x2 (σ3.2.2.2 4 x0 l4_3) (σ3.2.2.2 4 x1 l4_3) g_x2 ga24 ga28 _ hw l _) [] rfl (by decide) [] rfl rfl rfl ⟨(Nat.le_of_ble_eq_true rfl), (Nat.le_of_ble_eq_true rfl)⟩ hl.1 rfl rfl (Nat.le_of_ble_eq_true rfl) ⟨(Nat.le_of_ble_eq_true rfl), (Nat.le_of_ble_eq_true rfl)⟩ dX5_addUp_29) (fun y29 hy => ?_)
      obtain ⟨r29, rfl, g_r29, hw⟩ := hy
      refine k_iastFm (n := x1) (g := (σ3.2.2.2 4 x1)) (i := l4_3) (v := r29) C Wd g_x1 rfl n24_0 (ruZ (rgZ (c := 4) Wd.2.1 g_x1) g_r29) dX5_addUp_32 (fun H locs Wd => ?_)
      refine lv_iinc (v := zI (l4_3 + 1)) (lv' := [(4, .int (zI (l4_3 + 1))), (1, .ref (ad (207 + x0.toNat))), (2, .ref (ad (207 + x1.toNat))), (3, .int (zI x2))]) C.1 C.2.1 dX5_addUp_33 hl (k := 3) rfl (zI_inc _ _ (by decide)) (by decide) rfl (fun ls hl => ?_)
      replace hl := lv_sub hl [1, 2, 3, 0] rfl
      refine lv_goto (tgt := 3) C.1 C.2.1 dX5_addUp_36 (by decide) ?_
      obtain ⟨g36_2, hw⟩ := hw
      exact hL3 _ _ hw _ _ _ ⟨g36_2, Wd, lv_sub hl [0, 1, 2, 3] rfl⟩
set_option maxHeartbeats 4000000 in
set_option maxRecDepth 100000 in
theorem mk_B_addMultiple : ∀ (D : va_G) (ad : Nat → Nat) (ca : Nat → ClassId) (rf : Nat → Nat → Option Nat) (σ : Sg) (hS : rngK σ) (hRF : RFok ad rf) (x0 : Int) (x1 : Int) (x2 : Int) (g_x0 : rng x0) (g_x1 : rng x1) (g_x2 : 0 ≤ x2 ∧ x2 < 20) (K : Sg → Prop) (hw : wp5_B_addMultiple σ x0 x1 x2 K) (l : Launch) (sz : Nat), Met l yX5_addMultiple (Cond.code yX5_addMultiple cX5_addMultiple 5 none :: gG) { frames := 1, cells := 0, slots := 0, locals := 64 } (cPre D (tC ca) (wK ad ca rf σ) sz [.ref (ad 25), .int (zI x0), .int (zI x1), .ref (ad (207 + x2.toNat))]) (va_Qv (fun (u : Sg) => K u ∧ rngK u) (fun u t => cB D (va_A (wK ad ca rf σ) sz) [] (wK ad ca rf u) t) (va_A (wK ad ca rf σ) sz)) 0 0 (va_A (wK ad ca rf σ) sz) := by
  intro D ad ca rf σ hS hRF x0 x1 x2 g_x0 g_x1 g_x2 K hw l sz
  refine Met.ofW (cc := cX5_addMultiple) (maxL := 5) (ret := none) (by decide) rfl ?_
  intro p e s m args below meth c s₁ B hml hv
  obtain ⟨rfl, aks, rfl, Wd⟩ := k_enter hv
  have C : CallFix p m c cX5_addMultiple 5 s _ gG RX5 := ⟨B.exec, B.bytes, hml, findClass_of_methodNamed B.named, fun w h => atoms_spec (ws := Cond.code yX5_addMultiple cX5_addMultiple 5 none :: gG) B.pre w (List.mem_cons_of_mem _ h)⟩
  have hr := B.returns
  have hlk := B.notSynchronized
  generalize va_A (wK ad ca rf σ) s.heap.size = A at Wd ⊢
  replace Wd : wXK D ad ca rf s σ s.heap A s.heap [] := ⟨Wd, hS, hRF⟩
  refine k_locals (Nat.le_of_ble_eq_true rfl) [(0, .ref (ad 25)), (1, .int (zI x0)), (2, .int (zI x1)), (3, .ref (ad (207 + x2.toNat)))] rfl (fun ls hl => ?_)
  unfold wp5_B_addMultiple at hw
  refine lv_iconst (v := zI 0) C.1 C.2.1 dX5_addMultiple_0 (by decide) ?_
  refine lv_istore (lv' := [(4, .int (zI 0)), (0, .ref (ad 25)), (1, .int (zI x0)), (2, .int (zI x1)), (3, .ref (ad (207 + x2.toNat)))]) C.1 C.2.1 dX5_addMultiple_1 hl (by decide) rfl (fun ls hl => ?_)
  replace hl := lv_sub hl [1, 2, 3, 4, 0] rfl
  refine k_lp2 hw (fun (l4_3 : Int) (σ3 : Sg) H locs ls => rng l4_3 ∧ wXK D ad ca rf s σ3 H A s.heap locs ∧ lv_has ls 5 [(0, .ref (ad 25)), (1, .int (zI x0)), (2, .int (zI x1)), (3, .ref (ad (207 + x2.toNat))), (4, .int (zI l4_3))]) (fun (l4_3 : Int) (σ3 : Sg) ls => F0 m 3 ls []) (fun L3 hL3 l4_3 σ3 hw H locs ls hi => ?_) _ _ _ ⟨(show rng 0 from by decide), Wd, lv_sub hl [0, 1, 2, 3, 4] rfl⟩
  obtain ⟨g_l4_3, Wd, hl⟩ := hi
  have hS_σ3 := Wd.2.1
  unfold wp5_B_addMultiple_3 at hw
  refine lv_iload C.1 C.2.1 dX5_addMultiple_3 (lv_at hl 4 rfl) ?_
  refine lv_aload_n C.1 C.2.1 dX5_addMultiple_5 rfl (lv_at hl 3 rfl) ?_
  refine k_alen (v := zI 512) C Wd.1 _ _ (cxForm g_x2) (tyForm g_x2) rfl dX5_addMultiple_6 ?_
  refine lv_icmp_ge (tgt := 54) C.1 C.2.1 dX5_addMultiple_7 (by decide) (fun c7 => ?_) (fun c7 => ?_)
  · have hw := hw.1 (z_le (show rng 512 from by decide) g_l4_3 c7)
    exact k_retKv C hr hlk Wd hw dX5_addMultiple_54
  · have hw := hw.2 (z_nle (show rng 512 from by decide) g_l4_3 c7)
    refine lv_iload_n C.1 C.2.1 dX5_addMultiple_10 rfl (lv_at hl 1 rfl) ?_
    refine lv_iload C.1 C.2.1 dX5_addMultiple_11 (lv_at hl 4 rfl) ?_
    refine k_iadd (v := zI (x0 + l4_3)) C (zI_iadd _ _) dX5_addMultiple_13 ?_
    refine lv_sipush (v := zI 512) C.1 C.2.1 dX5_addMultiple_14 (zS (by decide) (by decide)) ?_
    obtain ⟨g17_5, hw⟩ := hw
    refine lv_icmp_ge (tgt := 54) C.1 C.2.1 dX5_addMultiple_17 (by decide) (fun c17 => ?_) (fun c17 => ?_)
    · have hw := hw.1 (z_le (show rng 512 from by decide) g17_5 c17)
      exact k_retKv C hr hlk Wd hw dX5_addMultiple_54
    · have hw := hw.2 (z_nle (show rng 512 from by decide) g17_5 c17)
      refine lv_aload_n C.1 C.2.1 dX5_addMultiple_20 rfl (lv_at hl 0 rfl) ?_
      refine k_get (v := .ref (ad 29)) C Wd.1 KX5 _ 6 (cx25 _) (by decide) fl_X5_26 rfl dX5_addMultiple_21 ?_
      refine lv_iload_n C.1 C.2.1 dX5_addMultiple_24 rfl (lv_at hl 1 rfl) ?_
      refine lv_iload C.1 C.2.1 dX5_addMultiple_25 (lv_at hl 4 rfl) ?_
      refine k_iadd (v := zI (x0 + l4_3)) C (zI_iadd _ _) dX5_addMultiple_27 ?_
      refine lv_aload_n C.1 C.2.1 dX5_addMultiple_28 rfl (lv_at hl 0 rfl) ?_
      refine k_get (v := .ref (ad 29)) C Wd.1 KX5 _ 6 (cx25 _) (by decide) fl_X5_26 rfl dX5_addMultiple_29 ?_
      refine lv_iload_n C.1 C.2.1 dX5_addMultiple_32 rfl (lv_at hl 1 rfl) ?_
      refine lv_iload C.1 C.2.1 dX5_addMultiple_33 (lv_at hl 4 rfl) ?_
      refine k_iadd (v := zI (x0 + l4_3)) C (zI_iadd _ _) dX5_addMultiple_35 ?_
      obtain ⟨n36_0, hw⟩ := hw
      refine k_ialdK (g := (σ3.2.1 29)) C Wd (cx29 _) (tC_at (by decide) rfl) n36_0 (by decide) dX5_addMultiple_36 ?_
      have ga36 : rng (σ3.2.1 29 (x0 + l4_3)) := rngL (fun j => (Wd.2.1).2.1 29 j) n36_0
      refine lv_iload_n C.1 C.2.1 dX5_addMultiple_37 rfl (lv_at hl 2 rfl) ?_
      refine lv_aload_n C.1 C.2.1 dX5_addMultiple_38 rfl (lv_at hl 3 rfl) ?_
      refine lv_iload C.1 C.2.1 dX5_addMultiple_39 (lv_at hl 4 rfl) ?_
      obtain ⟨n41_1, hw⟩ := hw
      refine k_ialdK (g := (σ3.2.2.2 4 x2)) C Wd (cxForm g_x2) (tyForm g_x2) n41_1 (by decide) dX5_addMultiple_41 ?_
      have ga41 : rng (σ3.2.2.2 4 x2 l4_3) := rngL (rgZ (c := 4) Wd.2.1 g_x2) n41_1
      refine k_imul (v := zI (x1 * (σ3.2.2.2 4 x2 l4_3))) C (zI_imul _ _) dX5_addMultiple_42 ?_
      refine k_iadd (v := zI ((σ3.2.1 29 (x0 + l4_3)) + (x1 * (σ3.2.2.2 4 x2 l4_3)))) C (zI_iadd _ _) dX5_addMultiple_43 ?_
      refine lv_bipush (v := zI 15) C.1 C.2.1 dX5_addMultiple_44 (by decide) ?_
      refine k_iand (v := zI (ziand ((σ3.2.1 29 (x0 + l4_3)) + (x1 * (σ3.2.2.2 4 x2 l4_3))) 15)) C (ziand_eq _ _) dX5_addMultiple_46 ?_
      refine k_iastF (g := (σ3.2.1 29)) (i := (x0 + l4_3)) (v := (ziand ((σ3.2.1 29 (x0 + l4_3)) + (x1 * (σ3.2.2.2 4 x2 l4_3))) 15)) C Wd 29 (by decide) (cx29 _) (fun f => cx29a _ f) (tC_at (by decide) rfl) n36_0 (by decide) (ruZ (fun j => Wd.2.1.2.1 29 j) (rng_toInt _)) dX5_addMultiple_47 (fun H locs Wd => ?_)
      refine lv_iinc (v := zI (l4_3 + 1)) (lv' := [(4, .int (zI (l4_3 + 1))), (0, .ref (ad 25)), (1, .int (zI x0)), (2, .int (zI x1)), (3, .ref (ad (207 + x2.toNat)))]) C.1 C.2.1 dX5_addMultiple_48 hl (k := 4) rfl (zI_inc _ _ (by decide)) (by decide) rfl (fun ls hl => ?_)
      replace hl := lv_sub hl [1, 2, 3, 4, 0] rfl
      refine lv_goto (tgt := 3) C.1 C.2.1 dX5_addMultiple_51 (by decide) ?_
      obtain ⟨g51_6, hw⟩ := hw
      exact hL3 _ _ hw _ _ _ ⟨g51_6, Wd, lv_sub hl [0, 1, 2, 3, 4] rfl⟩
set_option maxHeartbeats 4000000 in
set_option maxRecDepth 100000 in
theorem mk_B_multiply : ∀ (D : va_G) (ad : Nat → Nat) (ca : Nat → ClassId) (rf : Nat → Nat → Option Nat) (σ : Sg) (hS : rngK σ) (hRF : RFok ad rf) (x0 : Int) (x1 : Int) (g_x0 : 0 ≤ x0 ∧ x0 < 20) (g_x1 : 0 ≤ x1 ∧ x1 < 20) (K : Sg → Prop) (hw : wp5_B_multiply σ x0 x1 K) (l : Launch) (sz : Nat), Met l yX5_multiply (Cond.code yX5_multiply cX5_multiply 4 none :: gG) { frames := 2, cells := 0, slots := 0, locals := 96 } (cPre D (tC ca) (wK ad ca rf σ) sz [.ref (ad 25), .ref (ad (207 + x0.toNat)), .ref (ad (207 + x1.toNat))]) (va_Qv (fun (u : Sg) => K u ∧ rngK u) (fun u t => cB D (va_A (wK ad ca rf σ) sz) [] (wK ad ca rf u) t) (va_A (wK ad ca rf σ) sz)) 0 0 (va_A (wK ad ca rf σ) sz) := by
  intro D ad ca rf σ hS hRF x0 x1 g_x0 g_x1 K hw l sz
  refine Met.ofW (cc := cX5_multiply) (maxL := 4) (ret := none) (by decide) rfl ?_
  intro p e s m args below meth c s₁ B hml hv
  obtain ⟨rfl, aks, rfl, Wd⟩ := k_enter hv
  have C : CallFix p m c cX5_multiply 4 s _ gG RX5 := ⟨B.exec, B.bytes, hml, findClass_of_methodNamed B.named, fun w h => atoms_spec (ws := Cond.code yX5_multiply cX5_multiply 4 none :: gG) B.pre w (List.mem_cons_of_mem _ h)⟩
  have hr := B.returns
  have hlk := B.notSynchronized
  generalize va_A (wK ad ca rf σ) s.heap.size = A at Wd ⊢
  replace Wd : wXK D ad ca rf s σ s.heap A s.heap [] := ⟨Wd, hS, hRF⟩
  refine k_locals (Nat.le_of_ble_eq_true rfl) [(0, .ref (ad 25)), (1, .ref (ad (207 + x0.toNat))), (2, .ref (ad (207 + x1.toNat)))] rfl (fun ls hl => ?_)
  unfold wp5_B_multiply at hw
  refine lv_iconst (v := zI 0) C.1 C.2.1 dX5_multiply_0 (by decide) ?_
  refine lv_istore_n (lv' := [(3, .int (zI 0)), (0, .ref (ad 25)), (1, .ref (ad (207 + x0.toNat))), (2, .ref (ad (207 + x1.toNat)))]) C.1 C.2.1 dX5_multiply_1 rfl hl (by decide) rfl (fun ls hl => ?_)
  replace hl := lv_sub hl [1, 2, 3, 0] rfl
  refine k_lp2 hw (fun (l3_2 : Int) (σ2 : Sg) H locs ls => rng l3_2 ∧ wXK D ad ca rf s σ2 H A s.heap locs ∧ lv_has ls 4 [(0, .ref (ad 25)), (1, .ref (ad (207 + x0.toNat))), (2, .ref (ad (207 + x1.toNat))), (3, .int (zI l3_2))]) (fun (l3_2 : Int) (σ2 : Sg) ls => F0 m 2 ls []) (fun L2 hL2 l3_2 σ2 hw H locs ls hi => ?_) _ _ _ ⟨(show rng 0 from by decide), Wd, lv_sub hl [0, 1, 2, 3] rfl⟩
  obtain ⟨g_l3_2, Wd, hl⟩ := hi
  have hS_σ2 := Wd.2.1
  unfold wp5_B_multiply_2 at hw
  refine lv_iload_n C.1 C.2.1 dX5_multiply_2 rfl (lv_at hl 3 rfl) ?_
  refine lv_sipush (v := zI 512) C.1 C.2.1 dX5_multiply_3 (zS (by decide) (by decide)) ?_
  refine lv_icmp_ge (tgt := 22) C.1 C.2.1 dX5_multiply_6 (by decide) (fun c6 => ?_) (fun c6 => ?_)
  · have hw := hw.1 (z_le (show rng 512 from by decide) g_l3_2 c6)
    refine lv_iconst (v := zI 0) C.1 C.2.1 dX5_multiply_22 (by decide) ?_
    refine lv_istore_n (lv' := [(3, .int (zI 0)), (0, .ref (ad 25)), (1, .ref (ad (207 + x0.toNat))), (2, .ref (ad (207 + x1.toNat)))]) C.1 C.2.1 dX5_multiply_23 rfl hl (by decide) rfl (fun ls hl => ?_)
    replace hl := lv_sub hl [1, 2, 3, 0] rfl
    refine k_lp2 hw (fun (l3_24 : Int) (σ24 : Sg) H locs ls => rng l3_24 ∧ wXK D ad ca rf s σ24 H A s.heap locs ∧ lv_has ls 4 [(0, .ref (ad 25)), (1, .ref (ad (207 + x0.toNat))), (2, .ref (ad (207 + x1.toNat))), (3, .int (zI l3_24))]) (fun (l3_24 : Int) (σ24 : Sg) ls => F0 m 24 ls []) (fun L24 hL24 l3_24 σ24 hw H locs ls hi => ?_) _ _ _ ⟨(show rng 0 from by decide), Wd, lv_sub hl [0, 1, 2, 3] rfl⟩
    obtain ⟨g_l3_24, Wd, hl⟩ := hi
    have hS_σ24 := Wd.2.1
    unfold wp5_B_multiply_24 at hw
    refine lv_iload_n C.1 C.2.1 dX5_multiply_24 rfl (lv_at hl 3 rfl) ?_
    refine lv_aload_n C.1 C.2.1 dX5_multiply_25 rfl (lv_at hl 1 rfl) ?_
    refine k_alen (v := zI 512) C Wd.1 _ _ (cxForm g_x0) (tyForm g_x0) rfl dX5_multiply_26 ?_
    refine lv_icmp_ge (tgt := 51) C.1 C.2.1 dX5_multiply_27 (by decide) (fun c27 => ?_) (fun c27 => ?_)
    · have hw := hw.1 (z_le (show rng 512 from by decide) g_l3_24 c27)
      refine lv_aload_n C.1 C.2.1 dX5_multiply_51 rfl (lv_at hl 0 rfl) ?_
      refine k_get (v := .ref (ad 29)) C Wd.1 KX5 _ 6 (cx25 _) (by decide) fl_X5_26 rfl dX5_multiply_52 ?_
      refine lv_iconst (v := zI 0) C.1 C.2.1 dX5_multiply_55 (by decide) ?_
      refine lv_aload_n C.1 C.2.1 dX5_multiply_56 rfl (lv_at hl 2 rfl) ?_
      refine lv_iconst (v := zI 0) C.1 C.2.1 dX5_multiply_57 (by decide) ?_
      refine lv_sipush (v := zI 512) C.1 C.2.1 dX5_multiply_58 (zS (by decide) (by decide)) ?_
      refine lv_aload_n C.1 C.2.1 dX5_multiply_61 rfl (lv_at hl 2 rfl) ?_
      refine k_alen (v := zI 512) C Wd.1 _ _ (cxForm g_x1) (tyForm g_x1) rfl dX5_multiply_62 ?_
      refine k_mmin (v := zI (min 512 512)) C hl.1 ml_X5_120 st_Lib_Math_min_name in_J9 cd_min (Nat.le_of_ble_eq_true rfl) (Nat.le_of_ble_eq_true rfl) (Nat.le_of_ble_eq_true rfl) (Nat.le_of_ble_eq_true rfl) (zmin_eq _ _ (show rng 512 from by decide) (show rng 512 from by decide)) dX5_multiply_63 ?_
      obtain ⟨y66, hw⟩ := hw
      refine k_copySF (sp := 0) (dp := 0) (n := (min 512 512)) C hl.1 Wd mlac_X5_74 nat_ac sta_ac ini_sys 29 (cx29 _) (tC_at (by decide) rfl) g_x1 rfl rfl (by decide) y66 (Nat.le_of_ble_eq_true rfl) (Nat.le_of_ble_eq_true rfl) dX5_multiply_66 (fun H locs Wd => ?_)
      exact k_retKv C hr hlk Wd hw dX5_multiply_69
    · have hw := hw.2 (z_nle (show rng 512 from by decide) g_l3_24 c27)
      refine lv_aload_n C.1 C.2.1 dX5_multiply_30 rfl (lv_at hl 1 rfl) ?_
      refine lv_iload_n C.1 C.2.1 dX5_multiply_31 rfl (lv_at hl 3 rfl) ?_
      obtain ⟨n32_0, hw⟩ := hw
      refine k_ialdK (g := (σ24.2.2.2 4 x0)) C Wd (cxForm g_x0) (tyForm g_x0) n32_0 (by decide) dX5_multiply_32 ?_
      have ga32 : rng (σ24.2.2.2 4 x0 l3_24) := rngL (rgZ (c := 4) Wd.2.1 g_x0) n32_0
      refine lv_if_eq (tgt := 45) C.1 C.2.1 dX5_multiply_33 (by decide) (fun c33 => ?_) (fun c33 => ?_)
      · have hw := hw.1 (z0_eq ga32 c33)
        refine lv_iinc (v := zI (l3_24 + 1)) (lv' := [(3, .int (zI (l3_24 + 1))), (0, .ref (ad 25)), (1, .ref (ad (207 + x0.toNat))), (2, .ref (ad (207 + x1.toNat)))]) C.1 C.2.1 dX5_multiply_45 hl (k := 3) rfl (zI_inc _ _ (by decide)) (by decide) rfl (fun ls hl => ?_)
        replace hl := lv_sub hl [1, 2, 3, 0] rfl
        refine lv_goto (tgt := 24) C.1 C.2.1 dX5_multiply_48 (by decide) ?_
        obtain ⟨g48_4, hw⟩ := hw
        exact hL24 _ _ hw _ _ _ ⟨g48_4, Wd, lv_sub hl [0, 1, 2, 3] rfl⟩
      · have hw := hw.2 (z0_ne ga32 c33)
        refine lv_aload_n C.1 C.2.1 dX5_multiply_36 rfl (lv_at hl 0 rfl) ?_
        refine lv_iload_n C.1 C.2.1 dX5_multiply_37 rfl (lv_at hl 3 rfl) ?_
        refine lv_aload_n C.1 C.2.1 dX5_multiply_38 rfl (lv_at hl 1 rfl) ?_
        refine lv_iload_n C.1 C.2.1 dX5_multiply_39 rfl (lv_at hl 3 rfl) ?_
        refine k_ialdK (g := (σ24.2.2.2 4 x0)) C Wd (cxForm g_x0) (tyForm g_x0) n32_0 (by decide) dX5_multiply_40 ?_
        refine lv_aload_n C.1 C.2.1 dX5_multiply_41 rfl (lv_at hl 2 rfl) ?_
        refine k_cKv Wd (k_runVK (rest := []) C aks Wd cs_X5_116 (mk_B_addMultiple D ad ca rf σ24 Wd.2.1 Wd.2.2 l3_24 (σ24.2.2.2 4 x0 l3_24) x1 g_l3_24 ga32 g_x1 _ hw l _) (cx25 _) rfl rfl rfl rfl ⟨(Nat.le_of_ble_eq_true rfl), (Nat.le_of_ble_eq_true rfl)⟩ hl.1 rfl rfl (Nat.le_of_ble_eq_true rfl) ⟨(Nat.le_of_ble_eq_true rfl), (Nat.le_of_ble_eq_true rfl)⟩ dX5_multiply_42) (fun σr42 H locs hw Wd => ?_)
        have hS_σr42 := Wd.2.1
        refine lv_iinc (v := zI (l3_24 + 1)) (lv' := [(3, .int (zI (l3_24 + 1))), (0, .ref (ad 25)), (1, .ref (ad (207 + x0.toNat))), (2, .ref (ad (207 + x1.toNat)))]) C.1 C.2.1 dX5_multiply_45 hl (k := 3) rfl (zI_inc _ _ (by decide)) (by decide) rfl (fun ls hl => ?_)
        replace hl := lv_sub hl [1, 2, 3, 0] rfl
        refine lv_goto (tgt := 24) C.1 C.2.1 dX5_multiply_48 (by decide) ?_
        obtain ⟨g48_5, hw⟩ := hw
        exact hL24 _ _ hw _ _ _ ⟨g48_5, Wd, lv_sub hl [0, 1, 2, 3] rfl⟩
  · have hw := hw.2 (z_nle (show rng 512 from by decide) g_l3_2 c6)
    refine lv_aload_n C.1 C.2.1 dX5_multiply_9 rfl (lv_at hl 0 rfl) ?_
    refine k_get (v := .ref (ad 29)) C Wd.1 KX5 _ 6 (cx25 _) (by decide) fl_X5_26 rfl dX5_multiply_10 ?_
    refine lv_iload_n C.1 C.2.1 dX5_multiply_13 rfl (lv_at hl 3 rfl) ?_
    refine lv_iconst (v := zI 0) C.1 C.2.1 dX5_multiply_14 (by decide) ?_
    obtain ⟨n15_0, hw⟩ := hw
    refine k_iastF (g := (σ2.2.1 29)) (i := l3_2) (v := 0) C Wd 29 (by decide) (cx29 _) (fun f => cx29a _ f) (tC_at (by decide) rfl) n15_0 (by decide) (ruZ (fun j => Wd.2.1.2.1 29 j) (show rng 0 from by decide)) dX5_multiply_15 (fun H locs Wd => ?_)
    refine lv_iinc (v := zI (l3_2 + 1)) (lv' := [(3, .int (zI (l3_2 + 1))), (0, .ref (ad 25)), (1, .ref (ad (207 + x0.toNat))), (2, .ref (ad (207 + x1.toNat)))]) C.1 C.2.1 dX5_multiply_16 hl (k := 3) rfl (zI_inc _ _ (by decide)) (by decide) rfl (fun ls hl => ?_)
    replace hl := lv_sub hl [1, 2, 3, 0] rfl
    refine lv_goto (tgt := 2) C.1 C.2.1 dX5_multiply_19 (by decide) ?_
    obtain ⟨g19_6, hw⟩ := hw
    exact hL2 _ _ hw _ _ _ ⟨g19_6, Wd, lv_sub hl [0, 1, 2, 3] rfl⟩
set_option maxHeartbeats 4000000 in
set_option maxRecDepth 100000 in
theorem mk_B_multiplyOut : ∀ (D : va_G) (ad : Nat → Nat) (ca : Nat → ClassId) (rf : Nat → Nat → Option Nat) (σ : Sg) (hS : rngK σ) (hRF : RFok ad rf) (x0 : Int) (g_x0 : 0 ≤ x0 ∧ x0 < 35) (K : Sg → Prop) (hw : wp5_B_multiplyOut σ x0 K) (l : Launch) (sz : Nat), Met l yX5_multiplyOut (Cond.code yX5_multiplyOut cX5_multiplyOut 5 none :: gG) { frames := 3, cells := 0, slots := 0, locals := 119 } (cPre D (tC ca) (wK ad ca rf σ) sz [.ref (ad 25), .ref (ad (rowC x0.toNat))]) (va_Qv (fun (u : Sg) => K u ∧ rngK u) (fun u t => cB D (va_A (wK ad ca rf σ) sz) [] (wK ad ca rf u) t) (va_A (wK ad ca rf σ) sz)) 0 0 (va_A (wK ad ca rf σ) sz) := by
  intro D ad ca rf σ hS hRF x0 g_x0 K hw l sz
  refine Met.ofW (cc := cX5_multiplyOut) (maxL := 5) (ret := none) (by decide) rfl ?_
  intro p e s m args below meth c s₁ B hml hv
  obtain ⟨rfl, aks, rfl, Wd⟩ := k_enter hv
  have C : CallFix p m c cX5_multiplyOut 5 s _ gG RX5 := ⟨B.exec, B.bytes, hml, findClass_of_methodNamed B.named, fun w h => atoms_spec (ws := Cond.code yX5_multiplyOut cX5_multiplyOut 5 none :: gG) B.pre w (List.mem_cons_of_mem _ h)⟩
  have hr := B.returns
  have hlk := B.notSynchronized
  generalize va_A (wK ad ca rf σ) s.heap.size = A at Wd ⊢
  replace Wd : wXK D ad ca rf s σ s.heap A s.heap [] := ⟨Wd, hS, hRF⟩
  refine k_locals (Nat.le_of_ble_eq_true rfl) [(0, .ref (ad 25)), (1, .ref (ad (rowC x0.toNat)))] rfl (fun ls hl => ?_)
  unfold wp5_B_multiplyOut at hw
  refine lv_iconst (v := zI 0) C.1 C.2.1 dX5_multiplyOut_0 (by decide) ?_
  refine lv_istore_n (lv' := [(2, .int (zI 0)), (0, .ref (ad 25)), (1, .ref (ad (rowC x0.toNat)))]) C.1 C.2.1 dX5_multiplyOut_1 rfl hl (by decide) rfl (fun ls hl => ?_)
  replace hl := lv_sub hl [1, 2, 0] rfl
  refine lv_aload_n C.1 C.2.1 dX5_multiplyOut_2 rfl (lv_at hl 1 rfl) ?_
  refine k_get (v := .int (zI (σ.2.2.1 0 x0))) C Wd.1 KX8 _ 1 (cxRow g_x0) (by decide) fl_X5_57 rfl dX5_multiplyOut_3 ?_
  refine lv_iconst (v := zI 1) C.1 C.2.1 dX5_multiplyOut_6 (by decide) ?_
  refine k_isub (v := zI ((σ.2.2.1 0 x0) - 1)) C (zI_isub _ _) dX5_multiplyOut_7 ?_
  refine lv_istore_n (lv' := [(3, .int (zI ((σ.2.2.1 0 x0) - 1))), (0, .ref (ad 25)), (1, .ref (ad (rowC x0.toNat))), (2, .int (zI 0))]) C.1 C.2.1 dX5_multiplyOut_8 rfl hl (by decide) rfl (fun ls hl => ?_)
  replace hl := lv_sub hl [1, 2, 3, 0] rfl
  obtain ⟨g8_7, hw⟩ := hw
  refine k_lp3 hw (fun (l2_9 : Int) (l3_9 : Int) (σ9 : Sg) H locs ls => rng l2_9 ∧ rng l3_9 ∧ wXK D ad ca rf s σ9 H A s.heap locs ∧ lv_has ls 5 [(0, .ref (ad 25)), (1, .ref (ad (rowC x0.toNat))), (2, .int (zI l2_9)), (3, .int (zI l3_9))]) (fun (l2_9 : Int) (l3_9 : Int) (σ9 : Sg) ls => F0 m 9 ls []) (fun L9 hL9 l2_9 l3_9 σ9 hw H locs ls hi => ?_) _ _ _ ⟨(show rng 0 from by decide), g8_7, Wd, lv_sub hl [0, 1, 2, 3] rfl⟩
  obtain ⟨g_l2_9, g_l3_9, Wd, hl⟩ := hi
  have hS_σ9 := Wd.2.1
  unfold wp5_B_multiplyOut_9 at hw
  refine lv_iload_n C.1 C.2.1 dX5_multiplyOut_9 rfl (lv_at hl 3 rfl) ?_
  refine lv_if_lt (tgt := 124) C.1 C.2.1 dX5_multiplyOut_10 (by decide) (fun c10 => ?_) (fun c10 => ?_)
  · have hw := hw.1 (z0_lt g_l3_9 c10)
    exact k_retKv C hr hlk Wd hw dX5_multiplyOut_124
  · have hw := hw.2 (z0_nlt g_l3_9 c10)
    refine lv_aload_n C.1 C.2.1 dX5_multiplyOut_13 rfl (lv_at hl 1 rfl) ?_
    refine lv_iload_n C.1 C.2.1 dX5_multiplyOut_14 rfl (lv_at hl 3 rfl) ?_
    refine k_pi (k_runVK (rest := []) C aks Wd cs_X5_84 (mk_W_cell D ad ca rf σ9 Wd.2.1 Wd.2.2 x0 l3_9 g_x0 g_l3_9 _ hw l _) (cxRow g_x0) rfl rfl rfl rfl ⟨(Nat.le_of_ble_eq_true rfl), (Nat.le_of_ble_eq_true rfl)⟩ hl.1 rfl rfl (Nat.le_of_ble_eq_true rfl) ⟨(Nat.le_of_ble_eq_true rfl), (Nat.le_of_ble_eq_true rfl)⟩ dX5_multiplyOut_15) (fun y15 hy => ?_)
    obtain ⟨r15, rfl, g_r15, hw⟩ := hy
    refine lv_istore (lv' := [(4, .int (zI r15)), (0, .ref (ad 25)), (1, .ref (ad (rowC x0.toNat))), (2, .int (zI l2_9)), (3, .int (zI l3_9))]) C.1 C.2.1 dX5_multiplyOut_18 hl (by decide) rfl (fun ls hl => ?_)
    replace hl := lv_sub hl [1, 2, 3, 4, 0] rfl
    refine lv_iload C.1 C.2.1 dX5_multiplyOut_20 (lv_at hl 4 rfl) ?_
    refine k_pi (k_runS (rest := []) C aks Wd.1 cs_X5_88 (mk_W_isOperation D r15 g_r15 _ hw l _) [] rfl (by decide) [] rfl rfl rfl ⟨(Nat.le_of_ble_eq_true rfl), (Nat.le_of_ble_eq_true rfl)⟩ hl.1 rfl rfl (Nat.le_of_ble_eq_true rfl) ⟨(Nat.le_of_ble_eq_true rfl), (Nat.le_of_ble_eq_true rfl)⟩ dX5_multiplyOut_22) (fun y22 hy => ?_)
    obtain ⟨r22, rfl, g_r22, hw⟩ := hy
    refine k_cut0 (fun H locs ls => wp5_B_multiplyOut_52 l2_9 l3_9 r15 σ9 L9 ∧ wXK D ad ca rf s σ9 H A s.heap locs ∧ lv_has ls 5 [(0, .ref (ad 25)), (1, .ref (ad (rowC x0.toNat))), (2, .int (zI l2_9)), (3, .int (zI l3_9)), (4, .int (zI r15))]) (fun  ls => F0 m 52 ls []) (fun  H locs ls hi => ?_) (fun J52 => ?_)
    · obtain ⟨hw, Wd, hl⟩ := hi
      unfold wp5_B_multiplyOut_52 at hw
      refine lv_iload_n C.1 C.2.1 dX5_multiplyOut_52 rfl (lv_at hl 2 rfl) ?_
      refine lv_iconst (v := zI 2) C.1 C.2.1 dX5_multiplyOut_53 (by decide) ?_
      refine lv_icmp_lt (tgt := 118) C.1 C.2.1 dX5_multiplyOut_54 (by decide) (fun c54 => ?_) (fun c54 => ?_)
      · have hw := hw.1 (z_lt g_l2_9 (show rng 2 from by decide) c54)
        refine lv_iinc (v := zI (l3_9 - 1)) (lv' := [(3, .int (zI (l3_9 - 1))), (0, .ref (ad 25)), (1, .ref (ad (rowC x0.toNat))), (2, .int (zI l2_9)), (4, .int (zI r15))]) C.1 C.2.1 dX5_multiplyOut_118 hl (k := 3) rfl (zI_dec _ _ (by decide)) (by decide) rfl (fun ls hl => ?_)
        replace hl := lv_sub hl [1, 2, 3, 0, 4] rfl
        refine lv_goto (tgt := 9) C.1 C.2.1 dX5_multiplyOut_121 (by decide) ?_
        obtain ⟨g121_8, hw⟩ := hw
        exact hL9 _ _ _ hw _ _ _ ⟨g_l2_9, g121_8, Wd, lv_sub hl [0, 1, 2, 3] rfl⟩
      · have hw := hw.2 (z_nlt g_l2_9 (show rng 2 from by decide) c54)
        refine lv_iload_n C.1 C.2.1 dX5_multiplyOut_57 rfl (lv_at hl 2 rfl) ?_
        refine lv_bipush (v := zI 20) C.1 C.2.1 dX5_multiplyOut_58 (by decide) ?_
        refine lv_icmp_gt (tgt := 118) C.1 C.2.1 dX5_multiplyOut_60 (by decide) (fun c60 => ?_) (fun c60 => ?_)
        · have hw := hw.1 (z_lt (show rng 20 from by decide) g_l2_9 c60)
          refine lv_iinc (v := zI (l3_9 - 1)) (lv' := [(3, .int (zI (l3_9 - 1))), (0, .ref (ad 25)), (1, .ref (ad (rowC x0.toNat))), (2, .int (zI l2_9)), (4, .int (zI r15))]) C.1 C.2.1 dX5_multiplyOut_118 hl (k := 3) rfl (zI_dec _ _ (by decide)) (by decide) rfl (fun ls hl => ?_)
          replace hl := lv_sub hl [1, 2, 3, 0, 4] rfl
          refine lv_goto (tgt := 9) C.1 C.2.1 dX5_multiplyOut_121 (by decide) ?_
          obtain ⟨g121_9, hw⟩ := hw
          exact hL9 _ _ _ hw _ _ _ ⟨g_l2_9, g121_9, Wd, lv_sub hl [0, 1, 2, 3] rfl⟩
        · have hw := hw.2 (z_nlt (show rng 20 from by decide) g_l2_9 c60)
          refine lv_iload C.1 C.2.1 dX5_multiplyOut_63 (lv_at hl 4 rfl) ?_
          refine lv_bipush (v := zI 122) C.1 C.2.1 dX5_multiplyOut_65 (by decide) ?_
          refine lv_icmp_ne (tgt := 93) C.1 C.2.1 dX5_multiplyOut_67 (by decide) (fun c67 => ?_) (fun c67 => ?_)
          · have hw := hw.1 (z_ne g_r15 (show rng 122 from by decide) c67)
            refine lv_aload_n C.1 C.2.1 dX5_multiplyOut_93 rfl (lv_at hl 0 rfl) ?_
            refine lv_aload_n C.1 C.2.1 dX5_multiplyOut_94 rfl (lv_at hl 0 rfl) ?_
            refine k_get (v := .ref (ad 30)) C Wd.1 KX5 _ 4 (cx25 _) (by decide) fl_X5_20 rfl dX5_multiplyOut_95 ?_
            refine lv_iload_n C.1 C.2.1 dX5_multiplyOut_98 rfl (lv_at hl 2 rfl) ?_
            refine lv_iconst (v := zI 1) C.1 C.2.1 dX5_multiplyOut_99 (by decide) ?_
            refine k_isub (v := zI (l2_9 - 1)) C (zI_isub _ _) dX5_multiplyOut_100 ?_
            obtain ⟨n101_0, hw⟩ := hw
            refine k_form (i := (l2_9 - 1)) C Wd n101_0 dX5_multiplyOut_101 ?_
            refine lv_aload_n C.1 C.2.1 dX5_multiplyOut_102 rfl (lv_at hl 0 rfl) ?_
            refine k_get (v := .ref (ad 30)) C Wd.1 KX5 _ 4 (cx25 _) (by decide) fl_X5_20 rfl dX5_multiplyOut_103 ?_
            refine lv_iload_n C.1 C.2.1 dX5_multiplyOut_106 rfl (lv_at hl 2 rfl) ?_
            refine lv_iconst (v := zI 2) C.1 C.2.1 dX5_multiplyOut_107 (by decide) ?_
            refine k_isub (v := zI (l2_9 - 2)) C (zI_isub _ _) dX5_multiplyOut_108 ?_
            obtain ⟨n109_1, hw⟩ := hw
            refine k_form (i := (l2_9 - 2)) C Wd n109_1 dX5_multiplyOut_109 ?_
            refine lv_iload C.1 C.2.1 dX5_multiplyOut_110 (lv_at hl 4 rfl) ?_
            refine k_cKv Wd (k_runVK (rest := []) C aks Wd cs_X5_105 (mk_B_addUp D ad ca rf σ9 Wd.2.1 Wd.2.2 (l2_9 - 1) (l2_9 - 2) r15 n101_0 n109_1 g_r15 _ hw l _) (cx25 _) rfl rfl rfl rfl ⟨(Nat.le_of_ble_eq_true rfl), (Nat.le_of_ble_eq_true rfl)⟩ hl.1 rfl rfl (Nat.le_of_ble_eq_true rfl) ⟨(Nat.le_of_ble_eq_true rfl), (Nat.le_of_ble_eq_true rfl)⟩ dX5_multiplyOut_112) (fun σr112 H locs hw Wd => ?_)
            have hS_σr112 := Wd.2.1
            refine lv_iinc (v := zI (l2_9 - 1)) (lv' := [(2, .int (zI (l2_9 - 1))), (0, .ref (ad 25)), (1, .ref (ad (rowC x0.toNat))), (3, .int (zI l3_9)), (4, .int (zI r15))]) C.1 C.2.1 dX5_multiplyOut_115 hl (k := 2) rfl (zI_dec _ _ (by decide)) (by decide) rfl (fun ls hl => ?_)
            replace hl := lv_sub hl [1, 2, 0, 3, 4] rfl
            refine lv_iinc (v := zI (l3_9 - 1)) (lv' := [(3, .int (zI (l3_9 - 1))), (0, .ref (ad 25)), (1, .ref (ad (rowC x0.toNat))), (2, .int (zI (l2_9 - 1))), (4, .int (zI r15))]) C.1 C.2.1 dX5_multiplyOut_118 hl (k := 3) rfl (zI_dec _ _ (by decide)) (by decide) rfl (fun ls hl => ?_)
            replace hl := lv_sub hl [1, 2, 3, 0, 4] rfl
            refine lv_goto (tgt := 9) C.1 C.2.1 dX5_multiplyOut_121 (by decide) ?_
            obtain ⟨g121_10, hw⟩ := hw
            obtain ⟨g121_11, hw⟩ := hw
            exact hL9 _ _ _ hw _ _ _ ⟨g121_10, g121_11, Wd, lv_sub hl [0, 1, 2, 3] rfl⟩
          · have hw := hw.2 (z_eq g_r15 (show rng 122 from by decide) c67)
            refine lv_aload_n C.1 C.2.1 dX5_multiplyOut_70 rfl (lv_at hl 0 rfl) ?_
            refine lv_aload_n C.1 C.2.1 dX5_multiplyOut_71 rfl (lv_at hl 0 rfl) ?_
            refine k_get (v := .ref (ad 30)) C Wd.1 KX5 _ 4 (cx25 _) (by decide) fl_X5_20 rfl dX5_multiplyOut_72 ?_
            refine lv_iload_n C.1 C.2.1 dX5_multiplyOut_75 rfl (lv_at hl 2 rfl) ?_
            refine lv_iconst (v := zI 1) C.1 C.2.1 dX5_multiplyOut_76 (by decide) ?_
            refine k_isub (v := zI (l2_9 - 1)) C (zI_isub _ _) dX5_multiplyOut_77 ?_
            obtain ⟨n78_0, hw⟩ := hw
            refine k_form (i := (l2_9 - 1)) C Wd n78_0 dX5_multiplyOut_78 ?_
            refine lv_aload_n C.1 C.2.1 dX5_multiplyOut_79 rfl (lv_at hl 0 rfl) ?_
            refine k_get (v := .ref (ad 30)) C Wd.1 KX5 _ 4 (cx25 _) (by decide) fl_X5_20 rfl dX5_multiplyOut_80 ?_
            refine lv_iload_n C.1 C.2.1 dX5_multiplyOut_83 rfl (lv_at hl 2 rfl) ?_
            refine lv_iconst (v := zI 2) C.1 C.2.1 dX5_multiplyOut_84 (by decide) ?_
            refine k_isub (v := zI (l2_9 - 2)) C (zI_isub _ _) dX5_multiplyOut_85 ?_
            obtain ⟨n86_1, hw⟩ := hw
            refine k_form (i := (l2_9 - 2)) C Wd n86_1 dX5_multiplyOut_86 ?_
            refine k_cKv Wd (k_runVK (rest := []) C aks Wd cs_X5_101 (mk_B_multiply D ad ca rf σ9 Wd.2.1 Wd.2.2 (l2_9 - 1) (l2_9 - 2) n78_0 n86_1 _ hw l _) (cx25 _) rfl rfl rfl rfl ⟨(Nat.le_of_ble_eq_true rfl), (Nat.le_of_ble_eq_true rfl)⟩ hl.1 rfl rfl (Nat.le_of_ble_eq_true rfl) ⟨(Nat.le_of_ble_eq_true rfl), (Nat.le_of_ble_eq_true rfl)⟩ dX5_multiplyOut_87) (fun σr87 H locs hw Wd => ?_)
            have hS_σr87 := Wd.2.1
            refine lv_goto (tgt := 115) C.1 C.2.1 dX5_multiplyOut_90 (by decide) ?_
            refine lv_iinc (v := zI (l2_9 - 1)) (lv' := [(2, .int (zI (l2_9 - 1))), (0, .ref (ad 25)), (1, .ref (ad (rowC x0.toNat))), (3, .int (zI l3_9)), (4, .int (zI r15))]) C.1 C.2.1 dX5_multiplyOut_115 hl (k := 2) rfl (zI_dec _ _ (by decide)) (by decide) rfl (fun ls hl => ?_)
            replace hl := lv_sub hl [1, 2, 0, 3, 4] rfl
            refine lv_iinc (v := zI (l3_9 - 1)) (lv' := [(3, .int (zI (l3_9 - 1))), (0, .ref (ad 25)), (1, .ref (ad (rowC x0.toNat))), (2, .int (zI (l2_9 - 1))), (4, .int (zI r15))]) C.1 C.2.1 dX5_multiplyOut_118 hl (k := 3) rfl (zI_dec _ _ (by decide)) (by decide) rfl (fun ls hl => ?_)
            replace hl := lv_sub hl [1, 2, 3, 0, 4] rfl
            refine lv_goto (tgt := 9) C.1 C.2.1 dX5_multiplyOut_121 (by decide) ?_
            obtain ⟨g121_12, hw⟩ := hw
            obtain ⟨g121_13, hw⟩ := hw
            exact hL9 _ _ _ hw _ _ _ ⟨g121_12, g121_13, Wd, lv_sub hl [0, 1, 2, 3] rfl⟩
    refine lv_if_ne (tgt := 52) C.1 C.2.1 dX5_multiplyOut_25 (by decide) (fun c25 => ?_) (fun c25 => ?_)
    · have hw := hw.1 (z0_ne g_r22 c25)
      exact J52  _ _ _ ⟨hw, Wd, lv_sub hl [0, 1, 2, 3, 4] rfl⟩
    · have hw := hw.2 (z0_eq g_r22 c25)
      refine lv_iload_n C.1 C.2.1 dX5_multiplyOut_28 rfl (lv_at hl 2 rfl) ?_
      refine lv_bipush (v := zI 20) C.1 C.2.1 dX5_multiplyOut_29 (by decide) ?_
      refine lv_icmp_ge (tgt := 52) C.1 C.2.1 dX5_multiplyOut_31 (by decide) (fun c31 => ?_) (fun c31 => ?_)
      · have hw := hw.1 (z_le (show rng 20 from by decide) g_l2_9 c31)
        exact J52  _ _ _ ⟨hw, Wd, lv_sub hl [0, 1, 2, 3, 4] rfl⟩
      · have hw := hw.2 (z_nle (show rng 20 from by decide) g_l2_9 c31)
        refine lv_aload_n C.1 C.2.1 dX5_multiplyOut_34 rfl (lv_at hl 0 rfl) ?_
        refine lv_aload_n C.1 C.2.1 dX5_multiplyOut_35 rfl (lv_at hl 0 rfl) ?_
        refine k_get (v := .ref (ad 30)) C Wd.1 KX5 _ 4 (cx25 _) (by decide) fl_X5_20 rfl dX5_multiplyOut_36 ?_
        refine lv_iload_n C.1 C.2.1 dX5_multiplyOut_39 rfl (lv_at hl 2 rfl) ?_
        obtain ⟨n40_0, hw⟩ := hw
        refine k_form (i := l2_9) C Wd n40_0 dX5_multiplyOut_40 ?_
        refine lv_iload C.1 C.2.1 dX5_multiplyOut_41 (lv_at hl 4 rfl) ?_
        refine k_cKv Wd (k_runVK (rest := []) C aks Wd cs_X5_97 (mk_B_beginForm D ad ca rf σ9 Wd.2.1 Wd.2.2 l2_9 r15 n40_0 g_r15 _ hw l _) (cx25 _) rfl rfl rfl rfl ⟨(Nat.le_of_ble_eq_true rfl), (Nat.le_of_ble_eq_true rfl)⟩ hl.1 rfl rfl (Nat.le_of_ble_eq_true rfl) ⟨(Nat.le_of_ble_eq_true rfl), (Nat.le_of_ble_eq_true rfl)⟩ dX5_multiplyOut_43) (fun σr43 H locs hw Wd => ?_)
        have hS_σr43 := Wd.2.1
        refine lv_iinc (v := zI (l2_9 + 1)) (lv' := [(2, .int (zI (l2_9 + 1))), (0, .ref (ad 25)), (1, .ref (ad (rowC x0.toNat))), (3, .int (zI l3_9)), (4, .int (zI r15))]) C.1 C.2.1 dX5_multiplyOut_46 hl (k := 2) rfl (zI_inc _ _ (by decide)) (by decide) rfl (fun ls hl => ?_)
        replace hl := lv_sub hl [1, 2, 0, 3, 4] rfl
        refine lv_goto (tgt := 118) C.1 C.2.1 dX5_multiplyOut_49 (by decide) ?_
        refine lv_iinc (v := zI (l3_9 - 1)) (lv' := [(3, .int (zI (l3_9 - 1))), (0, .ref (ad 25)), (1, .ref (ad (rowC x0.toNat))), (2, .int (zI (l2_9 + 1))), (4, .int (zI r15))]) C.1 C.2.1 dX5_multiplyOut_118 hl (k := 3) rfl (zI_dec _ _ (by decide)) (by decide) rfl (fun ls hl => ?_)
        replace hl := lv_sub hl [1, 2, 3, 0, 4] rfl
        refine lv_goto (tgt := 9) C.1 C.2.1 dX5_multiplyOut_121 (by decide) ?_
        obtain ⟨g121_14, hw⟩ := hw
        obtain ⟨g121_15, hw⟩ := hw
        exact hL9 _ _ _ hw _ _ _ ⟨g121_14, g121_15, Wd, lv_sub hl [0, 1, 2, 3] rfl⟩
set_option maxHeartbeats 4000000 in
set_option maxRecDepth 100000 in
theorem mk_B_compareForms : ∀ (D : va_G) (ad : Nat → Nat) (ca : Nat → ClassId) (rf : Nat → Nat → Option Nat) (σ : Sg) (hS : rngK σ) (hRF : RFok ad rf) (x0 : Int) (g_x0 : 0 ≤ x0 ∧ x0 < 12) (K : Int → Sg → Prop) (hw : wp5_B_compareForms σ x0 K) (l : Launch) (sz : Nat), Met l yX5_compareForms (Cond.code yX5_compareForms cX5_compareForms 3 (some .int) :: gG) { frames := 4, cells := 0, slots := 0, locals := 145 } (cPre D (tC ca) (wK ad ca rf σ) sz [.ref (ad 25), .ref (ad (ruleC x0.toNat))]) (va_Qi (fun (r : Int32) (u : Sg) => (∃ x : Int, r = zI x ∧ rng x ∧ K x u) ∧ rngK u) (fun u t => cB D (va_A (wK ad ca rf σ) sz) [] (wK ad ca rf u) t) (va_A (wK ad ca rf σ) sz)) 0 0 (va_A (wK ad ca rf σ) sz) := by
  intro D ad ca rf σ hS hRF x0 g_x0 K hw l sz
  refine Met.ofW (cc := cX5_compareForms) (maxL := 3) (ret := (some .int)) (by decide) rfl ?_
  intro p e s m args below meth c s₁ B hml hv
  obtain ⟨rfl, aks, rfl, Wd⟩ := k_enter hv
  have C : CallFix p m c cX5_compareForms 3 s _ gG RX5 := ⟨B.exec, B.bytes, hml, findClass_of_methodNamed B.named, fun w h => atoms_spec (ws := Cond.code yX5_compareForms cX5_compareForms 3 (some .int) :: gG) B.pre w (List.mem_cons_of_mem _ h)⟩
  have hr := B.returns
  have hlk := B.notSynchronized
  generalize va_A (wK ad ca rf σ) s.heap.size = A at Wd ⊢
  replace Wd : wXK D ad ca rf s σ s.heap A s.heap [] := ⟨Wd, hS, hRF⟩
  refine k_locals (Nat.le_of_ble_eq_true rfl) [(0, .ref (ad 25)), (1, .ref (ad (ruleC x0.toNat)))] rfl (fun ls hl => ?_)
  unfold wp5_B_compareForms at hw
  refine lv_aload_n C.1 C.2.1 dX5_compareForms_0 rfl (lv_at hl 0 rfl) ?_
  refine lv_aload_n C.1 C.2.1 dX5_compareForms_1 rfl (lv_at hl 1 rfl) ?_
  have nr2 : 0 ≤ (11 + 2 * x0) ∧ (11 + 2 * x0) < 35 := by omega
  refine k_get (v := .ref (ad (rowC (11 + 2 * x0).toNat))) C Wd.1 KX9 _ 0 (cxRule g_x0) (by decide) fl_X5_46 rfl dX5_compareForms_2 ?_
  refine k_cKi Wd (k_runVK (rest := []) C aks Wd cs_X5_66 (mk_B_hasForm D ad ca rf σ Wd.2.1 Wd.2.2 (11 + 2 * x0) nr2 _ hw l _) (cx25 _) rfl rfl rfl rfl ⟨(Nat.le_of_ble_eq_true rfl), (Nat.le_of_ble_eq_true rfl)⟩ hl.1 rfl rfl (Nat.le_of_ble_eq_true rfl) ⟨(Nat.le_of_ble_eq_true rfl), (Nat.le_of_ble_eq_true rfl)⟩ dX5_compareForms_5) (fun r5 σr5 H locs g_r5 hw Wd => ?_)
  have hS_σr5 := Wd.2.1
  refine lv_if_eq (tgt := 22) C.1 C.2.1 dX5_compareForms_8 (by decide) (fun c8 => ?_) (fun c8 => ?_)
  · have hw := hw.1 (z0_eq g_r5 c8)
    refine lv_iconst (v := zI (-1)) C.1 C.2.1 dX5_compareForms_22 (by decide) ?_
    exact k_retKi C hr hlk rfl Wd ⟨_, rfl, (show rng (-1) from by decide), hw⟩ dX5_compareForms_23
  · have hw := hw.2 (z0_ne g_r5 c8)
    refine lv_aload_n C.1 C.2.1 dX5_compareForms_11 rfl (lv_at hl 0 rfl) ?_
    refine lv_aload_n C.1 C.2.1 dX5_compareForms_12 rfl (lv_at hl 1 rfl) ?_
    have nr13 : 0 ≤ (12 + 2 * x0) ∧ (12 + 2 * x0) < 35 := by omega
    refine k_get (v := .ref (ad (rowC (12 + 2 * x0).toNat))) C Wd.1 KX9 _ 1 (cxRule g_x0) (by decide) fl_X5_54 rfl dX5_compareForms_13 ?_
    refine k_cKi Wd (k_runVK (rest := []) C aks Wd cs_X5_66 (mk_B_hasForm D ad ca rf σr5 Wd.2.1 Wd.2.2 (12 + 2 * x0) nr13 _ hw l _) (cx25 _) rfl rfl rfl rfl ⟨(Nat.le_of_ble_eq_true rfl), (Nat.le_of_ble_eq_true rfl)⟩ hl.1 rfl rfl (Nat.le_of_ble_eq_true rfl) ⟨(Nat.le_of_ble_eq_true rfl), (Nat.le_of_ble_eq_true rfl)⟩ dX5_compareForms_16) (fun r16 σr16 H locs g_r16 hw Wd => ?_)
    have hS_σr16 := Wd.2.1
    refine lv_if_ne (tgt := 24) C.1 C.2.1 dX5_compareForms_19 (by decide) (fun c19 => ?_) (fun c19 => ?_)
    · have hw := hw.1 (z0_ne g_r16 c19)
      refine lv_aload_n C.1 C.2.1 dX5_compareForms_24 rfl (lv_at hl 0 rfl) ?_
      refine lv_aload_n C.1 C.2.1 dX5_compareForms_25 rfl (lv_at hl 1 rfl) ?_
      refine k_get (v := .ref (ad (rowC (11 + 2 * x0).toNat))) C Wd.1 KX9 _ 0 (cxRule g_x0) (by decide) fl_X5_46 rfl dX5_compareForms_26 ?_
      refine k_cKv Wd (k_runVK (rest := []) C aks Wd cs_X5_70 (mk_B_multiplyOut D ad ca rf σr16 Wd.2.1 Wd.2.2 (11 + 2 * x0) nr2 _ hw l _) (cx25 _) rfl rfl rfl rfl ⟨(Nat.le_of_ble_eq_true rfl), (Nat.le_of_ble_eq_true rfl)⟩ hl.1 rfl rfl (Nat.le_of_ble_eq_true rfl) ⟨(Nat.le_of_ble_eq_true rfl), (Nat.le_of_ble_eq_true rfl)⟩ dX5_compareForms_29) (fun σr29 H locs hw Wd => ?_)
      have hS_σr29 := Wd.2.1
      refine lv_aload_n C.1 C.2.1 dX5_compareForms_32 rfl (lv_at hl 0 rfl) ?_
      refine k_get (v := .ref (ad 30)) C Wd.1 KX5 _ 4 (cx25 _) (by decide) fl_X5_20 rfl dX5_compareForms_33 ?_
      refine lv_iconst (v := zI 0) C.1 C.2.1 dX5_compareForms_36 (by decide) ?_
      refine k_form (i := 0) C Wd (show (0 : Int) ≤ 0 ∧ (0 : Int) < 20 from by decide) dX5_compareForms_37 ?_
      refine lv_iconst (v := zI 0) C.1 C.2.1 dX5_compareForms_38 (by decide) ?_
      refine lv_aload_n C.1 C.2.1 dX5_compareForms_39 rfl (lv_at hl 0 rfl) ?_
      refine k_get (v := .ref (ad 28)) C Wd.1 KX5 _ 5 (cx25 _) (by decide) fl_X5_23 rfl dX5_compareForms_40 ?_
      refine lv_iconst (v := zI 0) C.1 C.2.1 dX5_compareForms_43 (by decide) ?_
      refine lv_sipush (v := zI 512) C.1 C.2.1 dX5_compareForms_44 (zS (by decide) (by decide)) ?_
      obtain ⟨y47, hw⟩ := hw
      refine k_copyFS (sp := 0) (dp := 0) (n := 512) C hl.1 Wd mlac_X5_74 nat_ac sta_ac ini_sys 28 (by decide) (show (0 : Int) ≤ 0 ∧ (0 : Int) < 20 from by decide) (fun f => cx28a _ f) (tC_at (by decide) rfl) rfl rfl (by decide) y47 (Nat.le_of_ble_eq_true rfl) (Nat.le_of_ble_eq_true rfl) dX5_compareForms_47 (fun H locs Wd => ?_)
      refine lv_aload_n C.1 C.2.1 dX5_compareForms_50 rfl (lv_at hl 0 rfl) ?_
      refine lv_aload_n C.1 C.2.1 dX5_compareForms_51 rfl (lv_at hl 1 rfl) ?_
      refine k_get (v := .ref (ad (rowC (12 + 2 * x0).toNat))) C Wd.1 KX9 _ 1 (cxRule g_x0) (by decide) fl_X5_54 rfl dX5_compareForms_52 ?_
      refine k_cKv Wd (k_runVK (rest := []) C aks Wd cs_X5_70 (mk_B_multiplyOut D ad ca rf (pF σr29 28 (cpI (σr29.2.2.2 4 0) (σr29.2.1 28) 0 0 512)) Wd.2.1 Wd.2.2 (12 + 2 * x0) nr13 _ hw l _) (cx25 _) rfl rfl rfl rfl ⟨(Nat.le_of_ble_eq_true rfl), (Nat.le_of_ble_eq_true rfl)⟩ hl.1 rfl rfl (Nat.le_of_ble_eq_true rfl) ⟨(Nat.le_of_ble_eq_true rfl), (Nat.le_of_ble_eq_true rfl)⟩ dX5_compareForms_55) (fun σr55 H locs hw Wd => ?_)
      have hS_σr55 := Wd.2.1
      refine lv_iconst (v := zI 0) C.1 C.2.1 dX5_compareForms_58 (by decide) ?_
      refine lv_istore_n (lv' := [(2, .int (zI 0)), (0, .ref (ad 25)), (1, .ref (ad (ruleC x0.toNat)))]) C.1 C.2.1 dX5_compareForms_59 rfl hl (by decide) rfl (fun ls hl => ?_)
      replace hl := lv_sub hl [1, 2, 0] rfl
      refine k_lp1 hw (fun (l2_60 : Int) H locs ls => rng l2_60 ∧ wXK D ad ca rf s σr55 H A s.heap locs ∧ lv_has ls 3 [(0, .ref (ad 25)), (2, .int (zI l2_60))]) (fun (l2_60 : Int) ls => F0 m 60 ls []) (fun L60 hL60 l2_60 hw H locs ls hi => ?_) _ _ _ ⟨(show rng 0 from by decide), Wd, lv_sub hl [0, 2] rfl⟩
      obtain ⟨g_l2_60, Wd, hl⟩ := hi
      unfold wp5_B_compareForms_60 at hw
      refine lv_iload_n C.1 C.2.1 dX5_compareForms_60 rfl (lv_at hl 1 rfl) ?_
      refine lv_sipush (v := zI 512) C.1 C.2.1 dX5_compareForms_61 (zS (by decide) (by decide)) ?_
      refine lv_icmp_ge (tgt := 92) C.1 C.2.1 dX5_compareForms_64 (by decide) (fun c64 => ?_) (fun c64 => ?_)
      · have hw := hw.1 (z_le (show rng 512 from by decide) g_l2_60 c64)
        refine lv_iconst (v := zI 1) C.1 C.2.1 dX5_compareForms_92 (by decide) ?_
        exact k_retKi C hr hlk rfl Wd ⟨_, rfl, (show rng 1 from by decide), hw⟩ dX5_compareForms_93
      · have hw := hw.2 (z_nle (show rng 512 from by decide) g_l2_60 c64)
        refine lv_aload_n C.1 C.2.1 dX5_compareForms_67 rfl (lv_at hl 0 rfl) ?_
        refine k_get (v := .ref (ad 30)) C Wd.1 KX5 _ 4 (cx25 _) (by decide) fl_X5_20 rfl dX5_compareForms_68 ?_
        refine lv_iconst (v := zI 0) C.1 C.2.1 dX5_compareForms_71 (by decide) ?_
        refine k_form (i := 0) C Wd (show (0 : Int) ≤ 0 ∧ (0 : Int) < 20 from by decide) dX5_compareForms_72 ?_
        refine lv_iload_n C.1 C.2.1 dX5_compareForms_73 rfl (lv_at hl 1 rfl) ?_
        obtain ⟨n74_0, hw⟩ := hw
        refine k_ialdK (g := (σr55.2.2.2 4 0)) C Wd (cxForm (show (0 : Int) ≤ 0 ∧ (0 : Int) < 20 from by decide)) (tyForm (show (0 : Int) ≤ 0 ∧ (0 : Int) < 20 from by decide)) n74_0 (by decide) dX5_compareForms_74 ?_
        have ga74 : rng (σr55.2.2.2 4 0 l2_60) := rngL (rgZ (c := 4) Wd.2.1 (show (0 : Int) ≤ 0 ∧ (0 : Int) < 20 from by decide)) n74_0
        refine lv_aload_n C.1 C.2.1 dX5_compareForms_75 rfl (lv_at hl 0 rfl) ?_
        refine k_get (v := .ref (ad 28)) C Wd.1 KX5 _ 5 (cx25 _) (by decide) fl_X5_23 rfl dX5_compareForms_76 ?_
        refine lv_iload_n C.1 C.2.1 dX5_compareForms_79 rfl (lv_at hl 1 rfl) ?_
        refine k_ialdK (g := (σr55.2.1 28)) C Wd (cx28 _) (tC_at (by decide) rfl) n74_0 (by decide) dX5_compareForms_80 ?_
        have ga80 : rng (σr55.2.1 28 l2_60) := rngL (fun j => (Wd.2.1).2.1 28 j) n74_0
        refine lv_icmp_eq (tgt := 86) C.1 C.2.1 dX5_compareForms_81 (by decide) (fun c81 => ?_) (fun c81 => ?_)
        · have hw := hw.1 (z_eq ga74 ga80 c81)
          refine lv_iinc (v := zI (l2_60 + 1)) (lv' := [(2, .int (zI (l2_60 + 1))), (0, .ref (ad 25))]) C.1 C.2.1 dX5_compareForms_86 hl (k := 1) rfl (zI_inc _ _ (by decide)) (by decide) rfl (fun ls hl => ?_)
          replace hl := lv_sub hl [1, 0] rfl
          refine lv_goto (tgt := 60) C.1 C.2.1 dX5_compareForms_89 (by decide) ?_
          obtain ⟨g89_2, hw⟩ := hw
          exact hL60 _ hw _ _ _ ⟨g89_2, Wd, lv_sub hl [0, 1] rfl⟩
        · have hw := hw.2 (z_ne ga74 ga80 c81)
          refine lv_iconst (v := zI 0) C.1 C.2.1 dX5_compareForms_84 (by decide) ?_
          exact k_retKi C hr hlk rfl Wd ⟨_, rfl, (show rng 0 from by decide), hw⟩ dX5_compareForms_85
    · have hw := hw.2 (z0_eq g_r16 c19)
      refine lv_iconst (v := zI (-1)) C.1 C.2.1 dX5_compareForms_22 (by decide) ?_
      exact k_retKi C hr hlk rfl Wd ⟨_, rfl, (show rng (-1) from by decide), hw⟩ dX5_compareForms_23
