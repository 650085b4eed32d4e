set_option maxHeartbeats 4000000 in
set_option maxRecDepth 100000 in
theorem mk_S_ruleOf : ∀ (D : va_G) (ad : Nat → Nat) (ca : Nat → ClassId) (rf : Nat → Nat → Option Nat) (σ : Sg) (hS : rngK σ) (hRF : RFok ad rf) (x0 : Int) (x1 : Int) (g_x0 : rng x0) (g_x1 : rng x1) (K : Int → Sg → Prop) (hw : wp5_S_ruleOf σ x0 x1 K) (l : Launch) (sz : Nat), Met l yX11_ruleOf (Cond.code yX11_ruleOf cX11_ruleOf 4 (some .int) :: gG) { frames := 6, cells := 0, slots := 0, locals := 196 } (cPre D (tC ca) (wK ad ca rf σ) sz [.ref (ad 0), .int (zI x0), .int (zI x1)]) (va_Qi (fun (r : Int32) (u : Sg) => (∃ x : Int, r = zI x ∧ rng x ∧ K x u) ∧ rngK u) (fun u t => cB D (va_A (wK ad ca rf σ) sz) [] (wK ad ca rf u) t) (va_A (wK ad ca rf σ) sz)) 0 0 (va_A (wK ad ca rf σ) sz) := by
  intro D ad ca rf σ hS hRF x0 x1 g_x0 g_x1 K hw l sz
  refine Met.ofW (cc := cX11_ruleOf) (maxL := 4) (ret := (some .int)) (by decide) rfl ?_
  intro p e s m args below meth c s₁ B hml hv
  obtain ⟨rfl, aks, rfl, Wd⟩ := k_enter hv
  have C : CallFix p m c cX11_ruleOf 4 s _ gG RX11 := ⟨B.exec, B.bytes, hml, findClass_of_methodNamed B.named, fun w h => atoms_spec (ws := Cond.code yX11_ruleOf cX11_ruleOf 4 (some .int) :: gG) B.pre w (List.mem_cons_of_mem _ h)⟩
  have hr := B.returns
  have hlk := B.notSynchronized
  generalize va_A (wK ad ca rf σ) s.heap.size = A at Wd ⊢
  replace Wd : wXK D ad ca rf s σ s.heap A s.heap [] := ⟨Wd, hS, hRF⟩
  refine k_locals (Nat.le_of_ble_eq_true rfl) [(0, .ref (ad 0)), (1, .int (zI x0)), (2, .int (zI x1))] rfl (fun ls hl => ?_)
  unfold wp5_S_ruleOf at hw
  refine lv_aload_n C.1 C.2.1 dX11_ruleOf_0 rfl (lv_at hl 0 rfl) ?_
  refine lv_iload_n C.1 C.2.1 dX11_ruleOf_1 rfl (lv_at hl 1 rfl) ?_
  refine k_pq (k_runVK (rest := []) C aks Wd cs_X11_165 (mk_S_ruleAt D ad ca rf σ Wd.2.1 Wd.2.2 x0 g_x0 _ hw l _) (cx0 _) rfl rfl rfl rfl ⟨(Nat.le_of_ble_eq_true rfl), (Nat.le_of_ble_eq_true rfl)⟩ hl.1 rfl rfl (Nat.le_of_ble_eq_true rfl) ⟨(Nat.le_of_ble_eq_true rfl), (Nat.le_of_ble_eq_true rfl)⟩ dX11_ruleOf_2) (fun y2 hy => ?_)
  obtain ⟨r2, rfl, hw⟩ := hy
  by_cases c2 : r2 < 0
  · have hw := hw.1 c2
    rw [rfO_null c2]
    show W p l e _ s m _ below meth c _ _ _ _ _ (F0 m _ ls (.null :: []))
    refine lv_astore_nN (lv' := [(3, .null), (0, .ref (ad 0)), (1, .int (zI x0)), (2, .int (zI x1))]) C.1 C.2.1 dX11_ruleOf_5 rfl hl (by decide) rfl (fun ls hl => ?_)
    replace hl := lv_sub hl [1, 2, 3, 0] rfl
    refine lv_aload_nN C.1 C.2.1 dX11_ruleOf_6 rfl (lv_at hl 3 rfl) ?_
    refine lv_ifnonnullN C.1 C.2.1 dX11_ruleOf_7 ?_
    refine lv_bipush (v := zI (-2)) C.1 C.2.1 dX11_ruleOf_10 (by decide) ?_
    exact k_retKi C hr hlk rfl Wd ⟨_, rfl, (show rng (-2) from by decide), hw⟩ dX11_ruleOf_12
  · have hw := hw.2 (Int.not_lt.mp c2)
    rw [rfO_nn (Int.not_lt.mp c2)]
    obtain ⟨n2_0, hw⟩ := hw
    show W p l e _ s m _ below meth c _ _ _ _ _ (F0 m _ ls (.ref (ad (ruleC r2.toNat)) :: []))
    refine lv_astore_n (lv' := [(3, .ref (ad (ruleC r2.toNat))), (0, .ref (ad 0)), (1, .int (zI x0)), (2, .int (zI x1))]) C.1 C.2.1 dX11_ruleOf_5 rfl hl (by decide) rfl (fun ls hl => ?_)
    replace hl := lv_sub hl [1, 2, 3, 0] rfl
    refine lv_aload_n C.1 C.2.1 dX11_ruleOf_6 rfl (lv_at hl 3 rfl) ?_
    refine lv_ifnonnull (tgt := 13) C.1 C.2.1 dX11_ruleOf_7 (by decide) ?_
    refine lv_iload_n C.1 C.2.1 dX11_ruleOf_13 rfl (lv_at hl 2 rfl) ?_
    refine lv_iconst (v := zI 2) C.1 C.2.1 dX11_ruleOf_14 (by decide) ?_
    refine lv_icmp_ne (tgt := 27) C.1 C.2.1 dX11_ruleOf_15 (by decide) (fun c15 => ?_) (fun c15 => ?_)
    · have hw := hw.1 (z_ne g_x1 (show rng 2 from by decide) c15)
      refine lv_aload_n C.1 C.2.1 dX11_ruleOf_27 rfl (lv_at hl 0 rfl) ?_
      refine k_get (v := .ref (ad 25)) C Wd.1 KX11 _ 5 (cx0 _) (by decide) fl_X11_43 rfl dX11_ruleOf_28 ?_
      refine lv_aload_n C.1 C.2.1 dX11_ruleOf_31 rfl (lv_at hl 3 rfl) ?_
      refine k_cKv Wd (k_runVK (rest := []) C aks Wd cs_X11_170 (mk_B_tryAll D ad ca rf σ Wd.2.1 Wd.2.2 r2 n2_0 _ hw l _) (cx25 _) rfl rfl rfl rfl ⟨(Nat.le_of_ble_eq_true rfl), (Nat.le_of_ble_eq_true rfl)⟩ hl.1 rfl rfl (Nat.le_of_ble_eq_true rfl) ⟨(Nat.le_of_ble_eq_true rfl), (Nat.le_of_ble_eq_true rfl)⟩ dX11_ruleOf_32) (fun σr32 H locs hw Wd => ?_)
      have hS_σr32 := Wd.2.1
      refine lv_iload_n C.1 C.2.1 dX11_ruleOf_35 rfl (lv_at hl 2 rfl) ?_
      by_cases c36_0 : x1 = 0
      · have hw := hw.1 c36_0
        refine lv_tableIn (off := 32) (tgt := 68) C.1 C.2.1 dX11_ruleOf_36 (by rw [zI_toInt g_x1]; omega) (by rw [zI_toInt g_x1]; omega) (by rw [zI_toInt g_x1, c36_0]; rfl) (by decide) ?_
        refine lv_aload_n C.1 C.2.1 dX11_ruleOf_68 rfl (lv_at hl 0 rfl) ?_
        refine k_get (v := .ref (ad 25)) C Wd.1 KX11 _ 5 (cx0 _) (by decide) fl_X11_43 rfl dX11_ruleOf_69 ?_
        refine k_get (v := .int (zI (σr32.1 25 1))) C Wd.1 KX5 _ 1 (cx25 _) (by decide) fl_X11_173 rfl dX11_ruleOf_72 ?_
        refine lv_if_ne (tgt := 82) C.1 C.2.1 dX11_ruleOf_75 (by decide) (fun c75 => ?_) (fun c75 => ?_)
        · have hw := hw.1 (z0_ne (hS_σr32.1 25 1) c75)
          refine lv_iconst (v := zI 0) C.1 C.2.1 dX11_ruleOf_82 (by decide) ?_
          exact k_retKi C hr hlk rfl Wd ⟨_, rfl, (show rng 0 from by decide), hw⟩ dX11_ruleOf_83
        · have hw := hw.2 (z0_eq (hS_σr32.1 25 1) c75)
          refine lv_iconst (v := zI 1) C.1 C.2.1 dX11_ruleOf_78 (by decide) ?_
          refine lv_goto (tgt := 83) C.1 C.2.1 dX11_ruleOf_79 (by decide) ?_
          exact k_retKi C hr hlk rfl Wd ⟨_, rfl, (show rng 1 from by decide), hw⟩ dX11_ruleOf_83
      by_cases c36_1 : x1 = 1
      · have hw := hw.2.1 c36_1
        refine lv_tableIn (off := 48) (tgt := 84) C.1 C.2.1 dX11_ruleOf_36 (by rw [zI_toInt g_x1]; omega) (by rw [zI_toInt g_x1]; omega) (by rw [zI_toInt g_x1, c36_1]; rfl) (by decide) ?_
        refine lv_aload_n C.1 C.2.1 dX11_ruleOf_84 rfl (lv_at hl 0 rfl) ?_
        refine k_get (v := .ref (ad 25)) C Wd.1 KX11 _ 5 (cx0 _) (by decide) fl_X11_43 rfl dX11_ruleOf_85 ?_
        refine k_get (v := .int (zI (σr32.1 25 0))) C Wd.1 KX5 _ 0 (cx25 _) (by decide) fl_X11_176 rfl dX11_ruleOf_88 ?_
        exact k_retKi C hr hlk rfl Wd ⟨_, rfl, (hS_σr32.1 25 0), hw⟩ dX11_ruleOf_91
      by_cases c36_2 : x1 = 2
      · have hw := hw.2.2.1 c36_2
        refine lv_tableIn (off := 64) (tgt := 100) C.1 C.2.1 dX11_ruleOf_36 (by rw [zI_toInt g_x1]; omega) (by rw [zI_toInt g_x1]; omega) (by rw [zI_toInt g_x1, c36_2]; rfl) (by decide) ?_
        refine lv_bipush (v := zI (-2)) C.1 C.2.1 dX11_ruleOf_100 (by decide) ?_
        exact k_retKi C hr hlk rfl Wd ⟨_, rfl, (show rng (-2) from by decide), hw⟩ dX11_ruleOf_102
      by_cases c36_3 : x1 = 3
      · have hw := hw.2.2.2.1 c36_3
        refine lv_tableIn (off := 56) (tgt := 92) C.1 C.2.1 dX11_ruleOf_36 (by rw [zI_toInt g_x1]; omega) (by rw [zI_toInt g_x1]; omega) (by rw [zI_toInt g_x1, c36_3]; rfl) (by decide) ?_
        refine lv_aload_n C.1 C.2.1 dX11_ruleOf_92 rfl (lv_at hl 0 rfl) ?_
        refine k_get (v := .ref (ad 25)) C Wd.1 KX11 _ 5 (cx0 _) (by decide) fl_X11_43 rfl dX11_ruleOf_93 ?_
        refine k_get (v := .int (zI (σr32.1 25 1))) C Wd.1 KX5 _ 1 (cx25 _) (by decide) fl_X11_173 rfl dX11_ruleOf_96 ?_
        exact k_retKi C hr hlk rfl Wd ⟨_, rfl, (hS_σr32.1 25 1), hw⟩ dX11_ruleOf_99
      have hw := hw.2.2.2.2 (by omega)
      refine lv_tableOut (tgt := 100) C.1 C.2.1 dX11_ruleOf_36 (by rw [zI_toInt g_x1]; omega) (by decide) ?_
      refine lv_bipush (v := zI (-2)) C.1 C.2.1 dX11_ruleOf_100 (by decide) ?_
      exact k_retKi C hr hlk rfl Wd ⟨_, rfl, (show rng (-2) from by decide), hw⟩ dX11_ruleOf_102
    · have hw := hw.2 (z_eq g_x1 (show rng 2 from by decide) c15)
      refine lv_aload_n C.1 C.2.1 dX11_ruleOf_18 rfl (lv_at hl 0 rfl) ?_
      refine k_get (v := .ref (ad 25)) C Wd.1 KX11 _ 5 (cx0 _) (by decide) fl_X11_43 rfl dX11_ruleOf_19 ?_
      refine lv_aload_n C.1 C.2.1 dX11_ruleOf_22 rfl (lv_at hl 3 rfl) ?_
      refine k_cKi Wd (k_runVK (rest := []) C aks Wd cs_X11_166 (mk_B_compareForms D ad ca rf σ Wd.2.1 Wd.2.2 r2 n2_0 _ hw l _) (cx25 _) rfl rfl rfl rfl ⟨(Nat.le_of_ble_eq_true rfl), (Nat.le_of_ble_eq_true rfl)⟩ hl.1 rfl rfl (Nat.le_of_ble_eq_true rfl) ⟨(Nat.le_of_ble_eq_true rfl), (Nat.le_of_ble_eq_true rfl)⟩ dX11_ruleOf_23) (fun r23 σr23 H locs g_r23 hw Wd => ?_)
      have hS_σr23 := Wd.2.1
      exact k_retKi C hr hlk rfl Wd ⟨_, rfl, g_r23, hw⟩ dX11_ruleOf_26
