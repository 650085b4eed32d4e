set_option maxHeartbeats 4000000 in
set_option maxRecDepth 100000 in
theorem mk_S_cut : ∀ (D : va_G) (ad : Nat → Nat) (ca : Nat → ClassId) (rf : Nat → Nat → Option Nat) (σ : Sg) (hS : rngK σ) (hRF : RFok ad rf) (x0 : Int) (x1 : Int) (x2 : Int) (g_x0 : rng x0) (g_x1 : rng x1) (g_x2 : rng x2) (K : Int → Sg → Prop) (hw : wp5_S_cut σ x0 x1 x2 K) (l : Launch) (sz : Nat), Met l yX11_cut (Cond.code yX11_cut cX11_cut 6 (some .int) :: gG) { frames := 8, cells := 0, slots := 0, locals := 245 } (cPre D (tC ca) (wK ad ca rf σ) sz [.ref (ad 0), .int (zI x0), .int (zI x1), .int (zI x2)]) (va_Qi (fun (r : Int32) (u : Sg) => (∃ x : Int, r = zI x ∧ rng x ∧ K x u) ∧ rngK u) (fun u t => cB D (va_A (wK ad ca rf σ) sz) [] (wK ad ca rf u) t) (va_A (wK ad ca rf σ) sz)) 0 0 (va_A (wK ad ca rf σ) sz) := by
  intro D ad ca rf σ hS hRF x0 x1 x2 g_x0 g_x1 g_x2 K hw l sz
  refine Met.ofW (cc := cX11_cut) (maxL := 6) (ret := (some .int)) (by decide) rfl ?_
  intro p e s m args below meth c s₁ B hml hv
  obtain ⟨rfl, aks, rfl, Wd⟩ := k_enter hv
  have C : CallFix p m c cX11_cut 6 s _ gG RX11 := ⟨B.exec, B.bytes, hml, findClass_of_methodNamed B.named, fun w h => atoms_spec (ws := Cond.code yX11_cut cX11_cut 6 (some .int) :: gG) B.pre w (List.mem_cons_of_mem _ h)⟩
  have hr := B.returns
  have hlk := B.notSynchronized
  generalize va_A (wK ad ca rf σ) s.heap.size = A at Wd ⊢
  replace Wd : wXK D ad ca rf s σ s.heap A s.heap [] := ⟨Wd, hS, hRF⟩
  refine k_locals (Nat.le_of_ble_eq_true rfl) [(0, .ref (ad 0)), (1, .int (zI x0)), (2, .int (zI x1)), (3, .int (zI x2))] rfl (fun ls hl => ?_)
  unfold wp5_S_cut at hw
  refine lv_aload_n C.1 C.2.1 dX11_cut_0 rfl (lv_at hl 0 rfl) ?_
  refine lv_iload_n C.1 C.2.1 dX11_cut_1 rfl (lv_at hl 2 rfl) ?_
  refine k_pq (k_runVK (rest := []) C aks Wd cs_X11_77 (mk_S_slotAt D ad ca rf σ Wd.2.1 Wd.2.2 x1 g_x1 _ hw l _) (cx0 _) rfl rfl rfl rfl ⟨(Nat.le_of_ble_eq_true rfl), (Nat.le_of_ble_eq_true rfl)⟩ hl.1 rfl rfl (Nat.le_of_ble_eq_true rfl) ⟨(Nat.le_of_ble_eq_true rfl), (Nat.le_of_ble_eq_true rfl)⟩ dX11_cut_2) (fun y2 hy => ?_)
  obtain ⟨r2, rfl, hw⟩ := hy
  by_cases c2 : r2 < 0
  · have hw := hw.1 c2
    rw [rfO_null c2]
    show W p l e _ s m _ below meth c _ _ _ _ _ (F0 m _ ls (.null :: []))
    refine lv_astoreN (lv' := [(4, .null), (0, .ref (ad 0)), (1, .int (zI x0)), (2, .int (zI x1)), (3, .int (zI x2))]) C.1 C.2.1 dX11_cut_5 hl (by decide) rfl (fun ls hl => ?_)
    replace hl := lv_sub hl [1, 2, 3, 4, 0] rfl
    refine lv_aload_n C.1 C.2.1 dX11_cut_7 rfl (lv_at hl 0 rfl) ?_
    refine lv_iload_n C.1 C.2.1 dX11_cut_8 rfl (lv_at hl 3 rfl) ?_
    refine k_pq (k_runVK (rest := []) C aks Wd cs_X11_77 (mk_S_slotAt D ad ca rf σ Wd.2.1 Wd.2.2 x2 g_x2 _ hw l _) (cx0 _) rfl rfl rfl rfl ⟨(Nat.le_of_ble_eq_true rfl), (Nat.le_of_ble_eq_true rfl)⟩ hl.1 rfl rfl (Nat.le_of_ble_eq_true rfl) ⟨(Nat.le_of_ble_eq_true rfl), (Nat.le_of_ble_eq_true rfl)⟩ dX11_cut_9) (fun y9 hy => ?_)
    obtain ⟨r9, rfl, hw⟩ := hy
    by_cases c9 : r9 < 0
    · have hw := hw.1 c9
      rw [rfO_null c9]
      show W p l e _ s m _ below meth c _ _ _ _ _ (F0 m _ ls (.null :: []))
      refine lv_astoreN (lv' := [(5, .null), (0, .ref (ad 0)), (1, .int (zI x0)), (2, .int (zI x1)), (3, .int (zI x2)), (4, .null)]) C.1 C.2.1 dX11_cut_12 hl (by decide) rfl (fun ls hl => ?_)
      replace hl := lv_sub hl [1, 2, 3, 4, 5, 0] rfl
      refine lv_aloadN C.1 C.2.1 dX11_cut_14 (lv_at hl 4 rfl) ?_
      refine lv_ifnullN (tgt := 37) C.1 C.2.1 dX11_cut_16 (by decide) ?_
      refine lv_iconst (v := zI (-1)) C.1 C.2.1 dX11_cut_37 (by decide) ?_
      exact k_retKi C hr hlk rfl Wd ⟨_, rfl, (show rng (-1) from by decide), hw⟩ dX11_cut_38
    · have hw := hw.2 (Int.not_lt.mp c9)
      rw [rfO_nn (Int.not_lt.mp c9)]
      obtain ⟨n9_0, hw⟩ := hw
      show W p l e _ s m _ below meth c _ _ _ _ _ (F0 m _ ls (.ref (ad (rowC r9.toNat)) :: []))
      refine lv_astore (lv' := [(5, .ref (ad (rowC r9.toNat))), (0, .ref (ad 0)), (1, .int (zI x0)), (2, .int (zI x1)), (3, .int (zI x2)), (4, .null)]) C.1 C.2.1 dX11_cut_12 hl (by decide) rfl (fun ls hl => ?_)
      replace hl := lv_sub hl [1, 2, 3, 4, 5, 0] rfl
      refine lv_aloadN C.1 C.2.1 dX11_cut_14 (lv_at hl 4 rfl) ?_
      refine lv_ifnullN (tgt := 37) C.1 C.2.1 dX11_cut_16 (by decide) ?_
      refine lv_iconst (v := zI (-1)) C.1 C.2.1 dX11_cut_37 (by decide) ?_
      exact k_retKi C hr hlk rfl Wd ⟨_, rfl, (show rng (-1) from by decide), hw⟩ dX11_cut_38
  · have hw := hw.2 (Int.not_lt.mp c2)
    rw [rfO_nn (Int.not_lt.mp c2)]
    obtain ⟨n2_0, hw⟩ := hw
    show W p l e _ s m _ below meth c _ _ _ _ _ (F0 m _ ls (.ref (ad (rowC r2.toNat)) :: []))
    refine lv_astore (lv' := [(4, .ref (ad (rowC r2.toNat))), (0, .ref (ad 0)), (1, .int (zI x0)), (2, .int (zI x1)), (3, .int (zI x2))]) C.1 C.2.1 dX11_cut_5 hl (by decide) rfl (fun ls hl => ?_)
    replace hl := lv_sub hl [1, 2, 3, 4, 0] rfl
    refine lv_aload_n C.1 C.2.1 dX11_cut_7 rfl (lv_at hl 0 rfl) ?_
    refine lv_iload_n C.1 C.2.1 dX11_cut_8 rfl (lv_at hl 3 rfl) ?_
    refine k_pq (k_runVK (rest := []) C aks Wd cs_X11_77 (mk_S_slotAt D ad ca rf σ Wd.2.1 Wd.2.2 x2 g_x2 _ hw l _) (cx0 _) rfl rfl rfl rfl ⟨(Nat.le_of_ble_eq_true rfl), (Nat.le_of_ble_eq_true rfl)⟩ hl.1 rfl rfl (Nat.le_of_ble_eq_true rfl) ⟨(Nat.le_of_ble_eq_true rfl), (Nat.le_of_ble_eq_true rfl)⟩ dX11_cut_9) (fun y9 hy => ?_)
    obtain ⟨r9, rfl, hw⟩ := hy
    by_cases c9 : r9 < 0
    · have hw := hw.1 c9
      rw [rfO_null c9]
      show W p l e _ s m _ below meth c _ _ _ _ _ (F0 m _ ls (.null :: []))
      refine lv_astoreN (lv' := [(5, .null), (0, .ref (ad 0)), (1, .int (zI x0)), (2, .int (zI x1)), (3, .int (zI x2)), (4, .ref (ad (rowC r2.toNat)))]) C.1 C.2.1 dX11_cut_12 hl (by decide) rfl (fun ls hl => ?_)
      replace hl := lv_sub hl [1, 2, 3, 4, 5, 0] rfl
      refine lv_aload C.1 C.2.1 dX11_cut_14 (lv_at hl 4 rfl) ?_
      refine lv_ifnull C.1 C.2.1 dX11_cut_16 ?_
      refine lv_aloadN C.1 C.2.1 dX11_cut_19 (lv_at hl 5 rfl) ?_
      refine lv_ifnullN (tgt := 37) C.1 C.2.1 dX11_cut_21 (by decide) ?_
      refine lv_iconst (v := zI (-1)) C.1 C.2.1 dX11_cut_37 (by decide) ?_
      exact k_retKi C hr hlk rfl Wd ⟨_, rfl, (show rng (-1) from by decide), hw⟩ dX11_cut_38
    · have hw := hw.2 (Int.not_lt.mp c9)
      rw [rfO_nn (Int.not_lt.mp c9)]
      obtain ⟨n9_0, hw⟩ := hw
      show W p l e _ s m _ below meth c _ _ _ _ _ (F0 m _ ls (.ref (ad (rowC r9.toNat)) :: []))
      refine lv_astore (lv' := [(5, .ref (ad (rowC r9.toNat))), (0, .ref (ad 0)), (1, .int (zI x0)), (2, .int (zI x1)), (3, .int (zI x2)), (4, .ref (ad (rowC r2.toNat)))]) C.1 C.2.1 dX11_cut_12 hl (by decide) rfl (fun ls hl => ?_)
      replace hl := lv_sub hl [1, 2, 3, 4, 5, 0] rfl
      refine lv_aload C.1 C.2.1 dX11_cut_14 (lv_at hl 4 rfl) ?_
      refine lv_ifnull C.1 C.2.1 dX11_cut_16 ?_
      refine lv_aload C.1 C.2.1 dX11_cut_19 (lv_at hl 5 rfl) ?_
      refine lv_ifnull C.1 C.2.1 dX11_cut_21 ?_
      refine lv_aload_n C.1 C.2.1 dX11_cut_24 rfl (lv_at hl 0 rfl) ?_
      refine k_get (v := .ref (ad 31)) C Wd.1 KX11 _ 6 (cx0 _) (by decide) fl_X11_50 rfl dX11_cut_25 ?_
      refine lv_iload_n C.1 C.2.1 dX11_cut_28 rfl (lv_at hl 1 rfl) ?_
      refine lv_aload C.1 C.2.1 dX11_cut_29 (lv_at hl 4 rfl) ?_
      refine k_cKi Wd (k_runVK (rest := []) C aks Wd cs_X11_214 (mk_P_cutDown D ad ca rf σ Wd.2.1 Wd.2.2 x0 r2 g_x0 n2_0 _ hw l _) (cx31 _) rfl rfl rfl rfl ⟨(Nat.le_of_ble_eq_true rfl), (Nat.le_of_ble_eq_true rfl)⟩ hl.1 rfl rfl (Nat.le_of_ble_eq_true rfl) ⟨(Nat.le_of_ble_eq_true rfl), (Nat.le_of_ble_eq_true rfl)⟩ dX11_cut_31) (fun r31 σr31 H locs g_r31 hw Wd => ?_)
      have hS_σr31 := Wd.2.1
      refine lv_if_ne (tgt := 39) C.1 C.2.1 dX11_cut_34 (by decide) (fun c34 => ?_) (fun c34 => ?_)
      · have hw := hw.1 (z0_ne g_r31 c34)
        refine lv_aload C.1 C.2.1 dX11_cut_39 (lv_at hl 5 rfl) ?_
        refine lv_aload_n C.1 C.2.1 dX11_cut_41 rfl (lv_at hl 0 rfl) ?_
        refine k_get (v := .ref (ad 31)) C Wd.1 KX11 _ 6 (cx0 _) (by decide) fl_X11_50 rfl dX11_cut_42 ?_
        refine k_get (v := .ref (ad 113)) C Wd.1 KX4 _ 2 (cx31 _) (by decide) fl_X11_217 rfl dX11_cut_45 ?_
        refine k_cKv Wd (k_runVK (rest := []) C aks Wd cs_X11_92 (mk_W_copy D ad ca rf σr31 Wd.2.1 Wd.2.2 r9 6 n9_0 (show (0 : Int) ≤ 6 ∧ (6 : Int) < 35 from by decide) _ hw l _) (cxRow n9_0) rfl rfl rfl rfl ⟨(Nat.le_of_ble_eq_true rfl), (Nat.le_of_ble_eq_true rfl)⟩ hl.1 rfl rfl (Nat.le_of_ble_eq_true rfl) ⟨(Nat.le_of_ble_eq_true rfl), (Nat.le_of_ble_eq_true rfl)⟩ dX11_cut_48) (fun σr48 H locs hw Wd => ?_)
        have hS_σr48 := Wd.2.1
        refine lv_aload C.1 C.2.1 dX11_cut_51 (lv_at hl 5 rfl) ?_
        refine k_pi (k_runVK (rest := []) C aks Wd cs_X11_95 (mk_W_statements D ad ca rf σr48 Wd.2.1 Wd.2.2 r9 n9_0 _ hw l _) (cxRow n9_0) rfl rfl rfl rfl ⟨(Nat.le_of_ble_eq_true rfl), (Nat.le_of_ble_eq_true rfl)⟩ hl.1 rfl rfl (Nat.le_of_ble_eq_true rfl) ⟨(Nat.le_of_ble_eq_true rfl), (Nat.le_of_ble_eq_true rfl)⟩ dX11_cut_53) (fun y53 hy => ?_)
        obtain ⟨r53, rfl, g_r53, hw⟩ := hy
        exact k_retKi C hr hlk rfl Wd ⟨_, rfl, g_r53, hw⟩ dX11_cut_56
      · have hw := hw.2 (z0_eq g_r31 c34)
        refine lv_iconst (v := zI (-1)) C.1 C.2.1 dX11_cut_37 (by decide) ?_
        exact k_retKi C hr hlk rfl Wd ⟨_, rfl, (show rng (-1) from by decide), hw⟩ dX11_cut_38
set_option maxHeartbeats 4000000 in
set_option maxRecDepth 100000 in
theorem mk_F_begin_88 : ∀ (D : va_G) (ad : Nat → Nat) (ca : Nat → ClassId) (rf : Nat → Nat → Option Nat) (σ : Sg) (hS : rngK σ) (hRF : RFok ad rf) (x0 : Int) (x1 : Int) (g_x0 : rng x0) (g_x1 : rng x1) (K : Sg → Prop) (hw : wp5_F_begin σ 88 x0 x1 K) (l : Launch) (sz : Nat), Met l yX1_begin (Cond.code yX1_begin cX1_begin 3 none :: gG) { frames := 2, cells := 0, slots := 0, locals := 84 } (cPre D (tC ca) (wK ad ca rf σ) sz [.ref (ad 88), .int (zI x0), .int (zI x1)]) (va_Qv (fun (u : Sg) => K u ∧ rngK u) (fun u t => cB D (va_A (wK ad ca rf σ) sz) [] (wK ad ca rf u) t) (va_A (wK ad ca rf σ) sz)) 0 0 (va_A (wK ad ca rf σ) sz) := by
  intro D ad ca rf σ hS hRF x0 x1 g_x0 g_x1 K hw l sz
  refine Met.ofW (cc := cX1_begin) (maxL := 3) (ret := none) (by decide) rfl ?_
  intro p e s m args below meth c s₁ B hml hv
  obtain ⟨rfl, aks, rfl, Wd⟩ := k_enter hv
  have C : CallFix p m c cX1_begin 3 s _ gG RX1 := ⟨B.exec, B.bytes, hml, findClass_of_methodNamed B.named, fun w h => atoms_spec (ws := Cond.code yX1_begin cX1_begin 3 none :: gG) B.pre w (List.mem_cons_of_mem _ h)⟩
  have hr := B.returns
  have hlk := B.notSynchronized
  generalize va_A (wK ad ca rf σ) s.heap.size = A at Wd ⊢
  replace Wd : wXK D ad ca rf s σ s.heap A s.heap [] := ⟨Wd, hS, hRF⟩
  refine k_locals (Nat.le_of_ble_eq_true rfl) [(0, .ref (ad 88)), (1, .int (zI x0)), (2, .int (zI x1))] rfl (fun ls hl => ?_)
  unfold wp5_F_begin at hw
  refine lv_aload_n C.1 C.2.1 dX1_begin_0 rfl (lv_at hl 0 rfl) ?_
  refine k_get (v := .int (zI (σ.1 88 1))) C Wd.1 KX1 _ 1 (cx88 _) (by decide) fl_X1_57 rfl dX1_begin_1 ?_
  refine lv_bipush (v := zI 40) C.1 C.2.1 dX1_begin_4 (by decide) ?_
  refine lv_icmp_lt (tgt := 10) C.1 C.2.1 dX1_begin_6 (by decide) (fun c6 => ?_) (fun c6 => ?_)
  · have hw := hw.1 (z_lt (hS.1 88 1) (show rng 40 from by decide) c6)
    refine lv_aload_n C.1 C.2.1 dX1_begin_10 rfl (lv_at hl 0 rfl) ?_
    refine k_get (v := .ref (ad 89)) C Wd.1 KX1 _ 2 (cx88 _) (by decide) fl_X1_20 rfl dX1_begin_11 ?_
    refine lv_aload_n C.1 C.2.1 dX1_begin_14 rfl (lv_at hl 0 rfl) ?_
    refine k_get (v := .int (zI (σ.1 88 1))) C Wd.1 KX1 _ 1 (cx88 _) (by decide) fl_X1_57 rfl dX1_begin_15 ?_
    refine lv_iload_n C.1 C.2.1 dX1_begin_18 rfl (lv_at hl 1 rfl) ?_
    obtain ⟨n19_0, hw⟩ := hw
    refine k_iastF (g := (σ.2.1 89)) (i := (σ.1 88 1)) (v := x0) C Wd 89 (by decide) (cx89 _) (fun f => cx89a _ f) (tC_at (by decide) rfl) n19_0 (by decide) (ruZ (fun j => Wd.2.1.2.1 89 j) g_x0) dX1_begin_19 (fun H locs Wd => ?_)
    refine lv_aload_n C.1 C.2.1 dX1_begin_20 rfl (lv_at hl 0 rfl) ?_
    refine k_get (v := .ref (ad 90)) C Wd.1 KX1 _ 3 (cx88 _) (by decide) fl_X1_24 rfl dX1_begin_21 ?_
    refine lv_aload_n C.1 C.2.1 dX1_begin_24 rfl (lv_at hl 0 rfl) ?_
    refine k_get (v := .int (zI (σ.1 88 1))) C Wd.1 KX1 _ 1 (cx88 _) (by decide) fl_X1_57 rfl dX1_begin_25 ?_
    refine lv_iload_n C.1 C.2.1 dX1_begin_28 rfl (lv_at hl 2 rfl) ?_
    refine k_iastF (g := (σ.2.1 90)) (i := (σ.1 88 1)) (v := x1) C Wd 90 (by decide) (cx90 _) (fun f => cx90a _ f) (tC_at (by decide) rfl) n19_0 (by decide) (ruZ (fun j => Wd.2.1.2.1 90 j) g_x1) dX1_begin_29 (fun H locs Wd => ?_)
    refine lv_aload_n C.1 C.2.1 dX1_begin_30 rfl (lv_at hl 0 rfl) ?_
    refine k_get (v := .ref (ad 96)) C Wd.1 KX1 _ 9 (cx88 _) (by decide) fl_X1_42 rfl dX1_begin_31 ?_
    refine lv_aload_n C.1 C.2.1 dX1_begin_34 rfl (lv_at hl 0 rfl) ?_
    refine k_get (v := .int (zI (σ.1 88 1))) C Wd.1 KX1 _ 1 (cx88 _) (by decide) fl_X1_57 rfl dX1_begin_35 ?_
    refine lv_iload_n C.1 C.2.1 dX1_begin_38 rfl (lv_at hl 2 rfl) ?_
    refine k_pi (k_runS (rest := [.int (zI (σ.1 88 1)), .ref (ad 96)]) C aks Wd.1 cs_X1_100 (mk_W_isSet D x1 g_x1 _ hw l _) [] rfl (by decide) [] rfl rfl rfl ⟨(Nat.le_of_ble_eq_true rfl), (Nat.le_of_ble_eq_true rfl)⟩ hl.1 rfl rfl (Nat.le_of_ble_eq_true rfl) ⟨(Nat.le_of_ble_eq_true rfl), (Nat.le_of_ble_eq_true rfl)⟩ dX1_begin_39) (fun y39 hy => ?_)
    obtain ⟨r39, rfl, g_r39, hw⟩ := hy
    refine k_cut1 (fun (s0_55 : Int) H locs ls => rng s0_55 ∧ wp5_F_begin_55 K σ 88 x0 x1 s0_55 ∧ wXK D ad ca rf s (pF (pF σ 89 (uZ (σ.2.1 89) (σ.1 88 1) x0)) 90 (uZ (σ.2.1 90) (σ.1 88 1) x1)) H A s.heap locs ∧ lv_has ls 3 [(0, .ref (ad 88)), (1, .int (zI x0)), (2, .int (zI x1))]) (fun (s0_55 : Int) ls => F0 m 55 ls [.int (zI s0_55), .int (zI (σ.1 88 1)), .ref (ad 96)]) (fun s0_55 H locs ls hi => ?_) (fun J55 => ?_)
    · obtain ⟨g_s0_55, hw, Wd, hl⟩ := hi
      unfold wp5_F_begin_55 at hw
      refine k_iastF (g := (σ.2.1 96)) (i := (σ.1 88 1)) (v := s0_55) C Wd 96 (by decide) (cx96 _) (fun f => cx96a _ f) (tC_at (by decide) rfl) n19_0 (by decide) (ruZ (fun j => Wd.2.1.2.1 96 j) g_s0_55) dX1_begin_55 (fun H locs Wd => ?_)
      refine lv_aload_n C.1 C.2.1 dX1_begin_56 rfl (lv_at hl 0 rfl) ?_
      refine k_get (v := .ref (ad 91)) C Wd.1 KX1 _ 4 (cx88 _) (by decide) fl_X1_27 rfl dX1_begin_57 ?_
      refine lv_aload_n C.1 C.2.1 dX1_begin_60 rfl (lv_at hl 0 rfl) ?_
      refine k_get (v := .int (zI (σ.1 88 1))) C Wd.1 KX1 _ 1 (cx88 _) (by decide) fl_X1_57 rfl dX1_begin_61 ?_
      refine lv_iload_n C.1 C.2.1 dX1_begin_64 rfl (lv_at hl 2 rfl) ?_
      refine k_pi (k_runS (rest := [.int (zI (σ.1 88 1)), .ref (ad 91)]) C aks Wd.1 cs_X1_87 (mk_W_isBranch D x1 g_x1 _ hw l _) [] rfl (by decide) [] rfl rfl rfl ⟨(Nat.le_of_ble_eq_true rfl), (Nat.le_of_ble_eq_true rfl)⟩ hl.1 rfl rfl (Nat.le_of_ble_eq_true rfl) ⟨(Nat.le_of_ble_eq_true rfl), (Nat.le_of_ble_eq_true rfl)⟩ dX1_begin_65) (fun y65 hy => ?_)
      obtain ⟨r65, rfl, g_r65, hw⟩ := hy
      refine k_cut1 (fun (s0_80 : Int) H locs ls => rng s0_80 ∧ wp5_F_begin_80 K σ 88 x0 x1 s0_55 s0_80 ∧ wXK D ad ca rf s (pF (pF (pF σ 89 (uZ (σ.2.1 89) (σ.1 88 1) x0)) 90 (uZ (σ.2.1 90) (σ.1 88 1) x1)) 96 (uZ (σ.2.1 96) (σ.1 88 1) s0_55)) H A s.heap locs ∧ lv_has ls 3 [(0, .ref (ad 88))]) (fun (s0_80 : Int) ls => F0 m 80 ls [.int (zI s0_80), .int (zI (σ.1 88 1)), .ref (ad 91)]) (fun s0_80 H locs ls hi => ?_) (fun J80 => ?_)
      · obtain ⟨g_s0_80, hw, Wd, hl⟩ := hi
        unfold wp5_F_begin_80 at hw
        refine k_iastF (g := (σ.2.1 91)) (i := (σ.1 88 1)) (v := s0_80) C Wd 91 (by decide) (cx91 _) (fun f => cx91a _ f) (tC_at (by decide) rfl) n19_0 (by decide) (ruZ (fun j => Wd.2.1.2.1 91 j) g_s0_80) dX1_begin_80 (fun H locs Wd => ?_)
        refine lv_aload_n C.1 C.2.1 dX1_begin_81 rfl (lv_at hl 0 rfl) ?_
        refine k_get (v := .ref (ad 92)) C Wd.1 KX1 _ 5 (cx88 _) (by decide) fl_X1_30 rfl dX1_begin_82 ?_
        refine lv_aload_n C.1 C.2.1 dX1_begin_85 rfl (lv_at hl 0 rfl) ?_
        refine k_get (v := .int (zI (σ.1 88 1))) C Wd.1 KX1 _ 1 (cx88 _) (by decide) fl_X1_57 rfl dX1_begin_86 ?_
        refine lv_aload_n C.1 C.2.1 dX1_begin_89 rfl (lv_at hl 0 rfl) ?_
        refine k_get (v := .ref (ad 91)) C Wd.1 KX1 _ 4 (cx88 _) (by decide) fl_X1_27 rfl dX1_begin_90 ?_
        refine lv_aload_n C.1 C.2.1 dX1_begin_93 rfl (lv_at hl 0 rfl) ?_
        refine k_get (v := .int (zI (σ.1 88 1))) C Wd.1 KX1 _ 1 (cx88 _) (by decide) fl_X1_57 rfl dX1_begin_94 ?_
        refine k_ialdK (g := (uZ (σ.2.1 91) (σ.1 88 1) s0_80)) C Wd (cx91 _) (tC_at (by decide) rfl) n19_0 (by decide) dX1_begin_97 ?_
        have ga97 : rng ((uZ (σ.2.1 91) (σ.1 88 1) s0_80) (σ.1 88 1)) := rngL (fun j => (Wd.2.1).2.1 91 j) n19_0
        refine k_iastF (g := (σ.2.1 92)) (i := (σ.1 88 1)) (v := ((uZ (σ.2.1 91) (σ.1 88 1) s0_80) (σ.1 88 1))) C Wd 92 (by decide) (cx92 _) (fun f => cx92a _ f) (tC_at (by decide) rfl) n19_0 (by decide) (ruZ (fun j => Wd.2.1.2.1 92 j) ga97) dX1_begin_98 (fun H locs Wd => ?_)
        refine lv_aload_n C.1 C.2.1 dX1_begin_99 rfl (lv_at hl 0 rfl) ?_
        refine k_get (v := .ref (ad 95)) C Wd.1 KX1 _ 8 (cx88 _) (by decide) fl_X1_39 rfl dX1_begin_100 ?_
        refine lv_aload_n C.1 C.2.1 dX1_begin_103 rfl (lv_at hl 0 rfl) ?_
        refine k_get (v := .int (zI (σ.1 88 1))) C Wd.1 KX1 _ 1 (cx88 _) (by decide) fl_X1_57 rfl dX1_begin_104 ?_
        refine lv_iconst (v := zI 0) C.1 C.2.1 dX1_begin_107 (by decide) ?_
        refine k_iastF (g := (σ.2.1 95)) (i := (σ.1 88 1)) (v := 0) C Wd 95 (by decide) (cx95 _) (fun f => cx95a _ f) (tC_at (by decide) rfl) n19_0 (by decide) (ruZ (fun j => Wd.2.1.2.1 95 j) (show rng 0 from by decide)) dX1_begin_108 (fun H locs Wd => ?_)
        refine lv_aload_n C.1 C.2.1 dX1_begin_109 rfl (lv_at hl 0 rfl) ?_
        refine k_get (v := .ref (ad 93)) C Wd.1 KX1 _ 6 (cx88 _) (by decide) fl_X1_33 rfl dX1_begin_110 ?_
        refine lv_aload_n C.1 C.2.1 dX1_begin_113 rfl (lv_at hl 0 rfl) ?_
        refine k_get (v := .int (zI (σ.1 88 1))) C Wd.1 KX1 _ 1 (cx88 _) (by decide) fl_X1_57 rfl dX1_begin_114 ?_
        refine lv_iconst (v := zI (-1)) C.1 C.2.1 dX1_begin_117 (by decide) ?_
        refine k_iastF (g := (σ.2.1 93)) (i := (σ.1 88 1)) (v := (-1)) C Wd 93 (by decide) (cx93 _) (fun f => cx93a _ f) (tC_at (by decide) rfl) n19_0 (by decide) (ruZ (fun j => Wd.2.1.2.1 93 j) (show rng (-1) from by decide)) dX1_begin_118 (fun H locs Wd => ?_)
        refine lv_aload_n C.1 C.2.1 dX1_begin_119 rfl (lv_at hl 0 rfl) ?_
        refine k_get (v := .ref (ad 94)) C Wd.1 KX1 _ 7 (cx88 _) (by decide) fl_X1_36 rfl dX1_begin_120 ?_
        refine lv_aload_n C.1 C.2.1 dX1_begin_123 rfl (lv_at hl 0 rfl) ?_
        refine k_get (v := .int (zI (σ.1 88 1))) C Wd.1 KX1 _ 1 (cx88 _) (by decide) fl_X1_57 rfl dX1_begin_124 ?_
        refine lv_iconst (v := zI (-1)) C.1 C.2.1 dX1_begin_127 (by decide) ?_
        refine k_iastF (g := (σ.2.1 94)) (i := (σ.1 88 1)) (v := (-1)) C Wd 94 (by decide) (cx94 _) (fun f => cx94a _ f) (tC_at (by decide) rfl) n19_0 (by decide) (ruZ (fun j => Wd.2.1.2.1 94 j) (show rng (-1) from by decide)) dX1_begin_128 (fun H locs Wd => ?_)
        refine lv_aload_n C.1 C.2.1 dX1_begin_129 rfl (lv_at hl 0 rfl) ?_
        refine lv_dup C.1 C.2.1 dX1_begin_130 rfl ?_
        refine k_get (v := .int (zI (σ.1 88 1))) C Wd.1 KX1 _ 1 (cx88 _) (by decide) fl_X1_57 rfl dX1_begin_131 ?_
        refine lv_iconst (v := zI 1) C.1 C.2.1 dX1_begin_134 (by decide) ?_
        refine k_iadd (v := zI ((σ.1 88 1) + 1)) C (zI_iadd _ _) dX1_begin_135 ?_
        obtain ⟨g136_3, hw⟩ := hw
        refine k_putK (v := ((σ.1 88 1) + 1)) C Wd KX1 88 1 (by decide) (cx88 _) rfl (by decide) fl_X1_57 rfl rfl rfl (Nat.le_of_ble_eq_true rfl) g136_3 dX1_begin_136 (fun H locs Wd => ?_)
        exact k_retKv C hr hlk Wd hw dX1_begin_139
      refine lv_if_eq (tgt := 77) C.1 C.2.1 dX1_begin_68 (by decide) (fun c68 => ?_) (fun c68 => ?_)
      · have hw := hw.1 (z0_eq g_r65 c68)
        refine lv_iload_n C.1 C.2.1 dX1_begin_77 rfl (lv_at hl 1 rfl) ?_
        refine lv_iconst (v := zI 1) C.1 C.2.1 dX1_begin_78 (by decide) ?_
        refine k_iadd (v := zI (x0 + 1)) C (zI_iadd _ _) dX1_begin_79 ?_
        obtain ⟨g79_4, hw⟩ := hw
        exact J80 (x0 + 1) _ _ _ ⟨g79_4, hw, Wd, lv_sub hl [0] rfl⟩
      · have hw := hw.2 (z0_ne g_r65 c68)
        refine lv_iload_n C.1 C.2.1 dX1_begin_71 rfl (lv_at hl 1 rfl) ?_
        refine lv_iconst (v := zI 2) C.1 C.2.1 dX1_begin_72 (by decide) ?_
        refine k_iadd (v := zI (x0 + 2)) C (zI_iadd _ _) dX1_begin_73 ?_
        refine lv_goto (tgt := 80) C.1 C.2.1 dX1_begin_74 (by decide) ?_
        obtain ⟨g74_5, hw⟩ := hw
        exact J80 (x0 + 2) _ _ _ ⟨g74_5, hw, Wd, lv_sub hl [0] rfl⟩
    refine lv_if_eq (tgt := 54) C.1 C.2.1 dX1_begin_42 (by decide) (fun c42 => ?_) (fun c42 => ?_)
    · have hw := hw.1 (z0_eq g_r39 c42)
      refine lv_iconst (v := zI 0) C.1 C.2.1 dX1_begin_54 (by decide) ?_
      exact J55 0 _ _ _ ⟨(show rng 0 from by decide), hw, Wd, lv_sub hl [0, 1, 2] rfl⟩
    · have hw := hw.2 (z0_ne g_r39 c42)
      refine lv_iconst (v := zI 1) C.1 C.2.1 dX1_begin_45 (by decide) ?_
      refine lv_iload_n C.1 C.2.1 dX1_begin_46 rfl (lv_at hl 2 rfl) ?_
      refine lv_bipush (v := zI 100) C.1 C.2.1 dX1_begin_47 (by decide) ?_
      refine k_isub (v := zI (x1 - 100)) C (zI_isub _ _) dX1_begin_49 ?_
      refine k_ishl (v := zI (zishl 1 (x1 - 100))) C (zishl_eq _ _) dX1_begin_50 ?_
      refine lv_goto (tgt := 55) C.1 C.2.1 dX1_begin_51 (by decide) ?_
      exact J55 (zishl 1 (x1 - 100)) _ _ _ ⟨(rng_toInt _), hw, Wd, lv_sub hl [0, 1, 2] rfl⟩
  · have hw := hw.2 (z_nlt (hS.1 88 1) (show rng 40 from by decide) c6)
    exact k_retKv C hr hlk Wd hw dX1_begin_9
set_option maxHeartbeats 4000000 in
set_option maxRecDepth 100000 in
theorem mk_F_isHere_88 : ∀ (D : va_G) (ad : Nat → Nat) (ca : Nat → ClassId) (rf : Nat → Nat → Option Nat) (σ : Sg) (hS : rngK σ) (hRF : RFok ad rf) (x0 : Int) (g_x0 : rng x0) (K : Int → Prop) (hw : wp5_F_isHere σ 88 x0 K) (l : Launch) (sz : Nat), Met l yX1_isHere (Cond.code yX1_isHere cX1_isHere 2 (some .boolean) :: gG) { frames := 1, cells := 0, slots := 0, locals := 64 } (cPre D (tC ca) (wK ad ca rf σ) sz [.ref (ad 88), .int (zI x0)]) (vp_Si (fun r => ∃ x : Int, r = zI x ∧ rng x ∧ K x)) 0 0 (fun _ => False) := by
  intro D ad ca rf σ hS hRF x0 g_x0 K hw l sz
  refine Met.ofW (cc := cX1_isHere) (maxL := 2) (ret := (some .boolean)) (by decide) rfl ?_
  intro p e s m args below meth c s₁ B hml hv
  obtain ⟨rfl, aks, rfl, Wd⟩ := k_enter hv
  have C : CallFix p m c cX1_isHere 2 s _ gG RX1 := ⟨B.exec, B.bytes, hml, findClass_of_methodNamed B.named, fun w h => atoms_spec (ws := Cond.code yX1_isHere cX1_isHere 2 (some .boolean) :: gG) B.pre w (List.mem_cons_of_mem _ h)⟩
  have hr := B.returns
  have hlk := B.notSynchronized
  obtain ⟨A, Wd⟩ : ∃ A, wXK D ad ca rf s σ s.heap A s.heap [] := ⟨_, Wd, hS, hRF⟩
  refine k_locals (Nat.le_of_ble_eq_true rfl) [(0, .ref (ad 88)), (1, .int (zI x0))] rfl (fun ls hl => ?_)
  unfold wp5_F_isHere at hw
  refine lv_iload_n C.1 C.2.1 dX1_isHere_0 rfl (lv_at hl 1 rfl) ?_
  refine lv_if_lt (tgt := 22) C.1 C.2.1 dX1_isHere_1 (by decide) (fun c1 => ?_) (fun c1 => ?_)
  · have hw := hw.1 (z0_lt g_x0 c1)
    refine lv_iconst (v := zI 0) C.1 C.2.1 dX1_isHere_22 (by decide) ?_
    exact k_zretP C hr hlk (by decide) ⟨_, rfl, (show rng 0 from by decide), hw⟩ dX1_isHere_23
  · have hw := hw.2 (z0_nlt g_x0 c1)
    refine lv_iload_n C.1 C.2.1 dX1_isHere_4 rfl (lv_at hl 1 rfl) ?_
    refine lv_aload_n C.1 C.2.1 dX1_isHere_5 rfl (lv_at hl 0 rfl) ?_
    refine k_get (v := .int (zI (σ.1 88 1))) C Wd.1 KX1 _ 1 (cx88 _) (by decide) fl_X1_57 rfl dX1_isHere_6 ?_
    refine lv_icmp_ge (tgt := 22) C.1 C.2.1 dX1_isHere_9 (by decide) (fun c9 => ?_) (fun c9 => ?_)
    · have hw := hw.1 (z_le (hS.1 88 1) g_x0 c9)
      refine lv_iconst (v := zI 0) C.1 C.2.1 dX1_isHere_22 (by decide) ?_
      exact k_zretP C hr hlk (by decide) ⟨_, rfl, (show rng 0 from by decide), hw⟩ dX1_isHere_23
    · have hw := hw.2 (z_nle (hS.1 88 1) g_x0 c9)
      refine lv_iload_n C.1 C.2.1 dX1_isHere_12 rfl (lv_at hl 1 rfl) ?_
      refine lv_bipush (v := zI 40) C.1 C.2.1 dX1_isHere_13 (by decide) ?_
      refine lv_icmp_ge (tgt := 22) C.1 C.2.1 dX1_isHere_15 (by decide) (fun c15 => ?_) (fun c15 => ?_)
      · have hw := hw.1 (z_le (show rng 40 from by decide) g_x0 c15)
        refine lv_iconst (v := zI 0) C.1 C.2.1 dX1_isHere_22 (by decide) ?_
        exact k_zretP C hr hlk (by decide) ⟨_, rfl, (show rng 0 from by decide), hw⟩ dX1_isHere_23
      · have hw := hw.2 (z_nle (show rng 40 from by decide) g_x0 c15)
        refine lv_iconst (v := zI 1) C.1 C.2.1 dX1_isHere_18 (by decide) ?_
        refine lv_goto (tgt := 23) C.1 C.2.1 dX1_isHere_19 (by decide) ?_
        exact k_zretP C hr hlk (by decide) ⟨_, rfl, (show rng 1 from by decide), hw⟩ dX1_isHere_23
set_option maxHeartbeats 4000000 in
set_option maxRecDepth 100000 in
theorem mk_F_number_88 : ∀ (D : va_G) (ad : Nat → Nat) (ca : Nat → ClassId) (rf : Nat → Nat → Option Nat) (σ : Sg) (hS : rngK σ) (hRF : RFok ad rf) (K : Sg → Prop) (hw : wp5_F_number σ 88 K) (l : Launch) (sz : Nat), Met l yX1_number (Cond.code yX1_number cX1_number 4 none :: gG) { frames := 3, cells := 0, slots := 0, locals := 106 } (cPre D (tC ca) (wK ad ca rf σ) sz [.ref (ad 88)]) (va_Qv (fun (u : Sg) => K u ∧ rngK u) (fun u t => cB D (va_A (wK ad ca rf σ) sz) [] (wK ad ca rf u) t) (va_A (wK ad ca rf σ) sz)) 0 0 (va_A (wK ad ca rf σ) sz) := by
  intro D ad ca rf σ hS hRF  K hw l sz
  refine Met.ofW (cc := cX1_number) (maxL := 4) (ret := none) (by decide) rfl ?_
  intro p e s m args below meth c s₁ B hml hv
  obtain ⟨rfl, aks, rfl, Wd⟩ := k_enter hv
  have C : CallFix p m c cX1_number 4 s _ gG RX1 := ⟨B.exec, B.bytes, hml, findClass_of_methodNamed B.named, fun w h => atoms_spec (ws := Cond.code yX1_number cX1_number 4 none :: gG) B.pre w (List.mem_cons_of_mem _ h)⟩
  have hr := B.returns
  have hlk := B.notSynchronized
  generalize va_A (wK ad ca rf σ) s.heap.size = A at Wd ⊢
  replace Wd : wXK D ad ca rf s σ s.heap A s.heap [] := ⟨Wd, hS, hRF⟩
  refine k_locals (Nat.le_of_ble_eq_true rfl) [(0, .ref (ad 88))] rfl (fun ls hl => ?_)
  unfold wp5_F_number at hw
  refine lv_iconst (v := zI 0) C.1 C.2.1 dX1_number_0 (by decide) ?_
  refine lv_istore_n (lv' := [(1, .int (zI 0)), (0, .ref (ad 88))]) C.1 C.2.1 dX1_number_1 rfl hl (by decide) rfl (fun ls hl => ?_)
  replace hl := lv_sub hl [1, 0] rfl
  refine lv_aload_n C.1 C.2.1 dX1_number_2 rfl (lv_at hl 0 rfl) ?_
  refine lv_iconst (v := zI 0) C.1 C.2.1 dX1_number_3 (by decide) ?_
  refine k_putK (v := 0) C Wd KX1 88 1 (by decide) (cx88 _) rfl (by decide) fl_X1_57 rfl rfl rfl (Nat.le_of_ble_eq_true rfl) (show rng 0 from by decide) dX1_number_4 (fun H locs Wd => ?_)
  refine lv_iconst (v := zI 0) C.1 C.2.1 dX1_number_7 (by decide) ?_
  refine lv_istore_n (lv' := [(2, .int (zI 0)), (0, .ref (ad 88)), (1, .int (zI 0))]) C.1 C.2.1 dX1_number_8 rfl hl (by decide) rfl (fun ls hl => ?_)
  replace hl := lv_sub hl [1, 2, 0] rfl
  refine k_lp3 hw (fun (l1_9 : Int) (l2_9 : Int) (σ9 : Sg) H locs ls => rng l1_9 ∧ rng l2_9 ∧ wXK D ad ca rf s σ9 H A s.heap locs ∧ lv_has ls 4 [(0, .ref (ad 88)), (1, .int (zI l1_9)), (2, .int (zI l2_9))]) (fun (l1_9 : Int) (l2_9 : Int) (σ9 : Sg) ls => F0 m 9 ls []) (fun L9 hL9 l1_9 l2_9 σ9 hw H locs ls hi => ?_) _ _ _ ⟨(show rng 0 from by decide), (show rng 0 from by decide), Wd, lv_sub hl [0, 1, 2] rfl⟩
  obtain ⟨g_l1_9, g_l2_9, Wd, hl⟩ := hi
  have hS_σ9 := Wd.2.1
  unfold wp5_F_number_9 at hw
  refine lv_iload_n C.1 C.2.1 dX1_number_9 rfl (lv_at hl 2 rfl) ?_
  refine lv_aload_n C.1 C.2.1 dX1_number_10 rfl (lv_at hl 0 rfl) ?_
  obtain ⟨n11_0, hw⟩ := hw
  refine k_get (v := .ref (ad (rowC (σ9.1 88 0).toNat))) C Wd.1 KX1 _ 0 (cx88 _) (by decide) fl_X1_14 (congrArg some (rvW_ref n11_0)) dX1_number_11 ?_
  refine k_get (v := .int (zI (σ9.2.2.1 0 (σ9.1 88 0)))) C Wd.1 KX8 _ 1 (cxRow n11_0) (by decide) fl_X1_78 rfl dX1_number_14 ?_
  refine lv_icmp_ge (tgt := 235) C.1 C.2.1 dX1_number_17 (by decide) (fun c17 => ?_) (fun c17 => ?_)
  · have hw := hw.1 (z_le (rgY hS_σ9 (N := 35) n11_0) g_l2_9 c17)
    exact k_retKv C hr hlk Wd hw dX1_number_235
  · have hw := hw.2 (z_nle (rgY hS_σ9 (N := 35) n11_0) g_l2_9 c17)
    refine lv_iload_n C.1 C.2.1 dX1_number_20 rfl (lv_at hl 2 rfl) ?_
    refine lv_aload_n C.1 C.2.1 dX1_number_21 rfl (lv_at hl 0 rfl) ?_
    refine k_get (v := .ref (ad 100)) C Wd.1 KX1 _ 13 (cx88 _) (by decide) fl_X1_54 rfl dX1_number_22 ?_
    refine k_alen (v := zI 480) C Wd.1 100 100 (cx100 _) (tC_at (by decide) rfl) rfl dX1_number_25 ?_
    refine lv_icmp_ge (tgt := 235) C.1 C.2.1 dX1_number_26 (by decide) (fun c26 => ?_) (fun c26 => ?_)
    · have hw := hw.1 (z_le (show rng 480 from by decide) g_l2_9 c26)
      exact k_retKv C hr hlk Wd hw dX1_number_235
    · have hw := hw.2 (z_nle (show rng 480 from by decide) g_l2_9 c26)
      refine lv_aload_n C.1 C.2.1 dX1_number_29 rfl (lv_at hl 0 rfl) ?_
      refine k_get (v := .ref (ad (rowC (σ9.1 88 0).toNat))) C Wd.1 KX1 _ 0 (cx88 _) (by decide) fl_X1_14 (congrArg some (rvW_ref n11_0)) dX1_number_30 ?_
      refine lv_iload_n C.1 C.2.1 dX1_number_33 rfl (lv_at hl 2 rfl) ?_
      refine k_pi (k_runVK (rest := []) C aks Wd cs_X1_81 (mk_W_cell D ad ca rf σ9 Wd.2.1 Wd.2.2 (σ9.1 88 0) l2_9 n11_0 g_l2_9 _ hw l _) (cxRow n11_0) rfl rfl rfl rfl ⟨(Nat.le_of_ble_eq_true rfl), (Nat.le_of_ble_eq_true rfl)⟩ hl.1 rfl rfl (Nat.le_of_ble_eq_true rfl) ⟨(Nat.le_of_ble_eq_true rfl), (Nat.le_of_ble_eq_true rfl)⟩ dX1_number_34) (fun y34 hy => ?_)
      obtain ⟨r34, rfl, g_r34, hw⟩ := hy
      refine lv_istore_n (lv' := [(3, .int (zI r34)), (0, .ref (ad 88)), (1, .int (zI l1_9)), (2, .int (zI l2_9))]) C.1 C.2.1 dX1_number_37 rfl hl (by decide) rfl (fun ls hl => ?_)
      replace hl := lv_sub hl [1, 2, 3, 0] rfl
      refine lv_aload_n C.1 C.2.1 dX1_number_38 rfl (lv_at hl 0 rfl) ?_
      refine k_get (v := .ref (ad 100)) C Wd.1 KX1 _ 13 (cx88 _) (by decide) fl_X1_54 rfl dX1_number_39 ?_
      refine lv_iload_n C.1 C.2.1 dX1_number_42 rfl (lv_at hl 2 rfl) ?_
      refine lv_iconst (v := zI (-1)) C.1 C.2.1 dX1_number_43 (by decide) ?_
      obtain ⟨n44_0, hw⟩ := hw
      refine k_iastF (g := (σ9.2.1 100)) (i := l2_9) (v := (-1)) C Wd 100 (by decide) (cx100 _) (fun f => cx100a _ f) (tC_at (by decide) rfl) n44_0 (by decide) (ruZ (fun j => Wd.2.1.2.1 100 j) (show rng (-1) from by decide)) dX1_number_44 (fun H locs Wd => ?_)
      refine lv_iload_n C.1 C.2.1 dX1_number_45 rfl (lv_at hl 3 rfl) ?_
      refine k_pi (k_runS (rest := []) C aks Wd.1 cs_X1_84 (mk_W_isStatement D r34 g_r34 _ hw l _) [] rfl (by decide) [] rfl rfl rfl ⟨(Nat.le_of_ble_eq_true rfl), (Nat.le_of_ble_eq_true rfl)⟩ hl.1 rfl rfl (Nat.le_of_ble_eq_true rfl) ⟨(Nat.le_of_ble_eq_true rfl), (Nat.le_of_ble_eq_true rfl)⟩ dX1_number_46) (fun y46 hy => ?_)
      obtain ⟨r46, rfl, g_r46, hw⟩ := hy
      refine k_cut0 (fun H locs ls => wp5_F_number_109 88 l1_9 l2_9 r34 σ9 L9 ∧ wXK D ad ca rf s (pF σ9 100 (uZ (σ9.2.1 100) l2_9 (-1))) H A s.heap locs ∧ lv_has ls 4 [(0, .ref (ad 88)), (1, .int (zI l1_9)), (2, .int (zI l2_9)), (3, .int (zI r34))]) (fun  ls => F0 m 109 ls []) (fun  H locs ls hi => ?_) (fun J109 => ?_)
      · obtain ⟨hw, Wd, hl⟩ := hi
        unfold wp5_F_number_109 at hw
        refine lv_iload_n C.1 C.2.1 dX1_number_109 rfl (lv_at hl 3 rfl) ?_
        refine lv_bipush (v := zI 113) C.1 C.2.1 dX1_number_110 (by decide) ?_
        refine k_cut0 (fun H locs ls => wp5_F_number_136 88 l1_9 l2_9 r34 σ9 L9 ∧ wXK D ad ca rf s (pF σ9 100 (uZ (σ9.2.1 100) l2_9 (-1))) H A s.heap locs ∧ lv_has ls 4 [(0, .ref (ad 88)), (1, .int (zI l1_9)), (2, .int (zI l2_9)), (3, .int (zI r34))]) (fun  ls => F0 m 136 ls []) (fun  H locs ls hi => ?_) (fun J136 => ?_)
        · obtain ⟨hw, Wd, hl⟩ := hi
          unfold wp5_F_number_136 at hw
          refine lv_iload_n C.1 C.2.1 dX1_number_136 rfl (lv_at hl 3 rfl) ?_
          refine lv_bipush (v := zI 114) C.1 C.2.1 dX1_number_137 (by decide) ?_
          refine k_cut0 (fun H locs ls => wp5_F_number_164 88 l1_9 l2_9 r34 σ9 L9 ∧ wXK D ad ca rf s (pF σ9 100 (uZ (σ9.2.1 100) l2_9 (-1))) H A s.heap locs ∧ lv_has ls 4 [(0, .ref (ad 88)), (1, .int (zI l1_9)), (2, .int (zI l2_9)), (3, .int (zI r34))]) (fun  ls => F0 m 164 ls []) (fun  H locs ls hi => ?_) (fun J164 => ?_)
          · obtain ⟨hw, Wd, hl⟩ := hi
            unfold wp5_F_number_164 at hw
            refine lv_iload_n C.1 C.2.1 dX1_number_164 rfl (lv_at hl 3 rfl) ?_
            refine k_pi (k_runS (rest := []) C aks Wd.1 cs_X1_94 (mk_W_isExpression D r34 g_r34 _ hw l _) [] rfl (by decide) [] rfl rfl rfl ⟨(Nat.le_of_ble_eq_true rfl), (Nat.le_of_ble_eq_true rfl)⟩ hl.1 rfl rfl (Nat.le_of_ble_eq_true rfl) ⟨(Nat.le_of_ble_eq_true rfl), (Nat.le_of_ble_eq_true rfl)⟩ dX1_number_165) (fun y165 hy => ?_)
            obtain ⟨r165, rfl, g_r165, hw⟩ := hy
            refine lv_if_eq (tgt := 229) C.1 C.2.1 dX1_number_168 (by decide) (fun c168 => ?_) (fun c168 => ?_)
            · have hw := hw.1 (z0_eq g_r165 c168)
              refine lv_iinc (v := zI (l2_9 + 1)) (lv' := [(2, .int (zI (l2_9 + 1))), (0, .ref (ad 88)), (1, .int (zI l1_9)), (3, .int (zI r34))]) C.1 C.2.1 dX1_number_229 hl (k := 2) rfl (zI_inc _ _ (by decide)) (by decide) rfl (fun ls hl => ?_)
              replace hl := lv_sub hl [1, 2, 0, 3] rfl
              refine lv_goto (tgt := 9) C.1 C.2.1 dX1_number_232 (by decide) ?_
              obtain ⟨g232_13, hw⟩ := hw
              exact hL9 _ _ _ hw _ _ _ ⟨g_l1_9, g232_13, Wd, lv_sub hl [0, 1, 2] rfl⟩
            · have hw := hw.2 (z0_ne g_r165 c168)
              refine lv_aload_n C.1 C.2.1 dX1_number_171 rfl (lv_at hl 0 rfl) ?_
              refine lv_aload_n C.1 C.2.1 dX1_number_172 rfl (lv_at hl 0 rfl) ?_
              refine k_get (v := .int (zI (σ9.1 88 1))) C Wd.1 KX1 _ 1 (cx88 _) (by decide) fl_X1_57 rfl dX1_number_173 ?_
              refine lv_iconst (v := zI 1) C.1 C.2.1 dX1_number_176 (by decide) ?_
              refine k_isub (v := zI ((σ9.1 88 1) - 1)) C (zI_isub _ _) dX1_number_177 ?_
              obtain ⟨g178_14, hw⟩ := hw
              refine k_pi (k_runVK (rest := []) C aks Wd cs_X1_70 (mk_F_isHere_88 D ad ca rf (pF σ9 100 (uZ (σ9.2.1 100) l2_9 (-1))) Wd.2.1 Wd.2.2 ((σ9.1 88 1) - 1) g178_14 _ hw l _) (cx88 _) rfl rfl rfl rfl ⟨(Nat.le_of_ble_eq_true rfl), (Nat.le_of_ble_eq_true rfl)⟩ hl.1 rfl rfl (Nat.le_of_ble_eq_true rfl) ⟨(Nat.le_of_ble_eq_true rfl), (Nat.le_of_ble_eq_true rfl)⟩ dX1_number_178) (fun y178 hy => ?_)
              obtain ⟨r178, rfl, g_r178, hw⟩ := hy
              refine lv_if_eq (tgt := 229) C.1 C.2.1 dX1_number_181 (by decide) (fun c181 => ?_) (fun c181 => ?_)
              · have hw := hw.1 (z0_eq g_r178 c181)
                refine lv_iinc (v := zI (l2_9 + 1)) (lv' := [(2, .int (zI (l2_9 + 1))), (0, .ref (ad 88)), (1, .int (zI l1_9)), (3, .int (zI r34))]) C.1 C.2.1 dX1_number_229 hl (k := 2) rfl (zI_inc _ _ (by decide)) (by decide) rfl (fun ls hl => ?_)
                replace hl := lv_sub hl [1, 2, 0, 3] rfl
                refine lv_goto (tgt := 9) C.1 C.2.1 dX1_number_232 (by decide) ?_
                obtain ⟨g232_15, hw⟩ := hw
                exact hL9 _ _ _ hw _ _ _ ⟨g_l1_9, g232_15, Wd, lv_sub hl [0, 1, 2] rfl⟩
              · have hw := hw.2 (z0_ne g_r178 c181)
                refine lv_aload_n C.1 C.2.1 dX1_number_184 rfl (lv_at hl 0 rfl) ?_
                refine k_get (v := .ref (ad 92)) C Wd.1 KX1 _ 5 (cx88 _) (by decide) fl_X1_30 rfl dX1_number_185 ?_
                refine lv_aload_n C.1 C.2.1 dX1_number_188 rfl (lv_at hl 0 rfl) ?_
                refine k_get (v := .int (zI (σ9.1 88 1))) C Wd.1 KX1 _ 1 (cx88 _) (by decide) fl_X1_57 rfl dX1_number_189 ?_
                refine lv_iconst (v := zI 1) C.1 C.2.1 dX1_number_192 (by decide) ?_
                refine k_isub (v := zI ((σ9.1 88 1) - 1)) C (zI_isub _ _) dX1_number_193 ?_
                refine lv_iload_n C.1 C.2.1 dX1_number_194 rfl (lv_at hl 2 rfl) ?_
                refine lv_iconst (v := zI 1) C.1 C.2.1 dX1_number_195 (by decide) ?_
                refine k_iadd (v := zI (l2_9 + 1)) C (zI_iadd _ _) dX1_number_196 ?_
                obtain ⟨g197_16, hw⟩ := hw
                obtain ⟨n197_1, hw⟩ := hw
                refine k_iastF (g := (σ9.2.1 92)) (i := ((σ9.1 88 1) - 1)) (v := (l2_9 + 1)) C Wd 92 (by decide) (cx92 _) (fun f => cx92a _ f) (tC_at (by decide) rfl) n197_1 (by decide) (ruZ (fun j => Wd.2.1.2.1 92 j) g197_16) dX1_number_197 (fun H locs Wd => ?_)
                refine lv_aload_n C.1 C.2.1 dX1_number_198 rfl (lv_at hl 0 rfl) ?_
                refine k_get (v := .ref (ad 95)) C Wd.1 KX1 _ 8 (cx88 _) (by decide) fl_X1_39 rfl dX1_number_199 ?_
                refine lv_aload_n C.1 C.2.1 dX1_number_202 rfl (lv_at hl 0 rfl) ?_
                refine k_get (v := .int (zI (σ9.1 88 1))) C Wd.1 KX1 _ 1 (cx88 _) (by decide) fl_X1_57 rfl dX1_number_203 ?_
                refine lv_iconst (v := zI 1) C.1 C.2.1 dX1_number_206 (by decide) ?_
                refine k_isub (v := zI ((σ9.1 88 1) - 1)) C (zI_isub _ _) dX1_number_207 ?_
                refine lv_dup2_11 C.1 C.2.1 dX1_number_208 rfl rfl ?_
                refine k_ialdK (g := (σ9.2.1 95)) C Wd (cx95 _) (tC_at (by decide) rfl) n197_1 (by decide) dX1_number_209 ?_
                have ga209 : rng (σ9.2.1 95 ((σ9.1 88 1) - 1)) := rngL (fun j => (Wd.2.1).2.1 95 j) n197_1
                refine lv_iload_n C.1 C.2.1 dX1_number_210 rfl (lv_at hl 3 rfl) ?_
                refine k_pi (k_runS (rest := [.int (zI (σ9.2.1 95 ((σ9.1 88 1) - 1))), .int (zI ((σ9.1 88 1) - 1)), .ref (ad 95)]) C aks Wd.1 cs_X1_97 (mk_W_isRead D r34 g_r34 _ hw l _) [] rfl (by decide) [] rfl rfl rfl ⟨(Nat.le_of_ble_eq_true rfl), (Nat.le_of_ble_eq_true rfl)⟩ hl.1 rfl rfl (Nat.le_of_ble_eq_true rfl) ⟨(Nat.le_of_ble_eq_true rfl), (Nat.le_of_ble_eq_true rfl)⟩ dX1_number_211) (fun y211 hy => ?_)
                obtain ⟨r211, rfl, g_r211, hw⟩ := hy
                refine lv_if_eq (tgt := 226) C.1 C.2.1 dX1_number_214 (by decide) (fun c214 => ?_) (fun c214 => ?_)
                · have hw := hw.1 (z0_eq g_r211 c214)
                  refine lv_iconst (v := zI 0) C.1 C.2.1 dX1_number_226 (by decide) ?_
                  refine k_ior (v := zI (zior (σ9.2.1 95 ((σ9.1 88 1) - 1)) 0)) C (zior_eq _ _) dX1_number_227 ?_
                  refine k_iastF (g := (σ9.2.1 95)) (i := ((σ9.1 88 1) - 1)) (v := (zior (σ9.2.1 95 ((σ9.1 88 1) - 1)) 0)) C Wd 95 (by decide) (cx95 _) (fun f => cx95a _ f) (tC_at (by decide) rfl) n197_1 (by decide) (ruZ (fun j => Wd.2.1.2.1 95 j) (rng_toInt _)) dX1_number_228 (fun H locs Wd => ?_)
                  refine lv_iinc (v := zI (l2_9 + 1)) (lv' := [(2, .int (zI (l2_9 + 1))), (0, .ref (ad 88)), (1, .int (zI l1_9)), (3, .int (zI r34))]) C.1 C.2.1 dX1_number_229 hl (k := 2) rfl (zI_inc _ _ (by decide)) (by decide) rfl (fun ls hl => ?_)
                  replace hl := lv_sub hl [1, 2, 0, 3] rfl
                  refine lv_goto (tgt := 9) C.1 C.2.1 dX1_number_232 (by decide) ?_
                  exact hL9 _ _ _ hw _ _ _ ⟨g_l1_9, g197_16, Wd, lv_sub hl [0, 1, 2] rfl⟩
                · have hw := hw.2 (z0_ne g_r211 c214)
                  refine lv_iconst (v := zI 1) C.1 C.2.1 dX1_number_217 (by decide) ?_
                  refine lv_iload_n C.1 C.2.1 dX1_number_218 rfl (lv_at hl 3 rfl) ?_
                  refine lv_bipush (v := zI 20) C.1 C.2.1 dX1_number_219 (by decide) ?_
                  refine k_isub (v := zI (r34 - 20)) C (zI_isub _ _) dX1_number_221 ?_
                  refine k_ishl (v := zI (zishl 1 (r34 - 20))) C (zishl_eq _ _) dX1_number_222 ?_
                  refine lv_goto (tgt := 227) C.1 C.2.1 dX1_number_223 (by decide) ?_
                  refine k_ior (v := zI (zior (σ9.2.1 95 ((σ9.1 88 1) - 1)) (zishl 1 (r34 - 20)))) C (zior_eq _ _) dX1_number_227 ?_
                  refine k_iastF (g := (σ9.2.1 95)) (i := ((σ9.1 88 1) - 1)) (v := (zior (σ9.2.1 95 ((σ9.1 88 1) - 1)) (zishl 1 (r34 - 20)))) C Wd 95 (by decide) (cx95 _) (fun f => cx95a _ f) (tC_at (by decide) rfl) n197_1 (by decide) (ruZ (fun j => Wd.2.1.2.1 95 j) (rng_toInt _)) dX1_number_228 (fun H locs Wd => ?_)
                  refine lv_iinc (v := zI (l2_9 + 1)) (lv' := [(2, .int (zI (l2_9 + 1))), (0, .ref (ad 88)), (1, .int (zI l1_9)), (3, .int (zI r34))]) C.1 C.2.1 dX1_number_229 hl (k := 2) rfl (zI_inc _ _ (by decide)) (by decide) rfl (fun ls hl => ?_)
                  replace hl := lv_sub hl [1, 2, 0, 3] rfl
                  refine lv_goto (tgt := 9) C.1 C.2.1 dX1_number_232 (by decide) ?_
                  exact hL9 _ _ _ hw _ _ _ ⟨g_l1_9, g197_16, Wd, lv_sub hl [0, 1, 2] rfl⟩
          refine lv_icmp_ne (tgt := 164) C.1 C.2.1 dX1_number_139 (by decide) (fun c139 => ?_) (fun c139 => ?_)
          · have hw := hw.1 (z_ne g_r34 (show rng 114 from by decide) c139)
            exact J164  _ _ _ ⟨hw, Wd, lv_sub hl [0, 1, 2, 3] rfl⟩
          · have hw := hw.2 (z_eq g_r34 (show rng 114 from by decide) c139)
            refine lv_iload_n C.1 C.2.1 dX1_number_142 rfl (lv_at hl 1 rfl) ?_
            refine lv_if_le (tgt := 164) C.1 C.2.1 dX1_number_143 (by decide) (fun c143 => ?_) (fun c143 => ?_)
            · have hw := hw.1 (z0_le g_l1_9 c143)
              exact J164  _ _ _ ⟨hw, Wd, lv_sub hl [0, 1, 2, 3] rfl⟩
            · have hw := hw.2 (z0_nle g_l1_9 c143)
              refine lv_iinc (v := zI (l1_9 - 1)) (lv' := [(1, .int (zI (l1_9 - 1))), (0, .ref (ad 88)), (2, .int (zI l2_9)), (3, .int (zI r34))]) C.1 C.2.1 dX1_number_146 hl (k := 1) rfl (zI_dec _ _ (by decide)) (by decide) rfl (fun ls hl => ?_)
              replace hl := lv_sub hl [1, 0, 2, 3] rfl
              refine lv_aload_n C.1 C.2.1 dX1_number_149 rfl (lv_at hl 0 rfl) ?_
              refine k_get (v := .ref (ad 100)) C Wd.1 KX1 _ 13 (cx88 _) (by decide) fl_X1_54 rfl dX1_number_150 ?_
              refine lv_iload_n C.1 C.2.1 dX1_number_153 rfl (lv_at hl 2 rfl) ?_
              refine lv_aload_n C.1 C.2.1 dX1_number_154 rfl (lv_at hl 0 rfl) ?_
              refine k_get (v := .ref (ad 99)) C Wd.1 KX1 _ 12 (cx88 _) (by decide) fl_X1_51 rfl dX1_number_155 ?_
              refine lv_iload_n C.1 C.2.1 dX1_number_158 rfl (lv_at hl 1 rfl) ?_
              obtain ⟨n159_0, hw⟩ := hw
              refine k_ialdK (g := (σ9.2.1 99)) C Wd (cx99 _) (tC_at (by decide) rfl) n159_0 (by decide) dX1_number_159 ?_
              have ga159 : rng (σ9.2.1 99 (l1_9 - 1)) := rngL (fun j => (Wd.2.1).2.1 99 j) n159_0
              refine k_iastF (g := (uZ (σ9.2.1 100) l2_9 (-1))) (i := l2_9) (v := (σ9.2.1 99 (l1_9 - 1))) C Wd 100 (by decide) (cx100 _) (fun f => cx100a _ f) (tC_at (by decide) rfl) n44_0 (by decide) (ruZ (fun j => Wd.2.1.2.1 100 j) ga159) dX1_number_160 (fun H locs Wd => ?_)
              refine lv_goto (tgt := 229) C.1 C.2.1 dX1_number_161 (by decide) ?_
              refine lv_iinc (v := zI (l2_9 + 1)) (lv' := [(2, .int (zI (l2_9 + 1))), (0, .ref (ad 88)), (1, .int (zI (l1_9 - 1))), (3, .int (zI r34))]) C.1 C.2.1 dX1_number_229 hl (k := 2) rfl (zI_inc _ _ (by decide)) (by decide) rfl (fun ls hl => ?_)
              replace hl := lv_sub hl [1, 2, 0, 3] rfl
              refine lv_goto (tgt := 9) C.1 C.2.1 dX1_number_232 (by decide) ?_
              obtain ⟨g232_17, hw⟩ := hw
              obtain ⟨g232_18, hw⟩ := hw
              exact hL9 _ _ _ hw _ _ _ ⟨g232_17, g232_18, Wd, lv_sub hl [0, 1, 2] rfl⟩
        refine lv_icmp_ne (tgt := 136) C.1 C.2.1 dX1_number_112 (by decide) (fun c112 => ?_) (fun c112 => ?_)
        · have hw := hw.1 (z_ne g_r34 (show rng 113 from by decide) c112)
          exact J136  _ _ _ ⟨hw, Wd, lv_sub hl [0, 1, 2, 3] rfl⟩
        · have hw := hw.2 (z_eq g_r34 (show rng 113 from by decide) c112)
          refine lv_iload_n C.1 C.2.1 dX1_number_115 rfl (lv_at hl 1 rfl) ?_
          refine lv_if_le (tgt := 136) C.1 C.2.1 dX1_number_116 (by decide) (fun c116 => ?_) (fun c116 => ?_)
          · have hw := hw.1 (z0_le g_l1_9 c116)
            exact J136  _ _ _ ⟨hw, Wd, lv_sub hl [0, 1, 2, 3] rfl⟩
          · have hw := hw.2 (z0_nle g_l1_9 c116)
            refine lv_aload_n C.1 C.2.1 dX1_number_119 rfl (lv_at hl 0 rfl) ?_
            refine k_get (v := .ref (ad 100)) C Wd.1 KX1 _ 13 (cx88 _) (by decide) fl_X1_54 rfl dX1_number_120 ?_
            refine lv_iload_n C.1 C.2.1 dX1_number_123 rfl (lv_at hl 2 rfl) ?_
            refine lv_aload_n C.1 C.2.1 dX1_number_124 rfl (lv_at hl 0 rfl) ?_
            refine k_get (v := .ref (ad 99)) C Wd.1 KX1 _ 12 (cx88 _) (by decide) fl_X1_51 rfl dX1_number_125 ?_
            refine lv_iload_n C.1 C.2.1 dX1_number_128 rfl (lv_at hl 1 rfl) ?_
            refine lv_iconst (v := zI 1) C.1 C.2.1 dX1_number_129 (by decide) ?_
            refine k_isub (v := zI (l1_9 - 1)) C (zI_isub _ _) dX1_number_130 ?_
            obtain ⟨n131_0, hw⟩ := hw
            refine k_ialdK (g := (σ9.2.1 99)) C Wd (cx99 _) (tC_at (by decide) rfl) n131_0 (by decide) dX1_number_131 ?_
            have ga131 : rng (σ9.2.1 99 (l1_9 - 1)) := rngL (fun j => (Wd.2.1).2.1 99 j) n131_0
            refine k_iastF (g := (uZ (σ9.2.1 100) l2_9 (-1))) (i := l2_9) (v := (σ9.2.1 99 (l1_9 - 1))) C Wd 100 (by decide) (cx100 _) (fun f => cx100a _ f) (tC_at (by decide) rfl) n44_0 (by decide) (ruZ (fun j => Wd.2.1.2.1 100 j) ga131) dX1_number_132 (fun H locs Wd => ?_)
            refine lv_goto (tgt := 229) C.1 C.2.1 dX1_number_133 (by decide) ?_
            refine lv_iinc (v := zI (l2_9 + 1)) (lv' := [(2, .int (zI (l2_9 + 1))), (0, .ref (ad 88)), (1, .int (zI l1_9)), (3, .int (zI r34))]) C.1 C.2.1 dX1_number_229 hl (k := 2) rfl (zI_inc _ _ (by decide)) (by decide) rfl (fun ls hl => ?_)
            replace hl := lv_sub hl [1, 2, 0, 3] rfl
            refine lv_goto (tgt := 9) C.1 C.2.1 dX1_number_232 (by decide) ?_
            obtain ⟨g232_19, hw⟩ := hw
            exact hL9 _ _ _ hw _ _ _ ⟨g_l1_9, g232_19, Wd, lv_sub hl [0, 1, 2] rfl⟩
      refine lv_if_eq (tgt := 109) C.1 C.2.1 dX1_number_49 (by decide) (fun c49 => ?_) (fun c49 => ?_)
      · have hw := hw.1 (z0_eq g_r46 c49)
        exact J109  _ _ _ ⟨hw, Wd, lv_sub hl [0, 1, 2, 3] rfl⟩
      · have hw := hw.2 (z0_ne g_r46 c49)
        refine lv_aload_n C.1 C.2.1 dX1_number_52 rfl (lv_at hl 0 rfl) ?_
        refine k_get (v := .int (zI (σ9.1 88 1))) C Wd.1 KX1 _ 1 (cx88 _) (by decide) fl_X1_57 rfl dX1_number_53 ?_
        refine lv_bipush (v := zI 40) C.1 C.2.1 dX1_number_56 (by decide) ?_
        refine lv_icmp_ge (tgt := 109) C.1 C.2.1 dX1_number_58 (by decide) (fun c58 => ?_) (fun c58 => ?_)
        · have hw := hw.1 (z_le (show rng 40 from by decide) (hS_σ9.1 88 1) c58)
          exact J109  _ _ _ ⟨hw, Wd, lv_sub hl [0, 1, 2, 3] rfl⟩
        · have hw := hw.2 (z_nle (show rng 40 from by decide) (hS_σ9.1 88 1) c58)
          refine lv_aload_n C.1 C.2.1 dX1_number_61 rfl (lv_at hl 0 rfl) ?_
          refine k_get (v := .ref (ad 100)) C Wd.1 KX1 _ 13 (cx88 _) (by decide) fl_X1_54 rfl dX1_number_62 ?_
          refine lv_iload_n C.1 C.2.1 dX1_number_65 rfl (lv_at hl 2 rfl) ?_
          refine lv_aload_n C.1 C.2.1 dX1_number_66 rfl (lv_at hl 0 rfl) ?_
          refine k_get (v := .int (zI (σ9.1 88 1))) C Wd.1 KX1 _ 1 (cx88 _) (by decide) fl_X1_57 rfl dX1_number_67 ?_
          refine k_iastF (g := (uZ (σ9.2.1 100) l2_9 (-1))) (i := l2_9) (v := (σ9.1 88 1)) C Wd 100 (by decide) (cx100 _) (fun f => cx100a _ f) (tC_at (by decide) rfl) n44_0 (by decide) (ruZ (fun j => Wd.2.1.2.1 100 j) (hS_σ9.1 88 1)) dX1_number_70 (fun H locs Wd => ?_)
          refine lv_iload_n C.1 C.2.1 dX1_number_71 rfl (lv_at hl 3 rfl) ?_
          refine k_pi (k_runS (rest := []) C aks Wd.1 cs_X1_87 (mk_W_isBranch D r34 g_r34 _ hw l _) [] rfl (by decide) [] rfl rfl rfl ⟨(Nat.le_of_ble_eq_true rfl), (Nat.le_of_ble_eq_true rfl)⟩ hl.1 rfl rfl (Nat.le_of_ble_eq_true rfl) ⟨(Nat.le_of_ble_eq_true rfl), (Nat.le_of_ble_eq_true rfl)⟩ dX1_number_72) (fun y72 hy => ?_)
          obtain ⟨r72, rfl, g_r72, hw⟩ := hy
          refine k_cut2 (fun (l1_100 : Int) (σ100 : Sg) H locs ls => rng l1_100 ∧ wp5_F_number_100 88 l2_9 r34 L9 l1_100 σ100 ∧ wXK D ad ca rf s σ100 H A s.heap locs ∧ lv_has ls 4 [(0, .ref (ad 88)), (1, .int (zI l1_100)), (2, .int (zI l2_9)), (3, .int (zI r34))]) (fun (l1_100 : Int) (σ100 : Sg) ls => F0 m 100 ls []) (fun l1_100 σ100 H locs ls hi => ?_) (fun J100 => ?_)
          · obtain ⟨g_l1_100, hw, Wd, hl⟩ := hi
            have hS_σ100 := Wd.2.1
            unfold wp5_F_number_100 at hw
            refine lv_aload_n C.1 C.2.1 dX1_number_100 rfl (lv_at hl 0 rfl) ?_
            refine lv_iload_n C.1 C.2.1 dX1_number_101 rfl (lv_at hl 2 rfl) ?_
            refine lv_iload_n C.1 C.2.1 dX1_number_102 rfl (lv_at hl 3 rfl) ?_
            refine k_cKv Wd (k_runVK (rest := []) C aks Wd cs_X1_90 (mk_F_begin_88 D ad ca rf σ100 Wd.2.1 Wd.2.2 l2_9 r34 g_l2_9 g_r34 _ hw l _) (cx88 _) rfl rfl rfl rfl ⟨(Nat.le_of_ble_eq_true rfl), (Nat.le_of_ble_eq_true rfl)⟩ hl.1 rfl rfl (Nat.le_of_ble_eq_true rfl) ⟨(Nat.le_of_ble_eq_true rfl), (Nat.le_of_ble_eq_true rfl)⟩ dX1_number_103) (fun σr103 H locs hw Wd => ?_)
            have hS_σr103 := Wd.2.1
            refine lv_goto (tgt := 229) C.1 C.2.1 dX1_number_106 (by decide) ?_
            refine lv_iinc (v := zI (l2_9 + 1)) (lv' := [(2, .int (zI (l2_9 + 1))), (0, .ref (ad 88)), (1, .int (zI l1_100)), (3, .int (zI r34))]) C.1 C.2.1 dX1_number_229 hl (k := 2) rfl (zI_inc _ _ (by decide)) (by decide) rfl (fun ls hl => ?_)
            replace hl := lv_sub hl [1, 2, 0, 3] rfl
            refine lv_goto (tgt := 9) C.1 C.2.1 dX1_number_232 (by decide) ?_
            obtain ⟨g232_20, hw⟩ := hw
            exact hL9 _ _ _ hw _ _ _ ⟨g_l1_100, g232_20, Wd, lv_sub hl [0, 1, 2] rfl⟩
          refine lv_if_eq (tgt := 100) C.1 C.2.1 dX1_number_75 (by decide) (fun c75 => ?_) (fun c75 => ?_)
          · have hw := hw.1 (z0_eq g_r72 c75)
            exact J100 l1_9 (pF (pF σ9 100 (uZ (σ9.2.1 100) l2_9 (-1))) 100 (uZ (uZ (σ9.2.1 100) l2_9 (-1)) l2_9 (σ9.1 88 1))) _ _ _ ⟨g_l1_9, hw, Wd, lv_sub hl [0, 1, 2, 3] rfl⟩
          · have hw := hw.2 (z0_ne g_r72 c75)
            refine lv_iload_n C.1 C.2.1 dX1_number_78 rfl (lv_at hl 1 rfl) ?_
            refine lv_aload_n C.1 C.2.1 dX1_number_79 rfl (lv_at hl 0 rfl) ?_
            refine k_get (v := .ref (ad 99)) C Wd.1 KX1 _ 12 (cx88 _) (by decide) fl_X1_51 rfl dX1_number_80 ?_
            refine k_alen (v := zI 40) C Wd.1 99 99 (cx99 _) (tC_at (by decide) rfl) rfl dX1_number_83 ?_
            refine lv_icmp_ge (tgt := 100) C.1 C.2.1 dX1_number_84 (by decide) (fun c84 => ?_) (fun c84 => ?_)
            · have hw := hw.1 (z_le (show rng 40 from by decide) g_l1_9 c84)
              exact J100 l1_9 (pF (pF σ9 100 (uZ (σ9.2.1 100) l2_9 (-1))) 100 (uZ (uZ (σ9.2.1 100) l2_9 (-1)) l2_9 (σ9.1 88 1))) _ _ _ ⟨g_l1_9, hw, Wd, lv_sub hl [0, 1, 2, 3] rfl⟩
            · have hw := hw.2 (z_nle (show rng 40 from by decide) g_l1_9 c84)
              refine lv_aload_n C.1 C.2.1 dX1_number_87 rfl (lv_at hl 0 rfl) ?_
              refine k_get (v := .ref (ad 99)) C Wd.1 KX1 _ 12 (cx88 _) (by decide) fl_X1_51 rfl dX1_number_88 ?_
              refine lv_iload_n C.1 C.2.1 dX1_number_91 rfl (lv_at hl 1 rfl) ?_
              refine lv_aload_n C.1 C.2.1 dX1_number_92 rfl (lv_at hl 0 rfl) ?_
              refine k_get (v := .int (zI (σ9.1 88 1))) C Wd.1 KX1 _ 1 (cx88 _) (by decide) fl_X1_57 rfl dX1_number_93 ?_
              obtain ⟨n96_0, hw⟩ := hw
              refine k_iastF (g := (σ9.2.1 99)) (i := l1_9) (v := (σ9.1 88 1)) C Wd 99 (by decide) (cx99 _) (fun f => cx99a _ f) (tC_at (by decide) rfl) n96_0 (by decide) (ruZ (fun j => Wd.2.1.2.1 99 j) (hS_σ9.1 88 1)) dX1_number_96 (fun H locs Wd => ?_)
              refine lv_iinc (v := zI (l1_9 + 1)) (lv' := [(1, .int (zI (l1_9 + 1))), (0, .ref (ad 88)), (2, .int (zI l2_9)), (3, .int (zI r34))]) C.1 C.2.1 dX1_number_97 hl (k := 1) rfl (zI_inc _ _ (by decide)) (by decide) rfl (fun ls hl => ?_)
              replace hl := lv_sub hl [1, 0, 2, 3] rfl
              obtain ⟨g97_21, hw⟩ := hw
              exact J100 (l1_9 + 1) (pF (pF (pF σ9 100 (uZ (σ9.2.1 100) l2_9 (-1))) 100 (uZ (uZ (σ9.2.1 100) l2_9 (-1)) l2_9 (σ9.1 88 1))) 99 (uZ (σ9.2.1 99) l1_9 (σ9.1 88 1))) _ _ _ ⟨g97_21, hw, Wd, lv_sub hl [0, 1, 2, 3] rfl⟩
set_option maxHeartbeats 4000000 in
set_option maxRecDepth 100000 in
theorem mk_F_linkAt_88 : ∀ (D : va_G) (ad : Nat → Nat) (ca : Nat → ClassId) (rf : Nat → Nat → Option Nat) (σ : Sg) (hS : rngK σ) (hRF : RFok ad rf) (x0 : Int) (x1 : Int) (x2 : Int) (g_x0 : rng x0) (g_x1 : rng x1) (g_x2 : rng x2) (K : Int → Sg → Prop) (hw : wp5_F_linkAt σ 88 x0 x1 x2 K) (l : Launch) (sz : Nat), Met l yX1_linkAt (Cond.code yX1_linkAt cX1_linkAt 4 (some .int) :: gG) { frames := 2, cells := 0, slots := 0, locals := 85 } (cPre D (tC ca) (wK ad ca rf σ) sz [.ref (ad 88), .int (zI x0), .int (zI x1), .int (zI x2)]) (va_Qi (fun (r : Int32) (u : Sg) => (∃ x : Int, r = zI x ∧ rng x ∧ K x u) ∧ rngK u) (fun u t => cB D (va_A (wK ad ca rf σ) sz) [] (wK ad ca rf u) t) (va_A (wK ad ca rf σ) sz)) 0 0 (va_A (wK ad ca rf σ) sz) := by
  intro D ad ca rf σ hS hRF x0 x1 x2 g_x0 g_x1 g_x2 K hw l sz
  refine Met.ofW (cc := cX1_linkAt) (maxL := 4) (ret := (some .int)) (by decide) rfl ?_
  intro p e s m args below meth c s₁ B hml hv
  obtain ⟨rfl, aks, rfl, Wd⟩ := k_enter hv
  have C : CallFix p m c cX1_linkAt 4 s _ gG RX1 := ⟨B.exec, B.bytes, hml, findClass_of_methodNamed B.named, fun w h => atoms_spec (ws := Cond.code yX1_linkAt cX1_linkAt 4 (some .int) :: gG) B.pre w (List.mem_cons_of_mem _ h)⟩
  have hr := B.returns
  have hlk := B.notSynchronized
  generalize va_A (wK ad ca rf σ) s.heap.size = A at Wd ⊢
  replace Wd : wXK D ad ca rf s σ s.heap A s.heap [] := ⟨Wd, hS, hRF⟩
  refine k_locals (Nat.le_of_ble_eq_true rfl) [(0, .ref (ad 88)), (1, .int (zI x0)), (2, .int (zI x1)), (3, .int (zI x2))] rfl (fun ls hl => ?_)
  unfold wp5_F_linkAt at hw
  refine lv_aload_n C.1 C.2.1 dX1_linkAt_0 rfl (lv_at hl 0 rfl) ?_
  refine lv_iload_n C.1 C.2.1 dX1_linkAt_1 rfl (lv_at hl 2 rfl) ?_
  refine k_pi (k_runVK (rest := []) C aks Wd cs_X1_70 (mk_F_isHere_88 D ad ca rf σ Wd.2.1 Wd.2.2 x1 g_x1 _ hw l _) (cx88 _) rfl rfl rfl rfl ⟨(Nat.le_of_ble_eq_true rfl), (Nat.le_of_ble_eq_true rfl)⟩ hl.1 rfl rfl (Nat.le_of_ble_eq_true rfl) ⟨(Nat.le_of_ble_eq_true rfl), (Nat.le_of_ble_eq_true rfl)⟩ dX1_linkAt_2) (fun y2 hy => ?_)
  obtain ⟨r2, rfl, g_r2, hw⟩ := hy
  refine lv_if_ne (tgt := 10) C.1 C.2.1 dX1_linkAt_5 (by decide) (fun c5 => ?_) (fun c5 => ?_)
  · have hw := hw.1 (z0_ne g_r2 c5)
    refine lv_iload_n C.1 C.2.1 dX1_linkAt_10 rfl (lv_at hl 1 rfl) ?_
    refine lv_bipush (v := zI 114) C.1 C.2.1 dX1_linkAt_11 (by decide) ?_
    refine lv_icmp_ne (tgt := 40) C.1 C.2.1 dX1_linkAt_13 (by decide) (fun c13 => ?_) (fun c13 => ?_)
    · have hw := hw.1 (z_ne g_x0 (show rng 114 from by decide) c13)
      refine lv_iload_n C.1 C.2.1 dX1_linkAt_40 rfl (lv_at hl 1 rfl) ?_
      refine lv_bipush (v := zI 113) C.1 C.2.1 dX1_linkAt_41 (by decide) ?_
      refine lv_icmp_ne (tgt := 60) C.1 C.2.1 dX1_linkAt_43 (by decide) (fun c43 => ?_) (fun c43 => ?_)
      · have hw := hw.1 (z_ne g_x0 (show rng 113 from by decide) c43)
        refine lv_iload_n C.1 C.2.1 dX1_linkAt_60 rfl (lv_at hl 1 rfl) ?_
        refine lv_bipush (v := zI 111) C.1 C.2.1 dX1_linkAt_61 (by decide) ?_
        refine k_cut1 (fun (σ73 : Sg) H locs ls => wp5_F_linkAt_73 K 88 x0 x1 σ73 ∧ wXK D ad ca rf s σ73 H A s.heap locs ∧ lv_has ls 4 [(0, .ref (ad 88)), (1, .int (zI x0)), (2, .int (zI x1))]) (fun (σ73 : Sg) ls => F0 m 73 ls []) (fun σ73 H locs ls hi => ?_) (fun J73 => ?_)
        · obtain ⟨hw, Wd, hl⟩ := hi
          have hS_σ73 := Wd.2.1
          unfold wp5_F_linkAt_73 at hw
          refine lv_iload_n C.1 C.2.1 dX1_linkAt_73 rfl (lv_at hl 1 rfl) ?_
          refine lv_bipush (v := zI 115) C.1 C.2.1 dX1_linkAt_74 (by decide) ?_
          refine lv_icmp_ne (tgt := 91) C.1 C.2.1 dX1_linkAt_76 (by decide) (fun c76 => ?_) (fun c76 => ?_)
          · have hw := hw.1 (z_ne g_x0 (show rng 115 from by decide) c76)
            refine lv_iload_n C.1 C.2.1 dX1_linkAt_91 rfl (lv_at hl 2 rfl) ?_
            exact k_retKi C hr hlk rfl Wd ⟨_, rfl, g_x1, hw⟩ dX1_linkAt_92
          · have hw := hw.2 (z_eq g_x0 (show rng 115 from by decide) c76)
            refine lv_aload_n C.1 C.2.1 dX1_linkAt_79 rfl (lv_at hl 0 rfl) ?_
            refine k_get (v := .ref (ad 94)) C Wd.1 KX1 _ 7 (cx88 _) (by decide) fl_X1_36 rfl dX1_linkAt_80 ?_
            refine lv_iload_n C.1 C.2.1 dX1_linkAt_83 rfl (lv_at hl 2 rfl) ?_
            refine lv_aload_n C.1 C.2.1 dX1_linkAt_84 rfl (lv_at hl 0 rfl) ?_
            refine k_get (v := .ref (ad 98)) C Wd.1 KX1 _ 11 (cx88 _) (by decide) fl_X1_48 rfl dX1_linkAt_85 ?_
            refine lv_iload_n C.1 C.2.1 dX1_linkAt_88 rfl (lv_at hl 2 rfl) ?_
            obtain ⟨n89_0, hw⟩ := hw
            refine k_ialdK (g := (σ73.2.1 98)) C Wd (cx98 _) (tC_at (by decide) rfl) n89_0 (by decide) dX1_linkAt_89 ?_
            have ga89 : rng (σ73.2.1 98 x1) := rngL (fun j => (Wd.2.1).2.1 98 j) n89_0
            refine k_iastF (g := (σ73.2.1 94)) (i := x1) (v := (σ73.2.1 98 x1)) C Wd 94 (by decide) (cx94 _) (fun f => cx94a _ f) (tC_at (by decide) rfl) n89_0 (by decide) (ruZ (fun j => Wd.2.1.2.1 94 j) ga89) dX1_linkAt_90 (fun H locs Wd => ?_)
            refine lv_iload_n C.1 C.2.1 dX1_linkAt_91 rfl (lv_at hl 2 rfl) ?_
            exact k_retKi C hr hlk rfl Wd ⟨_, rfl, g_x1, hw⟩ dX1_linkAt_92
        refine lv_icmp_eq (tgt := 73) C.1 C.2.1 dX1_linkAt_63 (by decide) (fun c63 => ?_) (fun c63 => ?_)
        · have hw := hw.1 (z_eq g_x0 (show rng 111 from by decide) c63)
          exact J73 σ _ _ _ ⟨hw, Wd, lv_sub hl [0, 1, 2] rfl⟩
        · have hw := hw.2 (z_ne g_x0 (show rng 111 from by decide) c63)
          refine lv_aload_n C.1 C.2.1 dX1_linkAt_66 rfl (lv_at hl 0 rfl) ?_
          refine k_get (v := .ref (ad 93)) C Wd.1 KX1 _ 6 (cx88 _) (by decide) fl_X1_33 rfl dX1_linkAt_67 ?_
          refine lv_iload_n C.1 C.2.1 dX1_linkAt_70 rfl (lv_at hl 2 rfl) ?_
          refine lv_iload_n C.1 C.2.1 dX1_linkAt_71 rfl (lv_at hl 3 rfl) ?_
          obtain ⟨n72_0, hw⟩ := hw
          refine k_iastF (g := (σ.2.1 93)) (i := x1) (v := x2) C Wd 93 (by decide) (cx93 _) (fun f => cx93a _ f) (tC_at (by decide) rfl) n72_0 (by decide) (ruZ (fun j => Wd.2.1.2.1 93 j) g_x2) dX1_linkAt_72 (fun H locs Wd => ?_)
          exact J73 (pF σ 93 (uZ (σ.2.1 93) x1 x2)) _ _ _ ⟨hw, Wd, lv_sub hl [0, 1, 2] rfl⟩
      · have hw := hw.2 (z_eq g_x0 (show rng 113 from by decide) c43)
        refine lv_aload_n C.1 C.2.1 dX1_linkAt_46 rfl (lv_at hl 0 rfl) ?_
        refine k_get (v := .ref (ad 94)) C Wd.1 KX1 _ 7 (cx88 _) (by decide) fl_X1_36 rfl dX1_linkAt_47 ?_
        refine lv_iload_n C.1 C.2.1 dX1_linkAt_50 rfl (lv_at hl 2 rfl) ?_
        refine lv_iload_n C.1 C.2.1 dX1_linkAt_51 rfl (lv_at hl 3 rfl) ?_
        obtain ⟨n52_0, hw⟩ := hw
        refine k_iastF (g := (σ.2.1 94)) (i := x1) (v := x2) C Wd 94 (by decide) (cx94 _) (fun f => cx94a _ f) (tC_at (by decide) rfl) n52_0 (by decide) (ruZ (fun j => Wd.2.1.2.1 94 j) g_x2) dX1_linkAt_52 (fun H locs Wd => ?_)
        refine lv_aload_n C.1 C.2.1 dX1_linkAt_53 rfl (lv_at hl 0 rfl) ?_
        refine k_get (v := .ref (ad 98)) C Wd.1 KX1 _ 11 (cx88 _) (by decide) fl_X1_48 rfl dX1_linkAt_54 ?_
        refine lv_iload_n C.1 C.2.1 dX1_linkAt_57 rfl (lv_at hl 2 rfl) ?_
        refine k_ialdK (g := (σ.2.1 98)) C Wd (cx98 _) (tC_at (by decide) rfl) n52_0 (by decide) dX1_linkAt_58 ?_
        have ga58 : rng (σ.2.1 98 x1) := rngL (fun j => (Wd.2.1).2.1 98 j) n52_0
        exact k_retKi C hr hlk rfl Wd ⟨_, rfl, ga58, hw⟩ dX1_linkAt_59
    · have hw := hw.2 (z_eq g_x0 (show rng 114 from by decide) c13)
      refine lv_aload_n C.1 C.2.1 dX1_linkAt_16 rfl (lv_at hl 0 rfl) ?_
      refine k_get (v := .ref (ad 98)) C Wd.1 KX1 _ 11 (cx88 _) (by decide) fl_X1_48 rfl dX1_linkAt_17 ?_
      refine lv_iload_n C.1 C.2.1 dX1_linkAt_20 rfl (lv_at hl 2 rfl) ?_
      refine lv_iload_n C.1 C.2.1 dX1_linkAt_21 rfl (lv_at hl 3 rfl) ?_
      obtain ⟨n22_0, hw⟩ := hw
      refine k_iastF (g := (σ.2.1 98)) (i := x1) (v := x2) C Wd 98 (by decide) (cx98 _) (fun f => cx98a _ f) (tC_at (by decide) rfl) n22_0 (by decide) (ruZ (fun j => Wd.2.1.2.1 98 j) g_x2) dX1_linkAt_22 (fun H locs Wd => ?_)
      refine lv_aload_n C.1 C.2.1 dX1_linkAt_23 rfl (lv_at hl 0 rfl) ?_
      refine k_get (v := .ref (ad 90)) C Wd.1 KX1 _ 3 (cx88 _) (by decide) fl_X1_24 rfl dX1_linkAt_24 ?_
      refine lv_iload_n C.1 C.2.1 dX1_linkAt_27 rfl (lv_at hl 2 rfl) ?_
      refine k_ialdK (g := (σ.2.1 90)) C Wd (cx90 _) (tC_at (by decide) rfl) n22_0 (by decide) dX1_linkAt_28 ?_
      have ga28 : rng (σ.2.1 90 x1) := rngL (fun j => (Wd.2.1).2.1 90 j) n22_0
      refine lv_bipush (v := zI 115) C.1 C.2.1 dX1_linkAt_29 (by decide) ?_
      refine lv_icmp_ne (tgt := 38) C.1 C.2.1 dX1_linkAt_31 (by decide) (fun c31 => ?_) (fun c31 => ?_)
      · have hw := hw.1 (z_ne ga28 (show rng 115 from by decide) c31)
        refine lv_iload_n C.1 C.2.1 dX1_linkAt_38 rfl (lv_at hl 3 rfl) ?_
        exact k_retKi C hr hlk rfl Wd ⟨_, rfl, g_x2, hw⟩ dX1_linkAt_39
      · have hw := hw.2 (z_eq ga28 (show rng 115 from by decide) c31)
        refine lv_iload_n C.1 C.2.1 dX1_linkAt_34 rfl (lv_at hl 2 rfl) ?_
        refine lv_goto (tgt := 39) C.1 C.2.1 dX1_linkAt_35 (by decide) ?_
        exact k_retKi C hr hlk rfl Wd ⟨_, rfl, g_x1, hw⟩ dX1_linkAt_39
  · have hw := hw.2 (z0_eq g_r2 c5)
    refine lv_iload_n C.1 C.2.1 dX1_linkAt_8 rfl (lv_at hl 3 rfl) ?_
    exact k_retKi C hr hlk rfl Wd ⟨_, rfl, g_x2, hw⟩ dX1_linkAt_9
set_option maxHeartbeats 4000000 in
set_option maxRecDepth 100000 in
theorem mk_F_link_88 : ∀ (D : va_G) (ad : Nat → Nat) (ca : Nat → ClassId) (rf : Nat → Nat → Option Nat) (σ : Sg) (hS : rngK σ) (hRF : RFok ad rf) (K : Sg → Prop) (hw : wp5_F_link σ 88 K) (l : Launch) (sz : Nat), Met l yX1_link (Cond.code yX1_link cX1_link 4 none :: gG) { frames := 3, cells := 0, slots := 0, locals := 108 } (cPre D (tC ca) (wK ad ca rf σ) sz [.ref (ad 88)]) (va_Qv (fun (u : Sg) => K u ∧ rngK u) (fun u t => cB D (va_A (wK ad ca rf σ) sz) [] (wK ad ca rf u) t) (va_A (wK ad ca rf σ) sz)) 0 0 (va_A (wK ad ca rf σ) sz) := by
  intro D ad ca rf σ hS hRF  K hw l sz
  refine Met.ofW (cc := cX1_link) (maxL := 4) (ret := none) (by decide) rfl ?_
  intro p e s m args below meth c s₁ B hml hv
  obtain ⟨rfl, aks, rfl, Wd⟩ := k_enter hv
  have C : CallFix p m c cX1_link 4 s _ gG RX1 := ⟨B.exec, B.bytes, hml, findClass_of_methodNamed B.named, fun w h => atoms_spec (ws := Cond.code yX1_link cX1_link 4 none :: gG) B.pre w (List.mem_cons_of_mem _ h)⟩
  have hr := B.returns
  have hlk := B.notSynchronized
  generalize va_A (wK ad ca rf σ) s.heap.size = A at Wd ⊢
  replace Wd : wXK D ad ca rf s σ s.heap A s.heap [] := ⟨Wd, hS, hRF⟩
  refine k_locals (Nat.le_of_ble_eq_true rfl) [(0, .ref (ad 88))] rfl (fun ls hl => ?_)
  unfold wp5_F_link at hw
  refine lv_iconst (v := zI (-1)) C.1 C.2.1 dX1_link_0 (by decide) ?_
  refine lv_istore_n (lv' := [(1, .int (zI (-1))), (0, .ref (ad 88))]) C.1 C.2.1 dX1_link_1 rfl hl (by decide) rfl (fun ls hl => ?_)
  replace hl := lv_sub hl [1, 0] rfl
  refine lv_aload_n C.1 C.2.1 dX1_link_2 rfl (lv_at hl 0 rfl) ?_
  obtain ⟨n3_0, hw⟩ := hw
  refine k_get (v := .ref (ad (rowC (σ.1 88 0).toNat))) C Wd.1 KX1 _ 0 (cx88 _) (by decide) fl_X1_14 (congrArg some (rvW_ref n3_0)) dX1_link_3 ?_
  refine k_get (v := .int (zI (σ.2.2.1 0 (σ.1 88 0)))) C Wd.1 KX8 _ 1 (cxRow n3_0) (by decide) fl_X1_78 rfl dX1_link_6 ?_
  refine lv_aload_n C.1 C.2.1 dX1_link_9 rfl (lv_at hl 0 rfl) ?_
  refine k_get (v := .ref (ad 100)) C Wd.1 KX1 _ 13 (cx88 _) (by decide) fl_X1_54 rfl dX1_link_10 ?_
  refine k_alen (v := zI 480) C Wd.1 100 100 (cx100 _) (tC_at (by decide) rfl) rfl dX1_link_13 ?_
  refine k_mmin (v := zI (min (σ.2.2.1 0 (σ.1 88 0)) 480)) C hl.1 ml_X1_103 st_Lib_Math_min_name in_J9 cd_min (Nat.le_of_ble_eq_true rfl) (Nat.le_of_ble_eq_true rfl) (Nat.le_of_ble_eq_true rfl) (Nat.le_of_ble_eq_true rfl) (zmin_eq _ _ (rgY hS (N := 35) n3_0) (show rng 480 from by decide)) dX1_link_14 ?_
  refine lv_iconst (v := zI 1) C.1 C.2.1 dX1_link_17 (by decide) ?_
  refine k_isub (v := zI ((min (σ.2.2.1 0 (σ.1 88 0)) 480) - 1)) C (zI_isub _ _) dX1_link_18 ?_
  refine lv_istore_n (lv' := [(2, .int (zI ((min (σ.2.2.1 0 (σ.1 88 0)) 480) - 1))), (0, .ref (ad 88)), (1, .int (zI (-1)))]) C.1 C.2.1 dX1_link_19 rfl hl (by decide) rfl (fun ls hl => ?_)
  replace hl := lv_sub hl [1, 2, 0] rfl
  obtain ⟨g19_5, hw⟩ := hw
  refine k_lp3 hw (fun (l1_20 : Int) (l2_20 : Int) (σ20 : Sg) H locs ls => rng l1_20 ∧ rng l2_20 ∧ wXK D ad ca rf s σ20 H A s.heap locs ∧ lv_has ls 4 [(0, .ref (ad 88)), (1, .int (zI l1_20)), (2, .int (zI l2_20))]) (fun (l1_20 : Int) (l2_20 : Int) (σ20 : Sg) ls => F0 m 20 ls []) (fun L20 hL20 l1_20 l2_20 σ20 hw H locs ls hi => ?_) _ _ _ ⟨(show rng (-1) from by decide), g19_5, Wd, lv_sub hl [0, 1, 2] rfl⟩
  obtain ⟨g_l1_20, g_l2_20, Wd, hl⟩ := hi
  have hS_σ20 := Wd.2.1
  unfold wp5_F_link_20 at hw
  refine lv_iload_n C.1 C.2.1 dX1_link_20 rfl (lv_at hl 2 rfl) ?_
  refine lv_if_lt (tgt := 60) C.1 C.2.1 dX1_link_21 (by decide) (fun c21 => ?_) (fun c21 => ?_)
  · have hw := hw.1 (z0_lt g_l2_20 c21)
    exact k_retKv C hr hlk Wd hw dX1_link_60
  · have hw := hw.2 (z0_nlt g_l2_20 c21)
    refine lv_aload_n C.1 C.2.1 dX1_link_24 rfl (lv_at hl 0 rfl) ?_
    refine k_get (v := .ref (ad 100)) C Wd.1 KX1 _ 13 (cx88 _) (by decide) fl_X1_54 rfl dX1_link_25 ?_
    refine lv_iload_n C.1 C.2.1 dX1_link_28 rfl (lv_at hl 2 rfl) ?_
    obtain ⟨n29_0, hw⟩ := hw
    refine k_ialdK (g := (σ20.2.1 100)) C Wd (cx100 _) (tC_at (by decide) rfl) n29_0 (by decide) dX1_link_29 ?_
    have ga29 : rng (σ20.2.1 100 l2_20) := rngL (fun j => (Wd.2.1).2.1 100 j) n29_0
    refine lv_istore_n (lv' := [(3, .int (zI (σ20.2.1 100 l2_20))), (0, .ref (ad 88)), (1, .int (zI l1_20)), (2, .int (zI l2_20))]) C.1 C.2.1 dX1_link_30 rfl hl (by decide) rfl (fun ls hl => ?_)
    replace hl := lv_sub hl [1, 2, 3, 0] rfl
    refine lv_aload_n C.1 C.2.1 dX1_link_31 rfl (lv_at hl 0 rfl) ?_
    refine lv_iload_n C.1 C.2.1 dX1_link_32 rfl (lv_at hl 3 rfl) ?_
    refine k_pi (k_runVK (rest := []) C aks Wd cs_X1_70 (mk_F_isHere_88 D ad ca rf σ20 Wd.2.1 Wd.2.2 (σ20.2.1 100 l2_20) ga29 _ hw l _) (cx88 _) rfl rfl rfl rfl ⟨(Nat.le_of_ble_eq_true rfl), (Nat.le_of_ble_eq_true rfl)⟩ hl.1 rfl rfl (Nat.le_of_ble_eq_true rfl) ⟨(Nat.le_of_ble_eq_true rfl), (Nat.le_of_ble_eq_true rfl)⟩ dX1_link_33) (fun y33 hy => ?_)
    obtain ⟨r33, rfl, g_r33, hw⟩ := hy
    refine lv_if_eq (tgt := 54) C.1 C.2.1 dX1_link_36 (by decide) (fun c36 => ?_) (fun c36 => ?_)
    · have hw := hw.1 (z0_eq g_r33 c36)
      refine lv_iinc (v := zI (l2_20 - 1)) (lv' := [(2, .int (zI (l2_20 - 1))), (0, .ref (ad 88)), (1, .int (zI l1_20)), (3, .int (zI (σ20.2.1 100 l2_20)))]) C.1 C.2.1 dX1_link_54 hl (k := 2) rfl (zI_dec _ _ (by decide)) (by decide) rfl (fun ls hl => ?_)
      replace hl := lv_sub hl [1, 2, 0, 3] rfl
      refine lv_goto (tgt := 20) C.1 C.2.1 dX1_link_57 (by decide) ?_
      obtain ⟨g57_6, hw⟩ := hw
      exact hL20 _ _ _ hw _ _ _ ⟨g_l1_20, g57_6, Wd, lv_sub hl [0, 1, 2] rfl⟩
    · have hw := hw.2 (z0_ne g_r33 c36)
      refine lv_aload_n C.1 C.2.1 dX1_link_39 rfl (lv_at hl 0 rfl) ?_
      refine lv_aload_n C.1 C.2.1 dX1_link_40 rfl (lv_at hl 0 rfl) ?_
      obtain ⟨n41_0, hw⟩ := hw
      refine k_get (v := .ref (ad (rowC (σ20.1 88 0).toNat))) C Wd.1 KX1 _ 0 (cx88 _) (by decide) fl_X1_14 (congrArg some (rvW_ref n41_0)) dX1_link_41 ?_
      refine lv_iload_n C.1 C.2.1 dX1_link_44 rfl (lv_at hl 2 rfl) ?_
      refine k_pi (k_runVK (rest := [.ref (ad 88)]) C aks Wd cs_X1_81 (mk_W_cell D ad ca rf σ20 Wd.2.1 Wd.2.2 (σ20.1 88 0) l2_20 n41_0 g_l2_20 _ hw l _) (cxRow n41_0) rfl rfl rfl rfl ⟨(Nat.le_of_ble_eq_true rfl), (Nat.le_of_ble_eq_true rfl)⟩ hl.1 rfl rfl (Nat.le_of_ble_eq_true rfl) ⟨(Nat.le_of_ble_eq_true rfl), (Nat.le_of_ble_eq_true rfl)⟩ dX1_link_45) (fun y45 hy => ?_)
      obtain ⟨r45, rfl, g_r45, hw⟩ := hy
      refine lv_iload_n C.1 C.2.1 dX1_link_48 rfl (lv_at hl 3 rfl) ?_
      refine lv_iload_n C.1 C.2.1 dX1_link_49 rfl (lv_at hl 1 rfl) ?_
      refine k_cKi Wd (k_runVK (rest := []) C aks Wd cs_X1_109 (mk_F_linkAt_88 D ad ca rf σ20 Wd.2.1 Wd.2.2 r45 (σ20.2.1 100 l2_20) l1_20 g_r45 ga29 g_l1_20 _ hw l _) (cx88 _) rfl rfl rfl rfl ⟨(Nat.le_of_ble_eq_true rfl), (Nat.le_of_ble_eq_true rfl)⟩ hl.1 rfl rfl (Nat.le_of_ble_eq_true rfl) ⟨(Nat.le_of_ble_eq_true rfl), (Nat.le_of_ble_eq_true rfl)⟩ dX1_link_50) (fun r50 σr50 H locs g_r50 hw Wd => ?_)
      have hS_σr50 := Wd.2.1
      refine lv_istore_n (lv' := [(1, .int (zI r50)), (0, .ref (ad 88)), (2, .int (zI l2_20)), (3, .int (zI (σ20.2.1 100 l2_20)))]) C.1 C.2.1 dX1_link_53 rfl hl (by decide) rfl (fun ls hl => ?_)
      replace hl := lv_sub hl [1, 0, 2, 3] rfl
      refine lv_iinc (v := zI (l2_20 - 1)) (lv' := [(2, .int (zI (l2_20 - 1))), (0, .ref (ad 88)), (1, .int (zI r50)), (3, .int (zI (σ20.2.1 100 l2_20)))]) C.1 C.2.1 dX1_link_54 hl (k := 2) rfl (zI_dec _ _ (by decide)) (by decide) rfl (fun ls hl => ?_)
      replace hl := lv_sub hl [1, 2, 0, 3] rfl
      refine lv_goto (tgt := 20) C.1 C.2.1 dX1_link_57 (by decide) ?_
      obtain ⟨g57_7, hw⟩ := hw
      exact hL20 _ _ _ hw _ _ _ ⟨g_r50, g57_7, Wd, lv_sub hl [0, 1, 2] rfl⟩
set_option maxHeartbeats 4000000 in
set_option maxRecDepth 100000 in
theorem mk_F_aheadOf_88 : ∀ (D : va_G) (ad : Nat → Nat) (ca : Nat → ClassId) (rf : Nat → Nat → Option Nat) (σ : Sg) (hS : rngK σ) (hRF : RFok ad rf) (x0 : Int) (g_x0 : rng x0) (K : Int → Prop) (hw : wp5_F_aheadOf σ 88 x0 K) (l : Launch) (sz : Nat), Met l yX1_aheadOf (Cond.code yX1_aheadOf cX1_aheadOf 2 (some .int) :: gG) { frames := 2, cells := 0, slots := 0, locals := 85 } (cPre D (tC ca) (wK ad ca rf σ) sz [.ref (ad 88), .int (zI x0)]) (vp_Si (fun r => ∃ x : Int, r = zI x ∧ rng x ∧ K x)) 0 0 (fun _ => False) := by
  intro D ad ca rf σ hS hRF x0 g_x0 K hw l sz
  refine Met.ofW (cc := cX1_aheadOf) (maxL := 2) (ret := (some .int)) (by decide) rfl ?_
  intro p e s m args below meth c s₁ B hml hv
  obtain ⟨rfl, aks, rfl, Wd⟩ := k_enter hv
  have C : CallFix p m c cX1_aheadOf 2 s _ gG RX1 := ⟨B.exec, B.bytes, hml, findClass_of_methodNamed B.named, fun w h => atoms_spec (ws := Cond.code yX1_aheadOf cX1_aheadOf 2 (some .int) :: gG) B.pre w (List.mem_cons_of_mem _ h)⟩
  have hr := B.returns
  have hlk := B.notSynchronized
  obtain ⟨A, Wd⟩ : ∃ A, wXK D ad ca rf s σ s.heap A s.heap [] := ⟨_, Wd, hS, hRF⟩
  refine k_locals (Nat.le_of_ble_eq_true rfl) [(0, .ref (ad 88)), (1, .int (zI x0))] rfl (fun ls hl => ?_)
  unfold wp5_F_aheadOf at hw
  refine lv_aload_n C.1 C.2.1 dX1_aheadOf_0 rfl (lv_at hl 0 rfl) ?_
  refine lv_iload_n C.1 C.2.1 dX1_aheadOf_1 rfl (lv_at hl 1 rfl) ?_
  refine k_pi (k_runVK (rest := []) C aks Wd cs_X1_70 (mk_F_isHere_88 D ad ca rf σ Wd.2.1 Wd.2.2 x0 g_x0 _ hw l _) (cx88 _) rfl rfl rfl rfl ⟨(Nat.le_of_ble_eq_true rfl), (Nat.le_of_ble_eq_true rfl)⟩ hl.1 rfl rfl (Nat.le_of_ble_eq_true rfl) ⟨(Nat.le_of_ble_eq_true rfl), (Nat.le_of_ble_eq_true rfl)⟩ dX1_aheadOf_2) (fun y2 hy => ?_)
  obtain ⟨r2, rfl, g_r2, hw⟩ := hy
  refine lv_if_eq (tgt := 17) C.1 C.2.1 dX1_aheadOf_5 (by decide) (fun c5 => ?_) (fun c5 => ?_)
  · have hw := hw.1 (z0_eq g_r2 c5)
    refine lv_iconst (v := zI 0) C.1 C.2.1 dX1_aheadOf_17 (by decide) ?_
    exact k_zretP C hr hlk rfl ⟨_, rfl, (show rng 0 from by decide), hw⟩ dX1_aheadOf_18
  · have hw := hw.2 (z0_ne g_r2 c5)
    refine lv_aload_n C.1 C.2.1 dX1_aheadOf_8 rfl (lv_at hl 0 rfl) ?_
    refine k_get (v := .ref (ad 97)) C Wd.1 KX1 _ 10 (cx88 _) (by decide) fl_X1_45 rfl dX1_aheadOf_9 ?_
    refine lv_iload_n C.1 C.2.1 dX1_aheadOf_12 rfl (lv_at hl 1 rfl) ?_
    obtain ⟨n13_0, hw⟩ := hw
    refine k_ialdK (g := (σ.2.1 97)) C Wd (cx97 _) (tC_at (by decide) rfl) n13_0 (by decide) dX1_aheadOf_13 ?_
    have ga13 : rng (σ.2.1 97 x0) := rngL (fun j => (Wd.2.1).2.1 97 j) n13_0
    refine lv_goto (tgt := 18) C.1 C.2.1 dX1_aheadOf_14 (by decide) ?_
    exact k_zretP C hr hlk rfl ⟨_, rfl, ga13, hw⟩ dX1_aheadOf_18
set_option maxHeartbeats 4000000 in
set_option maxRecDepth 100000 in
theorem mk_F_settle_88 : ∀ (D : va_G) (ad : Nat → Nat) (ca : Nat → ClassId) (rf : Nat → Nat → Option Nat) (σ : Sg) (hS : rngK σ) (hRF : RFok ad rf) (K : Sg → Prop) (hw : wp5_F_settle σ 88 K) (l : Launch) (sz : Nat), Met l yX1_settle (Cond.code yX1_settle cX1_settle 5 none :: gG) { frames := 3, cells := 0, slots := 0, locals := 106 } (cPre D (tC ca) (wK ad ca rf σ) sz [.ref (ad 88)]) (va_Qv (fun (u : Sg) => K u ∧ rngK u) (fun u t => cB D (va_A (wK ad ca rf σ) sz) [] (wK ad ca rf u) t) (va_A (wK ad ca rf σ) sz)) 0 0 (va_A (wK ad ca rf σ) sz) := by
  intro D ad ca rf σ hS hRF  K hw l sz
  refine Met.ofW (cc := cX1_settle) (maxL := 5) (ret := none) (by decide) rfl ?_
  intro p e s m args below meth c s₁ B hml hv
  obtain ⟨rfl, aks, rfl, Wd⟩ := k_enter hv
  have C : CallFix p m c cX1_settle 5 s _ gG RX1 := ⟨B.exec, B.bytes, hml, findClass_of_methodNamed B.named, fun w h => atoms_spec (ws := Cond.code yX1_settle cX1_settle 5 none :: gG) B.pre w (List.mem_cons_of_mem _ h)⟩
  have hr := B.returns
  have hlk := B.notSynchronized
  generalize va_A (wK ad ca rf σ) s.heap.size = A at Wd ⊢
  replace Wd : wXK D ad ca rf s σ s.heap A s.heap [] := ⟨Wd, hS, hRF⟩
  refine k_locals (Nat.le_of_ble_eq_true rfl) [(0, .ref (ad 88))] rfl (fun ls hl => ?_)
  unfold wp5_F_settle at hw
  refine lv_iconst (v := zI 0) C.1 C.2.1 dX1_settle_0 (by decide) ?_
  refine lv_istore_n (lv' := [(1, .int (zI 0)), (0, .ref (ad 88))]) C.1 C.2.1 dX1_settle_1 rfl hl (by decide) rfl (fun ls hl => ?_)
  replace hl := lv_sub hl [1, 0] rfl
  refine k_lp2 hw (fun (l1_2 : Int) (σ2 : Sg) H locs ls => rng l1_2 ∧ wXK D ad ca rf s σ2 H A s.heap locs ∧ lv_has ls 5 [(0, .ref (ad 88)), (1, .int (zI l1_2))]) (fun (l1_2 : Int) (σ2 : Sg) ls => F0 m 2 ls []) (fun L2 hL2 l1_2 σ2 hw H locs ls hi => ?_) _ _ _ ⟨(show rng 0 from by decide), Wd, lv_sub hl [0, 1] rfl⟩
  obtain ⟨g_l1_2, Wd, hl⟩ := hi
  have hS_σ2 := Wd.2.1
  unfold wp5_F_settle_2 at hw
  refine lv_iload_n C.1 C.2.1 dX1_settle_2 rfl (lv_at hl 1 rfl) ?_
  refine lv_aload_n C.1 C.2.1 dX1_settle_3 rfl (lv_at hl 0 rfl) ?_
  refine k_get (v := .int (zI (σ2.1 88 1))) C Wd.1 KX1 _ 1 (cx88 _) (by decide) fl_X1_57 rfl dX1_settle_4 ?_
  refine k_cut0 (fun H locs ls => wp5_F_settle_29 K 88 σ2 ∧ wXK D ad ca rf s σ2 H A s.heap locs ∧ lv_has ls 5 [(0, .ref (ad 88))]) (fun  ls => F0 m 29 ls []) (fun  H locs ls hi => ?_) (fun J29 => ?_)
  · obtain ⟨hw, Wd, hl⟩ := hi
    unfold wp5_F_settle_29 at hw
    refine lv_iconst (v := zI 1) C.1 C.2.1 dX1_settle_29 (by decide) ?_
    refine lv_istore_n (lv' := [(1, .int (zI 1)), (0, .ref (ad 88))]) C.1 C.2.1 dX1_settle_30 rfl hl (by decide) rfl (fun ls hl => ?_)
    replace hl := lv_sub hl [1, 0] rfl
    refine lv_iconst (v := zI 0) C.1 C.2.1 dX1_settle_31 (by decide) ?_
    refine lv_istore_n (lv' := [(2, .int (zI 0)), (0, .ref (ad 88)), (1, .int (zI 1))]) C.1 C.2.1 dX1_settle_32 rfl hl (by decide) rfl (fun ls hl => ?_)
    replace hl := lv_sub hl [1, 2, 0] rfl
    refine k_lp3 hw (fun (l1_33 : Int) (l2_33 : Int) (σ33 : Sg) H locs ls => rng l1_33 ∧ rng l2_33 ∧ wXK D ad ca rf s σ33 H A s.heap locs ∧ lv_has ls 5 [(0, .ref (ad 88)), (1, .int (zI l1_33)), (2, .int (zI l2_33))]) (fun (l1_33 : Int) (l2_33 : Int) (σ33 : Sg) ls => F0 m 33 ls []) (fun L33 hL33 l1_33 l2_33 σ33 hw H locs ls hi => ?_) _ _ _ ⟨(show rng 1 from by decide), (show rng 0 from by decide), Wd, lv_sub hl [0, 1, 2] rfl⟩
    obtain ⟨g_l1_33, g_l2_33, Wd, hl⟩ := hi
    have hS_σ33 := Wd.2.1
    unfold wp5_F_settle_33 at hw
    refine lv_iload_n C.1 C.2.1 dX1_settle_33 rfl (lv_at hl 2 rfl) ?_
    refine lv_sipush (v := zI 241) C.1 C.2.1 dX1_settle_34 (zS (by decide) (by decide)) ?_
    refine lv_icmp_ge (tgt := 142) C.1 C.2.1 dX1_settle_37 (by decide) (fun c37 => ?_) (fun c37 => ?_)
    · have hw := hw.1 (z_le (show rng 241 from by decide) g_l2_33 c37)
      exact k_retKv C hr hlk Wd hw dX1_settle_142
    · have hw := hw.2 (z_nle (show rng 241 from by decide) g_l2_33 c37)
      refine lv_iload_n C.1 C.2.1 dX1_settle_40 rfl (lv_at hl 1 rfl) ?_
      refine lv_if_eq (tgt := 142) C.1 C.2.1 dX1_settle_41 (by decide) (fun c41 => ?_) (fun c41 => ?_)
      · have hw := hw.1 (z0_eq g_l1_33 c41)
        exact k_retKv C hr hlk Wd hw dX1_settle_142
      · have hw := hw.2 (z0_ne g_l1_33 c41)
        refine lv_iconst (v := zI 0) C.1 C.2.1 dX1_settle_44 (by decide) ?_
        refine lv_istore_n (lv' := [(1, .int (zI 0)), (0, .ref (ad 88)), (2, .int (zI l2_33))]) C.1 C.2.1 dX1_settle_45 rfl hl (by decide) rfl (fun ls hl => ?_)
        replace hl := lv_sub hl [1, 0, 2] rfl
        refine lv_aload_n C.1 C.2.1 dX1_settle_46 rfl (lv_at hl 0 rfl) ?_
        refine k_get (v := .int (zI (σ33.1 88 1))) C Wd.1 KX1 _ 1 (cx88 _) (by decide) fl_X1_57 rfl dX1_settle_47 ?_
        refine lv_bipush (v := zI 40) C.1 C.2.1 dX1_settle_50 (by decide) ?_
        refine k_mmin (v := zI (min (σ33.1 88 1) 40)) C hl.1 ml_X1_103 st_Lib_Math_min_name in_J9 cd_min (Nat.le_of_ble_eq_true rfl) (Nat.le_of_ble_eq_true rfl) (Nat.le_of_ble_eq_true rfl) (Nat.le_of_ble_eq_true rfl) (zmin_eq _ _ (hS_σ33.1 88 1) (show rng 40 from by decide)) dX1_settle_52 ?_
        refine lv_iconst (v := zI 1) C.1 C.2.1 dX1_settle_55 (by decide) ?_
        refine k_isub (v := zI ((min (σ33.1 88 1) 40) - 1)) C (zI_isub _ _) dX1_settle_56 ?_
        refine lv_istore_n (lv' := [(3, .int (zI ((min (σ33.1 88 1) 40) - 1))), (0, .ref (ad 88)), (1, .int (zI 0)), (2, .int (zI l2_33))]) C.1 C.2.1 dX1_settle_57 rfl hl (by decide) rfl (fun ls hl => ?_)
        replace hl := lv_sub hl [1, 2, 3, 0] rfl
        obtain ⟨g57_23, hw⟩ := hw
        refine k_lp3 hw (fun (l1_58 : Int) (l3_58 : Int) (σ58 : Sg) H locs ls => rng l1_58 ∧ rng l3_58 ∧ wXK D ad ca rf s σ58 H A s.heap locs ∧ lv_has ls 5 [(0, .ref (ad 88)), (1, .int (zI l1_58)), (2, .int (zI l2_33)), (3, .int (zI l3_58))]) (fun (l1_58 : Int) (l3_58 : Int) (σ58 : Sg) ls => F0 m 58 ls []) (fun L58 hL58 l1_58 l3_58 σ58 hw H locs ls hi => ?_) _ _ _ ⟨(show rng 0 from by decide), g57_23, Wd, lv_sub hl [0, 1, 2, 3] rfl⟩
        obtain ⟨g_l1_58, g_l3_58, Wd, hl⟩ := hi
        have hS_σ58 := Wd.2.1
        unfold wp5_F_settle_58 at hw
        refine lv_iload_n C.1 C.2.1 dX1_settle_58 rfl (lv_at hl 3 rfl) ?_
        refine lv_if_lt (tgt := 136) C.1 C.2.1 dX1_settle_59 (by decide) (fun c59 => ?_) (fun c59 => ?_)
        · have hw := hw.1 (z0_lt g_l3_58 c59)
          refine lv_iinc (v := zI (l2_33 + 1)) (lv' := [(2, .int (zI (l2_33 + 1))), (0, .ref (ad 88)), (1, .int (zI l1_58)), (3, .int (zI l3_58))]) C.1 C.2.1 dX1_settle_136 hl (k := 2) rfl (zI_inc _ _ (by decide)) (by decide) rfl (fun ls hl => ?_)
          replace hl := lv_sub hl [1, 2, 0, 3] rfl
          refine lv_goto (tgt := 33) C.1 C.2.1 dX1_settle_139 (by decide) ?_
          obtain ⟨g139_24, hw⟩ := hw
          exact hL33 _ _ _ hw _ _ _ ⟨g_l1_58, g139_24, Wd, lv_sub hl [0, 1, 2] rfl⟩
        · have hw := hw.2 (z0_nlt g_l3_58 c59)
          refine lv_aload_n C.1 C.2.1 dX1_settle_62 rfl (lv_at hl 0 rfl) ?_
          refine k_get (v := .ref (ad 95)) C Wd.1 KX1 _ 8 (cx88 _) (by decide) fl_X1_39 rfl dX1_settle_63 ?_
          refine lv_iload_n C.1 C.2.1 dX1_settle_66 rfl (lv_at hl 3 rfl) ?_
          obtain ⟨n67_0, hw⟩ := hw
          refine k_ialdK (g := (σ58.2.1 95)) C Wd (cx95 _) (tC_at (by decide) rfl) n67_0 (by decide) dX1_settle_67 ?_
          have ga67 : rng (σ58.2.1 95 l3_58) := rngL (fun j => (Wd.2.1).2.1 95 j) n67_0
          refine lv_aload_n C.1 C.2.1 dX1_settle_68 rfl (lv_at hl 0 rfl) ?_
          refine lv_aload_n C.1 C.2.1 dX1_settle_69 rfl (lv_at hl 0 rfl) ?_
          refine k_get (v := .ref (ad 93)) C Wd.1 KX1 _ 6 (cx88 _) (by decide) fl_X1_33 rfl dX1_settle_70 ?_
          refine lv_iload_n C.1 C.2.1 dX1_settle_73 rfl (lv_at hl 3 rfl) ?_
          refine k_ialdK (g := (σ58.2.1 93)) C Wd (cx93 _) (tC_at (by decide) rfl) n67_0 (by decide) dX1_settle_74 ?_
          have ga74 : rng (σ58.2.1 93 l3_58) := rngL (fun j => (Wd.2.1).2.1 93 j) n67_0
          refine k_pi (k_runVK (rest := [.int (zI (σ58.2.1 95 l3_58))]) C aks Wd cs_X1_74 (mk_F_aheadOf_88 D ad ca rf σ58 Wd.2.1 Wd.2.2 (σ58.2.1 93 l3_58) ga74 _ hw l _) (cx88 _) rfl rfl rfl rfl ⟨(Nat.le_of_ble_eq_true rfl), (Nat.le_of_ble_eq_true rfl)⟩ hl.1 rfl rfl (Nat.le_of_ble_eq_true rfl) ⟨(Nat.le_of_ble_eq_true rfl), (Nat.le_of_ble_eq_true rfl)⟩ dX1_settle_75) (fun y75 hy => ?_)
          obtain ⟨r75, rfl, g_r75, hw⟩ := hy
          refine lv_aload_n C.1 C.2.1 dX1_settle_78 rfl (lv_at hl 0 rfl) ?_
          refine lv_aload_n C.1 C.2.1 dX1_settle_79 rfl (lv_at hl 0 rfl) ?_
          refine k_get (v := .ref (ad 94)) C Wd.1 KX1 _ 7 (cx88 _) (by decide) fl_X1_36 rfl dX1_settle_80 ?_
          refine lv_iload_n C.1 C.2.1 dX1_settle_83 rfl (lv_at hl 3 rfl) ?_
          refine k_ialdK (g := (σ58.2.1 94)) C Wd (cx94 _) (tC_at (by decide) rfl) n67_0 (by decide) dX1_settle_84 ?_
          have ga84 : rng (σ58.2.1 94 l3_58) := rngL (fun j => (Wd.2.1).2.1 94 j) n67_0
          refine k_pi (k_runVK (rest := [.int (zI r75), .int (zI (σ58.2.1 95 l3_58))]) C aks Wd cs_X1_74 (mk_F_aheadOf_88 D ad ca rf σ58 Wd.2.1 Wd.2.2 (σ58.2.1 94 l3_58) ga84 _ hw l _) (cx88 _) rfl rfl rfl rfl ⟨(Nat.le_of_ble_eq_true rfl), (Nat.le_of_ble_eq_true rfl)⟩ hl.1 rfl rfl (Nat.le_of_ble_eq_true rfl) ⟨(Nat.le_of_ble_eq_true rfl), (Nat.le_of_ble_eq_true rfl)⟩ dX1_settle_85) (fun y85 hy => ?_)
          obtain ⟨r85, rfl, g_r85, hw⟩ := hy
          refine k_ior (v := zI (zior r75 r85)) C (zior_eq _ _) dX1_settle_88 ?_
          refine lv_aload_n C.1 C.2.1 dX1_settle_89 rfl (lv_at hl 0 rfl) ?_
          refine k_get (v := .ref (ad 96)) C Wd.1 KX1 _ 9 (cx88 _) (by decide) fl_X1_42 rfl dX1_settle_90 ?_
          refine lv_iload_n C.1 C.2.1 dX1_settle_93 rfl (lv_at hl 3 rfl) ?_
          refine k_ialdK (g := (σ58.2.1 96)) C Wd (cx96 _) (tC_at (by decide) rfl) n67_0 (by decide) dX1_settle_94 ?_
          have ga94 : rng (σ58.2.1 96 l3_58) := rngL (fun j => (Wd.2.1).2.1 96 j) n67_0
          refine lv_iconst (v := zI (-1)) C.1 C.2.1 dX1_settle_95 (by decide) ?_
          refine k_ixor (v := zI (zixor (σ58.2.1 96 l3_58) (-1))) C (zixor_eq _ _) dX1_settle_96 ?_
          refine k_iand (v := zI (ziand (zior r75 r85) (zixor (σ58.2.1 96 l3_58) (-1)))) C (ziand_eq _ _) dX1_settle_97 ?_
          refine k_ior (v := zI (zior (σ58.2.1 95 l3_58) (ziand (zior r75 r85) (zixor (σ58.2.1 96 l3_58) (-1))))) C (zior_eq _ _) dX1_settle_98 ?_
          refine lv_istore (lv' := [(4, .int (zI (zior (σ58.2.1 95 l3_58) (ziand (zior r75 r85) (zixor (σ58.2.1 96 l3_58) (-1)))))), (0, .ref (ad 88)), (1, .int (zI l1_58)), (2, .int (zI l2_33)), (3, .int (zI l3_58))]) C.1 C.2.1 dX1_settle_99 hl (by decide) rfl (fun ls hl => ?_)
          replace hl := lv_sub hl [1, 2, 3, 4, 0] rfl
          refine lv_iload_n C.1 C.2.1 dX1_settle_101 rfl (lv_at hl 1 rfl) ?_
          refine k_cut0 (fun H locs ls => wp5_F_settle_116 88 l3_58 r75 r85 σ58 L58 ∧ wXK D ad ca rf s σ58 H A s.heap locs ∧ lv_has ls 5 [(0, .ref (ad 88)), (2, .int (zI l2_33)), (3, .int (zI l3_58)), (4, .int (zI (zior (σ58.2.1 95 l3_58) (ziand (zior r75 r85) (zixor (σ58.2.1 96 l3_58) (-1))))))]) (fun  ls => F0 m 116 ls []) (fun  H locs ls hi => ?_) (fun J116 => ?_)
          · obtain ⟨hw, Wd, hl⟩ := hi
            unfold wp5_F_settle_116 at hw
            refine lv_iconst (v := zI 1) C.1 C.2.1 dX1_settle_116 (by decide) ?_
            refine lv_goto (tgt := 121) C.1 C.2.1 dX1_settle_117 (by decide) ?_
            refine lv_istore_n (lv' := [(1, .int (zI 1)), (0, .ref (ad 88)), (2, .int (zI l2_33)), (3, .int (zI l3_58)), (4, .int (zI (zior (σ58.2.1 95 l3_58) (ziand (zior r75 r85) (zixor (σ58.2.1 96 l3_58) (-1))))))]) C.1 C.2.1 dX1_settle_121 rfl hl (by decide) rfl (fun ls hl => ?_)
            replace hl := lv_sub hl [1, 0, 2, 3, 4] rfl
            refine lv_aload_n C.1 C.2.1 dX1_settle_122 rfl (lv_at hl 0 rfl) ?_
            refine k_get (v := .ref (ad 97)) C Wd.1 KX1 _ 10 (cx88 _) (by decide) fl_X1_45 rfl dX1_settle_123 ?_
            refine lv_iload_n C.1 C.2.1 dX1_settle_126 rfl (lv_at hl 3 rfl) ?_
            refine lv_iload C.1 C.2.1 dX1_settle_127 (lv_at hl 4 rfl) ?_
            refine k_iastF (g := (σ58.2.1 97)) (i := l3_58) (v := (zior (σ58.2.1 95 l3_58) (ziand (zior r75 r85) (zixor (σ58.2.1 96 l3_58) (-1))))) C Wd 97 (by decide) (cx97 _) (fun f => cx97a _ f) (tC_at (by decide) rfl) n67_0 (by decide) (ruZ (fun j => Wd.2.1.2.1 97 j) (rng_toInt _)) dX1_settle_129 (fun H locs Wd => ?_)
            refine lv_iinc (v := zI (l3_58 - 1)) (lv' := [(3, .int (zI (l3_58 - 1))), (0, .ref (ad 88)), (1, .int (zI 1)), (2, .int (zI l2_33)), (4, .int (zI (zior (σ58.2.1 95 l3_58) (ziand (zior r75 r85) (zixor (σ58.2.1 96 l3_58) (-1))))))]) C.1 C.2.1 dX1_settle_130 hl (k := 3) rfl (zI_dec _ _ (by decide)) (by decide) rfl (fun ls hl => ?_)
            replace hl := lv_sub hl [1, 2, 3, 0, 4] rfl
            refine lv_goto (tgt := 58) C.1 C.2.1 dX1_settle_133 (by decide) ?_
            obtain ⟨g133_25, hw⟩ := hw
            exact hL58 _ _ _ hw _ _ _ ⟨(show rng 1 from by decide), g133_25, Wd, lv_sub hl [0, 1, 2, 3] rfl⟩
          refine lv_if_ne (tgt := 116) C.1 C.2.1 dX1_settle_102 (by decide) (fun c102 => ?_) (fun c102 => ?_)
          · have hw := hw.1 (z0_ne g_l1_58 c102)
            exact J116  _ _ _ ⟨hw, Wd, lv_sub hl [0, 2, 3, 4] rfl⟩
          · have hw := hw.2 (z0_eq g_l1_58 c102)
            refine lv_iload C.1 C.2.1 dX1_settle_105 (lv_at hl 4 rfl) ?_
            refine lv_aload_n C.1 C.2.1 dX1_settle_107 rfl (lv_at hl 0 rfl) ?_
            refine k_get (v := .ref (ad 97)) C Wd.1 KX1 _ 10 (cx88 _) (by decide) fl_X1_45 rfl dX1_settle_108 ?_
            refine lv_iload_n C.1 C.2.1 dX1_settle_111 rfl (lv_at hl 3 rfl) ?_
            refine k_ialdK (g := (σ58.2.1 97)) C Wd (cx97 _) (tC_at (by decide) rfl) n67_0 (by decide) dX1_settle_112 ?_
            have ga112 : rng (σ58.2.1 97 l3_58) := rngL (fun j => (Wd.2.1).2.1 97 j) n67_0
            refine lv_icmp_eq (tgt := 120) C.1 C.2.1 dX1_settle_113 (by decide) (fun c113 => ?_) (fun c113 => ?_)
            · have hw := hw.1 (z_eq (rng_toInt _) ga112 c113)
              refine lv_iconst (v := zI 0) C.1 C.2.1 dX1_settle_120 (by decide) ?_
              refine lv_istore_n (lv' := [(1, .int (zI 0)), (0, .ref (ad 88)), (2, .int (zI l2_33)), (3, .int (zI l3_58)), (4, .int (zI (zior (σ58.2.1 95 l3_58) (ziand (zior r75 r85) (zixor (σ58.2.1 96 l3_58) (-1))))))]) C.1 C.2.1 dX1_settle_121 rfl hl (by decide) rfl (fun ls hl => ?_)
              replace hl := lv_sub hl [1, 0, 2, 3, 4] rfl
              refine lv_aload_n C.1 C.2.1 dX1_settle_122 rfl (lv_at hl 0 rfl) ?_
              refine k_get (v := .ref (ad 97)) C Wd.1 KX1 _ 10 (cx88 _) (by decide) fl_X1_45 rfl dX1_settle_123 ?_
              refine lv_iload_n C.1 C.2.1 dX1_settle_126 rfl (lv_at hl 3 rfl) ?_
              refine lv_iload C.1 C.2.1 dX1_settle_127 (lv_at hl 4 rfl) ?_
              refine k_iastF (g := (σ58.2.1 97)) (i := l3_58) (v := (zior (σ58.2.1 95 l3_58) (ziand (zior r75 r85) (zixor (σ58.2.1 96 l3_58) (-1))))) C Wd 97 (by decide) (cx97 _) (fun f => cx97a _ f) (tC_at (by decide) rfl) n67_0 (by decide) (ruZ (fun j => Wd.2.1.2.1 97 j) (rng_toInt _)) dX1_settle_129 (fun H locs Wd => ?_)
              refine lv_iinc (v := zI (l3_58 - 1)) (lv' := [(3, .int (zI (l3_58 - 1))), (0, .ref (ad 88)), (1, .int (zI 0)), (2, .int (zI l2_33)), (4, .int (zI (zior (σ58.2.1 95 l3_58) (ziand (zior r75 r85) (zixor (σ58.2.1 96 l3_58) (-1))))))]) C.1 C.2.1 dX1_settle_130 hl (k := 3) rfl (zI_dec _ _ (by decide)) (by decide) rfl (fun ls hl => ?_)
              replace hl := lv_sub hl [1, 2, 3, 0, 4] rfl
              refine lv_goto (tgt := 58) C.1 C.2.1 dX1_settle_133 (by decide) ?_
              obtain ⟨g133_26, hw⟩ := hw
              exact hL58 _ _ _ hw _ _ _ ⟨(show rng 0 from by decide), g133_26, Wd, lv_sub hl [0, 1, 2, 3] rfl⟩
            · have hw := hw.2 (z_ne (rng_toInt _) ga112 c113)
              exact J116  _ _ _ ⟨hw, Wd, lv_sub hl [0, 2, 3, 4] rfl⟩
  refine lv_icmp_ge (tgt := 29) C.1 C.2.1 dX1_settle_7 (by decide) (fun c7 => ?_) (fun c7 => ?_)
  · have hw := hw.1 (z_le (hS_σ2.1 88 1) g_l1_2 c7)
    exact J29  _ _ _ ⟨hw, Wd, lv_sub hl [0] rfl⟩
  · have hw := hw.2 (z_nle (hS_σ2.1 88 1) g_l1_2 c7)
    refine lv_iload_n C.1 C.2.1 dX1_settle_10 rfl (lv_at hl 1 rfl) ?_
    refine lv_bipush (v := zI 40) C.1 C.2.1 dX1_settle_11 (by decide) ?_
    refine lv_icmp_ge (tgt := 29) C.1 C.2.1 dX1_settle_13 (by decide) (fun c13 => ?_) (fun c13 => ?_)
    · have hw := hw.1 (z_le (show rng 40 from by decide) g_l1_2 c13)
      exact J29  _ _ _ ⟨hw, Wd, lv_sub hl [0] rfl⟩
    · have hw := hw.2 (z_nle (show rng 40 from by decide) g_l1_2 c13)
      refine lv_aload_n C.1 C.2.1 dX1_settle_16 rfl (lv_at hl 0 rfl) ?_
      refine k_get (v := .ref (ad 97)) C Wd.1 KX1 _ 10 (cx88 _) (by decide) fl_X1_45 rfl dX1_settle_17 ?_
      refine lv_iload_n C.1 C.2.1 dX1_settle_20 rfl (lv_at hl 1 rfl) ?_
      refine lv_iconst (v := zI 0) C.1 C.2.1 dX1_settle_21 (by decide) ?_
      obtain ⟨n22_0, hw⟩ := hw
      refine k_iastF (g := (σ2.2.1 97)) (i := l1_2) (v := 0) C Wd 97 (by decide) (cx97 _) (fun f => cx97a _ f) (tC_at (by decide) rfl) n22_0 (by decide) (ruZ (fun j => Wd.2.1.2.1 97 j) (show rng 0 from by decide)) dX1_settle_22 (fun H locs Wd => ?_)
      refine lv_iinc (v := zI (l1_2 + 1)) (lv' := [(1, .int (zI (l1_2 + 1))), (0, .ref (ad 88))]) C.1 C.2.1 dX1_settle_23 hl (k := 1) rfl (zI_inc _ _ (by decide)) (by decide) rfl (fun ls hl => ?_)
      replace hl := lv_sub hl [1, 0] rfl
      refine lv_goto (tgt := 2) C.1 C.2.1 dX1_settle_26 (by decide) ?_
      obtain ⟨g26_27, hw⟩ := hw
      exact hL2 _ _ hw _ _ _ ⟨g26_27, Wd, lv_sub hl [0, 1] rfl⟩
set_option maxHeartbeats 4000000 in
set_option maxRecDepth 100000 in
theorem mk_F_trace_88 : ∀ (D : va_G) (ad : Nat → Nat) (ca : Nat → ClassId) (rf : Nat → Nat → Option Nat) (σ : Sg) (hS : rngK σ) (hRF : RFok ad rf) (x0 : Int) (g_x0 : 0 ≤ x0 ∧ x0 < 35) (K : Sg → Prop) (hw : wp5_F_trace σ 88 x0 K) (l : Launch) (sz : Nat), Met l yX1_trace (Cond.code yX1_trace cX1_trace 2 none :: gG) { frames := 4, cells := 0, slots := 0, locals := 131 } (cPre D (tC ca) (wK ad ca rf σ) sz [.ref (ad 88), .ref (ad (rowC x0.toNat))]) (va_Qv (fun (u : Sg) => K u ∧ rngK u) (fun u t => cB D (va_A (wK ad ca rf σ) sz) [] (wK ad ca rf u) t) (va_A (wK ad ca rf σ) sz)) 0 0 (va_A (wK ad ca rf σ) sz) := by
  intro D ad ca rf σ hS hRF x0 g_x0 K hw l sz
  refine Met.ofW (cc := cX1_trace) (maxL := 2) (ret := none) (by decide) rfl ?_
  intro p e s m args below meth c s₁ B hml hv
  obtain ⟨rfl, aks, rfl, Wd⟩ := k_enter hv
  have C : CallFix p m c cX1_trace 2 s _ gG RX1 := ⟨B.exec, B.bytes, hml, findClass_of_methodNamed B.named, fun w h => atoms_spec (ws := Cond.code yX1_trace cX1_trace 2 none :: gG) B.pre w (List.mem_cons_of_mem _ h)⟩
  have hr := B.returns
  have hlk := B.notSynchronized
  generalize va_A (wK ad ca rf σ) s.heap.size = A at Wd ⊢
  replace Wd : wXK D ad ca rf s σ s.heap A s.heap [] := ⟨Wd, hS, hRF⟩
  refine k_locals (Nat.le_of_ble_eq_true rfl) [(0, .ref (ad 88)), (1, .ref (ad (rowC x0.toNat)))] rfl (fun ls hl => ?_)
  unfold wp5_F_trace at hw
  refine lv_aload_n C.1 C.2.1 dX1_trace_0 rfl (lv_at hl 0 rfl) ?_
  refine lv_aload_n C.1 C.2.1 dX1_trace_1 rfl (lv_at hl 1 rfl) ?_
  refine k_putW88 (n := x0) C Wd g_x0 fl_X1_14 dX1_trace_2 (fun H locs Wd => ?_)
  refine lv_aload_n C.1 C.2.1 dX1_trace_5 rfl (lv_at hl 0 rfl) ?_
  refine k_cKv Wd (k_runVK (rest := []) C aks Wd cs_X1_61 (mk_F_number_88 D ad ca rf (pU σ 88 0 x0) Wd.2.1 Wd.2.2   _ hw l _) (cx88 _) rfl rfl rfl rfl ⟨(Nat.le_of_ble_eq_true rfl), (Nat.le_of_ble_eq_true rfl)⟩ hl.1 rfl rfl (Nat.le_of_ble_eq_true rfl) ⟨(Nat.le_of_ble_eq_true rfl), (Nat.le_of_ble_eq_true rfl)⟩ dX1_trace_6) (fun σr6 H locs hw Wd => ?_)
  have hS_σr6 := Wd.2.1
  refine lv_aload_n C.1 C.2.1 dX1_trace_9 rfl (lv_at hl 0 rfl) ?_
  refine k_cKv Wd (k_runVK (rest := []) C aks Wd cs_X1_64 (mk_F_link_88 D ad ca rf σr6 Wd.2.1 Wd.2.2   _ hw l _) (cx88 _) rfl rfl rfl rfl ⟨(Nat.le_of_ble_eq_true rfl), (Nat.le_of_ble_eq_true rfl)⟩ hl.1 rfl rfl (Nat.le_of_ble_eq_true rfl) ⟨(Nat.le_of_ble_eq_true rfl), (Nat.le_of_ble_eq_true rfl)⟩ dX1_trace_10) (fun σr10 H locs hw Wd => ?_)
  have hS_σr10 := Wd.2.1
  refine lv_aload_n C.1 C.2.1 dX1_trace_13 rfl (lv_at hl 0 rfl) ?_
  refine k_cKv Wd (k_runVK (rest := []) C aks Wd cs_X1_67 (mk_F_settle_88 D ad ca rf σr10 Wd.2.1 Wd.2.2   _ hw l _) (cx88 _) rfl rfl rfl rfl ⟨(Nat.le_of_ble_eq_true rfl), (Nat.le_of_ble_eq_true rfl)⟩ hl.1 rfl rfl (Nat.le_of_ble_eq_true rfl) ⟨(Nat.le_of_ble_eq_true rfl), (Nat.le_of_ble_eq_true rfl)⟩ dX1_trace_14) (fun σr14 H locs hw Wd => ?_)
  have hS_σr14 := Wd.2.1
  exact k_retKv C hr hlk Wd hw dX1_trace_17
