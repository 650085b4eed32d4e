set_option maxHeartbeats 4000000 in
set_option maxRecDepth 100000 in
theorem mt_runs : ∀ (D : va_G) (h : Nat) (ad : Nat → Nat) (ca : Nat → ClassId) (I : Nat → Int) (F : Nat → Int → Int) (hS : rngS I F) (x0 : Int) (x1 : Int) (g_x0 : rng x0) (g_x1 : rng x1) (K : (Int → Int) → (Int → Int) → Int → Int → Int → Int → Prop) (hw : wp_runs (F 2) (I 4) (F 28) (F 29) (I 30) (I 31) (I 32) (I 33) x0 x1 K) (l : Launch) (sz : Nat), Met l yX12_runs (Cond.code yX12_runs cX12_runs 4 none :: gG) { frames := 710, cells := 0, slots := 0, locals := 15314 } (cPre D (tM ca) (wM h ad ca I F) sz [.ref h, .int (zI x0), .int (zI x1)]) (va_Qv (fun (u : (Int → Int) × (Int → Int) × (Int) × (Int) × (Int) × (Int)) => K u.1 u.2.1 u.2.2.1 u.2.2.2.1 u.2.2.2.2.1 u.2.2.2.2.2 ∧ rngS (sI (sI (sI (sI I 30 u.2.2.1) 31 u.2.2.2.1) 32 u.2.2.2.2.1) 33 u.2.2.2.2.2) (sF (sF F 28 u.1) 29 u.2.1)) (fun u t => cB D (va_A (wM h ad ca I F) sz) [] (wM h ad ca (sI (sI (sI (sI I 30 u.2.2.1) 31 u.2.2.2.1) 32 u.2.2.2.2.1) 33 u.2.2.2.2.2) (sF (sF F 28 u.1) 29 u.2.1)) t) (va_A (wM h ad ca I F) sz)) 0 0 (va_A (wM h ad ca I F) sz) := by
  intro D h ad ca I F hS x0 x1 g_x0 g_x1 K hw l sz
  refine Met.ofW (cc := cX12_runs) (maxL := 4) (ret := none) (by decide) rfl ?_
  intro p e s m args below meth c s₁ B hml hv
  obtain ⟨rfl, aks, rfl, Wd⟩ := k_enter hv
  have C : CallFix p m c cX12_runs 4 s _ gG RX12 := ⟨B.exec, B.bytes, hml, findClass_of_methodNamed B.named, fun w h => atoms_spec (ws := Cond.code yX12_runs cX12_runs 4 none :: gG) B.pre w (List.mem_cons_of_mem _ h)⟩
  have hr := B.returns
  have hlk := B.notSynchronized
  generalize va_A (wM h ad ca I F) s.heap.size = A at Wd ⊢
  replace Wd : wXM D ca s h ad I F s.heap A s.heap [] := ⟨Wd, hS⟩
  refine k_locals (Nat.le_of_ble_eq_true rfl) [(0, .ref h), (1, .int (zI x0)), (2, .int (zI x1))] rfl (fun ls hl => ?_)
  unfold wp_runs at hw
  refine lv_iconst (v := zI 0) C.1 C.2.1 dX12_runs_0 (by decide) ?_
  refine lv_istore_n (lv' := [(3, .int (zI 0)), (0, .ref h), (1, .int (zI x0)), (2, .int (zI x1))]) C.1 C.2.1 dX12_runs_1 rfl hl (by decide) rfl (fun ls hl => ?_)
  replace hl := lv_sub hl [1, 2, 3, 0] rfl
  refine k_lp2 hw (fun (l3_2 : Int) (holds_2 : Int → Int) H locs ls => rng l3_2 ∧ wXM D ca s h ad I (sF F 28 holds_2) H A s.heap locs ∧ lv_has ls 4 [(0, .ref h), (1, .int (zI x0)), (2, .int (zI x1)), (3, .int (zI l3_2))]) (fun (l3_2 : Int) (holds_2 : Int → Int) ls => F0 m 2 ls []) (fun L2 hL2 l3_2 holds_2 hw H locs ls hi => ?_) _ _ _ ⟨(show rng 0 from by decide), wMc Wd rfl rfl ⟨hS.1, (rsF hS.2 (hS.2 28))⟩, lv_sub hl [0, 1, 2, 3] rfl⟩
  obtain ⟨g_l3_2, Wd, hl⟩ := hi
  have Wd2 := Wd
  unfold wp_runs_2 at hw
  refine lv_iload_n C.1 C.2.1 dX12_runs_2 rfl (lv_at hl 3 rfl) ?_
  refine lv_bipush (v := zI 6) C.1 C.2.1 dX12_runs_3 (by decide) ?_
  refine lv_icmp_ge (tgt := 38) C.1 C.2.1 dX12_runs_5 (by decide) (fun c5 => ?_) (fun c5 => ?_)
  · have hw := hw.1 (z_le (show rng 6 from by decide) g_l3_2 c5)
    refine lv_aload_n C.1 C.2.1 dX12_runs_38 rfl (lv_at hl 0 rfl) ?_
    refine lv_iconst (v := zI 0) C.1 C.2.1 dX12_runs_39 (by decide) ?_
    refine k_putM C Wd 30 (sI I 30 0) (by decide) fl_X12_291 rfl rfl rfl rfl (rsI hS.1 (show rng 0 from by decide)) dX12_runs_40 (fun H locs Wd => ?_)
    refine lv_aload_n C.1 C.2.1 dX12_runs_43 rfl (lv_at hl 0 rfl) ?_
    refine lv_iconst (v := zI 0) C.1 C.2.1 dX12_runs_44 (by decide) ?_
    refine k_putM C Wd 31 (sI (sI I 30 0) 31 0) (by decide) fl_X12_294 rfl rfl rfl rfl (rsI (rsI hS.1 (show rng 0 from by decide)) (show rng 0 from by decide)) dX12_runs_45 (fun H locs Wd => ?_)
    refine lv_aload_n C.1 C.2.1 dX12_runs_48 rfl (lv_at hl 0 rfl) ?_
    refine lv_iconst (v := zI 0) C.1 C.2.1 dX12_runs_49 (by decide) ?_
    refine k_putM C Wd 32 (sI (sI (sI I 30 0) 31 0) 32 0) (by decide) fl_X12_312 rfl rfl rfl rfl (rsI (rsI (rsI hS.1 (show rng 0 from by decide)) (show rng 0 from by decide)) (show rng 0 from by decide)) dX12_runs_50 (fun H locs Wd => ?_)
    refine lv_aload_n C.1 C.2.1 dX12_runs_53 rfl (lv_at hl 0 rfl) ?_
    refine lv_iconst (v := zI 0) C.1 C.2.1 dX12_runs_54 (by decide) ?_
    refine k_cMi Wd (k_runVM (rest := []) C aks Wd cs_X12_306 (mt_does D h ad ca (sI (sI (sI I 30 0) 31 0) 32 0) (sF F 28 holds_2) Wd.2 0 (show rng 0 from by decide) _ hw l _) rfl rfl ⟨(Nat.le_of_ble_eq_true rfl), (Nat.le_of_ble_eq_true rfl)⟩ hl.1 rfl rfl (Nat.le_of_ble_eq_true rfl) ⟨(Nat.le_of_ble_eq_true rfl), (Nat.le_of_ble_eq_true rfl)⟩ dX12_runs_55) (fun r55 u55 H locs g_r55 hw Wd => ?_)
    obtain ⟨holds_r55, outs_r55, steps_r55, ending_r55, outMany_r55, cursor_r55⟩ := u55
    dsimp only at hw
    have Wc55 := Wd
    have Wd : wXM D ca s h ad (sI (sI (sI (sI I 30 steps_r55) 31 ending_r55) 32 outMany_r55) 33 cursor_r55) (sF (sF F 28 holds_r55) 29 outs_r55) H A s.heap locs := wMc Wd rfl rfl ⟨(rsI (rsI (rsI (rsI hS.1 (Wc55.2.1 30)) (Wc55.2.1 31)) (Wc55.2.1 32)) (Wc55.2.1 33)), (rsF (rsF hS.2 (fun j => Wc55.2.2 28 j)) (fun j => Wc55.2.2 29 j))⟩
    refine lv_pop C.1 C.2.1 dX12_runs_58 rfl ?_
    exact k_retMv C hr hlk Wd (u := (holds_r55, outs_r55, steps_r55, ending_r55, outMany_r55, cursor_r55)) rfl rfl ⟨hw, ⟨(rsI (rsI (rsI (rsI hS.1 (Wc55.2.1 30)) (Wc55.2.1 31)) (Wc55.2.1 32)) (Wc55.2.1 33)), (rsF (rsF hS.2 (fun j => Wc55.2.2 28 j)) (fun j => Wc55.2.2 29 j))⟩⟩ dX12_runs_59
  · have hw := hw.2 (z_nle (show rng 6 from by decide) g_l3_2 c5)
    refine lv_aload_n C.1 C.2.1 dX12_runs_8 rfl (lv_at hl 0 rfl) ?_
    refine k_get (v := .ref (ad 28)) C Wd.1 KX12 0 28 wM0 (by decide) fl_X12_41 rfl dX12_runs_9 ?_
    refine lv_iload_n C.1 C.2.1 dX12_runs_12 rfl (lv_at hl 3 rfl) ?_
    refine lv_iload_n C.1 C.2.1 dX12_runs_13 rfl (lv_at hl 3 rfl) ?_
    refine lv_if_ne (tgt := 21) C.1 C.2.1 dX12_runs_14 (by decide) (fun c14 => ?_) (fun c14 => ?_)
    · have hw := hw.1 (z0_ne g_l3_2 c14)
      refine lv_iload_n C.1 C.2.1 dX12_runs_21 rfl (lv_at hl 3 rfl) ?_
      refine lv_iconst (v := zI 1) C.1 C.2.1 dX12_runs_22 (by decide) ?_
      refine lv_icmp_ne (tgt := 30) C.1 C.2.1 dX12_runs_23 (by decide) (fun c23 => ?_) (fun c23 => ?_)
      · have hw := hw.1 (z_ne g_l3_2 (show rng 1 from by decide) c23)
        refine lv_iconst (v := zI 0) C.1 C.2.1 dX12_runs_30 (by decide) ?_
        obtain ⟨a31, hw⟩ := hw
        have q31 : ∀ j : Nat, rng ((uZ holds_2 l3_2 0) j) := ruZ (fun j => Wd2.2.2 28 j) (show rng 0 from by decide)
        refine k_iastM (g := holds_2) C Wd 9 9 (sF F 28 (uZ holds_2 l3_2 0)) rfl rfl a31 (by decide) rfl rfl (rsF hS.2 q31) dX12_runs_31 (fun H locs Wd => ?_)
        refine lv_iinc (v := zI (l3_2 + 1)) (lv' := [(3, .int (zI (l3_2 + 1))), (0, .ref h), (1, .int (zI x0)), (2, .int (zI x1))]) C.1 C.2.1 dX12_runs_32 hl (k := 3) rfl (zI_inc _ _ (by decide)) (by decide) rfl (fun ls hl => ?_)
        replace hl := lv_sub hl [1, 2, 3, 0] rfl
        refine lv_goto (tgt := 2) C.1 C.2.1 dX12_runs_35 (by decide) ?_
        obtain ⟨g35_0, hw⟩ := hw
        exact hL2 _ _ hw _ _ _ ⟨g35_0, wMc Wd rfl rfl ⟨hS.1, (rsF hS.2 q31)⟩, lv_sub hl [0, 1, 2, 3] rfl⟩
      · have hw := hw.2 (z_eq g_l3_2 (show rng 1 from by decide) c23)
        refine lv_iload_n C.1 C.2.1 dX12_runs_26 rfl (lv_at hl 2 rfl) ?_
        refine lv_goto (tgt := 31) C.1 C.2.1 dX12_runs_27 (by decide) ?_
        obtain ⟨a31, hw⟩ := hw
        have q31 : ∀ j : Nat, rng ((uZ holds_2 l3_2 x1) j) := ruZ (fun j => Wd2.2.2 28 j) g_x1
        refine k_iastM (g := holds_2) C Wd 9 9 (sF F 28 (uZ holds_2 l3_2 x1)) rfl rfl a31 (by decide) rfl rfl (rsF hS.2 q31) dX12_runs_31 (fun H locs Wd => ?_)
        refine lv_iinc (v := zI (l3_2 + 1)) (lv' := [(3, .int (zI (l3_2 + 1))), (0, .ref h), (1, .int (zI x0)), (2, .int (zI x1))]) C.1 C.2.1 dX12_runs_32 hl (k := 3) rfl (zI_inc _ _ (by decide)) (by decide) rfl (fun ls hl => ?_)
        replace hl := lv_sub hl [1, 2, 3, 0] rfl
        refine lv_goto (tgt := 2) C.1 C.2.1 dX12_runs_35 (by decide) ?_
        obtain ⟨g35_0, hw⟩ := hw
        exact hL2 _ _ hw _ _ _ ⟨g35_0, wMc Wd rfl rfl ⟨hS.1, (rsF hS.2 q31)⟩, lv_sub hl [0, 1, 2, 3] rfl⟩
    · have hw := hw.2 (z0_eq g_l3_2 c14)
      refine lv_iload_n C.1 C.2.1 dX12_runs_17 rfl (lv_at hl 1 rfl) ?_
      refine lv_goto (tgt := 31) C.1 C.2.1 dX12_runs_18 (by decide) ?_
      obtain ⟨a31, hw⟩ := hw
      have q31 : ∀ j : Nat, rng ((uZ holds_2 l3_2 x0) j) := ruZ (fun j => Wd2.2.2 28 j) g_x0
      refine k_iastM (g := holds_2) C Wd 9 9 (sF F 28 (uZ holds_2 l3_2 x0)) rfl rfl a31 (by decide) rfl rfl (rsF hS.2 q31) dX12_runs_31 (fun H locs Wd => ?_)
      refine lv_iinc (v := zI (l3_2 + 1)) (lv' := [(3, .int (zI (l3_2 + 1))), (0, .ref h), (1, .int (zI x0)), (2, .int (zI x1))]) C.1 C.2.1 dX12_runs_32 hl (k := 3) rfl (zI_inc _ _ (by decide)) (by decide) rfl (fun ls hl => ?_)
      replace hl := lv_sub hl [1, 2, 3, 0] rfl
      refine lv_goto (tgt := 2) C.1 C.2.1 dX12_runs_35 (by decide) ?_
      obtain ⟨g35_0, hw⟩ := hw
      exact hL2 _ _ hw _ _ _ ⟨g35_0, wMc Wd rfl rfl ⟨hS.1, (rsF hS.2 q31)⟩, lv_sub hl [0, 1, 2, 3] rfl⟩
set_option maxHeartbeats 4000000 in
set_option maxRecDepth 100000 in
theorem mt_run : ∀ (D : va_G) (h : Nat) (ad : Nat → Nat) (ca : Nat → ClassId) (I : Nat → Int) (F : Nat → Int → Int) (hS : rngS I F) (x0 : Int) (x1 : Int) (x2 : Int) (x3 : Int) (g_x0 : rng x0) (g_x1 : rng x1) (g_x2 : rng x2) (g_x3 : rng x3) (K : Int → (Int → Int) → Int → (Int → Int) → (Int → Int) → Int → Int → Int → Int → Prop) (hw : wp_run (F 0) (F 1) (F 2) (I 4) (F 28) (F 29) (I 30) (I 31) (I 32) (I 33) x0 x1 x2 x3 K) (l : Launch) (sz : Nat), Met l yX12_run (Cond.code yX12_run cX12_run 5 (some .int) :: gG) { frames := 711, cells := 0, slots := 0, locals := 15337 } (cPre D (tM ca) (wM h ad ca I F) sz [.ref h, .int (zI x0), .int (zI x1), .int (zI x2), .int (zI x3)]) (va_Qi (fun (r : Int32) (u : (Int → Int) × (Int) × (Int → Int) × (Int → Int) × (Int) × (Int) × (Int) × (Int)) => (∃ x : Int, r = zI x ∧ rng x ∧ K x u.1 u.2.1 u.2.2.1 u.2.2.2.1 u.2.2.2.2.1 u.2.2.2.2.2.1 u.2.2.2.2.2.2.1 u.2.2.2.2.2.2.2) ∧ rngS (sI (sI (sI (sI (sI I 4 u.2.1) 30 u.2.2.2.2.1) 31 u.2.2.2.2.2.1) 32 u.2.2.2.2.2.2.1) 33 u.2.2.2.2.2.2.2) (sF (sF (sF F 2 u.1) 28 u.2.2.1) 29 u.2.2.2.1)) (fun u t => cB D (va_A (wM h ad ca I F) sz) [] (wM h ad ca (sI (sI (sI (sI (sI I 4 u.2.1) 30 u.2.2.2.2.1) 31 u.2.2.2.2.2.1) 32 u.2.2.2.2.2.2.1) 33 u.2.2.2.2.2.2.2) (sF (sF (sF F 2 u.1) 28 u.2.2.1) 29 u.2.2.2.1)) t) (va_A (wM h ad ca I F) sz)) 0 0 (va_A (wM h ad ca I F) sz) := by
  intro D h ad ca I F hS x0 x1 x2 x3 g_x0 g_x1 g_x2 g_x3 K hw l sz
  refine Met.ofW (cc := cX12_run) (maxL := 5) (ret := (some .int)) (by decide) rfl ?_
  intro p e s m args below meth c s₁ B hml hv
  obtain ⟨rfl, aks, rfl, Wd⟩ := k_enter hv
  have C : CallFix p m c cX12_run 5 s _ gG RX12 := ⟨B.exec, B.bytes, hml, findClass_of_methodNamed B.named, fun w h => atoms_spec (ws := Cond.code yX12_run cX12_run 5 (some .int) :: gG) B.pre w (List.mem_cons_of_mem _ h)⟩
  have hr := B.returns
  have hlk := B.notSynchronized
  generalize va_A (wM h ad ca I F) s.heap.size = A at Wd ⊢
  replace Wd : wXM D ca s h ad I F s.heap A s.heap [] := ⟨Wd, hS⟩
  refine k_locals (Nat.le_of_ble_eq_true rfl) [(0, .ref h), (1, .int (zI x0)), (2, .int (zI x1)), (3, .int (zI x2)), (4, .int (zI x3))] rfl (fun ls hl => ?_)
  unfold wp_run at hw
  refine lv_iload_n C.1 C.2.1 dX12_run_0 rfl (lv_at hl 1 rfl) ?_
  refine k_pi (k_runS (rest := []) C aks Wd.1 cs_X12_249 (mt_isSlot D x0 g_x0 _ hw l _) [] rfl (by decide) [] rfl rfl rfl ⟨(Nat.le_of_ble_eq_true rfl), (Nat.le_of_ble_eq_true rfl)⟩ hl.1 rfl rfl (Nat.le_of_ble_eq_true rfl) ⟨(Nat.le_of_ble_eq_true rfl), (Nat.le_of_ble_eq_true rfl)⟩ dX12_run_1) (fun y1 hy => ?_)
  obtain ⟨r1, rfl, g_r1, hw⟩ := hy
  refine lv_if_eq (tgt := 27) C.1 C.2.1 dX12_run_4 (by decide) (fun c4 => ?_) (fun c4 => ?_)
  · have hw := hw.1 (z0_eq g_r1 c4)
    refine lv_iconst (v := zI (-1)) C.1 C.2.1 dX12_run_27 (by decide) ?_
    exact k_retMi C hr hlk rfl Wd (u := ((F 2), (I 4), (F 28), (F 29), (I 30), (I 31), (I 32), (I 33))) rfl rfl ⟨⟨_, rfl, (show rng (-1) from by decide), hw⟩, ⟨(rsI (rsI (rsI (rsI (rsI hS.1 (hS.1 4)) (hS.1 30)) (hS.1 31)) (hS.1 32)) (hS.1 33)), (rsF (rsF (rsF hS.2 (hS.2 2)) (hS.2 28)) (hS.2 29))⟩⟩ dX12_run_28
  · have hw := hw.2 (z0_ne g_r1 c4)
    refine lv_iload_n C.1 C.2.1 dX12_run_7 rfl (lv_at hl 2 rfl) ?_
    refine lv_iconst (v := zI 0) C.1 C.2.1 dX12_run_8 (by decide) ?_
    refine lv_bipush (v := zI 15) C.1 C.2.1 dX12_run_9 (by decide) ?_
    refine k_pi (k_runS (rest := []) C aks Wd.1 cs_X12_90 (mt_isIn D x1 0 15 g_x1 (show rng 0 from by decide) (show rng 15 from by decide) _ hw l _) [] rfl (by decide) [] rfl rfl rfl ⟨(Nat.le_of_ble_eq_true rfl), (Nat.le_of_ble_eq_true rfl)⟩ hl.1 rfl rfl (Nat.le_of_ble_eq_true rfl) ⟨(Nat.le_of_ble_eq_true rfl), (Nat.le_of_ble_eq_true rfl)⟩ dX12_run_11) (fun y11 hy => ?_)
    obtain ⟨r11, rfl, g_r11, hw⟩ := hy
    refine lv_if_eq (tgt := 27) C.1 C.2.1 dX12_run_14 (by decide) (fun c14 => ?_) (fun c14 => ?_)
    · have hw := hw.1 (z0_eq g_r11 c14)
      refine lv_iconst (v := zI (-1)) C.1 C.2.1 dX12_run_27 (by decide) ?_
      exact k_retMi C hr hlk rfl Wd (u := ((F 2), (I 4), (F 28), (F 29), (I 30), (I 31), (I 32), (I 33))) rfl rfl ⟨⟨_, rfl, (show rng (-1) from by decide), hw⟩, ⟨(rsI (rsI (rsI (rsI (rsI hS.1 (hS.1 4)) (hS.1 30)) (hS.1 31)) (hS.1 32)) (hS.1 33)), (rsF (rsF (rsF hS.2 (hS.2 2)) (hS.2 28)) (hS.2 29))⟩⟩ dX12_run_28
    · have hw := hw.2 (z0_ne g_r11 c14)
      refine lv_iload_n C.1 C.2.1 dX12_run_17 rfl (lv_at hl 3 rfl) ?_
      refine lv_iconst (v := zI 0) C.1 C.2.1 dX12_run_18 (by decide) ?_
      refine lv_bipush (v := zI 15) C.1 C.2.1 dX12_run_19 (by decide) ?_
      refine k_pi (k_runS (rest := []) C aks Wd.1 cs_X12_90 (mt_isIn D x2 0 15 g_x2 (show rng 0 from by decide) (show rng 15 from by decide) _ hw l _) [] rfl (by decide) [] rfl rfl rfl ⟨(Nat.le_of_ble_eq_true rfl), (Nat.le_of_ble_eq_true rfl)⟩ hl.1 rfl rfl (Nat.le_of_ble_eq_true rfl) ⟨(Nat.le_of_ble_eq_true rfl), (Nat.le_of_ble_eq_true rfl)⟩ dX12_run_21) (fun y21 hy => ?_)
      obtain ⟨r21, rfl, g_r21, hw⟩ := hy
      refine lv_if_ne (tgt := 29) C.1 C.2.1 dX12_run_24 (by decide) (fun c24 => ?_) (fun c24 => ?_)
      · have hw := hw.1 (z0_ne g_r21 c24)
        refine lv_aload_n C.1 C.2.1 dX12_run_29 rfl (lv_at hl 0 rfl) ?_
        refine lv_iload_n C.1 C.2.1 dX12_run_30 rfl (lv_at hl 1 rfl) ?_
        refine k_cMv Wd (k_runVM (rest := []) C aks Wd cs_X12_271 (mt_takes D h ad ca I F Wd.2 x0 g_x0 _ hw l _) rfl rfl ⟨(Nat.le_of_ble_eq_true rfl), (Nat.le_of_ble_eq_true rfl)⟩ hl.1 rfl rfl (Nat.le_of_ble_eq_true rfl) ⟨(Nat.le_of_ble_eq_true rfl), (Nat.le_of_ble_eq_true rfl)⟩ dX12_run_31) (fun u31 H locs hw Wd => ?_)
        obtain ⟨row_r31, many_r31⟩ := u31
        dsimp only at hw
        have Wc31 := Wd
        have Wd : wXM D ca s h ad (sI I 4 many_r31) (sF F 2 row_r31) H A s.heap locs := wMc Wd rfl rfl ⟨(rsI hS.1 (Wc31.2.1 4)), (rsF hS.2 (fun j => Wc31.2.2 2 j))⟩
        refine lv_aload_n C.1 C.2.1 dX12_run_34 rfl (lv_at hl 0 rfl) ?_
        refine lv_iload_n C.1 C.2.1 dX12_run_35 rfl (lv_at hl 2 rfl) ?_
        refine lv_iload_n C.1 C.2.1 dX12_run_36 rfl (lv_at hl 3 rfl) ?_
        refine k_cMv Wd (k_runVM (rest := []) C aks Wd cs_X12_315 (mt_runs D h ad ca (sI I 4 many_r31) (sF F 2 row_r31) Wd.2 x1 x2 g_x1 g_x2 _ hw l _) rfl rfl ⟨(Nat.le_of_ble_eq_true rfl), (Nat.le_of_ble_eq_true rfl)⟩ hl.1 rfl rfl (Nat.le_of_ble_eq_true rfl) ⟨(Nat.le_of_ble_eq_true rfl), (Nat.le_of_ble_eq_true rfl)⟩ dX12_run_37) (fun u37 H locs hw Wd => ?_)
        obtain ⟨holds_r37, outs_r37, steps_r37, ending_r37, outMany_r37, cursor_r37⟩ := u37
        dsimp only at hw
        have Wc37 := Wd
        have Wd : wXM D ca s h ad (sI (sI (sI (sI (sI I 4 many_r31) 30 steps_r37) 31 ending_r37) 32 outMany_r37) 33 cursor_r37) (sF (sF (sF F 2 row_r31) 28 holds_r37) 29 outs_r37) H A s.heap locs := wMc Wd rfl rfl ⟨(rsI (rsI (rsI (rsI (rsI hS.1 (Wc31.2.1 4)) (Wc37.2.1 30)) (Wc37.2.1 31)) (Wc37.2.1 32)) (Wc37.2.1 33)), (rsF (rsF (rsF hS.2 (fun j => Wc31.2.2 2 j)) (fun j => Wc37.2.2 28 j)) (fun j => Wc37.2.2 29 j))⟩
        refine lv_iload C.1 C.2.1 dX12_run_40 (lv_at hl 4 rfl) ?_
        refine lv_bipush (v := zI 10) C.1 C.2.1 dX12_run_42 (by decide) ?_
        refine lv_bipush (v := zI 15) C.1 C.2.1 dX12_run_44 (by decide) ?_
        refine k_pi (k_runS (rest := []) C aks Wd.1 cs_X12_90 (mt_isIn D x3 10 15 g_x3 (show rng 10 from by decide) (show rng 15 from by decide) _ hw l _) [] rfl (by decide) [] rfl rfl rfl ⟨(Nat.le_of_ble_eq_true rfl), (Nat.le_of_ble_eq_true rfl)⟩ hl.1 rfl rfl (Nat.le_of_ble_eq_true rfl) ⟨(Nat.le_of_ble_eq_true rfl), (Nat.le_of_ble_eq_true rfl)⟩ dX12_run_46) (fun y46 hy => ?_)
        obtain ⟨r46, rfl, g_r46, hw⟩ := hy
        refine lv_if_eq (tgt := 63) C.1 C.2.1 dX12_run_49 (by decide) (fun c49 => ?_) (fun c49 => ?_)
        · have hw := hw.1 (z0_eq g_r46 c49)
          refine lv_iload C.1 C.2.1 dX12_run_63 (lv_at hl 4 rfl) ?_
          refine lv_bipush (v := zI 100) C.1 C.2.1 dX12_run_65 (by decide) ?_
          refine lv_bipush (v := zI 99) C.1 C.2.1 dX12_run_67 (by decide) ?_
          refine lv_aload_n C.1 C.2.1 dX12_run_69 rfl (lv_at hl 0 rfl) ?_
          refine k_get (v := .int (zI outMany_r37)) C Wd.1 KX12 0 32 wM0 (by decide) fl_X12_312 rfl dX12_run_70 ?_
          refine k_iadd (v := zI (99 + outMany_r37)) C (zI_iadd _ _) dX12_run_73 ?_
          obtain ⟨g74_0, hw⟩ := hw
          refine k_pi (k_runS (rest := []) C aks Wd.1 cs_X12_90 (mt_isIn D x3 100 (99 + outMany_r37) g_x3 (show rng 100 from by decide) g74_0 _ hw l _) [] rfl (by decide) [] rfl rfl rfl ⟨(Nat.le_of_ble_eq_true rfl), (Nat.le_of_ble_eq_true rfl)⟩ hl.1 rfl rfl (Nat.le_of_ble_eq_true rfl) ⟨(Nat.le_of_ble_eq_true rfl), (Nat.le_of_ble_eq_true rfl)⟩ dX12_run_74) (fun y74 hy => ?_)
          obtain ⟨r74, rfl, g_r74, hw⟩ := hy
          refine lv_if_eq (tgt := 91) C.1 C.2.1 dX12_run_77 (by decide) (fun c77 => ?_) (fun c77 => ?_)
          · have hw := hw.1 (z0_eq g_r74 c77)
            refine lv_iload C.1 C.2.1 dX12_run_91 (lv_at hl 4 rfl) ?_
            refine lv_if_ne (tgt := 103) C.1 C.2.1 dX12_run_93 (by decide) (fun c93 => ?_) (fun c93 => ?_)
            · have hw := hw.1 (z0_ne g_x3 c93)
              refine lv_iload C.1 C.2.1 dX12_run_103 (lv_at hl 4 rfl) ?_
              refine lv_iconst (v := zI 1) C.1 C.2.1 dX12_run_105 (by decide) ?_
              refine lv_icmp_ne (tgt := 116) C.1 C.2.1 dX12_run_106 (by decide) (fun c106 => ?_) (fun c106 => ?_)
              · have hw := hw.1 (z_ne g_x3 (show rng 1 from by decide) c106)
                refine lv_iload C.1 C.2.1 dX12_run_116 (lv_at hl 4 rfl) ?_
                refine lv_iconst (v := zI 2) C.1 C.2.1 dX12_run_118 (by decide) ?_
                refine lv_icmp_ne (tgt := 129) C.1 C.2.1 dX12_run_119 (by decide) (fun c119 => ?_) (fun c119 => ?_)
                · have hw := hw.1 (z_ne g_x3 (show rng 2 from by decide) c119)
                  refine lv_iconst (v := zI (-1)) C.1 C.2.1 dX12_run_129 (by decide) ?_
                  exact k_retMi C hr hlk rfl Wd (u := (row_r31, many_r31, holds_r37, outs_r37, steps_r37, ending_r37, outMany_r37, cursor_r37)) rfl rfl ⟨⟨_, rfl, (show rng (-1) from by decide), hw⟩, ⟨(rsI (rsI (rsI (rsI (rsI hS.1 (Wc31.2.1 4)) (Wc37.2.1 30)) (Wc37.2.1 31)) (Wc37.2.1 32)) (Wc37.2.1 33)), (rsF (rsF (rsF hS.2 (fun j => Wc31.2.2 2 j)) (fun j => Wc37.2.2 28 j)) (fun j => Wc37.2.2 29 j))⟩⟩ dX12_run_130
                · have hw := hw.2 (z_eq g_x3 (show rng 2 from by decide) c119)
                  refine lv_aload_n C.1 C.2.1 dX12_run_122 rfl (lv_at hl 0 rfl) ?_
                  refine k_get (v := .int (zI outMany_r37)) C Wd.1 KX12 0 32 wM0 (by decide) fl_X12_312 rfl dX12_run_123 ?_
                  refine lv_goto (tgt := 130) C.1 C.2.1 dX12_run_126 (by decide) ?_
                  exact k_retMi C hr hlk rfl Wd (u := (row_r31, many_r31, holds_r37, outs_r37, steps_r37, ending_r37, outMany_r37, cursor_r37)) rfl rfl ⟨⟨_, rfl, (Wc37.2.1 32), hw⟩, ⟨(rsI (rsI (rsI (rsI (rsI hS.1 (Wc31.2.1 4)) (Wc37.2.1 30)) (Wc37.2.1 31)) (Wc37.2.1 32)) (Wc37.2.1 33)), (rsF (rsF (rsF hS.2 (fun j => Wc31.2.2 2 j)) (fun j => Wc37.2.2 28 j)) (fun j => Wc37.2.2 29 j))⟩⟩ dX12_run_130
              · have hw := hw.2 (z_eq g_x3 (show rng 1 from by decide) c106)
                refine lv_aload_n C.1 C.2.1 dX12_run_109 rfl (lv_at hl 0 rfl) ?_
                refine k_get (v := .int (zI steps_r37)) C Wd.1 KX12 0 30 wM0 (by decide) fl_X12_291 rfl dX12_run_110 ?_
                refine lv_goto (tgt := 130) C.1 C.2.1 dX12_run_113 (by decide) ?_
                exact k_retMi C hr hlk rfl Wd (u := (row_r31, many_r31, holds_r37, outs_r37, steps_r37, ending_r37, outMany_r37, cursor_r37)) rfl rfl ⟨⟨_, rfl, (Wc37.2.1 30), hw⟩, ⟨(rsI (rsI (rsI (rsI (rsI hS.1 (Wc31.2.1 4)) (Wc37.2.1 30)) (Wc37.2.1 31)) (Wc37.2.1 32)) (Wc37.2.1 33)), (rsF (rsF (rsF hS.2 (fun j => Wc31.2.2 2 j)) (fun j => Wc37.2.2 28 j)) (fun j => Wc37.2.2 29 j))⟩⟩ dX12_run_130
            · have hw := hw.2 (z0_eq g_x3 c93)
              refine lv_aload_n C.1 C.2.1 dX12_run_96 rfl (lv_at hl 0 rfl) ?_
              refine k_get (v := .int (zI ending_r37)) C Wd.1 KX12 0 31 wM0 (by decide) fl_X12_294 rfl dX12_run_97 ?_
              refine lv_goto (tgt := 130) C.1 C.2.1 dX12_run_100 (by decide) ?_
              exact k_retMi C hr hlk rfl Wd (u := (row_r31, many_r31, holds_r37, outs_r37, steps_r37, ending_r37, outMany_r37, cursor_r37)) rfl rfl ⟨⟨_, rfl, (Wc37.2.1 31), hw⟩, ⟨(rsI (rsI (rsI (rsI (rsI hS.1 (Wc31.2.1 4)) (Wc37.2.1 30)) (Wc37.2.1 31)) (Wc37.2.1 32)) (Wc37.2.1 33)), (rsF (rsF (rsF hS.2 (fun j => Wc31.2.2 2 j)) (fun j => Wc37.2.2 28 j)) (fun j => Wc37.2.2 29 j))⟩⟩ dX12_run_130
          · have hw := hw.2 (z0_ne g_r74 c77)
            refine lv_aload_n C.1 C.2.1 dX12_run_80 rfl (lv_at hl 0 rfl) ?_
            refine k_get (v := .ref (ad 29)) C Wd.1 KX12 0 29 wM0 (by decide) fl_X12_44 rfl dX12_run_81 ?_
            refine lv_iload C.1 C.2.1 dX12_run_84 (lv_at hl 4 rfl) ?_
            refine lv_bipush (v := zI 100) C.1 C.2.1 dX12_run_86 (by decide) ?_
            refine k_isub (v := zI (x3 - 100)) C (zI_isub _ _) dX12_run_88 ?_
            obtain ⟨a89, hw⟩ := hw
            refine k_ialdM (g := outs_r37) C Wd 11 10 rfl rfl a89 (by decide) dX12_run_89 ?_
            have g89 : rng (outs_r37 (x3 - 100)) := rngL (fun j => Wc37.2.2 29 j) a89
            exact k_retMi C hr hlk rfl Wd (u := (row_r31, many_r31, holds_r37, outs_r37, steps_r37, ending_r37, outMany_r37, cursor_r37)) rfl rfl ⟨⟨_, rfl, g89, hw⟩, ⟨(rsI (rsI (rsI (rsI (rsI hS.1 (Wc31.2.1 4)) (Wc37.2.1 30)) (Wc37.2.1 31)) (Wc37.2.1 32)) (Wc37.2.1 33)), (rsF (rsF (rsF hS.2 (fun j => Wc31.2.2 2 j)) (fun j => Wc37.2.2 28 j)) (fun j => Wc37.2.2 29 j))⟩⟩ dX12_run_90
        · have hw := hw.2 (z0_ne g_r46 c49)
          refine lv_aload_n C.1 C.2.1 dX12_run_52 rfl (lv_at hl 0 rfl) ?_
          refine k_get (v := .ref (ad 28)) C Wd.1 KX12 0 28 wM0 (by decide) fl_X12_41 rfl dX12_run_53 ?_
          refine lv_iload C.1 C.2.1 dX12_run_56 (lv_at hl 4 rfl) ?_
          refine lv_bipush (v := zI 10) C.1 C.2.1 dX12_run_58 (by decide) ?_
          refine k_isub (v := zI (x3 - 10)) C (zI_isub _ _) dX12_run_60 ?_
          obtain ⟨a61, hw⟩ := hw
          refine k_ialdM (g := holds_r37) C Wd 10 9 rfl rfl a61 (by decide) dX12_run_61 ?_
          have g61 : rng (holds_r37 (x3 - 10)) := rngL (fun j => Wc37.2.2 28 j) a61
          exact k_retMi C hr hlk rfl Wd (u := (row_r31, many_r31, holds_r37, outs_r37, steps_r37, ending_r37, outMany_r37, cursor_r37)) rfl rfl ⟨⟨_, rfl, g61, hw⟩, ⟨(rsI (rsI (rsI (rsI (rsI hS.1 (Wc31.2.1 4)) (Wc37.2.1 30)) (Wc37.2.1 31)) (Wc37.2.1 32)) (Wc37.2.1 33)), (rsF (rsF (rsF hS.2 (fun j => Wc31.2.2 2 j)) (fun j => Wc37.2.2 28 j)) (fun j => Wc37.2.2 29 j))⟩⟩ dX12_run_62
      · have hw := hw.2 (z0_eq g_r21 c24)
        refine lv_iconst (v := zI (-1)) C.1 C.2.1 dX12_run_27 (by decide) ?_
        exact k_retMi C hr hlk rfl Wd (u := ((F 2), (I 4), (F 28), (F 29), (I 30), (I 31), (I 32), (I 33))) rfl rfl ⟨⟨_, rfl, (show rng (-1) from by decide), hw⟩, ⟨(rsI (rsI (rsI (rsI (rsI hS.1 (hS.1 4)) (hS.1 30)) (hS.1 31)) (hS.1 32)) (hS.1 33)), (rsF (rsF (rsF hS.2 (hS.2 2)) (hS.2 28)) (hS.2 29))⟩⟩ dX12_run_28
set_option maxHeartbeats 4000000 in
set_option maxRecDepth 100000 in
theorem mt_keeps : ∀ (D : va_G) (h : Nat) (ad : Nat → Nat) (ca : Nat → ClassId) (I : Nat → Int) (F : Nat → Int → Int) (hS : rngS I F) (K : (Int → Int) → (Int → Int) → Int → Int → Int → Int → (Int → Int) → (Int → Int) → (Int → Int) → Prop) (hw : wp_keeps (F 2) (I 4) (F 28) (F 29) (I 30) (I 31) (I 32) (I 33) (F 34) (F 35) (F 36) K) (l : Launch) (sz : Nat), Met l yX12_keeps (Cond.code yX12_keeps cX12_keeps 3 none :: gG) { frames := 711, cells := 0, slots := 0, locals := 15337 } (cPre D (tM ca) (wM h ad ca I F) sz [.ref h]) (va_Qv (fun (u : (Int → Int) × (Int → Int) × (Int) × (Int) × (Int) × (Int) × (Int → Int) × (Int → Int) × (Int → Int)) => K u.1 u.2.1 u.2.2.1 u.2.2.2.1 u.2.2.2.2.1 u.2.2.2.2.2.1 u.2.2.2.2.2.2.1 u.2.2.2.2.2.2.2.1 u.2.2.2.2.2.2.2.2 ∧ rngS (sI (sI (sI (sI I 30 u.2.2.1) 31 u.2.2.2.1) 32 u.2.2.2.2.1) 33 u.2.2.2.2.2.1) (sF (sF (sF (sF (sF F 28 u.1) 29 u.2.1) 34 u.2.2.2.2.2.2.1) 35 u.2.2.2.2.2.2.2.1) 36 u.2.2.2.2.2.2.2.2)) (fun u t => cB D (va_A (wM h ad ca I F) sz) [] (wM h ad ca (sI (sI (sI (sI I 30 u.2.2.1) 31 u.2.2.2.1) 32 u.2.2.2.2.1) 33 u.2.2.2.2.2.1) (sF (sF (sF (sF (sF F 28 u.1) 29 u.2.1) 34 u.2.2.2.2.2.2.1) 35 u.2.2.2.2.2.2.2.1) 36 u.2.2.2.2.2.2.2.2)) t) (va_A (wM h ad ca I F) sz)) 0 0 (va_A (wM h ad ca I F) sz) := by
  intro D h ad ca I F hS  K hw l sz
  refine Met.ofW (cc := cX12_keeps) (maxL := 3) (ret := none) (by decide) rfl ?_
  intro p e s m args below meth c s₁ B hml hv
  obtain ⟨rfl, aks, rfl, Wd⟩ := k_enter hv
  have C : CallFix p m c cX12_keeps 3 s _ gG RX12 := ⟨B.exec, B.bytes, hml, findClass_of_methodNamed B.named, fun w h => atoms_spec (ws := Cond.code yX12_keeps cX12_keeps 3 none :: gG) B.pre w (List.mem_cons_of_mem _ h)⟩
  have hr := B.returns
  have hlk := B.notSynchronized
  generalize va_A (wM h ad ca I F) s.heap.size = A at Wd ⊢
  replace Wd : wXM D ca s h ad I F s.heap A s.heap [] := ⟨Wd, hS⟩
  refine k_locals (Nat.le_of_ble_eq_true rfl) [(0, .ref h)] rfl (fun ls hl => ?_)
  unfold wp_keeps at hw
  refine lv_iconst (v := zI 0) C.1 C.2.1 dX12_keeps_0 (by decide) ?_
  refine lv_istore_n (lv' := [(1, .int (zI 0)), (0, .ref h)]) C.1 C.2.1 dX12_keeps_1 rfl hl (by decide) rfl (fun ls hl => ?_)
  replace hl := lv_sub hl [1, 0] rfl
  refine k_lp10 hw (fun (l1_2 : Int) (holds_2 : Int → Int) (outs_2 : Int → Int) (steps_2 : Int) (ending_2 : Int) (outMany_2 : Int) (cursor_2 : Int) (keptEnd_2 : Int → Int) (keptMany_2 : Int → Int) (keptOut_2 : Int → Int) H locs ls => rng l1_2 ∧ wXM D ca s h ad (sI (sI (sI (sI I 30 steps_2) 31 ending_2) 32 outMany_2) 33 cursor_2) (sF (sF (sF (sF (sF F 28 holds_2) 29 outs_2) 34 keptEnd_2) 35 keptMany_2) 36 keptOut_2) H A s.heap locs ∧ lv_has ls 3 [(0, .ref h), (1, .int (zI l1_2))]) (fun (l1_2 : Int) (holds_2 : Int → Int) (outs_2 : Int → Int) (steps_2 : Int) (ending_2 : Int) (outMany_2 : Int) (cursor_2 : Int) (keptEnd_2 : Int → Int) (keptMany_2 : Int → Int) (keptOut_2 : Int → Int) ls => F0 m 2 ls []) (fun L2 hL2 l1_2 holds_2 outs_2 steps_2 ending_2 outMany_2 cursor_2 keptEnd_2 keptMany_2 keptOut_2 hw H locs ls hi => ?_) _ _ _ ⟨(show rng 0 from by decide), wMc Wd rfl rfl ⟨(rsI (rsI (rsI (rsI hS.1 (hS.1 30)) (hS.1 31)) (hS.1 32)) (hS.1 33)), (rsF (rsF (rsF (rsF (rsF hS.2 (hS.2 28)) (hS.2 29)) (hS.2 34)) (hS.2 35)) (hS.2 36))⟩, lv_sub hl [0, 1] rfl⟩
  obtain ⟨g_l1_2, Wd, hl⟩ := hi
  have Wd2 := Wd
  unfold wp_keeps_2 at hw
  refine lv_iload_n C.1 C.2.1 dX12_keeps_2 rfl (lv_at hl 1 rfl) ?_
  refine lv_sipush (v := zI 256) C.1 C.2.1 dX12_keeps_3 (zS (by decide) (by decide)) ?_
  refine lv_icmp_ge (tgt := 80) C.1 C.2.1 dX12_keeps_6 (by decide) (fun c6 => ?_) (fun c6 => ?_)
  · have hw := hw.1 (z_le (show rng 256 from by decide) g_l1_2 c6)
    exact k_retMv C hr hlk Wd (u := (holds_2, outs_2, steps_2, ending_2, outMany_2, cursor_2, keptEnd_2, keptMany_2, keptOut_2)) rfl rfl ⟨hw, ⟨(rsI (rsI (rsI (rsI hS.1 (Wd2.2.1 30)) (Wd2.2.1 31)) (Wd2.2.1 32)) (Wd2.2.1 33)), (rsF (rsF (rsF (rsF (rsF hS.2 (fun j => Wd2.2.2 28 j)) (fun j => Wd2.2.2 29 j)) (fun j => Wd2.2.2 34 j)) (fun j => Wd2.2.2 35 j)) (fun j => Wd2.2.2 36 j))⟩⟩ dX12_keeps_80
  · have hw := hw.2 (z_nle (show rng 256 from by decide) g_l1_2 c6)
    refine lv_aload_n C.1 C.2.1 dX12_keeps_9 rfl (lv_at hl 0 rfl) ?_
    refine lv_iload_n C.1 C.2.1 dX12_keeps_10 rfl (lv_at hl 1 rfl) ?_
    refine lv_bipush (v := zI 16) C.1 C.2.1 dX12_keeps_11 (by decide) ?_
    refine k_idiv (v := zI (zidiv l1_2 16)) C (by decide) (zidiv_eq _ _) dX12_keeps_13 ?_
    refine lv_iload_n C.1 C.2.1 dX12_keeps_14 rfl (lv_at hl 1 rfl) ?_
    refine lv_bipush (v := zI 16) C.1 C.2.1 dX12_keeps_15 (by decide) ?_
    refine k_irem (v := zI (zirem l1_2 16)) C (by decide) (zirem_eq _ _) dX12_keeps_17 ?_
    refine k_cMv Wd (k_runVM (rest := []) C aks Wd cs_X12_315 (mt_runs D h ad ca (sI (sI (sI (sI I 30 steps_2) 31 ending_2) 32 outMany_2) 33 cursor_2) (sF (sF (sF (sF (sF F 28 holds_2) 29 outs_2) 34 keptEnd_2) 35 keptMany_2) 36 keptOut_2) Wd.2 (zidiv l1_2 16) (zirem l1_2 16) (rng_toInt _) (rng_toInt _) _ hw l _) rfl rfl ⟨(Nat.le_of_ble_eq_true rfl), (Nat.le_of_ble_eq_true rfl)⟩ hl.1 rfl rfl (Nat.le_of_ble_eq_true rfl) ⟨(Nat.le_of_ble_eq_true rfl), (Nat.le_of_ble_eq_true rfl)⟩ dX12_keeps_18) (fun u18 H locs hw Wd => ?_)
    obtain ⟨holds_r18, outs_r18, steps_r18, ending_r18, outMany_r18, cursor_r18⟩ := u18
    dsimp only at hw
    have Wc18 := Wd
    have Wd : wXM D ca s h ad (sI (sI (sI (sI I 30 steps_r18) 31 ending_r18) 32 outMany_r18) 33 cursor_r18) (sF (sF (sF (sF (sF F 28 holds_r18) 29 outs_r18) 34 keptEnd_2) 35 keptMany_2) 36 keptOut_2) H A s.heap locs := wMc Wd rfl rfl ⟨(rsI (rsI (rsI (rsI hS.1 (Wc18.2.1 30)) (Wc18.2.1 31)) (Wc18.2.1 32)) (Wc18.2.1 33)), (rsF (rsF (rsF (rsF (rsF hS.2 (fun j => Wc18.2.2 28 j)) (fun j => Wc18.2.2 29 j)) (fun j => Wd2.2.2 34 j)) (fun j => Wd2.2.2 35 j)) (fun j => Wd2.2.2 36 j))⟩
    refine lv_aload_n C.1 C.2.1 dX12_keeps_21 rfl (lv_at hl 0 rfl) ?_
    refine k_get (v := .ref (ad 34)) C Wd.1 KX12 0 34 wM0 (by decide) fl_X12_47 rfl dX12_keeps_22 ?_
    refine lv_iload_n C.1 C.2.1 dX12_keeps_25 rfl (lv_at hl 1 rfl) ?_
    refine lv_aload_n C.1 C.2.1 dX12_keeps_26 rfl (lv_at hl 0 rfl) ?_
    refine k_get (v := .int (zI ending_r18)) C Wd.1 KX12 0 31 wM0 (by decide) fl_X12_294 rfl dX12_keeps_27 ?_
    obtain ⟨a30, hw⟩ := hw
    have q30 : ∀ j : Nat, rng ((uZ keptEnd_2 l1_2 ending_r18) j) := ruZ (fun j => Wd2.2.2 34 j) (Wc18.2.1 31)
    refine k_iastM (g := keptEnd_2) C Wd 11 11 (sF (sF (sF (sF (sF F 28 holds_r18) 29 outs_r18) 34 (uZ keptEnd_2 l1_2 ending_r18)) 35 keptMany_2) 36 keptOut_2) rfl rfl a30 (by decide) rfl rfl (rsF (rsF (rsF (rsF (rsF hS.2 (fun j => Wc18.2.2 28 j)) (fun j => Wc18.2.2 29 j)) q30) (fun j => Wd2.2.2 35 j)) (fun j => Wd2.2.2 36 j)) dX12_keeps_30 (fun H locs Wd => ?_)
    refine lv_aload_n C.1 C.2.1 dX12_keeps_31 rfl (lv_at hl 0 rfl) ?_
    refine k_get (v := .ref (ad 35)) C Wd.1 KX12 0 35 wM0 (by decide) fl_X12_50 rfl dX12_keeps_32 ?_
    refine lv_iload_n C.1 C.2.1 dX12_keeps_35 rfl (lv_at hl 1 rfl) ?_
    refine lv_aload_n C.1 C.2.1 dX12_keeps_36 rfl (lv_at hl 0 rfl) ?_
    refine k_get (v := .int (zI outMany_r18)) C Wd.1 KX12 0 32 wM0 (by decide) fl_X12_312 rfl dX12_keeps_37 ?_
    obtain ⟨a40, hw⟩ := hw
    have q40 : ∀ j : Nat, rng ((uZ keptMany_2 l1_2 outMany_r18) j) := ruZ (fun j => Wd2.2.2 35 j) (Wc18.2.1 32)
    refine k_iastM (g := keptMany_2) C Wd 12 12 (sF (sF (sF (sF (sF F 28 holds_r18) 29 outs_r18) 34 (uZ keptEnd_2 l1_2 ending_r18)) 35 (uZ keptMany_2 l1_2 outMany_r18)) 36 keptOut_2) rfl rfl a40 (by decide) rfl rfl (rsF (rsF (rsF (rsF (rsF hS.2 (fun j => Wc18.2.2 28 j)) (fun j => Wc18.2.2 29 j)) q30) q40) (fun j => Wd2.2.2 36 j)) dX12_keeps_40 (fun H locs Wd => ?_)
    refine lv_iconst (v := zI 0) C.1 C.2.1 dX12_keeps_41 (by decide) ?_
    refine lv_istore_n (lv' := [(2, .int (zI 0)), (0, .ref h), (1, .int (zI l1_2))]) C.1 C.2.1 dX12_keeps_42 rfl hl (by decide) rfl (fun ls hl => ?_)
    replace hl := lv_sub hl [1, 2, 0] rfl
    refine k_lp2 hw (fun (l2_43 : Int) (keptOut_43 : Int → Int) H locs ls => rng l2_43 ∧ wXM D ca s h ad (sI (sI (sI (sI I 30 steps_r18) 31 ending_r18) 32 outMany_r18) 33 cursor_r18) (sF (sF (sF (sF (sF F 28 holds_r18) 29 outs_r18) 34 (uZ keptEnd_2 l1_2 ending_r18)) 35 (uZ keptMany_2 l1_2 outMany_r18)) 36 keptOut_43) H A s.heap locs ∧ lv_has ls 3 [(0, .ref h), (1, .int (zI l1_2)), (2, .int (zI l2_43))]) (fun (l2_43 : Int) (keptOut_43 : Int → Int) ls => F0 m 43 ls []) (fun L43 hL43 l2_43 keptOut_43 hw H locs ls hi => ?_) _ _ _ ⟨(show rng 0 from by decide), wMc Wd rfl rfl ⟨(rsI (rsI (rsI (rsI hS.1 (Wc18.2.1 30)) (Wc18.2.1 31)) (Wc18.2.1 32)) (Wc18.2.1 33)), (rsF (rsF (rsF (rsF (rsF hS.2 (fun j => Wc18.2.2 28 j)) (fun j => Wc18.2.2 29 j)) q30) q40) (fun j => Wd2.2.2 36 j))⟩, lv_sub hl [0, 1, 2] rfl⟩
    obtain ⟨g_l2_43, Wd, hl⟩ := hi
    have Wd43 := Wd
    unfold wp_keeps_43 at hw
    refine lv_iload_n C.1 C.2.1 dX12_keeps_43 rfl (lv_at hl 2 rfl) ?_
    refine lv_aload_n C.1 C.2.1 dX12_keeps_44 rfl (lv_at hl 0 rfl) ?_
    refine k_get (v := .int (zI outMany_r18)) C Wd.1 KX12 0 32 wM0 (by decide) fl_X12_312 rfl dX12_keeps_45 ?_
    refine lv_icmp_ge (tgt := 74) C.1 C.2.1 dX12_keeps_48 (by decide) (fun c48 => ?_) (fun c48 => ?_)
    · have hw := hw.1 (z_le (Wc18.2.1 32) g_l2_43 c48)
      refine lv_iinc (v := zI (l1_2 + 1)) (lv' := [(1, .int (zI (l1_2 + 1))), (0, .ref h), (2, .int (zI l2_43))]) C.1 C.2.1 dX12_keeps_74 hl (k := 1) rfl (zI_inc _ _ (by decide)) (by decide) rfl (fun ls hl => ?_)
      replace hl := lv_sub hl [1, 0, 2] rfl
      refine lv_goto (tgt := 2) C.1 C.2.1 dX12_keeps_77 (by decide) ?_
      obtain ⟨g77_0, hw⟩ := hw
      exact hL2 _ _ _ _ _ _ _ _ _ _ hw _ _ _ ⟨g77_0, wMc Wd rfl rfl ⟨(rsI (rsI (rsI (rsI hS.1 (Wc18.2.1 30)) (Wc18.2.1 31)) (Wc18.2.1 32)) (Wc18.2.1 33)), (rsF (rsF (rsF (rsF (rsF hS.2 (fun j => Wc18.2.2 28 j)) (fun j => Wc18.2.2 29 j)) q30) q40) (fun j => Wd43.2.2 36 j))⟩, lv_sub hl [0, 1] rfl⟩
    · have hw := hw.2 (z_nle (Wc18.2.1 32) g_l2_43 c48)
      refine lv_aload_n C.1 C.2.1 dX12_keeps_51 rfl (lv_at hl 0 rfl) ?_
      refine k_get (v := .ref (ad 36)) C Wd.1 KX12 0 36 wM0 (by decide) fl_X12_53 rfl dX12_keeps_52 ?_
      refine lv_bipush (v := zI 101) C.1 C.2.1 dX12_keeps_55 (by decide) ?_
      refine lv_iload_n C.1 C.2.1 dX12_keeps_57 rfl (lv_at hl 1 rfl) ?_
      refine k_imul (v := zI (101 * l1_2)) C (zI_imul _ _) dX12_keeps_58 ?_
      refine lv_iload_n C.1 C.2.1 dX12_keeps_59 rfl (lv_at hl 2 rfl) ?_
      refine k_iadd (v := zI ((101 * l1_2) + l2_43)) C (zI_iadd _ _) dX12_keeps_60 ?_
      refine lv_aload_n C.1 C.2.1 dX12_keeps_61 rfl (lv_at hl 0 rfl) ?_
      refine k_get (v := .ref (ad 29)) C Wd.1 KX12 0 29 wM0 (by decide) fl_X12_44 rfl dX12_keeps_62 ?_
      refine lv_iload_n C.1 C.2.1 dX12_keeps_65 rfl (lv_at hl 2 rfl) ?_
      obtain ⟨a66, hw⟩ := hw
      refine k_ialdM (g := outs_r18) C Wd 11 10 rfl rfl a66 (by decide) dX12_keeps_66 ?_
      have g66 : rng (outs_r18 l2_43) := rngL (fun j => Wc18.2.2 29 j) a66
      obtain ⟨a67, hw⟩ := hw
      have q67 : ∀ j : Nat, rng ((uZ keptOut_43 ((101 * l1_2) + l2_43) (outs_r18 l2_43)) j) := ruZ (fun j => Wd43.2.2 36 j) g66
      refine k_iastM (g := keptOut_43) C Wd 13 13 (sF (sF (sF (sF (sF F 28 holds_r18) 29 outs_r18) 34 (uZ keptEnd_2 l1_2 ending_r18)) 35 (uZ keptMany_2 l1_2 outMany_r18)) 36 (uZ keptOut_43 ((101 * l1_2) + l2_43) (outs_r18 l2_43))) rfl rfl a67 (by decide) rfl rfl (rsF (rsF (rsF (rsF (rsF hS.2 (fun j => Wc18.2.2 28 j)) (fun j => Wc18.2.2 29 j)) q30) q40) q67) dX12_keeps_67 (fun H locs Wd => ?_)
      refine lv_iinc (v := zI (l2_43 + 1)) (lv' := [(2, .int (zI (l2_43 + 1))), (0, .ref h), (1, .int (zI l1_2))]) C.1 C.2.1 dX12_keeps_68 hl (k := 2) rfl (zI_inc _ _ (by decide)) (by decide) rfl (fun ls hl => ?_)
      replace hl := lv_sub hl [1, 2, 0] rfl
      refine lv_goto (tgt := 43) C.1 C.2.1 dX12_keeps_71 (by decide) ?_
      obtain ⟨g71_0, hw⟩ := hw
      exact hL43 _ _ hw _ _ _ ⟨g71_0, wMc Wd rfl rfl ⟨(rsI (rsI (rsI (rsI hS.1 (Wc18.2.1 30)) (Wc18.2.1 31)) (Wc18.2.1 32)) (Wc18.2.1 33)), (rsF (rsF (rsF (rsF (rsF hS.2 (fun j => Wc18.2.2 28 j)) (fun j => Wc18.2.2 29 j)) q30) q40) q67)⟩, lv_sub hl [0, 1, 2] rfl⟩
set_option maxHeartbeats 4000000 in
set_option maxRecDepth 100000 in
theorem mt_compares : ∀ (D : va_G) (h : Nat) (ad : Nat → Nat) (ca : Nat → ClassId) (I : Nat → Int) (F : Nat → Int → Int) (hS : rngS I F) (K : (Int → Int) → (Int → Int) → Int → Int → Int → Int → Int → Int → Int → Int → Prop) (hw : wp_compares (F 2) (I 4) (F 28) (F 29) (I 30) (I 31) (I 32) (I 33) (F 34) (F 35) (F 36) (I 37) (I 38) (I 39) (I 40) K) (l : Launch) (sz : Nat), Met l yX12_compares (Cond.code yX12_compares cX12_compares 5 none :: gG) { frames := 711, cells := 0, slots := 0, locals := 15337 } (cPre D (tM ca) (wM h ad ca I F) sz [.ref h]) (va_Qv (fun (u : (Int → Int) × (Int → Int) × (Int) × (Int) × (Int) × (Int) × (Int) × (Int) × (Int) × (Int)) => K u.1 u.2.1 u.2.2.1 u.2.2.2.1 u.2.2.2.2.1 u.2.2.2.2.2.1 u.2.2.2.2.2.2.1 u.2.2.2.2.2.2.2.1 u.2.2.2.2.2.2.2.2.1 u.2.2.2.2.2.2.2.2.2 ∧ rngS (sI (sI (sI (sI (sI (sI (sI (sI I 30 u.2.2.1) 31 u.2.2.2.1) 32 u.2.2.2.2.1) 33 u.2.2.2.2.2.1) 37 u.2.2.2.2.2.2.1) 38 u.2.2.2.2.2.2.2.1) 39 u.2.2.2.2.2.2.2.2.1) 40 u.2.2.2.2.2.2.2.2.2) (sF (sF F 28 u.1) 29 u.2.1)) (fun u t => cB D (va_A (wM h ad ca I F) sz) [] (wM h ad ca (sI (sI (sI (sI (sI (sI (sI (sI I 30 u.2.2.1) 31 u.2.2.2.1) 32 u.2.2.2.2.1) 33 u.2.2.2.2.2.1) 37 u.2.2.2.2.2.2.1) 38 u.2.2.2.2.2.2.2.1) 39 u.2.2.2.2.2.2.2.2.1) 40 u.2.2.2.2.2.2.2.2.2) (sF (sF F 28 u.1) 29 u.2.1)) t) (va_A (wM h ad ca I F) sz)) 0 0 (va_A (wM h ad ca I F) sz) := by
  intro D h ad ca I F hS  K hw l sz
  refine Met.ofW (cc := cX12_compares) (maxL := 5) (ret := none) (by decide) rfl ?_
  intro p e s m args below meth c s₁ B hml hv
  obtain ⟨rfl, aks, rfl, Wd⟩ := k_enter hv
  have C : CallFix p m c cX12_compares 5 s _ gG RX12 := ⟨B.exec, B.bytes, hml, findClass_of_methodNamed B.named, fun w h => atoms_spec (ws := Cond.code yX12_compares cX12_compares 5 none :: gG) B.pre w (List.mem_cons_of_mem _ h)⟩
  have hr := B.returns
  have hlk := B.notSynchronized
  generalize va_A (wM h ad ca I F) s.heap.size = A at Wd ⊢
  replace Wd : wXM D ca s h ad I F s.heap A s.heap [] := ⟨Wd, hS⟩
  refine k_locals (Nat.le_of_ble_eq_true rfl) [(0, .ref h)] rfl (fun ls hl => ?_)
  unfold wp_compares at hw
  refine lv_aload_n C.1 C.2.1 dX12_compares_0 rfl (lv_at hl 0 rfl) ?_
  refine lv_iconst (v := zI (-1)) C.1 C.2.1 dX12_compares_1 (by decide) ?_
  refine k_putM C Wd 37 (sI I 37 (-1)) (by decide) fl_X12_318 rfl rfl rfl rfl (rsI hS.1 (show rng (-1) from by decide)) dX12_compares_2 (fun H locs Wd => ?_)
  refine lv_aload_n C.1 C.2.1 dX12_compares_5 rfl (lv_at hl 0 rfl) ?_
  refine lv_iconst (v := zI (-1)) C.1 C.2.1 dX12_compares_6 (by decide) ?_
  refine k_putM C Wd 38 (sI (sI I 37 (-1)) 38 (-1)) (by decide) fl_X12_321 rfl rfl rfl rfl (rsI (rsI hS.1 (show rng (-1) from by decide)) (show rng (-1) from by decide)) dX12_compares_7 (fun H locs Wd => ?_)
  refine lv_aload_n C.1 C.2.1 dX12_compares_10 rfl (lv_at hl 0 rfl) ?_
  refine lv_iconst (v := zI 0) C.1 C.2.1 dX12_compares_11 (by decide) ?_
  refine k_putM C Wd 39 (sI (sI (sI I 37 (-1)) 38 (-1)) 39 0) (by decide) fl_X12_324 rfl rfl rfl rfl (rsI (rsI (rsI hS.1 (show rng (-1) from by decide)) (show rng (-1) from by decide)) (show rng 0 from by decide)) dX12_compares_12 (fun H locs Wd => ?_)
  refine lv_aload_n C.1 C.2.1 dX12_compares_15 rfl (lv_at hl 0 rfl) ?_
  refine lv_iconst (v := zI 0) C.1 C.2.1 dX12_compares_16 (by decide) ?_
  refine k_putM C Wd 40 (sI (sI (sI (sI I 37 (-1)) 38 (-1)) 39 0) 40 0) (by decide) fl_X12_327 rfl (by decide) (by decide) rfl (rsI (rsI (rsI (rsI hS.1 (show rng (-1) from by decide)) (show rng (-1) from by decide)) (show rng 0 from by decide)) (show rng 0 from by decide)) dX12_compares_17 (fun H locs Wd => ?_)
  refine lv_iconst (v := zI 0) C.1 C.2.1 dX12_compares_20 (by decide) ?_
  refine lv_istore_n (lv' := [(1, .int (zI 0)), (0, .ref h)]) C.1 C.2.1 dX12_compares_21 rfl hl (by decide) rfl (fun ls hl => ?_)
  replace hl := lv_sub hl [1, 0] rfl
  refine k_lp11 hw (fun (l1_22 : Int) (holds_22 : Int → Int) (outs_22 : Int → Int) (steps_22 : Int) (ending_22 : Int) (outMany_22 : Int) (cursor_22 : Int) (firstParting_22 : Int) (firstPlace_22 : Int) (partings_22 : Int) (anyTired_22 : Int) H locs ls => rng l1_22 ∧ wXM D ca s h ad (sI (sI (sI (sI (sI (sI (sI (sI I 30 steps_22) 31 ending_22) 32 outMany_22) 33 cursor_22) 37 firstParting_22) 38 firstPlace_22) 39 partings_22) 40 anyTired_22) (sF (sF F 28 holds_22) 29 outs_22) H A s.heap locs ∧ lv_has ls 5 [(0, .ref h), (1, .int (zI l1_22))]) (fun (l1_22 : Int) (holds_22 : Int → Int) (outs_22 : Int → Int) (steps_22 : Int) (ending_22 : Int) (outMany_22 : Int) (cursor_22 : Int) (firstParting_22 : Int) (firstPlace_22 : Int) (partings_22 : Int) (anyTired_22 : Int) ls => F0 m 22 ls []) (fun L22 hL22 l1_22 holds_22 outs_22 steps_22 ending_22 outMany_22 cursor_22 firstParting_22 firstPlace_22 partings_22 anyTired_22 hw H locs ls hi => ?_) _ _ _ ⟨(show rng 0 from by decide), wMc Wd rfl rfl ⟨(rsI (rsI (rsI (rsI (rsI (rsI (rsI (rsI hS.1 (hS.1 30)) (hS.1 31)) (hS.1 32)) (hS.1 33)) (show rng (-1) from by decide)) (show rng (-1) from by decide)) (show rng 0 from by decide)) (show rng 0 from by decide)), (rsF (rsF hS.2 (hS.2 28)) (hS.2 29))⟩, lv_sub hl [0, 1] rfl⟩
  obtain ⟨g_l1_22, Wd, hl⟩ := hi
  have Wd22 := Wd
  unfold wp_compares_22 at hw
  refine lv_iload_n C.1 C.2.1 dX12_compares_22 rfl (lv_at hl 1 rfl) ?_
  refine lv_sipush (v := zI 256) C.1 C.2.1 dX12_compares_23 (zS (by decide) (by decide)) ?_
  refine lv_icmp_ge (tgt := 240) C.1 C.2.1 dX12_compares_26 (by decide) (fun c26 => ?_) (fun c26 => ?_)
  · have hw := hw.1 (z_le (show rng 256 from by decide) g_l1_22 c26)
    exact k_retMv C hr hlk Wd (u := (holds_22, outs_22, steps_22, ending_22, outMany_22, cursor_22, firstParting_22, firstPlace_22, partings_22, anyTired_22)) rfl rfl ⟨hw, ⟨(rsI (rsI (rsI (rsI (rsI (rsI (rsI (rsI hS.1 (Wd22.2.1 30)) (Wd22.2.1 31)) (Wd22.2.1 32)) (Wd22.2.1 33)) (Wd22.2.1 37)) (Wd22.2.1 38)) (Wd22.2.1 39)) (Wd22.2.1 40)), (rsF (rsF hS.2 (fun j => Wd22.2.2 28 j)) (fun j => Wd22.2.2 29 j))⟩⟩ dX12_compares_240
  · have hw := hw.2 (z_nle (show rng 256 from by decide) g_l1_22 c26)
    refine lv_aload_n C.1 C.2.1 dX12_compares_29 rfl (lv_at hl 0 rfl) ?_
    refine lv_iload_n C.1 C.2.1 dX12_compares_30 rfl (lv_at hl 1 rfl) ?_
    refine lv_bipush (v := zI 16) C.1 C.2.1 dX12_compares_31 (by decide) ?_
    refine k_idiv (v := zI (zidiv l1_22 16)) C (by decide) (zidiv_eq _ _) dX12_compares_33 ?_
    refine lv_iload_n C.1 C.2.1 dX12_compares_34 rfl (lv_at hl 1 rfl) ?_
    refine lv_bipush (v := zI 16) C.1 C.2.1 dX12_compares_35 (by decide) ?_
    refine k_irem (v := zI (zirem l1_22 16)) C (by decide) (zirem_eq _ _) dX12_compares_37 ?_
    refine k_cMv Wd (k_runVM (rest := []) C aks Wd cs_X12_315 (mt_runs D h ad ca (sI (sI (sI (sI (sI (sI (sI (sI I 30 steps_22) 31 ending_22) 32 outMany_22) 33 cursor_22) 37 firstParting_22) 38 firstPlace_22) 39 partings_22) 40 anyTired_22) (sF (sF F 28 holds_22) 29 outs_22) Wd.2 (zidiv l1_22 16) (zirem l1_22 16) (rng_toInt _) (rng_toInt _) _ hw l _) rfl rfl ⟨(Nat.le_of_ble_eq_true rfl), (Nat.le_of_ble_eq_true rfl)⟩ hl.1 rfl rfl (Nat.le_of_ble_eq_true rfl) ⟨(Nat.le_of_ble_eq_true rfl), (Nat.le_of_ble_eq_true rfl)⟩ dX12_compares_38) (fun u38 H locs hw Wd => ?_)
    obtain ⟨holds_r38, outs_r38, steps_r38, ending_r38, outMany_r38, cursor_r38⟩ := u38
    dsimp only at hw
    have Wc38 := Wd
    have Wd : wXM D ca s h ad (sI (sI (sI (sI (sI (sI (sI (sI I 30 steps_r38) 31 ending_r38) 32 outMany_r38) 33 cursor_r38) 37 firstParting_22) 38 firstPlace_22) 39 partings_22) 40 anyTired_22) (sF (sF F 28 holds_r38) 29 outs_r38) H A s.heap locs := wMc Wd rfl rfl ⟨(rsI (rsI (rsI (rsI (rsI (rsI (rsI (rsI hS.1 (Wc38.2.1 30)) (Wc38.2.1 31)) (Wc38.2.1 32)) (Wc38.2.1 33)) (Wd22.2.1 37)) (Wd22.2.1 38)) (Wd22.2.1 39)) (Wd22.2.1 40)), (rsF (rsF hS.2 (fun j => Wc38.2.2 28 j)) (fun j => Wc38.2.2 29 j))⟩
    refine lv_iconst (v := zI 0) C.1 C.2.1 dX12_compares_41 (by decide) ?_
    refine lv_istore_n (lv' := [(2, .int (zI 0)), (0, .ref h), (1, .int (zI l1_22))]) C.1 C.2.1 dX12_compares_42 rfl hl (by decide) rfl (fun ls hl => ?_)
    replace hl := lv_sub hl [1, 2, 0] rfl
    refine k_lp1 hw (fun (l2_43 : Int) H locs ls => rng l2_43 ∧ wXM D ca s h ad (sI (sI (sI (sI (sI (sI (sI (sI I 30 steps_r38) 31 ending_r38) 32 outMany_r38) 33 cursor_r38) 37 firstParting_22) 38 firstPlace_22) 39 partings_22) 40 anyTired_22) (sF (sF F 28 holds_r38) 29 outs_r38) H A s.heap locs ∧ lv_has ls 5 [(0, .ref h), (1, .int (zI l1_22)), (2, .int (zI l2_43))]) (fun (l2_43 : Int) ls => F0 m 43 ls []) (fun L43 hL43 l2_43 hw H locs ls hi => ?_) _ _ _ ⟨(show rng 0 from by decide), wMc Wd rfl rfl ⟨(rsI (rsI (rsI (rsI (rsI (rsI (rsI (rsI hS.1 (Wc38.2.1 30)) (Wc38.2.1 31)) (Wc38.2.1 32)) (Wc38.2.1 33)) (Wd22.2.1 37)) (Wd22.2.1 38)) (Wd22.2.1 39)) (Wd22.2.1 40)), (rsF (rsF hS.2 (fun j => Wc38.2.2 28 j)) (fun j => Wc38.2.2 29 j))⟩, lv_sub hl [0, 1, 2] rfl⟩
    obtain ⟨g_l2_43, Wd, hl⟩ := hi
    have Wd43 := Wd
    unfold wp_compares_43 at hw
    refine lv_iload_n C.1 C.2.1 dX12_compares_43 rfl (lv_at hl 2 rfl) ?_
    refine lv_aload_n C.1 C.2.1 dX12_compares_44 rfl (lv_at hl 0 rfl) ?_
    refine k_get (v := .int (zI outMany_r38)) C Wd.1 KX12 0 32 wM0 (by decide) fl_X12_312 rfl dX12_compares_45 ?_
    refine k_cut0 (fun  H locs ls => wp_compares_87 (F 34) (F 35) anyTired_22 cursor_r38 ending_r38 firstParting_22 firstPlace_22 holds_r38 l1_22 l2_43 outMany_r38 outs_r38 partings_22 steps_r38 L22 ∧ wXM D ca s h ad (sI (sI (sI (sI (sI (sI (sI (sI I 30 steps_r38) 31 ending_r38) 32 outMany_r38) 33 cursor_r38) 37 firstParting_22) 38 firstPlace_22) 39 partings_22) 40 anyTired_22) (sF (sF F 28 holds_r38) 29 outs_r38) H A s.heap locs ∧ lv_has ls 5 [(0, .ref h), (1, .int (zI l1_22)), (2, .int (zI l2_43))]) (fun  ls => F0 m 87 ls []) (fun  H locs ls hi => ?_) (fun J87 => ?_)
    · obtain ⟨hw, Wd, hl⟩ := hi
      have Wd87 := Wd
      unfold wp_compares_87 at hw
      refine lv_iload_n C.1 C.2.1 dX12_compares_87 rfl (lv_at hl 2 rfl) ?_
      refine lv_aload_n C.1 C.2.1 dX12_compares_88 rfl (lv_at hl 0 rfl) ?_
      refine k_get (v := .int (zI outMany_r38)) C Wd.1 KX12 0 32 wM0 (by decide) fl_X12_312 rfl dX12_compares_89 ?_
      refine k_cut1 (fun (s0_110 : Int) H locs ls => rng s0_110 ∧ wp_compares_110 (F 34) (F 35) anyTired_22 cursor_r38 ending_r38 firstParting_22 firstPlace_22 holds_r38 l1_22 l2_43 outMany_r38 outs_r38 partings_22 steps_r38 L22 s0_110 ∧ wXM D ca s h ad (sI (sI (sI (sI (sI (sI (sI (sI I 30 steps_r38) 31 ending_r38) 32 outMany_r38) 33 cursor_r38) 37 firstParting_22) 38 firstPlace_22) 39 partings_22) 40 anyTired_22) (sF (sF F 28 holds_r38) 29 outs_r38) H A s.heap locs ∧ lv_has ls 5 [(0, .ref h), (1, .int (zI l1_22)), (2, .int (zI l2_43))]) (fun (s0_110 : Int) ls => F0 m 110 ls [.int (zI s0_110)]) (fun s0_110 H locs ls hi => ?_) (fun J110 => ?_)
      · obtain ⟨g_s0_110, hw, Wd, hl⟩ := hi
        have Wd110 := Wd
        unfold wp_compares_110 at hw
        refine lv_istore_n (lv' := [(3, .int (zI s0_110)), (0, .ref h), (1, .int (zI l1_22)), (2, .int (zI l2_43))]) C.1 C.2.1 dX12_compares_110 rfl hl (by decide) rfl (fun ls hl => ?_)
        replace hl := lv_sub hl [1, 2, 3, 0] rfl
        refine lv_aload_n C.1 C.2.1 dX12_compares_111 rfl (lv_at hl 0 rfl) ?_
        refine k_get (v := .int (zI ending_r38)) C Wd.1 KX12 0 31 wM0 (by decide) fl_X12_294 rfl dX12_compares_112 ?_
        refine lv_iconst (v := zI 2) C.1 C.2.1 dX12_compares_115 (by decide) ?_
        refine k_cut1 (fun (s0_134 : Int) H locs ls => rng s0_134 ∧ wp_compares_134 (F 34) (F 35) anyTired_22 cursor_r38 ending_r38 firstParting_22 firstPlace_22 holds_r38 l1_22 l2_43 outMany_r38 outs_r38 partings_22 s0_110 steps_r38 L22 s0_134 ∧ wXM D ca s h ad (sI (sI (sI (sI (sI (sI (sI (sI I 30 steps_r38) 31 ending_r38) 32 outMany_r38) 33 cursor_r38) 37 firstParting_22) 38 firstPlace_22) 39 partings_22) 40 anyTired_22) (sF (sF F 28 holds_r38) 29 outs_r38) H A s.heap locs ∧ lv_has ls 5 [(0, .ref h), (1, .int (zI l1_22)), (2, .int (zI l2_43)), (3, .int (zI s0_110))]) (fun (s0_134 : Int) ls => F0 m 134 ls [.int (zI s0_134)]) (fun s0_134 H locs ls hi => ?_) (fun J134 => ?_)
        · obtain ⟨g_s0_134, hw, Wd, hl⟩ := hi
          have Wd134 := Wd
          unfold wp_compares_134 at hw
          refine lv_istore (lv' := [(4, .int (zI s0_134)), (0, .ref h), (1, .int (zI l1_22)), (2, .int (zI l2_43)), (3, .int (zI s0_110))]) C.1 C.2.1 dX12_compares_134 hl (by decide) rfl (fun ls hl => ?_)
          replace hl := lv_sub hl [1, 2, 3, 4, 0] rfl
          refine lv_aload_n C.1 C.2.1 dX12_compares_136 rfl (lv_at hl 0 rfl) ?_
          refine lv_aload_n C.1 C.2.1 dX12_compares_137 rfl (lv_at hl 0 rfl) ?_
          refine k_get (v := .int (zI anyTired_22)) C Wd.1 KX12 0 40 wM0 (by decide) fl_X12_327 rfl dX12_compares_138 ?_
          refine k_cut1 (fun (s0_154 : Int) H locs ls => rng s0_154 ∧ wp_compares_154 (F 34) (F 35) cursor_r38 ending_r38 firstParting_22 firstPlace_22 holds_r38 l1_22 l2_43 outMany_r38 outs_r38 partings_22 s0_110 s0_134 steps_r38 L22 s0_154 ∧ wXM D ca s h ad (sI (sI (sI (sI (sI (sI (sI (sI I 30 steps_r38) 31 ending_r38) 32 outMany_r38) 33 cursor_r38) 37 firstParting_22) 38 firstPlace_22) 39 partings_22) 40 anyTired_22) (sF (sF F 28 holds_r38) 29 outs_r38) H A s.heap locs ∧ lv_has ls 5 [(0, .ref h), (1, .int (zI l1_22)), (2, .int (zI l2_43)), (3, .int (zI s0_110)), (4, .int (zI s0_134))]) (fun (s0_154 : Int) ls => F0 m 154 ls [.int (zI s0_154), .ref h]) (fun s0_154 H locs ls hi => ?_) (fun J154 => ?_)
          · obtain ⟨g_s0_154, hw, Wd, hl⟩ := hi
            have Wd154 := Wd
            unfold wp_compares_154 at hw
            obtain ⟨b154_0, hw⟩ := hw
            refine k_putM C Wd 40 (sI (sI (sI (sI (sI (sI (sI (sI I 30 steps_r38) 31 ending_r38) 32 outMany_r38) 33 cursor_r38) 37 firstParting_22) 38 firstPlace_22) 39 partings_22) 40 s0_154) (by decide) fl_X12_327 rfl (zI_nb b154_0) (zI_fb b154_0) rfl (rsI (rsI (rsI (rsI (rsI (rsI (rsI (rsI hS.1 (Wc38.2.1 30)) (Wc38.2.1 31)) (Wc38.2.1 32)) (Wc38.2.1 33)) (Wd22.2.1 37)) (Wd22.2.1 38)) (Wd22.2.1 39)) g_s0_154) dX12_compares_154 (fun H locs Wd => ?_)
            refine lv_iload_n C.1 C.2.1 dX12_compares_157 rfl (lv_at hl 3 rfl) ?_
            refine k_cut0 (fun  H locs ls => wp_compares_195 cursor_r38 ending_r38 firstParting_22 firstPlace_22 holds_r38 l1_22 l2_43 outMany_r38 outs_r38 partings_22 s0_110 s0_154 steps_r38 L22 ∧ wXM D ca s h ad (sI (sI (sI (sI (sI (sI (sI (sI I 30 steps_r38) 31 ending_r38) 32 outMany_r38) 33 cursor_r38) 37 firstParting_22) 38 firstPlace_22) 39 partings_22) 40 s0_154) (sF (sF F 28 holds_r38) 29 outs_r38) H A s.heap locs ∧ lv_has ls 5 [(0, .ref h), (1, .int (zI l1_22)), (2, .int (zI l2_43)), (3, .int (zI s0_110))]) (fun  ls => F0 m 195 ls []) (fun  H locs ls hi => ?_) (fun J195 => ?_)
            · obtain ⟨hw, Wd, hl⟩ := hi
              have Wd195 := Wd
              unfold wp_compares_195 at hw
              refine lv_aload_n C.1 C.2.1 dX12_compares_195 rfl (lv_at hl 0 rfl) ?_
              refine lv_dup C.1 C.2.1 dX12_compares_196 rfl ?_
              refine k_get (v := .int (zI partings_22)) C Wd.1 KX12 0 39 wM0 (by decide) fl_X12_324 rfl dX12_compares_197 ?_
              refine lv_iconst (v := zI 1) C.1 C.2.1 dX12_compares_200 (by decide) ?_
              refine k_iadd (v := zI (partings_22 + 1)) C (zI_iadd _ _) dX12_compares_201 ?_
              obtain ⟨g202_0, hw⟩ := hw
              refine k_putM C Wd 39 (sI (sI (sI (sI (sI (sI (sI (sI I 30 steps_r38) 31 ending_r38) 32 outMany_r38) 33 cursor_r38) 37 firstParting_22) 38 firstPlace_22) 39 (partings_22 + 1)) 40 s0_154) (by decide) fl_X12_324 rfl rfl rfl rfl (rsI (rsI (rsI (rsI (rsI (rsI (rsI (rsI hS.1 (Wc38.2.1 30)) (Wc38.2.1 31)) (Wc38.2.1 32)) (Wc38.2.1 33)) (Wd22.2.1 37)) (Wd22.2.1 38)) g202_0) g_s0_154) dX12_compares_202 (fun H locs Wd => ?_)
              refine lv_aload_n C.1 C.2.1 dX12_compares_205 rfl (lv_at hl 0 rfl) ?_
              refine k_get (v := .int (zI firstParting_22)) C Wd.1 KX12 0 37 wM0 (by decide) fl_X12_318 rfl dX12_compares_206 ?_
              refine lv_iconst (v := zI (-1)) C.1 C.2.1 dX12_compares_209 (by decide) ?_
              refine lv_icmp_eq (tgt := 216) C.1 C.2.1 dX12_compares_210 (by decide) (fun c210 => ?_) (fun c210 => ?_)
              · have hw := hw.1 (z_eq (Wd22.2.1 37) (show rng (-1) from by decide) c210)
                refine lv_aload_n C.1 C.2.1 dX12_compares_216 rfl (lv_at hl 0 rfl) ?_
                refine lv_iload_n C.1 C.2.1 dX12_compares_217 rfl (lv_at hl 1 rfl) ?_
                refine k_putM C Wd 37 (sI (sI (sI (sI (sI (sI (sI (sI I 30 steps_r38) 31 ending_r38) 32 outMany_r38) 33 cursor_r38) 37 l1_22) 38 firstPlace_22) 39 (partings_22 + 1)) 40 s0_154) (by decide) fl_X12_318 rfl rfl rfl rfl (rsI (rsI (rsI (rsI (rsI (rsI (rsI (rsI hS.1 (Wc38.2.1 30)) (Wc38.2.1 31)) (Wc38.2.1 32)) (Wc38.2.1 33)) g_l1_22) (Wd22.2.1 38)) g202_0) g_s0_154) dX12_compares_218 (fun H locs Wd => ?_)
                refine lv_aload_n C.1 C.2.1 dX12_compares_221 rfl (lv_at hl 0 rfl) ?_
                refine lv_iload_n C.1 C.2.1 dX12_compares_222 rfl (lv_at hl 3 rfl) ?_
                refine lv_if_eq (tgt := 230) C.1 C.2.1 dX12_compares_223 (by decide) (fun c223 => ?_) (fun c223 => ?_)
                · have hw := hw.1 (z0_eq g_s0_110 c223)
                  refine lv_iconst (v := zI (-1)) C.1 C.2.1 dX12_compares_230 (by decide) ?_
                  refine k_putM C Wd 38 (sI (sI (sI (sI (sI (sI (sI (sI I 30 steps_r38) 31 ending_r38) 32 outMany_r38) 33 cursor_r38) 37 l1_22) 38 (-1)) 39 (partings_22 + 1)) 40 s0_154) (by decide) fl_X12_321 rfl rfl rfl rfl (rsI (rsI (rsI (rsI (rsI (rsI (rsI (rsI hS.1 (Wc38.2.1 30)) (Wc38.2.1 31)) (Wc38.2.1 32)) (Wc38.2.1 33)) g_l1_22) (show rng (-1) from by decide)) g202_0) g_s0_154) dX12_compares_231 (fun H locs Wd => ?_)
                  refine lv_iinc (v := zI (l1_22 + 1)) (lv' := [(1, .int (zI (l1_22 + 1))), (0, .ref h), (2, .int (zI l2_43)), (3, .int (zI s0_110))]) C.1 C.2.1 dX12_compares_234 hl (k := 1) rfl (zI_inc _ _ (by decide)) (by decide) rfl (fun ls hl => ?_)
                  replace hl := lv_sub hl [1, 0, 2, 3] rfl
                  refine lv_goto (tgt := 22) C.1 C.2.1 dX12_compares_237 (by decide) ?_
                  obtain ⟨g237_0, hw⟩ := hw
                  exact hL22 _ _ _ _ _ _ _ _ _ _ _ hw _ _ _ ⟨g237_0, wMc Wd rfl rfl ⟨(rsI (rsI (rsI (rsI (rsI (rsI (rsI (rsI hS.1 (Wc38.2.1 30)) (Wc38.2.1 31)) (Wc38.2.1 32)) (Wc38.2.1 33)) g_l1_22) (show rng (-1) from by decide)) g202_0) g_s0_154), (rsF (rsF hS.2 (fun j => Wc38.2.2 28 j)) (fun j => Wc38.2.2 29 j))⟩, lv_sub hl [0, 1] rfl⟩
                · have hw := hw.2 (z0_ne g_s0_110 c223)
                  refine lv_iload_n C.1 C.2.1 dX12_compares_226 rfl (lv_at hl 2 rfl) ?_
                  refine lv_goto (tgt := 231) C.1 C.2.1 dX12_compares_227 (by decide) ?_
                  refine k_putM C Wd 38 (sI (sI (sI (sI (sI (sI (sI (sI I 30 steps_r38) 31 ending_r38) 32 outMany_r38) 33 cursor_r38) 37 l1_22) 38 l2_43) 39 (partings_22 + 1)) 40 s0_154) (by decide) fl_X12_321 rfl rfl rfl rfl (rsI (rsI (rsI (rsI (rsI (rsI (rsI (rsI hS.1 (Wc38.2.1 30)) (Wc38.2.1 31)) (Wc38.2.1 32)) (Wc38.2.1 33)) g_l1_22) g_l2_43) g202_0) g_s0_154) dX12_compares_231 (fun H locs Wd => ?_)
                  refine lv_iinc (v := zI (l1_22 + 1)) (lv' := [(1, .int (zI (l1_22 + 1))), (0, .ref h), (2, .int (zI l2_43)), (3, .int (zI s0_110))]) C.1 C.2.1 dX12_compares_234 hl (k := 1) rfl (zI_inc _ _ (by decide)) (by decide) rfl (fun ls hl => ?_)
                  replace hl := lv_sub hl [1, 0, 2, 3] rfl
                  refine lv_goto (tgt := 22) C.1 C.2.1 dX12_compares_237 (by decide) ?_
                  obtain ⟨g237_0, hw⟩ := hw
                  exact hL22 _ _ _ _ _ _ _ _ _ _ _ hw _ _ _ ⟨g237_0, wMc Wd rfl rfl ⟨(rsI (rsI (rsI (rsI (rsI (rsI (rsI (rsI hS.1 (Wc38.2.1 30)) (Wc38.2.1 31)) (Wc38.2.1 32)) (Wc38.2.1 33)) g_l1_22) g_l2_43) g202_0) g_s0_154), (rsF (rsF hS.2 (fun j => Wc38.2.2 28 j)) (fun j => Wc38.2.2 29 j))⟩, lv_sub hl [0, 1] rfl⟩
              · have hw := hw.2 (z_ne (Wd22.2.1 37) (show rng (-1) from by decide) c210)
                refine lv_goto (tgt := 234) C.1 C.2.1 dX12_compares_213 (by decide) ?_
                refine lv_iinc (v := zI (l1_22 + 1)) (lv' := [(1, .int (zI (l1_22 + 1))), (0, .ref h), (2, .int (zI l2_43)), (3, .int (zI s0_110))]) C.1 C.2.1 dX12_compares_234 hl (k := 1) rfl (zI_inc _ _ (by decide)) (by decide) rfl (fun ls hl => ?_)
                replace hl := lv_sub hl [1, 0, 2, 3] rfl
                refine lv_goto (tgt := 22) C.1 C.2.1 dX12_compares_237 (by decide) ?_
                obtain ⟨g237_0, hw⟩ := hw
                exact hL22 _ _ _ _ _ _ _ _ _ _ _ hw _ _ _ ⟨g237_0, wMc Wd rfl rfl ⟨(rsI (rsI (rsI (rsI (rsI (rsI (rsI (rsI hS.1 (Wc38.2.1 30)) (Wc38.2.1 31)) (Wc38.2.1 32)) (Wc38.2.1 33)) (Wd22.2.1 37)) (Wd22.2.1 38)) g202_0) g_s0_154), (rsF (rsF hS.2 (fun j => Wc38.2.2 28 j)) (fun j => Wc38.2.2 29 j))⟩, lv_sub hl [0, 1] rfl⟩
            refine lv_if_ne (tgt := 195) C.1 C.2.1 dX12_compares_158 (by decide) (fun c158 => ?_) (fun c158 => ?_)
            · have hw := hw.1 (z0_ne g_s0_110 c158)
              exact J195  _ _ _ ⟨hw, wMc Wd rfl rfl ⟨(rsI (rsI (rsI (rsI (rsI (rsI (rsI (rsI hS.1 (Wc38.2.1 30)) (Wc38.2.1 31)) (Wc38.2.1 32)) (Wc38.2.1 33)) (Wd22.2.1 37)) (Wd22.2.1 38)) (Wd22.2.1 39)) g_s0_154), (rsF (rsF hS.2 (fun j => Wc38.2.2 28 j)) (fun j => Wc38.2.2 29 j))⟩, lv_sub hl [0, 1, 2, 3] rfl⟩
            · have hw := hw.2 (z0_eq g_s0_110 c158)
              refine lv_iload C.1 C.2.1 dX12_compares_161 (lv_at hl 4 rfl) ?_
              refine lv_if_ne (tgt := 234) C.1 C.2.1 dX12_compares_163 (by decide) (fun c163 => ?_) (fun c163 => ?_)
              · have hw := hw.1 (z0_ne g_s0_134 c163)
                refine lv_iinc (v := zI (l1_22 + 1)) (lv' := [(1, .int (zI (l1_22 + 1))), (0, .ref h), (2, .int (zI l2_43)), (3, .int (zI s0_110)), (4, .int (zI s0_134))]) C.1 C.2.1 dX12_compares_234 hl (k := 1) rfl (zI_inc _ _ (by decide)) (by decide) rfl (fun ls hl => ?_)
                replace hl := lv_sub hl [1, 0, 2, 3, 4] rfl
                refine lv_goto (tgt := 22) C.1 C.2.1 dX12_compares_237 (by decide) ?_
                obtain ⟨g237_0, hw⟩ := hw
                exact hL22 _ _ _ _ _ _ _ _ _ _ _ hw _ _ _ ⟨g237_0, wMc Wd rfl rfl ⟨(rsI (rsI (rsI (rsI (rsI (rsI (rsI (rsI hS.1 (Wc38.2.1 30)) (Wc38.2.1 31)) (Wc38.2.1 32)) (Wc38.2.1 33)) (Wd22.2.1 37)) (Wd22.2.1 38)) (Wd22.2.1 39)) g_s0_154), (rsF (rsF hS.2 (fun j => Wc38.2.2 28 j)) (fun j => Wc38.2.2 29 j))⟩, lv_sub hl [0, 1] rfl⟩
              · have hw := hw.2 (z0_eq g_s0_134 c163)
                refine lv_aload_n C.1 C.2.1 dX12_compares_166 rfl (lv_at hl 0 rfl) ?_
                refine k_get (v := .int (zI outMany_r38)) C Wd.1 KX12 0 32 wM0 (by decide) fl_X12_312 rfl dX12_compares_167 ?_
                refine lv_aload_n C.1 C.2.1 dX12_compares_170 rfl (lv_at hl 0 rfl) ?_
                refine k_get (v := .ref (ad 35)) C Wd.1 KX12 0 35 wM0 (by decide) fl_X12_50 rfl dX12_compares_171 ?_
                refine lv_iload_n C.1 C.2.1 dX12_compares_174 rfl (lv_at hl 1 rfl) ?_
                obtain ⟨a175, hw⟩ := hw
                refine k_ialdM (g := (F 35)) C Wd 13 12 rfl rfl a175 (by decide) dX12_compares_175 ?_
                have g175 : rng ((F 35) l1_22) := rngL (hS.2 35) a175
                refine lv_icmp_ne (tgt := 195) C.1 C.2.1 dX12_compares_176 (by decide) (fun c176 => ?_) (fun c176 => ?_)
                · have hw := hw.1 (z_ne (Wc38.2.1 32) g175 c176)
                  exact J195  _ _ _ ⟨hw, wMc Wd rfl rfl ⟨(rsI (rsI (rsI (rsI (rsI (rsI (rsI (rsI hS.1 (Wc38.2.1 30)) (Wc38.2.1 31)) (Wc38.2.1 32)) (Wc38.2.1 33)) (Wd22.2.1 37)) (Wd22.2.1 38)) (Wd22.2.1 39)) g_s0_154), (rsF (rsF hS.2 (fun j => Wc38.2.2 28 j)) (fun j => Wc38.2.2 29 j))⟩, lv_sub hl [0, 1, 2, 3] rfl⟩
                · have hw := hw.2 (z_eq (Wc38.2.1 32) g175 c176)
                  refine lv_aload_n C.1 C.2.1 dX12_compares_179 rfl (lv_at hl 0 rfl) ?_
                  refine k_get (v := .int (zI ending_r38)) C Wd.1 KX12 0 31 wM0 (by decide) fl_X12_294 rfl dX12_compares_180 ?_
                  refine lv_aload_n C.1 C.2.1 dX12_compares_183 rfl (lv_at hl 0 rfl) ?_
                  refine k_get (v := .ref (ad 34)) C Wd.1 KX12 0 34 wM0 (by decide) fl_X12_47 rfl dX12_compares_184 ?_
                  refine lv_iload_n C.1 C.2.1 dX12_compares_187 rfl (lv_at hl 1 rfl) ?_
                  obtain ⟨a188, hw⟩ := hw
                  refine k_ialdM (g := (F 34)) C Wd 12 11 rfl rfl a188 (by decide) dX12_compares_188 ?_
                  have g188 : rng ((F 34) l1_22) := rngL (hS.2 34) a188
                  refine lv_icmp_ne (tgt := 195) C.1 C.2.1 dX12_compares_189 (by decide) (fun c189 => ?_) (fun c189 => ?_)
                  · have hw := hw.1 (z_ne (Wc38.2.1 31) g188 c189)
                    exact J195  _ _ _ ⟨hw, wMc Wd rfl rfl ⟨(rsI (rsI (rsI (rsI (rsI (rsI (rsI (rsI hS.1 (Wc38.2.1 30)) (Wc38.2.1 31)) (Wc38.2.1 32)) (Wc38.2.1 33)) (Wd22.2.1 37)) (Wd22.2.1 38)) (Wd22.2.1 39)) g_s0_154), (rsF (rsF hS.2 (fun j => Wc38.2.2 28 j)) (fun j => Wc38.2.2 29 j))⟩, lv_sub hl [0, 1, 2, 3] rfl⟩
                  · have hw := hw.2 (z_eq (Wc38.2.1 31) g188 c189)
                    refine lv_goto (tgt := 234) C.1 C.2.1 dX12_compares_192 (by decide) ?_
                    refine lv_iinc (v := zI (l1_22 + 1)) (lv' := [(1, .int (zI (l1_22 + 1))), (0, .ref h), (2, .int (zI l2_43)), (3, .int (zI s0_110)), (4, .int (zI s0_134))]) C.1 C.2.1 dX12_compares_234 hl (k := 1) rfl (zI_inc _ _ (by decide)) (by decide) rfl (fun ls hl => ?_)
                    replace hl := lv_sub hl [1, 0, 2, 3, 4] rfl
                    refine lv_goto (tgt := 22) C.1 C.2.1 dX12_compares_237 (by decide) ?_
                    obtain ⟨g237_0, hw⟩ := hw
                    exact hL22 _ _ _ _ _ _ _ _ _ _ _ hw _ _ _ ⟨g237_0, wMc Wd rfl rfl ⟨(rsI (rsI (rsI (rsI (rsI (rsI (rsI (rsI hS.1 (Wc38.2.1 30)) (Wc38.2.1 31)) (Wc38.2.1 32)) (Wc38.2.1 33)) (Wd22.2.1 37)) (Wd22.2.1 38)) (Wd22.2.1 39)) g_s0_154), (rsF (rsF hS.2 (fun j => Wc38.2.2 28 j)) (fun j => Wc38.2.2 29 j))⟩, lv_sub hl [0, 1] rfl⟩
          refine k_cut0 (fun  H locs ls => wp_compares_149 (F 34) (F 35) cursor_r38 ending_r38 firstParting_22 firstPlace_22 holds_r38 l1_22 l2_43 outMany_r38 outs_r38 partings_22 s0_110 s0_134 steps_r38 L22 ∧ wXM D ca s h ad (sI (sI (sI (sI (sI (sI (sI (sI I 30 steps_r38) 31 ending_r38) 32 outMany_r38) 33 cursor_r38) 37 firstParting_22) 38 firstPlace_22) 39 partings_22) 40 anyTired_22) (sF (sF F 28 holds_r38) 29 outs_r38) H A s.heap locs ∧ lv_has ls 5 [(0, .ref h), (1, .int (zI l1_22)), (2, .int (zI l2_43)), (3, .int (zI s0_110)), (4, .int (zI s0_134))]) (fun  ls => F0 m 149 ls [.ref h]) (fun  H locs ls hi => ?_) (fun J149 => ?_)
          · obtain ⟨hw, Wd, hl⟩ := hi
            have Wd149 := Wd
            unfold wp_compares_149 at hw
            refine lv_iconst (v := zI 1) C.1 C.2.1 dX12_compares_149 (by decide) ?_
            refine lv_goto (tgt := 154) C.1 C.2.1 dX12_compares_150 (by decide) ?_
            exact J154 1 _ _ _ ⟨(show rng 1 from by decide), hw, wMc Wd rfl rfl ⟨(rsI (rsI (rsI (rsI (rsI (rsI (rsI (rsI hS.1 (Wc38.2.1 30)) (Wc38.2.1 31)) (Wc38.2.1 32)) (Wc38.2.1 33)) (Wd22.2.1 37)) (Wd22.2.1 38)) (Wd22.2.1 39)) (Wd22.2.1 40)), (rsF (rsF hS.2 (fun j => Wc38.2.2 28 j)) (fun j => Wc38.2.2 29 j))⟩, lv_sub hl [0, 1, 2, 3, 4] rfl⟩
          refine lv_if_ne (tgt := 149) C.1 C.2.1 dX12_compares_141 (by decide) (fun c141 => ?_) (fun c141 => ?_)
          · have hw := hw.1 (z0_ne (Wd22.2.1 40) c141)
            exact J149  _ _ _ ⟨hw, wMc Wd rfl rfl ⟨(rsI (rsI (rsI (rsI (rsI (rsI (rsI (rsI hS.1 (Wc38.2.1 30)) (Wc38.2.1 31)) (Wc38.2.1 32)) (Wc38.2.1 33)) (Wd22.2.1 37)) (Wd22.2.1 38)) (Wd22.2.1 39)) (Wd22.2.1 40)), (rsF (rsF hS.2 (fun j => Wc38.2.2 28 j)) (fun j => Wc38.2.2 29 j))⟩, lv_sub hl [0, 1, 2, 3, 4] rfl⟩
          · have hw := hw.2 (z0_eq (Wd22.2.1 40) c141)
            refine lv_iload C.1 C.2.1 dX12_compares_144 (lv_at hl 4 rfl) ?_
            refine lv_if_eq (tgt := 153) C.1 C.2.1 dX12_compares_146 (by decide) (fun c146 => ?_) (fun c146 => ?_)
            · have hw := hw.1 (z0_eq g_s0_134 c146)
              refine lv_iconst (v := zI 0) C.1 C.2.1 dX12_compares_153 (by decide) ?_
              exact J154 0 _ _ _ ⟨(show rng 0 from by decide), hw, wMc Wd rfl rfl ⟨(rsI (rsI (rsI (rsI (rsI (rsI (rsI (rsI hS.1 (Wc38.2.1 30)) (Wc38.2.1 31)) (Wc38.2.1 32)) (Wc38.2.1 33)) (Wd22.2.1 37)) (Wd22.2.1 38)) (Wd22.2.1 39)) (Wd22.2.1 40)), (rsF (rsF hS.2 (fun j => Wc38.2.2 28 j)) (fun j => Wc38.2.2 29 j))⟩, lv_sub hl [0, 1, 2, 3, 4] rfl⟩
            · have hw := hw.2 (z0_ne g_s0_134 c146)
              exact J149  _ _ _ ⟨hw, wMc Wd rfl rfl ⟨(rsI (rsI (rsI (rsI (rsI (rsI (rsI (rsI hS.1 (Wc38.2.1 30)) (Wc38.2.1 31)) (Wc38.2.1 32)) (Wc38.2.1 33)) (Wd22.2.1 37)) (Wd22.2.1 38)) (Wd22.2.1 39)) (Wd22.2.1 40)), (rsF (rsF hS.2 (fun j => Wc38.2.2 28 j)) (fun j => Wc38.2.2 29 j))⟩, lv_sub hl [0, 1, 2, 3, 4] rfl⟩
        refine k_cut0 (fun  H locs ls => wp_compares_129 (F 34) (F 35) anyTired_22 cursor_r38 ending_r38 firstParting_22 firstPlace_22 holds_r38 l1_22 l2_43 outMany_r38 outs_r38 partings_22 s0_110 steps_r38 L22 ∧ wXM D ca s h ad (sI (sI (sI (sI (sI (sI (sI (sI I 30 steps_r38) 31 ending_r38) 32 outMany_r38) 33 cursor_r38) 37 firstParting_22) 38 firstPlace_22) 39 partings_22) 40 anyTired_22) (sF (sF F 28 holds_r38) 29 outs_r38) H A s.heap locs ∧ lv_has ls 5 [(0, .ref h), (1, .int (zI l1_22)), (2, .int (zI l2_43)), (3, .int (zI s0_110))]) (fun  ls => F0 m 129 ls []) (fun  H locs ls hi => ?_) (fun J129 => ?_)
        · obtain ⟨hw, Wd, hl⟩ := hi
          have Wd129 := Wd
          unfold wp_compares_129 at hw
          refine lv_iconst (v := zI 1) C.1 C.2.1 dX12_compares_129 (by decide) ?_
          refine lv_goto (tgt := 134) C.1 C.2.1 dX12_compares_130 (by decide) ?_
          exact J134 1 _ _ _ ⟨(show rng 1 from by decide), hw, wMc Wd rfl rfl ⟨(rsI (rsI (rsI (rsI (rsI (rsI (rsI (rsI hS.1 (Wc38.2.1 30)) (Wc38.2.1 31)) (Wc38.2.1 32)) (Wc38.2.1 33)) (Wd22.2.1 37)) (Wd22.2.1 38)) (Wd22.2.1 39)) (Wd22.2.1 40)), (rsF (rsF hS.2 (fun j => Wc38.2.2 28 j)) (fun j => Wc38.2.2 29 j))⟩, lv_sub hl [0, 1, 2, 3] rfl⟩
        refine lv_icmp_eq (tgt := 129) C.1 C.2.1 dX12_compares_116 (by decide) (fun c116 => ?_) (fun c116 => ?_)
        · have hw := hw.1 (z_eq (Wc38.2.1 31) (show rng 2 from by decide) c116)
          exact J129  _ _ _ ⟨hw, wMc Wd rfl rfl ⟨(rsI (rsI (rsI (rsI (rsI (rsI (rsI (rsI hS.1 (Wc38.2.1 30)) (Wc38.2.1 31)) (Wc38.2.1 32)) (Wc38.2.1 33)) (Wd22.2.1 37)) (Wd22.2.1 38)) (Wd22.2.1 39)) (Wd22.2.1 40)), (rsF (rsF hS.2 (fun j => Wc38.2.2 28 j)) (fun j => Wc38.2.2 29 j))⟩, lv_sub hl [0, 1, 2, 3] rfl⟩
        · have hw := hw.2 (z_ne (Wc38.2.1 31) (show rng 2 from by decide) c116)
          refine lv_aload_n C.1 C.2.1 dX12_compares_119 rfl (lv_at hl 0 rfl) ?_
          refine k_get (v := .ref (ad 34)) C Wd.1 KX12 0 34 wM0 (by decide) fl_X12_47 rfl dX12_compares_120 ?_
          refine lv_iload_n C.1 C.2.1 dX12_compares_123 rfl (lv_at hl 1 rfl) ?_
          obtain ⟨a124, hw⟩ := hw
          refine k_ialdM (g := (F 34)) C Wd 12 11 rfl rfl a124 (by decide) dX12_compares_124 ?_
          have g124 : rng ((F 34) l1_22) := rngL (hS.2 34) a124
          refine lv_iconst (v := zI 2) C.1 C.2.1 dX12_compares_125 (by decide) ?_
          refine lv_icmp_ne (tgt := 133) C.1 C.2.1 dX12_compares_126 (by decide) (fun c126 => ?_) (fun c126 => ?_)
          · have hw := hw.1 (z_ne g124 (show rng 2 from by decide) c126)
            refine lv_iconst (v := zI 0) C.1 C.2.1 dX12_compares_133 (by decide) ?_
            exact J134 0 _ _ _ ⟨(show rng 0 from by decide), hw, wMc Wd rfl rfl ⟨(rsI (rsI (rsI (rsI (rsI (rsI (rsI (rsI hS.1 (Wc38.2.1 30)) (Wc38.2.1 31)) (Wc38.2.1 32)) (Wc38.2.1 33)) (Wd22.2.1 37)) (Wd22.2.1 38)) (Wd22.2.1 39)) (Wd22.2.1 40)), (rsF (rsF hS.2 (fun j => Wc38.2.2 28 j)) (fun j => Wc38.2.2 29 j))⟩, lv_sub hl [0, 1, 2, 3] rfl⟩
          · have hw := hw.2 (z_eq g124 (show rng 2 from by decide) c126)
            exact J129  _ _ _ ⟨hw, wMc Wd rfl rfl ⟨(rsI (rsI (rsI (rsI (rsI (rsI (rsI (rsI hS.1 (Wc38.2.1 30)) (Wc38.2.1 31)) (Wc38.2.1 32)) (Wc38.2.1 33)) (Wd22.2.1 37)) (Wd22.2.1 38)) (Wd22.2.1 39)) (Wd22.2.1 40)), (rsF (rsF hS.2 (fun j => Wc38.2.2 28 j)) (fun j => Wc38.2.2 29 j))⟩, lv_sub hl [0, 1, 2, 3] rfl⟩
      refine k_cut0 (fun  H locs ls => wp_compares_109 (F 34) (F 35) anyTired_22 cursor_r38 ending_r38 firstParting_22 firstPlace_22 holds_r38 l1_22 l2_43 outMany_r38 outs_r38 partings_22 steps_r38 L22 ∧ wXM D ca s h ad (sI (sI (sI (sI (sI (sI (sI (sI I 30 steps_r38) 31 ending_r38) 32 outMany_r38) 33 cursor_r38) 37 firstParting_22) 38 firstPlace_22) 39 partings_22) 40 anyTired_22) (sF (sF F 28 holds_r38) 29 outs_r38) H A s.heap locs ∧ lv_has ls 5 [(0, .ref h), (1, .int (zI l1_22)), (2, .int (zI l2_43))]) (fun  ls => F0 m 109 ls []) (fun  H locs ls hi => ?_) (fun J109 => ?_)
      · obtain ⟨hw, Wd, hl⟩ := hi
        have Wd109 := Wd
        unfold wp_compares_109 at hw
        refine lv_iconst (v := zI 0) C.1 C.2.1 dX12_compares_109 (by decide) ?_
        exact J110 0 _ _ _ ⟨(show rng 0 from by decide), hw, wMc Wd rfl rfl ⟨(rsI (rsI (rsI (rsI (rsI (rsI (rsI (rsI hS.1 (Wc38.2.1 30)) (Wc38.2.1 31)) (Wc38.2.1 32)) (Wc38.2.1 33)) (Wd22.2.1 37)) (Wd22.2.1 38)) (Wd22.2.1 39)) (Wd22.2.1 40)), (rsF (rsF hS.2 (fun j => Wc38.2.2 28 j)) (fun j => Wc38.2.2 29 j))⟩, lv_sub hl [0, 1, 2] rfl⟩
      refine lv_icmp_ge (tgt := 109) C.1 C.2.1 dX12_compares_92 (by decide) (fun c92 => ?_) (fun c92 => ?_)
      · have hw := hw.1 (z_le (Wc38.2.1 32) g_l2_43 c92)
        exact J109  _ _ _ ⟨hw, wMc Wd rfl rfl ⟨(rsI (rsI (rsI (rsI (rsI (rsI (rsI (rsI hS.1 (Wc38.2.1 30)) (Wc38.2.1 31)) (Wc38.2.1 32)) (Wc38.2.1 33)) (Wd22.2.1 37)) (Wd22.2.1 38)) (Wd22.2.1 39)) (Wd22.2.1 40)), (rsF (rsF hS.2 (fun j => Wc38.2.2 28 j)) (fun j => Wc38.2.2 29 j))⟩, lv_sub hl [0, 1, 2] rfl⟩
      · have hw := hw.2 (z_nle (Wc38.2.1 32) g_l2_43 c92)
        refine lv_iload_n C.1 C.2.1 dX12_compares_95 rfl (lv_at hl 2 rfl) ?_
        refine lv_aload_n C.1 C.2.1 dX12_compares_96 rfl (lv_at hl 0 rfl) ?_
        refine k_get (v := .ref (ad 35)) C Wd.1 KX12 0 35 wM0 (by decide) fl_X12_50 rfl dX12_compares_97 ?_
        refine lv_iload_n C.1 C.2.1 dX12_compares_100 rfl (lv_at hl 1 rfl) ?_
        obtain ⟨a101, hw⟩ := hw
        refine k_ialdM (g := (F 35)) C Wd 13 12 rfl rfl a101 (by decide) dX12_compares_101 ?_
        have g101 : rng ((F 35) l1_22) := rngL (hS.2 35) a101
        refine lv_icmp_ge (tgt := 109) C.1 C.2.1 dX12_compares_102 (by decide) (fun c102 => ?_) (fun c102 => ?_)
        · have hw := hw.1 (z_le g101 g_l2_43 c102)
          exact J109  _ _ _ ⟨hw, wMc Wd rfl rfl ⟨(rsI (rsI (rsI (rsI (rsI (rsI (rsI (rsI hS.1 (Wc38.2.1 30)) (Wc38.2.1 31)) (Wc38.2.1 32)) (Wc38.2.1 33)) (Wd22.2.1 37)) (Wd22.2.1 38)) (Wd22.2.1 39)) (Wd22.2.1 40)), (rsF (rsF hS.2 (fun j => Wc38.2.2 28 j)) (fun j => Wc38.2.2 29 j))⟩, lv_sub hl [0, 1, 2] rfl⟩
        · have hw := hw.2 (z_nle g101 g_l2_43 c102)
          refine lv_iconst (v := zI 1) C.1 C.2.1 dX12_compares_105 (by decide) ?_
          refine lv_goto (tgt := 110) C.1 C.2.1 dX12_compares_106 (by decide) ?_
          exact J110 1 _ _ _ ⟨(show rng 1 from by decide), hw, wMc Wd rfl rfl ⟨(rsI (rsI (rsI (rsI (rsI (rsI (rsI (rsI hS.1 (Wc38.2.1 30)) (Wc38.2.1 31)) (Wc38.2.1 32)) (Wc38.2.1 33)) (Wd22.2.1 37)) (Wd22.2.1 38)) (Wd22.2.1 39)) (Wd22.2.1 40)), (rsF (rsF hS.2 (fun j => Wc38.2.2 28 j)) (fun j => Wc38.2.2 29 j))⟩, lv_sub hl [0, 1, 2] rfl⟩
    refine lv_icmp_ge (tgt := 87) C.1 C.2.1 dX12_compares_48 (by decide) (fun c48 => ?_) (fun c48 => ?_)
    · have hw := hw.1 (z_le (Wc38.2.1 32) g_l2_43 c48)
      exact J87  _ _ _ ⟨hw, wMc Wd rfl rfl ⟨(rsI (rsI (rsI (rsI (rsI (rsI (rsI (rsI hS.1 (Wc38.2.1 30)) (Wc38.2.1 31)) (Wc38.2.1 32)) (Wc38.2.1 33)) (Wd22.2.1 37)) (Wd22.2.1 38)) (Wd22.2.1 39)) (Wd22.2.1 40)), (rsF (rsF hS.2 (fun j => Wc38.2.2 28 j)) (fun j => Wc38.2.2 29 j))⟩, lv_sub hl [0, 1, 2] rfl⟩
    · have hw := hw.2 (z_nle (Wc38.2.1 32) g_l2_43 c48)
      refine lv_iload_n C.1 C.2.1 dX12_compares_51 rfl (lv_at hl 2 rfl) ?_
      refine lv_aload_n C.1 C.2.1 dX12_compares_52 rfl (lv_at hl 0 rfl) ?_
      refine k_get (v := .ref (ad 35)) C Wd.1 KX12 0 35 wM0 (by decide) fl_X12_50 rfl dX12_compares_53 ?_
      refine lv_iload_n C.1 C.2.1 dX12_compares_56 rfl (lv_at hl 1 rfl) ?_
      obtain ⟨a57, hw⟩ := hw
      refine k_ialdM (g := (F 35)) C Wd 13 12 rfl rfl a57 (by decide) dX12_compares_57 ?_
      have g57 : rng ((F 35) l1_22) := rngL (hS.2 35) a57
      refine lv_icmp_ge (tgt := 87) C.1 C.2.1 dX12_compares_58 (by decide) (fun c58 => ?_) (fun c58 => ?_)
      · have hw := hw.1 (z_le g57 g_l2_43 c58)
        exact J87  _ _ _ ⟨hw, wMc Wd rfl rfl ⟨(rsI (rsI (rsI (rsI (rsI (rsI (rsI (rsI hS.1 (Wc38.2.1 30)) (Wc38.2.1 31)) (Wc38.2.1 32)) (Wc38.2.1 33)) (Wd22.2.1 37)) (Wd22.2.1 38)) (Wd22.2.1 39)) (Wd22.2.1 40)), (rsF (rsF hS.2 (fun j => Wc38.2.2 28 j)) (fun j => Wc38.2.2 29 j))⟩, lv_sub hl [0, 1, 2] rfl⟩
      · have hw := hw.2 (z_nle g57 g_l2_43 c58)
        refine lv_aload_n C.1 C.2.1 dX12_compares_61 rfl (lv_at hl 0 rfl) ?_
        refine k_get (v := .ref (ad 29)) C Wd.1 KX12 0 29 wM0 (by decide) fl_X12_44 rfl dX12_compares_62 ?_
        refine lv_iload_n C.1 C.2.1 dX12_compares_65 rfl (lv_at hl 2 rfl) ?_
        obtain ⟨a66, hw⟩ := hw
        refine k_ialdM (g := outs_r38) C Wd 11 10 rfl rfl a66 (by decide) dX12_compares_66 ?_
        have g66 : rng (outs_r38 l2_43) := rngL (fun j => Wc38.2.2 29 j) a66
        refine lv_aload_n C.1 C.2.1 dX12_compares_67 rfl (lv_at hl 0 rfl) ?_
        refine k_get (v := .ref (ad 36)) C Wd.1 KX12 0 36 wM0 (by decide) fl_X12_53 rfl dX12_compares_68 ?_
        refine lv_bipush (v := zI 101) C.1 C.2.1 dX12_compares_71 (by decide) ?_
        refine lv_iload_n C.1 C.2.1 dX12_compares_73 rfl (lv_at hl 1 rfl) ?_
        refine k_imul (v := zI (101 * l1_22)) C (zI_imul _ _) dX12_compares_74 ?_
        refine lv_iload_n C.1 C.2.1 dX12_compares_75 rfl (lv_at hl 2 rfl) ?_
        refine k_iadd (v := zI ((101 * l1_22) + l2_43)) C (zI_iadd _ _) dX12_compares_76 ?_
        obtain ⟨a77, hw⟩ := hw
        refine k_ialdM (g := (F 36)) C Wd 14 13 rfl rfl a77 (by decide) dX12_compares_77 ?_
        have g77 : rng ((F 36) ((101 * l1_22) + l2_43)) := rngL (hS.2 36) a77
        refine lv_icmp_ne (tgt := 87) C.1 C.2.1 dX12_compares_78 (by decide) (fun c78 => ?_) (fun c78 => ?_)
        · have hw := hw.1 (z_ne g66 g77 c78)
          exact J87  _ _ _ ⟨hw, wMc Wd rfl rfl ⟨(rsI (rsI (rsI (rsI (rsI (rsI (rsI (rsI hS.1 (Wc38.2.1 30)) (Wc38.2.1 31)) (Wc38.2.1 32)) (Wc38.2.1 33)) (Wd22.2.1 37)) (Wd22.2.1 38)) (Wd22.2.1 39)) (Wd22.2.1 40)), (rsF (rsF hS.2 (fun j => Wc38.2.2 28 j)) (fun j => Wc38.2.2 29 j))⟩, lv_sub hl [0, 1, 2] rfl⟩
        · have hw := hw.2 (z_eq g66 g77 c78)
          refine lv_iinc (v := zI (l2_43 + 1)) (lv' := [(2, .int (zI (l2_43 + 1))), (0, .ref h), (1, .int (zI l1_22))]) C.1 C.2.1 dX12_compares_81 hl (k := 2) rfl (zI_inc _ _ (by decide)) (by decide) rfl (fun ls hl => ?_)
          replace hl := lv_sub hl [1, 2, 0] rfl
          refine lv_goto (tgt := 43) C.1 C.2.1 dX12_compares_84 (by decide) ?_
          obtain ⟨g84_0, hw⟩ := hw
          exact hL43 _ hw _ _ _ ⟨g84_0, wMc Wd rfl rfl ⟨(rsI (rsI (rsI (rsI (rsI (rsI (rsI (rsI hS.1 (Wc38.2.1 30)) (Wc38.2.1 31)) (Wc38.2.1 32)) (Wc38.2.1 33)) (Wd22.2.1 37)) (Wd22.2.1 38)) (Wd22.2.1 39)) (Wd22.2.1 40)), (rsF (rsF hS.2 (fun j => Wc38.2.2 28 j)) (fun j => Wc38.2.2 29 j))⟩, lv_sub hl [0, 1, 2] rfl⟩
set_option maxHeartbeats 4000000 in
set_option maxRecDepth 100000 in
theorem mt_judge : ∀ (D : va_G) (h : Nat) (ad : Nat → Nat) (ca : Nat → ClassId) (I : Nat → Int) (F : Nat → Int → Int) (hS : rngS I F) (x0 : Int) (x1 : Int) (x2 : Int) (g_x0 : rng x0) (g_x1 : rng x1) (g_x2 : rng x2) (K : Int → (Int → Int) → Int → (Int → Int) → (Int → Int) → Int → Int → Int → Int → (Int → Int) → (Int → Int) → (Int → Int) → Int → Int → Int → Int → Prop) (hw : wp_judge (F 0) (F 1) (F 2) (I 4) (F 28) (F 29) (I 30) (I 31) (I 32) (I 33) (F 34) (F 35) (F 36) (I 37) (I 38) (I 39) (I 40) x0 x1 x2 K) (l : Launch) (sz : Nat), Met l yX12_judge (Cond.code yX12_judge cX12_judge 4 (some .int) :: gG) { frames := 712, cells := 0, slots := 0, locals := 15361 } (cPre D (tM ca) (wM h ad ca I F) sz [.ref h, .int (zI x0), .int (zI x1), .int (zI x2)]) (va_Qi (fun (r : Int32) (u : (Int → Int) × (Int) × (Int → Int) × (Int → Int) × (Int) × (Int) × (Int) × (Int) × (Int → Int) × (Int → Int) × (Int → Int) × (Int) × (Int) × (Int) × (Int)) => (∃ x : Int, r = zI x ∧ rng x ∧ K x u.1 u.2.1 u.2.2.1 u.2.2.2.1 u.2.2.2.2.1 u.2.2.2.2.2.1 u.2.2.2.2.2.2.1 u.2.2.2.2.2.2.2.1 u.2.2.2.2.2.2.2.2.1 u.2.2.2.2.2.2.2.2.2.1 u.2.2.2.2.2.2.2.2.2.2.1 u.2.2.2.2.2.2.2.2.2.2.2.1 u.2.2.2.2.2.2.2.2.2.2.2.2.1 u.2.2.2.2.2.2.2.2.2.2.2.2.2.1 u.2.2.2.2.2.2.2.2.2.2.2.2.2.2) ∧ rngS (sI (sI (sI (sI (sI (sI (sI (sI (sI I 4 u.2.1) 30 u.2.2.2.2.1) 31 u.2.2.2.2.2.1) 32 u.2.2.2.2.2.2.1) 33 u.2.2.2.2.2.2.2.1) 37 u.2.2.2.2.2.2.2.2.2.2.2.1) 38 u.2.2.2.2.2.2.2.2.2.2.2.2.1) 39 u.2.2.2.2.2.2.2.2.2.2.2.2.2.1) 40 u.2.2.2.2.2.2.2.2.2.2.2.2.2.2) (sF (sF (sF (sF (sF (sF F 2 u.1) 28 u.2.2.1) 29 u.2.2.2.1) 34 u.2.2.2.2.2.2.2.2.1) 35 u.2.2.2.2.2.2.2.2.2.1) 36 u.2.2.2.2.2.2.2.2.2.2.1)) (fun u t => cB D (va_A (wM h ad ca I F) sz) [] (wM h ad ca (sI (sI (sI (sI (sI (sI (sI (sI (sI I 4 u.2.1) 30 u.2.2.2.2.1) 31 u.2.2.2.2.2.1) 32 u.2.2.2.2.2.2.1) 33 u.2.2.2.2.2.2.2.1) 37 u.2.2.2.2.2.2.2.2.2.2.2.1) 38 u.2.2.2.2.2.2.2.2.2.2.2.2.1) 39 u.2.2.2.2.2.2.2.2.2.2.2.2.2.1) 40 u.2.2.2.2.2.2.2.2.2.2.2.2.2.2) (sF (sF (sF (sF (sF (sF F 2 u.1) 28 u.2.2.1) 29 u.2.2.2.1) 34 u.2.2.2.2.2.2.2.2.1) 35 u.2.2.2.2.2.2.2.2.2.1) 36 u.2.2.2.2.2.2.2.2.2.2.1)) t) (va_A (wM h ad ca I F) sz)) 0 0 (va_A (wM h ad ca I F) sz) := by
  intro D h ad ca I F hS x0 x1 x2 g_x0 g_x1 g_x2 K hw l sz
  refine Met.ofW (cc := cX12_judge) (maxL := 4) (ret := (some .int)) (by decide) rfl ?_
  intro p e s m args below meth c s₁ B hml hv
  obtain ⟨rfl, aks, rfl, Wd⟩ := k_enter hv
  have C : CallFix p m c cX12_judge 4 s _ gG RX12 := ⟨B.exec, B.bytes, hml, findClass_of_methodNamed B.named, fun w h => atoms_spec (ws := Cond.code yX12_judge cX12_judge 4 (some .int) :: gG) B.pre w (List.mem_cons_of_mem _ h)⟩
  have hr := B.returns
  have hlk := B.notSynchronized
  generalize va_A (wM h ad ca I F) s.heap.size = A at Wd ⊢
  replace Wd : wXM D ca s h ad I F s.heap A s.heap [] := ⟨Wd, hS⟩
  refine k_locals (Nat.le_of_ble_eq_true rfl) [(0, .ref h), (1, .int (zI x0)), (2, .int (zI x1)), (3, .int (zI x2))] rfl (fun ls hl => ?_)
  unfold wp_judge at hw
  refine lv_iload_n C.1 C.2.1 dX12_judge_0 rfl (lv_at hl 1 rfl) ?_
  refine k_pi (k_runS (rest := []) C aks Wd.1 cs_X12_249 (mt_isSlot D x0 g_x0 _ hw l _) [] rfl (by decide) [] rfl rfl rfl ⟨(Nat.le_of_ble_eq_true rfl), (Nat.le_of_ble_eq_true rfl)⟩ hl.1 rfl rfl (Nat.le_of_ble_eq_true rfl) ⟨(Nat.le_of_ble_eq_true rfl), (Nat.le_of_ble_eq_true rfl)⟩ dX12_judge_1) (fun y1 hy => ?_)
  obtain ⟨r1, rfl, g_r1, hw⟩ := hy
  refine lv_if_eq (tgt := 23) C.1 C.2.1 dX12_judge_4 (by decide) (fun c4 => ?_) (fun c4 => ?_)
  · have hw := hw.1 (z0_eq g_r1 c4)
    refine lv_iconst (v := zI (-1)) C.1 C.2.1 dX12_judge_23 (by decide) ?_
    exact k_retMi C hr hlk rfl Wd (u := ((F 2), (I 4), (F 28), (F 29), (I 30), (I 31), (I 32), (I 33), (F 34), (F 35), (F 36), (I 37), (I 38), (I 39), (I 40))) rfl rfl ⟨⟨_, rfl, (show rng (-1) from by decide), hw⟩, ⟨(rsI (rsI (rsI (rsI (rsI (rsI (rsI (rsI (rsI hS.1 (hS.1 4)) (hS.1 30)) (hS.1 31)) (hS.1 32)) (hS.1 33)) (hS.1 37)) (hS.1 38)) (hS.1 39)) (hS.1 40)), (rsF (rsF (rsF (rsF (rsF (rsF hS.2 (hS.2 2)) (hS.2 28)) (hS.2 29)) (hS.2 34)) (hS.2 35)) (hS.2 36))⟩⟩ dX12_judge_24
  · have hw := hw.2 (z0_ne g_r1 c4)
    refine lv_iload_n C.1 C.2.1 dX12_judge_7 rfl (lv_at hl 2 rfl) ?_
    refine k_pi (k_runS (rest := []) C aks Wd.1 cs_X12_249 (mt_isSlot D x1 g_x1 _ hw l _) [] rfl (by decide) [] rfl rfl rfl ⟨(Nat.le_of_ble_eq_true rfl), (Nat.le_of_ble_eq_true rfl)⟩ hl.1 rfl rfl (Nat.le_of_ble_eq_true rfl) ⟨(Nat.le_of_ble_eq_true rfl), (Nat.le_of_ble_eq_true rfl)⟩ dX12_judge_8) (fun y8 hy => ?_)
    obtain ⟨r8, rfl, g_r8, hw⟩ := hy
    refine lv_if_eq (tgt := 23) C.1 C.2.1 dX12_judge_11 (by decide) (fun c11 => ?_) (fun c11 => ?_)
    · have hw := hw.1 (z0_eq g_r8 c11)
      refine lv_iconst (v := zI (-1)) C.1 C.2.1 dX12_judge_23 (by decide) ?_
      exact k_retMi C hr hlk rfl Wd (u := ((F 2), (I 4), (F 28), (F 29), (I 30), (I 31), (I 32), (I 33), (F 34), (F 35), (F 36), (I 37), (I 38), (I 39), (I 40))) rfl rfl ⟨⟨_, rfl, (show rng (-1) from by decide), hw⟩, ⟨(rsI (rsI (rsI (rsI (rsI (rsI (rsI (rsI (rsI hS.1 (hS.1 4)) (hS.1 30)) (hS.1 31)) (hS.1 32)) (hS.1 33)) (hS.1 37)) (hS.1 38)) (hS.1 39)) (hS.1 40)), (rsF (rsF (rsF (rsF (rsF (rsF hS.2 (hS.2 2)) (hS.2 28)) (hS.2 29)) (hS.2 34)) (hS.2 35)) (hS.2 36))⟩⟩ dX12_judge_24
    · have hw := hw.2 (z0_ne g_r8 c11)
      refine lv_iload_n C.1 C.2.1 dX12_judge_14 rfl (lv_at hl 3 rfl) ?_
      refine lv_iconst (v := zI 0) C.1 C.2.1 dX12_judge_15 (by decide) ?_
      refine lv_iconst (v := zI 3) C.1 C.2.1 dX12_judge_16 (by decide) ?_
      refine k_pi (k_runS (rest := []) C aks Wd.1 cs_X12_90 (mt_isIn D x2 0 3 g_x2 (show rng 0 from by decide) (show rng 3 from by decide) _ hw l _) [] rfl (by decide) [] rfl rfl rfl ⟨(Nat.le_of_ble_eq_true rfl), (Nat.le_of_ble_eq_true rfl)⟩ hl.1 rfl rfl (Nat.le_of_ble_eq_true rfl) ⟨(Nat.le_of_ble_eq_true rfl), (Nat.le_of_ble_eq_true rfl)⟩ dX12_judge_17) (fun y17 hy => ?_)
      obtain ⟨r17, rfl, g_r17, hw⟩ := hy
      refine lv_if_ne (tgt := 25) C.1 C.2.1 dX12_judge_20 (by decide) (fun c20 => ?_) (fun c20 => ?_)
      · have hw := hw.1 (z0_ne g_r17 c20)
        refine lv_aload_n C.1 C.2.1 dX12_judge_25 rfl (lv_at hl 0 rfl) ?_
        refine lv_iload_n C.1 C.2.1 dX12_judge_26 rfl (lv_at hl 1 rfl) ?_
        refine k_cMv Wd (k_runVM (rest := []) C aks Wd cs_X12_271 (mt_takes D h ad ca I F Wd.2 x0 g_x0 _ hw l _) rfl rfl ⟨(Nat.le_of_ble_eq_true rfl), (Nat.le_of_ble_eq_true rfl)⟩ hl.1 rfl rfl (Nat.le_of_ble_eq_true rfl) ⟨(Nat.le_of_ble_eq_true rfl), (Nat.le_of_ble_eq_true rfl)⟩ dX12_judge_27) (fun u27 H locs hw Wd => ?_)
        obtain ⟨row_r27, many_r27⟩ := u27
        dsimp only at hw
        have Wc27 := Wd
        have Wd : wXM D ca s h ad (sI I 4 many_r27) (sF F 2 row_r27) H A s.heap locs := wMc Wd rfl rfl ⟨(rsI hS.1 (Wc27.2.1 4)), (rsF hS.2 (fun j => Wc27.2.2 2 j))⟩
        refine lv_aload_n C.1 C.2.1 dX12_judge_30 rfl (lv_at hl 0 rfl) ?_
        refine k_cMv Wd (k_runVM (rest := []) C aks Wd cs_X12_330 (mt_keeps D h ad ca (sI I 4 many_r27) (sF F 2 row_r27) Wd.2   _ hw l _) rfl rfl ⟨(Nat.le_of_ble_eq_true rfl), (Nat.le_of_ble_eq_true rfl)⟩ hl.1 rfl rfl (Nat.le_of_ble_eq_true rfl) ⟨(Nat.le_of_ble_eq_true rfl), (Nat.le_of_ble_eq_true rfl)⟩ dX12_judge_31) (fun u31 H locs hw Wd => ?_)
        obtain ⟨holds_r31, outs_r31, steps_r31, ending_r31, outMany_r31, cursor_r31, keptEnd_r31, keptMany_r31, keptOut_r31⟩ := u31
        dsimp only at hw
        have Wc31 := Wd
        have Wd : wXM D ca s h ad (sI (sI (sI (sI (sI I 4 many_r27) 30 steps_r31) 31 ending_r31) 32 outMany_r31) 33 cursor_r31) (sF (sF (sF (sF (sF (sF F 2 row_r27) 28 holds_r31) 29 outs_r31) 34 keptEnd_r31) 35 keptMany_r31) 36 keptOut_r31) H A s.heap locs := wMc Wd rfl rfl ⟨(rsI (rsI (rsI (rsI (rsI hS.1 (Wc27.2.1 4)) (Wc31.2.1 30)) (Wc31.2.1 31)) (Wc31.2.1 32)) (Wc31.2.1 33)), (rsF (rsF (rsF (rsF (rsF (rsF hS.2 (fun j => Wc27.2.2 2 j)) (fun j => Wc31.2.2 28 j)) (fun j => Wc31.2.2 29 j)) (fun j => Wc31.2.2 34 j)) (fun j => Wc31.2.2 35 j)) (fun j => Wc31.2.2 36 j))⟩
        refine lv_aload_n C.1 C.2.1 dX12_judge_34 rfl (lv_at hl 0 rfl) ?_
        refine lv_iload_n C.1 C.2.1 dX12_judge_35 rfl (lv_at hl 2 rfl) ?_
        refine k_cMv Wd (k_runVM (rest := []) C aks Wd cs_X12_271 (mt_takes D h ad ca (sI (sI (sI (sI (sI I 4 many_r27) 30 steps_r31) 31 ending_r31) 32 outMany_r31) 33 cursor_r31) (sF (sF (sF (sF (sF (sF F 2 row_r27) 28 holds_r31) 29 outs_r31) 34 keptEnd_r31) 35 keptMany_r31) 36 keptOut_r31) Wd.2 x1 g_x1 _ hw l _) rfl rfl ⟨(Nat.le_of_ble_eq_true rfl), (Nat.le_of_ble_eq_true rfl)⟩ hl.1 rfl rfl (Nat.le_of_ble_eq_true rfl) ⟨(Nat.le_of_ble_eq_true rfl), (Nat.le_of_ble_eq_true rfl)⟩ dX12_judge_36) (fun u36 H locs hw Wd => ?_)
        obtain ⟨row_r36, many_r36⟩ := u36
        dsimp only at hw
        have Wc36 := Wd
        have Wd : wXM D ca s h ad (sI (sI (sI (sI (sI I 4 many_r36) 30 steps_r31) 31 ending_r31) 32 outMany_r31) 33 cursor_r31) (sF (sF (sF (sF (sF (sF F 2 row_r36) 28 holds_r31) 29 outs_r31) 34 keptEnd_r31) 35 keptMany_r31) 36 keptOut_r31) H A s.heap locs := wMc Wd rfl rfl ⟨(rsI (rsI (rsI (rsI (rsI hS.1 (Wc36.2.1 4)) (Wc31.2.1 30)) (Wc31.2.1 31)) (Wc31.2.1 32)) (Wc31.2.1 33)), (rsF (rsF (rsF (rsF (rsF (rsF hS.2 (fun j => Wc36.2.2 2 j)) (fun j => Wc31.2.2 28 j)) (fun j => Wc31.2.2 29 j)) (fun j => Wc31.2.2 34 j)) (fun j => Wc31.2.2 35 j)) (fun j => Wc31.2.2 36 j))⟩
        refine lv_aload_n C.1 C.2.1 dX12_judge_39 rfl (lv_at hl 0 rfl) ?_
        refine k_cMv Wd (k_runVM (rest := []) C aks Wd cs_X12_333 (mt_compares D h ad ca (sI (sI (sI (sI (sI I 4 many_r36) 30 steps_r31) 31 ending_r31) 32 outMany_r31) 33 cursor_r31) (sF (sF (sF (sF (sF (sF F 2 row_r36) 28 holds_r31) 29 outs_r31) 34 keptEnd_r31) 35 keptMany_r31) 36 keptOut_r31) Wd.2   _ hw l _) rfl rfl ⟨(Nat.le_of_ble_eq_true rfl), (Nat.le_of_ble_eq_true rfl)⟩ hl.1 rfl rfl (Nat.le_of_ble_eq_true rfl) ⟨(Nat.le_of_ble_eq_true rfl), (Nat.le_of_ble_eq_true rfl)⟩ dX12_judge_40) (fun u40 H locs hw Wd => ?_)
        obtain ⟨holds_r40, outs_r40, steps_r40, ending_r40, outMany_r40, cursor_r40, firstParting_r40, firstPlace_r40, partings_r40, anyTired_r40⟩ := u40
        dsimp only at hw
        have Wc40 := Wd
        have Wd : wXM D ca s h ad (sI (sI (sI (sI (sI (sI (sI (sI (sI I 4 many_r36) 30 steps_r40) 31 ending_r40) 32 outMany_r40) 33 cursor_r40) 37 firstParting_r40) 38 firstPlace_r40) 39 partings_r40) 40 anyTired_r40) (sF (sF (sF (sF (sF (sF F 2 row_r36) 28 holds_r40) 29 outs_r40) 34 keptEnd_r31) 35 keptMany_r31) 36 keptOut_r31) H A s.heap locs := wMc Wd rfl rfl ⟨(rsI (rsI (rsI (rsI (rsI (rsI (rsI (rsI (rsI hS.1 (Wc36.2.1 4)) (Wc40.2.1 30)) (Wc40.2.1 31)) (Wc40.2.1 32)) (Wc40.2.1 33)) (Wc40.2.1 37)) (Wc40.2.1 38)) (Wc40.2.1 39)) (Wc40.2.1 40)), (rsF (rsF (rsF (rsF (rsF (rsF hS.2 (fun j => Wc36.2.2 2 j)) (fun j => Wc40.2.2 28 j)) (fun j => Wc40.2.2 29 j)) (fun j => Wc31.2.2 34 j)) (fun j => Wc31.2.2 35 j)) (fun j => Wc31.2.2 36 j))⟩
        refine lv_iload_n C.1 C.2.1 dX12_judge_43 rfl (lv_at hl 3 rfl) ?_
        by_cases c44_0 : x2 = 0
        · have hw := hw.1 c44_0
          refine lv_tableIn (off := 28) (tgt := 72) C.1 C.2.1 dX12_judge_44 (by rw [zI_toInt g_x2]; omega) (by rw [zI_toInt g_x2]; omega) (by rw [zI_toInt g_x2, c44_0]; rfl) (by decide) ?_
          refine lv_aload_n C.1 C.2.1 dX12_judge_72 rfl (lv_at hl 0 rfl) ?_
          refine k_get (v := .int (zI firstParting_r40)) C Wd.1 KX12 0 37 wM0 (by decide) fl_X12_318 rfl dX12_judge_73 ?_
          refine lv_iconst (v := zI (-1)) C.1 C.2.1 dX12_judge_76 (by decide) ?_
          refine lv_icmp_eq (tgt := 84) C.1 C.2.1 dX12_judge_77 (by decide) (fun c77 => ?_) (fun c77 => ?_)
          · have hw := hw.1 (z_eq (Wc40.2.1 37) (show rng (-1) from by decide) c77)
            refine lv_aload_n C.1 C.2.1 dX12_judge_84 rfl (lv_at hl 0 rfl) ?_
            refine k_get (v := .int (zI anyTired_r40)) C Wd.1 KX12 0 40 wM0 (by decide) fl_X12_327 rfl dX12_judge_85 ?_
            refine lv_if_eq (tgt := 95) C.1 C.2.1 dX12_judge_88 (by decide) (fun c88 => ?_) (fun c88 => ?_)
            · have hw := hw.1 (z0_eq (Wc40.2.1 40) c88)
              refine lv_iconst (v := zI 0) C.1 C.2.1 dX12_judge_95 (by decide) ?_
              exact k_retMi C hr hlk rfl Wd (u := (row_r36, many_r36, holds_r40, outs_r40, steps_r40, ending_r40, outMany_r40, cursor_r40, keptEnd_r31, keptMany_r31, keptOut_r31, firstParting_r40, firstPlace_r40, partings_r40, anyTired_r40)) rfl rfl ⟨⟨_, rfl, (show rng 0 from by decide), hw⟩, ⟨(rsI (rsI (rsI (rsI (rsI (rsI (rsI (rsI (rsI hS.1 (Wc36.2.1 4)) (Wc40.2.1 30)) (Wc40.2.1 31)) (Wc40.2.1 32)) (Wc40.2.1 33)) (Wc40.2.1 37)) (Wc40.2.1 38)) (Wc40.2.1 39)) (Wc40.2.1 40)), (rsF (rsF (rsF (rsF (rsF (rsF hS.2 (fun j => Wc36.2.2 2 j)) (fun j => Wc40.2.2 28 j)) (fun j => Wc40.2.2 29 j)) (fun j => Wc31.2.2 34 j)) (fun j => Wc31.2.2 35 j)) (fun j => Wc31.2.2 36 j))⟩⟩ dX12_judge_96
            · have hw := hw.2 (z0_ne (Wc40.2.1 40) c88)
              refine lv_iconst (v := zI 2) C.1 C.2.1 dX12_judge_91 (by decide) ?_
              refine lv_goto (tgt := 96) C.1 C.2.1 dX12_judge_92 (by decide) ?_
              exact k_retMi C hr hlk rfl Wd (u := (row_r36, many_r36, holds_r40, outs_r40, steps_r40, ending_r40, outMany_r40, cursor_r40, keptEnd_r31, keptMany_r31, keptOut_r31, firstParting_r40, firstPlace_r40, partings_r40, anyTired_r40)) rfl rfl ⟨⟨_, rfl, (show rng 2 from by decide), hw⟩, ⟨(rsI (rsI (rsI (rsI (rsI (rsI (rsI (rsI (rsI hS.1 (Wc36.2.1 4)) (Wc40.2.1 30)) (Wc40.2.1 31)) (Wc40.2.1 32)) (Wc40.2.1 33)) (Wc40.2.1 37)) (Wc40.2.1 38)) (Wc40.2.1 39)) (Wc40.2.1 40)), (rsF (rsF (rsF (rsF (rsF (rsF hS.2 (fun j => Wc36.2.2 2 j)) (fun j => Wc40.2.2 28 j)) (fun j => Wc40.2.2 29 j)) (fun j => Wc31.2.2 34 j)) (fun j => Wc31.2.2 35 j)) (fun j => Wc31.2.2 36 j))⟩⟩ dX12_judge_96
          · have hw := hw.2 (z_ne (Wc40.2.1 37) (show rng (-1) from by decide) c77)
            refine lv_iconst (v := zI 1) C.1 C.2.1 dX12_judge_80 (by decide) ?_
            refine lv_goto (tgt := 96) C.1 C.2.1 dX12_judge_81 (by decide) ?_
            exact k_retMi C hr hlk rfl Wd (u := (row_r36, many_r36, holds_r40, outs_r40, steps_r40, ending_r40, outMany_r40, cursor_r40, keptEnd_r31, keptMany_r31, keptOut_r31, firstParting_r40, firstPlace_r40, partings_r40, anyTired_r40)) rfl rfl ⟨⟨_, rfl, (show rng 1 from by decide), hw⟩, ⟨(rsI (rsI (rsI (rsI (rsI (rsI (rsI (rsI (rsI hS.1 (Wc36.2.1 4)) (Wc40.2.1 30)) (Wc40.2.1 31)) (Wc40.2.1 32)) (Wc40.2.1 33)) (Wc40.2.1 37)) (Wc40.2.1 38)) (Wc40.2.1 39)) (Wc40.2.1 40)), (rsF (rsF (rsF (rsF (rsF (rsF hS.2 (fun j => Wc36.2.2 2 j)) (fun j => Wc40.2.2 28 j)) (fun j => Wc40.2.2 29 j)) (fun j => Wc31.2.2 34 j)) (fun j => Wc31.2.2 35 j)) (fun j => Wc31.2.2 36 j))⟩⟩ dX12_judge_96
        by_cases c44_1 : x2 = 1
        · have hw := hw.2.1 c44_1
          refine lv_tableIn (off := 53) (tgt := 97) C.1 C.2.1 dX12_judge_44 (by rw [zI_toInt g_x2]; omega) (by rw [zI_toInt g_x2]; omega) (by rw [zI_toInt g_x2, c44_1]; rfl) (by decide) ?_
          refine lv_aload_n C.1 C.2.1 dX12_judge_97 rfl (lv_at hl 0 rfl) ?_
          refine k_get (v := .int (zI firstParting_r40)) C Wd.1 KX12 0 37 wM0 (by decide) fl_X12_318 rfl dX12_judge_98 ?_
          exact k_retMi C hr hlk rfl Wd (u := (row_r36, many_r36, holds_r40, outs_r40, steps_r40, ending_r40, outMany_r40, cursor_r40, keptEnd_r31, keptMany_r31, keptOut_r31, firstParting_r40, firstPlace_r40, partings_r40, anyTired_r40)) rfl rfl ⟨⟨_, rfl, (Wc40.2.1 37), hw⟩, ⟨(rsI (rsI (rsI (rsI (rsI (rsI (rsI (rsI (rsI hS.1 (Wc36.2.1 4)) (Wc40.2.1 30)) (Wc40.2.1 31)) (Wc40.2.1 32)) (Wc40.2.1 33)) (Wc40.2.1 37)) (Wc40.2.1 38)) (Wc40.2.1 39)) (Wc40.2.1 40)), (rsF (rsF (rsF (rsF (rsF (rsF hS.2 (fun j => Wc36.2.2 2 j)) (fun j => Wc40.2.2 28 j)) (fun j => Wc40.2.2 29 j)) (fun j => Wc31.2.2 34 j)) (fun j => Wc31.2.2 35 j)) (fun j => Wc31.2.2 36 j))⟩⟩ dX12_judge_101
        by_cases c44_2 : x2 = 2
        · have hw := hw.2.2.1 c44_2
          refine lv_tableIn (off := 58) (tgt := 102) C.1 C.2.1 dX12_judge_44 (by rw [zI_toInt g_x2]; omega) (by rw [zI_toInt g_x2]; omega) (by rw [zI_toInt g_x2, c44_2]; rfl) (by decide) ?_
          refine lv_aload_n C.1 C.2.1 dX12_judge_102 rfl (lv_at hl 0 rfl) ?_
          refine k_get (v := .int (zI firstPlace_r40)) C Wd.1 KX12 0 38 wM0 (by decide) fl_X12_321 rfl dX12_judge_103 ?_
          exact k_retMi C hr hlk rfl Wd (u := (row_r36, many_r36, holds_r40, outs_r40, steps_r40, ending_r40, outMany_r40, cursor_r40, keptEnd_r31, keptMany_r31, keptOut_r31, firstParting_r40, firstPlace_r40, partings_r40, anyTired_r40)) rfl rfl ⟨⟨_, rfl, (Wc40.2.1 38), hw⟩, ⟨(rsI (rsI (rsI (rsI (rsI (rsI (rsI (rsI (rsI hS.1 (Wc36.2.1 4)) (Wc40.2.1 30)) (Wc40.2.1 31)) (Wc40.2.1 32)) (Wc40.2.1 33)) (Wc40.2.1 37)) (Wc40.2.1 38)) (Wc40.2.1 39)) (Wc40.2.1 40)), (rsF (rsF (rsF (rsF (rsF (rsF hS.2 (fun j => Wc36.2.2 2 j)) (fun j => Wc40.2.2 28 j)) (fun j => Wc40.2.2 29 j)) (fun j => Wc31.2.2 34 j)) (fun j => Wc31.2.2 35 j)) (fun j => Wc31.2.2 36 j))⟩⟩ dX12_judge_106
        have hw := hw.2.2.2 (by omega)
        refine lv_tableOut (tgt := 107) C.1 C.2.1 dX12_judge_44 (by rw [zI_toInt g_x2]; omega) (by decide) ?_
        refine lv_aload_n C.1 C.2.1 dX12_judge_107 rfl (lv_at hl 0 rfl) ?_
        refine k_get (v := .int (zI partings_r40)) C Wd.1 KX12 0 39 wM0 (by decide) fl_X12_324 rfl dX12_judge_108 ?_
        exact k_retMi C hr hlk rfl Wd (u := (row_r36, many_r36, holds_r40, outs_r40, steps_r40, ending_r40, outMany_r40, cursor_r40, keptEnd_r31, keptMany_r31, keptOut_r31, firstParting_r40, firstPlace_r40, partings_r40, anyTired_r40)) rfl rfl ⟨⟨_, rfl, (Wc40.2.1 39), hw⟩, ⟨(rsI (rsI (rsI (rsI (rsI (rsI (rsI (rsI (rsI hS.1 (Wc36.2.1 4)) (Wc40.2.1 30)) (Wc40.2.1 31)) (Wc40.2.1 32)) (Wc40.2.1 33)) (Wc40.2.1 37)) (Wc40.2.1 38)) (Wc40.2.1 39)) (Wc40.2.1 40)), (rsF (rsF (rsF (rsF (rsF (rsF hS.2 (fun j => Wc36.2.2 2 j)) (fun j => Wc40.2.2 28 j)) (fun j => Wc40.2.2 29 j)) (fun j => Wc31.2.2 34 j)) (fun j => Wc31.2.2 35 j)) (fun j => Wc31.2.2 36 j))⟩⟩ dX12_judge_111
      · have hw := hw.2 (z0_eq g_r17 c20)
        refine lv_iconst (v := zI (-1)) C.1 C.2.1 dX12_judge_23 (by decide) ?_
        exact k_retMi C hr hlk rfl Wd (u := ((F 2), (I 4), (F 28), (F 29), (I 30), (I 31), (I 32), (I 33), (F 34), (F 35), (F 36), (I 37), (I 38), (I 39), (I 40))) rfl rfl ⟨⟨_, rfl, (show rng (-1) from by decide), hw⟩, ⟨(rsI (rsI (rsI (rsI (rsI (rsI (rsI (rsI (rsI hS.1 (hS.1 4)) (hS.1 30)) (hS.1 31)) (hS.1 32)) (hS.1 33)) (hS.1 37)) (hS.1 38)) (hS.1 39)) (hS.1 40)), (rsF (rsF (rsF (rsF (rsF (rsF hS.2 (hS.2 2)) (hS.2 28)) (hS.2 29)) (hS.2 34)) (hS.2 35)) (hS.2 36))⟩⟩ dX12_judge_24
set_option maxHeartbeats 4000000 in
set_option maxRecDepth 100000 in
theorem mg_ruleWorth (n : Nat) : (∀ (D : va_G) (h : Nat) (ad : Nat → Nat) (ca : Nat → ClassId) (I : Nat → Int) (F : Nat → Int → Int) (hS : rngS I F) (x0 : Int) (g_x0 : rng x0) (K : Int → Int → Prop) (hw : wp_ruleWorth n (F 24) (I 33) (F 41) x0 K) (l : Launch) (sz : Nat), Met l yX12_ruleWorth (Cond.code yX12_ruleWorth cX12_ruleWorth 4 (some .int) :: gG) { frames := 3 + n, cells := 0, slots := 0, locals := 126 + 23 * n } (cPre D (tM ca) (wM h ad ca I F) sz [.ref h, .int (zI x0)]) (va_Qi (fun (r : Int32) (u : (Int)) => (∃ x : Int, r = zI x ∧ rng x ∧ K x u) ∧ rngS (sI I 33 u) F) (fun u t => cB D (va_A (wM h ad ca I F) sz) [] (wM h ad ca (sI I 33 u) F) t) (va_A (wM h ad ca I F) sz)) 0 0 (va_A (wM h ad ca I F) sz)) := by
  induction n with
  | zero => exact (fun _ _ _ _ _ _ _ _ _ _ hw => absurd hw id)
  | succ n ih =>
    have ih_ruleWorth := ih
    intro D h ad ca I F hS x0 g_x0 K hw l sz
    refine Met.ofW (cc := cX12_ruleWorth) (maxL := 4) (ret := (some .int)) (by decide) rfl ?_
    intro p e s m args below meth c s₁ B hml hv
    obtain ⟨rfl, aks, rfl, Wd⟩ := k_enter hv
    have C : CallFix p m c cX12_ruleWorth 4 s _ gG RX12 := ⟨B.exec, B.bytes, hml, findClass_of_methodNamed B.named, fun w h => atoms_spec (ws := Cond.code yX12_ruleWorth cX12_ruleWorth 4 (some .int) :: gG) B.pre w (List.mem_cons_of_mem _ h)⟩
    have hr := B.returns
    have hlk := B.notSynchronized
    generalize va_A (wM h ad ca I F) s.heap.size = A at Wd ⊢
    replace Wd : wXM D ca s h ad I F s.heap A s.heap [] := ⟨Wd, hS⟩
    refine k_locals (Nat.le_of_ble_eq_true rfl) [(0, .ref h), (1, .int (zI x0))] rfl (fun ls hl => ?_)
    replace hw : wp_ruleWorth_b (wp_ruleWorth n) (F 24) (I 33) (F 41) x0 K := hw
    unfold wp_ruleWorth_b at hw
    refine lv_aload_n C.1 C.2.1 dX12_ruleWorth_0 rfl (lv_at hl 0 rfl) ?_
    refine k_get (v := .ref (ad 24)) C Wd.1 KX12 0 24 wM0 (by decide) fl_X12_29 rfl dX12_ruleWorth_1 ?_
    refine lv_bipush (v := zI 40) C.1 C.2.1 dX12_ruleWorth_4 (by decide) ?_
    refine lv_iload_n C.1 C.2.1 dX12_ruleWorth_6 rfl (lv_at hl 1 rfl) ?_
    refine k_imul (v := zI (40 * x0)) C (zI_imul _ _) dX12_ruleWorth_7 ?_
    refine lv_aload_n C.1 C.2.1 dX12_ruleWorth_8 rfl (lv_at hl 0 rfl) ?_
    refine k_get (v := .int (zI (I 33))) C Wd.1 KX12 0 33 wM0 (by decide) fl_X12_281 rfl dX12_ruleWorth_9 ?_
    refine k_iadd (v := zI ((40 * x0) + (I 33))) C (zI_iadd _ _) dX12_ruleWorth_12 ?_
    obtain ⟨a13, hw⟩ := hw
    refine k_ialdM (g := (F 24)) C Wd 6 5 rfl rfl a13 (by decide) dX12_ruleWorth_13 ?_
    have g13 : rng ((F 24) ((40 * x0) + (I 33))) := rngL (hS.2 24) a13
    refine lv_istore_n (lv' := [(2, .int (zI ((F 24) ((40 * x0) + (I 33))))), (0, .ref h), (1, .int (zI x0))]) C.1 C.2.1 dX12_ruleWorth_14 rfl hl (by decide) rfl (fun ls hl => ?_)
    replace hl := lv_sub hl [1, 2, 0] rfl
    refine lv_aload_n C.1 C.2.1 dX12_ruleWorth_15 rfl (lv_at hl 0 rfl) ?_
    refine lv_dup C.1 C.2.1 dX12_ruleWorth_16 rfl ?_
    refine k_get (v := .int (zI (I 33))) C Wd.1 KX12 0 33 wM0 (by decide) fl_X12_281 rfl dX12_ruleWorth_17 ?_
    refine lv_iconst (v := zI 1) C.1 C.2.1 dX12_ruleWorth_20 (by decide) ?_
    refine k_iadd (v := zI ((I 33) + 1)) C (zI_iadd _ _) dX12_ruleWorth_21 ?_
    obtain ⟨g22_0, hw⟩ := hw
    refine k_putM C Wd 33 (sI I 33 ((I 33) + 1)) (by decide) fl_X12_281 rfl rfl rfl rfl (rsI hS.1 g22_0) dX12_ruleWorth_22 (fun H locs Wd => ?_)
    refine lv_iload_n C.1 C.2.1 dX12_ruleWorth_25 rfl (lv_at hl 2 rfl) ?_
    refine lv_bipush (v := zI 20) C.1 C.2.1 dX12_ruleWorth_26 (by decide) ?_
    refine lv_icmp_ge (tgt := 33) C.1 C.2.1 dX12_ruleWorth_28 (by decide) (fun c28 => ?_) (fun c28 => ?_)
    · have hw := hw.1 (z_le (show rng 20 from by decide) g13 c28)
      refine lv_iload_n C.1 C.2.1 dX12_ruleWorth_33 rfl (lv_at hl 2 rfl) ?_
      refine lv_bipush (v := zI 120) C.1 C.2.1 dX12_ruleWorth_34 (by decide) ?_
      refine lv_icmp_ge (tgt := 49) C.1 C.2.1 dX12_ruleWorth_36 (by decide) (fun c36 => ?_) (fun c36 => ?_)
      · have hw := hw.1 (z_le (show rng 120 from by decide) g13 c36)
        refine lv_aload_n C.1 C.2.1 dX12_ruleWorth_49 rfl (lv_at hl 0 rfl) ?_
        refine lv_iload_n C.1 C.2.1 dX12_ruleWorth_50 rfl (lv_at hl 1 rfl) ?_
        refine k_cMi Wd (k_runVM (rest := []) C aks Wd cs_X12_336 (ih_ruleWorth D h ad ca (sI I 33 ((I 33) + 1)) F Wd.2 x0 g_x0 _ hw l _) rfl rfl ⟨(by show 3 + n + 1 ≤ 3 + (n + 1); omega), (by show 8 + (4 + 11) + (126 + 23 * n) ≤ 126 + 23 * (n + 1); omega)⟩ hl.1 rfl rfl (Nat.le_of_ble_eq_true rfl) ⟨(Nat.le_of_ble_eq_true rfl), (Nat.le_of_ble_eq_true rfl)⟩ dX12_ruleWorth_51) (fun r51 cursor_r51 H locs g_r51 hw Wd => ?_)
        have Wc51 := Wd
        have Wd : wXM D ca s h ad (sI I 33 cursor_r51) F H A s.heap locs := wMc Wd rfl rfl ⟨(rsI hS.1 (Wc51.2.1 33)), hS.2⟩
        refine lv_istore_n (lv' := [(3, .int (zI r51)), (0, .ref h), (1, .int (zI x0)), (2, .int (zI ((F 24) ((40 * x0) + (I 33)))))]) C.1 C.2.1 dX12_ruleWorth_54 rfl hl (by decide) rfl (fun ls hl => ?_)
        replace hl := lv_sub hl [1, 2, 3, 0] rfl
        refine lv_iload_n C.1 C.2.1 dX12_ruleWorth_55 rfl (lv_at hl 2 rfl) ?_
        refine lv_iload_n C.1 C.2.1 dX12_ruleWorth_56 rfl (lv_at hl 3 rfl) ?_
        refine lv_aload_n C.1 C.2.1 dX12_ruleWorth_57 rfl (lv_at hl 0 rfl) ?_
        refine lv_iload_n C.1 C.2.1 dX12_ruleWorth_58 rfl (lv_at hl 1 rfl) ?_
        refine k_cMi Wd (k_runVM (rest := [.int (zI r51), .int (zI ((F 24) ((40 * x0) + (I 33))))]) C aks Wd cs_X12_336 (ih_ruleWorth D h ad ca (sI I 33 cursor_r51) F Wd.2 x0 g_x0 _ hw l _) rfl rfl ⟨(by show 3 + n + 1 ≤ 3 + (n + 1); omega), (by show 8 + (4 + 11) + (126 + 23 * n) ≤ 126 + 23 * (n + 1); omega)⟩ hl.1 rfl rfl (Nat.le_of_ble_eq_true rfl) ⟨(Nat.le_of_ble_eq_true rfl), (Nat.le_of_ble_eq_true rfl)⟩ dX12_ruleWorth_59) (fun r59 cursor_r59 H locs g_r59 hw Wd => ?_)
        have Wc59 := Wd
        have Wd : wXM D ca s h ad (sI I 33 cursor_r59) F H A s.heap locs := wMc Wd rfl rfl ⟨(rsI hS.1 (Wc59.2.1 33)), hS.2⟩
        refine k_pi (k_runS (rest := []) C aks Wd.1 cs_X12_287 (mt_both D ((F 24) ((40 * x0) + (I 33))) r51 r59 g13 g_r51 g_r59 _ hw l _) [] rfl (by decide) [] rfl rfl rfl ⟨(by show 1 + 1 ≤ 3 + (n + 1); omega), (by show 8 + (3 + 11) + (64) ≤ 126 + 23 * (n + 1); omega)⟩ hl.1 rfl rfl (Nat.le_of_ble_eq_true rfl) ⟨(Nat.le_of_ble_eq_true rfl), (Nat.le_of_ble_eq_true rfl)⟩ dX12_ruleWorth_62) (fun y62 hy => ?_)
        obtain ⟨r62, rfl, g_r62, hw⟩ := hy
        exact k_retMi C hr hlk rfl Wd (u := cursor_r59) rfl rfl ⟨⟨_, rfl, g_r62, hw⟩, ⟨(rsI hS.1 (Wc59.2.1 33)), hS.2⟩⟩ dX12_ruleWorth_65
      · have hw := hw.2 (z_nle (show rng 120 from by decide) g13 c36)
        refine lv_aload_n C.1 C.2.1 dX12_ruleWorth_39 rfl (lv_at hl 0 rfl) ?_
        refine k_get (v := .ref (ad 41)) C Wd.1 KX12 0 41 wM0 (by decide) fl_X12_56 rfl dX12_ruleWorth_40 ?_
        refine lv_iload_n C.1 C.2.1 dX12_ruleWorth_43 rfl (lv_at hl 2 rfl) ?_
        refine lv_bipush (v := zI 30) C.1 C.2.1 dX12_ruleWorth_44 (by decide) ?_
        refine k_isub (v := zI (((F 24) ((40 * x0) + (I 33))) - 30)) C (zI_isub _ _) dX12_ruleWorth_46 ?_
        obtain ⟨a47, hw⟩ := hw
        refine k_ialdM (g := (F 41)) C Wd 15 14 rfl rfl a47 (by decide) dX12_ruleWorth_47 ?_
        have g47 : rng ((F 41) (((F 24) ((40 * x0) + (I 33))) - 30)) := rngL (hS.2 41) a47
        exact k_retMi C hr hlk rfl Wd (u := ((I 33) + 1)) rfl rfl ⟨⟨_, rfl, g47, hw⟩, ⟨(rsI hS.1 g22_0), hS.2⟩⟩ dX12_ruleWorth_48
    · have hw := hw.2 (z_nle (show rng 20 from by decide) g13 c28)
      refine lv_iload_n C.1 C.2.1 dX12_ruleWorth_31 rfl (lv_at hl 2 rfl) ?_
      exact k_retMi C hr hlk rfl Wd (u := ((I 33) + 1)) rfl rfl ⟨⟨_, rfl, g13, hw⟩, ⟨(rsI hS.1 g22_0), hS.2⟩⟩ dX12_ruleWorth_32
theorem mt_ruleWorth : ∀ (D : va_G) (h : Nat) (ad : Nat → Nat) (ca : Nat → ClassId) (I : Nat → Int) (F : Nat → Int → Int) (hS : rngS I F) (x0 : Int) (g_x0 : rng x0) (K : Int → Int → Prop) (hw : wp_ruleWorth 100 (F 24) (I 33) (F 41) x0 K) (l : Launch) (sz : Nat), Met l yX12_ruleWorth (Cond.code yX12_ruleWorth cX12_ruleWorth 4 (some .int) :: gG) { frames := 103, cells := 0, slots := 0, locals := 2426 } (cPre D (tM ca) (wM h ad ca I F) sz [.ref h, .int (zI x0)]) (va_Qi (fun (r : Int32) (u : (Int)) => (∃ x : Int, r = zI x ∧ rng x ∧ K x u) ∧ rngS (sI I 33 u) F) (fun u t => cB D (va_A (wM h ad ca I F) sz) [] (wM h ad ca (sI I 33 u) F) t) (va_A (wM h ad ca I F) sz)) 0 0 (va_A (wM h ad ca I F) sz) := mg_ruleWorth 100
set_option maxHeartbeats 4000000 in
set_option maxRecDepth 100000 in
theorem mt_isAlike : ∀ (D : va_G) (h : Nat) (ad : Nat → Nat) (ca : Nat → ClassId) (I : Nat → Int) (F : Nat → Int → Int) (hS : rngS I F) (x0 : Int) (g_x0 : rng x0) (K : Int → Int → Prop) (hw : wp_isAlike (F 24) (I 33) (F 41) x0 K) (l : Launch) (sz : Nat), Met l yX12_isAlike (Cond.code yX12_isAlike cX12_isAlike 3 (some .boolean) :: gG) { frames := 104, cells := 0, slots := 0, locals := 2449 } (cPre D (tM ca) (wM h ad ca I F) sz [.ref h, .int (zI x0)]) (va_Qi (fun (r : Int32) (u : (Int)) => (∃ x : Int, r = zI x ∧ rng x ∧ K x u) ∧ rngS (sI I 33 u) F) (fun u t => cB D (va_A (wM h ad ca I F) sz) [] (wM h ad ca (sI I 33 u) F) t) (va_A (wM h ad ca I F) sz)) 0 0 (va_A (wM h ad ca I F) sz) := by
  intro D h ad ca I F hS x0 g_x0 K hw l sz
  refine Met.ofW (cc := cX12_isAlike) (maxL := 3) (ret := (some .boolean)) (by decide) rfl ?_
  intro p e s m args below meth c s₁ B hml hv
  obtain ⟨rfl, aks, rfl, Wd⟩ := k_enter hv
  have C : CallFix p m c cX12_isAlike 3 s _ gG RX12 := ⟨B.exec, B.bytes, hml, findClass_of_methodNamed B.named, fun w h => atoms_spec (ws := Cond.code yX12_isAlike cX12_isAlike 3 (some .boolean) :: gG) B.pre w (List.mem_cons_of_mem _ h)⟩
  have hr := B.returns
  have hlk := B.notSynchronized
  generalize va_A (wM h ad ca I F) s.heap.size = A at Wd ⊢
  replace Wd : wXM D ca s h ad I F s.heap A s.heap [] := ⟨Wd, hS⟩
  refine k_locals (Nat.le_of_ble_eq_true rfl) [(0, .ref h), (1, .int (zI x0))] rfl (fun ls hl => ?_)
  unfold wp_isAlike at hw
  refine lv_aload_n C.1 C.2.1 dX12_isAlike_0 rfl (lv_at hl 0 rfl) ?_
  refine lv_iconst (v := zI 0) C.1 C.2.1 dX12_isAlike_1 (by decide) ?_
  refine k_putM C Wd 33 (sI I 33 0) (by decide) fl_X12_281 rfl rfl rfl rfl (rsI hS.1 (show rng 0 from by decide)) dX12_isAlike_2 (fun H locs Wd => ?_)
  refine lv_aload_n C.1 C.2.1 dX12_isAlike_5 rfl (lv_at hl 0 rfl) ?_
  refine lv_iload_n C.1 C.2.1 dX12_isAlike_6 rfl (lv_at hl 1 rfl) ?_
  refine k_cMi Wd (k_runVM (rest := []) C aks Wd cs_X12_336 (mt_ruleWorth D h ad ca (sI I 33 0) F Wd.2 x0 g_x0 _ hw l _) rfl rfl ⟨(Nat.le_of_ble_eq_true rfl), (Nat.le_of_ble_eq_true rfl)⟩ hl.1 rfl rfl (Nat.le_of_ble_eq_true rfl) ⟨(Nat.le_of_ble_eq_true rfl), (Nat.le_of_ble_eq_true rfl)⟩ dX12_isAlike_7) (fun r7 cursor_r7 H locs g_r7 hw Wd => ?_)
  have Wc7 := Wd
  have Wd : wXM D ca s h ad (sI I 33 cursor_r7) F H A s.heap locs := wMc Wd rfl rfl ⟨(rsI hS.1 (Wc7.2.1 33)), hS.2⟩
  refine lv_istore_n (lv' := [(2, .int (zI r7)), (0, .ref h), (1, .int (zI x0))]) C.1 C.2.1 dX12_isAlike_10 rfl hl (by decide) rfl (fun ls hl => ?_)
  replace hl := lv_sub hl [1, 2, 0] rfl
  refine lv_iload_n C.1 C.2.1 dX12_isAlike_11 rfl (lv_at hl 2 rfl) ?_
  refine lv_aload_n C.1 C.2.1 dX12_isAlike_12 rfl (lv_at hl 0 rfl) ?_
  refine lv_iload_n C.1 C.2.1 dX12_isAlike_13 rfl (lv_at hl 1 rfl) ?_
  refine k_cMi Wd (k_runVM (rest := [.int (zI r7)]) C aks Wd cs_X12_336 (mt_ruleWorth D h ad ca (sI I 33 cursor_r7) F Wd.2 x0 g_x0 _ hw l _) rfl rfl ⟨(Nat.le_of_ble_eq_true rfl), (Nat.le_of_ble_eq_true rfl)⟩ hl.1 rfl rfl (Nat.le_of_ble_eq_true rfl) ⟨(Nat.le_of_ble_eq_true rfl), (Nat.le_of_ble_eq_true rfl)⟩ dX12_isAlike_14) (fun r14 cursor_r14 H locs g_r14 hw Wd => ?_)
  have Wc14 := Wd
  have Wd : wXM D ca s h ad (sI I 33 cursor_r14) F H A s.heap locs := wMc Wd rfl rfl ⟨(rsI hS.1 (Wc14.2.1 33)), hS.2⟩
  refine lv_icmp_ne (tgt := 24) C.1 C.2.1 dX12_isAlike_17 (by decide) (fun c17 => ?_) (fun c17 => ?_)
  · have hw := hw.1 (z_ne g_r7 g_r14 c17)
    refine lv_iconst (v := zI 0) C.1 C.2.1 dX12_isAlike_24 (by decide) ?_
    exact k_retMi C hr hlk (by decide) Wd (u := cursor_r14) rfl rfl ⟨⟨_, rfl, (show rng 0 from by decide), hw⟩, ⟨(rsI hS.1 (Wc14.2.1 33)), hS.2⟩⟩ dX12_isAlike_25
  · have hw := hw.2 (z_eq g_r7 g_r14 c17)
    refine lv_iconst (v := zI 1) C.1 C.2.1 dX12_isAlike_20 (by decide) ?_
    refine lv_goto (tgt := 25) C.1 C.2.1 dX12_isAlike_21 (by decide) ?_
    exact k_retMi C hr hlk (by decide) Wd (u := cursor_r14) rfl rfl ⟨⟨_, rfl, (show rng 1 from by decide), hw⟩, ⟨(rsI hS.1 (Wc14.2.1 33)), hS.2⟩⟩ dX12_isAlike_25
set_option maxHeartbeats 4000000 in
set_option maxRecDepth 100000 in
theorem mt_products : ∀ (D : va_G) (h : Nat) (ad : Nat → Nat) (ca : Nat → ClassId) (I : Nat → Int) (F : Nat → Int → Int) (hS : rngS I F) (x0 : Int) (g_x0 : rng x0) (K : (Int → Int) → Int → (Int → Int) → Prop) (hw : wp_products (F 42) (I 43) (F 44) x0 K) (l : Launch) (sz : Nat), Met l yX12_products (Cond.code yX12_products cX12_products 6 none :: gG) { frames := 1, cells := 0, slots := 0, locals := 64 } (cPre D (tM ca) (wM h ad ca I F) sz [.ref h, .int (zI x0)]) (va_Qv (fun (u : (Int → Int) × (Int) × (Int → Int)) => K u.1 u.2.1 u.2.2 ∧ rngS (sI I 43 u.2.1) (sF (sF F 42 u.1) 44 u.2.2)) (fun u t => cB D (va_A (wM h ad ca I F) sz) [] (wM h ad ca (sI I 43 u.2.1) (sF (sF F 42 u.1) 44 u.2.2)) t) (va_A (wM h ad ca I F) sz)) 0 0 (va_A (wM h ad ca I F) sz) := by
  intro D h ad ca I F hS x0 g_x0 K hw l sz
  refine Met.ofW (cc := cX12_products) (maxL := 6) (ret := none) (by decide) rfl ?_
  intro p e s m args below meth c s₁ B hml hv
  obtain ⟨rfl, aks, rfl, Wd⟩ := k_enter hv
  have C : CallFix p m c cX12_products 6 s _ gG RX12 := ⟨B.exec, B.bytes, hml, findClass_of_methodNamed B.named, fun w h => atoms_spec (ws := Cond.code yX12_products cX12_products 6 none :: gG) B.pre w (List.mem_cons_of_mem _ h)⟩
  have hr := B.returns
  have hlk := B.notSynchronized
  generalize va_A (wM h ad ca I F) s.heap.size = A at Wd ⊢
  replace Wd : wXM D ca s h ad I F s.heap A s.heap [] := ⟨Wd, hS⟩
  refine k_locals (Nat.le_of_ble_eq_true rfl) [(0, .ref h), (1, .int (zI x0))] rfl (fun ls hl => ?_)
  unfold wp_products at hw
  refine lv_iconst (v := zI 0) C.1 C.2.1 dX12_products_0 (by decide) ?_
  refine lv_istore_n (lv' := [(2, .int (zI 0)), (0, .ref h), (1, .int (zI x0))]) C.1 C.2.1 dX12_products_1 rfl hl (by decide) rfl (fun ls hl => ?_)
  replace hl := lv_sub hl [1, 2, 0] rfl
  refine k_lp2 hw (fun (l2_2 : Int) (product_2 : Int → Int) H locs ls => rng l2_2 ∧ wXM D ca s h ad I (sF F 44 product_2) H A s.heap locs ∧ lv_has ls 6 [(0, .ref h), (1, .int (zI x0)), (2, .int (zI l2_2))]) (fun (l2_2 : Int) (product_2 : Int → Int) ls => F0 m 2 ls []) (fun L2 hL2 l2_2 product_2 hw H locs ls hi => ?_) _ _ _ ⟨(show rng 0 from by decide), wMc Wd rfl rfl ⟨hS.1, (rsF hS.2 (hS.2 44))⟩, lv_sub hl [0, 1, 2] rfl⟩
  obtain ⟨g_l2_2, Wd, hl⟩ := hi
  have Wd2 := Wd
  unfold wp_products_2 at hw
  refine lv_iload_n C.1 C.2.1 dX12_products_2 rfl (lv_at hl 2 rfl) ?_
  refine lv_sipush (v := zI 512) C.1 C.2.1 dX12_products_3 (zS (by decide) (by decide)) ?_
  refine lv_icmp_ge (tgt := 22) C.1 C.2.1 dX12_products_6 (by decide) (fun c6 => ?_) (fun c6 => ?_)
  · have hw := hw.1 (z_le (show rng 512 from by decide) g_l2_2 c6)
    refine lv_iconst (v := zI 0) C.1 C.2.1 dX12_products_22 (by decide) ?_
    refine lv_istore_n (lv' := [(2, .int (zI 0)), (0, .ref h), (1, .int (zI x0))]) C.1 C.2.1 dX12_products_23 rfl hl (by decide) rfl (fun ls hl => ?_)
    replace hl := lv_sub hl [1, 2, 0] rfl
    refine k_lp3 hw (fun (l2_24 : Int) (isForm_24 : Int) (product_24 : Int → Int) H locs ls => rng l2_24 ∧ wXM D ca s h ad (sI I 43 isForm_24) (sF F 44 product_24) H A s.heap locs ∧ lv_has ls 6 [(0, .ref h), (1, .int (zI x0)), (2, .int (zI l2_24))]) (fun (l2_24 : Int) (isForm_24 : Int) (product_24 : Int → Int) ls => F0 m 24 ls []) (fun L24 hL24 l2_24 isForm_24 product_24 hw H locs ls hi => ?_) _ _ _ ⟨(show rng 0 from by decide), wMc Wd rfl rfl ⟨(rsI hS.1 (hS.1 43)), (rsF hS.2 (fun j => Wd2.2.2 44 j))⟩, lv_sub hl [0, 1, 2] rfl⟩
    obtain ⟨g_l2_24, Wd, hl⟩ := hi
    have Wd24 := Wd
    unfold wp_products_24 at hw
    refine lv_iload_n C.1 C.2.1 dX12_products_24 rfl (lv_at hl 2 rfl) ?_
    refine lv_sipush (v := zI 512) C.1 C.2.1 dX12_products_25 (zS (by decide) (by decide)) ?_
    refine lv_icmp_ge (tgt := 181) C.1 C.2.1 dX12_products_28 (by decide) (fun c28 => ?_) (fun c28 => ?_)
    · have hw := hw.1 (z_le (show rng 512 from by decide) g_l2_24 c28)
      refine lv_iconst (v := zI 0) C.1 C.2.1 dX12_products_181 (by decide) ?_
      refine lv_istore_n (lv' := [(2, .int (zI 0)), (0, .ref h), (1, .int (zI x0))]) C.1 C.2.1 dX12_products_182 rfl hl (by decide) rfl (fun ls hl => ?_)
      replace hl := lv_sub hl [1, 2, 0] rfl
      refine k_lp4 hw (fun (l2_183 : Int) (form_183 : Int → Int) (isForm_183 : Int) (product_183 : Int → Int) H locs ls => rng l2_183 ∧ wXM D ca s h ad (sI I 43 isForm_183) (sF (sF F 42 form_183) 44 product_183) H A s.heap locs ∧ lv_has ls 6 [(0, .ref h), (1, .int (zI x0)), (2, .int (zI l2_183))]) (fun (l2_183 : Int) (form_183 : Int → Int) (isForm_183 : Int) (product_183 : Int → Int) ls => F0 m 183 ls []) (fun L183 hL183 l2_183 form_183 isForm_183 product_183 hw H locs ls hi => ?_) _ _ _ ⟨(show rng 0 from by decide), wMc Wd rfl rfl ⟨(rsI hS.1 (Wd24.2.1 43)), (rsF (rsF hS.2 (hS.2 42)) (fun j => Wd24.2.2 44 j))⟩, lv_sub hl [0, 1, 2] rfl⟩
      obtain ⟨g_l2_183, Wd, hl⟩ := hi
      have Wd183 := Wd
      unfold wp_products_183 at hw
      refine lv_iload_n C.1 C.2.1 dX12_products_183 rfl (lv_at hl 2 rfl) ?_
      refine lv_sipush (v := zI 512) C.1 C.2.1 dX12_products_184 (zS (by decide) (by decide)) ?_
      refine lv_icmp_ge (tgt := 214) C.1 C.2.1 dX12_products_187 (by decide) (fun c187 => ?_) (fun c187 => ?_)
      · have hw := hw.1 (z_le (show rng 512 from by decide) g_l2_183 c187)
        exact k_retMv C hr hlk Wd (u := (form_183, isForm_183, product_183)) rfl rfl ⟨hw, ⟨(rsI hS.1 (Wd183.2.1 43)), (rsF (rsF hS.2 (fun j => Wd183.2.2 42 j)) (fun j => Wd183.2.2 44 j))⟩⟩ dX12_products_214
      · have hw := hw.2 (z_nle (show rng 512 from by decide) g_l2_183 c187)
        refine lv_aload_n C.1 C.2.1 dX12_products_190 rfl (lv_at hl 0 rfl) ?_
        refine k_get (v := .ref (ad 42)) C Wd.1 KX12 0 42 wM0 (by decide) fl_X12_59 rfl dX12_products_191 ?_
        refine lv_sipush (v := zI 512) C.1 C.2.1 dX12_products_194 (zS (by decide) (by decide)) ?_
        refine lv_iload_n C.1 C.2.1 dX12_products_197 rfl (lv_at hl 1 rfl) ?_
        refine k_imul (v := zI (512 * x0)) C (zI_imul _ _) dX12_products_198 ?_
        refine lv_iload_n C.1 C.2.1 dX12_products_199 rfl (lv_at hl 2 rfl) ?_
        refine k_iadd (v := zI ((512 * x0) + l2_183)) C (zI_iadd _ _) dX12_products_200 ?_
        refine lv_aload_n C.1 C.2.1 dX12_products_201 rfl (lv_at hl 0 rfl) ?_
        refine k_get (v := .ref (ad 44)) C Wd.1 KX12 0 44 wM0 (by decide) fl_X12_62 rfl dX12_products_202 ?_
        refine lv_iload_n C.1 C.2.1 dX12_products_205 rfl (lv_at hl 2 rfl) ?_
        obtain ⟨a206, hw⟩ := hw
        refine k_ialdM (g := product_183) C Wd 17 16 rfl rfl a206 (by decide) dX12_products_206 ?_
        have g206 : rng (product_183 l2_183) := rngL (fun j => Wd183.2.2 44 j) a206
        obtain ⟨a207, hw⟩ := hw
        have q207 : ∀ j : Nat, rng ((uZ form_183 ((512 * x0) + l2_183) (product_183 l2_183)) j) := ruZ (fun j => Wd183.2.2 42 j) g206
        refine k_iastM (g := form_183) C Wd 15 15 (sF (sF F 42 (uZ form_183 ((512 * x0) + l2_183) (product_183 l2_183))) 44 product_183) rfl rfl a207 (by decide) rfl rfl (rsF (rsF hS.2 q207) (fun j => Wd183.2.2 44 j)) dX12_products_207 (fun H locs Wd => ?_)
        refine lv_iinc (v := zI (l2_183 + 1)) (lv' := [(2, .int (zI (l2_183 + 1))), (0, .ref h), (1, .int (zI x0))]) C.1 C.2.1 dX12_products_208 hl (k := 2) rfl (zI_inc _ _ (by decide)) (by decide) rfl (fun ls hl => ?_)
        replace hl := lv_sub hl [1, 2, 0] rfl
        refine lv_goto (tgt := 183) C.1 C.2.1 dX12_products_211 (by decide) ?_
        obtain ⟨g211_0, hw⟩ := hw
        exact hL183 _ _ _ _ hw _ _ _ ⟨g211_0, wMc Wd rfl rfl ⟨(rsI hS.1 (Wd183.2.1 43)), (rsF (rsF hS.2 q207) (fun j => Wd183.2.2 44 j))⟩, lv_sub hl [0, 1, 2] rfl⟩
    · have hw := hw.2 (z_nle (show rng 512 from by decide) g_l2_24 c28)
      refine lv_aload_n C.1 C.2.1 dX12_products_31 rfl (lv_at hl 0 rfl) ?_
      refine k_get (v := .ref (ad 42)) C Wd.1 KX12 0 42 wM0 (by decide) fl_X12_59 rfl dX12_products_32 ?_
      refine lv_sipush (v := zI 512) C.1 C.2.1 dX12_products_35 (zS (by decide) (by decide)) ?_
      refine lv_iload_n C.1 C.2.1 dX12_products_38 rfl (lv_at hl 1 rfl) ?_
      refine k_imul (v := zI (512 * x0)) C (zI_imul _ _) dX12_products_39 ?_
      refine lv_iload_n C.1 C.2.1 dX12_products_40 rfl (lv_at hl 2 rfl) ?_
      refine k_iadd (v := zI ((512 * x0) + l2_24)) C (zI_iadd _ _) dX12_products_41 ?_
      obtain ⟨a42, hw⟩ := hw
      refine k_ialdM (g := (F 42)) C Wd 16 15 rfl rfl a42 (by decide) dX12_products_42 ?_
      have g42 : rng ((F 42) ((512 * x0) + l2_24)) := rngL (hS.2 42) a42
      refine lv_istore_n (lv' := [(3, .int (zI ((F 42) ((512 * x0) + l2_24)))), (0, .ref h), (1, .int (zI x0)), (2, .int (zI l2_24))]) C.1 C.2.1 dX12_products_43 rfl hl (by decide) rfl (fun ls hl => ?_)
      replace hl := lv_sub hl [1, 2, 3, 0] rfl
      refine lv_iconst (v := zI 0) C.1 C.2.1 dX12_products_44 (by decide) ?_
      refine lv_istore (lv' := [(4, .int (zI 0)), (0, .ref h), (1, .int (zI x0)), (2, .int (zI l2_24)), (3, .int (zI ((F 42) ((512 * x0) + l2_24))))]) C.1 C.2.1 dX12_products_45 hl (by decide) rfl (fun ls hl => ?_)
      replace hl := lv_sub hl [1, 2, 3, 4, 0] rfl
      refine k_lp3 hw (fun (l4_47 : Int) (isForm_47 : Int) (product_47 : Int → Int) H locs ls => rng l4_47 ∧ wXM D ca s h ad (sI I 43 isForm_47) (sF F 44 product_47) H A s.heap locs ∧ lv_has ls 6 [(0, .ref h), (1, .int (zI x0)), (2, .int (zI l2_24)), (3, .int (zI ((F 42) ((512 * x0) + l2_24)))), (4, .int (zI l4_47))]) (fun (l4_47 : Int) (isForm_47 : Int) (product_47 : Int → Int) ls => F0 m 47 ls []) (fun L47 hL47 l4_47 isForm_47 product_47 hw H locs ls hi => ?_) _ _ _ ⟨(show rng 0 from by decide), wMc Wd rfl rfl ⟨(rsI hS.1 (Wd24.2.1 43)), (rsF hS.2 (fun j => Wd24.2.2 44 j))⟩, lv_sub hl [0, 1, 2, 3, 4] rfl⟩
      obtain ⟨g_l4_47, Wd, hl⟩ := hi
      have Wd47 := Wd
      unfold wp_products_47 at hw
      refine lv_iload C.1 C.2.1 dX12_products_47 (lv_at hl 4 rfl) ?_
      refine lv_sipush (v := zI 512) C.1 C.2.1 dX12_products_49 (zS (by decide) (by decide)) ?_
      refine lv_icmp_ge (tgt := 175) C.1 C.2.1 dX12_products_52 (by decide) (fun c52 => ?_) (fun c52 => ?_)
      · have hw := hw.1 (z_le (show rng 512 from by decide) g_l4_47 c52)
        refine lv_iinc (v := zI (l2_24 + 1)) (lv' := [(2, .int (zI (l2_24 + 1))), (0, .ref h), (1, .int (zI x0)), (3, .int (zI ((F 42) ((512 * x0) + l2_24)))), (4, .int (zI l4_47))]) C.1 C.2.1 dX12_products_175 hl (k := 2) rfl (zI_inc _ _ (by decide)) (by decide) rfl (fun ls hl => ?_)
        replace hl := lv_sub hl [1, 2, 0, 3, 4] rfl
        refine lv_goto (tgt := 24) C.1 C.2.1 dX12_products_178 (by decide) ?_
        obtain ⟨g178_0, hw⟩ := hw
        exact hL24 _ _ _ hw _ _ _ ⟨g178_0, wMc Wd rfl rfl ⟨(rsI hS.1 (Wd47.2.1 43)), (rsF hS.2 (fun j => Wd47.2.2 44 j))⟩, lv_sub hl [0, 1, 2] rfl⟩
      · have hw := hw.2 (z_nle (show rng 512 from by decide) g_l4_47 c52)
        refine lv_iload_n C.1 C.2.1 dX12_products_55 rfl (lv_at hl 3 rfl) ?_
        refine lv_if_eq (tgt := 175) C.1 C.2.1 dX12_products_56 (by decide) (fun c56 => ?_) (fun c56 => ?_)
        · have hw := hw.1 (z0_eq g42 c56)
          refine lv_iinc (v := zI (l2_24 + 1)) (lv' := [(2, .int (zI (l2_24 + 1))), (0, .ref h), (1, .int (zI x0)), (3, .int (zI ((F 42) ((512 * x0) + l2_24)))), (4, .int (zI l4_47))]) C.1 C.2.1 dX12_products_175 hl (k := 2) rfl (zI_inc _ _ (by decide)) (by decide) rfl (fun ls hl => ?_)
          replace hl := lv_sub hl [1, 2, 0, 3, 4] rfl
          refine lv_goto (tgt := 24) C.1 C.2.1 dX12_products_178 (by decide) ?_
          obtain ⟨g178_0, hw⟩ := hw
          exact hL24 _ _ _ hw _ _ _ ⟨g178_0, wMc Wd rfl rfl ⟨(rsI hS.1 (Wd47.2.1 43)), (rsF hS.2 (fun j => Wd47.2.2 44 j))⟩, lv_sub hl [0, 1, 2] rfl⟩
        · have hw := hw.2 (z0_ne g42 c56)
          refine lv_aload_n C.1 C.2.1 dX12_products_59 rfl (lv_at hl 0 rfl) ?_
          refine k_get (v := .ref (ad 42)) C Wd.1 KX12 0 42 wM0 (by decide) fl_X12_59 rfl dX12_products_60 ?_
          refine lv_sipush (v := zI 512) C.1 C.2.1 dX12_products_63 (zS (by decide) (by decide)) ?_
          refine lv_iload_n C.1 C.2.1 dX12_products_66 rfl (lv_at hl 1 rfl) ?_
          refine lv_iconst (v := zI 1) C.1 C.2.1 dX12_products_67 (by decide) ?_
          refine k_iadd (v := zI (x0 + 1)) C (zI_iadd _ _) dX12_products_68 ?_
          refine k_imul (v := zI (512 * (x0 + 1))) C (zI_imul _ _) dX12_products_69 ?_
          refine lv_iload C.1 C.2.1 dX12_products_70 (lv_at hl 4 rfl) ?_
          refine k_iadd (v := zI ((512 * (x0 + 1)) + l4_47)) C (zI_iadd _ _) dX12_products_72 ?_
          obtain ⟨a73, hw⟩ := hw
          refine k_ialdM (g := (F 42)) C Wd 16 15 rfl rfl a73 (by decide) dX12_products_73 ?_
          have g73 : rng ((F 42) ((512 * (x0 + 1)) + l4_47)) := rngL (hS.2 42) a73
          refine lv_istore (lv' := [(5, .int (zI ((F 42) ((512 * (x0 + 1)) + l4_47)))), (0, .ref h), (1, .int (zI x0)), (2, .int (zI l2_24)), (3, .int (zI ((F 42) ((512 * x0) + l2_24)))), (4, .int (zI l4_47))]) C.1 C.2.1 dX12_products_74 hl (by decide) rfl (fun ls hl => ?_)
          replace hl := lv_sub hl [1, 2, 3, 4, 5, 0] rfl
          refine lv_iload C.1 C.2.1 dX12_products_76 (lv_at hl 5 rfl) ?_
          refine lv_if_ne (tgt := 84) C.1 C.2.1 dX12_products_78 (by decide) (fun c78 => ?_) (fun c78 => ?_)
          · have hw := hw.1 (z0_ne g73 c78)
            refine lv_iload_n C.1 C.2.1 dX12_products_84 rfl (lv_at hl 2 rfl) ?_
            refine lv_bipush (v := zI 64) C.1 C.2.1 dX12_products_85 (by decide) ?_
            refine k_idiv (v := zI (zidiv l2_24 64)) C (by decide) (zidiv_eq _ _) dX12_products_87 ?_
            refine lv_iload C.1 C.2.1 dX12_products_88 (lv_at hl 4 rfl) ?_
            refine lv_bipush (v := zI 64) C.1 C.2.1 dX12_products_90 (by decide) ?_
            refine k_idiv (v := zI (zidiv l4_47 64)) C (by decide) (zidiv_eq _ _) dX12_products_92 ?_
            refine k_iadd (v := zI ((zidiv l2_24 64) + (zidiv l4_47 64))) C (zI_iadd _ _) dX12_products_93 ?_
            refine lv_bipush (v := zI 7) C.1 C.2.1 dX12_products_94 (by decide) ?_
            obtain ⟨g96_0, hw⟩ := hw
            refine lv_icmp_gt (tgt := 135) C.1 C.2.1 dX12_products_96 (by decide) (fun c96 => ?_) (fun c96 => ?_)
            · have hw := hw.1 (z_lt (show rng 7 from by decide) g96_0 c96)
              refine lv_aload_n C.1 C.2.1 dX12_products_135 rfl (lv_at hl 0 rfl) ?_
              refine lv_iconst (v := zI 0) C.1 C.2.1 dX12_products_136 (by decide) ?_
              refine k_putM C Wd 43 (sI I 43 0) (by decide) fl_X12_345 rfl (by decide) (by decide) rfl (rsI hS.1 (show rng 0 from by decide)) dX12_products_137 (fun H locs Wd => ?_)
              refine lv_goto (tgt := 169) C.1 C.2.1 dX12_products_140 (by decide) ?_
              refine lv_iinc (v := zI (l4_47 + 1)) (lv' := [(4, .int (zI (l4_47 + 1))), (0, .ref h), (1, .int (zI x0)), (2, .int (zI l2_24)), (3, .int (zI ((F 42) ((512 * x0) + l2_24)))), (5, .int (zI ((F 42) ((512 * (x0 + 1)) + l4_47))))]) C.1 C.2.1 dX12_products_169 hl (k := 4) rfl (zI_inc _ _ (by decide)) (by decide) rfl (fun ls hl => ?_)
              replace hl := lv_sub hl [1, 2, 3, 4, 0, 5] rfl
              refine lv_goto (tgt := 47) C.1 C.2.1 dX12_products_172 (by decide) ?_
              obtain ⟨g172_0, hw⟩ := hw
              exact hL47 _ _ _ hw _ _ _ ⟨g172_0, wMc Wd rfl rfl ⟨(rsI hS.1 (show rng 0 from by decide)), (rsF hS.2 (fun j => Wd47.2.2 44 j))⟩, lv_sub hl [0, 1, 2, 3, 4] rfl⟩
            · have hw := hw.2 (z_nlt (show rng 7 from by decide) g96_0 c96)
              refine lv_iload_n C.1 C.2.1 dX12_products_99 rfl (lv_at hl 2 rfl) ?_
              refine lv_bipush (v := zI 8) C.1 C.2.1 dX12_products_100 (by decide) ?_
              refine k_idiv (v := zI (zidiv l2_24 8)) C (by decide) (zidiv_eq _ _) dX12_products_102 ?_
              refine lv_bipush (v := zI 8) C.1 C.2.1 dX12_products_103 (by decide) ?_
              refine k_irem (v := zI (zirem (zidiv l2_24 8) 8)) C (by decide) (zirem_eq _ _) dX12_products_105 ?_
              refine lv_iload C.1 C.2.1 dX12_products_106 (lv_at hl 4 rfl) ?_
              refine lv_bipush (v := zI 8) C.1 C.2.1 dX12_products_108 (by decide) ?_
              refine k_idiv (v := zI (zidiv l4_47 8)) C (by decide) (zidiv_eq _ _) dX12_products_110 ?_
              refine lv_bipush (v := zI 8) C.1 C.2.1 dX12_products_111 (by decide) ?_
              refine k_irem (v := zI (zirem (zidiv l4_47 8) 8)) C (by decide) (zirem_eq _ _) dX12_products_113 ?_
              refine k_iadd (v := zI ((zirem (zidiv l2_24 8) 8) + (zirem (zidiv l4_47 8) 8))) C (zI_iadd _ _) dX12_products_114 ?_
              refine lv_bipush (v := zI 7) C.1 C.2.1 dX12_products_115 (by decide) ?_
              obtain ⟨g117_0, hw⟩ := hw
              refine lv_icmp_gt (tgt := 135) C.1 C.2.1 dX12_products_117 (by decide) (fun c117 => ?_) (fun c117 => ?_)
              · have hw := hw.1 (z_lt (show rng 7 from by decide) g117_0 c117)
                refine lv_aload_n C.1 C.2.1 dX12_products_135 rfl (lv_at hl 0 rfl) ?_
                refine lv_iconst (v := zI 0) C.1 C.2.1 dX12_products_136 (by decide) ?_
                refine k_putM C Wd 43 (sI I 43 0) (by decide) fl_X12_345 rfl (by decide) (by decide) rfl (rsI hS.1 (show rng 0 from by decide)) dX12_products_137 (fun H locs Wd => ?_)
                refine lv_goto (tgt := 169) C.1 C.2.1 dX12_products_140 (by decide) ?_
                refine lv_iinc (v := zI (l4_47 + 1)) (lv' := [(4, .int (zI (l4_47 + 1))), (0, .ref h), (1, .int (zI x0)), (2, .int (zI l2_24)), (3, .int (zI ((F 42) ((512 * x0) + l2_24)))), (5, .int (zI ((F 42) ((512 * (x0 + 1)) + l4_47))))]) C.1 C.2.1 dX12_products_169 hl (k := 4) rfl (zI_inc _ _ (by decide)) (by decide) rfl (fun ls hl => ?_)
                replace hl := lv_sub hl [1, 2, 3, 4, 0, 5] rfl
                refine lv_goto (tgt := 47) C.1 C.2.1 dX12_products_172 (by decide) ?_
                obtain ⟨g172_0, hw⟩ := hw
                exact hL47 _ _ _ hw _ _ _ ⟨g172_0, wMc Wd rfl rfl ⟨(rsI hS.1 (show rng 0 from by decide)), (rsF hS.2 (fun j => Wd47.2.2 44 j))⟩, lv_sub hl [0, 1, 2, 3, 4] rfl⟩
              · have hw := hw.2 (z_nlt (show rng 7 from by decide) g117_0 c117)
                refine lv_iload_n C.1 C.2.1 dX12_products_120 rfl (lv_at hl 2 rfl) ?_
                refine lv_bipush (v := zI 8) C.1 C.2.1 dX12_products_121 (by decide) ?_
                refine k_irem (v := zI (zirem l2_24 8)) C (by decide) (zirem_eq _ _) dX12_products_123 ?_
                refine lv_iload C.1 C.2.1 dX12_products_124 (lv_at hl 4 rfl) ?_
                refine lv_bipush (v := zI 8) C.1 C.2.1 dX12_products_126 (by decide) ?_
                refine k_irem (v := zI (zirem l4_47 8)) C (by decide) (zirem_eq _ _) dX12_products_128 ?_
                refine k_iadd (v := zI ((zirem l2_24 8) + (zirem l4_47 8))) C (zI_iadd _ _) dX12_products_129 ?_
                refine lv_bipush (v := zI 7) C.1 C.2.1 dX12_products_130 (by decide) ?_
                obtain ⟨g132_0, hw⟩ := hw
                refine lv_icmp_le (tgt := 143) C.1 C.2.1 dX12_products_132 (by decide) (fun c132 => ?_) (fun c132 => ?_)
                · have hw := hw.1 (z_le g132_0 (show rng 7 from by decide) c132)
                  refine lv_aload_n C.1 C.2.1 dX12_products_143 rfl (lv_at hl 0 rfl) ?_
                  refine k_get (v := .ref (ad 44)) C Wd.1 KX12 0 44 wM0 (by decide) fl_X12_62 rfl dX12_products_144 ?_
                  refine lv_iload_n C.1 C.2.1 dX12_products_147 rfl (lv_at hl 2 rfl) ?_
                  refine lv_iload C.1 C.2.1 dX12_products_148 (lv_at hl 4 rfl) ?_
                  refine k_iadd (v := zI (l2_24 + l4_47)) C (zI_iadd _ _) dX12_products_150 ?_
                  refine lv_aload_n C.1 C.2.1 dX12_products_151 rfl (lv_at hl 0 rfl) ?_
                  refine k_get (v := .ref (ad 44)) C Wd.1 KX12 0 44 wM0 (by decide) fl_X12_62 rfl dX12_products_152 ?_
                  refine lv_iload_n C.1 C.2.1 dX12_products_155 rfl (lv_at hl 2 rfl) ?_
                  refine lv_iload C.1 C.2.1 dX12_products_156 (lv_at hl 4 rfl) ?_
                  refine k_iadd (v := zI (l2_24 + l4_47)) C (zI_iadd _ _) dX12_products_158 ?_
                  obtain ⟨a159, hw⟩ := hw
                  refine k_ialdM (g := product_47) C Wd 17 16 rfl rfl a159 (by decide) dX12_products_159 ?_
                  have g159 : rng (product_47 (l2_24 + l4_47)) := rngL (fun j => Wd47.2.2 44 j) a159
                  refine lv_iload_n C.1 C.2.1 dX12_products_160 rfl (lv_at hl 3 rfl) ?_
                  refine lv_iload C.1 C.2.1 dX12_products_161 (lv_at hl 5 rfl) ?_
                  refine k_imul (v := zI (((F 42) ((512 * x0) + l2_24)) * ((F 42) ((512 * (x0 + 1)) + l4_47)))) C (zI_imul _ _) dX12_products_163 ?_
                  refine k_iadd (v := zI ((product_47 (l2_24 + l4_47)) + (((F 42) ((512 * x0) + l2_24)) * ((F 42) ((512 * (x0 + 1)) + l4_47))))) C (zI_iadd _ _) dX12_products_164 ?_
                  refine lv_bipush (v := zI 15) C.1 C.2.1 dX12_products_165 (by decide) ?_
                  refine k_iand (v := zI (ziand ((product_47 (l2_24 + l4_47)) + (((F 42) ((512 * x0) + l2_24)) * ((F 42) ((512 * (x0 + 1)) + l4_47)))) 15)) C (ziand_eq _ _) dX12_products_167 ?_
                  obtain ⟨a168, hw⟩ := hw
                  have q168 : ∀ j : Nat, rng ((uZ product_47 (l2_24 + l4_47) (ziand ((product_47 (l2_24 + l4_47)) + (((F 42) ((512 * x0) + l2_24)) * ((F 42) ((512 * (x0 + 1)) + l4_47)))) 15)) j) := ruZ (fun j => Wd47.2.2 44 j) (rng_toInt _)
                  refine k_iastM (g := product_47) C Wd 16 16 (sF F 44 (uZ product_47 (l2_24 + l4_47) (ziand ((product_47 (l2_24 + l4_47)) + (((F 42) ((512 * x0) + l2_24)) * ((F 42) ((512 * (x0 + 1)) + l4_47)))) 15))) rfl rfl a168 (by decide) rfl rfl (rsF hS.2 q168) dX12_products_168 (fun H locs Wd => ?_)
                  refine lv_iinc (v := zI (l4_47 + 1)) (lv' := [(4, .int (zI (l4_47 + 1))), (0, .ref h), (1, .int (zI x0)), (2, .int (zI l2_24)), (3, .int (zI ((F 42) ((512 * x0) + l2_24)))), (5, .int (zI ((F 42) ((512 * (x0 + 1)) + l4_47))))]) C.1 C.2.1 dX12_products_169 hl (k := 4) rfl (zI_inc _ _ (by decide)) (by decide) rfl (fun ls hl => ?_)
                  replace hl := lv_sub hl [1, 2, 3, 4, 0, 5] rfl
                  refine lv_goto (tgt := 47) C.1 C.2.1 dX12_products_172 (by decide) ?_
                  obtain ⟨g172_0, hw⟩ := hw
                  exact hL47 _ _ _ hw _ _ _ ⟨g172_0, wMc Wd rfl rfl ⟨(rsI hS.1 (Wd47.2.1 43)), (rsF hS.2 q168)⟩, lv_sub hl [0, 1, 2, 3, 4] rfl⟩
                · have hw := hw.2 (z_nle g132_0 (show rng 7 from by decide) c132)
                  refine lv_aload_n C.1 C.2.1 dX12_products_135 rfl (lv_at hl 0 rfl) ?_
                  refine lv_iconst (v := zI 0) C.1 C.2.1 dX12_products_136 (by decide) ?_
                  refine k_putM C Wd 43 (sI I 43 0) (by decide) fl_X12_345 rfl (by decide) (by decide) rfl (rsI hS.1 (show rng 0 from by decide)) dX12_products_137 (fun H locs Wd => ?_)
                  refine lv_goto (tgt := 169) C.1 C.2.1 dX12_products_140 (by decide) ?_
                  refine lv_iinc (v := zI (l4_47 + 1)) (lv' := [(4, .int (zI (l4_47 + 1))), (0, .ref h), (1, .int (zI x0)), (2, .int (zI l2_24)), (3, .int (zI ((F 42) ((512 * x0) + l2_24)))), (5, .int (zI ((F 42) ((512 * (x0 + 1)) + l4_47))))]) C.1 C.2.1 dX12_products_169 hl (k := 4) rfl (zI_inc _ _ (by decide)) (by decide) rfl (fun ls hl => ?_)
                  replace hl := lv_sub hl [1, 2, 3, 4, 0, 5] rfl
                  refine lv_goto (tgt := 47) C.1 C.2.1 dX12_products_172 (by decide) ?_
                  obtain ⟨g172_0, hw⟩ := hw
                  exact hL47 _ _ _ hw _ _ _ ⟨g172_0, wMc Wd rfl rfl ⟨(rsI hS.1 (show rng 0 from by decide)), (rsF hS.2 (fun j => Wd47.2.2 44 j))⟩, lv_sub hl [0, 1, 2, 3, 4] rfl⟩
          · have hw := hw.2 (z0_eq g73 c78)
            refine lv_goto (tgt := 169) C.1 C.2.1 dX12_products_81 (by decide) ?_
            refine lv_iinc (v := zI (l4_47 + 1)) (lv' := [(4, .int (zI (l4_47 + 1))), (0, .ref h), (1, .int (zI x0)), (2, .int (zI l2_24)), (3, .int (zI ((F 42) ((512 * x0) + l2_24)))), (5, .int (zI ((F 42) ((512 * (x0 + 1)) + l4_47))))]) C.1 C.2.1 dX12_products_169 hl (k := 4) rfl (zI_inc _ _ (by decide)) (by decide) rfl (fun ls hl => ?_)
            replace hl := lv_sub hl [1, 2, 3, 4, 0, 5] rfl
            refine lv_goto (tgt := 47) C.1 C.2.1 dX12_products_172 (by decide) ?_
            obtain ⟨g172_0, hw⟩ := hw
            exact hL47 _ _ _ hw _ _ _ ⟨g172_0, wMc Wd rfl rfl ⟨(rsI hS.1 (Wd47.2.1 43)), (rsF hS.2 (fun j => Wd47.2.2 44 j))⟩, lv_sub hl [0, 1, 2, 3, 4] rfl⟩
  · have hw := hw.2 (z_nle (show rng 512 from by decide) g_l2_2 c6)
    refine lv_aload_n C.1 C.2.1 dX12_products_9 rfl (lv_at hl 0 rfl) ?_
    refine k_get (v := .ref (ad 44)) C Wd.1 KX12 0 44 wM0 (by decide) fl_X12_62 rfl dX12_products_10 ?_
    refine lv_iload_n C.1 C.2.1 dX12_products_13 rfl (lv_at hl 2 rfl) ?_
    refine lv_iconst (v := zI 0) C.1 C.2.1 dX12_products_14 (by decide) ?_
    obtain ⟨a15, hw⟩ := hw
    have q15 : ∀ j : Nat, rng ((uZ product_2 l2_2 0) j) := ruZ (fun j => Wd2.2.2 44 j) (show rng 0 from by decide)
    refine k_iastM (g := product_2) C Wd 16 16 (sF F 44 (uZ product_2 l2_2 0)) rfl rfl a15 (by decide) rfl rfl (rsF hS.2 q15) dX12_products_15 (fun H locs Wd => ?_)
    refine lv_iinc (v := zI (l2_2 + 1)) (lv' := [(2, .int (zI (l2_2 + 1))), (0, .ref h), (1, .int (zI x0))]) C.1 C.2.1 dX12_products_16 hl (k := 2) rfl (zI_inc _ _ (by decide)) (by decide) rfl (fun ls hl => ?_)
    replace hl := lv_sub hl [1, 2, 0] rfl
    refine lv_goto (tgt := 2) C.1 C.2.1 dX12_products_19 (by decide) ?_
    obtain ⟨g19_0, hw⟩ := hw
    exact hL2 _ _ hw _ _ _ ⟨g19_0, wMc Wd rfl rfl ⟨hS.1, (rsF hS.2 q15)⟩, lv_sub hl [0, 1, 2] rfl⟩
set_option maxHeartbeats 4000000 in
set_option maxRecDepth 100000 in
theorem mg_forms (n : Nat) : (∀ (D : va_G) (h : Nat) (ad : Nat → Nat) (ca : Nat → ClassId) (I : Nat → Int) (F : Nat → Int → Int) (hS : rngS I F) (x0 : Int) (x1 : Int) (g_x0 : rng x0) (g_x1 : rng x1) (K : Int → (Int → Int) → Int → (Int → Int) → Prop) (hw : wp_forms n (F 24) (I 33) (F 42) (I 43) (F 44) x0 x1 K) (l : Launch) (sz : Nat), Met l yX12_forms (Cond.code yX12_forms cX12_forms 5 none :: gG) { frames := 3 + n, cells := 0, slots := 0, locals := 129 + 24 * n } (cPre D (tM ca) (wM h ad ca I F) sz [.ref h, .int (zI x0), .int (zI x1)]) (va_Qv (fun (u : (Int) × (Int → Int) × (Int) × (Int → Int)) => K u.1 u.2.1 u.2.2.1 u.2.2.2 ∧ rngS (sI (sI I 33 u.1) 43 u.2.2.1) (sF (sF F 42 u.2.1) 44 u.2.2.2)) (fun u t => cB D (va_A (wM h ad ca I F) sz) [] (wM h ad ca (sI (sI I 33 u.1) 43 u.2.2.1) (sF (sF F 42 u.2.1) 44 u.2.2.2)) t) (va_A (wM h ad ca I F) sz)) 0 0 (va_A (wM h ad ca I F) sz)) := by
  induction n with
  | zero => exact (fun _ _ _ _ _ _ _ _ _ _ _ _ hw => absurd hw id)
  | succ n ih =>
    have ih_forms := ih
    intro D h ad ca I F hS x0 x1 g_x0 g_x1 K hw l sz
    refine Met.ofW (cc := cX12_forms) (maxL := 5) (ret := none) (by decide) rfl ?_
    intro p e s m args below meth c s₁ B hml hv
    obtain ⟨rfl, aks, rfl, Wd⟩ := k_enter hv
    have C : CallFix p m c cX12_forms 5 s _ gG RX12 := ⟨B.exec, B.bytes, hml, findClass_of_methodNamed B.named, fun w h => atoms_spec (ws := Cond.code yX12_forms cX12_forms 5 none :: gG) B.pre w (List.mem_cons_of_mem _ h)⟩
    have hr := B.returns
    have hlk := B.notSynchronized
    generalize va_A (wM h ad ca I F) s.heap.size = A at Wd ⊢
    replace Wd : wXM D ca s h ad I F s.heap A s.heap [] := ⟨Wd, hS⟩
    refine k_locals (Nat.le_of_ble_eq_true rfl) [(0, .ref h), (1, .int (zI x0)), (2, .int (zI x1))] rfl (fun ls hl => ?_)
    replace hw : wp_forms_b (wp_forms n) (F 24) (I 33) (F 42) (I 43) (F 44) x0 x1 K := hw
    unfold wp_forms_b at hw
    refine lv_aload_n C.1 C.2.1 dX12_forms_0 rfl (lv_at hl 0 rfl) ?_
    refine k_get (v := .ref (ad 24)) C Wd.1 KX12 0 24 wM0 (by decide) fl_X12_29 rfl dX12_forms_1 ?_
    refine lv_bipush (v := zI 40) C.1 C.2.1 dX12_forms_4 (by decide) ?_
    refine lv_iload_n C.1 C.2.1 dX12_forms_6 rfl (lv_at hl 1 rfl) ?_
    refine k_imul (v := zI (40 * x0)) C (zI_imul _ _) dX12_forms_7 ?_
    refine lv_aload_n C.1 C.2.1 dX12_forms_8 rfl (lv_at hl 0 rfl) ?_
    refine k_get (v := .int (zI (I 33))) C Wd.1 KX12 0 33 wM0 (by decide) fl_X12_281 rfl dX12_forms_9 ?_
    refine k_iadd (v := zI ((40 * x0) + (I 33))) C (zI_iadd _ _) dX12_forms_12 ?_
    obtain ⟨a13, hw⟩ := hw
    refine k_ialdM (g := (F 24)) C Wd 6 5 rfl rfl a13 (by decide) dX12_forms_13 ?_
    have g13 : rng ((F 24) ((40 * x0) + (I 33))) := rngL (hS.2 24) a13
    refine lv_istore_n (lv' := [(3, .int (zI ((F 24) ((40 * x0) + (I 33))))), (0, .ref h), (1, .int (zI x0)), (2, .int (zI x1))]) C.1 C.2.1 dX12_forms_14 rfl hl (by decide) rfl (fun ls hl => ?_)
    replace hl := lv_sub hl [1, 2, 3, 0] rfl
    refine lv_aload_n C.1 C.2.1 dX12_forms_15 rfl (lv_at hl 0 rfl) ?_
    refine lv_dup C.1 C.2.1 dX12_forms_16 rfl ?_
    refine k_get (v := .int (zI (I 33))) C Wd.1 KX12 0 33 wM0 (by decide) fl_X12_281 rfl dX12_forms_17 ?_
    refine lv_iconst (v := zI 1) C.1 C.2.1 dX12_forms_20 (by decide) ?_
    refine k_iadd (v := zI ((I 33) + 1)) C (zI_iadd _ _) dX12_forms_21 ?_
    obtain ⟨g22_0, hw⟩ := hw
    refine k_putM C Wd 33 (sI I 33 ((I 33) + 1)) (by decide) fl_X12_281 rfl rfl rfl rfl (rsI hS.1 g22_0) dX12_forms_22 (fun H locs Wd => ?_)
    refine lv_iconst (v := zI 0) C.1 C.2.1 dX12_forms_25 (by decide) ?_
    refine lv_istore (lv' := [(4, .int (zI 0)), (0, .ref h), (1, .int (zI x0)), (2, .int (zI x1)), (3, .int (zI ((F 24) ((40 * x0) + (I 33)))))]) C.1 C.2.1 dX12_forms_26 hl (by decide) rfl (fun ls hl => ?_)
    replace hl := lv_sub hl [1, 2, 3, 4, 0] rfl
    refine k_lp2 hw (fun (l4_28 : Int) (form_28 : Int → Int) H locs ls => rng l4_28 ∧ wXM D ca s h ad (sI I 33 ((I 33) + 1)) (sF F 42 form_28) H A s.heap locs ∧ lv_has ls 5 [(0, .ref h), (1, .int (zI x0)), (2, .int (zI x1)), (3, .int (zI ((F 24) ((40 * x0) + (I 33))))), (4, .int (zI l4_28))]) (fun (l4_28 : Int) (form_28 : Int → Int) ls => F0 m 28 ls []) (fun L28 hL28 l4_28 form_28 hw H locs ls hi => ?_) _ _ _ ⟨(show rng 0 from by decide), wMc Wd rfl rfl ⟨(rsI hS.1 g22_0), (rsF hS.2 (hS.2 42))⟩, lv_sub hl [0, 1, 2, 3, 4] rfl⟩
    obtain ⟨g_l4_28, Wd, hl⟩ := hi
    have Wd28 := Wd
    unfold wp_forms_28 at hw
    refine lv_iload C.1 C.2.1 dX12_forms_28 (lv_at hl 4 rfl) ?_
    refine lv_sipush (v := zI 512) C.1 C.2.1 dX12_forms_30 (zS (by decide) (by decide)) ?_
    refine lv_icmp_ge (tgt := 56) C.1 C.2.1 dX12_forms_33 (by decide) (fun c33 => ?_) (fun c33 => ?_)
    · have hw := hw.1 (z_le (show rng 512 from by decide) g_l4_28 c33)
      refine lv_iload_n C.1 C.2.1 dX12_forms_56 rfl (lv_at hl 3 rfl) ?_
      refine lv_bipush (v := zI 20) C.1 C.2.1 dX12_forms_57 (by decide) ?_
      refine lv_icmp_ge (tgt := 76) C.1 C.2.1 dX12_forms_59 (by decide) (fun c59 => ?_) (fun c59 => ?_)
      · have hw := hw.1 (z_le (show rng 20 from by decide) g13 c59)
        refine lv_iload_n C.1 C.2.1 dX12_forms_76 rfl (lv_at hl 3 rfl) ?_
        refine lv_bipush (v := zI 120) C.1 C.2.1 dX12_forms_77 (by decide) ?_
        refine lv_icmp_ge (tgt := 120) C.1 C.2.1 dX12_forms_79 (by decide) (fun c79 => ?_) (fun c79 => ?_)
        · have hw := hw.1 (z_le (show rng 120 from by decide) g13 c79)
          refine lv_aload_n C.1 C.2.1 dX12_forms_120 rfl (lv_at hl 0 rfl) ?_
          refine lv_iload_n C.1 C.2.1 dX12_forms_121 rfl (lv_at hl 1 rfl) ?_
          refine lv_iload_n C.1 C.2.1 dX12_forms_122 rfl (lv_at hl 2 rfl) ?_
          refine k_cMv Wd (k_runVM (rest := []) C aks Wd cs_X12_339 (ih_forms D h ad ca (sI I 33 ((I 33) + 1)) (sF F 42 form_28) Wd.2 x0 x1 g_x0 g_x1 _ hw l _) rfl rfl ⟨(by show 3 + n + 1 ≤ 3 + (n + 1); omega), (by show 8 + (5 + 11) + (129 + 24 * n) ≤ 129 + 24 * (n + 1); omega)⟩ hl.1 rfl rfl (Nat.le_of_ble_eq_true rfl) ⟨(Nat.le_of_ble_eq_true rfl), (Nat.le_of_ble_eq_true rfl)⟩ dX12_forms_123) (fun u123 H locs hw Wd => ?_)
          obtain ⟨cursor_r123, form_r123, isForm_r123, product_r123⟩ := u123
          dsimp only at hw
          have Wc123 := Wd
          have Wd : wXM D ca s h ad (sI (sI I 33 cursor_r123) 43 isForm_r123) (sF (sF F 42 form_r123) 44 product_r123) H A s.heap locs := wMc Wd rfl rfl ⟨(rsI (rsI hS.1 (Wc123.2.1 33)) (Wc123.2.1 43)), (rsF (rsF hS.2 (fun j => Wc123.2.2 42 j)) (fun j => Wc123.2.2 44 j))⟩
          refine lv_aload_n C.1 C.2.1 dX12_forms_126 rfl (lv_at hl 0 rfl) ?_
          refine lv_iload_n C.1 C.2.1 dX12_forms_127 rfl (lv_at hl 1 rfl) ?_
          refine lv_iload_n C.1 C.2.1 dX12_forms_128 rfl (lv_at hl 2 rfl) ?_
          refine lv_iconst (v := zI 1) C.1 C.2.1 dX12_forms_129 (by decide) ?_
          refine k_iadd (v := zI (x1 + 1)) C (zI_iadd _ _) dX12_forms_130 ?_
          obtain ⟨g131_0, hw⟩ := hw
          refine k_cMv Wd (k_runVM (rest := []) C aks Wd cs_X12_339 (ih_forms D h ad ca (sI (sI I 33 cursor_r123) 43 isForm_r123) (sF (sF F 42 form_r123) 44 product_r123) Wd.2 x0 (x1 + 1) g_x0 g131_0 _ hw l _) rfl rfl ⟨(by show 3 + n + 1 ≤ 3 + (n + 1); omega), (by show 8 + (5 + 11) + (129 + 24 * n) ≤ 129 + 24 * (n + 1); omega)⟩ hl.1 rfl rfl (Nat.le_of_ble_eq_true rfl) ⟨(Nat.le_of_ble_eq_true rfl), (Nat.le_of_ble_eq_true rfl)⟩ dX12_forms_131) (fun u131 H locs hw Wd => ?_)
          obtain ⟨cursor_r131, form_r131, isForm_r131, product_r131⟩ := u131
          dsimp only at hw
          have Wc131 := Wd
          have Wd : wXM D ca s h ad (sI (sI I 33 cursor_r131) 43 isForm_r131) (sF (sF F 42 form_r131) 44 product_r131) H A s.heap locs := wMc Wd rfl rfl ⟨(rsI (rsI hS.1 (Wc131.2.1 33)) (Wc131.2.1 43)), (rsF (rsF hS.2 (fun j => Wc131.2.2 42 j)) (fun j => Wc131.2.2 44 j))⟩
          refine lv_iload_n C.1 C.2.1 dX12_forms_134 rfl (lv_at hl 3 rfl) ?_
          refine lv_bipush (v := zI 122) C.1 C.2.1 dX12_forms_135 (by decide) ?_
          refine lv_icmp_ge (tgt := 205) C.1 C.2.1 dX12_forms_137 (by decide) (fun c137 => ?_) (fun c137 => ?_)
          · have hw := hw.1 (z_le (show rng 122 from by decide) g13 c137)
            refine lv_aload_n C.1 C.2.1 dX12_forms_205 rfl (lv_at hl 0 rfl) ?_
            refine lv_iload_n C.1 C.2.1 dX12_forms_206 rfl (lv_at hl 2 rfl) ?_
            refine k_cMv Wd (k_runVM (rest := []) C aks Wd cs_X12_342 (mt_products D h ad ca (sI (sI I 33 cursor_r131) 43 isForm_r131) (sF (sF F 42 form_r131) 44 product_r131) Wd.2 x1 g_x1 _ hw l _) rfl rfl ⟨(by show 1 + 1 ≤ 3 + (n + 1); omega), (by show 8 + (6 + 11) + (64) ≤ 129 + 24 * (n + 1); omega)⟩ hl.1 rfl rfl (Nat.le_of_ble_eq_true rfl) ⟨(Nat.le_of_ble_eq_true rfl), (Nat.le_of_ble_eq_true rfl)⟩ dX12_forms_207) (fun u207 H locs hw Wd => ?_)
            obtain ⟨form_r207, isForm_r207, product_r207⟩ := u207
            dsimp only at hw
            have Wc207 := Wd
            have Wd : wXM D ca s h ad (sI (sI I 33 cursor_r131) 43 isForm_r207) (sF (sF F 42 form_r207) 44 product_r207) H A s.heap locs := wMc Wd rfl rfl ⟨(rsI (rsI hS.1 (Wc131.2.1 33)) (Wc207.2.1 43)), (rsF (rsF hS.2 (fun j => Wc207.2.2 42 j)) (fun j => Wc207.2.2 44 j))⟩
            exact k_retMv C hr hlk Wd (u := (cursor_r131, form_r207, isForm_r207, product_r207)) rfl rfl ⟨hw, ⟨(rsI (rsI hS.1 (Wc131.2.1 33)) (Wc207.2.1 43)), (rsF (rsF hS.2 (fun j => Wc207.2.2 42 j)) (fun j => Wc207.2.2 44 j))⟩⟩ dX12_forms_210
          · have hw := hw.2 (z_nle (show rng 122 from by decide) g13 c137)
            refine lv_iconst (v := zI 0) C.1 C.2.1 dX12_forms_140 (by decide) ?_
            refine lv_istore (lv' := [(4, .int (zI 0)), (0, .ref h), (1, .int (zI x0)), (2, .int (zI x1)), (3, .int (zI ((F 24) ((40 * x0) + (I 33)))))]) C.1 C.2.1 dX12_forms_141 hl (by decide) rfl (fun ls hl => ?_)
            replace hl := lv_sub hl [1, 2, 3, 4, 0] rfl
            refine k_lp2 hw (fun (l4_143 : Int) (form_143 : Int → Int) H locs ls => rng l4_143 ∧ wXM D ca s h ad (sI (sI I 33 cursor_r131) 43 isForm_r131) (sF (sF F 42 form_143) 44 product_r131) H A s.heap locs ∧ lv_has ls 5 [(0, .ref h), (2, .int (zI x1)), (3, .int (zI ((F 24) ((40 * x0) + (I 33))))), (4, .int (zI l4_143))]) (fun (l4_143 : Int) (form_143 : Int → Int) ls => F0 m 143 ls []) (fun L143 hL143 l4_143 form_143 hw H locs ls hi => ?_) _ _ _ ⟨(show rng 0 from by decide), wMc Wd rfl rfl ⟨(rsI (rsI hS.1 (Wc131.2.1 33)) (Wc131.2.1 43)), (rsF (rsF hS.2 (fun j => Wc131.2.2 42 j)) (fun j => Wc131.2.2 44 j))⟩, lv_sub hl [0, 2, 3, 4] rfl⟩
            obtain ⟨g_l4_143, Wd, hl⟩ := hi
            have Wd143 := Wd
            unfold wp_forms_143 at hw
            refine lv_iload C.1 C.2.1 dX12_forms_143 (lv_at hl 3 rfl) ?_
            refine lv_sipush (v := zI 512) C.1 C.2.1 dX12_forms_145 (zS (by decide) (by decide)) ?_
            refine lv_icmp_ge (tgt := 202) C.1 C.2.1 dX12_forms_148 (by decide) (fun c148 => ?_) (fun c148 => ?_)
            · have hw := hw.1 (z_le (show rng 512 from by decide) g_l4_143 c148)
              refine lv_goto (tgt := 210) C.1 C.2.1 dX12_forms_202 (by decide) ?_
              exact k_retMv C hr hlk Wd (u := (cursor_r131, form_143, isForm_r131, product_r131)) rfl rfl ⟨hw, ⟨(rsI (rsI hS.1 (Wc131.2.1 33)) (Wc131.2.1 43)), (rsF (rsF hS.2 (fun j => Wd143.2.2 42 j)) (fun j => Wc131.2.2 44 j))⟩⟩ dX12_forms_210
            · have hw := hw.2 (z_nle (show rng 512 from by decide) g_l4_143 c148)
              refine lv_aload_n C.1 C.2.1 dX12_forms_151 rfl (lv_at hl 0 rfl) ?_
              refine k_get (v := .ref (ad 42)) C Wd.1 KX12 0 42 wM0 (by decide) fl_X12_59 rfl dX12_forms_152 ?_
              refine lv_sipush (v := zI 512) C.1 C.2.1 dX12_forms_155 (zS (by decide) (by decide)) ?_
              refine lv_iload_n C.1 C.2.1 dX12_forms_158 rfl (lv_at hl 1 rfl) ?_
              refine k_imul (v := zI (512 * x1)) C (zI_imul _ _) dX12_forms_159 ?_
              refine lv_iload C.1 C.2.1 dX12_forms_160 (lv_at hl 3 rfl) ?_
              refine k_iadd (v := zI ((512 * x1) + l4_143)) C (zI_iadd _ _) dX12_forms_162 ?_
              refine lv_iload_n C.1 C.2.1 dX12_forms_163 rfl (lv_at hl 2 rfl) ?_
              refine lv_aload_n C.1 C.2.1 dX12_forms_164 rfl (lv_at hl 0 rfl) ?_
              refine k_get (v := .ref (ad 42)) C Wd.1 KX12 0 42 wM0 (by decide) fl_X12_59 rfl dX12_forms_165 ?_
              refine lv_sipush (v := zI 512) C.1 C.2.1 dX12_forms_168 (zS (by decide) (by decide)) ?_
              refine lv_iload_n C.1 C.2.1 dX12_forms_171 rfl (lv_at hl 1 rfl) ?_
              refine k_imul (v := zI (512 * x1)) C (zI_imul _ _) dX12_forms_172 ?_
              refine lv_iload C.1 C.2.1 dX12_forms_173 (lv_at hl 3 rfl) ?_
              refine k_iadd (v := zI ((512 * x1) + l4_143)) C (zI_iadd _ _) dX12_forms_175 ?_
              obtain ⟨a176, hw⟩ := hw
              refine k_ialdM (g := form_143) C Wd 16 15 rfl rfl a176 (by decide) dX12_forms_176 ?_
              have g176 : rng (form_143 ((512 * x1) + l4_143)) := rngL (fun j => Wd143.2.2 42 j) a176
              refine lv_aload_n C.1 C.2.1 dX12_forms_177 rfl (lv_at hl 0 rfl) ?_
              refine k_get (v := .ref (ad 42)) C Wd.1 KX12 0 42 wM0 (by decide) fl_X12_59 rfl dX12_forms_178 ?_
              refine lv_sipush (v := zI 512) C.1 C.2.1 dX12_forms_181 (zS (by decide) (by decide)) ?_
              refine lv_iload_n C.1 C.2.1 dX12_forms_184 rfl (lv_at hl 1 rfl) ?_
              refine lv_iconst (v := zI 1) C.1 C.2.1 dX12_forms_185 (by decide) ?_
              refine k_iadd (v := zI (x1 + 1)) C (zI_iadd _ _) dX12_forms_186 ?_
              refine k_imul (v := zI (512 * (x1 + 1))) C (zI_imul _ _) dX12_forms_187 ?_
              refine lv_iload C.1 C.2.1 dX12_forms_188 (lv_at hl 3 rfl) ?_
              refine k_iadd (v := zI ((512 * (x1 + 1)) + l4_143)) C (zI_iadd _ _) dX12_forms_190 ?_
              obtain ⟨a191, hw⟩ := hw
              refine k_ialdM (g := form_143) C Wd 16 15 rfl rfl a191 (by decide) dX12_forms_191 ?_
              have g191 : rng (form_143 ((512 * (x1 + 1)) + l4_143)) := rngL (fun j => Wd143.2.2 42 j) a191
              refine k_pi (k_runS (rest := [.int (zI ((512 * x1) + l4_143)), .ref (ad 42)]) C aks Wd.1 cs_X12_287 (mt_both D ((F 24) ((40 * x0) + (I 33))) (form_143 ((512 * x1) + l4_143)) (form_143 ((512 * (x1 + 1)) + l4_143)) g13 g176 g191 _ hw l _) [] rfl (by decide) [] rfl rfl rfl ⟨(by show 1 + 1 ≤ 3 + (n + 1); omega), (by show 8 + (3 + 11) + (64) ≤ 129 + 24 * (n + 1); omega)⟩ hl.1 rfl rfl (Nat.le_of_ble_eq_true rfl) ⟨(Nat.le_of_ble_eq_true rfl), (Nat.le_of_ble_eq_true rfl)⟩ dX12_forms_192) (fun y192 hy => ?_)
              obtain ⟨r192, rfl, g_r192, hw⟩ := hy
              obtain ⟨a195, hw⟩ := hw
              have q195 : ∀ j : Nat, rng ((uZ form_143 ((512 * x1) + l4_143) r192) j) := ruZ (fun j => Wd143.2.2 42 j) g_r192
              refine k_iastM (g := form_143) C Wd 15 15 (sF (sF F 42 (uZ form_143 ((512 * x1) + l4_143) r192)) 44 product_r131) rfl rfl a195 (by decide) rfl rfl (rsF (rsF hS.2 q195) (fun j => Wc131.2.2 44 j)) dX12_forms_195 (fun H locs Wd => ?_)
              refine lv_iinc (v := zI (l4_143 + 1)) (lv' := [(4, .int (zI (l4_143 + 1))), (0, .ref h), (2, .int (zI x1)), (3, .int (zI ((F 24) ((40 * x0) + (I 33)))))]) C.1 C.2.1 dX12_forms_196 hl (k := 3) rfl (zI_inc _ _ (by decide)) (by decide) rfl (fun ls hl => ?_)
              replace hl := lv_sub hl [1, 2, 3, 0] rfl
              refine lv_goto (tgt := 143) C.1 C.2.1 dX12_forms_199 (by decide) ?_
              obtain ⟨g199_0, hw⟩ := hw
              exact hL143 _ _ hw _ _ _ ⟨g199_0, wMc Wd rfl rfl ⟨(rsI (rsI hS.1 (Wc131.2.1 33)) (Wc131.2.1 43)), (rsF (rsF hS.2 q195) (fun j => Wc131.2.2 44 j))⟩, lv_sub hl [0, 1, 2, 3] rfl⟩
        · have hw := hw.2 (z_nle (show rng 120 from by decide) g13 c79)
          refine lv_aload_n C.1 C.2.1 dX12_forms_82 rfl (lv_at hl 0 rfl) ?_
          refine k_get (v := .ref (ad 42)) C Wd.1 KX12 0 42 wM0 (by decide) fl_X12_59 rfl dX12_forms_83 ?_
          refine lv_sipush (v := zI 512) C.1 C.2.1 dX12_forms_86 (zS (by decide) (by decide)) ?_
          refine lv_iload_n C.1 C.2.1 dX12_forms_89 rfl (lv_at hl 2 rfl) ?_
          refine k_imul (v := zI (512 * x1)) C (zI_imul _ _) dX12_forms_90 ?_
          refine lv_iload_n C.1 C.2.1 dX12_forms_91 rfl (lv_at hl 3 rfl) ?_
          refine lv_bipush (v := zI 30) C.1 C.2.1 dX12_forms_92 (by decide) ?_
          refine lv_icmp_ne (tgt := 102) C.1 C.2.1 dX12_forms_94 (by decide) (fun c94 => ?_) (fun c94 => ?_)
          · have hw := hw.1 (z_ne g13 (show rng 30 from by decide) c94)
            refine lv_iload_n C.1 C.2.1 dX12_forms_102 rfl (lv_at hl 3 rfl) ?_
            refine lv_bipush (v := zI 31) C.1 C.2.1 dX12_forms_103 (by decide) ?_
            refine lv_icmp_ne (tgt := 113) C.1 C.2.1 dX12_forms_105 (by decide) (fun c105 => ?_) (fun c105 => ?_)
            · have hw := hw.1 (z_ne g13 (show rng 31 from by decide) c105)
              refine lv_iconst (v := zI 1) C.1 C.2.1 dX12_forms_113 (by decide) ?_
              refine k_iadd (v := zI ((512 * x1) + 1)) C (zI_iadd _ _) dX12_forms_114 ?_
              refine lv_iconst (v := zI 1) C.1 C.2.1 dX12_forms_115 (by decide) ?_
              obtain ⟨a116, hw⟩ := hw
              have q116 : ∀ j : Nat, rng ((uZ form_28 ((512 * x1) + 1) 1) j) := ruZ (fun j => Wd28.2.2 42 j) (show rng 1 from by decide)
              refine k_iastM (g := form_28) C Wd 15 15 (sF F 42 (uZ form_28 ((512 * x1) + 1) 1)) rfl rfl a116 (by decide) rfl rfl (rsF hS.2 q116) dX12_forms_116 (fun H locs Wd => ?_)
              refine lv_goto (tgt := 210) C.1 C.2.1 dX12_forms_117 (by decide) ?_
              exact k_retMv C hr hlk Wd (u := (((I 33) + 1), (uZ form_28 ((512 * x1) + 1) 1), (I 43), (F 44))) rfl rfl ⟨hw, ⟨(rsI (rsI hS.1 g22_0) (hS.1 43)), (rsF (rsF hS.2 q116) (hS.2 44))⟩⟩ dX12_forms_210
            · have hw := hw.2 (z_eq g13 (show rng 31 from by decide) c105)
              refine lv_bipush (v := zI 8) C.1 C.2.1 dX12_forms_108 (by decide) ?_
              refine lv_goto (tgt := 114) C.1 C.2.1 dX12_forms_110 (by decide) ?_
              refine k_iadd (v := zI ((512 * x1) + 8)) C (zI_iadd _ _) dX12_forms_114 ?_
              refine lv_iconst (v := zI 1) C.1 C.2.1 dX12_forms_115 (by decide) ?_
              obtain ⟨a116, hw⟩ := hw
              have q116 : ∀ j : Nat, rng ((uZ form_28 ((512 * x1) + 8) 1) j) := ruZ (fun j => Wd28.2.2 42 j) (show rng 1 from by decide)
              refine k_iastM (g := form_28) C Wd 15 15 (sF F 42 (uZ form_28 ((512 * x1) + 8) 1)) rfl rfl a116 (by decide) rfl rfl (rsF hS.2 q116) dX12_forms_116 (fun H locs Wd => ?_)
              refine lv_goto (tgt := 210) C.1 C.2.1 dX12_forms_117 (by decide) ?_
              exact k_retMv C hr hlk Wd (u := (((I 33) + 1), (uZ form_28 ((512 * x1) + 8) 1), (I 43), (F 44))) rfl rfl ⟨hw, ⟨(rsI (rsI hS.1 g22_0) (hS.1 43)), (rsF (rsF hS.2 q116) (hS.2 44))⟩⟩ dX12_forms_210
          · have hw := hw.2 (z_eq g13 (show rng 30 from by decide) c94)
            refine lv_bipush (v := zI 64) C.1 C.2.1 dX12_forms_97 (by decide) ?_
            refine lv_goto (tgt := 114) C.1 C.2.1 dX12_forms_99 (by decide) ?_
            refine k_iadd (v := zI ((512 * x1) + 64)) C (zI_iadd _ _) dX12_forms_114 ?_
            refine lv_iconst (v := zI 1) C.1 C.2.1 dX12_forms_115 (by decide) ?_
            obtain ⟨a116, hw⟩ := hw
            have q116 : ∀ j : Nat, rng ((uZ form_28 ((512 * x1) + 64) 1) j) := ruZ (fun j => Wd28.2.2 42 j) (show rng 1 from by decide)
            refine k_iastM (g := form_28) C Wd 15 15 (sF F 42 (uZ form_28 ((512 * x1) + 64) 1)) rfl rfl a116 (by decide) rfl rfl (rsF hS.2 q116) dX12_forms_116 (fun H locs Wd => ?_)
            refine lv_goto (tgt := 210) C.1 C.2.1 dX12_forms_117 (by decide) ?_
            exact k_retMv C hr hlk Wd (u := (((I 33) + 1), (uZ form_28 ((512 * x1) + 64) 1), (I 43), (F 44))) rfl rfl ⟨hw, ⟨(rsI (rsI hS.1 g22_0) (hS.1 43)), (rsF (rsF hS.2 q116) (hS.2 44))⟩⟩ dX12_forms_210
      · have hw := hw.2 (z_nle (show rng 20 from by decide) g13 c59)
        refine lv_aload_n C.1 C.2.1 dX12_forms_62 rfl (lv_at hl 0 rfl) ?_
        refine k_get (v := .ref (ad 42)) C Wd.1 KX12 0 42 wM0 (by decide) fl_X12_59 rfl dX12_forms_63 ?_
        refine lv_sipush (v := zI 512) C.1 C.2.1 dX12_forms_66 (zS (by decide) (by decide)) ?_
        refine lv_iload_n C.1 C.2.1 dX12_forms_69 rfl (lv_at hl 2 rfl) ?_
        refine k_imul (v := zI (512 * x1)) C (zI_imul _ _) dX12_forms_70 ?_
        refine lv_iload_n C.1 C.2.1 dX12_forms_71 rfl (lv_at hl 3 rfl) ?_
        obtain ⟨a72, hw⟩ := hw
        have q72 : ∀ j : Nat, rng ((uZ form_28 (512 * x1) ((F 24) ((40 * x0) + (I 33)))) j) := ruZ (fun j => Wd28.2.2 42 j) g13
        refine k_iastM (g := form_28) C Wd 15 15 (sF F 42 (uZ form_28 (512 * x1) ((F 24) ((40 * x0) + (I 33))))) rfl rfl a72 (by decide) rfl rfl (rsF hS.2 q72) dX12_forms_72 (fun H locs Wd => ?_)
        refine lv_goto (tgt := 210) C.1 C.2.1 dX12_forms_73 (by decide) ?_
        exact k_retMv C hr hlk Wd (u := (((I 33) + 1), (uZ form_28 (512 * x1) ((F 24) ((40 * x0) + (I 33)))), (I 43), (F 44))) rfl rfl ⟨hw, ⟨(rsI (rsI hS.1 g22_0) (hS.1 43)), (rsF (rsF hS.2 q72) (hS.2 44))⟩⟩ dX12_forms_210
    · have hw := hw.2 (z_nle (show rng 512 from by decide) g_l4_28 c33)
      refine lv_aload_n C.1 C.2.1 dX12_forms_36 rfl (lv_at hl 0 rfl) ?_
      refine k_get (v := .ref (ad 42)) C Wd.1 KX12 0 42 wM0 (by decide) fl_X12_59 rfl dX12_forms_37 ?_
      refine lv_sipush (v := zI 512) C.1 C.2.1 dX12_forms_40 (zS (by decide) (by decide)) ?_
      refine lv_iload_n C.1 C.2.1 dX12_forms_43 rfl (lv_at hl 2 rfl) ?_
      refine k_imul (v := zI (512 * x1)) C (zI_imul _ _) dX12_forms_44 ?_
      refine lv_iload C.1 C.2.1 dX12_forms_45 (lv_at hl 4 rfl) ?_
      refine k_iadd (v := zI ((512 * x1) + l4_28)) C (zI_iadd _ _) dX12_forms_47 ?_
      refine lv_iconst (v := zI 0) C.1 C.2.1 dX12_forms_48 (by decide) ?_
      obtain ⟨a49, hw⟩ := hw
      have q49 : ∀ j : Nat, rng ((uZ form_28 ((512 * x1) + l4_28) 0) j) := ruZ (fun j => Wd28.2.2 42 j) (show rng 0 from by decide)
      refine k_iastM (g := form_28) C Wd 15 15 (sF F 42 (uZ form_28 ((512 * x1) + l4_28) 0)) rfl rfl a49 (by decide) rfl rfl (rsF hS.2 q49) dX12_forms_49 (fun H locs Wd => ?_)
      refine lv_iinc (v := zI (l4_28 + 1)) (lv' := [(4, .int (zI (l4_28 + 1))), (0, .ref h), (1, .int (zI x0)), (2, .int (zI x1)), (3, .int (zI ((F 24) ((40 * x0) + (I 33)))))]) C.1 C.2.1 dX12_forms_50 hl (k := 4) rfl (zI_inc _ _ (by decide)) (by decide) rfl (fun ls hl => ?_)
      replace hl := lv_sub hl [1, 2, 3, 4, 0] rfl
      refine lv_goto (tgt := 28) C.1 C.2.1 dX12_forms_53 (by decide) ?_
      obtain ⟨g53_0, hw⟩ := hw
      exact hL28 _ _ hw _ _ _ ⟨g53_0, wMc Wd rfl rfl ⟨(rsI hS.1 g22_0), (rsF hS.2 q49)⟩, lv_sub hl [0, 1, 2, 3, 4] rfl⟩
theorem mt_forms : ∀ (D : va_G) (h : Nat) (ad : Nat → Nat) (ca : Nat → ClassId) (I : Nat → Int) (F : Nat → Int → Int) (hS : rngS I F) (x0 : Int) (x1 : Int) (g_x0 : rng x0) (g_x1 : rng x1) (K : Int → (Int → Int) → Int → (Int → Int) → Prop) (hw : wp_forms 100 (F 24) (I 33) (F 42) (I 43) (F 44) x0 x1 K) (l : Launch) (sz : Nat), Met l yX12_forms (Cond.code yX12_forms cX12_forms 5 none :: gG) { frames := 103, cells := 0, slots := 0, locals := 2529 } (cPre D (tM ca) (wM h ad ca I F) sz [.ref h, .int (zI x0), .int (zI x1)]) (va_Qv (fun (u : (Int) × (Int → Int) × (Int) × (Int → Int)) => K u.1 u.2.1 u.2.2.1 u.2.2.2 ∧ rngS (sI (sI I 33 u.1) 43 u.2.2.1) (sF (sF F 42 u.2.1) 44 u.2.2.2)) (fun u t => cB D (va_A (wM h ad ca I F) sz) [] (wM h ad ca (sI (sI I 33 u.1) 43 u.2.2.1) (sF (sF F 42 u.2.1) 44 u.2.2.2)) t) (va_A (wM h ad ca I F) sz)) 0 0 (va_A (wM h ad ca I F) sz) := mg_forms 100
