set_option maxHeartbeats 4000000 in
set_option maxRecDepth 100000 in
theorem mt_isIn : ∀ (D : va_G) (x0 : Int) (x1 : Int) (x2 : Int) (g_x0 : rng x0) (g_x1 : rng x1) (g_x2 : rng x2) (K : Int → Prop) (hw : wp_isIn x0 x1 x2 K) (l : Launch) (sz : Nat), Met l yX12_isIn (Cond.code yX12_isIn cX12_isIn 3 (some .boolean) :: gG) { frames := 1, cells := 0, slots := 0, locals := 64 } (cPre D [] [] sz [.int (zI x0), .int (zI x1), .int (zI x2)]) (vp_Si (fun r => ∃ x : Int, r = zI x ∧ rng x ∧ K x)) 0 0 (fun _ => False) := by
  intro D x0 x1 x2 g_x0 g_x1 g_x2 K hw l sz
  refine Met.ofW (cc := cX12_isIn) (maxL := 3) (ret := (some .boolean)) (by decide) rfl ?_
  intro p e s m args below meth c s₁ B hml hv
  obtain ⟨rfl, aks, rfl, Wd⟩ := k_enter hv
  have C : CallFix p m c cX12_isIn 3 s _ gG RX12 := ⟨B.exec, B.bytes, hml, findClass_of_methodNamed B.named, fun w h => atoms_spec (ws := Cond.code yX12_isIn cX12_isIn 3 (some .boolean) :: gG) B.pre w (List.mem_cons_of_mem _ h)⟩
  have hr := B.returns
  have hlk := B.notSynchronized
  obtain ⟨A, Wd⟩ : ∃ A, wX D [] s [] s.heap A s.heap [] := ⟨_, Wd⟩
  refine k_locals (Nat.le_of_ble_eq_true rfl) [(0, .int (zI x0)), (1, .int (zI x1)), (2, .int (zI x2))] rfl (fun ls hl => ?_)
  unfold wp_isIn at hw
  refine lv_iload_n C.1 C.2.1 dX12_isIn_0 rfl (lv_at hl 0 rfl) ?_
  refine lv_iload_n C.1 C.2.1 dX12_isIn_1 rfl (lv_at hl 1 rfl) ?_
  refine lv_icmp_lt (tgt := 14) C.1 C.2.1 dX12_isIn_2 (by decide) (fun c2 => ?_) (fun c2 => ?_)
  · have hw := hw.1 (z_lt g_x0 g_x1 c2)
    refine lv_iconst (v := zI 0) C.1 C.2.1 dX12_isIn_14 (by decide) ?_
    exact k_zretP C hr hlk (by decide) ⟨_, rfl, (show rng 0 from by decide), hw⟩ dX12_isIn_15
  · have hw := hw.2 (z_nlt g_x0 g_x1 c2)
    refine lv_iload_n C.1 C.2.1 dX12_isIn_5 rfl (lv_at hl 0 rfl) ?_
    refine lv_iload_n C.1 C.2.1 dX12_isIn_6 rfl (lv_at hl 2 rfl) ?_
    refine lv_icmp_gt (tgt := 14) C.1 C.2.1 dX12_isIn_7 (by decide) (fun c7 => ?_) (fun c7 => ?_)
    · have hw := hw.1 (z_lt g_x2 g_x0 c7)
      refine lv_iconst (v := zI 0) C.1 C.2.1 dX12_isIn_14 (by decide) ?_
      exact k_zretP C hr hlk (by decide) ⟨_, rfl, (show rng 0 from by decide), hw⟩ dX12_isIn_15
    · have hw := hw.2 (z_nlt g_x2 g_x0 c7)
      refine lv_iconst (v := zI 1) C.1 C.2.1 dX12_isIn_10 (by decide) ?_
      refine lv_goto (tgt := 15) C.1 C.2.1 dX12_isIn_11 (by decide) ?_
      exact k_zretP C hr hlk (by decide) ⟨_, rfl, (show rng 1 from by decide), hw⟩ dX12_isIn_15
set_option maxHeartbeats 4000000 in
set_option maxRecDepth 100000 in
theorem mt_isSlot : ∀ (D : va_G) (x0 : Int) (g_x0 : rng x0) (K : Int → Prop) (hw : wp_isSlot x0 K) (l : Launch) (sz : Nat), Met l yX12_isSlot (Cond.code yX12_isSlot cX12_isSlot 1 (some .boolean) :: gG) { frames := 2, cells := 0, slots := 0, locals := 86 } (cPre D [] [] sz [.int (zI x0)]) (vp_Si (fun r => ∃ x : Int, r = zI x ∧ rng x ∧ K x)) 0 0 (fun _ => False) := by
  intro D x0 g_x0 K hw l sz
  refine Met.ofW (cc := cX12_isSlot) (maxL := 1) (ret := (some .boolean)) (by decide) rfl ?_
  intro p e s m args below meth c s₁ B hml hv
  obtain ⟨rfl, aks, rfl, Wd⟩ := k_enter hv
  have C : CallFix p m c cX12_isSlot 1 s _ gG RX12 := ⟨B.exec, B.bytes, hml, findClass_of_methodNamed B.named, fun w h => atoms_spec (ws := Cond.code yX12_isSlot cX12_isSlot 1 (some .boolean) :: gG) B.pre w (List.mem_cons_of_mem _ h)⟩
  have hr := B.returns
  have hlk := B.notSynchronized
  obtain ⟨A, Wd⟩ : ∃ A, wX D [] s [] s.heap A s.heap [] := ⟨_, Wd⟩
  refine k_locals (Nat.le_of_ble_eq_true rfl) [(0, .int (zI x0))] rfl (fun ls hl => ?_)
  unfold wp_isSlot at hw
  refine lv_iload_n C.1 C.2.1 dX12_isSlot_0 rfl (lv_at hl 0 rfl) ?_
  refine lv_iconst (v := zI 0) C.1 C.2.1 dX12_isSlot_1 (by decide) ?_
  refine lv_iconst (v := zI 5) C.1 C.2.1 dX12_isSlot_2 (by decide) ?_
  refine k_pi (k_runS (rest := []) C aks Wd cs_X12_90 (mt_isIn D x0 0 5 g_x0 (show rng 0 from by decide) (show rng 5 from by decide) _ hw l _) [] rfl (by decide) [] rfl rfl rfl ⟨(Nat.le_of_ble_eq_true rfl), (Nat.le_of_ble_eq_true rfl)⟩ hl.1 rfl rfl (Nat.le_of_ble_eq_true rfl) ⟨(Nat.le_of_ble_eq_true rfl), (Nat.le_of_ble_eq_true rfl)⟩ dX12_isSlot_3) (fun y3 hy => ?_)
  obtain ⟨r3, rfl, g_r3, hw⟩ := hy
  obtain ⟨b6_0, hw⟩ := hw
  exact k_zretP C hr hlk (zI_nb b6_0) ⟨_, rfl, g_r3, hw⟩ dX12_isSlot_6
set_option maxHeartbeats 4000000 in
set_option maxRecDepth 100000 in
theorem mt_isPart : ∀ (D : va_G) (h : Nat) (ad : Nat → Nat) (ca : Nat → ClassId) (I : Nat → Int) (F : Nat → Int → Int) (hS : rngS I F) (x0 : Int) (g_x0 : rng x0) (K : Int → Prop) (hw : wp_isPart x0 K) (l : Launch) (sz : Nat), Met l yX12_isPart (Cond.code yX12_isPart cX12_isPart 2 (some .boolean) :: gG) { frames := 2, cells := 0, slots := 0, locals := 86 } (cPre D (tM ca) (wM h ad ca I F) sz [.ref h, .int (zI x0)]) (vp_Si (fun r => ∃ x : Int, r = zI x ∧ rng x ∧ K x)) 0 0 (fun _ => False) := by
  intro D h ad ca I F hS x0 g_x0 K hw l sz
  refine Met.ofW (cc := cX12_isPart) (maxL := 2) (ret := (some .boolean)) (by decide) rfl ?_
  intro p e s m args below meth c s₁ B hml hv
  obtain ⟨rfl, aks, rfl, Wd⟩ := k_enter hv
  have C : CallFix p m c cX12_isPart 2 s _ gG RX12 := ⟨B.exec, B.bytes, hml, findClass_of_methodNamed B.named, fun w h => atoms_spec (ws := Cond.code yX12_isPart cX12_isPart 2 (some .boolean) :: gG) B.pre w (List.mem_cons_of_mem _ h)⟩
  have hr := B.returns
  have hlk := B.notSynchronized
  obtain ⟨A, Wd⟩ : ∃ A, wXM D ca s h ad I F s.heap A s.heap [] := ⟨_, Wd, hS⟩
  refine k_locals (Nat.le_of_ble_eq_true rfl) [(0, .ref h), (1, .int (zI x0))] rfl (fun ls hl => ?_)
  unfold wp_isPart at hw
  refine lv_iload_n C.1 C.2.1 dX12_isPart_0 rfl (lv_at hl 1 rfl) ?_
  refine lv_iconst (v := zI 0) C.1 C.2.1 dX12_isPart_1 (by decide) ?_
  refine lv_bipush (v := zI 15) C.1 C.2.1 dX12_isPart_2 (by decide) ?_
  refine k_pi (k_runS (rest := []) C aks Wd.1 cs_X12_90 (mt_isIn D x0 0 15 g_x0 (show rng 0 from by decide) (show rng 15 from by decide) _ hw l _) [] rfl (by decide) [] rfl rfl rfl ⟨(Nat.le_of_ble_eq_true rfl), (Nat.le_of_ble_eq_true rfl)⟩ hl.1 rfl rfl (Nat.le_of_ble_eq_true rfl) ⟨(Nat.le_of_ble_eq_true rfl), (Nat.le_of_ble_eq_true rfl)⟩ dX12_isPart_4) (fun y4 hy => ?_)
  obtain ⟨r4, rfl, g_r4, hw⟩ := hy
  refine lv_if_ne (tgt := 32) C.1 C.2.1 dX12_isPart_7 (by decide) (fun c7 => ?_) (fun c7 => ?_)
  · have hw := hw.1 (z0_ne g_r4 c7)
    refine lv_iconst (v := zI 1) C.1 C.2.1 dX12_isPart_32 (by decide) ?_
    refine lv_goto (tgt := 37) C.1 C.2.1 dX12_isPart_33 (by decide) ?_
    exact k_zretP C hr hlk (by decide) ⟨_, rfl, (show rng 1 from by decide), hw⟩ dX12_isPart_37
  · have hw := hw.2 (z0_eq g_r4 c7)
    refine lv_iload_n C.1 C.2.1 dX12_isPart_10 rfl (lv_at hl 1 rfl) ?_
    refine lv_bipush (v := zI 20) C.1 C.2.1 dX12_isPart_11 (by decide) ?_
    refine lv_bipush (v := zI 25) C.1 C.2.1 dX12_isPart_13 (by decide) ?_
    refine k_pi (k_runS (rest := []) C aks Wd.1 cs_X12_90 (mt_isIn D x0 20 25 g_x0 (show rng 20 from by decide) (show rng 25 from by decide) _ hw l _) [] rfl (by decide) [] rfl rfl rfl ⟨(Nat.le_of_ble_eq_true rfl), (Nat.le_of_ble_eq_true rfl)⟩ hl.1 rfl rfl (Nat.le_of_ble_eq_true rfl) ⟨(Nat.le_of_ble_eq_true rfl), (Nat.le_of_ble_eq_true rfl)⟩ dX12_isPart_15) (fun y15 hy => ?_)
    obtain ⟨r15, rfl, g_r15, hw⟩ := hy
    refine lv_if_ne (tgt := 32) C.1 C.2.1 dX12_isPart_18 (by decide) (fun c18 => ?_) (fun c18 => ?_)
    · have hw := hw.1 (z0_ne g_r15 c18)
      refine lv_iconst (v := zI 1) C.1 C.2.1 dX12_isPart_32 (by decide) ?_
      refine lv_goto (tgt := 37) C.1 C.2.1 dX12_isPart_33 (by decide) ?_
      exact k_zretP C hr hlk (by decide) ⟨_, rfl, (show rng 1 from by decide), hw⟩ dX12_isPart_37
    · have hw := hw.2 (z0_eq g_r15 c18)
      refine lv_iload_n C.1 C.2.1 dX12_isPart_21 rfl (lv_at hl 1 rfl) ?_
      refine lv_bipush (v := zI 120) C.1 C.2.1 dX12_isPart_22 (by decide) ?_
      refine lv_bipush (v := zI 122) C.1 C.2.1 dX12_isPart_24 (by decide) ?_
      refine k_pi (k_runS (rest := []) C aks Wd.1 cs_X12_90 (mt_isIn D x0 120 122 g_x0 (show rng 120 from by decide) (show rng 122 from by decide) _ hw l _) [] rfl (by decide) [] rfl rfl rfl ⟨(Nat.le_of_ble_eq_true rfl), (Nat.le_of_ble_eq_true rfl)⟩ hl.1 rfl rfl (Nat.le_of_ble_eq_true rfl) ⟨(Nat.le_of_ble_eq_true rfl), (Nat.le_of_ble_eq_true rfl)⟩ dX12_isPart_26) (fun y26 hy => ?_)
      obtain ⟨r26, rfl, g_r26, hw⟩ := hy
      refine lv_if_eq (tgt := 36) C.1 C.2.1 dX12_isPart_29 (by decide) (fun c29 => ?_) (fun c29 => ?_)
      · have hw := hw.1 (z0_eq g_r26 c29)
        refine lv_iconst (v := zI 0) C.1 C.2.1 dX12_isPart_36 (by decide) ?_
        exact k_zretP C hr hlk (by decide) ⟨_, rfl, (show rng 0 from by decide), hw⟩ dX12_isPart_37
      · have hw := hw.2 (z0_ne g_r26 c29)
        refine lv_iconst (v := zI 1) C.1 C.2.1 dX12_isPart_32 (by decide) ?_
        refine lv_goto (tgt := 37) C.1 C.2.1 dX12_isPart_33 (by decide) ?_
        exact k_zretP C hr hlk (by decide) ⟨_, rfl, (show rng 1 from by decide), hw⟩ dX12_isPart_37
set_option maxHeartbeats 4000000 in
set_option maxRecDepth 100000 in
theorem mt_isStatement : ∀ (D : va_G) (x0 : Int) (g_x0 : rng x0) (K : Int → Prop) (hw : wp_isStatement x0 K) (l : Launch) (sz : Nat), Met l yX12_isStatement (Cond.code yX12_isStatement cX12_isStatement 1 (some .boolean) :: gG) { frames := 2, cells := 0, slots := 0, locals := 86 } (cPre D [] [] sz [.int (zI x0)]) (vp_Si (fun r => ∃ x : Int, r = zI x ∧ rng x ∧ K x)) 0 0 (fun _ => False) := by
  intro D x0 g_x0 K hw l sz
  refine Met.ofW (cc := cX12_isStatement) (maxL := 1) (ret := (some .boolean)) (by decide) rfl ?_
  intro p e s m args below meth c s₁ B hml hv
  obtain ⟨rfl, aks, rfl, Wd⟩ := k_enter hv
  have C : CallFix p m c cX12_isStatement 1 s _ gG RX12 := ⟨B.exec, B.bytes, hml, findClass_of_methodNamed B.named, fun w h => atoms_spec (ws := Cond.code yX12_isStatement cX12_isStatement 1 (some .boolean) :: gG) B.pre w (List.mem_cons_of_mem _ h)⟩
  have hr := B.returns
  have hlk := B.notSynchronized
  obtain ⟨A, Wd⟩ : ∃ A, wX D [] s [] s.heap A s.heap [] := ⟨_, Wd⟩
  refine k_locals (Nat.le_of_ble_eq_true rfl) [(0, .int (zI x0))] rfl (fun ls hl => ?_)
  unfold wp_isStatement at hw
  refine lv_iload_n C.1 C.2.1 dX12_isStatement_0 rfl (lv_at hl 0 rfl) ?_
  refine lv_bipush (v := zI 100) C.1 C.2.1 dX12_isStatement_1 (by decide) ?_
  refine lv_bipush (v := zI 105) C.1 C.2.1 dX12_isStatement_3 (by decide) ?_
  refine k_pi (k_runS (rest := []) C aks Wd cs_X12_90 (mt_isIn D x0 100 105 g_x0 (show rng 100 from by decide) (show rng 105 from by decide) _ hw l _) [] rfl (by decide) [] rfl rfl rfl ⟨(Nat.le_of_ble_eq_true rfl), (Nat.le_of_ble_eq_true rfl)⟩ hl.1 rfl rfl (Nat.le_of_ble_eq_true rfl) ⟨(Nat.le_of_ble_eq_true rfl), (Nat.le_of_ble_eq_true rfl)⟩ dX12_isStatement_5) (fun y5 hy => ?_)
  obtain ⟨r5, rfl, g_r5, hw⟩ := hy
  refine lv_if_ne (tgt := 35) C.1 C.2.1 dX12_isStatement_8 (by decide) (fun c8 => ?_) (fun c8 => ?_)
  · have hw := hw.1 (z0_ne g_r5 c8)
    refine lv_iconst (v := zI 1) C.1 C.2.1 dX12_isStatement_35 (by decide) ?_
    refine lv_goto (tgt := 40) C.1 C.2.1 dX12_isStatement_36 (by decide) ?_
    exact k_zretP C hr hlk (by decide) ⟨_, rfl, (show rng 1 from by decide), hw⟩ dX12_isStatement_40
  · have hw := hw.2 (z0_eq g_r5 c8)
    refine lv_iload_n C.1 C.2.1 dX12_isStatement_11 rfl (lv_at hl 0 rfl) ?_
    refine lv_bipush (v := zI 110) C.1 C.2.1 dX12_isStatement_12 (by decide) ?_
    refine lv_icmp_eq (tgt := 35) C.1 C.2.1 dX12_isStatement_14 (by decide) (fun c14 => ?_) (fun c14 => ?_)
    · have hw := hw.1 (z_eq g_x0 (show rng 110 from by decide) c14)
      refine lv_iconst (v := zI 1) C.1 C.2.1 dX12_isStatement_35 (by decide) ?_
      refine lv_goto (tgt := 40) C.1 C.2.1 dX12_isStatement_36 (by decide) ?_
      exact k_zretP C hr hlk (by decide) ⟨_, rfl, (show rng 1 from by decide), hw⟩ dX12_isStatement_40
    · have hw := hw.2 (z_ne g_x0 (show rng 110 from by decide) c14)
      refine lv_iload_n C.1 C.2.1 dX12_isStatement_17 rfl (lv_at hl 0 rfl) ?_
      refine lv_bipush (v := zI 111) C.1 C.2.1 dX12_isStatement_18 (by decide) ?_
      refine lv_icmp_eq (tgt := 35) C.1 C.2.1 dX12_isStatement_20 (by decide) (fun c20 => ?_) (fun c20 => ?_)
      · have hw := hw.1 (z_eq g_x0 (show rng 111 from by decide) c20)
        refine lv_iconst (v := zI 1) C.1 C.2.1 dX12_isStatement_35 (by decide) ?_
        refine lv_goto (tgt := 40) C.1 C.2.1 dX12_isStatement_36 (by decide) ?_
        exact k_zretP C hr hlk (by decide) ⟨_, rfl, (show rng 1 from by decide), hw⟩ dX12_isStatement_40
      · have hw := hw.2 (z_ne g_x0 (show rng 111 from by decide) c20)
        refine lv_iload_n C.1 C.2.1 dX12_isStatement_23 rfl (lv_at hl 0 rfl) ?_
        refine lv_bipush (v := zI 112) C.1 C.2.1 dX12_isStatement_24 (by decide) ?_
        refine lv_icmp_eq (tgt := 35) C.1 C.2.1 dX12_isStatement_26 (by decide) (fun c26 => ?_) (fun c26 => ?_)
        · have hw := hw.1 (z_eq g_x0 (show rng 112 from by decide) c26)
          refine lv_iconst (v := zI 1) C.1 C.2.1 dX12_isStatement_35 (by decide) ?_
          refine lv_goto (tgt := 40) C.1 C.2.1 dX12_isStatement_36 (by decide) ?_
          exact k_zretP C hr hlk (by decide) ⟨_, rfl, (show rng 1 from by decide), hw⟩ dX12_isStatement_40
        · have hw := hw.2 (z_ne g_x0 (show rng 112 from by decide) c26)
          refine lv_iload_n C.1 C.2.1 dX12_isStatement_29 rfl (lv_at hl 0 rfl) ?_
          refine lv_bipush (v := zI 115) C.1 C.2.1 dX12_isStatement_30 (by decide) ?_
          refine lv_icmp_ne (tgt := 39) C.1 C.2.1 dX12_isStatement_32 (by decide) (fun c32 => ?_) (fun c32 => ?_)
          · have hw := hw.1 (z_ne g_x0 (show rng 115 from by decide) c32)
            refine lv_iconst (v := zI 0) C.1 C.2.1 dX12_isStatement_39 (by decide) ?_
            exact k_zretP C hr hlk (by decide) ⟨_, rfl, (show rng 0 from by decide), hw⟩ dX12_isStatement_40
          · have hw := hw.2 (z_eq g_x0 (show rng 115 from by decide) c32)
            refine lv_iconst (v := zI 1) C.1 C.2.1 dX12_isStatement_35 (by decide) ?_
            refine lv_goto (tgt := 40) C.1 C.2.1 dX12_isStatement_36 (by decide) ?_
            exact k_zretP C hr hlk (by decide) ⟨_, rfl, (show rng 1 from by decide), hw⟩ dX12_isStatement_40
set_option maxHeartbeats 4000000 in
set_option maxRecDepth 100000 in
theorem mg_endOf (n : Nat) : (∀ (D : va_G) (h : Nat) (ad : Nat → Nat) (ca : Nat → ClassId) (I : Nat → Int) (F : Nat → Int → Int) (hS : rngS I F) (x0 : Int) (g_x0 : rng x0) (K : Int → Prop) (hw : wp_endOf n (F 2) x0 K) (l : Launch) (sz : Nat), Met l yX12_endOf (Cond.code yX12_endOf cX12_endOf 2 (some .int) :: gG) { frames := 3 + n, cells := 0, slots := 0, locals := 126 + 21 * n } (cPre D (tM ca) (wM h ad ca I F) sz [.ref h, .int (zI x0)]) (vp_Si (fun r => ∃ x : Int, r = zI x ∧ rng x ∧ K x)) 0 0 (fun _ => False)) := by
  induction n with
  | zero => exact (fun _ _ _ _ _ _ _ _ _ _ hw => absurd hw id)
  | succ n ih =>
    have ih_endOf := ih
    intro D h ad ca I F hS x0 g_x0 K hw l sz
    refine Met.ofW (cc := cX12_endOf) (maxL := 2) (ret := (some .int)) (by decide) rfl ?_
    intro p e s m args below meth c s₁ B hml hv
    obtain ⟨rfl, aks, rfl, Wd⟩ := k_enter hv
    have C : CallFix p m c cX12_endOf 2 s _ gG RX12 := ⟨B.exec, B.bytes, hml, findClass_of_methodNamed B.named, fun w h => atoms_spec (ws := Cond.code yX12_endOf cX12_endOf 2 (some .int) :: gG) B.pre w (List.mem_cons_of_mem _ h)⟩
    have hr := B.returns
    have hlk := B.notSynchronized
    obtain ⟨A, Wd⟩ : ∃ A, wXM D ca s h ad I F s.heap A s.heap [] := ⟨_, Wd, hS⟩
    refine k_locals (Nat.le_of_ble_eq_true rfl) [(0, .ref h), (1, .int (zI x0))] rfl (fun ls hl => ?_)
    replace hw : wp_endOf_b (wp_endOf n) (F 2) x0 K := hw
    unfold wp_endOf_b at hw
    refine lv_aload_n C.1 C.2.1 dX12_endOf_0 rfl (lv_at hl 0 rfl) ?_
    refine k_get (v := .ref (ad 2)) C Wd.1 KX12 0 2 wM0 (by decide) fl_X12_16 rfl dX12_endOf_1 ?_
    refine lv_iload_n C.1 C.2.1 dX12_endOf_4 rfl (lv_at hl 1 rfl) ?_
    obtain ⟨a5, hw⟩ := hw
    refine k_ialdM (g := (F 2)) C Wd 3 2 rfl rfl a5 (by decide) dX12_endOf_5 ?_
    have g5 : rng ((F 2) x0) := rngL (hS.2 2) a5
    refine lv_bipush (v := zI 120) C.1 C.2.1 dX12_endOf_6 (by decide) ?_
    refine lv_bipush (v := zI 122) C.1 C.2.1 dX12_endOf_8 (by decide) ?_
    refine k_pi (k_runS (rest := []) C aks Wd.1 cs_X12_90 (mt_isIn D ((F 2) x0) 120 122 g5 (show rng 120 from by decide) (show rng 122 from by decide) _ hw l _) [] rfl (by decide) [] rfl rfl rfl ⟨(by show 1 + 1 ≤ 3 + (n + 1); omega), (by show 8 + (3 + 11) + (64) ≤ 126 + 21 * (n + 1); omega)⟩ hl.1 rfl rfl (Nat.le_of_ble_eq_true rfl) ⟨(Nat.le_of_ble_eq_true rfl), (Nat.le_of_ble_eq_true rfl)⟩ dX12_endOf_10) (fun y10 hy => ?_)
    obtain ⟨r10, rfl, g_r10, hw⟩ := hy
    refine lv_if_eq (tgt := 30) C.1 C.2.1 dX12_endOf_13 (by decide) (fun c13 => ?_) (fun c13 => ?_)
    · have hw := hw.1 (z0_eq g_r10 c13)
      refine lv_iload_n C.1 C.2.1 dX12_endOf_30 rfl (lv_at hl 1 rfl) ?_
      refine lv_iconst (v := zI 1) C.1 C.2.1 dX12_endOf_31 (by decide) ?_
      refine k_iadd (v := zI (x0 + 1)) C (zI_iadd _ _) dX12_endOf_32 ?_
      obtain ⟨g33_0, hw⟩ := hw
      exact k_zretP C hr hlk rfl ⟨_, rfl, g33_0, hw⟩ dX12_endOf_33
    · have hw := hw.2 (z0_ne g_r10 c13)
      refine lv_aload_n C.1 C.2.1 dX12_endOf_16 rfl (lv_at hl 0 rfl) ?_
      refine lv_aload_n C.1 C.2.1 dX12_endOf_17 rfl (lv_at hl 0 rfl) ?_
      refine lv_iload_n C.1 C.2.1 dX12_endOf_18 rfl (lv_at hl 1 rfl) ?_
      refine lv_iconst (v := zI 1) C.1 C.2.1 dX12_endOf_19 (by decide) ?_
      refine k_iadd (v := zI (x0 + 1)) C (zI_iadd _ _) dX12_endOf_20 ?_
      obtain ⟨g21_0, hw⟩ := hw
      refine k_pi (k_runVM (rest := [.ref h]) C aks Wd cs_X12_94 (ih_endOf D h ad ca I F Wd.2 (x0 + 1) g21_0 _ hw l _) rfl rfl ⟨(by show 3 + n + 1 ≤ 3 + (n + 1); omega), (by show 8 + (2 + 11) + (126 + 21 * n) ≤ 126 + 21 * (n + 1); omega)⟩ hl.1 rfl rfl (Nat.le_of_ble_eq_true rfl) ⟨(Nat.le_of_ble_eq_true rfl), (Nat.le_of_ble_eq_true rfl)⟩ dX12_endOf_21) (fun y21 hy => ?_)
      obtain ⟨r21, rfl, g_r21, hw⟩ := hy
      refine k_pi (k_runVM (rest := []) C aks Wd cs_X12_94 (ih_endOf D h ad ca I F Wd.2 r21 g_r21 _ hw l _) rfl rfl ⟨(by show 3 + n + 1 ≤ 3 + (n + 1); omega), (by show 8 + (2 + 11) + (126 + 21 * n) ≤ 126 + 21 * (n + 1); omega)⟩ hl.1 rfl rfl (Nat.le_of_ble_eq_true rfl) ⟨(Nat.le_of_ble_eq_true rfl), (Nat.le_of_ble_eq_true rfl)⟩ dX12_endOf_24) (fun y24 hy => ?_)
      obtain ⟨r24, rfl, g_r24, hw⟩ := hy
      refine lv_goto (tgt := 33) C.1 C.2.1 dX12_endOf_27 (by decide) ?_
      exact k_zretP C hr hlk rfl ⟨_, rfl, g_r24, hw⟩ dX12_endOf_33
theorem mt_endOf : ∀ (D : va_G) (h : Nat) (ad : Nat → Nat) (ca : Nat → ClassId) (I : Nat → Int) (F : Nat → Int → Int) (hS : rngS I F) (x0 : Int) (g_x0 : rng x0) (K : Int → Prop) (hw : wp_endOf 500 (F 2) x0 K) (l : Launch) (sz : Nat), Met l yX12_endOf (Cond.code yX12_endOf cX12_endOf 2 (some .int) :: gG) { frames := 503, cells := 0, slots := 0, locals := 10626 } (cPre D (tM ca) (wM h ad ca I F) sz [.ref h, .int (zI x0)]) (vp_Si (fun r => ∃ x : Int, r = zI x ∧ rng x ∧ K x)) 0 0 (fun _ => False) := mg_endOf 500
set_option maxHeartbeats 4000000 in
set_option maxRecDepth 100000 in
theorem mt_body : ∀ (D : va_G) (h : Nat) (ad : Nat → Nat) (ca : Nat → ClassId) (I : Nat → Int) (F : Nat → Int → Int) (hS : rngS I F) (x0 : Int) (g_x0 : rng x0) (K : Int → Prop) (hw : wp_body (F 2) x0 K) (l : Launch) (sz : Nat), Met l yX12_body (Cond.code yX12_body cX12_body 2 (some .int) :: gG) { frames := 504, cells := 0, slots := 0, locals := 10647 } (cPre D (tM ca) (wM h ad ca I F) sz [.ref h, .int (zI x0)]) (vp_Si (fun r => ∃ x : Int, r = zI x ∧ rng x ∧ K x)) 0 0 (fun _ => False) := by
  intro D h ad ca I F hS x0 g_x0 K hw l sz
  refine Met.ofW (cc := cX12_body) (maxL := 2) (ret := (some .int)) (by decide) rfl ?_
  intro p e s m args below meth c s₁ B hml hv
  obtain ⟨rfl, aks, rfl, Wd⟩ := k_enter hv
  have C : CallFix p m c cX12_body 2 s _ gG RX12 := ⟨B.exec, B.bytes, hml, findClass_of_methodNamed B.named, fun w h => atoms_spec (ws := Cond.code yX12_body cX12_body 2 (some .int) :: gG) B.pre w (List.mem_cons_of_mem _ h)⟩
  have hr := B.returns
  have hlk := B.notSynchronized
  obtain ⟨A, Wd⟩ : ∃ A, wXM D ca s h ad I F s.heap A s.heap [] := ⟨_, Wd, hS⟩
  refine k_locals (Nat.le_of_ble_eq_true rfl) [(0, .ref h), (1, .int (zI x0))] rfl (fun ls hl => ?_)
  unfold wp_body at hw
  refine lv_aload_n C.1 C.2.1 dX12_body_0 rfl (lv_at hl 0 rfl) ?_
  refine lv_aload_n C.1 C.2.1 dX12_body_1 rfl (lv_at hl 0 rfl) ?_
  refine lv_iload_n C.1 C.2.1 dX12_body_2 rfl (lv_at hl 1 rfl) ?_
  refine lv_iconst (v := zI 2) C.1 C.2.1 dX12_body_3 (by decide) ?_
  refine k_iadd (v := zI (x0 + 2)) C (zI_iadd _ _) dX12_body_4 ?_
  obtain ⟨g5_0, hw⟩ := hw
  refine k_pi (k_runVM (rest := [.ref h]) C aks Wd cs_X12_94 (mt_endOf D h ad ca I F Wd.2 (x0 + 2) g5_0 _ hw l _) rfl rfl ⟨(Nat.le_of_ble_eq_true rfl), (Nat.le_of_ble_eq_true rfl)⟩ hl.1 rfl rfl (Nat.le_of_ble_eq_true rfl) ⟨(Nat.le_of_ble_eq_true rfl), (Nat.le_of_ble_eq_true rfl)⟩ dX12_body_5) (fun y5 hy => ?_)
  obtain ⟨r5, rfl, g_r5, hw⟩ := hy
  refine k_pi (k_runVM (rest := []) C aks Wd cs_X12_94 (mt_endOf D h ad ca I F Wd.2 r5 g_r5 _ hw l _) rfl rfl ⟨(Nat.le_of_ble_eq_true rfl), (Nat.le_of_ble_eq_true rfl)⟩ hl.1 rfl rfl (Nat.le_of_ble_eq_true rfl) ⟨(Nat.le_of_ble_eq_true rfl), (Nat.le_of_ble_eq_true rfl)⟩ dX12_body_8) (fun y8 hy => ?_)
  obtain ⟨r8, rfl, g_r8, hw⟩ := hy
  exact k_zretP C hr hlk rfl ⟨_, rfl, g_r8, hw⟩ dX12_body_11
set_option maxHeartbeats 4000000 in
set_option maxRecDepth 100000 in
theorem mt_isLast : ∀ (D : va_G) (h : Nat) (ad : Nat → Nat) (ca : Nat → ClassId) (I : Nat → Int) (F : Nat → Int → Int) (hS : rngS I F) (x0 : Int) (g_x0 : rng x0) (K : Int → Prop) (hw : wp_isLast (F 2) (I 4) x0 K) (l : Launch) (sz : Nat), Met l yX12_isLast (Cond.code yX12_isLast cX12_isLast 2 (some .boolean) :: gG) { frames := 1, cells := 0, slots := 0, locals := 64 } (cPre D (tM ca) (wM h ad ca I F) sz [.ref h, .int (zI x0)]) (vp_Si (fun r => ∃ x : Int, r = zI x ∧ rng x ∧ K x)) 0 0 (fun _ => False) := by
  intro D h ad ca I F hS x0 g_x0 K hw l sz
  refine Met.ofW (cc := cX12_isLast) (maxL := 2) (ret := (some .boolean)) (by decide) rfl ?_
  intro p e s m args below meth c s₁ B hml hv
  obtain ⟨rfl, aks, rfl, Wd⟩ := k_enter hv
  have C : CallFix p m c cX12_isLast 2 s _ gG RX12 := ⟨B.exec, B.bytes, hml, findClass_of_methodNamed B.named, fun w h => atoms_spec (ws := Cond.code yX12_isLast cX12_isLast 2 (some .boolean) :: gG) B.pre w (List.mem_cons_of_mem _ h)⟩
  have hr := B.returns
  have hlk := B.notSynchronized
  obtain ⟨A, Wd⟩ : ∃ A, wXM D ca s h ad I F s.heap A s.heap [] := ⟨_, Wd, hS⟩
  refine k_locals (Nat.le_of_ble_eq_true rfl) [(0, .ref h), (1, .int (zI x0))] rfl (fun ls hl => ?_)
  unfold wp_isLast at hw
  refine lv_iload_n C.1 C.2.1 dX12_isLast_0 rfl (lv_at hl 1 rfl) ?_
  refine lv_aload_n C.1 C.2.1 dX12_isLast_1 rfl (lv_at hl 0 rfl) ?_
  refine k_get (v := .int (zI (I 4))) C Wd.1 KX12 0 4 wM0 (by decide) fl_X12_98 rfl dX12_isLast_2 ?_
  refine lv_icmp_eq (tgt := 30) C.1 C.2.1 dX12_isLast_5 (by decide) (fun c5 => ?_) (fun c5 => ?_)
  · have hw := hw.1 (z_eq g_x0 (hS.1 4) c5)
    refine lv_iconst (v := zI 1) C.1 C.2.1 dX12_isLast_30 (by decide) ?_
    refine lv_goto (tgt := 35) C.1 C.2.1 dX12_isLast_31 (by decide) ?_
    exact k_zretP C hr hlk (by decide) ⟨_, rfl, (show rng 1 from by decide), hw⟩ dX12_isLast_35
  · have hw := hw.2 (z_ne g_x0 (hS.1 4) c5)
    refine lv_aload_n C.1 C.2.1 dX12_isLast_8 rfl (lv_at hl 0 rfl) ?_
    refine k_get (v := .ref (ad 2)) C Wd.1 KX12 0 2 wM0 (by decide) fl_X12_16 rfl dX12_isLast_9 ?_
    refine lv_iload_n C.1 C.2.1 dX12_isLast_12 rfl (lv_at hl 1 rfl) ?_
    obtain ⟨a13, hw⟩ := hw
    refine k_ialdM (g := (F 2)) C Wd 3 2 rfl rfl a13 (by decide) dX12_isLast_13 ?_
    have g13 : rng ((F 2) x0) := rngL (hS.2 2) a13
    refine lv_bipush (v := zI 113) C.1 C.2.1 dX12_isLast_14 (by decide) ?_
    refine lv_icmp_eq (tgt := 30) C.1 C.2.1 dX12_isLast_16 (by decide) (fun c16 => ?_) (fun c16 => ?_)
    · have hw := hw.1 (z_eq g13 (show rng 113 from by decide) c16)
      refine lv_iconst (v := zI 1) C.1 C.2.1 dX12_isLast_30 (by decide) ?_
      refine lv_goto (tgt := 35) C.1 C.2.1 dX12_isLast_31 (by decide) ?_
      exact k_zretP C hr hlk (by decide) ⟨_, rfl, (show rng 1 from by decide), hw⟩ dX12_isLast_35
    · have hw := hw.2 (z_ne g13 (show rng 113 from by decide) c16)
      refine lv_aload_n C.1 C.2.1 dX12_isLast_19 rfl (lv_at hl 0 rfl) ?_
      refine k_get (v := .ref (ad 2)) C Wd.1 KX12 0 2 wM0 (by decide) fl_X12_16 rfl dX12_isLast_20 ?_
      refine lv_iload_n C.1 C.2.1 dX12_isLast_23 rfl (lv_at hl 1 rfl) ?_
      obtain ⟨a24, hw⟩ := hw
      refine k_ialdM (g := (F 2)) C Wd 3 2 rfl rfl a24 (by decide) dX12_isLast_24 ?_
      refine lv_bipush (v := zI 114) C.1 C.2.1 dX12_isLast_25 (by decide) ?_
      refine lv_icmp_ne (tgt := 34) C.1 C.2.1 dX12_isLast_27 (by decide) (fun c27 => ?_) (fun c27 => ?_)
      · have hw := hw.1 (z_ne g13 (show rng 114 from by decide) c27)
        refine lv_iconst (v := zI 0) C.1 C.2.1 dX12_isLast_34 (by decide) ?_
        exact k_zretP C hr hlk (by decide) ⟨_, rfl, (show rng 0 from by decide), hw⟩ dX12_isLast_35
      · have hw := hw.2 (z_eq g13 (show rng 114 from by decide) c27)
        refine lv_iconst (v := zI 1) C.1 C.2.1 dX12_isLast_30 (by decide) ?_
        refine lv_goto (tgt := 35) C.1 C.2.1 dX12_isLast_31 (by decide) ?_
        exact k_zretP C hr hlk (by decide) ⟨_, rfl, (show rng 1 from by decide), hw⟩ dX12_isLast_35
set_option maxHeartbeats 4000000 in
set_option maxRecDepth 100000 in
theorem mg_behind (n : Nat) : (∀ (D : va_G) (h : Nat) (ad : Nat → Nat) (ca : Nat → ClassId) (I : Nat → Int) (F : Nat → Int → Int) (hS : rngS I F) (x0 : Int) (g_x0 : rng x0) (K : Int → Prop) (hw : wp_behind n (F 2) x0 K) (l : Launch) (sz : Nat), Met l yX12_behind (Cond.code yX12_behind cX12_behind 3 (some .int) :: gG) { frames := 506 + n, cells := 0, slots := 0, locals := 10708 + 22 * n } (cPre D (tM ca) (wM h ad ca I F) sz [.ref h, .int (zI x0)]) (vp_Si (fun r => ∃ x : Int, r = zI x ∧ rng x ∧ K x)) 0 0 (fun _ => False)) := by
  induction n with
  | zero => exact (fun _ _ _ _ _ _ _ _ _ _ hw => absurd hw id)
  | succ n ih =>
    have ih_behind := ih
    intro D h ad ca I F hS x0 g_x0 K hw l sz
    refine Met.ofW (cc := cX12_behind) (maxL := 3) (ret := (some .int)) (by decide) rfl ?_
    intro p e s m args below meth c s₁ B hml hv
    obtain ⟨rfl, aks, rfl, Wd⟩ := k_enter hv
    have C : CallFix p m c cX12_behind 3 s _ gG RX12 := ⟨B.exec, B.bytes, hml, findClass_of_methodNamed B.named, fun w h => atoms_spec (ws := Cond.code yX12_behind cX12_behind 3 (some .int) :: gG) B.pre w (List.mem_cons_of_mem _ h)⟩
    have hr := B.returns
    have hlk := B.notSynchronized
    obtain ⟨A, Wd⟩ : ∃ A, wXM D ca s h ad I F s.heap A s.heap [] := ⟨_, Wd, hS⟩
    refine k_locals (Nat.le_of_ble_eq_true rfl) [(0, .ref h), (1, .int (zI x0))] rfl (fun ls hl => ?_)
    replace hw : wp_behind_b (wp_behind n) (F 2) x0 K := hw
    unfold wp_behind_b at hw
    refine lv_aload_n C.1 C.2.1 dX12_behind_0 rfl (lv_at hl 0 rfl) ?_
    refine k_get (v := .ref (ad 2)) C Wd.1 KX12 0 2 wM0 (by decide) fl_X12_16 rfl dX12_behind_1 ?_
    refine lv_iload_n C.1 C.2.1 dX12_behind_4 rfl (lv_at hl 1 rfl) ?_
    obtain ⟨a5, hw⟩ := hw
    refine k_ialdM (g := (F 2)) C Wd 3 2 rfl rfl a5 (by decide) dX12_behind_5 ?_
    have g5 : rng ((F 2) x0) := rngL (hS.2 2) a5
    refine lv_bipush (v := zI 111) C.1 C.2.1 dX12_behind_6 (by decide) ?_
    refine lv_icmp_ne (tgt := 15) C.1 C.2.1 dX12_behind_8 (by decide) (fun c8 => ?_) (fun c8 => ?_)
    · have hw := hw.1 (z_ne g5 (show rng 111 from by decide) c8)
      refine lv_aload_n C.1 C.2.1 dX12_behind_15 rfl (lv_at hl 0 rfl) ?_
      refine k_get (v := .ref (ad 2)) C Wd.1 KX12 0 2 wM0 (by decide) fl_X12_16 rfl dX12_behind_16 ?_
      refine lv_iload_n C.1 C.2.1 dX12_behind_19 rfl (lv_at hl 1 rfl) ?_
      obtain ⟨a20, hw⟩ := hw
      refine k_ialdM (g := (F 2)) C Wd 3 2 rfl rfl a20 (by decide) dX12_behind_20 ?_
      refine lv_bipush (v := zI 112) C.1 C.2.1 dX12_behind_21 (by decide) ?_
      refine k_cut0 (fun  H locs ls => wp_behind_45 (wp_behind n) K (F 2) x0 ∧ wXM D ca s h ad I F H A s.heap locs ∧ H = s.heap ∧ locs = [] ∧ lv_has ls 3 [(0, .ref h), (1, .int (zI x0))]) (fun  ls => F0 m 45 ls []) (fun  H locs ls hi => ?_) (fun J45 => ?_)
      · obtain ⟨hw, Wd, rfl, rfl, hl⟩ := hi
        have Wd45 := Wd
        unfold wp_behind_45 at hw
        refine lv_aload_n C.1 C.2.1 dX12_behind_45 rfl (lv_at hl 0 rfl) ?_
        refine lv_iload_n C.1 C.2.1 dX12_behind_46 rfl (lv_at hl 1 rfl) ?_
        refine k_pi (k_runVM (rest := []) C aks Wd cs_X12_101 (mt_body D h ad ca I F Wd.2 x0 g_x0 _ hw l _) rfl rfl ⟨(by show 504 + 1 ≤ 506 + (n + 1); omega), (by show 8 + (2 + 11) + (10647) ≤ 10708 + 22 * (n + 1); omega)⟩ hl.1 rfl rfl (Nat.le_of_ble_eq_true rfl) ⟨(Nat.le_of_ble_eq_true rfl), (Nat.le_of_ble_eq_true rfl)⟩ dX12_behind_47) (fun y47 hy => ?_)
        obtain ⟨r47, rfl, g_r47, hw⟩ := hy
        refine lv_istore_n (lv' := [(2, .int (zI r47)), (0, .ref h), (1, .int (zI x0))]) C.1 C.2.1 dX12_behind_50 rfl hl (by decide) rfl (fun ls hl => ?_)
        replace hl := lv_sub hl [1, 2, 0] rfl
        refine k_lp1 hw (fun (l2_51 : Int) H locs ls => rng l2_51 ∧ wXM D ca s h ad I F H A s.heap locs ∧ H = s.heap ∧ locs = [] ∧ lv_has ls 3 [(0, .ref h), (2, .int (zI l2_51))]) (fun (l2_51 : Int) ls => F0 m 51 ls []) (fun L51 hL51 l2_51 hw H locs ls hi => ?_) _ _ _ ⟨g_r47, Wd, rfl, rfl, lv_sub hl [0, 2] rfl⟩
        obtain ⟨g_l2_51, Wd, rfl, rfl, hl⟩ := hi
        have Wd51 := Wd
        unfold wp_behind_51 at hw
        refine lv_aload_n C.1 C.2.1 dX12_behind_51 rfl (lv_at hl 0 rfl) ?_
        refine k_get (v := .ref (ad 2)) C Wd.1 KX12 0 2 wM0 (by decide) fl_X12_16 rfl dX12_behind_52 ?_
        refine lv_iload_n C.1 C.2.1 dX12_behind_55 rfl (lv_at hl 1 rfl) ?_
        obtain ⟨a56, hw⟩ := hw
        refine k_ialdM (g := (F 2)) C Wd 3 2 rfl rfl a56 (by decide) dX12_behind_56 ?_
        have g56 : rng ((F 2) l2_51) := rngL (hS.2 2) a56
        refine lv_bipush (v := zI 114) C.1 C.2.1 dX12_behind_57 (by decide) ?_
        refine lv_icmp_eq (tgt := 88) C.1 C.2.1 dX12_behind_59 (by decide) (fun c59 => ?_) (fun c59 => ?_)
        · have hw := hw.1 (z_eq g56 (show rng 114 from by decide) c59)
          refine lv_iload_n C.1 C.2.1 dX12_behind_88 rfl (lv_at hl 1 rfl) ?_
          refine lv_iconst (v := zI 1) C.1 C.2.1 dX12_behind_89 (by decide) ?_
          refine k_iadd (v := zI (l2_51 + 1)) C (zI_iadd _ _) dX12_behind_90 ?_
          obtain ⟨g91_0, hw⟩ := hw
          exact k_zretP C hr hlk rfl ⟨_, rfl, g91_0, hw⟩ dX12_behind_91
        · have hw := hw.2 (z_ne g56 (show rng 114 from by decide) c59)
          refine lv_aload_n C.1 C.2.1 dX12_behind_62 rfl (lv_at hl 0 rfl) ?_
          refine k_get (v := .ref (ad 2)) C Wd.1 KX12 0 2 wM0 (by decide) fl_X12_16 rfl dX12_behind_63 ?_
          refine lv_iload_n C.1 C.2.1 dX12_behind_66 rfl (lv_at hl 1 rfl) ?_
          obtain ⟨a67, hw⟩ := hw
          refine k_ialdM (g := (F 2)) C Wd 3 2 rfl rfl a67 (by decide) dX12_behind_67 ?_
          refine lv_bipush (v := zI 113) C.1 C.2.1 dX12_behind_68 (by decide) ?_
          refine lv_icmp_ne (tgt := 79) C.1 C.2.1 dX12_behind_70 (by decide) (fun c70 => ?_) (fun c70 => ?_)
          · have hw := hw.1 (z_ne g56 (show rng 113 from by decide) c70)
            refine lv_aload_n C.1 C.2.1 dX12_behind_79 rfl (lv_at hl 0 rfl) ?_
            refine lv_iload_n C.1 C.2.1 dX12_behind_80 rfl (lv_at hl 1 rfl) ?_
            refine k_pi (k_runVM (rest := []) C aks Wd cs_X12_104 (ih_behind D h ad ca I F Wd.2 l2_51 g_l2_51 _ hw l _) rfl rfl ⟨(by show 506 + n + 1 ≤ 506 + (n + 1); omega), (by show 8 + (3 + 11) + (10708 + 22 * n) ≤ 10708 + 22 * (n + 1); omega)⟩ hl.1 rfl rfl (Nat.le_of_ble_eq_true rfl) ⟨(Nat.le_of_ble_eq_true rfl), (Nat.le_of_ble_eq_true rfl)⟩ dX12_behind_81) (fun y81 hy => ?_)
            obtain ⟨r81, rfl, g_r81, hw⟩ := hy
            refine lv_istore_n (lv' := [(2, .int (zI r81)), (0, .ref h)]) C.1 C.2.1 dX12_behind_84 rfl hl (by decide) rfl (fun ls hl => ?_)
            replace hl := lv_sub hl [1, 0] rfl
            refine lv_goto (tgt := 51) C.1 C.2.1 dX12_behind_85 (by decide) ?_
            exact hL51 _ hw _ _ _ ⟨g_r81, Wd, rfl, rfl, lv_sub hl [0, 1] rfl⟩
          · have hw := hw.2 (z_eq g56 (show rng 113 from by decide) c70)
            refine lv_iload_n C.1 C.2.1 dX12_behind_73 rfl (lv_at hl 1 rfl) ?_
            refine lv_iconst (v := zI 1) C.1 C.2.1 dX12_behind_74 (by decide) ?_
            refine k_iadd (v := zI (l2_51 + 1)) C (zI_iadd _ _) dX12_behind_75 ?_
            refine lv_goto (tgt := 84) C.1 C.2.1 dX12_behind_76 (by decide) ?_
            refine lv_istore_n (lv' := [(2, .int (zI (l2_51 + 1))), (0, .ref h)]) C.1 C.2.1 dX12_behind_84 rfl hl (by decide) rfl (fun ls hl => ?_)
            replace hl := lv_sub hl [1, 0] rfl
            refine lv_goto (tgt := 51) C.1 C.2.1 dX12_behind_85 (by decide) ?_
            obtain ⟨g85_0, hw⟩ := hw
            exact hL51 _ hw _ _ _ ⟨g85_0, Wd, rfl, rfl, lv_sub hl [0, 1] rfl⟩
      refine lv_icmp_eq (tgt := 45) C.1 C.2.1 dX12_behind_23 (by decide) (fun c23 => ?_) (fun c23 => ?_)
      · have hw := hw.1 (z_eq g5 (show rng 112 from by decide) c23)
        exact J45  _ _ _ ⟨hw, Wd, rfl, rfl, lv_sub hl [0, 1] rfl⟩
      · have hw := hw.2 (z_ne g5 (show rng 112 from by decide) c23)
        refine lv_aload_n C.1 C.2.1 dX12_behind_26 rfl (lv_at hl 0 rfl) ?_
        refine k_get (v := .ref (ad 2)) C Wd.1 KX12 0 2 wM0 (by decide) fl_X12_16 rfl dX12_behind_27 ?_
        refine lv_iload_n C.1 C.2.1 dX12_behind_30 rfl (lv_at hl 1 rfl) ?_
        obtain ⟨a31, hw⟩ := hw
        refine k_ialdM (g := (F 2)) C Wd 3 2 rfl rfl a31 (by decide) dX12_behind_31 ?_
        refine lv_bipush (v := zI 115) C.1 C.2.1 dX12_behind_32 (by decide) ?_
        refine lv_icmp_eq (tgt := 45) C.1 C.2.1 dX12_behind_34 (by decide) (fun c34 => ?_) (fun c34 => ?_)
        · have hw := hw.1 (z_eq g5 (show rng 115 from by decide) c34)
          exact J45  _ _ _ ⟨hw, Wd, rfl, rfl, lv_sub hl [0, 1] rfl⟩
        · have hw := hw.2 (z_ne g5 (show rng 115 from by decide) c34)
          refine lv_aload_n C.1 C.2.1 dX12_behind_37 rfl (lv_at hl 0 rfl) ?_
          refine lv_iload_n C.1 C.2.1 dX12_behind_38 rfl (lv_at hl 1 rfl) ?_
          refine lv_iconst (v := zI 1) C.1 C.2.1 dX12_behind_39 (by decide) ?_
          refine k_iadd (v := zI (x0 + 1)) C (zI_iadd _ _) dX12_behind_40 ?_
          obtain ⟨g41_0, hw⟩ := hw
          refine k_pi (k_runVM (rest := []) C aks Wd cs_X12_94 (mt_endOf D h ad ca I F Wd.2 (x0 + 1) g41_0 _ hw l _) rfl rfl ⟨(by show 503 + 1 ≤ 506 + (n + 1); omega), (by show 8 + (2 + 11) + (10626) ≤ 10708 + 22 * (n + 1); omega)⟩ hl.1 rfl rfl (Nat.le_of_ble_eq_true rfl) ⟨(Nat.le_of_ble_eq_true rfl), (Nat.le_of_ble_eq_true rfl)⟩ dX12_behind_41) (fun y41 hy => ?_)
          obtain ⟨r41, rfl, g_r41, hw⟩ := hy
          exact k_zretP C hr hlk rfl ⟨_, rfl, g_r41, hw⟩ dX12_behind_44
    · have hw := hw.2 (z_eq g5 (show rng 111 from by decide) c8)
      refine lv_iload_n C.1 C.2.1 dX12_behind_11 rfl (lv_at hl 1 rfl) ?_
      refine lv_iconst (v := zI 1) C.1 C.2.1 dX12_behind_12 (by decide) ?_
      refine k_iadd (v := zI (x0 + 1)) C (zI_iadd _ _) dX12_behind_13 ?_
      obtain ⟨g14_0, hw⟩ := hw
      exact k_zretP C hr hlk rfl ⟨_, rfl, g14_0, hw⟩ dX12_behind_14
theorem mt_behind : ∀ (D : va_G) (h : Nat) (ad : Nat → Nat) (ca : Nat → ClassId) (I : Nat → Int) (F : Nat → Int → Int) (hS : rngS I F) (x0 : Int) (g_x0 : rng x0) (K : Int → Prop) (hw : wp_behind 100 (F 2) x0 K) (l : Launch) (sz : Nat), Met l yX12_behind (Cond.code yX12_behind cX12_behind 3 (some .int) :: gG) { frames := 606, cells := 0, slots := 0, locals := 12908 } (cPre D (tM ca) (wM h ad ca I F) sz [.ref h, .int (zI x0)]) (vp_Si (fun r => ∃ x : Int, r = zI x ∧ rng x ∧ K x)) 0 0 (fun _ => False) := mg_behind 100
set_option maxHeartbeats 4000000 in
set_option maxRecDepth 100000 in
theorem mt_close : ∀ (D : va_G) (h : Nat) (ad : Nat → Nat) (ca : Nat → ClassId) (I : Nat → Int) (F : Nat → Int → Int) (hS : rngS I F) (x0 : Int) (g_x0 : rng x0) (K : Int → Prop) (hw : wp_close (F 2) (I 4) x0 K) (l : Launch) (sz : Nat), Met l yX12_close (Cond.code yX12_close cX12_close 3 (some .int) :: gG) { frames := 607, cells := 0, slots := 0, locals := 12930 } (cPre D (tM ca) (wM h ad ca I F) sz [.ref h, .int (zI x0)]) (vp_Si (fun r => ∃ x : Int, r = zI x ∧ rng x ∧ K x)) 0 0 (fun _ => False) := by
  intro D h ad ca I F hS x0 g_x0 K hw l sz
  refine Met.ofW (cc := cX12_close) (maxL := 3) (ret := (some .int)) (by decide) rfl ?_
  intro p e s m args below meth c s₁ B hml hv
  obtain ⟨rfl, aks, rfl, Wd⟩ := k_enter hv
  have C : CallFix p m c cX12_close 3 s _ gG RX12 := ⟨B.exec, B.bytes, hml, findClass_of_methodNamed B.named, fun w h => atoms_spec (ws := Cond.code yX12_close cX12_close 3 (some .int) :: gG) B.pre w (List.mem_cons_of_mem _ h)⟩
  have hr := B.returns
  have hlk := B.notSynchronized
  obtain ⟨A, Wd⟩ : ∃ A, wXM D ca s h ad I F s.heap A s.heap [] := ⟨_, Wd, hS⟩
  refine k_locals (Nat.le_of_ble_eq_true rfl) [(0, .ref h), (1, .int (zI x0))] rfl (fun ls hl => ?_)
  unfold wp_close at hw
  refine lv_iload_n C.1 C.2.1 dX12_close_0 rfl (lv_at hl 1 rfl) ?_
  refine lv_istore_n (lv' := [(2, .int (zI x0)), (0, .ref h), (1, .int (zI x0))]) C.1 C.2.1 dX12_close_1 rfl hl (by decide) rfl (fun ls hl => ?_)
  replace hl := lv_sub hl [1, 2, 0] rfl
  refine k_lp1 hw (fun (l2_2 : Int) H locs ls => rng l2_2 ∧ wXM D ca s h ad I F H A s.heap locs ∧ H = s.heap ∧ locs = [] ∧ lv_has ls 3 [(0, .ref h), (2, .int (zI l2_2))]) (fun (l2_2 : Int) ls => F0 m 2 ls []) (fun L2 hL2 l2_2 hw H locs ls hi => ?_) _ _ _ ⟨g_x0, Wd, rfl, rfl, lv_sub hl [0, 2] rfl⟩
  obtain ⟨g_l2_2, Wd, rfl, rfl, hl⟩ := hi
  have Wd2 := Wd
  unfold wp_close_2 at hw
  refine lv_aload_n C.1 C.2.1 dX12_close_2 rfl (lv_at hl 0 rfl) ?_
  refine lv_iload_n C.1 C.2.1 dX12_close_3 rfl (lv_at hl 1 rfl) ?_
  refine k_pi (k_runVM (rest := []) C aks Wd cs_X12_107 (mt_isLast D h ad ca I F Wd.2 l2_2 g_l2_2 _ hw l _) rfl rfl ⟨(Nat.le_of_ble_eq_true rfl), (Nat.le_of_ble_eq_true rfl)⟩ hl.1 rfl rfl (Nat.le_of_ble_eq_true rfl) ⟨(Nat.le_of_ble_eq_true rfl), (Nat.le_of_ble_eq_true rfl)⟩ dX12_close_4) (fun y4 hy => ?_)
  obtain ⟨r4, rfl, g_r4, hw⟩ := hy
  refine lv_if_ne (tgt := 19) C.1 C.2.1 dX12_close_7 (by decide) (fun c7 => ?_) (fun c7 => ?_)
  · have hw := hw.1 (z0_ne g_r4 c7)
    refine lv_iload_n C.1 C.2.1 dX12_close_19 rfl (lv_at hl 1 rfl) ?_
    exact k_zretP C hr hlk rfl ⟨_, rfl, g_l2_2, hw⟩ dX12_close_20
  · have hw := hw.2 (z0_eq g_r4 c7)
    refine lv_aload_n C.1 C.2.1 dX12_close_10 rfl (lv_at hl 0 rfl) ?_
    refine lv_iload_n C.1 C.2.1 dX12_close_11 rfl (lv_at hl 1 rfl) ?_
    refine k_pi (k_runVM (rest := []) C aks Wd cs_X12_104 (mt_behind D h ad ca I F Wd.2 l2_2 g_l2_2 _ hw l _) rfl rfl ⟨(Nat.le_of_ble_eq_true rfl), (Nat.le_of_ble_eq_true rfl)⟩ hl.1 rfl rfl (Nat.le_of_ble_eq_true rfl) ⟨(Nat.le_of_ble_eq_true rfl), (Nat.le_of_ble_eq_true rfl)⟩ dX12_close_12) (fun y12 hy => ?_)
    obtain ⟨r12, rfl, g_r12, hw⟩ := hy
    refine lv_istore_n (lv' := [(2, .int (zI r12)), (0, .ref h)]) C.1 C.2.1 dX12_close_15 rfl hl (by decide) rfl (fun ls hl => ?_)
    replace hl := lv_sub hl [1, 0] rfl
    refine lv_goto (tgt := 2) C.1 C.2.1 dX12_close_16 (by decide) ?_
    exact hL2 _ hw _ _ _ ⟨g_r12, Wd, rfl, rfl, lv_sub hl [0, 1] rfl⟩
set_option maxHeartbeats 4000000 in
set_option maxRecDepth 100000 in
theorem mt_statements : ∀ (D : va_G) (h : Nat) (ad : Nat → Nat) (ca : Nat → ClassId) (I : Nat → Int) (F : Nat → Int → Int) (hS : rngS I F) (K : Int → Prop) (hw : wp_statements (F 2) (I 4) K) (l : Launch) (sz : Nat), Met l yX12_statements (Cond.code yX12_statements cX12_statements 3 (some .int) :: gG) { frames := 3, cells := 0, slots := 0, locals := 106 } (cPre D (tM ca) (wM h ad ca I F) sz [.ref h]) (vp_Si (fun r => ∃ x : Int, r = zI x ∧ rng x ∧ K x)) 0 0 (fun _ => False) := by
  intro D h ad ca I F hS  K hw l sz
  refine Met.ofW (cc := cX12_statements) (maxL := 3) (ret := (some .int)) (by decide) rfl ?_
  intro p e s m args below meth c s₁ B hml hv
  obtain ⟨rfl, aks, rfl, Wd⟩ := k_enter hv
  have C : CallFix p m c cX12_statements 3 s _ gG RX12 := ⟨B.exec, B.bytes, hml, findClass_of_methodNamed B.named, fun w h => atoms_spec (ws := Cond.code yX12_statements cX12_statements 3 (some .int) :: gG) B.pre w (List.mem_cons_of_mem _ h)⟩
  have hr := B.returns
  have hlk := B.notSynchronized
  obtain ⟨A, Wd⟩ : ∃ A, wXM D ca s h ad I F s.heap A s.heap [] := ⟨_, Wd, hS⟩
  refine k_locals (Nat.le_of_ble_eq_true rfl) [(0, .ref h)] rfl (fun ls hl => ?_)
  unfold wp_statements at hw
  refine lv_iconst (v := zI 0) C.1 C.2.1 dX12_statements_0 (by decide) ?_
  refine lv_istore_n (lv' := [(1, .int (zI 0)), (0, .ref h)]) C.1 C.2.1 dX12_statements_1 rfl hl (by decide) rfl (fun ls hl => ?_)
  replace hl := lv_sub hl [1, 0] rfl
  refine lv_iconst (v := zI 0) C.1 C.2.1 dX12_statements_2 (by decide) ?_
  refine lv_istore_n (lv' := [(2, .int (zI 0)), (0, .ref h), (1, .int (zI 0))]) C.1 C.2.1 dX12_statements_3 rfl hl (by decide) rfl (fun ls hl => ?_)
  replace hl := lv_sub hl [1, 2, 0] rfl
  refine k_lp2 hw (fun (l1_4 : Int) (l2_4 : Int) H locs ls => rng l1_4 ∧ rng l2_4 ∧ wXM D ca s h ad I F H A s.heap locs ∧ H = s.heap ∧ locs = [] ∧ lv_has ls 3 [(0, .ref h), (1, .int (zI l1_4)), (2, .int (zI l2_4))]) (fun (l1_4 : Int) (l2_4 : Int) ls => F0 m 4 ls []) (fun L4 hL4 l1_4 l2_4 hw H locs ls hi => ?_) _ _ _ ⟨(show rng 0 from by decide), (show rng 0 from by decide), Wd, rfl, rfl, lv_sub hl [0, 1, 2] rfl⟩
  obtain ⟨g_l1_4, g_l2_4, Wd, rfl, rfl, hl⟩ := hi
  have Wd4 := Wd
  unfold wp_statements_4 at hw
  refine lv_iload_n C.1 C.2.1 dX12_statements_4 rfl (lv_at hl 2 rfl) ?_
  refine lv_aload_n C.1 C.2.1 dX12_statements_5 rfl (lv_at hl 0 rfl) ?_
  refine k_get (v := .int (zI (I 4))) C Wd.1 KX12 0 4 wM0 (by decide) fl_X12_98 rfl dX12_statements_6 ?_
  refine lv_icmp_ge (tgt := 38) C.1 C.2.1 dX12_statements_9 (by decide) (fun c9 => ?_) (fun c9 => ?_)
  · have hw := hw.1 (z_le (hS.1 4) g_l2_4 c9)
    refine lv_iload_n C.1 C.2.1 dX12_statements_38 rfl (lv_at hl 1 rfl) ?_
    exact k_zretP C hr hlk rfl ⟨_, rfl, g_l1_4, hw⟩ dX12_statements_39
  · have hw := hw.2 (z_nle (hS.1 4) g_l2_4 c9)
    refine lv_iload_n C.1 C.2.1 dX12_statements_12 rfl (lv_at hl 1 rfl) ?_
    refine lv_aload_n C.1 C.2.1 dX12_statements_13 rfl (lv_at hl 0 rfl) ?_
    refine k_get (v := .ref (ad 2)) C Wd.1 KX12 0 2 wM0 (by decide) fl_X12_16 rfl dX12_statements_14 ?_
    refine lv_iload_n C.1 C.2.1 dX12_statements_17 rfl (lv_at hl 2 rfl) ?_
    obtain ⟨a18, hw⟩ := hw
    refine k_ialdM (g := (F 2)) C Wd 3 2 rfl rfl a18 (by decide) dX12_statements_18 ?_
    have g18 : rng ((F 2) l2_4) := rngL (hS.2 2) a18
    refine k_pi (k_runS (rest := [.int (zI l1_4)]) C aks Wd.1 cs_X12_111 (mt_isStatement D ((F 2) l2_4) g18 _ hw l _) [] rfl (by decide) [] rfl rfl rfl ⟨(Nat.le_of_ble_eq_true rfl), (Nat.le_of_ble_eq_true rfl)⟩ hl.1 rfl rfl (Nat.le_of_ble_eq_true rfl) ⟨(Nat.le_of_ble_eq_true rfl), (Nat.le_of_ble_eq_true rfl)⟩ dX12_statements_19) (fun y19 hy => ?_)
    obtain ⟨r19, rfl, g_r19, hw⟩ := hy
    refine lv_if_eq (tgt := 29) C.1 C.2.1 dX12_statements_22 (by decide) (fun c22 => ?_) (fun c22 => ?_)
    · have hw := hw.1 (z0_eq g_r19 c22)
      refine lv_iconst (v := zI 0) C.1 C.2.1 dX12_statements_29 (by decide) ?_
      refine k_iadd (v := zI (l1_4 + 0)) C (zI_iadd _ _) dX12_statements_30 ?_
      refine lv_istore_n (lv' := [(1, .int (zI (l1_4 + 0))), (0, .ref h), (2, .int (zI l2_4))]) C.1 C.2.1 dX12_statements_31 rfl hl (by decide) rfl (fun ls hl => ?_)
      replace hl := lv_sub hl [1, 0, 2] rfl
      refine lv_iinc (v := zI (l2_4 + 1)) (lv' := [(2, .int (zI (l2_4 + 1))), (0, .ref h), (1, .int (zI (l1_4 + 0)))]) C.1 C.2.1 dX12_statements_32 hl (k := 2) rfl (zI_inc _ _ (by decide)) (by decide) rfl (fun ls hl => ?_)
      replace hl := lv_sub hl [1, 2, 0] rfl
      refine lv_goto (tgt := 4) C.1 C.2.1 dX12_statements_35 (by decide) ?_
      obtain ⟨g35_0, hw⟩ := hw
      obtain ⟨g35_1, hw⟩ := hw
      exact hL4 _ _ hw _ _ _ ⟨g35_0, g35_1, Wd, rfl, rfl, lv_sub hl [0, 1, 2] rfl⟩
    · have hw := hw.2 (z0_ne g_r19 c22)
      refine lv_iconst (v := zI 1) C.1 C.2.1 dX12_statements_25 (by decide) ?_
      refine lv_goto (tgt := 30) C.1 C.2.1 dX12_statements_26 (by decide) ?_
      refine k_iadd (v := zI (l1_4 + 1)) C (zI_iadd _ _) dX12_statements_30 ?_
      refine lv_istore_n (lv' := [(1, .int (zI (l1_4 + 1))), (0, .ref h), (2, .int (zI l2_4))]) C.1 C.2.1 dX12_statements_31 rfl hl (by decide) rfl (fun ls hl => ?_)
      replace hl := lv_sub hl [1, 0, 2] rfl
      refine lv_iinc (v := zI (l2_4 + 1)) (lv' := [(2, .int (zI (l2_4 + 1))), (0, .ref h), (1, .int (zI (l1_4 + 1)))]) C.1 C.2.1 dX12_statements_32 hl (k := 2) rfl (zI_inc _ _ (by decide)) (by decide) rfl (fun ls hl => ?_)
      replace hl := lv_sub hl [1, 2, 0] rfl
      refine lv_goto (tgt := 4) C.1 C.2.1 dX12_statements_35 (by decide) ?_
      obtain ⟨g35_0, hw⟩ := hw
      obtain ⟨g35_1, hw⟩ := hw
      exact hL4 _ _ hw _ _ _ ⟨g35_0, g35_1, Wd, rfl, rfl, lv_sub hl [0, 1, 2] rfl⟩
set_option maxHeartbeats 4000000 in
set_option maxRecDepth 100000 in
theorem mt_parts : ∀ (D : va_G) (h : Nat) (ad : Nat → Nat) (ca : Nat → ClassId) (I : Nat → Int) (F : Nat → Int → Int) (hS : rngS I F) (K : Int → Prop) (hw : wp_parts (F 2) (I 4) K) (l : Launch) (sz : Nat), Met l yX12_parts (Cond.code yX12_parts cX12_parts 3 (some .int) :: gG) { frames := 3, cells := 0, slots := 0, locals := 107 } (cPre D (tM ca) (wM h ad ca I F) sz [.ref h]) (vp_Si (fun r => ∃ x : Int, r = zI x ∧ rng x ∧ K x)) 0 0 (fun _ => False) := by
  intro D h ad ca I F hS  K hw l sz
  refine Met.ofW (cc := cX12_parts) (maxL := 3) (ret := (some .int)) (by decide) rfl ?_
  intro p e s m args below meth c s₁ B hml hv
  obtain ⟨rfl, aks, rfl, Wd⟩ := k_enter hv
  have C : CallFix p m c cX12_parts 3 s _ gG RX12 := ⟨B.exec, B.bytes, hml, findClass_of_methodNamed B.named, fun w h => atoms_spec (ws := Cond.code yX12_parts cX12_parts 3 (some .int) :: gG) B.pre w (List.mem_cons_of_mem _ h)⟩
  have hr := B.returns
  have hlk := B.notSynchronized
  obtain ⟨A, Wd⟩ : ∃ A, wXM D ca s h ad I F s.heap A s.heap [] := ⟨_, Wd, hS⟩
  refine k_locals (Nat.le_of_ble_eq_true rfl) [(0, .ref h)] rfl (fun ls hl => ?_)
  unfold wp_parts at hw
  refine lv_iconst (v := zI 0) C.1 C.2.1 dX12_parts_0 (by decide) ?_
  refine lv_istore_n (lv' := [(1, .int (zI 0)), (0, .ref h)]) C.1 C.2.1 dX12_parts_1 rfl hl (by decide) rfl (fun ls hl => ?_)
  replace hl := lv_sub hl [1, 0] rfl
  refine lv_iconst (v := zI 0) C.1 C.2.1 dX12_parts_2 (by decide) ?_
  refine lv_istore_n (lv' := [(2, .int (zI 0)), (0, .ref h), (1, .int (zI 0))]) C.1 C.2.1 dX12_parts_3 rfl hl (by decide) rfl (fun ls hl => ?_)
  replace hl := lv_sub hl [1, 2, 0] rfl
  refine k_lp2 hw (fun (l1_4 : Int) (l2_4 : Int) H locs ls => rng l1_4 ∧ rng l2_4 ∧ wXM D ca s h ad I F H A s.heap locs ∧ H = s.heap ∧ locs = [] ∧ lv_has ls 3 [(0, .ref h), (1, .int (zI l1_4)), (2, .int (zI l2_4))]) (fun (l1_4 : Int) (l2_4 : Int) ls => F0 m 4 ls []) (fun L4 hL4 l1_4 l2_4 hw H locs ls hi => ?_) _ _ _ ⟨(show rng 0 from by decide), (show rng 0 from by decide), Wd, rfl, rfl, lv_sub hl [0, 1, 2] rfl⟩
  obtain ⟨g_l1_4, g_l2_4, Wd, rfl, rfl, hl⟩ := hi
  have Wd4 := Wd
  unfold wp_parts_4 at hw
  refine lv_iload_n C.1 C.2.1 dX12_parts_4 rfl (lv_at hl 2 rfl) ?_
  refine lv_aload_n C.1 C.2.1 dX12_parts_5 rfl (lv_at hl 0 rfl) ?_
  refine k_get (v := .int (zI (I 4))) C Wd.1 KX12 0 4 wM0 (by decide) fl_X12_98 rfl dX12_parts_6 ?_
  refine lv_icmp_ge (tgt := 39) C.1 C.2.1 dX12_parts_9 (by decide) (fun c9 => ?_) (fun c9 => ?_)
  · have hw := hw.1 (z_le (hS.1 4) g_l2_4 c9)
    refine lv_iload_n C.1 C.2.1 dX12_parts_39 rfl (lv_at hl 1 rfl) ?_
    exact k_zretP C hr hlk rfl ⟨_, rfl, g_l1_4, hw⟩ dX12_parts_40
  · have hw := hw.2 (z_nle (hS.1 4) g_l2_4 c9)
    refine lv_iload_n C.1 C.2.1 dX12_parts_12 rfl (lv_at hl 1 rfl) ?_
    refine lv_aload_n C.1 C.2.1 dX12_parts_13 rfl (lv_at hl 0 rfl) ?_
    refine lv_aload_n C.1 C.2.1 dX12_parts_14 rfl (lv_at hl 0 rfl) ?_
    refine k_get (v := .ref (ad 2)) C Wd.1 KX12 0 2 wM0 (by decide) fl_X12_16 rfl dX12_parts_15 ?_
    refine lv_iload_n C.1 C.2.1 dX12_parts_18 rfl (lv_at hl 2 rfl) ?_
    obtain ⟨a19, hw⟩ := hw
    refine k_ialdM (g := (F 2)) C Wd 3 2 rfl rfl a19 (by decide) dX12_parts_19 ?_
    have g19 : rng ((F 2) l2_4) := rngL (hS.2 2) a19
    refine k_pi (k_runVM (rest := [.int (zI l1_4)]) C aks Wd cs_X12_114 (mt_isPart D h ad ca I F Wd.2 ((F 2) l2_4) g19 _ hw l _) rfl rfl ⟨(Nat.le_of_ble_eq_true rfl), (Nat.le_of_ble_eq_true rfl)⟩ hl.1 rfl rfl (Nat.le_of_ble_eq_true rfl) ⟨(Nat.le_of_ble_eq_true rfl), (Nat.le_of_ble_eq_true rfl)⟩ dX12_parts_20) (fun y20 hy => ?_)
    obtain ⟨r20, rfl, g_r20, hw⟩ := hy
    refine lv_if_eq (tgt := 30) C.1 C.2.1 dX12_parts_23 (by decide) (fun c23 => ?_) (fun c23 => ?_)
    · have hw := hw.1 (z0_eq g_r20 c23)
      refine lv_iconst (v := zI 0) C.1 C.2.1 dX12_parts_30 (by decide) ?_
      refine k_iadd (v := zI (l1_4 + 0)) C (zI_iadd _ _) dX12_parts_31 ?_
      refine lv_istore_n (lv' := [(1, .int (zI (l1_4 + 0))), (0, .ref h), (2, .int (zI l2_4))]) C.1 C.2.1 dX12_parts_32 rfl hl (by decide) rfl (fun ls hl => ?_)
      replace hl := lv_sub hl [1, 0, 2] rfl
      refine lv_iinc (v := zI (l2_4 + 1)) (lv' := [(2, .int (zI (l2_4 + 1))), (0, .ref h), (1, .int (zI (l1_4 + 0)))]) C.1 C.2.1 dX12_parts_33 hl (k := 2) rfl (zI_inc _ _ (by decide)) (by decide) rfl (fun ls hl => ?_)
      replace hl := lv_sub hl [1, 2, 0] rfl
      refine lv_goto (tgt := 4) C.1 C.2.1 dX12_parts_36 (by decide) ?_
      obtain ⟨g36_0, hw⟩ := hw
      obtain ⟨g36_1, hw⟩ := hw
      exact hL4 _ _ hw _ _ _ ⟨g36_0, g36_1, Wd, rfl, rfl, lv_sub hl [0, 1, 2] rfl⟩
    · have hw := hw.2 (z0_ne g_r20 c23)
      refine lv_iconst (v := zI 1) C.1 C.2.1 dX12_parts_26 (by decide) ?_
      refine lv_goto (tgt := 31) C.1 C.2.1 dX12_parts_27 (by decide) ?_
      refine k_iadd (v := zI (l1_4 + 1)) C (zI_iadd _ _) dX12_parts_31 ?_
      refine lv_istore_n (lv' := [(1, .int (zI (l1_4 + 1))), (0, .ref h), (2, .int (zI l2_4))]) C.1 C.2.1 dX12_parts_32 rfl hl (by decide) rfl (fun ls hl => ?_)
      replace hl := lv_sub hl [1, 0, 2] rfl
      refine lv_iinc (v := zI (l2_4 + 1)) (lv' := [(2, .int (zI (l2_4 + 1))), (0, .ref h), (1, .int (zI (l1_4 + 1)))]) C.1 C.2.1 dX12_parts_33 hl (k := 2) rfl (zI_inc _ _ (by decide)) (by decide) rfl (fun ls hl => ?_)
      replace hl := lv_sub hl [1, 2, 0] rfl
      refine lv_goto (tgt := 4) C.1 C.2.1 dX12_parts_36 (by decide) ?_
      obtain ⟨g36_0, hw⟩ := hw
      obtain ⟨g36_1, hw⟩ := hw
      exact hL4 _ _ hw _ _ _ ⟨g36_0, g36_1, Wd, rfl, rfl, lv_sub hl [0, 1, 2] rfl⟩
set_option maxHeartbeats 4000000 in
set_option maxRecDepth 100000 in
theorem mt_takes : ∀ (D : va_G) (h : Nat) (ad : Nat → Nat) (ca : Nat → ClassId) (I : Nat → Int) (F : Nat → Int → Int) (hS : rngS I F) (x0 : Int) (g_x0 : rng x0) (K : (Int → Int) → Int → Prop) (hw : wp_takes (F 0) (F 1) (F 2) (I 4) x0 K) (l : Launch) (sz : Nat), Met l yX12_takes (Cond.code yX12_takes cX12_takes 3 none :: gG) { frames := 1, cells := 0, slots := 0, locals := 64 } (cPre D (tM ca) (wM h ad ca I F) sz [.ref h, .int (zI x0)]) (va_Qv (fun (u : (Int → Int) × (Int)) => K u.1 u.2 ∧ rngS (sI I 4 u.2) (sF F 2 u.1)) (fun u t => cB D (va_A (wM h ad ca I F) sz) [] (wM h ad ca (sI I 4 u.2) (sF F 2 u.1)) t) (va_A (wM h ad ca I F) sz)) 0 0 (va_A (wM h ad ca I F) sz) := by
  intro D h ad ca I F hS x0 g_x0 K hw l sz
  refine Met.ofW (cc := cX12_takes) (maxL := 3) (ret := none) (by decide) rfl ?_
  intro p e s m args below meth c s₁ B hml hv
  obtain ⟨rfl, aks, rfl, Wd⟩ := k_enter hv
  have C : CallFix p m c cX12_takes 3 s _ gG RX12 := ⟨B.exec, B.bytes, hml, findClass_of_methodNamed B.named, fun w h => atoms_spec (ws := Cond.code yX12_takes cX12_takes 3 none :: gG) B.pre w (List.mem_cons_of_mem _ h)⟩
  have hr := B.returns
  have hlk := B.notSynchronized
  generalize va_A (wM h ad ca I F) s.heap.size = A at Wd ⊢
  replace Wd : wXM D ca s h ad I F s.heap A s.heap [] := ⟨Wd, hS⟩
  refine k_locals (Nat.le_of_ble_eq_true rfl) [(0, .ref h), (1, .int (zI x0))] rfl (fun ls hl => ?_)
  unfold wp_takes at hw
  refine lv_aload_n C.1 C.2.1 dX12_takes_0 rfl (lv_at hl 0 rfl) ?_
  refine lv_aload_n C.1 C.2.1 dX12_takes_1 rfl (lv_at hl 0 rfl) ?_
  refine k_get (v := .ref (ad 1)) C Wd.1 KX12 0 1 wM0 (by decide) fl_X12_13 rfl dX12_takes_2 ?_
  refine lv_iload_n C.1 C.2.1 dX12_takes_5 rfl (lv_at hl 1 rfl) ?_
  obtain ⟨a6, hw⟩ := hw
  refine k_ialdM (g := (F 1)) C Wd 2 1 rfl rfl a6 (by decide) dX12_takes_6 ?_
  have g6 : rng ((F 1) x0) := rngL (hS.2 1) a6
  refine k_putM C Wd 4 (sI I 4 ((F 1) x0)) (by decide) fl_X12_98 rfl rfl rfl rfl (rsI hS.1 g6) dX12_takes_7 (fun H locs Wd => ?_)
  refine lv_iconst (v := zI 0) C.1 C.2.1 dX12_takes_10 (by decide) ?_
  refine lv_istore_n (lv' := [(2, .int (zI 0)), (0, .ref h), (1, .int (zI x0))]) C.1 C.2.1 dX12_takes_11 rfl hl (by decide) rfl (fun ls hl => ?_)
  replace hl := lv_sub hl [1, 2, 0] rfl
  refine k_lp2 hw (fun (l2_12 : Int) (row_12 : Int → Int) H locs ls => rng l2_12 ∧ wXM D ca s h ad (sI I 4 ((F 1) x0)) (sF F 2 row_12) H A s.heap locs ∧ lv_has ls 3 [(0, .ref h), (1, .int (zI x0)), (2, .int (zI l2_12))]) (fun (l2_12 : Int) (row_12 : Int → Int) ls => F0 m 12 ls []) (fun L12 hL12 l2_12 row_12 hw H locs ls hi => ?_) _ _ _ ⟨(show rng 0 from by decide), wMc Wd rfl rfl ⟨(rsI hS.1 g6), (rsF hS.2 (hS.2 2))⟩, lv_sub hl [0, 1, 2] rfl⟩
  obtain ⟨g_l2_12, Wd, hl⟩ := hi
  have Wd12 := Wd
  unfold wp_takes_12 at hw
  refine lv_iload_n C.1 C.2.1 dX12_takes_12 rfl (lv_at hl 2 rfl) ?_
  refine lv_aload_n C.1 C.2.1 dX12_takes_13 rfl (lv_at hl 0 rfl) ?_
  refine k_get (v := .int (zI ((F 1) x0))) C Wd.1 KX12 0 4 wM0 (by decide) fl_X12_98 rfl dX12_takes_14 ?_
  refine lv_icmp_ge (tgt := 44) C.1 C.2.1 dX12_takes_17 (by decide) (fun c17 => ?_) (fun c17 => ?_)
  · have hw := hw.1 (z_le g6 g_l2_12 c17)
    exact k_retMv C hr hlk Wd (u := (row_12, ((F 1) x0))) rfl rfl ⟨hw, ⟨(rsI hS.1 g6), (rsF hS.2 (fun j => Wd12.2.2 2 j))⟩⟩ dX12_takes_44
  · have hw := hw.2 (z_nle g6 g_l2_12 c17)
    refine lv_aload_n C.1 C.2.1 dX12_takes_20 rfl (lv_at hl 0 rfl) ?_
    refine k_get (v := .ref (ad 2)) C Wd.1 KX12 0 2 wM0 (by decide) fl_X12_16 rfl dX12_takes_21 ?_
    refine lv_iload_n C.1 C.2.1 dX12_takes_24 rfl (lv_at hl 2 rfl) ?_
    refine lv_aload_n C.1 C.2.1 dX12_takes_25 rfl (lv_at hl 0 rfl) ?_
    refine k_get (v := .ref (ad 0)) C Wd.1 KX12 0 0 wM0 (by decide) fl_X12_7 rfl dX12_takes_26 ?_
    refine lv_sipush (v := zI 520) C.1 C.2.1 dX12_takes_29 (zS (by decide) (by decide)) ?_
    refine lv_iload_n C.1 C.2.1 dX12_takes_32 rfl (lv_at hl 1 rfl) ?_
    refine k_imul (v := zI (520 * x0)) C (zI_imul _ _) dX12_takes_33 ?_
    refine lv_iload_n C.1 C.2.1 dX12_takes_34 rfl (lv_at hl 2 rfl) ?_
    refine k_iadd (v := zI ((520 * x0) + l2_12)) C (zI_iadd _ _) dX12_takes_35 ?_
    obtain ⟨a36, hw⟩ := hw
    refine k_ialdM (g := (F 0)) C Wd 1 0 rfl rfl a36 (by decide) dX12_takes_36 ?_
    have g36 : rng ((F 0) ((520 * x0) + l2_12)) := rngL (hS.2 0) a36
    obtain ⟨a37, hw⟩ := hw
    have q37 : ∀ j : Nat, rng ((uZ row_12 l2_12 ((F 0) ((520 * x0) + l2_12))) j) := ruZ (fun j => Wd12.2.2 2 j) g36
    refine k_iastM (g := row_12) C Wd 2 2 (sF F 2 (uZ row_12 l2_12 ((F 0) ((520 * x0) + l2_12)))) rfl rfl a37 (by decide) rfl rfl (rsF hS.2 q37) dX12_takes_37 (fun H locs Wd => ?_)
    refine lv_iinc (v := zI (l2_12 + 1)) (lv' := [(2, .int (zI (l2_12 + 1))), (0, .ref h), (1, .int (zI x0))]) C.1 C.2.1 dX12_takes_38 hl (k := 2) rfl (zI_inc _ _ (by decide)) (by decide) rfl (fun ls hl => ?_)
    replace hl := lv_sub hl [1, 2, 0] rfl
    refine lv_goto (tgt := 12) C.1 C.2.1 dX12_takes_41 (by decide) ?_
    obtain ⟨g41_0, hw⟩ := hw
    exact hL12 _ _ hw _ _ _ ⟨g41_0, wMc Wd rfl rfl ⟨(rsI hS.1 g6), (rsF hS.2 q37)⟩, lv_sub hl [0, 1, 2] rfl⟩
set_option maxHeartbeats 4000000 in
set_option maxRecDepth 100000 in
theorem mt_puts : ∀ (D : va_G) (h : Nat) (ad : Nat → Nat) (ca : Nat → ClassId) (I : Nat → Int) (F : Nat → Int → Int) (hS : rngS I F) (x0 : Int) (g_x0 : rng x0) (K : (Int → Int) → (Int → Int) → Prop) (hw : wp_puts (F 0) (F 1) (F 2) (I 4) x0 K) (l : Launch) (sz : Nat), Met l yX12_puts (Cond.code yX12_puts cX12_puts 3 none :: gG) { frames := 1, cells := 0, slots := 0, locals := 64 } (cPre D (tM ca) (wM h ad ca I F) sz [.ref h, .int (zI x0)]) (va_Qv (fun (u : (Int → Int) × (Int → Int)) => K u.1 u.2 ∧ rngS I (sF (sF F 0 u.1) 1 u.2)) (fun u t => cB D (va_A (wM h ad ca I F) sz) [] (wM h ad ca I (sF (sF F 0 u.1) 1 u.2)) t) (va_A (wM h ad ca I F) sz)) 0 0 (va_A (wM h ad ca I F) sz) := by
  intro D h ad ca I F hS x0 g_x0 K hw l sz
  refine Met.ofW (cc := cX12_puts) (maxL := 3) (ret := none) (by decide) rfl ?_
  intro p e s m args below meth c s₁ B hml hv
  obtain ⟨rfl, aks, rfl, Wd⟩ := k_enter hv
  have C : CallFix p m c cX12_puts 3 s _ gG RX12 := ⟨B.exec, B.bytes, hml, findClass_of_methodNamed B.named, fun w h => atoms_spec (ws := Cond.code yX12_puts cX12_puts 3 none :: gG) B.pre w (List.mem_cons_of_mem _ h)⟩
  have hr := B.returns
  have hlk := B.notSynchronized
  generalize va_A (wM h ad ca I F) s.heap.size = A at Wd ⊢
  replace Wd : wXM D ca s h ad I F s.heap A s.heap [] := ⟨Wd, hS⟩
  refine k_locals (Nat.le_of_ble_eq_true rfl) [(0, .ref h), (1, .int (zI x0))] rfl (fun ls hl => ?_)
  unfold wp_puts at hw
  refine lv_aload_n C.1 C.2.1 dX12_puts_0 rfl (lv_at hl 0 rfl) ?_
  refine k_get (v := .ref (ad 1)) C Wd.1 KX12 0 1 wM0 (by decide) fl_X12_13 rfl dX12_puts_1 ?_
  refine lv_iload_n C.1 C.2.1 dX12_puts_4 rfl (lv_at hl 1 rfl) ?_
  refine lv_aload_n C.1 C.2.1 dX12_puts_5 rfl (lv_at hl 0 rfl) ?_
  refine k_get (v := .int (zI (I 4))) C Wd.1 KX12 0 4 wM0 (by decide) fl_X12_98 rfl dX12_puts_6 ?_
  obtain ⟨a9, hw⟩ := hw
  have q9 : ∀ j : Nat, rng ((uZ (F 1) x0 (I 4)) j) := ruZ (hS.2 1) (hS.1 4)
  refine k_iastM (g := (F 1)) C Wd 1 1 (sF F 1 (uZ (F 1) x0 (I 4))) rfl rfl a9 (by decide) rfl rfl (rsF hS.2 q9) dX12_puts_9 (fun H locs Wd => ?_)
  refine lv_iconst (v := zI 0) C.1 C.2.1 dX12_puts_10 (by decide) ?_
  refine lv_istore_n (lv' := [(2, .int (zI 0)), (0, .ref h), (1, .int (zI x0))]) C.1 C.2.1 dX12_puts_11 rfl hl (by decide) rfl (fun ls hl => ?_)
  replace hl := lv_sub hl [1, 2, 0] rfl
  refine k_lp2 hw (fun (l2_12 : Int) (slot_12 : Int → Int) H locs ls => rng l2_12 ∧ wXM D ca s h ad I (sF (sF F 0 slot_12) 1 (uZ (F 1) x0 (I 4))) H A s.heap locs ∧ lv_has ls 3 [(0, .ref h), (1, .int (zI x0)), (2, .int (zI l2_12))]) (fun (l2_12 : Int) (slot_12 : Int → Int) ls => F0 m 12 ls []) (fun L12 hL12 l2_12 slot_12 hw H locs ls hi => ?_) _ _ _ ⟨(show rng 0 from by decide), wMc Wd rfl rfl ⟨hS.1, (rsF (rsF hS.2 (hS.2 0)) q9)⟩, lv_sub hl [0, 1, 2] rfl⟩
  obtain ⟨g_l2_12, Wd, hl⟩ := hi
  have Wd12 := Wd
  unfold wp_puts_12 at hw
  refine lv_iload_n C.1 C.2.1 dX12_puts_12 rfl (lv_at hl 2 rfl) ?_
  refine lv_aload_n C.1 C.2.1 dX12_puts_13 rfl (lv_at hl 0 rfl) ?_
  refine k_get (v := .int (zI (I 4))) C Wd.1 KX12 0 4 wM0 (by decide) fl_X12_98 rfl dX12_puts_14 ?_
  refine lv_icmp_ge (tgt := 44) C.1 C.2.1 dX12_puts_17 (by decide) (fun c17 => ?_) (fun c17 => ?_)
  · have hw := hw.1 (z_le (hS.1 4) g_l2_12 c17)
    exact k_retMv C hr hlk Wd (u := (slot_12, (uZ (F 1) x0 (I 4)))) rfl rfl ⟨hw, ⟨hS.1, (rsF (rsF hS.2 (fun j => Wd12.2.2 0 j)) q9)⟩⟩ dX12_puts_44
  · have hw := hw.2 (z_nle (hS.1 4) g_l2_12 c17)
    refine lv_aload_n C.1 C.2.1 dX12_puts_20 rfl (lv_at hl 0 rfl) ?_
    refine k_get (v := .ref (ad 0)) C Wd.1 KX12 0 0 wM0 (by decide) fl_X12_7 rfl dX12_puts_21 ?_
    refine lv_sipush (v := zI 520) C.1 C.2.1 dX12_puts_24 (zS (by decide) (by decide)) ?_
    refine lv_iload_n C.1 C.2.1 dX12_puts_27 rfl (lv_at hl 1 rfl) ?_
    refine k_imul (v := zI (520 * x0)) C (zI_imul _ _) dX12_puts_28 ?_
    refine lv_iload_n C.1 C.2.1 dX12_puts_29 rfl (lv_at hl 2 rfl) ?_
    refine k_iadd (v := zI ((520 * x0) + l2_12)) C (zI_iadd _ _) dX12_puts_30 ?_
    refine lv_aload_n C.1 C.2.1 dX12_puts_31 rfl (lv_at hl 0 rfl) ?_
    refine k_get (v := .ref (ad 2)) C Wd.1 KX12 0 2 wM0 (by decide) fl_X12_16 rfl dX12_puts_32 ?_
    refine lv_iload_n C.1 C.2.1 dX12_puts_35 rfl (lv_at hl 2 rfl) ?_
    obtain ⟨a36, hw⟩ := hw
    refine k_ialdM (g := (F 2)) C Wd 3 2 rfl rfl a36 (by decide) dX12_puts_36 ?_
    have g36 : rng ((F 2) l2_12) := rngL (hS.2 2) a36
    obtain ⟨a37, hw⟩ := hw
    have q37 : ∀ j : Nat, rng ((uZ slot_12 ((520 * x0) + l2_12) ((F 2) l2_12)) j) := ruZ (fun j => Wd12.2.2 0 j) g36
    refine k_iastM (g := slot_12) C Wd 0 0 (sF (sF F 0 (uZ slot_12 ((520 * x0) + l2_12) ((F 2) l2_12))) 1 (uZ (F 1) x0 (I 4))) rfl rfl a37 (by decide) rfl rfl (rsF (rsF hS.2 q37) q9) dX12_puts_37 (fun H locs Wd => ?_)
    refine lv_iinc (v := zI (l2_12 + 1)) (lv' := [(2, .int (zI (l2_12 + 1))), (0, .ref h), (1, .int (zI x0))]) C.1 C.2.1 dX12_puts_38 hl (k := 2) rfl (zI_inc _ _ (by decide)) (by decide) rfl (fun ls hl => ?_)
    replace hl := lv_sub hl [1, 2, 0] rfl
    refine lv_goto (tgt := 12) C.1 C.2.1 dX12_puts_41 (by decide) ?_
    obtain ⟨g41_0, hw⟩ := hw
    exact hL12 _ _ hw _ _ _ ⟨g41_0, wMc Wd rfl rfl ⟨hS.1, (rsF (rsF hS.2 q37) q9)⟩, lv_sub hl [0, 1, 2] rfl⟩
set_option maxHeartbeats 4000000 in
set_option maxRecDepth 100000 in
theorem mt_write : ∀ (D : va_G) (h : Nat) (ad : Nat → Nat) (ca : Nat → ClassId) (I : Nat → Int) (F : Nat → Int → Int) (hS : rngS I F) (x0 : Int) (g_x0 : rng x0) (K : (Int → Int) → Int → Prop) (hw : wp_write (F 3) (I 5) x0 K) (l : Launch) (sz : Nat), Met l yX12_write (Cond.code yX12_write cX12_write 2 none :: gG) { frames := 1, cells := 0, slots := 0, locals := 64 } (cPre D (tM ca) (wM h ad ca I F) sz [.ref h, .int (zI x0)]) (va_Qv (fun (u : (Int → Int) × (Int)) => K u.1 u.2 ∧ rngS (sI I 5 u.2) (sF F 3 u.1)) (fun u t => cB D (va_A (wM h ad ca I F) sz) [] (wM h ad ca (sI I 5 u.2) (sF F 3 u.1)) t) (va_A (wM h ad ca I F) sz)) 0 0 (va_A (wM h ad ca I F) sz) := by
  intro D h ad ca I F hS x0 g_x0 K hw l sz
  refine Met.ofW (cc := cX12_write) (maxL := 2) (ret := none) (by decide) rfl ?_
  intro p e s m args below meth c s₁ B hml hv
  obtain ⟨rfl, aks, rfl, Wd⟩ := k_enter hv
  have C : CallFix p m c cX12_write 2 s _ gG RX12 := ⟨B.exec, B.bytes, hml, findClass_of_methodNamed B.named, fun w h => atoms_spec (ws := Cond.code yX12_write cX12_write 2 none :: gG) B.pre w (List.mem_cons_of_mem _ h)⟩
  have hr := B.returns
  have hlk := B.notSynchronized
  generalize va_A (wM h ad ca I F) s.heap.size = A at Wd ⊢
  replace Wd : wXM D ca s h ad I F s.heap A s.heap [] := ⟨Wd, hS⟩
  refine k_locals (Nat.le_of_ble_eq_true rfl) [(0, .ref h), (1, .int (zI x0))] rfl (fun ls hl => ?_)
  unfold wp_write at hw
  refine lv_aload_n C.1 C.2.1 dX12_write_0 rfl (lv_at hl 0 rfl) ?_
  refine k_get (v := .ref (ad 3)) C Wd.1 KX12 0 3 wM0 (by decide) fl_X12_19 rfl dX12_write_1 ?_
  refine lv_aload_n C.1 C.2.1 dX12_write_4 rfl (lv_at hl 0 rfl) ?_
  refine k_get (v := .int (zI (I 5))) C Wd.1 KX12 0 5 wM0 (by decide) fl_X12_117 rfl dX12_write_5 ?_
  refine lv_iload_n C.1 C.2.1 dX12_write_8 rfl (lv_at hl 1 rfl) ?_
  obtain ⟨a9, hw⟩ := hw
  have q9 : ∀ j : Nat, rng ((uZ (F 3) (I 5) x0) j) := ruZ (hS.2 3) g_x0
  refine k_iastM (g := (F 3)) C Wd 3 3 (sF F 3 (uZ (F 3) (I 5) x0)) rfl rfl a9 (by decide) rfl rfl (rsF hS.2 q9) dX12_write_9 (fun H locs Wd => ?_)
  refine lv_aload_n C.1 C.2.1 dX12_write_10 rfl (lv_at hl 0 rfl) ?_
  refine lv_dup C.1 C.2.1 dX12_write_11 rfl ?_
  refine k_get (v := .int (zI (I 5))) C Wd.1 KX12 0 5 wM0 (by decide) fl_X12_117 rfl dX12_write_12 ?_
  refine lv_iconst (v := zI 1) C.1 C.2.1 dX12_write_15 (by decide) ?_
  refine k_iadd (v := zI ((I 5) + 1)) C (zI_iadd _ _) dX12_write_16 ?_
  obtain ⟨g17_0, hw⟩ := hw
  refine k_putM C Wd 5 (sI I 5 ((I 5) + 1)) (by decide) fl_X12_117 rfl rfl rfl rfl (rsI hS.1 g17_0) dX12_write_17 (fun H locs Wd => ?_)
  exact k_retMv C hr hlk Wd (u := ((uZ (F 3) (I 5) x0), ((I 5) + 1))) rfl rfl ⟨hw, ⟨(rsI hS.1 g17_0), (rsF hS.2 q9)⟩⟩ dX12_write_20
set_option maxHeartbeats 4000000 in
set_option maxRecDepth 100000 in
theorem mt_writes : ∀ (D : va_G) (h : Nat) (ad : Nat → Nat) (ca : Nat → ClassId) (I : Nat → Int) (F : Nat → Int → Int) (hS : rngS I F) (x0 : Int) (x1 : Int) (g_x0 : rng x0) (g_x1 : rng x1) (K : (Int → Int) → Int → Prop) (hw : wp_writes (F 2) (F 3) (I 5) x0 x1 K) (l : Launch) (sz : Nat), Met l yX12_writes (Cond.code yX12_writes cX12_writes 4 none :: gG) { frames := 2, cells := 0, slots := 0, locals := 85 } (cPre D (tM ca) (wM h ad ca I F) sz [.ref h, .int (zI x0), .int (zI x1)]) (va_Qv (fun (u : (Int → Int) × (Int)) => K u.1 u.2 ∧ rngS (sI I 5 u.2) (sF F 3 u.1)) (fun u t => cB D (va_A (wM h ad ca I F) sz) [] (wM h ad ca (sI I 5 u.2) (sF F 3 u.1)) t) (va_A (wM h ad ca I F) sz)) 0 0 (va_A (wM h ad ca I F) sz) := by
  intro D h ad ca I F hS x0 x1 g_x0 g_x1 K hw l sz
  refine Met.ofW (cc := cX12_writes) (maxL := 4) (ret := none) (by decide) rfl ?_
  intro p e s m args below meth c s₁ B hml hv
  obtain ⟨rfl, aks, rfl, Wd⟩ := k_enter hv
  have C : CallFix p m c cX12_writes 4 s _ gG RX12 := ⟨B.exec, B.bytes, hml, findClass_of_methodNamed B.named, fun w h => atoms_spec (ws := Cond.code yX12_writes cX12_writes 4 none :: gG) B.pre w (List.mem_cons_of_mem _ h)⟩
  have hr := B.returns
  have hlk := B.notSynchronized
  generalize va_A (wM h ad ca I F) s.heap.size = A at Wd ⊢
  replace Wd : wXM D ca s h ad I F s.heap A s.heap [] := ⟨Wd, hS⟩
  refine k_locals (Nat.le_of_ble_eq_true rfl) [(0, .ref h), (1, .int (zI x0)), (2, .int (zI x1))] rfl (fun ls hl => ?_)
  unfold wp_writes at hw
  refine lv_iload_n C.1 C.2.1 dX12_writes_0 rfl (lv_at hl 1 rfl) ?_
  refine lv_istore_n (lv' := [(3, .int (zI x0)), (0, .ref h), (1, .int (zI x0)), (2, .int (zI x1))]) C.1 C.2.1 dX12_writes_1 rfl hl (by decide) rfl (fun ls hl => ?_)
  replace hl := lv_sub hl [1, 2, 3, 0] rfl
  refine k_lp3 hw (fun (l3_2 : Int) (fresh_2 : Int → Int) (made_2 : Int) H locs ls => rng l3_2 ∧ wXM D ca s h ad (sI I 5 made_2) (sF F 3 fresh_2) H A s.heap locs ∧ lv_has ls 4 [(0, .ref h), (2, .int (zI x1)), (3, .int (zI l3_2))]) (fun (l3_2 : Int) (fresh_2 : Int → Int) (made_2 : Int) ls => F0 m 2 ls []) (fun L2 hL2 l3_2 fresh_2 made_2 hw H locs ls hi => ?_) _ _ _ ⟨g_x0, wMc Wd rfl rfl ⟨(rsI hS.1 (hS.1 5)), (rsF hS.2 (hS.2 3))⟩, lv_sub hl [0, 2, 3] rfl⟩
  obtain ⟨g_l3_2, Wd, hl⟩ := hi
  have Wd2 := Wd
  unfold wp_writes_2 at hw
  refine lv_iload_n C.1 C.2.1 dX12_writes_2 rfl (lv_at hl 2 rfl) ?_
  refine lv_iload_n C.1 C.2.1 dX12_writes_3 rfl (lv_at hl 1 rfl) ?_
  refine lv_icmp_ge (tgt := 23) C.1 C.2.1 dX12_writes_4 (by decide) (fun c4 => ?_) (fun c4 => ?_)
  · have hw := hw.1 (z_le g_x1 g_l3_2 c4)
    exact k_retMv C hr hlk Wd (u := (fresh_2, made_2)) rfl rfl ⟨hw, ⟨(rsI hS.1 (Wd2.2.1 5)), (rsF hS.2 (fun j => Wd2.2.2 3 j))⟩⟩ dX12_writes_23
  · have hw := hw.2 (z_nle g_x1 g_l3_2 c4)
    refine lv_aload_n C.1 C.2.1 dX12_writes_7 rfl (lv_at hl 0 rfl) ?_
    refine lv_aload_n C.1 C.2.1 dX12_writes_8 rfl (lv_at hl 0 rfl) ?_
    refine k_get (v := .ref (ad 2)) C Wd.1 KX12 0 2 wM0 (by decide) fl_X12_16 rfl dX12_writes_9 ?_
    refine lv_iload_n C.1 C.2.1 dX12_writes_12 rfl (lv_at hl 2 rfl) ?_
    obtain ⟨a13, hw⟩ := hw
    refine k_ialdM (g := (F 2)) C Wd 3 2 rfl rfl a13 (by decide) dX12_writes_13 ?_
    have g13 : rng ((F 2) l3_2) := rngL (hS.2 2) a13
    refine k_cMv Wd (k_runVM (rest := []) C aks Wd cs_X12_120 (mt_write D h ad ca (sI I 5 made_2) (sF F 3 fresh_2) Wd.2 ((F 2) l3_2) g13 _ hw l _) rfl rfl ⟨(Nat.le_of_ble_eq_true rfl), (Nat.le_of_ble_eq_true rfl)⟩ hl.1 rfl rfl (Nat.le_of_ble_eq_true rfl) ⟨(Nat.le_of_ble_eq_true rfl), (Nat.le_of_ble_eq_true rfl)⟩ dX12_writes_14) (fun u14 H locs hw Wd => ?_)
    obtain ⟨fresh_r14, made_r14⟩ := u14
    dsimp only at hw
    have Wc14 := Wd
    have Wd : wXM D ca s h ad (sI I 5 made_r14) (sF F 3 fresh_r14) H A s.heap locs := wMc Wd rfl rfl ⟨(rsI hS.1 (Wc14.2.1 5)), (rsF hS.2 (fun j => Wc14.2.2 3 j))⟩
    refine lv_iinc (v := zI (l3_2 + 1)) (lv' := [(3, .int (zI (l3_2 + 1))), (0, .ref h), (2, .int (zI x1))]) C.1 C.2.1 dX12_writes_17 hl (k := 2) rfl (zI_inc _ _ (by decide)) (by decide) rfl (fun ls hl => ?_)
    replace hl := lv_sub hl [1, 2, 0] rfl
    refine lv_goto (tgt := 2) C.1 C.2.1 dX12_writes_20 (by decide) ?_
    obtain ⟨g20_0, hw⟩ := hw
    exact hL2 _ _ _ hw _ _ _ ⟨g20_0, wMc Wd rfl rfl ⟨(rsI hS.1 (Wc14.2.1 5)), (rsF hS.2 (fun j => Wc14.2.2 3 j))⟩, lv_sub hl [0, 1, 2] rfl⟩
set_option maxHeartbeats 4000000 in
set_option maxRecDepth 100000 in
theorem mt_turns : ∀ (D : va_G) (h : Nat) (ad : Nat → Nat) (ca : Nat → ClassId) (I : Nat → Int) (F : Nat → Int → Int) (hS : rngS I F) (K : (Int → Int) → Int → Int → Prop) (hw : wp_turns (F 2) (F 3) (I 4) (I 5) K) (l : Launch) (sz : Nat), Met l yX12_turns (Cond.code yX12_turns cX12_turns 2 none :: gG) { frames := 1, cells := 0, slots := 0, locals := 64 } (cPre D (tM ca) (wM h ad ca I F) sz [.ref h]) (va_Qv (fun (u : (Int → Int) × (Int) × (Int)) => K u.1 u.2.1 u.2.2 ∧ rngS (sI (sI I 4 u.2.1) 5 u.2.2) (sF F 2 u.1)) (fun u t => cB D (va_A (wM h ad ca I F) sz) [] (wM h ad ca (sI (sI I 4 u.2.1) 5 u.2.2) (sF F 2 u.1)) t) (va_A (wM h ad ca I F) sz)) 0 0 (va_A (wM h ad ca I F) sz) := by
  intro D h ad ca I F hS  K hw l sz
  refine Met.ofW (cc := cX12_turns) (maxL := 2) (ret := none) (by decide) rfl ?_
  intro p e s m args below meth c s₁ B hml hv
  obtain ⟨rfl, aks, rfl, Wd⟩ := k_enter hv
  have C : CallFix p m c cX12_turns 2 s _ gG RX12 := ⟨B.exec, B.bytes, hml, findClass_of_methodNamed B.named, fun w h => atoms_spec (ws := Cond.code yX12_turns cX12_turns 2 none :: gG) B.pre w (List.mem_cons_of_mem _ h)⟩
  have hr := B.returns
  have hlk := B.notSynchronized
  generalize va_A (wM h ad ca I F) s.heap.size = A at Wd ⊢
  replace Wd : wXM D ca s h ad I F s.heap A s.heap [] := ⟨Wd, hS⟩
  refine k_locals (Nat.le_of_ble_eq_true rfl) [(0, .ref h)] rfl (fun ls hl => ?_)
  unfold wp_turns at hw
  refine lv_aload_n C.1 C.2.1 dX12_turns_0 rfl (lv_at hl 0 rfl) ?_
  refine lv_aload_n C.1 C.2.1 dX12_turns_1 rfl (lv_at hl 0 rfl) ?_
  refine k_get (v := .int (zI (I 5))) C Wd.1 KX12 0 5 wM0 (by decide) fl_X12_117 rfl dX12_turns_2 ?_
  refine k_putM C Wd 4 (sI I 4 (I 5)) (by decide) fl_X12_98 rfl rfl rfl rfl (rsI hS.1 (hS.1 5)) dX12_turns_5 (fun H locs Wd => ?_)
  refine lv_iconst (v := zI 0) C.1 C.2.1 dX12_turns_8 (by decide) ?_
  refine lv_istore_n (lv' := [(1, .int (zI 0)), (0, .ref h)]) C.1 C.2.1 dX12_turns_9 rfl hl (by decide) rfl (fun ls hl => ?_)
  replace hl := lv_sub hl [1, 0] rfl
  refine k_lp2 hw (fun (l1_10 : Int) (row_10 : Int → Int) H locs ls => rng l1_10 ∧ wXM D ca s h ad (sI I 4 (I 5)) (sF F 2 row_10) H A s.heap locs ∧ lv_has ls 2 [(0, .ref h), (1, .int (zI l1_10))]) (fun (l1_10 : Int) (row_10 : Int → Int) ls => F0 m 10 ls []) (fun L10 hL10 l1_10 row_10 hw H locs ls hi => ?_) _ _ _ ⟨(show rng 0 from by decide), wMc Wd rfl rfl ⟨(rsI hS.1 (hS.1 5)), (rsF hS.2 (hS.2 2))⟩, lv_sub hl [0, 1] rfl⟩
  obtain ⟨g_l1_10, Wd, hl⟩ := hi
  have Wd10 := Wd
  unfold wp_turns_10 at hw
  refine lv_iload_n C.1 C.2.1 dX12_turns_10 rfl (lv_at hl 1 rfl) ?_
  refine lv_aload_n C.1 C.2.1 dX12_turns_11 rfl (lv_at hl 0 rfl) ?_
  refine k_get (v := .int (zI (I 5))) C Wd.1 KX12 0 4 wM0 (by decide) fl_X12_98 rfl dX12_turns_12 ?_
  refine lv_icmp_ge (tgt := 36) C.1 C.2.1 dX12_turns_15 (by decide) (fun c15 => ?_) (fun c15 => ?_)
  · have hw := hw.1 (z_le (hS.1 5) g_l1_10 c15)
    refine lv_aload_n C.1 C.2.1 dX12_turns_36 rfl (lv_at hl 0 rfl) ?_
    refine lv_iconst (v := zI 0) C.1 C.2.1 dX12_turns_37 (by decide) ?_
    refine k_putM C Wd 5 (sI (sI I 4 (I 5)) 5 0) (by decide) fl_X12_117 rfl rfl rfl rfl (rsI (rsI hS.1 (hS.1 5)) (show rng 0 from by decide)) dX12_turns_38 (fun H locs Wd => ?_)
    exact k_retMv C hr hlk Wd (u := (row_10, (I 5), 0)) rfl rfl ⟨hw, ⟨(rsI (rsI hS.1 (hS.1 5)) (show rng 0 from by decide)), (rsF hS.2 (fun j => Wd10.2.2 2 j))⟩⟩ dX12_turns_41
  · have hw := hw.2 (z_nle (hS.1 5) g_l1_10 c15)
    refine lv_aload_n C.1 C.2.1 dX12_turns_18 rfl (lv_at hl 0 rfl) ?_
    refine k_get (v := .ref (ad 2)) C Wd.1 KX12 0 2 wM0 (by decide) fl_X12_16 rfl dX12_turns_19 ?_
    refine lv_iload_n C.1 C.2.1 dX12_turns_22 rfl (lv_at hl 1 rfl) ?_
    refine lv_aload_n C.1 C.2.1 dX12_turns_23 rfl (lv_at hl 0 rfl) ?_
    refine k_get (v := .ref (ad 3)) C Wd.1 KX12 0 3 wM0 (by decide) fl_X12_19 rfl dX12_turns_24 ?_
    refine lv_iload_n C.1 C.2.1 dX12_turns_27 rfl (lv_at hl 1 rfl) ?_
    obtain ⟨a28, hw⟩ := hw
    refine k_ialdM (g := (F 3)) C Wd 4 3 rfl rfl a28 (by decide) dX12_turns_28 ?_
    have g28 : rng ((F 3) l1_10) := rngL (hS.2 3) a28
    obtain ⟨a29, hw⟩ := hw
    have q29 : ∀ j : Nat, rng ((uZ row_10 l1_10 ((F 3) l1_10)) j) := ruZ (fun j => Wd10.2.2 2 j) g28
    refine k_iastM (g := row_10) C Wd 2 2 (sF F 2 (uZ row_10 l1_10 ((F 3) l1_10))) rfl rfl a29 (by decide) rfl rfl (rsF hS.2 q29) dX12_turns_29 (fun H locs Wd => ?_)
    refine lv_iinc (v := zI (l1_10 + 1)) (lv' := [(1, .int (zI (l1_10 + 1))), (0, .ref h)]) C.1 C.2.1 dX12_turns_30 hl (k := 1) rfl (zI_inc _ _ (by decide)) (by decide) rfl (fun ls hl => ?_)
    replace hl := lv_sub hl [1, 0] rfl
    refine lv_goto (tgt := 10) C.1 C.2.1 dX12_turns_33 (by decide) ?_
    obtain ⟨g33_0, hw⟩ := hw
    exact hL10 _ _ hw _ _ _ ⟨g33_0, wMc Wd rfl rfl ⟨(rsI hS.1 (hS.1 5)), (rsF hS.2 q29)⟩, lv_sub hl [0, 1] rfl⟩
set_option maxHeartbeats 4000000 in
set_option maxRecDepth 100000 in
theorem mt_feed : ∀ (D : va_G) (h : Nat) (ad : Nat → Nat) (ca : Nat → ClassId) (I : Nat → Int) (F : Nat → Int → Int) (hS : rngS I F) (x0 : Int) (x1 : Int) (x2 : Int) (x3 : Int) (x4 : Int) (g_x0 : rng x0) (g_x1 : rng x1) (g_x2 : rng x2) (g_x3 : rng x3) (g_x4 : rng x4) (K : Int → (Int → Int) → Int → Prop) (hw : wp_feed (F 6) (I 7) x0 x1 x2 x3 x4 K) (l : Launch) (sz : Nat), Met l yX12_feed (Cond.code yX12_feed cX12_feed 8 (some .int) :: gG) { frames := 1, cells := 0, slots := 0, locals := 64 } (cPre D (tM ca) (wM h ad ca I F) sz [.ref h, .int (zI x0), .int (zI x1), .int (zI x2), .int (zI x3), .int (zI x4)]) (va_Qi (fun (r : Int32) (u : (Int → Int) × (Int)) => (∃ x : Int, r = zI x ∧ rng x ∧ K x u.1 u.2) ∧ rngS (sI I 7 u.2) (sF F 6 u.1)) (fun u t => cB D (va_A (wM h ad ca I F) sz) [] (wM h ad ca (sI I 7 u.2) (sF F 6 u.1)) t) (va_A (wM h ad ca I F) sz)) 0 0 (va_A (wM h ad ca I F) sz) := by
  intro D h ad ca I F hS x0 x1 x2 x3 x4 g_x0 g_x1 g_x2 g_x3 g_x4 K hw l sz
  refine Met.ofW (cc := cX12_feed) (maxL := 8) (ret := (some .int)) (by decide) rfl ?_
  intro p e s m args below meth c s₁ B hml hv
  obtain ⟨rfl, aks, rfl, Wd⟩ := k_enter hv
  have C : CallFix p m c cX12_feed 8 s _ gG RX12 := ⟨B.exec, B.bytes, hml, findClass_of_methodNamed B.named, fun w h => atoms_spec (ws := Cond.code yX12_feed cX12_feed 8 (some .int) :: gG) B.pre w (List.mem_cons_of_mem _ h)⟩
  have hr := B.returns
  have hlk := B.notSynchronized
  generalize va_A (wM h ad ca I F) s.heap.size = A at Wd ⊢
  replace Wd : wXM D ca s h ad I F s.heap A s.heap [] := ⟨Wd, hS⟩
  refine k_locals (Nat.le_of_ble_eq_true rfl) [(0, .ref h), (1, .int (zI x0)), (2, .int (zI x1)), (3, .int (zI x2)), (4, .int (zI x3)), (5, .int (zI x4))] rfl (fun ls hl => ?_)
  unfold wp_feed at hw
  refine lv_aload_n C.1 C.2.1 dX12_feed_0 rfl (lv_at hl 0 rfl) ?_
  refine k_get (v := .int (zI (I 7))) C Wd.1 KX12 0 7 wM0 (by decide) fl_X12_124 rfl dX12_feed_1 ?_
  refine lv_bipush (v := zI 20) C.1 C.2.1 dX12_feed_4 (by decide) ?_
  refine k_iadd (v := zI ((I 7) + 20)) C (zI_iadd _ _) dX12_feed_6 ?_
  refine lv_sipush (v := zI 800) C.1 C.2.1 dX12_feed_7 (zS (by decide) (by decide)) ?_
  obtain ⟨g10_0, hw⟩ := hw
  refine lv_icmp_le (tgt := 15) C.1 C.2.1 dX12_feed_10 (by decide) (fun c10 => ?_) (fun c10 => ?_)
  · have hw := hw.1 (z_le g10_0 (show rng 800 from by decide) c10)
    refine lv_iconst (v := zI 0) C.1 C.2.1 dX12_feed_15 (by decide) ?_
    refine lv_istore (lv' := [(6, .int (zI 0)), (0, .ref h), (1, .int (zI x0)), (2, .int (zI x1)), (3, .int (zI x2)), (4, .int (zI x3)), (5, .int (zI x4))]) C.1 C.2.1 dX12_feed_16 hl (by decide) rfl (fun ls hl => ?_)
    replace hl := lv_sub hl [1, 2, 3, 4, 5, 6, 0] rfl
    refine k_lp3 hw (fun (l6_18 : Int) (tape_18 : Int → Int) (taped_18 : Int) H locs ls => rng l6_18 ∧ wXM D ca s h ad (sI I 7 taped_18) (sF F 6 tape_18) H A s.heap locs ∧ lv_has ls 8 [(0, .ref h), (1, .int (zI x0)), (2, .int (zI x1)), (3, .int (zI x2)), (4, .int (zI x3)), (5, .int (zI x4)), (6, .int (zI l6_18))]) (fun (l6_18 : Int) (tape_18 : Int → Int) (taped_18 : Int) ls => F0 m 18 ls []) (fun L18 hL18 l6_18 tape_18 taped_18 hw H locs ls hi => ?_) _ _ _ ⟨(show rng 0 from by decide), wMc Wd rfl rfl ⟨(rsI hS.1 (hS.1 7)), (rsF hS.2 (hS.2 6))⟩, lv_sub hl [0, 1, 2, 3, 4, 5, 6] rfl⟩
    obtain ⟨g_l6_18, Wd, hl⟩ := hi
    have Wd18 := Wd
    unfold wp_feed_18 at hw
    refine lv_iload C.1 C.2.1 dX12_feed_18 (lv_at hl 6 rfl) ?_
    refine lv_bipush (v := zI 20) C.1 C.2.1 dX12_feed_20 (by decide) ?_
    refine lv_icmp_ge (tgt := 115) C.1 C.2.1 dX12_feed_22 (by decide) (fun c22 => ?_) (fun c22 => ?_)
    · have hw := hw.1 (z_le (show rng 20 from by decide) g_l6_18 c22)
      refine lv_aload_n C.1 C.2.1 dX12_feed_115 rfl (lv_at hl 0 rfl) ?_
      refine k_get (v := .int (zI taped_18)) C Wd.1 KX12 0 7 wM0 (by decide) fl_X12_124 rfl dX12_feed_116 ?_
      exact k_retMi C hr hlk rfl Wd (u := (tape_18, taped_18)) rfl rfl ⟨⟨_, rfl, (Wd18.2.1 7), hw⟩, ⟨(rsI hS.1 (Wd18.2.1 7)), (rsF hS.2 (fun j => Wd18.2.2 6 j))⟩⟩ dX12_feed_119
    · have hw := hw.2 (z_nle (show rng 20 from by decide) g_l6_18 c22)
      refine lv_iload C.1 C.2.1 dX12_feed_25 (lv_at hl 6 rfl) ?_
      refine lv_iconst (v := zI 4) C.1 C.2.1 dX12_feed_27 (by decide) ?_
      refine k_cut1 (fun (s0_71 : Int) H locs ls => rng s0_71 ∧ wp_feed_71 l6_18 tape_18 taped_18 L18 s0_71 ∧ wXM D ca s h ad (sI I 7 taped_18) (sF F 6 tape_18) H A s.heap locs ∧ lv_has ls 8 [(0, .ref h), (1, .int (zI x0)), (2, .int (zI x1)), (3, .int (zI x2)), (4, .int (zI x3)), (5, .int (zI x4)), (6, .int (zI l6_18))]) (fun (s0_71 : Int) ls => F0 m 71 ls [.int (zI s0_71)]) (fun s0_71 H locs ls hi => ?_) (fun J71 => ?_)
      · obtain ⟨g_s0_71, hw, Wd, hl⟩ := hi
        have Wd71 := Wd
        unfold wp_feed_71 at hw
        refine lv_istore (lv' := [(7, .int (zI s0_71)), (0, .ref h), (1, .int (zI x0)), (2, .int (zI x1)), (3, .int (zI x2)), (4, .int (zI x3)), (5, .int (zI x4)), (6, .int (zI l6_18))]) C.1 C.2.1 dX12_feed_71 hl (by decide) rfl (fun ls hl => ?_)
        replace hl := lv_sub hl [1, 2, 3, 4, 5, 6, 7, 0] rfl
        refine lv_aload_n C.1 C.2.1 dX12_feed_73 rfl (lv_at hl 0 rfl) ?_
        refine k_get (v := .ref (ad 6)) C Wd.1 KX12 0 6 wM0 (by decide) fl_X12_22 rfl dX12_feed_74 ?_
        refine lv_aload_n C.1 C.2.1 dX12_feed_77 rfl (lv_at hl 0 rfl) ?_
        refine k_get (v := .int (zI taped_18)) C Wd.1 KX12 0 7 wM0 (by decide) fl_X12_124 rfl dX12_feed_78 ?_
        refine lv_iload C.1 C.2.1 dX12_feed_81 (lv_at hl 7 rfl) ?_
        refine lv_bipush (v := zI 24) C.1 C.2.1 dX12_feed_83 (by decide) ?_
        refine lv_bipush (v := zI 8) C.1 C.2.1 dX12_feed_85 (by decide) ?_
        refine lv_iload C.1 C.2.1 dX12_feed_87 (lv_at hl 6 rfl) ?_
        refine lv_iconst (v := zI 4) C.1 C.2.1 dX12_feed_89 (by decide) ?_
        refine k_irem (v := zI (zirem l6_18 4)) C (by decide) (zirem_eq _ _) dX12_feed_90 ?_
        refine k_imul (v := zI (8 * (zirem l6_18 4))) C (zI_imul _ _) dX12_feed_91 ?_
        refine k_isub (v := zI (24 - (8 * (zirem l6_18 4)))) C (zI_isub _ _) dX12_feed_92 ?_
        refine k_ishr (v := zI (zishr s0_71 (24 - (8 * (zirem l6_18 4))))) C (zishr_eq _ _) dX12_feed_93 ?_
        refine lv_sipush (v := zI 255) C.1 C.2.1 dX12_feed_94 (zS (by decide) (by decide)) ?_
        refine k_iand (v := zI (ziand (zishr s0_71 (24 - (8 * (zirem l6_18 4)))) 255)) C (ziand_eq _ _) dX12_feed_97 ?_
        obtain ⟨a98, hw⟩ := hw
        have q98 : ∀ j : Nat, rng ((uZ tape_18 taped_18 (ziand (zishr s0_71 (24 - (8 * (zirem l6_18 4)))) 255)) j) := ruZ (fun j => Wd18.2.2 6 j) (rng_toInt _)
        refine k_iastM (g := tape_18) C Wd 4 4 (sF F 6 (uZ tape_18 taped_18 (ziand (zishr s0_71 (24 - (8 * (zirem l6_18 4)))) 255))) rfl rfl a98 (by decide) rfl rfl (rsF hS.2 q98) dX12_feed_98 (fun H locs Wd => ?_)
        refine lv_aload_n C.1 C.2.1 dX12_feed_99 rfl (lv_at hl 0 rfl) ?_
        refine lv_dup C.1 C.2.1 dX12_feed_100 rfl ?_
        refine k_get (v := .int (zI taped_18)) C Wd.1 KX12 0 7 wM0 (by decide) fl_X12_124 rfl dX12_feed_101 ?_
        refine lv_iconst (v := zI 1) C.1 C.2.1 dX12_feed_104 (by decide) ?_
        refine k_iadd (v := zI (taped_18 + 1)) C (zI_iadd _ _) dX12_feed_105 ?_
        obtain ⟨g106_0, hw⟩ := hw
        refine k_putM C Wd 7 (sI I 7 (taped_18 + 1)) (by decide) fl_X12_124 rfl rfl rfl rfl (rsI hS.1 g106_0) dX12_feed_106 (fun H locs Wd => ?_)
        refine lv_iinc (v := zI (l6_18 + 1)) (lv' := [(6, .int (zI (l6_18 + 1))), (0, .ref h), (1, .int (zI x0)), (2, .int (zI x1)), (3, .int (zI x2)), (4, .int (zI x3)), (5, .int (zI x4)), (7, .int (zI s0_71))]) C.1 C.2.1 dX12_feed_109 hl (k := 6) rfl (zI_inc _ _ (by decide)) (by decide) rfl (fun ls hl => ?_)
        replace hl := lv_sub hl [1, 2, 3, 4, 5, 6, 0, 7] rfl
        refine lv_goto (tgt := 18) C.1 C.2.1 dX12_feed_112 (by decide) ?_
        obtain ⟨g112_0, hw⟩ := hw
        exact hL18 _ _ _ hw _ _ _ ⟨g112_0, wMc Wd rfl rfl ⟨(rsI hS.1 g106_0), (rsF hS.2 q98)⟩, lv_sub hl [0, 1, 2, 3, 4, 5, 6] rfl⟩
      refine lv_icmp_ge (tgt := 35) C.1 C.2.1 dX12_feed_28 (by decide) (fun c28 => ?_) (fun c28 => ?_)
      · have hw := hw.1 (z_le (show rng 4 from by decide) g_l6_18 c28)
        refine lv_iload C.1 C.2.1 dX12_feed_35 (lv_at hl 6 rfl) ?_
        refine lv_bipush (v := zI 8) C.1 C.2.1 dX12_feed_37 (by decide) ?_
        refine lv_icmp_ge (tgt := 46) C.1 C.2.1 dX12_feed_39 (by decide) (fun c39 => ?_) (fun c39 => ?_)
        · have hw := hw.1 (z_le (show rng 8 from by decide) g_l6_18 c39)
          refine lv_iload C.1 C.2.1 dX12_feed_46 (lv_at hl 6 rfl) ?_
          refine lv_bipush (v := zI 12) C.1 C.2.1 dX12_feed_48 (by decide) ?_
          refine lv_icmp_ge (tgt := 57) C.1 C.2.1 dX12_feed_50 (by decide) (fun c50 => ?_) (fun c50 => ?_)
          · have hw := hw.1 (z_le (show rng 12 from by decide) g_l6_18 c50)
            refine lv_iload C.1 C.2.1 dX12_feed_57 (lv_at hl 6 rfl) ?_
            refine lv_bipush (v := zI 16) C.1 C.2.1 dX12_feed_59 (by decide) ?_
            refine lv_icmp_ge (tgt := 69) C.1 C.2.1 dX12_feed_61 (by decide) (fun c61 => ?_) (fun c61 => ?_)
            · have hw := hw.1 (z_le (show rng 16 from by decide) g_l6_18 c61)
              refine lv_iload C.1 C.2.1 dX12_feed_69 (lv_at hl 5 rfl) ?_
              exact J71 x4 _ _ _ ⟨g_x4, hw, wMc Wd rfl rfl ⟨(rsI hS.1 (Wd18.2.1 7)), (rsF hS.2 (fun j => Wd18.2.2 6 j))⟩, lv_sub hl [0, 1, 2, 3, 4, 5, 6] rfl⟩
            · have hw := hw.2 (z_nle (show rng 16 from by decide) g_l6_18 c61)
              refine lv_iload C.1 C.2.1 dX12_feed_64 (lv_at hl 4 rfl) ?_
              refine lv_goto (tgt := 71) C.1 C.2.1 dX12_feed_66 (by decide) ?_
              exact J71 x3 _ _ _ ⟨g_x3, hw, wMc Wd rfl rfl ⟨(rsI hS.1 (Wd18.2.1 7)), (rsF hS.2 (fun j => Wd18.2.2 6 j))⟩, lv_sub hl [0, 1, 2, 3, 4, 5, 6] rfl⟩
          · have hw := hw.2 (z_nle (show rng 12 from by decide) g_l6_18 c50)
            refine lv_iload_n C.1 C.2.1 dX12_feed_53 rfl (lv_at hl 3 rfl) ?_
            refine lv_goto (tgt := 71) C.1 C.2.1 dX12_feed_54 (by decide) ?_
            exact J71 x2 _ _ _ ⟨g_x2, hw, wMc Wd rfl rfl ⟨(rsI hS.1 (Wd18.2.1 7)), (rsF hS.2 (fun j => Wd18.2.2 6 j))⟩, lv_sub hl [0, 1, 2, 3, 4, 5, 6] rfl⟩
        · have hw := hw.2 (z_nle (show rng 8 from by decide) g_l6_18 c39)
          refine lv_iload_n C.1 C.2.1 dX12_feed_42 rfl (lv_at hl 2 rfl) ?_
          refine lv_goto (tgt := 71) C.1 C.2.1 dX12_feed_43 (by decide) ?_
          exact J71 x1 _ _ _ ⟨g_x1, hw, wMc Wd rfl rfl ⟨(rsI hS.1 (Wd18.2.1 7)), (rsF hS.2 (fun j => Wd18.2.2 6 j))⟩, lv_sub hl [0, 1, 2, 3, 4, 5, 6] rfl⟩
      · have hw := hw.2 (z_nle (show rng 4 from by decide) g_l6_18 c28)
        refine lv_iload_n C.1 C.2.1 dX12_feed_31 rfl (lv_at hl 1 rfl) ?_
        refine lv_goto (tgt := 71) C.1 C.2.1 dX12_feed_32 (by decide) ?_
        exact J71 x0 _ _ _ ⟨g_x0, hw, wMc Wd rfl rfl ⟨(rsI hS.1 (Wd18.2.1 7)), (rsF hS.2 (fun j => Wd18.2.2 6 j))⟩, lv_sub hl [0, 1, 2, 3, 4, 5, 6] rfl⟩
  · have hw := hw.2 (z_nle g10_0 (show rng 800 from by decide) c10)
    refine lv_iconst (v := zI (-1)) C.1 C.2.1 dX12_feed_13 (by decide) ?_
    exact k_retMi C hr hlk rfl Wd (u := ((F 6), (I 7))) rfl rfl ⟨⟨_, rfl, (show rng (-1) from by decide), hw⟩, ⟨(rsI hS.1 (hS.1 7)), (rsF hS.2 (hS.2 6))⟩⟩ dX12_feed_14
set_option maxHeartbeats 4000000 in
set_option maxRecDepth 100000 in
theorem mt_end : ∀ (D : va_G) (h : Nat) (ad : Nat → Nat) (ca : Nat → ClassId) (I : Nat → Int) (F : Nat → Int → Int) (hS : rngS I F) (x0 : Int) (g_x0 : rng x0) (K : Int → Int → Prop) (hw : wp_end (I 7) x0 K) (l : Launch) (sz : Nat), Met l yX12_end (Cond.code yX12_end cX12_end 2 (some .boolean) :: gG) { frames := 2, cells := 0, slots := 0, locals := 86 } (cPre D (tM ca) (wM h ad ca I F) sz [.ref h, .int (zI x0)]) (va_Qi (fun (r : Int32) (u : (Int)) => (∃ x : Int, r = zI x ∧ rng x ∧ K x u) ∧ rngS (sI I 7 u) F) (fun u t => cB D (va_A (wM h ad ca I F) sz) [] (wM h ad ca (sI I 7 u) F) t) (va_A (wM h ad ca I F) sz)) 0 0 (va_A (wM h ad ca I F) sz) := by
  intro D h ad ca I F hS x0 g_x0 K hw l sz
  refine Met.ofW (cc := cX12_end) (maxL := 2) (ret := (some .boolean)) (by decide) rfl ?_
  intro p e s m args below meth c s₁ B hml hv
  obtain ⟨rfl, aks, rfl, Wd⟩ := k_enter hv
  have C : CallFix p m c cX12_end 2 s _ gG RX12 := ⟨B.exec, B.bytes, hml, findClass_of_methodNamed B.named, fun w h => atoms_spec (ws := Cond.code yX12_end cX12_end 2 (some .boolean) :: gG) B.pre w (List.mem_cons_of_mem _ h)⟩
  have hr := B.returns
  have hlk := B.notSynchronized
  generalize va_A (wM h ad ca I F) s.heap.size = A at Wd ⊢
  replace Wd : wXM D ca s h ad I F s.heap A s.heap [] := ⟨Wd, hS⟩
  refine k_locals (Nat.le_of_ble_eq_true rfl) [(0, .ref h), (1, .int (zI x0))] rfl (fun ls hl => ?_)
  unfold wp_end at hw
  refine lv_iload_n C.1 C.2.1 dX12_end_0 rfl (lv_at hl 1 rfl) ?_
  refine lv_iconst (v := zI 0) C.1 C.2.1 dX12_end_1 (by decide) ?_
  refine lv_aload_n C.1 C.2.1 dX12_end_2 rfl (lv_at hl 0 rfl) ?_
  refine k_get (v := .int (zI (I 7))) C Wd.1 KX12 0 7 wM0 (by decide) fl_X12_124 rfl dX12_end_3 ?_
  refine k_pi (k_runS (rest := []) C aks Wd.1 cs_X12_90 (mt_isIn D x0 0 (I 7) g_x0 (show rng 0 from by decide) (hS.1 7) _ hw l _) [] rfl (by decide) [] rfl rfl rfl ⟨(Nat.le_of_ble_eq_true rfl), (Nat.le_of_ble_eq_true rfl)⟩ hl.1 rfl rfl (Nat.le_of_ble_eq_true rfl) ⟨(Nat.le_of_ble_eq_true rfl), (Nat.le_of_ble_eq_true rfl)⟩ dX12_end_6) (fun y6 hy => ?_)
  obtain ⟨r6, rfl, g_r6, hw⟩ := hy
  refine lv_if_ne (tgt := 14) C.1 C.2.1 dX12_end_9 (by decide) (fun c9 => ?_) (fun c9 => ?_)
  · have hw := hw.1 (z0_ne g_r6 c9)
    refine lv_aload_n C.1 C.2.1 dX12_end_14 rfl (lv_at hl 0 rfl) ?_
    refine lv_iload_n C.1 C.2.1 dX12_end_15 rfl (lv_at hl 1 rfl) ?_
    refine k_putM C Wd 7 (sI I 7 x0) (by decide) fl_X12_124 rfl rfl rfl rfl (rsI hS.1 g_x0) dX12_end_16 (fun H locs Wd => ?_)
    refine lv_iconst (v := zI 1) C.1 C.2.1 dX12_end_19 (by decide) ?_
    exact k_retMi C hr hlk (by decide) Wd (u := x0) rfl rfl ⟨⟨_, rfl, (show rng 1 from by decide), hw⟩, ⟨(rsI hS.1 g_x0), hS.2⟩⟩ dX12_end_20
  · have hw := hw.2 (z0_eq g_r6 c9)
    refine lv_iconst (v := zI 0) C.1 C.2.1 dX12_end_12 (by decide) ?_
    exact k_retMi C hr hlk (by decide) Wd (u := (I 7)) rfl rfl ⟨⟨_, rfl, (show rng 0 from by decide), hw⟩, ⟨(rsI hS.1 (hS.1 7)), hS.2⟩⟩ dX12_end_13
set_option maxHeartbeats 4000000 in
set_option maxRecDepth 100000 in
theorem mt_see : ∀ (D : va_G) (h : Nat) (ad : Nat → Nat) (ca : Nat → ClassId) (I : Nat → Int) (F : Nat → Int → Int) (hS : rngS I F) (x0 : Int) (g_x0 : rng x0) (K : Int → Prop) (hw : wp_see (F 6) (I 7) x0 K) (l : Launch) (sz : Nat), Met l yX12_see (Cond.code yX12_see cX12_see 2 (some .int) :: gG) { frames := 1, cells := 0, slots := 0, locals := 64 } (cPre D (tM ca) (wM h ad ca I F) sz [.ref h, .int (zI x0)]) (vp_Si (fun r => ∃ x : Int, r = zI x ∧ rng x ∧ K x)) 0 0 (fun _ => False) := by
  intro D h ad ca I F hS x0 g_x0 K hw l sz
  refine Met.ofW (cc := cX12_see) (maxL := 2) (ret := (some .int)) (by decide) rfl ?_
  intro p e s m args below meth c s₁ B hml hv
  obtain ⟨rfl, aks, rfl, Wd⟩ := k_enter hv
  have C : CallFix p m c cX12_see 2 s _ gG RX12 := ⟨B.exec, B.bytes, hml, findClass_of_methodNamed B.named, fun w h => atoms_spec (ws := Cond.code yX12_see cX12_see 2 (some .int) :: gG) B.pre w (List.mem_cons_of_mem _ h)⟩
  have hr := B.returns
  have hlk := B.notSynchronized
  obtain ⟨A, Wd⟩ : ∃ A, wXM D ca s h ad I F s.heap A s.heap [] := ⟨_, Wd, hS⟩
  refine k_locals (Nat.le_of_ble_eq_true rfl) [(0, .ref h), (1, .int (zI x0))] rfl (fun ls hl => ?_)
  unfold wp_see at hw
  refine lv_iload_n C.1 C.2.1 dX12_see_0 rfl (lv_at hl 1 rfl) ?_
  refine lv_aload_n C.1 C.2.1 dX12_see_1 rfl (lv_at hl 0 rfl) ?_
  refine k_get (v := .int (zI (I 7))) C Wd.1 KX12 0 7 wM0 (by decide) fl_X12_124 rfl dX12_see_2 ?_
  refine lv_icmp_ge (tgt := 17) C.1 C.2.1 dX12_see_5 (by decide) (fun c5 => ?_) (fun c5 => ?_)
  · have hw := hw.1 (z_le (hS.1 7) g_x0 c5)
    refine lv_iconst (v := zI (-1)) C.1 C.2.1 dX12_see_17 (by decide) ?_
    exact k_zretP C hr hlk rfl ⟨_, rfl, (show rng (-1) from by decide), hw⟩ dX12_see_18
  · have hw := hw.2 (z_nle (hS.1 7) g_x0 c5)
    refine lv_aload_n C.1 C.2.1 dX12_see_8 rfl (lv_at hl 0 rfl) ?_
    refine k_get (v := .ref (ad 6)) C Wd.1 KX12 0 6 wM0 (by decide) fl_X12_22 rfl dX12_see_9 ?_
    refine lv_iload_n C.1 C.2.1 dX12_see_12 rfl (lv_at hl 1 rfl) ?_
    obtain ⟨a13, hw⟩ := hw
    refine k_ialdM (g := (F 6)) C Wd 5 4 rfl rfl a13 (by decide) dX12_see_13 ?_
    have g13 : rng ((F 6) x0) := rngL (hS.2 6) a13
    refine lv_goto (tgt := 18) C.1 C.2.1 dX12_see_14 (by decide) ?_
    exact k_zretP C hr hlk rfl ⟨_, rfl, g13, hw⟩ dX12_see_18
set_option maxHeartbeats 4000000 in
set_option maxRecDepth 100000 in
theorem mt_isLetter : ∀ (D : va_G) (x0 : Int) (g_x0 : rng x0) (K : Int → Prop) (hw : wp_isLetter x0 K) (l : Launch) (sz : Nat), Met l yX12_isLetter (Cond.code yX12_isLetter cX12_isLetter 1 (some .boolean) :: gG) { frames := 2, cells := 0, slots := 0, locals := 86 } (cPre D [] [] sz [.int (zI x0)]) (vp_Si (fun r => ∃ x : Int, r = zI x ∧ rng x ∧ K x)) 0 0 (fun _ => False) := by
  intro D x0 g_x0 K hw l sz
  refine Met.ofW (cc := cX12_isLetter) (maxL := 1) (ret := (some .boolean)) (by decide) rfl ?_
  intro p e s m args below meth c s₁ B hml hv
  obtain ⟨rfl, aks, rfl, Wd⟩ := k_enter hv
  have C : CallFix p m c cX12_isLetter 1 s _ gG RX12 := ⟨B.exec, B.bytes, hml, findClass_of_methodNamed B.named, fun w h => atoms_spec (ws := Cond.code yX12_isLetter cX12_isLetter 1 (some .boolean) :: gG) B.pre w (List.mem_cons_of_mem _ h)⟩
  have hr := B.returns
  have hlk := B.notSynchronized
  obtain ⟨A, Wd⟩ : ∃ A, wX D [] s [] s.heap A s.heap [] := ⟨_, Wd⟩
  refine k_locals (Nat.le_of_ble_eq_true rfl) [(0, .int (zI x0))] rfl (fun ls hl => ?_)
  unfold wp_isLetter at hw
  refine lv_iload_n C.1 C.2.1 dX12_isLetter_0 rfl (lv_at hl 0 rfl) ?_
  refine lv_bipush (v := zI 97) C.1 C.2.1 dX12_isLetter_1 (by decide) ?_
  refine lv_bipush (v := zI 122) C.1 C.2.1 dX12_isLetter_3 (by decide) ?_
  refine k_pi (k_runS (rest := []) C aks Wd cs_X12_90 (mt_isIn D x0 97 122 g_x0 (show rng 97 from by decide) (show rng 122 from by decide) _ hw l _) [] rfl (by decide) [] rfl rfl rfl ⟨(Nat.le_of_ble_eq_true rfl), (Nat.le_of_ble_eq_true rfl)⟩ hl.1 rfl rfl (Nat.le_of_ble_eq_true rfl) ⟨(Nat.le_of_ble_eq_true rfl), (Nat.le_of_ble_eq_true rfl)⟩ dX12_isLetter_5) (fun y5 hy => ?_)
  obtain ⟨r5, rfl, g_r5, hw⟩ := hy
  refine lv_if_ne (tgt := 22) C.1 C.2.1 dX12_isLetter_8 (by decide) (fun c8 => ?_) (fun c8 => ?_)
  · have hw := hw.1 (z0_ne g_r5 c8)
    refine lv_iconst (v := zI 1) C.1 C.2.1 dX12_isLetter_22 (by decide) ?_
    refine lv_goto (tgt := 27) C.1 C.2.1 dX12_isLetter_23 (by decide) ?_
    exact k_zretP C hr hlk (by decide) ⟨_, rfl, (show rng 1 from by decide), hw⟩ dX12_isLetter_27
  · have hw := hw.2 (z0_eq g_r5 c8)
    refine lv_iload_n C.1 C.2.1 dX12_isLetter_11 rfl (lv_at hl 0 rfl) ?_
    refine lv_bipush (v := zI 65) C.1 C.2.1 dX12_isLetter_12 (by decide) ?_
    refine lv_bipush (v := zI 90) C.1 C.2.1 dX12_isLetter_14 (by decide) ?_
    refine k_pi (k_runS (rest := []) C aks Wd cs_X12_90 (mt_isIn D x0 65 90 g_x0 (show rng 65 from by decide) (show rng 90 from by decide) _ hw l _) [] rfl (by decide) [] rfl rfl rfl ⟨(Nat.le_of_ble_eq_true rfl), (Nat.le_of_ble_eq_true rfl)⟩ hl.1 rfl rfl (Nat.le_of_ble_eq_true rfl) ⟨(Nat.le_of_ble_eq_true rfl), (Nat.le_of_ble_eq_true rfl)⟩ dX12_isLetter_16) (fun y16 hy => ?_)
    obtain ⟨r16, rfl, g_r16, hw⟩ := hy
    refine lv_if_eq (tgt := 26) C.1 C.2.1 dX12_isLetter_19 (by decide) (fun c19 => ?_) (fun c19 => ?_)
    · have hw := hw.1 (z0_eq g_r16 c19)
      refine lv_iconst (v := zI 0) C.1 C.2.1 dX12_isLetter_26 (by decide) ?_
      exact k_zretP C hr hlk (by decide) ⟨_, rfl, (show rng 0 from by decide), hw⟩ dX12_isLetter_27
    · have hw := hw.2 (z0_ne g_r16 c19)
      refine lv_iconst (v := zI 1) C.1 C.2.1 dX12_isLetter_22 (by decide) ?_
      refine lv_goto (tgt := 27) C.1 C.2.1 dX12_isLetter_23 (by decide) ?_
      exact k_zretP C hr hlk (by decide) ⟨_, rfl, (show rng 1 from by decide), hw⟩ dX12_isLetter_27
set_option maxHeartbeats 4000000 in
set_option maxRecDepth 100000 in
theorem mt_isDigit : ∀ (D : va_G) (x0 : Int) (g_x0 : rng x0) (K : Int → Prop) (hw : wp_isDigit x0 K) (l : Launch) (sz : Nat), Met l yX12_isDigit (Cond.code yX12_isDigit cX12_isDigit 1 (some .boolean) :: gG) { frames := 2, cells := 0, slots := 0, locals := 86 } (cPre D [] [] sz [.int (zI x0)]) (vp_Si (fun r => ∃ x : Int, r = zI x ∧ rng x ∧ K x)) 0 0 (fun _ => False) := by
  intro D x0 g_x0 K hw l sz
  refine Met.ofW (cc := cX12_isDigit) (maxL := 1) (ret := (some .boolean)) (by decide) rfl ?_
  intro p e s m args below meth c s₁ B hml hv
  obtain ⟨rfl, aks, rfl, Wd⟩ := k_enter hv
  have C : CallFix p m c cX12_isDigit 1 s _ gG RX12 := ⟨B.exec, B.bytes, hml, findClass_of_methodNamed B.named, fun w h => atoms_spec (ws := Cond.code yX12_isDigit cX12_isDigit 1 (some .boolean) :: gG) B.pre w (List.mem_cons_of_mem _ h)⟩
  have hr := B.returns
  have hlk := B.notSynchronized
  obtain ⟨A, Wd⟩ : ∃ A, wX D [] s [] s.heap A s.heap [] := ⟨_, Wd⟩
  refine k_locals (Nat.le_of_ble_eq_true rfl) [(0, .int (zI x0))] rfl (fun ls hl => ?_)
  unfold wp_isDigit at hw
  refine lv_iload_n C.1 C.2.1 dX12_isDigit_0 rfl (lv_at hl 0 rfl) ?_
  refine lv_bipush (v := zI 48) C.1 C.2.1 dX12_isDigit_1 (by decide) ?_
  refine lv_bipush (v := zI 57) C.1 C.2.1 dX12_isDigit_3 (by decide) ?_
  refine k_pi (k_runS (rest := []) C aks Wd cs_X12_90 (mt_isIn D x0 48 57 g_x0 (show rng 48 from by decide) (show rng 57 from by decide) _ hw l _) [] rfl (by decide) [] rfl rfl rfl ⟨(Nat.le_of_ble_eq_true rfl), (Nat.le_of_ble_eq_true rfl)⟩ hl.1 rfl rfl (Nat.le_of_ble_eq_true rfl) ⟨(Nat.le_of_ble_eq_true rfl), (Nat.le_of_ble_eq_true rfl)⟩ dX12_isDigit_5) (fun y5 hy => ?_)
  obtain ⟨r5, rfl, g_r5, hw⟩ := hy
  obtain ⟨b8_0, hw⟩ := hw
  exact k_zretP C hr hlk (zI_nb b8_0) ⟨_, rfl, g_r5, hw⟩ dX12_isDigit_8
set_option maxHeartbeats 4000000 in
set_option maxRecDepth 100000 in
theorem mt_is : ∀ (D : va_G) (h : Nat) (ad : Nat → Nat) (ca : Nat → ClassId) (I : Nat → Int) (F : Nat → Int → Int) (hS : rngS I F) (adK adV : Nat → Nat) (tq : Nat) (i0 : Nat) (hi0 : i0 < 5) (K : Int → Prop) (hw : wp_is (F 6) (I 8) (I 10) (i0 : Int) K) (l : Launch) (sz : Nat), Met l yX12_is (Cond.code yX12_is cX12_is 4 (some .boolean) :: gG) { frames := 5, cells := 0, slots := 0, locals := 300 } (cPS RX12 ixM adK adV tq D (tM ca) (wM h ad ca I F) sz [.ref h, .ref (adK i0)]) (vp_Si (fun r => ∃ x : Int, r = zI x ∧ rng x ∧ K x)) 0 0 (fun _ => False) := by
  intro D h ad ca I F hS adK adV tq i0 hi0 K hw l sz
  refine Met.ofW (cc := cX12_is) (maxL := 4) (ret := (some .boolean)) (by decide) rfl ?_
  intro p e s m args below meth c s₁ B hml hv
  obtain ⟨hv, hE⟩ := hv
  obtain ⟨rfl, aks, rfl, Wd⟩ := k_enter hv
  have C : CallFix p m c cX12_is 4 s _ gG RX12 := ⟨B.exec, B.bytes, hml, findClass_of_methodNamed B.named, fun w h => atoms_spec (ws := Cond.code yX12_is cX12_is 4 (some .boolean) :: gG) B.pre w (List.mem_cons_of_mem _ h)⟩
  have hr := B.returns
  have hlk := B.notSynchronized
  obtain ⟨A, Wd, hE⟩ : ∃ A, wXM D ca s h ad I F s.heap A s.heap [] ∧ sK RX12 ixM adK adV tq A s s.heap := ⟨_, ⟨Wd, hS⟩, hE⟩
  refine k_locals (Nat.le_of_ble_eq_true rfl) [(0, .ref h), (1, .ref (adK i0))] rfl (fun ls hl => ?_)
  unfold wp_is at hw
  refine lv_aload_n C.1 C.2.1 dX12_is_0 rfl (lv_at hl 0 rfl) ?_
  refine k_get (v := .int (zI (I 8))) C Wd.1 KX12 0 8 wM0 (by decide) fl_X12_127 rfl dX12_is_1 ?_
  refine lv_aload_n C.1 C.2.1 dX12_is_4 rfl (lv_at hl 0 rfl) ?_
  refine k_get (v := .int (zI (I 10))) C Wd.1 KX12 0 10 wM0 (by decide) fl_X12_130 rfl dX12_is_5 ?_
  refine k_isub (v := zI ((I 8) - (I 10))) C (zI_isub _ _) dX12_is_8 ?_
  refine lv_aload_n C.1 C.2.1 dX12_is_9 rfl (lv_at hl 1 rfl) ?_
  refine k_pi (k_runVE (rest := [.int (zI ((I 8) - (I 10)))]) C aks hE hi0 Wd.1 cs_X12_133 (js_length i0 hi0 _ _ _ _ _ D l _) rfl rfl ⟨(Nat.le_of_ble_eq_true rfl), (Nat.le_of_ble_eq_true rfl)⟩ hl.1 rfl rfl (Nat.le_of_ble_eq_true rfl) ⟨(Nat.le_of_ble_eq_true rfl), (Nat.le_of_ble_eq_true rfl)⟩ dX12_is_10) (fun y10 hy => ?_)
  obtain rfl := js_lenZ hi0 hy
  refine k_cut1 (fun (s0_21 : Int) H locs ls => rng s0_21 ∧ wp_is_21 K (F 6) (I 10) (i0 : Int) s0_21 ∧ wXM D ca s h ad I F H A s.heap locs ∧ H = s.heap ∧ locs = [] ∧ lv_has ls 4 [(0, .ref h), (1, .ref (adK i0))]) (fun (s0_21 : Int) ls => F0 m 21 ls [.int (zI s0_21)]) (fun s0_21 H locs ls hi => ?_) (fun J21 => ?_)
  · obtain ⟨g_s0_21, hw, Wd, rfl, rfl, hl⟩ := hi
    have Wd21 := Wd
    unfold wp_is_21 at hw
    refine lv_istore_n (lv' := [(2, .int (zI s0_21)), (0, .ref h), (1, .ref (adK i0))]) C.1 C.2.1 dX12_is_21 rfl hl (by decide) rfl (fun ls hl => ?_)
    replace hl := lv_sub hl [1, 2, 0] rfl
    refine lv_iconst (v := zI 0) C.1 C.2.1 dX12_is_22 (by decide) ?_
    refine lv_istore_n (lv' := [(3, .int (zI 0)), (0, .ref h), (1, .ref (adK i0)), (2, .int (zI s0_21))]) C.1 C.2.1 dX12_is_23 rfl hl (by decide) rfl (fun ls hl => ?_)
    replace hl := lv_sub hl [1, 2, 3, 0] rfl
    refine k_lp2 hw (fun (l2_24 : Int) (l3_24 : Int) H locs ls => rng l2_24 ∧ rng l3_24 ∧ wXM D ca s h ad I F H A s.heap locs ∧ H = s.heap ∧ locs = [] ∧ lv_has ls 4 [(0, .ref h), (1, .ref (adK i0)), (2, .int (zI l2_24)), (3, .int (zI l3_24))]) (fun (l2_24 : Int) (l3_24 : Int) ls => F0 m 24 ls []) (fun L24 hL24 l2_24 l3_24 hw H locs ls hi => ?_) _ _ _ ⟨g_s0_21, (show rng 0 from by decide), Wd, rfl, rfl, lv_sub hl [0, 1, 2, 3] rfl⟩
    obtain ⟨g_l2_24, g_l3_24, Wd, rfl, rfl, hl⟩ := hi
    have Wd24 := Wd
    unfold wp_is_24 at hw
    refine lv_iload_n C.1 C.2.1 dX12_is_24 rfl (lv_at hl 3 rfl) ?_
    refine lv_aload_n C.1 C.2.1 dX12_is_25 rfl (lv_at hl 1 rfl) ?_
    refine k_pi (k_runVE (rest := [.int (zI l3_24)]) C aks hE hi0 Wd.1 cs_X12_133 (js_length i0 hi0 _ _ _ _ _ D l _) rfl rfl ⟨(Nat.le_of_ble_eq_true rfl), (Nat.le_of_ble_eq_true rfl)⟩ hl.1 rfl rfl (Nat.le_of_ble_eq_true rfl) ⟨(Nat.le_of_ble_eq_true rfl), (Nat.le_of_ble_eq_true rfl)⟩ dX12_is_26) (fun y26 hy => ?_)
    obtain rfl := js_lenZ hi0 hy
    refine lv_icmp_ge (tgt := 67) C.1 C.2.1 dX12_is_29 (by decide) (fun c29 => ?_) (fun c29 => ?_)
    · have hw := hw.1 (z_le (js_gN hi0) g_l3_24 c29)
      refine lv_iload_n C.1 C.2.1 dX12_is_67 rfl (lv_at hl 2 rfl) ?_
      obtain ⟨b68_0, hw⟩ := hw
      exact k_zretP C hr hlk (zI_nb b68_0) ⟨_, rfl, g_l2_24, hw⟩ dX12_is_68
    · have hw := hw.2 (z_nle (js_gN hi0) g_l3_24 c29)
      refine lv_iload_n C.1 C.2.1 dX12_is_32 rfl (lv_at hl 2 rfl) ?_
      refine lv_if_eq (tgt := 67) C.1 C.2.1 dX12_is_33 (by decide) (fun c33 => ?_) (fun c33 => ?_)
      · have hw := hw.1 (z0_eq g_l2_24 c33)
        refine lv_iload_n C.1 C.2.1 dX12_is_67 rfl (lv_at hl 2 rfl) ?_
        obtain ⟨b68_0, hw⟩ := hw
        exact k_zretP C hr hlk (zI_nb b68_0) ⟨_, rfl, g_l2_24, hw⟩ dX12_is_68
      · have hw := hw.2 (z0_ne g_l2_24 c33)
        refine lv_aload_n C.1 C.2.1 dX12_is_36 rfl (lv_at hl 0 rfl) ?_
        refine k_get (v := .ref (ad 6)) C Wd.1 KX12 0 6 wM0 (by decide) fl_X12_22 rfl dX12_is_37 ?_
        refine lv_aload_n C.1 C.2.1 dX12_is_40 rfl (lv_at hl 0 rfl) ?_
        refine k_get (v := .int (zI (I 10))) C Wd.1 KX12 0 10 wM0 (by decide) fl_X12_130 rfl dX12_is_41 ?_
        refine lv_iload_n C.1 C.2.1 dX12_is_44 rfl (lv_at hl 3 rfl) ?_
        refine k_iadd (v := zI ((I 10) + l3_24)) C (zI_iadd _ _) dX12_is_45 ?_
        obtain ⟨a46, hw⟩ := hw
        refine k_ialdM (g := (F 6)) C Wd 5 4 rfl rfl a46 (by decide) dX12_is_46 ?_
        have g46 : rng ((F 6) ((I 10) + l3_24)) := rngL (hS.2 6) a46
        refine lv_aload_n C.1 C.2.1 dX12_is_47 rfl (lv_at hl 1 rfl) ?_
        refine lv_iload_n C.1 C.2.1 dX12_is_48 rfl (lv_at hl 3 rfl) ?_
        obtain ⟨a49, hw⟩ := hw
        refine k_pi (k_runVE (rest := [.int (zI ((F 6) ((I 10) + l3_24)))]) C aks hE hi0 Wd.1 cs_X12_139 (js_charAtZ i0 hi0 l3_24 a49 _ _ _ _ _ D l _) rfl rfl ⟨(Nat.le_of_ble_eq_true rfl), (Nat.le_of_ble_eq_true rfl)⟩ hl.1 rfl rfl (Nat.le_of_ble_eq_true rfl) ⟨(Nat.le_of_ble_eq_true rfl), (Nat.le_of_ble_eq_true rfl)⟩ dX12_is_49) (fun y49 hy => ?_)
        obtain rfl := hy
        refine lv_icmp_ne (tgt := 59) C.1 C.2.1 dX12_is_52 (by decide) (fun c52 => ?_) (fun c52 => ?_)
        · have hw := hw.1 (z_ne g46 (js_gC hi0 a49) c52)
          refine lv_iconst (v := zI 0) C.1 C.2.1 dX12_is_59 (by decide) ?_
          refine lv_istore_n (lv' := [(2, .int (zI 0)), (0, .ref h), (1, .ref (adK i0)), (3, .int (zI l3_24))]) C.1 C.2.1 dX12_is_60 rfl hl (by decide) rfl (fun ls hl => ?_)
          replace hl := lv_sub hl [1, 2, 0, 3] rfl
          refine lv_iinc (v := zI (l3_24 + 1)) (lv' := [(3, .int (zI (l3_24 + 1))), (0, .ref h), (1, .ref (adK i0)), (2, .int (zI 0))]) C.1 C.2.1 dX12_is_61 hl (k := 3) rfl (zI_inc _ _ (by decide)) (by decide) rfl (fun ls hl => ?_)
          replace hl := lv_sub hl [1, 2, 3, 0] rfl
          refine lv_goto (tgt := 24) C.1 C.2.1 dX12_is_64 (by decide) ?_
          obtain ⟨g64_0, hw⟩ := hw
          exact hL24 _ _ hw _ _ _ ⟨(show rng 0 from by decide), g64_0, Wd, rfl, rfl, lv_sub hl [0, 1, 2, 3] rfl⟩
        · have hw := hw.2 (z_eq g46 (js_gC hi0 a49) c52)
          refine lv_iconst (v := zI 1) C.1 C.2.1 dX12_is_55 (by decide) ?_
          refine lv_goto (tgt := 60) C.1 C.2.1 dX12_is_56 (by decide) ?_
          refine lv_istore_n (lv' := [(2, .int (zI 1)), (0, .ref h), (1, .ref (adK i0)), (3, .int (zI l3_24))]) C.1 C.2.1 dX12_is_60 rfl hl (by decide) rfl (fun ls hl => ?_)
          replace hl := lv_sub hl [1, 2, 0, 3] rfl
          refine lv_iinc (v := zI (l3_24 + 1)) (lv' := [(3, .int (zI (l3_24 + 1))), (0, .ref h), (1, .ref (adK i0)), (2, .int (zI 1))]) C.1 C.2.1 dX12_is_61 hl (k := 3) rfl (zI_inc _ _ (by decide)) (by decide) rfl (fun ls hl => ?_)
          replace hl := lv_sub hl [1, 2, 3, 0] rfl
          refine lv_goto (tgt := 24) C.1 C.2.1 dX12_is_64 (by decide) ?_
          obtain ⟨g64_0, hw⟩ := hw
          exact hL24 _ _ hw _ _ _ ⟨(show rng 1 from by decide), g64_0, Wd, rfl, rfl, lv_sub hl [0, 1, 2, 3] rfl⟩
  obtain ⟨g13_0, hw⟩ := hw
  refine lv_icmp_ne (tgt := 20) C.1 C.2.1 dX12_is_13 (by decide) (fun c13 => ?_) (fun c13 => ?_)
  · have hw := hw.1 (z_ne g13_0 (js_gN hi0) c13)
    refine lv_iconst (v := zI 0) C.1 C.2.1 dX12_is_20 (by decide) ?_
    exact J21 0 _ _ _ ⟨(show rng 0 from by decide), hw, Wd, rfl, rfl, lv_sub hl [0, 1] rfl⟩
  · have hw := hw.2 (z_eq g13_0 (js_gN hi0) c13)
    refine lv_iconst (v := zI 1) C.1 C.2.1 dX12_is_16 (by decide) ?_
    refine lv_goto (tgt := 21) C.1 C.2.1 dX12_is_17 (by decide) ?_
    exact J21 1 _ _ _ ⟨(show rng 1 from by decide), hw, Wd, rfl, rfl, lv_sub hl [0, 1] rfl⟩
set_option maxHeartbeats 4000000 in
set_option maxRecDepth 100000 in
theorem mt_word : ∀ (D : va_G) (h : Nat) (ad : Nat → Nat) (ca : Nat → ClassId) (I : Nat → Int) (F : Nat → Int → Int) (hS : rngS I F) (adK adV : Nat → Nat) (tq : Nat) (K : Int → Prop) (hw : wp_word (F 6) (I 8) (I 10) (I 21) K) (l : Launch) (sz : Nat), Met l yX12_word (Cond.code yX12_word cX12_word 2 (some .int) :: gG) { frames := 6, cells := 0, slots := 0, locals := 323 } (cPS RX12 ixM adK adV tq D (tM ca) (wM h ad ca I F) sz [.ref h]) (vp_Si (fun r => ∃ x : Int, r = zI x ∧ rng x ∧ K x)) 0 0 (fun _ => False) := by
  intro D h ad ca I F hS adK adV tq  K hw l sz
  refine Met.ofW (cc := cX12_word) (maxL := 2) (ret := (some .int)) (by decide) rfl ?_
  intro p e s m args below meth c s₁ B hml hv
  obtain ⟨hv, hE⟩ := hv
  obtain ⟨rfl, aks, rfl, Wd⟩ := k_enter hv
  have C : CallFix p m c cX12_word 2 s _ gG RX12 := ⟨B.exec, B.bytes, hml, findClass_of_methodNamed B.named, fun w h => atoms_spec (ws := Cond.code yX12_word cX12_word 2 (some .int) :: gG) B.pre w (List.mem_cons_of_mem _ h)⟩
  have hr := B.returns
  have hlk := B.notSynchronized
  obtain ⟨A, Wd, hE⟩ : ∃ A, wXM D ca s h ad I F s.heap A s.heap [] ∧ sK RX12 ixM adK adV tq A s s.heap := ⟨_, ⟨Wd, hS⟩, hE⟩
  refine k_locals (Nat.le_of_ble_eq_true rfl) [(0, .ref h)] rfl (fun ls hl => ?_)
  unfold wp_word at hw
  refine lv_aload_n C.1 C.2.1 dX12_word_0 rfl (lv_at hl 0 rfl) ?_
  refine k_get (v := .ref (ad 6)) C Wd.1 KX12 0 6 wM0 (by decide) fl_X12_22 rfl dX12_word_1 ?_
  refine lv_aload_n C.1 C.2.1 dX12_word_4 rfl (lv_at hl 0 rfl) ?_
  refine k_get (v := .int (zI (I 10))) C Wd.1 KX12 0 10 wM0 (by decide) fl_X12_130 rfl dX12_word_5 ?_
  obtain ⟨a8, hw⟩ := hw
  refine k_ialdM (g := (F 6)) C Wd 5 4 rfl rfl a8 (by decide) dX12_word_8 ?_
  have g8 : rng ((F 6) (I 10)) := rngL (hS.2 6) a8
  refine lv_istore_n (lv' := [(1, .int (zI ((F 6) (I 10)))), (0, .ref h)]) C.1 C.2.1 dX12_word_9 rfl hl (by decide) rfl (fun ls hl => ?_)
  replace hl := lv_sub hl [1, 0] rfl
  refine lv_aload_n C.1 C.2.1 dX12_word_10 rfl (lv_at hl 0 rfl) ?_
  refine k_get (v := .int (zI (I 8))) C Wd.1 KX12 0 8 wM0 (by decide) fl_X12_127 rfl dX12_word_11 ?_
  refine lv_aload_n C.1 C.2.1 dX12_word_14 rfl (lv_at hl 0 rfl) ?_
  refine k_get (v := .int (zI (I 10))) C Wd.1 KX12 0 10 wM0 (by decide) fl_X12_130 rfl dX12_word_15 ?_
  refine k_isub (v := zI ((I 8) - (I 10))) C (zI_isub _ _) dX12_word_18 ?_
  refine lv_iconst (v := zI 1) C.1 C.2.1 dX12_word_19 (by decide) ?_
  obtain ⟨g20_0, hw⟩ := hw
  refine lv_icmp_ne (tgt := 83) C.1 C.2.1 dX12_word_20 (by decide) (fun c20 => ?_) (fun c20 => ?_)
  · have hw := hw.1 (z_ne g20_0 (show rng 1 from by decide) c20)
    refine lv_aload_n C.1 C.2.1 dX12_word_83 rfl (lv_at hl 0 rfl) ?_
    refine va_ldcS C.1 C.2.1 C.2.2.2.1 (hE.2.1 0 (by decide)) dX12_word_84 ?_
    refine k_pi (k_runVMS (rest := []) C aks hE Wd cs_X12_149 (mt_is D h ad ca I F Wd.2 adK adV tq 0 (by decide) _ hw l _) rfl rfl ⟨(Nat.le_of_ble_eq_true rfl), (Nat.le_of_ble_eq_true rfl)⟩ hl.1 rfl rfl (Nat.le_of_ble_eq_true rfl) ⟨(Nat.le_of_ble_eq_true rfl), (Nat.le_of_ble_eq_true rfl)⟩ dX12_word_86) (fun y86 hy => ?_)
    obtain ⟨r86, rfl, g_r86, hw⟩ := hy
    refine lv_if_eq (tgt := 94) C.1 C.2.1 dX12_word_89 (by decide) (fun c89 => ?_) (fun c89 => ?_)
    · have hw := hw.1 (z0_eq g_r86 c89)
      refine lv_aload_n C.1 C.2.1 dX12_word_94 rfl (lv_at hl 0 rfl) ?_
      refine va_ldcS C.1 C.2.1 C.2.2.2.1 (hE.2.1 1 (by decide)) dX12_word_95 ?_
      refine k_pi (k_runVMS (rest := []) C aks hE Wd cs_X12_149 (mt_is D h ad ca I F Wd.2 adK adV tq 1 (by decide) _ hw l _) rfl rfl ⟨(Nat.le_of_ble_eq_true rfl), (Nat.le_of_ble_eq_true rfl)⟩ hl.1 rfl rfl (Nat.le_of_ble_eq_true rfl) ⟨(Nat.le_of_ble_eq_true rfl), (Nat.le_of_ble_eq_true rfl)⟩ dX12_word_97) (fun y97 hy => ?_)
      obtain ⟨r97, rfl, g_r97, hw⟩ := hy
      refine lv_if_eq (tgt := 105) C.1 C.2.1 dX12_word_100 (by decide) (fun c100 => ?_) (fun c100 => ?_)
      · have hw := hw.1 (z0_eq g_r97 c100)
        refine lv_aload_n C.1 C.2.1 dX12_word_105 rfl (lv_at hl 0 rfl) ?_
        refine va_ldcS C.1 C.2.1 C.2.2.2.1 (hE.2.1 2 (by decide)) dX12_word_106 ?_
        refine k_pi (k_runVMS (rest := []) C aks hE Wd cs_X12_149 (mt_is D h ad ca I F Wd.2 adK adV tq 2 (by decide) _ hw l _) rfl rfl ⟨(Nat.le_of_ble_eq_true rfl), (Nat.le_of_ble_eq_true rfl)⟩ hl.1 rfl rfl (Nat.le_of_ble_eq_true rfl) ⟨(Nat.le_of_ble_eq_true rfl), (Nat.le_of_ble_eq_true rfl)⟩ dX12_word_108) (fun y108 hy => ?_)
        obtain ⟨r108, rfl, g_r108, hw⟩ := hy
        refine lv_if_eq (tgt := 116) C.1 C.2.1 dX12_word_111 (by decide) (fun c111 => ?_) (fun c111 => ?_)
        · have hw := hw.1 (z0_eq g_r108 c111)
          refine lv_aload_n C.1 C.2.1 dX12_word_116 rfl (lv_at hl 0 rfl) ?_
          refine va_ldcS C.1 C.2.1 C.2.2.2.1 (hE.2.1 3 (by decide)) dX12_word_117 ?_
          refine k_pi (k_runVMS (rest := []) C aks hE Wd cs_X12_149 (mt_is D h ad ca I F Wd.2 adK adV tq 3 (by decide) _ hw l _) rfl rfl ⟨(Nat.le_of_ble_eq_true rfl), (Nat.le_of_ble_eq_true rfl)⟩ hl.1 rfl rfl (Nat.le_of_ble_eq_true rfl) ⟨(Nat.le_of_ble_eq_true rfl), (Nat.le_of_ble_eq_true rfl)⟩ dX12_word_119) (fun y119 hy => ?_)
          obtain ⟨r119, rfl, g_r119, hw⟩ := hy
          refine lv_if_eq (tgt := 128) C.1 C.2.1 dX12_word_122 (by decide) (fun c122 => ?_) (fun c122 => ?_)
          · have hw := hw.1 (z0_eq g_r119 c122)
            refine lv_aload_n C.1 C.2.1 dX12_word_128 rfl (lv_at hl 0 rfl) ?_
            refine va_ldcS C.1 C.2.1 C.2.2.2.1 (hE.2.1 4 (by decide)) dX12_word_129 ?_
            refine k_pi (k_runVMS (rest := []) C aks hE Wd cs_X12_149 (mt_is D h ad ca I F Wd.2 adK adV tq 4 (by decide) _ hw l _) rfl rfl ⟨(Nat.le_of_ble_eq_true rfl), (Nat.le_of_ble_eq_true rfl)⟩ hl.1 rfl rfl (Nat.le_of_ble_eq_true rfl) ⟨(Nat.le_of_ble_eq_true rfl), (Nat.le_of_ble_eq_true rfl)⟩ dX12_word_131) (fun y131 hy => ?_)
            obtain ⟨r131, rfl, g_r131, hw⟩ := hy
            refine lv_if_eq (tgt := 142) C.1 C.2.1 dX12_word_134 (by decide) (fun c134 => ?_) (fun c134 => ?_)
            · have hw := hw.1 (z0_eq g_r131 c134)
              refine lv_iconst (v := zI 1) C.1 C.2.1 dX12_word_142 (by decide) ?_
              exact k_zretP C hr hlk rfl ⟨_, rfl, (show rng 1 from by decide), hw⟩ dX12_word_143
            · have hw := hw.2 (z0_ne g_r131 c134)
              refine lv_bipush (v := zI 7) C.1 C.2.1 dX12_word_137 (by decide) ?_
              refine lv_goto (tgt := 143) C.1 C.2.1 dX12_word_139 (by decide) ?_
              exact k_zretP C hr hlk rfl ⟨_, rfl, (show rng 7 from by decide), hw⟩ dX12_word_143
          · have hw := hw.2 (z0_ne g_r119 c122)
            refine lv_bipush (v := zI 6) C.1 C.2.1 dX12_word_125 (by decide) ?_
            exact k_zretP C hr hlk rfl ⟨_, rfl, (show rng 6 from by decide), hw⟩ dX12_word_127
        · have hw := hw.2 (z0_ne g_r108 c111)
          refine lv_iconst (v := zI 5) C.1 C.2.1 dX12_word_114 (by decide) ?_
          exact k_zretP C hr hlk rfl ⟨_, rfl, (show rng 5 from by decide), hw⟩ dX12_word_115
      · have hw := hw.2 (z0_ne g_r97 c100)
        refine lv_iconst (v := zI 4) C.1 C.2.1 dX12_word_103 (by decide) ?_
        exact k_zretP C hr hlk rfl ⟨_, rfl, (show rng 4 from by decide), hw⟩ dX12_word_104
    · have hw := hw.2 (z0_ne g_r86 c89)
      refine lv_iconst (v := zI 3) C.1 C.2.1 dX12_word_92 (by decide) ?_
      exact k_zretP C hr hlk rfl ⟨_, rfl, (show rng 3 from by decide), hw⟩ dX12_word_93
  · have hw := hw.2 (z_eq g20_0 (show rng 1 from by decide) c20)
    refine lv_aload_n C.1 C.2.1 dX12_word_23 rfl (lv_at hl 0 rfl) ?_
    refine k_get (v := .int (zI (I 21))) C Wd.1 KX12 0 21 wM0 (by decide) fl_X12_143 rfl dX12_word_24 ?_
    refine k_cut0 (fun  H locs ls => wp_word_52 K (F 6) (I 10) (I 21) ∧ wXM D ca s h ad I F H A s.heap locs ∧ H = s.heap ∧ locs = [] ∧ lv_has ls 2 [(0, .ref h), (1, .int (zI ((F 6) (I 10))))]) (fun  ls => F0 m 52 ls []) (fun  H locs ls hi => ?_) (fun J52 => ?_)
    · obtain ⟨hw, Wd, rfl, rfl, hl⟩ := hi
      have Wd52 := Wd
      unfold wp_word_52 at hw
      refine lv_aload_n C.1 C.2.1 dX12_word_52 rfl (lv_at hl 0 rfl) ?_
      refine k_get (v := .int (zI (I 21))) C Wd.1 KX12 0 21 wM0 (by decide) fl_X12_143 rfl dX12_word_53 ?_
      refine lv_if_eq (tgt := 81) C.1 C.2.1 dX12_word_56 (by decide) (fun c56 => ?_) (fun c56 => ?_)
      · have hw := hw.1 (z0_eq (hS.1 21) c56)
        refine lv_iconst (v := zI 1) C.1 C.2.1 dX12_word_81 (by decide) ?_
        exact k_zretP C hr hlk rfl ⟨_, rfl, (show rng 1 from by decide), hw⟩ dX12_word_82
      · have hw := hw.2 (z0_ne (hS.1 21) c56)
        refine lv_iload_n C.1 C.2.1 dX12_word_59 rfl (lv_at hl 1 rfl) ?_
        refine lv_bipush (v := zI 120) C.1 C.2.1 dX12_word_60 (by decide) ?_
        refine lv_bipush (v := zI 122) C.1 C.2.1 dX12_word_62 (by decide) ?_
        refine k_pi (k_runS (rest := []) C aks Wd.1 cs_X12_90 (mt_isIn D ((F 6) (I 10)) 120 122 g8 (show rng 120 from by decide) (show rng 122 from by decide) _ hw l _) [] rfl (by decide) [] rfl rfl rfl ⟨(Nat.le_of_ble_eq_true rfl), (Nat.le_of_ble_eq_true rfl)⟩ hl.1 rfl rfl (Nat.le_of_ble_eq_true rfl) ⟨(Nat.le_of_ble_eq_true rfl), (Nat.le_of_ble_eq_true rfl)⟩ dX12_word_64) (fun y64 hy => ?_)
        obtain ⟨r64, rfl, g_r64, hw⟩ := hy
        refine lv_if_eq (tgt := 81) C.1 C.2.1 dX12_word_67 (by decide) (fun c67 => ?_) (fun c67 => ?_)
        · have hw := hw.1 (z0_eq g_r64 c67)
          refine lv_iconst (v := zI 1) C.1 C.2.1 dX12_word_81 (by decide) ?_
          exact k_zretP C hr hlk rfl ⟨_, rfl, (show rng 1 from by decide), hw⟩ dX12_word_82
        · have hw := hw.2 (z0_ne g_r64 c67)
          refine lv_sipush (v := zI 330) C.1 C.2.1 dX12_word_70 (zS (by decide) (by decide)) ?_
          refine lv_iload_n C.1 C.2.1 dX12_word_73 rfl (lv_at hl 1 rfl) ?_
          refine k_iadd (v := zI (330 + ((F 6) (I 10)))) C (zI_iadd _ _) dX12_word_74 ?_
          refine lv_bipush (v := zI 120) C.1 C.2.1 dX12_word_75 (by decide) ?_
          refine k_isub (v := zI ((330 + ((F 6) (I 10))) - 120)) C (zI_isub _ _) dX12_word_77 ?_
          refine lv_goto (tgt := 82) C.1 C.2.1 dX12_word_78 (by decide) ?_
          obtain ⟨g82_0, hw⟩ := hw
          exact k_zretP C hr hlk rfl ⟨_, rfl, g82_0, hw⟩ dX12_word_82
    refine lv_if_ne (tgt := 52) C.1 C.2.1 dX12_word_27 (by decide) (fun c27 => ?_) (fun c27 => ?_)
    · have hw := hw.1 (z0_ne (hS.1 21) c27)
      exact J52  _ _ _ ⟨hw, Wd, rfl, rfl, lv_sub hl [0, 1] rfl⟩
    · have hw := hw.2 (z0_eq (hS.1 21) c27)
      refine lv_iload_n C.1 C.2.1 dX12_word_30 rfl (lv_at hl 1 rfl) ?_
      refine lv_bipush (v := zI 97) C.1 C.2.1 dX12_word_31 (by decide) ?_
      refine lv_bipush (v := zI 102) C.1 C.2.1 dX12_word_33 (by decide) ?_
      refine k_pi (k_runS (rest := []) C aks Wd.1 cs_X12_90 (mt_isIn D ((F 6) (I 10)) 97 102 g8 (show rng 97 from by decide) (show rng 102 from by decide) _ hw l _) [] rfl (by decide) [] rfl rfl rfl ⟨(Nat.le_of_ble_eq_true rfl), (Nat.le_of_ble_eq_true rfl)⟩ hl.1 rfl rfl (Nat.le_of_ble_eq_true rfl) ⟨(Nat.le_of_ble_eq_true rfl), (Nat.le_of_ble_eq_true rfl)⟩ dX12_word_35) (fun y35 hy => ?_)
      obtain ⟨r35, rfl, g_r35, hw⟩ := hy
      refine lv_if_eq (tgt := 52) C.1 C.2.1 dX12_word_38 (by decide) (fun c38 => ?_) (fun c38 => ?_)
      · have hw := hw.1 (z0_eq g_r35 c38)
        exact J52  _ _ _ ⟨hw, Wd, rfl, rfl, lv_sub hl [0, 1] rfl⟩
      · have hw := hw.2 (z0_ne g_r35 c38)
        refine lv_sipush (v := zI 320) C.1 C.2.1 dX12_word_41 (zS (by decide) (by decide)) ?_
        refine lv_iload_n C.1 C.2.1 dX12_word_44 rfl (lv_at hl 1 rfl) ?_
        refine k_iadd (v := zI (320 + ((F 6) (I 10)))) C (zI_iadd _ _) dX12_word_45 ?_
        refine lv_bipush (v := zI 97) C.1 C.2.1 dX12_word_46 (by decide) ?_
        refine k_isub (v := zI ((320 + ((F 6) (I 10))) - 97)) C (zI_isub _ _) dX12_word_48 ?_
        refine lv_goto (tgt := 82) C.1 C.2.1 dX12_word_49 (by decide) ?_
        obtain ⟨g82_0, hw⟩ := hw
        exact k_zretP C hr hlk rfl ⟨_, rfl, g82_0, hw⟩ dX12_word_82
set_option maxHeartbeats 4000000 in
set_option maxRecDepth 100000 in
theorem mt_next0 : ∀ (D : va_G) (h : Nat) (ad : Nat → Nat) (ca : Nat → ClassId) (I : Nat → Int) (F : Nat → Int → Int) (hS : rngS I F) (adK adV : Nat → Nat) (tq : Nat) (K : Int → Int → Int → Int → Prop) (hw : wp_next0 (F 6) (I 7) (I 8) (I 9) (I 10) (I 11) (I 21) K) (l : Launch) (sz : Nat), Met l yX12_next0 (Cond.code yX12_next0 cX12_next0 3 none :: gG) { frames := 7, cells := 0, slots := 0, locals := 344 } (cPS RX12 ixM adK adV tq D (tM ca) (wM h ad ca I F) sz [.ref h]) (va_Qv (fun (u : (Int) × (Int) × (Int) × (Int)) => K u.1 u.2.1 u.2.2.1 u.2.2.2 ∧ rngS (sI (sI (sI (sI I 8 u.1) 9 u.2.1) 10 u.2.2.1) 11 u.2.2.2) F) (fun u t => cB D (va_A (wM h ad ca I F) sz) [] (wM h ad ca (sI (sI (sI (sI I 8 u.1) 9 u.2.1) 10 u.2.2.1) 11 u.2.2.2) F) t) (va_A (wM h ad ca I F) sz)) 0 0 (va_A (wM h ad ca I F) sz) := by
  intro D h ad ca I F hS adK adV tq  K hw l sz
  refine Met.ofW (cc := cX12_next0) (maxL := 3) (ret := none) (by decide) rfl ?_
  intro p e s m args below meth c s₁ B hml hv
  obtain ⟨hv, hE⟩ := hv
  obtain ⟨rfl, aks, rfl, Wd⟩ := k_enter hv
  have C : CallFix p m c cX12_next0 3 s _ gG RX12 := ⟨B.exec, B.bytes, hml, findClass_of_methodNamed B.named, fun w h => atoms_spec (ws := Cond.code yX12_next0 cX12_next0 3 none :: gG) B.pre w (List.mem_cons_of_mem _ h)⟩
  have hr := B.returns
  have hlk := B.notSynchronized
  generalize va_A (wM h ad ca I F) s.heap.size = A at Wd hE ⊢
  replace Wd : wXM D ca s h ad I F s.heap A s.heap [] := ⟨Wd, hS⟩
  refine k_locals (Nat.le_of_ble_eq_true rfl) [(0, .ref h)] rfl (fun ls hl => ?_)
  unfold wp_next0 at hw
  refine k_lp1 hw (fun (at0_0 : Int) H locs ls => wXM D ca s h ad (sI I 8 at0_0) F H A s.heap locs ∧ lv_has ls 3 [(0, .ref h)]) (fun (at0_0 : Int) ls => F0 m 0 ls []) (fun L0 hL0 at0_0 hw H locs ls hi => ?_) _ _ _ ⟨wMc Wd rfl rfl ⟨(rsI hS.1 (hS.1 8)), hS.2⟩, lv_sub hl [0] rfl⟩
  obtain ⟨Wd, hl⟩ := hi
  have Wd0 := Wd
  unfold wp_next0_0 at hw
  refine lv_aload_n C.1 C.2.1 dX12_next0_0 rfl (lv_at hl 0 rfl) ?_
  refine lv_aload_n C.1 C.2.1 dX12_next0_1 rfl (lv_at hl 0 rfl) ?_
  refine k_get (v := .int (zI at0_0)) C Wd.1 KX12 0 8 wM0 (by decide) fl_X12_127 rfl dX12_next0_2 ?_
  refine k_pi (k_runVM (rest := []) C aks Wd cs_X12_161 (mt_see D h ad ca (sI I 8 at0_0) F Wd.2 at0_0 (Wd0.2.1 8) _ hw l _) rfl rfl ⟨(Nat.le_of_ble_eq_true rfl), (Nat.le_of_ble_eq_true rfl)⟩ hl.1 rfl rfl (Nat.le_of_ble_eq_true rfl) ⟨(Nat.le_of_ble_eq_true rfl), (Nat.le_of_ble_eq_true rfl)⟩ dX12_next0_5) (fun y5 hy => ?_)
  obtain ⟨r5, rfl, g_r5, hw⟩ := hy
  refine lv_bipush (v := zI 32) C.1 C.2.1 dX12_next0_8 (by decide) ?_
  refine lv_icmp_eq (tgt := 26) C.1 C.2.1 dX12_next0_10 (by decide) (fun c10 => ?_) (fun c10 => ?_)
  · have hw := hw.1 (z_eq g_r5 (show rng 32 from by decide) c10)
    refine lv_aload_n C.1 C.2.1 dX12_next0_26 rfl (lv_at hl 0 rfl) ?_
    refine lv_dup C.1 C.2.1 dX12_next0_27 rfl ?_
    refine k_get (v := .int (zI at0_0)) C Wd.1 KX12 0 8 wM0 (by decide) fl_X12_127 rfl dX12_next0_28 ?_
    refine lv_iconst (v := zI 1) C.1 C.2.1 dX12_next0_31 (by decide) ?_
    refine k_iadd (v := zI (at0_0 + 1)) C (zI_iadd _ _) dX12_next0_32 ?_
    obtain ⟨g33_0, hw⟩ := hw
    refine k_putM C Wd 8 (sI I 8 (at0_0 + 1)) (by decide) fl_X12_127 rfl rfl rfl rfl (rsI hS.1 g33_0) dX12_next0_33 (fun H locs Wd => ?_)
    refine lv_goto (tgt := 0) C.1 C.2.1 dX12_next0_36 (by decide) ?_
    exact hL0 _ hw _ _ _ ⟨wMc Wd rfl rfl ⟨(rsI hS.1 g33_0), hS.2⟩, lv_sub hl [0] rfl⟩
  · have hw := hw.2 (z_ne g_r5 (show rng 32 from by decide) c10)
    refine lv_aload_n C.1 C.2.1 dX12_next0_13 rfl (lv_at hl 0 rfl) ?_
    refine lv_aload_n C.1 C.2.1 dX12_next0_14 rfl (lv_at hl 0 rfl) ?_
    refine k_get (v := .int (zI at0_0)) C Wd.1 KX12 0 8 wM0 (by decide) fl_X12_127 rfl dX12_next0_15 ?_
    refine k_pi (k_runVM (rest := []) C aks Wd cs_X12_161 (mt_see D h ad ca (sI I 8 at0_0) F Wd.2 at0_0 (Wd0.2.1 8) _ hw l _) rfl rfl ⟨(Nat.le_of_ble_eq_true rfl), (Nat.le_of_ble_eq_true rfl)⟩ hl.1 rfl rfl (Nat.le_of_ble_eq_true rfl) ⟨(Nat.le_of_ble_eq_true rfl), (Nat.le_of_ble_eq_true rfl)⟩ dX12_next0_18) (fun y18 hy => ?_)
    obtain ⟨r18, rfl, g_r18, hw⟩ := hy
    refine lv_bipush (v := zI 10) C.1 C.2.1 dX12_next0_21 (by decide) ?_
    refine lv_icmp_ne (tgt := 39) C.1 C.2.1 dX12_next0_23 (by decide) (fun c23 => ?_) (fun c23 => ?_)
    · have hw := hw.1 (z_ne g_r18 (show rng 10 from by decide) c23)
      refine lv_aload_n C.1 C.2.1 dX12_next0_39 rfl (lv_at hl 0 rfl) ?_
      refine lv_aload_n C.1 C.2.1 dX12_next0_40 rfl (lv_at hl 0 rfl) ?_
      refine k_get (v := .int (zI at0_0)) C Wd.1 KX12 0 8 wM0 (by decide) fl_X12_127 rfl dX12_next0_41 ?_
      refine k_putM C Wd 10 (sI (sI I 8 at0_0) 10 at0_0) (by decide) fl_X12_130 rfl rfl rfl rfl (rsI (rsI hS.1 (Wd0.2.1 8)) (Wd0.2.1 8)) dX12_next0_44 (fun H locs Wd => ?_)
      refine lv_aload_n C.1 C.2.1 dX12_next0_47 rfl (lv_at hl 0 rfl) ?_
      refine lv_aload_n C.1 C.2.1 dX12_next0_48 rfl (lv_at hl 0 rfl) ?_
      refine k_get (v := .int (zI at0_0)) C Wd.1 KX12 0 8 wM0 (by decide) fl_X12_127 rfl dX12_next0_49 ?_
      refine k_pi (k_runVM (rest := []) C aks Wd cs_X12_161 (mt_see D h ad ca (sI (sI I 8 at0_0) 10 at0_0) F Wd.2 at0_0 (Wd0.2.1 8) _ hw l _) rfl rfl ⟨(Nat.le_of_ble_eq_true rfl), (Nat.le_of_ble_eq_true rfl)⟩ hl.1 rfl rfl (Nat.le_of_ble_eq_true rfl) ⟨(Nat.le_of_ble_eq_true rfl), (Nat.le_of_ble_eq_true rfl)⟩ dX12_next0_52) (fun y52 hy => ?_)
      obtain ⟨r52, rfl, g_r52, hw⟩ := hy
      refine lv_istore_n (lv' := [(1, .int (zI r52)), (0, .ref h)]) C.1 C.2.1 dX12_next0_55 rfl hl (by decide) rfl (fun ls hl => ?_)
      replace hl := lv_sub hl [1, 0] rfl
      refine lv_iload_n C.1 C.2.1 dX12_next0_56 rfl (lv_at hl 1 rfl) ?_
      refine lv_iconst (v := zI (-1)) C.1 C.2.1 dX12_next0_57 (by decide) ?_
      refine lv_icmp_ne (tgt := 69) C.1 C.2.1 dX12_next0_58 (by decide) (fun c58 => ?_) (fun c58 => ?_)
      · have hw := hw.1 (z_ne g_r52 (show rng (-1) from by decide) c58)
        refine lv_iload_n C.1 C.2.1 dX12_next0_69 rfl (lv_at hl 1 rfl) ?_
        refine k_pi (k_runS (rest := []) C aks Wd.1 cs_X12_167 (mt_isLetter D r52 g_r52 _ hw l _) [] rfl (by decide) [] rfl rfl rfl ⟨(Nat.le_of_ble_eq_true rfl), (Nat.le_of_ble_eq_true rfl)⟩ hl.1 rfl rfl (Nat.le_of_ble_eq_true rfl) ⟨(Nat.le_of_ble_eq_true rfl), (Nat.le_of_ble_eq_true rfl)⟩ dX12_next0_70) (fun y70 hy => ?_)
        obtain ⟨r70, rfl, g_r70, hw⟩ := hy
        refine lv_if_eq (tgt := 114) C.1 C.2.1 dX12_next0_73 (by decide) (fun c73 => ?_) (fun c73 => ?_)
        · have hw := hw.1 (z0_eq g_r70 c73)
          refine lv_iload_n C.1 C.2.1 dX12_next0_114 rfl (lv_at hl 1 rfl) ?_
          refine k_pi (k_runS (rest := []) C aks Wd.1 cs_X12_173 (mt_isDigit D r52 g_r52 _ hw l _) [] rfl (by decide) [] rfl rfl rfl ⟨(Nat.le_of_ble_eq_true rfl), (Nat.le_of_ble_eq_true rfl)⟩ hl.1 rfl rfl (Nat.le_of_ble_eq_true rfl) ⟨(Nat.le_of_ble_eq_true rfl), (Nat.le_of_ble_eq_true rfl)⟩ dX12_next0_115) (fun y115 hy => ?_)
          obtain ⟨r115, rfl, g_r115, hw⟩ := hy
          refine lv_if_eq (tgt := 214) C.1 C.2.1 dX12_next0_118 (by decide) (fun c118 => ?_) (fun c118 => ?_)
          · have hw := hw.1 (z0_eq g_r115 c118)
            refine lv_aload_n C.1 C.2.1 dX12_next0_214 rfl (lv_at hl 0 rfl) ?_
            refine lv_dup C.1 C.2.1 dX12_next0_215 rfl ?_
            refine k_get (v := .int (zI at0_0)) C Wd.1 KX12 0 8 wM0 (by decide) fl_X12_127 rfl dX12_next0_216 ?_
            refine lv_iconst (v := zI 1) C.1 C.2.1 dX12_next0_219 (by decide) ?_
            refine k_iadd (v := zI (at0_0 + 1)) C (zI_iadd _ _) dX12_next0_220 ?_
            obtain ⟨g221_0, hw⟩ := hw
            refine k_putM C Wd 8 (sI (sI I 8 (at0_0 + 1)) 10 at0_0) (by decide) fl_X12_127 rfl rfl rfl rfl (rsI (rsI hS.1 g221_0) (Wd0.2.1 8)) dX12_next0_221 (fun H locs Wd => ?_)
            refine lv_iload_n C.1 C.2.1 dX12_next0_224 rfl (lv_at hl 1 rfl) ?_
            refine lv_bipush (v := zI 59) C.1 C.2.1 dX12_next0_225 (by decide) ?_
            refine k_cut1 (fun (s0_295 : Int) H locs ls => rng s0_295 ∧ wp_next0_295 K (F 6) (I 7) (I 11) (I 21) at0_0 r52 s0_295 ∧ wXM D ca s h ad (sI (sI I 8 (at0_0 + 1)) 10 at0_0) F H A s.heap locs ∧ lv_has ls 3 [(0, .ref h), (1, .int (zI r52))]) (fun (s0_295 : Int) ls => F0 m 295 ls [.int (zI s0_295)]) (fun s0_295 H locs ls hi => ?_) (fun J295 => ?_)
            · obtain ⟨g_s0_295, hw, Wd, hl⟩ := hi
              have Wd295 := Wd
              unfold wp_next0_295 at hw
              refine lv_istore_n (lv' := [(2, .int (zI s0_295)), (0, .ref h), (1, .int (zI r52))]) C.1 C.2.1 dX12_next0_295 rfl hl (by decide) rfl (fun ls hl => ?_)
              replace hl := lv_sub hl [1, 2, 0] rfl
              refine lv_aload_n C.1 C.2.1 dX12_next0_296 rfl (lv_at hl 0 rfl) ?_
              refine lv_iload_n C.1 C.2.1 dX12_next0_297 rfl (lv_at hl 2 rfl) ?_
              refine k_cut1 (fun (s0_306 : Int) H locs ls => rng s0_306 ∧ wp_next0_306 K (F 6) (I 7) (I 11) (I 21) at0_0 r52 s0_306 ∧ wXM D ca s h ad (sI (sI I 8 (at0_0 + 1)) 10 at0_0) F H A s.heap locs ∧ lv_has ls 3 [(0, .ref h), (1, .int (zI r52))]) (fun (s0_306 : Int) ls => F0 m 306 ls [.int (zI s0_306), .ref h]) (fun s0_306 H locs ls hi => ?_) (fun J306 => ?_)
              · obtain ⟨g_s0_306, hw, Wd, hl⟩ := hi
                have Wd306 := Wd
                unfold wp_next0_306 at hw
                refine k_putM C Wd 9 (sI (sI (sI I 8 (at0_0 + 1)) 9 s0_306) 10 at0_0) (by decide) fl_X12_164 rfl rfl rfl rfl (rsI (rsI (rsI hS.1 g221_0) g_s0_306) (Wd0.2.1 8)) dX12_next0_306 (fun H locs Wd => ?_)
                refine lv_aload_n C.1 C.2.1 dX12_next0_309 rfl (lv_at hl 0 rfl) ?_
                refine k_get (v := .int (zI (I 21))) C Wd.1 KX12 0 21 wM0 (by decide) fl_X12_143 rfl dX12_next0_310 ?_
                refine lv_if_eq (tgt := 351) C.1 C.2.1 dX12_next0_313 (by decide) (fun c313 => ?_) (fun c313 => ?_)
                · have hw := hw.1 (z0_eq (hS.1 21) c313)
                  exact k_retMv C hr hlk Wd (u := ((at0_0 + 1), s0_306, at0_0, (I 11))) rfl rfl ⟨hw, ⟨(rsI (rsI (rsI (rsI hS.1 g221_0) g_s0_306) (Wd0.2.1 8)) (hS.1 11)), hS.2⟩⟩ dX12_next0_351
                · have hw := hw.2 (z0_ne (hS.1 21) c313)
                  refine lv_iload_n C.1 C.2.1 dX12_next0_316 rfl (lv_at hl 1 rfl) ?_
                  refine lv_bipush (v := zI 45) C.1 C.2.1 dX12_next0_317 (by decide) ?_
                  refine lv_icmp_ne (tgt := 351) C.1 C.2.1 dX12_next0_319 (by decide) (fun c319 => ?_) (fun c319 => ?_)
                  · have hw := hw.1 (z_ne g_r52 (show rng 45 from by decide) c319)
                    exact k_retMv C hr hlk Wd (u := ((at0_0 + 1), s0_306, at0_0, (I 11))) rfl rfl ⟨hw, ⟨(rsI (rsI (rsI (rsI hS.1 g221_0) g_s0_306) (Wd0.2.1 8)) (hS.1 11)), hS.2⟩⟩ dX12_next0_351
                  · have hw := hw.2 (z_eq g_r52 (show rng 45 from by decide) c319)
                    refine lv_aload_n C.1 C.2.1 dX12_next0_322 rfl (lv_at hl 0 rfl) ?_
                    refine lv_aload_n C.1 C.2.1 dX12_next0_323 rfl (lv_at hl 0 rfl) ?_
                    refine k_get (v := .int (zI (at0_0 + 1))) C Wd.1 KX12 0 8 wM0 (by decide) fl_X12_127 rfl dX12_next0_324 ?_
                    refine k_pi (k_runVM (rest := []) C aks Wd cs_X12_161 (mt_see D h ad ca (sI (sI (sI I 8 (at0_0 + 1)) 9 s0_306) 10 at0_0) F Wd.2 (at0_0 + 1) g221_0 _ hw l _) rfl rfl ⟨(Nat.le_of_ble_eq_true rfl), (Nat.le_of_ble_eq_true rfl)⟩ hl.1 rfl rfl (Nat.le_of_ble_eq_true rfl) ⟨(Nat.le_of_ble_eq_true rfl), (Nat.le_of_ble_eq_true rfl)⟩ dX12_next0_327) (fun y327 hy => ?_)
                    obtain ⟨r327, rfl, g_r327, hw⟩ := hy
                    refine lv_bipush (v := zI 62) C.1 C.2.1 dX12_next0_330 (by decide) ?_
                    refine lv_icmp_ne (tgt := 351) C.1 C.2.1 dX12_next0_332 (by decide) (fun c332 => ?_) (fun c332 => ?_)
                    · have hw := hw.1 (z_ne g_r327 (show rng 62 from by decide) c332)
                      exact k_retMv C hr hlk Wd (u := ((at0_0 + 1), s0_306, at0_0, (I 11))) rfl rfl ⟨hw, ⟨(rsI (rsI (rsI (rsI hS.1 g221_0) g_s0_306) (Wd0.2.1 8)) (hS.1 11)), hS.2⟩⟩ dX12_next0_351
                    · have hw := hw.2 (z_eq g_r327 (show rng 62 from by decide) c332)
                      refine lv_aload_n C.1 C.2.1 dX12_next0_335 rfl (lv_at hl 0 rfl) ?_
                      refine lv_dup C.1 C.2.1 dX12_next0_336 rfl ?_
                      refine k_get (v := .int (zI (at0_0 + 1))) C Wd.1 KX12 0 8 wM0 (by decide) fl_X12_127 rfl dX12_next0_337 ?_
                      refine lv_iconst (v := zI 1) C.1 C.2.1 dX12_next0_340 (by decide) ?_
                      refine k_iadd (v := zI ((at0_0 + 1) + 1)) C (zI_iadd _ _) dX12_next0_341 ?_
                      obtain ⟨g342_0, hw⟩ := hw
                      refine k_putM C Wd 8 (sI (sI (sI I 8 ((at0_0 + 1) + 1)) 9 s0_306) 10 at0_0) (by decide) fl_X12_127 rfl rfl rfl rfl (rsI (rsI (rsI hS.1 g342_0) g_s0_306) (Wd0.2.1 8)) dX12_next0_342 (fun H locs Wd => ?_)
                      refine lv_aload_n C.1 C.2.1 dX12_next0_345 rfl (lv_at hl 0 rfl) ?_
                      refine lv_bipush (v := zI 8) C.1 C.2.1 dX12_next0_346 (by decide) ?_
                      refine k_putM C Wd 9 (sI (sI (sI I 8 ((at0_0 + 1) + 1)) 9 8) 10 at0_0) (by decide) fl_X12_164 rfl rfl rfl rfl (rsI (rsI (rsI hS.1 g342_0) (show rng 8 from by decide)) (Wd0.2.1 8)) dX12_next0_348 (fun H locs Wd => ?_)
                      exact k_retMv C hr hlk Wd (u := (((at0_0 + 1) + 1), 8, at0_0, (I 11))) rfl rfl ⟨hw, ⟨(rsI (rsI (rsI (rsI hS.1 g342_0) (show rng 8 from by decide)) (Wd0.2.1 8)) (hS.1 11)), hS.2⟩⟩ dX12_next0_351
              refine lv_if_eq (tgt := 305) C.1 C.2.1 dX12_next0_298 (by decide) (fun c298 => ?_) (fun c298 => ?_)
              · have hw := hw.1 (z0_eq g_s0_295 c298)
                refine lv_iconst (v := zI 1) C.1 C.2.1 dX12_next0_305 (by decide) ?_
                exact J306 1 _ _ _ ⟨(show rng 1 from by decide), hw, wMc Wd rfl rfl ⟨(rsI (rsI hS.1 g221_0) (Wd0.2.1 8)), hS.2⟩, lv_sub hl [0, 1] rfl⟩
              · have hw := hw.2 (z0_ne g_s0_295 c298)
                refine lv_iload_n C.1 C.2.1 dX12_next0_301 rfl (lv_at hl 1 rfl) ?_
                refine lv_goto (tgt := 306) C.1 C.2.1 dX12_next0_302 (by decide) ?_
                exact J306 r52 _ _ _ ⟨g_r52, hw, wMc Wd rfl rfl ⟨(rsI (rsI hS.1 g221_0) (Wd0.2.1 8)), hS.2⟩, lv_sub hl [0, 1] rfl⟩
            refine k_cut0 (fun  H locs ls => wp_next0_290 K (F 6) (I 7) (I 11) (I 21) at0_0 r52 ∧ wXM D ca s h ad (sI (sI I 8 (at0_0 + 1)) 10 at0_0) F H A s.heap locs ∧ lv_has ls 3 [(0, .ref h), (1, .int (zI r52))]) (fun  ls => F0 m 290 ls []) (fun  H locs ls hi => ?_) (fun J290 => ?_)
            · obtain ⟨hw, Wd, hl⟩ := hi
              have Wd290 := Wd
              unfold wp_next0_290 at hw
              refine lv_iconst (v := zI 1) C.1 C.2.1 dX12_next0_290 (by decide) ?_
              refine lv_goto (tgt := 295) C.1 C.2.1 dX12_next0_291 (by decide) ?_
              exact J295 1 _ _ _ ⟨(show rng 1 from by decide), hw, wMc Wd rfl rfl ⟨(rsI (rsI hS.1 g221_0) (Wd0.2.1 8)), hS.2⟩, lv_sub hl [0, 1] rfl⟩
            refine lv_icmp_eq (tgt := 290) C.1 C.2.1 dX12_next0_227 (by decide) (fun c227 => ?_) (fun c227 => ?_)
            · have hw := hw.1 (z_eq g_r52 (show rng 59 from by decide) c227)
              exact J290  _ _ _ ⟨hw, wMc Wd rfl rfl ⟨(rsI (rsI hS.1 g221_0) (Wd0.2.1 8)), hS.2⟩, lv_sub hl [0, 1] rfl⟩
            · have hw := hw.2 (z_ne g_r52 (show rng 59 from by decide) c227)
              refine lv_iload_n C.1 C.2.1 dX12_next0_230 rfl (lv_at hl 1 rfl) ?_
              refine lv_bipush (v := zI 43) C.1 C.2.1 dX12_next0_231 (by decide) ?_
              refine lv_icmp_eq (tgt := 290) C.1 C.2.1 dX12_next0_233 (by decide) (fun c233 => ?_) (fun c233 => ?_)
              · have hw := hw.1 (z_eq g_r52 (show rng 43 from by decide) c233)
                exact J290  _ _ _ ⟨hw, wMc Wd rfl rfl ⟨(rsI (rsI hS.1 g221_0) (Wd0.2.1 8)), hS.2⟩, lv_sub hl [0, 1] rfl⟩
              · have hw := hw.2 (z_ne g_r52 (show rng 43 from by decide) c233)
                refine lv_iload_n C.1 C.2.1 dX12_next0_236 rfl (lv_at hl 1 rfl) ?_
                refine lv_bipush (v := zI 45) C.1 C.2.1 dX12_next0_237 (by decide) ?_
                refine lv_icmp_eq (tgt := 290) C.1 C.2.1 dX12_next0_239 (by decide) (fun c239 => ?_) (fun c239 => ?_)
                · have hw := hw.1 (z_eq g_r52 (show rng 45 from by decide) c239)
                  exact J290  _ _ _ ⟨hw, wMc Wd rfl rfl ⟨(rsI (rsI hS.1 g221_0) (Wd0.2.1 8)), hS.2⟩, lv_sub hl [0, 1] rfl⟩
                · have hw := hw.2 (z_ne g_r52 (show rng 45 from by decide) c239)
                  refine lv_iload_n C.1 C.2.1 dX12_next0_242 rfl (lv_at hl 1 rfl) ?_
                  refine lv_bipush (v := zI 42) C.1 C.2.1 dX12_next0_243 (by decide) ?_
                  refine lv_icmp_eq (tgt := 290) C.1 C.2.1 dX12_next0_245 (by decide) (fun c245 => ?_) (fun c245 => ?_)
                  · have hw := hw.1 (z_eq g_r52 (show rng 42 from by decide) c245)
                    exact J290  _ _ _ ⟨hw, wMc Wd rfl rfl ⟨(rsI (rsI hS.1 g221_0) (Wd0.2.1 8)), hS.2⟩, lv_sub hl [0, 1] rfl⟩
                  · have hw := hw.2 (z_ne g_r52 (show rng 42 from by decide) c245)
                    refine lv_iload_n C.1 C.2.1 dX12_next0_248 rfl (lv_at hl 1 rfl) ?_
                    refine lv_bipush (v := zI 40) C.1 C.2.1 dX12_next0_249 (by decide) ?_
                    refine lv_icmp_eq (tgt := 290) C.1 C.2.1 dX12_next0_251 (by decide) (fun c251 => ?_) (fun c251 => ?_)
                    · have hw := hw.1 (z_eq g_r52 (show rng 40 from by decide) c251)
                      exact J290  _ _ _ ⟨hw, wMc Wd rfl rfl ⟨(rsI (rsI hS.1 g221_0) (Wd0.2.1 8)), hS.2⟩, lv_sub hl [0, 1] rfl⟩
                    · have hw := hw.2 (z_ne g_r52 (show rng 40 from by decide) c251)
                      refine lv_iload_n C.1 C.2.1 dX12_next0_254 rfl (lv_at hl 1 rfl) ?_
                      refine lv_bipush (v := zI 41) C.1 C.2.1 dX12_next0_255 (by decide) ?_
                      refine lv_icmp_eq (tgt := 290) C.1 C.2.1 dX12_next0_257 (by decide) (fun c257 => ?_) (fun c257 => ?_)
                      · have hw := hw.1 (z_eq g_r52 (show rng 41 from by decide) c257)
                        exact J290  _ _ _ ⟨hw, wMc Wd rfl rfl ⟨(rsI (rsI hS.1 g221_0) (Wd0.2.1 8)), hS.2⟩, lv_sub hl [0, 1] rfl⟩
                      · have hw := hw.2 (z_ne g_r52 (show rng 41 from by decide) c257)
                        refine lv_iload_n C.1 C.2.1 dX12_next0_260 rfl (lv_at hl 1 rfl) ?_
                        refine lv_bipush (v := zI 123) C.1 C.2.1 dX12_next0_261 (by decide) ?_
                        refine lv_icmp_eq (tgt := 290) C.1 C.2.1 dX12_next0_263 (by decide) (fun c263 => ?_) (fun c263 => ?_)
                        · have hw := hw.1 (z_eq g_r52 (show rng 123 from by decide) c263)
                          exact J290  _ _ _ ⟨hw, wMc Wd rfl rfl ⟨(rsI (rsI hS.1 g221_0) (Wd0.2.1 8)), hS.2⟩, lv_sub hl [0, 1] rfl⟩
                        · have hw := hw.2 (z_ne g_r52 (show rng 123 from by decide) c263)
                          refine lv_iload_n C.1 C.2.1 dX12_next0_266 rfl (lv_at hl 1 rfl) ?_
                          refine lv_bipush (v := zI 125) C.1 C.2.1 dX12_next0_267 (by decide) ?_
                          refine lv_icmp_eq (tgt := 290) C.1 C.2.1 dX12_next0_269 (by decide) (fun c269 => ?_) (fun c269 => ?_)
                          · have hw := hw.1 (z_eq g_r52 (show rng 125 from by decide) c269)
                            exact J290  _ _ _ ⟨hw, wMc Wd rfl rfl ⟨(rsI (rsI hS.1 g221_0) (Wd0.2.1 8)), hS.2⟩, lv_sub hl [0, 1] rfl⟩
                          · have hw := hw.2 (z_ne g_r52 (show rng 125 from by decide) c269)
                            refine lv_iload_n C.1 C.2.1 dX12_next0_272 rfl (lv_at hl 1 rfl) ?_
                            refine lv_bipush (v := zI 60) C.1 C.2.1 dX12_next0_273 (by decide) ?_
                            refine lv_icmp_eq (tgt := 290) C.1 C.2.1 dX12_next0_275 (by decide) (fun c275 => ?_) (fun c275 => ?_)
                            · have hw := hw.1 (z_eq g_r52 (show rng 60 from by decide) c275)
                              exact J290  _ _ _ ⟨hw, wMc Wd rfl rfl ⟨(rsI (rsI hS.1 g221_0) (Wd0.2.1 8)), hS.2⟩, lv_sub hl [0, 1] rfl⟩
                            · have hw := hw.2 (z_ne g_r52 (show rng 60 from by decide) c275)
                              refine lv_iload_n C.1 C.2.1 dX12_next0_278 rfl (lv_at hl 1 rfl) ?_
                              refine lv_bipush (v := zI 61) C.1 C.2.1 dX12_next0_279 (by decide) ?_
                              refine lv_icmp_eq (tgt := 290) C.1 C.2.1 dX12_next0_281 (by decide) (fun c281 => ?_) (fun c281 => ?_)
                              · have hw := hw.1 (z_eq g_r52 (show rng 61 from by decide) c281)
                                exact J290  _ _ _ ⟨hw, wMc Wd rfl rfl ⟨(rsI (rsI hS.1 g221_0) (Wd0.2.1 8)), hS.2⟩, lv_sub hl [0, 1] rfl⟩
                              · have hw := hw.2 (z_ne g_r52 (show rng 61 from by decide) c281)
                                refine lv_iload_n C.1 C.2.1 dX12_next0_284 rfl (lv_at hl 1 rfl) ?_
                                refine lv_bipush (v := zI 62) C.1 C.2.1 dX12_next0_285 (by decide) ?_
                                refine lv_icmp_ne (tgt := 294) C.1 C.2.1 dX12_next0_287 (by decide) (fun c287 => ?_) (fun c287 => ?_)
                                · have hw := hw.1 (z_ne g_r52 (show rng 62 from by decide) c287)
                                  refine lv_iconst (v := zI 0) C.1 C.2.1 dX12_next0_294 (by decide) ?_
                                  exact J295 0 _ _ _ ⟨(show rng 0 from by decide), hw, wMc Wd rfl rfl ⟨(rsI (rsI hS.1 g221_0) (Wd0.2.1 8)), hS.2⟩, lv_sub hl [0, 1] rfl⟩
                                · have hw := hw.2 (z_eq g_r52 (show rng 62 from by decide) c287)
                                  exact J290  _ _ _ ⟨hw, wMc Wd rfl rfl ⟨(rsI (rsI hS.1 g221_0) (Wd0.2.1 8)), hS.2⟩, lv_sub hl [0, 1] rfl⟩
          · have hw := hw.2 (z0_ne g_r115 c118)
            refine lv_aload_n C.1 C.2.1 dX12_next0_121 rfl (lv_at hl 0 rfl) ?_
            refine lv_iconst (v := zI 0) C.1 C.2.1 dX12_next0_122 (by decide) ?_
            refine k_putM C Wd 11 (sI (sI (sI I 8 at0_0) 10 at0_0) 11 0) (by decide) fl_X12_176 rfl rfl rfl rfl (rsI (rsI (rsI hS.1 (Wd0.2.1 8)) (Wd0.2.1 8)) (show rng 0 from by decide)) dX12_next0_123 (fun H locs Wd => ?_)
            refine k_lp3 hw (fun (at0_126 : Int) (tokenAt_126 : Int) (value_126 : Int) H locs ls => wXM D ca s h ad (sI (sI (sI I 8 at0_126) 10 tokenAt_126) 11 value_126) F H A s.heap locs ∧ lv_has ls 3 [(0, .ref h)]) (fun (at0_126 : Int) (tokenAt_126 : Int) (value_126 : Int) ls => F0 m 126 ls []) (fun L126 hL126 at0_126 tokenAt_126 value_126 hw H locs ls hi => ?_) _ _ _ ⟨wMc Wd rfl rfl ⟨(rsI (rsI (rsI hS.1 (Wd0.2.1 8)) (Wd0.2.1 8)) (show rng 0 from by decide)), hS.2⟩, lv_sub hl [0] rfl⟩
            obtain ⟨Wd, hl⟩ := hi
            have Wd126 := Wd
            unfold wp_next0_126 at hw
            refine lv_aload_n C.1 C.2.1 dX12_next0_126 rfl (lv_at hl 0 rfl) ?_
            refine lv_aload_n C.1 C.2.1 dX12_next0_127 rfl (lv_at hl 0 rfl) ?_
            refine k_get (v := .int (zI at0_126)) C Wd.1 KX12 0 8 wM0 (by decide) fl_X12_127 rfl dX12_next0_128 ?_
            refine k_pi (k_runVM (rest := []) C aks Wd cs_X12_161 (mt_see D h ad ca (sI (sI (sI I 8 at0_126) 10 tokenAt_126) 11 value_126) F Wd.2 at0_126 (Wd126.2.1 8) _ hw l _) rfl rfl ⟨(Nat.le_of_ble_eq_true rfl), (Nat.le_of_ble_eq_true rfl)⟩ hl.1 rfl rfl (Nat.le_of_ble_eq_true rfl) ⟨(Nat.le_of_ble_eq_true rfl), (Nat.le_of_ble_eq_true rfl)⟩ dX12_next0_131) (fun y131 hy => ?_)
            obtain ⟨r131, rfl, g_r131, hw⟩ := hy
            refine k_pi (k_runS (rest := []) C aks Wd.1 cs_X12_173 (mt_isDigit D r131 g_r131 _ hw l _) [] rfl (by decide) [] rfl rfl rfl ⟨(Nat.le_of_ble_eq_true rfl), (Nat.le_of_ble_eq_true rfl)⟩ hl.1 rfl rfl (Nat.le_of_ble_eq_true rfl) ⟨(Nat.le_of_ble_eq_true rfl), (Nat.le_of_ble_eq_true rfl)⟩ dX12_next0_134) (fun y134 hy => ?_)
            obtain ⟨r134, rfl, g_r134, hw⟩ := hy
            refine lv_if_eq (tgt := 189) C.1 C.2.1 dX12_next0_137 (by decide) (fun c137 => ?_) (fun c137 => ?_)
            · have hw := hw.1 (z0_eq g_r134 c137)
              refine lv_aload_n C.1 C.2.1 dX12_next0_189 rfl (lv_at hl 0 rfl) ?_
              refine lv_aload_n C.1 C.2.1 dX12_next0_190 rfl (lv_at hl 0 rfl) ?_
              refine k_get (v := .int (zI at0_126)) C Wd.1 KX12 0 8 wM0 (by decide) fl_X12_127 rfl dX12_next0_191 ?_
              refine lv_aload_n C.1 C.2.1 dX12_next0_194 rfl (lv_at hl 0 rfl) ?_
              refine k_get (v := .int (zI tokenAt_126)) C Wd.1 KX12 0 10 wM0 (by decide) fl_X12_130 rfl dX12_next0_195 ?_
              refine k_isub (v := zI (at0_126 - tokenAt_126)) C (zI_isub _ _) dX12_next0_198 ?_
              refine lv_iconst (v := zI 5) C.1 C.2.1 dX12_next0_199 (by decide) ?_
              obtain ⟨g200_0, hw⟩ := hw
              refine lv_icmp_ge (tgt := 207) C.1 C.2.1 dX12_next0_200 (by decide) (fun c200 => ?_) (fun c200 => ?_)
              · have hw := hw.1 (z_le (show rng 5 from by decide) g200_0 c200)
                refine lv_iconst (v := zI 1) C.1 C.2.1 dX12_next0_207 (by decide) ?_
                refine k_putM C Wd 9 (sI (sI (sI (sI I 8 at0_126) 9 1) 10 tokenAt_126) 11 value_126) (by decide) fl_X12_164 rfl rfl rfl rfl (rsI (rsI (rsI (rsI hS.1 (Wd126.2.1 8)) (show rng 1 from by decide)) (Wd126.2.1 10)) (Wd126.2.1 11)) dX12_next0_208 (fun H locs Wd => ?_)
                refine lv_goto (tgt := 351) C.1 C.2.1 dX12_next0_211 (by decide) ?_
                exact k_retMv C hr hlk Wd (u := (at0_126, 1, tokenAt_126, value_126)) rfl rfl ⟨hw, ⟨(rsI (rsI (rsI (rsI hS.1 (Wd126.2.1 8)) (show rng 1 from by decide)) (Wd126.2.1 10)) (Wd126.2.1 11)), hS.2⟩⟩ dX12_next0_351
              · have hw := hw.2 (z_nle (show rng 5 from by decide) g200_0 c200)
                refine lv_iconst (v := zI 2) C.1 C.2.1 dX12_next0_203 (by decide) ?_
                refine lv_goto (tgt := 208) C.1 C.2.1 dX12_next0_204 (by decide) ?_
                refine k_putM C Wd 9 (sI (sI (sI (sI I 8 at0_126) 9 2) 10 tokenAt_126) 11 value_126) (by decide) fl_X12_164 rfl rfl rfl rfl (rsI (rsI (rsI (rsI hS.1 (Wd126.2.1 8)) (show rng 2 from by decide)) (Wd126.2.1 10)) (Wd126.2.1 11)) dX12_next0_208 (fun H locs Wd => ?_)
                refine lv_goto (tgt := 351) C.1 C.2.1 dX12_next0_211 (by decide) ?_
                exact k_retMv C hr hlk Wd (u := (at0_126, 2, tokenAt_126, value_126)) rfl rfl ⟨hw, ⟨(rsI (rsI (rsI (rsI hS.1 (Wd126.2.1 8)) (show rng 2 from by decide)) (Wd126.2.1 10)) (Wd126.2.1 11)), hS.2⟩⟩ dX12_next0_351
            · have hw := hw.2 (z0_ne g_r134 c137)
              refine lv_aload_n C.1 C.2.1 dX12_next0_140 rfl (lv_at hl 0 rfl) ?_
              refine k_get (v := .int (zI at0_126)) C Wd.1 KX12 0 8 wM0 (by decide) fl_X12_127 rfl dX12_next0_141 ?_
              refine lv_aload_n C.1 C.2.1 dX12_next0_144 rfl (lv_at hl 0 rfl) ?_
              refine k_get (v := .int (zI tokenAt_126)) C Wd.1 KX12 0 10 wM0 (by decide) fl_X12_130 rfl dX12_next0_145 ?_
              refine lv_iconst (v := zI 4) C.1 C.2.1 dX12_next0_148 (by decide) ?_
              refine k_iadd (v := zI (tokenAt_126 + 4)) C (zI_iadd _ _) dX12_next0_149 ?_
              obtain ⟨g150_0, hw⟩ := hw
              refine lv_icmp_ge (tgt := 176) C.1 C.2.1 dX12_next0_150 (by decide) (fun c150 => ?_) (fun c150 => ?_)
              · have hw := hw.1 (z_le g150_0 (Wd126.2.1 8) c150)
                refine lv_aload_n C.1 C.2.1 dX12_next0_176 rfl (lv_at hl 0 rfl) ?_
                refine lv_dup C.1 C.2.1 dX12_next0_177 rfl ?_
                refine k_get (v := .int (zI at0_126)) C Wd.1 KX12 0 8 wM0 (by decide) fl_X12_127 rfl dX12_next0_178 ?_
                refine lv_iconst (v := zI 1) C.1 C.2.1 dX12_next0_181 (by decide) ?_
                refine k_iadd (v := zI (at0_126 + 1)) C (zI_iadd _ _) dX12_next0_182 ?_
                obtain ⟨g183_0, hw⟩ := hw
                refine k_putM C Wd 8 (sI (sI (sI I 8 (at0_126 + 1)) 10 tokenAt_126) 11 value_126) (by decide) fl_X12_127 rfl rfl rfl rfl (rsI (rsI (rsI hS.1 g183_0) (Wd126.2.1 10)) (Wd126.2.1 11)) dX12_next0_183 (fun H locs Wd => ?_)
                refine lv_goto (tgt := 126) C.1 C.2.1 dX12_next0_186 (by decide) ?_
                exact hL126 _ _ _ hw _ _ _ ⟨wMc Wd rfl rfl ⟨(rsI (rsI (rsI hS.1 g183_0) (Wd126.2.1 10)) (Wd126.2.1 11)), hS.2⟩, lv_sub hl [0] rfl⟩
              · have hw := hw.2 (z_nle g150_0 (Wd126.2.1 8) c150)
                refine lv_aload_n C.1 C.2.1 dX12_next0_153 rfl (lv_at hl 0 rfl) ?_
                refine lv_bipush (v := zI 10) C.1 C.2.1 dX12_next0_154 (by decide) ?_
                refine lv_aload_n C.1 C.2.1 dX12_next0_156 rfl (lv_at hl 0 rfl) ?_
                refine k_get (v := .int (zI value_126)) C Wd.1 KX12 0 11 wM0 (by decide) fl_X12_176 rfl dX12_next0_157 ?_
                refine k_imul (v := zI (10 * value_126)) C (zI_imul _ _) dX12_next0_160 ?_
                refine lv_aload_n C.1 C.2.1 dX12_next0_161 rfl (lv_at hl 0 rfl) ?_
                refine lv_aload_n C.1 C.2.1 dX12_next0_162 rfl (lv_at hl 0 rfl) ?_
                refine k_get (v := .int (zI at0_126)) C Wd.1 KX12 0 8 wM0 (by decide) fl_X12_127 rfl dX12_next0_163 ?_
                refine k_pi (k_runVM (rest := [.int (zI (10 * value_126)), .ref h]) C aks Wd cs_X12_161 (mt_see D h ad ca (sI (sI (sI I 8 at0_126) 10 tokenAt_126) 11 value_126) F Wd.2 at0_126 (Wd126.2.1 8) _ hw l _) rfl rfl ⟨(Nat.le_of_ble_eq_true rfl), (Nat.le_of_ble_eq_true rfl)⟩ hl.1 rfl rfl (Nat.le_of_ble_eq_true rfl) ⟨(Nat.le_of_ble_eq_true rfl), (Nat.le_of_ble_eq_true rfl)⟩ dX12_next0_166) (fun y166 hy => ?_)
                obtain ⟨r166, rfl, g_r166, hw⟩ := hy
                refine k_iadd (v := zI ((10 * value_126) + r166)) C (zI_iadd _ _) dX12_next0_169 ?_
                refine lv_bipush (v := zI 48) C.1 C.2.1 dX12_next0_170 (by decide) ?_
                refine k_isub (v := zI (((10 * value_126) + r166) - 48)) C (zI_isub _ _) dX12_next0_172 ?_
                obtain ⟨g173_0, hw⟩ := hw
                refine k_putM C Wd 11 (sI (sI (sI I 8 at0_126) 10 tokenAt_126) 11 (((10 * value_126) + r166) - 48)) (by decide) fl_X12_176 rfl rfl rfl rfl (rsI (rsI (rsI hS.1 (Wd126.2.1 8)) (Wd126.2.1 10)) g173_0) dX12_next0_173 (fun H locs Wd => ?_)
                refine lv_aload_n C.1 C.2.1 dX12_next0_176 rfl (lv_at hl 0 rfl) ?_
                refine lv_dup C.1 C.2.1 dX12_next0_177 rfl ?_
                refine k_get (v := .int (zI at0_126)) C Wd.1 KX12 0 8 wM0 (by decide) fl_X12_127 rfl dX12_next0_178 ?_
                refine lv_iconst (v := zI 1) C.1 C.2.1 dX12_next0_181 (by decide) ?_
                refine k_iadd (v := zI (at0_126 + 1)) C (zI_iadd _ _) dX12_next0_182 ?_
                obtain ⟨g183_0, hw⟩ := hw
                refine k_putM C Wd 8 (sI (sI (sI I 8 (at0_126 + 1)) 10 tokenAt_126) 11 (((10 * value_126) + r166) - 48)) (by decide) fl_X12_127 rfl rfl rfl rfl (rsI (rsI (rsI hS.1 g183_0) (Wd126.2.1 10)) g173_0) dX12_next0_183 (fun H locs Wd => ?_)
                refine lv_goto (tgt := 126) C.1 C.2.1 dX12_next0_186 (by decide) ?_
                exact hL126 _ _ _ hw _ _ _ ⟨wMc Wd rfl rfl ⟨(rsI (rsI (rsI hS.1 g183_0) (Wd126.2.1 10)) g173_0), hS.2⟩, lv_sub hl [0] rfl⟩
        · have hw := hw.2 (z0_ne g_r70 c73)
          refine k_lp2 hw (fun (at0_76 : Int) (tokenAt_76 : Int) H locs ls => wXM D ca s h ad (sI (sI I 8 at0_76) 10 tokenAt_76) F H A s.heap locs ∧ lv_has ls 3 [(0, .ref h)]) (fun (at0_76 : Int) (tokenAt_76 : Int) ls => F0 m 76 ls []) (fun L76 hL76 at0_76 tokenAt_76 hw H locs ls hi => ?_) _ _ _ ⟨wMc Wd rfl rfl ⟨(rsI (rsI hS.1 (Wd0.2.1 8)) (Wd0.2.1 8)), hS.2⟩, lv_sub hl [0] rfl⟩
          obtain ⟨Wd, hl⟩ := hi
          have Wd76 := Wd
          unfold wp_next0_76 at hw
          refine lv_aload_n C.1 C.2.1 dX12_next0_76 rfl (lv_at hl 0 rfl) ?_
          refine lv_aload_n C.1 C.2.1 dX12_next0_77 rfl (lv_at hl 0 rfl) ?_
          refine k_get (v := .int (zI at0_76)) C Wd.1 KX12 0 8 wM0 (by decide) fl_X12_127 rfl dX12_next0_78 ?_
          refine k_pi (k_runVM (rest := []) C aks Wd cs_X12_161 (mt_see D h ad ca (sI (sI I 8 at0_76) 10 tokenAt_76) F Wd.2 at0_76 (Wd76.2.1 8) _ hw l _) rfl rfl ⟨(Nat.le_of_ble_eq_true rfl), (Nat.le_of_ble_eq_true rfl)⟩ hl.1 rfl rfl (Nat.le_of_ble_eq_true rfl) ⟨(Nat.le_of_ble_eq_true rfl), (Nat.le_of_ble_eq_true rfl)⟩ dX12_next0_81) (fun y81 hy => ?_)
          obtain ⟨r81, rfl, g_r81, hw⟩ := hy
          refine k_pi (k_runS (rest := []) C aks Wd.1 cs_X12_167 (mt_isLetter D r81 g_r81 _ hw l _) [] rfl (by decide) [] rfl rfl rfl ⟨(Nat.le_of_ble_eq_true rfl), (Nat.le_of_ble_eq_true rfl)⟩ hl.1 rfl rfl (Nat.le_of_ble_eq_true rfl) ⟨(Nat.le_of_ble_eq_true rfl), (Nat.le_of_ble_eq_true rfl)⟩ dX12_next0_84) (fun y84 hy => ?_)
          obtain ⟨r84, rfl, g_r84, hw⟩ := hy
          refine lv_if_eq (tgt := 103) C.1 C.2.1 dX12_next0_87 (by decide) (fun c87 => ?_) (fun c87 => ?_)
          · have hw := hw.1 (z0_eq g_r84 c87)
            refine lv_aload_n C.1 C.2.1 dX12_next0_103 rfl (lv_at hl 0 rfl) ?_
            refine lv_aload_n C.1 C.2.1 dX12_next0_104 rfl (lv_at hl 0 rfl) ?_
            refine k_pi (k_runVMS (rest := [.ref h]) C aks hE Wd cs_X12_170 (mt_word D h ad ca (sI (sI I 8 at0_76) 10 tokenAt_76) F Wd.2 adK adV tq   _ hw l _) rfl rfl ⟨(Nat.le_of_ble_eq_true rfl), (Nat.le_of_ble_eq_true rfl)⟩ hl.1 rfl rfl (Nat.le_of_ble_eq_true rfl) ⟨(Nat.le_of_ble_eq_true rfl), (Nat.le_of_ble_eq_true rfl)⟩ dX12_next0_105) (fun y105 hy => ?_)
            obtain ⟨r105, rfl, g_r105, hw⟩ := hy
            refine k_putM C Wd 9 (sI (sI (sI I 8 at0_76) 9 r105) 10 tokenAt_76) (by decide) fl_X12_164 rfl rfl rfl rfl (rsI (rsI (rsI hS.1 (Wd76.2.1 8)) g_r105) (Wd76.2.1 10)) dX12_next0_108 (fun H locs Wd => ?_)
            refine lv_goto (tgt := 351) C.1 C.2.1 dX12_next0_111 (by decide) ?_
            exact k_retMv C hr hlk Wd (u := (at0_76, r105, tokenAt_76, (I 11))) rfl rfl ⟨hw, ⟨(rsI (rsI (rsI (rsI hS.1 (Wd76.2.1 8)) g_r105) (Wd76.2.1 10)) (hS.1 11)), hS.2⟩⟩ dX12_next0_351
          · have hw := hw.2 (z0_ne g_r84 c87)
            refine lv_aload_n C.1 C.2.1 dX12_next0_90 rfl (lv_at hl 0 rfl) ?_
            refine lv_dup C.1 C.2.1 dX12_next0_91 rfl ?_
            refine k_get (v := .int (zI at0_76)) C Wd.1 KX12 0 8 wM0 (by decide) fl_X12_127 rfl dX12_next0_92 ?_
            refine lv_iconst (v := zI 1) C.1 C.2.1 dX12_next0_95 (by decide) ?_
            refine k_iadd (v := zI (at0_76 + 1)) C (zI_iadd _ _) dX12_next0_96 ?_
            obtain ⟨g97_0, hw⟩ := hw
            refine k_putM C Wd 8 (sI (sI I 8 (at0_76 + 1)) 10 tokenAt_76) (by decide) fl_X12_127 rfl rfl rfl rfl (rsI (rsI hS.1 g97_0) (Wd76.2.1 10)) dX12_next0_97 (fun H locs Wd => ?_)
            refine lv_goto (tgt := 76) C.1 C.2.1 dX12_next0_100 (by decide) ?_
            exact hL76 _ _ hw _ _ _ ⟨wMc Wd rfl rfl ⟨(rsI (rsI hS.1 g97_0) (Wd76.2.1 10)), hS.2⟩, lv_sub hl [0] rfl⟩
      · have hw := hw.2 (z_eq g_r52 (show rng (-1) from by decide) c58)
        refine lv_aload_n C.1 C.2.1 dX12_next0_61 rfl (lv_at hl 0 rfl) ?_
        refine lv_iconst (v := zI 0) C.1 C.2.1 dX12_next0_62 (by decide) ?_
        refine k_putM C Wd 9 (sI (sI (sI I 8 at0_0) 9 0) 10 at0_0) (by decide) fl_X12_164 rfl rfl rfl rfl (rsI (rsI (rsI hS.1 (Wd0.2.1 8)) (show rng 0 from by decide)) (Wd0.2.1 8)) dX12_next0_63 (fun H locs Wd => ?_)
        refine lv_goto (tgt := 351) C.1 C.2.1 dX12_next0_66 (by decide) ?_
        exact k_retMv C hr hlk Wd (u := (at0_0, 0, at0_0, (I 11))) rfl rfl ⟨hw, ⟨(rsI (rsI (rsI (rsI hS.1 (Wd0.2.1 8)) (show rng 0 from by decide)) (Wd0.2.1 8)) (hS.1 11)), hS.2⟩⟩ dX12_next0_351
    · have hw := hw.2 (z_eq g_r18 (show rng 10 from by decide) c23)
      refine lv_aload_n C.1 C.2.1 dX12_next0_26 rfl (lv_at hl 0 rfl) ?_
      refine lv_dup C.1 C.2.1 dX12_next0_27 rfl ?_
      refine k_get (v := .int (zI at0_0)) C Wd.1 KX12 0 8 wM0 (by decide) fl_X12_127 rfl dX12_next0_28 ?_
      refine lv_iconst (v := zI 1) C.1 C.2.1 dX12_next0_31 (by decide) ?_
      refine k_iadd (v := zI (at0_0 + 1)) C (zI_iadd _ _) dX12_next0_32 ?_
      obtain ⟨g33_0, hw⟩ := hw
      refine k_putM C Wd 8 (sI I 8 (at0_0 + 1)) (by decide) fl_X12_127 rfl rfl rfl rfl (rsI hS.1 g33_0) dX12_next0_33 (fun H locs Wd => ?_)
      refine lv_goto (tgt := 0) C.1 C.2.1 dX12_next0_36 (by decide) ?_
      exact hL0 _ hw _ _ _ ⟨wMc Wd rfl rfl ⟨(rsI hS.1 g33_0), hS.2⟩, lv_sub hl [0] rfl⟩
