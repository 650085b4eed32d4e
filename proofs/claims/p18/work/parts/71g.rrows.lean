set_option maxHeartbeats 4000000 in
set_option maxRecDepth 100000 in
theorem mt_isPass : ∀ (D : va_G) (x0 : Int) (g_x0 : rng x0) (K : Int → Prop) (hw : wp_isPass x0 K) (l : Launch) (sz : Nat), Met l yX12_isPass (Cond.code yX12_isPass cX12_isPass 1 (some .boolean) :: gG) { frames := 2, cells := 0, slots := 0, locals := 86 } (cPre D [] [] sz [.int (zI x0)]) (vp_Si (fun r => ∃ x : Int, r = zI x ∧ rng x ∧ K x)) 0 0 (fun _ => False) := by
  intro D x0 g_x0 K hw l sz
  refine Met.ofW (cc := cX12_isPass) (maxL := 1) (ret := (some .boolean)) (by decide) rfl ?_
  intro p e s m args below meth c s₁ B hml hv
  obtain ⟨rfl, aks, rfl, Wd⟩ := k_enter hv
  have C : CallFix p m c cX12_isPass 1 s _ gG RX12 := ⟨B.exec, B.bytes, hml, findClass_of_methodNamed B.named, fun w h => atoms_spec (ws := Cond.code yX12_isPass cX12_isPass 1 (some .boolean) :: gG) B.pre w (List.mem_cons_of_mem _ h)⟩
  have hr := B.returns
  have hlk := B.notSynchronized
  obtain ⟨A, Wd⟩ : ∃ A, wX D [] s [] s.heap A s.heap [] := ⟨_, Wd⟩
  refine k_locals (Nat.le_of_ble_eq_true rfl) [(0, .int (zI x0))] rfl (fun ls hl => ?_)
  unfold wp_isPass at hw
  refine lv_iload_n C.1 C.2.1 dX12_isPass_0 rfl (lv_at hl 0 rfl) ?_
  refine lv_iconst (v := zI 0) C.1 C.2.1 dX12_isPass_1 (by decide) ?_
  refine lv_iconst (v := zI 5) C.1 C.2.1 dX12_isPass_2 (by decide) ?_
  refine k_pi (k_runS (rest := []) C aks Wd cs_X12_90 (mt_isIn D x0 0 5 g_x0 (show rng 0 from by decide) (show rng 5 from by decide) _ hw l _) [] rfl (by decide) [] rfl rfl rfl ⟨(Nat.le_of_ble_eq_true rfl), (Nat.le_of_ble_eq_true rfl)⟩ hl.1 rfl rfl (Nat.le_of_ble_eq_true rfl) ⟨(Nat.le_of_ble_eq_true rfl), (Nat.le_of_ble_eq_true rfl)⟩ dX12_isPass_3) (fun y3 hy => ?_)
  obtain ⟨r3, rfl, g_r3, hw⟩ := hy
  obtain ⟨b6_0, hw⟩ := hw
  exact k_zretP C hr hlk (zI_nb b6_0) ⟨_, rfl, g_r3, hw⟩ dX12_isPass_6
set_option maxHeartbeats 4000000 in
set_option maxRecDepth 100000 in
theorem mt_item : ∀ (D : va_G) (h : Nat) (ad : Nat → Nat) (ca : Nat → ClassId) (I : Nat → Int) (F : Nat → Int → Int) (hS : rngS I F) (x0 : Int) (x1 : Int) (g_x0 : rng x0) (g_x1 : rng x1) (K : Int → (Int → Int) → (Int → Int) → Prop) (hw : wp_item (I 23) (F 49) (F 50) x0 x1 K) (l : Launch) (sz : Nat), Met l yX12_item (Cond.code yX12_item cX12_item 3 (some .int) :: gG) { frames := 3, cells := 0, slots := 0, locals := 106 } (cPre D (tM ca) (wM h ad ca I F) sz [.ref h, .int (zI x0), .int (zI x1)]) (va_Qi (fun (r : Int32) (u : (Int → Int) × (Int → Int)) => (∃ x : Int, r = zI x ∧ rng x ∧ K x u.1 u.2) ∧ rngS I (sF (sF F 49 u.1) 50 u.2)) (fun u t => cB D (va_A (wM h ad ca I F) sz) [] (wM h ad ca I (sF (sF F 49 u.1) 50 u.2)) t) (va_A (wM h ad ca I F) sz)) 0 0 (va_A (wM h ad ca I F) sz) := by
  intro D h ad ca I F hS x0 x1 g_x0 g_x1 K hw l sz
  refine Met.ofW (cc := cX12_item) (maxL := 3) (ret := (some .int)) (by decide) rfl ?_
  intro p e s m args below meth c s₁ B hml hv
  obtain ⟨rfl, aks, rfl, Wd⟩ := k_enter hv
  have C : CallFix p m c cX12_item 3 s _ gG RX12 := ⟨B.exec, B.bytes, hml, findClass_of_methodNamed B.named, fun w h => atoms_spec (ws := Cond.code yX12_item cX12_item 3 (some .int) :: gG) B.pre w (List.mem_cons_of_mem _ h)⟩
  have hr := B.returns
  have hlk := B.notSynchronized
  generalize va_A (wM h ad ca I F) s.heap.size = A at Wd ⊢
  replace Wd : wXM D ca s h ad I F s.heap A s.heap [] := ⟨Wd, hS⟩
  refine k_locals (Nat.le_of_ble_eq_true rfl) [(0, .ref h), (1, .int (zI x0)), (2, .int (zI x1))] rfl (fun ls hl => ?_)
  unfold wp_item at hw
  refine lv_iload_n C.1 C.2.1 dX12_item_0 rfl (lv_at hl 1 rfl) ?_
  refine k_pi (k_runS (rest := []) C aks Wd.1 cs_X12_423 (mt_isPass D x0 g_x0 _ hw l _) [] rfl (by decide) [] rfl rfl rfl ⟨(Nat.le_of_ble_eq_true rfl), (Nat.le_of_ble_eq_true rfl)⟩ hl.1 rfl rfl (Nat.le_of_ble_eq_true rfl) ⟨(Nat.le_of_ble_eq_true rfl), (Nat.le_of_ble_eq_true rfl)⟩ dX12_item_1) (fun y1 hy => ?_)
  obtain ⟨r1, rfl, g_r1, hw⟩ := hy
  refine lv_if_eq (tgt := 43) C.1 C.2.1 dX12_item_4 (by decide) (fun c4 => ?_) (fun c4 => ?_)
  · have hw := hw.1 (z0_eq g_r1 c4)
    refine lv_iconst (v := zI (-1)) C.1 C.2.1 dX12_item_43 (by decide) ?_
    exact k_retMi C hr hlk rfl Wd (u := ((F 49), (F 50))) rfl rfl ⟨⟨_, rfl, (show rng (-1) from by decide), hw⟩, ⟨hS.1, (rsF (rsF hS.2 (hS.2 49)) (hS.2 50))⟩⟩ dX12_item_44
  · have hw := hw.2 (z0_ne g_r1 c4)
    refine lv_iload_n C.1 C.2.1 dX12_item_7 rfl (lv_at hl 2 rfl) ?_
    refine lv_iconst (v := zI 0) C.1 C.2.1 dX12_item_8 (by decide) ?_
    refine lv_aload_n C.1 C.2.1 dX12_item_9 rfl (lv_at hl 0 rfl) ?_
    refine k_get (v := .int (zI (I 23))) C Wd.1 KX12 0 23 wM0 (by decide) fl_X12_268 rfl dX12_item_10 ?_
    refine lv_iconst (v := zI 1) C.1 C.2.1 dX12_item_13 (by decide) ?_
    refine k_isub (v := zI ((I 23) - 1)) C (zI_isub _ _) dX12_item_14 ?_
    obtain ⟨g15_0, hw⟩ := hw
    refine k_pi (k_runS (rest := []) C aks Wd.1 cs_X12_90 (mt_isIn D x1 0 ((I 23) - 1) g_x1 (show rng 0 from by decide) g15_0 _ hw l _) [] rfl (by decide) [] rfl rfl rfl ⟨(Nat.le_of_ble_eq_true rfl), (Nat.le_of_ble_eq_true rfl)⟩ hl.1 rfl rfl (Nat.le_of_ble_eq_true rfl) ⟨(Nat.le_of_ble_eq_true rfl), (Nat.le_of_ble_eq_true rfl)⟩ dX12_item_15) (fun y15 hy => ?_)
    obtain ⟨r15, rfl, g_r15, hw⟩ := hy
    refine k_cut0 (fun  H locs ls => wp_item_32 K (F 49) (F 50) x0 x1 ∧ wXM D ca s h ad I F H A s.heap locs ∧ lv_has ls 3 [(0, .ref h), (1, .int (zI x0)), (2, .int (zI x1))]) (fun  ls => F0 m 32 ls []) (fun  H locs ls hi => ?_) (fun J32 => ?_)
    · obtain ⟨hw, Wd, hl⟩ := hi
      have Wd32 := Wd
      unfold wp_item_32 at hw
      refine lv_aload_n C.1 C.2.1 dX12_item_32 rfl (lv_at hl 0 rfl) ?_
      refine k_get (v := .ref (ad 50)) C Wd.1 KX12 0 50 wM0 (by decide) fl_X12_75 rfl dX12_item_33 ?_
      refine lv_iload_n C.1 C.2.1 dX12_item_36 rfl (lv_at hl 1 rfl) ?_
      obtain ⟨a37, hw⟩ := hw
      refine k_ialdM (g := (F 50)) C Wd 21 20 rfl rfl a37 (by decide) dX12_item_37 ?_
      have g37 : rng ((F 50) x0) := rngL (hS.2 50) a37
      refine lv_bipush (v := zI 8) C.1 C.2.1 dX12_item_38 (by decide) ?_
      refine lv_icmp_ne (tgt := 45) C.1 C.2.1 dX12_item_40 (by decide) (fun c40 => ?_) (fun c40 => ?_)
      · have hw := hw.1 (z_ne g37 (show rng 8 from by decide) c40)
        refine lv_aload_n C.1 C.2.1 dX12_item_45 rfl (lv_at hl 0 rfl) ?_
        refine k_get (v := .ref (ad 49)) C Wd.1 KX12 0 49 wM0 (by decide) fl_X12_72 rfl dX12_item_46 ?_
        refine lv_bipush (v := zI 8) C.1 C.2.1 dX12_item_49 (by decide) ?_
        refine lv_iload_n C.1 C.2.1 dX12_item_51 rfl (lv_at hl 1 rfl) ?_
        refine k_imul (v := zI (8 * x0)) C (zI_imul _ _) dX12_item_52 ?_
        refine lv_aload_n C.1 C.2.1 dX12_item_53 rfl (lv_at hl 0 rfl) ?_
        refine k_get (v := .ref (ad 50)) C Wd.1 KX12 0 50 wM0 (by decide) fl_X12_75 rfl dX12_item_54 ?_
        refine lv_iload_n C.1 C.2.1 dX12_item_57 rfl (lv_at hl 1 rfl) ?_
        obtain ⟨a58, hw⟩ := hw
        refine k_ialdM (g := (F 50)) C Wd 21 20 rfl rfl a58 (by decide) dX12_item_58 ?_
        refine k_iadd (v := zI ((8 * x0) + ((F 50) x0))) C (zI_iadd _ _) dX12_item_59 ?_
        refine lv_iload_n C.1 C.2.1 dX12_item_60 rfl (lv_at hl 2 rfl) ?_
        obtain ⟨a61, hw⟩ := hw
        have q61 : ∀ j : Nat, rng ((uZ (F 49) ((8 * x0) + ((F 50) x0)) x1) j) := ruZ (hS.2 49) g_x1
        refine k_iastM (g := (F 49)) C Wd 19 19 (sF F 49 (uZ (F 49) ((8 * x0) + ((F 50) x0)) x1)) rfl rfl a61 (by decide) rfl rfl (rsF hS.2 q61) dX12_item_61 (fun H locs Wd => ?_)
        refine lv_aload_n C.1 C.2.1 dX12_item_62 rfl (lv_at hl 0 rfl) ?_
        refine k_get (v := .ref (ad 50)) C Wd.1 KX12 0 50 wM0 (by decide) fl_X12_75 rfl dX12_item_63 ?_
        refine lv_iload_n C.1 C.2.1 dX12_item_66 rfl (lv_at hl 1 rfl) ?_
        refine lv_dup2_11 C.1 C.2.1 dX12_item_67 rfl rfl ?_
        obtain ⟨a68, hw⟩ := hw
        refine k_ialdM (g := (F 50)) C Wd 21 20 rfl rfl a68 (by decide) dX12_item_68 ?_
        refine lv_iconst (v := zI 1) C.1 C.2.1 dX12_item_69 (by decide) ?_
        refine k_iadd (v := zI (((F 50) x0) + 1)) C (zI_iadd _ _) dX12_item_70 ?_
        obtain ⟨g71_0, hw⟩ := hw
        obtain ⟨a71, hw⟩ := hw
        have q71 : ∀ j : Nat, rng ((uZ (F 50) x0 (((F 50) x0) + 1)) j) := ruZ (hS.2 50) g71_0
        refine k_iastM (g := (F 50)) C Wd 20 20 (sF (sF F 49 (uZ (F 49) ((8 * x0) + ((F 50) x0)) x1)) 50 (uZ (F 50) x0 (((F 50) x0) + 1))) rfl rfl a71 (by decide) rfl rfl (rsF (rsF hS.2 q61) q71) dX12_item_71 (fun H locs Wd => ?_)
        refine lv_aload_n C.1 C.2.1 dX12_item_72 rfl (lv_at hl 0 rfl) ?_
        refine k_get (v := .ref (ad 50)) C Wd.1 KX12 0 50 wM0 (by decide) fl_X12_75 rfl dX12_item_73 ?_
        refine lv_iload_n C.1 C.2.1 dX12_item_76 rfl (lv_at hl 1 rfl) ?_
        obtain ⟨a77, hw⟩ := hw
        refine k_ialdM (g := (uZ (F 50) x0 (((F 50) x0) + 1))) C Wd 21 20 rfl rfl a77 (by decide) dX12_item_77 ?_
        have g77 : rng ((uZ (F 50) x0 (((F 50) x0) + 1)) x0) := rngL q71 a77
        exact k_retMi C hr hlk rfl Wd (u := ((uZ (F 49) ((8 * x0) + ((F 50) x0)) x1), (uZ (F 50) x0 (((F 50) x0) + 1)))) rfl rfl ⟨⟨_, rfl, g77, hw⟩, ⟨hS.1, (rsF (rsF hS.2 q61) q71)⟩⟩ dX12_item_78
      · have hw := hw.2 (z_eq g37 (show rng 8 from by decide) c40)
        refine lv_iconst (v := zI (-1)) C.1 C.2.1 dX12_item_43 (by decide) ?_
        exact k_retMi C hr hlk rfl Wd (u := ((F 49), (F 50))) rfl rfl ⟨⟨_, rfl, (show rng (-1) from by decide), hw⟩, ⟨hS.1, (rsF (rsF hS.2 (hS.2 49)) (hS.2 50))⟩⟩ dX12_item_44
    refine lv_if_ne (tgt := 32) C.1 C.2.1 dX12_item_18 (by decide) (fun c18 => ?_) (fun c18 => ?_)
    · have hw := hw.1 (z0_ne g_r15 c18)
      exact J32  _ _ _ ⟨hw, Wd, lv_sub hl [0, 1, 2] rfl⟩
    · have hw := hw.2 (z0_eq g_r15 c18)
      refine lv_iload_n C.1 C.2.1 dX12_item_21 rfl (lv_at hl 2 rfl) ?_
      refine lv_bipush (v := zI 20) C.1 C.2.1 dX12_item_22 (by decide) ?_
      refine lv_bipush (v := zI 24) C.1 C.2.1 dX12_item_24 (by decide) ?_
      refine k_pi (k_runS (rest := []) C aks Wd.1 cs_X12_90 (mt_isIn D x1 20 24 g_x1 (show rng 20 from by decide) (show rng 24 from by decide) _ hw l _) [] rfl (by decide) [] rfl rfl rfl ⟨(Nat.le_of_ble_eq_true rfl), (Nat.le_of_ble_eq_true rfl)⟩ hl.1 rfl rfl (Nat.le_of_ble_eq_true rfl) ⟨(Nat.le_of_ble_eq_true rfl), (Nat.le_of_ble_eq_true rfl)⟩ dX12_item_26) (fun y26 hy => ?_)
      obtain ⟨r26, rfl, g_r26, hw⟩ := hy
      refine lv_if_eq (tgt := 43) C.1 C.2.1 dX12_item_29 (by decide) (fun c29 => ?_) (fun c29 => ?_)
      · have hw := hw.1 (z0_eq g_r26 c29)
        refine lv_iconst (v := zI (-1)) C.1 C.2.1 dX12_item_43 (by decide) ?_
        exact k_retMi C hr hlk rfl Wd (u := ((F 49), (F 50))) rfl rfl ⟨⟨_, rfl, (show rng (-1) from by decide), hw⟩, ⟨hS.1, (rsF (rsF hS.2 (hS.2 49)) (hS.2 50))⟩⟩ dX12_item_44
      · have hw := hw.2 (z0_ne g_r26 c29)
        exact J32  _ _ _ ⟨hw, Wd, lv_sub hl [0, 1, 2] rfl⟩
set_option maxHeartbeats 4000000 in
set_option maxRecDepth 100000 in
theorem mt_clear : ∀ (D : va_G) (h : Nat) (ad : Nat → Nat) (ca : Nat → ClassId) (I : Nat → Int) (F : Nat → Int → Int) (hS : rngS I F) (x0 : Int) (g_x0 : rng x0) (K : Int → (Int → Int) → Prop) (hw : wp_clear (F 50) x0 K) (l : Launch) (sz : Nat), Met l yX12_clear (Cond.code yX12_clear cX12_clear 2 (some .boolean) :: gG) { frames := 3, cells := 0, slots := 0, locals := 106 } (cPre D (tM ca) (wM h ad ca I F) sz [.ref h, .int (zI x0)]) (va_Qi (fun (r : Int32) (u : (Int → Int)) => (∃ x : Int, r = zI x ∧ rng x ∧ K x u) ∧ rngS I (sF F 50 u)) (fun u t => cB D (va_A (wM h ad ca I F) sz) [] (wM h ad ca I (sF F 50 u)) t) (va_A (wM h ad ca I F) sz)) 0 0 (va_A (wM h ad ca I F) sz) := by
  intro D h ad ca I F hS x0 g_x0 K hw l sz
  refine Met.ofW (cc := cX12_clear) (maxL := 2) (ret := (some .boolean)) (by decide) rfl ?_
  intro p e s m args below meth c s₁ B hml hv
  obtain ⟨rfl, aks, rfl, Wd⟩ := k_enter hv
  have C : CallFix p m c cX12_clear 2 s _ gG RX12 := ⟨B.exec, B.bytes, hml, findClass_of_methodNamed B.named, fun w h => atoms_spec (ws := Cond.code yX12_clear cX12_clear 2 (some .boolean) :: gG) B.pre w (List.mem_cons_of_mem _ h)⟩
  have hr := B.returns
  have hlk := B.notSynchronized
  generalize va_A (wM h ad ca I F) s.heap.size = A at Wd ⊢
  replace Wd : wXM D ca s h ad I F s.heap A s.heap [] := ⟨Wd, hS⟩
  refine k_locals (Nat.le_of_ble_eq_true rfl) [(0, .ref h), (1, .int (zI x0))] rfl (fun ls hl => ?_)
  unfold wp_clear at hw
  refine lv_iload_n C.1 C.2.1 dX12_clear_0 rfl (lv_at hl 1 rfl) ?_
  refine k_pi (k_runS (rest := []) C aks Wd.1 cs_X12_423 (mt_isPass D x0 g_x0 _ hw l _) [] rfl (by decide) [] rfl rfl rfl ⟨(Nat.le_of_ble_eq_true rfl), (Nat.le_of_ble_eq_true rfl)⟩ hl.1 rfl rfl (Nat.le_of_ble_eq_true rfl) ⟨(Nat.le_of_ble_eq_true rfl), (Nat.le_of_ble_eq_true rfl)⟩ dX12_clear_1) (fun y1 hy => ?_)
  obtain ⟨r1, rfl, g_r1, hw⟩ := hy
  refine lv_if_ne (tgt := 9) C.1 C.2.1 dX12_clear_4 (by decide) (fun c4 => ?_) (fun c4 => ?_)
  · have hw := hw.1 (z0_ne g_r1 c4)
    refine lv_aload_n C.1 C.2.1 dX12_clear_9 rfl (lv_at hl 0 rfl) ?_
    refine k_get (v := .ref (ad 50)) C Wd.1 KX12 0 50 wM0 (by decide) fl_X12_75 rfl dX12_clear_10 ?_
    refine lv_iload_n C.1 C.2.1 dX12_clear_13 rfl (lv_at hl 1 rfl) ?_
    refine lv_iconst (v := zI 0) C.1 C.2.1 dX12_clear_14 (by decide) ?_
    obtain ⟨a15, hw⟩ := hw
    have q15 : ∀ j : Nat, rng ((uZ (F 50) x0 0) j) := ruZ (hS.2 50) (show rng 0 from by decide)
    refine k_iastM (g := (F 50)) C Wd 20 20 (sF F 50 (uZ (F 50) x0 0)) rfl rfl a15 (by decide) rfl rfl (rsF hS.2 q15) dX12_clear_15 (fun H locs Wd => ?_)
    refine lv_iconst (v := zI 1) C.1 C.2.1 dX12_clear_16 (by decide) ?_
    exact k_retMi C hr hlk (by decide) Wd (u := (uZ (F 50) x0 0)) rfl rfl ⟨⟨_, rfl, (show rng 1 from by decide), hw⟩, ⟨hS.1, (rsF hS.2 q15)⟩⟩ dX12_clear_17
  · have hw := hw.2 (z0_eq g_r1 c4)
    refine lv_iconst (v := zI 0) C.1 C.2.1 dX12_clear_7 (by decide) ?_
    exact k_retMi C hr hlk (by decide) Wd (u := (F 50)) rfl rfl ⟨⟨_, rfl, (show rng 0 from by decide), hw⟩, ⟨hS.1, (rsF hS.2 (hS.2 50))⟩⟩ dX12_clear_8
set_option maxHeartbeats 4000000 in
set_option maxRecDepth 100000 in
theorem mt_isSmall : ∀ (D : va_G) (h : Nat) (ad : Nat → Nat) (ca : Nat → ClassId) (I : Nat → Int) (F : Nat → Int → Int) (hS : rngS I F) (K : Int → Prop) (hw : wp_isSmall (F 2) (I 4) K) (l : Launch) (sz : Nat), Met l yX12_isSmall (Cond.code yX12_isSmall cX12_isSmall 1 (some .boolean) :: gG) { frames := 4, cells := 0, slots := 0, locals := 129 } (cPre D (tM ca) (wM h ad ca I F) sz [.ref h]) (vp_Si (fun r => ∃ x : Int, r = zI x ∧ rng x ∧ K x)) 0 0 (fun _ => False) := by
  intro D h ad ca I F hS  K hw l sz
  refine Met.ofW (cc := cX12_isSmall) (maxL := 1) (ret := (some .boolean)) (by decide) rfl ?_
  intro p e s m args below meth c s₁ B hml hv
  obtain ⟨rfl, aks, rfl, Wd⟩ := k_enter hv
  have C : CallFix p m c cX12_isSmall 1 s _ gG RX12 := ⟨B.exec, B.bytes, hml, findClass_of_methodNamed B.named, fun w h => atoms_spec (ws := Cond.code yX12_isSmall cX12_isSmall 1 (some .boolean) :: gG) B.pre w (List.mem_cons_of_mem _ h)⟩
  have hr := B.returns
  have hlk := B.notSynchronized
  obtain ⟨A, Wd⟩ : ∃ A, wXM D ca s h ad I F s.heap A s.heap [] := ⟨_, Wd, hS⟩
  refine k_locals (Nat.le_of_ble_eq_true rfl) [(0, .ref h)] rfl (fun ls hl => ?_)
  unfold wp_isSmall at hw
  refine lv_aload_n C.1 C.2.1 dX12_isSmall_0 rfl (lv_at hl 0 rfl) ?_
  refine k_pi (k_runVM (rest := []) C aks Wd cs_X12_265 (mt_statements D h ad ca I F Wd.2   _ hw l _) rfl rfl ⟨(Nat.le_of_ble_eq_true rfl), (Nat.le_of_ble_eq_true rfl)⟩ hl.1 rfl rfl (Nat.le_of_ble_eq_true rfl) ⟨(Nat.le_of_ble_eq_true rfl), (Nat.le_of_ble_eq_true rfl)⟩ dX12_isSmall_1) (fun y1 hy => ?_)
  obtain ⟨r1, rfl, g_r1, hw⟩ := hy
  refine lv_bipush (v := zI 40) C.1 C.2.1 dX12_isSmall_4 (by decide) ?_
  refine lv_icmp_gt (tgt := 23) C.1 C.2.1 dX12_isSmall_6 (by decide) (fun c6 => ?_) (fun c6 => ?_)
  · have hw := hw.1 (z_lt (show rng 40 from by decide) g_r1 c6)
    refine lv_iconst (v := zI 0) C.1 C.2.1 dX12_isSmall_23 (by decide) ?_
    exact k_zretP C hr hlk (by decide) ⟨_, rfl, (show rng 0 from by decide), hw⟩ dX12_isSmall_24
  · have hw := hw.2 (z_nlt (show rng 40 from by decide) g_r1 c6)
    refine lv_aload_n C.1 C.2.1 dX12_isSmall_9 rfl (lv_at hl 0 rfl) ?_
    refine k_pi (k_runVM (rest := []) C aks Wd cs_X12_274 (mt_parts D h ad ca I F Wd.2   _ hw l _) rfl rfl ⟨(Nat.le_of_ble_eq_true rfl), (Nat.le_of_ble_eq_true rfl)⟩ hl.1 rfl rfl (Nat.le_of_ble_eq_true rfl) ⟨(Nat.le_of_ble_eq_true rfl), (Nat.le_of_ble_eq_true rfl)⟩ dX12_isSmall_10) (fun y10 hy => ?_)
    obtain ⟨r10, rfl, g_r10, hw⟩ := hy
    refine lv_sipush (v := zI 300) C.1 C.2.1 dX12_isSmall_13 (zS (by decide) (by decide)) ?_
    refine lv_icmp_gt (tgt := 23) C.1 C.2.1 dX12_isSmall_16 (by decide) (fun c16 => ?_) (fun c16 => ?_)
    · have hw := hw.1 (z_lt (show rng 300 from by decide) g_r10 c16)
      refine lv_iconst (v := zI 0) C.1 C.2.1 dX12_isSmall_23 (by decide) ?_
      exact k_zretP C hr hlk (by decide) ⟨_, rfl, (show rng 0 from by decide), hw⟩ dX12_isSmall_24
    · have hw := hw.2 (z_nlt (show rng 300 from by decide) g_r10 c16)
      refine lv_iconst (v := zI 1) C.1 C.2.1 dX12_isSmall_19 (by decide) ?_
      refine lv_goto (tgt := 24) C.1 C.2.1 dX12_isSmall_20 (by decide) ?_
      exact k_zretP C hr hlk (by decide) ⟨_, rfl, (show rng 1 from by decide), hw⟩ dX12_isSmall_24
set_option maxHeartbeats 4000000 in
set_option maxRecDepth 100000 in
theorem mt_again : ∀ (D : va_G) (h : Nat) (ad : Nat → Nat) (ca : Nat → ClassId) (I : Nat → Int) (F : Nat → Int → Int) (hS : rngS I F) (x0 : Int) (g_x0 : rng x0) (K : Int → (Int → Int) → (Int → Int) → Int → Int → (Int → Int) → Int → Prop) (hw : wp_again (F 2) (F 3) (I 4) (I 5) (F 24) (F 25) (F 26) (F 45) (I 46) x0 K) (l : Launch) (sz : Nat), Met l yX12_again (Cond.code yX12_again cX12_again 4 (some .boolean) :: gG) { frames := 609, cells := 0, slots := 0, locals := 13184 } (cPre D (tM ca) (wM h ad ca I F) sz [.ref h, .int (zI x0)]) (va_Qi (fun (r : Int32) (u : (Int → Int) × (Int → Int) × (Int) × (Int) × (Int → Int) × (Int)) => (∃ x : Int, r = zI x ∧ rng x ∧ K x u.1 u.2.1 u.2.2.1 u.2.2.2.1 u.2.2.2.2.1 u.2.2.2.2.2) ∧ rngS (sI (sI (sI I 4 u.2.2.1) 5 u.2.2.2.1) 46 u.2.2.2.2.2) (sF (sF (sF F 2 u.1) 3 u.2.1) 45 u.2.2.2.2.1)) (fun u t => cB D (va_A (wM h ad ca I F) sz) [] (wM h ad ca (sI (sI (sI I 4 u.2.2.1) 5 u.2.2.2.1) 46 u.2.2.2.2.2) (sF (sF (sF F 2 u.1) 3 u.2.1) 45 u.2.2.2.2.1)) t) (va_A (wM h ad ca I F) sz)) 0 0 (va_A (wM h ad ca I F) sz) := by
  intro D h ad ca I F hS x0 g_x0 K hw l sz
  refine Met.ofW (cc := cX12_again) (maxL := 4) (ret := (some .boolean)) (by decide) rfl ?_
  intro p e s m args below meth c s₁ B hml hv
  obtain ⟨rfl, aks, rfl, Wd⟩ := k_enter hv
  have C : CallFix p m c cX12_again 4 s _ gG RX12 := ⟨B.exec, B.bytes, hml, findClass_of_methodNamed B.named, fun w h => atoms_spec (ws := Cond.code yX12_again cX12_again 4 (some .boolean) :: gG) B.pre w (List.mem_cons_of_mem _ h)⟩
  have hr := B.returns
  have hlk := B.notSynchronized
  generalize va_A (wM h ad ca I F) s.heap.size = A at Wd ⊢
  replace Wd : wXM D ca s h ad I F s.heap A s.heap [] := ⟨Wd, hS⟩
  refine k_locals (Nat.le_of_ble_eq_true rfl) [(0, .ref h), (1, .int (zI x0))] rfl (fun ls hl => ?_)
  unfold wp_again at hw
  refine lv_iconst (v := zI 0) C.1 C.2.1 dX12_again_0 (by decide) ?_
  refine lv_istore_n (lv' := [(2, .int (zI 0)), (0, .ref h), (1, .int (zI x0))]) C.1 C.2.1 dX12_again_1 rfl hl (by decide) rfl (fun ls hl => ?_)
  replace hl := lv_sub hl [1, 2, 0] rfl
  refine k_lp7 hw (fun (l2_2 : Int) (row_2 : Int → Int) (fresh_2 : Int → Int) (many_2 : Int) (made_2 : Int) (bound_2 : Int → Int) (patternAt_2 : Int) H locs ls => rng l2_2 ∧ wXM D ca s h ad (sI (sI (sI I 4 many_2) 5 made_2) 46 patternAt_2) (sF (sF (sF F 2 row_2) 3 fresh_2) 45 bound_2) H A s.heap locs ∧ lv_has ls 4 [(0, .ref h), (1, .int (zI x0)), (2, .int (zI l2_2))]) (fun (l2_2 : Int) (row_2 : Int → Int) (fresh_2 : Int → Int) (many_2 : Int) (made_2 : Int) (bound_2 : Int → Int) (patternAt_2 : Int) ls => F0 m 2 ls []) (fun L2 hL2 l2_2 row_2 fresh_2 many_2 made_2 bound_2 patternAt_2 hw H locs ls hi => ?_) _ _ _ ⟨(show rng 0 from by decide), wMc Wd rfl rfl ⟨(rsI (rsI (rsI hS.1 (hS.1 4)) (hS.1 5)) (hS.1 46)), (rsF (rsF (rsF hS.2 (hS.2 2)) (hS.2 3)) (hS.2 45))⟩, lv_sub hl [0, 1, 2] rfl⟩
  obtain ⟨g_l2_2, Wd, hl⟩ := hi
  have Wd2 := Wd
  unfold wp_again_2 at hw
  refine lv_iload_n C.1 C.2.1 dX12_again_2 rfl (lv_at hl 2 rfl) ?_
  refine lv_bipush (v := zI 50) C.1 C.2.1 dX12_again_3 (by decide) ?_
  refine lv_icmp_ge (tgt := 39) C.1 C.2.1 dX12_again_5 (by decide) (fun c5 => ?_) (fun c5 => ?_)
  · have hw := hw.1 (z_le (show rng 50 from by decide) g_l2_2 c5)
    refine lv_iconst (v := zI 1) C.1 C.2.1 dX12_again_39 (by decide) ?_
    exact k_retMi C hr hlk (by decide) Wd (u := (row_2, fresh_2, many_2, made_2, bound_2, patternAt_2)) rfl rfl ⟨⟨_, rfl, (show rng 1 from by decide), hw⟩, ⟨(rsI (rsI (rsI hS.1 (Wd2.2.1 4)) (Wd2.2.1 5)) (Wd2.2.1 46)), (rsF (rsF (rsF hS.2 (fun j => Wd2.2.2 2 j)) (fun j => Wd2.2.2 3 j)) (fun j => Wd2.2.2 45 j))⟩⟩ dX12_again_40
  · have hw := hw.2 (z_nle (show rng 50 from by decide) g_l2_2 c5)
    refine lv_aload_n C.1 C.2.1 dX12_again_8 rfl (lv_at hl 0 rfl) ?_
    refine lv_iload_n C.1 C.2.1 dX12_again_9 rfl (lv_at hl 1 rfl) ?_
    refine lv_iconst (v := zI 0) C.1 C.2.1 dX12_again_10 (by decide) ?_
    refine k_cMi Wd (k_runVM (rest := []) C aks Wd cs_X12_370 (mt_match D h ad ca (sI (sI (sI I 4 many_2) 5 made_2) 46 patternAt_2) (sF (sF (sF F 2 row_2) 3 fresh_2) 45 bound_2) Wd.2 x0 0 g_x0 (show rng 0 from by decide) _ hw l _) rfl rfl ⟨(Nat.le_of_ble_eq_true rfl), (Nat.le_of_ble_eq_true rfl)⟩ hl.1 rfl rfl (Nat.le_of_ble_eq_true rfl) ⟨(Nat.le_of_ble_eq_true rfl), (Nat.le_of_ble_eq_true rfl)⟩ dX12_again_11) (fun r11 u11 H locs g_r11 hw Wd => ?_)
    obtain ⟨bound_r11, patternAt_r11⟩ := u11
    dsimp only at hw
    have Wc11 := Wd
    have Wd : wXM D ca s h ad (sI (sI (sI I 4 many_2) 5 made_2) 46 patternAt_r11) (sF (sF (sF F 2 row_2) 3 fresh_2) 45 bound_r11) H A s.heap locs := wMc Wd rfl rfl ⟨(rsI (rsI (rsI hS.1 (Wd2.2.1 4)) (Wd2.2.1 5)) (Wc11.2.1 46)), (rsF (rsF (rsF hS.2 (fun j => Wd2.2.2 2 j)) (fun j => Wd2.2.2 3 j)) (fun j => Wc11.2.2 45 j))⟩
    refine lv_istore_n (lv' := [(3, .int (zI r11)), (0, .ref h), (1, .int (zI x0)), (2, .int (zI l2_2))]) C.1 C.2.1 dX12_again_14 rfl hl (by decide) rfl (fun ls hl => ?_)
    replace hl := lv_sub hl [1, 2, 3, 0] rfl
    refine lv_iload_n C.1 C.2.1 dX12_again_15 rfl (lv_at hl 3 rfl) ?_
    refine lv_iconst (v := zI (-1)) C.1 C.2.1 dX12_again_16 (by decide) ?_
    refine lv_icmp_ne (tgt := 22) C.1 C.2.1 dX12_again_17 (by decide) (fun c17 => ?_) (fun c17 => ?_)
    · have hw := hw.1 (z_ne g_r11 (show rng (-1) from by decide) c17)
      refine lv_aload_n C.1 C.2.1 dX12_again_22 rfl (lv_at hl 0 rfl) ?_
      refine lv_iload_n C.1 C.2.1 dX12_again_23 rfl (lv_at hl 1 rfl) ?_
      refine lv_iload_n C.1 C.2.1 dX12_again_24 rfl (lv_at hl 3 rfl) ?_
      refine k_cMi Wd (k_runVM (rest := []) C aks Wd cs_X12_373 (mt_applies D h ad ca (sI (sI (sI I 4 many_2) 5 made_2) 46 patternAt_r11) (sF (sF (sF F 2 row_2) 3 fresh_2) 45 bound_r11) Wd.2 x0 r11 g_x0 g_r11 _ hw l _) rfl rfl ⟨(Nat.le_of_ble_eq_true rfl), (Nat.le_of_ble_eq_true rfl)⟩ hl.1 rfl rfl (Nat.le_of_ble_eq_true rfl) ⟨(Nat.le_of_ble_eq_true rfl), (Nat.le_of_ble_eq_true rfl)⟩ dX12_again_25) (fun r25 u25 H locs g_r25 hw Wd => ?_)
      obtain ⟨row_r25, fresh_r25, many_r25, made_r25, bound_r25, patternAt_r25⟩ := u25
      dsimp only at hw
      have Wc25 := Wd
      have Wd : wXM D ca s h ad (sI (sI (sI I 4 many_r25) 5 made_r25) 46 patternAt_r25) (sF (sF (sF F 2 row_r25) 3 fresh_r25) 45 bound_r25) H A s.heap locs := wMc Wd rfl rfl ⟨(rsI (rsI (rsI hS.1 (Wc25.2.1 4)) (Wc25.2.1 5)) (Wc25.2.1 46)), (rsF (rsF (rsF hS.2 (fun j => Wc25.2.2 2 j)) (fun j => Wc25.2.2 3 j)) (fun j => Wc25.2.2 45 j))⟩
      refine lv_if_ne (tgt := 33) C.1 C.2.1 dX12_again_28 (by decide) (fun c28 => ?_) (fun c28 => ?_)
      · have hw := hw.1 (z0_ne g_r25 c28)
        refine lv_iinc (v := zI (l2_2 + 1)) (lv' := [(2, .int (zI (l2_2 + 1))), (0, .ref h), (1, .int (zI x0)), (3, .int (zI r11))]) C.1 C.2.1 dX12_again_33 hl (k := 2) rfl (zI_inc _ _ (by decide)) (by decide) rfl (fun ls hl => ?_)
        replace hl := lv_sub hl [1, 2, 0, 3] rfl
        refine lv_goto (tgt := 2) C.1 C.2.1 dX12_again_36 (by decide) ?_
        obtain ⟨g36_0, hw⟩ := hw
        exact hL2 _ _ _ _ _ _ _ hw _ _ _ ⟨g36_0, wMc Wd rfl rfl ⟨(rsI (rsI (rsI hS.1 (Wc25.2.1 4)) (Wc25.2.1 5)) (Wc25.2.1 46)), (rsF (rsF (rsF hS.2 (fun j => Wc25.2.2 2 j)) (fun j => Wc25.2.2 3 j)) (fun j => Wc25.2.2 45 j))⟩, lv_sub hl [0, 1, 2] rfl⟩
      · have hw := hw.2 (z0_eq g_r25 c28)
        refine lv_iconst (v := zI 0) C.1 C.2.1 dX12_again_31 (by decide) ?_
        exact k_retMi C hr hlk (by decide) Wd (u := (row_r25, fresh_r25, many_r25, made_r25, bound_r25, patternAt_r25)) rfl rfl ⟨⟨_, rfl, (show rng 0 from by decide), hw⟩, ⟨(rsI (rsI (rsI hS.1 (Wc25.2.1 4)) (Wc25.2.1 5)) (Wc25.2.1 46)), (rsF (rsF (rsF hS.2 (fun j => Wc25.2.2 2 j)) (fun j => Wc25.2.2 3 j)) (fun j => Wc25.2.2 45 j))⟩⟩ dX12_again_32
    · have hw := hw.2 (z_eq g_r11 (show rng (-1) from by decide) c17)
      refine lv_iconst (v := zI 1) C.1 C.2.1 dX12_again_20 (by decide) ?_
      exact k_retMi C hr hlk (by decide) Wd (u := (row_2, fresh_2, many_2, made_2, bound_r11, patternAt_r11)) rfl rfl ⟨⟨_, rfl, (show rng 1 from by decide), hw⟩, ⟨(rsI (rsI (rsI hS.1 (Wd2.2.1 4)) (Wd2.2.1 5)) (Wc11.2.1 46)), (rsF (rsF (rsF hS.2 (fun j => Wd2.2.2 2 j)) (fun j => Wd2.2.2 3 j)) (fun j => Wc11.2.2 45 j))⟩⟩ dX12_again_21
set_option maxHeartbeats 4000000 in
set_option maxRecDepth 100000 in
theorem mt_makes : ∀ (D : va_G) (h : Nat) (ad : Nat → Nat) (ca : Nat → ClassId) (I : Nat → Int) (F : Nat → Int → Int) (hS : rngS I F) (x0 : Int) (g_x0 : rng x0) (K : Int → (Int → Int) → (Int → Int) → Int → Int → (Int → Int) → Int → (Int → Int) → Int → Prop) (hw : wp_makes (F 2) (F 3) (I 4) (I 5) (F 24) (F 25) (F 26) (F 45) (I 46) (F 47) (I 48) (F 49) (F 50) x0 K) (l : Launch) (sz : Nat), Met l yX12_makes (Cond.code yX12_makes cX12_makes 4 (some .boolean) :: gG) { frames := 1108, cells := 0, slots := 0, locals := 25673 } (cPre D (tM ca) (wM h ad ca I F) sz [.ref h, .int (zI x0)]) (va_Qi (fun (r : Int32) (u : (Int → Int) × (Int → Int) × (Int) × (Int) × (Int → Int) × (Int) × (Int → Int) × (Int)) => (∃ x : Int, r = zI x ∧ rng x ∧ K x u.1 u.2.1 u.2.2.1 u.2.2.2.1 u.2.2.2.2.1 u.2.2.2.2.2.1 u.2.2.2.2.2.2.1 u.2.2.2.2.2.2.2) ∧ rngS (sI (sI (sI (sI I 4 u.2.2.1) 5 u.2.2.2.1) 46 u.2.2.2.2.2.1) 48 u.2.2.2.2.2.2.2) (sF (sF (sF (sF F 2 u.1) 3 u.2.1) 45 u.2.2.2.2.1) 47 u.2.2.2.2.2.2.1)) (fun u t => cB D (va_A (wM h ad ca I F) sz) [] (wM h ad ca (sI (sI (sI (sI I 4 u.2.2.1) 5 u.2.2.2.1) 46 u.2.2.2.2.2.1) 48 u.2.2.2.2.2.2.2) (sF (sF (sF (sF F 2 u.1) 3 u.2.1) 45 u.2.2.2.2.1) 47 u.2.2.2.2.2.2.1)) t) (va_A (wM h ad ca I F) sz)) 0 0 (va_A (wM h ad ca I F) sz) := by
  intro D h ad ca I F hS x0 g_x0 K hw l sz
  refine Met.ofW (cc := cX12_makes) (maxL := 4) (ret := (some .boolean)) (by decide) rfl ?_
  intro p e s m args below meth c s₁ B hml hv
  obtain ⟨rfl, aks, rfl, Wd⟩ := k_enter hv
  have C : CallFix p m c cX12_makes 4 s _ gG RX12 := ⟨B.exec, B.bytes, hml, findClass_of_methodNamed B.named, fun w h => atoms_spec (ws := Cond.code yX12_makes cX12_makes 4 (some .boolean) :: gG) B.pre w (List.mem_cons_of_mem _ h)⟩
  have hr := B.returns
  have hlk := B.notSynchronized
  generalize va_A (wM h ad ca I F) s.heap.size = A at Wd ⊢
  replace Wd : wXM D ca s h ad I F s.heap A s.heap [] := ⟨Wd, hS⟩
  refine k_locals (Nat.le_of_ble_eq_true rfl) [(0, .ref h), (1, .int (zI x0))] rfl (fun ls hl => ?_)
  unfold wp_makes at hw
  refine lv_iconst (v := zI 0) C.1 C.2.1 dX12_makes_0 (by decide) ?_
  refine lv_istore_n (lv' := [(2, .int (zI 0)), (0, .ref h), (1, .int (zI x0))]) C.1 C.2.1 dX12_makes_1 rfl hl (by decide) rfl (fun ls hl => ?_)
  replace hl := lv_sub hl [1, 2, 0] rfl
  refine k_lp9 hw (fun (l2_2 : Int) (row_2 : Int → Int) (fresh_2 : Int → Int) (many_2 : Int) (made_2 : Int) (bound_2 : Int → Int) (patternAt_2 : Int) (isOut_2 : Int → Int) (someOut_2 : Int) H locs ls => rng l2_2 ∧ wXM D ca s h ad (sI (sI (sI (sI I 4 many_2) 5 made_2) 46 patternAt_2) 48 someOut_2) (sF (sF (sF (sF F 2 row_2) 3 fresh_2) 45 bound_2) 47 isOut_2) H A s.heap locs ∧ lv_has ls 4 [(0, .ref h), (1, .int (zI x0)), (2, .int (zI l2_2))]) (fun (l2_2 : Int) (row_2 : Int → Int) (fresh_2 : Int → Int) (many_2 : Int) (made_2 : Int) (bound_2 : Int → Int) (patternAt_2 : Int) (isOut_2 : Int → Int) (someOut_2 : Int) ls => F0 m 2 ls []) (fun L2 hL2 l2_2 row_2 fresh_2 many_2 made_2 bound_2 patternAt_2 isOut_2 someOut_2 hw H locs ls hi => ?_) _ _ _ ⟨(show rng 0 from by decide), wMc Wd rfl rfl ⟨(rsI (rsI (rsI (rsI hS.1 (hS.1 4)) (hS.1 5)) (hS.1 46)) (hS.1 48)), (rsF (rsF (rsF (rsF hS.2 (hS.2 2)) (hS.2 3)) (hS.2 45)) (hS.2 47))⟩, lv_sub hl [0, 1, 2] rfl⟩
  obtain ⟨g_l2_2, Wd, hl⟩ := hi
  have Wd2 := Wd
  unfold wp_makes_2 at hw
  refine lv_iload_n C.1 C.2.1 dX12_makes_2 rfl (lv_at hl 2 rfl) ?_
  refine lv_aload_n C.1 C.2.1 dX12_makes_3 rfl (lv_at hl 0 rfl) ?_
  refine k_get (v := .ref (ad 50)) C Wd.1 KX12 0 50 wM0 (by decide) fl_X12_75 rfl dX12_makes_4 ?_
  refine lv_iload_n C.1 C.2.1 dX12_makes_7 rfl (lv_at hl 1 rfl) ?_
  obtain ⟨a8, hw⟩ := hw
  refine k_ialdM (g := (F 50)) C Wd 21 20 rfl rfl a8 (by decide) dX12_makes_8 ?_
  have g8 : rng ((F 50) x0) := rngL (hS.2 50) a8
  refine lv_icmp_ge (tgt := 127) C.1 C.2.1 dX12_makes_9 (by decide) (fun c9 => ?_) (fun c9 => ?_)
  · have hw := hw.1 (z_le g8 g_l2_2 c9)
    refine lv_iconst (v := zI 1) C.1 C.2.1 dX12_makes_127 (by decide) ?_
    exact k_retMi C hr hlk (by decide) Wd (u := (row_2, fresh_2, many_2, made_2, bound_2, patternAt_2, isOut_2, someOut_2)) rfl rfl ⟨⟨_, rfl, (show rng 1 from by decide), hw⟩, ⟨(rsI (rsI (rsI (rsI hS.1 (Wd2.2.1 4)) (Wd2.2.1 5)) (Wd2.2.1 46)) (Wd2.2.1 48)), (rsF (rsF (rsF (rsF hS.2 (fun j => Wd2.2.2 2 j)) (fun j => Wd2.2.2 3 j)) (fun j => Wd2.2.2 45 j)) (fun j => Wd2.2.2 47 j))⟩⟩ dX12_makes_128
  · have hw := hw.2 (z_nle g8 g_l2_2 c9)
    refine lv_aload_n C.1 C.2.1 dX12_makes_12 rfl (lv_at hl 0 rfl) ?_
    refine k_get (v := .ref (ad 49)) C Wd.1 KX12 0 49 wM0 (by decide) fl_X12_72 rfl dX12_makes_13 ?_
    refine lv_bipush (v := zI 8) C.1 C.2.1 dX12_makes_16 (by decide) ?_
    refine lv_iload_n C.1 C.2.1 dX12_makes_18 rfl (lv_at hl 1 rfl) ?_
    refine k_imul (v := zI (8 * x0)) C (zI_imul _ _) dX12_makes_19 ?_
    refine lv_iload_n C.1 C.2.1 dX12_makes_20 rfl (lv_at hl 2 rfl) ?_
    refine k_iadd (v := zI ((8 * x0) + l2_2)) C (zI_iadd _ _) dX12_makes_21 ?_
    obtain ⟨a22, hw⟩ := hw
    refine k_ialdM (g := (F 49)) C Wd 20 19 rfl rfl a22 (by decide) dX12_makes_22 ?_
    have g22 : rng ((F 49) ((8 * x0) + l2_2)) := rngL (hS.2 49) a22
    refine lv_istore_n (lv' := [(3, .int (zI ((F 49) ((8 * x0) + l2_2)))), (0, .ref h), (1, .int (zI x0)), (2, .int (zI l2_2))]) C.1 C.2.1 dX12_makes_23 rfl hl (by decide) rfl (fun ls hl => ?_)
    replace hl := lv_sub hl [1, 2, 3, 0] rfl
    refine lv_iload_n C.1 C.2.1 dX12_makes_24 rfl (lv_at hl 3 rfl) ?_
    refine lv_bipush (v := zI 20) C.1 C.2.1 dX12_makes_25 (by decide) ?_
    refine k_cut6 (fun (row_40 : Int → Int) (fresh_40 : Int → Int) (many_40 : Int) (made_40 : Int) (bound_40 : Int → Int) (patternAt_40 : Int) H locs ls => wp_makes_40 K (F 49) x0 isOut_2 l2_2 someOut_2 L2 row_40 fresh_40 many_40 made_40 bound_40 patternAt_40 ∧ wXM D ca s h ad (sI (sI (sI (sI I 4 many_40) 5 made_40) 46 patternAt_40) 48 someOut_2) (sF (sF (sF (sF F 2 row_40) 3 fresh_40) 45 bound_40) 47 isOut_2) H A s.heap locs ∧ lv_has ls 4 [(0, .ref h), (1, .int (zI x0)), (2, .int (zI l2_2)), (3, .int (zI ((F 49) ((8 * x0) + l2_2))))]) (fun (row_40 : Int → Int) (fresh_40 : Int → Int) (many_40 : Int) (made_40 : Int) (bound_40 : Int → Int) (patternAt_40 : Int) ls => F0 m 40 ls []) (fun row_40 fresh_40 many_40 made_40 bound_40 patternAt_40 H locs ls hi => ?_) (fun J40 => ?_)
    · obtain ⟨hw, Wd, hl⟩ := hi
      have Wd40 := Wd
      unfold wp_makes_40 at hw
      refine lv_aload_n C.1 C.2.1 dX12_makes_40 rfl (lv_at hl 0 rfl) ?_
      refine lv_iconst (v := zI 0) C.1 C.2.1 dX12_makes_41 (by decide) ?_
      refine k_putM C Wd 5 (sI (sI (sI (sI I 4 many_40) 5 0) 46 patternAt_40) 48 someOut_2) (by decide) fl_X12_117 rfl rfl rfl rfl (rsI (rsI (rsI (rsI hS.1 (Wd40.2.1 4)) (show rng 0 from by decide)) (Wd40.2.1 46)) (Wd2.2.1 48)) dX12_makes_42 (fun H locs Wd => ?_)
      refine lv_iload_n C.1 C.2.1 dX12_makes_45 rfl (lv_at hl 3 rfl) ?_
      refine lv_bipush (v := zI 20) C.1 C.2.1 dX12_makes_46 (by decide) ?_
      refine k_cut4 (fun (row_60 : Int → Int) (fresh_60 : Int → Int) (many_60 : Int) (made_60 : Int) H locs ls => wp_makes_60 K (F 49) x0 bound_40 isOut_2 l2_2 patternAt_40 someOut_2 L2 row_60 fresh_60 many_60 made_60 ∧ wXM D ca s h ad (sI (sI (sI (sI I 4 many_60) 5 made_60) 46 patternAt_40) 48 someOut_2) (sF (sF (sF (sF F 2 row_60) 3 fresh_60) 45 bound_40) 47 isOut_2) H A s.heap locs ∧ lv_has ls 4 [(0, .ref h), (1, .int (zI x0)), (2, .int (zI l2_2)), (3, .int (zI ((F 49) ((8 * x0) + l2_2))))]) (fun (row_60 : Int → Int) (fresh_60 : Int → Int) (many_60 : Int) (made_60 : Int) ls => F0 m 60 ls []) (fun row_60 fresh_60 many_60 made_60 H locs ls hi => ?_) (fun J60 => ?_)
      · obtain ⟨hw, Wd, hl⟩ := hi
        have Wd60 := Wd
        unfold wp_makes_60 at hw
        refine lv_iload_n C.1 C.2.1 dX12_makes_60 rfl (lv_at hl 3 rfl) ?_
        refine lv_bipush (v := zI 21) C.1 C.2.1 dX12_makes_61 (by decide) ?_
        refine k_cut6 (fun (row_87 : Int → Int) (fresh_87 : Int → Int) (many_87 : Int) (made_87 : Int) (isOut_87 : Int → Int) (someOut_87 : Int) H locs ls => wp_makes_87 K (F 49) x0 bound_40 l2_2 patternAt_40 L2 row_87 fresh_87 many_87 made_87 isOut_87 someOut_87 ∧ wXM D ca s h ad (sI (sI (sI (sI I 4 many_87) 5 made_87) 46 patternAt_40) 48 someOut_87) (sF (sF (sF (sF F 2 row_87) 3 fresh_87) 45 bound_40) 47 isOut_87) H A s.heap locs ∧ lv_has ls 4 [(0, .ref h), (1, .int (zI x0)), (2, .int (zI l2_2)), (3, .int (zI ((F 49) ((8 * x0) + l2_2))))]) (fun (row_87 : Int → Int) (fresh_87 : Int → Int) (many_87 : Int) (made_87 : Int) (isOut_87 : Int → Int) (someOut_87 : Int) ls => F0 m 87 ls []) (fun row_87 fresh_87 many_87 made_87 isOut_87 someOut_87 H locs ls hi => ?_) (fun J87 => ?_)
        · obtain ⟨hw, Wd, hl⟩ := hi
          have Wd87 := Wd
          unfold wp_makes_87 at hw
          refine lv_iload_n C.1 C.2.1 dX12_makes_87 rfl (lv_at hl 3 rfl) ?_
          refine lv_bipush (v := zI 23) C.1 C.2.1 dX12_makes_88 (by decide) ?_
          refine k_cut1 (fun (row_97 : Int → Int) H locs ls => wp_makes_97 K (F 49) x0 bound_40 fresh_87 isOut_87 l2_2 made_87 many_87 patternAt_40 someOut_87 L2 row_97 ∧ wXM D ca s h ad (sI (sI (sI (sI I 4 many_87) 5 made_87) 46 patternAt_40) 48 someOut_87) (sF (sF (sF (sF F 2 row_97) 3 fresh_87) 45 bound_40) 47 isOut_87) H A s.heap locs ∧ lv_has ls 4 [(0, .ref h), (1, .int (zI x0)), (2, .int (zI l2_2)), (3, .int (zI ((F 49) ((8 * x0) + l2_2))))]) (fun (row_97 : Int → Int) ls => F0 m 97 ls []) (fun row_97 H locs ls hi => ?_) (fun J97 => ?_)
          · obtain ⟨hw, Wd, hl⟩ := hi
            have Wd97 := Wd
            unfold wp_makes_97 at hw
            refine lv_iload_n C.1 C.2.1 dX12_makes_97 rfl (lv_at hl 3 rfl) ?_
            refine lv_bipush (v := zI 24) C.1 C.2.1 dX12_makes_98 (by decide) ?_
            refine k_cut4 (fun (row_112 : Int → Int) (fresh_112 : Int → Int) (many_112 : Int) (made_112 : Int) H locs ls => wp_makes_112 K bound_40 isOut_87 l2_2 patternAt_40 someOut_87 L2 row_112 fresh_112 many_112 made_112 ∧ wXM D ca s h ad (sI (sI (sI (sI I 4 many_112) 5 made_112) 46 patternAt_40) 48 someOut_87) (sF (sF (sF (sF F 2 row_112) 3 fresh_112) 45 bound_40) 47 isOut_87) H A s.heap locs ∧ lv_has ls 4 [(0, .ref h), (1, .int (zI x0)), (2, .int (zI l2_2))]) (fun (row_112 : Int → Int) (fresh_112 : Int → Int) (many_112 : Int) (made_112 : Int) ls => F0 m 112 ls []) (fun row_112 fresh_112 many_112 made_112 H locs ls hi => ?_) (fun J112 => ?_)
            · obtain ⟨hw, Wd, hl⟩ := hi
              have Wd112 := Wd
              unfold wp_makes_112 at hw
              refine lv_aload_n C.1 C.2.1 dX12_makes_112 rfl (lv_at hl 0 rfl) ?_
              refine k_pi (k_runVM (rest := []) C aks Wd cs_X12_436 (mt_isSmall D h ad ca (sI (sI (sI (sI I 4 many_112) 5 made_112) 46 patternAt_40) 48 someOut_87) (sF (sF (sF (sF F 2 row_112) 3 fresh_112) 45 bound_40) 47 isOut_87) Wd.2   _ hw l _) rfl rfl ⟨(Nat.le_of_ble_eq_true rfl), (Nat.le_of_ble_eq_true rfl)⟩ hl.1 rfl rfl (Nat.le_of_ble_eq_true rfl) ⟨(Nat.le_of_ble_eq_true rfl), (Nat.le_of_ble_eq_true rfl)⟩ dX12_makes_113) (fun y113 hy => ?_)
              obtain ⟨r113, rfl, g_r113, hw⟩ := hy
              refine lv_if_ne (tgt := 121) C.1 C.2.1 dX12_makes_116 (by decide) (fun c116 => ?_) (fun c116 => ?_)
              · have hw := hw.1 (z0_ne g_r113 c116)
                refine lv_iinc (v := zI (l2_2 + 1)) (lv' := [(2, .int (zI (l2_2 + 1))), (0, .ref h), (1, .int (zI x0))]) C.1 C.2.1 dX12_makes_121 hl (k := 2) rfl (zI_inc _ _ (by decide)) (by decide) rfl (fun ls hl => ?_)
                replace hl := lv_sub hl [1, 2, 0] rfl
                refine lv_goto (tgt := 2) C.1 C.2.1 dX12_makes_124 (by decide) ?_
                obtain ⟨g124_0, hw⟩ := hw
                exact hL2 _ _ _ _ _ _ _ _ _ hw _ _ _ ⟨g124_0, wMc Wd rfl rfl ⟨(rsI (rsI (rsI (rsI hS.1 (Wd112.2.1 4)) (Wd112.2.1 5)) (Wd40.2.1 46)) (Wd87.2.1 48)), (rsF (rsF (rsF (rsF hS.2 (fun j => Wd112.2.2 2 j)) (fun j => Wd112.2.2 3 j)) (fun j => Wd40.2.2 45 j)) (fun j => Wd87.2.2 47 j))⟩, lv_sub hl [0, 1, 2] rfl⟩
              · have hw := hw.2 (z0_eq g_r113 c116)
                refine lv_iconst (v := zI 0) C.1 C.2.1 dX12_makes_119 (by decide) ?_
                exact k_retMi C hr hlk (by decide) Wd (u := (row_112, fresh_112, many_112, made_112, bound_40, patternAt_40, isOut_87, someOut_87)) rfl rfl ⟨⟨_, rfl, (show rng 0 from by decide), hw⟩, ⟨(rsI (rsI (rsI (rsI hS.1 (Wd112.2.1 4)) (Wd112.2.1 5)) (Wd40.2.1 46)) (Wd87.2.1 48)), (rsF (rsF (rsF (rsF hS.2 (fun j => Wd112.2.2 2 j)) (fun j => Wd112.2.2 3 j)) (fun j => Wd40.2.2 45 j)) (fun j => Wd87.2.2 47 j))⟩⟩ dX12_makes_120
            refine lv_icmp_ne (tgt := 112) C.1 C.2.1 dX12_makes_100 (by decide) (fun c100 => ?_) (fun c100 => ?_)
            · have hw := hw.1 (z_ne g22 (show rng 24 from by decide) c100)
              exact J112 row_97 fresh_87 many_87 made_87 _ _ _ ⟨hw, wMc Wd rfl rfl ⟨(rsI (rsI (rsI (rsI hS.1 (Wd87.2.1 4)) (Wd87.2.1 5)) (Wd40.2.1 46)) (Wd87.2.1 48)), (rsF (rsF (rsF (rsF hS.2 (fun j => Wd97.2.2 2 j)) (fun j => Wd87.2.2 3 j)) (fun j => Wd40.2.2 45 j)) (fun j => Wd87.2.2 47 j))⟩, lv_sub hl [0, 1, 2] rfl⟩
            · have hw := hw.2 (z_eq g22 (show rng 24 from by decide) c100)
              refine lv_aload_n C.1 C.2.1 dX12_makes_103 rfl (lv_at hl 0 rfl) ?_
              refine lv_iconst (v := zI 0) C.1 C.2.1 dX12_makes_104 (by decide) ?_
              refine k_cMv Wd (k_runVM (rest := []) C aks Wd cs_X12_420 (mt_unrolls D h ad ca (sI (sI (sI (sI I 4 many_87) 5 made_87) 46 patternAt_40) 48 someOut_87) (sF (sF (sF (sF F 2 row_97) 3 fresh_87) 45 bound_40) 47 isOut_87) Wd.2 0 (show rng 0 from by decide) _ hw l _) rfl rfl ⟨(Nat.le_of_ble_eq_true rfl), (Nat.le_of_ble_eq_true rfl)⟩ hl.1 rfl rfl (Nat.le_of_ble_eq_true rfl) ⟨(Nat.le_of_ble_eq_true rfl), (Nat.le_of_ble_eq_true rfl)⟩ dX12_makes_105) (fun u105 H locs hw Wd => ?_)
              obtain ⟨fresh_r105, made_r105⟩ := u105
              dsimp only at hw
              have Wc105 := Wd
              have Wd : wXM D ca s h ad (sI (sI (sI (sI I 4 many_87) 5 made_r105) 46 patternAt_40) 48 someOut_87) (sF (sF (sF (sF F 2 row_97) 3 fresh_r105) 45 bound_40) 47 isOut_87) H A s.heap locs := wMc Wd rfl rfl ⟨(rsI (rsI (rsI (rsI hS.1 (Wd87.2.1 4)) (Wc105.2.1 5)) (Wd40.2.1 46)) (Wd87.2.1 48)), (rsF (rsF (rsF (rsF hS.2 (fun j => Wd97.2.2 2 j)) (fun j => Wc105.2.2 3 j)) (fun j => Wd40.2.2 45 j)) (fun j => Wd87.2.2 47 j))⟩
              refine lv_aload_n C.1 C.2.1 dX12_makes_108 rfl (lv_at hl 0 rfl) ?_
              refine k_cMv Wd (k_runVM (rest := []) C aks Wd cs_X12_259 (mt_turns D h ad ca (sI (sI (sI (sI I 4 many_87) 5 made_r105) 46 patternAt_40) 48 someOut_87) (sF (sF (sF (sF F 2 row_97) 3 fresh_r105) 45 bound_40) 47 isOut_87) Wd.2   _ hw l _) rfl rfl ⟨(Nat.le_of_ble_eq_true rfl), (Nat.le_of_ble_eq_true rfl)⟩ hl.1 rfl rfl (Nat.le_of_ble_eq_true rfl) ⟨(Nat.le_of_ble_eq_true rfl), (Nat.le_of_ble_eq_true rfl)⟩ dX12_makes_109) (fun u109 H locs hw Wd => ?_)
              obtain ⟨row_r109, many_r109, made_r109⟩ := u109
              dsimp only at hw
              have Wc109 := Wd
              have Wd : wXM D ca s h ad (sI (sI (sI (sI I 4 many_r109) 5 made_r109) 46 patternAt_40) 48 someOut_87) (sF (sF (sF (sF F 2 row_r109) 3 fresh_r105) 45 bound_40) 47 isOut_87) H A s.heap locs := wMc Wd rfl rfl ⟨(rsI (rsI (rsI (rsI hS.1 (Wc109.2.1 4)) (Wc109.2.1 5)) (Wd40.2.1 46)) (Wd87.2.1 48)), (rsF (rsF (rsF (rsF hS.2 (fun j => Wc109.2.2 2 j)) (fun j => Wc105.2.2 3 j)) (fun j => Wd40.2.2 45 j)) (fun j => Wd87.2.2 47 j))⟩
              exact J112 row_r109 fresh_r105 many_r109 made_r109 _ _ _ ⟨hw, wMc Wd rfl rfl ⟨(rsI (rsI (rsI (rsI hS.1 (Wc109.2.1 4)) (Wc109.2.1 5)) (Wd40.2.1 46)) (Wd87.2.1 48)), (rsF (rsF (rsF (rsF hS.2 (fun j => Wc109.2.2 2 j)) (fun j => Wc105.2.2 3 j)) (fun j => Wd40.2.2 45 j)) (fun j => Wd87.2.2 47 j))⟩, lv_sub hl [0, 1, 2] rfl⟩
          refine lv_icmp_ne (tgt := 97) C.1 C.2.1 dX12_makes_90 (by decide) (fun c90 => ?_) (fun c90 => ?_)
          · have hw := hw.1 (z_ne g22 (show rng 23 from by decide) c90)
            exact J97 row_87 _ _ _ ⟨hw, wMc Wd rfl rfl ⟨(rsI (rsI (rsI (rsI hS.1 (Wd87.2.1 4)) (Wd87.2.1 5)) (Wd40.2.1 46)) (Wd87.2.1 48)), (rsF (rsF (rsF (rsF hS.2 (fun j => Wd87.2.2 2 j)) (fun j => Wd87.2.2 3 j)) (fun j => Wd40.2.2 45 j)) (fun j => Wd87.2.2 47 j))⟩, lv_sub hl [0, 1, 2, 3] rfl⟩
          · have hw := hw.2 (z_eq g22 (show rng 23 from by decide) c90)
            refine lv_aload_n C.1 C.2.1 dX12_makes_93 rfl (lv_at hl 0 rfl) ?_
            refine k_cMv Wd (k_runVM (rest := []) C aks Wd cs_X12_433 (mt_hastyCopy D h ad ca (sI (sI (sI (sI I 4 many_87) 5 made_87) 46 patternAt_40) 48 someOut_87) (sF (sF (sF (sF F 2 row_87) 3 fresh_87) 45 bound_40) 47 isOut_87) Wd.2   _ hw l _) rfl rfl ⟨(Nat.le_of_ble_eq_true rfl), (Nat.le_of_ble_eq_true rfl)⟩ hl.1 rfl rfl (Nat.le_of_ble_eq_true rfl) ⟨(Nat.le_of_ble_eq_true rfl), (Nat.le_of_ble_eq_true rfl)⟩ dX12_makes_94) (fun row_r94 H locs hw Wd => ?_)
            have Wc94 := Wd
            have Wd : wXM D ca s h ad (sI (sI (sI (sI I 4 many_87) 5 made_87) 46 patternAt_40) 48 someOut_87) (sF (sF (sF (sF F 2 row_r94) 3 fresh_87) 45 bound_40) 47 isOut_87) H A s.heap locs := wMc Wd rfl rfl ⟨(rsI (rsI (rsI (rsI hS.1 (Wd87.2.1 4)) (Wd87.2.1 5)) (Wd40.2.1 46)) (Wd87.2.1 48)), (rsF (rsF (rsF (rsF hS.2 (fun j => Wc94.2.2 2 j)) (fun j => Wd87.2.2 3 j)) (fun j => Wd40.2.2 45 j)) (fun j => Wd87.2.2 47 j))⟩
            exact J97 row_r94 _ _ _ ⟨hw, wMc Wd rfl rfl ⟨(rsI (rsI (rsI (rsI hS.1 (Wd87.2.1 4)) (Wd87.2.1 5)) (Wd40.2.1 46)) (Wd87.2.1 48)), (rsF (rsF (rsF (rsF hS.2 (fun j => Wc94.2.2 2 j)) (fun j => Wd87.2.2 3 j)) (fun j => Wd40.2.2 45 j)) (fun j => Wd87.2.2 47 j))⟩, lv_sub hl [0, 1, 2, 3] rfl⟩
        refine k_cut0 (fun  H locs ls => wp_makes_72 K (F 49) x0 bound_40 fresh_60 isOut_2 l2_2 made_60 many_60 patternAt_40 row_60 someOut_2 L2 ∧ wXM D ca s h ad (sI (sI (sI (sI I 4 many_60) 5 made_60) 46 patternAt_40) 48 someOut_2) (sF (sF (sF (sF F 2 row_60) 3 fresh_60) 45 bound_40) 47 isOut_2) H A s.heap locs ∧ lv_has ls 4 [(0, .ref h), (1, .int (zI x0)), (2, .int (zI l2_2)), (3, .int (zI ((F 49) ((8 * x0) + l2_2))))]) (fun  ls => F0 m 72 ls []) (fun  H locs ls hi => ?_) (fun J72 => ?_)
        · obtain ⟨hw, Wd, hl⟩ := hi
          have Wd72 := Wd
          unfold wp_makes_72 at hw
          refine lv_aload_n C.1 C.2.1 dX12_makes_72 rfl (lv_at hl 0 rfl) ?_
          refine lv_iload_n C.1 C.2.1 dX12_makes_73 rfl (lv_at hl 3 rfl) ?_
          refine lv_bipush (v := zI 22) C.1 C.2.1 dX12_makes_74 (by decide) ?_
          refine k_cut1 (fun (s0_84 : Int) H locs ls => rng s0_84 ∧ wp_makes_84 K (F 49) x0 bound_40 fresh_60 isOut_2 l2_2 made_60 many_60 patternAt_40 row_60 someOut_2 L2 s0_84 ∧ wXM D ca s h ad (sI (sI (sI (sI I 4 many_60) 5 made_60) 46 patternAt_40) 48 someOut_2) (sF (sF (sF (sF F 2 row_60) 3 fresh_60) 45 bound_40) 47 isOut_2) H A s.heap locs ∧ lv_has ls 4 [(0, .ref h), (1, .int (zI x0)), (2, .int (zI l2_2)), (3, .int (zI ((F 49) ((8 * x0) + l2_2))))]) (fun (s0_84 : Int) ls => F0 m 84 ls [.int (zI s0_84), .ref h]) (fun s0_84 H locs ls hi => ?_) (fun J84 => ?_)
          · obtain ⟨g_s0_84, hw, Wd, hl⟩ := hi
            have Wd84 := Wd
            unfold wp_makes_84 at hw
            refine k_cMv Wd (k_runVM (rest := []) C aks Wd cs_X12_429 (mt_dead D h ad ca (sI (sI (sI (sI I 4 many_60) 5 made_60) 46 patternAt_40) 48 someOut_2) (sF (sF (sF (sF F 2 row_60) 3 fresh_60) 45 bound_40) 47 isOut_2) Wd.2 s0_84 g_s0_84 _ hw l _) rfl rfl ⟨(Nat.le_of_ble_eq_true rfl), (Nat.le_of_ble_eq_true rfl)⟩ hl.1 rfl rfl (Nat.le_of_ble_eq_true rfl) ⟨(Nat.le_of_ble_eq_true rfl), (Nat.le_of_ble_eq_true rfl)⟩ dX12_makes_84) (fun u84 H locs hw Wd => ?_)
            obtain ⟨row_r84, fresh_r84, many_r84, made_r84, isOut_r84, someOut_r84⟩ := u84
            dsimp only at hw
            have Wc84 := Wd
            have Wd : wXM D ca s h ad (sI (sI (sI (sI I 4 many_r84) 5 made_r84) 46 patternAt_40) 48 someOut_r84) (sF (sF (sF (sF F 2 row_r84) 3 fresh_r84) 45 bound_40) 47 isOut_r84) H A s.heap locs := wMc Wd rfl rfl ⟨(rsI (rsI (rsI (rsI hS.1 (Wc84.2.1 4)) (Wc84.2.1 5)) (Wd40.2.1 46)) (Wc84.2.1 48)), (rsF (rsF (rsF (rsF hS.2 (fun j => Wc84.2.2 2 j)) (fun j => Wc84.2.2 3 j)) (fun j => Wd40.2.2 45 j)) (fun j => Wc84.2.2 47 j))⟩
            exact J87 row_r84 fresh_r84 many_r84 made_r84 isOut_r84 someOut_r84 _ _ _ ⟨hw, wMc Wd rfl rfl ⟨(rsI (rsI (rsI (rsI hS.1 (Wc84.2.1 4)) (Wc84.2.1 5)) (Wd40.2.1 46)) (Wc84.2.1 48)), (rsF (rsF (rsF (rsF hS.2 (fun j => Wc84.2.2 2 j)) (fun j => Wc84.2.2 3 j)) (fun j => Wd40.2.2 45 j)) (fun j => Wc84.2.2 47 j))⟩, lv_sub hl [0, 1, 2, 3] rfl⟩
          refine lv_icmp_ne (tgt := 83) C.1 C.2.1 dX12_makes_76 (by decide) (fun c76 => ?_) (fun c76 => ?_)
          · have hw := hw.1 (z_ne g22 (show rng 22 from by decide) c76)
            refine lv_iconst (v := zI 0) C.1 C.2.1 dX12_makes_83 (by decide) ?_
            exact J84 0 _ _ _ ⟨(show rng 0 from by decide), hw, wMc Wd rfl rfl ⟨(rsI (rsI (rsI (rsI hS.1 (Wd60.2.1 4)) (Wd60.2.1 5)) (Wd40.2.1 46)) (Wd2.2.1 48)), (rsF (rsF (rsF (rsF hS.2 (fun j => Wd60.2.2 2 j)) (fun j => Wd60.2.2 3 j)) (fun j => Wd40.2.2 45 j)) (fun j => Wd2.2.2 47 j))⟩, lv_sub hl [0, 1, 2, 3] rfl⟩
          · have hw := hw.2 (z_eq g22 (show rng 22 from by decide) c76)
            refine lv_iconst (v := zI 1) C.1 C.2.1 dX12_makes_79 (by decide) ?_
            refine lv_goto (tgt := 84) C.1 C.2.1 dX12_makes_80 (by decide) ?_
            exact J84 1 _ _ _ ⟨(show rng 1 from by decide), hw, wMc Wd rfl rfl ⟨(rsI (rsI (rsI (rsI hS.1 (Wd60.2.1 4)) (Wd60.2.1 5)) (Wd40.2.1 46)) (Wd2.2.1 48)), (rsF (rsF (rsF (rsF hS.2 (fun j => Wd60.2.2 2 j)) (fun j => Wd60.2.2 3 j)) (fun j => Wd40.2.2 45 j)) (fun j => Wd2.2.2 47 j))⟩, lv_sub hl [0, 1, 2, 3] rfl⟩
        refine lv_icmp_eq (tgt := 72) C.1 C.2.1 dX12_makes_63 (by decide) (fun c63 => ?_) (fun c63 => ?_)
        · have hw := hw.1 (z_eq g22 (show rng 21 from by decide) c63)
          exact J72  _ _ _ ⟨hw, wMc Wd rfl rfl ⟨(rsI (rsI (rsI (rsI hS.1 (Wd60.2.1 4)) (Wd60.2.1 5)) (Wd40.2.1 46)) (Wd2.2.1 48)), (rsF (rsF (rsF (rsF hS.2 (fun j => Wd60.2.2 2 j)) (fun j => Wd60.2.2 3 j)) (fun j => Wd40.2.2 45 j)) (fun j => Wd2.2.2 47 j))⟩, lv_sub hl [0, 1, 2, 3] rfl⟩
        · have hw := hw.2 (z_ne g22 (show rng 21 from by decide) c63)
          refine lv_iload_n C.1 C.2.1 dX12_makes_66 rfl (lv_at hl 3 rfl) ?_
          refine lv_bipush (v := zI 22) C.1 C.2.1 dX12_makes_67 (by decide) ?_
          refine lv_icmp_ne (tgt := 87) C.1 C.2.1 dX12_makes_69 (by decide) (fun c69 => ?_) (fun c69 => ?_)
          · have hw := hw.1 (z_ne g22 (show rng 22 from by decide) c69)
            exact J87 row_60 fresh_60 many_60 made_60 isOut_2 someOut_2 _ _ _ ⟨hw, wMc Wd rfl rfl ⟨(rsI (rsI (rsI (rsI hS.1 (Wd60.2.1 4)) (Wd60.2.1 5)) (Wd40.2.1 46)) (Wd2.2.1 48)), (rsF (rsF (rsF (rsF hS.2 (fun j => Wd60.2.2 2 j)) (fun j => Wd60.2.2 3 j)) (fun j => Wd40.2.2 45 j)) (fun j => Wd2.2.2 47 j))⟩, lv_sub hl [0, 1, 2, 3] rfl⟩
          · have hw := hw.2 (z_eq g22 (show rng 22 from by decide) c69)
            exact J72  _ _ _ ⟨hw, wMc Wd rfl rfl ⟨(rsI (rsI (rsI (rsI hS.1 (Wd60.2.1 4)) (Wd60.2.1 5)) (Wd40.2.1 46)) (Wd2.2.1 48)), (rsF (rsF (rsF (rsF hS.2 (fun j => Wd60.2.2 2 j)) (fun j => Wd60.2.2 3 j)) (fun j => Wd40.2.2 45 j)) (fun j => Wd2.2.2 47 j))⟩, lv_sub hl [0, 1, 2, 3] rfl⟩
      refine lv_icmp_ne (tgt := 60) C.1 C.2.1 dX12_makes_48 (by decide) (fun c48 => ?_) (fun c48 => ?_)
      · have hw := hw.1 (z_ne g22 (show rng 20 from by decide) c48)
        exact J60 row_40 fresh_40 many_40 0 _ _ _ ⟨hw, wMc Wd rfl rfl ⟨(rsI (rsI (rsI (rsI hS.1 (Wd40.2.1 4)) (show rng 0 from by decide)) (Wd40.2.1 46)) (Wd2.2.1 48)), (rsF (rsF (rsF (rsF hS.2 (fun j => Wd40.2.2 2 j)) (fun j => Wd40.2.2 3 j)) (fun j => Wd40.2.2 45 j)) (fun j => Wd2.2.2 47 j))⟩, lv_sub hl [0, 1, 2, 3] rfl⟩
      · have hw := hw.2 (z_eq g22 (show rng 20 from by decide) c48)
        refine lv_aload_n C.1 C.2.1 dX12_makes_51 rfl (lv_at hl 0 rfl) ?_
        refine lv_iconst (v := zI 0) C.1 C.2.1 dX12_makes_52 (by decide) ?_
        refine k_cMv Wd (k_runVM (rest := []) C aks Wd cs_X12_406 (mt_foldAll D h ad ca (sI (sI (sI (sI I 4 many_40) 5 0) 46 patternAt_40) 48 someOut_2) (sF (sF (sF (sF F 2 row_40) 3 fresh_40) 45 bound_40) 47 isOut_2) Wd.2 0 (show rng 0 from by decide) _ hw l _) rfl rfl ⟨(Nat.le_of_ble_eq_true rfl), (Nat.le_of_ble_eq_true rfl)⟩ hl.1 rfl rfl (Nat.le_of_ble_eq_true rfl) ⟨(Nat.le_of_ble_eq_true rfl), (Nat.le_of_ble_eq_true rfl)⟩ dX12_makes_53) (fun u53 H locs hw Wd => ?_)
        obtain ⟨fresh_r53, made_r53⟩ := u53
        dsimp only at hw
        have Wc53 := Wd
        have Wd : wXM D ca s h ad (sI (sI (sI (sI I 4 many_40) 5 made_r53) 46 patternAt_40) 48 someOut_2) (sF (sF (sF (sF F 2 row_40) 3 fresh_r53) 45 bound_40) 47 isOut_2) H A s.heap locs := wMc Wd rfl rfl ⟨(rsI (rsI (rsI (rsI hS.1 (Wd40.2.1 4)) (Wc53.2.1 5)) (Wd40.2.1 46)) (Wd2.2.1 48)), (rsF (rsF (rsF (rsF hS.2 (fun j => Wd40.2.2 2 j)) (fun j => Wc53.2.2 3 j)) (fun j => Wd40.2.2 45 j)) (fun j => Wd2.2.2 47 j))⟩
        refine lv_aload_n C.1 C.2.1 dX12_makes_56 rfl (lv_at hl 0 rfl) ?_
        refine k_cMv Wd (k_runVM (rest := []) C aks Wd cs_X12_259 (mt_turns D h ad ca (sI (sI (sI (sI I 4 many_40) 5 made_r53) 46 patternAt_40) 48 someOut_2) (sF (sF (sF (sF F 2 row_40) 3 fresh_r53) 45 bound_40) 47 isOut_2) Wd.2   _ hw l _) rfl rfl ⟨(Nat.le_of_ble_eq_true rfl), (Nat.le_of_ble_eq_true rfl)⟩ hl.1 rfl rfl (Nat.le_of_ble_eq_true rfl) ⟨(Nat.le_of_ble_eq_true rfl), (Nat.le_of_ble_eq_true rfl)⟩ dX12_makes_57) (fun u57 H locs hw Wd => ?_)
        obtain ⟨row_r57, many_r57, made_r57⟩ := u57
        dsimp only at hw
        have Wc57 := Wd
        have Wd : wXM D ca s h ad (sI (sI (sI (sI I 4 many_r57) 5 made_r57) 46 patternAt_40) 48 someOut_2) (sF (sF (sF (sF F 2 row_r57) 3 fresh_r53) 45 bound_40) 47 isOut_2) H A s.heap locs := wMc Wd rfl rfl ⟨(rsI (rsI (rsI (rsI hS.1 (Wc57.2.1 4)) (Wc57.2.1 5)) (Wd40.2.1 46)) (Wd2.2.1 48)), (rsF (rsF (rsF (rsF hS.2 (fun j => Wc57.2.2 2 j)) (fun j => Wc53.2.2 3 j)) (fun j => Wd40.2.2 45 j)) (fun j => Wd2.2.2 47 j))⟩
        exact J60 row_r57 fresh_r53 many_r57 made_r57 _ _ _ ⟨hw, wMc Wd rfl rfl ⟨(rsI (rsI (rsI (rsI hS.1 (Wc57.2.1 4)) (Wc57.2.1 5)) (Wd40.2.1 46)) (Wd2.2.1 48)), (rsF (rsF (rsF (rsF hS.2 (fun j => Wc57.2.2 2 j)) (fun j => Wc53.2.2 3 j)) (fun j => Wd40.2.2 45 j)) (fun j => Wd2.2.2 47 j))⟩, lv_sub hl [0, 1, 2, 3] rfl⟩
    refine lv_icmp_ge (tgt := 40) C.1 C.2.1 dX12_makes_27 (by decide) (fun c27 => ?_) (fun c27 => ?_)
    · have hw := hw.1 (z_le (show rng 20 from by decide) g22 c27)
      exact J40 row_2 fresh_2 many_2 made_2 bound_2 patternAt_2 _ _ _ ⟨hw, wMc Wd rfl rfl ⟨(rsI (rsI (rsI (rsI hS.1 (Wd2.2.1 4)) (Wd2.2.1 5)) (Wd2.2.1 46)) (Wd2.2.1 48)), (rsF (rsF (rsF (rsF hS.2 (fun j => Wd2.2.2 2 j)) (fun j => Wd2.2.2 3 j)) (fun j => Wd2.2.2 45 j)) (fun j => Wd2.2.2 47 j))⟩, lv_sub hl [0, 1, 2, 3] rfl⟩
    · have hw := hw.2 (z_nle (show rng 20 from by decide) g22 c27)
      refine lv_aload_n C.1 C.2.1 dX12_makes_30 rfl (lv_at hl 0 rfl) ?_
      refine lv_iload_n C.1 C.2.1 dX12_makes_31 rfl (lv_at hl 3 rfl) ?_
      refine k_cMi Wd (k_runVM (rest := []) C aks Wd cs_X12_426 (mt_again D h ad ca (sI (sI (sI (sI I 4 many_2) 5 made_2) 46 patternAt_2) 48 someOut_2) (sF (sF (sF (sF F 2 row_2) 3 fresh_2) 45 bound_2) 47 isOut_2) Wd.2 ((F 49) ((8 * x0) + l2_2)) g22 _ hw l _) rfl rfl ⟨(Nat.le_of_ble_eq_true rfl), (Nat.le_of_ble_eq_true rfl)⟩ hl.1 rfl rfl (Nat.le_of_ble_eq_true rfl) ⟨(Nat.le_of_ble_eq_true rfl), (Nat.le_of_ble_eq_true rfl)⟩ dX12_makes_32) (fun r32 u32 H locs g_r32 hw Wd => ?_)
      obtain ⟨row_r32, fresh_r32, many_r32, made_r32, bound_r32, patternAt_r32⟩ := u32
      dsimp only at hw
      have Wc32 := Wd
      have Wd : wXM D ca s h ad (sI (sI (sI (sI I 4 many_r32) 5 made_r32) 46 patternAt_r32) 48 someOut_2) (sF (sF (sF (sF F 2 row_r32) 3 fresh_r32) 45 bound_r32) 47 isOut_2) H A s.heap locs := wMc Wd rfl rfl ⟨(rsI (rsI (rsI (rsI hS.1 (Wc32.2.1 4)) (Wc32.2.1 5)) (Wc32.2.1 46)) (Wd2.2.1 48)), (rsF (rsF (rsF (rsF hS.2 (fun j => Wc32.2.2 2 j)) (fun j => Wc32.2.2 3 j)) (fun j => Wc32.2.2 45 j)) (fun j => Wd2.2.2 47 j))⟩
      refine lv_if_ne (tgt := 40) C.1 C.2.1 dX12_makes_35 (by decide) (fun c35 => ?_) (fun c35 => ?_)
      · have hw := hw.1 (z0_ne g_r32 c35)
        exact J40 row_r32 fresh_r32 many_r32 made_r32 bound_r32 patternAt_r32 _ _ _ ⟨hw, wMc Wd rfl rfl ⟨(rsI (rsI (rsI (rsI hS.1 (Wc32.2.1 4)) (Wc32.2.1 5)) (Wc32.2.1 46)) (Wd2.2.1 48)), (rsF (rsF (rsF (rsF hS.2 (fun j => Wc32.2.2 2 j)) (fun j => Wc32.2.2 3 j)) (fun j => Wc32.2.2 45 j)) (fun j => Wd2.2.2 47 j))⟩, lv_sub hl [0, 1, 2, 3] rfl⟩
      · have hw := hw.2 (z0_eq g_r32 c35)
        refine lv_iconst (v := zI 0) C.1 C.2.1 dX12_makes_38 (by decide) ?_
        exact k_retMi C hr hlk (by decide) Wd (u := (row_r32, fresh_r32, many_r32, made_r32, bound_r32, patternAt_r32, isOut_2, someOut_2)) rfl rfl ⟨⟨_, rfl, (show rng 0 from by decide), hw⟩, ⟨(rsI (rsI (rsI (rsI hS.1 (Wc32.2.1 4)) (Wc32.2.1 5)) (Wc32.2.1 46)) (Wd2.2.1 48)), (rsF (rsF (rsF (rsF hS.2 (fun j => Wc32.2.2 2 j)) (fun j => Wc32.2.2 3 j)) (fun j => Wc32.2.2 45 j)) (fun j => Wd2.2.2 47 j))⟩⟩ dX12_makes_39
set_option maxHeartbeats 4000000 in
set_option maxRecDepth 100000 in
theorem mt_make : ∀ (D : va_G) (h : Nat) (ad : Nat → Nat) (ca : Nat → ClassId) (I : Nat → Int) (F : Nat → Int → Int) (hS : rngS I F) (x0 : Int) (x1 : Int) (x2 : Int) (g_x0 : rng x0) (g_x1 : rng x1) (g_x2 : rng x2) (K : Int → (Int → Int) → (Int → Int) → (Int → Int) → (Int → Int) → Int → Int → (Int → Int) → Int → (Int → Int) → Int → Prop) (hw : wp_make (F 0) (F 1) (F 2) (F 3) (I 4) (I 5) (F 24) (F 25) (F 26) (F 45) (I 46) (F 47) (I 48) (F 49) (F 50) x0 x1 x2 K) (l : Launch) (sz : Nat), Met l yX12_make (Cond.code yX12_make cX12_make 4 (some .int) :: gG) { frames := 1109, cells := 0, slots := 0, locals := 25696 } (cPre D (tM ca) (wM h ad ca I F) sz [.ref h, .int (zI x0), .int (zI x1), .int (zI x2)]) (va_Qi (fun (r : Int32) (u : (Int → Int) × (Int → Int) × (Int → Int) × (Int → Int) × (Int) × (Int) × (Int → Int) × (Int) × (Int → Int) × (Int)) => (∃ x : Int, r = zI x ∧ rng x ∧ K x u.1 u.2.1 u.2.2.1 u.2.2.2.1 u.2.2.2.2.1 u.2.2.2.2.2.1 u.2.2.2.2.2.2.1 u.2.2.2.2.2.2.2.1 u.2.2.2.2.2.2.2.2.1 u.2.2.2.2.2.2.2.2.2) ∧ rngS (sI (sI (sI (sI I 4 u.2.2.2.2.1) 5 u.2.2.2.2.2.1) 46 u.2.2.2.2.2.2.2.1) 48 u.2.2.2.2.2.2.2.2.2) (sF (sF (sF (sF (sF (sF F 0 u.1) 1 u.2.1) 2 u.2.2.1) 3 u.2.2.2.1) 45 u.2.2.2.2.2.2.1) 47 u.2.2.2.2.2.2.2.2.1)) (fun u t => cB D (va_A (wM h ad ca I F) sz) [] (wM h ad ca (sI (sI (sI (sI I 4 u.2.2.2.2.1) 5 u.2.2.2.2.2.1) 46 u.2.2.2.2.2.2.2.1) 48 u.2.2.2.2.2.2.2.2.2) (sF (sF (sF (sF (sF (sF F 0 u.1) 1 u.2.1) 2 u.2.2.1) 3 u.2.2.2.1) 45 u.2.2.2.2.2.2.1) 47 u.2.2.2.2.2.2.2.2.1)) t) (va_A (wM h ad ca I F) sz)) 0 0 (va_A (wM h ad ca I F) sz) := by
  intro D h ad ca I F hS x0 x1 x2 g_x0 g_x1 g_x2 K hw l sz
  refine Met.ofW (cc := cX12_make) (maxL := 4) (ret := (some .int)) (by decide) rfl ?_
  intro p e s m args below meth c s₁ B hml hv
  obtain ⟨rfl, aks, rfl, Wd⟩ := k_enter hv
  have C : CallFix p m c cX12_make 4 s _ gG RX12 := ⟨B.exec, B.bytes, hml, findClass_of_methodNamed B.named, fun w h => atoms_spec (ws := Cond.code yX12_make cX12_make 4 (some .int) :: gG) B.pre w (List.mem_cons_of_mem _ h)⟩
  have hr := B.returns
  have hlk := B.notSynchronized
  generalize va_A (wM h ad ca I F) s.heap.size = A at Wd ⊢
  replace Wd : wXM D ca s h ad I F s.heap A s.heap [] := ⟨Wd, hS⟩
  refine k_locals (Nat.le_of_ble_eq_true rfl) [(0, .ref h), (1, .int (zI x0)), (2, .int (zI x1)), (3, .int (zI x2))] rfl (fun ls hl => ?_)
  unfold wp_make at hw
  refine lv_iload_n C.1 C.2.1 dX12_make_0 rfl (lv_at hl 1 rfl) ?_
  refine k_pi (k_runS (rest := []) C aks Wd.1 cs_X12_423 (mt_isPass D x0 g_x0 _ hw l _) [] rfl (by decide) [] rfl rfl rfl ⟨(Nat.le_of_ble_eq_true rfl), (Nat.le_of_ble_eq_true rfl)⟩ hl.1 rfl rfl (Nat.le_of_ble_eq_true rfl) ⟨(Nat.le_of_ble_eq_true rfl), (Nat.le_of_ble_eq_true rfl)⟩ dX12_make_1) (fun y1 hy => ?_)
  obtain ⟨r1, rfl, g_r1, hw⟩ := hy
  refine lv_if_eq (tgt := 21) C.1 C.2.1 dX12_make_4 (by decide) (fun c4 => ?_) (fun c4 => ?_)
  · have hw := hw.1 (z0_eq g_r1 c4)
    refine lv_iconst (v := zI (-1)) C.1 C.2.1 dX12_make_21 (by decide) ?_
    exact k_retMi C hr hlk rfl Wd (u := ((F 0), (F 1), (F 2), (F 3), (I 4), (I 5), (F 45), (I 46), (F 47), (I 48))) rfl rfl ⟨⟨_, rfl, (show rng (-1) from by decide), hw⟩, ⟨(rsI (rsI (rsI (rsI hS.1 (hS.1 4)) (hS.1 5)) (hS.1 46)) (hS.1 48)), (rsF (rsF (rsF (rsF (rsF (rsF hS.2 (hS.2 0)) (hS.2 1)) (hS.2 2)) (hS.2 3)) (hS.2 45)) (hS.2 47))⟩⟩ dX12_make_22
  · have hw := hw.2 (z0_ne g_r1 c4)
    refine lv_iload_n C.1 C.2.1 dX12_make_7 rfl (lv_at hl 2 rfl) ?_
    refine k_pi (k_runS (rest := []) C aks Wd.1 cs_X12_249 (mt_isSlot D x1 g_x1 _ hw l _) [] rfl (by decide) [] rfl rfl rfl ⟨(Nat.le_of_ble_eq_true rfl), (Nat.le_of_ble_eq_true rfl)⟩ hl.1 rfl rfl (Nat.le_of_ble_eq_true rfl) ⟨(Nat.le_of_ble_eq_true rfl), (Nat.le_of_ble_eq_true rfl)⟩ dX12_make_8) (fun y8 hy => ?_)
    obtain ⟨r8, rfl, g_r8, hw⟩ := hy
    refine lv_if_eq (tgt := 21) C.1 C.2.1 dX12_make_11 (by decide) (fun c11 => ?_) (fun c11 => ?_)
    · have hw := hw.1 (z0_eq g_r8 c11)
      refine lv_iconst (v := zI (-1)) C.1 C.2.1 dX12_make_21 (by decide) ?_
      exact k_retMi C hr hlk rfl Wd (u := ((F 0), (F 1), (F 2), (F 3), (I 4), (I 5), (F 45), (I 46), (F 47), (I 48))) rfl rfl ⟨⟨_, rfl, (show rng (-1) from by decide), hw⟩, ⟨(rsI (rsI (rsI (rsI hS.1 (hS.1 4)) (hS.1 5)) (hS.1 46)) (hS.1 48)), (rsF (rsF (rsF (rsF (rsF (rsF hS.2 (hS.2 0)) (hS.2 1)) (hS.2 2)) (hS.2 3)) (hS.2 45)) (hS.2 47))⟩⟩ dX12_make_22
    · have hw := hw.2 (z0_ne g_r8 c11)
      refine lv_iload_n C.1 C.2.1 dX12_make_14 rfl (lv_at hl 3 rfl) ?_
      refine k_pi (k_runS (rest := []) C aks Wd.1 cs_X12_249 (mt_isSlot D x2 g_x2 _ hw l _) [] rfl (by decide) [] rfl rfl rfl ⟨(Nat.le_of_ble_eq_true rfl), (Nat.le_of_ble_eq_true rfl)⟩ hl.1 rfl rfl (Nat.le_of_ble_eq_true rfl) ⟨(Nat.le_of_ble_eq_true rfl), (Nat.le_of_ble_eq_true rfl)⟩ dX12_make_15) (fun y15 hy => ?_)
      obtain ⟨r15, rfl, g_r15, hw⟩ := hy
      refine lv_if_ne (tgt := 23) C.1 C.2.1 dX12_make_18 (by decide) (fun c18 => ?_) (fun c18 => ?_)
      · have hw := hw.1 (z0_ne g_r15 c18)
        refine lv_aload_n C.1 C.2.1 dX12_make_23 rfl (lv_at hl 0 rfl) ?_
        refine lv_iload_n C.1 C.2.1 dX12_make_24 rfl (lv_at hl 2 rfl) ?_
        refine k_cMv Wd (k_runVM (rest := []) C aks Wd cs_X12_271 (mt_takes D h ad ca I F Wd.2 x1 g_x1 _ hw l _) rfl rfl ⟨(Nat.le_of_ble_eq_true rfl), (Nat.le_of_ble_eq_true rfl)⟩ hl.1 rfl rfl (Nat.le_of_ble_eq_true rfl) ⟨(Nat.le_of_ble_eq_true rfl), (Nat.le_of_ble_eq_true rfl)⟩ dX12_make_25) (fun u25 H locs hw Wd => ?_)
        obtain ⟨row_r25, many_r25⟩ := u25
        dsimp only at hw
        have Wc25 := Wd
        have Wd : wXM D ca s h ad (sI I 4 many_r25) (sF F 2 row_r25) H A s.heap locs := wMc Wd rfl rfl ⟨(rsI hS.1 (Wc25.2.1 4)), (rsF hS.2 (fun j => Wc25.2.2 2 j))⟩
        refine lv_aload_n C.1 C.2.1 dX12_make_28 rfl (lv_at hl 0 rfl) ?_
        refine lv_iload_n C.1 C.2.1 dX12_make_29 rfl (lv_at hl 1 rfl) ?_
        refine k_cMi Wd (k_runVM (rest := []) C aks Wd cs_X12_439 (mt_makes D h ad ca (sI I 4 many_r25) (sF F 2 row_r25) Wd.2 x0 g_x0 _ hw l _) rfl rfl ⟨(Nat.le_of_ble_eq_true rfl), (Nat.le_of_ble_eq_true rfl)⟩ hl.1 rfl rfl (Nat.le_of_ble_eq_true rfl) ⟨(Nat.le_of_ble_eq_true rfl), (Nat.le_of_ble_eq_true rfl)⟩ dX12_make_30) (fun r30 u30 H locs g_r30 hw Wd => ?_)
        obtain ⟨row_r30, fresh_r30, many_r30, made_r30, bound_r30, patternAt_r30, isOut_r30, someOut_r30⟩ := u30
        dsimp only at hw
        have Wc30 := Wd
        have Wd : wXM D ca s h ad (sI (sI (sI (sI I 4 many_r30) 5 made_r30) 46 patternAt_r30) 48 someOut_r30) (sF (sF (sF (sF F 2 row_r30) 3 fresh_r30) 45 bound_r30) 47 isOut_r30) H A s.heap locs := wMc Wd rfl rfl ⟨(rsI (rsI (rsI (rsI hS.1 (Wc30.2.1 4)) (Wc30.2.1 5)) (Wc30.2.1 46)) (Wc30.2.1 48)), (rsF (rsF (rsF (rsF hS.2 (fun j => Wc30.2.2 2 j)) (fun j => Wc30.2.2 3 j)) (fun j => Wc30.2.2 45 j)) (fun j => Wc30.2.2 47 j))⟩
        refine lv_if_ne (tgt := 38) C.1 C.2.1 dX12_make_33 (by decide) (fun c33 => ?_) (fun c33 => ?_)
        · have hw := hw.1 (z0_ne g_r30 c33)
          refine lv_aload_n C.1 C.2.1 dX12_make_38 rfl (lv_at hl 0 rfl) ?_
          refine lv_iload_n C.1 C.2.1 dX12_make_39 rfl (lv_at hl 3 rfl) ?_
          refine k_cMv Wd (k_runVM (rest := []) C aks Wd cs_X12_262 (mt_puts D h ad ca (sI (sI (sI (sI I 4 many_r30) 5 made_r30) 46 patternAt_r30) 48 someOut_r30) (sF (sF (sF (sF F 2 row_r30) 3 fresh_r30) 45 bound_r30) 47 isOut_r30) Wd.2 x2 g_x2 _ hw l _) rfl rfl ⟨(Nat.le_of_ble_eq_true rfl), (Nat.le_of_ble_eq_true rfl)⟩ hl.1 rfl rfl (Nat.le_of_ble_eq_true rfl) ⟨(Nat.le_of_ble_eq_true rfl), (Nat.le_of_ble_eq_true rfl)⟩ dX12_make_40) (fun u40 H locs hw Wd => ?_)
          obtain ⟨slot_r40, slotLong_r40⟩ := u40
          dsimp only at hw
          have Wc40 := Wd
          have Wd : wXM D ca s h ad (sI (sI (sI (sI I 4 many_r30) 5 made_r30) 46 patternAt_r30) 48 someOut_r30) (sF (sF (sF (sF (sF (sF F 0 slot_r40) 1 slotLong_r40) 2 row_r30) 3 fresh_r30) 45 bound_r30) 47 isOut_r30) H A s.heap locs := wMc Wd rfl rfl ⟨(rsI (rsI (rsI (rsI hS.1 (Wc30.2.1 4)) (Wc30.2.1 5)) (Wc30.2.1 46)) (Wc30.2.1 48)), (rsF (rsF (rsF (rsF (rsF (rsF hS.2 (fun j => Wc40.2.2 0 j)) (fun j => Wc40.2.2 1 j)) (fun j => Wc30.2.2 2 j)) (fun j => Wc30.2.2 3 j)) (fun j => Wc30.2.2 45 j)) (fun j => Wc30.2.2 47 j))⟩
          refine lv_aload_n C.1 C.2.1 dX12_make_43 rfl (lv_at hl 0 rfl) ?_
          refine k_pi (k_runVM (rest := []) C aks Wd cs_X12_265 (mt_statements D h ad ca (sI (sI (sI (sI I 4 many_r30) 5 made_r30) 46 patternAt_r30) 48 someOut_r30) (sF (sF (sF (sF (sF (sF F 0 slot_r40) 1 slotLong_r40) 2 row_r30) 3 fresh_r30) 45 bound_r30) 47 isOut_r30) Wd.2   _ hw l _) rfl rfl ⟨(Nat.le_of_ble_eq_true rfl), (Nat.le_of_ble_eq_true rfl)⟩ hl.1 rfl rfl (Nat.le_of_ble_eq_true rfl) ⟨(Nat.le_of_ble_eq_true rfl), (Nat.le_of_ble_eq_true rfl)⟩ dX12_make_44) (fun y44 hy => ?_)
          obtain ⟨r44, rfl, g_r44, hw⟩ := hy
          exact k_retMi C hr hlk rfl Wd (u := (slot_r40, slotLong_r40, row_r30, fresh_r30, many_r30, made_r30, bound_r30, patternAt_r30, isOut_r30, someOut_r30)) rfl rfl ⟨⟨_, rfl, g_r44, hw⟩, ⟨(rsI (rsI (rsI (rsI hS.1 (Wc30.2.1 4)) (Wc30.2.1 5)) (Wc30.2.1 46)) (Wc30.2.1 48)), (rsF (rsF (rsF (rsF (rsF (rsF hS.2 (fun j => Wc40.2.2 0 j)) (fun j => Wc40.2.2 1 j)) (fun j => Wc30.2.2 2 j)) (fun j => Wc30.2.2 3 j)) (fun j => Wc30.2.2 45 j)) (fun j => Wc30.2.2 47 j))⟩⟩ dX12_make_47
        · have hw := hw.2 (z0_eq g_r30 c33)
          refine lv_iconst (v := zI (-1)) C.1 C.2.1 dX12_make_36 (by decide) ?_
          exact k_retMi C hr hlk rfl Wd (u := ((F 0), (F 1), row_r30, fresh_r30, many_r30, made_r30, bound_r30, patternAt_r30, isOut_r30, someOut_r30)) rfl rfl ⟨⟨_, rfl, (show rng (-1) from by decide), hw⟩, ⟨(rsI (rsI (rsI (rsI hS.1 (Wc30.2.1 4)) (Wc30.2.1 5)) (Wc30.2.1 46)) (Wc30.2.1 48)), (rsF (rsF (rsF (rsF (rsF (rsF hS.2 (hS.2 0)) (hS.2 1)) (fun j => Wc30.2.2 2 j)) (fun j => Wc30.2.2 3 j)) (fun j => Wc30.2.2 45 j)) (fun j => Wc30.2.2 47 j))⟩⟩ dX12_make_37
      · have hw := hw.2 (z0_eq g_r15 c18)
        refine lv_iconst (v := zI (-1)) C.1 C.2.1 dX12_make_21 (by decide) ?_
        exact k_retMi C hr hlk rfl Wd (u := ((F 0), (F 1), (F 2), (F 3), (I 4), (I 5), (F 45), (I 46), (F 47), (I 48))) rfl rfl ⟨⟨_, rfl, (show rng (-1) from by decide), hw⟩, ⟨(rsI (rsI (rsI (rsI hS.1 (hS.1 4)) (hS.1 5)) (hS.1 46)) (hS.1 48)), (rsF (rsF (rsF (rsF (rsF (rsF hS.2 (hS.2 0)) (hS.2 1)) (hS.2 2)) (hS.2 3)) (hS.2 45)) (hS.2 47))⟩⟩ dX12_make_22
set_option maxHeartbeats 4000000 in
set_option maxRecDepth 100000 in
theorem mt_blame : ∀ (D : va_G) (h : Nat) (ad : Nat → Nat) (ca : Nat → ClassId) (I : Nat → Int) (F : Nat → Int → Int) (hS : rngS I F) (x0 : Int) (x1 : Int) (g_x0 : rng x0) (g_x1 : rng x1) (K : Int → (Int → Int) → (Int → Int) → Int → Int → (Int → Int) → (Int → Int) → Int → Int → Int → Int → (Int → Int) → (Int → Int) → (Int → Int) → Int → Int → Int → Int → (Int → Int) → Int → (Int → Int) → Int → Prop) (hw : wp_blame (F 0) (F 1) (F 2) (F 3) (I 4) (I 5) (F 24) (F 25) (F 26) (F 28) (F 29) (I 30) (I 31) (I 32) (I 33) (F 34) (F 35) (F 36) (I 37) (I 38) (I 39) (I 40) (F 45) (I 46) (F 47) (I 48) (F 49) (F 50) x0 x1 K) (l : Launch) (sz : Nat), Met l yX12_blame (Cond.code yX12_blame cX12_blame 4 (some .int) :: gG) { frames := 1109, cells := 0, slots := 0, locals := 25696 } (cPre D (tM ca) (wM h ad ca I F) sz [.ref h, .int (zI x0), .int (zI x1)]) (va_Qi (fun (r : Int32) (u : (Int → Int) × (Int → Int) × (Int) × (Int) × (Int → Int) × (Int → Int) × (Int) × (Int) × (Int) × (Int) × (Int → Int) × (Int → Int) × (Int → Int) × (Int) × (Int) × (Int) × (Int) × (Int → Int) × (Int) × (Int → Int) × (Int)) => (∃ x : Int, r = zI x ∧ rng x ∧ K x u.1 u.2.1 u.2.2.1 u.2.2.2.1 u.2.2.2.2.1 u.2.2.2.2.2.1 u.2.2.2.2.2.2.1 u.2.2.2.2.2.2.2.1 u.2.2.2.2.2.2.2.2.1 u.2.2.2.2.2.2.2.2.2.1 u.2.2.2.2.2.2.2.2.2.2.1 u.2.2.2.2.2.2.2.2.2.2.2.1 u.2.2.2.2.2.2.2.2.2.2.2.2.1 u.2.2.2.2.2.2.2.2.2.2.2.2.2.1 u.2.2.2.2.2.2.2.2.2.2.2.2.2.2.1 u.2.2.2.2.2.2.2.2.2.2.2.2.2.2.2.1 u.2.2.2.2.2.2.2.2.2.2.2.2.2.2.2.2.1 u.2.2.2.2.2.2.2.2.2.2.2.2.2.2.2.2.2.1 u.2.2.2.2.2.2.2.2.2.2.2.2.2.2.2.2.2.2.1 u.2.2.2.2.2.2.2.2.2.2.2.2.2.2.2.2.2.2.2.1 u.2.2.2.2.2.2.2.2.2.2.2.2.2.2.2.2.2.2.2.2) ∧ rngS (sI (sI (sI (sI (sI (sI (sI (sI (sI (sI (sI (sI I 4 u.2.2.1) 5 u.2.2.2.1) 30 u.2.2.2.2.2.2.1) 31 u.2.2.2.2.2.2.2.1) 32 u.2.2.2.2.2.2.2.2.1) 33 u.2.2.2.2.2.2.2.2.2.1) 37 u.2.2.2.2.2.2.2.2.2.2.2.2.2.1) 38 u.2.2.2.2.2.2.2.2.2.2.2.2.2.2.1) 39 u.2.2.2.2.2.2.2.2.2.2.2.2.2.2.2.1) 40 u.2.2.2.2.2.2.2.2.2.2.2.2.2.2.2.2.1) 46 u.2.2.2.2.2.2.2.2.2.2.2.2.2.2.2.2.2.2.1) 48 u.2.2.2.2.2.2.2.2.2.2.2.2.2.2.2.2.2.2.2.2) (sF (sF (sF (sF (sF (sF (sF (sF (sF F 2 u.1) 3 u.2.1) 28 u.2.2.2.2.1) 29 u.2.2.2.2.2.1) 34 u.2.2.2.2.2.2.2.2.2.2.1) 35 u.2.2.2.2.2.2.2.2.2.2.2.1) 36 u.2.2.2.2.2.2.2.2.2.2.2.2.1) 45 u.2.2.2.2.2.2.2.2.2.2.2.2.2.2.2.2.2.1) 47 u.2.2.2.2.2.2.2.2.2.2.2.2.2.2.2.2.2.2.2.1)) (fun u t => cB D (va_A (wM h ad ca I F) sz) [] (wM h ad ca (sI (sI (sI (sI (sI (sI (sI (sI (sI (sI (sI (sI I 4 u.2.2.1) 5 u.2.2.2.1) 30 u.2.2.2.2.2.2.1) 31 u.2.2.2.2.2.2.2.1) 32 u.2.2.2.2.2.2.2.2.1) 33 u.2.2.2.2.2.2.2.2.2.1) 37 u.2.2.2.2.2.2.2.2.2.2.2.2.2.1) 38 u.2.2.2.2.2.2.2.2.2.2.2.2.2.2.1) 39 u.2.2.2.2.2.2.2.2.2.2.2.2.2.2.2.1) 40 u.2.2.2.2.2.2.2.2.2.2.2.2.2.2.2.2.1) 46 u.2.2.2.2.2.2.2.2.2.2.2.2.2.2.2.2.2.2.1) 48 u.2.2.2.2.2.2.2.2.2.2.2.2.2.2.2.2.2.2.2.2) (sF (sF (sF (sF (sF (sF (sF (sF (sF F 2 u.1) 3 u.2.1) 28 u.2.2.2.2.1) 29 u.2.2.2.2.2.1) 34 u.2.2.2.2.2.2.2.2.2.2.1) 35 u.2.2.2.2.2.2.2.2.2.2.2.1) 36 u.2.2.2.2.2.2.2.2.2.2.2.2.1) 45 u.2.2.2.2.2.2.2.2.2.2.2.2.2.2.2.2.2.1) 47 u.2.2.2.2.2.2.2.2.2.2.2.2.2.2.2.2.2.2.2.1)) t) (va_A (wM h ad ca I F) sz)) 0 0 (va_A (wM h ad ca I F) sz) := by
  intro D h ad ca I F hS x0 x1 g_x0 g_x1 K hw l sz
  refine Met.ofW (cc := cX12_blame) (maxL := 4) (ret := (some .int)) (by decide) rfl ?_
  intro p e s m args below meth c s₁ B hml hv
  obtain ⟨rfl, aks, rfl, Wd⟩ := k_enter hv
  have C : CallFix p m c cX12_blame 4 s _ gG RX12 := ⟨B.exec, B.bytes, hml, findClass_of_methodNamed B.named, fun w h => atoms_spec (ws := Cond.code yX12_blame cX12_blame 4 (some .int) :: gG) B.pre w (List.mem_cons_of_mem _ h)⟩
  have hr := B.returns
  have hlk := B.notSynchronized
  generalize va_A (wM h ad ca I F) s.heap.size = A at Wd ⊢
  replace Wd : wXM D ca s h ad I F s.heap A s.heap [] := ⟨Wd, hS⟩
  refine k_locals (Nat.le_of_ble_eq_true rfl) [(0, .ref h), (1, .int (zI x0)), (2, .int (zI x1))] rfl (fun ls hl => ?_)
  unfold wp_blame at hw
  refine lv_iload_n C.1 C.2.1 dX12_blame_0 rfl (lv_at hl 1 rfl) ?_
  refine k_pi (k_runS (rest := []) C aks Wd.1 cs_X12_249 (mt_isSlot D x0 g_x0 _ hw l _) [] rfl (by decide) [] rfl rfl rfl ⟨(Nat.le_of_ble_eq_true rfl), (Nat.le_of_ble_eq_true rfl)⟩ hl.1 rfl rfl (Nat.le_of_ble_eq_true rfl) ⟨(Nat.le_of_ble_eq_true rfl), (Nat.le_of_ble_eq_true rfl)⟩ dX12_blame_1) (fun y1 hy => ?_)
  obtain ⟨r1, rfl, g_r1, hw⟩ := hy
  refine lv_if_eq (tgt := 16) C.1 C.2.1 dX12_blame_4 (by decide) (fun c4 => ?_) (fun c4 => ?_)
  · have hw := hw.1 (z0_eq g_r1 c4)
    refine lv_iconst (v := zI (-1)) C.1 C.2.1 dX12_blame_16 (by decide) ?_
    exact k_retMi C hr hlk rfl Wd (u := ((F 2), (F 3), (I 4), (I 5), (F 28), (F 29), (I 30), (I 31), (I 32), (I 33), (F 34), (F 35), (F 36), (I 37), (I 38), (I 39), (I 40), (F 45), (I 46), (F 47), (I 48))) rfl rfl ⟨⟨_, rfl, (show rng (-1) from by decide), hw⟩, ⟨(rsI (rsI (rsI (rsI (rsI (rsI (rsI (rsI (rsI (rsI (rsI (rsI hS.1 (hS.1 4)) (hS.1 5)) (hS.1 30)) (hS.1 31)) (hS.1 32)) (hS.1 33)) (hS.1 37)) (hS.1 38)) (hS.1 39)) (hS.1 40)) (hS.1 46)) (hS.1 48)), (rsF (rsF (rsF (rsF (rsF (rsF (rsF (rsF (rsF hS.2 (hS.2 2)) (hS.2 3)) (hS.2 28)) (hS.2 29)) (hS.2 34)) (hS.2 35)) (hS.2 36)) (hS.2 45)) (hS.2 47))⟩⟩ dX12_blame_17
  · have hw := hw.2 (z0_ne g_r1 c4)
    refine lv_iload_n C.1 C.2.1 dX12_blame_7 rfl (lv_at hl 2 rfl) ?_
    refine lv_iconst (v := zI 0) C.1 C.2.1 dX12_blame_8 (by decide) ?_
    refine lv_iconst (v := zI 1) C.1 C.2.1 dX12_blame_9 (by decide) ?_
    refine k_pi (k_runS (rest := []) C aks Wd.1 cs_X12_90 (mt_isIn D x1 0 1 g_x1 (show rng 0 from by decide) (show rng 1 from by decide) _ hw l _) [] rfl (by decide) [] rfl rfl rfl ⟨(Nat.le_of_ble_eq_true rfl), (Nat.le_of_ble_eq_true rfl)⟩ hl.1 rfl rfl (Nat.le_of_ble_eq_true rfl) ⟨(Nat.le_of_ble_eq_true rfl), (Nat.le_of_ble_eq_true rfl)⟩ dX12_blame_10) (fun y10 hy => ?_)
    obtain ⟨r10, rfl, g_r10, hw⟩ := hy
    refine lv_if_ne (tgt := 18) C.1 C.2.1 dX12_blame_13 (by decide) (fun c13 => ?_) (fun c13 => ?_)
    · have hw := hw.1 (z0_ne g_r10 c13)
      refine lv_aload_n C.1 C.2.1 dX12_blame_18 rfl (lv_at hl 0 rfl) ?_
      refine lv_iload_n C.1 C.2.1 dX12_blame_19 rfl (lv_at hl 1 rfl) ?_
      refine k_cMv Wd (k_runVM (rest := []) C aks Wd cs_X12_271 (mt_takes D h ad ca I F Wd.2 x0 g_x0 _ hw l _) rfl rfl ⟨(Nat.le_of_ble_eq_true rfl), (Nat.le_of_ble_eq_true rfl)⟩ hl.1 rfl rfl (Nat.le_of_ble_eq_true rfl) ⟨(Nat.le_of_ble_eq_true rfl), (Nat.le_of_ble_eq_true rfl)⟩ dX12_blame_20) (fun u20 H locs hw Wd => ?_)
      obtain ⟨row_r20, many_r20⟩ := u20
      dsimp only at hw
      have Wc20 := Wd
      have Wd : wXM D ca s h ad (sI I 4 many_r20) (sF F 2 row_r20) H A s.heap locs := wMc Wd rfl rfl ⟨(rsI hS.1 (Wc20.2.1 4)), (rsF hS.2 (fun j => Wc20.2.2 2 j))⟩
      refine lv_iconst (v := zI 0) C.1 C.2.1 dX12_blame_23 (by decide) ?_
      refine lv_istore_n (lv' := [(3, .int (zI 0)), (0, .ref h), (1, .int (zI x0)), (2, .int (zI x1))]) C.1 C.2.1 dX12_blame_24 rfl hl (by decide) rfl (fun ls hl => ?_)
      replace hl := lv_sub hl [1, 2, 3, 0] rfl
      refine k_lp22 hw (fun (l3_25 : Int) (row_25 : Int → Int) (fresh_25 : Int → Int) (many_25 : Int) (made_25 : Int) (holds_25 : Int → Int) (outs_25 : Int → Int) (steps_25 : Int) (ending_25 : Int) (outMany_25 : Int) (cursor_25 : Int) (keptEnd_25 : Int → Int) (keptMany_25 : Int → Int) (keptOut_25 : Int → Int) (firstParting_25 : Int) (firstPlace_25 : Int) (partings_25 : Int) (anyTired_25 : Int) (bound_25 : Int → Int) (patternAt_25 : Int) (isOut_25 : Int → Int) (someOut_25 : Int) H locs ls => rng l3_25 ∧ wXM D ca s h ad (sI (sI (sI (sI (sI (sI (sI (sI (sI (sI (sI (sI I 4 many_25) 5 made_25) 30 steps_25) 31 ending_25) 32 outMany_25) 33 cursor_25) 37 firstParting_25) 38 firstPlace_25) 39 partings_25) 40 anyTired_25) 46 patternAt_25) 48 someOut_25) (sF (sF (sF (sF (sF (sF (sF (sF (sF F 2 row_25) 3 fresh_25) 28 holds_25) 29 outs_25) 34 keptEnd_25) 35 keptMany_25) 36 keptOut_25) 45 bound_25) 47 isOut_25) H A s.heap locs ∧ lv_has ls 4 [(0, .ref h), (2, .int (zI x1)), (3, .int (zI l3_25))]) (fun (l3_25 : Int) (row_25 : Int → Int) (fresh_25 : Int → Int) (many_25 : Int) (made_25 : Int) (holds_25 : Int → Int) (outs_25 : Int → Int) (steps_25 : Int) (ending_25 : Int) (outMany_25 : Int) (cursor_25 : Int) (keptEnd_25 : Int → Int) (keptMany_25 : Int → Int) (keptOut_25 : Int → Int) (firstParting_25 : Int) (firstPlace_25 : Int) (partings_25 : Int) (anyTired_25 : Int) (bound_25 : Int → Int) (patternAt_25 : Int) (isOut_25 : Int → Int) (someOut_25 : Int) ls => F0 m 25 ls []) (fun L25 hL25 l3_25 row_25 fresh_25 many_25 made_25 holds_25 outs_25 steps_25 ending_25 outMany_25 cursor_25 keptEnd_25 keptMany_25 keptOut_25 firstParting_25 firstPlace_25 partings_25 anyTired_25 bound_25 patternAt_25 isOut_25 someOut_25 hw H locs ls hi => ?_) _ _ _ ⟨(show rng 0 from by decide), wMc Wd rfl rfl ⟨(rsI (rsI (rsI (rsI (rsI (rsI (rsI (rsI (rsI (rsI (rsI (rsI hS.1 (Wc20.2.1 4)) (hS.1 5)) (hS.1 30)) (hS.1 31)) (hS.1 32)) (hS.1 33)) (hS.1 37)) (hS.1 38)) (hS.1 39)) (hS.1 40)) (hS.1 46)) (hS.1 48)), (rsF (rsF (rsF (rsF (rsF (rsF (rsF (rsF (rsF hS.2 (fun j => Wc20.2.2 2 j)) (hS.2 3)) (hS.2 28)) (hS.2 29)) (hS.2 34)) (hS.2 35)) (hS.2 36)) (hS.2 45)) (hS.2 47))⟩, lv_sub hl [0, 2, 3] rfl⟩
      obtain ⟨g_l3_25, Wd, hl⟩ := hi
      have Wd25 := Wd
      unfold wp_blame_25 at hw
      refine lv_iload_n C.1 C.2.1 dX12_blame_25 rfl (lv_at hl 2 rfl) ?_
      refine lv_bipush (v := zI 6) C.1 C.2.1 dX12_blame_26 (by decide) ?_
      refine lv_icmp_ge (tgt := 96) C.1 C.2.1 dX12_blame_28 (by decide) (fun c28 => ?_) (fun c28 => ?_)
      · have hw := hw.1 (z_le (show rng 6 from by decide) g_l3_25 c28)
        refine lv_iconst (v := zI (-1)) C.1 C.2.1 dX12_blame_96 (by decide) ?_
        exact k_retMi C hr hlk rfl Wd (u := (row_25, fresh_25, many_25, made_25, holds_25, outs_25, steps_25, ending_25, outMany_25, cursor_25, keptEnd_25, keptMany_25, keptOut_25, firstParting_25, firstPlace_25, partings_25, anyTired_25, bound_25, patternAt_25, isOut_25, someOut_25)) rfl rfl ⟨⟨_, rfl, (show rng (-1) from by decide), hw⟩, ⟨(rsI (rsI (rsI (rsI (rsI (rsI (rsI (rsI (rsI (rsI (rsI (rsI hS.1 (Wd25.2.1 4)) (Wd25.2.1 5)) (Wd25.2.1 30)) (Wd25.2.1 31)) (Wd25.2.1 32)) (Wd25.2.1 33)) (Wd25.2.1 37)) (Wd25.2.1 38)) (Wd25.2.1 39)) (Wd25.2.1 40)) (Wd25.2.1 46)) (Wd25.2.1 48)), (rsF (rsF (rsF (rsF (rsF (rsF (rsF (rsF (rsF hS.2 (fun j => Wd25.2.2 2 j)) (fun j => Wd25.2.2 3 j)) (fun j => Wd25.2.2 28 j)) (fun j => Wd25.2.2 29 j)) (fun j => Wd25.2.2 34 j)) (fun j => Wd25.2.2 35 j)) (fun j => Wd25.2.2 36 j)) (fun j => Wd25.2.2 45 j)) (fun j => Wd25.2.2 47 j))⟩⟩ dX12_blame_97
      · have hw := hw.2 (z_nle (show rng 6 from by decide) g_l3_25 c28)
        refine lv_aload_n C.1 C.2.1 dX12_blame_31 rfl (lv_at hl 0 rfl) ?_
        refine k_get (v := .ref (ad 50)) C Wd.1 KX12 0 50 wM0 (by decide) fl_X12_75 rfl dX12_blame_32 ?_
        refine lv_iload_n C.1 C.2.1 dX12_blame_35 rfl (lv_at hl 2 rfl) ?_
        obtain ⟨a36, hw⟩ := hw
        refine k_ialdM (g := (F 50)) C Wd 21 20 rfl rfl a36 (by decide) dX12_blame_36 ?_
        have g36 : rng ((F 50) l3_25) := rngL (hS.2 50) a36
        refine lv_if_ne (tgt := 43) C.1 C.2.1 dX12_blame_37 (by decide) (fun c37 => ?_) (fun c37 => ?_)
        · have hw := hw.1 (z0_ne g36 c37)
          refine lv_aload_n C.1 C.2.1 dX12_blame_43 rfl (lv_at hl 0 rfl) ?_
          refine k_cMv Wd (k_runVM (rest := []) C aks Wd cs_X12_330 (mt_keeps D h ad ca (sI (sI (sI (sI (sI (sI (sI (sI (sI (sI (sI (sI I 4 many_25) 5 made_25) 30 steps_25) 31 ending_25) 32 outMany_25) 33 cursor_25) 37 firstParting_25) 38 firstPlace_25) 39 partings_25) 40 anyTired_25) 46 patternAt_25) 48 someOut_25) (sF (sF (sF (sF (sF (sF (sF (sF (sF F 2 row_25) 3 fresh_25) 28 holds_25) 29 outs_25) 34 keptEnd_25) 35 keptMany_25) 36 keptOut_25) 45 bound_25) 47 isOut_25) Wd.2   _ hw l _) rfl rfl ⟨(Nat.le_of_ble_eq_true rfl), (Nat.le_of_ble_eq_true rfl)⟩ hl.1 rfl rfl (Nat.le_of_ble_eq_true rfl) ⟨(Nat.le_of_ble_eq_true rfl), (Nat.le_of_ble_eq_true rfl)⟩ dX12_blame_44) (fun u44 H locs hw Wd => ?_)
          obtain ⟨holds_r44, outs_r44, steps_r44, ending_r44, outMany_r44, cursor_r44, keptEnd_r44, keptMany_r44, keptOut_r44⟩ := u44
          dsimp only at hw
          have Wc44 := Wd
          have Wd : wXM D ca s h ad (sI (sI (sI (sI (sI (sI (sI (sI (sI (sI (sI (sI I 4 many_25) 5 made_25) 30 steps_r44) 31 ending_r44) 32 outMany_r44) 33 cursor_r44) 37 firstParting_25) 38 firstPlace_25) 39 partings_25) 40 anyTired_25) 46 patternAt_25) 48 someOut_25) (sF (sF (sF (sF (sF (sF (sF (sF (sF F 2 row_25) 3 fresh_25) 28 holds_r44) 29 outs_r44) 34 keptEnd_r44) 35 keptMany_r44) 36 keptOut_r44) 45 bound_25) 47 isOut_25) H A s.heap locs := wMc Wd rfl rfl ⟨(rsI (rsI (rsI (rsI (rsI (rsI (rsI (rsI (rsI (rsI (rsI (rsI hS.1 (Wd25.2.1 4)) (Wd25.2.1 5)) (Wc44.2.1 30)) (Wc44.2.1 31)) (Wc44.2.1 32)) (Wc44.2.1 33)) (Wd25.2.1 37)) (Wd25.2.1 38)) (Wd25.2.1 39)) (Wd25.2.1 40)) (Wd25.2.1 46)) (Wd25.2.1 48)), (rsF (rsF (rsF (rsF (rsF (rsF (rsF (rsF (rsF hS.2 (fun j => Wd25.2.2 2 j)) (fun j => Wd25.2.2 3 j)) (fun j => Wc44.2.2 28 j)) (fun j => Wc44.2.2 29 j)) (fun j => Wc44.2.2 34 j)) (fun j => Wc44.2.2 35 j)) (fun j => Wc44.2.2 36 j)) (fun j => Wd25.2.2 45 j)) (fun j => Wd25.2.2 47 j))⟩
          refine lv_aload_n C.1 C.2.1 dX12_blame_47 rfl (lv_at hl 0 rfl) ?_
          refine lv_iload_n C.1 C.2.1 dX12_blame_48 rfl (lv_at hl 2 rfl) ?_
          refine k_cMi Wd (k_runVM (rest := []) C aks Wd cs_X12_439 (mt_makes D h ad ca (sI (sI (sI (sI (sI (sI (sI (sI (sI (sI (sI (sI I 4 many_25) 5 made_25) 30 steps_r44) 31 ending_r44) 32 outMany_r44) 33 cursor_r44) 37 firstParting_25) 38 firstPlace_25) 39 partings_25) 40 anyTired_25) 46 patternAt_25) 48 someOut_25) (sF (sF (sF (sF (sF (sF (sF (sF (sF F 2 row_25) 3 fresh_25) 28 holds_r44) 29 outs_r44) 34 keptEnd_r44) 35 keptMany_r44) 36 keptOut_r44) 45 bound_25) 47 isOut_25) Wd.2 l3_25 g_l3_25 _ hw l _) rfl rfl ⟨(Nat.le_of_ble_eq_true rfl), (Nat.le_of_ble_eq_true rfl)⟩ hl.1 rfl rfl (Nat.le_of_ble_eq_true rfl) ⟨(Nat.le_of_ble_eq_true rfl), (Nat.le_of_ble_eq_true rfl)⟩ dX12_blame_49) (fun r49 u49 H locs g_r49 hw Wd => ?_)
          obtain ⟨row_r49, fresh_r49, many_r49, made_r49, bound_r49, patternAt_r49, isOut_r49, someOut_r49⟩ := u49
          dsimp only at hw
          have Wc49 := Wd
          have Wd : wXM D ca s h ad (sI (sI (sI (sI (sI (sI (sI (sI (sI (sI (sI (sI I 4 many_r49) 5 made_r49) 30 steps_r44) 31 ending_r44) 32 outMany_r44) 33 cursor_r44) 37 firstParting_25) 38 firstPlace_25) 39 partings_25) 40 anyTired_25) 46 patternAt_r49) 48 someOut_r49) (sF (sF (sF (sF (sF (sF (sF (sF (sF F 2 row_r49) 3 fresh_r49) 28 holds_r44) 29 outs_r44) 34 keptEnd_r44) 35 keptMany_r44) 36 keptOut_r44) 45 bound_r49) 47 isOut_r49) H A s.heap locs := wMc Wd rfl rfl ⟨(rsI (rsI (rsI (rsI (rsI (rsI (rsI (rsI (rsI (rsI (rsI (rsI hS.1 (Wc49.2.1 4)) (Wc49.2.1 5)) (Wc44.2.1 30)) (Wc44.2.1 31)) (Wc44.2.1 32)) (Wc44.2.1 33)) (Wd25.2.1 37)) (Wd25.2.1 38)) (Wd25.2.1 39)) (Wd25.2.1 40)) (Wc49.2.1 46)) (Wc49.2.1 48)), (rsF (rsF (rsF (rsF (rsF (rsF (rsF (rsF (rsF hS.2 (fun j => Wc49.2.2 2 j)) (fun j => Wc49.2.2 3 j)) (fun j => Wc44.2.2 28 j)) (fun j => Wc44.2.2 29 j)) (fun j => Wc44.2.2 34 j)) (fun j => Wc44.2.2 35 j)) (fun j => Wc44.2.2 36 j)) (fun j => Wc49.2.2 45 j)) (fun j => Wc49.2.2 47 j))⟩
          refine lv_if_ne (tgt := 65) C.1 C.2.1 dX12_blame_52 (by decide) (fun c52 => ?_) (fun c52 => ?_)
          · have hw := hw.1 (z0_ne g_r49 c52)
            refine lv_aload_n C.1 C.2.1 dX12_blame_65 rfl (lv_at hl 0 rfl) ?_
            refine k_cMv Wd (k_runVM (rest := []) C aks Wd cs_X12_333 (mt_compares D h ad ca (sI (sI (sI (sI (sI (sI (sI (sI (sI (sI (sI (sI I 4 many_r49) 5 made_r49) 30 steps_r44) 31 ending_r44) 32 outMany_r44) 33 cursor_r44) 37 firstParting_25) 38 firstPlace_25) 39 partings_25) 40 anyTired_25) 46 patternAt_r49) 48 someOut_r49) (sF (sF (sF (sF (sF (sF (sF (sF (sF F 2 row_r49) 3 fresh_r49) 28 holds_r44) 29 outs_r44) 34 keptEnd_r44) 35 keptMany_r44) 36 keptOut_r44) 45 bound_r49) 47 isOut_r49) Wd.2   _ hw l _) rfl rfl ⟨(Nat.le_of_ble_eq_true rfl), (Nat.le_of_ble_eq_true rfl)⟩ hl.1 rfl rfl (Nat.le_of_ble_eq_true rfl) ⟨(Nat.le_of_ble_eq_true rfl), (Nat.le_of_ble_eq_true rfl)⟩ dX12_blame_66) (fun u66 H locs hw Wd => ?_)
            obtain ⟨holds_r66, outs_r66, steps_r66, ending_r66, outMany_r66, cursor_r66, firstParting_r66, firstPlace_r66, partings_r66, anyTired_r66⟩ := u66
            dsimp only at hw
            have Wc66 := Wd
            have Wd : wXM D ca s h ad (sI (sI (sI (sI (sI (sI (sI (sI (sI (sI (sI (sI I 4 many_r49) 5 made_r49) 30 steps_r66) 31 ending_r66) 32 outMany_r66) 33 cursor_r66) 37 firstParting_r66) 38 firstPlace_r66) 39 partings_r66) 40 anyTired_r66) 46 patternAt_r49) 48 someOut_r49) (sF (sF (sF (sF (sF (sF (sF (sF (sF F 2 row_r49) 3 fresh_r49) 28 holds_r66) 29 outs_r66) 34 keptEnd_r44) 35 keptMany_r44) 36 keptOut_r44) 45 bound_r49) 47 isOut_r49) H A s.heap locs := wMc Wd rfl rfl ⟨(rsI (rsI (rsI (rsI (rsI (rsI (rsI (rsI (rsI (rsI (rsI (rsI hS.1 (Wc49.2.1 4)) (Wc49.2.1 5)) (Wc66.2.1 30)) (Wc66.2.1 31)) (Wc66.2.1 32)) (Wc66.2.1 33)) (Wc66.2.1 37)) (Wc66.2.1 38)) (Wc66.2.1 39)) (Wc66.2.1 40)) (Wc49.2.1 46)) (Wc49.2.1 48)), (rsF (rsF (rsF (rsF (rsF (rsF (rsF (rsF (rsF hS.2 (fun j => Wc49.2.2 2 j)) (fun j => Wc49.2.2 3 j)) (fun j => Wc66.2.2 28 j)) (fun j => Wc66.2.2 29 j)) (fun j => Wc44.2.2 34 j)) (fun j => Wc44.2.2 35 j)) (fun j => Wc44.2.2 36 j)) (fun j => Wc49.2.2 45 j)) (fun j => Wc49.2.2 47 j))⟩
            refine lv_aload_n C.1 C.2.1 dX12_blame_69 rfl (lv_at hl 0 rfl) ?_
            refine k_get (v := .int (zI firstParting_r66)) C Wd.1 KX12 0 37 wM0 (by decide) fl_X12_318 rfl dX12_blame_70 ?_
            refine lv_iconst (v := zI (-1)) C.1 C.2.1 dX12_blame_73 (by decide) ?_
            refine lv_icmp_eq (tgt := 90) C.1 C.2.1 dX12_blame_74 (by decide) (fun c74 => ?_) (fun c74 => ?_)
            · have hw := hw.1 (z_eq (Wc66.2.1 37) (show rng (-1) from by decide) c74)
              refine lv_iinc (v := zI (l3_25 + 1)) (lv' := [(3, .int (zI (l3_25 + 1))), (0, .ref h), (2, .int (zI x1))]) C.1 C.2.1 dX12_blame_90 hl (k := 2) rfl (zI_inc _ _ (by decide)) (by decide) rfl (fun ls hl => ?_)
              replace hl := lv_sub hl [1, 2, 0] rfl
              refine lv_goto (tgt := 25) C.1 C.2.1 dX12_blame_93 (by decide) ?_
              obtain ⟨g93_0, hw⟩ := hw
              exact hL25 _ _ _ _ _ _ _ _ _ _ _ _ _ _ _ _ _ _ _ _ _ _ hw _ _ _ ⟨g93_0, wMc Wd rfl rfl ⟨(rsI (rsI (rsI (rsI (rsI (rsI (rsI (rsI (rsI (rsI (rsI (rsI hS.1 (Wc49.2.1 4)) (Wc49.2.1 5)) (Wc66.2.1 30)) (Wc66.2.1 31)) (Wc66.2.1 32)) (Wc66.2.1 33)) (Wc66.2.1 37)) (Wc66.2.1 38)) (Wc66.2.1 39)) (Wc66.2.1 40)) (Wc49.2.1 46)) (Wc49.2.1 48)), (rsF (rsF (rsF (rsF (rsF (rsF (rsF (rsF (rsF hS.2 (fun j => Wc49.2.2 2 j)) (fun j => Wc49.2.2 3 j)) (fun j => Wc66.2.2 28 j)) (fun j => Wc66.2.2 29 j)) (fun j => Wc44.2.2 34 j)) (fun j => Wc44.2.2 35 j)) (fun j => Wc44.2.2 36 j)) (fun j => Wc49.2.2 45 j)) (fun j => Wc49.2.2 47 j))⟩, lv_sub hl [0, 1, 2] rfl⟩
            · have hw := hw.2 (z_ne (Wc66.2.1 37) (show rng (-1) from by decide) c74)
              refine lv_iload_n C.1 C.2.1 dX12_blame_77 rfl (lv_at hl 1 rfl) ?_
              refine lv_if_ne (tgt := 85) C.1 C.2.1 dX12_blame_78 (by decide) (fun c78 => ?_) (fun c78 => ?_)
              · have hw := hw.1 (z0_ne g_x1 c78)
                refine lv_aload_n C.1 C.2.1 dX12_blame_85 rfl (lv_at hl 0 rfl) ?_
                refine k_get (v := .int (zI firstParting_r66)) C Wd.1 KX12 0 37 wM0 (by decide) fl_X12_318 rfl dX12_blame_86 ?_
                exact k_retMi C hr hlk rfl Wd (u := (row_r49, fresh_r49, many_r49, made_r49, holds_r66, outs_r66, steps_r66, ending_r66, outMany_r66, cursor_r66, keptEnd_r44, keptMany_r44, keptOut_r44, firstParting_r66, firstPlace_r66, partings_r66, anyTired_r66, bound_r49, patternAt_r49, isOut_r49, someOut_r49)) rfl rfl ⟨⟨_, rfl, (Wc66.2.1 37), hw⟩, ⟨(rsI (rsI (rsI (rsI (rsI (rsI (rsI (rsI (rsI (rsI (rsI (rsI hS.1 (Wc49.2.1 4)) (Wc49.2.1 5)) (Wc66.2.1 30)) (Wc66.2.1 31)) (Wc66.2.1 32)) (Wc66.2.1 33)) (Wc66.2.1 37)) (Wc66.2.1 38)) (Wc66.2.1 39)) (Wc66.2.1 40)) (Wc49.2.1 46)) (Wc49.2.1 48)), (rsF (rsF (rsF (rsF (rsF (rsF (rsF (rsF (rsF hS.2 (fun j => Wc49.2.2 2 j)) (fun j => Wc49.2.2 3 j)) (fun j => Wc66.2.2 28 j)) (fun j => Wc66.2.2 29 j)) (fun j => Wc44.2.2 34 j)) (fun j => Wc44.2.2 35 j)) (fun j => Wc44.2.2 36 j)) (fun j => Wc49.2.2 45 j)) (fun j => Wc49.2.2 47 j))⟩⟩ dX12_blame_89
              · have hw := hw.2 (z0_eq g_x1 c78)
                refine lv_iload_n C.1 C.2.1 dX12_blame_81 rfl (lv_at hl 2 rfl) ?_
                refine lv_goto (tgt := 89) C.1 C.2.1 dX12_blame_82 (by decide) ?_
                exact k_retMi C hr hlk rfl Wd (u := (row_r49, fresh_r49, many_r49, made_r49, holds_r66, outs_r66, steps_r66, ending_r66, outMany_r66, cursor_r66, keptEnd_r44, keptMany_r44, keptOut_r44, firstParting_r66, firstPlace_r66, partings_r66, anyTired_r66, bound_r49, patternAt_r49, isOut_r49, someOut_r49)) rfl rfl ⟨⟨_, rfl, g_l3_25, hw⟩, ⟨(rsI (rsI (rsI (rsI (rsI (rsI (rsI (rsI (rsI (rsI (rsI (rsI hS.1 (Wc49.2.1 4)) (Wc49.2.1 5)) (Wc66.2.1 30)) (Wc66.2.1 31)) (Wc66.2.1 32)) (Wc66.2.1 33)) (Wc66.2.1 37)) (Wc66.2.1 38)) (Wc66.2.1 39)) (Wc66.2.1 40)) (Wc49.2.1 46)) (Wc49.2.1 48)), (rsF (rsF (rsF (rsF (rsF (rsF (rsF (rsF (rsF hS.2 (fun j => Wc49.2.2 2 j)) (fun j => Wc49.2.2 3 j)) (fun j => Wc66.2.2 28 j)) (fun j => Wc66.2.2 29 j)) (fun j => Wc44.2.2 34 j)) (fun j => Wc44.2.2 35 j)) (fun j => Wc44.2.2 36 j)) (fun j => Wc49.2.2 45 j)) (fun j => Wc49.2.2 47 j))⟩⟩ dX12_blame_89
          · have hw := hw.2 (z0_eq g_r49 c52)
            refine lv_iload_n C.1 C.2.1 dX12_blame_55 rfl (lv_at hl 1 rfl) ?_
            refine lv_if_ne (tgt := 63) C.1 C.2.1 dX12_blame_56 (by decide) (fun c56 => ?_) (fun c56 => ?_)
            · have hw := hw.1 (z0_ne g_x1 c56)
              refine lv_iconst (v := zI (-1)) C.1 C.2.1 dX12_blame_63 (by decide) ?_
              exact k_retMi C hr hlk rfl Wd (u := (row_r49, fresh_r49, many_r49, made_r49, holds_r44, outs_r44, steps_r44, ending_r44, outMany_r44, cursor_r44, keptEnd_r44, keptMany_r44, keptOut_r44, firstParting_25, firstPlace_25, partings_25, anyTired_25, bound_r49, patternAt_r49, isOut_r49, someOut_r49)) rfl rfl ⟨⟨_, rfl, (show rng (-1) from by decide), hw⟩, ⟨(rsI (rsI (rsI (rsI (rsI (rsI (rsI (rsI (rsI (rsI (rsI (rsI hS.1 (Wc49.2.1 4)) (Wc49.2.1 5)) (Wc44.2.1 30)) (Wc44.2.1 31)) (Wc44.2.1 32)) (Wc44.2.1 33)) (Wd25.2.1 37)) (Wd25.2.1 38)) (Wd25.2.1 39)) (Wd25.2.1 40)) (Wc49.2.1 46)) (Wc49.2.1 48)), (rsF (rsF (rsF (rsF (rsF (rsF (rsF (rsF (rsF hS.2 (fun j => Wc49.2.2 2 j)) (fun j => Wc49.2.2 3 j)) (fun j => Wc44.2.2 28 j)) (fun j => Wc44.2.2 29 j)) (fun j => Wc44.2.2 34 j)) (fun j => Wc44.2.2 35 j)) (fun j => Wc44.2.2 36 j)) (fun j => Wc49.2.2 45 j)) (fun j => Wc49.2.2 47 j))⟩⟩ dX12_blame_64
            · have hw := hw.2 (z0_eq g_x1 c56)
              refine lv_iload_n C.1 C.2.1 dX12_blame_59 rfl (lv_at hl 2 rfl) ?_
              refine lv_goto (tgt := 64) C.1 C.2.1 dX12_blame_60 (by decide) ?_
              exact k_retMi C hr hlk rfl Wd (u := (row_r49, fresh_r49, many_r49, made_r49, holds_r44, outs_r44, steps_r44, ending_r44, outMany_r44, cursor_r44, keptEnd_r44, keptMany_r44, keptOut_r44, firstParting_25, firstPlace_25, partings_25, anyTired_25, bound_r49, patternAt_r49, isOut_r49, someOut_r49)) rfl rfl ⟨⟨_, rfl, g_l3_25, hw⟩, ⟨(rsI (rsI (rsI (rsI (rsI (rsI (rsI (rsI (rsI (rsI (rsI (rsI hS.1 (Wc49.2.1 4)) (Wc49.2.1 5)) (Wc44.2.1 30)) (Wc44.2.1 31)) (Wc44.2.1 32)) (Wc44.2.1 33)) (Wd25.2.1 37)) (Wd25.2.1 38)) (Wd25.2.1 39)) (Wd25.2.1 40)) (Wc49.2.1 46)) (Wc49.2.1 48)), (rsF (rsF (rsF (rsF (rsF (rsF (rsF (rsF (rsF hS.2 (fun j => Wc49.2.2 2 j)) (fun j => Wc49.2.2 3 j)) (fun j => Wc44.2.2 28 j)) (fun j => Wc44.2.2 29 j)) (fun j => Wc44.2.2 34 j)) (fun j => Wc44.2.2 35 j)) (fun j => Wc44.2.2 36 j)) (fun j => Wc49.2.2 45 j)) (fun j => Wc49.2.2 47 j))⟩⟩ dX12_blame_64
        · have hw := hw.2 (z0_eq g36 c37)
          refine lv_goto (tgt := 90) C.1 C.2.1 dX12_blame_40 (by decide) ?_
          refine lv_iinc (v := zI (l3_25 + 1)) (lv' := [(3, .int (zI (l3_25 + 1))), (0, .ref h), (2, .int (zI x1))]) C.1 C.2.1 dX12_blame_90 hl (k := 2) rfl (zI_inc _ _ (by decide)) (by decide) rfl (fun ls hl => ?_)
          replace hl := lv_sub hl [1, 2, 0] rfl
          refine lv_goto (tgt := 25) C.1 C.2.1 dX12_blame_93 (by decide) ?_
          obtain ⟨g93_0, hw⟩ := hw
          exact hL25 _ _ _ _ _ _ _ _ _ _ _ _ _ _ _ _ _ _ _ _ _ _ hw _ _ _ ⟨g93_0, wMc Wd rfl rfl ⟨(rsI (rsI (rsI (rsI (rsI (rsI (rsI (rsI (rsI (rsI (rsI (rsI hS.1 (Wd25.2.1 4)) (Wd25.2.1 5)) (Wd25.2.1 30)) (Wd25.2.1 31)) (Wd25.2.1 32)) (Wd25.2.1 33)) (Wd25.2.1 37)) (Wd25.2.1 38)) (Wd25.2.1 39)) (Wd25.2.1 40)) (Wd25.2.1 46)) (Wd25.2.1 48)), (rsF (rsF (rsF (rsF (rsF (rsF (rsF (rsF (rsF hS.2 (fun j => Wd25.2.2 2 j)) (fun j => Wd25.2.2 3 j)) (fun j => Wd25.2.2 28 j)) (fun j => Wd25.2.2 29 j)) (fun j => Wd25.2.2 34 j)) (fun j => Wd25.2.2 35 j)) (fun j => Wd25.2.2 36 j)) (fun j => Wd25.2.2 45 j)) (fun j => Wd25.2.2 47 j))⟩, lv_sub hl [0, 1, 2] rfl⟩
    · have hw := hw.2 (z0_eq g_r10 c13)
      refine lv_iconst (v := zI (-1)) C.1 C.2.1 dX12_blame_16 (by decide) ?_
      exact k_retMi C hr hlk rfl Wd (u := ((F 2), (F 3), (I 4), (I 5), (F 28), (F 29), (I 30), (I 31), (I 32), (I 33), (F 34), (F 35), (F 36), (I 37), (I 38), (I 39), (I 40), (F 45), (I 46), (F 47), (I 48))) rfl rfl ⟨⟨_, rfl, (show rng (-1) from by decide), hw⟩, ⟨(rsI (rsI (rsI (rsI (rsI (rsI (rsI (rsI (rsI (rsI (rsI (rsI hS.1 (hS.1 4)) (hS.1 5)) (hS.1 30)) (hS.1 31)) (hS.1 32)) (hS.1 33)) (hS.1 37)) (hS.1 38)) (hS.1 39)) (hS.1 40)) (hS.1 46)) (hS.1 48)), (rsF (rsF (rsF (rsF (rsF (rsF (rsF (rsF (rsF hS.2 (hS.2 2)) (hS.2 3)) (hS.2 28)) (hS.2 29)) (hS.2 34)) (hS.2 35)) (hS.2 36)) (hS.2 45)) (hS.2 47))⟩⟩ dX12_blame_17
set_option maxHeartbeats 4000000 in
set_option maxRecDepth 100000 in
theorem mt_keepsWhole : ∀ (D : va_G) (h : Nat) (ad : Nat → Nat) (ca : Nat → ClassId) (I : Nat → Int) (F : Nat → Int → Int) (hS : rngS I F) (K : (Int → Int) → Int → Prop) (hw : wp_keepsWhole (F 2) (I 4) (F 51) (I 52) K) (l : Launch) (sz : Nat), Met l yX12_keepsWhole (Cond.code yX12_keepsWhole cX12_keepsWhole 2 none :: gG) { frames := 1, cells := 0, slots := 0, locals := 64 } (cPre D (tM ca) (wM h ad ca I F) sz [.ref h]) (va_Qv (fun (u : (Int → Int) × (Int)) => K u.1 u.2 ∧ rngS (sI I 52 u.2) (sF F 51 u.1)) (fun u t => cB D (va_A (wM h ad ca I F) sz) [] (wM h ad ca (sI I 52 u.2) (sF F 51 u.1)) t) (va_A (wM h ad ca I F) sz)) 0 0 (va_A (wM h ad ca I F) sz) := by
  intro D h ad ca I F hS  K hw l sz
  refine Met.ofW (cc := cX12_keepsWhole) (maxL := 2) (ret := none) (by decide) rfl ?_
  intro p e s m args below meth c s₁ B hml hv
  obtain ⟨rfl, aks, rfl, Wd⟩ := k_enter hv
  have C : CallFix p m c cX12_keepsWhole 2 s _ gG RX12 := ⟨B.exec, B.bytes, hml, findClass_of_methodNamed B.named, fun w h => atoms_spec (ws := Cond.code yX12_keepsWhole cX12_keepsWhole 2 none :: gG) B.pre w (List.mem_cons_of_mem _ h)⟩
  have hr := B.returns
  have hlk := B.notSynchronized
  generalize va_A (wM h ad ca I F) s.heap.size = A at Wd ⊢
  replace Wd : wXM D ca s h ad I F s.heap A s.heap [] := ⟨Wd, hS⟩
  refine k_locals (Nat.le_of_ble_eq_true rfl) [(0, .ref h)] rfl (fun ls hl => ?_)
  unfold wp_keepsWhole at hw
  refine lv_aload_n C.1 C.2.1 dX12_keepsWhole_0 rfl (lv_at hl 0 rfl) ?_
  refine lv_aload_n C.1 C.2.1 dX12_keepsWhole_1 rfl (lv_at hl 0 rfl) ?_
  refine k_get (v := .int (zI (I 4))) C Wd.1 KX12 0 4 wM0 (by decide) fl_X12_98 rfl dX12_keepsWhole_2 ?_
  refine k_putM C Wd 52 (sI I 52 (I 4)) (by decide) fl_X12_442 rfl rfl rfl rfl (rsI hS.1 (hS.1 4)) dX12_keepsWhole_5 (fun H locs Wd => ?_)
  refine lv_iconst (v := zI 0) C.1 C.2.1 dX12_keepsWhole_8 (by decide) ?_
  refine lv_istore_n (lv' := [(1, .int (zI 0)), (0, .ref h)]) C.1 C.2.1 dX12_keepsWhole_9 rfl hl (by decide) rfl (fun ls hl => ?_)
  replace hl := lv_sub hl [1, 0] rfl
  refine k_lp2 hw (fun (l1_10 : Int) (whole_10 : Int → Int) H locs ls => rng l1_10 ∧ wXM D ca s h ad (sI I 52 (I 4)) (sF F 51 whole_10) H A s.heap locs ∧ lv_has ls 2 [(0, .ref h), (1, .int (zI l1_10))]) (fun (l1_10 : Int) (whole_10 : Int → Int) ls => F0 m 10 ls []) (fun L10 hL10 l1_10 whole_10 hw H locs ls hi => ?_) _ _ _ ⟨(show rng 0 from by decide), wMc Wd rfl rfl ⟨(rsI hS.1 (hS.1 4)), (rsF hS.2 (hS.2 51))⟩, lv_sub hl [0, 1] rfl⟩
  obtain ⟨g_l1_10, Wd, hl⟩ := hi
  have Wd10 := Wd
  unfold wp_keepsWhole_10 at hw
  refine lv_iload_n C.1 C.2.1 dX12_keepsWhole_10 rfl (lv_at hl 1 rfl) ?_
  refine lv_aload_n C.1 C.2.1 dX12_keepsWhole_11 rfl (lv_at hl 0 rfl) ?_
  refine k_get (v := .int (zI (I 4))) C Wd.1 KX12 0 4 wM0 (by decide) fl_X12_98 rfl dX12_keepsWhole_12 ?_
  refine lv_icmp_ge (tgt := 36) C.1 C.2.1 dX12_keepsWhole_15 (by decide) (fun c15 => ?_) (fun c15 => ?_)
  · have hw := hw.1 (z_le (hS.1 4) g_l1_10 c15)
    exact k_retMv C hr hlk Wd (u := (whole_10, (I 4))) rfl rfl ⟨hw, ⟨(rsI hS.1 (hS.1 4)), (rsF hS.2 (fun j => Wd10.2.2 51 j))⟩⟩ dX12_keepsWhole_36
  · have hw := hw.2 (z_nle (hS.1 4) g_l1_10 c15)
    refine lv_aload_n C.1 C.2.1 dX12_keepsWhole_18 rfl (lv_at hl 0 rfl) ?_
    refine k_get (v := .ref (ad 51)) C Wd.1 KX12 0 51 wM0 (by decide) fl_X12_78 rfl dX12_keepsWhole_19 ?_
    refine lv_iload_n C.1 C.2.1 dX12_keepsWhole_22 rfl (lv_at hl 1 rfl) ?_
    refine lv_aload_n C.1 C.2.1 dX12_keepsWhole_23 rfl (lv_at hl 0 rfl) ?_
    refine k_get (v := .ref (ad 2)) C Wd.1 KX12 0 2 wM0 (by decide) fl_X12_16 rfl dX12_keepsWhole_24 ?_
    refine lv_iload_n C.1 C.2.1 dX12_keepsWhole_27 rfl (lv_at hl 1 rfl) ?_
    obtain ⟨a28, hw⟩ := hw
    refine k_ialdM (g := (F 2)) C Wd 3 2 rfl rfl a28 (by decide) dX12_keepsWhole_28 ?_
    have g28 : rng ((F 2) l1_10) := rngL (hS.2 2) a28
    obtain ⟨a29, hw⟩ := hw
    have q29 : ∀ j : Nat, rng ((uZ whole_10 l1_10 ((F 2) l1_10)) j) := ruZ (fun j => Wd10.2.2 51 j) g28
    refine k_iastM (g := whole_10) C Wd 21 21 (sF F 51 (uZ whole_10 l1_10 ((F 2) l1_10))) rfl rfl a29 (by decide) rfl rfl (rsF hS.2 q29) dX12_keepsWhole_29 (fun H locs Wd => ?_)
    refine lv_iinc (v := zI (l1_10 + 1)) (lv' := [(1, .int (zI (l1_10 + 1))), (0, .ref h)]) C.1 C.2.1 dX12_keepsWhole_30 hl (k := 1) rfl (zI_inc _ _ (by decide)) (by decide) rfl (fun ls hl => ?_)
    replace hl := lv_sub hl [1, 0] rfl
    refine lv_goto (tgt := 10) C.1 C.2.1 dX12_keepsWhole_33 (by decide) ?_
    obtain ⟨g33_0, hw⟩ := hw
    exact hL10 _ _ hw _ _ _ ⟨g33_0, wMc Wd rfl rfl ⟨(rsI hS.1 (hS.1 4)), (rsF hS.2 q29)⟩, lv_sub hl [0, 1] rfl⟩
set_option maxHeartbeats 4000000 in
set_option maxRecDepth 100000 in
theorem mt_takesWhole : ∀ (D : va_G) (h : Nat) (ad : Nat → Nat) (ca : Nat → ClassId) (I : Nat → Int) (F : Nat → Int → Int) (hS : rngS I F) (K : (Int → Int) → Int → Prop) (hw : wp_takesWhole (F 2) (I 4) (F 51) (I 52) K) (l : Launch) (sz : Nat), Met l yX12_takesWhole (Cond.code yX12_takesWhole cX12_takesWhole 2 none :: gG) { frames := 1, cells := 0, slots := 0, locals := 64 } (cPre D (tM ca) (wM h ad ca I F) sz [.ref h]) (va_Qv (fun (u : (Int → Int) × (Int)) => K u.1 u.2 ∧ rngS (sI I 4 u.2) (sF F 2 u.1)) (fun u t => cB D (va_A (wM h ad ca I F) sz) [] (wM h ad ca (sI I 4 u.2) (sF F 2 u.1)) t) (va_A (wM h ad ca I F) sz)) 0 0 (va_A (wM h ad ca I F) sz) := by
  intro D h ad ca I F hS  K hw l sz
  refine Met.ofW (cc := cX12_takesWhole) (maxL := 2) (ret := none) (by decide) rfl ?_
  intro p e s m args below meth c s₁ B hml hv
  obtain ⟨rfl, aks, rfl, Wd⟩ := k_enter hv
  have C : CallFix p m c cX12_takesWhole 2 s _ gG RX12 := ⟨B.exec, B.bytes, hml, findClass_of_methodNamed B.named, fun w h => atoms_spec (ws := Cond.code yX12_takesWhole cX12_takesWhole 2 none :: gG) B.pre w (List.mem_cons_of_mem _ h)⟩
  have hr := B.returns
  have hlk := B.notSynchronized
  generalize va_A (wM h ad ca I F) s.heap.size = A at Wd ⊢
  replace Wd : wXM D ca s h ad I F s.heap A s.heap [] := ⟨Wd, hS⟩
  refine k_locals (Nat.le_of_ble_eq_true rfl) [(0, .ref h)] rfl (fun ls hl => ?_)
  unfold wp_takesWhole at hw
  refine lv_aload_n C.1 C.2.1 dX12_takesWhole_0 rfl (lv_at hl 0 rfl) ?_
  refine lv_aload_n C.1 C.2.1 dX12_takesWhole_1 rfl (lv_at hl 0 rfl) ?_
  refine k_get (v := .int (zI (I 52))) C Wd.1 KX12 0 52 wM0 (by decide) fl_X12_442 rfl dX12_takesWhole_2 ?_
  refine k_putM C Wd 4 (sI I 4 (I 52)) (by decide) fl_X12_98 rfl rfl rfl rfl (rsI hS.1 (hS.1 52)) dX12_takesWhole_5 (fun H locs Wd => ?_)
  refine lv_iconst (v := zI 0) C.1 C.2.1 dX12_takesWhole_8 (by decide) ?_
  refine lv_istore_n (lv' := [(1, .int (zI 0)), (0, .ref h)]) C.1 C.2.1 dX12_takesWhole_9 rfl hl (by decide) rfl (fun ls hl => ?_)
  replace hl := lv_sub hl [1, 0] rfl
  refine k_lp2 hw (fun (l1_10 : Int) (row_10 : Int → Int) H locs ls => rng l1_10 ∧ wXM D ca s h ad (sI I 4 (I 52)) (sF F 2 row_10) H A s.heap locs ∧ lv_has ls 2 [(0, .ref h), (1, .int (zI l1_10))]) (fun (l1_10 : Int) (row_10 : Int → Int) ls => F0 m 10 ls []) (fun L10 hL10 l1_10 row_10 hw H locs ls hi => ?_) _ _ _ ⟨(show rng 0 from by decide), wMc Wd rfl rfl ⟨(rsI hS.1 (hS.1 52)), (rsF hS.2 (hS.2 2))⟩, lv_sub hl [0, 1] rfl⟩
  obtain ⟨g_l1_10, Wd, hl⟩ := hi
  have Wd10 := Wd
  unfold wp_takesWhole_10 at hw
  refine lv_iload_n C.1 C.2.1 dX12_takesWhole_10 rfl (lv_at hl 1 rfl) ?_
  refine lv_aload_n C.1 C.2.1 dX12_takesWhole_11 rfl (lv_at hl 0 rfl) ?_
  refine k_get (v := .int (zI (I 52))) C Wd.1 KX12 0 4 wM0 (by decide) fl_X12_98 rfl dX12_takesWhole_12 ?_
  refine lv_icmp_ge (tgt := 36) C.1 C.2.1 dX12_takesWhole_15 (by decide) (fun c15 => ?_) (fun c15 => ?_)
  · have hw := hw.1 (z_le (hS.1 52) g_l1_10 c15)
    exact k_retMv C hr hlk Wd (u := (row_10, (I 52))) rfl rfl ⟨hw, ⟨(rsI hS.1 (hS.1 52)), (rsF hS.2 (fun j => Wd10.2.2 2 j))⟩⟩ dX12_takesWhole_36
  · have hw := hw.2 (z_nle (hS.1 52) g_l1_10 c15)
    refine lv_aload_n C.1 C.2.1 dX12_takesWhole_18 rfl (lv_at hl 0 rfl) ?_
    refine k_get (v := .ref (ad 2)) C Wd.1 KX12 0 2 wM0 (by decide) fl_X12_16 rfl dX12_takesWhole_19 ?_
    refine lv_iload_n C.1 C.2.1 dX12_takesWhole_22 rfl (lv_at hl 1 rfl) ?_
    refine lv_aload_n C.1 C.2.1 dX12_takesWhole_23 rfl (lv_at hl 0 rfl) ?_
    refine k_get (v := .ref (ad 51)) C Wd.1 KX12 0 51 wM0 (by decide) fl_X12_78 rfl dX12_takesWhole_24 ?_
    refine lv_iload_n C.1 C.2.1 dX12_takesWhole_27 rfl (lv_at hl 1 rfl) ?_
    obtain ⟨a28, hw⟩ := hw
    refine k_ialdM (g := (F 51)) C Wd 22 21 rfl rfl a28 (by decide) dX12_takesWhole_28 ?_
    have g28 : rng ((F 51) l1_10) := rngL (hS.2 51) a28
    obtain ⟨a29, hw⟩ := hw
    have q29 : ∀ j : Nat, rng ((uZ row_10 l1_10 ((F 51) l1_10)) j) := ruZ (fun j => Wd10.2.2 2 j) g28
    refine k_iastM (g := row_10) C Wd 2 2 (sF F 2 (uZ row_10 l1_10 ((F 51) l1_10))) rfl rfl a29 (by decide) rfl rfl (rsF hS.2 q29) dX12_takesWhole_29 (fun H locs Wd => ?_)
    refine lv_iinc (v := zI (l1_10 + 1)) (lv' := [(1, .int (zI (l1_10 + 1))), (0, .ref h)]) C.1 C.2.1 dX12_takesWhole_30 hl (k := 1) rfl (zI_inc _ _ (by decide)) (by decide) rfl (fun ls hl => ?_)
    replace hl := lv_sub hl [1, 0] rfl
    refine lv_goto (tgt := 10) C.1 C.2.1 dX12_takesWhole_33 (by decide) ?_
    obtain ⟨g33_0, hw⟩ := hw
    exact hL10 _ _ hw _ _ _ ⟨g33_0, wMc Wd rfl rfl ⟨(rsI hS.1 (hS.1 52)), (rsF hS.2 q29)⟩, lv_sub hl [0, 1] rfl⟩
set_option maxHeartbeats 4000000 in
set_option maxRecDepth 100000 in
theorem mt_isWrong : ∀ (D : va_G) (h : Nat) (ad : Nat → Nat) (ca : Nat → ClassId) (I : Nat → Int) (F : Nat → Int → Int) (hS : rngS I F) (x0 : Int) (g_x0 : rng x0) (K : Int → (Int → Int) → (Int → Int) → Int → Int → (Int → Int) → (Int → Int) → Int → Int → Int → Int → (Int → Int) → (Int → Int) → (Int → Int) → Int → Int → Int → Int → (Int → Int) → Int → (Int → Int) → Int → Prop) (hw : wp_isWrong (F 2) (F 3) (I 4) (I 5) (F 24) (F 25) (F 26) (F 28) (F 29) (I 30) (I 31) (I 32) (I 33) (F 34) (F 35) (F 36) (I 37) (I 38) (I 39) (I 40) (F 45) (I 46) (F 47) (I 48) (F 49) (F 50) x0 K) (l : Launch) (sz : Nat), Met l yX12_isWrong (Cond.code yX12_isWrong cX12_isWrong 2 (some .boolean) :: gG) { frames := 1109, cells := 0, slots := 0, locals := 25696 } (cPre D (tM ca) (wM h ad ca I F) sz [.ref h, .int (zI x0)]) (va_Qi (fun (r : Int32) (u : (Int → Int) × (Int → Int) × (Int) × (Int) × (Int → Int) × (Int → Int) × (Int) × (Int) × (Int) × (Int) × (Int → Int) × (Int → Int) × (Int → Int) × (Int) × (Int) × (Int) × (Int) × (Int → Int) × (Int) × (Int → Int) × (Int)) => (∃ x : Int, r = zI x ∧ rng x ∧ K x u.1 u.2.1 u.2.2.1 u.2.2.2.1 u.2.2.2.2.1 u.2.2.2.2.2.1 u.2.2.2.2.2.2.1 u.2.2.2.2.2.2.2.1 u.2.2.2.2.2.2.2.2.1 u.2.2.2.2.2.2.2.2.2.1 u.2.2.2.2.2.2.2.2.2.2.1 u.2.2.2.2.2.2.2.2.2.2.2.1 u.2.2.2.2.2.2.2.2.2.2.2.2.1 u.2.2.2.2.2.2.2.2.2.2.2.2.2.1 u.2.2.2.2.2.2.2.2.2.2.2.2.2.2.1 u.2.2.2.2.2.2.2.2.2.2.2.2.2.2.2.1 u.2.2.2.2.2.2.2.2.2.2.2.2.2.2.2.2.1 u.2.2.2.2.2.2.2.2.2.2.2.2.2.2.2.2.2.1 u.2.2.2.2.2.2.2.2.2.2.2.2.2.2.2.2.2.2.1 u.2.2.2.2.2.2.2.2.2.2.2.2.2.2.2.2.2.2.2.1 u.2.2.2.2.2.2.2.2.2.2.2.2.2.2.2.2.2.2.2.2) ∧ rngS (sI (sI (sI (sI (sI (sI (sI (sI (sI (sI (sI (sI I 4 u.2.2.1) 5 u.2.2.2.1) 30 u.2.2.2.2.2.2.1) 31 u.2.2.2.2.2.2.2.1) 32 u.2.2.2.2.2.2.2.2.1) 33 u.2.2.2.2.2.2.2.2.2.1) 37 u.2.2.2.2.2.2.2.2.2.2.2.2.2.1) 38 u.2.2.2.2.2.2.2.2.2.2.2.2.2.2.1) 39 u.2.2.2.2.2.2.2.2.2.2.2.2.2.2.2.1) 40 u.2.2.2.2.2.2.2.2.2.2.2.2.2.2.2.2.1) 46 u.2.2.2.2.2.2.2.2.2.2.2.2.2.2.2.2.2.2.1) 48 u.2.2.2.2.2.2.2.2.2.2.2.2.2.2.2.2.2.2.2.2) (sF (sF (sF (sF (sF (sF (sF (sF (sF F 2 u.1) 3 u.2.1) 28 u.2.2.2.2.1) 29 u.2.2.2.2.2.1) 34 u.2.2.2.2.2.2.2.2.2.2.1) 35 u.2.2.2.2.2.2.2.2.2.2.2.1) 36 u.2.2.2.2.2.2.2.2.2.2.2.2.1) 45 u.2.2.2.2.2.2.2.2.2.2.2.2.2.2.2.2.2.1) 47 u.2.2.2.2.2.2.2.2.2.2.2.2.2.2.2.2.2.2.2.1)) (fun u t => cB D (va_A (wM h ad ca I F) sz) [] (wM h ad ca (sI (sI (sI (sI (sI (sI (sI (sI (sI (sI (sI (sI I 4 u.2.2.1) 5 u.2.2.2.1) 30 u.2.2.2.2.2.2.1) 31 u.2.2.2.2.2.2.2.1) 32 u.2.2.2.2.2.2.2.2.1) 33 u.2.2.2.2.2.2.2.2.2.1) 37 u.2.2.2.2.2.2.2.2.2.2.2.2.2.1) 38 u.2.2.2.2.2.2.2.2.2.2.2.2.2.2.1) 39 u.2.2.2.2.2.2.2.2.2.2.2.2.2.2.2.1) 40 u.2.2.2.2.2.2.2.2.2.2.2.2.2.2.2.2.1) 46 u.2.2.2.2.2.2.2.2.2.2.2.2.2.2.2.2.2.2.1) 48 u.2.2.2.2.2.2.2.2.2.2.2.2.2.2.2.2.2.2.2.2) (sF (sF (sF (sF (sF (sF (sF (sF (sF F 2 u.1) 3 u.2.1) 28 u.2.2.2.2.1) 29 u.2.2.2.2.2.1) 34 u.2.2.2.2.2.2.2.2.2.2.1) 35 u.2.2.2.2.2.2.2.2.2.2.2.1) 36 u.2.2.2.2.2.2.2.2.2.2.2.2.1) 45 u.2.2.2.2.2.2.2.2.2.2.2.2.2.2.2.2.2.1) 47 u.2.2.2.2.2.2.2.2.2.2.2.2.2.2.2.2.2.2.2.1)) t) (va_A (wM h ad ca I F) sz)) 0 0 (va_A (wM h ad ca I F) sz) := by
  intro D h ad ca I F hS x0 g_x0 K hw l sz
  refine Met.ofW (cc := cX12_isWrong) (maxL := 2) (ret := (some .boolean)) (by decide) rfl ?_
  intro p e s m args below meth c s₁ B hml hv
  obtain ⟨rfl, aks, rfl, Wd⟩ := k_enter hv
  have C : CallFix p m c cX12_isWrong 2 s _ gG RX12 := ⟨B.exec, B.bytes, hml, findClass_of_methodNamed B.named, fun w h => atoms_spec (ws := Cond.code yX12_isWrong cX12_isWrong 2 (some .boolean) :: gG) B.pre w (List.mem_cons_of_mem _ h)⟩
  have hr := B.returns
  have hlk := B.notSynchronized
  generalize va_A (wM h ad ca I F) s.heap.size = A at Wd ⊢
  replace Wd : wXM D ca s h ad I F s.heap A s.heap [] := ⟨Wd, hS⟩
  refine k_locals (Nat.le_of_ble_eq_true rfl) [(0, .ref h), (1, .int (zI x0))] rfl (fun ls hl => ?_)
  unfold wp_isWrong at hw
  refine lv_aload_n C.1 C.2.1 dX12_isWrong_0 rfl (lv_at hl 0 rfl) ?_
  refine k_cMv Wd (k_runVM (rest := []) C aks Wd cs_X12_330 (mt_keeps D h ad ca I F Wd.2   _ hw l _) rfl rfl ⟨(Nat.le_of_ble_eq_true rfl), (Nat.le_of_ble_eq_true rfl)⟩ hl.1 rfl rfl (Nat.le_of_ble_eq_true rfl) ⟨(Nat.le_of_ble_eq_true rfl), (Nat.le_of_ble_eq_true rfl)⟩ dX12_isWrong_1) (fun u1 H locs hw Wd => ?_)
  obtain ⟨holds_r1, outs_r1, steps_r1, ending_r1, outMany_r1, cursor_r1, keptEnd_r1, keptMany_r1, keptOut_r1⟩ := u1
  dsimp only at hw
  have Wc1 := Wd
  have Wd : wXM D ca s h ad (sI (sI (sI (sI I 30 steps_r1) 31 ending_r1) 32 outMany_r1) 33 cursor_r1) (sF (sF (sF (sF (sF F 28 holds_r1) 29 outs_r1) 34 keptEnd_r1) 35 keptMany_r1) 36 keptOut_r1) H A s.heap locs := wMc Wd rfl rfl ⟨(rsI (rsI (rsI (rsI hS.1 (Wc1.2.1 30)) (Wc1.2.1 31)) (Wc1.2.1 32)) (Wc1.2.1 33)), (rsF (rsF (rsF (rsF (rsF hS.2 (fun j => Wc1.2.2 28 j)) (fun j => Wc1.2.2 29 j)) (fun j => Wc1.2.2 34 j)) (fun j => Wc1.2.2 35 j)) (fun j => Wc1.2.2 36 j))⟩
  refine lv_aload_n C.1 C.2.1 dX12_isWrong_4 rfl (lv_at hl 0 rfl) ?_
  refine lv_iload_n C.1 C.2.1 dX12_isWrong_5 rfl (lv_at hl 1 rfl) ?_
  refine k_cMi Wd (k_runVM (rest := []) C aks Wd cs_X12_439 (mt_makes D h ad ca (sI (sI (sI (sI I 30 steps_r1) 31 ending_r1) 32 outMany_r1) 33 cursor_r1) (sF (sF (sF (sF (sF F 28 holds_r1) 29 outs_r1) 34 keptEnd_r1) 35 keptMany_r1) 36 keptOut_r1) Wd.2 x0 g_x0 _ hw l _) rfl rfl ⟨(Nat.le_of_ble_eq_true rfl), (Nat.le_of_ble_eq_true rfl)⟩ hl.1 rfl rfl (Nat.le_of_ble_eq_true rfl) ⟨(Nat.le_of_ble_eq_true rfl), (Nat.le_of_ble_eq_true rfl)⟩ dX12_isWrong_6) (fun r6 u6 H locs g_r6 hw Wd => ?_)
  obtain ⟨row_r6, fresh_r6, many_r6, made_r6, bound_r6, patternAt_r6, isOut_r6, someOut_r6⟩ := u6
  dsimp only at hw
  have Wc6 := Wd
  have Wd : wXM D ca s h ad (sI (sI (sI (sI (sI (sI (sI (sI I 4 many_r6) 5 made_r6) 30 steps_r1) 31 ending_r1) 32 outMany_r1) 33 cursor_r1) 46 patternAt_r6) 48 someOut_r6) (sF (sF (sF (sF (sF (sF (sF (sF (sF F 2 row_r6) 3 fresh_r6) 28 holds_r1) 29 outs_r1) 34 keptEnd_r1) 35 keptMany_r1) 36 keptOut_r1) 45 bound_r6) 47 isOut_r6) H A s.heap locs := wMc Wd rfl rfl ⟨(rsI (rsI (rsI (rsI (rsI (rsI (rsI (rsI hS.1 (Wc6.2.1 4)) (Wc6.2.1 5)) (Wc1.2.1 30)) (Wc1.2.1 31)) (Wc1.2.1 32)) (Wc1.2.1 33)) (Wc6.2.1 46)) (Wc6.2.1 48)), (rsF (rsF (rsF (rsF (rsF (rsF (rsF (rsF (rsF hS.2 (fun j => Wc6.2.2 2 j)) (fun j => Wc6.2.2 3 j)) (fun j => Wc1.2.2 28 j)) (fun j => Wc1.2.2 29 j)) (fun j => Wc1.2.2 34 j)) (fun j => Wc1.2.2 35 j)) (fun j => Wc1.2.2 36 j)) (fun j => Wc6.2.2 45 j)) (fun j => Wc6.2.2 47 j))⟩
  refine lv_if_ne (tgt := 14) C.1 C.2.1 dX12_isWrong_9 (by decide) (fun c9 => ?_) (fun c9 => ?_)
  · have hw := hw.1 (z0_ne g_r6 c9)
    refine lv_aload_n C.1 C.2.1 dX12_isWrong_14 rfl (lv_at hl 0 rfl) ?_
    refine k_cMv Wd (k_runVM (rest := []) C aks Wd cs_X12_333 (mt_compares D h ad ca (sI (sI (sI (sI (sI (sI (sI (sI I 4 many_r6) 5 made_r6) 30 steps_r1) 31 ending_r1) 32 outMany_r1) 33 cursor_r1) 46 patternAt_r6) 48 someOut_r6) (sF (sF (sF (sF (sF (sF (sF (sF (sF F 2 row_r6) 3 fresh_r6) 28 holds_r1) 29 outs_r1) 34 keptEnd_r1) 35 keptMany_r1) 36 keptOut_r1) 45 bound_r6) 47 isOut_r6) Wd.2   _ hw l _) rfl rfl ⟨(Nat.le_of_ble_eq_true rfl), (Nat.le_of_ble_eq_true rfl)⟩ hl.1 rfl rfl (Nat.le_of_ble_eq_true rfl) ⟨(Nat.le_of_ble_eq_true rfl), (Nat.le_of_ble_eq_true rfl)⟩ dX12_isWrong_15) (fun u15 H locs hw Wd => ?_)
    obtain ⟨holds_r15, outs_r15, steps_r15, ending_r15, outMany_r15, cursor_r15, firstParting_r15, firstPlace_r15, partings_r15, anyTired_r15⟩ := u15
    dsimp only at hw
    have Wc15 := Wd
    have Wd : wXM D ca s h ad (sI (sI (sI (sI (sI (sI (sI (sI (sI (sI (sI (sI I 4 many_r6) 5 made_r6) 30 steps_r15) 31 ending_r15) 32 outMany_r15) 33 cursor_r15) 37 firstParting_r15) 38 firstPlace_r15) 39 partings_r15) 40 anyTired_r15) 46 patternAt_r6) 48 someOut_r6) (sF (sF (sF (sF (sF (sF (sF (sF (sF F 2 row_r6) 3 fresh_r6) 28 holds_r15) 29 outs_r15) 34 keptEnd_r1) 35 keptMany_r1) 36 keptOut_r1) 45 bound_r6) 47 isOut_r6) H A s.heap locs := wMc Wd rfl rfl ⟨(rsI (rsI (rsI (rsI (rsI (rsI (rsI (rsI (rsI (rsI (rsI (rsI hS.1 (Wc6.2.1 4)) (Wc6.2.1 5)) (Wc15.2.1 30)) (Wc15.2.1 31)) (Wc15.2.1 32)) (Wc15.2.1 33)) (Wc15.2.1 37)) (Wc15.2.1 38)) (Wc15.2.1 39)) (Wc15.2.1 40)) (Wc6.2.1 46)) (Wc6.2.1 48)), (rsF (rsF (rsF (rsF (rsF (rsF (rsF (rsF (rsF hS.2 (fun j => Wc6.2.2 2 j)) (fun j => Wc6.2.2 3 j)) (fun j => Wc15.2.2 28 j)) (fun j => Wc15.2.2 29 j)) (fun j => Wc1.2.2 34 j)) (fun j => Wc1.2.2 35 j)) (fun j => Wc1.2.2 36 j)) (fun j => Wc6.2.2 45 j)) (fun j => Wc6.2.2 47 j))⟩
    refine lv_aload_n C.1 C.2.1 dX12_isWrong_18 rfl (lv_at hl 0 rfl) ?_
    refine k_get (v := .int (zI firstParting_r15)) C Wd.1 KX12 0 37 wM0 (by decide) fl_X12_318 rfl dX12_isWrong_19 ?_
    refine lv_iconst (v := zI (-1)) C.1 C.2.1 dX12_isWrong_22 (by decide) ?_
    refine lv_icmp_eq (tgt := 30) C.1 C.2.1 dX12_isWrong_23 (by decide) (fun c23 => ?_) (fun c23 => ?_)
    · have hw := hw.1 (z_eq (Wc15.2.1 37) (show rng (-1) from by decide) c23)
      refine lv_iconst (v := zI 0) C.1 C.2.1 dX12_isWrong_30 (by decide) ?_
      exact k_retMi C hr hlk (by decide) Wd (u := (row_r6, fresh_r6, many_r6, made_r6, holds_r15, outs_r15, steps_r15, ending_r15, outMany_r15, cursor_r15, keptEnd_r1, keptMany_r1, keptOut_r1, firstParting_r15, firstPlace_r15, partings_r15, anyTired_r15, bound_r6, patternAt_r6, isOut_r6, someOut_r6)) rfl rfl ⟨⟨_, rfl, (show rng 0 from by decide), hw⟩, ⟨(rsI (rsI (rsI (rsI (rsI (rsI (rsI (rsI (rsI (rsI (rsI (rsI hS.1 (Wc6.2.1 4)) (Wc6.2.1 5)) (Wc15.2.1 30)) (Wc15.2.1 31)) (Wc15.2.1 32)) (Wc15.2.1 33)) (Wc15.2.1 37)) (Wc15.2.1 38)) (Wc15.2.1 39)) (Wc15.2.1 40)) (Wc6.2.1 46)) (Wc6.2.1 48)), (rsF (rsF (rsF (rsF (rsF (rsF (rsF (rsF (rsF hS.2 (fun j => Wc6.2.2 2 j)) (fun j => Wc6.2.2 3 j)) (fun j => Wc15.2.2 28 j)) (fun j => Wc15.2.2 29 j)) (fun j => Wc1.2.2 34 j)) (fun j => Wc1.2.2 35 j)) (fun j => Wc1.2.2 36 j)) (fun j => Wc6.2.2 45 j)) (fun j => Wc6.2.2 47 j))⟩⟩ dX12_isWrong_31
    · have hw := hw.2 (z_ne (Wc15.2.1 37) (show rng (-1) from by decide) c23)
      refine lv_iconst (v := zI 1) C.1 C.2.1 dX12_isWrong_26 (by decide) ?_
      refine lv_goto (tgt := 31) C.1 C.2.1 dX12_isWrong_27 (by decide) ?_
      exact k_retMi C hr hlk (by decide) Wd (u := (row_r6, fresh_r6, many_r6, made_r6, holds_r15, outs_r15, steps_r15, ending_r15, outMany_r15, cursor_r15, keptEnd_r1, keptMany_r1, keptOut_r1, firstParting_r15, firstPlace_r15, partings_r15, anyTired_r15, bound_r6, patternAt_r6, isOut_r6, someOut_r6)) rfl rfl ⟨⟨_, rfl, (show rng 1 from by decide), hw⟩, ⟨(rsI (rsI (rsI (rsI (rsI (rsI (rsI (rsI (rsI (rsI (rsI (rsI hS.1 (Wc6.2.1 4)) (Wc6.2.1 5)) (Wc15.2.1 30)) (Wc15.2.1 31)) (Wc15.2.1 32)) (Wc15.2.1 33)) (Wc15.2.1 37)) (Wc15.2.1 38)) (Wc15.2.1 39)) (Wc15.2.1 40)) (Wc6.2.1 46)) (Wc6.2.1 48)), (rsF (rsF (rsF (rsF (rsF (rsF (rsF (rsF (rsF hS.2 (fun j => Wc6.2.2 2 j)) (fun j => Wc6.2.2 3 j)) (fun j => Wc15.2.2 28 j)) (fun j => Wc15.2.2 29 j)) (fun j => Wc1.2.2 34 j)) (fun j => Wc1.2.2 35 j)) (fun j => Wc1.2.2 36 j)) (fun j => Wc6.2.2 45 j)) (fun j => Wc6.2.2 47 j))⟩⟩ dX12_isWrong_31
  · have hw := hw.2 (z0_eq g_r6 c9)
    refine lv_iconst (v := zI 0) C.1 C.2.1 dX12_isWrong_12 (by decide) ?_
    exact k_retMi C hr hlk (by decide) Wd (u := (row_r6, fresh_r6, many_r6, made_r6, holds_r1, outs_r1, steps_r1, ending_r1, outMany_r1, cursor_r1, keptEnd_r1, keptMany_r1, keptOut_r1, (I 37), (I 38), (I 39), (I 40), bound_r6, patternAt_r6, isOut_r6, someOut_r6)) rfl rfl ⟨⟨_, rfl, (show rng 0 from by decide), hw⟩, ⟨(rsI (rsI (rsI (rsI (rsI (rsI (rsI (rsI (rsI (rsI (rsI (rsI hS.1 (Wc6.2.1 4)) (Wc6.2.1 5)) (Wc1.2.1 30)) (Wc1.2.1 31)) (Wc1.2.1 32)) (Wc1.2.1 33)) (hS.1 37)) (hS.1 38)) (hS.1 39)) (hS.1 40)) (Wc6.2.1 46)) (Wc6.2.1 48)), (rsF (rsF (rsF (rsF (rsF (rsF (rsF (rsF (rsF hS.2 (fun j => Wc6.2.2 2 j)) (fun j => Wc6.2.2 3 j)) (fun j => Wc1.2.2 28 j)) (fun j => Wc1.2.2 29 j)) (fun j => Wc1.2.2 34 j)) (fun j => Wc1.2.2 35 j)) (fun j => Wc1.2.2 36 j)) (fun j => Wc6.2.2 45 j)) (fun j => Wc6.2.2 47 j))⟩⟩ dX12_isWrong_13
set_option maxHeartbeats 4000000 in
set_option maxRecDepth 100000 in
theorem mt_cutsOne : ∀ (D : va_G) (h : Nat) (ad : Nat → Nat) (ca : Nat → ClassId) (I : Nat → Int) (F : Nat → Int → Int) (hS : rngS I F) (x0 : Int) (g_x0 : rng x0) (K : Int → (Int → Int) → (Int → Int) → Int → Int → (Int → Int) → (Int → Int) → Int → Int → Int → Int → (Int → Int) → (Int → Int) → (Int → Int) → Int → Int → Int → Int → (Int → Int) → Int → (Int → Int) → Int → (Int → Int) → Int → (Int → Int) → Prop) (hw : wp_cutsOne (F 2) (F 3) (I 4) (I 5) (F 24) (F 25) (F 26) (F 28) (F 29) (I 30) (I 31) (I 32) (I 33) (F 34) (F 35) (F 36) (I 37) (I 38) (I 39) (I 40) (F 45) (I 46) (F 47) (I 48) (F 49) (F 50) (F 51) (I 52) (F 53) x0 K) (l : Launch) (sz : Nat), Met l yX12_cutsOne (Cond.code yX12_cutsOne cX12_cutsOne 5 (some .boolean) :: gG) { frames := 1110, cells := 0, slots := 0, locals := 25717 } (cPre D (tM ca) (wM h ad ca I F) sz [.ref h, .int (zI x0)]) (va_Qi (fun (r : Int32) (u : (Int → Int) × (Int → Int) × (Int) × (Int) × (Int → Int) × (Int → Int) × (Int) × (Int) × (Int) × (Int) × (Int → Int) × (Int → Int) × (Int → Int) × (Int) × (Int) × (Int) × (Int) × (Int → Int) × (Int) × (Int → Int) × (Int) × (Int → Int) × (Int) × (Int → Int)) => (∃ x : Int, r = zI x ∧ rng x ∧ K x u.1 u.2.1 u.2.2.1 u.2.2.2.1 u.2.2.2.2.1 u.2.2.2.2.2.1 u.2.2.2.2.2.2.1 u.2.2.2.2.2.2.2.1 u.2.2.2.2.2.2.2.2.1 u.2.2.2.2.2.2.2.2.2.1 u.2.2.2.2.2.2.2.2.2.2.1 u.2.2.2.2.2.2.2.2.2.2.2.1 u.2.2.2.2.2.2.2.2.2.2.2.2.1 u.2.2.2.2.2.2.2.2.2.2.2.2.2.1 u.2.2.2.2.2.2.2.2.2.2.2.2.2.2.1 u.2.2.2.2.2.2.2.2.2.2.2.2.2.2.2.1 u.2.2.2.2.2.2.2.2.2.2.2.2.2.2.2.2.1 u.2.2.2.2.2.2.2.2.2.2.2.2.2.2.2.2.2.1 u.2.2.2.2.2.2.2.2.2.2.2.2.2.2.2.2.2.2.1 u.2.2.2.2.2.2.2.2.2.2.2.2.2.2.2.2.2.2.2.1 u.2.2.2.2.2.2.2.2.2.2.2.2.2.2.2.2.2.2.2.2.1 u.2.2.2.2.2.2.2.2.2.2.2.2.2.2.2.2.2.2.2.2.2.1 u.2.2.2.2.2.2.2.2.2.2.2.2.2.2.2.2.2.2.2.2.2.2.1 u.2.2.2.2.2.2.2.2.2.2.2.2.2.2.2.2.2.2.2.2.2.2.2) ∧ rngS (sI (sI (sI (sI (sI (sI (sI (sI (sI (sI (sI (sI (sI I 4 u.2.2.1) 5 u.2.2.2.1) 30 u.2.2.2.2.2.2.1) 31 u.2.2.2.2.2.2.2.1) 32 u.2.2.2.2.2.2.2.2.1) 33 u.2.2.2.2.2.2.2.2.2.1) 37 u.2.2.2.2.2.2.2.2.2.2.2.2.2.1) 38 u.2.2.2.2.2.2.2.2.2.2.2.2.2.2.1) 39 u.2.2.2.2.2.2.2.2.2.2.2.2.2.2.2.1) 40 u.2.2.2.2.2.2.2.2.2.2.2.2.2.2.2.2.1) 46 u.2.2.2.2.2.2.2.2.2.2.2.2.2.2.2.2.2.2.1) 48 u.2.2.2.2.2.2.2.2.2.2.2.2.2.2.2.2.2.2.2.2.1) 52 u.2.2.2.2.2.2.2.2.2.2.2.2.2.2.2.2.2.2.2.2.2.2.1) (sF (sF (sF (sF (sF (sF (sF (sF (sF (sF (sF F 2 u.1) 3 u.2.1) 28 u.2.2.2.2.1) 29 u.2.2.2.2.2.1) 34 u.2.2.2.2.2.2.2.2.2.2.1) 35 u.2.2.2.2.2.2.2.2.2.2.2.1) 36 u.2.2.2.2.2.2.2.2.2.2.2.2.1) 45 u.2.2.2.2.2.2.2.2.2.2.2.2.2.2.2.2.2.1) 47 u.2.2.2.2.2.2.2.2.2.2.2.2.2.2.2.2.2.2.2.1) 51 u.2.2.2.2.2.2.2.2.2.2.2.2.2.2.2.2.2.2.2.2.2.1) 53 u.2.2.2.2.2.2.2.2.2.2.2.2.2.2.2.2.2.2.2.2.2.2.2)) (fun u t => cB D (va_A (wM h ad ca I F) sz) [] (wM h ad ca (sI (sI (sI (sI (sI (sI (sI (sI (sI (sI (sI (sI (sI I 4 u.2.2.1) 5 u.2.2.2.1) 30 u.2.2.2.2.2.2.1) 31 u.2.2.2.2.2.2.2.1) 32 u.2.2.2.2.2.2.2.2.1) 33 u.2.2.2.2.2.2.2.2.2.1) 37 u.2.2.2.2.2.2.2.2.2.2.2.2.2.1) 38 u.2.2.2.2.2.2.2.2.2.2.2.2.2.2.1) 39 u.2.2.2.2.2.2.2.2.2.2.2.2.2.2.2.1) 40 u.2.2.2.2.2.2.2.2.2.2.2.2.2.2.2.2.1) 46 u.2.2.2.2.2.2.2.2.2.2.2.2.2.2.2.2.2.2.1) 48 u.2.2.2.2.2.2.2.2.2.2.2.2.2.2.2.2.2.2.2.2.1) 52 u.2.2.2.2.2.2.2.2.2.2.2.2.2.2.2.2.2.2.2.2.2.2.1) (sF (sF (sF (sF (sF (sF (sF (sF (sF (sF (sF F 2 u.1) 3 u.2.1) 28 u.2.2.2.2.1) 29 u.2.2.2.2.2.1) 34 u.2.2.2.2.2.2.2.2.2.2.1) 35 u.2.2.2.2.2.2.2.2.2.2.2.1) 36 u.2.2.2.2.2.2.2.2.2.2.2.2.1) 45 u.2.2.2.2.2.2.2.2.2.2.2.2.2.2.2.2.2.1) 47 u.2.2.2.2.2.2.2.2.2.2.2.2.2.2.2.2.2.2.2.1) 51 u.2.2.2.2.2.2.2.2.2.2.2.2.2.2.2.2.2.2.2.2.2.1) 53 u.2.2.2.2.2.2.2.2.2.2.2.2.2.2.2.2.2.2.2.2.2.2.2)) t) (va_A (wM h ad ca I F) sz)) 0 0 (va_A (wM h ad ca I F) sz) := by
  intro D h ad ca I F hS x0 g_x0 K hw l sz
  refine Met.ofW (cc := cX12_cutsOne) (maxL := 5) (ret := (some .boolean)) (by decide) rfl ?_
  intro p e s m args below meth c s₁ B hml hv
  obtain ⟨rfl, aks, rfl, Wd⟩ := k_enter hv
  have C : CallFix p m c cX12_cutsOne 5 s _ gG RX12 := ⟨B.exec, B.bytes, hml, findClass_of_methodNamed B.named, fun w h => atoms_spec (ws := Cond.code yX12_cutsOne cX12_cutsOne 5 (some .boolean) :: gG) B.pre w (List.mem_cons_of_mem _ h)⟩
  have hr := B.returns
  have hlk := B.notSynchronized
  generalize va_A (wM h ad ca I F) s.heap.size = A at Wd ⊢
  replace Wd : wXM D ca s h ad I F s.heap A s.heap [] := ⟨Wd, hS⟩
  refine k_locals (Nat.le_of_ble_eq_true rfl) [(0, .ref h), (1, .int (zI x0))] rfl (fun ls hl => ?_)
  unfold wp_cutsOne at hw
  refine lv_iconst (v := zI 0) C.1 C.2.1 dX12_cutsOne_0 (by decide) ?_
  refine lv_istore_n (lv' := [(2, .int (zI 0)), (0, .ref h), (1, .int (zI x0))]) C.1 C.2.1 dX12_cutsOne_1 rfl hl (by decide) rfl (fun ls hl => ?_)
  replace hl := lv_sub hl [1, 2, 0] rfl
  refine k_lp23 hw (fun (l2_2 : Int) (row_2 : Int → Int) (fresh_2 : Int → Int) (many_2 : Int) (made_2 : Int) (holds_2 : Int → Int) (outs_2 : Int → Int) (steps_2 : Int) (ending_2 : Int) (outMany_2 : Int) (cursor_2 : Int) (keptEnd_2 : Int → Int) (keptMany_2 : Int → Int) (keptOut_2 : Int → Int) (firstParting_2 : Int) (firstPlace_2 : Int) (partings_2 : Int) (anyTired_2 : Int) (bound_2 : Int → Int) (patternAt_2 : Int) (isOut_2 : Int → Int) (someOut_2 : Int) (cutRow_2 : Int → Int) H locs ls => rng l2_2 ∧ wXM D ca s h ad (sI (sI (sI (sI (sI (sI (sI (sI (sI (sI (sI (sI I 4 many_2) 5 made_2) 30 steps_2) 31 ending_2) 32 outMany_2) 33 cursor_2) 37 firstParting_2) 38 firstPlace_2) 39 partings_2) 40 anyTired_2) 46 patternAt_2) 48 someOut_2) (sF (sF (sF (sF (sF (sF (sF (sF (sF (sF F 2 row_2) 3 fresh_2) 28 holds_2) 29 outs_2) 34 keptEnd_2) 35 keptMany_2) 36 keptOut_2) 45 bound_2) 47 isOut_2) 53 cutRow_2) H A s.heap locs ∧ lv_has ls 5 [(0, .ref h), (1, .int (zI x0)), (2, .int (zI l2_2))]) (fun (l2_2 : Int) (row_2 : Int → Int) (fresh_2 : Int → Int) (many_2 : Int) (made_2 : Int) (holds_2 : Int → Int) (outs_2 : Int → Int) (steps_2 : Int) (ending_2 : Int) (outMany_2 : Int) (cursor_2 : Int) (keptEnd_2 : Int → Int) (keptMany_2 : Int → Int) (keptOut_2 : Int → Int) (firstParting_2 : Int) (firstPlace_2 : Int) (partings_2 : Int) (anyTired_2 : Int) (bound_2 : Int → Int) (patternAt_2 : Int) (isOut_2 : Int → Int) (someOut_2 : Int) (cutRow_2 : Int → Int) ls => F0 m 2 ls []) (fun L2 hL2 l2_2 row_2 fresh_2 many_2 made_2 holds_2 outs_2 steps_2 ending_2 outMany_2 cursor_2 keptEnd_2 keptMany_2 keptOut_2 firstParting_2 firstPlace_2 partings_2 anyTired_2 bound_2 patternAt_2 isOut_2 someOut_2 cutRow_2 hw H locs ls hi => ?_) _ _ _ ⟨(show rng 0 from by decide), wMc Wd rfl rfl ⟨(rsI (rsI (rsI (rsI (rsI (rsI (rsI (rsI (rsI (rsI (rsI (rsI hS.1 (hS.1 4)) (hS.1 5)) (hS.1 30)) (hS.1 31)) (hS.1 32)) (hS.1 33)) (hS.1 37)) (hS.1 38)) (hS.1 39)) (hS.1 40)) (hS.1 46)) (hS.1 48)), (rsF (rsF (rsF (rsF (rsF (rsF (rsF (rsF (rsF (rsF hS.2 (hS.2 2)) (hS.2 3)) (hS.2 28)) (hS.2 29)) (hS.2 34)) (hS.2 35)) (hS.2 36)) (hS.2 45)) (hS.2 47)) (hS.2 53))⟩, lv_sub hl [0, 1, 2] rfl⟩
  obtain ⟨g_l2_2, Wd, hl⟩ := hi
  have Wd2 := Wd
  unfold wp_cutsOne_2 at hw
  refine lv_iload_n C.1 C.2.1 dX12_cutsOne_2 rfl (lv_at hl 2 rfl) ?_
  refine lv_aload_n C.1 C.2.1 dX12_cutsOne_3 rfl (lv_at hl 0 rfl) ?_
  refine k_get (v := .int (zI (I 52))) C Wd.1 KX12 0 52 wM0 (by decide) fl_X12_442 rfl dX12_cutsOne_4 ?_
  refine lv_icmp_ge (tgt := 144) C.1 C.2.1 dX12_cutsOne_7 (by decide) (fun c7 => ?_) (fun c7 => ?_)
  · have hw := hw.1 (z_le (hS.1 52) g_l2_2 c7)
    refine lv_iconst (v := zI 0) C.1 C.2.1 dX12_cutsOne_144 (by decide) ?_
    exact k_retMi C hr hlk (by decide) Wd (u := (row_2, fresh_2, many_2, made_2, holds_2, outs_2, steps_2, ending_2, outMany_2, cursor_2, keptEnd_2, keptMany_2, keptOut_2, firstParting_2, firstPlace_2, partings_2, anyTired_2, bound_2, patternAt_2, isOut_2, someOut_2, (F 51), (I 52), cutRow_2)) rfl rfl ⟨⟨_, rfl, (show rng 0 from by decide), hw⟩, ⟨(rsI (rsI (rsI (rsI (rsI (rsI (rsI (rsI (rsI (rsI (rsI (rsI (rsI hS.1 (Wd2.2.1 4)) (Wd2.2.1 5)) (Wd2.2.1 30)) (Wd2.2.1 31)) (Wd2.2.1 32)) (Wd2.2.1 33)) (Wd2.2.1 37)) (Wd2.2.1 38)) (Wd2.2.1 39)) (Wd2.2.1 40)) (Wd2.2.1 46)) (Wd2.2.1 48)) (hS.1 52)), (rsF (rsF (rsF (rsF (rsF (rsF (rsF (rsF (rsF (rsF (rsF hS.2 (fun j => Wd2.2.2 2 j)) (fun j => Wd2.2.2 3 j)) (fun j => Wd2.2.2 28 j)) (fun j => Wd2.2.2 29 j)) (fun j => Wd2.2.2 34 j)) (fun j => Wd2.2.2 35 j)) (fun j => Wd2.2.2 36 j)) (fun j => Wd2.2.2 45 j)) (fun j => Wd2.2.2 47 j)) (hS.2 51)) (fun j => Wd2.2.2 53 j))⟩⟩ dX12_cutsOne_145
  · have hw := hw.2 (z_nle (hS.1 52) g_l2_2 c7)
    refine lv_aload_n C.1 C.2.1 dX12_cutsOne_10 rfl (lv_at hl 0 rfl) ?_
    refine k_get (v := .ref (ad 51)) C Wd.1 KX12 0 51 wM0 (by decide) fl_X12_78 rfl dX12_cutsOne_11 ?_
    refine lv_iload_n C.1 C.2.1 dX12_cutsOne_14 rfl (lv_at hl 2 rfl) ?_
    obtain ⟨a15, hw⟩ := hw
    refine k_ialdM (g := (F 51)) C Wd 22 21 rfl rfl a15 (by decide) dX12_cutsOne_15 ?_
    have g15 : rng ((F 51) l2_2) := rngL (hS.2 51) a15
    refine k_pi (k_runS (rest := []) C aks Wd.1 cs_X12_111 (mt_isStatement D ((F 51) l2_2) g15 _ hw l _) [] rfl (by decide) [] rfl rfl rfl ⟨(Nat.le_of_ble_eq_true rfl), (Nat.le_of_ble_eq_true rfl)⟩ hl.1 rfl rfl (Nat.le_of_ble_eq_true rfl) ⟨(Nat.le_of_ble_eq_true rfl), (Nat.le_of_ble_eq_true rfl)⟩ dX12_cutsOne_16) (fun y16 hy => ?_)
    obtain ⟨r16, rfl, g_r16, hw⟩ := hy
    refine lv_if_ne (tgt := 25) C.1 C.2.1 dX12_cutsOne_19 (by decide) (fun c19 => ?_) (fun c19 => ?_)
    · have hw := hw.1 (z0_ne g_r16 c19)
      refine lv_aload_n C.1 C.2.1 dX12_cutsOne_25 rfl (lv_at hl 0 rfl) ?_
      refine k_cMv Wd (k_runVM (rest := []) C aks Wd cs_X12_445 (mt_takesWhole D h ad ca (sI (sI (sI (sI (sI (sI (sI (sI (sI (sI (sI (sI I 4 many_2) 5 made_2) 30 steps_2) 31 ending_2) 32 outMany_2) 33 cursor_2) 37 firstParting_2) 38 firstPlace_2) 39 partings_2) 40 anyTired_2) 46 patternAt_2) 48 someOut_2) (sF (sF (sF (sF (sF (sF (sF (sF (sF (sF F 2 row_2) 3 fresh_2) 28 holds_2) 29 outs_2) 34 keptEnd_2) 35 keptMany_2) 36 keptOut_2) 45 bound_2) 47 isOut_2) 53 cutRow_2) Wd.2   _ hw l _) rfl rfl ⟨(Nat.le_of_ble_eq_true rfl), (Nat.le_of_ble_eq_true rfl)⟩ hl.1 rfl rfl (Nat.le_of_ble_eq_true rfl) ⟨(Nat.le_of_ble_eq_true rfl), (Nat.le_of_ble_eq_true rfl)⟩ dX12_cutsOne_26) (fun u26 H locs hw Wd => ?_)
      obtain ⟨row_r26, many_r26⟩ := u26
      dsimp only at hw
      have Wc26 := Wd
      have Wd : wXM D ca s h ad (sI (sI (sI (sI (sI (sI (sI (sI (sI (sI (sI (sI I 4 many_r26) 5 made_2) 30 steps_2) 31 ending_2) 32 outMany_2) 33 cursor_2) 37 firstParting_2) 38 firstPlace_2) 39 partings_2) 40 anyTired_2) 46 patternAt_2) 48 someOut_2) (sF (sF (sF (sF (sF (sF (sF (sF (sF (sF F 2 row_r26) 3 fresh_2) 28 holds_2) 29 outs_2) 34 keptEnd_2) 35 keptMany_2) 36 keptOut_2) 45 bound_2) 47 isOut_2) 53 cutRow_2) H A s.heap locs := wMc Wd rfl rfl ⟨(rsI (rsI (rsI (rsI (rsI (rsI (rsI (rsI (rsI (rsI (rsI (rsI hS.1 (Wc26.2.1 4)) (Wd2.2.1 5)) (Wd2.2.1 30)) (Wd2.2.1 31)) (Wd2.2.1 32)) (Wd2.2.1 33)) (Wd2.2.1 37)) (Wd2.2.1 38)) (Wd2.2.1 39)) (Wd2.2.1 40)) (Wd2.2.1 46)) (Wd2.2.1 48)), (rsF (rsF (rsF (rsF (rsF (rsF (rsF (rsF (rsF (rsF hS.2 (fun j => Wc26.2.2 2 j)) (fun j => Wd2.2.2 3 j)) (fun j => Wd2.2.2 28 j)) (fun j => Wd2.2.2 29 j)) (fun j => Wd2.2.2 34 j)) (fun j => Wd2.2.2 35 j)) (fun j => Wd2.2.2 36 j)) (fun j => Wd2.2.2 45 j)) (fun j => Wd2.2.2 47 j)) (fun j => Wd2.2.2 53 j))⟩
      refine lv_aload_n C.1 C.2.1 dX12_cutsOne_29 rfl (lv_at hl 0 rfl) ?_
      refine k_cMv Wd (k_runVM (rest := []) C aks Wd cs_X12_394 (mt_clears D h ad ca (sI (sI (sI (sI (sI (sI (sI (sI (sI (sI (sI (sI I 4 many_r26) 5 made_2) 30 steps_2) 31 ending_2) 32 outMany_2) 33 cursor_2) 37 firstParting_2) 38 firstPlace_2) 39 partings_2) 40 anyTired_2) 46 patternAt_2) 48 someOut_2) (sF (sF (sF (sF (sF (sF (sF (sF (sF (sF F 2 row_r26) 3 fresh_2) 28 holds_2) 29 outs_2) 34 keptEnd_2) 35 keptMany_2) 36 keptOut_2) 45 bound_2) 47 isOut_2) 53 cutRow_2) Wd.2   _ hw l _) rfl rfl ⟨(Nat.le_of_ble_eq_true rfl), (Nat.le_of_ble_eq_true rfl)⟩ hl.1 rfl rfl (Nat.le_of_ble_eq_true rfl) ⟨(Nat.le_of_ble_eq_true rfl), (Nat.le_of_ble_eq_true rfl)⟩ dX12_cutsOne_30) (fun u30 H locs hw Wd => ?_)
      obtain ⟨isOut_r30, someOut_r30⟩ := u30
      dsimp only at hw
      have Wc30 := Wd
      have Wd : wXM D ca s h ad (sI (sI (sI (sI (sI (sI (sI (sI (sI (sI (sI (sI I 4 many_r26) 5 made_2) 30 steps_2) 31 ending_2) 32 outMany_2) 33 cursor_2) 37 firstParting_2) 38 firstPlace_2) 39 partings_2) 40 anyTired_2) 46 patternAt_2) 48 someOut_r30) (sF (sF (sF (sF (sF (sF (sF (sF (sF (sF F 2 row_r26) 3 fresh_2) 28 holds_2) 29 outs_2) 34 keptEnd_2) 35 keptMany_2) 36 keptOut_2) 45 bound_2) 47 isOut_r30) 53 cutRow_2) H A s.heap locs := wMc Wd rfl rfl ⟨(rsI (rsI (rsI (rsI (rsI (rsI (rsI (rsI (rsI (rsI (rsI (rsI hS.1 (Wc26.2.1 4)) (Wd2.2.1 5)) (Wd2.2.1 30)) (Wd2.2.1 31)) (Wd2.2.1 32)) (Wd2.2.1 33)) (Wd2.2.1 37)) (Wd2.2.1 38)) (Wd2.2.1 39)) (Wd2.2.1 40)) (Wd2.2.1 46)) (Wc30.2.1 48)), (rsF (rsF (rsF (rsF (rsF (rsF (rsF (rsF (rsF (rsF hS.2 (fun j => Wc26.2.2 2 j)) (fun j => Wd2.2.2 3 j)) (fun j => Wd2.2.2 28 j)) (fun j => Wd2.2.2 29 j)) (fun j => Wd2.2.2 34 j)) (fun j => Wd2.2.2 35 j)) (fun j => Wd2.2.2 36 j)) (fun j => Wd2.2.2 45 j)) (fun j => Wc30.2.2 47 j)) (fun j => Wd2.2.2 53 j))⟩
      refine lv_aload_n C.1 C.2.1 dX12_cutsOne_33 rfl (lv_at hl 0 rfl) ?_
      refine k_get (v := .ref (ad 47)) C Wd.1 KX12 0 47 wM0 (by decide) fl_X12_68 rfl dX12_cutsOne_34 ?_
      refine lv_iload_n C.1 C.2.1 dX12_cutsOne_37 rfl (lv_at hl 2 rfl) ?_
      refine lv_iconst (v := zI 1) C.1 C.2.1 dX12_cutsOne_38 (by decide) ?_
      obtain ⟨a39, hw⟩ := hw
      have q39 : ∀ j : Nat, rng ((uZ isOut_r30 l2_2 1) j) := ruZ (fun j => Wc30.2.2 47 j) (show rng 1 from by decide)
      refine k_zastM (g := isOut_r30) C Wd 18 18 (sF (sF (sF (sF (sF (sF (sF (sF (sF (sF F 2 row_r26) 3 fresh_2) 28 holds_2) 29 outs_2) 34 keptEnd_2) 35 keptMany_2) 36 keptOut_2) 45 bound_2) 47 (uZ isOut_r30 l2_2 1)) 53 cutRow_2) rfl rfl a39 (by decide) (by decide) rfl rfl (rsF (rsF (rsF (rsF (rsF (rsF (rsF (rsF (rsF (rsF hS.2 (fun j => Wc26.2.2 2 j)) (fun j => Wd2.2.2 3 j)) (fun j => Wd2.2.2 28 j)) (fun j => Wd2.2.2 29 j)) (fun j => Wd2.2.2 34 j)) (fun j => Wd2.2.2 35 j)) (fun j => Wd2.2.2 36 j)) (fun j => Wd2.2.2 45 j)) q39) (fun j => Wd2.2.2 53 j)) dX12_cutsOne_39 (fun H locs Wd => ?_)
      refine lv_aload_n C.1 C.2.1 dX12_cutsOne_40 rfl (lv_at hl 0 rfl) ?_
      refine lv_iconst (v := zI 0) C.1 C.2.1 dX12_cutsOne_41 (by decide) ?_
      refine k_putM C Wd 5 (sI (sI (sI (sI (sI (sI (sI (sI (sI (sI (sI (sI I 4 many_r26) 5 0) 30 steps_2) 31 ending_2) 32 outMany_2) 33 cursor_2) 37 firstParting_2) 38 firstPlace_2) 39 partings_2) 40 anyTired_2) 46 patternAt_2) 48 someOut_r30) (by decide) fl_X12_117 rfl rfl rfl rfl (rsI (rsI (rsI (rsI (rsI (rsI (rsI (rsI (rsI (rsI (rsI (rsI hS.1 (Wc26.2.1 4)) (show rng 0 from by decide)) (Wd2.2.1 30)) (Wd2.2.1 31)) (Wd2.2.1 32)) (Wd2.2.1 33)) (Wd2.2.1 37)) (Wd2.2.1 38)) (Wd2.2.1 39)) (Wd2.2.1 40)) (Wd2.2.1 46)) (Wc30.2.1 48)) dX12_cutsOne_42 (fun H locs Wd => ?_)
      refine lv_aload_n C.1 C.2.1 dX12_cutsOne_45 rfl (lv_at hl 0 rfl) ?_
      refine lv_iconst (v := zI 0) C.1 C.2.1 dX12_cutsOne_46 (by decide) ?_
      refine k_cMv Wd (k_runVM (rest := []) C aks Wd cs_X12_391 (mt_copies D h ad ca (sI (sI (sI (sI (sI (sI (sI (sI (sI (sI (sI (sI I 4 many_r26) 5 0) 30 steps_2) 31 ending_2) 32 outMany_2) 33 cursor_2) 37 firstParting_2) 38 firstPlace_2) 39 partings_2) 40 anyTired_2) 46 patternAt_2) 48 someOut_r30) (sF (sF (sF (sF (sF (sF (sF (sF (sF (sF F 2 row_r26) 3 fresh_2) 28 holds_2) 29 outs_2) 34 keptEnd_2) 35 keptMany_2) 36 keptOut_2) 45 bound_2) 47 (uZ isOut_r30 l2_2 1)) 53 cutRow_2) Wd.2 0 (show rng 0 from by decide) _ hw l _) rfl rfl ⟨(Nat.le_of_ble_eq_true rfl), (Nat.le_of_ble_eq_true rfl)⟩ hl.1 rfl rfl (Nat.le_of_ble_eq_true rfl) ⟨(Nat.le_of_ble_eq_true rfl), (Nat.le_of_ble_eq_true rfl)⟩ dX12_cutsOne_47) (fun u47 H locs hw Wd => ?_)
      obtain ⟨fresh_r47, made_r47⟩ := u47
      dsimp only at hw
      have Wc47 := Wd
      have Wd : wXM D ca s h ad (sI (sI (sI (sI (sI (sI (sI (sI (sI (sI (sI (sI I 4 many_r26) 5 made_r47) 30 steps_2) 31 ending_2) 32 outMany_2) 33 cursor_2) 37 firstParting_2) 38 firstPlace_2) 39 partings_2) 40 anyTired_2) 46 patternAt_2) 48 someOut_r30) (sF (sF (sF (sF (sF (sF (sF (sF (sF (sF F 2 row_r26) 3 fresh_r47) 28 holds_2) 29 outs_2) 34 keptEnd_2) 35 keptMany_2) 36 keptOut_2) 45 bound_2) 47 (uZ isOut_r30 l2_2 1)) 53 cutRow_2) H A s.heap locs := wMc Wd rfl rfl ⟨(rsI (rsI (rsI (rsI (rsI (rsI (rsI (rsI (rsI (rsI (rsI (rsI hS.1 (Wc26.2.1 4)) (Wc47.2.1 5)) (Wd2.2.1 30)) (Wd2.2.1 31)) (Wd2.2.1 32)) (Wd2.2.1 33)) (Wd2.2.1 37)) (Wd2.2.1 38)) (Wd2.2.1 39)) (Wd2.2.1 40)) (Wd2.2.1 46)) (Wc30.2.1 48)), (rsF (rsF (rsF (rsF (rsF (rsF (rsF (rsF (rsF (rsF hS.2 (fun j => Wc26.2.2 2 j)) (fun j => Wc47.2.2 3 j)) (fun j => Wd2.2.2 28 j)) (fun j => Wd2.2.2 29 j)) (fun j => Wd2.2.2 34 j)) (fun j => Wd2.2.2 35 j)) (fun j => Wd2.2.2 36 j)) (fun j => Wd2.2.2 45 j)) q39) (fun j => Wd2.2.2 53 j))⟩
      refine lv_aload_n C.1 C.2.1 dX12_cutsOne_50 rfl (lv_at hl 0 rfl) ?_
      refine k_cMv Wd (k_runVM (rest := []) C aks Wd cs_X12_259 (mt_turns D h ad ca (sI (sI (sI (sI (sI (sI (sI (sI (sI (sI (sI (sI I 4 many_r26) 5 made_r47) 30 steps_2) 31 ending_2) 32 outMany_2) 33 cursor_2) 37 firstParting_2) 38 firstPlace_2) 39 partings_2) 40 anyTired_2) 46 patternAt_2) 48 someOut_r30) (sF (sF (sF (sF (sF (sF (sF (sF (sF (sF F 2 row_r26) 3 fresh_r47) 28 holds_2) 29 outs_2) 34 keptEnd_2) 35 keptMany_2) 36 keptOut_2) 45 bound_2) 47 (uZ isOut_r30 l2_2 1)) 53 cutRow_2) Wd.2   _ hw l _) rfl rfl ⟨(Nat.le_of_ble_eq_true rfl), (Nat.le_of_ble_eq_true rfl)⟩ hl.1 rfl rfl (Nat.le_of_ble_eq_true rfl) ⟨(Nat.le_of_ble_eq_true rfl), (Nat.le_of_ble_eq_true rfl)⟩ dX12_cutsOne_51) (fun u51 H locs hw Wd => ?_)
      obtain ⟨row_r51, many_r51, made_r51⟩ := u51
      dsimp only at hw
      have Wc51 := Wd
      have Wd : wXM D ca s h ad (sI (sI (sI (sI (sI (sI (sI (sI (sI (sI (sI (sI I 4 many_r51) 5 made_r51) 30 steps_2) 31 ending_2) 32 outMany_2) 33 cursor_2) 37 firstParting_2) 38 firstPlace_2) 39 partings_2) 40 anyTired_2) 46 patternAt_2) 48 someOut_r30) (sF (sF (sF (sF (sF (sF (sF (sF (sF (sF F 2 row_r51) 3 fresh_r47) 28 holds_2) 29 outs_2) 34 keptEnd_2) 35 keptMany_2) 36 keptOut_2) 45 bound_2) 47 (uZ isOut_r30 l2_2 1)) 53 cutRow_2) H A s.heap locs := wMc Wd rfl rfl ⟨(rsI (rsI (rsI (rsI (rsI (rsI (rsI (rsI (rsI (rsI (rsI (rsI hS.1 (Wc51.2.1 4)) (Wc51.2.1 5)) (Wd2.2.1 30)) (Wd2.2.1 31)) (Wd2.2.1 32)) (Wd2.2.1 33)) (Wd2.2.1 37)) (Wd2.2.1 38)) (Wd2.2.1 39)) (Wd2.2.1 40)) (Wd2.2.1 46)) (Wc30.2.1 48)), (rsF (rsF (rsF (rsF (rsF (rsF (rsF (rsF (rsF (rsF hS.2 (fun j => Wc51.2.2 2 j)) (fun j => Wc47.2.2 3 j)) (fun j => Wd2.2.2 28 j)) (fun j => Wd2.2.2 29 j)) (fun j => Wd2.2.2 34 j)) (fun j => Wd2.2.2 35 j)) (fun j => Wd2.2.2 36 j)) (fun j => Wd2.2.2 45 j)) q39) (fun j => Wd2.2.2 53 j))⟩
      refine lv_aload_n C.1 C.2.1 dX12_cutsOne_54 rfl (lv_at hl 0 rfl) ?_
      refine k_get (v := .int (zI many_r51)) C Wd.1 KX12 0 4 wM0 (by decide) fl_X12_98 rfl dX12_cutsOne_55 ?_
      refine lv_istore_n (lv' := [(3, .int (zI many_r51)), (0, .ref h), (1, .int (zI x0)), (2, .int (zI l2_2))]) C.1 C.2.1 dX12_cutsOne_58 rfl hl (by decide) rfl (fun ls hl => ?_)
      replace hl := lv_sub hl [1, 2, 3, 0] rfl
      refine lv_iconst (v := zI 0) C.1 C.2.1 dX12_cutsOne_59 (by decide) ?_
      refine lv_istore (lv' := [(4, .int (zI 0)), (0, .ref h), (1, .int (zI x0)), (2, .int (zI l2_2)), (3, .int (zI many_r51))]) C.1 C.2.1 dX12_cutsOne_60 hl (by decide) rfl (fun ls hl => ?_)
      replace hl := lv_sub hl [1, 2, 3, 4, 0] rfl
      refine k_lp2 hw (fun (l4_62 : Int) (cutRow_62 : Int → Int) H locs ls => rng l4_62 ∧ wXM D ca s h ad (sI (sI (sI (sI (sI (sI (sI (sI (sI (sI (sI (sI I 4 many_r51) 5 made_r51) 30 steps_2) 31 ending_2) 32 outMany_2) 33 cursor_2) 37 firstParting_2) 38 firstPlace_2) 39 partings_2) 40 anyTired_2) 46 patternAt_2) 48 someOut_r30) (sF (sF (sF (sF (sF (sF (sF (sF (sF (sF F 2 row_r51) 3 fresh_r47) 28 holds_2) 29 outs_2) 34 keptEnd_2) 35 keptMany_2) 36 keptOut_2) 45 bound_2) 47 (uZ isOut_r30 l2_2 1)) 53 cutRow_62) H A s.heap locs ∧ lv_has ls 5 [(0, .ref h), (1, .int (zI x0)), (2, .int (zI l2_2)), (3, .int (zI many_r51)), (4, .int (zI l4_62))]) (fun (l4_62 : Int) (cutRow_62 : Int → Int) ls => F0 m 62 ls []) (fun L62 hL62 l4_62 cutRow_62 hw H locs ls hi => ?_) _ _ _ ⟨(show rng 0 from by decide), wMc Wd rfl rfl ⟨(rsI (rsI (rsI (rsI (rsI (rsI (rsI (rsI (rsI (rsI (rsI (rsI hS.1 (Wc51.2.1 4)) (Wc51.2.1 5)) (Wd2.2.1 30)) (Wd2.2.1 31)) (Wd2.2.1 32)) (Wd2.2.1 33)) (Wd2.2.1 37)) (Wd2.2.1 38)) (Wd2.2.1 39)) (Wd2.2.1 40)) (Wd2.2.1 46)) (Wc30.2.1 48)), (rsF (rsF (rsF (rsF (rsF (rsF (rsF (rsF (rsF (rsF hS.2 (fun j => Wc51.2.2 2 j)) (fun j => Wc47.2.2 3 j)) (fun j => Wd2.2.2 28 j)) (fun j => Wd2.2.2 29 j)) (fun j => Wd2.2.2 34 j)) (fun j => Wd2.2.2 35 j)) (fun j => Wd2.2.2 36 j)) (fun j => Wd2.2.2 45 j)) q39) (fun j => Wd2.2.2 53 j))⟩, lv_sub hl [0, 1, 2, 3, 4] rfl⟩
      obtain ⟨g_l4_62, Wd, hl⟩ := hi
      have Wd62 := Wd
      unfold wp_cutsOne_62 at hw
      refine lv_iload C.1 C.2.1 dX12_cutsOne_62 (lv_at hl 4 rfl) ?_
      refine lv_aload_n C.1 C.2.1 dX12_cutsOne_64 rfl (lv_at hl 0 rfl) ?_
      refine k_get (v := .int (zI many_r51)) C Wd.1 KX12 0 4 wM0 (by decide) fl_X12_98 rfl dX12_cutsOne_65 ?_
      refine lv_icmp_ge (tgt := 91) C.1 C.2.1 dX12_cutsOne_68 (by decide) (fun c68 => ?_) (fun c68 => ?_)
      · have hw := hw.1 (z_le (Wc51.2.1 4) g_l4_62 c68)
        refine lv_aload_n C.1 C.2.1 dX12_cutsOne_91 rfl (lv_at hl 0 rfl) ?_
        refine lv_iload_n C.1 C.2.1 dX12_cutsOne_92 rfl (lv_at hl 1 rfl) ?_
        refine k_cMi Wd (k_runVM (rest := []) C aks Wd cs_X12_448 (mt_isWrong D h ad ca (sI (sI (sI (sI (sI (sI (sI (sI (sI (sI (sI (sI I 4 many_r51) 5 made_r51) 30 steps_2) 31 ending_2) 32 outMany_2) 33 cursor_2) 37 firstParting_2) 38 firstPlace_2) 39 partings_2) 40 anyTired_2) 46 patternAt_2) 48 someOut_r30) (sF (sF (sF (sF (sF (sF (sF (sF (sF (sF F 2 row_r51) 3 fresh_r47) 28 holds_2) 29 outs_2) 34 keptEnd_2) 35 keptMany_2) 36 keptOut_2) 45 bound_2) 47 (uZ isOut_r30 l2_2 1)) 53 cutRow_62) Wd.2 x0 g_x0 _ hw l _) rfl rfl ⟨(Nat.le_of_ble_eq_true rfl), (Nat.le_of_ble_eq_true rfl)⟩ hl.1 rfl rfl (Nat.le_of_ble_eq_true rfl) ⟨(Nat.le_of_ble_eq_true rfl), (Nat.le_of_ble_eq_true rfl)⟩ dX12_cutsOne_93) (fun r93 u93 H locs g_r93 hw Wd => ?_)
        obtain ⟨row_r93, fresh_r93, many_r93, made_r93, holds_r93, outs_r93, steps_r93, ending_r93, outMany_r93, cursor_r93, keptEnd_r93, keptMany_r93, keptOut_r93, firstParting_r93, firstPlace_r93, partings_r93, anyTired_r93, bound_r93, patternAt_r93, isOut_r93, someOut_r93⟩ := u93
        dsimp only at hw
        have Wc93 := Wd
        have Wd : wXM D ca s h ad (sI (sI (sI (sI (sI (sI (sI (sI (sI (sI (sI (sI I 4 many_r93) 5 made_r93) 30 steps_r93) 31 ending_r93) 32 outMany_r93) 33 cursor_r93) 37 firstParting_r93) 38 firstPlace_r93) 39 partings_r93) 40 anyTired_r93) 46 patternAt_r93) 48 someOut_r93) (sF (sF (sF (sF (sF (sF (sF (sF (sF (sF F 2 row_r93) 3 fresh_r93) 28 holds_r93) 29 outs_r93) 34 keptEnd_r93) 35 keptMany_r93) 36 keptOut_r93) 45 bound_r93) 47 isOut_r93) 53 cutRow_62) H A s.heap locs := wMc Wd rfl rfl ⟨(rsI (rsI (rsI (rsI (rsI (rsI (rsI (rsI (rsI (rsI (rsI (rsI hS.1 (Wc93.2.1 4)) (Wc93.2.1 5)) (Wc93.2.1 30)) (Wc93.2.1 31)) (Wc93.2.1 32)) (Wc93.2.1 33)) (Wc93.2.1 37)) (Wc93.2.1 38)) (Wc93.2.1 39)) (Wc93.2.1 40)) (Wc93.2.1 46)) (Wc93.2.1 48)), (rsF (rsF (rsF (rsF (rsF (rsF (rsF (rsF (rsF (rsF hS.2 (fun j => Wc93.2.2 2 j)) (fun j => Wc93.2.2 3 j)) (fun j => Wc93.2.2 28 j)) (fun j => Wc93.2.2 29 j)) (fun j => Wc93.2.2 34 j)) (fun j => Wc93.2.2 35 j)) (fun j => Wc93.2.2 36 j)) (fun j => Wc93.2.2 45 j)) (fun j => Wc93.2.2 47 j)) (fun j => Wd62.2.2 53 j))⟩
        refine lv_if_ne (tgt := 102) C.1 C.2.1 dX12_cutsOne_96 (by decide) (fun c96 => ?_) (fun c96 => ?_)
        · have hw := hw.1 (z0_ne g_r93 c96)
          refine lv_aload_n C.1 C.2.1 dX12_cutsOne_102 rfl (lv_at hl 0 rfl) ?_
          refine lv_iload_n C.1 C.2.1 dX12_cutsOne_103 rfl (lv_at hl 3 rfl) ?_
          refine k_putM C Wd 52 (sI (sI (sI (sI (sI (sI (sI (sI (sI (sI (sI (sI (sI I 4 many_r93) 5 made_r93) 30 steps_r93) 31 ending_r93) 32 outMany_r93) 33 cursor_r93) 37 firstParting_r93) 38 firstPlace_r93) 39 partings_r93) 40 anyTired_r93) 46 patternAt_r93) 48 someOut_r93) 52 many_r51) (by decide) fl_X12_442 rfl rfl rfl rfl (rsI (rsI (rsI (rsI (rsI (rsI (rsI (rsI (rsI (rsI (rsI (rsI (rsI hS.1 (Wc93.2.1 4)) (Wc93.2.1 5)) (Wc93.2.1 30)) (Wc93.2.1 31)) (Wc93.2.1 32)) (Wc93.2.1 33)) (Wc93.2.1 37)) (Wc93.2.1 38)) (Wc93.2.1 39)) (Wc93.2.1 40)) (Wc93.2.1 46)) (Wc93.2.1 48)) (Wc51.2.1 4)) dX12_cutsOne_104 (fun H locs Wd => ?_)
          refine lv_iconst (v := zI 0) C.1 C.2.1 dX12_cutsOne_107 (by decide) ?_
          refine lv_istore (lv' := [(4, .int (zI 0)), (0, .ref h), (1, .int (zI x0)), (2, .int (zI l2_2)), (3, .int (zI many_r51))]) C.1 C.2.1 dX12_cutsOne_108 hl (by decide) rfl (fun ls hl => ?_)
          replace hl := lv_sub hl [1, 2, 3, 4, 0] rfl
          refine k_lp3 hw (fun (l4_110 : Int) (whole_110 : Int → Int) (cutRow_110 : Int → Int) H locs ls => rng l4_110 ∧ wXM D ca s h ad (sI (sI (sI (sI (sI (sI (sI (sI (sI (sI (sI (sI (sI I 4 many_r93) 5 made_r93) 30 steps_r93) 31 ending_r93) 32 outMany_r93) 33 cursor_r93) 37 firstParting_r93) 38 firstPlace_r93) 39 partings_r93) 40 anyTired_r93) 46 patternAt_r93) 48 someOut_r93) 52 many_r51) (sF (sF (sF (sF (sF (sF (sF (sF (sF (sF (sF F 2 row_r93) 3 fresh_r93) 28 holds_r93) 29 outs_r93) 34 keptEnd_r93) 35 keptMany_r93) 36 keptOut_r93) 45 bound_r93) 47 isOut_r93) 51 whole_110) 53 cutRow_110) H A s.heap locs ∧ lv_has ls 5 [(0, .ref h), (3, .int (zI many_r51)), (4, .int (zI l4_110))]) (fun (l4_110 : Int) (whole_110 : Int → Int) (cutRow_110 : Int → Int) ls => F0 m 110 ls []) (fun L110 hL110 l4_110 whole_110 cutRow_110 hw H locs ls hi => ?_) _ _ _ ⟨(show rng 0 from by decide), wMc Wd rfl rfl ⟨(rsI (rsI (rsI (rsI (rsI (rsI (rsI (rsI (rsI (rsI (rsI (rsI (rsI hS.1 (Wc93.2.1 4)) (Wc93.2.1 5)) (Wc93.2.1 30)) (Wc93.2.1 31)) (Wc93.2.1 32)) (Wc93.2.1 33)) (Wc93.2.1 37)) (Wc93.2.1 38)) (Wc93.2.1 39)) (Wc93.2.1 40)) (Wc93.2.1 46)) (Wc93.2.1 48)) (Wc51.2.1 4)), (rsF (rsF (rsF (rsF (rsF (rsF (rsF (rsF (rsF (rsF (rsF hS.2 (fun j => Wc93.2.2 2 j)) (fun j => Wc93.2.2 3 j)) (fun j => Wc93.2.2 28 j)) (fun j => Wc93.2.2 29 j)) (fun j => Wc93.2.2 34 j)) (fun j => Wc93.2.2 35 j)) (fun j => Wc93.2.2 36 j)) (fun j => Wc93.2.2 45 j)) (fun j => Wc93.2.2 47 j)) (hS.2 51)) (fun j => Wd62.2.2 53 j))⟩, lv_sub hl [0, 3, 4] rfl⟩
          obtain ⟨g_l4_110, Wd, hl⟩ := hi
          have Wd110 := Wd
          unfold wp_cutsOne_110 at hw
          refine lv_iload C.1 C.2.1 dX12_cutsOne_110 (lv_at hl 2 rfl) ?_
          refine lv_iload_n C.1 C.2.1 dX12_cutsOne_112 rfl (lv_at hl 1 rfl) ?_
          refine lv_icmp_ge (tgt := 136) C.1 C.2.1 dX12_cutsOne_113 (by decide) (fun c113 => ?_) (fun c113 => ?_)
          · have hw := hw.1 (z_le (Wc51.2.1 4) g_l4_110 c113)
            refine lv_iconst (v := zI 1) C.1 C.2.1 dX12_cutsOne_136 (by decide) ?_
            exact k_retMi C hr hlk (by decide) Wd (u := (row_r93, fresh_r93, many_r93, made_r93, holds_r93, outs_r93, steps_r93, ending_r93, outMany_r93, cursor_r93, keptEnd_r93, keptMany_r93, keptOut_r93, firstParting_r93, firstPlace_r93, partings_r93, anyTired_r93, bound_r93, patternAt_r93, isOut_r93, someOut_r93, whole_110, many_r51, cutRow_110)) rfl rfl ⟨⟨_, rfl, (show rng 1 from by decide), hw⟩, ⟨(rsI (rsI (rsI (rsI (rsI (rsI (rsI (rsI (rsI (rsI (rsI (rsI (rsI hS.1 (Wc93.2.1 4)) (Wc93.2.1 5)) (Wc93.2.1 30)) (Wc93.2.1 31)) (Wc93.2.1 32)) (Wc93.2.1 33)) (Wc93.2.1 37)) (Wc93.2.1 38)) (Wc93.2.1 39)) (Wc93.2.1 40)) (Wc93.2.1 46)) (Wc93.2.1 48)) (Wc51.2.1 4)), (rsF (rsF (rsF (rsF (rsF (rsF (rsF (rsF (rsF (rsF (rsF hS.2 (fun j => Wc93.2.2 2 j)) (fun j => Wc93.2.2 3 j)) (fun j => Wc93.2.2 28 j)) (fun j => Wc93.2.2 29 j)) (fun j => Wc93.2.2 34 j)) (fun j => Wc93.2.2 35 j)) (fun j => Wc93.2.2 36 j)) (fun j => Wc93.2.2 45 j)) (fun j => Wc93.2.2 47 j)) (fun j => Wd110.2.2 51 j)) (fun j => Wd110.2.2 53 j))⟩⟩ dX12_cutsOne_137
          · have hw := hw.2 (z_nle (Wc51.2.1 4) g_l4_110 c113)
            refine lv_aload_n C.1 C.2.1 dX12_cutsOne_116 rfl (lv_at hl 0 rfl) ?_
            refine k_get (v := .ref (ad 51)) C Wd.1 KX12 0 51 wM0 (by decide) fl_X12_78 rfl dX12_cutsOne_117 ?_
            refine lv_iload C.1 C.2.1 dX12_cutsOne_120 (lv_at hl 2 rfl) ?_
            refine lv_aload_n C.1 C.2.1 dX12_cutsOne_122 rfl (lv_at hl 0 rfl) ?_
            refine k_get (v := .ref (ad 53)) C Wd.1 KX12 0 53 wM0 (by decide) fl_X12_81 rfl dX12_cutsOne_123 ?_
            refine lv_iload C.1 C.2.1 dX12_cutsOne_126 (lv_at hl 2 rfl) ?_
            obtain ⟨a128, hw⟩ := hw
            refine k_ialdM (g := cutRow_110) C Wd 23 22 rfl rfl a128 (by decide) dX12_cutsOne_128 ?_
            have g128 : rng (cutRow_110 l4_110) := rngL (fun j => Wd110.2.2 53 j) a128
            obtain ⟨a129, hw⟩ := hw
            have q129 : ∀ j : Nat, rng ((uZ whole_110 l4_110 (cutRow_110 l4_110)) j) := ruZ (fun j => Wd110.2.2 51 j) g128
            refine k_iastM (g := whole_110) C Wd 21 21 (sF (sF (sF (sF (sF (sF (sF (sF (sF (sF (sF F 2 row_r93) 3 fresh_r93) 28 holds_r93) 29 outs_r93) 34 keptEnd_r93) 35 keptMany_r93) 36 keptOut_r93) 45 bound_r93) 47 isOut_r93) 51 (uZ whole_110 l4_110 (cutRow_110 l4_110))) 53 cutRow_110) rfl rfl a129 (by decide) rfl rfl (rsF (rsF (rsF (rsF (rsF (rsF (rsF (rsF (rsF (rsF (rsF hS.2 (fun j => Wc93.2.2 2 j)) (fun j => Wc93.2.2 3 j)) (fun j => Wc93.2.2 28 j)) (fun j => Wc93.2.2 29 j)) (fun j => Wc93.2.2 34 j)) (fun j => Wc93.2.2 35 j)) (fun j => Wc93.2.2 36 j)) (fun j => Wc93.2.2 45 j)) (fun j => Wc93.2.2 47 j)) q129) (fun j => Wd110.2.2 53 j)) dX12_cutsOne_129 (fun H locs Wd => ?_)
            refine lv_iinc (v := zI (l4_110 + 1)) (lv' := [(4, .int (zI (l4_110 + 1))), (0, .ref h), (3, .int (zI many_r51))]) C.1 C.2.1 dX12_cutsOne_130 hl (k := 2) rfl (zI_inc _ _ (by decide)) (by decide) rfl (fun ls hl => ?_)
            replace hl := lv_sub hl [1, 2, 0] rfl
            refine lv_goto (tgt := 110) C.1 C.2.1 dX12_cutsOne_133 (by decide) ?_
            obtain ⟨g133_0, hw⟩ := hw
            exact hL110 _ _ _ hw _ _ _ ⟨g133_0, wMc Wd rfl rfl ⟨(rsI (rsI (rsI (rsI (rsI (rsI (rsI (rsI (rsI (rsI (rsI (rsI (rsI hS.1 (Wc93.2.1 4)) (Wc93.2.1 5)) (Wc93.2.1 30)) (Wc93.2.1 31)) (Wc93.2.1 32)) (Wc93.2.1 33)) (Wc93.2.1 37)) (Wc93.2.1 38)) (Wc93.2.1 39)) (Wc93.2.1 40)) (Wc93.2.1 46)) (Wc93.2.1 48)) (Wc51.2.1 4)), (rsF (rsF (rsF (rsF (rsF (rsF (rsF (rsF (rsF (rsF (rsF hS.2 (fun j => Wc93.2.2 2 j)) (fun j => Wc93.2.2 3 j)) (fun j => Wc93.2.2 28 j)) (fun j => Wc93.2.2 29 j)) (fun j => Wc93.2.2 34 j)) (fun j => Wc93.2.2 35 j)) (fun j => Wc93.2.2 36 j)) (fun j => Wc93.2.2 45 j)) (fun j => Wc93.2.2 47 j)) q129) (fun j => Wd110.2.2 53 j))⟩, lv_sub hl [0, 1, 2] rfl⟩
        · have hw := hw.2 (z0_eq g_r93 c96)
          refine lv_goto (tgt := 138) C.1 C.2.1 dX12_cutsOne_99 (by decide) ?_
          refine lv_iinc (v := zI (l2_2 + 1)) (lv' := [(2, .int (zI (l2_2 + 1))), (0, .ref h), (1, .int (zI x0)), (3, .int (zI many_r51)), (4, .int (zI l4_62))]) C.1 C.2.1 dX12_cutsOne_138 hl (k := 2) rfl (zI_inc _ _ (by decide)) (by decide) rfl (fun ls hl => ?_)
          replace hl := lv_sub hl [1, 2, 0, 3, 4] rfl
          refine lv_goto (tgt := 2) C.1 C.2.1 dX12_cutsOne_141 (by decide) ?_
          obtain ⟨g141_0, hw⟩ := hw
          exact hL2 _ _ _ _ _ _ _ _ _ _ _ _ _ _ _ _ _ _ _ _ _ _ _ hw _ _ _ ⟨g141_0, wMc Wd rfl rfl ⟨(rsI (rsI (rsI (rsI (rsI (rsI (rsI (rsI (rsI (rsI (rsI (rsI hS.1 (Wc93.2.1 4)) (Wc93.2.1 5)) (Wc93.2.1 30)) (Wc93.2.1 31)) (Wc93.2.1 32)) (Wc93.2.1 33)) (Wc93.2.1 37)) (Wc93.2.1 38)) (Wc93.2.1 39)) (Wc93.2.1 40)) (Wc93.2.1 46)) (Wc93.2.1 48)), (rsF (rsF (rsF (rsF (rsF (rsF (rsF (rsF (rsF (rsF hS.2 (fun j => Wc93.2.2 2 j)) (fun j => Wc93.2.2 3 j)) (fun j => Wc93.2.2 28 j)) (fun j => Wc93.2.2 29 j)) (fun j => Wc93.2.2 34 j)) (fun j => Wc93.2.2 35 j)) (fun j => Wc93.2.2 36 j)) (fun j => Wc93.2.2 45 j)) (fun j => Wc93.2.2 47 j)) (fun j => Wd62.2.2 53 j))⟩, lv_sub hl [0, 1, 2] rfl⟩
      · have hw := hw.2 (z_nle (Wc51.2.1 4) g_l4_62 c68)
        refine lv_aload_n C.1 C.2.1 dX12_cutsOne_71 rfl (lv_at hl 0 rfl) ?_
        refine k_get (v := .ref (ad 53)) C Wd.1 KX12 0 53 wM0 (by decide) fl_X12_81 rfl dX12_cutsOne_72 ?_
        refine lv_iload C.1 C.2.1 dX12_cutsOne_75 (lv_at hl 4 rfl) ?_
        refine lv_aload_n C.1 C.2.1 dX12_cutsOne_77 rfl (lv_at hl 0 rfl) ?_
        refine k_get (v := .ref (ad 2)) C Wd.1 KX12 0 2 wM0 (by decide) fl_X12_16 rfl dX12_cutsOne_78 ?_
        refine lv_iload C.1 C.2.1 dX12_cutsOne_81 (lv_at hl 4 rfl) ?_
        obtain ⟨a83, hw⟩ := hw
        refine k_ialdM (g := row_r51) C Wd 3 2 rfl rfl a83 (by decide) dX12_cutsOne_83 ?_
        have g83 : rng (row_r51 l4_62) := rngL (fun j => Wc51.2.2 2 j) a83
        obtain ⟨a84, hw⟩ := hw
        have q84 : ∀ j : Nat, rng ((uZ cutRow_62 l4_62 (row_r51 l4_62)) j) := ruZ (fun j => Wd62.2.2 53 j) g83
        refine k_iastM (g := cutRow_62) C Wd 22 22 (sF (sF (sF (sF (sF (sF (sF (sF (sF (sF F 2 row_r51) 3 fresh_r47) 28 holds_2) 29 outs_2) 34 keptEnd_2) 35 keptMany_2) 36 keptOut_2) 45 bound_2) 47 (uZ isOut_r30 l2_2 1)) 53 (uZ cutRow_62 l4_62 (row_r51 l4_62))) rfl rfl a84 (by decide) rfl rfl (rsF (rsF (rsF (rsF (rsF (rsF (rsF (rsF (rsF (rsF hS.2 (fun j => Wc51.2.2 2 j)) (fun j => Wc47.2.2 3 j)) (fun j => Wd2.2.2 28 j)) (fun j => Wd2.2.2 29 j)) (fun j => Wd2.2.2 34 j)) (fun j => Wd2.2.2 35 j)) (fun j => Wd2.2.2 36 j)) (fun j => Wd2.2.2 45 j)) q39) q84) dX12_cutsOne_84 (fun H locs Wd => ?_)
        refine lv_iinc (v := zI (l4_62 + 1)) (lv' := [(4, .int (zI (l4_62 + 1))), (0, .ref h), (1, .int (zI x0)), (2, .int (zI l2_2)), (3, .int (zI many_r51))]) C.1 C.2.1 dX12_cutsOne_85 hl (k := 4) rfl (zI_inc _ _ (by decide)) (by decide) rfl (fun ls hl => ?_)
        replace hl := lv_sub hl [1, 2, 3, 4, 0] rfl
        refine lv_goto (tgt := 62) C.1 C.2.1 dX12_cutsOne_88 (by decide) ?_
        obtain ⟨g88_0, hw⟩ := hw
        exact hL62 _ _ hw _ _ _ ⟨g88_0, wMc Wd rfl rfl ⟨(rsI (rsI (rsI (rsI (rsI (rsI (rsI (rsI (rsI (rsI (rsI (rsI hS.1 (Wc51.2.1 4)) (Wc51.2.1 5)) (Wd2.2.1 30)) (Wd2.2.1 31)) (Wd2.2.1 32)) (Wd2.2.1 33)) (Wd2.2.1 37)) (Wd2.2.1 38)) (Wd2.2.1 39)) (Wd2.2.1 40)) (Wd2.2.1 46)) (Wc30.2.1 48)), (rsF (rsF (rsF (rsF (rsF (rsF (rsF (rsF (rsF (rsF hS.2 (fun j => Wc51.2.2 2 j)) (fun j => Wc47.2.2 3 j)) (fun j => Wd2.2.2 28 j)) (fun j => Wd2.2.2 29 j)) (fun j => Wd2.2.2 34 j)) (fun j => Wd2.2.2 35 j)) (fun j => Wd2.2.2 36 j)) (fun j => Wd2.2.2 45 j)) q39) q84)⟩, lv_sub hl [0, 1, 2, 3, 4] rfl⟩
    · have hw := hw.2 (z0_eq g_r16 c19)
      refine lv_goto (tgt := 138) C.1 C.2.1 dX12_cutsOne_22 (by decide) ?_
      refine lv_iinc (v := zI (l2_2 + 1)) (lv' := [(2, .int (zI (l2_2 + 1))), (0, .ref h), (1, .int (zI x0))]) C.1 C.2.1 dX12_cutsOne_138 hl (k := 2) rfl (zI_inc _ _ (by decide)) (by decide) rfl (fun ls hl => ?_)
      replace hl := lv_sub hl [1, 2, 0] rfl
      refine lv_goto (tgt := 2) C.1 C.2.1 dX12_cutsOne_141 (by decide) ?_
      obtain ⟨g141_0, hw⟩ := hw
      exact hL2 _ _ _ _ _ _ _ _ _ _ _ _ _ _ _ _ _ _ _ _ _ _ _ hw _ _ _ ⟨g141_0, wMc Wd rfl rfl ⟨(rsI (rsI (rsI (rsI (rsI (rsI (rsI (rsI (rsI (rsI (rsI (rsI hS.1 (Wd2.2.1 4)) (Wd2.2.1 5)) (Wd2.2.1 30)) (Wd2.2.1 31)) (Wd2.2.1 32)) (Wd2.2.1 33)) (Wd2.2.1 37)) (Wd2.2.1 38)) (Wd2.2.1 39)) (Wd2.2.1 40)) (Wd2.2.1 46)) (Wd2.2.1 48)), (rsF (rsF (rsF (rsF (rsF (rsF (rsF (rsF (rsF (rsF hS.2 (fun j => Wd2.2.2 2 j)) (fun j => Wd2.2.2 3 j)) (fun j => Wd2.2.2 28 j)) (fun j => Wd2.2.2 29 j)) (fun j => Wd2.2.2 34 j)) (fun j => Wd2.2.2 35 j)) (fun j => Wd2.2.2 36 j)) (fun j => Wd2.2.2 45 j)) (fun j => Wd2.2.2 47 j)) (fun j => Wd2.2.2 53 j))⟩, lv_sub hl [0, 1, 2] rfl⟩
set_option maxHeartbeats 4000000 in
set_option maxRecDepth 100000 in
theorem mt_cut : ∀ (D : va_G) (h : Nat) (ad : Nat → Nat) (ca : Nat → ClassId) (I : Nat → Int) (F : Nat → Int → Int) (hS : rngS I F) (x0 : Int) (x1 : Int) (x2 : Int) (g_x0 : rng x0) (g_x1 : rng x1) (g_x2 : rng x2) (K : Int → (Int → Int) → (Int → Int) → (Int → Int) → (Int → Int) → Int → Int → (Int → Int) → (Int → Int) → Int → Int → Int → Int → (Int → Int) → (Int → Int) → (Int → Int) → Int → Int → Int → Int → (Int → Int) → Int → (Int → Int) → Int → (Int → Int) → Int → (Int → Int) → Prop) (hw : wp_cut (F 0) (F 1) (F 2) (F 3) (I 4) (I 5) (F 24) (F 25) (F 26) (F 28) (F 29) (I 30) (I 31) (I 32) (I 33) (F 34) (F 35) (F 36) (I 37) (I 38) (I 39) (I 40) (F 45) (I 46) (F 47) (I 48) (F 49) (F 50) (F 51) (I 52) (F 53) x0 x1 x2 K) (l : Launch) (sz : Nat), Met l yX12_cut (Cond.code yX12_cut cX12_cut 5 (some .int) :: gG) { frames := 1111, cells := 0, slots := 0, locals := 25741 } (cPre D (tM ca) (wM h ad ca I F) sz [.ref h, .int (zI x0), .int (zI x1), .int (zI x2)]) (va_Qi (fun (r : Int32) (u : (Int → Int) × (Int → Int) × (Int → Int) × (Int → Int) × (Int) × (Int) × (Int → Int) × (Int → Int) × (Int) × (Int) × (Int) × (Int) × (Int → Int) × (Int → Int) × (Int → Int) × (Int) × (Int) × (Int) × (Int) × (Int → Int) × (Int) × (Int → Int) × (Int) × (Int → Int) × (Int) × (Int → Int)) => (∃ x : Int, r = zI x ∧ rng x ∧ K x u.1 u.2.1 u.2.2.1 u.2.2.2.1 u.2.2.2.2.1 u.2.2.2.2.2.1 u.2.2.2.2.2.2.1 u.2.2.2.2.2.2.2.1 u.2.2.2.2.2.2.2.2.1 u.2.2.2.2.2.2.2.2.2.1 u.2.2.2.2.2.2.2.2.2.2.1 u.2.2.2.2.2.2.2.2.2.2.2.1 u.2.2.2.2.2.2.2.2.2.2.2.2.1 u.2.2.2.2.2.2.2.2.2.2.2.2.2.1 u.2.2.2.2.2.2.2.2.2.2.2.2.2.2.1 u.2.2.2.2.2.2.2.2.2.2.2.2.2.2.2.1 u.2.2.2.2.2.2.2.2.2.2.2.2.2.2.2.2.1 u.2.2.2.2.2.2.2.2.2.2.2.2.2.2.2.2.2.1 u.2.2.2.2.2.2.2.2.2.2.2.2.2.2.2.2.2.2.1 u.2.2.2.2.2.2.2.2.2.2.2.2.2.2.2.2.2.2.2.1 u.2.2.2.2.2.2.2.2.2.2.2.2.2.2.2.2.2.2.2.2.1 u.2.2.2.2.2.2.2.2.2.2.2.2.2.2.2.2.2.2.2.2.2.1 u.2.2.2.2.2.2.2.2.2.2.2.2.2.2.2.2.2.2.2.2.2.2.1 u.2.2.2.2.2.2.2.2.2.2.2.2.2.2.2.2.2.2.2.2.2.2.2.1 u.2.2.2.2.2.2.2.2.2.2.2.2.2.2.2.2.2.2.2.2.2.2.2.2.1 u.2.2.2.2.2.2.2.2.2.2.2.2.2.2.2.2.2.2.2.2.2.2.2.2.2) ∧ rngS (sI (sI (sI (sI (sI (sI (sI (sI (sI (sI (sI (sI (sI I 4 u.2.2.2.2.1) 5 u.2.2.2.2.2.1) 30 u.2.2.2.2.2.2.2.2.1) 31 u.2.2.2.2.2.2.2.2.2.1) 32 u.2.2.2.2.2.2.2.2.2.2.1) 33 u.2.2.2.2.2.2.2.2.2.2.2.1) 37 u.2.2.2.2.2.2.2.2.2.2.2.2.2.2.2.1) 38 u.2.2.2.2.2.2.2.2.2.2.2.2.2.2.2.2.1) 39 u.2.2.2.2.2.2.2.2.2.2.2.2.2.2.2.2.2.1) 40 u.2.2.2.2.2.2.2.2.2.2.2.2.2.2.2.2.2.2.1) 46 u.2.2.2.2.2.2.2.2.2.2.2.2.2.2.2.2.2.2.2.2.1) 48 u.2.2.2.2.2.2.2.2.2.2.2.2.2.2.2.2.2.2.2.2.2.2.1) 52 u.2.2.2.2.2.2.2.2.2.2.2.2.2.2.2.2.2.2.2.2.2.2.2.2.1) (sF (sF (sF (sF (sF (sF (sF (sF (sF (sF (sF (sF (sF F 0 u.1) 1 u.2.1) 2 u.2.2.1) 3 u.2.2.2.1) 28 u.2.2.2.2.2.2.1) 29 u.2.2.2.2.2.2.2.1) 34 u.2.2.2.2.2.2.2.2.2.2.2.2.1) 35 u.2.2.2.2.2.2.2.2.2.2.2.2.2.1) 36 u.2.2.2.2.2.2.2.2.2.2.2.2.2.2.1) 45 u.2.2.2.2.2.2.2.2.2.2.2.2.2.2.2.2.2.2.2.1) 47 u.2.2.2.2.2.2.2.2.2.2.2.2.2.2.2.2.2.2.2.2.2.1) 51 u.2.2.2.2.2.2.2.2.2.2.2.2.2.2.2.2.2.2.2.2.2.2.2.1) 53 u.2.2.2.2.2.2.2.2.2.2.2.2.2.2.2.2.2.2.2.2.2.2.2.2.2)) (fun u t => cB D (va_A (wM h ad ca I F) sz) [] (wM h ad ca (sI (sI (sI (sI (sI (sI (sI (sI (sI (sI (sI (sI (sI I 4 u.2.2.2.2.1) 5 u.2.2.2.2.2.1) 30 u.2.2.2.2.2.2.2.2.1) 31 u.2.2.2.2.2.2.2.2.2.1) 32 u.2.2.2.2.2.2.2.2.2.2.1) 33 u.2.2.2.2.2.2.2.2.2.2.2.1) 37 u.2.2.2.2.2.2.2.2.2.2.2.2.2.2.2.1) 38 u.2.2.2.2.2.2.2.2.2.2.2.2.2.2.2.2.1) 39 u.2.2.2.2.2.2.2.2.2.2.2.2.2.2.2.2.2.1) 40 u.2.2.2.2.2.2.2.2.2.2.2.2.2.2.2.2.2.2.1) 46 u.2.2.2.2.2.2.2.2.2.2.2.2.2.2.2.2.2.2.2.2.1) 48 u.2.2.2.2.2.2.2.2.2.2.2.2.2.2.2.2.2.2.2.2.2.2.1) 52 u.2.2.2.2.2.2.2.2.2.2.2.2.2.2.2.2.2.2.2.2.2.2.2.2.1) (sF (sF (sF (sF (sF (sF (sF (sF (sF (sF (sF (sF (sF F 0 u.1) 1 u.2.1) 2 u.2.2.1) 3 u.2.2.2.1) 28 u.2.2.2.2.2.2.1) 29 u.2.2.2.2.2.2.2.1) 34 u.2.2.2.2.2.2.2.2.2.2.2.2.1) 35 u.2.2.2.2.2.2.2.2.2.2.2.2.2.1) 36 u.2.2.2.2.2.2.2.2.2.2.2.2.2.2.1) 45 u.2.2.2.2.2.2.2.2.2.2.2.2.2.2.2.2.2.2.2.1) 47 u.2.2.2.2.2.2.2.2.2.2.2.2.2.2.2.2.2.2.2.2.2.1) 51 u.2.2.2.2.2.2.2.2.2.2.2.2.2.2.2.2.2.2.2.2.2.2.2.1) 53 u.2.2.2.2.2.2.2.2.2.2.2.2.2.2.2.2.2.2.2.2.2.2.2.2.2)) t) (va_A (wM h ad ca I F) sz)) 0 0 (va_A (wM h ad ca I F) sz) := by
  intro D h ad ca I F hS x0 x1 x2 g_x0 g_x1 g_x2 K hw l sz
  refine Met.ofW (cc := cX12_cut) (maxL := 5) (ret := (some .int)) (by decide) rfl ?_
  intro p e s m args below meth c s₁ B hml hv
  obtain ⟨rfl, aks, rfl, Wd⟩ := k_enter hv
  have C : CallFix p m c cX12_cut 5 s _ gG RX12 := ⟨B.exec, B.bytes, hml, findClass_of_methodNamed B.named, fun w h => atoms_spec (ws := Cond.code yX12_cut cX12_cut 5 (some .int) :: gG) B.pre w (List.mem_cons_of_mem _ h)⟩
  have hr := B.returns
  have hlk := B.notSynchronized
  generalize va_A (wM h ad ca I F) s.heap.size = A at Wd ⊢
  replace Wd : wXM D ca s h ad I F s.heap A s.heap [] := ⟨Wd, hS⟩
  refine k_locals (Nat.le_of_ble_eq_true rfl) [(0, .ref h), (1, .int (zI x0)), (2, .int (zI x1)), (3, .int (zI x2))] rfl (fun ls hl => ?_)
  unfold wp_cut at hw
  refine lv_iload_n C.1 C.2.1 dX12_cut_0 rfl (lv_at hl 1 rfl) ?_
  refine k_pi (k_runS (rest := []) C aks Wd.1 cs_X12_423 (mt_isPass D x0 g_x0 _ hw l _) [] rfl (by decide) [] rfl rfl rfl ⟨(Nat.le_of_ble_eq_true rfl), (Nat.le_of_ble_eq_true rfl)⟩ hl.1 rfl rfl (Nat.le_of_ble_eq_true rfl) ⟨(Nat.le_of_ble_eq_true rfl), (Nat.le_of_ble_eq_true rfl)⟩ dX12_cut_1) (fun y1 hy => ?_)
  obtain ⟨r1, rfl, g_r1, hw⟩ := hy
  refine lv_if_eq (tgt := 21) C.1 C.2.1 dX12_cut_4 (by decide) (fun c4 => ?_) (fun c4 => ?_)
  · have hw := hw.1 (z0_eq g_r1 c4)
    refine lv_iconst (v := zI (-1)) C.1 C.2.1 dX12_cut_21 (by decide) ?_
    exact k_retMi C hr hlk rfl Wd (u := ((F 0), (F 1), (F 2), (F 3), (I 4), (I 5), (F 28), (F 29), (I 30), (I 31), (I 32), (I 33), (F 34), (F 35), (F 36), (I 37), (I 38), (I 39), (I 40), (F 45), (I 46), (F 47), (I 48), (F 51), (I 52), (F 53))) rfl rfl ⟨⟨_, rfl, (show rng (-1) from by decide), hw⟩, ⟨(rsI (rsI (rsI (rsI (rsI (rsI (rsI (rsI (rsI (rsI (rsI (rsI (rsI hS.1 (hS.1 4)) (hS.1 5)) (hS.1 30)) (hS.1 31)) (hS.1 32)) (hS.1 33)) (hS.1 37)) (hS.1 38)) (hS.1 39)) (hS.1 40)) (hS.1 46)) (hS.1 48)) (hS.1 52)), (rsF (rsF (rsF (rsF (rsF (rsF (rsF (rsF (rsF (rsF (rsF (rsF (rsF hS.2 (hS.2 0)) (hS.2 1)) (hS.2 2)) (hS.2 3)) (hS.2 28)) (hS.2 29)) (hS.2 34)) (hS.2 35)) (hS.2 36)) (hS.2 45)) (hS.2 47)) (hS.2 51)) (hS.2 53))⟩⟩ dX12_cut_22
  · have hw := hw.2 (z0_ne g_r1 c4)
    refine lv_iload_n C.1 C.2.1 dX12_cut_7 rfl (lv_at hl 2 rfl) ?_
    refine k_pi (k_runS (rest := []) C aks Wd.1 cs_X12_249 (mt_isSlot D x1 g_x1 _ hw l _) [] rfl (by decide) [] rfl rfl rfl ⟨(Nat.le_of_ble_eq_true rfl), (Nat.le_of_ble_eq_true rfl)⟩ hl.1 rfl rfl (Nat.le_of_ble_eq_true rfl) ⟨(Nat.le_of_ble_eq_true rfl), (Nat.le_of_ble_eq_true rfl)⟩ dX12_cut_8) (fun y8 hy => ?_)
    obtain ⟨r8, rfl, g_r8, hw⟩ := hy
    refine lv_if_eq (tgt := 21) C.1 C.2.1 dX12_cut_11 (by decide) (fun c11 => ?_) (fun c11 => ?_)
    · have hw := hw.1 (z0_eq g_r8 c11)
      refine lv_iconst (v := zI (-1)) C.1 C.2.1 dX12_cut_21 (by decide) ?_
      exact k_retMi C hr hlk rfl Wd (u := ((F 0), (F 1), (F 2), (F 3), (I 4), (I 5), (F 28), (F 29), (I 30), (I 31), (I 32), (I 33), (F 34), (F 35), (F 36), (I 37), (I 38), (I 39), (I 40), (F 45), (I 46), (F 47), (I 48), (F 51), (I 52), (F 53))) rfl rfl ⟨⟨_, rfl, (show rng (-1) from by decide), hw⟩, ⟨(rsI (rsI (rsI (rsI (rsI (rsI (rsI (rsI (rsI (rsI (rsI (rsI (rsI hS.1 (hS.1 4)) (hS.1 5)) (hS.1 30)) (hS.1 31)) (hS.1 32)) (hS.1 33)) (hS.1 37)) (hS.1 38)) (hS.1 39)) (hS.1 40)) (hS.1 46)) (hS.1 48)) (hS.1 52)), (rsF (rsF (rsF (rsF (rsF (rsF (rsF (rsF (rsF (rsF (rsF (rsF (rsF hS.2 (hS.2 0)) (hS.2 1)) (hS.2 2)) (hS.2 3)) (hS.2 28)) (hS.2 29)) (hS.2 34)) (hS.2 35)) (hS.2 36)) (hS.2 45)) (hS.2 47)) (hS.2 51)) (hS.2 53))⟩⟩ dX12_cut_22
    · have hw := hw.2 (z0_ne g_r8 c11)
      refine lv_iload_n C.1 C.2.1 dX12_cut_14 rfl (lv_at hl 3 rfl) ?_
      refine k_pi (k_runS (rest := []) C aks Wd.1 cs_X12_249 (mt_isSlot D x2 g_x2 _ hw l _) [] rfl (by decide) [] rfl rfl rfl ⟨(Nat.le_of_ble_eq_true rfl), (Nat.le_of_ble_eq_true rfl)⟩ hl.1 rfl rfl (Nat.le_of_ble_eq_true rfl) ⟨(Nat.le_of_ble_eq_true rfl), (Nat.le_of_ble_eq_true rfl)⟩ dX12_cut_15) (fun y15 hy => ?_)
      obtain ⟨r15, rfl, g_r15, hw⟩ := hy
      refine lv_if_ne (tgt := 23) C.1 C.2.1 dX12_cut_18 (by decide) (fun c18 => ?_) (fun c18 => ?_)
      · have hw := hw.1 (z0_ne g_r15 c18)
        refine lv_aload_n C.1 C.2.1 dX12_cut_23 rfl (lv_at hl 0 rfl) ?_
        refine lv_iload_n C.1 C.2.1 dX12_cut_24 rfl (lv_at hl 2 rfl) ?_
        refine k_cMv Wd (k_runVM (rest := []) C aks Wd cs_X12_271 (mt_takes D h ad ca I F Wd.2 x1 g_x1 _ hw l _) rfl rfl ⟨(Nat.le_of_ble_eq_true rfl), (Nat.le_of_ble_eq_true rfl)⟩ hl.1 rfl rfl (Nat.le_of_ble_eq_true rfl) ⟨(Nat.le_of_ble_eq_true rfl), (Nat.le_of_ble_eq_true rfl)⟩ dX12_cut_25) (fun u25 H locs hw Wd => ?_)
        obtain ⟨row_r25, many_r25⟩ := u25
        dsimp only at hw
        have Wc25 := Wd
        have Wd : wXM D ca s h ad (sI I 4 many_r25) (sF F 2 row_r25) H A s.heap locs := wMc Wd rfl rfl ⟨(rsI hS.1 (Wc25.2.1 4)), (rsF hS.2 (fun j => Wc25.2.2 2 j))⟩
        refine lv_aload_n C.1 C.2.1 dX12_cut_28 rfl (lv_at hl 0 rfl) ?_
        refine k_pi (k_runVM (rest := []) C aks Wd cs_X12_265 (mt_statements D h ad ca (sI I 4 many_r25) (sF F 2 row_r25) Wd.2   _ hw l _) rfl rfl ⟨(Nat.le_of_ble_eq_true rfl), (Nat.le_of_ble_eq_true rfl)⟩ hl.1 rfl rfl (Nat.le_of_ble_eq_true rfl) ⟨(Nat.le_of_ble_eq_true rfl), (Nat.le_of_ble_eq_true rfl)⟩ dX12_cut_29) (fun y29 hy => ?_)
        obtain ⟨r29, rfl, g_r29, hw⟩ := hy
        refine lv_iconst (v := zI 1) C.1 C.2.1 dX12_cut_32 (by decide) ?_
        refine lv_bipush (v := zI 12) C.1 C.2.1 dX12_cut_33 (by decide) ?_
        refine k_pi (k_runS (rest := []) C aks Wd.1 cs_X12_90 (mt_isIn D r29 1 12 g_r29 (show rng 1 from by decide) (show rng 12 from by decide) _ hw l _) [] rfl (by decide) [] rfl rfl rfl ⟨(Nat.le_of_ble_eq_true rfl), (Nat.le_of_ble_eq_true rfl)⟩ hl.1 rfl rfl (Nat.le_of_ble_eq_true rfl) ⟨(Nat.le_of_ble_eq_true rfl), (Nat.le_of_ble_eq_true rfl)⟩ dX12_cut_35) (fun y35 hy => ?_)
        obtain ⟨r35, rfl, g_r35, hw⟩ := hy
        refine lv_if_ne (tgt := 43) C.1 C.2.1 dX12_cut_38 (by decide) (fun c38 => ?_) (fun c38 => ?_)
        · have hw := hw.1 (z0_ne g_r35 c38)
          refine lv_aload_n C.1 C.2.1 dX12_cut_43 rfl (lv_at hl 0 rfl) ?_
          refine k_cMv Wd (k_runVM (rest := []) C aks Wd cs_X12_451 (mt_keepsWhole D h ad ca (sI I 4 many_r25) (sF F 2 row_r25) Wd.2   _ hw l _) rfl rfl ⟨(Nat.le_of_ble_eq_true rfl), (Nat.le_of_ble_eq_true rfl)⟩ hl.1 rfl rfl (Nat.le_of_ble_eq_true rfl) ⟨(Nat.le_of_ble_eq_true rfl), (Nat.le_of_ble_eq_true rfl)⟩ dX12_cut_44) (fun u44 H locs hw Wd => ?_)
          obtain ⟨whole_r44, wholeLong_r44⟩ := u44
          dsimp only at hw
          have Wc44 := Wd
          have Wd : wXM D ca s h ad (sI (sI I 4 many_r25) 52 wholeLong_r44) (sF (sF F 2 row_r25) 51 whole_r44) H A s.heap locs := wMc Wd rfl rfl ⟨(rsI (rsI hS.1 (Wc25.2.1 4)) (Wc44.2.1 52)), (rsF (rsF hS.2 (fun j => Wc25.2.2 2 j)) (fun j => Wc44.2.2 51 j))⟩
          refine lv_aload_n C.1 C.2.1 dX12_cut_47 rfl (lv_at hl 0 rfl) ?_
          refine lv_iload_n C.1 C.2.1 dX12_cut_48 rfl (lv_at hl 1 rfl) ?_
          refine k_cMi Wd (k_runVM (rest := []) C aks Wd cs_X12_448 (mt_isWrong D h ad ca (sI (sI I 4 many_r25) 52 wholeLong_r44) (sF (sF F 2 row_r25) 51 whole_r44) Wd.2 x0 g_x0 _ hw l _) rfl rfl ⟨(Nat.le_of_ble_eq_true rfl), (Nat.le_of_ble_eq_true rfl)⟩ hl.1 rfl rfl (Nat.le_of_ble_eq_true rfl) ⟨(Nat.le_of_ble_eq_true rfl), (Nat.le_of_ble_eq_true rfl)⟩ dX12_cut_49) (fun r49 u49 H locs g_r49 hw Wd => ?_)
          obtain ⟨row_r49, fresh_r49, many_r49, made_r49, holds_r49, outs_r49, steps_r49, ending_r49, outMany_r49, cursor_r49, keptEnd_r49, keptMany_r49, keptOut_r49, firstParting_r49, firstPlace_r49, partings_r49, anyTired_r49, bound_r49, patternAt_r49, isOut_r49, someOut_r49⟩ := u49
          dsimp only at hw
          have Wc49 := Wd
          have Wd : wXM D ca s h ad (sI (sI (sI (sI (sI (sI (sI (sI (sI (sI (sI (sI (sI I 4 many_r49) 5 made_r49) 30 steps_r49) 31 ending_r49) 32 outMany_r49) 33 cursor_r49) 37 firstParting_r49) 38 firstPlace_r49) 39 partings_r49) 40 anyTired_r49) 46 patternAt_r49) 48 someOut_r49) 52 wholeLong_r44) (sF (sF (sF (sF (sF (sF (sF (sF (sF (sF F 2 row_r49) 3 fresh_r49) 28 holds_r49) 29 outs_r49) 34 keptEnd_r49) 35 keptMany_r49) 36 keptOut_r49) 45 bound_r49) 47 isOut_r49) 51 whole_r44) H A s.heap locs := wMc Wd rfl rfl ⟨(rsI (rsI (rsI (rsI (rsI (rsI (rsI (rsI (rsI (rsI (rsI (rsI (rsI hS.1 (Wc49.2.1 4)) (Wc49.2.1 5)) (Wc49.2.1 30)) (Wc49.2.1 31)) (Wc49.2.1 32)) (Wc49.2.1 33)) (Wc49.2.1 37)) (Wc49.2.1 38)) (Wc49.2.1 39)) (Wc49.2.1 40)) (Wc49.2.1 46)) (Wc49.2.1 48)) (Wc44.2.1 52)), (rsF (rsF (rsF (rsF (rsF (rsF (rsF (rsF (rsF (rsF hS.2 (fun j => Wc49.2.2 2 j)) (fun j => Wc49.2.2 3 j)) (fun j => Wc49.2.2 28 j)) (fun j => Wc49.2.2 29 j)) (fun j => Wc49.2.2 34 j)) (fun j => Wc49.2.2 35 j)) (fun j => Wc49.2.2 36 j)) (fun j => Wc49.2.2 45 j)) (fun j => Wc49.2.2 47 j)) (fun j => Wc44.2.2 51 j))⟩
          refine lv_if_ne (tgt := 57) C.1 C.2.1 dX12_cut_52 (by decide) (fun c52 => ?_) (fun c52 => ?_)
          · have hw := hw.1 (z0_ne g_r49 c52)
            refine lv_iconst (v := zI 1) C.1 C.2.1 dX12_cut_57 (by decide) ?_
            refine lv_istore (lv' := [(4, .int (zI 1)), (0, .ref h), (1, .int (zI x0)), (2, .int (zI x1)), (3, .int (zI x2))]) C.1 C.2.1 dX12_cut_58 hl (by decide) rfl (fun ls hl => ?_)
            replace hl := lv_sub hl [1, 2, 3, 4, 0] rfl
            refine k_lp25 hw (fun (l4_60 : Int) (row_60 : Int → Int) (fresh_60 : Int → Int) (many_60 : Int) (made_60 : Int) (holds_60 : Int → Int) (outs_60 : Int → Int) (steps_60 : Int) (ending_60 : Int) (outMany_60 : Int) (cursor_60 : Int) (keptEnd_60 : Int → Int) (keptMany_60 : Int → Int) (keptOut_60 : Int → Int) (firstParting_60 : Int) (firstPlace_60 : Int) (partings_60 : Int) (anyTired_60 : Int) (bound_60 : Int → Int) (patternAt_60 : Int) (isOut_60 : Int → Int) (someOut_60 : Int) (whole_60 : Int → Int) (wholeLong_60 : Int) (cutRow_60 : Int → Int) H locs ls => rng l4_60 ∧ wXM D ca s h ad (sI (sI (sI (sI (sI (sI (sI (sI (sI (sI (sI (sI (sI I 4 many_60) 5 made_60) 30 steps_60) 31 ending_60) 32 outMany_60) 33 cursor_60) 37 firstParting_60) 38 firstPlace_60) 39 partings_60) 40 anyTired_60) 46 patternAt_60) 48 someOut_60) 52 wholeLong_60) (sF (sF (sF (sF (sF (sF (sF (sF (sF (sF (sF F 2 row_60) 3 fresh_60) 28 holds_60) 29 outs_60) 34 keptEnd_60) 35 keptMany_60) 36 keptOut_60) 45 bound_60) 47 isOut_60) 51 whole_60) 53 cutRow_60) H A s.heap locs ∧ lv_has ls 5 [(0, .ref h), (1, .int (zI x0)), (3, .int (zI x2)), (4, .int (zI l4_60))]) (fun (l4_60 : Int) (row_60 : Int → Int) (fresh_60 : Int → Int) (many_60 : Int) (made_60 : Int) (holds_60 : Int → Int) (outs_60 : Int → Int) (steps_60 : Int) (ending_60 : Int) (outMany_60 : Int) (cursor_60 : Int) (keptEnd_60 : Int → Int) (keptMany_60 : Int → Int) (keptOut_60 : Int → Int) (firstParting_60 : Int) (firstPlace_60 : Int) (partings_60 : Int) (anyTired_60 : Int) (bound_60 : Int → Int) (patternAt_60 : Int) (isOut_60 : Int → Int) (someOut_60 : Int) (whole_60 : Int → Int) (wholeLong_60 : Int) (cutRow_60 : Int → Int) ls => F0 m 60 ls []) (fun L60 hL60 l4_60 row_60 fresh_60 many_60 made_60 holds_60 outs_60 steps_60 ending_60 outMany_60 cursor_60 keptEnd_60 keptMany_60 keptOut_60 firstParting_60 firstPlace_60 partings_60 anyTired_60 bound_60 patternAt_60 isOut_60 someOut_60 whole_60 wholeLong_60 cutRow_60 hw H locs ls hi => ?_) _ _ _ ⟨(show rng 1 from by decide), wMc Wd rfl rfl ⟨(rsI (rsI (rsI (rsI (rsI (rsI (rsI (rsI (rsI (rsI (rsI (rsI (rsI hS.1 (Wc49.2.1 4)) (Wc49.2.1 5)) (Wc49.2.1 30)) (Wc49.2.1 31)) (Wc49.2.1 32)) (Wc49.2.1 33)) (Wc49.2.1 37)) (Wc49.2.1 38)) (Wc49.2.1 39)) (Wc49.2.1 40)) (Wc49.2.1 46)) (Wc49.2.1 48)) (Wc44.2.1 52)), (rsF (rsF (rsF (rsF (rsF (rsF (rsF (rsF (rsF (rsF (rsF hS.2 (fun j => Wc49.2.2 2 j)) (fun j => Wc49.2.2 3 j)) (fun j => Wc49.2.2 28 j)) (fun j => Wc49.2.2 29 j)) (fun j => Wc49.2.2 34 j)) (fun j => Wc49.2.2 35 j)) (fun j => Wc49.2.2 36 j)) (fun j => Wc49.2.2 45 j)) (fun j => Wc49.2.2 47 j)) (fun j => Wc44.2.2 51 j)) (hS.2 53))⟩, lv_sub hl [0, 1, 3, 4] rfl⟩
            obtain ⟨g_l4_60, Wd, hl⟩ := hi
            have Wd60 := Wd
            unfold wp_cut_60 at hw
            refine lv_iload C.1 C.2.1 dX12_cut_60 (lv_at hl 3 rfl) ?_
            refine lv_if_eq (tgt := 75) C.1 C.2.1 dX12_cut_62 (by decide) (fun c62 => ?_) (fun c62 => ?_)
            · have hw := hw.1 (z0_eq g_l4_60 c62)
              refine lv_aload_n C.1 C.2.1 dX12_cut_75 rfl (lv_at hl 0 rfl) ?_
              refine k_cMv Wd (k_runVM (rest := []) C aks Wd cs_X12_445 (mt_takesWhole D h ad ca (sI (sI (sI (sI (sI (sI (sI (sI (sI (sI (sI (sI (sI I 4 many_60) 5 made_60) 30 steps_60) 31 ending_60) 32 outMany_60) 33 cursor_60) 37 firstParting_60) 38 firstPlace_60) 39 partings_60) 40 anyTired_60) 46 patternAt_60) 48 someOut_60) 52 wholeLong_60) (sF (sF (sF (sF (sF (sF (sF (sF (sF (sF (sF F 2 row_60) 3 fresh_60) 28 holds_60) 29 outs_60) 34 keptEnd_60) 35 keptMany_60) 36 keptOut_60) 45 bound_60) 47 isOut_60) 51 whole_60) 53 cutRow_60) Wd.2   _ hw l _) rfl rfl ⟨(Nat.le_of_ble_eq_true rfl), (Nat.le_of_ble_eq_true rfl)⟩ hl.1 rfl rfl (Nat.le_of_ble_eq_true rfl) ⟨(Nat.le_of_ble_eq_true rfl), (Nat.le_of_ble_eq_true rfl)⟩ dX12_cut_76) (fun u76 H locs hw Wd => ?_)
              obtain ⟨row_r76, many_r76⟩ := u76
              dsimp only at hw
              have Wc76 := Wd
              have Wd : wXM D ca s h ad (sI (sI (sI (sI (sI (sI (sI (sI (sI (sI (sI (sI (sI I 4 many_r76) 5 made_60) 30 steps_60) 31 ending_60) 32 outMany_60) 33 cursor_60) 37 firstParting_60) 38 firstPlace_60) 39 partings_60) 40 anyTired_60) 46 patternAt_60) 48 someOut_60) 52 wholeLong_60) (sF (sF (sF (sF (sF (sF (sF (sF (sF (sF (sF F 2 row_r76) 3 fresh_60) 28 holds_60) 29 outs_60) 34 keptEnd_60) 35 keptMany_60) 36 keptOut_60) 45 bound_60) 47 isOut_60) 51 whole_60) 53 cutRow_60) H A s.heap locs := wMc Wd rfl rfl ⟨(rsI (rsI (rsI (rsI (rsI (rsI (rsI (rsI (rsI (rsI (rsI (rsI (rsI hS.1 (Wc76.2.1 4)) (Wd60.2.1 5)) (Wd60.2.1 30)) (Wd60.2.1 31)) (Wd60.2.1 32)) (Wd60.2.1 33)) (Wd60.2.1 37)) (Wd60.2.1 38)) (Wd60.2.1 39)) (Wd60.2.1 40)) (Wd60.2.1 46)) (Wd60.2.1 48)) (Wd60.2.1 52)), (rsF (rsF (rsF (rsF (rsF (rsF (rsF (rsF (rsF (rsF (rsF hS.2 (fun j => Wc76.2.2 2 j)) (fun j => Wd60.2.2 3 j)) (fun j => Wd60.2.2 28 j)) (fun j => Wd60.2.2 29 j)) (fun j => Wd60.2.2 34 j)) (fun j => Wd60.2.2 35 j)) (fun j => Wd60.2.2 36 j)) (fun j => Wd60.2.2 45 j)) (fun j => Wd60.2.2 47 j)) (fun j => Wd60.2.2 51 j)) (fun j => Wd60.2.2 53 j))⟩
              refine lv_aload_n C.1 C.2.1 dX12_cut_79 rfl (lv_at hl 0 rfl) ?_
              refine lv_iload_n C.1 C.2.1 dX12_cut_80 rfl (lv_at hl 2 rfl) ?_
              refine k_cMv Wd (k_runVM (rest := []) C aks Wd cs_X12_262 (mt_puts D h ad ca (sI (sI (sI (sI (sI (sI (sI (sI (sI (sI (sI (sI (sI I 4 many_r76) 5 made_60) 30 steps_60) 31 ending_60) 32 outMany_60) 33 cursor_60) 37 firstParting_60) 38 firstPlace_60) 39 partings_60) 40 anyTired_60) 46 patternAt_60) 48 someOut_60) 52 wholeLong_60) (sF (sF (sF (sF (sF (sF (sF (sF (sF (sF (sF F 2 row_r76) 3 fresh_60) 28 holds_60) 29 outs_60) 34 keptEnd_60) 35 keptMany_60) 36 keptOut_60) 45 bound_60) 47 isOut_60) 51 whole_60) 53 cutRow_60) Wd.2 x2 g_x2 _ hw l _) rfl rfl ⟨(Nat.le_of_ble_eq_true rfl), (Nat.le_of_ble_eq_true rfl)⟩ hl.1 rfl rfl (Nat.le_of_ble_eq_true rfl) ⟨(Nat.le_of_ble_eq_true rfl), (Nat.le_of_ble_eq_true rfl)⟩ dX12_cut_81) (fun u81 H locs hw Wd => ?_)
              obtain ⟨slot_r81, slotLong_r81⟩ := u81
              dsimp only at hw
              have Wc81 := Wd
              have Wd : wXM D ca s h ad (sI (sI (sI (sI (sI (sI (sI (sI (sI (sI (sI (sI (sI I 4 many_r76) 5 made_60) 30 steps_60) 31 ending_60) 32 outMany_60) 33 cursor_60) 37 firstParting_60) 38 firstPlace_60) 39 partings_60) 40 anyTired_60) 46 patternAt_60) 48 someOut_60) 52 wholeLong_60) (sF (sF (sF (sF (sF (sF (sF (sF (sF (sF (sF (sF (sF F 0 slot_r81) 1 slotLong_r81) 2 row_r76) 3 fresh_60) 28 holds_60) 29 outs_60) 34 keptEnd_60) 35 keptMany_60) 36 keptOut_60) 45 bound_60) 47 isOut_60) 51 whole_60) 53 cutRow_60) H A s.heap locs := wMc Wd rfl rfl ⟨(rsI (rsI (rsI (rsI (rsI (rsI (rsI (rsI (rsI (rsI (rsI (rsI (rsI hS.1 (Wc76.2.1 4)) (Wd60.2.1 5)) (Wd60.2.1 30)) (Wd60.2.1 31)) (Wd60.2.1 32)) (Wd60.2.1 33)) (Wd60.2.1 37)) (Wd60.2.1 38)) (Wd60.2.1 39)) (Wd60.2.1 40)) (Wd60.2.1 46)) (Wd60.2.1 48)) (Wd60.2.1 52)), (rsF (rsF (rsF (rsF (rsF (rsF (rsF (rsF (rsF (rsF (rsF (rsF (rsF hS.2 (fun j => Wc81.2.2 0 j)) (fun j => Wc81.2.2 1 j)) (fun j => Wc76.2.2 2 j)) (fun j => Wd60.2.2 3 j)) (fun j => Wd60.2.2 28 j)) (fun j => Wd60.2.2 29 j)) (fun j => Wd60.2.2 34 j)) (fun j => Wd60.2.2 35 j)) (fun j => Wd60.2.2 36 j)) (fun j => Wd60.2.2 45 j)) (fun j => Wd60.2.2 47 j)) (fun j => Wd60.2.2 51 j)) (fun j => Wd60.2.2 53 j))⟩
              refine lv_aload_n C.1 C.2.1 dX12_cut_84 rfl (lv_at hl 0 rfl) ?_
              refine k_pi (k_runVM (rest := []) C aks Wd cs_X12_265 (mt_statements D h ad ca (sI (sI (sI (sI (sI (sI (sI (sI (sI (sI (sI (sI (sI I 4 many_r76) 5 made_60) 30 steps_60) 31 ending_60) 32 outMany_60) 33 cursor_60) 37 firstParting_60) 38 firstPlace_60) 39 partings_60) 40 anyTired_60) 46 patternAt_60) 48 someOut_60) 52 wholeLong_60) (sF (sF (sF (sF (sF (sF (sF (sF (sF (sF (sF (sF (sF F 0 slot_r81) 1 slotLong_r81) 2 row_r76) 3 fresh_60) 28 holds_60) 29 outs_60) 34 keptEnd_60) 35 keptMany_60) 36 keptOut_60) 45 bound_60) 47 isOut_60) 51 whole_60) 53 cutRow_60) Wd.2   _ hw l _) rfl rfl ⟨(Nat.le_of_ble_eq_true rfl), (Nat.le_of_ble_eq_true rfl)⟩ hl.1 rfl rfl (Nat.le_of_ble_eq_true rfl) ⟨(Nat.le_of_ble_eq_true rfl), (Nat.le_of_ble_eq_true rfl)⟩ dX12_cut_85) (fun y85 hy => ?_)
              obtain ⟨r85, rfl, g_r85, hw⟩ := hy
              exact k_retMi C hr hlk rfl Wd (u := (slot_r81, slotLong_r81, row_r76, fresh_60, many_r76, made_60, holds_60, outs_60, steps_60, ending_60, outMany_60, cursor_60, keptEnd_60, keptMany_60, keptOut_60, firstParting_60, firstPlace_60, partings_60, anyTired_60, bound_60, patternAt_60, isOut_60, someOut_60, whole_60, wholeLong_60, cutRow_60)) rfl rfl ⟨⟨_, rfl, g_r85, hw⟩, ⟨(rsI (rsI (rsI (rsI (rsI (rsI (rsI (rsI (rsI (rsI (rsI (rsI (rsI hS.1 (Wc76.2.1 4)) (Wd60.2.1 5)) (Wd60.2.1 30)) (Wd60.2.1 31)) (Wd60.2.1 32)) (Wd60.2.1 33)) (Wd60.2.1 37)) (Wd60.2.1 38)) (Wd60.2.1 39)) (Wd60.2.1 40)) (Wd60.2.1 46)) (Wd60.2.1 48)) (Wd60.2.1 52)), (rsF (rsF (rsF (rsF (rsF (rsF (rsF (rsF (rsF (rsF (rsF (rsF (rsF hS.2 (fun j => Wc81.2.2 0 j)) (fun j => Wc81.2.2 1 j)) (fun j => Wc76.2.2 2 j)) (fun j => Wd60.2.2 3 j)) (fun j => Wd60.2.2 28 j)) (fun j => Wd60.2.2 29 j)) (fun j => Wd60.2.2 34 j)) (fun j => Wd60.2.2 35 j)) (fun j => Wd60.2.2 36 j)) (fun j => Wd60.2.2 45 j)) (fun j => Wd60.2.2 47 j)) (fun j => Wd60.2.2 51 j)) (fun j => Wd60.2.2 53 j))⟩⟩ dX12_cut_88
            · have hw := hw.2 (z0_ne g_l4_60 c62)
              refine lv_aload_n C.1 C.2.1 dX12_cut_65 rfl (lv_at hl 0 rfl) ?_
              refine lv_iload_n C.1 C.2.1 dX12_cut_66 rfl (lv_at hl 1 rfl) ?_
              refine k_cMi Wd (k_runVM (rest := []) C aks Wd cs_X12_454 (mt_cutsOne D h ad ca (sI (sI (sI (sI (sI (sI (sI (sI (sI (sI (sI (sI (sI I 4 many_60) 5 made_60) 30 steps_60) 31 ending_60) 32 outMany_60) 33 cursor_60) 37 firstParting_60) 38 firstPlace_60) 39 partings_60) 40 anyTired_60) 46 patternAt_60) 48 someOut_60) 52 wholeLong_60) (sF (sF (sF (sF (sF (sF (sF (sF (sF (sF (sF F 2 row_60) 3 fresh_60) 28 holds_60) 29 outs_60) 34 keptEnd_60) 35 keptMany_60) 36 keptOut_60) 45 bound_60) 47 isOut_60) 51 whole_60) 53 cutRow_60) Wd.2 x0 g_x0 _ hw l _) rfl rfl ⟨(Nat.le_of_ble_eq_true rfl), (Nat.le_of_ble_eq_true rfl)⟩ hl.1 rfl rfl (Nat.le_of_ble_eq_true rfl) ⟨(Nat.le_of_ble_eq_true rfl), (Nat.le_of_ble_eq_true rfl)⟩ dX12_cut_67) (fun r67 u67 H locs g_r67 hw Wd => ?_)
              obtain ⟨row_r67, fresh_r67, many_r67, made_r67, holds_r67, outs_r67, steps_r67, ending_r67, outMany_r67, cursor_r67, keptEnd_r67, keptMany_r67, keptOut_r67, firstParting_r67, firstPlace_r67, partings_r67, anyTired_r67, bound_r67, patternAt_r67, isOut_r67, someOut_r67, whole_r67, wholeLong_r67, cutRow_r67⟩ := u67
              dsimp only at hw
              have Wc67 := Wd
              have Wd : wXM D ca s h ad (sI (sI (sI (sI (sI (sI (sI (sI (sI (sI (sI (sI (sI I 4 many_r67) 5 made_r67) 30 steps_r67) 31 ending_r67) 32 outMany_r67) 33 cursor_r67) 37 firstParting_r67) 38 firstPlace_r67) 39 partings_r67) 40 anyTired_r67) 46 patternAt_r67) 48 someOut_r67) 52 wholeLong_r67) (sF (sF (sF (sF (sF (sF (sF (sF (sF (sF (sF F 2 row_r67) 3 fresh_r67) 28 holds_r67) 29 outs_r67) 34 keptEnd_r67) 35 keptMany_r67) 36 keptOut_r67) 45 bound_r67) 47 isOut_r67) 51 whole_r67) 53 cutRow_r67) H A s.heap locs := wMc Wd rfl rfl ⟨(rsI (rsI (rsI (rsI (rsI (rsI (rsI (rsI (rsI (rsI (rsI (rsI (rsI hS.1 (Wc67.2.1 4)) (Wc67.2.1 5)) (Wc67.2.1 30)) (Wc67.2.1 31)) (Wc67.2.1 32)) (Wc67.2.1 33)) (Wc67.2.1 37)) (Wc67.2.1 38)) (Wc67.2.1 39)) (Wc67.2.1 40)) (Wc67.2.1 46)) (Wc67.2.1 48)) (Wc67.2.1 52)), (rsF (rsF (rsF (rsF (rsF (rsF (rsF (rsF (rsF (rsF (rsF hS.2 (fun j => Wc67.2.2 2 j)) (fun j => Wc67.2.2 3 j)) (fun j => Wc67.2.2 28 j)) (fun j => Wc67.2.2 29 j)) (fun j => Wc67.2.2 34 j)) (fun j => Wc67.2.2 35 j)) (fun j => Wc67.2.2 36 j)) (fun j => Wc67.2.2 45 j)) (fun j => Wc67.2.2 47 j)) (fun j => Wc67.2.2 51 j)) (fun j => Wc67.2.2 53 j))⟩
              refine lv_istore (lv' := [(4, .int (zI r67)), (0, .ref h), (1, .int (zI x0)), (3, .int (zI x2))]) C.1 C.2.1 dX12_cut_70 hl (by decide) rfl (fun ls hl => ?_)
              replace hl := lv_sub hl [1, 2, 3, 0] rfl
              refine lv_goto (tgt := 60) C.1 C.2.1 dX12_cut_72 (by decide) ?_
              exact hL60 _ _ _ _ _ _ _ _ _ _ _ _ _ _ _ _ _ _ _ _ _ _ _ _ _ hw _ _ _ ⟨g_r67, wMc Wd rfl rfl ⟨(rsI (rsI (rsI (rsI (rsI (rsI (rsI (rsI (rsI (rsI (rsI (rsI (rsI hS.1 (Wc67.2.1 4)) (Wc67.2.1 5)) (Wc67.2.1 30)) (Wc67.2.1 31)) (Wc67.2.1 32)) (Wc67.2.1 33)) (Wc67.2.1 37)) (Wc67.2.1 38)) (Wc67.2.1 39)) (Wc67.2.1 40)) (Wc67.2.1 46)) (Wc67.2.1 48)) (Wc67.2.1 52)), (rsF (rsF (rsF (rsF (rsF (rsF (rsF (rsF (rsF (rsF (rsF hS.2 (fun j => Wc67.2.2 2 j)) (fun j => Wc67.2.2 3 j)) (fun j => Wc67.2.2 28 j)) (fun j => Wc67.2.2 29 j)) (fun j => Wc67.2.2 34 j)) (fun j => Wc67.2.2 35 j)) (fun j => Wc67.2.2 36 j)) (fun j => Wc67.2.2 45 j)) (fun j => Wc67.2.2 47 j)) (fun j => Wc67.2.2 51 j)) (fun j => Wc67.2.2 53 j))⟩, lv_sub hl [0, 1, 2, 3] rfl⟩
          · have hw := hw.2 (z0_eq g_r49 c52)
            refine lv_iconst (v := zI (-1)) C.1 C.2.1 dX12_cut_55 (by decide) ?_
            exact k_retMi C hr hlk rfl Wd (u := ((F 0), (F 1), row_r49, fresh_r49, many_r49, made_r49, holds_r49, outs_r49, steps_r49, ending_r49, outMany_r49, cursor_r49, keptEnd_r49, keptMany_r49, keptOut_r49, firstParting_r49, firstPlace_r49, partings_r49, anyTired_r49, bound_r49, patternAt_r49, isOut_r49, someOut_r49, whole_r44, wholeLong_r44, (F 53))) rfl rfl ⟨⟨_, rfl, (show rng (-1) from by decide), hw⟩, ⟨(rsI (rsI (rsI (rsI (rsI (rsI (rsI (rsI (rsI (rsI (rsI (rsI (rsI hS.1 (Wc49.2.1 4)) (Wc49.2.1 5)) (Wc49.2.1 30)) (Wc49.2.1 31)) (Wc49.2.1 32)) (Wc49.2.1 33)) (Wc49.2.1 37)) (Wc49.2.1 38)) (Wc49.2.1 39)) (Wc49.2.1 40)) (Wc49.2.1 46)) (Wc49.2.1 48)) (Wc44.2.1 52)), (rsF (rsF (rsF (rsF (rsF (rsF (rsF (rsF (rsF (rsF (rsF (rsF (rsF hS.2 (hS.2 0)) (hS.2 1)) (fun j => Wc49.2.2 2 j)) (fun j => Wc49.2.2 3 j)) (fun j => Wc49.2.2 28 j)) (fun j => Wc49.2.2 29 j)) (fun j => Wc49.2.2 34 j)) (fun j => Wc49.2.2 35 j)) (fun j => Wc49.2.2 36 j)) (fun j => Wc49.2.2 45 j)) (fun j => Wc49.2.2 47 j)) (fun j => Wc44.2.2 51 j)) (hS.2 53))⟩⟩ dX12_cut_56
        · have hw := hw.2 (z0_eq g_r35 c38)
          refine lv_iconst (v := zI (-1)) C.1 C.2.1 dX12_cut_41 (by decide) ?_
          exact k_retMi C hr hlk rfl Wd (u := ((F 0), (F 1), row_r25, (F 3), many_r25, (I 5), (F 28), (F 29), (I 30), (I 31), (I 32), (I 33), (F 34), (F 35), (F 36), (I 37), (I 38), (I 39), (I 40), (F 45), (I 46), (F 47), (I 48), (F 51), (I 52), (F 53))) rfl rfl ⟨⟨_, rfl, (show rng (-1) from by decide), hw⟩, ⟨(rsI (rsI (rsI (rsI (rsI (rsI (rsI (rsI (rsI (rsI (rsI (rsI (rsI hS.1 (Wc25.2.1 4)) (hS.1 5)) (hS.1 30)) (hS.1 31)) (hS.1 32)) (hS.1 33)) (hS.1 37)) (hS.1 38)) (hS.1 39)) (hS.1 40)) (hS.1 46)) (hS.1 48)) (hS.1 52)), (rsF (rsF (rsF (rsF (rsF (rsF (rsF (rsF (rsF (rsF (rsF (rsF (rsF hS.2 (hS.2 0)) (hS.2 1)) (fun j => Wc25.2.2 2 j)) (hS.2 3)) (hS.2 28)) (hS.2 29)) (hS.2 34)) (hS.2 35)) (hS.2 36)) (hS.2 45)) (hS.2 47)) (hS.2 51)) (hS.2 53))⟩⟩ dX12_cut_42
      · have hw := hw.2 (z0_eq g_r15 c18)
        refine lv_iconst (v := zI (-1)) C.1 C.2.1 dX12_cut_21 (by decide) ?_
        exact k_retMi C hr hlk rfl Wd (u := ((F 0), (F 1), (F 2), (F 3), (I 4), (I 5), (F 28), (F 29), (I 30), (I 31), (I 32), (I 33), (F 34), (F 35), (F 36), (I 37), (I 38), (I 39), (I 40), (F 45), (I 46), (F 47), (I 48), (F 51), (I 52), (F 53))) rfl rfl ⟨⟨_, rfl, (show rng (-1) from by decide), hw⟩, ⟨(rsI (rsI (rsI (rsI (rsI (rsI (rsI (rsI (rsI (rsI (rsI (rsI (rsI hS.1 (hS.1 4)) (hS.1 5)) (hS.1 30)) (hS.1 31)) (hS.1 32)) (hS.1 33)) (hS.1 37)) (hS.1 38)) (hS.1 39)) (hS.1 40)) (hS.1 46)) (hS.1 48)) (hS.1 52)), (rsF (rsF (rsF (rsF (rsF (rsF (rsF (rsF (rsF (rsF (rsF (rsF (rsF hS.2 (hS.2 0)) (hS.2 1)) (hS.2 2)) (hS.2 3)) (hS.2 28)) (hS.2 29)) (hS.2 34)) (hS.2 35)) (hS.2 36)) (hS.2 45)) (hS.2 47)) (hS.2 51)) (hS.2 53))⟩⟩ dX12_cut_22
