set_option maxHeartbeats 4000000 in
set_option maxRecDepth 100000 in
theorem mt_sameForms : ∀ (D : va_G) (h : Nat) (ad : Nat → Nat) (ca : Nat → ClassId) (I : Nat → Int) (F : Nat → Int → Int) (hS : rngS I F) (x0 : Int) (g_x0 : rng x0) (K : Int → Int → (Int → Int) → Int → (Int → Int) → Prop) (hw : wp_sameForms (F 24) (I 33) (F 42) (I 43) (F 44) x0 K) (l : Launch) (sz : Nat), Met l yX12_sameForms (Cond.code yX12_sameForms cX12_sameForms 3 (some .int) :: gG) { frames := 104, cells := 0, slots := 0, locals := 2553 } (cPre D (tM ca) (wM h ad ca I F) sz [.ref h, .int (zI x0)]) (va_Qi (fun (r : Int32) (u : (Int) × (Int → Int) × (Int) × (Int → Int)) => (∃ x : Int, r = zI x ∧ rng x ∧ K x u.1 u.2.1 u.2.2.1 u.2.2.2) ∧ rngS (sI (sI I 33 u.1) 43 u.2.2.1) (sF (sF F 42 u.2.1) 44 u.2.2.2)) (fun u t => cB D (va_A (wM h ad ca I F) sz) [] (wM h ad ca (sI (sI I 33 u.1) 43 u.2.2.1) (sF (sF F 42 u.2.1) 44 u.2.2.2)) t) (va_A (wM h ad ca I F) sz)) 0 0 (va_A (wM h ad ca I F) sz) := by
  intro D h ad ca I F hS x0 g_x0 K hw l sz
  refine Met.ofW (cc := cX12_sameForms) (maxL := 3) (ret := (some .int)) (by decide) rfl ?_
  intro p e s m args below meth c s₁ B hml hv
  obtain ⟨rfl, aks, rfl, Wd⟩ := k_enter hv
  have C : CallFix p m c cX12_sameForms 3 s _ gG RX12 := ⟨B.exec, B.bytes, hml, findClass_of_methodNamed B.named, fun w h => atoms_spec (ws := Cond.code yX12_sameForms cX12_sameForms 3 (some .int) :: gG) B.pre w (List.mem_cons_of_mem _ h)⟩
  have hr := B.returns
  have hlk := B.notSynchronized
  generalize va_A (wM h ad ca I F) s.heap.size = A at Wd ⊢
  replace Wd : wXM D ca s h ad I F s.heap A s.heap [] := ⟨Wd, hS⟩
  refine k_locals (Nat.le_of_ble_eq_true rfl) [(0, .ref h), (1, .int (zI x0))] rfl (fun ls hl => ?_)
  unfold wp_sameForms at hw
  refine lv_aload_n C.1 C.2.1 dX12_sameForms_0 rfl (lv_at hl 0 rfl) ?_
  refine lv_iconst (v := zI 1) C.1 C.2.1 dX12_sameForms_1 (by decide) ?_
  refine k_putM C Wd 43 (sI I 43 1) (by decide) fl_X12_345 rfl (by decide) (by decide) rfl (rsI hS.1 (show rng 1 from by decide)) dX12_sameForms_2 (fun H locs Wd => ?_)
  refine lv_aload_n C.1 C.2.1 dX12_sameForms_5 rfl (lv_at hl 0 rfl) ?_
  refine lv_iconst (v := zI 0) C.1 C.2.1 dX12_sameForms_6 (by decide) ?_
  refine k_putM C Wd 33 (sI (sI I 33 0) 43 1) (by decide) fl_X12_281 rfl rfl rfl rfl (rsI (rsI hS.1 (show rng 0 from by decide)) (show rng 1 from by decide)) dX12_sameForms_7 (fun H locs Wd => ?_)
  refine lv_aload_n C.1 C.2.1 dX12_sameForms_10 rfl (lv_at hl 0 rfl) ?_
  refine lv_iload_n C.1 C.2.1 dX12_sameForms_11 rfl (lv_at hl 1 rfl) ?_
  refine lv_iconst (v := zI 0) C.1 C.2.1 dX12_sameForms_12 (by decide) ?_
  refine k_cMv Wd (k_runVM (rest := []) C aks Wd cs_X12_339 (mt_forms D h ad ca (sI (sI I 33 0) 43 1) F Wd.2 x0 0 g_x0 (show rng 0 from by decide) _ hw l _) rfl rfl ⟨(Nat.le_of_ble_eq_true rfl), (Nat.le_of_ble_eq_true rfl)⟩ hl.1 rfl rfl (Nat.le_of_ble_eq_true rfl) ⟨(Nat.le_of_ble_eq_true rfl), (Nat.le_of_ble_eq_true rfl)⟩ dX12_sameForms_13) (fun u13 H locs hw Wd => ?_)
  obtain ⟨cursor_r13, form_r13, isForm_r13, product_r13⟩ := u13
  dsimp only at hw
  have Wc13 := Wd
  have Wd : wXM D ca s h ad (sI (sI I 33 cursor_r13) 43 isForm_r13) (sF (sF F 42 form_r13) 44 product_r13) H A s.heap locs := wMc Wd rfl rfl ⟨(rsI (rsI hS.1 (Wc13.2.1 33)) (Wc13.2.1 43)), (rsF (rsF hS.2 (fun j => Wc13.2.2 42 j)) (fun j => Wc13.2.2 44 j))⟩
  refine lv_aload_n C.1 C.2.1 dX12_sameForms_16 rfl (lv_at hl 0 rfl) ?_
  refine lv_iload_n C.1 C.2.1 dX12_sameForms_17 rfl (lv_at hl 1 rfl) ?_
  refine lv_iconst (v := zI 1) C.1 C.2.1 dX12_sameForms_18 (by decide) ?_
  refine k_cMv Wd (k_runVM (rest := []) C aks Wd cs_X12_339 (mt_forms D h ad ca (sI (sI I 33 cursor_r13) 43 isForm_r13) (sF (sF F 42 form_r13) 44 product_r13) Wd.2 x0 1 g_x0 (show rng 1 from by decide) _ hw l _) rfl rfl ⟨(Nat.le_of_ble_eq_true rfl), (Nat.le_of_ble_eq_true rfl)⟩ hl.1 rfl rfl (Nat.le_of_ble_eq_true rfl) ⟨(Nat.le_of_ble_eq_true rfl), (Nat.le_of_ble_eq_true rfl)⟩ dX12_sameForms_19) (fun u19 H locs hw Wd => ?_)
  obtain ⟨cursor_r19, form_r19, isForm_r19, product_r19⟩ := u19
  dsimp only at hw
  have Wc19 := Wd
  have Wd : wXM D ca s h ad (sI (sI I 33 cursor_r19) 43 isForm_r19) (sF (sF F 42 form_r19) 44 product_r19) H A s.heap locs := wMc Wd rfl rfl ⟨(rsI (rsI hS.1 (Wc19.2.1 33)) (Wc19.2.1 43)), (rsF (rsF hS.2 (fun j => Wc19.2.2 42 j)) (fun j => Wc19.2.2 44 j))⟩
  refine lv_aload_n C.1 C.2.1 dX12_sameForms_22 rfl (lv_at hl 0 rfl) ?_
  refine k_get (v := .int (zI isForm_r19)) C Wd.1 KX12 0 43 wM0 (by decide) fl_X12_345 rfl dX12_sameForms_23 ?_
  refine lv_if_ne (tgt := 31) C.1 C.2.1 dX12_sameForms_26 (by decide) (fun c26 => ?_) (fun c26 => ?_)
  · have hw := hw.1 (z0_ne (Wc19.2.1 43) c26)
    refine lv_iconst (v := zI 0) C.1 C.2.1 dX12_sameForms_31 (by decide) ?_
    refine lv_istore_n (lv' := [(2, .int (zI 0)), (0, .ref h), (1, .int (zI x0))]) C.1 C.2.1 dX12_sameForms_32 rfl hl (by decide) rfl (fun ls hl => ?_)
    replace hl := lv_sub hl [1, 2, 0] rfl
    refine k_lp1 hw (fun (l2_33 : Int) H locs ls => rng l2_33 ∧ wXM D ca s h ad (sI (sI I 33 cursor_r19) 43 isForm_r19) (sF (sF F 42 form_r19) 44 product_r19) H A s.heap locs ∧ lv_has ls 3 [(0, .ref h), (2, .int (zI l2_33))]) (fun (l2_33 : Int) ls => F0 m 33 ls []) (fun L33 hL33 l2_33 hw H locs ls hi => ?_) _ _ _ ⟨(show rng 0 from by decide), wMc Wd rfl rfl ⟨(rsI (rsI hS.1 (Wc19.2.1 33)) (Wc19.2.1 43)), (rsF (rsF hS.2 (fun j => Wc19.2.2 42 j)) (fun j => Wc19.2.2 44 j))⟩, lv_sub hl [0, 2] rfl⟩
    obtain ⟨g_l2_33, Wd, hl⟩ := hi
    have Wd33 := Wd
    unfold wp_sameForms_33 at hw
    refine lv_iload_n C.1 C.2.1 dX12_sameForms_33 rfl (lv_at hl 1 rfl) ?_
    refine lv_sipush (v := zI 512) C.1 C.2.1 dX12_sameForms_34 (zS (by decide) (by decide)) ?_
    refine lv_icmp_ge (tgt := 67) C.1 C.2.1 dX12_sameForms_37 (by decide) (fun c37 => ?_) (fun c37 => ?_)
    · have hw := hw.1 (z_le (show rng 512 from by decide) g_l2_33 c37)
      refine lv_iconst (v := zI 1) C.1 C.2.1 dX12_sameForms_67 (by decide) ?_
      exact k_retMi C hr hlk rfl Wd (u := (cursor_r19, form_r19, isForm_r19, product_r19)) rfl rfl ⟨⟨_, rfl, (show rng 1 from by decide), hw⟩, ⟨(rsI (rsI hS.1 (Wc19.2.1 33)) (Wc19.2.1 43)), (rsF (rsF hS.2 (fun j => Wc19.2.2 42 j)) (fun j => Wc19.2.2 44 j))⟩⟩ dX12_sameForms_68
    · have hw := hw.2 (z_nle (show rng 512 from by decide) g_l2_33 c37)
      refine lv_aload_n C.1 C.2.1 dX12_sameForms_40 rfl (lv_at hl 0 rfl) ?_
      refine k_get (v := .ref (ad 42)) C Wd.1 KX12 0 42 wM0 (by decide) fl_X12_59 rfl dX12_sameForms_41 ?_
      refine lv_iload_n C.1 C.2.1 dX12_sameForms_44 rfl (lv_at hl 1 rfl) ?_
      obtain ⟨a45, hw⟩ := hw
      refine k_ialdM (g := form_r19) C Wd 16 15 rfl rfl a45 (by decide) dX12_sameForms_45 ?_
      have g45 : rng (form_r19 l2_33) := rngL (fun j => Wc19.2.2 42 j) a45
      refine lv_aload_n C.1 C.2.1 dX12_sameForms_46 rfl (lv_at hl 0 rfl) ?_
      refine k_get (v := .ref (ad 42)) C Wd.1 KX12 0 42 wM0 (by decide) fl_X12_59 rfl dX12_sameForms_47 ?_
      refine lv_sipush (v := zI 512) C.1 C.2.1 dX12_sameForms_50 (zS (by decide) (by decide)) ?_
      refine lv_iload_n C.1 C.2.1 dX12_sameForms_53 rfl (lv_at hl 1 rfl) ?_
      refine k_iadd (v := zI (512 + l2_33)) C (zI_iadd _ _) dX12_sameForms_54 ?_
      obtain ⟨a55, hw⟩ := hw
      refine k_ialdM (g := form_r19) C Wd 16 15 rfl rfl a55 (by decide) dX12_sameForms_55 ?_
      have g55 : rng (form_r19 (512 + l2_33)) := rngL (fun j => Wc19.2.2 42 j) a55
      refine lv_icmp_eq (tgt := 61) C.1 C.2.1 dX12_sameForms_56 (by decide) (fun c56 => ?_) (fun c56 => ?_)
      · have hw := hw.1 (z_eq g45 g55 c56)
        refine lv_iinc (v := zI (l2_33 + 1)) (lv' := [(2, .int (zI (l2_33 + 1))), (0, .ref h)]) C.1 C.2.1 dX12_sameForms_61 hl (k := 1) rfl (zI_inc _ _ (by decide)) (by decide) rfl (fun ls hl => ?_)
        replace hl := lv_sub hl [1, 0] rfl
        refine lv_goto (tgt := 33) C.1 C.2.1 dX12_sameForms_64 (by decide) ?_
        obtain ⟨g64_0, hw⟩ := hw
        exact hL33 _ hw _ _ _ ⟨g64_0, wMc Wd rfl rfl ⟨(rsI (rsI hS.1 (Wc19.2.1 33)) (Wc19.2.1 43)), (rsF (rsF hS.2 (fun j => Wc19.2.2 42 j)) (fun j => Wc19.2.2 44 j))⟩, lv_sub hl [0, 1] rfl⟩
      · have hw := hw.2 (z_ne g45 g55 c56)
        refine lv_iconst (v := zI 0) C.1 C.2.1 dX12_sameForms_59 (by decide) ?_
        exact k_retMi C hr hlk rfl Wd (u := (cursor_r19, form_r19, isForm_r19, product_r19)) rfl rfl ⟨⟨_, rfl, (show rng 0 from by decide), hw⟩, ⟨(rsI (rsI hS.1 (Wc19.2.1 33)) (Wc19.2.1 43)), (rsF (rsF hS.2 (fun j => Wc19.2.2 42 j)) (fun j => Wc19.2.2 44 j))⟩⟩ dX12_sameForms_60
  · have hw := hw.2 (z0_eq (Wc19.2.1 43) c26)
    refine lv_iconst (v := zI (-1)) C.1 C.2.1 dX12_sameForms_29 (by decide) ?_
    exact k_retMi C hr hlk rfl Wd (u := (cursor_r19, form_r19, isForm_r19, product_r19)) rfl rfl ⟨⟨_, rfl, (show rng (-1) from by decide), hw⟩, ⟨(rsI (rsI hS.1 (Wc19.2.1 33)) (Wc19.2.1 43)), (rsF (rsF hS.2 (fun j => Wc19.2.2 42 j)) (fun j => Wc19.2.2 44 j))⟩⟩ dX12_sameForms_30
set_option maxHeartbeats 4000000 in
set_option maxRecDepth 100000 in
theorem mt_ruleOf : ∀ (D : va_G) (h : Nat) (ad : Nat → Nat) (ca : Nat → ClassId) (I : Nat → Int) (F : Nat → Int → Int) (hS : rngS I F) (x0 : Int) (x1 : Int) (g_x0 : rng x0) (g_x1 : rng x1) (K : Int → Int → (Int → Int) → (Int → Int) → Int → (Int → Int) → Prop) (hw : wp_ruleOf (I 23) (F 24) (F 27) (I 33) (F 41) (F 42) (I 43) (F 44) x0 x1 K) (l : Launch) (sz : Nat), Met l yX12_ruleOf (Cond.code yX12_ruleOf cX12_ruleOf 8 (some .int) :: gG) { frames := 105, cells := 0, slots := 0, locals := 2575 } (cPre D (tM ca) (wM h ad ca I F) sz [.ref h, .int (zI x0), .int (zI x1)]) (va_Qi (fun (r : Int32) (u : (Int) × (Int → Int) × (Int → Int) × (Int) × (Int → Int)) => (∃ x : Int, r = zI x ∧ rng x ∧ K x u.1 u.2.1 u.2.2.1 u.2.2.2.1 u.2.2.2.2) ∧ rngS (sI (sI I 33 u.1) 43 u.2.2.2.1) (sF (sF (sF F 41 u.2.1) 42 u.2.2.1) 44 u.2.2.2.2)) (fun u t => cB D (va_A (wM h ad ca I F) sz) [] (wM h ad ca (sI (sI I 33 u.1) 43 u.2.2.2.1) (sF (sF (sF F 41 u.2.1) 42 u.2.2.1) 44 u.2.2.2.2)) t) (va_A (wM h ad ca I F) sz)) 0 0 (va_A (wM h ad ca I F) sz) := by
  intro D h ad ca I F hS x0 x1 g_x0 g_x1 K hw l sz
  refine Met.ofW (cc := cX12_ruleOf) (maxL := 8) (ret := (some .int)) (by decide) rfl ?_
  intro p e s m args below meth c s₁ B hml hv
  obtain ⟨rfl, aks, rfl, Wd⟩ := k_enter hv
  have C : CallFix p m c cX12_ruleOf 8 s _ gG RX12 := ⟨B.exec, B.bytes, hml, findClass_of_methodNamed B.named, fun w h => atoms_spec (ws := Cond.code yX12_ruleOf cX12_ruleOf 8 (some .int) :: gG) B.pre w (List.mem_cons_of_mem _ h)⟩
  have hr := B.returns
  have hlk := B.notSynchronized
  generalize va_A (wM h ad ca I F) s.heap.size = A at Wd ⊢
  replace Wd : wXM D ca s h ad I F s.heap A s.heap [] := ⟨Wd, hS⟩
  refine k_locals (Nat.le_of_ble_eq_true rfl) [(0, .ref h), (1, .int (zI x0)), (2, .int (zI x1))] rfl (fun ls hl => ?_)
  unfold wp_ruleOf at hw
  refine lv_iload_n C.1 C.2.1 dX12_ruleOf_0 rfl (lv_at hl 1 rfl) ?_
  refine lv_iconst (v := zI 0) C.1 C.2.1 dX12_ruleOf_1 (by decide) ?_
  refine lv_aload_n C.1 C.2.1 dX12_ruleOf_2 rfl (lv_at hl 0 rfl) ?_
  refine k_get (v := .int (zI (I 23))) C Wd.1 KX12 0 23 wM0 (by decide) fl_X12_268 rfl dX12_ruleOf_3 ?_
  refine lv_iconst (v := zI 1) C.1 C.2.1 dX12_ruleOf_6 (by decide) ?_
  refine k_isub (v := zI ((I 23) - 1)) C (zI_isub _ _) dX12_ruleOf_7 ?_
  obtain ⟨g8_0, hw⟩ := hw
  refine k_pi (k_runS (rest := []) C aks Wd.1 cs_X12_90 (mt_isIn D x0 0 ((I 23) - 1) g_x0 (show rng 0 from by decide) g8_0 _ hw l _) [] rfl (by decide) [] rfl rfl rfl ⟨(Nat.le_of_ble_eq_true rfl), (Nat.le_of_ble_eq_true rfl)⟩ hl.1 rfl rfl (Nat.le_of_ble_eq_true rfl) ⟨(Nat.le_of_ble_eq_true rfl), (Nat.le_of_ble_eq_true rfl)⟩ dX12_ruleOf_8) (fun y8 hy => ?_)
  obtain ⟨r8, rfl, g_r8, hw⟩ := hy
  refine lv_if_eq (tgt := 23) C.1 C.2.1 dX12_ruleOf_11 (by decide) (fun c11 => ?_) (fun c11 => ?_)
  · have hw := hw.1 (z0_eq g_r8 c11)
    refine lv_bipush (v := zI (-2)) C.1 C.2.1 dX12_ruleOf_23 (by decide) ?_
    exact k_retMi C hr hlk rfl Wd (u := ((I 33), (F 41), (F 42), (I 43), (F 44))) rfl rfl ⟨⟨_, rfl, (show rng (-2) from by decide), hw⟩, ⟨(rsI (rsI hS.1 (hS.1 33)) (hS.1 43)), (rsF (rsF (rsF hS.2 (hS.2 41)) (hS.2 42)) (hS.2 44))⟩⟩ dX12_ruleOf_25
  · have hw := hw.2 (z0_ne g_r8 c11)
    refine lv_iload_n C.1 C.2.1 dX12_ruleOf_14 rfl (lv_at hl 2 rfl) ?_
    refine lv_iconst (v := zI 0) C.1 C.2.1 dX12_ruleOf_15 (by decide) ?_
    refine lv_iconst (v := zI 3) C.1 C.2.1 dX12_ruleOf_16 (by decide) ?_
    refine k_pi (k_runS (rest := []) C aks Wd.1 cs_X12_90 (mt_isIn D x1 0 3 g_x1 (show rng 0 from by decide) (show rng 3 from by decide) _ hw l _) [] rfl (by decide) [] rfl rfl rfl ⟨(Nat.le_of_ble_eq_true rfl), (Nat.le_of_ble_eq_true rfl)⟩ hl.1 rfl rfl (Nat.le_of_ble_eq_true rfl) ⟨(Nat.le_of_ble_eq_true rfl), (Nat.le_of_ble_eq_true rfl)⟩ dX12_ruleOf_17) (fun y17 hy => ?_)
    obtain ⟨r17, rfl, g_r17, hw⟩ := hy
    refine lv_if_ne (tgt := 26) C.1 C.2.1 dX12_ruleOf_20 (by decide) (fun c20 => ?_) (fun c20 => ?_)
    · have hw := hw.1 (z0_ne g_r17 c20)
      refine lv_iload_n C.1 C.2.1 dX12_ruleOf_26 rfl (lv_at hl 2 rfl) ?_
      refine lv_iconst (v := zI 2) C.1 C.2.1 dX12_ruleOf_27 (by decide) ?_
      refine lv_icmp_ne (tgt := 37) C.1 C.2.1 dX12_ruleOf_28 (by decide) (fun c28 => ?_) (fun c28 => ?_)
      · have hw := hw.1 (z_ne g_x1 (show rng 2 from by decide) c28)
        refine lv_iconst (v := zI (-1)) C.1 C.2.1 dX12_ruleOf_37 (by decide) ?_
        refine lv_istore_n (lv' := [(3, .int (zI (-1))), (0, .ref h), (1, .int (zI x0)), (2, .int (zI x1))]) C.1 C.2.1 dX12_ruleOf_38 rfl hl (by decide) rfl (fun ls hl => ?_)
        replace hl := lv_sub hl [1, 2, 3, 0] rfl
        refine lv_iconst (v := zI 0) C.1 C.2.1 dX12_ruleOf_39 (by decide) ?_
        refine lv_istore (lv' := [(4, .int (zI 0)), (0, .ref h), (1, .int (zI x0)), (2, .int (zI x1)), (3, .int (zI (-1)))]) C.1 C.2.1 dX12_ruleOf_40 hl (by decide) rfl (fun ls hl => ?_)
        replace hl := lv_sub hl [1, 2, 3, 4, 0] rfl
        refine lv_iconst (v := zI 0) C.1 C.2.1 dX12_ruleOf_42 (by decide) ?_
        refine lv_istore (lv' := [(5, .int (zI 0)), (0, .ref h), (1, .int (zI x0)), (2, .int (zI x1)), (3, .int (zI (-1))), (4, .int (zI 0))]) C.1 C.2.1 dX12_ruleOf_43 hl (by decide) rfl (fun ls hl => ?_)
        replace hl := lv_sub hl [1, 2, 3, 4, 5, 0] rfl
        refine k_lp5 hw (fun (l3_45 : Int) (l4_45 : Int) (l5_45 : Int) (cursor_45 : Int) (stands_45 : Int → Int) H locs ls => rng l3_45 ∧ rng l4_45 ∧ rng l5_45 ∧ wXM D ca s h ad (sI I 33 cursor_45) (sF F 41 stands_45) H A s.heap locs ∧ lv_has ls 8 [(0, .ref h), (1, .int (zI x0)), (2, .int (zI x1)), (3, .int (zI l3_45)), (4, .int (zI l4_45)), (5, .int (zI l5_45))]) (fun (l3_45 : Int) (l4_45 : Int) (l5_45 : Int) (cursor_45 : Int) (stands_45 : Int → Int) ls => F0 m 45 ls []) (fun L45 hL45 l3_45 l4_45 l5_45 cursor_45 stands_45 hw H locs ls hi => ?_) _ _ _ ⟨(show rng (-1) from by decide), (show rng 0 from by decide), (show rng 0 from by decide), wMc Wd rfl rfl ⟨(rsI hS.1 (hS.1 33)), (rsF hS.2 (hS.2 41))⟩, lv_sub hl [0, 1, 2, 3, 4, 5] rfl⟩
        obtain ⟨g_l3_45, g_l4_45, g_l5_45, Wd, hl⟩ := hi
        have Wd45 := Wd
        unfold wp_ruleOf_45 at hw
        refine lv_iload C.1 C.2.1 dX12_ruleOf_45 (lv_at hl 5 rfl) ?_
        refine lv_sipush (v := zI 4096) C.1 C.2.1 dX12_ruleOf_47 (zS (by decide) (by decide)) ?_
        refine lv_icmp_ge (tgt := 178) C.1 C.2.1 dX12_ruleOf_50 (by decide) (fun c50 => ?_) (fun c50 => ?_)
        · have hw := hw.1 (z_le (show rng 4096 from by decide) g_l5_45 c50)
          refine lv_iload_n C.1 C.2.1 dX12_ruleOf_178 rfl (lv_at hl 2 rfl) ?_
          refine lv_if_ne (tgt := 195) C.1 C.2.1 dX12_ruleOf_179 (by decide) (fun c179 => ?_) (fun c179 => ?_)
          · have hw := hw.1 (z0_ne g_x1 c179)
            refine lv_iload_n C.1 C.2.1 dX12_ruleOf_195 rfl (lv_at hl 2 rfl) ?_
            refine lv_iconst (v := zI 1) C.1 C.2.1 dX12_ruleOf_196 (by decide) ?_
            refine lv_icmp_ne (tgt := 204) C.1 C.2.1 dX12_ruleOf_197 (by decide) (fun c197 => ?_) (fun c197 => ?_)
            · have hw := hw.1 (z_ne g_x1 (show rng 1 from by decide) c197)
              refine lv_iload C.1 C.2.1 dX12_ruleOf_204 (lv_at hl 4 rfl) ?_
              exact k_retMi C hr hlk rfl Wd (u := (cursor_45, stands_45, (F 42), (I 43), (F 44))) rfl rfl ⟨⟨_, rfl, g_l4_45, hw⟩, ⟨(rsI (rsI hS.1 (Wd45.2.1 33)) (hS.1 43)), (rsF (rsF (rsF hS.2 (fun j => Wd45.2.2 41 j)) (hS.2 42)) (hS.2 44))⟩⟩ dX12_ruleOf_206
            · have hw := hw.2 (z_eq g_x1 (show rng 1 from by decide) c197)
              refine lv_iload_n C.1 C.2.1 dX12_ruleOf_200 rfl (lv_at hl 3 rfl) ?_
              refine lv_goto (tgt := 206) C.1 C.2.1 dX12_ruleOf_201 (by decide) ?_
              exact k_retMi C hr hlk rfl Wd (u := (cursor_45, stands_45, (F 42), (I 43), (F 44))) rfl rfl ⟨⟨_, rfl, g_l3_45, hw⟩, ⟨(rsI (rsI hS.1 (Wd45.2.1 33)) (hS.1 43)), (rsF (rsF (rsF hS.2 (fun j => Wd45.2.2 41 j)) (hS.2 42)) (hS.2 44))⟩⟩ dX12_ruleOf_206
          · have hw := hw.2 (z0_eq g_x1 c179)
            refine lv_iload_n C.1 C.2.1 dX12_ruleOf_182 rfl (lv_at hl 3 rfl) ?_
            refine lv_iconst (v := zI (-1)) C.1 C.2.1 dX12_ruleOf_183 (by decide) ?_
            refine lv_icmp_ne (tgt := 191) C.1 C.2.1 dX12_ruleOf_184 (by decide) (fun c184 => ?_) (fun c184 => ?_)
            · have hw := hw.1 (z_ne g_l3_45 (show rng (-1) from by decide) c184)
              refine lv_iconst (v := zI 0) C.1 C.2.1 dX12_ruleOf_191 (by decide) ?_
              refine lv_goto (tgt := 206) C.1 C.2.1 dX12_ruleOf_192 (by decide) ?_
              exact k_retMi C hr hlk rfl Wd (u := (cursor_45, stands_45, (F 42), (I 43), (F 44))) rfl rfl ⟨⟨_, rfl, (show rng 0 from by decide), hw⟩, ⟨(rsI (rsI hS.1 (Wd45.2.1 33)) (hS.1 43)), (rsF (rsF (rsF hS.2 (fun j => Wd45.2.2 41 j)) (hS.2 42)) (hS.2 44))⟩⟩ dX12_ruleOf_206
            · have hw := hw.2 (z_eq g_l3_45 (show rng (-1) from by decide) c184)
              refine lv_iconst (v := zI 1) C.1 C.2.1 dX12_ruleOf_187 (by decide) ?_
              refine lv_goto (tgt := 206) C.1 C.2.1 dX12_ruleOf_188 (by decide) ?_
              exact k_retMi C hr hlk rfl Wd (u := (cursor_45, stands_45, (F 42), (I 43), (F 44))) rfl rfl ⟨⟨_, rfl, (show rng 1 from by decide), hw⟩, ⟨(rsI (rsI hS.1 (Wd45.2.1 33)) (hS.1 43)), (rsF (rsF (rsF hS.2 (fun j => Wd45.2.2 41 j)) (hS.2 42)) (hS.2 44))⟩⟩ dX12_ruleOf_206
        · have hw := hw.2 (z_nle (show rng 4096 from by decide) g_l5_45 c50)
          refine lv_aload_n C.1 C.2.1 dX12_ruleOf_53 rfl (lv_at hl 0 rfl) ?_
          refine k_get (v := .ref (ad 41)) C Wd.1 KX12 0 41 wM0 (by decide) fl_X12_56 rfl dX12_ruleOf_54 ?_
          refine lv_iconst (v := zI 0) C.1 C.2.1 dX12_ruleOf_57 (by decide) ?_
          refine lv_iload C.1 C.2.1 dX12_ruleOf_58 (lv_at hl 5 rfl) ?_
          refine lv_sipush (v := zI 256) C.1 C.2.1 dX12_ruleOf_60 (zS (by decide) (by decide)) ?_
          refine k_idiv (v := zI (zidiv l5_45 256)) C (by decide) (zidiv_eq _ _) dX12_ruleOf_63 ?_
          have q64 : ∀ j : Nat, rng ((uZ stands_45 0 (zidiv l5_45 256)) j) := ruZ (fun j => Wd45.2.2 41 j) (rng_toInt _)
          refine k_iastM (g := stands_45) C Wd 14 14 (sF F 41 (uZ stands_45 0 (zidiv l5_45 256))) rfl rfl (by decide) (by decide) rfl rfl (rsF hS.2 q64) dX12_ruleOf_64 (fun H locs Wd => ?_)
          refine lv_aload_n C.1 C.2.1 dX12_ruleOf_65 rfl (lv_at hl 0 rfl) ?_
          refine k_get (v := .ref (ad 41)) C Wd.1 KX12 0 41 wM0 (by decide) fl_X12_56 rfl dX12_ruleOf_66 ?_
          refine lv_iconst (v := zI 1) C.1 C.2.1 dX12_ruleOf_69 (by decide) ?_
          refine lv_iload C.1 C.2.1 dX12_ruleOf_70 (lv_at hl 5 rfl) ?_
          refine lv_bipush (v := zI 16) C.1 C.2.1 dX12_ruleOf_72 (by decide) ?_
          refine k_idiv (v := zI (zidiv l5_45 16)) C (by decide) (zidiv_eq _ _) dX12_ruleOf_74 ?_
          refine lv_bipush (v := zI 16) C.1 C.2.1 dX12_ruleOf_75 (by decide) ?_
          refine k_irem (v := zI (zirem (zidiv l5_45 16) 16)) C (by decide) (zirem_eq _ _) dX12_ruleOf_77 ?_
          obtain ⟨f78, e78⟩ : ∃ f : Int → Int, f = (uZ (uZ stands_45 0 (zidiv l5_45 256)) 1 (zirem (zidiv l5_45 16) 16)) := ⟨_, rfl⟩
          have hw := hw f78 e78
          have q78 : ∀ j : Nat, rng (f78 j) := by rw [e78]; exact ruZ q64 (rng_toInt _)
          refine k_iastM (g := (uZ stands_45 0 (zidiv l5_45 256))) C Wd 14 14 (sF F 41 f78) rfl rfl (by decide) (by decide) e78.symm rfl (rsF hS.2 q78) dX12_ruleOf_78 (fun H locs Wd => ?_)
          refine lv_aload_n C.1 C.2.1 dX12_ruleOf_79 rfl (lv_at hl 0 rfl) ?_
          refine k_get (v := .ref (ad 41)) C Wd.1 KX12 0 41 wM0 (by decide) fl_X12_56 rfl dX12_ruleOf_80 ?_
          refine lv_iconst (v := zI 2) C.1 C.2.1 dX12_ruleOf_83 (by decide) ?_
          refine lv_iload C.1 C.2.1 dX12_ruleOf_84 (lv_at hl 5 rfl) ?_
          refine lv_bipush (v := zI 16) C.1 C.2.1 dX12_ruleOf_86 (by decide) ?_
          refine k_irem (v := zI (zirem l5_45 16)) C (by decide) (zirem_eq _ _) dX12_ruleOf_88 ?_
          obtain ⟨f89, e89⟩ : ∃ f : Int → Int, f = (uZ f78 2 (zirem l5_45 16)) := ⟨_, rfl⟩
          have hw := hw f89 e89
          have q89 : ∀ j : Nat, rng (f89 j) := by rw [e89]; exact ruZ q78 (rng_toInt _)
          refine k_iastM (g := f78) C Wd 14 14 (sF F 41 f89) rfl rfl (by decide) (by decide) e89.symm rfl (rsF hS.2 q89) dX12_ruleOf_89 (fun H locs Wd => ?_)
          refine lv_iconst (v := zI 1) C.1 C.2.1 dX12_ruleOf_90 (by decide) ?_
          refine lv_istore (lv' := [(6, .int (zI 1)), (0, .ref h), (1, .int (zI x0)), (2, .int (zI x1)), (3, .int (zI l3_45)), (4, .int (zI l4_45)), (5, .int (zI l5_45))]) C.1 C.2.1 dX12_ruleOf_91 hl (by decide) rfl (fun ls hl => ?_)
          replace hl := lv_sub hl [1, 2, 3, 4, 5, 6, 0] rfl
          refine lv_iconst (v := zI 0) C.1 C.2.1 dX12_ruleOf_93 (by decide) ?_
          refine lv_istore (lv' := [(7, .int (zI 0)), (0, .ref h), (1, .int (zI x0)), (2, .int (zI x1)), (3, .int (zI l3_45)), (4, .int (zI l4_45)), (5, .int (zI l5_45)), (6, .int (zI 1))]) C.1 C.2.1 dX12_ruleOf_94 hl (by decide) rfl (fun ls hl => ?_)
          replace hl := lv_sub hl [1, 2, 3, 4, 5, 6, 7, 0] rfl
          refine k_lp2 hw (fun (l6_96 : Int) (l7_96 : Int) H locs ls => rng l6_96 ∧ rng l7_96 ∧ wXM D ca s h ad (sI I 33 cursor_45) (sF F 41 f89) H A s.heap locs ∧ lv_has ls 8 [(0, .ref h), (1, .int (zI x0)), (2, .int (zI x1)), (3, .int (zI l3_45)), (4, .int (zI l4_45)), (5, .int (zI l5_45)), (6, .int (zI l6_96)), (7, .int (zI l7_96))]) (fun (l6_96 : Int) (l7_96 : Int) ls => F0 m 96 ls []) (fun L96 hL96 l6_96 l7_96 hw H locs ls hi => ?_) _ _ _ ⟨(show rng 1 from by decide), (show rng 0 from by decide), wMc Wd rfl rfl ⟨(rsI hS.1 (Wd45.2.1 33)), (rsF hS.2 q89)⟩, lv_sub hl [0, 1, 2, 3, 4, 5, 6, 7] rfl⟩
          obtain ⟨g_l6_96, g_l7_96, Wd, hl⟩ := hi
          have Wd96 := Wd
          unfold wp_ruleOf_96 at hw
          refine lv_iload C.1 C.2.1 dX12_ruleOf_96 (lv_at hl 7 rfl) ?_
          refine lv_iconst (v := zI 3) C.1 C.2.1 dX12_ruleOf_98 (by decide) ?_
          refine lv_icmp_ge (tgt := 145) C.1 C.2.1 dX12_ruleOf_99 (by decide) (fun c99 => ?_) (fun c99 => ?_)
          · have hw := hw.1 (z_le (show rng 3 from by decide) g_l7_96 c99)
            refine lv_iload C.1 C.2.1 dX12_ruleOf_145 (lv_at hl 6 rfl) ?_
            refine lv_if_eq (tgt := 172) C.1 C.2.1 dX12_ruleOf_147 (by decide) (fun c147 => ?_) (fun c147 => ?_)
            · have hw := hw.1 (z0_eq g_l6_96 c147)
              refine lv_iinc (v := zI (l5_45 + 1)) (lv' := [(5, .int (zI (l5_45 + 1))), (0, .ref h), (1, .int (zI x0)), (2, .int (zI x1)), (3, .int (zI l3_45)), (4, .int (zI l4_45)), (6, .int (zI l6_96)), (7, .int (zI l7_96))]) C.1 C.2.1 dX12_ruleOf_172 hl (k := 5) rfl (zI_inc _ _ (by decide)) (by decide) rfl (fun ls hl => ?_)
              replace hl := lv_sub hl [1, 2, 3, 4, 5, 0, 6, 7] rfl
              refine lv_goto (tgt := 45) C.1 C.2.1 dX12_ruleOf_175 (by decide) ?_
              obtain ⟨g175_0, hw⟩ := hw
              exact hL45 _ _ _ _ _ hw _ _ _ ⟨g_l3_45, g_l4_45, g175_0, wMc Wd rfl rfl ⟨(rsI hS.1 (Wd45.2.1 33)), (rsF hS.2 q89)⟩, lv_sub hl [0, 1, 2, 3, 4, 5] rfl⟩
            · have hw := hw.2 (z0_ne g_l6_96 c147)
              refine lv_aload_n C.1 C.2.1 dX12_ruleOf_150 rfl (lv_at hl 0 rfl) ?_
              refine lv_iload_n C.1 C.2.1 dX12_ruleOf_151 rfl (lv_at hl 1 rfl) ?_
              refine k_cMi Wd (k_runVM (rest := []) C aks Wd cs_X12_351 (mt_isAlike D h ad ca (sI I 33 cursor_45) (sF F 41 f89) Wd.2 x0 g_x0 _ hw l _) rfl rfl ⟨(Nat.le_of_ble_eq_true rfl), (Nat.le_of_ble_eq_true rfl)⟩ hl.1 rfl rfl (Nat.le_of_ble_eq_true rfl) ⟨(Nat.le_of_ble_eq_true rfl), (Nat.le_of_ble_eq_true rfl)⟩ dX12_ruleOf_152) (fun r152 cursor_r152 H locs g_r152 hw Wd => ?_)
              have Wc152 := Wd
              have Wd : wXM D ca s h ad (sI I 33 cursor_r152) (sF F 41 f89) H A s.heap locs := wMc Wd rfl rfl ⟨(rsI hS.1 (Wc152.2.1 33)), (rsF hS.2 q89)⟩
              refine lv_if_eq (tgt := 161) C.1 C.2.1 dX12_ruleOf_155 (by decide) (fun c155 => ?_) (fun c155 => ?_)
              · have hw := hw.1 (z0_eq g_r152 c155)
                refine lv_iload_n C.1 C.2.1 dX12_ruleOf_161 rfl (lv_at hl 3 rfl) ?_
                refine lv_iconst (v := zI (-1)) C.1 C.2.1 dX12_ruleOf_162 (by decide) ?_
                refine lv_icmp_ne (tgt := 169) C.1 C.2.1 dX12_ruleOf_163 (by decide) (fun c163 => ?_) (fun c163 => ?_)
                · have hw := hw.1 (z_ne g_l3_45 (show rng (-1) from by decide) c163)
                  refine lv_iinc (v := zI (l4_45 + 1)) (lv' := [(4, .int (zI (l4_45 + 1))), (0, .ref h), (1, .int (zI x0)), (2, .int (zI x1)), (3, .int (zI l3_45)), (5, .int (zI l5_45)), (6, .int (zI l6_96)), (7, .int (zI l7_96))]) C.1 C.2.1 dX12_ruleOf_169 hl (k := 4) rfl (zI_inc _ _ (by decide)) (by decide) rfl (fun ls hl => ?_)
                  replace hl := lv_sub hl [1, 2, 3, 4, 0, 5, 6, 7] rfl
                  refine lv_iinc (v := zI (l5_45 + 1)) (lv' := [(5, .int (zI (l5_45 + 1))), (0, .ref h), (1, .int (zI x0)), (2, .int (zI x1)), (3, .int (zI l3_45)), (4, .int (zI (l4_45 + 1))), (6, .int (zI l6_96)), (7, .int (zI l7_96))]) C.1 C.2.1 dX12_ruleOf_172 hl (k := 5) rfl (zI_inc _ _ (by decide)) (by decide) rfl (fun ls hl => ?_)
                  replace hl := lv_sub hl [1, 2, 3, 4, 5, 0, 6, 7] rfl
                  refine lv_goto (tgt := 45) C.1 C.2.1 dX12_ruleOf_175 (by decide) ?_
                  obtain ⟨g175_0, hw⟩ := hw
                  obtain ⟨g175_1, hw⟩ := hw
                  exact hL45 _ _ _ _ _ hw _ _ _ ⟨g_l3_45, g175_0, g175_1, wMc Wd rfl rfl ⟨(rsI hS.1 (Wc152.2.1 33)), (rsF hS.2 q89)⟩, lv_sub hl [0, 1, 2, 3, 4, 5] rfl⟩
                · have hw := hw.2 (z_eq g_l3_45 (show rng (-1) from by decide) c163)
                  refine lv_iload C.1 C.2.1 dX12_ruleOf_166 (lv_at hl 5 rfl) ?_
                  refine lv_istore_n (lv' := [(3, .int (zI l5_45)), (0, .ref h), (1, .int (zI x0)), (2, .int (zI x1)), (4, .int (zI l4_45)), (5, .int (zI l5_45)), (6, .int (zI l6_96)), (7, .int (zI l7_96))]) C.1 C.2.1 dX12_ruleOf_168 rfl hl (by decide) rfl (fun ls hl => ?_)
                  replace hl := lv_sub hl [1, 2, 3, 0, 4, 5, 6, 7] rfl
                  refine lv_iinc (v := zI (l4_45 + 1)) (lv' := [(4, .int (zI (l4_45 + 1))), (0, .ref h), (1, .int (zI x0)), (2, .int (zI x1)), (3, .int (zI l5_45)), (5, .int (zI l5_45)), (6, .int (zI l6_96)), (7, .int (zI l7_96))]) C.1 C.2.1 dX12_ruleOf_169 hl (k := 4) rfl (zI_inc _ _ (by decide)) (by decide) rfl (fun ls hl => ?_)
                  replace hl := lv_sub hl [1, 2, 3, 4, 0, 5, 6, 7] rfl
                  refine lv_iinc (v := zI (l5_45 + 1)) (lv' := [(5, .int (zI (l5_45 + 1))), (0, .ref h), (1, .int (zI x0)), (2, .int (zI x1)), (3, .int (zI l5_45)), (4, .int (zI (l4_45 + 1))), (6, .int (zI l6_96)), (7, .int (zI l7_96))]) C.1 C.2.1 dX12_ruleOf_172 hl (k := 5) rfl (zI_inc _ _ (by decide)) (by decide) rfl (fun ls hl => ?_)
                  replace hl := lv_sub hl [1, 2, 3, 4, 5, 0, 6, 7] rfl
                  refine lv_goto (tgt := 45) C.1 C.2.1 dX12_ruleOf_175 (by decide) ?_
                  obtain ⟨g175_0, hw⟩ := hw
                  obtain ⟨g175_1, hw⟩ := hw
                  exact hL45 _ _ _ _ _ hw _ _ _ ⟨g_l5_45, g175_0, g175_1, wMc Wd rfl rfl ⟨(rsI hS.1 (Wc152.2.1 33)), (rsF hS.2 q89)⟩, lv_sub hl [0, 1, 2, 3, 4, 5] rfl⟩
              · have hw := hw.2 (z0_ne g_r152 c155)
                refine lv_goto (tgt := 172) C.1 C.2.1 dX12_ruleOf_158 (by decide) ?_
                refine lv_iinc (v := zI (l5_45 + 1)) (lv' := [(5, .int (zI (l5_45 + 1))), (0, .ref h), (1, .int (zI x0)), (2, .int (zI x1)), (3, .int (zI l3_45)), (4, .int (zI l4_45)), (6, .int (zI l6_96)), (7, .int (zI l7_96))]) C.1 C.2.1 dX12_ruleOf_172 hl (k := 5) rfl (zI_inc _ _ (by decide)) (by decide) rfl (fun ls hl => ?_)
                replace hl := lv_sub hl [1, 2, 3, 4, 5, 0, 6, 7] rfl
                refine lv_goto (tgt := 45) C.1 C.2.1 dX12_ruleOf_175 (by decide) ?_
                obtain ⟨g175_0, hw⟩ := hw
                exact hL45 _ _ _ _ _ hw _ _ _ ⟨g_l3_45, g_l4_45, g175_0, wMc Wd rfl rfl ⟨(rsI hS.1 (Wc152.2.1 33)), (rsF hS.2 q89)⟩, lv_sub hl [0, 1, 2, 3, 4, 5] rfl⟩
          · have hw := hw.2 (z_nle (show rng 3 from by decide) g_l7_96 c99)
            refine lv_iload C.1 C.2.1 dX12_ruleOf_102 (lv_at hl 6 rfl) ?_
            refine lv_if_eq (tgt := 136) C.1 C.2.1 dX12_ruleOf_104 (by decide) (fun c104 => ?_) (fun c104 => ?_)
            · have hw := hw.1 (z0_eq g_l6_96 c104)
              refine lv_iconst (v := zI 0) C.1 C.2.1 dX12_ruleOf_136 (by decide) ?_
              refine lv_istore (lv' := [(6, .int (zI 0)), (0, .ref h), (1, .int (zI x0)), (2, .int (zI x1)), (3, .int (zI l3_45)), (4, .int (zI l4_45)), (5, .int (zI l5_45)), (7, .int (zI l7_96))]) C.1 C.2.1 dX12_ruleOf_137 hl (by decide) rfl (fun ls hl => ?_)
              replace hl := lv_sub hl [1, 2, 3, 4, 5, 6, 0, 7] rfl
              refine lv_iinc (v := zI (l7_96 + 1)) (lv' := [(7, .int (zI (l7_96 + 1))), (0, .ref h), (1, .int (zI x0)), (2, .int (zI x1)), (3, .int (zI l3_45)), (4, .int (zI l4_45)), (5, .int (zI l5_45)), (6, .int (zI 0))]) C.1 C.2.1 dX12_ruleOf_139 hl (k := 7) rfl (zI_inc _ _ (by decide)) (by decide) rfl (fun ls hl => ?_)
              replace hl := lv_sub hl [1, 2, 3, 4, 5, 6, 7, 0] rfl
              refine lv_goto (tgt := 96) C.1 C.2.1 dX12_ruleOf_142 (by decide) ?_
              obtain ⟨g142_0, hw⟩ := hw
              exact hL96 _ _ hw _ _ _ ⟨(show rng 0 from by decide), g142_0, wMc Wd rfl rfl ⟨(rsI hS.1 (Wd45.2.1 33)), (rsF hS.2 q89)⟩, lv_sub hl [0, 1, 2, 3, 4, 5, 6, 7] rfl⟩
            · have hw := hw.2 (z0_ne g_l6_96 c104)
              refine lv_aload_n C.1 C.2.1 dX12_ruleOf_107 rfl (lv_at hl 0 rfl) ?_
              refine k_get (v := .ref (ad 41)) C Wd.1 KX12 0 41 wM0 (by decide) fl_X12_56 rfl dX12_ruleOf_108 ?_
              refine lv_iload C.1 C.2.1 dX12_ruleOf_111 (lv_at hl 7 rfl) ?_
              obtain ⟨a113, hw⟩ := hw
              refine k_ialdM (g := f89) C Wd 15 14 rfl rfl a113 (by decide) dX12_ruleOf_113 ?_
              have g113 : rng (f89 l7_96) := rngL q89 a113
              refine lv_if_eq (tgt := 132) C.1 C.2.1 dX12_ruleOf_114 (by decide) (fun c114 => ?_) (fun c114 => ?_)
              · have hw := hw.1 (z0_eq g113 c114)
                refine lv_iconst (v := zI 1) C.1 C.2.1 dX12_ruleOf_132 (by decide) ?_
                refine lv_goto (tgt := 137) C.1 C.2.1 dX12_ruleOf_133 (by decide) ?_
                refine lv_istore (lv' := [(6, .int (zI 1)), (0, .ref h), (1, .int (zI x0)), (2, .int (zI x1)), (3, .int (zI l3_45)), (4, .int (zI l4_45)), (5, .int (zI l5_45)), (7, .int (zI l7_96))]) C.1 C.2.1 dX12_ruleOf_137 hl (by decide) rfl (fun ls hl => ?_)
                replace hl := lv_sub hl [1, 2, 3, 4, 5, 6, 0, 7] rfl
                refine lv_iinc (v := zI (l7_96 + 1)) (lv' := [(7, .int (zI (l7_96 + 1))), (0, .ref h), (1, .int (zI x0)), (2, .int (zI x1)), (3, .int (zI l3_45)), (4, .int (zI l4_45)), (5, .int (zI l5_45)), (6, .int (zI 1))]) C.1 C.2.1 dX12_ruleOf_139 hl (k := 7) rfl (zI_inc _ _ (by decide)) (by decide) rfl (fun ls hl => ?_)
                replace hl := lv_sub hl [1, 2, 3, 4, 5, 6, 7, 0] rfl
                refine lv_goto (tgt := 96) C.1 C.2.1 dX12_ruleOf_142 (by decide) ?_
                obtain ⟨g142_0, hw⟩ := hw
                exact hL96 _ _ hw _ _ _ ⟨(show rng 1 from by decide), g142_0, wMc Wd rfl rfl ⟨(rsI hS.1 (Wd45.2.1 33)), (rsF hS.2 q89)⟩, lv_sub hl [0, 1, 2, 3, 4, 5, 6, 7] rfl⟩
              · have hw := hw.2 (z0_ne g113 c114)
                refine lv_aload_n C.1 C.2.1 dX12_ruleOf_117 rfl (lv_at hl 0 rfl) ?_
                refine k_get (v := .ref (ad 27)) C Wd.1 KX12 0 27 wM0 (by decide) fl_X12_38 rfl dX12_ruleOf_118 ?_
                refine lv_iload_n C.1 C.2.1 dX12_ruleOf_121 rfl (lv_at hl 1 rfl) ?_
                obtain ⟨a122, hw⟩ := hw
                refine k_ialdM (g := (F 27)) C Wd 9 8 rfl rfl a122 (by decide) dX12_ruleOf_122 ?_
                have g122 : rng ((F 27) x0) := rngL (hS.2 27) a122
                refine lv_iload C.1 C.2.1 dX12_ruleOf_123 (lv_at hl 7 rfl) ?_
                refine k_ishr (v := zI (zishr ((F 27) x0) l7_96)) C (zishr_eq _ _) dX12_ruleOf_125 ?_
                refine lv_iconst (v := zI 1) C.1 C.2.1 dX12_ruleOf_126 (by decide) ?_
                refine k_iand (v := zI (ziand (zishr ((F 27) x0) l7_96) 1)) C (ziand_eq _ _) dX12_ruleOf_127 ?_
                refine lv_iconst (v := zI 1) C.1 C.2.1 dX12_ruleOf_128 (by decide) ?_
                refine lv_icmp_ne (tgt := 136) C.1 C.2.1 dX12_ruleOf_129 (by decide) (fun c129 => ?_) (fun c129 => ?_)
                · have hw := hw.1 (z_ne (rng_toInt _) (show rng 1 from by decide) c129)
                  refine lv_iconst (v := zI 0) C.1 C.2.1 dX12_ruleOf_136 (by decide) ?_
                  refine lv_istore (lv' := [(6, .int (zI 0)), (0, .ref h), (1, .int (zI x0)), (2, .int (zI x1)), (3, .int (zI l3_45)), (4, .int (zI l4_45)), (5, .int (zI l5_45)), (7, .int (zI l7_96))]) C.1 C.2.1 dX12_ruleOf_137 hl (by decide) rfl (fun ls hl => ?_)
                  replace hl := lv_sub hl [1, 2, 3, 4, 5, 6, 0, 7] rfl
                  refine lv_iinc (v := zI (l7_96 + 1)) (lv' := [(7, .int (zI (l7_96 + 1))), (0, .ref h), (1, .int (zI x0)), (2, .int (zI x1)), (3, .int (zI l3_45)), (4, .int (zI l4_45)), (5, .int (zI l5_45)), (6, .int (zI 0))]) C.1 C.2.1 dX12_ruleOf_139 hl (k := 7) rfl (zI_inc _ _ (by decide)) (by decide) rfl (fun ls hl => ?_)
                  replace hl := lv_sub hl [1, 2, 3, 4, 5, 6, 7, 0] rfl
                  refine lv_goto (tgt := 96) C.1 C.2.1 dX12_ruleOf_142 (by decide) ?_
                  obtain ⟨g142_0, hw⟩ := hw
                  exact hL96 _ _ hw _ _ _ ⟨(show rng 0 from by decide), g142_0, wMc Wd rfl rfl ⟨(rsI hS.1 (Wd45.2.1 33)), (rsF hS.2 q89)⟩, lv_sub hl [0, 1, 2, 3, 4, 5, 6, 7] rfl⟩
                · have hw := hw.2 (z_eq (rng_toInt _) (show rng 1 from by decide) c129)
                  refine lv_iconst (v := zI 1) C.1 C.2.1 dX12_ruleOf_132 (by decide) ?_
                  refine lv_goto (tgt := 137) C.1 C.2.1 dX12_ruleOf_133 (by decide) ?_
                  refine lv_istore (lv' := [(6, .int (zI 1)), (0, .ref h), (1, .int (zI x0)), (2, .int (zI x1)), (3, .int (zI l3_45)), (4, .int (zI l4_45)), (5, .int (zI l5_45)), (7, .int (zI l7_96))]) C.1 C.2.1 dX12_ruleOf_137 hl (by decide) rfl (fun ls hl => ?_)
                  replace hl := lv_sub hl [1, 2, 3, 4, 5, 6, 0, 7] rfl
                  refine lv_iinc (v := zI (l7_96 + 1)) (lv' := [(7, .int (zI (l7_96 + 1))), (0, .ref h), (1, .int (zI x0)), (2, .int (zI x1)), (3, .int (zI l3_45)), (4, .int (zI l4_45)), (5, .int (zI l5_45)), (6, .int (zI 1))]) C.1 C.2.1 dX12_ruleOf_139 hl (k := 7) rfl (zI_inc _ _ (by decide)) (by decide) rfl (fun ls hl => ?_)
                  replace hl := lv_sub hl [1, 2, 3, 4, 5, 6, 7, 0] rfl
                  refine lv_goto (tgt := 96) C.1 C.2.1 dX12_ruleOf_142 (by decide) ?_
                  obtain ⟨g142_0, hw⟩ := hw
                  exact hL96 _ _ hw _ _ _ ⟨(show rng 1 from by decide), g142_0, wMc Wd rfl rfl ⟨(rsI hS.1 (Wd45.2.1 33)), (rsF hS.2 q89)⟩, lv_sub hl [0, 1, 2, 3, 4, 5, 6, 7] rfl⟩
      · have hw := hw.2 (z_eq g_x1 (show rng 2 from by decide) c28)
        refine lv_aload_n C.1 C.2.1 dX12_ruleOf_31 rfl (lv_at hl 0 rfl) ?_
        refine lv_iload_n C.1 C.2.1 dX12_ruleOf_32 rfl (lv_at hl 1 rfl) ?_
        refine k_cMi Wd (k_runVM (rest := []) C aks Wd cs_X12_348 (mt_sameForms D h ad ca I F Wd.2 x0 g_x0 _ hw l _) rfl rfl ⟨(Nat.le_of_ble_eq_true rfl), (Nat.le_of_ble_eq_true rfl)⟩ hl.1 rfl rfl (Nat.le_of_ble_eq_true rfl) ⟨(Nat.le_of_ble_eq_true rfl), (Nat.le_of_ble_eq_true rfl)⟩ dX12_ruleOf_33) (fun r33 u33 H locs g_r33 hw Wd => ?_)
        obtain ⟨cursor_r33, form_r33, isForm_r33, product_r33⟩ := u33
        dsimp only at hw
        have Wc33 := Wd
        have Wd : wXM D ca s h ad (sI (sI I 33 cursor_r33) 43 isForm_r33) (sF (sF F 42 form_r33) 44 product_r33) H A s.heap locs := wMc Wd rfl rfl ⟨(rsI (rsI hS.1 (Wc33.2.1 33)) (Wc33.2.1 43)), (rsF (rsF hS.2 (fun j => Wc33.2.2 42 j)) (fun j => Wc33.2.2 44 j))⟩
        exact k_retMi C hr hlk rfl Wd (u := (cursor_r33, (F 41), form_r33, isForm_r33, product_r33)) rfl rfl ⟨⟨_, rfl, g_r33, hw⟩, ⟨(rsI (rsI hS.1 (Wc33.2.1 33)) (Wc33.2.1 43)), (rsF (rsF (rsF hS.2 (hS.2 41)) (fun j => Wc33.2.2 42 j)) (fun j => Wc33.2.2 44 j))⟩⟩ dX12_ruleOf_36
    · have hw := hw.2 (z0_eq g_r17 c20)
      refine lv_bipush (v := zI (-2)) C.1 C.2.1 dX12_ruleOf_23 (by decide) ?_
      exact k_retMi C hr hlk rfl Wd (u := ((I 33), (F 41), (F 42), (I 43), (F 44))) rfl rfl ⟨⟨_, rfl, (show rng (-2) from by decide), hw⟩, ⟨(rsI (rsI hS.1 (hS.1 33)) (hS.1 43)), (rsF (rsF (rsF hS.2 (hS.2 41)) (hS.2 42)) (hS.2 44))⟩⟩ dX12_ruleOf_25
set_option maxHeartbeats 4000000 in
set_option maxRecDepth 100000 in
theorem mt_sameParts : ∀ (D : va_G) (h : Nat) (ad : Nat → Nat) (ca : Nat → ClassId) (I : Nat → Int) (F : Nat → Int → Int) (hS : rngS I F) (x0 : Int) (x1 : Int) (g_x0 : rng x0) (g_x1 : rng x1) (K : Int → Prop) (hw : wp_sameParts (F 2) x0 x1 K) (l : Launch) (sz : Nat), Met l yX12_sameParts (Cond.code yX12_sameParts cX12_sameParts 6 (some .boolean) :: gG) { frames := 504, cells := 0, slots := 0, locals := 10647 } (cPre D (tM ca) (wM h ad ca I F) sz [.ref h, .int (zI x0), .int (zI x1)]) (vp_Si (fun r => ∃ x : Int, r = zI x ∧ rng x ∧ K x)) 0 0 (fun _ => False) := by
  intro D h ad ca I F hS x0 x1 g_x0 g_x1 K hw l sz
  refine Met.ofW (cc := cX12_sameParts) (maxL := 6) (ret := (some .boolean)) (by decide) rfl ?_
  intro p e s m args below meth c s₁ B hml hv
  obtain ⟨rfl, aks, rfl, Wd⟩ := k_enter hv
  have C : CallFix p m c cX12_sameParts 6 s _ gG RX12 := ⟨B.exec, B.bytes, hml, findClass_of_methodNamed B.named, fun w h => atoms_spec (ws := Cond.code yX12_sameParts cX12_sameParts 6 (some .boolean) :: gG) B.pre w (List.mem_cons_of_mem _ h)⟩
  have hr := B.returns
  have hlk := B.notSynchronized
  obtain ⟨A, Wd⟩ : ∃ A, wXM D ca s h ad I F s.heap A s.heap [] := ⟨_, Wd, hS⟩
  refine k_locals (Nat.le_of_ble_eq_true rfl) [(0, .ref h), (1, .int (zI x0)), (2, .int (zI x1))] rfl (fun ls hl => ?_)
  unfold wp_sameParts at hw
  refine lv_aload_n C.1 C.2.1 dX12_sameParts_0 rfl (lv_at hl 0 rfl) ?_
  refine lv_iload_n C.1 C.2.1 dX12_sameParts_1 rfl (lv_at hl 1 rfl) ?_
  refine k_pi (k_runVM (rest := []) C aks Wd cs_X12_94 (mt_endOf D h ad ca I F Wd.2 x0 g_x0 _ hw l _) rfl rfl ⟨(Nat.le_of_ble_eq_true rfl), (Nat.le_of_ble_eq_true rfl)⟩ hl.1 rfl rfl (Nat.le_of_ble_eq_true rfl) ⟨(Nat.le_of_ble_eq_true rfl), (Nat.le_of_ble_eq_true rfl)⟩ dX12_sameParts_2) (fun y2 hy => ?_)
  obtain ⟨r2, rfl, g_r2, hw⟩ := hy
  refine lv_iload_n C.1 C.2.1 dX12_sameParts_5 rfl (lv_at hl 1 rfl) ?_
  refine k_isub (v := zI (r2 - x0)) C (zI_isub _ _) dX12_sameParts_6 ?_
  refine lv_istore_n (lv' := [(3, .int (zI (r2 - x0))), (0, .ref h), (1, .int (zI x0)), (2, .int (zI x1))]) C.1 C.2.1 dX12_sameParts_7 rfl hl (by decide) rfl (fun ls hl => ?_)
  replace hl := lv_sub hl [1, 2, 3, 0] rfl
  refine lv_aload_n C.1 C.2.1 dX12_sameParts_8 rfl (lv_at hl 0 rfl) ?_
  refine lv_iload_n C.1 C.2.1 dX12_sameParts_9 rfl (lv_at hl 2 rfl) ?_
  refine k_pi (k_runVM (rest := []) C aks Wd cs_X12_94 (mt_endOf D h ad ca I F Wd.2 x1 g_x1 _ hw l _) rfl rfl ⟨(Nat.le_of_ble_eq_true rfl), (Nat.le_of_ble_eq_true rfl)⟩ hl.1 rfl rfl (Nat.le_of_ble_eq_true rfl) ⟨(Nat.le_of_ble_eq_true rfl), (Nat.le_of_ble_eq_true rfl)⟩ dX12_sameParts_10) (fun y10 hy => ?_)
  obtain ⟨r10, rfl, g_r10, hw⟩ := hy
  refine lv_iload_n C.1 C.2.1 dX12_sameParts_13 rfl (lv_at hl 2 rfl) ?_
  refine k_isub (v := zI (r10 - x1)) C (zI_isub _ _) dX12_sameParts_14 ?_
  refine lv_iload_n C.1 C.2.1 dX12_sameParts_15 rfl (lv_at hl 3 rfl) ?_
  refine k_cut1 (fun (s0_24 : Int) H locs ls => rng s0_24 ∧ wp_sameParts_24 K (F 2) x0 x1 r2 s0_24 ∧ wXM D ca s h ad I F H A s.heap locs ∧ H = s.heap ∧ locs = [] ∧ lv_has ls 6 [(0, .ref h), (1, .int (zI x0)), (2, .int (zI x1)), (3, .int (zI (r2 - x0)))]) (fun (s0_24 : Int) ls => F0 m 24 ls [.int (zI s0_24)]) (fun s0_24 H locs ls hi => ?_) (fun J24 => ?_)
  · obtain ⟨g_s0_24, hw, Wd, rfl, rfl, hl⟩ := hi
    have Wd24 := Wd
    unfold wp_sameParts_24 at hw
    refine lv_istore (lv' := [(4, .int (zI s0_24)), (0, .ref h), (1, .int (zI x0)), (2, .int (zI x1)), (3, .int (zI (r2 - x0)))]) C.1 C.2.1 dX12_sameParts_24 hl (by decide) rfl (fun ls hl => ?_)
    replace hl := lv_sub hl [1, 2, 3, 4, 0] rfl
    refine lv_iconst (v := zI 0) C.1 C.2.1 dX12_sameParts_26 (by decide) ?_
    refine lv_istore (lv' := [(5, .int (zI 0)), (0, .ref h), (1, .int (zI x0)), (2, .int (zI x1)), (3, .int (zI (r2 - x0))), (4, .int (zI s0_24))]) C.1 C.2.1 dX12_sameParts_27 hl (by decide) rfl (fun ls hl => ?_)
    replace hl := lv_sub hl [1, 2, 3, 4, 5, 0] rfl
    refine k_lp2 hw (fun (l4_29 : Int) (l5_29 : Int) H locs ls => rng l4_29 ∧ rng l5_29 ∧ wXM D ca s h ad I F H A s.heap locs ∧ H = s.heap ∧ locs = [] ∧ lv_has ls 6 [(0, .ref h), (1, .int (zI x0)), (2, .int (zI x1)), (3, .int (zI (r2 - x0))), (4, .int (zI l4_29)), (5, .int (zI l5_29))]) (fun (l4_29 : Int) (l5_29 : Int) ls => F0 m 29 ls []) (fun L29 hL29 l4_29 l5_29 hw H locs ls hi => ?_) _ _ _ ⟨g_s0_24, (show rng 0 from by decide), Wd, rfl, rfl, lv_sub hl [0, 1, 2, 3, 4, 5] rfl⟩
    obtain ⟨g_l4_29, g_l5_29, Wd, rfl, rfl, hl⟩ := hi
    have Wd29 := Wd
    unfold wp_sameParts_29 at hw
    refine lv_iload C.1 C.2.1 dX12_sameParts_29 (lv_at hl 5 rfl) ?_
    refine lv_iload_n C.1 C.2.1 dX12_sameParts_31 rfl (lv_at hl 3 rfl) ?_
    obtain ⟨g32_0, hw⟩ := hw
    refine lv_icmp_ge (tgt := 74) C.1 C.2.1 dX12_sameParts_32 (by decide) (fun c32 => ?_) (fun c32 => ?_)
    · have hw := hw.1 (z_le g32_0 g_l5_29 c32)
      refine lv_iload C.1 C.2.1 dX12_sameParts_74 (lv_at hl 4 rfl) ?_
      obtain ⟨b76_0, hw⟩ := hw
      exact k_zretP C hr hlk (zI_nb b76_0) ⟨_, rfl, g_l4_29, hw⟩ dX12_sameParts_76
    · have hw := hw.2 (z_nle g32_0 g_l5_29 c32)
      refine lv_iload C.1 C.2.1 dX12_sameParts_35 (lv_at hl 4 rfl) ?_
      refine lv_if_eq (tgt := 74) C.1 C.2.1 dX12_sameParts_37 (by decide) (fun c37 => ?_) (fun c37 => ?_)
      · have hw := hw.1 (z0_eq g_l4_29 c37)
        refine lv_iload C.1 C.2.1 dX12_sameParts_74 (lv_at hl 4 rfl) ?_
        obtain ⟨b76_0, hw⟩ := hw
        exact k_zretP C hr hlk (zI_nb b76_0) ⟨_, rfl, g_l4_29, hw⟩ dX12_sameParts_76
      · have hw := hw.2 (z0_ne g_l4_29 c37)
        refine lv_aload_n C.1 C.2.1 dX12_sameParts_40 rfl (lv_at hl 0 rfl) ?_
        refine k_get (v := .ref (ad 2)) C Wd.1 KX12 0 2 wM0 (by decide) fl_X12_16 rfl dX12_sameParts_41 ?_
        refine lv_iload_n C.1 C.2.1 dX12_sameParts_44 rfl (lv_at hl 1 rfl) ?_
        refine lv_iload C.1 C.2.1 dX12_sameParts_45 (lv_at hl 5 rfl) ?_
        refine k_iadd (v := zI (x0 + l5_29)) C (zI_iadd _ _) dX12_sameParts_47 ?_
        obtain ⟨a48, hw⟩ := hw
        refine k_ialdM (g := (F 2)) C Wd 3 2 rfl rfl a48 (by decide) dX12_sameParts_48 ?_
        have g48 : rng ((F 2) (x0 + l5_29)) := rngL (hS.2 2) a48
        refine lv_aload_n C.1 C.2.1 dX12_sameParts_49 rfl (lv_at hl 0 rfl) ?_
        refine k_get (v := .ref (ad 2)) C Wd.1 KX12 0 2 wM0 (by decide) fl_X12_16 rfl dX12_sameParts_50 ?_
        refine lv_iload_n C.1 C.2.1 dX12_sameParts_53 rfl (lv_at hl 2 rfl) ?_
        refine lv_iload C.1 C.2.1 dX12_sameParts_54 (lv_at hl 5 rfl) ?_
        refine k_iadd (v := zI (x1 + l5_29)) C (zI_iadd _ _) dX12_sameParts_56 ?_
        obtain ⟨a57, hw⟩ := hw
        refine k_ialdM (g := (F 2)) C Wd 3 2 rfl rfl a57 (by decide) dX12_sameParts_57 ?_
        have g57 : rng ((F 2) (x1 + l5_29)) := rngL (hS.2 2) a57
        refine lv_icmp_ne (tgt := 65) C.1 C.2.1 dX12_sameParts_58 (by decide) (fun c58 => ?_) (fun c58 => ?_)
        · have hw := hw.1 (z_ne g48 g57 c58)
          refine lv_iconst (v := zI 0) C.1 C.2.1 dX12_sameParts_65 (by decide) ?_
          refine lv_istore (lv' := [(4, .int (zI 0)), (0, .ref h), (1, .int (zI x0)), (2, .int (zI x1)), (3, .int (zI (r2 - x0))), (5, .int (zI l5_29))]) C.1 C.2.1 dX12_sameParts_66 hl (by decide) rfl (fun ls hl => ?_)
          replace hl := lv_sub hl [1, 2, 3, 4, 0, 5] rfl
          refine lv_iinc (v := zI (l5_29 + 1)) (lv' := [(5, .int (zI (l5_29 + 1))), (0, .ref h), (1, .int (zI x0)), (2, .int (zI x1)), (3, .int (zI (r2 - x0))), (4, .int (zI 0))]) C.1 C.2.1 dX12_sameParts_68 hl (k := 5) rfl (zI_inc _ _ (by decide)) (by decide) rfl (fun ls hl => ?_)
          replace hl := lv_sub hl [1, 2, 3, 4, 5, 0] rfl
          refine lv_goto (tgt := 29) C.1 C.2.1 dX12_sameParts_71 (by decide) ?_
          obtain ⟨g71_0, hw⟩ := hw
          exact hL29 _ _ hw _ _ _ ⟨(show rng 0 from by decide), g71_0, Wd, rfl, rfl, lv_sub hl [0, 1, 2, 3, 4, 5] rfl⟩
        · have hw := hw.2 (z_eq g48 g57 c58)
          refine lv_iconst (v := zI 1) C.1 C.2.1 dX12_sameParts_61 (by decide) ?_
          refine lv_goto (tgt := 66) C.1 C.2.1 dX12_sameParts_62 (by decide) ?_
          refine lv_istore (lv' := [(4, .int (zI 1)), (0, .ref h), (1, .int (zI x0)), (2, .int (zI x1)), (3, .int (zI (r2 - x0))), (5, .int (zI l5_29))]) C.1 C.2.1 dX12_sameParts_66 hl (by decide) rfl (fun ls hl => ?_)
          replace hl := lv_sub hl [1, 2, 3, 4, 0, 5] rfl
          refine lv_iinc (v := zI (l5_29 + 1)) (lv' := [(5, .int (zI (l5_29 + 1))), (0, .ref h), (1, .int (zI x0)), (2, .int (zI x1)), (3, .int (zI (r2 - x0))), (4, .int (zI 1))]) C.1 C.2.1 dX12_sameParts_68 hl (k := 5) rfl (zI_inc _ _ (by decide)) (by decide) rfl (fun ls hl => ?_)
          replace hl := lv_sub hl [1, 2, 3, 4, 5, 0] rfl
          refine lv_goto (tgt := 29) C.1 C.2.1 dX12_sameParts_71 (by decide) ?_
          obtain ⟨g71_0, hw⟩ := hw
          exact hL29 _ _ hw _ _ _ ⟨(show rng 1 from by decide), g71_0, Wd, rfl, rfl, lv_sub hl [0, 1, 2, 3, 4, 5] rfl⟩
  obtain ⟨g16_0, hw⟩ := hw
  obtain ⟨g16_1, hw⟩ := hw
  refine lv_icmp_ne (tgt := 23) C.1 C.2.1 dX12_sameParts_16 (by decide) (fun c16 => ?_) (fun c16 => ?_)
  · have hw := hw.1 (z_ne g16_0 g16_1 c16)
    refine lv_iconst (v := zI 0) C.1 C.2.1 dX12_sameParts_23 (by decide) ?_
    exact J24 0 _ _ _ ⟨(show rng 0 from by decide), hw, Wd, rfl, rfl, lv_sub hl [0, 1, 2, 3] rfl⟩
  · have hw := hw.2 (z_eq g16_0 g16_1 c16)
    refine lv_iconst (v := zI 1) C.1 C.2.1 dX12_sameParts_19 (by decide) ?_
    refine lv_goto (tgt := 24) C.1 C.2.1 dX12_sameParts_20 (by decide) ?_
    exact J24 1 _ _ _ ⟨(show rng 1 from by decide), hw, Wd, rfl, rfl, lv_sub hl [0, 1, 2, 3] rfl⟩
set_option maxHeartbeats 4000000 in
set_option maxRecDepth 100000 in
theorem mg_fits (n : Nat) : (∀ (D : va_G) (h : Nat) (ad : Nat → Nat) (ca : Nat → ClassId) (I : Nat → Int) (F : Nat → Int → Int) (hS : rngS I F) (x0 : Int) (x1 : Int) (g_x0 : rng x0) (g_x1 : rng x1) (K : Int → (Int → Int) → Int → Prop) (hw : wp_fits n (F 2) (F 24) (F 45) (I 46) x0 x1 K) (l : Launch) (sz : Nat), Met l yX12_fits (Cond.code yX12_fits cX12_fits 5 (some .boolean) :: gG) { frames := 506 + n, cells := 0, slots := 0, locals := 10712 + 24 * n } (cPre D (tM ca) (wM h ad ca I F) sz [.ref h, .int (zI x0), .int (zI x1)]) (va_Qi (fun (r : Int32) (u : (Int → Int) × (Int)) => (∃ x : Int, r = zI x ∧ rng x ∧ K x u.1 u.2) ∧ rngS (sI I 46 u.2) (sF F 45 u.1)) (fun u t => cB D (va_A (wM h ad ca I F) sz) [] (wM h ad ca (sI I 46 u.2) (sF F 45 u.1)) t) (va_A (wM h ad ca I F) sz)) 0 0 (va_A (wM h ad ca I F) sz)) := by
  induction n with
  | zero => exact (fun _ _ _ _ _ _ _ _ _ _ _ _ hw => absurd hw id)
  | succ n ih =>
    have ih_fits := ih
    intro D h ad ca I F hS x0 x1 g_x0 g_x1 K hw l sz
    refine Met.ofW (cc := cX12_fits) (maxL := 5) (ret := (some .boolean)) (by decide) rfl ?_
    intro p e s m args below meth c s₁ B hml hv
    obtain ⟨rfl, aks, rfl, Wd⟩ := k_enter hv
    have C : CallFix p m c cX12_fits 5 s _ gG RX12 := ⟨B.exec, B.bytes, hml, findClass_of_methodNamed B.named, fun w h => atoms_spec (ws := Cond.code yX12_fits cX12_fits 5 (some .boolean) :: gG) B.pre w (List.mem_cons_of_mem _ h)⟩
    have hr := B.returns
    have hlk := B.notSynchronized
    generalize va_A (wM h ad ca I F) s.heap.size = A at Wd ⊢
    replace Wd : wXM D ca s h ad I F s.heap A s.heap [] := ⟨Wd, hS⟩
    refine k_locals (Nat.le_of_ble_eq_true rfl) [(0, .ref h), (1, .int (zI x0)), (2, .int (zI x1))] rfl (fun ls hl => ?_)
    replace hw : wp_fits_b (wp_fits n) (F 2) (F 24) (F 45) (I 46) x0 x1 K := hw
    unfold wp_fits_b at hw
    refine lv_aload_n C.1 C.2.1 dX12_fits_0 rfl (lv_at hl 0 rfl) ?_
    refine k_get (v := .ref (ad 24)) C Wd.1 KX12 0 24 wM0 (by decide) fl_X12_29 rfl dX12_fits_1 ?_
    refine lv_bipush (v := zI 40) C.1 C.2.1 dX12_fits_4 (by decide) ?_
    refine lv_iload_n C.1 C.2.1 dX12_fits_6 rfl (lv_at hl 1 rfl) ?_
    refine k_imul (v := zI (40 * x0)) C (zI_imul _ _) dX12_fits_7 ?_
    refine lv_aload_n C.1 C.2.1 dX12_fits_8 rfl (lv_at hl 0 rfl) ?_
    refine k_get (v := .int (zI (I 46))) C Wd.1 KX12 0 46 wM0 (by decide) fl_X12_354 rfl dX12_fits_9 ?_
    refine k_iadd (v := zI ((40 * x0) + (I 46))) C (zI_iadd _ _) dX12_fits_12 ?_
    obtain ⟨a13, hw⟩ := hw
    refine k_ialdM (g := (F 24)) C Wd 6 5 rfl rfl a13 (by decide) dX12_fits_13 ?_
    have g13 : rng ((F 24) ((40 * x0) + (I 46))) := rngL (hS.2 24) a13
    refine lv_istore_n (lv' := [(3, .int (zI ((F 24) ((40 * x0) + (I 46))))), (0, .ref h), (1, .int (zI x0)), (2, .int (zI x1))]) C.1 C.2.1 dX12_fits_14 rfl hl (by decide) rfl (fun ls hl => ?_)
    replace hl := lv_sub hl [1, 2, 3, 0] rfl
    refine lv_aload_n C.1 C.2.1 dX12_fits_15 rfl (lv_at hl 0 rfl) ?_
    refine lv_dup C.1 C.2.1 dX12_fits_16 rfl ?_
    refine k_get (v := .int (zI (I 46))) C Wd.1 KX12 0 46 wM0 (by decide) fl_X12_354 rfl dX12_fits_17 ?_
    refine lv_iconst (v := zI 1) C.1 C.2.1 dX12_fits_20 (by decide) ?_
    refine k_iadd (v := zI ((I 46) + 1)) C (zI_iadd _ _) dX12_fits_21 ?_
    obtain ⟨g22_0, hw⟩ := hw
    refine k_putM C Wd 46 (sI I 46 ((I 46) + 1)) (by decide) fl_X12_354 rfl rfl rfl rfl (rsI hS.1 g22_0) dX12_fits_22 (fun H locs Wd => ?_)
    refine lv_iload_n C.1 C.2.1 dX12_fits_25 rfl (lv_at hl 3 rfl) ?_
    refine lv_bipush (v := zI 30) C.1 C.2.1 dX12_fits_26 (by decide) ?_
    refine lv_bipush (v := zI 32) C.1 C.2.1 dX12_fits_28 (by decide) ?_
    refine k_pi (k_runS (rest := []) C aks Wd.1 cs_X12_90 (mt_isIn D ((F 24) ((40 * x0) + (I 46))) 30 32 g13 (show rng 30 from by decide) (show rng 32 from by decide) _ hw l _) [] rfl (by decide) [] rfl rfl rfl ⟨(by show 1 + 1 ≤ 506 + (n + 1); omega), (by show 8 + (3 + 11) + (64) ≤ 10712 + 24 * (n + 1); omega)⟩ hl.1 rfl rfl (Nat.le_of_ble_eq_true rfl) ⟨(Nat.le_of_ble_eq_true rfl), (Nat.le_of_ble_eq_true rfl)⟩ dX12_fits_30) (fun y30 hy => ?_)
    obtain ⟨r30, rfl, g_r30, hw⟩ := hy
    refine lv_if_eq (tgt := 76) C.1 C.2.1 dX12_fits_33 (by decide) (fun c33 => ?_) (fun c33 => ?_)
    · have hw := hw.1 (z0_eq g_r30 c33)
      refine lv_aload_n C.1 C.2.1 dX12_fits_76 rfl (lv_at hl 0 rfl) ?_
      refine k_get (v := .ref (ad 2)) C Wd.1 KX12 0 2 wM0 (by decide) fl_X12_16 rfl dX12_fits_77 ?_
      refine lv_iload_n C.1 C.2.1 dX12_fits_80 rfl (lv_at hl 2 rfl) ?_
      obtain ⟨a81, hw⟩ := hw
      refine k_ialdM (g := (F 2)) C Wd 3 2 rfl rfl a81 (by decide) dX12_fits_81 ?_
      have g81 : rng ((F 2) x1) := rngL (hS.2 2) a81
      refine lv_iload_n C.1 C.2.1 dX12_fits_82 rfl (lv_at hl 3 rfl) ?_
      refine lv_icmp_eq (tgt := 88) C.1 C.2.1 dX12_fits_83 (by decide) (fun c83 => ?_) (fun c83 => ?_)
      · have hw := hw.1 (z_eq g81 g13 c83)
        refine lv_iload_n C.1 C.2.1 dX12_fits_88 rfl (lv_at hl 3 rfl) ?_
        refine lv_bipush (v := zI 120) C.1 C.2.1 dX12_fits_89 (by decide) ?_
        refine lv_icmp_ge (tgt := 96) C.1 C.2.1 dX12_fits_91 (by decide) (fun c91 => ?_) (fun c91 => ?_)
        · have hw := hw.1 (z_le (show rng 120 from by decide) g13 c91)
          refine lv_aload_n C.1 C.2.1 dX12_fits_96 rfl (lv_at hl 0 rfl) ?_
          refine lv_iload_n C.1 C.2.1 dX12_fits_97 rfl (lv_at hl 1 rfl) ?_
          refine lv_iload_n C.1 C.2.1 dX12_fits_98 rfl (lv_at hl 2 rfl) ?_
          refine lv_iconst (v := zI 1) C.1 C.2.1 dX12_fits_99 (by decide) ?_
          refine k_iadd (v := zI (x1 + 1)) C (zI_iadd _ _) dX12_fits_100 ?_
          obtain ⟨g101_0, hw⟩ := hw
          refine k_cMi Wd (k_runVM (rest := []) C aks Wd cs_X12_361 (ih_fits D h ad ca (sI I 46 ((I 46) + 1)) F Wd.2 x0 (x1 + 1) g_x0 g101_0 _ hw l _) rfl rfl ⟨(by show 506 + n + 1 ≤ 506 + (n + 1); omega), (by show 8 + (5 + 11) + (10712 + 24 * n) ≤ 10712 + 24 * (n + 1); omega)⟩ hl.1 rfl rfl (Nat.le_of_ble_eq_true rfl) ⟨(Nat.le_of_ble_eq_true rfl), (Nat.le_of_ble_eq_true rfl)⟩ dX12_fits_101) (fun r101 u101 H locs g_r101 hw Wd => ?_)
          obtain ⟨bound_r101, patternAt_r101⟩ := u101
          dsimp only at hw
          have Wc101 := Wd
          have Wd : wXM D ca s h ad (sI I 46 patternAt_r101) (sF F 45 bound_r101) H A s.heap locs := wMc Wd rfl rfl ⟨(rsI hS.1 (Wc101.2.1 46)), (rsF hS.2 (fun j => Wc101.2.2 45 j))⟩
          refine lv_if_eq (tgt := 126) C.1 C.2.1 dX12_fits_104 (by decide) (fun c104 => ?_) (fun c104 => ?_)
          · have hw := hw.1 (z0_eq g_r101 c104)
            refine lv_iconst (v := zI 0) C.1 C.2.1 dX12_fits_126 (by decide) ?_
            exact k_retMi C hr hlk (by decide) Wd (u := (bound_r101, patternAt_r101)) rfl rfl ⟨⟨_, rfl, (show rng 0 from by decide), hw⟩, ⟨(rsI hS.1 (Wc101.2.1 46)), (rsF hS.2 (fun j => Wc101.2.2 45 j))⟩⟩ dX12_fits_127
          · have hw := hw.2 (z0_ne g_r101 c104)
            refine lv_aload_n C.1 C.2.1 dX12_fits_107 rfl (lv_at hl 0 rfl) ?_
            refine lv_iload_n C.1 C.2.1 dX12_fits_108 rfl (lv_at hl 1 rfl) ?_
            refine lv_aload_n C.1 C.2.1 dX12_fits_109 rfl (lv_at hl 0 rfl) ?_
            refine lv_iload_n C.1 C.2.1 dX12_fits_110 rfl (lv_at hl 2 rfl) ?_
            refine lv_iconst (v := zI 1) C.1 C.2.1 dX12_fits_111 (by decide) ?_
            refine k_iadd (v := zI (x1 + 1)) C (zI_iadd _ _) dX12_fits_112 ?_
            refine k_pi (k_runVM (rest := [.int (zI x0), .ref h]) C aks Wd cs_X12_94 (mt_endOf D h ad ca (sI I 46 patternAt_r101) (sF F 45 bound_r101) Wd.2 (x1 + 1) g101_0 _ hw l _) rfl rfl ⟨(by show 503 + 1 ≤ 506 + (n + 1); omega), (by show 8 + (2 + 11) + (10626) ≤ 10712 + 24 * (n + 1); omega)⟩ hl.1 rfl rfl (Nat.le_of_ble_eq_true rfl) ⟨(Nat.le_of_ble_eq_true rfl), (Nat.le_of_ble_eq_true rfl)⟩ dX12_fits_113) (fun y113 hy => ?_)
            obtain ⟨r113, rfl, g_r113, hw⟩ := hy
            refine k_cMi Wd (k_runVM (rest := []) C aks Wd cs_X12_361 (ih_fits D h ad ca (sI I 46 patternAt_r101) (sF F 45 bound_r101) Wd.2 x0 r113 g_x0 g_r113 _ hw l _) rfl rfl ⟨(by show 506 + n + 1 ≤ 506 + (n + 1); omega), (by show 8 + (5 + 11) + (10712 + 24 * n) ≤ 10712 + 24 * (n + 1); omega)⟩ hl.1 rfl rfl (Nat.le_of_ble_eq_true rfl) ⟨(Nat.le_of_ble_eq_true rfl), (Nat.le_of_ble_eq_true rfl)⟩ dX12_fits_116) (fun r116 u116 H locs g_r116 hw Wd => ?_)
            obtain ⟨bound_r116, patternAt_r116⟩ := u116
            dsimp only at hw
            have Wc116 := Wd
            have Wd : wXM D ca s h ad (sI I 46 patternAt_r116) (sF F 45 bound_r116) H A s.heap locs := wMc Wd rfl rfl ⟨(rsI hS.1 (Wc116.2.1 46)), (rsF hS.2 (fun j => Wc116.2.2 45 j))⟩
            refine lv_if_eq (tgt := 126) C.1 C.2.1 dX12_fits_119 (by decide) (fun c119 => ?_) (fun c119 => ?_)
            · have hw := hw.1 (z0_eq g_r116 c119)
              refine lv_iconst (v := zI 0) C.1 C.2.1 dX12_fits_126 (by decide) ?_
              exact k_retMi C hr hlk (by decide) Wd (u := (bound_r116, patternAt_r116)) rfl rfl ⟨⟨_, rfl, (show rng 0 from by decide), hw⟩, ⟨(rsI hS.1 (Wc116.2.1 46)), (rsF hS.2 (fun j => Wc116.2.2 45 j))⟩⟩ dX12_fits_127
            · have hw := hw.2 (z0_ne g_r116 c119)
              refine lv_iconst (v := zI 1) C.1 C.2.1 dX12_fits_122 (by decide) ?_
              refine lv_goto (tgt := 127) C.1 C.2.1 dX12_fits_123 (by decide) ?_
              exact k_retMi C hr hlk (by decide) Wd (u := (bound_r116, patternAt_r116)) rfl rfl ⟨⟨_, rfl, (show rng 1 from by decide), hw⟩, ⟨(rsI hS.1 (Wc116.2.1 46)), (rsF hS.2 (fun j => Wc116.2.2 45 j))⟩⟩ dX12_fits_127
        · have hw := hw.2 (z_nle (show rng 120 from by decide) g13 c91)
          refine lv_iconst (v := zI 1) C.1 C.2.1 dX12_fits_94 (by decide) ?_
          exact k_retMi C hr hlk (by decide) Wd (u := ((F 45), ((I 46) + 1))) rfl rfl ⟨⟨_, rfl, (show rng 1 from by decide), hw⟩, ⟨(rsI hS.1 g22_0), (rsF hS.2 (hS.2 45))⟩⟩ dX12_fits_95
      · have hw := hw.2 (z_ne g81 g13 c83)
        refine lv_iconst (v := zI 0) C.1 C.2.1 dX12_fits_86 (by decide) ?_
        exact k_retMi C hr hlk (by decide) Wd (u := ((F 45), ((I 46) + 1))) rfl rfl ⟨⟨_, rfl, (show rng 0 from by decide), hw⟩, ⟨(rsI hS.1 g22_0), (rsF hS.2 (hS.2 45))⟩⟩ dX12_fits_87
    · have hw := hw.2 (z0_ne g_r30 c33)
      refine lv_iload_n C.1 C.2.1 dX12_fits_36 rfl (lv_at hl 3 rfl) ?_
      refine lv_bipush (v := zI 30) C.1 C.2.1 dX12_fits_37 (by decide) ?_
      refine k_isub (v := zI (((F 24) ((40 * x0) + (I 46))) - 30)) C (zI_isub _ _) dX12_fits_39 ?_
      refine lv_istore (lv' := [(4, .int (zI (((F 24) ((40 * x0) + (I 46))) - 30))), (0, .ref h), (1, .int (zI x0)), (2, .int (zI x1)), (3, .int (zI ((F 24) ((40 * x0) + (I 46)))))]) C.1 C.2.1 dX12_fits_40 hl (by decide) rfl (fun ls hl => ?_)
      replace hl := lv_sub hl [1, 2, 3, 4, 0] rfl
      refine lv_aload_n C.1 C.2.1 dX12_fits_42 rfl (lv_at hl 0 rfl) ?_
      refine k_get (v := .ref (ad 45)) C Wd.1 KX12 0 45 wM0 (by decide) fl_X12_65 rfl dX12_fits_43 ?_
      refine lv_iload C.1 C.2.1 dX12_fits_46 (lv_at hl 4 rfl) ?_
      obtain ⟨a48, hw⟩ := hw
      refine k_ialdM (g := (F 45)) C Wd 18 17 rfl rfl a48 (by decide) dX12_fits_48 ?_
      have g48 : rng ((F 45) (((F 24) ((40 * x0) + (I 46))) - 30)) := rngL (hS.2 45) a48
      refine lv_iconst (v := zI (-1)) C.1 C.2.1 dX12_fits_49 (by decide) ?_
      refine lv_icmp_eq (tgt := 66) C.1 C.2.1 dX12_fits_50 (by decide) (fun c50 => ?_) (fun c50 => ?_)
      · have hw := hw.1 (z_eq g48 (show rng (-1) from by decide) c50)
        refine lv_aload_n C.1 C.2.1 dX12_fits_66 rfl (lv_at hl 0 rfl) ?_
        refine k_get (v := .ref (ad 45)) C Wd.1 KX12 0 45 wM0 (by decide) fl_X12_65 rfl dX12_fits_67 ?_
        refine lv_iload C.1 C.2.1 dX12_fits_70 (lv_at hl 4 rfl) ?_
        refine lv_iload_n C.1 C.2.1 dX12_fits_72 rfl (lv_at hl 2 rfl) ?_
        obtain ⟨a73, hw⟩ := hw
        have q73 : ∀ j : Nat, rng ((uZ (F 45) (((F 24) ((40 * x0) + (I 46))) - 30) x1) j) := ruZ (hS.2 45) g_x1
        refine k_iastM (g := (F 45)) C Wd 17 17 (sF F 45 (uZ (F 45) (((F 24) ((40 * x0) + (I 46))) - 30) x1)) rfl rfl a73 (by decide) rfl rfl (rsF hS.2 q73) dX12_fits_73 (fun H locs Wd => ?_)
        refine lv_iconst (v := zI 1) C.1 C.2.1 dX12_fits_74 (by decide) ?_
        exact k_retMi C hr hlk (by decide) Wd (u := ((uZ (F 45) (((F 24) ((40 * x0) + (I 46))) - 30) x1), ((I 46) + 1))) rfl rfl ⟨⟨_, rfl, (show rng 1 from by decide), hw⟩, ⟨(rsI hS.1 g22_0), (rsF hS.2 q73)⟩⟩ dX12_fits_75
      · have hw := hw.2 (z_ne g48 (show rng (-1) from by decide) c50)
        refine lv_aload_n C.1 C.2.1 dX12_fits_53 rfl (lv_at hl 0 rfl) ?_
        refine lv_aload_n C.1 C.2.1 dX12_fits_54 rfl (lv_at hl 0 rfl) ?_
        refine k_get (v := .ref (ad 45)) C Wd.1 KX12 0 45 wM0 (by decide) fl_X12_65 rfl dX12_fits_55 ?_
        refine lv_iload C.1 C.2.1 dX12_fits_58 (lv_at hl 4 rfl) ?_
        obtain ⟨a60, hw⟩ := hw
        refine k_ialdM (g := (F 45)) C Wd 18 17 rfl rfl a60 (by decide) dX12_fits_60 ?_
        refine lv_iload_n C.1 C.2.1 dX12_fits_61 rfl (lv_at hl 2 rfl) ?_
        refine k_pi (k_runVM (rest := []) C aks Wd cs_X12_357 (mt_sameParts D h ad ca (sI I 46 ((I 46) + 1)) F Wd.2 ((F 45) (((F 24) ((40 * x0) + (I 46))) - 30)) x1 g48 g_x1 _ hw l _) rfl rfl ⟨(by show 504 + 1 ≤ 506 + (n + 1); omega), (by show 8 + (6 + 11) + (10647) ≤ 10712 + 24 * (n + 1); omega)⟩ hl.1 rfl rfl (Nat.le_of_ble_eq_true rfl) ⟨(Nat.le_of_ble_eq_true rfl), (Nat.le_of_ble_eq_true rfl)⟩ dX12_fits_62) (fun y62 hy => ?_)
        obtain ⟨r62, rfl, g_r62, hw⟩ := hy
        obtain ⟨b65_0, hw⟩ := hw
        exact k_retMi C hr hlk (zI_nb b65_0) Wd (u := ((F 45), ((I 46) + 1))) rfl rfl ⟨⟨_, rfl, g_r62, hw⟩, ⟨(rsI hS.1 g22_0), (rsF hS.2 (hS.2 45))⟩⟩ dX12_fits_65
theorem mt_fits : ∀ (D : va_G) (h : Nat) (ad : Nat → Nat) (ca : Nat → ClassId) (I : Nat → Int) (F : Nat → Int → Int) (hS : rngS I F) (x0 : Int) (x1 : Int) (g_x0 : rng x0) (g_x1 : rng x1) (K : Int → (Int → Int) → Int → Prop) (hw : wp_fits 100 (F 2) (F 24) (F 45) (I 46) x0 x1 K) (l : Launch) (sz : Nat), Met l yX12_fits (Cond.code yX12_fits cX12_fits 5 (some .boolean) :: gG) { frames := 606, cells := 0, slots := 0, locals := 13112 } (cPre D (tM ca) (wM h ad ca I F) sz [.ref h, .int (zI x0), .int (zI x1)]) (va_Qi (fun (r : Int32) (u : (Int → Int) × (Int)) => (∃ x : Int, r = zI x ∧ rng x ∧ K x u.1 u.2) ∧ rngS (sI I 46 u.2) (sF F 45 u.1)) (fun u t => cB D (va_A (wM h ad ca I F) sz) [] (wM h ad ca (sI I 46 u.2) (sF F 45 u.1)) t) (va_A (wM h ad ca I F) sz)) 0 0 (va_A (wM h ad ca I F) sz) := mg_fits 100
set_option maxHeartbeats 4000000 in
set_option maxRecDepth 100000 in
theorem mt_matches : ∀ (D : va_G) (h : Nat) (ad : Nat → Nat) (ca : Nat → ClassId) (I : Nat → Int) (F : Nat → Int → Int) (hS : rngS I F) (x0 : Int) (x1 : Int) (g_x0 : rng x0) (g_x1 : rng x1) (K : Int → (Int → Int) → Int → Prop) (hw : wp_matches (F 2) (F 24) (F 45) (I 46) x0 x1 K) (l : Launch) (sz : Nat), Met l yX12_matches (Cond.code yX12_matches cX12_matches 4 (some .boolean) :: gG) { frames := 607, cells := 0, slots := 0, locals := 13136 } (cPre D (tM ca) (wM h ad ca I F) sz [.ref h, .int (zI x0), .int (zI x1)]) (va_Qi (fun (r : Int32) (u : (Int → Int) × (Int)) => (∃ x : Int, r = zI x ∧ rng x ∧ K x u.1 u.2) ∧ rngS (sI I 46 u.2) (sF F 45 u.1)) (fun u t => cB D (va_A (wM h ad ca I F) sz) [] (wM h ad ca (sI I 46 u.2) (sF F 45 u.1)) t) (va_A (wM h ad ca I F) sz)) 0 0 (va_A (wM h ad ca I F) sz) := by
  intro D h ad ca I F hS x0 x1 g_x0 g_x1 K hw l sz
  refine Met.ofW (cc := cX12_matches) (maxL := 4) (ret := (some .boolean)) (by decide) rfl ?_
  intro p e s m args below meth c s₁ B hml hv
  obtain ⟨rfl, aks, rfl, Wd⟩ := k_enter hv
  have C : CallFix p m c cX12_matches 4 s _ gG RX12 := ⟨B.exec, B.bytes, hml, findClass_of_methodNamed B.named, fun w h => atoms_spec (ws := Cond.code yX12_matches cX12_matches 4 (some .boolean) :: gG) B.pre w (List.mem_cons_of_mem _ h)⟩
  have hr := B.returns
  have hlk := B.notSynchronized
  generalize va_A (wM h ad ca I F) s.heap.size = A at Wd ⊢
  replace Wd : wXM D ca s h ad I F s.heap A s.heap [] := ⟨Wd, hS⟩
  refine k_locals (Nat.le_of_ble_eq_true rfl) [(0, .ref h), (1, .int (zI x0)), (2, .int (zI x1))] rfl (fun ls hl => ?_)
  unfold wp_matches at hw
  refine lv_aload_n C.1 C.2.1 dX12_matches_0 rfl (lv_at hl 0 rfl) ?_
  refine lv_iconst (v := zI 0) C.1 C.2.1 dX12_matches_1 (by decide) ?_
  refine k_putM C Wd 46 (sI I 46 0) (by decide) fl_X12_354 rfl rfl rfl rfl (rsI hS.1 (show rng 0 from by decide)) dX12_matches_2 (fun H locs Wd => ?_)
  refine lv_iconst (v := zI 0) C.1 C.2.1 dX12_matches_5 (by decide) ?_
  refine lv_istore_n (lv' := [(3, .int (zI 0)), (0, .ref h), (1, .int (zI x0)), (2, .int (zI x1))]) C.1 C.2.1 dX12_matches_6 rfl hl (by decide) rfl (fun ls hl => ?_)
  replace hl := lv_sub hl [1, 2, 3, 0] rfl
  refine k_lp2 hw (fun (l3_7 : Int) (bound_7 : Int → Int) H locs ls => rng l3_7 ∧ wXM D ca s h ad (sI I 46 0) (sF F 45 bound_7) H A s.heap locs ∧ lv_has ls 4 [(0, .ref h), (1, .int (zI x0)), (2, .int (zI x1)), (3, .int (zI l3_7))]) (fun (l3_7 : Int) (bound_7 : Int → Int) ls => F0 m 7 ls []) (fun L7 hL7 l3_7 bound_7 hw H locs ls hi => ?_) _ _ _ ⟨(show rng 0 from by decide), wMc Wd rfl rfl ⟨(rsI hS.1 (show rng 0 from by decide)), (rsF hS.2 (hS.2 45))⟩, lv_sub hl [0, 1, 2, 3] rfl⟩
  obtain ⟨g_l3_7, Wd, hl⟩ := hi
  have Wd7 := Wd
  unfold wp_matches_7 at hw
  refine lv_iload_n C.1 C.2.1 dX12_matches_7 rfl (lv_at hl 3 rfl) ?_
  refine lv_iconst (v := zI 3) C.1 C.2.1 dX12_matches_8 (by decide) ?_
  refine lv_icmp_ge (tgt := 25) C.1 C.2.1 dX12_matches_9 (by decide) (fun c9 => ?_) (fun c9 => ?_)
  · have hw := hw.1 (z_le (show rng 3 from by decide) g_l3_7 c9)
    refine lv_aload_n C.1 C.2.1 dX12_matches_25 rfl (lv_at hl 0 rfl) ?_
    refine lv_aload_n C.1 C.2.1 dX12_matches_26 rfl (lv_at hl 0 rfl) ?_
    refine k_get (v := .ref (ad 2)) C Wd.1 KX12 0 2 wM0 (by decide) fl_X12_16 rfl dX12_matches_27 ?_
    refine lv_iload_n C.1 C.2.1 dX12_matches_30 rfl (lv_at hl 2 rfl) ?_
    obtain ⟨a31, hw⟩ := hw
    refine k_ialdM (g := (F 2)) C Wd 3 2 rfl rfl a31 (by decide) dX12_matches_31 ?_
    have g31 : rng ((F 2) x1) := rngL (hS.2 2) a31
    refine k_pi (k_runVM (rest := []) C aks Wd cs_X12_114 (mt_isPart D h ad ca (sI I 46 0) (sF F 45 bound_7) Wd.2 ((F 2) x1) g31 _ hw l _) rfl rfl ⟨(Nat.le_of_ble_eq_true rfl), (Nat.le_of_ble_eq_true rfl)⟩ hl.1 rfl rfl (Nat.le_of_ble_eq_true rfl) ⟨(Nat.le_of_ble_eq_true rfl), (Nat.le_of_ble_eq_true rfl)⟩ dX12_matches_32) (fun y32 hy => ?_)
    obtain ⟨r32, rfl, g_r32, hw⟩ := hy
    refine lv_if_eq (tgt := 51) C.1 C.2.1 dX12_matches_35 (by decide) (fun c35 => ?_) (fun c35 => ?_)
    · have hw := hw.1 (z0_eq g_r32 c35)
      refine lv_iconst (v := zI 0) C.1 C.2.1 dX12_matches_51 (by decide) ?_
      exact k_retMi C hr hlk (by decide) Wd (u := (bound_7, 0)) rfl rfl ⟨⟨_, rfl, (show rng 0 from by decide), hw⟩, ⟨(rsI hS.1 (show rng 0 from by decide)), (rsF hS.2 (fun j => Wd7.2.2 45 j))⟩⟩ dX12_matches_52
    · have hw := hw.2 (z0_ne g_r32 c35)
      refine lv_aload_n C.1 C.2.1 dX12_matches_38 rfl (lv_at hl 0 rfl) ?_
      refine lv_iload_n C.1 C.2.1 dX12_matches_39 rfl (lv_at hl 1 rfl) ?_
      refine lv_iload_n C.1 C.2.1 dX12_matches_40 rfl (lv_at hl 2 rfl) ?_
      refine k_cMi Wd (k_runVM (rest := []) C aks Wd cs_X12_361 (mt_fits D h ad ca (sI I 46 0) (sF F 45 bound_7) Wd.2 x0 x1 g_x0 g_x1 _ hw l _) rfl rfl ⟨(Nat.le_of_ble_eq_true rfl), (Nat.le_of_ble_eq_true rfl)⟩ hl.1 rfl rfl (Nat.le_of_ble_eq_true rfl) ⟨(Nat.le_of_ble_eq_true rfl), (Nat.le_of_ble_eq_true rfl)⟩ dX12_matches_41) (fun r41 u41 H locs g_r41 hw Wd => ?_)
      obtain ⟨bound_r41, patternAt_r41⟩ := u41
      dsimp only at hw
      have Wc41 := Wd
      have Wd : wXM D ca s h ad (sI I 46 patternAt_r41) (sF F 45 bound_r41) H A s.heap locs := wMc Wd rfl rfl ⟨(rsI hS.1 (Wc41.2.1 46)), (rsF hS.2 (fun j => Wc41.2.2 45 j))⟩
      refine lv_if_eq (tgt := 51) C.1 C.2.1 dX12_matches_44 (by decide) (fun c44 => ?_) (fun c44 => ?_)
      · have hw := hw.1 (z0_eq g_r41 c44)
        refine lv_iconst (v := zI 0) C.1 C.2.1 dX12_matches_51 (by decide) ?_
        exact k_retMi C hr hlk (by decide) Wd (u := (bound_r41, patternAt_r41)) rfl rfl ⟨⟨_, rfl, (show rng 0 from by decide), hw⟩, ⟨(rsI hS.1 (Wc41.2.1 46)), (rsF hS.2 (fun j => Wc41.2.2 45 j))⟩⟩ dX12_matches_52
      · have hw := hw.2 (z0_ne g_r41 c44)
        refine lv_iconst (v := zI 1) C.1 C.2.1 dX12_matches_47 (by decide) ?_
        refine lv_goto (tgt := 52) C.1 C.2.1 dX12_matches_48 (by decide) ?_
        exact k_retMi C hr hlk (by decide) Wd (u := (bound_r41, patternAt_r41)) rfl rfl ⟨⟨_, rfl, (show rng 1 from by decide), hw⟩, ⟨(rsI hS.1 (Wc41.2.1 46)), (rsF hS.2 (fun j => Wc41.2.2 45 j))⟩⟩ dX12_matches_52
  · have hw := hw.2 (z_nle (show rng 3 from by decide) g_l3_7 c9)
    refine lv_aload_n C.1 C.2.1 dX12_matches_12 rfl (lv_at hl 0 rfl) ?_
    refine k_get (v := .ref (ad 45)) C Wd.1 KX12 0 45 wM0 (by decide) fl_X12_65 rfl dX12_matches_13 ?_
    refine lv_iload_n C.1 C.2.1 dX12_matches_16 rfl (lv_at hl 3 rfl) ?_
    refine lv_iconst (v := zI (-1)) C.1 C.2.1 dX12_matches_17 (by decide) ?_
    obtain ⟨a18, hw⟩ := hw
    have q18 : ∀ j : Nat, rng ((uZ bound_7 l3_7 (-1)) j) := ruZ (fun j => Wd7.2.2 45 j) (show rng (-1) from by decide)
    refine k_iastM (g := bound_7) C Wd 17 17 (sF F 45 (uZ bound_7 l3_7 (-1))) rfl rfl a18 (by decide) rfl rfl (rsF hS.2 q18) dX12_matches_18 (fun H locs Wd => ?_)
    refine lv_iinc (v := zI (l3_7 + 1)) (lv' := [(3, .int (zI (l3_7 + 1))), (0, .ref h), (1, .int (zI x0)), (2, .int (zI x1))]) C.1 C.2.1 dX12_matches_19 hl (k := 3) rfl (zI_inc _ _ (by decide)) (by decide) rfl (fun ls hl => ?_)
    replace hl := lv_sub hl [1, 2, 3, 0] rfl
    refine lv_goto (tgt := 7) C.1 C.2.1 dX12_matches_22 (by decide) ?_
    obtain ⟨g22_0, hw⟩ := hw
    exact hL7 _ _ hw _ _ _ ⟨g22_0, wMc Wd rfl rfl ⟨(rsI hS.1 (show rng 0 from by decide)), (rsF hS.2 q18)⟩, lv_sub hl [0, 1, 2, 3] rfl⟩
set_option maxHeartbeats 4000000 in
set_option maxRecDepth 100000 in
theorem mt_match : ∀ (D : va_G) (h : Nat) (ad : Nat → Nat) (ca : Nat → ClassId) (I : Nat → Int) (F : Nat → Int → Int) (hS : rngS I F) (x0 : Int) (x1 : Int) (g_x0 : rng x0) (g_x1 : rng x1) (K : Int → (Int → Int) → Int → Prop) (hw : wp_match (F 2) (I 4) (F 24) (F 45) (I 46) x0 x1 K) (l : Launch) (sz : Nat), Met l yX12_match (Cond.code yX12_match cX12_match 5 (some .int) :: gG) { frames := 608, cells := 0, slots := 0, locals := 13159 } (cPre D (tM ca) (wM h ad ca I F) sz [.ref h, .int (zI x0), .int (zI x1)]) (va_Qi (fun (r : Int32) (u : (Int → Int) × (Int)) => (∃ x : Int, r = zI x ∧ rng x ∧ K x u.1 u.2) ∧ rngS (sI I 46 u.2) (sF F 45 u.1)) (fun u t => cB D (va_A (wM h ad ca I F) sz) [] (wM h ad ca (sI I 46 u.2) (sF F 45 u.1)) t) (va_A (wM h ad ca I F) sz)) 0 0 (va_A (wM h ad ca I F) sz) := by
  intro D h ad ca I F hS x0 x1 g_x0 g_x1 K hw l sz
  refine Met.ofW (cc := cX12_match) (maxL := 5) (ret := (some .int)) (by decide) rfl ?_
  intro p e s m args below meth c s₁ B hml hv
  obtain ⟨rfl, aks, rfl, Wd⟩ := k_enter hv
  have C : CallFix p m c cX12_match 5 s _ gG RX12 := ⟨B.exec, B.bytes, hml, findClass_of_methodNamed B.named, fun w h => atoms_spec (ws := Cond.code yX12_match cX12_match 5 (some .int) :: gG) B.pre w (List.mem_cons_of_mem _ h)⟩
  have hr := B.returns
  have hlk := B.notSynchronized
  generalize va_A (wM h ad ca I F) s.heap.size = A at Wd ⊢
  replace Wd : wXM D ca s h ad I F s.heap A s.heap [] := ⟨Wd, hS⟩
  refine k_locals (Nat.le_of_ble_eq_true rfl) [(0, .ref h), (1, .int (zI x0)), (2, .int (zI x1))] rfl (fun ls hl => ?_)
  unfold wp_match at hw
  refine lv_iconst (v := zI 0) C.1 C.2.1 dX12_match_0 (by decide) ?_
  refine lv_istore_n (lv' := [(3, .int (zI 0)), (0, .ref h), (1, .int (zI x0)), (2, .int (zI x1))]) C.1 C.2.1 dX12_match_1 rfl hl (by decide) rfl (fun ls hl => ?_)
  replace hl := lv_sub hl [1, 2, 3, 0] rfl
  refine lv_iconst (v := zI 0) C.1 C.2.1 dX12_match_2 (by decide) ?_
  refine lv_istore (lv' := [(4, .int (zI 0)), (0, .ref h), (1, .int (zI x0)), (2, .int (zI x1)), (3, .int (zI 0))]) C.1 C.2.1 dX12_match_3 hl (by decide) rfl (fun ls hl => ?_)
  replace hl := lv_sub hl [1, 2, 3, 4, 0] rfl
  refine k_lp4 hw (fun (l3_5 : Int) (l4_5 : Int) (bound_5 : Int → Int) (patternAt_5 : Int) H locs ls => rng l3_5 ∧ rng l4_5 ∧ wXM D ca s h ad (sI I 46 patternAt_5) (sF F 45 bound_5) H A s.heap locs ∧ lv_has ls 5 [(0, .ref h), (1, .int (zI x0)), (2, .int (zI x1)), (3, .int (zI l3_5)), (4, .int (zI l4_5))]) (fun (l3_5 : Int) (l4_5 : Int) (bound_5 : Int → Int) (patternAt_5 : Int) ls => F0 m 5 ls []) (fun L5 hL5 l3_5 l4_5 bound_5 patternAt_5 hw H locs ls hi => ?_) _ _ _ ⟨(show rng 0 from by decide), (show rng 0 from by decide), wMc Wd rfl rfl ⟨(rsI hS.1 (hS.1 46)), (rsF hS.2 (hS.2 45))⟩, lv_sub hl [0, 1, 2, 3, 4] rfl⟩
  obtain ⟨g_l3_5, g_l4_5, Wd, hl⟩ := hi
  have Wd5 := Wd
  unfold wp_match_5 at hw
  refine lv_iload C.1 C.2.1 dX12_match_5 (lv_at hl 4 rfl) ?_
  refine lv_aload_n C.1 C.2.1 dX12_match_7 rfl (lv_at hl 0 rfl) ?_
  refine k_get (v := .int (zI (I 4))) C Wd.1 KX12 0 4 wM0 (by decide) fl_X12_98 rfl dX12_match_8 ?_
  refine lv_icmp_ge (tgt := 58) C.1 C.2.1 dX12_match_11 (by decide) (fun c11 => ?_) (fun c11 => ?_)
  · have hw := hw.1 (z_le (hS.1 4) g_l4_5 c11)
    refine lv_iconst (v := zI (-1)) C.1 C.2.1 dX12_match_58 (by decide) ?_
    exact k_retMi C hr hlk rfl Wd (u := (bound_5, patternAt_5)) rfl rfl ⟨⟨_, rfl, (show rng (-1) from by decide), hw⟩, ⟨(rsI hS.1 (Wd5.2.1 46)), (rsF hS.2 (fun j => Wd5.2.2 45 j))⟩⟩ dX12_match_59
  · have hw := hw.2 (z_nle (hS.1 4) g_l4_5 c11)
    refine lv_aload_n C.1 C.2.1 dX12_match_14 rfl (lv_at hl 0 rfl) ?_
    refine lv_aload_n C.1 C.2.1 dX12_match_15 rfl (lv_at hl 0 rfl) ?_
    refine k_get (v := .ref (ad 2)) C Wd.1 KX12 0 2 wM0 (by decide) fl_X12_16 rfl dX12_match_16 ?_
    refine lv_iload C.1 C.2.1 dX12_match_19 (lv_at hl 4 rfl) ?_
    obtain ⟨a21, hw⟩ := hw
    refine k_ialdM (g := (F 2)) C Wd 3 2 rfl rfl a21 (by decide) dX12_match_21 ?_
    have g21 : rng ((F 2) l4_5) := rngL (hS.2 2) a21
    refine k_pi (k_runVM (rest := []) C aks Wd cs_X12_114 (mt_isPart D h ad ca (sI I 46 patternAt_5) (sF F 45 bound_5) Wd.2 ((F 2) l4_5) g21 _ hw l _) rfl rfl ⟨(Nat.le_of_ble_eq_true rfl), (Nat.le_of_ble_eq_true rfl)⟩ hl.1 rfl rfl (Nat.le_of_ble_eq_true rfl) ⟨(Nat.le_of_ble_eq_true rfl), (Nat.le_of_ble_eq_true rfl)⟩ dX12_match_22) (fun y22 hy => ?_)
    obtain ⟨r22, rfl, g_r22, hw⟩ := hy
    refine lv_if_eq (tgt := 52) C.1 C.2.1 dX12_match_25 (by decide) (fun c25 => ?_) (fun c25 => ?_)
    · have hw := hw.1 (z0_eq g_r22 c25)
      refine lv_iinc (v := zI (l4_5 + 1)) (lv' := [(4, .int (zI (l4_5 + 1))), (0, .ref h), (1, .int (zI x0)), (2, .int (zI x1)), (3, .int (zI l3_5))]) C.1 C.2.1 dX12_match_52 hl (k := 4) rfl (zI_inc _ _ (by decide)) (by decide) rfl (fun ls hl => ?_)
      replace hl := lv_sub hl [1, 2, 3, 4, 0] rfl
      refine lv_goto (tgt := 5) C.1 C.2.1 dX12_match_55 (by decide) ?_
      obtain ⟨g55_0, hw⟩ := hw
      exact hL5 _ _ _ _ hw _ _ _ ⟨g_l3_5, g55_0, wMc Wd rfl rfl ⟨(rsI hS.1 (Wd5.2.1 46)), (rsF hS.2 (fun j => Wd5.2.2 45 j))⟩, lv_sub hl [0, 1, 2, 3, 4] rfl⟩
    · have hw := hw.2 (z0_ne g_r22 c25)
      refine lv_aload_n C.1 C.2.1 dX12_match_28 rfl (lv_at hl 0 rfl) ?_
      refine lv_iload_n C.1 C.2.1 dX12_match_29 rfl (lv_at hl 1 rfl) ?_
      refine lv_iload C.1 C.2.1 dX12_match_30 (lv_at hl 4 rfl) ?_
      refine k_cMi Wd (k_runVM (rest := []) C aks Wd cs_X12_364 (mt_matches D h ad ca (sI I 46 patternAt_5) (sF F 45 bound_5) Wd.2 x0 l4_5 g_x0 g_l4_5 _ hw l _) rfl rfl ⟨(Nat.le_of_ble_eq_true rfl), (Nat.le_of_ble_eq_true rfl)⟩ hl.1 rfl rfl (Nat.le_of_ble_eq_true rfl) ⟨(Nat.le_of_ble_eq_true rfl), (Nat.le_of_ble_eq_true rfl)⟩ dX12_match_32) (fun r32 u32 H locs g_r32 hw Wd => ?_)
      obtain ⟨bound_r32, patternAt_r32⟩ := u32
      dsimp only at hw
      have Wc32 := Wd
      have Wd : wXM D ca s h ad (sI I 46 patternAt_r32) (sF F 45 bound_r32) H A s.heap locs := wMc Wd rfl rfl ⟨(rsI hS.1 (Wc32.2.1 46)), (rsF hS.2 (fun j => Wc32.2.2 45 j))⟩
      refine lv_if_ne (tgt := 41) C.1 C.2.1 dX12_match_35 (by decide) (fun c35 => ?_) (fun c35 => ?_)
      · have hw := hw.1 (z0_ne g_r32 c35)
        refine lv_iload_n C.1 C.2.1 dX12_match_41 rfl (lv_at hl 3 rfl) ?_
        refine lv_iload_n C.1 C.2.1 dX12_match_42 rfl (lv_at hl 2 rfl) ?_
        refine lv_icmp_ne (tgt := 49) C.1 C.2.1 dX12_match_43 (by decide) (fun c43 => ?_) (fun c43 => ?_)
        · have hw := hw.1 (z_ne g_l3_5 g_x1 c43)
          refine lv_iinc (v := zI (l3_5 + 1)) (lv' := [(3, .int (zI (l3_5 + 1))), (0, .ref h), (1, .int (zI x0)), (2, .int (zI x1)), (4, .int (zI l4_5))]) C.1 C.2.1 dX12_match_49 hl (k := 3) rfl (zI_inc _ _ (by decide)) (by decide) rfl (fun ls hl => ?_)
          replace hl := lv_sub hl [1, 2, 3, 0, 4] rfl
          refine lv_iinc (v := zI (l4_5 + 1)) (lv' := [(4, .int (zI (l4_5 + 1))), (0, .ref h), (1, .int (zI x0)), (2, .int (zI x1)), (3, .int (zI (l3_5 + 1)))]) C.1 C.2.1 dX12_match_52 hl (k := 4) rfl (zI_inc _ _ (by decide)) (by decide) rfl (fun ls hl => ?_)
          replace hl := lv_sub hl [1, 2, 3, 4, 0] rfl
          refine lv_goto (tgt := 5) C.1 C.2.1 dX12_match_55 (by decide) ?_
          obtain ⟨g55_0, hw⟩ := hw
          obtain ⟨g55_1, hw⟩ := hw
          exact hL5 _ _ _ _ hw _ _ _ ⟨g55_0, g55_1, wMc Wd rfl rfl ⟨(rsI hS.1 (Wc32.2.1 46)), (rsF hS.2 (fun j => Wc32.2.2 45 j))⟩, lv_sub hl [0, 1, 2, 3, 4] rfl⟩
        · have hw := hw.2 (z_eq g_l3_5 g_x1 c43)
          refine lv_iload C.1 C.2.1 dX12_match_46 (lv_at hl 4 rfl) ?_
          exact k_retMi C hr hlk rfl Wd (u := (bound_r32, patternAt_r32)) rfl rfl ⟨⟨_, rfl, g_l4_5, hw⟩, ⟨(rsI hS.1 (Wc32.2.1 46)), (rsF hS.2 (fun j => Wc32.2.2 45 j))⟩⟩ dX12_match_48
      · have hw := hw.2 (z0_eq g_r32 c35)
        refine lv_goto (tgt := 52) C.1 C.2.1 dX12_match_38 (by decide) ?_
        refine lv_iinc (v := zI (l4_5 + 1)) (lv' := [(4, .int (zI (l4_5 + 1))), (0, .ref h), (1, .int (zI x0)), (2, .int (zI x1)), (3, .int (zI l3_5))]) C.1 C.2.1 dX12_match_52 hl (k := 4) rfl (zI_inc _ _ (by decide)) (by decide) rfl (fun ls hl => ?_)
        replace hl := lv_sub hl [1, 2, 3, 4, 0] rfl
        refine lv_goto (tgt := 5) C.1 C.2.1 dX12_match_55 (by decide) ?_
        obtain ⟨g55_0, hw⟩ := hw
        exact hL5 _ _ _ _ hw _ _ _ ⟨g_l3_5, g55_0, wMc Wd rfl rfl ⟨(rsI hS.1 (Wc32.2.1 46)), (rsF hS.2 (fun j => Wc32.2.2 45 j))⟩, lv_sub hl [0, 1, 2, 3, 4] rfl⟩
set_option maxHeartbeats 4000000 in
set_option maxRecDepth 100000 in
theorem mt_places : ∀ (D : va_G) (h : Nat) (ad : Nat → Nat) (ca : Nat → ClassId) (I : Nat → Int) (F : Nat → Int → Int) (hS : rngS I F) (x0 : Int) (x1 : Int) (g_x0 : rng x0) (g_x1 : rng x1) (K : Int → (Int → Int) → Int → (Int → Int) → Int → Prop) (hw : wp_places (F 0) (F 1) (F 2) (I 4) (I 23) (F 24) (F 45) (I 46) x0 x1 K) (l : Launch) (sz : Nat), Met l yX12_places (Cond.code yX12_places cX12_places 5 (some .int) :: gG) { frames := 608, cells := 0, slots := 0, locals := 13159 } (cPre D (tM ca) (wM h ad ca I F) sz [.ref h, .int (zI x0), .int (zI x1)]) (va_Qi (fun (r : Int32) (u : (Int → Int) × (Int) × (Int → Int) × (Int)) => (∃ x : Int, r = zI x ∧ rng x ∧ K x u.1 u.2.1 u.2.2.1 u.2.2.2) ∧ rngS (sI (sI I 4 u.2.1) 46 u.2.2.2) (sF (sF F 2 u.1) 45 u.2.2.1)) (fun u t => cB D (va_A (wM h ad ca I F) sz) [] (wM h ad ca (sI (sI I 4 u.2.1) 46 u.2.2.2) (sF (sF F 2 u.1) 45 u.2.2.1)) t) (va_A (wM h ad ca I F) sz)) 0 0 (va_A (wM h ad ca I F) sz) := by
  intro D h ad ca I F hS x0 x1 g_x0 g_x1 K hw l sz
  refine Met.ofW (cc := cX12_places) (maxL := 5) (ret := (some .int)) (by decide) rfl ?_
  intro p e s m args below meth c s₁ B hml hv
  obtain ⟨rfl, aks, rfl, Wd⟩ := k_enter hv
  have C : CallFix p m c cX12_places 5 s _ gG RX12 := ⟨B.exec, B.bytes, hml, findClass_of_methodNamed B.named, fun w h => atoms_spec (ws := Cond.code yX12_places cX12_places 5 (some .int) :: gG) B.pre w (List.mem_cons_of_mem _ h)⟩
  have hr := B.returns
  have hlk := B.notSynchronized
  generalize va_A (wM h ad ca I F) s.heap.size = A at Wd ⊢
  replace Wd : wXM D ca s h ad I F s.heap A s.heap [] := ⟨Wd, hS⟩
  refine k_locals (Nat.le_of_ble_eq_true rfl) [(0, .ref h), (1, .int (zI x0)), (2, .int (zI x1))] rfl (fun ls hl => ?_)
  unfold wp_places at hw
  refine lv_iload_n C.1 C.2.1 dX12_places_0 rfl (lv_at hl 1 rfl) ?_
  refine lv_iconst (v := zI 0) C.1 C.2.1 dX12_places_1 (by decide) ?_
  refine lv_aload_n C.1 C.2.1 dX12_places_2 rfl (lv_at hl 0 rfl) ?_
  refine k_get (v := .int (zI (I 23))) C Wd.1 KX12 0 23 wM0 (by decide) fl_X12_268 rfl dX12_places_3 ?_
  refine lv_iconst (v := zI 1) C.1 C.2.1 dX12_places_6 (by decide) ?_
  refine k_isub (v := zI ((I 23) - 1)) C (zI_isub _ _) dX12_places_7 ?_
  obtain ⟨g8_0, hw⟩ := hw
  refine k_pi (k_runS (rest := []) C aks Wd.1 cs_X12_90 (mt_isIn D x0 0 ((I 23) - 1) g_x0 (show rng 0 from by decide) g8_0 _ hw l _) [] rfl (by decide) [] rfl rfl rfl ⟨(Nat.le_of_ble_eq_true rfl), (Nat.le_of_ble_eq_true rfl)⟩ hl.1 rfl rfl (Nat.le_of_ble_eq_true rfl) ⟨(Nat.le_of_ble_eq_true rfl), (Nat.le_of_ble_eq_true rfl)⟩ dX12_places_8) (fun y8 hy => ?_)
  obtain ⟨r8, rfl, g_r8, hw⟩ := hy
  refine lv_if_eq (tgt := 21) C.1 C.2.1 dX12_places_11 (by decide) (fun c11 => ?_) (fun c11 => ?_)
  · have hw := hw.1 (z0_eq g_r8 c11)
    refine lv_iconst (v := zI (-1)) C.1 C.2.1 dX12_places_21 (by decide) ?_
    exact k_retMi C hr hlk rfl Wd (u := ((F 2), (I 4), (F 45), (I 46))) rfl rfl ⟨⟨_, rfl, (show rng (-1) from by decide), hw⟩, ⟨(rsI (rsI hS.1 (hS.1 4)) (hS.1 46)), (rsF (rsF hS.2 (hS.2 2)) (hS.2 45))⟩⟩ dX12_places_22
  · have hw := hw.2 (z0_ne g_r8 c11)
    refine lv_iload_n C.1 C.2.1 dX12_places_14 rfl (lv_at hl 2 rfl) ?_
    refine k_pi (k_runS (rest := []) C aks Wd.1 cs_X12_249 (mt_isSlot D x1 g_x1 _ hw l _) [] rfl (by decide) [] rfl rfl rfl ⟨(Nat.le_of_ble_eq_true rfl), (Nat.le_of_ble_eq_true rfl)⟩ hl.1 rfl rfl (Nat.le_of_ble_eq_true rfl) ⟨(Nat.le_of_ble_eq_true rfl), (Nat.le_of_ble_eq_true rfl)⟩ dX12_places_15) (fun y15 hy => ?_)
    obtain ⟨r15, rfl, g_r15, hw⟩ := hy
    refine lv_if_ne (tgt := 23) C.1 C.2.1 dX12_places_18 (by decide) (fun c18 => ?_) (fun c18 => ?_)
    · have hw := hw.1 (z0_ne g_r15 c18)
      refine lv_aload_n C.1 C.2.1 dX12_places_23 rfl (lv_at hl 0 rfl) ?_
      refine lv_iload_n C.1 C.2.1 dX12_places_24 rfl (lv_at hl 2 rfl) ?_
      refine k_cMv Wd (k_runVM (rest := []) C aks Wd cs_X12_271 (mt_takes D h ad ca I F Wd.2 x1 g_x1 _ hw l _) rfl rfl ⟨(Nat.le_of_ble_eq_true rfl), (Nat.le_of_ble_eq_true rfl)⟩ hl.1 rfl rfl (Nat.le_of_ble_eq_true rfl) ⟨(Nat.le_of_ble_eq_true rfl), (Nat.le_of_ble_eq_true rfl)⟩ dX12_places_25) (fun u25 H locs hw Wd => ?_)
      obtain ⟨row_r25, many_r25⟩ := u25
      dsimp only at hw
      have Wc25 := Wd
      have Wd : wXM D ca s h ad (sI I 4 many_r25) (sF F 2 row_r25) H A s.heap locs := wMc Wd rfl rfl ⟨(rsI hS.1 (Wc25.2.1 4)), (rsF hS.2 (fun j => Wc25.2.2 2 j))⟩
      refine lv_iconst (v := zI 0) C.1 C.2.1 dX12_places_28 (by decide) ?_
      refine lv_istore_n (lv' := [(3, .int (zI 0)), (0, .ref h), (1, .int (zI x0)), (2, .int (zI x1))]) C.1 C.2.1 dX12_places_29 rfl hl (by decide) rfl (fun ls hl => ?_)
      replace hl := lv_sub hl [1, 2, 3, 0] rfl
      refine lv_iconst (v := zI 0) C.1 C.2.1 dX12_places_30 (by decide) ?_
      refine lv_istore (lv' := [(4, .int (zI 0)), (0, .ref h), (1, .int (zI x0)), (2, .int (zI x1)), (3, .int (zI 0))]) C.1 C.2.1 dX12_places_31 hl (by decide) rfl (fun ls hl => ?_)
      replace hl := lv_sub hl [1, 2, 3, 4, 0] rfl
      refine k_lp4 hw (fun (l3_33 : Int) (l4_33 : Int) (bound_33 : Int → Int) (patternAt_33 : Int) H locs ls => rng l3_33 ∧ rng l4_33 ∧ wXM D ca s h ad (sI (sI I 4 many_r25) 46 patternAt_33) (sF (sF F 2 row_r25) 45 bound_33) H A s.heap locs ∧ lv_has ls 5 [(0, .ref h), (1, .int (zI x0)), (3, .int (zI l3_33)), (4, .int (zI l4_33))]) (fun (l3_33 : Int) (l4_33 : Int) (bound_33 : Int → Int) (patternAt_33 : Int) ls => F0 m 33 ls []) (fun L33 hL33 l3_33 l4_33 bound_33 patternAt_33 hw H locs ls hi => ?_) _ _ _ ⟨(show rng 0 from by decide), (show rng 0 from by decide), wMc Wd rfl rfl ⟨(rsI (rsI hS.1 (Wc25.2.1 4)) (hS.1 46)), (rsF (rsF hS.2 (fun j => Wc25.2.2 2 j)) (hS.2 45))⟩, lv_sub hl [0, 1, 3, 4] rfl⟩
      obtain ⟨g_l3_33, g_l4_33, Wd, hl⟩ := hi
      have Wd33 := Wd
      unfold wp_places_33 at hw
      refine lv_iload C.1 C.2.1 dX12_places_33 (lv_at hl 3 rfl) ?_
      refine lv_aload_n C.1 C.2.1 dX12_places_35 rfl (lv_at hl 0 rfl) ?_
      refine k_get (v := .int (zI many_r25)) C Wd.1 KX12 0 4 wM0 (by decide) fl_X12_98 rfl dX12_places_36 ?_
      refine lv_icmp_ge (tgt := 66) C.1 C.2.1 dX12_places_39 (by decide) (fun c39 => ?_) (fun c39 => ?_)
      · have hw := hw.1 (z_le (Wc25.2.1 4) g_l4_33 c39)
        refine lv_iload_n C.1 C.2.1 dX12_places_66 rfl (lv_at hl 2 rfl) ?_
        exact k_retMi C hr hlk rfl Wd (u := (row_r25, many_r25, bound_33, patternAt_33)) rfl rfl ⟨⟨_, rfl, g_l3_33, hw⟩, ⟨(rsI (rsI hS.1 (Wc25.2.1 4)) (Wd33.2.1 46)), (rsF (rsF hS.2 (fun j => Wc25.2.2 2 j)) (fun j => Wd33.2.2 45 j))⟩⟩ dX12_places_67
      · have hw := hw.2 (z_nle (Wc25.2.1 4) g_l4_33 c39)
        refine lv_iload_n C.1 C.2.1 dX12_places_42 rfl (lv_at hl 2 rfl) ?_
        refine lv_aload_n C.1 C.2.1 dX12_places_43 rfl (lv_at hl 0 rfl) ?_
        refine lv_iload_n C.1 C.2.1 dX12_places_44 rfl (lv_at hl 1 rfl) ?_
        refine lv_iload C.1 C.2.1 dX12_places_45 (lv_at hl 3 rfl) ?_
        refine k_cMi Wd (k_runVM (rest := [.int (zI l3_33)]) C aks Wd cs_X12_364 (mt_matches D h ad ca (sI (sI I 4 many_r25) 46 patternAt_33) (sF (sF F 2 row_r25) 45 bound_33) Wd.2 x0 l4_33 g_x0 g_l4_33 _ hw l _) rfl rfl ⟨(Nat.le_of_ble_eq_true rfl), (Nat.le_of_ble_eq_true rfl)⟩ hl.1 rfl rfl (Nat.le_of_ble_eq_true rfl) ⟨(Nat.le_of_ble_eq_true rfl), (Nat.le_of_ble_eq_true rfl)⟩ dX12_places_47) (fun r47 u47 H locs g_r47 hw Wd => ?_)
        obtain ⟨bound_r47, patternAt_r47⟩ := u47
        dsimp only at hw
        have Wc47 := Wd
        have Wd : wXM D ca s h ad (sI (sI I 4 many_r25) 46 patternAt_r47) (sF (sF F 2 row_r25) 45 bound_r47) H A s.heap locs := wMc Wd rfl rfl ⟨(rsI (rsI hS.1 (Wc25.2.1 4)) (Wc47.2.1 46)), (rsF (rsF hS.2 (fun j => Wc25.2.2 2 j)) (fun j => Wc47.2.2 45 j))⟩
        refine lv_if_eq (tgt := 57) C.1 C.2.1 dX12_places_50 (by decide) (fun c50 => ?_) (fun c50 => ?_)
        · have hw := hw.1 (z0_eq g_r47 c50)
          refine lv_iconst (v := zI 0) C.1 C.2.1 dX12_places_57 (by decide) ?_
          refine k_iadd (v := zI (l3_33 + 0)) C (zI_iadd _ _) dX12_places_58 ?_
          refine lv_istore_n (lv' := [(3, .int (zI (l3_33 + 0))), (0, .ref h), (1, .int (zI x0)), (4, .int (zI l4_33))]) C.1 C.2.1 dX12_places_59 rfl hl (by decide) rfl (fun ls hl => ?_)
          replace hl := lv_sub hl [1, 2, 0, 3] rfl
          refine lv_iinc (v := zI (l4_33 + 1)) (lv' := [(4, .int (zI (l4_33 + 1))), (0, .ref h), (1, .int (zI x0)), (3, .int (zI (l3_33 + 0)))]) C.1 C.2.1 dX12_places_60 hl (k := 3) rfl (zI_inc _ _ (by decide)) (by decide) rfl (fun ls hl => ?_)
          replace hl := lv_sub hl [1, 2, 3, 0] rfl
          refine lv_goto (tgt := 33) C.1 C.2.1 dX12_places_63 (by decide) ?_
          obtain ⟨g63_0, hw⟩ := hw
          obtain ⟨g63_1, hw⟩ := hw
          exact hL33 _ _ _ _ hw _ _ _ ⟨g63_0, g63_1, wMc Wd rfl rfl ⟨(rsI (rsI hS.1 (Wc25.2.1 4)) (Wc47.2.1 46)), (rsF (rsF hS.2 (fun j => Wc25.2.2 2 j)) (fun j => Wc47.2.2 45 j))⟩, lv_sub hl [0, 1, 2, 3] rfl⟩
        · have hw := hw.2 (z0_ne g_r47 c50)
          refine lv_iconst (v := zI 1) C.1 C.2.1 dX12_places_53 (by decide) ?_
          refine lv_goto (tgt := 58) C.1 C.2.1 dX12_places_54 (by decide) ?_
          refine k_iadd (v := zI (l3_33 + 1)) C (zI_iadd _ _) dX12_places_58 ?_
          refine lv_istore_n (lv' := [(3, .int (zI (l3_33 + 1))), (0, .ref h), (1, .int (zI x0)), (4, .int (zI l4_33))]) C.1 C.2.1 dX12_places_59 rfl hl (by decide) rfl (fun ls hl => ?_)
          replace hl := lv_sub hl [1, 2, 0, 3] rfl
          refine lv_iinc (v := zI (l4_33 + 1)) (lv' := [(4, .int (zI (l4_33 + 1))), (0, .ref h), (1, .int (zI x0)), (3, .int (zI (l3_33 + 1)))]) C.1 C.2.1 dX12_places_60 hl (k := 3) rfl (zI_inc _ _ (by decide)) (by decide) rfl (fun ls hl => ?_)
          replace hl := lv_sub hl [1, 2, 3, 0] rfl
          refine lv_goto (tgt := 33) C.1 C.2.1 dX12_places_63 (by decide) ?_
          obtain ⟨g63_0, hw⟩ := hw
          obtain ⟨g63_1, hw⟩ := hw
          exact hL33 _ _ _ _ hw _ _ _ ⟨g63_0, g63_1, wMc Wd rfl rfl ⟨(rsI (rsI hS.1 (Wc25.2.1 4)) (Wc47.2.1 46)), (rsF (rsF hS.2 (fun j => Wc25.2.2 2 j)) (fun j => Wc47.2.2 45 j))⟩, lv_sub hl [0, 1, 2, 3] rfl⟩
    · have hw := hw.2 (z0_eq g_r15 c18)
      refine lv_iconst (v := zI (-1)) C.1 C.2.1 dX12_places_21 (by decide) ?_
      exact k_retMi C hr hlk rfl Wd (u := ((F 2), (I 4), (F 45), (I 46))) rfl rfl ⟨⟨_, rfl, (show rng (-1) from by decide), hw⟩, ⟨(rsI (rsI hS.1 (hS.1 4)) (hS.1 46)), (rsF (rsF hS.2 (hS.2 2)) (hS.2 45))⟩⟩ dX12_places_22
set_option maxHeartbeats 4000000 in
set_option maxRecDepth 100000 in
theorem mt_applies : ∀ (D : va_G) (h : Nat) (ad : Nat → Nat) (ca : Nat → ClassId) (I : Nat → Int) (F : Nat → Int → Int) (hS : rngS I F) (x0 : Int) (x1 : Int) (g_x0 : rng x0) (g_x1 : rng x1) (K : Int → (Int → Int) → (Int → Int) → Int → Int → (Int → Int) → Int → Prop) (hw : wp_applies (F 2) (F 3) (I 4) (I 5) (F 24) (F 25) (F 26) (F 45) (I 46) x0 x1 K) (l : Launch) (sz : Nat), Met l yX12_applies (Cond.code yX12_applies cX12_applies 6 (some .boolean) :: gG) { frames := 608, cells := 0, slots := 0, locals := 13159 } (cPre D (tM ca) (wM h ad ca I F) sz [.ref h, .int (zI x0), .int (zI x1)]) (va_Qi (fun (r : Int32) (u : (Int → Int) × (Int → Int) × (Int) × (Int) × (Int → Int) × (Int)) => (∃ x : Int, r = zI x ∧ rng x ∧ K x u.1 u.2.1 u.2.2.1 u.2.2.2.1 u.2.2.2.2.1 u.2.2.2.2.2) ∧ rngS (sI (sI (sI I 4 u.2.2.1) 5 u.2.2.2.1) 46 u.2.2.2.2.2) (sF (sF (sF F 2 u.1) 3 u.2.1) 45 u.2.2.2.2.1)) (fun u t => cB D (va_A (wM h ad ca I F) sz) [] (wM h ad ca (sI (sI (sI I 4 u.2.2.1) 5 u.2.2.2.1) 46 u.2.2.2.2.2) (sF (sF (sF F 2 u.1) 3 u.2.1) 45 u.2.2.2.2.1)) t) (va_A (wM h ad ca I F) sz)) 0 0 (va_A (wM h ad ca I F) sz) := by
  intro D h ad ca I F hS x0 x1 g_x0 g_x1 K hw l sz
  refine Met.ofW (cc := cX12_applies) (maxL := 6) (ret := (some .boolean)) (by decide) rfl ?_
  intro p e s m args below meth c s₁ B hml hv
  obtain ⟨rfl, aks, rfl, Wd⟩ := k_enter hv
  have C : CallFix p m c cX12_applies 6 s _ gG RX12 := ⟨B.exec, B.bytes, hml, findClass_of_methodNamed B.named, fun w h => atoms_spec (ws := Cond.code yX12_applies cX12_applies 6 (some .boolean) :: gG) B.pre w (List.mem_cons_of_mem _ h)⟩
  have hr := B.returns
  have hlk := B.notSynchronized
  generalize va_A (wM h ad ca I F) s.heap.size = A at Wd ⊢
  replace Wd : wXM D ca s h ad I F s.heap A s.heap [] := ⟨Wd, hS⟩
  refine k_locals (Nat.le_of_ble_eq_true rfl) [(0, .ref h), (1, .int (zI x0)), (2, .int (zI x1))] rfl (fun ls hl => ?_)
  unfold wp_applies at hw
  refine lv_aload_n C.1 C.2.1 dX12_applies_0 rfl (lv_at hl 0 rfl) ?_
  refine lv_iload_n C.1 C.2.1 dX12_applies_1 rfl (lv_at hl 1 rfl) ?_
  refine lv_iload_n C.1 C.2.1 dX12_applies_2 rfl (lv_at hl 2 rfl) ?_
  refine k_cMi Wd (k_runVM (rest := []) C aks Wd cs_X12_364 (mt_matches D h ad ca I F Wd.2 x0 x1 g_x0 g_x1 _ hw l _) rfl rfl ⟨(Nat.le_of_ble_eq_true rfl), (Nat.le_of_ble_eq_true rfl)⟩ hl.1 rfl rfl (Nat.le_of_ble_eq_true rfl) ⟨(Nat.le_of_ble_eq_true rfl), (Nat.le_of_ble_eq_true rfl)⟩ dX12_applies_3) (fun r3 u3 H locs g_r3 hw Wd => ?_)
  obtain ⟨bound_r3, patternAt_r3⟩ := u3
  dsimp only at hw
  have Wc3 := Wd
  have Wd : wXM D ca s h ad (sI I 46 patternAt_r3) (sF F 45 bound_r3) H A s.heap locs := wMc Wd rfl rfl ⟨(rsI hS.1 (Wc3.2.1 46)), (rsF hS.2 (fun j => Wc3.2.2 45 j))⟩
  refine lv_pop C.1 C.2.1 dX12_applies_6 rfl ?_
  refine lv_aload_n C.1 C.2.1 dX12_applies_7 rfl (lv_at hl 0 rfl) ?_
  refine k_pi (k_runVM (rest := []) C aks Wd cs_X12_274 (mt_parts D h ad ca (sI I 46 patternAt_r3) (sF F 45 bound_r3) Wd.2   _ hw l _) rfl rfl ⟨(Nat.le_of_ble_eq_true rfl), (Nat.le_of_ble_eq_true rfl)⟩ hl.1 rfl rfl (Nat.le_of_ble_eq_true rfl) ⟨(Nat.le_of_ble_eq_true rfl), (Nat.le_of_ble_eq_true rfl)⟩ dX12_applies_8) (fun y8 hy => ?_)
  obtain ⟨r8, rfl, g_r8, hw⟩ := hy
  refine lv_aload_n C.1 C.2.1 dX12_applies_11 rfl (lv_at hl 0 rfl) ?_
  refine lv_iload_n C.1 C.2.1 dX12_applies_12 rfl (lv_at hl 2 rfl) ?_
  refine k_pi (k_runVM (rest := [.int (zI r8)]) C aks Wd cs_X12_94 (mt_endOf D h ad ca (sI I 46 patternAt_r3) (sF F 45 bound_r3) Wd.2 x1 g_x1 _ hw l _) rfl rfl ⟨(Nat.le_of_ble_eq_true rfl), (Nat.le_of_ble_eq_true rfl)⟩ hl.1 rfl rfl (Nat.le_of_ble_eq_true rfl) ⟨(Nat.le_of_ble_eq_true rfl), (Nat.le_of_ble_eq_true rfl)⟩ dX12_applies_13) (fun y13 hy => ?_)
  obtain ⟨r13, rfl, g_r13, hw⟩ := hy
  refine lv_iload_n C.1 C.2.1 dX12_applies_16 rfl (lv_at hl 2 rfl) ?_
  refine k_isub (v := zI (r13 - x1)) C (zI_isub _ _) dX12_applies_17 ?_
  refine k_isub (v := zI (r8 - (r13 - x1))) C (zI_isub _ _) dX12_applies_18 ?_
  refine lv_istore_n (lv' := [(3, .int (zI (r8 - (r13 - x1)))), (0, .ref h), (1, .int (zI x0)), (2, .int (zI x1))]) C.1 C.2.1 dX12_applies_19 rfl hl (by decide) rfl (fun ls hl => ?_)
  replace hl := lv_sub hl [1, 2, 3, 0] rfl
  refine lv_aload_n C.1 C.2.1 dX12_applies_20 rfl (lv_at hl 0 rfl) ?_
  refine k_get (v := .ref (ad 25)) C Wd.1 KX12 0 25 wM0 (by decide) fl_X12_32 rfl dX12_applies_21 ?_
  refine lv_iload_n C.1 C.2.1 dX12_applies_24 rfl (lv_at hl 1 rfl) ?_
  obtain ⟨a25, hw⟩ := hw
  refine k_ialdM (g := (F 25)) C Wd 7 6 rfl rfl a25 (by decide) dX12_applies_25 ?_
  have g25 : rng ((F 25) x0) := rngL (hS.2 25) a25
  refine lv_istore (lv' := [(4, .int (zI ((F 25) x0))), (0, .ref h), (1, .int (zI x0)), (2, .int (zI x1)), (3, .int (zI (r8 - (r13 - x1))))]) C.1 C.2.1 dX12_applies_26 hl (by decide) rfl (fun ls hl => ?_)
  replace hl := lv_sub hl [1, 2, 3, 4, 0] rfl
  obtain ⟨g26_0, hw⟩ := hw
  refine k_lp2 hw (fun (l3_28 : Int) (l4_28 : Int) H locs ls => rng l3_28 ∧ rng l4_28 ∧ wXM D ca s h ad (sI I 46 patternAt_r3) (sF F 45 bound_r3) H A s.heap locs ∧ lv_has ls 6 [(0, .ref h), (1, .int (zI x0)), (2, .int (zI x1)), (3, .int (zI l3_28)), (4, .int (zI l4_28))]) (fun (l3_28 : Int) (l4_28 : Int) ls => F0 m 28 ls []) (fun L28 hL28 l3_28 l4_28 hw H locs ls hi => ?_) _ _ _ ⟨g26_0, g25, wMc Wd rfl rfl ⟨(rsI hS.1 (Wc3.2.1 46)), (rsF hS.2 (fun j => Wc3.2.2 45 j))⟩, lv_sub hl [0, 1, 2, 3, 4] rfl⟩
  obtain ⟨g_l3_28, g_l4_28, Wd, hl⟩ := hi
  have Wd28 := Wd
  unfold wp_applies_28 at hw
  refine lv_iload C.1 C.2.1 dX12_applies_28 (lv_at hl 4 rfl) ?_
  refine lv_aload_n C.1 C.2.1 dX12_applies_30 rfl (lv_at hl 0 rfl) ?_
  refine k_get (v := .ref (ad 26)) C Wd.1 KX12 0 26 wM0 (by decide) fl_X12_35 rfl dX12_applies_31 ?_
  refine lv_iload_n C.1 C.2.1 dX12_applies_34 rfl (lv_at hl 1 rfl) ?_
  obtain ⟨a35, hw⟩ := hw
  refine k_ialdM (g := (F 26)) C Wd 8 7 rfl rfl a35 (by decide) dX12_applies_35 ?_
  have g35 : rng ((F 26) x0) := rngL (hS.2 26) a35
  refine lv_icmp_ge (tgt := 103) C.1 C.2.1 dX12_applies_36 (by decide) (fun c36 => ?_) (fun c36 => ?_)
  · have hw := hw.1 (z_le g35 g_l4_28 c36)
    refine lv_iload_n C.1 C.2.1 dX12_applies_103 rfl (lv_at hl 3 rfl) ?_
    refine lv_sipush (v := zI 300) C.1 C.2.1 dX12_applies_104 (zS (by decide) (by decide)) ?_
    refine lv_icmp_le (tgt := 112) C.1 C.2.1 dX12_applies_107 (by decide) (fun c107 => ?_) (fun c107 => ?_)
    · have hw := hw.1 (z_le g_l3_28 (show rng 300 from by decide) c107)
      refine lv_aload_n C.1 C.2.1 dX12_applies_112 rfl (lv_at hl 0 rfl) ?_
      refine lv_iconst (v := zI 0) C.1 C.2.1 dX12_applies_113 (by decide) ?_
      refine k_putM C Wd 5 (sI (sI I 5 0) 46 patternAt_r3) (by decide) fl_X12_117 rfl rfl rfl rfl (rsI (rsI hS.1 (show rng 0 from by decide)) (Wc3.2.1 46)) dX12_applies_114 (fun H locs Wd => ?_)
      refine lv_aload_n C.1 C.2.1 dX12_applies_117 rfl (lv_at hl 0 rfl) ?_
      refine lv_iconst (v := zI 0) C.1 C.2.1 dX12_applies_118 (by decide) ?_
      refine lv_iload_n C.1 C.2.1 dX12_applies_119 rfl (lv_at hl 2 rfl) ?_
      refine k_cMv Wd (k_runVM (rest := []) C aks Wd cs_X12_367 (mt_writes D h ad ca (sI (sI I 5 0) 46 patternAt_r3) (sF F 45 bound_r3) Wd.2 0 x1 (show rng 0 from by decide) g_x1 _ hw l _) rfl rfl ⟨(Nat.le_of_ble_eq_true rfl), (Nat.le_of_ble_eq_true rfl)⟩ hl.1 rfl rfl (Nat.le_of_ble_eq_true rfl) ⟨(Nat.le_of_ble_eq_true rfl), (Nat.le_of_ble_eq_true rfl)⟩ dX12_applies_120) (fun u120 H locs hw Wd => ?_)
      obtain ⟨fresh_r120, made_r120⟩ := u120
      dsimp only at hw
      have Wc120 := Wd
      have Wd : wXM D ca s h ad (sI (sI I 5 made_r120) 46 patternAt_r3) (sF (sF F 3 fresh_r120) 45 bound_r3) H A s.heap locs := wMc Wd rfl rfl ⟨(rsI (rsI hS.1 (Wc120.2.1 5)) (Wc3.2.1 46)), (rsF (rsF hS.2 (fun j => Wc120.2.2 3 j)) (fun j => Wc3.2.2 45 j))⟩
      refine lv_aload_n C.1 C.2.1 dX12_applies_123 rfl (lv_at hl 0 rfl) ?_
      refine k_get (v := .ref (ad 25)) C Wd.1 KX12 0 25 wM0 (by decide) fl_X12_32 rfl dX12_applies_124 ?_
      refine lv_iload_n C.1 C.2.1 dX12_applies_127 rfl (lv_at hl 1 rfl) ?_
      obtain ⟨a128, hw⟩ := hw
      refine k_ialdM (g := (F 25)) C Wd 7 6 rfl rfl a128 (by decide) dX12_applies_128 ?_
      refine lv_istore (lv' := [(4, .int (zI ((F 25) x0))), (0, .ref h), (1, .int (zI x0)), (2, .int (zI x1)), (3, .int (zI l3_28))]) C.1 C.2.1 dX12_applies_129 hl (by decide) rfl (fun ls hl => ?_)
      replace hl := lv_sub hl [1, 2, 3, 4, 0] rfl
      refine k_lp3 hw (fun (l4_131 : Int) (fresh_131 : Int → Int) (made_131 : Int) H locs ls => rng l4_131 ∧ wXM D ca s h ad (sI (sI I 5 made_131) 46 patternAt_r3) (sF (sF F 3 fresh_131) 45 bound_r3) H A s.heap locs ∧ lv_has ls 6 [(0, .ref h), (1, .int (zI x0)), (2, .int (zI x1)), (4, .int (zI l4_131))]) (fun (l4_131 : Int) (fresh_131 : Int → Int) (made_131 : Int) ls => F0 m 131 ls []) (fun L131 hL131 l4_131 fresh_131 made_131 hw H locs ls hi => ?_) _ _ _ ⟨g25, wMc Wd rfl rfl ⟨(rsI (rsI hS.1 (Wc120.2.1 5)) (Wc3.2.1 46)), (rsF (rsF hS.2 (fun j => Wc120.2.2 3 j)) (fun j => Wc3.2.2 45 j))⟩, lv_sub hl [0, 1, 2, 4] rfl⟩
      obtain ⟨g_l4_131, Wd, hl⟩ := hi
      have Wd131 := Wd
      unfold wp_applies_131 at hw
      refine lv_iload C.1 C.2.1 dX12_applies_131 (lv_at hl 3 rfl) ?_
      refine lv_aload_n C.1 C.2.1 dX12_applies_133 rfl (lv_at hl 0 rfl) ?_
      refine k_get (v := .ref (ad 26)) C Wd.1 KX12 0 26 wM0 (by decide) fl_X12_35 rfl dX12_applies_134 ?_
      refine lv_iload_n C.1 C.2.1 dX12_applies_137 rfl (lv_at hl 1 rfl) ?_
      obtain ⟨a138, hw⟩ := hw
      refine k_ialdM (g := (F 26)) C Wd 8 7 rfl rfl a138 (by decide) dX12_applies_138 ?_
      refine lv_icmp_ge (tgt := 211) C.1 C.2.1 dX12_applies_139 (by decide) (fun c139 => ?_) (fun c139 => ?_)
      · have hw := hw.1 (z_le g35 g_l4_131 c139)
        refine lv_aload_n C.1 C.2.1 dX12_applies_211 rfl (lv_at hl 0 rfl) ?_
        refine lv_aload_n C.1 C.2.1 dX12_applies_212 rfl (lv_at hl 0 rfl) ?_
        refine lv_iload_n C.1 C.2.1 dX12_applies_213 rfl (lv_at hl 2 rfl) ?_
        refine k_pi (k_runVM (rest := [.ref h]) C aks Wd cs_X12_94 (mt_endOf D h ad ca (sI (sI I 5 made_131) 46 patternAt_r3) (sF (sF F 3 fresh_131) 45 bound_r3) Wd.2 x1 g_x1 _ hw l _) rfl rfl ⟨(Nat.le_of_ble_eq_true rfl), (Nat.le_of_ble_eq_true rfl)⟩ hl.1 rfl rfl (Nat.le_of_ble_eq_true rfl) ⟨(Nat.le_of_ble_eq_true rfl), (Nat.le_of_ble_eq_true rfl)⟩ dX12_applies_214) (fun y214 hy => ?_)
        obtain ⟨r214, rfl, g_r214, hw⟩ := hy
        refine lv_aload_n C.1 C.2.1 dX12_applies_217 rfl (lv_at hl 0 rfl) ?_
        refine k_get (v := .int (zI (I 4))) C Wd.1 KX12 0 4 wM0 (by decide) fl_X12_98 rfl dX12_applies_218 ?_
        refine k_cMv Wd (k_runVM (rest := []) C aks Wd cs_X12_367 (mt_writes D h ad ca (sI (sI I 5 made_131) 46 patternAt_r3) (sF (sF F 3 fresh_131) 45 bound_r3) Wd.2 r214 (I 4) g_r214 (hS.1 4) _ hw l _) rfl rfl ⟨(Nat.le_of_ble_eq_true rfl), (Nat.le_of_ble_eq_true rfl)⟩ hl.1 rfl rfl (Nat.le_of_ble_eq_true rfl) ⟨(Nat.le_of_ble_eq_true rfl), (Nat.le_of_ble_eq_true rfl)⟩ dX12_applies_221) (fun u221 H locs hw Wd => ?_)
        obtain ⟨fresh_r221, made_r221⟩ := u221
        dsimp only at hw
        have Wc221 := Wd
        have Wd : wXM D ca s h ad (sI (sI I 5 made_r221) 46 patternAt_r3) (sF (sF F 3 fresh_r221) 45 bound_r3) H A s.heap locs := wMc Wd rfl rfl ⟨(rsI (rsI hS.1 (Wc221.2.1 5)) (Wc3.2.1 46)), (rsF (rsF hS.2 (fun j => Wc221.2.2 3 j)) (fun j => Wc3.2.2 45 j))⟩
        refine lv_aload_n C.1 C.2.1 dX12_applies_224 rfl (lv_at hl 0 rfl) ?_
        refine k_cMv Wd (k_runVM (rest := []) C aks Wd cs_X12_259 (mt_turns D h ad ca (sI (sI I 5 made_r221) 46 patternAt_r3) (sF (sF F 3 fresh_r221) 45 bound_r3) Wd.2   _ hw l _) rfl rfl ⟨(Nat.le_of_ble_eq_true rfl), (Nat.le_of_ble_eq_true rfl)⟩ hl.1 rfl rfl (Nat.le_of_ble_eq_true rfl) ⟨(Nat.le_of_ble_eq_true rfl), (Nat.le_of_ble_eq_true rfl)⟩ dX12_applies_225) (fun u225 H locs hw Wd => ?_)
        obtain ⟨row_r225, many_r225, made_r225⟩ := u225
        dsimp only at hw
        have Wc225 := Wd
        have Wd : wXM D ca s h ad (sI (sI (sI I 4 many_r225) 5 made_r225) 46 patternAt_r3) (sF (sF (sF F 2 row_r225) 3 fresh_r221) 45 bound_r3) H A s.heap locs := wMc Wd rfl rfl ⟨(rsI (rsI (rsI hS.1 (Wc225.2.1 4)) (Wc225.2.1 5)) (Wc3.2.1 46)), (rsF (rsF (rsF hS.2 (fun j => Wc225.2.2 2 j)) (fun j => Wc221.2.2 3 j)) (fun j => Wc3.2.2 45 j))⟩
        refine lv_iconst (v := zI 1) C.1 C.2.1 dX12_applies_228 (by decide) ?_
        exact k_retMi C hr hlk (by decide) Wd (u := (row_r225, fresh_r221, many_r225, made_r225, bound_r3, patternAt_r3)) rfl rfl ⟨⟨_, rfl, (show rng 1 from by decide), hw⟩, ⟨(rsI (rsI (rsI hS.1 (Wc225.2.1 4)) (Wc225.2.1 5)) (Wc3.2.1 46)), (rsF (rsF (rsF hS.2 (fun j => Wc225.2.2 2 j)) (fun j => Wc221.2.2 3 j)) (fun j => Wc3.2.2 45 j))⟩⟩ dX12_applies_229
      · have hw := hw.2 (z_nle g35 g_l4_131 c139)
        refine lv_aload_n C.1 C.2.1 dX12_applies_142 rfl (lv_at hl 0 rfl) ?_
        refine k_get (v := .ref (ad 24)) C Wd.1 KX12 0 24 wM0 (by decide) fl_X12_29 rfl dX12_applies_143 ?_
        refine lv_bipush (v := zI 40) C.1 C.2.1 dX12_applies_146 (by decide) ?_
        refine lv_iload_n C.1 C.2.1 dX12_applies_148 rfl (lv_at hl 1 rfl) ?_
        refine k_imul (v := zI (40 * x0)) C (zI_imul _ _) dX12_applies_149 ?_
        refine lv_iload C.1 C.2.1 dX12_applies_150 (lv_at hl 3 rfl) ?_
        refine k_iadd (v := zI ((40 * x0) + l4_131)) C (zI_iadd _ _) dX12_applies_152 ?_
        obtain ⟨a153, hw⟩ := hw
        refine k_ialdM (g := (F 24)) C Wd 6 5 rfl rfl a153 (by decide) dX12_applies_153 ?_
        have g153 : rng ((F 24) ((40 * x0) + l4_131)) := rngL (hS.2 24) a153
        refine lv_istore (lv' := [(5, .int (zI ((F 24) ((40 * x0) + l4_131)))), (0, .ref h), (1, .int (zI x0)), (2, .int (zI x1)), (4, .int (zI l4_131))]) C.1 C.2.1 dX12_applies_154 hl (by decide) rfl (fun ls hl => ?_)
        replace hl := lv_sub hl [1, 2, 3, 4, 0] rfl
        refine lv_iload C.1 C.2.1 dX12_applies_156 (lv_at hl 4 rfl) ?_
        refine lv_bipush (v := zI 30) C.1 C.2.1 dX12_applies_158 (by decide) ?_
        refine lv_bipush (v := zI 32) C.1 C.2.1 dX12_applies_160 (by decide) ?_
        refine k_pi (k_runS (rest := []) C aks Wd.1 cs_X12_90 (mt_isIn D ((F 24) ((40 * x0) + l4_131)) 30 32 g153 (show rng 30 from by decide) (show rng 32 from by decide) _ hw l _) [] rfl (by decide) [] rfl rfl rfl ⟨(Nat.le_of_ble_eq_true rfl), (Nat.le_of_ble_eq_true rfl)⟩ hl.1 rfl rfl (Nat.le_of_ble_eq_true rfl) ⟨(Nat.le_of_ble_eq_true rfl), (Nat.le_of_ble_eq_true rfl)⟩ dX12_applies_162) (fun y162 hy => ?_)
        obtain ⟨r162, rfl, g_r162, hw⟩ := hy
        refine lv_if_eq (tgt := 199) C.1 C.2.1 dX12_applies_165 (by decide) (fun c165 => ?_) (fun c165 => ?_)
        · have hw := hw.1 (z0_eq g_r162 c165)
          refine lv_aload_n C.1 C.2.1 dX12_applies_199 rfl (lv_at hl 0 rfl) ?_
          refine lv_iload C.1 C.2.1 dX12_applies_200 (lv_at hl 4 rfl) ?_
          refine k_cMv Wd (k_runVM (rest := []) C aks Wd cs_X12_120 (mt_write D h ad ca (sI (sI I 5 made_131) 46 patternAt_r3) (sF (sF F 3 fresh_131) 45 bound_r3) Wd.2 ((F 24) ((40 * x0) + l4_131)) g153 _ hw l _) rfl rfl ⟨(Nat.le_of_ble_eq_true rfl), (Nat.le_of_ble_eq_true rfl)⟩ hl.1 rfl rfl (Nat.le_of_ble_eq_true rfl) ⟨(Nat.le_of_ble_eq_true rfl), (Nat.le_of_ble_eq_true rfl)⟩ dX12_applies_202) (fun u202 H locs hw Wd => ?_)
          obtain ⟨fresh_r202, made_r202⟩ := u202
          dsimp only at hw
          have Wc202 := Wd
          have Wd : wXM D ca s h ad (sI (sI I 5 made_r202) 46 patternAt_r3) (sF (sF F 3 fresh_r202) 45 bound_r3) H A s.heap locs := wMc Wd rfl rfl ⟨(rsI (rsI hS.1 (Wc202.2.1 5)) (Wc3.2.1 46)), (rsF (rsF hS.2 (fun j => Wc202.2.2 3 j)) (fun j => Wc3.2.2 45 j))⟩
          refine lv_iinc (v := zI (l4_131 + 1)) (lv' := [(4, .int (zI (l4_131 + 1))), (0, .ref h), (1, .int (zI x0)), (2, .int (zI x1)), (5, .int (zI ((F 24) ((40 * x0) + l4_131))))]) C.1 C.2.1 dX12_applies_205 hl (k := 3) rfl (zI_inc _ _ (by decide)) (by decide) rfl (fun ls hl => ?_)
          replace hl := lv_sub hl [1, 2, 3, 0, 4] rfl
          refine lv_goto (tgt := 131) C.1 C.2.1 dX12_applies_208 (by decide) ?_
          obtain ⟨g208_0, hw⟩ := hw
          exact hL131 _ _ _ hw _ _ _ ⟨g208_0, wMc Wd rfl rfl ⟨(rsI (rsI hS.1 (Wc202.2.1 5)) (Wc3.2.1 46)), (rsF (rsF hS.2 (fun j => Wc202.2.2 3 j)) (fun j => Wc3.2.2 45 j))⟩, lv_sub hl [0, 1, 2, 3] rfl⟩
        · have hw := hw.2 (z0_ne g_r162 c165)
          refine lv_aload_n C.1 C.2.1 dX12_applies_168 rfl (lv_at hl 0 rfl) ?_
          refine lv_aload_n C.1 C.2.1 dX12_applies_169 rfl (lv_at hl 0 rfl) ?_
          refine k_get (v := .ref (ad 45)) C Wd.1 KX12 0 45 wM0 (by decide) fl_X12_65 rfl dX12_applies_170 ?_
          refine lv_iload C.1 C.2.1 dX12_applies_173 (lv_at hl 4 rfl) ?_
          refine lv_bipush (v := zI 30) C.1 C.2.1 dX12_applies_175 (by decide) ?_
          refine k_isub (v := zI (((F 24) ((40 * x0) + l4_131)) - 30)) C (zI_isub _ _) dX12_applies_177 ?_
          obtain ⟨a178, hw⟩ := hw
          refine k_ialdM (g := bound_r3) C Wd 18 17 rfl rfl a178 (by decide) dX12_applies_178 ?_
          have g178 : rng (bound_r3 (((F 24) ((40 * x0) + l4_131)) - 30)) := rngL (fun j => Wc3.2.2 45 j) a178
          refine lv_aload_n C.1 C.2.1 dX12_applies_179 rfl (lv_at hl 0 rfl) ?_
          refine lv_aload_n C.1 C.2.1 dX12_applies_180 rfl (lv_at hl 0 rfl) ?_
          refine k_get (v := .ref (ad 45)) C Wd.1 KX12 0 45 wM0 (by decide) fl_X12_65 rfl dX12_applies_181 ?_
          refine lv_iload C.1 C.2.1 dX12_applies_184 (lv_at hl 4 rfl) ?_
          refine lv_bipush (v := zI 30) C.1 C.2.1 dX12_applies_186 (by decide) ?_
          refine k_isub (v := zI (((F 24) ((40 * x0) + l4_131)) - 30)) C (zI_isub _ _) dX12_applies_188 ?_
          obtain ⟨a189, hw⟩ := hw
          refine k_ialdM (g := bound_r3) C Wd 18 17 rfl rfl a189 (by decide) dX12_applies_189 ?_
          refine k_pi (k_runVM (rest := [.int (zI (bound_r3 (((F 24) ((40 * x0) + l4_131)) - 30))), .ref h]) C aks Wd cs_X12_94 (mt_endOf D h ad ca (sI (sI I 5 made_131) 46 patternAt_r3) (sF (sF F 3 fresh_131) 45 bound_r3) Wd.2 (bound_r3 (((F 24) ((40 * x0) + l4_131)) - 30)) g178 _ hw l _) rfl rfl ⟨(Nat.le_of_ble_eq_true rfl), (Nat.le_of_ble_eq_true rfl)⟩ hl.1 rfl rfl (Nat.le_of_ble_eq_true rfl) ⟨(Nat.le_of_ble_eq_true rfl), (Nat.le_of_ble_eq_true rfl)⟩ dX12_applies_190) (fun y190 hy => ?_)
          obtain ⟨r190, rfl, g_r190, hw⟩ := hy
          refine k_cMv Wd (k_runVM (rest := []) C aks Wd cs_X12_367 (mt_writes D h ad ca (sI (sI I 5 made_131) 46 patternAt_r3) (sF (sF F 3 fresh_131) 45 bound_r3) Wd.2 (bound_r3 (((F 24) ((40 * x0) + l4_131)) - 30)) r190 g178 g_r190 _ hw l _) rfl rfl ⟨(Nat.le_of_ble_eq_true rfl), (Nat.le_of_ble_eq_true rfl)⟩ hl.1 rfl rfl (Nat.le_of_ble_eq_true rfl) ⟨(Nat.le_of_ble_eq_true rfl), (Nat.le_of_ble_eq_true rfl)⟩ dX12_applies_193) (fun u193 H locs hw Wd => ?_)
          obtain ⟨fresh_r193, made_r193⟩ := u193
          dsimp only at hw
          have Wc193 := Wd
          have Wd : wXM D ca s h ad (sI (sI I 5 made_r193) 46 patternAt_r3) (sF (sF F 3 fresh_r193) 45 bound_r3) H A s.heap locs := wMc Wd rfl rfl ⟨(rsI (rsI hS.1 (Wc193.2.1 5)) (Wc3.2.1 46)), (rsF (rsF hS.2 (fun j => Wc193.2.2 3 j)) (fun j => Wc3.2.2 45 j))⟩
          refine lv_goto (tgt := 205) C.1 C.2.1 dX12_applies_196 (by decide) ?_
          refine lv_iinc (v := zI (l4_131 + 1)) (lv' := [(4, .int (zI (l4_131 + 1))), (0, .ref h), (1, .int (zI x0)), (2, .int (zI x1)), (5, .int (zI ((F 24) ((40 * x0) + l4_131))))]) C.1 C.2.1 dX12_applies_205 hl (k := 3) rfl (zI_inc _ _ (by decide)) (by decide) rfl (fun ls hl => ?_)
          replace hl := lv_sub hl [1, 2, 3, 0, 4] rfl
          refine lv_goto (tgt := 131) C.1 C.2.1 dX12_applies_208 (by decide) ?_
          obtain ⟨g208_0, hw⟩ := hw
          exact hL131 _ _ _ hw _ _ _ ⟨g208_0, wMc Wd rfl rfl ⟨(rsI (rsI hS.1 (Wc193.2.1 5)) (Wc3.2.1 46)), (rsF (rsF hS.2 (fun j => Wc193.2.2 3 j)) (fun j => Wc3.2.2 45 j))⟩, lv_sub hl [0, 1, 2, 3] rfl⟩
    · have hw := hw.2 (z_nle g_l3_28 (show rng 300 from by decide) c107)
      refine lv_iconst (v := zI 0) C.1 C.2.1 dX12_applies_110 (by decide) ?_
      exact k_retMi C hr hlk (by decide) Wd (u := ((F 2), (F 3), (I 4), (I 5), bound_r3, patternAt_r3)) rfl rfl ⟨⟨_, rfl, (show rng 0 from by decide), hw⟩, ⟨(rsI (rsI (rsI hS.1 (hS.1 4)) (hS.1 5)) (Wc3.2.1 46)), (rsF (rsF (rsF hS.2 (hS.2 2)) (hS.2 3)) (fun j => Wc3.2.2 45 j))⟩⟩ dX12_applies_111
  · have hw := hw.2 (z_nle g35 g_l4_28 c36)
    refine lv_aload_n C.1 C.2.1 dX12_applies_39 rfl (lv_at hl 0 rfl) ?_
    refine k_get (v := .ref (ad 24)) C Wd.1 KX12 0 24 wM0 (by decide) fl_X12_29 rfl dX12_applies_40 ?_
    refine lv_bipush (v := zI 40) C.1 C.2.1 dX12_applies_43 (by decide) ?_
    refine lv_iload_n C.1 C.2.1 dX12_applies_45 rfl (lv_at hl 1 rfl) ?_
    refine k_imul (v := zI (40 * x0)) C (zI_imul _ _) dX12_applies_46 ?_
    refine lv_iload C.1 C.2.1 dX12_applies_47 (lv_at hl 4 rfl) ?_
    refine k_iadd (v := zI ((40 * x0) + l4_28)) C (zI_iadd _ _) dX12_applies_49 ?_
    obtain ⟨a50, hw⟩ := hw
    refine k_ialdM (g := (F 24)) C Wd 6 5 rfl rfl a50 (by decide) dX12_applies_50 ?_
    have g50 : rng ((F 24) ((40 * x0) + l4_28)) := rngL (hS.2 24) a50
    refine lv_istore (lv' := [(5, .int (zI ((F 24) ((40 * x0) + l4_28)))), (0, .ref h), (1, .int (zI x0)), (2, .int (zI x1)), (3, .int (zI l3_28)), (4, .int (zI l4_28))]) C.1 C.2.1 dX12_applies_51 hl (by decide) rfl (fun ls hl => ?_)
    replace hl := lv_sub hl [1, 2, 3, 4, 5, 0] rfl
    refine lv_iload_n C.1 C.2.1 dX12_applies_53 rfl (lv_at hl 3 rfl) ?_
    refine lv_iload C.1 C.2.1 dX12_applies_54 (lv_at hl 5 rfl) ?_
    refine lv_bipush (v := zI 30) C.1 C.2.1 dX12_applies_56 (by decide) ?_
    refine lv_bipush (v := zI 32) C.1 C.2.1 dX12_applies_58 (by decide) ?_
    refine k_pi (k_runS (rest := [.int (zI l3_28)]) C aks Wd.1 cs_X12_90 (mt_isIn D ((F 24) ((40 * x0) + l4_28)) 30 32 g50 (show rng 30 from by decide) (show rng 32 from by decide) _ hw l _) [] rfl (by decide) [] rfl rfl rfl ⟨(Nat.le_of_ble_eq_true rfl), (Nat.le_of_ble_eq_true rfl)⟩ hl.1 rfl rfl (Nat.le_of_ble_eq_true rfl) ⟨(Nat.le_of_ble_eq_true rfl), (Nat.le_of_ble_eq_true rfl)⟩ dX12_applies_60) (fun y60 hy => ?_)
    obtain ⟨r60, rfl, g_r60, hw⟩ := hy
    refine lv_if_eq (tgt := 94) C.1 C.2.1 dX12_applies_63 (by decide) (fun c63 => ?_) (fun c63 => ?_)
    · have hw := hw.1 (z0_eq g_r60 c63)
      refine lv_iconst (v := zI 1) C.1 C.2.1 dX12_applies_94 (by decide) ?_
      refine k_iadd (v := zI (l3_28 + 1)) C (zI_iadd _ _) dX12_applies_95 ?_
      refine lv_istore_n (lv' := [(3, .int (zI (l3_28 + 1))), (0, .ref h), (1, .int (zI x0)), (2, .int (zI x1)), (4, .int (zI l4_28)), (5, .int (zI ((F 24) ((40 * x0) + l4_28))))]) C.1 C.2.1 dX12_applies_96 rfl hl (by decide) rfl (fun ls hl => ?_)
      replace hl := lv_sub hl [1, 2, 3, 0, 4, 5] rfl
      refine lv_iinc (v := zI (l4_28 + 1)) (lv' := [(4, .int (zI (l4_28 + 1))), (0, .ref h), (1, .int (zI x0)), (2, .int (zI x1)), (3, .int (zI (l3_28 + 1))), (5, .int (zI ((F 24) ((40 * x0) + l4_28))))]) C.1 C.2.1 dX12_applies_97 hl (k := 4) rfl (zI_inc _ _ (by decide)) (by decide) rfl (fun ls hl => ?_)
      replace hl := lv_sub hl [1, 2, 3, 4, 0, 5] rfl
      refine lv_goto (tgt := 28) C.1 C.2.1 dX12_applies_100 (by decide) ?_
      obtain ⟨g100_0, hw⟩ := hw
      obtain ⟨g100_1, hw⟩ := hw
      exact hL28 _ _ hw _ _ _ ⟨g100_0, g100_1, wMc Wd rfl rfl ⟨(rsI hS.1 (Wc3.2.1 46)), (rsF hS.2 (fun j => Wc3.2.2 45 j))⟩, lv_sub hl [0, 1, 2, 3, 4] rfl⟩
    · have hw := hw.2 (z0_ne g_r60 c63)
      refine lv_aload_n C.1 C.2.1 dX12_applies_66 rfl (lv_at hl 0 rfl) ?_
      refine lv_aload_n C.1 C.2.1 dX12_applies_67 rfl (lv_at hl 0 rfl) ?_
      refine k_get (v := .ref (ad 45)) C Wd.1 KX12 0 45 wM0 (by decide) fl_X12_65 rfl dX12_applies_68 ?_
      refine lv_iload C.1 C.2.1 dX12_applies_71 (lv_at hl 5 rfl) ?_
      refine lv_bipush (v := zI 30) C.1 C.2.1 dX12_applies_73 (by decide) ?_
      refine k_isub (v := zI (((F 24) ((40 * x0) + l4_28)) - 30)) C (zI_isub _ _) dX12_applies_75 ?_
      obtain ⟨a76, hw⟩ := hw
      refine k_ialdM (g := bound_r3) C Wd 18 17 rfl rfl a76 (by decide) dX12_applies_76 ?_
      have g76 : rng (bound_r3 (((F 24) ((40 * x0) + l4_28)) - 30)) := rngL (fun j => Wc3.2.2 45 j) a76
      refine k_pi (k_runVM (rest := [.int (zI l3_28)]) C aks Wd cs_X12_94 (mt_endOf D h ad ca (sI I 46 patternAt_r3) (sF F 45 bound_r3) Wd.2 (bound_r3 (((F 24) ((40 * x0) + l4_28)) - 30)) g76 _ hw l _) rfl rfl ⟨(Nat.le_of_ble_eq_true rfl), (Nat.le_of_ble_eq_true rfl)⟩ hl.1 rfl rfl (Nat.le_of_ble_eq_true rfl) ⟨(Nat.le_of_ble_eq_true rfl), (Nat.le_of_ble_eq_true rfl)⟩ dX12_applies_77) (fun y77 hy => ?_)
      obtain ⟨r77, rfl, g_r77, hw⟩ := hy
      refine lv_aload_n C.1 C.2.1 dX12_applies_80 rfl (lv_at hl 0 rfl) ?_
      refine k_get (v := .ref (ad 45)) C Wd.1 KX12 0 45 wM0 (by decide) fl_X12_65 rfl dX12_applies_81 ?_
      refine lv_iload C.1 C.2.1 dX12_applies_84 (lv_at hl 5 rfl) ?_
      refine lv_bipush (v := zI 30) C.1 C.2.1 dX12_applies_86 (by decide) ?_
      refine k_isub (v := zI (((F 24) ((40 * x0) + l4_28)) - 30)) C (zI_isub _ _) dX12_applies_88 ?_
      obtain ⟨a89, hw⟩ := hw
      refine k_ialdM (g := bound_r3) C Wd 18 17 rfl rfl a89 (by decide) dX12_applies_89 ?_
      refine k_isub (v := zI (r77 - (bound_r3 (((F 24) ((40 * x0) + l4_28)) - 30)))) C (zI_isub _ _) dX12_applies_90 ?_
      refine lv_goto (tgt := 95) C.1 C.2.1 dX12_applies_91 (by decide) ?_
      refine k_iadd (v := zI (l3_28 + (r77 - (bound_r3 (((F 24) ((40 * x0) + l4_28)) - 30))))) C (zI_iadd _ _) dX12_applies_95 ?_
      refine lv_istore_n (lv' := [(3, .int (zI (l3_28 + (r77 - (bound_r3 (((F 24) ((40 * x0) + l4_28)) - 30)))))), (0, .ref h), (1, .int (zI x0)), (2, .int (zI x1)), (4, .int (zI l4_28)), (5, .int (zI ((F 24) ((40 * x0) + l4_28))))]) C.1 C.2.1 dX12_applies_96 rfl hl (by decide) rfl (fun ls hl => ?_)
      replace hl := lv_sub hl [1, 2, 3, 0, 4, 5] rfl
      refine lv_iinc (v := zI (l4_28 + 1)) (lv' := [(4, .int (zI (l4_28 + 1))), (0, .ref h), (1, .int (zI x0)), (2, .int (zI x1)), (3, .int (zI (l3_28 + (r77 - (bound_r3 (((F 24) ((40 * x0) + l4_28)) - 30)))))), (5, .int (zI ((F 24) ((40 * x0) + l4_28))))]) C.1 C.2.1 dX12_applies_97 hl (k := 4) rfl (zI_inc _ _ (by decide)) (by decide) rfl (fun ls hl => ?_)
      replace hl := lv_sub hl [1, 2, 3, 4, 0, 5] rfl
      refine lv_goto (tgt := 28) C.1 C.2.1 dX12_applies_100 (by decide) ?_
      obtain ⟨g100_0, hw⟩ := hw
      obtain ⟨g100_1, hw⟩ := hw
      exact hL28 _ _ hw _ _ _ ⟨g100_0, g100_1, wMc Wd rfl rfl ⟨(rsI hS.1 (Wc3.2.1 46)), (rsF hS.2 (fun j => Wc3.2.2 45 j))⟩, lv_sub hl [0, 1, 2, 3, 4] rfl⟩
set_option maxHeartbeats 4000000 in
set_option maxRecDepth 100000 in
theorem mt_apply : ∀ (D : va_G) (h : Nat) (ad : Nat → Nat) (ca : Nat → ClassId) (I : Nat → Int) (F : Nat → Int → Int) (hS : rngS I F) (x0 : Int) (x1 : Int) (x2 : Int) (x3 : Int) (g_x0 : rng x0) (g_x1 : rng x1) (g_x2 : rng x2) (g_x3 : rng x3) (K : Int → (Int → Int) → (Int → Int) → (Int → Int) → (Int → Int) → Int → Int → (Int → Int) → Int → Prop) (hw : wp_apply (F 0) (F 1) (F 2) (F 3) (I 4) (I 5) (I 23) (F 24) (F 25) (F 26) (F 45) (I 46) x0 x1 x2 x3 K) (l : Launch) (sz : Nat), Met l yX12_apply (Cond.code yX12_apply cX12_apply 6 (some .boolean) :: gG) { frames := 609, cells := 0, slots := 0, locals := 13184 } (cPre D (tM ca) (wM h ad ca I F) sz [.ref h, .int (zI x0), .int (zI x1), .int (zI x2), .int (zI x3)]) (va_Qi (fun (r : Int32) (u : (Int → Int) × (Int → Int) × (Int → Int) × (Int → Int) × (Int) × (Int) × (Int → Int) × (Int)) => (∃ x : Int, r = zI x ∧ rng x ∧ K x u.1 u.2.1 u.2.2.1 u.2.2.2.1 u.2.2.2.2.1 u.2.2.2.2.2.1 u.2.2.2.2.2.2.1 u.2.2.2.2.2.2.2) ∧ rngS (sI (sI (sI I 4 u.2.2.2.2.1) 5 u.2.2.2.2.2.1) 46 u.2.2.2.2.2.2.2) (sF (sF (sF (sF (sF F 0 u.1) 1 u.2.1) 2 u.2.2.1) 3 u.2.2.2.1) 45 u.2.2.2.2.2.2.1)) (fun u t => cB D (va_A (wM h ad ca I F) sz) [] (wM h ad ca (sI (sI (sI I 4 u.2.2.2.2.1) 5 u.2.2.2.2.2.1) 46 u.2.2.2.2.2.2.2) (sF (sF (sF (sF (sF F 0 u.1) 1 u.2.1) 2 u.2.2.1) 3 u.2.2.2.1) 45 u.2.2.2.2.2.2.1)) t) (va_A (wM h ad ca I F) sz)) 0 0 (va_A (wM h ad ca I F) sz) := by
  intro D h ad ca I F hS x0 x1 x2 x3 g_x0 g_x1 g_x2 g_x3 K hw l sz
  refine Met.ofW (cc := cX12_apply) (maxL := 6) (ret := (some .boolean)) (by decide) rfl ?_
  intro p e s m args below meth c s₁ B hml hv
  obtain ⟨rfl, aks, rfl, Wd⟩ := k_enter hv
  have C : CallFix p m c cX12_apply 6 s _ gG RX12 := ⟨B.exec, B.bytes, hml, findClass_of_methodNamed B.named, fun w h => atoms_spec (ws := Cond.code yX12_apply cX12_apply 6 (some .boolean) :: gG) B.pre w (List.mem_cons_of_mem _ h)⟩
  have hr := B.returns
  have hlk := B.notSynchronized
  generalize va_A (wM h ad ca I F) s.heap.size = A at Wd ⊢
  replace Wd : wXM D ca s h ad I F s.heap A s.heap [] := ⟨Wd, hS⟩
  refine k_locals (Nat.le_of_ble_eq_true rfl) [(0, .ref h), (1, .int (zI x0)), (2, .int (zI x1)), (3, .int (zI x2)), (4, .int (zI x3))] rfl (fun ls hl => ?_)
  unfold wp_apply at hw
  refine lv_iload_n C.1 C.2.1 dX12_apply_0 rfl (lv_at hl 1 rfl) ?_
  refine lv_iconst (v := zI 0) C.1 C.2.1 dX12_apply_1 (by decide) ?_
  refine lv_aload_n C.1 C.2.1 dX12_apply_2 rfl (lv_at hl 0 rfl) ?_
  refine k_get (v := .int (zI (I 23))) C Wd.1 KX12 0 23 wM0 (by decide) fl_X12_268 rfl dX12_apply_3 ?_
  refine lv_iconst (v := zI 1) C.1 C.2.1 dX12_apply_6 (by decide) ?_
  refine k_isub (v := zI ((I 23) - 1)) C (zI_isub _ _) dX12_apply_7 ?_
  obtain ⟨g8_0, hw⟩ := hw
  refine k_pi (k_runS (rest := []) C aks Wd.1 cs_X12_90 (mt_isIn D x0 0 ((I 23) - 1) g_x0 (show rng 0 from by decide) g8_0 _ hw l _) [] rfl (by decide) [] rfl rfl rfl ⟨(Nat.le_of_ble_eq_true rfl), (Nat.le_of_ble_eq_true rfl)⟩ hl.1 rfl rfl (Nat.le_of_ble_eq_true rfl) ⟨(Nat.le_of_ble_eq_true rfl), (Nat.le_of_ble_eq_true rfl)⟩ dX12_apply_8) (fun y8 hy => ?_)
  obtain ⟨r8, rfl, g_r8, hw⟩ := hy
  refine lv_if_eq (tgt := 33) C.1 C.2.1 dX12_apply_11 (by decide) (fun c11 => ?_) (fun c11 => ?_)
  · have hw := hw.1 (z0_eq g_r8 c11)
    refine lv_iconst (v := zI 0) C.1 C.2.1 dX12_apply_33 (by decide) ?_
    exact k_retMi C hr hlk (by decide) Wd (u := ((F 0), (F 1), (F 2), (F 3), (I 4), (I 5), (F 45), (I 46))) rfl rfl ⟨⟨_, rfl, (show rng 0 from by decide), hw⟩, ⟨(rsI (rsI (rsI hS.1 (hS.1 4)) (hS.1 5)) (hS.1 46)), (rsF (rsF (rsF (rsF (rsF hS.2 (hS.2 0)) (hS.2 1)) (hS.2 2)) (hS.2 3)) (hS.2 45))⟩⟩ dX12_apply_34
  · have hw := hw.2 (z0_ne g_r8 c11)
    refine lv_iload_n C.1 C.2.1 dX12_apply_14 rfl (lv_at hl 2 rfl) ?_
    refine k_pi (k_runS (rest := []) C aks Wd.1 cs_X12_249 (mt_isSlot D x1 g_x1 _ hw l _) [] rfl (by decide) [] rfl rfl rfl ⟨(Nat.le_of_ble_eq_true rfl), (Nat.le_of_ble_eq_true rfl)⟩ hl.1 rfl rfl (Nat.le_of_ble_eq_true rfl) ⟨(Nat.le_of_ble_eq_true rfl), (Nat.le_of_ble_eq_true rfl)⟩ dX12_apply_15) (fun y15 hy => ?_)
    obtain ⟨r15, rfl, g_r15, hw⟩ := hy
    refine lv_if_eq (tgt := 33) C.1 C.2.1 dX12_apply_18 (by decide) (fun c18 => ?_) (fun c18 => ?_)
    · have hw := hw.1 (z0_eq g_r15 c18)
      refine lv_iconst (v := zI 0) C.1 C.2.1 dX12_apply_33 (by decide) ?_
      exact k_retMi C hr hlk (by decide) Wd (u := ((F 0), (F 1), (F 2), (F 3), (I 4), (I 5), (F 45), (I 46))) rfl rfl ⟨⟨_, rfl, (show rng 0 from by decide), hw⟩, ⟨(rsI (rsI (rsI hS.1 (hS.1 4)) (hS.1 5)) (hS.1 46)), (rsF (rsF (rsF (rsF (rsF hS.2 (hS.2 0)) (hS.2 1)) (hS.2 2)) (hS.2 3)) (hS.2 45))⟩⟩ dX12_apply_34
    · have hw := hw.2 (z0_ne g_r15 c18)
      refine lv_iload C.1 C.2.1 dX12_apply_21 (lv_at hl 4 rfl) ?_
      refine k_pi (k_runS (rest := []) C aks Wd.1 cs_X12_249 (mt_isSlot D x3 g_x3 _ hw l _) [] rfl (by decide) [] rfl rfl rfl ⟨(Nat.le_of_ble_eq_true rfl), (Nat.le_of_ble_eq_true rfl)⟩ hl.1 rfl rfl (Nat.le_of_ble_eq_true rfl) ⟨(Nat.le_of_ble_eq_true rfl), (Nat.le_of_ble_eq_true rfl)⟩ dX12_apply_23) (fun y23 hy => ?_)
      obtain ⟨r23, rfl, g_r23, hw⟩ := hy
      refine lv_if_eq (tgt := 33) C.1 C.2.1 dX12_apply_26 (by decide) (fun c26 => ?_) (fun c26 => ?_)
      · have hw := hw.1 (z0_eq g_r23 c26)
        refine lv_iconst (v := zI 0) C.1 C.2.1 dX12_apply_33 (by decide) ?_
        exact k_retMi C hr hlk (by decide) Wd (u := ((F 0), (F 1), (F 2), (F 3), (I 4), (I 5), (F 45), (I 46))) rfl rfl ⟨⟨_, rfl, (show rng 0 from by decide), hw⟩, ⟨(rsI (rsI (rsI hS.1 (hS.1 4)) (hS.1 5)) (hS.1 46)), (rsF (rsF (rsF (rsF (rsF hS.2 (hS.2 0)) (hS.2 1)) (hS.2 2)) (hS.2 3)) (hS.2 45))⟩⟩ dX12_apply_34
      · have hw := hw.2 (z0_ne g_r23 c26)
        refine lv_iload_n C.1 C.2.1 dX12_apply_29 rfl (lv_at hl 3 rfl) ?_
        refine lv_if_ge (tgt := 35) C.1 C.2.1 dX12_apply_30 (by decide) (fun c30 => ?_) (fun c30 => ?_)
        · have hw := hw.1 (z0_ler g_x2 c30)
          refine lv_aload_n C.1 C.2.1 dX12_apply_35 rfl (lv_at hl 0 rfl) ?_
          refine lv_iload_n C.1 C.2.1 dX12_apply_36 rfl (lv_at hl 2 rfl) ?_
          refine k_cMv Wd (k_runVM (rest := []) C aks Wd cs_X12_271 (mt_takes D h ad ca I F Wd.2 x1 g_x1 _ hw l _) rfl rfl ⟨(Nat.le_of_ble_eq_true rfl), (Nat.le_of_ble_eq_true rfl)⟩ hl.1 rfl rfl (Nat.le_of_ble_eq_true rfl) ⟨(Nat.le_of_ble_eq_true rfl), (Nat.le_of_ble_eq_true rfl)⟩ dX12_apply_37) (fun u37 H locs hw Wd => ?_)
          obtain ⟨row_r37, many_r37⟩ := u37
          dsimp only at hw
          have Wc37 := Wd
          have Wd : wXM D ca s h ad (sI I 4 many_r37) (sF F 2 row_r37) H A s.heap locs := wMc Wd rfl rfl ⟨(rsI hS.1 (Wc37.2.1 4)), (rsF hS.2 (fun j => Wc37.2.2 2 j))⟩
          refine lv_aload_n C.1 C.2.1 dX12_apply_40 rfl (lv_at hl 0 rfl) ?_
          refine lv_iload_n C.1 C.2.1 dX12_apply_41 rfl (lv_at hl 1 rfl) ?_
          refine lv_iload_n C.1 C.2.1 dX12_apply_42 rfl (lv_at hl 3 rfl) ?_
          refine k_cMi Wd (k_runVM (rest := []) C aks Wd cs_X12_370 (mt_match D h ad ca (sI I 4 many_r37) (sF F 2 row_r37) Wd.2 x0 x2 g_x0 g_x2 _ hw l _) rfl rfl ⟨(Nat.le_of_ble_eq_true rfl), (Nat.le_of_ble_eq_true rfl)⟩ hl.1 rfl rfl (Nat.le_of_ble_eq_true rfl) ⟨(Nat.le_of_ble_eq_true rfl), (Nat.le_of_ble_eq_true rfl)⟩ dX12_apply_43) (fun r43 u43 H locs g_r43 hw Wd => ?_)
          obtain ⟨bound_r43, patternAt_r43⟩ := u43
          dsimp only at hw
          have Wc43 := Wd
          have Wd : wXM D ca s h ad (sI (sI I 4 many_r37) 46 patternAt_r43) (sF (sF F 2 row_r37) 45 bound_r43) H A s.heap locs := wMc Wd rfl rfl ⟨(rsI (rsI hS.1 (Wc37.2.1 4)) (Wc43.2.1 46)), (rsF (rsF hS.2 (fun j => Wc37.2.2 2 j)) (fun j => Wc43.2.2 45 j))⟩
          refine lv_istore (lv' := [(5, .int (zI r43)), (0, .ref h), (1, .int (zI x0)), (2, .int (zI x1)), (3, .int (zI x2)), (4, .int (zI x3))]) C.1 C.2.1 dX12_apply_46 hl (by decide) rfl (fun ls hl => ?_)
          replace hl := lv_sub hl [1, 2, 3, 4, 5, 0] rfl
          refine lv_iload C.1 C.2.1 dX12_apply_48 (lv_at hl 5 rfl) ?_
          refine lv_iconst (v := zI (-1)) C.1 C.2.1 dX12_apply_50 (by decide) ?_
          refine lv_icmp_eq (tgt := 64) C.1 C.2.1 dX12_apply_51 (by decide) (fun c51 => ?_) (fun c51 => ?_)
          · have hw := hw.1 (z_eq g_r43 (show rng (-1) from by decide) c51)
            refine lv_iconst (v := zI 0) C.1 C.2.1 dX12_apply_64 (by decide) ?_
            exact k_retMi C hr hlk (by decide) Wd (u := ((F 0), (F 1), row_r37, (F 3), many_r37, (I 5), bound_r43, patternAt_r43)) rfl rfl ⟨⟨_, rfl, (show rng 0 from by decide), hw⟩, ⟨(rsI (rsI (rsI hS.1 (Wc37.2.1 4)) (hS.1 5)) (Wc43.2.1 46)), (rsF (rsF (rsF (rsF (rsF hS.2 (hS.2 0)) (hS.2 1)) (fun j => Wc37.2.2 2 j)) (hS.2 3)) (fun j => Wc43.2.2 45 j))⟩⟩ dX12_apply_65
          · have hw := hw.2 (z_ne g_r43 (show rng (-1) from by decide) c51)
            refine lv_aload_n C.1 C.2.1 dX12_apply_54 rfl (lv_at hl 0 rfl) ?_
            refine lv_iload_n C.1 C.2.1 dX12_apply_55 rfl (lv_at hl 1 rfl) ?_
            refine lv_iload C.1 C.2.1 dX12_apply_56 (lv_at hl 5 rfl) ?_
            refine k_cMi Wd (k_runVM (rest := []) C aks Wd cs_X12_373 (mt_applies D h ad ca (sI (sI I 4 many_r37) 46 patternAt_r43) (sF (sF F 2 row_r37) 45 bound_r43) Wd.2 x0 r43 g_x0 g_r43 _ hw l _) rfl rfl ⟨(Nat.le_of_ble_eq_true rfl), (Nat.le_of_ble_eq_true rfl)⟩ hl.1 rfl rfl (Nat.le_of_ble_eq_true rfl) ⟨(Nat.le_of_ble_eq_true rfl), (Nat.le_of_ble_eq_true rfl)⟩ dX12_apply_58) (fun r58 u58 H locs g_r58 hw Wd => ?_)
            obtain ⟨row_r58, fresh_r58, many_r58, made_r58, bound_r58, patternAt_r58⟩ := u58
            dsimp only at hw
            have Wc58 := Wd
            have Wd : wXM D ca s h ad (sI (sI (sI I 4 many_r58) 5 made_r58) 46 patternAt_r58) (sF (sF (sF F 2 row_r58) 3 fresh_r58) 45 bound_r58) H A s.heap locs := wMc Wd rfl rfl ⟨(rsI (rsI (rsI hS.1 (Wc58.2.1 4)) (Wc58.2.1 5)) (Wc58.2.1 46)), (rsF (rsF (rsF hS.2 (fun j => Wc58.2.2 2 j)) (fun j => Wc58.2.2 3 j)) (fun j => Wc58.2.2 45 j))⟩
            refine lv_if_ne (tgt := 66) C.1 C.2.1 dX12_apply_61 (by decide) (fun c61 => ?_) (fun c61 => ?_)
            · have hw := hw.1 (z0_ne g_r58 c61)
              refine lv_aload_n C.1 C.2.1 dX12_apply_66 rfl (lv_at hl 0 rfl) ?_
              refine lv_iload C.1 C.2.1 dX12_apply_67 (lv_at hl 4 rfl) ?_
              refine k_cMv Wd (k_runVM (rest := []) C aks Wd cs_X12_262 (mt_puts D h ad ca (sI (sI (sI I 4 many_r58) 5 made_r58) 46 patternAt_r58) (sF (sF (sF F 2 row_r58) 3 fresh_r58) 45 bound_r58) Wd.2 x3 g_x3 _ hw l _) rfl rfl ⟨(Nat.le_of_ble_eq_true rfl), (Nat.le_of_ble_eq_true rfl)⟩ hl.1 rfl rfl (Nat.le_of_ble_eq_true rfl) ⟨(Nat.le_of_ble_eq_true rfl), (Nat.le_of_ble_eq_true rfl)⟩ dX12_apply_69) (fun u69 H locs hw Wd => ?_)
              obtain ⟨slot_r69, slotLong_r69⟩ := u69
              dsimp only at hw
              have Wc69 := Wd
              have Wd : wXM D ca s h ad (sI (sI (sI I 4 many_r58) 5 made_r58) 46 patternAt_r58) (sF (sF (sF (sF (sF F 0 slot_r69) 1 slotLong_r69) 2 row_r58) 3 fresh_r58) 45 bound_r58) H A s.heap locs := wMc Wd rfl rfl ⟨(rsI (rsI (rsI hS.1 (Wc58.2.1 4)) (Wc58.2.1 5)) (Wc58.2.1 46)), (rsF (rsF (rsF (rsF (rsF hS.2 (fun j => Wc69.2.2 0 j)) (fun j => Wc69.2.2 1 j)) (fun j => Wc58.2.2 2 j)) (fun j => Wc58.2.2 3 j)) (fun j => Wc58.2.2 45 j))⟩
              refine lv_iconst (v := zI 1) C.1 C.2.1 dX12_apply_72 (by decide) ?_
              exact k_retMi C hr hlk (by decide) Wd (u := (slot_r69, slotLong_r69, row_r58, fresh_r58, many_r58, made_r58, bound_r58, patternAt_r58)) rfl rfl ⟨⟨_, rfl, (show rng 1 from by decide), hw⟩, ⟨(rsI (rsI (rsI hS.1 (Wc58.2.1 4)) (Wc58.2.1 5)) (Wc58.2.1 46)), (rsF (rsF (rsF (rsF (rsF hS.2 (fun j => Wc69.2.2 0 j)) (fun j => Wc69.2.2 1 j)) (fun j => Wc58.2.2 2 j)) (fun j => Wc58.2.2 3 j)) (fun j => Wc58.2.2 45 j))⟩⟩ dX12_apply_73
            · have hw := hw.2 (z0_eq g_r58 c61)
              refine lv_iconst (v := zI 0) C.1 C.2.1 dX12_apply_64 (by decide) ?_
              exact k_retMi C hr hlk (by decide) Wd (u := ((F 0), (F 1), row_r58, fresh_r58, many_r58, made_r58, bound_r58, patternAt_r58)) rfl rfl ⟨⟨_, rfl, (show rng 0 from by decide), hw⟩, ⟨(rsI (rsI (rsI hS.1 (Wc58.2.1 4)) (Wc58.2.1 5)) (Wc58.2.1 46)), (rsF (rsF (rsF (rsF (rsF hS.2 (hS.2 0)) (hS.2 1)) (fun j => Wc58.2.2 2 j)) (fun j => Wc58.2.2 3 j)) (fun j => Wc58.2.2 45 j))⟩⟩ dX12_apply_65
        · have hw := hw.2 (z0_nler g_x2 c30)
          refine lv_iconst (v := zI 0) C.1 C.2.1 dX12_apply_33 (by decide) ?_
          exact k_retMi C hr hlk (by decide) Wd (u := ((F 0), (F 1), (F 2), (F 3), (I 4), (I 5), (F 45), (I 46))) rfl rfl ⟨⟨_, rfl, (show rng 0 from by decide), hw⟩, ⟨(rsI (rsI (rsI hS.1 (hS.1 4)) (hS.1 5)) (hS.1 46)), (rsF (rsF (rsF (rsF (rsF hS.2 (hS.2 0)) (hS.2 1)) (hS.2 2)) (hS.2 3)) (hS.2 45))⟩⟩ dX12_apply_34
set_option maxHeartbeats 4000000 in
set_option maxRecDepth 100000 in
theorem mt_drops : ∀ (D : va_G) (h : Nat) (ad : Nat → Nat) (ca : Nat → ClassId) (I : Nat → Int) (F : Nat → Int → Int) (hS : rngS I F) (x0 : Int) (g_x0 : rng x0) (K : (Int → Int) → Int → Prop) (hw : wp_drops (F 47) (I 48) x0 K) (l : Launch) (sz : Nat), Met l yX12_drops (Cond.code yX12_drops cX12_drops 2 none :: gG) { frames := 1, cells := 0, slots := 0, locals := 64 } (cPre D (tM ca) (wM h ad ca I F) sz [.ref h, .int (zI x0)]) (va_Qv (fun (u : (Int → Int) × (Int)) => K u.1 u.2 ∧ rngS (sI I 48 u.2) (sF F 47 u.1)) (fun u t => cB D (va_A (wM h ad ca I F) sz) [] (wM h ad ca (sI I 48 u.2) (sF F 47 u.1)) t) (va_A (wM h ad ca I F) sz)) 0 0 (va_A (wM h ad ca I F) sz) := by
  intro D h ad ca I F hS x0 g_x0 K hw l sz
  refine Met.ofW (cc := cX12_drops) (maxL := 2) (ret := none) (by decide) rfl ?_
  intro p e s m args below meth c s₁ B hml hv
  obtain ⟨rfl, aks, rfl, Wd⟩ := k_enter hv
  have C : CallFix p m c cX12_drops 2 s _ gG RX12 := ⟨B.exec, B.bytes, hml, findClass_of_methodNamed B.named, fun w h => atoms_spec (ws := Cond.code yX12_drops cX12_drops 2 none :: gG) B.pre w (List.mem_cons_of_mem _ h)⟩
  have hr := B.returns
  have hlk := B.notSynchronized
  generalize va_A (wM h ad ca I F) s.heap.size = A at Wd ⊢
  replace Wd : wXM D ca s h ad I F s.heap A s.heap [] := ⟨Wd, hS⟩
  refine k_locals (Nat.le_of_ble_eq_true rfl) [(0, .ref h), (1, .int (zI x0))] rfl (fun ls hl => ?_)
  unfold wp_drops at hw
  refine lv_aload_n C.1 C.2.1 dX12_drops_0 rfl (lv_at hl 0 rfl) ?_
  refine k_get (v := .ref (ad 47)) C Wd.1 KX12 0 47 wM0 (by decide) fl_X12_68 rfl dX12_drops_1 ?_
  refine lv_iload_n C.1 C.2.1 dX12_drops_4 rfl (lv_at hl 1 rfl) ?_
  refine lv_iconst (v := zI 1) C.1 C.2.1 dX12_drops_5 (by decide) ?_
  obtain ⟨a6, hw⟩ := hw
  have q6 : ∀ j : Nat, rng ((uZ (F 47) x0 1) j) := ruZ (hS.2 47) (show rng 1 from by decide)
  refine k_zastM (g := (F 47)) C Wd 18 18 (sF F 47 (uZ (F 47) x0 1)) rfl rfl a6 (by decide) (by decide) rfl rfl (rsF hS.2 q6) dX12_drops_6 (fun H locs Wd => ?_)
  refine lv_aload_n C.1 C.2.1 dX12_drops_7 rfl (lv_at hl 0 rfl) ?_
  refine lv_iconst (v := zI 1) C.1 C.2.1 dX12_drops_8 (by decide) ?_
  refine k_putM C Wd 48 (sI I 48 1) (by decide) fl_X12_382 rfl (by decide) (by decide) rfl (rsI hS.1 (show rng 1 from by decide)) dX12_drops_9 (fun H locs Wd => ?_)
  exact k_retMv C hr hlk Wd (u := ((uZ (F 47) x0 1), 1)) rfl rfl ⟨hw, ⟨(rsI hS.1 (show rng 1 from by decide)), (rsF hS.2 q6)⟩⟩ dX12_drops_12
set_option maxHeartbeats 4000000 in
set_option maxRecDepth 100000 in
theorem mg_marks (n : Nat) : (∀ (D : va_G) (h : Nat) (ad : Nat → Nat) (ca : Nat → ClassId) (I : Nat → Int) (F : Nat → Int → Int) (hS : rngS I F) (x0 : Int) (x1 : Int) (g_x0 : rng x0) (g_x1 : rng x1) (K : (Int → Int) → Int → Prop) (hw : wp_marks n (F 2) (I 4) (F 47) (I 48) x0 x1 K) (l : Launch) (sz : Nat), Met l yX12_marks (Cond.code yX12_marks cX12_marks 7 none :: gG) { frames := 711 + n, cells := 0, slots := 0, locals := 15658 + 26 * n } (cPre D (tM ca) (wM h ad ca I F) sz [.ref h, .int (zI x0), .int (zI x1)]) (va_Qv (fun (u : (Int → Int) × (Int)) => K u.1 u.2 ∧ rngS (sI I 48 u.2) (sF F 47 u.1)) (fun u t => cB D (va_A (wM h ad ca I F) sz) [] (wM h ad ca (sI I 48 u.2) (sF F 47 u.1)) t) (va_A (wM h ad ca I F) sz)) 0 0 (va_A (wM h ad ca I F) sz)) := by
  induction n with
  | zero => exact (fun _ _ _ _ _ _ _ _ _ _ _ _ hw => absurd hw id)
  | succ n ih =>
    have ih_marks := ih
    intro D h ad ca I F hS x0 x1 g_x0 g_x1 K hw l sz
    refine Met.ofW (cc := cX12_marks) (maxL := 7) (ret := none) (by decide) rfl ?_
    intro p e s m args below meth c s₁ B hml hv
    obtain ⟨rfl, aks, rfl, Wd⟩ := k_enter hv
    have C : CallFix p m c cX12_marks 7 s _ gG RX12 := ⟨B.exec, B.bytes, hml, findClass_of_methodNamed B.named, fun w h => atoms_spec (ws := Cond.code yX12_marks cX12_marks 7 none :: gG) B.pre w (List.mem_cons_of_mem _ h)⟩
    have hr := B.returns
    have hlk := B.notSynchronized
    generalize va_A (wM h ad ca I F) s.heap.size = A at Wd ⊢
    replace Wd : wXM D ca s h ad I F s.heap A s.heap [] := ⟨Wd, hS⟩
    refine k_locals (Nat.le_of_ble_eq_true rfl) [(0, .ref h), (1, .int (zI x0)), (2, .int (zI x1))] rfl (fun ls hl => ?_)
    replace hw : wp_marks_b (wp_marks n) (F 2) (I 4) (F 47) (I 48) x0 x1 K := hw
    unfold wp_marks_b at hw
    refine lv_iload_n C.1 C.2.1 dX12_marks_0 rfl (lv_at hl 1 rfl) ?_
    refine lv_istore_n (lv' := [(3, .int (zI x0)), (0, .ref h), (1, .int (zI x0)), (2, .int (zI x1))]) C.1 C.2.1 dX12_marks_1 rfl hl (by decide) rfl (fun ls hl => ?_)
    replace hl := lv_sub hl [1, 2, 3, 0] rfl
    refine k_lp3 hw (fun (l3_2 : Int) (isOut_2 : Int → Int) (someOut_2 : Int) H locs ls => rng l3_2 ∧ wXM D ca s h ad (sI I 48 someOut_2) (sF F 47 isOut_2) H A s.heap locs ∧ lv_has ls 7 [(0, .ref h), (2, .int (zI x1)), (3, .int (zI l3_2))]) (fun (l3_2 : Int) (isOut_2 : Int → Int) (someOut_2 : Int) ls => F0 m 2 ls []) (fun L2 hL2 l3_2 isOut_2 someOut_2 hw H locs ls hi => ?_) _ _ _ ⟨g_x0, wMc Wd rfl rfl ⟨(rsI hS.1 (hS.1 48)), (rsF hS.2 (hS.2 47))⟩, lv_sub hl [0, 2, 3] rfl⟩
    obtain ⟨g_l3_2, Wd, hl⟩ := hi
    have Wd2 := Wd
    unfold wp_marks_2 at hw
    refine lv_aload_n C.1 C.2.1 dX12_marks_2 rfl (lv_at hl 0 rfl) ?_
    refine lv_iload_n C.1 C.2.1 dX12_marks_3 rfl (lv_at hl 2 rfl) ?_
    refine k_pi (k_runVM (rest := []) C aks Wd cs_X12_107 (mt_isLast D h ad ca (sI I 48 someOut_2) (sF F 47 isOut_2) Wd.2 l3_2 g_l3_2 _ hw l _) rfl rfl ⟨(by show 1 + 1 ≤ 711 + (n + 1); omega), (by show 8 + (2 + 11) + (64) ≤ 15658 + 26 * (n + 1); omega)⟩ hl.1 rfl rfl (Nat.le_of_ble_eq_true rfl) ⟨(Nat.le_of_ble_eq_true rfl), (Nat.le_of_ble_eq_true rfl)⟩ dX12_marks_4) (fun y4 hy => ?_)
    obtain ⟨r4, rfl, g_r4, hw⟩ := hy
    refine lv_if_ne (tgt := 146) C.1 C.2.1 dX12_marks_7 (by decide) (fun c7 => ?_) (fun c7 => ?_)
    · have hw := hw.1 (z0_ne g_r4 c7)
      exact k_retMv C hr hlk Wd (u := (isOut_2, someOut_2)) rfl rfl ⟨hw, ⟨(rsI hS.1 (Wd2.2.1 48)), (rsF hS.2 (fun j => Wd2.2.2 47 j))⟩⟩ dX12_marks_146
    · have hw := hw.2 (z0_eq g_r4 c7)
      refine lv_aload_n C.1 C.2.1 dX12_marks_10 rfl (lv_at hl 0 rfl) ?_
      refine lv_aload_n C.1 C.2.1 dX12_marks_11 rfl (lv_at hl 0 rfl) ?_
      refine lv_iload_n C.1 C.2.1 dX12_marks_12 rfl (lv_at hl 2 rfl) ?_
      refine k_pi (k_runVM (rest := [.ref h]) C aks Wd cs_X12_104 (mt_behind D h ad ca (sI I 48 someOut_2) (sF F 47 isOut_2) Wd.2 l3_2 g_l3_2 _ hw l _) rfl rfl ⟨(by show 606 + 1 ≤ 711 + (n + 1); omega), (by show 8 + (3 + 11) + (12908) ≤ 15658 + 26 * (n + 1); omega)⟩ hl.1 rfl rfl (Nat.le_of_ble_eq_true rfl) ⟨(Nat.le_of_ble_eq_true rfl), (Nat.le_of_ble_eq_true rfl)⟩ dX12_marks_13) (fun y13 hy => ?_)
      obtain ⟨r13, rfl, g_r13, hw⟩ := hy
      refine lv_iload_n C.1 C.2.1 dX12_marks_16 rfl (lv_at hl 1 rfl) ?_
      refine k_pi (k_runVM (rest := []) C aks Wd cs_X12_277 (mt_liveFrom D h ad ca (sI I 48 someOut_2) (sF F 47 isOut_2) Wd.2 r13 x1 g_r13 g_x1 _ hw l _) rfl rfl ⟨(by show 709 + 1 ≤ 711 + (n + 1); omega), (by show 8 + (3 + 11) + (15592) ≤ 15658 + 26 * (n + 1); omega)⟩ hl.1 rfl rfl (Nat.le_of_ble_eq_true rfl) ⟨(Nat.le_of_ble_eq_true rfl), (Nat.le_of_ble_eq_true rfl)⟩ dX12_marks_17) (fun y17 hy => ?_)
      obtain ⟨r17, rfl, g_r17, hw⟩ := hy
      refine lv_istore (lv' := [(4, .int (zI r17)), (0, .ref h), (2, .int (zI x1)), (3, .int (zI l3_2))]) C.1 C.2.1 dX12_marks_20 hl (by decide) rfl (fun ls hl => ?_)
      replace hl := lv_sub hl [1, 2, 3, 0] rfl
      refine lv_aload_n C.1 C.2.1 dX12_marks_22 rfl (lv_at hl 0 rfl) ?_
      refine k_get (v := .ref (ad 2)) C Wd.1 KX12 0 2 wM0 (by decide) fl_X12_16 rfl dX12_marks_23 ?_
      refine lv_iload_n C.1 C.2.1 dX12_marks_26 rfl (lv_at hl 2 rfl) ?_
      obtain ⟨a27, hw⟩ := hw
      refine k_ialdM (g := (F 2)) C Wd 3 2 rfl rfl a27 (by decide) dX12_marks_27 ?_
      have g27 : rng ((F 2) l3_2) := rngL (hS.2 2) a27
      refine lv_istore (lv' := [(5, .int (zI ((F 2) l3_2))), (0, .ref h), (2, .int (zI x1)), (3, .int (zI l3_2)), (4, .int (zI r17))]) C.1 C.2.1 dX12_marks_28 hl (by decide) rfl (fun ls hl => ?_)
      replace hl := lv_sub hl [1, 2, 3, 4, 0] rfl
      refine lv_iload C.1 C.2.1 dX12_marks_30 (lv_at hl 4 rfl) ?_
      refine lv_bipush (v := zI 100) C.1 C.2.1 dX12_marks_32 (by decide) ?_
      refine lv_bipush (v := zI 105) C.1 C.2.1 dX12_marks_34 (by decide) ?_
      refine k_pi (k_runS (rest := []) C aks Wd.1 cs_X12_90 (mt_isIn D ((F 2) l3_2) 100 105 g27 (show rng 100 from by decide) (show rng 105 from by decide) _ hw l _) [] rfl (by decide) [] rfl rfl rfl ⟨(by show 1 + 1 ≤ 711 + (n + 1); omega), (by show 8 + (3 + 11) + (64) ≤ 15658 + 26 * (n + 1); omega)⟩ hl.1 rfl rfl (Nat.le_of_ble_eq_true rfl) ⟨(Nat.le_of_ble_eq_true rfl), (Nat.le_of_ble_eq_true rfl)⟩ dX12_marks_36) (fun y36 hy => ?_)
      obtain ⟨r36, rfl, g_r36, hw⟩ := hy
      refine k_cut2 (fun (isOut_60 : Int → Int) (someOut_60 : Int) H locs ls => wp_marks_60 (wp_marks n) (F 2) (I 4) l3_2 r17 L2 isOut_60 someOut_60 ∧ wXM D ca s h ad (sI I 48 someOut_60) (sF F 47 isOut_60) H A s.heap locs ∧ lv_has ls 7 [(0, .ref h), (2, .int (zI x1)), (3, .int (zI l3_2)), (4, .int (zI r17)), (5, .int (zI ((F 2) l3_2)))]) (fun (isOut_60 : Int → Int) (someOut_60 : Int) ls => F0 m 60 ls []) (fun isOut_60 someOut_60 H locs ls hi => ?_) (fun J60 => ?_)
      · obtain ⟨hw, Wd, hl⟩ := hi
        have Wd60 := Wd
        unfold wp_marks_60 at hw
        refine lv_iload C.1 C.2.1 dX12_marks_60 (lv_at hl 4 rfl) ?_
        refine lv_bipush (v := zI 115) C.1 C.2.1 dX12_marks_62 (by decide) ?_
        refine k_cut2 (fun (isOut_83 : Int → Int) (someOut_83 : Int) H locs ls => wp_marks_83 (wp_marks n) (F 2) (I 4) l3_2 r17 L2 isOut_83 someOut_83 ∧ wXM D ca s h ad (sI I 48 someOut_83) (sF F 47 isOut_83) H A s.heap locs ∧ lv_has ls 7 [(0, .ref h), (2, .int (zI x1)), (3, .int (zI l3_2)), (4, .int (zI r17)), (5, .int (zI ((F 2) l3_2)))]) (fun (isOut_83 : Int → Int) (someOut_83 : Int) ls => F0 m 83 ls []) (fun isOut_83 someOut_83 H locs ls hi => ?_) (fun J83 => ?_)
        · obtain ⟨hw, Wd, hl⟩ := hi
          have Wd83 := Wd
          unfold wp_marks_83 at hw
          refine lv_iload C.1 C.2.1 dX12_marks_83 (lv_at hl 4 rfl) ?_
          refine lv_bipush (v := zI 112) C.1 C.2.1 dX12_marks_85 (by decide) ?_
          refine k_cut2 (fun (isOut_137 : Int → Int) (someOut_137 : Int) H locs ls => wp_marks_137 (F 2) l3_2 L2 isOut_137 someOut_137 ∧ wXM D ca s h ad (sI I 48 someOut_137) (sF F 47 isOut_137) H A s.heap locs ∧ lv_has ls 7 [(0, .ref h), (2, .int (zI x1)), (3, .int (zI l3_2))]) (fun (isOut_137 : Int → Int) (someOut_137 : Int) ls => F0 m 137 ls []) (fun isOut_137 someOut_137 H locs ls hi => ?_) (fun J137 => ?_)
          · obtain ⟨hw, Wd, hl⟩ := hi
            have Wd137 := Wd
            unfold wp_marks_137 at hw
            refine lv_aload_n C.1 C.2.1 dX12_marks_137 rfl (lv_at hl 0 rfl) ?_
            refine lv_iload_n C.1 C.2.1 dX12_marks_138 rfl (lv_at hl 2 rfl) ?_
            refine k_pi (k_runVM (rest := []) C aks Wd cs_X12_104 (mt_behind D h ad ca (sI I 48 someOut_137) (sF F 47 isOut_137) Wd.2 l3_2 g_l3_2 _ hw l _) rfl rfl ⟨(by show 606 + 1 ≤ 711 + (n + 1); omega), (by show 8 + (3 + 11) + (12908) ≤ 15658 + 26 * (n + 1); omega)⟩ hl.1 rfl rfl (Nat.le_of_ble_eq_true rfl) ⟨(Nat.le_of_ble_eq_true rfl), (Nat.le_of_ble_eq_true rfl)⟩ dX12_marks_139) (fun y139 hy => ?_)
            obtain ⟨r139, rfl, g_r139, hw⟩ := hy
            refine lv_istore_n (lv' := [(3, .int (zI r139)), (0, .ref h), (2, .int (zI x1))]) C.1 C.2.1 dX12_marks_142 rfl hl (by decide) rfl (fun ls hl => ?_)
            replace hl := lv_sub hl [1, 2, 0] rfl
            refine lv_goto (tgt := 2) C.1 C.2.1 dX12_marks_143 (by decide) ?_
            exact hL2 _ _ _ hw _ _ _ ⟨g_r139, wMc Wd rfl rfl ⟨(rsI hS.1 (Wd137.2.1 48)), (rsF hS.2 (fun j => Wd137.2.2 47 j))⟩, lv_sub hl [0, 1, 2] rfl⟩
          refine lv_icmp_eq (tgt := 93) C.1 C.2.1 dX12_marks_87 (by decide) (fun c87 => ?_) (fun c87 => ?_)
          · have hw := hw.1 (z_eq g27 (show rng 112 from by decide) c87)
            refine lv_aload_n C.1 C.2.1 dX12_marks_93 rfl (lv_at hl 0 rfl) ?_
            refine lv_aload_n C.1 C.2.1 dX12_marks_94 rfl (lv_at hl 0 rfl) ?_
            refine lv_iload_n C.1 C.2.1 dX12_marks_95 rfl (lv_at hl 2 rfl) ?_
            refine k_pi (k_runVM (rest := [.ref h]) C aks Wd cs_X12_101 (mt_body D h ad ca (sI I 48 someOut_83) (sF F 47 isOut_83) Wd.2 l3_2 g_l3_2 _ hw l _) rfl rfl ⟨(by show 504 + 1 ≤ 711 + (n + 1); omega), (by show 8 + (2 + 11) + (10647) ≤ 15658 + 26 * (n + 1); omega)⟩ hl.1 rfl rfl (Nat.le_of_ble_eq_true rfl) ⟨(Nat.le_of_ble_eq_true rfl), (Nat.le_of_ble_eq_true rfl)⟩ dX12_marks_96) (fun y96 hy => ?_)
            obtain ⟨r96, rfl, g_r96, hw⟩ := hy
            refine k_pi (k_runVM (rest := []) C aks Wd cs_X12_309 (mt_close D h ad ca (sI I 48 someOut_83) (sF F 47 isOut_83) Wd.2 r96 g_r96 _ hw l _) rfl rfl ⟨(by show 607 + 1 ≤ 711 + (n + 1); omega), (by show 8 + (3 + 11) + (12930) ≤ 15658 + 26 * (n + 1); omega)⟩ hl.1 rfl rfl (Nat.le_of_ble_eq_true rfl) ⟨(Nat.le_of_ble_eq_true rfl), (Nat.le_of_ble_eq_true rfl)⟩ dX12_marks_99) (fun y99 hy => ?_)
            obtain ⟨r99, rfl, g_r99, hw⟩ := hy
            refine lv_istore (lv' := [(6, .int (zI r99)), (0, .ref h), (2, .int (zI x1)), (3, .int (zI l3_2)), (4, .int (zI r17)), (5, .int (zI ((F 2) l3_2)))]) C.1 C.2.1 dX12_marks_102 hl (by decide) rfl (fun ls hl => ?_)
            replace hl := lv_sub hl [1, 2, 3, 4, 5, 0] rfl
            refine lv_aload_n C.1 C.2.1 dX12_marks_104 rfl (lv_at hl 0 rfl) ?_
            refine lv_aload_n C.1 C.2.1 dX12_marks_105 rfl (lv_at hl 0 rfl) ?_
            refine lv_iload_n C.1 C.2.1 dX12_marks_106 rfl (lv_at hl 2 rfl) ?_
            refine k_pi (k_runVM (rest := [.ref h]) C aks Wd cs_X12_101 (mt_body D h ad ca (sI I 48 someOut_83) (sF F 47 isOut_83) Wd.2 l3_2 g_l3_2 _ hw l _) rfl rfl ⟨(by show 504 + 1 ≤ 711 + (n + 1); omega), (by show 8 + (2 + 11) + (10647) ≤ 15658 + 26 * (n + 1); omega)⟩ hl.1 rfl rfl (Nat.le_of_ble_eq_true rfl) ⟨(Nat.le_of_ble_eq_true rfl), (Nat.le_of_ble_eq_true rfl)⟩ dX12_marks_107) (fun y107 hy => ?_)
            obtain ⟨r107, rfl, g_r107, hw⟩ := hy
            refine lv_iload C.1 C.2.1 dX12_marks_110 (lv_at hl 3 rfl) ?_
            refine k_cMv Wd (k_runVM (rest := []) C aks Wd cs_X12_388 (ih_marks D h ad ca (sI I 48 someOut_83) (sF F 47 isOut_83) Wd.2 r107 r17 g_r107 g_r17 _ hw l _) rfl rfl ⟨(by show 711 + n + 1 ≤ 711 + (n + 1); omega), (by show 8 + (7 + 11) + (15658 + 26 * n) ≤ 15658 + 26 * (n + 1); omega)⟩ hl.1 rfl rfl (Nat.le_of_ble_eq_true rfl) ⟨(Nat.le_of_ble_eq_true rfl), (Nat.le_of_ble_eq_true rfl)⟩ dX12_marks_112) (fun u112 H locs hw Wd => ?_)
            obtain ⟨isOut_r112, someOut_r112⟩ := u112
            dsimp only at hw
            have Wc112 := Wd
            have Wd : wXM D ca s h ad (sI I 48 someOut_r112) (sF F 47 isOut_r112) H A s.heap locs := wMc Wd rfl rfl ⟨(rsI hS.1 (Wc112.2.1 48)), (rsF hS.2 (fun j => Wc112.2.2 47 j))⟩
            refine lv_aload_n C.1 C.2.1 dX12_marks_115 rfl (lv_at hl 0 rfl) ?_
            refine k_get (v := .ref (ad 2)) C Wd.1 KX12 0 2 wM0 (by decide) fl_X12_16 rfl dX12_marks_116 ?_
            refine lv_iload C.1 C.2.1 dX12_marks_119 (lv_at hl 5 rfl) ?_
            obtain ⟨a121, hw⟩ := hw
            refine k_ialdM (g := (F 2)) C Wd 3 2 rfl rfl a121 (by decide) dX12_marks_121 ?_
            have g121 : rng ((F 2) r99) := rngL (hS.2 2) a121
            refine lv_bipush (v := zI 113) C.1 C.2.1 dX12_marks_122 (by decide) ?_
            refine lv_icmp_ne (tgt := 137) C.1 C.2.1 dX12_marks_124 (by decide) (fun c124 => ?_) (fun c124 => ?_)
            · have hw := hw.1 (z_ne g121 (show rng 113 from by decide) c124)
              exact J137 isOut_r112 someOut_r112 _ _ _ ⟨hw, wMc Wd rfl rfl ⟨(rsI hS.1 (Wc112.2.1 48)), (rsF hS.2 (fun j => Wc112.2.2 47 j))⟩, lv_sub hl [0, 1, 2] rfl⟩
            · have hw := hw.2 (z_eq g121 (show rng 113 from by decide) c124)
              refine lv_aload_n C.1 C.2.1 dX12_marks_127 rfl (lv_at hl 0 rfl) ?_
              refine lv_iload C.1 C.2.1 dX12_marks_128 (lv_at hl 5 rfl) ?_
              refine lv_iconst (v := zI 1) C.1 C.2.1 dX12_marks_130 (by decide) ?_
              refine k_iadd (v := zI (r99 + 1)) C (zI_iadd _ _) dX12_marks_131 ?_
              refine lv_iload C.1 C.2.1 dX12_marks_132 (lv_at hl 3 rfl) ?_
              obtain ⟨g134_0, hw⟩ := hw
              refine k_cMv Wd (k_runVM (rest := []) C aks Wd cs_X12_388 (ih_marks D h ad ca (sI I 48 someOut_r112) (sF F 47 isOut_r112) Wd.2 (r99 + 1) r17 g134_0 g_r17 _ hw l _) rfl rfl ⟨(by show 711 + n + 1 ≤ 711 + (n + 1); omega), (by show 8 + (7 + 11) + (15658 + 26 * n) ≤ 15658 + 26 * (n + 1); omega)⟩ hl.1 rfl rfl (Nat.le_of_ble_eq_true rfl) ⟨(Nat.le_of_ble_eq_true rfl), (Nat.le_of_ble_eq_true rfl)⟩ dX12_marks_134) (fun u134 H locs hw Wd => ?_)
              obtain ⟨isOut_r134, someOut_r134⟩ := u134
              dsimp only at hw
              have Wc134 := Wd
              have Wd : wXM D ca s h ad (sI I 48 someOut_r134) (sF F 47 isOut_r134) H A s.heap locs := wMc Wd rfl rfl ⟨(rsI hS.1 (Wc134.2.1 48)), (rsF hS.2 (fun j => Wc134.2.2 47 j))⟩
              exact J137 isOut_r134 someOut_r134 _ _ _ ⟨hw, wMc Wd rfl rfl ⟨(rsI hS.1 (Wc134.2.1 48)), (rsF hS.2 (fun j => Wc134.2.2 47 j))⟩, lv_sub hl [0, 1, 2] rfl⟩
          · have hw := hw.2 (z_ne g27 (show rng 112 from by decide) c87)
            refine lv_goto (tgt := 137) C.1 C.2.1 dX12_marks_90 (by decide) ?_
            exact J137 isOut_83 someOut_83 _ _ _ ⟨hw, wMc Wd rfl rfl ⟨(rsI hS.1 (Wd83.2.1 48)), (rsF hS.2 (fun j => Wd83.2.2 47 j))⟩, lv_sub hl [0, 1, 2] rfl⟩
        refine lv_icmp_ne (tgt := 83) C.1 C.2.1 dX12_marks_64 (by decide) (fun c64 => ?_) (fun c64 => ?_)
        · have hw := hw.1 (z_ne g27 (show rng 115 from by decide) c64)
          exact J83 isOut_60 someOut_60 _ _ _ ⟨hw, wMc Wd rfl rfl ⟨(rsI hS.1 (Wd60.2.1 48)), (rsF hS.2 (fun j => Wd60.2.2 47 j))⟩, lv_sub hl [0, 1, 2, 3, 4] rfl⟩
        · have hw := hw.2 (z_eq g27 (show rng 115 from by decide) c64)
          refine lv_aload_n C.1 C.2.1 dX12_marks_67 rfl (lv_at hl 0 rfl) ?_
          refine lv_aload_n C.1 C.2.1 dX12_marks_68 rfl (lv_at hl 0 rfl) ?_
          refine lv_iload_n C.1 C.2.1 dX12_marks_69 rfl (lv_at hl 2 rfl) ?_
          refine k_pi (k_runVM (rest := [.ref h]) C aks Wd cs_X12_101 (mt_body D h ad ca (sI I 48 someOut_60) (sF F 47 isOut_60) Wd.2 l3_2 g_l3_2 _ hw l _) rfl rfl ⟨(by show 504 + 1 ≤ 711 + (n + 1); omega), (by show 8 + (2 + 11) + (10647) ≤ 15658 + 26 * (n + 1); omega)⟩ hl.1 rfl rfl (Nat.le_of_ble_eq_true rfl) ⟨(Nat.le_of_ble_eq_true rfl), (Nat.le_of_ble_eq_true rfl)⟩ dX12_marks_70) (fun y70 hy => ?_)
          obtain ⟨r70, rfl, g_r70, hw⟩ := hy
          refine lv_aload_n C.1 C.2.1 dX12_marks_73 rfl (lv_at hl 0 rfl) ?_
          refine lv_iload_n C.1 C.2.1 dX12_marks_74 rfl (lv_at hl 2 rfl) ?_
          refine lv_iload C.1 C.2.1 dX12_marks_75 (lv_at hl 3 rfl) ?_
          refine k_pi (k_runVM (rest := [.int (zI r70), .ref h]) C aks Wd cs_X12_376 (mt_liveAt D h ad ca (sI I 48 someOut_60) (sF F 47 isOut_60) Wd.2 l3_2 r17 g_l3_2 g_r17 _ hw l _) rfl rfl ⟨(by show 709 + 1 ≤ 711 + (n + 1); omega), (by show 8 + (7 + 11) + (15592) ≤ 15658 + 26 * (n + 1); omega)⟩ hl.1 rfl rfl (Nat.le_of_ble_eq_true rfl) ⟨(Nat.le_of_ble_eq_true rfl), (Nat.le_of_ble_eq_true rfl)⟩ dX12_marks_77) (fun y77 hy => ?_)
          obtain ⟨r77, rfl, g_r77, hw⟩ := hy
          refine k_cMv Wd (k_runVM (rest := []) C aks Wd cs_X12_388 (ih_marks D h ad ca (sI I 48 someOut_60) (sF F 47 isOut_60) Wd.2 r70 r77 g_r70 g_r77 _ hw l _) rfl rfl ⟨(by show 711 + n + 1 ≤ 711 + (n + 1); omega), (by show 8 + (7 + 11) + (15658 + 26 * n) ≤ 15658 + 26 * (n + 1); omega)⟩ hl.1 rfl rfl (Nat.le_of_ble_eq_true rfl) ⟨(Nat.le_of_ble_eq_true rfl), (Nat.le_of_ble_eq_true rfl)⟩ dX12_marks_80) (fun u80 H locs hw Wd => ?_)
          obtain ⟨isOut_r80, someOut_r80⟩ := u80
          dsimp only at hw
          have Wc80 := Wd
          have Wd : wXM D ca s h ad (sI I 48 someOut_r80) (sF F 47 isOut_r80) H A s.heap locs := wMc Wd rfl rfl ⟨(rsI hS.1 (Wc80.2.1 48)), (rsF hS.2 (fun j => Wc80.2.2 47 j))⟩
          exact J83 isOut_r80 someOut_r80 _ _ _ ⟨hw, wMc Wd rfl rfl ⟨(rsI hS.1 (Wc80.2.1 48)), (rsF hS.2 (fun j => Wc80.2.2 47 j))⟩, lv_sub hl [0, 1, 2, 3, 4] rfl⟩
      refine lv_if_eq (tgt := 60) C.1 C.2.1 dX12_marks_39 (by decide) (fun c39 => ?_) (fun c39 => ?_)
      · have hw := hw.1 (z0_eq g_r36 c39)
        exact J60 isOut_2 someOut_2 _ _ _ ⟨hw, wMc Wd rfl rfl ⟨(rsI hS.1 (Wd2.2.1 48)), (rsF hS.2 (fun j => Wd2.2.2 47 j))⟩, lv_sub hl [0, 1, 2, 3, 4] rfl⟩
      · have hw := hw.2 (z0_ne g_r36 c39)
        refine lv_iload C.1 C.2.1 dX12_marks_42 (lv_at hl 3 rfl) ?_
        refine lv_iload C.1 C.2.1 dX12_marks_44 (lv_at hl 4 rfl) ?_
        refine lv_bipush (v := zI 100) C.1 C.2.1 dX12_marks_46 (by decide) ?_
        refine k_isub (v := zI (((F 2) l3_2) - 100)) C (zI_isub _ _) dX12_marks_48 ?_
        refine k_ishr (v := zI (zishr r17 (((F 2) l3_2) - 100))) C (zishr_eq _ _) dX12_marks_49 ?_
        refine lv_iconst (v := zI 1) C.1 C.2.1 dX12_marks_50 (by decide) ?_
        refine k_iand (v := zI (ziand (zishr r17 (((F 2) l3_2) - 100)) 1)) C (ziand_eq _ _) dX12_marks_51 ?_
        refine lv_if_ne (tgt := 60) C.1 C.2.1 dX12_marks_52 (by decide) (fun c52 => ?_) (fun c52 => ?_)
        · have hw := hw.1 (z0_ne (rng_toInt _) c52)
          exact J60 isOut_2 someOut_2 _ _ _ ⟨hw, wMc Wd rfl rfl ⟨(rsI hS.1 (Wd2.2.1 48)), (rsF hS.2 (fun j => Wd2.2.2 47 j))⟩, lv_sub hl [0, 1, 2, 3, 4] rfl⟩
        · have hw := hw.2 (z0_eq (rng_toInt _) c52)
          refine lv_aload_n C.1 C.2.1 dX12_marks_55 rfl (lv_at hl 0 rfl) ?_
          refine lv_iload_n C.1 C.2.1 dX12_marks_56 rfl (lv_at hl 2 rfl) ?_
          refine k_cMv Wd (k_runVM (rest := []) C aks Wd cs_X12_385 (mt_drops D h ad ca (sI I 48 someOut_2) (sF F 47 isOut_2) Wd.2 l3_2 g_l3_2 _ hw l _) rfl rfl ⟨(by show 1 + 1 ≤ 711 + (n + 1); omega), (by show 8 + (2 + 11) + (64) ≤ 15658 + 26 * (n + 1); omega)⟩ hl.1 rfl rfl (Nat.le_of_ble_eq_true rfl) ⟨(Nat.le_of_ble_eq_true rfl), (Nat.le_of_ble_eq_true rfl)⟩ dX12_marks_57) (fun u57 H locs hw Wd => ?_)
          obtain ⟨isOut_r57, someOut_r57⟩ := u57
          dsimp only at hw
          have Wc57 := Wd
          have Wd : wXM D ca s h ad (sI I 48 someOut_r57) (sF F 47 isOut_r57) H A s.heap locs := wMc Wd rfl rfl ⟨(rsI hS.1 (Wc57.2.1 48)), (rsF hS.2 (fun j => Wc57.2.2 47 j))⟩
          exact J60 isOut_r57 someOut_r57 _ _ _ ⟨hw, wMc Wd rfl rfl ⟨(rsI hS.1 (Wc57.2.1 48)), (rsF hS.2 (fun j => Wc57.2.2 47 j))⟩, lv_sub hl [0, 1, 2, 3, 4] rfl⟩
theorem mt_marks : ∀ (D : va_G) (h : Nat) (ad : Nat → Nat) (ca : Nat → ClassId) (I : Nat → Int) (F : Nat → Int → Int) (hS : rngS I F) (x0 : Int) (x1 : Int) (g_x0 : rng x0) (g_x1 : rng x1) (K : (Int → Int) → Int → Prop) (hw : wp_marks 100 (F 2) (I 4) (F 47) (I 48) x0 x1 K) (l : Launch) (sz : Nat), Met l yX12_marks (Cond.code yX12_marks cX12_marks 7 none :: gG) { frames := 811, cells := 0, slots := 0, locals := 18258 } (cPre D (tM ca) (wM h ad ca I F) sz [.ref h, .int (zI x0), .int (zI x1)]) (va_Qv (fun (u : (Int → Int) × (Int)) => K u.1 u.2 ∧ rngS (sI I 48 u.2) (sF F 47 u.1)) (fun u t => cB D (va_A (wM h ad ca I F) sz) [] (wM h ad ca (sI I 48 u.2) (sF F 47 u.1)) t) (va_A (wM h ad ca I F) sz)) 0 0 (va_A (wM h ad ca I F) sz) := mg_marks 100
