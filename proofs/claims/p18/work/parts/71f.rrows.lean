set_option maxHeartbeats 4000000 in
set_option maxRecDepth 100000 in
theorem mt_marksHasty : ∀ (D : va_G) (h : Nat) (ad : Nat → Nat) (ca : Nat → ClassId) (I : Nat → Int) (F : Nat → Int → Int) (hS : rngS I F) (K : (Int → Int) → Int → Prop) (hw : wp_marksHasty (F 2) (I 4) (F 47) (I 48) K) (l : Launch) (sz : Nat), Met l yX12_marksHasty (Cond.code yX12_marksHasty cX12_marksHasty 2 none :: gG) { frames := 607, cells := 0, slots := 0, locals := 12930 } (cPre D (tM ca) (wM h ad ca I F) sz [.ref h]) (va_Qv (fun (u : (Int → Int) × (Int)) => K u.1 u.2 ∧ rngS (sI I 48 u.2) (sF F 47 u.1)) (fun u t => cB D (va_A (wM h ad ca I F) sz) [] (wM h ad ca (sI I 48 u.2) (sF F 47 u.1)) t) (va_A (wM h ad ca I F) sz)) 0 0 (va_A (wM h ad ca I F) sz) := by
  intro D h ad ca I F hS  K hw l sz
  refine Met.ofW (cc := cX12_marksHasty) (maxL := 2) (ret := none) (by decide) rfl ?_
  intro p e s m args below meth c s₁ B hml hv
  obtain ⟨rfl, aks, rfl, Wd⟩ := k_enter hv
  have C : CallFix p m c cX12_marksHasty 2 s _ gG RX12 := ⟨B.exec, B.bytes, hml, findClass_of_methodNamed B.named, fun w h => atoms_spec (ws := Cond.code yX12_marksHasty cX12_marksHasty 2 none :: gG) B.pre w (List.mem_cons_of_mem _ h)⟩
  have hr := B.returns
  have hlk := B.notSynchronized
  generalize va_A (wM h ad ca I F) s.heap.size = A at Wd ⊢
  replace Wd : wXM D ca s h ad I F s.heap A s.heap [] := ⟨Wd, hS⟩
  refine k_locals (Nat.le_of_ble_eq_true rfl) [(0, .ref h)] rfl (fun ls hl => ?_)
  unfold wp_marksHasty at hw
  refine lv_iconst (v := zI 0) C.1 C.2.1 dX12_marksHasty_0 (by decide) ?_
  refine lv_istore_n (lv' := [(1, .int (zI 0)), (0, .ref h)]) C.1 C.2.1 dX12_marksHasty_1 rfl hl (by decide) rfl (fun ls hl => ?_)
  replace hl := lv_sub hl [1, 0] rfl
  refine k_lp3 hw (fun (l1_2 : Int) (isOut_2 : Int → Int) (someOut_2 : Int) H locs ls => rng l1_2 ∧ wXM D ca s h ad (sI I 48 someOut_2) (sF F 47 isOut_2) H A s.heap locs ∧ lv_has ls 2 [(0, .ref h), (1, .int (zI l1_2))]) (fun (l1_2 : Int) (isOut_2 : Int → Int) (someOut_2 : Int) ls => F0 m 2 ls []) (fun L2 hL2 l1_2 isOut_2 someOut_2 hw H locs ls hi => ?_) _ _ _ ⟨(show rng 0 from by decide), wMc Wd rfl rfl ⟨(rsI hS.1 (hS.1 48)), (rsF hS.2 (hS.2 47))⟩, lv_sub hl [0, 1] rfl⟩
  obtain ⟨g_l1_2, Wd, hl⟩ := hi
  have Wd2 := Wd
  unfold wp_marksHasty_2 at hw
  refine lv_iload_n C.1 C.2.1 dX12_marksHasty_2 rfl (lv_at hl 1 rfl) ?_
  refine lv_aload_n C.1 C.2.1 dX12_marksHasty_3 rfl (lv_at hl 0 rfl) ?_
  refine k_get (v := .int (zI (I 4))) C Wd.1 KX12 0 4 wM0 (by decide) fl_X12_98 rfl dX12_marksHasty_4 ?_
  refine lv_icmp_ge (tgt := 65) C.1 C.2.1 dX12_marksHasty_7 (by decide) (fun c7 => ?_) (fun c7 => ?_)
  · have hw := hw.1 (z_le (hS.1 4) g_l1_2 c7)
    exact k_retMv C hr hlk Wd (u := (isOut_2, someOut_2)) rfl rfl ⟨hw, ⟨(rsI hS.1 (Wd2.2.1 48)), (rsF hS.2 (fun j => Wd2.2.2 47 j))⟩⟩ dX12_marksHasty_65
  · have hw := hw.2 (z_nle (hS.1 4) g_l1_2 c7)
    refine lv_aload_n C.1 C.2.1 dX12_marksHasty_10 rfl (lv_at hl 0 rfl) ?_
    refine k_get (v := .ref (ad 2)) C Wd.1 KX12 0 2 wM0 (by decide) fl_X12_16 rfl dX12_marksHasty_11 ?_
    refine lv_iload_n C.1 C.2.1 dX12_marksHasty_14 rfl (lv_at hl 1 rfl) ?_
    obtain ⟨a15, hw⟩ := hw
    refine k_ialdM (g := (F 2)) C Wd 3 2 rfl rfl a15 (by decide) dX12_marksHasty_15 ?_
    have g15 : rng ((F 2) l1_2) := rngL (hS.2 2) a15
    refine lv_bipush (v := zI 100) C.1 C.2.1 dX12_marksHasty_16 (by decide) ?_
    refine lv_bipush (v := zI 105) C.1 C.2.1 dX12_marksHasty_18 (by decide) ?_
    refine k_pi (k_runS (rest := []) C aks Wd.1 cs_X12_90 (mt_isIn D ((F 2) l1_2) 100 105 g15 (show rng 100 from by decide) (show rng 105 from by decide) _ hw l _) [] rfl (by decide) [] rfl rfl rfl ⟨(Nat.le_of_ble_eq_true rfl), (Nat.le_of_ble_eq_true rfl)⟩ hl.1 rfl rfl (Nat.le_of_ble_eq_true rfl) ⟨(Nat.le_of_ble_eq_true rfl), (Nat.le_of_ble_eq_true rfl)⟩ dX12_marksHasty_20) (fun y20 hy => ?_)
    obtain ⟨r20, rfl, g_r20, hw⟩ := hy
    refine lv_if_eq (tgt := 59) C.1 C.2.1 dX12_marksHasty_23 (by decide) (fun c23 => ?_) (fun c23 => ?_)
    · have hw := hw.1 (z0_eq g_r20 c23)
      refine lv_iinc (v := zI (l1_2 + 1)) (lv' := [(1, .int (zI (l1_2 + 1))), (0, .ref h)]) C.1 C.2.1 dX12_marksHasty_59 hl (k := 1) rfl (zI_inc _ _ (by decide)) (by decide) rfl (fun ls hl => ?_)
      replace hl := lv_sub hl [1, 0] rfl
      refine lv_goto (tgt := 2) C.1 C.2.1 dX12_marksHasty_62 (by decide) ?_
      obtain ⟨g62_0, hw⟩ := hw
      exact hL2 _ _ _ hw _ _ _ ⟨g62_0, wMc Wd rfl rfl ⟨(rsI hS.1 (Wd2.2.1 48)), (rsF hS.2 (fun j => Wd2.2.2 47 j))⟩, lv_sub hl [0, 1] rfl⟩
    · have hw := hw.2 (z0_ne g_r20 c23)
      refine lv_aload_n C.1 C.2.1 dX12_marksHasty_26 rfl (lv_at hl 0 rfl) ?_
      refine lv_aload_n C.1 C.2.1 dX12_marksHasty_27 rfl (lv_at hl 0 rfl) ?_
      refine lv_iload_n C.1 C.2.1 dX12_marksHasty_28 rfl (lv_at hl 1 rfl) ?_
      refine k_pi (k_runVM (rest := [.ref h]) C aks Wd cs_X12_104 (mt_behind D h ad ca (sI I 48 someOut_2) (sF F 47 isOut_2) Wd.2 l1_2 g_l1_2 _ hw l _) rfl rfl ⟨(Nat.le_of_ble_eq_true rfl), (Nat.le_of_ble_eq_true rfl)⟩ hl.1 rfl rfl (Nat.le_of_ble_eq_true rfl) ⟨(Nat.le_of_ble_eq_true rfl), (Nat.le_of_ble_eq_true rfl)⟩ dX12_marksHasty_29) (fun y29 hy => ?_)
      obtain ⟨r29, rfl, g_r29, hw⟩ := hy
      refine lv_aload_n C.1 C.2.1 dX12_marksHasty_32 rfl (lv_at hl 0 rfl) ?_
      refine k_get (v := .int (zI (I 4))) C Wd.1 KX12 0 4 wM0 (by decide) fl_X12_98 rfl dX12_marksHasty_33 ?_
      refine k_pi (k_runVM (rest := []) C aks Wd cs_X12_379 (mt_reads D h ad ca (sI I 48 someOut_2) (sF F 47 isOut_2) Wd.2 r29 (I 4) g_r29 (hS.1 4) _ hw l _) rfl rfl ⟨(Nat.le_of_ble_eq_true rfl), (Nat.le_of_ble_eq_true rfl)⟩ hl.1 rfl rfl (Nat.le_of_ble_eq_true rfl) ⟨(Nat.le_of_ble_eq_true rfl), (Nat.le_of_ble_eq_true rfl)⟩ dX12_marksHasty_36) (fun y36 hy => ?_)
      obtain ⟨r36, rfl, g_r36, hw⟩ := hy
      refine lv_aload_n C.1 C.2.1 dX12_marksHasty_39 rfl (lv_at hl 0 rfl) ?_
      refine k_get (v := .ref (ad 2)) C Wd.1 KX12 0 2 wM0 (by decide) fl_X12_16 rfl dX12_marksHasty_40 ?_
      refine lv_iload_n C.1 C.2.1 dX12_marksHasty_43 rfl (lv_at hl 1 rfl) ?_
      obtain ⟨a44, hw⟩ := hw
      refine k_ialdM (g := (F 2)) C Wd 3 2 rfl rfl a44 (by decide) dX12_marksHasty_44 ?_
      refine lv_bipush (v := zI 100) C.1 C.2.1 dX12_marksHasty_45 (by decide) ?_
      refine k_isub (v := zI (((F 2) l1_2) - 100)) C (zI_isub _ _) dX12_marksHasty_47 ?_
      refine k_ishr (v := zI (zishr r36 (((F 2) l1_2) - 100))) C (zishr_eq _ _) dX12_marksHasty_48 ?_
      refine lv_iconst (v := zI 1) C.1 C.2.1 dX12_marksHasty_49 (by decide) ?_
      refine k_iand (v := zI (ziand (zishr r36 (((F 2) l1_2) - 100)) 1)) C (ziand_eq _ _) dX12_marksHasty_50 ?_
      refine lv_if_ne (tgt := 59) C.1 C.2.1 dX12_marksHasty_51 (by decide) (fun c51 => ?_) (fun c51 => ?_)
      · have hw := hw.1 (z0_ne (rng_toInt _) c51)
        refine lv_iinc (v := zI (l1_2 + 1)) (lv' := [(1, .int (zI (l1_2 + 1))), (0, .ref h)]) C.1 C.2.1 dX12_marksHasty_59 hl (k := 1) rfl (zI_inc _ _ (by decide)) (by decide) rfl (fun ls hl => ?_)
        replace hl := lv_sub hl [1, 0] rfl
        refine lv_goto (tgt := 2) C.1 C.2.1 dX12_marksHasty_62 (by decide) ?_
        obtain ⟨g62_0, hw⟩ := hw
        exact hL2 _ _ _ hw _ _ _ ⟨g62_0, wMc Wd rfl rfl ⟨(rsI hS.1 (Wd2.2.1 48)), (rsF hS.2 (fun j => Wd2.2.2 47 j))⟩, lv_sub hl [0, 1] rfl⟩
      · have hw := hw.2 (z0_eq (rng_toInt _) c51)
        refine lv_aload_n C.1 C.2.1 dX12_marksHasty_54 rfl (lv_at hl 0 rfl) ?_
        refine lv_iload_n C.1 C.2.1 dX12_marksHasty_55 rfl (lv_at hl 1 rfl) ?_
        refine k_cMv Wd (k_runVM (rest := []) C aks Wd cs_X12_385 (mt_drops D h ad ca (sI I 48 someOut_2) (sF F 47 isOut_2) Wd.2 l1_2 g_l1_2 _ hw l _) rfl rfl ⟨(Nat.le_of_ble_eq_true rfl), (Nat.le_of_ble_eq_true rfl)⟩ hl.1 rfl rfl (Nat.le_of_ble_eq_true rfl) ⟨(Nat.le_of_ble_eq_true rfl), (Nat.le_of_ble_eq_true rfl)⟩ dX12_marksHasty_56) (fun u56 H locs hw Wd => ?_)
        obtain ⟨isOut_r56, someOut_r56⟩ := u56
        dsimp only at hw
        have Wc56 := Wd
        have Wd : wXM D ca s h ad (sI I 48 someOut_r56) (sF F 47 isOut_r56) H A s.heap locs := wMc Wd rfl rfl ⟨(rsI hS.1 (Wc56.2.1 48)), (rsF hS.2 (fun j => Wc56.2.2 47 j))⟩
        refine lv_iinc (v := zI (l1_2 + 1)) (lv' := [(1, .int (zI (l1_2 + 1))), (0, .ref h)]) C.1 C.2.1 dX12_marksHasty_59 hl (k := 1) rfl (zI_inc _ _ (by decide)) (by decide) rfl (fun ls hl => ?_)
        replace hl := lv_sub hl [1, 0] rfl
        refine lv_goto (tgt := 2) C.1 C.2.1 dX12_marksHasty_62 (by decide) ?_
        obtain ⟨g62_0, hw⟩ := hw
        exact hL2 _ _ _ hw _ _ _ ⟨g62_0, wMc Wd rfl rfl ⟨(rsI hS.1 (Wc56.2.1 48)), (rsF hS.2 (fun j => Wc56.2.2 47 j))⟩, lv_sub hl [0, 1] rfl⟩
set_option maxHeartbeats 4000000 in
set_option maxRecDepth 100000 in
theorem mg_copies (n : Nat) : (∀ (D : va_G) (h : Nat) (ad : Nat → Nat) (ca : Nat → ClassId) (I : Nat → Int) (F : Nat → Int → Int) (hS : rngS I F) (x0 : Int) (g_x0 : rng x0) (K : (Int → Int) → Int → Prop) (hw : wp_copies n (F 2) (F 3) (I 4) (I 5) (F 47) x0 K) (l : Launch) (sz : Nat), Met l yX12_copies (Cond.code yX12_copies cX12_copies 4 none :: gG) { frames := 609 + n, cells := 0, slots := 0, locals := 12992 + 23 * n } (cPre D (tM ca) (wM h ad ca I F) sz [.ref h, .int (zI x0)]) (va_Qv (fun (u : (Int → Int) × (Int)) => K u.1 u.2 ∧ rngS (sI I 5 u.2) (sF F 3 u.1)) (fun u t => cB D (va_A (wM h ad ca I F) sz) [] (wM h ad ca (sI I 5 u.2) (sF F 3 u.1)) t) (va_A (wM h ad ca I F) sz)) 0 0 (va_A (wM h ad ca I F) sz)) := by
  induction n with
  | zero => exact (fun _ _ _ _ _ _ _ _ _ _ hw => absurd hw id)
  | succ n ih =>
    have ih_copies := ih
    intro D h ad ca I F hS x0 g_x0 K hw l sz
    refine Met.ofW (cc := cX12_copies) (maxL := 4) (ret := none) (by decide) rfl ?_
    intro p e s m args below meth c s₁ B hml hv
    obtain ⟨rfl, aks, rfl, Wd⟩ := k_enter hv
    have C : CallFix p m c cX12_copies 4 s _ gG RX12 := ⟨B.exec, B.bytes, hml, findClass_of_methodNamed B.named, fun w h => atoms_spec (ws := Cond.code yX12_copies cX12_copies 4 none :: gG) B.pre w (List.mem_cons_of_mem _ h)⟩
    have hr := B.returns
    have hlk := B.notSynchronized
    generalize va_A (wM h ad ca I F) s.heap.size = A at Wd ⊢
    replace Wd : wXM D ca s h ad I F s.heap A s.heap [] := ⟨Wd, hS⟩
    refine k_locals (Nat.le_of_ble_eq_true rfl) [(0, .ref h), (1, .int (zI x0))] rfl (fun ls hl => ?_)
    replace hw : wp_copies_b (wp_copies n) (F 2) (F 3) (I 4) (I 5) (F 47) x0 K := hw
    unfold wp_copies_b at hw
    refine lv_iload_n C.1 C.2.1 dX12_copies_0 rfl (lv_at hl 1 rfl) ?_
    refine lv_istore_n (lv' := [(2, .int (zI x0)), (0, .ref h), (1, .int (zI x0))]) C.1 C.2.1 dX12_copies_1 rfl hl (by decide) rfl (fun ls hl => ?_)
    replace hl := lv_sub hl [1, 2, 0] rfl
    refine k_lp3 hw (fun (l2_2 : Int) (fresh_2 : Int → Int) (made_2 : Int) H locs ls => rng l2_2 ∧ wXM D ca s h ad (sI I 5 made_2) (sF F 3 fresh_2) H A s.heap locs ∧ lv_has ls 4 [(0, .ref h), (2, .int (zI l2_2))]) (fun (l2_2 : Int) (fresh_2 : Int → Int) (made_2 : Int) ls => F0 m 2 ls []) (fun L2 hL2 l2_2 fresh_2 made_2 hw H locs ls hi => ?_) _ _ _ ⟨g_x0, wMc Wd rfl rfl ⟨(rsI hS.1 (hS.1 5)), (rsF hS.2 (hS.2 3))⟩, lv_sub hl [0, 2] rfl⟩
    obtain ⟨g_l2_2, Wd, hl⟩ := hi
    have Wd2 := Wd
    unfold wp_copies_2 at hw
    refine lv_aload_n C.1 C.2.1 dX12_copies_2 rfl (lv_at hl 0 rfl) ?_
    refine lv_iload_n C.1 C.2.1 dX12_copies_3 rfl (lv_at hl 1 rfl) ?_
    refine k_pi (k_runVM (rest := []) C aks Wd cs_X12_107 (mt_isLast D h ad ca (sI I 5 made_2) (sF F 3 fresh_2) Wd.2 l2_2 g_l2_2 _ hw l _) rfl rfl ⟨(by show 1 + 1 ≤ 609 + (n + 1); omega), (by show 8 + (2 + 11) + (64) ≤ 12992 + 23 * (n + 1); omega)⟩ hl.1 rfl rfl (Nat.le_of_ble_eq_true rfl) ⟨(Nat.le_of_ble_eq_true rfl), (Nat.le_of_ble_eq_true rfl)⟩ dX12_copies_4) (fun y4 hy => ?_)
    obtain ⟨r4, rfl, g_r4, hw⟩ := hy
    refine lv_if_ne (tgt := 125) C.1 C.2.1 dX12_copies_7 (by decide) (fun c7 => ?_) (fun c7 => ?_)
    · have hw := hw.1 (z0_ne g_r4 c7)
      exact k_retMv C hr hlk Wd (u := (fresh_2, made_2)) rfl rfl ⟨hw, ⟨(rsI hS.1 (Wd2.2.1 5)), (rsF hS.2 (fun j => Wd2.2.2 3 j))⟩⟩ dX12_copies_125
    · have hw := hw.2 (z0_eq g_r4 c7)
      refine lv_aload_n C.1 C.2.1 dX12_copies_10 rfl (lv_at hl 0 rfl) ?_
      refine k_get (v := .ref (ad 47)) C Wd.1 KX12 0 47 wM0 (by decide) fl_X12_68 rfl dX12_copies_11 ?_
      refine lv_iload_n C.1 C.2.1 dX12_copies_14 rfl (lv_at hl 1 rfl) ?_
      obtain ⟨a15, hw⟩ := hw
      refine k_zaldM (g := (F 47)) C Wd 19 18 rfl rfl a15 (by decide) dX12_copies_15 ?_
      have g15 : rng ((F 47) l2_2) := rngL (hS.2 47) a15
      refine k_cut2 (fun (fresh_116 : Int → Int) (made_116 : Int) H locs ls => wp_copies_116 (F 2) l2_2 L2 fresh_116 made_116 ∧ wXM D ca s h ad (sI I 5 made_116) (sF F 3 fresh_116) H A s.heap locs ∧ lv_has ls 4 [(0, .ref h), (2, .int (zI l2_2))]) (fun (fresh_116 : Int → Int) (made_116 : Int) ls => F0 m 116 ls []) (fun fresh_116 made_116 H locs ls hi => ?_) (fun J116 => ?_)
      · obtain ⟨hw, Wd, hl⟩ := hi
        have Wd116 := Wd
        unfold wp_copies_116 at hw
        refine lv_aload_n C.1 C.2.1 dX12_copies_116 rfl (lv_at hl 0 rfl) ?_
        refine lv_iload_n C.1 C.2.1 dX12_copies_117 rfl (lv_at hl 1 rfl) ?_
        refine k_pi (k_runVM (rest := []) C aks Wd cs_X12_104 (mt_behind D h ad ca (sI I 5 made_116) (sF F 3 fresh_116) Wd.2 l2_2 g_l2_2 _ hw l _) rfl rfl ⟨(by show 606 + 1 ≤ 609 + (n + 1); omega), (by show 8 + (3 + 11) + (12908) ≤ 12992 + 23 * (n + 1); omega)⟩ hl.1 rfl rfl (Nat.le_of_ble_eq_true rfl) ⟨(Nat.le_of_ble_eq_true rfl), (Nat.le_of_ble_eq_true rfl)⟩ dX12_copies_118) (fun y118 hy => ?_)
        obtain ⟨r118, rfl, g_r118, hw⟩ := hy
        refine lv_istore_n (lv' := [(2, .int (zI r118)), (0, .ref h)]) C.1 C.2.1 dX12_copies_121 rfl hl (by decide) rfl (fun ls hl => ?_)
        replace hl := lv_sub hl [1, 0] rfl
        refine lv_goto (tgt := 2) C.1 C.2.1 dX12_copies_122 (by decide) ?_
        exact hL2 _ _ _ hw _ _ _ ⟨g_r118, wMc Wd rfl rfl ⟨(rsI hS.1 (Wd116.2.1 5)), (rsF hS.2 (fun j => Wd116.2.2 3 j))⟩, lv_sub hl [0, 1] rfl⟩
      refine lv_if_eq (tgt := 22) C.1 C.2.1 dX12_copies_16 (by decide) (fun c16 => ?_) (fun c16 => ?_)
      · have hw := hw.1 (z0_eq g15 c16)
        refine lv_aload_n C.1 C.2.1 dX12_copies_22 rfl (lv_at hl 0 rfl) ?_
        refine k_get (v := .ref (ad 2)) C Wd.1 KX12 0 2 wM0 (by decide) fl_X12_16 rfl dX12_copies_23 ?_
        refine lv_iload_n C.1 C.2.1 dX12_copies_26 rfl (lv_at hl 1 rfl) ?_
        obtain ⟨a27, hw⟩ := hw
        refine k_ialdM (g := (F 2)) C Wd 3 2 rfl rfl a27 (by decide) dX12_copies_27 ?_
        have g27 : rng ((F 2) l2_2) := rngL (hS.2 2) a27
        refine lv_bipush (v := zI 112) C.1 C.2.1 dX12_copies_28 (by decide) ?_
        refine k_cut0 (fun  H locs ls => wp_copies_57 (wp_copies n) (F 2) (I 4) (F 47) fresh_2 l2_2 made_2 L2 ∧ wXM D ca s h ad (sI I 5 made_2) (sF F 3 fresh_2) H A s.heap locs ∧ lv_has ls 4 [(0, .ref h), (2, .int (zI l2_2))]) (fun  ls => F0 m 57 ls []) (fun  H locs ls hi => ?_) (fun J57 => ?_)
        · obtain ⟨hw, Wd, hl⟩ := hi
          have Wd57 := Wd
          unfold wp_copies_57 at hw
          refine lv_aload_n C.1 C.2.1 dX12_copies_57 rfl (lv_at hl 0 rfl) ?_
          refine lv_iload_n C.1 C.2.1 dX12_copies_58 rfl (lv_at hl 1 rfl) ?_
          refine lv_aload_n C.1 C.2.1 dX12_copies_59 rfl (lv_at hl 0 rfl) ?_
          refine lv_iload_n C.1 C.2.1 dX12_copies_60 rfl (lv_at hl 1 rfl) ?_
          refine k_pi (k_runVM (rest := [.int (zI l2_2), .ref h]) C aks Wd cs_X12_101 (mt_body D h ad ca (sI I 5 made_2) (sF F 3 fresh_2) Wd.2 l2_2 g_l2_2 _ hw l _) rfl rfl ⟨(by show 504 + 1 ≤ 609 + (n + 1); omega), (by show 8 + (2 + 11) + (10647) ≤ 12992 + 23 * (n + 1); omega)⟩ hl.1 rfl rfl (Nat.le_of_ble_eq_true rfl) ⟨(Nat.le_of_ble_eq_true rfl), (Nat.le_of_ble_eq_true rfl)⟩ dX12_copies_61) (fun y61 hy => ?_)
          obtain ⟨r61, rfl, g_r61, hw⟩ := hy
          refine k_cMv Wd (k_runVM (rest := []) C aks Wd cs_X12_367 (mt_writes D h ad ca (sI I 5 made_2) (sF F 3 fresh_2) Wd.2 l2_2 r61 g_l2_2 g_r61 _ hw l _) rfl rfl ⟨(by show 2 + 1 ≤ 609 + (n + 1); omega), (by show 8 + (4 + 11) + (85) ≤ 12992 + 23 * (n + 1); omega)⟩ hl.1 rfl rfl (Nat.le_of_ble_eq_true rfl) ⟨(Nat.le_of_ble_eq_true rfl), (Nat.le_of_ble_eq_true rfl)⟩ dX12_copies_64) (fun u64 H locs hw Wd => ?_)
          obtain ⟨fresh_r64, made_r64⟩ := u64
          dsimp only at hw
          have Wc64 := Wd
          have Wd : wXM D ca s h ad (sI I 5 made_r64) (sF F 3 fresh_r64) H A s.heap locs := wMc Wd rfl rfl ⟨(rsI hS.1 (Wc64.2.1 5)), (rsF hS.2 (fun j => Wc64.2.2 3 j))⟩
          refine lv_aload_n C.1 C.2.1 dX12_copies_67 rfl (lv_at hl 0 rfl) ?_
          refine lv_aload_n C.1 C.2.1 dX12_copies_68 rfl (lv_at hl 0 rfl) ?_
          refine lv_iload_n C.1 C.2.1 dX12_copies_69 rfl (lv_at hl 1 rfl) ?_
          refine k_pi (k_runVM (rest := [.ref h]) C aks Wd cs_X12_101 (mt_body D h ad ca (sI I 5 made_r64) (sF F 3 fresh_r64) Wd.2 l2_2 g_l2_2 _ hw l _) rfl rfl ⟨(by show 504 + 1 ≤ 609 + (n + 1); omega), (by show 8 + (2 + 11) + (10647) ≤ 12992 + 23 * (n + 1); omega)⟩ hl.1 rfl rfl (Nat.le_of_ble_eq_true rfl) ⟨(Nat.le_of_ble_eq_true rfl), (Nat.le_of_ble_eq_true rfl)⟩ dX12_copies_70) (fun y70 hy => ?_)
          obtain ⟨r70, rfl, g_r70, hw⟩ := hy
          refine k_cMv Wd (k_runVM (rest := []) C aks Wd cs_X12_391 (ih_copies D h ad ca (sI I 5 made_r64) (sF F 3 fresh_r64) Wd.2 r70 g_r70 _ hw l _) rfl rfl ⟨(by show 609 + n + 1 ≤ 609 + (n + 1); omega), (by show 8 + (4 + 11) + (12992 + 23 * n) ≤ 12992 + 23 * (n + 1); omega)⟩ hl.1 rfl rfl (Nat.le_of_ble_eq_true rfl) ⟨(Nat.le_of_ble_eq_true rfl), (Nat.le_of_ble_eq_true rfl)⟩ dX12_copies_73) (fun u73 H locs hw Wd => ?_)
          obtain ⟨fresh_r73, made_r73⟩ := u73
          dsimp only at hw
          have Wc73 := Wd
          have Wd : wXM D ca s h ad (sI I 5 made_r73) (sF F 3 fresh_r73) H A s.heap locs := wMc Wd rfl rfl ⟨(rsI hS.1 (Wc73.2.1 5)), (rsF hS.2 (fun j => Wc73.2.2 3 j))⟩
          refine lv_aload_n C.1 C.2.1 dX12_copies_76 rfl (lv_at hl 0 rfl) ?_
          refine lv_aload_n C.1 C.2.1 dX12_copies_77 rfl (lv_at hl 0 rfl) ?_
          refine lv_iload_n C.1 C.2.1 dX12_copies_78 rfl (lv_at hl 1 rfl) ?_
          refine k_pi (k_runVM (rest := [.ref h]) C aks Wd cs_X12_101 (mt_body D h ad ca (sI I 5 made_r73) (sF F 3 fresh_r73) Wd.2 l2_2 g_l2_2 _ hw l _) rfl rfl ⟨(by show 504 + 1 ≤ 609 + (n + 1); omega), (by show 8 + (2 + 11) + (10647) ≤ 12992 + 23 * (n + 1); omega)⟩ hl.1 rfl rfl (Nat.le_of_ble_eq_true rfl) ⟨(Nat.le_of_ble_eq_true rfl), (Nat.le_of_ble_eq_true rfl)⟩ dX12_copies_79) (fun y79 hy => ?_)
          obtain ⟨r79, rfl, g_r79, hw⟩ := hy
          refine k_pi (k_runVM (rest := []) C aks Wd cs_X12_309 (mt_close D h ad ca (sI I 5 made_r73) (sF F 3 fresh_r73) Wd.2 r79 g_r79 _ hw l _) rfl rfl ⟨(by show 607 + 1 ≤ 609 + (n + 1); omega), (by show 8 + (3 + 11) + (12930) ≤ 12992 + 23 * (n + 1); omega)⟩ hl.1 rfl rfl (Nat.le_of_ble_eq_true rfl) ⟨(Nat.le_of_ble_eq_true rfl), (Nat.le_of_ble_eq_true rfl)⟩ dX12_copies_82) (fun y82 hy => ?_)
          obtain ⟨r82, rfl, g_r82, hw⟩ := hy
          refine lv_istore_n (lv' := [(3, .int (zI r82)), (0, .ref h), (2, .int (zI l2_2))]) C.1 C.2.1 dX12_copies_85 rfl hl (by decide) rfl (fun ls hl => ?_)
          replace hl := lv_sub hl [1, 2, 0] rfl
          refine lv_aload_n C.1 C.2.1 dX12_copies_86 rfl (lv_at hl 0 rfl) ?_
          refine k_get (v := .ref (ad 2)) C Wd.1 KX12 0 2 wM0 (by decide) fl_X12_16 rfl dX12_copies_87 ?_
          refine lv_iload_n C.1 C.2.1 dX12_copies_90 rfl (lv_at hl 2 rfl) ?_
          obtain ⟨a91, hw⟩ := hw
          refine k_ialdM (g := (F 2)) C Wd 3 2 rfl rfl a91 (by decide) dX12_copies_91 ?_
          have g91 : rng ((F 2) r82) := rngL (hS.2 2) a91
          refine lv_bipush (v := zI 113) C.1 C.2.1 dX12_copies_92 (by decide) ?_
          refine k_cut2 (fun (fresh_110 : Int → Int) (made_110 : Int) H locs ls => wp_copies_110 (F 2) l2_2 L2 fresh_110 made_110 ∧ wXM D ca s h ad (sI I 5 made_110) (sF F 3 fresh_110) H A s.heap locs ∧ lv_has ls 4 [(0, .ref h), (2, .int (zI l2_2))]) (fun (fresh_110 : Int → Int) (made_110 : Int) ls => F0 m 110 ls []) (fun fresh_110 made_110 H locs ls hi => ?_) (fun J110 => ?_)
          · obtain ⟨hw, Wd, hl⟩ := hi
            have Wd110 := Wd
            unfold wp_copies_110 at hw
            refine lv_aload_n C.1 C.2.1 dX12_copies_110 rfl (lv_at hl 0 rfl) ?_
            refine lv_bipush (v := zI 114) C.1 C.2.1 dX12_copies_111 (by decide) ?_
            refine k_cMv Wd (k_runVM (rest := []) C aks Wd cs_X12_120 (mt_write D h ad ca (sI I 5 made_110) (sF F 3 fresh_110) Wd.2 114 (show rng 114 from by decide) _ hw l _) rfl rfl ⟨(by show 1 + 1 ≤ 609 + (n + 1); omega), (by show 8 + (2 + 11) + (64) ≤ 12992 + 23 * (n + 1); omega)⟩ hl.1 rfl rfl (Nat.le_of_ble_eq_true rfl) ⟨(Nat.le_of_ble_eq_true rfl), (Nat.le_of_ble_eq_true rfl)⟩ dX12_copies_113) (fun u113 H locs hw Wd => ?_)
            obtain ⟨fresh_r113, made_r113⟩ := u113
            dsimp only at hw
            have Wc113 := Wd
            have Wd : wXM D ca s h ad (sI I 5 made_r113) (sF F 3 fresh_r113) H A s.heap locs := wMc Wd rfl rfl ⟨(rsI hS.1 (Wc113.2.1 5)), (rsF hS.2 (fun j => Wc113.2.2 3 j))⟩
            exact J116 fresh_r113 made_r113 _ _ _ ⟨hw, wMc Wd rfl rfl ⟨(rsI hS.1 (Wc113.2.1 5)), (rsF hS.2 (fun j => Wc113.2.2 3 j))⟩, lv_sub hl [0, 1] rfl⟩
          refine lv_icmp_ne (tgt := 110) C.1 C.2.1 dX12_copies_94 (by decide) (fun c94 => ?_) (fun c94 => ?_)
          · have hw := hw.1 (z_ne g91 (show rng 113 from by decide) c94)
            exact J110 fresh_r73 made_r73 _ _ _ ⟨hw, wMc Wd rfl rfl ⟨(rsI hS.1 (Wc73.2.1 5)), (rsF hS.2 (fun j => Wc73.2.2 3 j))⟩, lv_sub hl [0, 1] rfl⟩
          · have hw := hw.2 (z_eq g91 (show rng 113 from by decide) c94)
            refine lv_aload_n C.1 C.2.1 dX12_copies_97 rfl (lv_at hl 0 rfl) ?_
            refine lv_bipush (v := zI 113) C.1 C.2.1 dX12_copies_98 (by decide) ?_
            refine k_cMv Wd (k_runVM (rest := []) C aks Wd cs_X12_120 (mt_write D h ad ca (sI I 5 made_r73) (sF F 3 fresh_r73) Wd.2 113 (show rng 113 from by decide) _ hw l _) rfl rfl ⟨(by show 1 + 1 ≤ 609 + (n + 1); omega), (by show 8 + (2 + 11) + (64) ≤ 12992 + 23 * (n + 1); omega)⟩ hl.1 rfl rfl (Nat.le_of_ble_eq_true rfl) ⟨(Nat.le_of_ble_eq_true rfl), (Nat.le_of_ble_eq_true rfl)⟩ dX12_copies_100) (fun u100 H locs hw Wd => ?_)
            obtain ⟨fresh_r100, made_r100⟩ := u100
            dsimp only at hw
            have Wc100 := Wd
            have Wd : wXM D ca s h ad (sI I 5 made_r100) (sF F 3 fresh_r100) H A s.heap locs := wMc Wd rfl rfl ⟨(rsI hS.1 (Wc100.2.1 5)), (rsF hS.2 (fun j => Wc100.2.2 3 j))⟩
            refine lv_aload_n C.1 C.2.1 dX12_copies_103 rfl (lv_at hl 0 rfl) ?_
            refine lv_iload_n C.1 C.2.1 dX12_copies_104 rfl (lv_at hl 2 rfl) ?_
            refine lv_iconst (v := zI 1) C.1 C.2.1 dX12_copies_105 (by decide) ?_
            refine k_iadd (v := zI (r82 + 1)) C (zI_iadd _ _) dX12_copies_106 ?_
            obtain ⟨g107_0, hw⟩ := hw
            refine k_cMv Wd (k_runVM (rest := []) C aks Wd cs_X12_391 (ih_copies D h ad ca (sI I 5 made_r100) (sF F 3 fresh_r100) Wd.2 (r82 + 1) g107_0 _ hw l _) rfl rfl ⟨(by show 609 + n + 1 ≤ 609 + (n + 1); omega), (by show 8 + (4 + 11) + (12992 + 23 * n) ≤ 12992 + 23 * (n + 1); omega)⟩ hl.1 rfl rfl (Nat.le_of_ble_eq_true rfl) ⟨(Nat.le_of_ble_eq_true rfl), (Nat.le_of_ble_eq_true rfl)⟩ dX12_copies_107) (fun u107 H locs hw Wd => ?_)
            obtain ⟨fresh_r107, made_r107⟩ := u107
            dsimp only at hw
            have Wc107 := Wd
            have Wd : wXM D ca s h ad (sI I 5 made_r107) (sF F 3 fresh_r107) H A s.heap locs := wMc Wd rfl rfl ⟨(rsI hS.1 (Wc107.2.1 5)), (rsF hS.2 (fun j => Wc107.2.2 3 j))⟩
            exact J110 fresh_r107 made_r107 _ _ _ ⟨hw, wMc Wd rfl rfl ⟨(rsI hS.1 (Wc107.2.1 5)), (rsF hS.2 (fun j => Wc107.2.2 3 j))⟩, lv_sub hl [0, 1] rfl⟩
        refine lv_icmp_eq (tgt := 57) C.1 C.2.1 dX12_copies_30 (by decide) (fun c30 => ?_) (fun c30 => ?_)
        · have hw := hw.1 (z_eq g27 (show rng 112 from by decide) c30)
          exact J57  _ _ _ ⟨hw, wMc Wd rfl rfl ⟨(rsI hS.1 (Wd2.2.1 5)), (rsF hS.2 (fun j => Wd2.2.2 3 j))⟩, lv_sub hl [0, 1] rfl⟩
        · have hw := hw.2 (z_ne g27 (show rng 112 from by decide) c30)
          refine lv_aload_n C.1 C.2.1 dX12_copies_33 rfl (lv_at hl 0 rfl) ?_
          refine k_get (v := .ref (ad 2)) C Wd.1 KX12 0 2 wM0 (by decide) fl_X12_16 rfl dX12_copies_34 ?_
          refine lv_iload_n C.1 C.2.1 dX12_copies_37 rfl (lv_at hl 1 rfl) ?_
          obtain ⟨a38, hw⟩ := hw
          refine k_ialdM (g := (F 2)) C Wd 3 2 rfl rfl a38 (by decide) dX12_copies_38 ?_
          refine lv_bipush (v := zI 115) C.1 C.2.1 dX12_copies_39 (by decide) ?_
          refine lv_icmp_eq (tgt := 57) C.1 C.2.1 dX12_copies_41 (by decide) (fun c41 => ?_) (fun c41 => ?_)
          · have hw := hw.1 (z_eq g27 (show rng 115 from by decide) c41)
            exact J57  _ _ _ ⟨hw, wMc Wd rfl rfl ⟨(rsI hS.1 (Wd2.2.1 5)), (rsF hS.2 (fun j => Wd2.2.2 3 j))⟩, lv_sub hl [0, 1] rfl⟩
          · have hw := hw.2 (z_ne g27 (show rng 115 from by decide) c41)
            refine lv_aload_n C.1 C.2.1 dX12_copies_44 rfl (lv_at hl 0 rfl) ?_
            refine lv_iload_n C.1 C.2.1 dX12_copies_45 rfl (lv_at hl 1 rfl) ?_
            refine lv_aload_n C.1 C.2.1 dX12_copies_46 rfl (lv_at hl 0 rfl) ?_
            refine lv_iload_n C.1 C.2.1 dX12_copies_47 rfl (lv_at hl 1 rfl) ?_
            refine k_pi (k_runVM (rest := [.int (zI l2_2), .ref h]) C aks Wd cs_X12_104 (mt_behind D h ad ca (sI I 5 made_2) (sF F 3 fresh_2) Wd.2 l2_2 g_l2_2 _ hw l _) rfl rfl ⟨(by show 606 + 1 ≤ 609 + (n + 1); omega), (by show 8 + (3 + 11) + (12908) ≤ 12992 + 23 * (n + 1); omega)⟩ hl.1 rfl rfl (Nat.le_of_ble_eq_true rfl) ⟨(Nat.le_of_ble_eq_true rfl), (Nat.le_of_ble_eq_true rfl)⟩ dX12_copies_48) (fun y48 hy => ?_)
            obtain ⟨r48, rfl, g_r48, hw⟩ := hy
            refine k_cMv Wd (k_runVM (rest := []) C aks Wd cs_X12_367 (mt_writes D h ad ca (sI I 5 made_2) (sF F 3 fresh_2) Wd.2 l2_2 r48 g_l2_2 g_r48 _ hw l _) rfl rfl ⟨(by show 2 + 1 ≤ 609 + (n + 1); omega), (by show 8 + (4 + 11) + (85) ≤ 12992 + 23 * (n + 1); omega)⟩ hl.1 rfl rfl (Nat.le_of_ble_eq_true rfl) ⟨(Nat.le_of_ble_eq_true rfl), (Nat.le_of_ble_eq_true rfl)⟩ dX12_copies_51) (fun u51 H locs hw Wd => ?_)
            obtain ⟨fresh_r51, made_r51⟩ := u51
            dsimp only at hw
            have Wc51 := Wd
            have Wd : wXM D ca s h ad (sI I 5 made_r51) (sF F 3 fresh_r51) H A s.heap locs := wMc Wd rfl rfl ⟨(rsI hS.1 (Wc51.2.1 5)), (rsF hS.2 (fun j => Wc51.2.2 3 j))⟩
            refine lv_goto (tgt := 116) C.1 C.2.1 dX12_copies_54 (by decide) ?_
            exact J116 fresh_r51 made_r51 _ _ _ ⟨hw, wMc Wd rfl rfl ⟨(rsI hS.1 (Wc51.2.1 5)), (rsF hS.2 (fun j => Wc51.2.2 3 j))⟩, lv_sub hl [0, 1] rfl⟩
      · have hw := hw.2 (z0_ne g15 c16)
        refine lv_goto (tgt := 116) C.1 C.2.1 dX12_copies_19 (by decide) ?_
        exact J116 fresh_2 made_2 _ _ _ ⟨hw, wMc Wd rfl rfl ⟨(rsI hS.1 (Wd2.2.1 5)), (rsF hS.2 (fun j => Wd2.2.2 3 j))⟩, lv_sub hl [0, 1] rfl⟩
theorem mt_copies : ∀ (D : va_G) (h : Nat) (ad : Nat → Nat) (ca : Nat → ClassId) (I : Nat → Int) (F : Nat → Int → Int) (hS : rngS I F) (x0 : Int) (g_x0 : rng x0) (K : (Int → Int) → Int → Prop) (hw : wp_copies 100 (F 2) (F 3) (I 4) (I 5) (F 47) x0 K) (l : Launch) (sz : Nat), Met l yX12_copies (Cond.code yX12_copies cX12_copies 4 none :: gG) { frames := 709, cells := 0, slots := 0, locals := 15292 } (cPre D (tM ca) (wM h ad ca I F) sz [.ref h, .int (zI x0)]) (va_Qv (fun (u : (Int → Int) × (Int)) => K u.1 u.2 ∧ rngS (sI I 5 u.2) (sF F 3 u.1)) (fun u t => cB D (va_A (wM h ad ca I F) sz) [] (wM h ad ca (sI I 5 u.2) (sF F 3 u.1)) t) (va_A (wM h ad ca I F) sz)) 0 0 (va_A (wM h ad ca I F) sz) := mg_copies 100
set_option maxHeartbeats 4000000 in
set_option maxRecDepth 100000 in
theorem mt_clears : ∀ (D : va_G) (h : Nat) (ad : Nat → Nat) (ca : Nat → ClassId) (I : Nat → Int) (F : Nat → Int → Int) (hS : rngS I F) (K : (Int → Int) → Int → Prop) (hw : wp_clears (F 47) (I 48) K) (l : Launch) (sz : Nat), Met l yX12_clears (Cond.code yX12_clears cX12_clears 2 none :: gG) { frames := 1, cells := 0, slots := 0, locals := 64 } (cPre D (tM ca) (wM h ad ca I F) sz [.ref h]) (va_Qv (fun (u : (Int → Int) × (Int)) => K u.1 u.2 ∧ rngS (sI I 48 u.2) (sF F 47 u.1)) (fun u t => cB D (va_A (wM h ad ca I F) sz) [] (wM h ad ca (sI I 48 u.2) (sF F 47 u.1)) t) (va_A (wM h ad ca I F) sz)) 0 0 (va_A (wM h ad ca I F) sz) := by
  intro D h ad ca I F hS  K hw l sz
  refine Met.ofW (cc := cX12_clears) (maxL := 2) (ret := none) (by decide) rfl ?_
  intro p e s m args below meth c s₁ B hml hv
  obtain ⟨rfl, aks, rfl, Wd⟩ := k_enter hv
  have C : CallFix p m c cX12_clears 2 s _ gG RX12 := ⟨B.exec, B.bytes, hml, findClass_of_methodNamed B.named, fun w h => atoms_spec (ws := Cond.code yX12_clears cX12_clears 2 none :: gG) B.pre w (List.mem_cons_of_mem _ h)⟩
  have hr := B.returns
  have hlk := B.notSynchronized
  generalize va_A (wM h ad ca I F) s.heap.size = A at Wd ⊢
  replace Wd : wXM D ca s h ad I F s.heap A s.heap [] := ⟨Wd, hS⟩
  refine k_locals (Nat.le_of_ble_eq_true rfl) [(0, .ref h)] rfl (fun ls hl => ?_)
  unfold wp_clears at hw
  refine lv_aload_n C.1 C.2.1 dX12_clears_0 rfl (lv_at hl 0 rfl) ?_
  refine lv_iconst (v := zI 0) C.1 C.2.1 dX12_clears_1 (by decide) ?_
  refine k_putM C Wd 48 (sI I 48 0) (by decide) fl_X12_382 rfl (by decide) (by decide) rfl (rsI hS.1 (show rng 0 from by decide)) dX12_clears_2 (fun H locs Wd => ?_)
  refine lv_iconst (v := zI 0) C.1 C.2.1 dX12_clears_5 (by decide) ?_
  refine lv_istore_n (lv' := [(1, .int (zI 0)), (0, .ref h)]) C.1 C.2.1 dX12_clears_6 rfl hl (by decide) rfl (fun ls hl => ?_)
  replace hl := lv_sub hl [1, 0] rfl
  refine k_lp2 hw (fun (l1_7 : Int) (isOut_7 : Int → Int) H locs ls => rng l1_7 ∧ wXM D ca s h ad (sI I 48 0) (sF F 47 isOut_7) H A s.heap locs ∧ lv_has ls 2 [(0, .ref h), (1, .int (zI l1_7))]) (fun (l1_7 : Int) (isOut_7 : Int → Int) ls => F0 m 7 ls []) (fun L7 hL7 l1_7 isOut_7 hw H locs ls hi => ?_) _ _ _ ⟨(show rng 0 from by decide), wMc Wd rfl rfl ⟨(rsI hS.1 (show rng 0 from by decide)), (rsF hS.2 (hS.2 47))⟩, lv_sub hl [0, 1] rfl⟩
  obtain ⟨g_l1_7, Wd, hl⟩ := hi
  have Wd7 := Wd
  unfold wp_clears_7 at hw
  refine lv_iload_n C.1 C.2.1 dX12_clears_7 rfl (lv_at hl 1 rfl) ?_
  refine lv_sipush (v := zI 2400) C.1 C.2.1 dX12_clears_8 (zS (by decide) (by decide)) ?_
  refine lv_icmp_ge (tgt := 27) C.1 C.2.1 dX12_clears_11 (by decide) (fun c11 => ?_) (fun c11 => ?_)
  · have hw := hw.1 (z_le (show rng 2400 from by decide) g_l1_7 c11)
    exact k_retMv C hr hlk Wd (u := (isOut_7, 0)) rfl rfl ⟨hw, ⟨(rsI hS.1 (show rng 0 from by decide)), (rsF hS.2 (fun j => Wd7.2.2 47 j))⟩⟩ dX12_clears_27
  · have hw := hw.2 (z_nle (show rng 2400 from by decide) g_l1_7 c11)
    refine lv_aload_n C.1 C.2.1 dX12_clears_14 rfl (lv_at hl 0 rfl) ?_
    refine k_get (v := .ref (ad 47)) C Wd.1 KX12 0 47 wM0 (by decide) fl_X12_68 rfl dX12_clears_15 ?_
    refine lv_iload_n C.1 C.2.1 dX12_clears_18 rfl (lv_at hl 1 rfl) ?_
    refine lv_iconst (v := zI 0) C.1 C.2.1 dX12_clears_19 (by decide) ?_
    obtain ⟨a20, hw⟩ := hw
    have q20 : ∀ j : Nat, rng ((uZ isOut_7 l1_7 0) j) := ruZ (fun j => Wd7.2.2 47 j) (show rng 0 from by decide)
    refine k_zastM (g := isOut_7) C Wd 18 18 (sF F 47 (uZ isOut_7 l1_7 0)) rfl rfl a20 (by decide) (by decide) rfl rfl (rsF hS.2 q20) dX12_clears_20 (fun H locs Wd => ?_)
    refine lv_iinc (v := zI (l1_7 + 1)) (lv' := [(1, .int (zI (l1_7 + 1))), (0, .ref h)]) C.1 C.2.1 dX12_clears_21 hl (k := 1) rfl (zI_inc _ _ (by decide)) (by decide) rfl (fun ls hl => ?_)
    replace hl := lv_sub hl [1, 0] rfl
    refine lv_goto (tgt := 7) C.1 C.2.1 dX12_clears_24 (by decide) ?_
    obtain ⟨g24_0, hw⟩ := hw
    exact hL7 _ _ hw _ _ _ ⟨g24_0, wMc Wd rfl rfl ⟨(rsI hS.1 (show rng 0 from by decide)), (rsF hS.2 q20)⟩, lv_sub hl [0, 1] rfl⟩
set_option maxHeartbeats 4000000 in
set_option maxRecDepth 100000 in
theorem mt_dead : ∀ (D : va_G) (h : Nat) (ad : Nat → Nat) (ca : Nat → ClassId) (I : Nat → Int) (F : Nat → Int → Int) (hS : rngS I F) (x0 : Int) (g_x0 : rng x0) (K : (Int → Int) → (Int → Int) → Int → Int → (Int → Int) → Int → Prop) (hw : wp_dead (F 2) (F 3) (I 4) (I 5) (F 47) (I 48) x0 K) (l : Launch) (sz : Nat), Met l yX12_dead (Cond.code yX12_dead cX12_dead 2 none :: gG) { frames := 812, cells := 0, slots := 0, locals := 18284 } (cPre D (tM ca) (wM h ad ca I F) sz [.ref h, .int (zI x0)]) (va_Qv (fun (u : (Int → Int) × (Int → Int) × (Int) × (Int) × (Int → Int) × (Int)) => K u.1 u.2.1 u.2.2.1 u.2.2.2.1 u.2.2.2.2.1 u.2.2.2.2.2 ∧ rngS (sI (sI (sI I 4 u.2.2.1) 5 u.2.2.2.1) 48 u.2.2.2.2.2) (sF (sF (sF F 2 u.1) 3 u.2.1) 47 u.2.2.2.2.1)) (fun u t => cB D (va_A (wM h ad ca I F) sz) [] (wM h ad ca (sI (sI (sI I 4 u.2.2.1) 5 u.2.2.2.1) 48 u.2.2.2.2.2) (sF (sF (sF F 2 u.1) 3 u.2.1) 47 u.2.2.2.2.1)) t) (va_A (wM h ad ca I F) sz)) 0 0 (va_A (wM h ad ca I F) sz) := by
  intro D h ad ca I F hS x0 g_x0 K hw l sz
  refine Met.ofW (cc := cX12_dead) (maxL := 2) (ret := none) (by decide) rfl ?_
  intro p e s m args below meth c s₁ B hml hv
  obtain ⟨rfl, aks, rfl, Wd⟩ := k_enter hv
  have C : CallFix p m c cX12_dead 2 s _ gG RX12 := ⟨B.exec, B.bytes, hml, findClass_of_methodNamed B.named, fun w h => atoms_spec (ws := Cond.code yX12_dead cX12_dead 2 none :: gG) B.pre w (List.mem_cons_of_mem _ h)⟩
  have hr := B.returns
  have hlk := B.notSynchronized
  generalize va_A (wM h ad ca I F) s.heap.size = A at Wd ⊢
  replace Wd : wXM D ca s h ad I F s.heap A s.heap [] := ⟨Wd, hS⟩
  refine k_locals (Nat.le_of_ble_eq_true rfl) [(0, .ref h), (1, .int (zI x0))] rfl (fun ls hl => ?_)
  unfold wp_dead at hw
  refine lv_aload_n C.1 C.2.1 dX12_dead_0 rfl (lv_at hl 0 rfl) ?_
  refine k_cMv Wd (k_runVM (rest := []) C aks Wd cs_X12_394 (mt_clears D h ad ca I F Wd.2   _ hw l _) rfl rfl ⟨(Nat.le_of_ble_eq_true rfl), (Nat.le_of_ble_eq_true rfl)⟩ hl.1 rfl rfl (Nat.le_of_ble_eq_true rfl) ⟨(Nat.le_of_ble_eq_true rfl), (Nat.le_of_ble_eq_true rfl)⟩ dX12_dead_1) (fun u1 H locs hw Wd => ?_)
  obtain ⟨isOut_r1, someOut_r1⟩ := u1
  dsimp only at hw
  have Wc1 := Wd
  have Wd : wXM D ca s h ad (sI I 48 someOut_r1) (sF F 47 isOut_r1) H A s.heap locs := wMc Wd rfl rfl ⟨(rsI hS.1 (Wc1.2.1 48)), (rsF hS.2 (fun j => Wc1.2.2 47 j))⟩
  refine lv_iload_n C.1 C.2.1 dX12_dead_4 rfl (lv_at hl 1 rfl) ?_
  refine lv_if_eq (tgt := 15) C.1 C.2.1 dX12_dead_5 (by decide) (fun c5 => ?_) (fun c5 => ?_)
  · have hw := hw.1 (z0_eq g_x0 c5)
    refine lv_aload_n C.1 C.2.1 dX12_dead_15 rfl (lv_at hl 0 rfl) ?_
    refine lv_iconst (v := zI 0) C.1 C.2.1 dX12_dead_16 (by decide) ?_
    refine lv_iconst (v := zI 0) C.1 C.2.1 dX12_dead_17 (by decide) ?_
    refine k_cMv Wd (k_runVM (rest := []) C aks Wd cs_X12_388 (mt_marks D h ad ca (sI I 48 someOut_r1) (sF F 47 isOut_r1) Wd.2 0 0 (show rng 0 from by decide) (show rng 0 from by decide) _ hw l _) rfl rfl ⟨(Nat.le_of_ble_eq_true rfl), (Nat.le_of_ble_eq_true rfl)⟩ hl.1 rfl rfl (Nat.le_of_ble_eq_true rfl) ⟨(Nat.le_of_ble_eq_true rfl), (Nat.le_of_ble_eq_true rfl)⟩ dX12_dead_18) (fun u18 H locs hw Wd => ?_)
    obtain ⟨isOut_r18, someOut_r18⟩ := u18
    dsimp only at hw
    have Wc18 := Wd
    have Wd : wXM D ca s h ad (sI I 48 someOut_r18) (sF F 47 isOut_r18) H A s.heap locs := wMc Wd rfl rfl ⟨(rsI hS.1 (Wc18.2.1 48)), (rsF hS.2 (fun j => Wc18.2.2 47 j))⟩
    refine k_lp6 hw (fun (row_21 : Int → Int) (fresh_21 : Int → Int) (many_21 : Int) (made_21 : Int) (isOut_21 : Int → Int) (someOut_21 : Int) H locs ls => wXM D ca s h ad (sI (sI (sI I 4 many_21) 5 made_21) 48 someOut_21) (sF (sF (sF F 2 row_21) 3 fresh_21) 47 isOut_21) H A s.heap locs ∧ lv_has ls 2 [(0, .ref h), (1, .int (zI x0))]) (fun (row_21 : Int → Int) (fresh_21 : Int → Int) (many_21 : Int) (made_21 : Int) (isOut_21 : Int → Int) (someOut_21 : Int) ls => F0 m 21 ls []) (fun L21 hL21 row_21 fresh_21 many_21 made_21 isOut_21 someOut_21 hw H locs ls hi => ?_) _ _ _ ⟨wMc Wd rfl rfl ⟨(rsI (rsI (rsI hS.1 (hS.1 4)) (hS.1 5)) (Wc18.2.1 48)), (rsF (rsF (rsF hS.2 (hS.2 2)) (hS.2 3)) (fun j => Wc18.2.2 47 j))⟩, lv_sub hl [0, 1] rfl⟩
    obtain ⟨Wd, hl⟩ := hi
    have Wd21 := Wd
    unfold wp_dead_21 at hw
    refine lv_aload_n C.1 C.2.1 dX12_dead_21 rfl (lv_at hl 0 rfl) ?_
    refine k_get (v := .int (zI someOut_21)) C Wd.1 KX12 0 48 wM0 (by decide) fl_X12_382 rfl dX12_dead_22 ?_
    refine lv_if_eq (tgt := 66) C.1 C.2.1 dX12_dead_25 (by decide) (fun c25 => ?_) (fun c25 => ?_)
    · have hw := hw.1 (z0_eq (Wd21.2.1 48) c25)
      exact k_retMv C hr hlk Wd (u := (row_21, fresh_21, many_21, made_21, isOut_21, someOut_21)) rfl rfl ⟨hw, ⟨(rsI (rsI (rsI hS.1 (Wd21.2.1 4)) (Wd21.2.1 5)) (Wd21.2.1 48)), (rsF (rsF (rsF hS.2 (fun j => Wd21.2.2 2 j)) (fun j => Wd21.2.2 3 j)) (fun j => Wd21.2.2 47 j))⟩⟩ dX12_dead_66
    · have hw := hw.2 (z0_ne (Wd21.2.1 48) c25)
      refine lv_aload_n C.1 C.2.1 dX12_dead_28 rfl (lv_at hl 0 rfl) ?_
      refine lv_iconst (v := zI 0) C.1 C.2.1 dX12_dead_29 (by decide) ?_
      refine k_putM C Wd 5 (sI (sI (sI I 4 many_21) 5 0) 48 someOut_21) (by decide) fl_X12_117 rfl rfl rfl rfl (rsI (rsI (rsI hS.1 (Wd21.2.1 4)) (show rng 0 from by decide)) (Wd21.2.1 48)) dX12_dead_30 (fun H locs Wd => ?_)
      refine lv_aload_n C.1 C.2.1 dX12_dead_33 rfl (lv_at hl 0 rfl) ?_
      refine lv_iconst (v := zI 0) C.1 C.2.1 dX12_dead_34 (by decide) ?_
      refine k_cMv Wd (k_runVM (rest := []) C aks Wd cs_X12_391 (mt_copies D h ad ca (sI (sI (sI I 4 many_21) 5 0) 48 someOut_21) (sF (sF (sF F 2 row_21) 3 fresh_21) 47 isOut_21) Wd.2 0 (show rng 0 from by decide) _ hw l _) rfl rfl ⟨(Nat.le_of_ble_eq_true rfl), (Nat.le_of_ble_eq_true rfl)⟩ hl.1 rfl rfl (Nat.le_of_ble_eq_true rfl) ⟨(Nat.le_of_ble_eq_true rfl), (Nat.le_of_ble_eq_true rfl)⟩ dX12_dead_35) (fun u35 H locs hw Wd => ?_)
      obtain ⟨fresh_r35, made_r35⟩ := u35
      dsimp only at hw
      have Wc35 := Wd
      have Wd : wXM D ca s h ad (sI (sI (sI I 4 many_21) 5 made_r35) 48 someOut_21) (sF (sF (sF F 2 row_21) 3 fresh_r35) 47 isOut_21) H A s.heap locs := wMc Wd rfl rfl ⟨(rsI (rsI (rsI hS.1 (Wd21.2.1 4)) (Wc35.2.1 5)) (Wd21.2.1 48)), (rsF (rsF (rsF hS.2 (fun j => Wd21.2.2 2 j)) (fun j => Wc35.2.2 3 j)) (fun j => Wd21.2.2 47 j))⟩
      refine lv_aload_n C.1 C.2.1 dX12_dead_38 rfl (lv_at hl 0 rfl) ?_
      refine k_cMv Wd (k_runVM (rest := []) C aks Wd cs_X12_259 (mt_turns D h ad ca (sI (sI (sI I 4 many_21) 5 made_r35) 48 someOut_21) (sF (sF (sF F 2 row_21) 3 fresh_r35) 47 isOut_21) Wd.2   _ hw l _) rfl rfl ⟨(Nat.le_of_ble_eq_true rfl), (Nat.le_of_ble_eq_true rfl)⟩ hl.1 rfl rfl (Nat.le_of_ble_eq_true rfl) ⟨(Nat.le_of_ble_eq_true rfl), (Nat.le_of_ble_eq_true rfl)⟩ dX12_dead_39) (fun u39 H locs hw Wd => ?_)
      obtain ⟨row_r39, many_r39, made_r39⟩ := u39
      dsimp only at hw
      have Wc39 := Wd
      have Wd : wXM D ca s h ad (sI (sI (sI I 4 many_r39) 5 made_r39) 48 someOut_21) (sF (sF (sF F 2 row_r39) 3 fresh_r35) 47 isOut_21) H A s.heap locs := wMc Wd rfl rfl ⟨(rsI (rsI (rsI hS.1 (Wc39.2.1 4)) (Wc39.2.1 5)) (Wd21.2.1 48)), (rsF (rsF (rsF hS.2 (fun j => Wc39.2.2 2 j)) (fun j => Wc35.2.2 3 j)) (fun j => Wd21.2.2 47 j))⟩
      refine lv_aload_n C.1 C.2.1 dX12_dead_42 rfl (lv_at hl 0 rfl) ?_
      refine k_cMv Wd (k_runVM (rest := []) C aks Wd cs_X12_394 (mt_clears D h ad ca (sI (sI (sI I 4 many_r39) 5 made_r39) 48 someOut_21) (sF (sF (sF F 2 row_r39) 3 fresh_r35) 47 isOut_21) Wd.2   _ hw l _) rfl rfl ⟨(Nat.le_of_ble_eq_true rfl), (Nat.le_of_ble_eq_true rfl)⟩ hl.1 rfl rfl (Nat.le_of_ble_eq_true rfl) ⟨(Nat.le_of_ble_eq_true rfl), (Nat.le_of_ble_eq_true rfl)⟩ dX12_dead_43) (fun u43 H locs hw Wd => ?_)
      obtain ⟨isOut_r43, someOut_r43⟩ := u43
      dsimp only at hw
      have Wc43 := Wd
      have Wd : wXM D ca s h ad (sI (sI (sI I 4 many_r39) 5 made_r39) 48 someOut_r43) (sF (sF (sF F 2 row_r39) 3 fresh_r35) 47 isOut_r43) H A s.heap locs := wMc Wd rfl rfl ⟨(rsI (rsI (rsI hS.1 (Wc39.2.1 4)) (Wc39.2.1 5)) (Wc43.2.1 48)), (rsF (rsF (rsF hS.2 (fun j => Wc39.2.2 2 j)) (fun j => Wc35.2.2 3 j)) (fun j => Wc43.2.2 47 j))⟩
      refine lv_iload_n C.1 C.2.1 dX12_dead_46 rfl (lv_at hl 1 rfl) ?_
      refine lv_if_eq (tgt := 57) C.1 C.2.1 dX12_dead_47 (by decide) (fun c47 => ?_) (fun c47 => ?_)
      · have hw := hw.1 (z0_eq g_x0 c47)
        refine lv_aload_n C.1 C.2.1 dX12_dead_57 rfl (lv_at hl 0 rfl) ?_
        refine lv_iconst (v := zI 0) C.1 C.2.1 dX12_dead_58 (by decide) ?_
        refine lv_iconst (v := zI 0) C.1 C.2.1 dX12_dead_59 (by decide) ?_
        refine k_cMv Wd (k_runVM (rest := []) C aks Wd cs_X12_388 (mt_marks D h ad ca (sI (sI (sI I 4 many_r39) 5 made_r39) 48 someOut_r43) (sF (sF (sF F 2 row_r39) 3 fresh_r35) 47 isOut_r43) Wd.2 0 0 (show rng 0 from by decide) (show rng 0 from by decide) _ hw l _) rfl rfl ⟨(Nat.le_of_ble_eq_true rfl), (Nat.le_of_ble_eq_true rfl)⟩ hl.1 rfl rfl (Nat.le_of_ble_eq_true rfl) ⟨(Nat.le_of_ble_eq_true rfl), (Nat.le_of_ble_eq_true rfl)⟩ dX12_dead_60) (fun u60 H locs hw Wd => ?_)
        obtain ⟨isOut_r60, someOut_r60⟩ := u60
        dsimp only at hw
        have Wc60 := Wd
        have Wd : wXM D ca s h ad (sI (sI (sI I 4 many_r39) 5 made_r39) 48 someOut_r60) (sF (sF (sF F 2 row_r39) 3 fresh_r35) 47 isOut_r60) H A s.heap locs := wMc Wd rfl rfl ⟨(rsI (rsI (rsI hS.1 (Wc39.2.1 4)) (Wc39.2.1 5)) (Wc60.2.1 48)), (rsF (rsF (rsF hS.2 (fun j => Wc39.2.2 2 j)) (fun j => Wc35.2.2 3 j)) (fun j => Wc60.2.2 47 j))⟩
        refine lv_goto (tgt := 21) C.1 C.2.1 dX12_dead_63 (by decide) ?_
        exact hL21 _ _ _ _ _ _ hw _ _ _ ⟨wMc Wd rfl rfl ⟨(rsI (rsI (rsI hS.1 (Wc39.2.1 4)) (Wc39.2.1 5)) (Wc60.2.1 48)), (rsF (rsF (rsF hS.2 (fun j => Wc39.2.2 2 j)) (fun j => Wc35.2.2 3 j)) (fun j => Wc60.2.2 47 j))⟩, lv_sub hl [0, 1] rfl⟩
      · have hw := hw.2 (z0_ne g_x0 c47)
        refine lv_aload_n C.1 C.2.1 dX12_dead_50 rfl (lv_at hl 0 rfl) ?_
        refine k_cMv Wd (k_runVM (rest := []) C aks Wd cs_X12_397 (mt_marksHasty D h ad ca (sI (sI (sI I 4 many_r39) 5 made_r39) 48 someOut_r43) (sF (sF (sF F 2 row_r39) 3 fresh_r35) 47 isOut_r43) Wd.2   _ hw l _) rfl rfl ⟨(Nat.le_of_ble_eq_true rfl), (Nat.le_of_ble_eq_true rfl)⟩ hl.1 rfl rfl (Nat.le_of_ble_eq_true rfl) ⟨(Nat.le_of_ble_eq_true rfl), (Nat.le_of_ble_eq_true rfl)⟩ dX12_dead_51) (fun u51 H locs hw Wd => ?_)
        obtain ⟨isOut_r51, someOut_r51⟩ := u51
        dsimp only at hw
        have Wc51 := Wd
        have Wd : wXM D ca s h ad (sI (sI (sI I 4 many_r39) 5 made_r39) 48 someOut_r51) (sF (sF (sF F 2 row_r39) 3 fresh_r35) 47 isOut_r51) H A s.heap locs := wMc Wd rfl rfl ⟨(rsI (rsI (rsI hS.1 (Wc39.2.1 4)) (Wc39.2.1 5)) (Wc51.2.1 48)), (rsF (rsF (rsF hS.2 (fun j => Wc39.2.2 2 j)) (fun j => Wc35.2.2 3 j)) (fun j => Wc51.2.2 47 j))⟩
        refine lv_goto (tgt := 21) C.1 C.2.1 dX12_dead_54 (by decide) ?_
        exact hL21 _ _ _ _ _ _ hw _ _ _ ⟨wMc Wd rfl rfl ⟨(rsI (rsI (rsI hS.1 (Wc39.2.1 4)) (Wc39.2.1 5)) (Wc51.2.1 48)), (rsF (rsF (rsF hS.2 (fun j => Wc39.2.2 2 j)) (fun j => Wc35.2.2 3 j)) (fun j => Wc51.2.2 47 j))⟩, lv_sub hl [0, 1] rfl⟩
  · have hw := hw.2 (z0_ne g_x0 c5)
    refine lv_aload_n C.1 C.2.1 dX12_dead_8 rfl (lv_at hl 0 rfl) ?_
    refine k_cMv Wd (k_runVM (rest := []) C aks Wd cs_X12_397 (mt_marksHasty D h ad ca (sI I 48 someOut_r1) (sF F 47 isOut_r1) Wd.2   _ hw l _) rfl rfl ⟨(Nat.le_of_ble_eq_true rfl), (Nat.le_of_ble_eq_true rfl)⟩ hl.1 rfl rfl (Nat.le_of_ble_eq_true rfl) ⟨(Nat.le_of_ble_eq_true rfl), (Nat.le_of_ble_eq_true rfl)⟩ dX12_dead_9) (fun u9 H locs hw Wd => ?_)
    obtain ⟨isOut_r9, someOut_r9⟩ := u9
    dsimp only at hw
    have Wc9 := Wd
    have Wd : wXM D ca s h ad (sI I 48 someOut_r9) (sF F 47 isOut_r9) H A s.heap locs := wMc Wd rfl rfl ⟨(rsI hS.1 (Wc9.2.1 48)), (rsF hS.2 (fun j => Wc9.2.2 47 j))⟩
    refine lv_goto (tgt := 21) C.1 C.2.1 dX12_dead_12 (by decide) ?_
    refine k_lp6 hw (fun (row_21 : Int → Int) (fresh_21 : Int → Int) (many_21 : Int) (made_21 : Int) (isOut_21 : Int → Int) (someOut_21 : Int) H locs ls => wXM D ca s h ad (sI (sI (sI I 4 many_21) 5 made_21) 48 someOut_21) (sF (sF (sF F 2 row_21) 3 fresh_21) 47 isOut_21) H A s.heap locs ∧ lv_has ls 2 [(0, .ref h), (1, .int (zI x0))]) (fun (row_21 : Int → Int) (fresh_21 : Int → Int) (many_21 : Int) (made_21 : Int) (isOut_21 : Int → Int) (someOut_21 : Int) ls => F0 m 21 ls []) (fun L21 hL21 row_21 fresh_21 many_21 made_21 isOut_21 someOut_21 hw H locs ls hi => ?_) _ _ _ ⟨wMc Wd rfl rfl ⟨(rsI (rsI (rsI hS.1 (hS.1 4)) (hS.1 5)) (Wc9.2.1 48)), (rsF (rsF (rsF hS.2 (hS.2 2)) (hS.2 3)) (fun j => Wc9.2.2 47 j))⟩, lv_sub hl [0, 1] rfl⟩
    obtain ⟨Wd, hl⟩ := hi
    have Wd21 := Wd
    unfold wp_dead_21 at hw
    refine lv_aload_n C.1 C.2.1 dX12_dead_21 rfl (lv_at hl 0 rfl) ?_
    refine k_get (v := .int (zI someOut_21)) C Wd.1 KX12 0 48 wM0 (by decide) fl_X12_382 rfl dX12_dead_22 ?_
    refine lv_if_eq (tgt := 66) C.1 C.2.1 dX12_dead_25 (by decide) (fun c25 => ?_) (fun c25 => ?_)
    · have hw := hw.1 (z0_eq (Wd21.2.1 48) c25)
      exact k_retMv C hr hlk Wd (u := (row_21, fresh_21, many_21, made_21, isOut_21, someOut_21)) rfl rfl ⟨hw, ⟨(rsI (rsI (rsI hS.1 (Wd21.2.1 4)) (Wd21.2.1 5)) (Wd21.2.1 48)), (rsF (rsF (rsF hS.2 (fun j => Wd21.2.2 2 j)) (fun j => Wd21.2.2 3 j)) (fun j => Wd21.2.2 47 j))⟩⟩ dX12_dead_66
    · have hw := hw.2 (z0_ne (Wd21.2.1 48) c25)
      refine lv_aload_n C.1 C.2.1 dX12_dead_28 rfl (lv_at hl 0 rfl) ?_
      refine lv_iconst (v := zI 0) C.1 C.2.1 dX12_dead_29 (by decide) ?_
      refine k_putM C Wd 5 (sI (sI (sI I 4 many_21) 5 0) 48 someOut_21) (by decide) fl_X12_117 rfl rfl rfl rfl (rsI (rsI (rsI hS.1 (Wd21.2.1 4)) (show rng 0 from by decide)) (Wd21.2.1 48)) dX12_dead_30 (fun H locs Wd => ?_)
      refine lv_aload_n C.1 C.2.1 dX12_dead_33 rfl (lv_at hl 0 rfl) ?_
      refine lv_iconst (v := zI 0) C.1 C.2.1 dX12_dead_34 (by decide) ?_
      refine k_cMv Wd (k_runVM (rest := []) C aks Wd cs_X12_391 (mt_copies D h ad ca (sI (sI (sI I 4 many_21) 5 0) 48 someOut_21) (sF (sF (sF F 2 row_21) 3 fresh_21) 47 isOut_21) Wd.2 0 (show rng 0 from by decide) _ hw l _) rfl rfl ⟨(Nat.le_of_ble_eq_true rfl), (Nat.le_of_ble_eq_true rfl)⟩ hl.1 rfl rfl (Nat.le_of_ble_eq_true rfl) ⟨(Nat.le_of_ble_eq_true rfl), (Nat.le_of_ble_eq_true rfl)⟩ dX12_dead_35) (fun u35 H locs hw Wd => ?_)
      obtain ⟨fresh_r35, made_r35⟩ := u35
      dsimp only at hw
      have Wc35 := Wd
      have Wd : wXM D ca s h ad (sI (sI (sI I 4 many_21) 5 made_r35) 48 someOut_21) (sF (sF (sF F 2 row_21) 3 fresh_r35) 47 isOut_21) H A s.heap locs := wMc Wd rfl rfl ⟨(rsI (rsI (rsI hS.1 (Wd21.2.1 4)) (Wc35.2.1 5)) (Wd21.2.1 48)), (rsF (rsF (rsF hS.2 (fun j => Wd21.2.2 2 j)) (fun j => Wc35.2.2 3 j)) (fun j => Wd21.2.2 47 j))⟩
      refine lv_aload_n C.1 C.2.1 dX12_dead_38 rfl (lv_at hl 0 rfl) ?_
      refine k_cMv Wd (k_runVM (rest := []) C aks Wd cs_X12_259 (mt_turns D h ad ca (sI (sI (sI I 4 many_21) 5 made_r35) 48 someOut_21) (sF (sF (sF F 2 row_21) 3 fresh_r35) 47 isOut_21) Wd.2   _ hw l _) rfl rfl ⟨(Nat.le_of_ble_eq_true rfl), (Nat.le_of_ble_eq_true rfl)⟩ hl.1 rfl rfl (Nat.le_of_ble_eq_true rfl) ⟨(Nat.le_of_ble_eq_true rfl), (Nat.le_of_ble_eq_true rfl)⟩ dX12_dead_39) (fun u39 H locs hw Wd => ?_)
      obtain ⟨row_r39, many_r39, made_r39⟩ := u39
      dsimp only at hw
      have Wc39 := Wd
      have Wd : wXM D ca s h ad (sI (sI (sI I 4 many_r39) 5 made_r39) 48 someOut_21) (sF (sF (sF F 2 row_r39) 3 fresh_r35) 47 isOut_21) H A s.heap locs := wMc Wd rfl rfl ⟨(rsI (rsI (rsI hS.1 (Wc39.2.1 4)) (Wc39.2.1 5)) (Wd21.2.1 48)), (rsF (rsF (rsF hS.2 (fun j => Wc39.2.2 2 j)) (fun j => Wc35.2.2 3 j)) (fun j => Wd21.2.2 47 j))⟩
      refine lv_aload_n C.1 C.2.1 dX12_dead_42 rfl (lv_at hl 0 rfl) ?_
      refine k_cMv Wd (k_runVM (rest := []) C aks Wd cs_X12_394 (mt_clears D h ad ca (sI (sI (sI I 4 many_r39) 5 made_r39) 48 someOut_21) (sF (sF (sF F 2 row_r39) 3 fresh_r35) 47 isOut_21) Wd.2   _ hw l _) rfl rfl ⟨(Nat.le_of_ble_eq_true rfl), (Nat.le_of_ble_eq_true rfl)⟩ hl.1 rfl rfl (Nat.le_of_ble_eq_true rfl) ⟨(Nat.le_of_ble_eq_true rfl), (Nat.le_of_ble_eq_true rfl)⟩ dX12_dead_43) (fun u43 H locs hw Wd => ?_)
      obtain ⟨isOut_r43, someOut_r43⟩ := u43
      dsimp only at hw
      have Wc43 := Wd
      have Wd : wXM D ca s h ad (sI (sI (sI I 4 many_r39) 5 made_r39) 48 someOut_r43) (sF (sF (sF F 2 row_r39) 3 fresh_r35) 47 isOut_r43) H A s.heap locs := wMc Wd rfl rfl ⟨(rsI (rsI (rsI hS.1 (Wc39.2.1 4)) (Wc39.2.1 5)) (Wc43.2.1 48)), (rsF (rsF (rsF hS.2 (fun j => Wc39.2.2 2 j)) (fun j => Wc35.2.2 3 j)) (fun j => Wc43.2.2 47 j))⟩
      refine lv_iload_n C.1 C.2.1 dX12_dead_46 rfl (lv_at hl 1 rfl) ?_
      refine lv_if_eq (tgt := 57) C.1 C.2.1 dX12_dead_47 (by decide) (fun c47 => ?_) (fun c47 => ?_)
      · have hw := hw.1 (z0_eq g_x0 c47)
        refine lv_aload_n C.1 C.2.1 dX12_dead_57 rfl (lv_at hl 0 rfl) ?_
        refine lv_iconst (v := zI 0) C.1 C.2.1 dX12_dead_58 (by decide) ?_
        refine lv_iconst (v := zI 0) C.1 C.2.1 dX12_dead_59 (by decide) ?_
        refine k_cMv Wd (k_runVM (rest := []) C aks Wd cs_X12_388 (mt_marks D h ad ca (sI (sI (sI I 4 many_r39) 5 made_r39) 48 someOut_r43) (sF (sF (sF F 2 row_r39) 3 fresh_r35) 47 isOut_r43) Wd.2 0 0 (show rng 0 from by decide) (show rng 0 from by decide) _ hw l _) rfl rfl ⟨(Nat.le_of_ble_eq_true rfl), (Nat.le_of_ble_eq_true rfl)⟩ hl.1 rfl rfl (Nat.le_of_ble_eq_true rfl) ⟨(Nat.le_of_ble_eq_true rfl), (Nat.le_of_ble_eq_true rfl)⟩ dX12_dead_60) (fun u60 H locs hw Wd => ?_)
        obtain ⟨isOut_r60, someOut_r60⟩ := u60
        dsimp only at hw
        have Wc60 := Wd
        have Wd : wXM D ca s h ad (sI (sI (sI I 4 many_r39) 5 made_r39) 48 someOut_r60) (sF (sF (sF F 2 row_r39) 3 fresh_r35) 47 isOut_r60) H A s.heap locs := wMc Wd rfl rfl ⟨(rsI (rsI (rsI hS.1 (Wc39.2.1 4)) (Wc39.2.1 5)) (Wc60.2.1 48)), (rsF (rsF (rsF hS.2 (fun j => Wc39.2.2 2 j)) (fun j => Wc35.2.2 3 j)) (fun j => Wc60.2.2 47 j))⟩
        refine lv_goto (tgt := 21) C.1 C.2.1 dX12_dead_63 (by decide) ?_
        exact hL21 _ _ _ _ _ _ hw _ _ _ ⟨wMc Wd rfl rfl ⟨(rsI (rsI (rsI hS.1 (Wc39.2.1 4)) (Wc39.2.1 5)) (Wc60.2.1 48)), (rsF (rsF (rsF hS.2 (fun j => Wc39.2.2 2 j)) (fun j => Wc35.2.2 3 j)) (fun j => Wc60.2.2 47 j))⟩, lv_sub hl [0, 1] rfl⟩
      · have hw := hw.2 (z0_ne g_x0 c47)
        refine lv_aload_n C.1 C.2.1 dX12_dead_50 rfl (lv_at hl 0 rfl) ?_
        refine k_cMv Wd (k_runVM (rest := []) C aks Wd cs_X12_397 (mt_marksHasty D h ad ca (sI (sI (sI I 4 many_r39) 5 made_r39) 48 someOut_r43) (sF (sF (sF F 2 row_r39) 3 fresh_r35) 47 isOut_r43) Wd.2   _ hw l _) rfl rfl ⟨(Nat.le_of_ble_eq_true rfl), (Nat.le_of_ble_eq_true rfl)⟩ hl.1 rfl rfl (Nat.le_of_ble_eq_true rfl) ⟨(Nat.le_of_ble_eq_true rfl), (Nat.le_of_ble_eq_true rfl)⟩ dX12_dead_51) (fun u51 H locs hw Wd => ?_)
        obtain ⟨isOut_r51, someOut_r51⟩ := u51
        dsimp only at hw
        have Wc51 := Wd
        have Wd : wXM D ca s h ad (sI (sI (sI I 4 many_r39) 5 made_r39) 48 someOut_r51) (sF (sF (sF F 2 row_r39) 3 fresh_r35) 47 isOut_r51) H A s.heap locs := wMc Wd rfl rfl ⟨(rsI (rsI (rsI hS.1 (Wc39.2.1 4)) (Wc39.2.1 5)) (Wc51.2.1 48)), (rsF (rsF (rsF hS.2 (fun j => Wc39.2.2 2 j)) (fun j => Wc35.2.2 3 j)) (fun j => Wc51.2.2 47 j))⟩
        refine lv_goto (tgt := 21) C.1 C.2.1 dX12_dead_54 (by decide) ?_
        exact hL21 _ _ _ _ _ _ hw _ _ _ ⟨wMc Wd rfl rfl ⟨(rsI (rsI (rsI hS.1 (Wc39.2.1 4)) (Wc39.2.1 5)) (Wc51.2.1 48)), (rsF (rsF (rsF hS.2 (fun j => Wc39.2.2 2 j)) (fun j => Wc35.2.2 3 j)) (fun j => Wc51.2.2 47 j))⟩, lv_sub hl [0, 1] rfl⟩
set_option maxHeartbeats 4000000 in
set_option maxRecDepth 100000 in
theorem mg_folds (n : Nat) : (∀ (D : va_G) (h : Nat) (ad : Nat → Nat) (ca : Nat → ClassId) (I : Nat → Int) (F : Nat → Int → Int) (hS : rngS I F) (x0 : Int) (g_x0 : rng x0) (K : Int → (Int → Int) → Int → Prop) (hw : wp_folds n (F 2) (F 3) (I 5) x0 K) (l : Launch) (sz : Nat), Met l yX12_folds (Cond.code yX12_folds cX12_folds 5 (some .boolean) :: gG) { frames := 505 + n, cells := 0, slots := 0, locals := 10687 + 24 * n } (cPre D (tM ca) (wM h ad ca I F) sz [.ref h, .int (zI x0)]) (va_Qi (fun (r : Int32) (u : (Int → Int) × (Int)) => (∃ x : Int, r = zI x ∧ rng x ∧ K x u.1 u.2) ∧ rngS (sI I 5 u.2) (sF F 3 u.1)) (fun u t => cB D (va_A (wM h ad ca I F) sz) [] (wM h ad ca (sI I 5 u.2) (sF F 3 u.1)) t) (va_A (wM h ad ca I F) sz)) 0 0 (va_A (wM h ad ca I F) sz)) := by
  induction n with
  | zero => exact (fun _ _ _ _ _ _ _ _ _ _ hw => absurd hw id)
  | succ n ih =>
    have ih_folds := ih
    intro D h ad ca I F hS x0 g_x0 K hw l sz
    refine Met.ofW (cc := cX12_folds) (maxL := 5) (ret := (some .boolean)) (by decide) rfl ?_
    intro p e s m args below meth c s₁ B hml hv
    obtain ⟨rfl, aks, rfl, Wd⟩ := k_enter hv
    have C : CallFix p m c cX12_folds 5 s _ gG RX12 := ⟨B.exec, B.bytes, hml, findClass_of_methodNamed B.named, fun w h => atoms_spec (ws := Cond.code yX12_folds cX12_folds 5 (some .boolean) :: gG) B.pre w (List.mem_cons_of_mem _ h)⟩
    have hr := B.returns
    have hlk := B.notSynchronized
    generalize va_A (wM h ad ca I F) s.heap.size = A at Wd ⊢
    replace Wd : wXM D ca s h ad I F s.heap A s.heap [] := ⟨Wd, hS⟩
    refine k_locals (Nat.le_of_ble_eq_true rfl) [(0, .ref h), (1, .int (zI x0))] rfl (fun ls hl => ?_)
    replace hw : wp_folds_b (wp_folds n) (F 2) (F 3) (I 5) x0 K := hw
    unfold wp_folds_b at hw
    refine lv_aload_n C.1 C.2.1 dX12_folds_0 rfl (lv_at hl 0 rfl) ?_
    refine k_get (v := .ref (ad 2)) C Wd.1 KX12 0 2 wM0 (by decide) fl_X12_16 rfl dX12_folds_1 ?_
    refine lv_iload_n C.1 C.2.1 dX12_folds_4 rfl (lv_at hl 1 rfl) ?_
    obtain ⟨a5, hw⟩ := hw
    refine k_ialdM (g := (F 2)) C Wd 3 2 rfl rfl a5 (by decide) dX12_folds_5 ?_
    have g5 : rng ((F 2) x0) := rngL (hS.2 2) a5
    refine lv_bipush (v := zI 120) C.1 C.2.1 dX12_folds_6 (by decide) ?_
    refine lv_bipush (v := zI 122) C.1 C.2.1 dX12_folds_8 (by decide) ?_
    refine k_pi (k_runS (rest := []) C aks Wd.1 cs_X12_90 (mt_isIn D ((F 2) x0) 120 122 g5 (show rng 120 from by decide) (show rng 122 from by decide) _ hw l _) [] rfl (by decide) [] rfl rfl rfl ⟨(by show 1 + 1 ≤ 505 + (n + 1); omega), (by show 8 + (3 + 11) + (64) ≤ 10687 + 24 * (n + 1); omega)⟩ hl.1 rfl rfl (Nat.le_of_ble_eq_true rfl) ⟨(Nat.le_of_ble_eq_true rfl), (Nat.le_of_ble_eq_true rfl)⟩ dX12_folds_10) (fun y10 hy => ?_)
    obtain ⟨r10, rfl, g_r10, hw⟩ := hy
    refine lv_if_ne (tgt := 43) C.1 C.2.1 dX12_folds_13 (by decide) (fun c13 => ?_) (fun c13 => ?_)
    · have hw := hw.1 (z0_ne g_r10 c13)
      refine lv_aload_n C.1 C.2.1 dX12_folds_43 rfl (lv_at hl 0 rfl) ?_
      refine k_get (v := .int (zI (I 5))) C Wd.1 KX12 0 5 wM0 (by decide) fl_X12_117 rfl dX12_folds_44 ?_
      refine lv_istore_n (lv' := [(2, .int (zI (I 5))), (0, .ref h), (1, .int (zI x0))]) C.1 C.2.1 dX12_folds_47 rfl hl (by decide) rfl (fun ls hl => ?_)
      replace hl := lv_sub hl [1, 2, 0] rfl
      refine lv_aload_n C.1 C.2.1 dX12_folds_48 rfl (lv_at hl 0 rfl) ?_
      refine lv_aload_n C.1 C.2.1 dX12_folds_49 rfl (lv_at hl 0 rfl) ?_
      refine k_get (v := .ref (ad 2)) C Wd.1 KX12 0 2 wM0 (by decide) fl_X12_16 rfl dX12_folds_50 ?_
      refine lv_iload_n C.1 C.2.1 dX12_folds_53 rfl (lv_at hl 1 rfl) ?_
      obtain ⟨a54, hw⟩ := hw
      refine k_ialdM (g := (F 2)) C Wd 3 2 rfl rfl a54 (by decide) dX12_folds_54 ?_
      refine k_cMv Wd (k_runVM (rest := []) C aks Wd cs_X12_120 (mt_write D h ad ca I F Wd.2 ((F 2) x0) g5 _ hw l _) rfl rfl ⟨(by show 1 + 1 ≤ 505 + (n + 1); omega), (by show 8 + (2 + 11) + (64) ≤ 10687 + 24 * (n + 1); omega)⟩ hl.1 rfl rfl (Nat.le_of_ble_eq_true rfl) ⟨(Nat.le_of_ble_eq_true rfl), (Nat.le_of_ble_eq_true rfl)⟩ dX12_folds_55) (fun u55 H locs hw Wd => ?_)
      obtain ⟨fresh_r55, made_r55⟩ := u55
      dsimp only at hw
      have Wc55 := Wd
      have Wd : wXM D ca s h ad (sI I 5 made_r55) (sF F 3 fresh_r55) H A s.heap locs := wMc Wd rfl rfl ⟨(rsI hS.1 (Wc55.2.1 5)), (rsF hS.2 (fun j => Wc55.2.2 3 j))⟩
      refine lv_aload_n C.1 C.2.1 dX12_folds_58 rfl (lv_at hl 0 rfl) ?_
      refine lv_iload_n C.1 C.2.1 dX12_folds_59 rfl (lv_at hl 1 rfl) ?_
      refine lv_iconst (v := zI 1) C.1 C.2.1 dX12_folds_60 (by decide) ?_
      refine k_iadd (v := zI (x0 + 1)) C (zI_iadd _ _) dX12_folds_61 ?_
      obtain ⟨g62_0, hw⟩ := hw
      refine k_cMi Wd (k_runVM (rest := []) C aks Wd cs_X12_400 (ih_folds D h ad ca (sI I 5 made_r55) (sF F 3 fresh_r55) Wd.2 (x0 + 1) g62_0 _ hw l _) rfl rfl ⟨(by show 505 + n + 1 ≤ 505 + (n + 1); omega), (by show 8 + (5 + 11) + (10687 + 24 * n) ≤ 10687 + 24 * (n + 1); omega)⟩ hl.1 rfl rfl (Nat.le_of_ble_eq_true rfl) ⟨(Nat.le_of_ble_eq_true rfl), (Nat.le_of_ble_eq_true rfl)⟩ dX12_folds_62) (fun r62 u62 H locs g_r62 hw Wd => ?_)
      obtain ⟨fresh_r62, made_r62⟩ := u62
      dsimp only at hw
      have Wc62 := Wd
      have Wd : wXM D ca s h ad (sI I 5 made_r62) (sF F 3 fresh_r62) H A s.heap locs := wMc Wd rfl rfl ⟨(rsI hS.1 (Wc62.2.1 5)), (rsF hS.2 (fun j => Wc62.2.2 3 j))⟩
      refine lv_istore_n (lv' := [(3, .int (zI r62)), (0, .ref h), (1, .int (zI x0)), (2, .int (zI (I 5)))]) C.1 C.2.1 dX12_folds_65 rfl hl (by decide) rfl (fun ls hl => ?_)
      replace hl := lv_sub hl [1, 2, 3, 0] rfl
      refine lv_aload_n C.1 C.2.1 dX12_folds_66 rfl (lv_at hl 0 rfl) ?_
      refine lv_aload_n C.1 C.2.1 dX12_folds_67 rfl (lv_at hl 0 rfl) ?_
      refine lv_iload_n C.1 C.2.1 dX12_folds_68 rfl (lv_at hl 1 rfl) ?_
      refine lv_iconst (v := zI 1) C.1 C.2.1 dX12_folds_69 (by decide) ?_
      refine k_iadd (v := zI (x0 + 1)) C (zI_iadd _ _) dX12_folds_70 ?_
      refine k_pi (k_runVM (rest := [.ref h]) C aks Wd cs_X12_94 (mt_endOf D h ad ca (sI I 5 made_r62) (sF F 3 fresh_r62) Wd.2 (x0 + 1) g62_0 _ hw l _) rfl rfl ⟨(by show 503 + 1 ≤ 505 + (n + 1); omega), (by show 8 + (2 + 11) + (10626) ≤ 10687 + 24 * (n + 1); omega)⟩ hl.1 rfl rfl (Nat.le_of_ble_eq_true rfl) ⟨(Nat.le_of_ble_eq_true rfl), (Nat.le_of_ble_eq_true rfl)⟩ dX12_folds_71) (fun y71 hy => ?_)
      obtain ⟨r71, rfl, g_r71, hw⟩ := hy
      refine k_cMi Wd (k_runVM (rest := []) C aks Wd cs_X12_400 (ih_folds D h ad ca (sI I 5 made_r62) (sF F 3 fresh_r62) Wd.2 r71 g_r71 _ hw l _) rfl rfl ⟨(by show 505 + n + 1 ≤ 505 + (n + 1); omega), (by show 8 + (5 + 11) + (10687 + 24 * n) ≤ 10687 + 24 * (n + 1); omega)⟩ hl.1 rfl rfl (Nat.le_of_ble_eq_true rfl) ⟨(Nat.le_of_ble_eq_true rfl), (Nat.le_of_ble_eq_true rfl)⟩ dX12_folds_74) (fun r74 u74 H locs g_r74 hw Wd => ?_)
      obtain ⟨fresh_r74, made_r74⟩ := u74
      dsimp only at hw
      have Wc74 := Wd
      have Wd : wXM D ca s h ad (sI I 5 made_r74) (sF F 3 fresh_r74) H A s.heap locs := wMc Wd rfl rfl ⟨(rsI hS.1 (Wc74.2.1 5)), (rsF hS.2 (fun j => Wc74.2.2 3 j))⟩
      refine lv_istore (lv' := [(4, .int (zI r74)), (0, .ref h), (1, .int (zI x0)), (2, .int (zI (I 5))), (3, .int (zI r62))]) C.1 C.2.1 dX12_folds_77 hl (by decide) rfl (fun ls hl => ?_)
      replace hl := lv_sub hl [1, 2, 3, 4, 0] rfl
      refine lv_iload_n C.1 C.2.1 dX12_folds_79 rfl (lv_at hl 3 rfl) ?_
      refine lv_if_eq (tgt := 88) C.1 C.2.1 dX12_folds_80 (by decide) (fun c80 => ?_) (fun c80 => ?_)
      · have hw := hw.1 (z0_eq g_r62 c80)
        refine lv_iconst (v := zI 0) C.1 C.2.1 dX12_folds_88 (by decide) ?_
        exact k_retMi C hr hlk (by decide) Wd (u := (fresh_r74, made_r74)) rfl rfl ⟨⟨_, rfl, (show rng 0 from by decide), hw⟩, ⟨(rsI hS.1 (Wc74.2.1 5)), (rsF hS.2 (fun j => Wc74.2.2 3 j))⟩⟩ dX12_folds_89
      · have hw := hw.2 (z0_ne g_r62 c80)
        refine lv_iload C.1 C.2.1 dX12_folds_83 (lv_at hl 4 rfl) ?_
        refine lv_if_ne (tgt := 90) C.1 C.2.1 dX12_folds_85 (by decide) (fun c85 => ?_) (fun c85 => ?_)
        · have hw := hw.1 (z0_ne g_r74 c85)
          refine lv_aload_n C.1 C.2.1 dX12_folds_90 rfl (lv_at hl 0 rfl) ?_
          refine k_get (v := .ref (ad 3)) C Wd.1 KX12 0 3 wM0 (by decide) fl_X12_19 rfl dX12_folds_91 ?_
          refine lv_iload_n C.1 C.2.1 dX12_folds_94 rfl (lv_at hl 2 rfl) ?_
          refine lv_aload_n C.1 C.2.1 dX12_folds_95 rfl (lv_at hl 0 rfl) ?_
          refine k_get (v := .ref (ad 2)) C Wd.1 KX12 0 2 wM0 (by decide) fl_X12_16 rfl dX12_folds_96 ?_
          refine lv_iload_n C.1 C.2.1 dX12_folds_99 rfl (lv_at hl 1 rfl) ?_
          obtain ⟨a100, hw⟩ := hw
          refine k_ialdM (g := (F 2)) C Wd 3 2 rfl rfl a100 (by decide) dX12_folds_100 ?_
          refine lv_aload_n C.1 C.2.1 dX12_folds_101 rfl (lv_at hl 0 rfl) ?_
          refine k_get (v := .ref (ad 3)) C Wd.1 KX12 0 3 wM0 (by decide) fl_X12_19 rfl dX12_folds_102 ?_
          refine lv_iload_n C.1 C.2.1 dX12_folds_105 rfl (lv_at hl 2 rfl) ?_
          refine lv_iconst (v := zI 1) C.1 C.2.1 dX12_folds_106 (by decide) ?_
          refine k_iadd (v := zI ((I 5) + 1)) C (zI_iadd _ _) dX12_folds_107 ?_
          obtain ⟨a108, hw⟩ := hw
          refine k_ialdM (g := fresh_r74) C Wd 4 3 rfl rfl a108 (by decide) dX12_folds_108 ?_
          have g108 : rng (fresh_r74 ((I 5) + 1)) := rngL (fun j => Wc74.2.2 3 j) a108
          refine lv_aload_n C.1 C.2.1 dX12_folds_109 rfl (lv_at hl 0 rfl) ?_
          refine k_get (v := .ref (ad 3)) C Wd.1 KX12 0 3 wM0 (by decide) fl_X12_19 rfl dX12_folds_110 ?_
          refine lv_iload_n C.1 C.2.1 dX12_folds_113 rfl (lv_at hl 2 rfl) ?_
          refine lv_iconst (v := zI 2) C.1 C.2.1 dX12_folds_114 (by decide) ?_
          refine k_iadd (v := zI ((I 5) + 2)) C (zI_iadd _ _) dX12_folds_115 ?_
          obtain ⟨a116, hw⟩ := hw
          refine k_ialdM (g := fresh_r74) C Wd 4 3 rfl rfl a116 (by decide) dX12_folds_116 ?_
          have g116 : rng (fresh_r74 ((I 5) + 2)) := rngL (fun j => Wc74.2.2 3 j) a116
          refine k_pi (k_runS (rest := [.int (zI (I 5)), .ref (ad 3)]) C aks Wd.1 cs_X12_287 (mt_both D ((F 2) x0) (fresh_r74 ((I 5) + 1)) (fresh_r74 ((I 5) + 2)) g5 g108 g116 _ hw l _) [] rfl (by decide) [] rfl rfl rfl ⟨(by show 1 + 1 ≤ 505 + (n + 1); omega), (by show 8 + (3 + 11) + (64) ≤ 10687 + 24 * (n + 1); omega)⟩ hl.1 rfl rfl (Nat.le_of_ble_eq_true rfl) ⟨(Nat.le_of_ble_eq_true rfl), (Nat.le_of_ble_eq_true rfl)⟩ dX12_folds_117) (fun y117 hy => ?_)
          obtain ⟨r117, rfl, g_r117, hw⟩ := hy
          obtain ⟨a120, hw⟩ := hw
          have q120 : ∀ j : Nat, rng ((uZ fresh_r74 (I 5) r117) j) := ruZ (fun j => Wc74.2.2 3 j) g_r117
          refine k_iastM (g := fresh_r74) C Wd 3 3 (sF F 3 (uZ fresh_r74 (I 5) r117)) rfl rfl a120 (by decide) rfl rfl (rsF hS.2 q120) dX12_folds_120 (fun H locs Wd => ?_)
          refine lv_aload_n C.1 C.2.1 dX12_folds_121 rfl (lv_at hl 0 rfl) ?_
          refine lv_iload_n C.1 C.2.1 dX12_folds_122 rfl (lv_at hl 2 rfl) ?_
          refine lv_iconst (v := zI 1) C.1 C.2.1 dX12_folds_123 (by decide) ?_
          refine k_iadd (v := zI ((I 5) + 1)) C (zI_iadd _ _) dX12_folds_124 ?_
          obtain ⟨g125_0, hw⟩ := hw
          refine k_putM C Wd 5 (sI I 5 ((I 5) + 1)) (by decide) fl_X12_117 rfl rfl rfl rfl (rsI hS.1 g125_0) dX12_folds_125 (fun H locs Wd => ?_)
          refine lv_iconst (v := zI 1) C.1 C.2.1 dX12_folds_128 (by decide) ?_
          exact k_retMi C hr hlk (by decide) Wd (u := ((uZ fresh_r74 (I 5) r117), ((I 5) + 1))) rfl rfl ⟨⟨_, rfl, (show rng 1 from by decide), hw⟩, ⟨(rsI hS.1 g125_0), (rsF hS.2 q120)⟩⟩ dX12_folds_129
        · have hw := hw.2 (z0_eq g_r74 c85)
          refine lv_iconst (v := zI 0) C.1 C.2.1 dX12_folds_88 (by decide) ?_
          exact k_retMi C hr hlk (by decide) Wd (u := (fresh_r74, made_r74)) rfl rfl ⟨⟨_, rfl, (show rng 0 from by decide), hw⟩, ⟨(rsI hS.1 (Wc74.2.1 5)), (rsF hS.2 (fun j => Wc74.2.2 3 j))⟩⟩ dX12_folds_89
    · have hw := hw.2 (z0_eq g_r10 c13)
      refine lv_aload_n C.1 C.2.1 dX12_folds_16 rfl (lv_at hl 0 rfl) ?_
      refine lv_aload_n C.1 C.2.1 dX12_folds_17 rfl (lv_at hl 0 rfl) ?_
      refine k_get (v := .ref (ad 2)) C Wd.1 KX12 0 2 wM0 (by decide) fl_X12_16 rfl dX12_folds_18 ?_
      refine lv_iload_n C.1 C.2.1 dX12_folds_21 rfl (lv_at hl 1 rfl) ?_
      obtain ⟨a22, hw⟩ := hw
      refine k_ialdM (g := (F 2)) C Wd 3 2 rfl rfl a22 (by decide) dX12_folds_22 ?_
      refine k_cMv Wd (k_runVM (rest := []) C aks Wd cs_X12_120 (mt_write D h ad ca I F Wd.2 ((F 2) x0) g5 _ hw l _) rfl rfl ⟨(by show 1 + 1 ≤ 505 + (n + 1); omega), (by show 8 + (2 + 11) + (64) ≤ 10687 + 24 * (n + 1); omega)⟩ hl.1 rfl rfl (Nat.le_of_ble_eq_true rfl) ⟨(Nat.le_of_ble_eq_true rfl), (Nat.le_of_ble_eq_true rfl)⟩ dX12_folds_23) (fun u23 H locs hw Wd => ?_)
      obtain ⟨fresh_r23, made_r23⟩ := u23
      dsimp only at hw
      have Wc23 := Wd
      have Wd : wXM D ca s h ad (sI I 5 made_r23) (sF F 3 fresh_r23) H A s.heap locs := wMc Wd rfl rfl ⟨(rsI hS.1 (Wc23.2.1 5)), (rsF hS.2 (fun j => Wc23.2.2 3 j))⟩
      refine lv_aload_n C.1 C.2.1 dX12_folds_26 rfl (lv_at hl 0 rfl) ?_
      refine k_get (v := .ref (ad 2)) C Wd.1 KX12 0 2 wM0 (by decide) fl_X12_16 rfl dX12_folds_27 ?_
      refine lv_iload_n C.1 C.2.1 dX12_folds_30 rfl (lv_at hl 1 rfl) ?_
      obtain ⟨a31, hw⟩ := hw
      refine k_ialdM (g := (F 2)) C Wd 3 2 rfl rfl a31 (by decide) dX12_folds_31 ?_
      refine lv_bipush (v := zI 20) C.1 C.2.1 dX12_folds_32 (by decide) ?_
      refine lv_icmp_ge (tgt := 41) C.1 C.2.1 dX12_folds_34 (by decide) (fun c34 => ?_) (fun c34 => ?_)
      · have hw := hw.1 (z_le (show rng 20 from by decide) g5 c34)
        refine lv_iconst (v := zI 0) C.1 C.2.1 dX12_folds_41 (by decide) ?_
        exact k_retMi C hr hlk (by decide) Wd (u := (fresh_r23, made_r23)) rfl rfl ⟨⟨_, rfl, (show rng 0 from by decide), hw⟩, ⟨(rsI hS.1 (Wc23.2.1 5)), (rsF hS.2 (fun j => Wc23.2.2 3 j))⟩⟩ dX12_folds_42
      · have hw := hw.2 (z_nle (show rng 20 from by decide) g5 c34)
        refine lv_iconst (v := zI 1) C.1 C.2.1 dX12_folds_37 (by decide) ?_
        refine lv_goto (tgt := 42) C.1 C.2.1 dX12_folds_38 (by decide) ?_
        exact k_retMi C hr hlk (by decide) Wd (u := (fresh_r23, made_r23)) rfl rfl ⟨⟨_, rfl, (show rng 1 from by decide), hw⟩, ⟨(rsI hS.1 (Wc23.2.1 5)), (rsF hS.2 (fun j => Wc23.2.2 3 j))⟩⟩ dX12_folds_42
theorem mt_folds : ∀ (D : va_G) (h : Nat) (ad : Nat → Nat) (ca : Nat → ClassId) (I : Nat → Int) (F : Nat → Int → Int) (hS : rngS I F) (x0 : Int) (g_x0 : rng x0) (K : Int → (Int → Int) → Int → Prop) (hw : wp_folds 500 (F 2) (F 3) (I 5) x0 K) (l : Launch) (sz : Nat), Met l yX12_folds (Cond.code yX12_folds cX12_folds 5 (some .boolean) :: gG) { frames := 1005, cells := 0, slots := 0, locals := 22687 } (cPre D (tM ca) (wM h ad ca I F) sz [.ref h, .int (zI x0)]) (va_Qi (fun (r : Int32) (u : (Int → Int) × (Int)) => (∃ x : Int, r = zI x ∧ rng x ∧ K x u.1 u.2) ∧ rngS (sI I 5 u.2) (sF F 3 u.1)) (fun u t => cB D (va_A (wM h ad ca I F) sz) [] (wM h ad ca (sI I 5 u.2) (sF F 3 u.1)) t) (va_A (wM h ad ca I F) sz)) 0 0 (va_A (wM h ad ca I F) sz) := mg_folds 500
set_option maxHeartbeats 4000000 in
set_option maxRecDepth 100000 in
theorem mg_foldAll (n : Nat) : (∀ (D : va_G) (h : Nat) (ad : Nat → Nat) (ca : Nat → ClassId) (I : Nat → Int) (F : Nat → Int → Int) (hS : rngS I F) (x0 : Int) (g_x0 : rng x0) (K : (Int → Int) → Int → Prop) (hw : wp_foldAll n (F 2) (F 3) (I 4) (I 5) x0 K) (l : Launch) (sz : Nat), Met l yX12_foldAll (Cond.code yX12_foldAll cX12_foldAll 3 none :: gG) { frames := 1007 + n, cells := 0, slots := 0, locals := 22751 + 29 * n } (cPre D (tM ca) (wM h ad ca I F) sz [.ref h, .int (zI x0)]) (va_Qv (fun (u : (Int → Int) × (Int)) => K u.1 u.2 ∧ rngS (sI I 5 u.2) (sF F 3 u.1)) (fun u t => cB D (va_A (wM h ad ca I F) sz) [] (wM h ad ca (sI I 5 u.2) (sF F 3 u.1)) t) (va_A (wM h ad ca I F) sz)) 0 0 (va_A (wM h ad ca I F) sz)) ∧ (∀ (D : va_G) (h : Nat) (ad : Nat → Nat) (ca : Nat → ClassId) (I : Nat → Int) (F : Nat → Int → Int) (hS : rngS I F) (x0 : Int) (g_x0 : rng x0) (K : (Int → Int) → Int → Prop) (hw : wp_foldOne n (F 2) (F 3) (I 4) (I 5) x0 K) (l : Launch) (sz : Nat), Met l yX12_foldOne (Cond.code yX12_foldOne cX12_foldOne 10 none :: gG) { frames := 1007 + n, cells := 0, slots := 0, locals := 22751 + 29 * n } (cPre D (tM ca) (wM h ad ca I F) sz [.ref h, .int (zI x0)]) (va_Qv (fun (u : (Int → Int) × (Int)) => K u.1 u.2 ∧ rngS (sI I 5 u.2) (sF F 3 u.1)) (fun u t => cB D (va_A (wM h ad ca I F) sz) [] (wM h ad ca (sI I 5 u.2) (sF F 3 u.1)) t) (va_A (wM h ad ca I F) sz)) 0 0 (va_A (wM h ad ca I F) sz)) := by
  induction n with
  | zero => exact ⟨(fun _ _ _ _ _ _ _ _ _ _ hw => absurd hw id), (fun _ _ _ _ _ _ _ _ _ _ hw => absurd hw id)⟩
  | succ n ih =>
    obtain ⟨ih_foldAll, ih_foldOne⟩ := ih
    refine ⟨?_, ?_⟩
    · intro D h ad ca I F hS x0 g_x0 K hw l sz
      refine Met.ofW (cc := cX12_foldAll) (maxL := 3) (ret := none) (by decide) rfl ?_
      intro p e s m args below meth c s₁ B hml hv
      obtain ⟨rfl, aks, rfl, Wd⟩ := k_enter hv
      have C : CallFix p m c cX12_foldAll 3 s _ gG RX12 := ⟨B.exec, B.bytes, hml, findClass_of_methodNamed B.named, fun w h => atoms_spec (ws := Cond.code yX12_foldAll cX12_foldAll 3 none :: gG) B.pre w (List.mem_cons_of_mem _ h)⟩
      have hr := B.returns
      have hlk := B.notSynchronized
      generalize va_A (wM h ad ca I F) s.heap.size = A at Wd ⊢
      replace Wd : wXM D ca s h ad I F s.heap A s.heap [] := ⟨Wd, hS⟩
      refine k_locals (Nat.le_of_ble_eq_true rfl) [(0, .ref h), (1, .int (zI x0))] rfl (fun ls hl => ?_)
      replace hw : wp_foldAll_b (wp_foldAll n) (wp_foldOne n) (F 2) (F 3) (I 4) (I 5) x0 K := hw
      unfold wp_foldAll_b at hw
      refine lv_iload_n C.1 C.2.1 dX12_foldAll_0 rfl (lv_at hl 1 rfl) ?_
      refine lv_istore_n (lv' := [(2, .int (zI x0)), (0, .ref h), (1, .int (zI x0))]) C.1 C.2.1 dX12_foldAll_1 rfl hl (by decide) rfl (fun ls hl => ?_)
      replace hl := lv_sub hl [1, 2, 0] rfl
      refine k_lp3 hw (fun (l2_2 : Int) (fresh_2 : Int → Int) (made_2 : Int) H locs ls => rng l2_2 ∧ wXM D ca s h ad (sI I 5 made_2) (sF F 3 fresh_2) H A s.heap locs ∧ lv_has ls 3 [(0, .ref h), (2, .int (zI l2_2))]) (fun (l2_2 : Int) (fresh_2 : Int → Int) (made_2 : Int) ls => F0 m 2 ls []) (fun L2 hL2 l2_2 fresh_2 made_2 hw H locs ls hi => ?_) _ _ _ ⟨g_x0, wMc Wd rfl rfl ⟨(rsI hS.1 (hS.1 5)), (rsF hS.2 (hS.2 3))⟩, lv_sub hl [0, 2] rfl⟩
      obtain ⟨g_l2_2, Wd, hl⟩ := hi
      have Wd2 := Wd
      unfold wp_foldAll_2 at hw
      refine lv_aload_n C.1 C.2.1 dX12_foldAll_2 rfl (lv_at hl 0 rfl) ?_
      refine lv_iload_n C.1 C.2.1 dX12_foldAll_3 rfl (lv_at hl 1 rfl) ?_
      refine k_pi (k_runVM (rest := []) C aks Wd cs_X12_107 (mt_isLast D h ad ca (sI I 5 made_2) (sF F 3 fresh_2) Wd.2 l2_2 g_l2_2 _ hw l _) rfl rfl ⟨(by show 1 + 1 ≤ 1007 + (n + 1); omega), (by show 8 + (2 + 11) + (64) ≤ 22751 + 29 * (n + 1); omega)⟩ hl.1 rfl rfl (Nat.le_of_ble_eq_true rfl) ⟨(Nat.le_of_ble_eq_true rfl), (Nat.le_of_ble_eq_true rfl)⟩ dX12_foldAll_4) (fun y4 hy => ?_)
      obtain ⟨r4, rfl, g_r4, hw⟩ := hy
      refine lv_if_ne (tgt := 24) C.1 C.2.1 dX12_foldAll_7 (by decide) (fun c7 => ?_) (fun c7 => ?_)
      · have hw := hw.1 (z0_ne g_r4 c7)
        exact k_retMv C hr hlk Wd (u := (fresh_2, made_2)) rfl rfl ⟨hw, ⟨(rsI hS.1 (Wd2.2.1 5)), (rsF hS.2 (fun j => Wd2.2.2 3 j))⟩⟩ dX12_foldAll_24
      · have hw := hw.2 (z0_eq g_r4 c7)
        refine lv_aload_n C.1 C.2.1 dX12_foldAll_10 rfl (lv_at hl 0 rfl) ?_
        refine lv_iload_n C.1 C.2.1 dX12_foldAll_11 rfl (lv_at hl 1 rfl) ?_
        refine k_cMv Wd (k_runVM (rest := []) C aks Wd cs_X12_403 (ih_foldOne D h ad ca (sI I 5 made_2) (sF F 3 fresh_2) Wd.2 l2_2 g_l2_2 _ hw l _) rfl rfl ⟨(by show 1007 + n + 1 ≤ 1007 + (n + 1); omega), (by show 8 + (10 + 11) + (22751 + 29 * n) ≤ 22751 + 29 * (n + 1); omega)⟩ hl.1 rfl rfl (Nat.le_of_ble_eq_true rfl) ⟨(Nat.le_of_ble_eq_true rfl), (Nat.le_of_ble_eq_true rfl)⟩ dX12_foldAll_12) (fun u12 H locs hw Wd => ?_)
        obtain ⟨fresh_r12, made_r12⟩ := u12
        dsimp only at hw
        have Wc12 := Wd
        have Wd : wXM D ca s h ad (sI I 5 made_r12) (sF F 3 fresh_r12) H A s.heap locs := wMc Wd rfl rfl ⟨(rsI hS.1 (Wc12.2.1 5)), (rsF hS.2 (fun j => Wc12.2.2 3 j))⟩
        refine lv_aload_n C.1 C.2.1 dX12_foldAll_15 rfl (lv_at hl 0 rfl) ?_
        refine lv_iload_n C.1 C.2.1 dX12_foldAll_16 rfl (lv_at hl 1 rfl) ?_
        refine k_pi (k_runVM (rest := []) C aks Wd cs_X12_104 (mt_behind D h ad ca (sI I 5 made_r12) (sF F 3 fresh_r12) Wd.2 l2_2 g_l2_2 _ hw l _) rfl rfl ⟨(by show 606 + 1 ≤ 1007 + (n + 1); omega), (by show 8 + (3 + 11) + (12908) ≤ 22751 + 29 * (n + 1); omega)⟩ hl.1 rfl rfl (Nat.le_of_ble_eq_true rfl) ⟨(Nat.le_of_ble_eq_true rfl), (Nat.le_of_ble_eq_true rfl)⟩ dX12_foldAll_17) (fun y17 hy => ?_)
        obtain ⟨r17, rfl, g_r17, hw⟩ := hy
        refine lv_istore_n (lv' := [(2, .int (zI r17)), (0, .ref h)]) C.1 C.2.1 dX12_foldAll_20 rfl hl (by decide) rfl (fun ls hl => ?_)
        replace hl := lv_sub hl [1, 0] rfl
        refine lv_goto (tgt := 2) C.1 C.2.1 dX12_foldAll_21 (by decide) ?_
        exact hL2 _ _ _ hw _ _ _ ⟨g_r17, wMc Wd rfl rfl ⟨(rsI hS.1 (Wc12.2.1 5)), (rsF hS.2 (fun j => Wc12.2.2 3 j))⟩, lv_sub hl [0, 1] rfl⟩
    · intro D h ad ca I F hS x0 g_x0 K hw l sz
      refine Met.ofW (cc := cX12_foldOne) (maxL := 10) (ret := none) (by decide) rfl ?_
      intro p e s m args below meth c s₁ B hml hv
      obtain ⟨rfl, aks, rfl, Wd⟩ := k_enter hv
      have C : CallFix p m c cX12_foldOne 10 s _ gG RX12 := ⟨B.exec, B.bytes, hml, findClass_of_methodNamed B.named, fun w h => atoms_spec (ws := Cond.code yX12_foldOne cX12_foldOne 10 none :: gG) B.pre w (List.mem_cons_of_mem _ h)⟩
      have hr := B.returns
      have hlk := B.notSynchronized
      generalize va_A (wM h ad ca I F) s.heap.size = A at Wd ⊢
      replace Wd : wXM D ca s h ad I F s.heap A s.heap [] := ⟨Wd, hS⟩
      refine k_locals (Nat.le_of_ble_eq_true rfl) [(0, .ref h), (1, .int (zI x0))] rfl (fun ls hl => ?_)
      replace hw : wp_foldOne_b (wp_foldAll n) (wp_foldOne n) (F 2) (F 3) (I 4) (I 5) x0 K := hw
      unfold wp_foldOne_b at hw
      refine lv_aload_n C.1 C.2.1 dX12_foldOne_0 rfl (lv_at hl 0 rfl) ?_
      refine k_get (v := .ref (ad 2)) C Wd.1 KX12 0 2 wM0 (by decide) fl_X12_16 rfl dX12_foldOne_1 ?_
      refine lv_iload_n C.1 C.2.1 dX12_foldOne_4 rfl (lv_at hl 1 rfl) ?_
      obtain ⟨a5, hw⟩ := hw
      refine k_ialdM (g := (F 2)) C Wd 3 2 rfl rfl a5 (by decide) dX12_foldOne_5 ?_
      have g5 : rng ((F 2) x0) := rngL (hS.2 2) a5
      refine lv_istore_n (lv' := [(2, .int (zI ((F 2) x0))), (0, .ref h), (1, .int (zI x0))]) C.1 C.2.1 dX12_foldOne_6 rfl hl (by decide) rfl (fun ls hl => ?_)
      replace hl := lv_sub hl [1, 2, 0] rfl
      refine lv_iload_n C.1 C.2.1 dX12_foldOne_7 rfl (lv_at hl 2 rfl) ?_
      refine lv_bipush (v := zI 111) C.1 C.2.1 dX12_foldOne_8 (by decide) ?_
      refine lv_icmp_ne (tgt := 19) C.1 C.2.1 dX12_foldOne_10 (by decide) (fun c10 => ?_) (fun c10 => ?_)
      · have hw := hw.1 (z_ne g5 (show rng 111 from by decide) c10)
        refine lv_aload_n C.1 C.2.1 dX12_foldOne_19 rfl (lv_at hl 0 rfl) ?_
        refine k_get (v := .int (zI (I 5))) C Wd.1 KX12 0 5 wM0 (by decide) fl_X12_117 rfl dX12_foldOne_20 ?_
        refine lv_istore_n (lv' := [(3, .int (zI (I 5))), (0, .ref h), (1, .int (zI x0)), (2, .int (zI ((F 2) x0)))]) C.1 C.2.1 dX12_foldOne_23 rfl hl (by decide) rfl (fun ls hl => ?_)
        replace hl := lv_sub hl [1, 2, 3, 0] rfl
        refine lv_aload_n C.1 C.2.1 dX12_foldOne_24 rfl (lv_at hl 0 rfl) ?_
        refine lv_iload_n C.1 C.2.1 dX12_foldOne_25 rfl (lv_at hl 2 rfl) ?_
        refine k_cMv Wd (k_runVM (rest := []) C aks Wd cs_X12_120 (mt_write D h ad ca I F Wd.2 ((F 2) x0) g5 _ hw l _) rfl rfl ⟨(by show 1 + 1 ≤ 1007 + (n + 1); omega), (by show 8 + (2 + 11) + (64) ≤ 22751 + 29 * (n + 1); omega)⟩ hl.1 rfl rfl (Nat.le_of_ble_eq_true rfl) ⟨(Nat.le_of_ble_eq_true rfl), (Nat.le_of_ble_eq_true rfl)⟩ dX12_foldOne_26) (fun u26 H locs hw Wd => ?_)
        obtain ⟨fresh_r26, made_r26⟩ := u26
        dsimp only at hw
        have Wc26 := Wd
        have Wd : wXM D ca s h ad (sI I 5 made_r26) (sF F 3 fresh_r26) H A s.heap locs := wMc Wd rfl rfl ⟨(rsI hS.1 (Wc26.2.1 5)), (rsF hS.2 (fun j => Wc26.2.2 3 j))⟩
        refine lv_iload_n C.1 C.2.1 dX12_foldOne_29 rfl (lv_at hl 2 rfl) ?_
        refine lv_bipush (v := zI 112) C.1 C.2.1 dX12_foldOne_30 (by decide) ?_
        refine k_cut0 (fun  H locs ls => wp_foldOne_50 (wp_foldAll n) K (F 2) (I 4) (I 5) x0 fresh_r26 made_r26 ∧ wXM D ca s h ad (sI I 5 made_r26) (sF F 3 fresh_r26) H A s.heap locs ∧ lv_has ls 10 [(0, .ref h), (1, .int (zI x0)), (2, .int (zI ((F 2) x0))), (3, .int (zI (I 5)))]) (fun  ls => F0 m 50 ls []) (fun  H locs ls hi => ?_) (fun J50 => ?_)
        · obtain ⟨hw, Wd, hl⟩ := hi
          have Wd50 := Wd
          unfold wp_foldOne_50 at hw
          refine lv_aload_n C.1 C.2.1 dX12_foldOne_50 rfl (lv_at hl 0 rfl) ?_
          refine lv_aload_n C.1 C.2.1 dX12_foldOne_51 rfl (lv_at hl 0 rfl) ?_
          refine k_get (v := .ref (ad 2)) C Wd.1 KX12 0 2 wM0 (by decide) fl_X12_16 rfl dX12_foldOne_52 ?_
          refine lv_iload_n C.1 C.2.1 dX12_foldOne_55 rfl (lv_at hl 1 rfl) ?_
          refine lv_iconst (v := zI 1) C.1 C.2.1 dX12_foldOne_56 (by decide) ?_
          refine k_iadd (v := zI (x0 + 1)) C (zI_iadd _ _) dX12_foldOne_57 ?_
          obtain ⟨a58, hw⟩ := hw
          refine k_ialdM (g := (F 2)) C Wd 3 2 rfl rfl a58 (by decide) dX12_foldOne_58 ?_
          have g58 : rng ((F 2) (x0 + 1)) := rngL (hS.2 2) a58
          refine k_cMv Wd (k_runVM (rest := []) C aks Wd cs_X12_120 (mt_write D h ad ca (sI I 5 made_r26) (sF F 3 fresh_r26) Wd.2 ((F 2) (x0 + 1)) g58 _ hw l _) rfl rfl ⟨(by show 1 + 1 ≤ 1007 + (n + 1); omega), (by show 8 + (2 + 11) + (64) ≤ 22751 + 29 * (n + 1); omega)⟩ hl.1 rfl rfl (Nat.le_of_ble_eq_true rfl) ⟨(Nat.le_of_ble_eq_true rfl), (Nat.le_of_ble_eq_true rfl)⟩ dX12_foldOne_59) (fun u59 H locs hw Wd => ?_)
          obtain ⟨fresh_r59, made_r59⟩ := u59
          dsimp only at hw
          have Wc59 := Wd
          have Wd : wXM D ca s h ad (sI I 5 made_r59) (sF F 3 fresh_r59) H A s.heap locs := wMc Wd rfl rfl ⟨(rsI hS.1 (Wc59.2.1 5)), (rsF hS.2 (fun j => Wc59.2.2 3 j))⟩
          refine lv_aload_n C.1 C.2.1 dX12_foldOne_62 rfl (lv_at hl 0 rfl) ?_
          refine lv_iload_n C.1 C.2.1 dX12_foldOne_63 rfl (lv_at hl 1 rfl) ?_
          refine lv_iconst (v := zI 2) C.1 C.2.1 dX12_foldOne_64 (by decide) ?_
          refine k_iadd (v := zI (x0 + 2)) C (zI_iadd _ _) dX12_foldOne_65 ?_
          obtain ⟨g66_0, hw⟩ := hw
          refine k_cMi Wd (k_runVM (rest := []) C aks Wd cs_X12_400 (mt_folds D h ad ca (sI I 5 made_r59) (sF F 3 fresh_r59) Wd.2 (x0 + 2) g66_0 _ hw l _) rfl rfl ⟨(by show 1005 + 1 ≤ 1007 + (n + 1); omega), (by show 8 + (5 + 11) + (22687) ≤ 22751 + 29 * (n + 1); omega)⟩ hl.1 rfl rfl (Nat.le_of_ble_eq_true rfl) ⟨(Nat.le_of_ble_eq_true rfl), (Nat.le_of_ble_eq_true rfl)⟩ dX12_foldOne_66) (fun r66 u66 H locs g_r66 hw Wd => ?_)
          obtain ⟨fresh_r66, made_r66⟩ := u66
          dsimp only at hw
          have Wc66 := Wd
          have Wd : wXM D ca s h ad (sI I 5 made_r66) (sF F 3 fresh_r66) H A s.heap locs := wMc Wd rfl rfl ⟨(rsI hS.1 (Wc66.2.1 5)), (rsF hS.2 (fun j => Wc66.2.2 3 j))⟩
          refine lv_istore (lv' := [(4, .int (zI r66)), (0, .ref h), (1, .int (zI x0)), (2, .int (zI ((F 2) x0))), (3, .int (zI (I 5)))]) C.1 C.2.1 dX12_foldOne_69 hl (by decide) rfl (fun ls hl => ?_)
          replace hl := lv_sub hl [1, 2, 3, 4, 0] rfl
          refine lv_aload_n C.1 C.2.1 dX12_foldOne_71 rfl (lv_at hl 0 rfl) ?_
          refine lv_aload_n C.1 C.2.1 dX12_foldOne_72 rfl (lv_at hl 0 rfl) ?_
          refine lv_iload_n C.1 C.2.1 dX12_foldOne_73 rfl (lv_at hl 1 rfl) ?_
          refine lv_iconst (v := zI 2) C.1 C.2.1 dX12_foldOne_74 (by decide) ?_
          refine k_iadd (v := zI (x0 + 2)) C (zI_iadd _ _) dX12_foldOne_75 ?_
          refine k_pi (k_runVM (rest := [.ref h]) C aks Wd cs_X12_94 (mt_endOf D h ad ca (sI I 5 made_r66) (sF F 3 fresh_r66) Wd.2 (x0 + 2) g66_0 _ hw l _) rfl rfl ⟨(by show 503 + 1 ≤ 1007 + (n + 1); omega), (by show 8 + (2 + 11) + (10626) ≤ 22751 + 29 * (n + 1); omega)⟩ hl.1 rfl rfl (Nat.le_of_ble_eq_true rfl) ⟨(Nat.le_of_ble_eq_true rfl), (Nat.le_of_ble_eq_true rfl)⟩ dX12_foldOne_76) (fun y76 hy => ?_)
          obtain ⟨r76, rfl, g_r76, hw⟩ := hy
          refine k_cMi Wd (k_runVM (rest := []) C aks Wd cs_X12_400 (mt_folds D h ad ca (sI I 5 made_r66) (sF F 3 fresh_r66) Wd.2 r76 g_r76 _ hw l _) rfl rfl ⟨(by show 1005 + 1 ≤ 1007 + (n + 1); omega), (by show 8 + (5 + 11) + (22687) ≤ 22751 + 29 * (n + 1); omega)⟩ hl.1 rfl rfl (Nat.le_of_ble_eq_true rfl) ⟨(Nat.le_of_ble_eq_true rfl), (Nat.le_of_ble_eq_true rfl)⟩ dX12_foldOne_79) (fun r79 u79 H locs g_r79 hw Wd => ?_)
          obtain ⟨fresh_r79, made_r79⟩ := u79
          dsimp only at hw
          have Wc79 := Wd
          have Wd : wXM D ca s h ad (sI I 5 made_r79) (sF F 3 fresh_r79) H A s.heap locs := wMc Wd rfl rfl ⟨(rsI hS.1 (Wc79.2.1 5)), (rsF hS.2 (fun j => Wc79.2.2 3 j))⟩
          refine lv_istore (lv' := [(5, .int (zI r79)), (0, .ref h), (1, .int (zI x0)), (2, .int (zI ((F 2) x0))), (3, .int (zI (I 5))), (4, .int (zI r66))]) C.1 C.2.1 dX12_foldOne_82 hl (by decide) rfl (fun ls hl => ?_)
          replace hl := lv_sub hl [1, 2, 3, 4, 5, 0] rfl
          refine lv_aload_n C.1 C.2.1 dX12_foldOne_84 rfl (lv_at hl 0 rfl) ?_
          refine lv_aload_n C.1 C.2.1 dX12_foldOne_85 rfl (lv_at hl 0 rfl) ?_
          refine lv_iload_n C.1 C.2.1 dX12_foldOne_86 rfl (lv_at hl 1 rfl) ?_
          refine k_pi (k_runVM (rest := [.ref h]) C aks Wd cs_X12_101 (mt_body D h ad ca (sI I 5 made_r79) (sF F 3 fresh_r79) Wd.2 x0 g_x0 _ hw l _) rfl rfl ⟨(by show 504 + 1 ≤ 1007 + (n + 1); omega), (by show 8 + (2 + 11) + (10647) ≤ 22751 + 29 * (n + 1); omega)⟩ hl.1 rfl rfl (Nat.le_of_ble_eq_true rfl) ⟨(Nat.le_of_ble_eq_true rfl), (Nat.le_of_ble_eq_true rfl)⟩ dX12_foldOne_87) (fun y87 hy => ?_)
          obtain ⟨r87, rfl, g_r87, hw⟩ := hy
          refine k_pi (k_runVM (rest := []) C aks Wd cs_X12_309 (mt_close D h ad ca (sI I 5 made_r79) (sF F 3 fresh_r79) Wd.2 r87 g_r87 _ hw l _) rfl rfl ⟨(by show 607 + 1 ≤ 1007 + (n + 1); omega), (by show 8 + (3 + 11) + (12930) ≤ 22751 + 29 * (n + 1); omega)⟩ hl.1 rfl rfl (Nat.le_of_ble_eq_true rfl) ⟨(Nat.le_of_ble_eq_true rfl), (Nat.le_of_ble_eq_true rfl)⟩ dX12_foldOne_90) (fun y90 hy => ?_)
          obtain ⟨r90, rfl, g_r90, hw⟩ := hy
          refine lv_istore (lv' := [(6, .int (zI r90)), (0, .ref h), (1, .int (zI x0)), (2, .int (zI ((F 2) x0))), (3, .int (zI (I 5))), (4, .int (zI r66)), (5, .int (zI r79))]) C.1 C.2.1 dX12_foldOne_93 hl (by decide) rfl (fun ls hl => ?_)
          replace hl := lv_sub hl [1, 2, 3, 4, 5, 6, 0] rfl
          refine lv_iload C.1 C.2.1 dX12_foldOne_95 (lv_at hl 4 rfl) ?_
          refine k_cut0 (fun  H locs ls => wp_foldOne_265 (wp_foldAll n) K (F 2) (I 4) x0 fresh_r79 made_r79 r90 ∧ wXM D ca s h ad (sI I 5 made_r79) (sF F 3 fresh_r79) H A s.heap locs ∧ lv_has ls 10 [(0, .ref h), (1, .int (zI x0)), (6, .int (zI r90))]) (fun  ls => F0 m 265 ls []) (fun  H locs ls hi => ?_) (fun J265 => ?_)
          · obtain ⟨hw, Wd, hl⟩ := hi
            have Wd265 := Wd
            unfold wp_foldOne_265 at hw
            refine lv_aload_n C.1 C.2.1 dX12_foldOne_265 rfl (lv_at hl 0 rfl) ?_
            refine lv_aload_n C.1 C.2.1 dX12_foldOne_266 rfl (lv_at hl 0 rfl) ?_
            refine lv_iload_n C.1 C.2.1 dX12_foldOne_267 rfl (lv_at hl 1 rfl) ?_
            refine k_pi (k_runVM (rest := [.ref h]) C aks Wd cs_X12_101 (mt_body D h ad ca (sI I 5 made_r79) (sF F 3 fresh_r79) Wd.2 x0 g_x0 _ hw l _) rfl rfl ⟨(by show 504 + 1 ≤ 1007 + (n + 1); omega), (by show 8 + (2 + 11) + (10647) ≤ 22751 + 29 * (n + 1); omega)⟩ hl.1 rfl rfl (Nat.le_of_ble_eq_true rfl) ⟨(Nat.le_of_ble_eq_true rfl), (Nat.le_of_ble_eq_true rfl)⟩ dX12_foldOne_268) (fun y268 hy => ?_)
            obtain ⟨r268, rfl, g_r268, hw⟩ := hy
            refine k_cMv Wd (k_runVM (rest := []) C aks Wd cs_X12_406 (ih_foldAll D h ad ca (sI I 5 made_r79) (sF F 3 fresh_r79) Wd.2 r268 g_r268 _ hw l _) rfl rfl ⟨(by show 1007 + n + 1 ≤ 1007 + (n + 1); omega), (by show 8 + (3 + 11) + (22751 + 29 * n) ≤ 22751 + 29 * (n + 1); omega)⟩ hl.1 rfl rfl (Nat.le_of_ble_eq_true rfl) ⟨(Nat.le_of_ble_eq_true rfl), (Nat.le_of_ble_eq_true rfl)⟩ dX12_foldOne_271) (fun u271 H locs hw Wd => ?_)
            obtain ⟨fresh_r271, made_r271⟩ := u271
            dsimp only at hw
            have Wc271 := Wd
            have Wd : wXM D ca s h ad (sI I 5 made_r271) (sF F 3 fresh_r271) H A s.heap locs := wMc Wd rfl rfl ⟨(rsI hS.1 (Wc271.2.1 5)), (rsF hS.2 (fun j => Wc271.2.2 3 j))⟩
            refine lv_aload_n C.1 C.2.1 dX12_foldOne_274 rfl (lv_at hl 0 rfl) ?_
            refine k_get (v := .ref (ad 2)) C Wd.1 KX12 0 2 wM0 (by decide) fl_X12_16 rfl dX12_foldOne_275 ?_
            refine lv_iload C.1 C.2.1 dX12_foldOne_278 (lv_at hl 2 rfl) ?_
            obtain ⟨a280, hw⟩ := hw
            refine k_ialdM (g := (F 2)) C Wd 3 2 rfl rfl a280 (by decide) dX12_foldOne_280 ?_
            have g280 : rng ((F 2) r90) := rngL (hS.2 2) a280
            refine lv_bipush (v := zI 113) C.1 C.2.1 dX12_foldOne_281 (by decide) ?_
            refine k_cut2 (fun (fresh_300 : Int → Int) (made_300 : Int) H locs ls => wp_foldOne_300 K fresh_300 made_300 ∧ wXM D ca s h ad (sI I 5 made_300) (sF F 3 fresh_300) H A s.heap locs ∧ lv_has ls 10 [(0, .ref h)]) (fun (fresh_300 : Int → Int) (made_300 : Int) ls => F0 m 300 ls []) (fun fresh_300 made_300 H locs ls hi => ?_) (fun J300 => ?_)
            · obtain ⟨hw, Wd, hl⟩ := hi
              have Wd300 := Wd
              unfold wp_foldOne_300 at hw
              refine lv_aload_n C.1 C.2.1 dX12_foldOne_300 rfl (lv_at hl 0 rfl) ?_
              refine lv_bipush (v := zI 114) C.1 C.2.1 dX12_foldOne_301 (by decide) ?_
              refine k_cMv Wd (k_runVM (rest := []) C aks Wd cs_X12_120 (mt_write D h ad ca (sI I 5 made_300) (sF F 3 fresh_300) Wd.2 114 (show rng 114 from by decide) _ hw l _) rfl rfl ⟨(by show 1 + 1 ≤ 1007 + (n + 1); omega), (by show 8 + (2 + 11) + (64) ≤ 22751 + 29 * (n + 1); omega)⟩ hl.1 rfl rfl (Nat.le_of_ble_eq_true rfl) ⟨(Nat.le_of_ble_eq_true rfl), (Nat.le_of_ble_eq_true rfl)⟩ dX12_foldOne_303) (fun u303 H locs hw Wd => ?_)
              obtain ⟨fresh_r303, made_r303⟩ := u303
              dsimp only at hw
              have Wc303 := Wd
              have Wd : wXM D ca s h ad (sI I 5 made_r303) (sF F 3 fresh_r303) H A s.heap locs := wMc Wd rfl rfl ⟨(rsI hS.1 (Wc303.2.1 5)), (rsF hS.2 (fun j => Wc303.2.2 3 j))⟩
              exact k_retMv C hr hlk Wd (u := (fresh_r303, made_r303)) rfl rfl ⟨hw, ⟨(rsI hS.1 (Wc303.2.1 5)), (rsF hS.2 (fun j => Wc303.2.2 3 j))⟩⟩ dX12_foldOne_306
            refine lv_icmp_ne (tgt := 300) C.1 C.2.1 dX12_foldOne_283 (by decide) (fun c283 => ?_) (fun c283 => ?_)
            · have hw := hw.1 (z_ne g280 (show rng 113 from by decide) c283)
              exact J300 fresh_r271 made_r271 _ _ _ ⟨hw, wMc Wd rfl rfl ⟨(rsI hS.1 (Wc271.2.1 5)), (rsF hS.2 (fun j => Wc271.2.2 3 j))⟩, lv_sub hl [0] rfl⟩
            · have hw := hw.2 (z_eq g280 (show rng 113 from by decide) c283)
              refine lv_aload_n C.1 C.2.1 dX12_foldOne_286 rfl (lv_at hl 0 rfl) ?_
              refine lv_bipush (v := zI 113) C.1 C.2.1 dX12_foldOne_287 (by decide) ?_
              refine k_cMv Wd (k_runVM (rest := []) C aks Wd cs_X12_120 (mt_write D h ad ca (sI I 5 made_r271) (sF F 3 fresh_r271) Wd.2 113 (show rng 113 from by decide) _ hw l _) rfl rfl ⟨(by show 1 + 1 ≤ 1007 + (n + 1); omega), (by show 8 + (2 + 11) + (64) ≤ 22751 + 29 * (n + 1); omega)⟩ hl.1 rfl rfl (Nat.le_of_ble_eq_true rfl) ⟨(Nat.le_of_ble_eq_true rfl), (Nat.le_of_ble_eq_true rfl)⟩ dX12_foldOne_289) (fun u289 H locs hw Wd => ?_)
              obtain ⟨fresh_r289, made_r289⟩ := u289
              dsimp only at hw
              have Wc289 := Wd
              have Wd : wXM D ca s h ad (sI I 5 made_r289) (sF F 3 fresh_r289) H A s.heap locs := wMc Wd rfl rfl ⟨(rsI hS.1 (Wc289.2.1 5)), (rsF hS.2 (fun j => Wc289.2.2 3 j))⟩
              refine lv_aload_n C.1 C.2.1 dX12_foldOne_292 rfl (lv_at hl 0 rfl) ?_
              refine lv_iload C.1 C.2.1 dX12_foldOne_293 (lv_at hl 2 rfl) ?_
              refine lv_iconst (v := zI 1) C.1 C.2.1 dX12_foldOne_295 (by decide) ?_
              refine k_iadd (v := zI (r90 + 1)) C (zI_iadd _ _) dX12_foldOne_296 ?_
              obtain ⟨g297_0, hw⟩ := hw
              refine k_cMv Wd (k_runVM (rest := []) C aks Wd cs_X12_406 (ih_foldAll D h ad ca (sI I 5 made_r289) (sF F 3 fresh_r289) Wd.2 (r90 + 1) g297_0 _ hw l _) rfl rfl ⟨(by show 1007 + n + 1 ≤ 1007 + (n + 1); omega), (by show 8 + (3 + 11) + (22751 + 29 * n) ≤ 22751 + 29 * (n + 1); omega)⟩ hl.1 rfl rfl (Nat.le_of_ble_eq_true rfl) ⟨(Nat.le_of_ble_eq_true rfl), (Nat.le_of_ble_eq_true rfl)⟩ dX12_foldOne_297) (fun u297 H locs hw Wd => ?_)
              obtain ⟨fresh_r297, made_r297⟩ := u297
              dsimp only at hw
              have Wc297 := Wd
              have Wd : wXM D ca s h ad (sI I 5 made_r297) (sF F 3 fresh_r297) H A s.heap locs := wMc Wd rfl rfl ⟨(rsI hS.1 (Wc297.2.1 5)), (rsF hS.2 (fun j => Wc297.2.2 3 j))⟩
              exact J300 fresh_r297 made_r297 _ _ _ ⟨hw, wMc Wd rfl rfl ⟨(rsI hS.1 (Wc297.2.1 5)), (rsF hS.2 (fun j => Wc297.2.2 3 j))⟩, lv_sub hl [0] rfl⟩
          refine lv_if_eq (tgt := 265) C.1 C.2.1 dX12_foldOne_97 (by decide) (fun c97 => ?_) (fun c97 => ?_)
          · have hw := hw.1 (z0_eq g_r66 c97)
            exact J265  _ _ _ ⟨hw, wMc Wd rfl rfl ⟨(rsI hS.1 (Wc79.2.1 5)), (rsF hS.2 (fun j => Wc79.2.2 3 j))⟩, lv_sub hl [0, 1, 6] rfl⟩
          · have hw := hw.2 (z0_ne g_r66 c97)
            refine lv_iload C.1 C.2.1 dX12_foldOne_100 (lv_at hl 5 rfl) ?_
            refine lv_if_eq (tgt := 265) C.1 C.2.1 dX12_foldOne_102 (by decide) (fun c102 => ?_) (fun c102 => ?_)
            · have hw := hw.1 (z0_eq g_r79 c102)
              exact J265  _ _ _ ⟨hw, wMc Wd rfl rfl ⟨(rsI hS.1 (Wc79.2.1 5)), (rsF hS.2 (fun j => Wc79.2.2 3 j))⟩, lv_sub hl [0, 1, 6] rfl⟩
            · have hw := hw.2 (z0_ne g_r79 c102)
              refine lv_aload_n C.1 C.2.1 dX12_foldOne_105 rfl (lv_at hl 0 rfl) ?_
              refine k_get (v := .ref (ad 3)) C Wd.1 KX12 0 3 wM0 (by decide) fl_X12_19 rfl dX12_foldOne_106 ?_
              refine lv_iload_n C.1 C.2.1 dX12_foldOne_109 rfl (lv_at hl 3 rfl) ?_
              refine lv_iconst (v := zI 2) C.1 C.2.1 dX12_foldOne_110 (by decide) ?_
              refine k_iadd (v := zI ((I 5) + 2)) C (zI_iadd _ _) dX12_foldOne_111 ?_
              obtain ⟨a112, hw⟩ := hw
              refine k_ialdM (g := fresh_r79) C Wd 4 3 rfl rfl a112 (by decide) dX12_foldOne_112 ?_
              have g112 : rng (fresh_r79 ((I 5) + 2)) := rngL (fun j => Wc79.2.2 3 j) a112
              refine lv_istore (lv' := [(7, .int (zI (fresh_r79 ((I 5) + 2)))), (0, .ref h), (1, .int (zI x0)), (2, .int (zI ((F 2) x0))), (3, .int (zI (I 5))), (4, .int (zI r66)), (5, .int (zI r79)), (6, .int (zI r90))]) C.1 C.2.1 dX12_foldOne_113 hl (by decide) rfl (fun ls hl => ?_)
              replace hl := lv_sub hl [1, 2, 3, 4, 5, 6, 7, 0] rfl
              refine lv_aload_n C.1 C.2.1 dX12_foldOne_115 rfl (lv_at hl 0 rfl) ?_
              refine k_get (v := .ref (ad 3)) C Wd.1 KX12 0 3 wM0 (by decide) fl_X12_19 rfl dX12_foldOne_116 ?_
              refine lv_iload_n C.1 C.2.1 dX12_foldOne_119 rfl (lv_at hl 3 rfl) ?_
              refine lv_iconst (v := zI 3) C.1 C.2.1 dX12_foldOne_120 (by decide) ?_
              refine k_iadd (v := zI ((I 5) + 3)) C (zI_iadd _ _) dX12_foldOne_121 ?_
              obtain ⟨a122, hw⟩ := hw
              refine k_ialdM (g := fresh_r79) C Wd 4 3 rfl rfl a122 (by decide) dX12_foldOne_122 ?_
              have g122 : rng (fresh_r79 ((I 5) + 3)) := rngL (fun j => Wc79.2.2 3 j) a122
              refine lv_istore (lv' := [(8, .int (zI (fresh_r79 ((I 5) + 3)))), (0, .ref h), (1, .int (zI x0)), (2, .int (zI ((F 2) x0))), (3, .int (zI (I 5))), (4, .int (zI r66)), (5, .int (zI r79)), (6, .int (zI r90)), (7, .int (zI (fresh_r79 ((I 5) + 2))))]) C.1 C.2.1 dX12_foldOne_123 hl (by decide) rfl (fun ls hl => ?_)
              replace hl := lv_sub hl [1, 2, 3, 4, 5, 6, 7, 8, 0] rfl
              refine lv_aload_n C.1 C.2.1 dX12_foldOne_125 rfl (lv_at hl 0 rfl) ?_
              refine k_get (v := .ref (ad 2)) C Wd.1 KX12 0 2 wM0 (by decide) fl_X12_16 rfl dX12_foldOne_126 ?_
              refine lv_iload_n C.1 C.2.1 dX12_foldOne_129 rfl (lv_at hl 1 rfl) ?_
              refine lv_iconst (v := zI 1) C.1 C.2.1 dX12_foldOne_130 (by decide) ?_
              refine k_iadd (v := zI (x0 + 1)) C (zI_iadd _ _) dX12_foldOne_131 ?_
              obtain ⟨a132, hw⟩ := hw
              refine k_ialdM (g := (F 2)) C Wd 3 2 rfl rfl a132 (by decide) dX12_foldOne_132 ?_
              refine lv_sipush (v := zI 130) C.1 C.2.1 dX12_foldOne_133 (zS (by decide) (by decide)) ?_
              refine k_cut1 (fun (s0_195 : Int) H locs ls => rng s0_195 ∧ wp_foldOne_195 (wp_foldAll n) K (F 2) (I 4) (I 5) x0 fresh_r79 made_r79 r90 s0_195 ∧ wXM D ca s h ad (sI I 5 made_r79) (sF F 3 fresh_r79) H A s.heap locs ∧ lv_has ls 10 [(0, .ref h), (1, .int (zI x0)), (2, .int (zI ((F 2) x0))), (3, .int (zI (I 5))), (6, .int (zI r90))]) (fun (s0_195 : Int) ls => F0 m 195 ls [.int (zI s0_195)]) (fun s0_195 H locs ls hi => ?_) (fun J195 => ?_)
              · obtain ⟨g_s0_195, hw, Wd, hl⟩ := hi
                have Wd195 := Wd
                unfold wp_foldOne_195 at hw
                refine lv_istore (lv' := [(9, .int (zI s0_195)), (0, .ref h), (1, .int (zI x0)), (2, .int (zI ((F 2) x0))), (3, .int (zI (I 5))), (6, .int (zI r90))]) C.1 C.2.1 dX12_foldOne_195 hl (by decide) rfl (fun ls hl => ?_)
                replace hl := lv_sub hl [1, 2, 3, 4, 5, 0] rfl
                refine lv_iload_n C.1 C.2.1 dX12_foldOne_197 rfl (lv_at hl 2 rfl) ?_
                refine lv_bipush (v := zI 112) C.1 C.2.1 dX12_foldOne_198 (by decide) ?_
                refine k_cut0 (fun  H locs ls => wp_foldOne_208 (wp_foldAll n) K (F 2) (I 4) (I 5) x0 fresh_r79 r90 s0_195 ∧ wXM D ca s h ad (sI I 5 made_r79) (sF F 3 fresh_r79) H A s.heap locs ∧ lv_has ls 10 [(0, .ref h), (1, .int (zI x0)), (2, .int (zI ((F 2) x0))), (3, .int (zI (I 5))), (6, .int (zI r90)), (9, .int (zI s0_195))]) (fun  ls => F0 m 208 ls []) (fun  H locs ls hi => ?_) (fun J208 => ?_)
                · obtain ⟨hw, Wd, hl⟩ := hi
                  have Wd208 := Wd
                  unfold wp_foldOne_208 at hw
                  refine lv_aload_n C.1 C.2.1 dX12_foldOne_208 rfl (lv_at hl 0 rfl) ?_
                  refine lv_iload_n C.1 C.2.1 dX12_foldOne_209 rfl (lv_at hl 3 rfl) ?_
                  refine k_putM C Wd 5 (sI I 5 (I 5)) (by decide) fl_X12_117 rfl rfl rfl rfl (rsI hS.1 (hS.1 5)) dX12_foldOne_210 (fun H locs Wd => ?_)
                  refine lv_iload_n C.1 C.2.1 dX12_foldOne_213 rfl (lv_at hl 2 rfl) ?_
                  refine lv_bipush (v := zI 112) C.1 C.2.1 dX12_foldOne_214 (by decide) ?_
                  refine k_cut2 (fun (fresh_233 : Int → Int) (made_233 : Int) H locs ls => wp_foldOne_233 (wp_foldAll n) K (F 2) (I 4) x0 r90 s0_195 fresh_233 made_233 ∧ wXM D ca s h ad (sI I 5 made_233) (sF F 3 fresh_233) H A s.heap locs ∧ lv_has ls 10 [(0, .ref h), (2, .int (zI ((F 2) x0))), (6, .int (zI r90)), (9, .int (zI s0_195))]) (fun (fresh_233 : Int → Int) (made_233 : Int) ls => F0 m 233 ls []) (fun fresh_233 made_233 H locs ls hi => ?_) (fun J233 => ?_)
                  · obtain ⟨hw, Wd, hl⟩ := hi
                    have Wd233 := Wd
                    unfold wp_foldOne_233 at hw
                    refine lv_iload_n C.1 C.2.1 dX12_foldOne_233 rfl (lv_at hl 1 rfl) ?_
                    refine lv_bipush (v := zI 112) C.1 C.2.1 dX12_foldOne_234 (by decide) ?_
                    refine lv_icmp_ne (tgt := 264) C.1 C.2.1 dX12_foldOne_236 (by decide) (fun c236 => ?_) (fun c236 => ?_)
                    · have hw := hw.1 (z_ne g5 (show rng 112 from by decide) c236)
                      exact k_retMv C hr hlk Wd (u := (fresh_233, made_233)) rfl rfl ⟨hw, ⟨(rsI hS.1 (Wd233.2.1 5)), (rsF hS.2 (fun j => Wd233.2.2 3 j))⟩⟩ dX12_foldOne_264
                    · have hw := hw.2 (z_eq g5 (show rng 112 from by decide) c236)
                      refine lv_iload C.1 C.2.1 dX12_foldOne_239 (lv_at hl 3 rfl) ?_
                      refine lv_if_ne (tgt := 264) C.1 C.2.1 dX12_foldOne_241 (by decide) (fun c241 => ?_) (fun c241 => ?_)
                      · have hw := hw.1 (z0_ne g_s0_195 c241)
                        exact k_retMv C hr hlk Wd (u := (fresh_233, made_233)) rfl rfl ⟨hw, ⟨(rsI hS.1 (Wd233.2.1 5)), (rsF hS.2 (fun j => Wd233.2.2 3 j))⟩⟩ dX12_foldOne_264
                      · have hw := hw.2 (z0_eq g_s0_195 c241)
                        refine lv_aload_n C.1 C.2.1 dX12_foldOne_244 rfl (lv_at hl 0 rfl) ?_
                        refine k_get (v := .ref (ad 2)) C Wd.1 KX12 0 2 wM0 (by decide) fl_X12_16 rfl dX12_foldOne_245 ?_
                        refine lv_iload C.1 C.2.1 dX12_foldOne_248 (lv_at hl 2 rfl) ?_
                        obtain ⟨a250, hw⟩ := hw
                        refine k_ialdM (g := (F 2)) C Wd 3 2 rfl rfl a250 (by decide) dX12_foldOne_250 ?_
                        have g250 : rng ((F 2) r90) := rngL (hS.2 2) a250
                        refine lv_bipush (v := zI 113) C.1 C.2.1 dX12_foldOne_251 (by decide) ?_
                        refine lv_icmp_ne (tgt := 264) C.1 C.2.1 dX12_foldOne_253 (by decide) (fun c253 => ?_) (fun c253 => ?_)
                        · have hw := hw.1 (z_ne g250 (show rng 113 from by decide) c253)
                          exact k_retMv C hr hlk Wd (u := (fresh_233, made_233)) rfl rfl ⟨hw, ⟨(rsI hS.1 (Wd233.2.1 5)), (rsF hS.2 (fun j => Wd233.2.2 3 j))⟩⟩ dX12_foldOne_264
                        · have hw := hw.2 (z_eq g250 (show rng 113 from by decide) c253)
                          refine lv_aload_n C.1 C.2.1 dX12_foldOne_256 rfl (lv_at hl 0 rfl) ?_
                          refine lv_iload C.1 C.2.1 dX12_foldOne_257 (lv_at hl 2 rfl) ?_
                          refine lv_iconst (v := zI 1) C.1 C.2.1 dX12_foldOne_259 (by decide) ?_
                          refine k_iadd (v := zI (r90 + 1)) C (zI_iadd _ _) dX12_foldOne_260 ?_
                          obtain ⟨g261_0, hw⟩ := hw
                          refine k_cMv Wd (k_runVM (rest := []) C aks Wd cs_X12_406 (ih_foldAll D h ad ca (sI I 5 made_233) (sF F 3 fresh_233) Wd.2 (r90 + 1) g261_0 _ hw l _) rfl rfl ⟨(by show 1007 + n + 1 ≤ 1007 + (n + 1); omega), (by show 8 + (3 + 11) + (22751 + 29 * n) ≤ 22751 + 29 * (n + 1); omega)⟩ hl.1 rfl rfl (Nat.le_of_ble_eq_true rfl) ⟨(Nat.le_of_ble_eq_true rfl), (Nat.le_of_ble_eq_true rfl)⟩ dX12_foldOne_261) (fun u261 H locs hw Wd => ?_)
                          obtain ⟨fresh_r261, made_r261⟩ := u261
                          dsimp only at hw
                          have Wc261 := Wd
                          have Wd : wXM D ca s h ad (sI I 5 made_r261) (sF F 3 fresh_r261) H A s.heap locs := wMc Wd rfl rfl ⟨(rsI hS.1 (Wc261.2.1 5)), (rsF hS.2 (fun j => Wc261.2.2 3 j))⟩
                          exact k_retMv C hr hlk Wd (u := (fresh_r261, made_r261)) rfl rfl ⟨hw, ⟨(rsI hS.1 (Wc261.2.1 5)), (rsF hS.2 (fun j => Wc261.2.2 3 j))⟩⟩ dX12_foldOne_264
                  refine lv_icmp_ne (tgt := 233) C.1 C.2.1 dX12_foldOne_216 (by decide) (fun c216 => ?_) (fun c216 => ?_)
                  · have hw := hw.1 (z_ne g5 (show rng 112 from by decide) c216)
                    exact J233 fresh_r79 (I 5) _ _ _ ⟨hw, wMc Wd rfl rfl ⟨(rsI hS.1 (hS.1 5)), (rsF hS.2 (fun j => Wc79.2.2 3 j))⟩, lv_sub hl [0, 2, 4, 5] rfl⟩
                  · have hw := hw.2 (z_eq g5 (show rng 112 from by decide) c216)
                    refine lv_iload C.1 C.2.1 dX12_foldOne_219 (lv_at hl 5 rfl) ?_
                    refine lv_if_eq (tgt := 233) C.1 C.2.1 dX12_foldOne_221 (by decide) (fun c221 => ?_) (fun c221 => ?_)
                    · have hw := hw.1 (z0_eq g_s0_195 c221)
                      exact J233 fresh_r79 (I 5) _ _ _ ⟨hw, wMc Wd rfl rfl ⟨(rsI hS.1 (hS.1 5)), (rsF hS.2 (fun j => Wc79.2.2 3 j))⟩, lv_sub hl [0, 2, 4, 5] rfl⟩
                    · have hw := hw.2 (z0_ne g_s0_195 c221)
                      refine lv_aload_n C.1 C.2.1 dX12_foldOne_224 rfl (lv_at hl 0 rfl) ?_
                      refine lv_aload_n C.1 C.2.1 dX12_foldOne_225 rfl (lv_at hl 0 rfl) ?_
                      refine lv_iload_n C.1 C.2.1 dX12_foldOne_226 rfl (lv_at hl 1 rfl) ?_
                      refine k_pi (k_runVM (rest := [.ref h]) C aks Wd cs_X12_101 (mt_body D h ad ca (sI I 5 (I 5)) (sF F 3 fresh_r79) Wd.2 x0 g_x0 _ hw l _) rfl rfl ⟨(by show 504 + 1 ≤ 1007 + (n + 1); omega), (by show 8 + (2 + 11) + (10647) ≤ 22751 + 29 * (n + 1); omega)⟩ hl.1 rfl rfl (Nat.le_of_ble_eq_true rfl) ⟨(Nat.le_of_ble_eq_true rfl), (Nat.le_of_ble_eq_true rfl)⟩ dX12_foldOne_227) (fun y227 hy => ?_)
                      obtain ⟨r227, rfl, g_r227, hw⟩ := hy
                      refine k_cMv Wd (k_runVM (rest := []) C aks Wd cs_X12_406 (ih_foldAll D h ad ca (sI I 5 (I 5)) (sF F 3 fresh_r79) Wd.2 r227 g_r227 _ hw l _) rfl rfl ⟨(by show 1007 + n + 1 ≤ 1007 + (n + 1); omega), (by show 8 + (3 + 11) + (22751 + 29 * n) ≤ 22751 + 29 * (n + 1); omega)⟩ hl.1 rfl rfl (Nat.le_of_ble_eq_true rfl) ⟨(Nat.le_of_ble_eq_true rfl), (Nat.le_of_ble_eq_true rfl)⟩ dX12_foldOne_230) (fun u230 H locs hw Wd => ?_)
                      obtain ⟨fresh_r230, made_r230⟩ := u230
                      dsimp only at hw
                      have Wc230 := Wd
                      have Wd : wXM D ca s h ad (sI I 5 made_r230) (sF F 3 fresh_r230) H A s.heap locs := wMc Wd rfl rfl ⟨(rsI hS.1 (Wc230.2.1 5)), (rsF hS.2 (fun j => Wc230.2.2 3 j))⟩
                      exact J233 fresh_r230 made_r230 _ _ _ ⟨hw, wMc Wd rfl rfl ⟨(rsI hS.1 (Wc230.2.1 5)), (rsF hS.2 (fun j => Wc230.2.2 3 j))⟩, lv_sub hl [0, 2, 4, 5] rfl⟩
                refine lv_icmp_eq (tgt := 208) C.1 C.2.1 dX12_foldOne_200 (by decide) (fun c200 => ?_) (fun c200 => ?_)
                · have hw := hw.1 (z_eq g5 (show rng 112 from by decide) c200)
                  exact J208  _ _ _ ⟨hw, wMc Wd rfl rfl ⟨(rsI hS.1 (Wc79.2.1 5)), (rsF hS.2 (fun j => Wc79.2.2 3 j))⟩, lv_sub hl [0, 1, 2, 3, 4, 5] rfl⟩
                · have hw := hw.2 (z_ne g5 (show rng 112 from by decide) c200)
                  refine lv_iload C.1 C.2.1 dX12_foldOne_203 (lv_at hl 5 rfl) ?_
                  refine lv_if_ne (tgt := 265) C.1 C.2.1 dX12_foldOne_205 (by decide) (fun c205 => ?_) (fun c205 => ?_)
                  · have hw := hw.1 (z0_ne g_s0_195 c205)
                    exact J265  _ _ _ ⟨hw, wMc Wd rfl rfl ⟨(rsI hS.1 (Wc79.2.1 5)), (rsF hS.2 (fun j => Wc79.2.2 3 j))⟩, lv_sub hl [0, 1, 4] rfl⟩
                  · have hw := hw.2 (z0_eq g_s0_195 c205)
                    exact J208  _ _ _ ⟨hw, wMc Wd rfl rfl ⟨(rsI hS.1 (Wc79.2.1 5)), (rsF hS.2 (fun j => Wc79.2.2 3 j))⟩, lv_sub hl [0, 1, 2, 3, 4, 5] rfl⟩
              refine lv_icmp_ne (tgt := 154) C.1 C.2.1 dX12_foldOne_136 (by decide) (fun c136 => ?_) (fun c136 => ?_)
              · have hw := hw.1 (z_ne g58 (show rng 130 from by decide) c136)
                refine lv_aload_n C.1 C.2.1 dX12_foldOne_154 rfl (lv_at hl 0 rfl) ?_
                refine k_get (v := .ref (ad 2)) C Wd.1 KX12 0 2 wM0 (by decide) fl_X12_16 rfl dX12_foldOne_155 ?_
                refine lv_iload_n C.1 C.2.1 dX12_foldOne_158 rfl (lv_at hl 1 rfl) ?_
                refine lv_iconst (v := zI 1) C.1 C.2.1 dX12_foldOne_159 (by decide) ?_
                refine k_iadd (v := zI (x0 + 1)) C (zI_iadd _ _) dX12_foldOne_160 ?_
                obtain ⟨a161, hw⟩ := hw
                refine k_ialdM (g := (F 2)) C Wd 3 2 rfl rfl a161 (by decide) dX12_foldOne_161 ?_
                refine lv_sipush (v := zI 131) C.1 C.2.1 dX12_foldOne_162 (zS (by decide) (by decide)) ?_
                refine lv_icmp_ne (tgt := 183) C.1 C.2.1 dX12_foldOne_165 (by decide) (fun c165 => ?_) (fun c165 => ?_)
                · have hw := hw.1 (z_ne g58 (show rng 131 from by decide) c165)
                  refine lv_iload C.1 C.2.1 dX12_foldOne_183 (lv_at hl 7 rfl) ?_
                  refine lv_iload C.1 C.2.1 dX12_foldOne_185 (lv_at hl 8 rfl) ?_
                  refine lv_icmp_le (tgt := 194) C.1 C.2.1 dX12_foldOne_187 (by decide) (fun c187 => ?_) (fun c187 => ?_)
                  · have hw := hw.1 (z_le g112 g122 c187)
                    refine lv_iconst (v := zI 0) C.1 C.2.1 dX12_foldOne_194 (by decide) ?_
                    exact J195 0 _ _ _ ⟨(show rng 0 from by decide), hw, wMc Wd rfl rfl ⟨(rsI hS.1 (Wc79.2.1 5)), (rsF hS.2 (fun j => Wc79.2.2 3 j))⟩, lv_sub hl [0, 1, 2, 3, 6] rfl⟩
                  · have hw := hw.2 (z_nle g112 g122 c187)
                    refine lv_iconst (v := zI 1) C.1 C.2.1 dX12_foldOne_190 (by decide) ?_
                    refine lv_goto (tgt := 195) C.1 C.2.1 dX12_foldOne_191 (by decide) ?_
                    exact J195 1 _ _ _ ⟨(show rng 1 from by decide), hw, wMc Wd rfl rfl ⟨(rsI hS.1 (Wc79.2.1 5)), (rsF hS.2 (fun j => Wc79.2.2 3 j))⟩, lv_sub hl [0, 1, 2, 3, 6] rfl⟩
                · have hw := hw.2 (z_eq g58 (show rng 131 from by decide) c165)
                  refine lv_iload C.1 C.2.1 dX12_foldOne_168 (lv_at hl 7 rfl) ?_
                  refine lv_iload C.1 C.2.1 dX12_foldOne_170 (lv_at hl 8 rfl) ?_
                  refine lv_icmp_ne (tgt := 179) C.1 C.2.1 dX12_foldOne_172 (by decide) (fun c172 => ?_) (fun c172 => ?_)
                  · have hw := hw.1 (z_ne g112 g122 c172)
                    refine lv_iconst (v := zI 0) C.1 C.2.1 dX12_foldOne_179 (by decide) ?_
                    refine lv_goto (tgt := 195) C.1 C.2.1 dX12_foldOne_180 (by decide) ?_
                    exact J195 0 _ _ _ ⟨(show rng 0 from by decide), hw, wMc Wd rfl rfl ⟨(rsI hS.1 (Wc79.2.1 5)), (rsF hS.2 (fun j => Wc79.2.2 3 j))⟩, lv_sub hl [0, 1, 2, 3, 6] rfl⟩
                  · have hw := hw.2 (z_eq g112 g122 c172)
                    refine lv_iconst (v := zI 1) C.1 C.2.1 dX12_foldOne_175 (by decide) ?_
                    refine lv_goto (tgt := 195) C.1 C.2.1 dX12_foldOne_176 (by decide) ?_
                    exact J195 1 _ _ _ ⟨(show rng 1 from by decide), hw, wMc Wd rfl rfl ⟨(rsI hS.1 (Wc79.2.1 5)), (rsF hS.2 (fun j => Wc79.2.2 3 j))⟩, lv_sub hl [0, 1, 2, 3, 6] rfl⟩
              · have hw := hw.2 (z_eq g58 (show rng 130 from by decide) c136)
                refine lv_iload C.1 C.2.1 dX12_foldOne_139 (lv_at hl 7 rfl) ?_
                refine lv_iload C.1 C.2.1 dX12_foldOne_141 (lv_at hl 8 rfl) ?_
                refine lv_icmp_ge (tgt := 150) C.1 C.2.1 dX12_foldOne_143 (by decide) (fun c143 => ?_) (fun c143 => ?_)
                · have hw := hw.1 (z_le g122 g112 c143)
                  refine lv_iconst (v := zI 0) C.1 C.2.1 dX12_foldOne_150 (by decide) ?_
                  refine lv_goto (tgt := 195) C.1 C.2.1 dX12_foldOne_151 (by decide) ?_
                  exact J195 0 _ _ _ ⟨(show rng 0 from by decide), hw, wMc Wd rfl rfl ⟨(rsI hS.1 (Wc79.2.1 5)), (rsF hS.2 (fun j => Wc79.2.2 3 j))⟩, lv_sub hl [0, 1, 2, 3, 6] rfl⟩
                · have hw := hw.2 (z_nle g122 g112 c143)
                  refine lv_iconst (v := zI 1) C.1 C.2.1 dX12_foldOne_146 (by decide) ?_
                  refine lv_goto (tgt := 195) C.1 C.2.1 dX12_foldOne_147 (by decide) ?_
                  exact J195 1 _ _ _ ⟨(show rng 1 from by decide), hw, wMc Wd rfl rfl ⟨(rsI hS.1 (Wc79.2.1 5)), (rsF hS.2 (fun j => Wc79.2.2 3 j))⟩, lv_sub hl [0, 1, 2, 3, 6] rfl⟩
        refine lv_icmp_eq (tgt := 50) C.1 C.2.1 dX12_foldOne_32 (by decide) (fun c32 => ?_) (fun c32 => ?_)
        · have hw := hw.1 (z_eq g5 (show rng 112 from by decide) c32)
          exact J50  _ _ _ ⟨hw, wMc Wd rfl rfl ⟨(rsI hS.1 (Wc26.2.1 5)), (rsF hS.2 (fun j => Wc26.2.2 3 j))⟩, lv_sub hl [0, 1, 2, 3] rfl⟩
        · have hw := hw.2 (z_ne g5 (show rng 112 from by decide) c32)
          refine lv_iload_n C.1 C.2.1 dX12_foldOne_35 rfl (lv_at hl 2 rfl) ?_
          refine lv_bipush (v := zI 115) C.1 C.2.1 dX12_foldOne_36 (by decide) ?_
          refine lv_icmp_eq (tgt := 50) C.1 C.2.1 dX12_foldOne_38 (by decide) (fun c38 => ?_) (fun c38 => ?_)
          · have hw := hw.1 (z_eq g5 (show rng 115 from by decide) c38)
            exact J50  _ _ _ ⟨hw, wMc Wd rfl rfl ⟨(rsI hS.1 (Wc26.2.1 5)), (rsF hS.2 (fun j => Wc26.2.2 3 j))⟩, lv_sub hl [0, 1, 2, 3] rfl⟩
          · have hw := hw.2 (z_ne g5 (show rng 115 from by decide) c38)
            refine lv_aload_n C.1 C.2.1 dX12_foldOne_41 rfl (lv_at hl 0 rfl) ?_
            refine lv_iload_n C.1 C.2.1 dX12_foldOne_42 rfl (lv_at hl 1 rfl) ?_
            refine lv_iconst (v := zI 1) C.1 C.2.1 dX12_foldOne_43 (by decide) ?_
            refine k_iadd (v := zI (x0 + 1)) C (zI_iadd _ _) dX12_foldOne_44 ?_
            obtain ⟨g45_0, hw⟩ := hw
            refine k_cMi Wd (k_runVM (rest := []) C aks Wd cs_X12_400 (mt_folds D h ad ca (sI I 5 made_r26) (sF F 3 fresh_r26) Wd.2 (x0 + 1) g45_0 _ hw l _) rfl rfl ⟨(by show 1005 + 1 ≤ 1007 + (n + 1); omega), (by show 8 + (5 + 11) + (22687) ≤ 22751 + 29 * (n + 1); omega)⟩ hl.1 rfl rfl (Nat.le_of_ble_eq_true rfl) ⟨(Nat.le_of_ble_eq_true rfl), (Nat.le_of_ble_eq_true rfl)⟩ dX12_foldOne_45) (fun r45 u45 H locs g_r45 hw Wd => ?_)
            obtain ⟨fresh_r45, made_r45⟩ := u45
            dsimp only at hw
            have Wc45 := Wd
            have Wd : wXM D ca s h ad (sI I 5 made_r45) (sF F 3 fresh_r45) H A s.heap locs := wMc Wd rfl rfl ⟨(rsI hS.1 (Wc45.2.1 5)), (rsF hS.2 (fun j => Wc45.2.2 3 j))⟩
            refine lv_pop C.1 C.2.1 dX12_foldOne_48 rfl ?_
            exact k_retMv C hr hlk Wd (u := (fresh_r45, made_r45)) rfl rfl ⟨hw, ⟨(rsI hS.1 (Wc45.2.1 5)), (rsF hS.2 (fun j => Wc45.2.2 3 j))⟩⟩ dX12_foldOne_49
      · have hw := hw.2 (z_eq g5 (show rng 111 from by decide) c10)
        refine lv_aload_n C.1 C.2.1 dX12_foldOne_13 rfl (lv_at hl 0 rfl) ?_
        refine lv_iload_n C.1 C.2.1 dX12_foldOne_14 rfl (lv_at hl 2 rfl) ?_
        refine k_cMv Wd (k_runVM (rest := []) C aks Wd cs_X12_120 (mt_write D h ad ca I F Wd.2 ((F 2) x0) g5 _ hw l _) rfl rfl ⟨(by show 1 + 1 ≤ 1007 + (n + 1); omega), (by show 8 + (2 + 11) + (64) ≤ 22751 + 29 * (n + 1); omega)⟩ hl.1 rfl rfl (Nat.le_of_ble_eq_true rfl) ⟨(Nat.le_of_ble_eq_true rfl), (Nat.le_of_ble_eq_true rfl)⟩ dX12_foldOne_15) (fun u15 H locs hw Wd => ?_)
        obtain ⟨fresh_r15, made_r15⟩ := u15
        dsimp only at hw
        have Wc15 := Wd
        have Wd : wXM D ca s h ad (sI I 5 made_r15) (sF F 3 fresh_r15) H A s.heap locs := wMc Wd rfl rfl ⟨(rsI hS.1 (Wc15.2.1 5)), (rsF hS.2 (fun j => Wc15.2.2 3 j))⟩
        exact k_retMv C hr hlk Wd (u := (fresh_r15, made_r15)) rfl rfl ⟨hw, ⟨(rsI hS.1 (Wc15.2.1 5)), (rsF hS.2 (fun j => Wc15.2.2 3 j))⟩⟩ dX12_foldOne_18
theorem mt_foldAll : ∀ (D : va_G) (h : Nat) (ad : Nat → Nat) (ca : Nat → ClassId) (I : Nat → Int) (F : Nat → Int → Int) (hS : rngS I F) (x0 : Int) (g_x0 : rng x0) (K : (Int → Int) → Int → Prop) (hw : wp_foldAll 100 (F 2) (F 3) (I 4) (I 5) x0 K) (l : Launch) (sz : Nat), Met l yX12_foldAll (Cond.code yX12_foldAll cX12_foldAll 3 none :: gG) { frames := 1107, cells := 0, slots := 0, locals := 25651 } (cPre D (tM ca) (wM h ad ca I F) sz [.ref h, .int (zI x0)]) (va_Qv (fun (u : (Int → Int) × (Int)) => K u.1 u.2 ∧ rngS (sI I 5 u.2) (sF F 3 u.1)) (fun u t => cB D (va_A (wM h ad ca I F) sz) [] (wM h ad ca (sI I 5 u.2) (sF F 3 u.1)) t) (va_A (wM h ad ca I F) sz)) 0 0 (va_A (wM h ad ca I F) sz) := (mg_foldAll 100).1
theorem mt_foldOne : ∀ (D : va_G) (h : Nat) (ad : Nat → Nat) (ca : Nat → ClassId) (I : Nat → Int) (F : Nat → Int → Int) (hS : rngS I F) (x0 : Int) (g_x0 : rng x0) (K : (Int → Int) → Int → Prop) (hw : wp_foldOne 100 (F 2) (F 3) (I 4) (I 5) x0 K) (l : Launch) (sz : Nat), Met l yX12_foldOne (Cond.code yX12_foldOne cX12_foldOne 10 none :: gG) { frames := 1107, cells := 0, slots := 0, locals := 25651 } (cPre D (tM ca) (wM h ad ca I F) sz [.ref h, .int (zI x0)]) (va_Qv (fun (u : (Int → Int) × (Int)) => K u.1 u.2 ∧ rngS (sI I 5 u.2) (sF F 3 u.1)) (fun u t => cB D (va_A (wM h ad ca I F) sz) [] (wM h ad ca (sI I 5 u.2) (sF F 3 u.1)) t) (va_A (wM h ad ca I F) sz)) 0 0 (va_A (wM h ad ca I F) sz) := (mg_foldAll 100).2
set_option maxHeartbeats 4000000 in
set_option maxRecDepth 100000 in
theorem mt_replaces : ∀ (D : va_G) (h : Nat) (ad : Nat → Nat) (ca : Nat → ClassId) (I : Nat → Int) (F : Nat → Int → Int) (hS : rngS I F) (x0 : Int) (x1 : Int) (x2 : Int) (x3 : Int) (g_x0 : rng x0) (g_x1 : rng x1) (g_x2 : rng x2) (g_x3 : rng x3) (K : (Int → Int) → Prop) (hw : wp_replaces (F 2) x0 x1 x2 x3 K) (l : Launch) (sz : Nat), Met l yX12_replaces (Cond.code yX12_replaces cX12_replaces 6 none :: gG) { frames := 1, cells := 0, slots := 0, locals := 64 } (cPre D (tM ca) (wM h ad ca I F) sz [.ref h, .int (zI x0), .int (zI x1), .int (zI x2), .int (zI x3)]) (va_Qv (fun (u : (Int → Int)) => K u ∧ rngS I (sF F 2 u)) (fun u t => cB D (va_A (wM h ad ca I F) sz) [] (wM h ad ca I (sF F 2 u)) t) (va_A (wM h ad ca I F) sz)) 0 0 (va_A (wM h ad ca I F) sz) := by
  intro D h ad ca I F hS x0 x1 x2 x3 g_x0 g_x1 g_x2 g_x3 K hw l sz
  refine Met.ofW (cc := cX12_replaces) (maxL := 6) (ret := none) (by decide) rfl ?_
  intro p e s m args below meth c s₁ B hml hv
  obtain ⟨rfl, aks, rfl, Wd⟩ := k_enter hv
  have C : CallFix p m c cX12_replaces 6 s _ gG RX12 := ⟨B.exec, B.bytes, hml, findClass_of_methodNamed B.named, fun w h => atoms_spec (ws := Cond.code yX12_replaces cX12_replaces 6 none :: gG) B.pre w (List.mem_cons_of_mem _ h)⟩
  have hr := B.returns
  have hlk := B.notSynchronized
  generalize va_A (wM h ad ca I F) s.heap.size = A at Wd ⊢
  replace Wd : wXM D ca s h ad I F s.heap A s.heap [] := ⟨Wd, hS⟩
  refine k_locals (Nat.le_of_ble_eq_true rfl) [(0, .ref h), (1, .int (zI x0)), (2, .int (zI x1)), (3, .int (zI x2)), (4, .int (zI x3))] rfl (fun ls hl => ?_)
  unfold wp_replaces at hw
  refine lv_iload_n C.1 C.2.1 dX12_replaces_0 rfl (lv_at hl 1 rfl) ?_
  refine lv_istore (lv' := [(5, .int (zI x0)), (0, .ref h), (1, .int (zI x0)), (2, .int (zI x1)), (3, .int (zI x2)), (4, .int (zI x3))]) C.1 C.2.1 dX12_replaces_1 hl (by decide) rfl (fun ls hl => ?_)
  replace hl := lv_sub hl [1, 2, 3, 4, 5, 0] rfl
  refine k_lp2 hw (fun (l5_3 : Int) (row_3 : Int → Int) H locs ls => rng l5_3 ∧ wXM D ca s h ad I (sF F 2 row_3) H A s.heap locs ∧ lv_has ls 6 [(0, .ref h), (2, .int (zI x1)), (3, .int (zI x2)), (4, .int (zI x3)), (5, .int (zI l5_3))]) (fun (l5_3 : Int) (row_3 : Int → Int) ls => F0 m 3 ls []) (fun L3 hL3 l5_3 row_3 hw H locs ls hi => ?_) _ _ _ ⟨g_x0, wMc Wd rfl rfl ⟨hS.1, (rsF hS.2 (hS.2 2))⟩, lv_sub hl [0, 2, 3, 4, 5] rfl⟩
  obtain ⟨g_l5_3, Wd, hl⟩ := hi
  have Wd3 := Wd
  unfold wp_replaces_3 at hw
  refine lv_iload C.1 C.2.1 dX12_replaces_3 (lv_at hl 4 rfl) ?_
  refine lv_iload_n C.1 C.2.1 dX12_replaces_5 rfl (lv_at hl 1 rfl) ?_
  refine lv_icmp_ge (tgt := 41) C.1 C.2.1 dX12_replaces_6 (by decide) (fun c6 => ?_) (fun c6 => ?_)
  · have hw := hw.1 (z_le g_x1 g_l5_3 c6)
    exact k_retMv C hr hlk Wd (u := row_3) rfl rfl ⟨hw, ⟨hS.1, (rsF hS.2 (fun j => Wd3.2.2 2 j))⟩⟩ dX12_replaces_41
  · have hw := hw.2 (z_nle g_x1 g_l5_3 c6)
    refine lv_aload_n C.1 C.2.1 dX12_replaces_9 rfl (lv_at hl 0 rfl) ?_
    refine k_get (v := .ref (ad 2)) C Wd.1 KX12 0 2 wM0 (by decide) fl_X12_16 rfl dX12_replaces_10 ?_
    refine lv_iload C.1 C.2.1 dX12_replaces_13 (lv_at hl 4 rfl) ?_
    obtain ⟨a15, hw⟩ := hw
    refine k_ialdM (g := row_3) C Wd 3 2 rfl rfl a15 (by decide) dX12_replaces_15 ?_
    have g15 : rng (row_3 l5_3) := rngL (fun j => Wd3.2.2 2 j) a15
    refine lv_bipush (v := zI 20) C.1 C.2.1 dX12_replaces_16 (by decide) ?_
    refine lv_iload_n C.1 C.2.1 dX12_replaces_18 rfl (lv_at hl 2 rfl) ?_
    refine k_iadd (v := zI (20 + x2)) C (zI_iadd _ _) dX12_replaces_19 ?_
    obtain ⟨g20_0, hw⟩ := hw
    refine lv_icmp_ne (tgt := 35) C.1 C.2.1 dX12_replaces_20 (by decide) (fun c20 => ?_) (fun c20 => ?_)
    · have hw := hw.1 (z_ne g15 g20_0 c20)
      refine lv_iinc (v := zI (l5_3 + 1)) (lv' := [(5, .int (zI (l5_3 + 1))), (0, .ref h), (2, .int (zI x1)), (3, .int (zI x2)), (4, .int (zI x3))]) C.1 C.2.1 dX12_replaces_35 hl (k := 4) rfl (zI_inc _ _ (by decide)) (by decide) rfl (fun ls hl => ?_)
      replace hl := lv_sub hl [1, 2, 3, 4, 0] rfl
      refine lv_goto (tgt := 3) C.1 C.2.1 dX12_replaces_38 (by decide) ?_
      obtain ⟨g38_0, hw⟩ := hw
      exact hL3 _ _ hw _ _ _ ⟨g38_0, wMc Wd rfl rfl ⟨hS.1, (rsF hS.2 (fun j => Wd3.2.2 2 j))⟩, lv_sub hl [0, 1, 2, 3, 4] rfl⟩
    · have hw := hw.2 (z_eq g15 g20_0 c20)
      refine lv_aload_n C.1 C.2.1 dX12_replaces_23 rfl (lv_at hl 0 rfl) ?_
      refine k_get (v := .ref (ad 2)) C Wd.1 KX12 0 2 wM0 (by decide) fl_X12_16 rfl dX12_replaces_24 ?_
      refine lv_iload C.1 C.2.1 dX12_replaces_27 (lv_at hl 4 rfl) ?_
      refine lv_bipush (v := zI 20) C.1 C.2.1 dX12_replaces_29 (by decide) ?_
      refine lv_iload C.1 C.2.1 dX12_replaces_31 (lv_at hl 3 rfl) ?_
      refine k_iadd (v := zI (20 + x3)) C (zI_iadd _ _) dX12_replaces_33 ?_
      obtain ⟨g34_0, hw⟩ := hw
      obtain ⟨a34, hw⟩ := hw
      have q34 : ∀ j : Nat, rng ((uZ row_3 l5_3 (20 + x3)) j) := ruZ (fun j => Wd3.2.2 2 j) g34_0
      refine k_iastM (g := row_3) C Wd 2 2 (sF F 2 (uZ row_3 l5_3 (20 + x3))) rfl rfl a34 (by decide) rfl rfl (rsF hS.2 q34) dX12_replaces_34 (fun H locs Wd => ?_)
      refine lv_iinc (v := zI (l5_3 + 1)) (lv' := [(5, .int (zI (l5_3 + 1))), (0, .ref h), (2, .int (zI x1)), (3, .int (zI x2)), (4, .int (zI x3))]) C.1 C.2.1 dX12_replaces_35 hl (k := 4) rfl (zI_inc _ _ (by decide)) (by decide) rfl (fun ls hl => ?_)
      replace hl := lv_sub hl [1, 2, 3, 4, 0] rfl
      refine lv_goto (tgt := 3) C.1 C.2.1 dX12_replaces_38 (by decide) ?_
      obtain ⟨g38_0, hw⟩ := hw
      exact hL3 _ _ hw _ _ _ ⟨g38_0, wMc Wd rfl rfl ⟨hS.1, (rsF hS.2 q34)⟩, lv_sub hl [0, 1, 2, 3, 4] rfl⟩
set_option maxHeartbeats 4000000 in
set_option maxRecDepth 100000 in
theorem mt_sets : ∀ (D : va_G) (h : Nat) (ad : Nat → Nat) (ca : Nat → ClassId) (I : Nat → Int) (F : Nat → Int → Int) (hS : rngS I F) (x0 : Int) (x1 : Int) (x2 : Int) (g_x0 : rng x0) (g_x1 : rng x1) (g_x2 : rng x2) (K : Int → Prop) (hw : wp_sets (F 2) x0 x1 x2 K) (l : Launch) (sz : Nat), Met l yX12_sets (Cond.code yX12_sets cX12_sets 6 (some .boolean) :: gG) { frames := 1, cells := 0, slots := 0, locals := 64 } (cPre D (tM ca) (wM h ad ca I F) sz [.ref h, .int (zI x0), .int (zI x1), .int (zI x2)]) (vp_Si (fun r => ∃ x : Int, r = zI x ∧ rng x ∧ K x)) 0 0 (fun _ => False) := by
  intro D h ad ca I F hS x0 x1 x2 g_x0 g_x1 g_x2 K hw l sz
  refine Met.ofW (cc := cX12_sets) (maxL := 6) (ret := (some .boolean)) (by decide) rfl ?_
  intro p e s m args below meth c s₁ B hml hv
  obtain ⟨rfl, aks, rfl, Wd⟩ := k_enter hv
  have C : CallFix p m c cX12_sets 6 s _ gG RX12 := ⟨B.exec, B.bytes, hml, findClass_of_methodNamed B.named, fun w h => atoms_spec (ws := Cond.code yX12_sets cX12_sets 6 (some .boolean) :: gG) B.pre w (List.mem_cons_of_mem _ h)⟩
  have hr := B.returns
  have hlk := B.notSynchronized
  obtain ⟨A, Wd⟩ : ∃ A, wXM D ca s h ad I F s.heap A s.heap [] := ⟨_, Wd, hS⟩
  refine k_locals (Nat.le_of_ble_eq_true rfl) [(0, .ref h), (1, .int (zI x0)), (2, .int (zI x1)), (3, .int (zI x2))] rfl (fun ls hl => ?_)
  unfold wp_sets at hw
  refine lv_iconst (v := zI 0) C.1 C.2.1 dX12_sets_0 (by decide) ?_
  refine lv_istore (lv' := [(4, .int (zI 0)), (0, .ref h), (1, .int (zI x0)), (2, .int (zI x1)), (3, .int (zI x2))]) C.1 C.2.1 dX12_sets_1 hl (by decide) rfl (fun ls hl => ?_)
  replace hl := lv_sub hl [1, 2, 3, 4, 0] rfl
  refine lv_iload_n C.1 C.2.1 dX12_sets_3 rfl (lv_at hl 1 rfl) ?_
  refine lv_istore (lv' := [(5, .int (zI x0)), (0, .ref h), (1, .int (zI x0)), (2, .int (zI x1)), (3, .int (zI x2)), (4, .int (zI 0))]) C.1 C.2.1 dX12_sets_4 hl (by decide) rfl (fun ls hl => ?_)
  replace hl := lv_sub hl [1, 2, 3, 4, 5, 0] rfl
  refine k_lp2 hw (fun (l4_6 : Int) (l5_6 : Int) H locs ls => rng l4_6 ∧ rng l5_6 ∧ wXM D ca s h ad I F H A s.heap locs ∧ H = s.heap ∧ locs = [] ∧ lv_has ls 6 [(0, .ref h), (2, .int (zI x1)), (3, .int (zI x2)), (4, .int (zI l4_6)), (5, .int (zI l5_6))]) (fun (l4_6 : Int) (l5_6 : Int) ls => F0 m 6 ls []) (fun L6 hL6 l4_6 l5_6 hw H locs ls hi => ?_) _ _ _ ⟨(show rng 0 from by decide), g_x0, Wd, rfl, rfl, lv_sub hl [0, 2, 3, 4, 5] rfl⟩
  obtain ⟨g_l4_6, g_l5_6, Wd, rfl, rfl, hl⟩ := hi
  have Wd6 := Wd
  unfold wp_sets_6 at hw
  refine lv_iload C.1 C.2.1 dX12_sets_6 (lv_at hl 4 rfl) ?_
  refine lv_iload_n C.1 C.2.1 dX12_sets_8 rfl (lv_at hl 1 rfl) ?_
  refine lv_icmp_ge (tgt := 44) C.1 C.2.1 dX12_sets_9 (by decide) (fun c9 => ?_) (fun c9 => ?_)
  · have hw := hw.1 (z_le g_x1 g_l5_6 c9)
    refine lv_iload C.1 C.2.1 dX12_sets_44 (lv_at hl 3 rfl) ?_
    obtain ⟨b46_0, hw⟩ := hw
    exact k_zretP C hr hlk (zI_nb b46_0) ⟨_, rfl, g_l4_6, hw⟩ dX12_sets_46
  · have hw := hw.2 (z_nle g_x1 g_l5_6 c9)
    refine lv_iload C.1 C.2.1 dX12_sets_12 (lv_at hl 3 rfl) ?_
    refine lv_if_ne (tgt := 31) C.1 C.2.1 dX12_sets_14 (by decide) (fun c14 => ?_) (fun c14 => ?_)
    · have hw := hw.1 (z0_ne g_l4_6 c14)
      refine lv_iconst (v := zI 1) C.1 C.2.1 dX12_sets_31 (by decide) ?_
      refine lv_goto (tgt := 36) C.1 C.2.1 dX12_sets_32 (by decide) ?_
      refine lv_istore (lv' := [(4, .int (zI 1)), (0, .ref h), (2, .int (zI x1)), (3, .int (zI x2)), (5, .int (zI l5_6))]) C.1 C.2.1 dX12_sets_36 hl (by decide) rfl (fun ls hl => ?_)
      replace hl := lv_sub hl [1, 2, 3, 0, 4] rfl
      refine lv_iinc (v := zI (l5_6 + 1)) (lv' := [(5, .int (zI (l5_6 + 1))), (0, .ref h), (2, .int (zI x1)), (3, .int (zI x2)), (4, .int (zI 1))]) C.1 C.2.1 dX12_sets_38 hl (k := 4) rfl (zI_inc _ _ (by decide)) (by decide) rfl (fun ls hl => ?_)
      replace hl := lv_sub hl [1, 2, 3, 4, 0] rfl
      refine lv_goto (tgt := 6) C.1 C.2.1 dX12_sets_41 (by decide) ?_
      obtain ⟨g41_0, hw⟩ := hw
      exact hL6 _ _ hw _ _ _ ⟨(show rng 1 from by decide), g41_0, Wd, rfl, rfl, lv_sub hl [0, 1, 2, 3, 4] rfl⟩
    · have hw := hw.2 (z0_eq g_l4_6 c14)
      refine lv_aload_n C.1 C.2.1 dX12_sets_17 rfl (lv_at hl 0 rfl) ?_
      refine k_get (v := .ref (ad 2)) C Wd.1 KX12 0 2 wM0 (by decide) fl_X12_16 rfl dX12_sets_18 ?_
      refine lv_iload C.1 C.2.1 dX12_sets_21 (lv_at hl 4 rfl) ?_
      obtain ⟨a23, hw⟩ := hw
      refine k_ialdM (g := (F 2)) C Wd 3 2 rfl rfl a23 (by decide) dX12_sets_23 ?_
      have g23 : rng ((F 2) l5_6) := rngL (hS.2 2) a23
      refine lv_bipush (v := zI 100) C.1 C.2.1 dX12_sets_24 (by decide) ?_
      refine lv_iload_n C.1 C.2.1 dX12_sets_26 rfl (lv_at hl 2 rfl) ?_
      refine k_iadd (v := zI (100 + x2)) C (zI_iadd _ _) dX12_sets_27 ?_
      obtain ⟨g28_0, hw⟩ := hw
      refine lv_icmp_ne (tgt := 35) C.1 C.2.1 dX12_sets_28 (by decide) (fun c28 => ?_) (fun c28 => ?_)
      · have hw := hw.1 (z_ne g23 g28_0 c28)
        refine lv_iconst (v := zI 0) C.1 C.2.1 dX12_sets_35 (by decide) ?_
        refine lv_istore (lv' := [(4, .int (zI 0)), (0, .ref h), (2, .int (zI x1)), (3, .int (zI x2)), (5, .int (zI l5_6))]) C.1 C.2.1 dX12_sets_36 hl (by decide) rfl (fun ls hl => ?_)
        replace hl := lv_sub hl [1, 2, 3, 0, 4] rfl
        refine lv_iinc (v := zI (l5_6 + 1)) (lv' := [(5, .int (zI (l5_6 + 1))), (0, .ref h), (2, .int (zI x1)), (3, .int (zI x2)), (4, .int (zI 0))]) C.1 C.2.1 dX12_sets_38 hl (k := 4) rfl (zI_inc _ _ (by decide)) (by decide) rfl (fun ls hl => ?_)
        replace hl := lv_sub hl [1, 2, 3, 4, 0] rfl
        refine lv_goto (tgt := 6) C.1 C.2.1 dX12_sets_41 (by decide) ?_
        obtain ⟨g41_0, hw⟩ := hw
        exact hL6 _ _ hw _ _ _ ⟨(show rng 0 from by decide), g41_0, Wd, rfl, rfl, lv_sub hl [0, 1, 2, 3, 4] rfl⟩
      · have hw := hw.2 (z_eq g23 g28_0 c28)
        refine lv_iconst (v := zI 1) C.1 C.2.1 dX12_sets_31 (by decide) ?_
        refine lv_goto (tgt := 36) C.1 C.2.1 dX12_sets_32 (by decide) ?_
        refine lv_istore (lv' := [(4, .int (zI 1)), (0, .ref h), (2, .int (zI x1)), (3, .int (zI x2)), (5, .int (zI l5_6))]) C.1 C.2.1 dX12_sets_36 hl (by decide) rfl (fun ls hl => ?_)
        replace hl := lv_sub hl [1, 2, 3, 0, 4] rfl
        refine lv_iinc (v := zI (l5_6 + 1)) (lv' := [(5, .int (zI (l5_6 + 1))), (0, .ref h), (2, .int (zI x1)), (3, .int (zI x2)), (4, .int (zI 1))]) C.1 C.2.1 dX12_sets_38 hl (k := 4) rfl (zI_inc _ _ (by decide)) (by decide) rfl (fun ls hl => ?_)
        replace hl := lv_sub hl [1, 2, 3, 4, 0] rfl
        refine lv_goto (tgt := 6) C.1 C.2.1 dX12_sets_41 (by decide) ?_
        obtain ⟨g41_0, hw⟩ := hw
        exact hL6 _ _ hw _ _ _ ⟨(show rng 1 from by decide), g41_0, Wd, rfl, rfl, lv_sub hl [0, 1, 2, 3, 4] rfl⟩
set_option maxHeartbeats 4000000 in
set_option maxRecDepth 100000 in
theorem mt_copyFrom : ∀ (D : va_G) (h : Nat) (ad : Nat → Nat) (ca : Nat → ClassId) (I : Nat → Int) (F : Nat → Int → Int) (hS : rngS I F) (x0 : Int) (x1 : Int) (x2 : Int) (g_x0 : rng x0) (g_x1 : rng x1) (g_x2 : rng x2) (K : (Int → Int) → Prop) (hw : wp_copyFrom (F 2) (I 4) x0 x1 x2 K) (l : Launch) (sz : Nat), Met l yX12_copyFrom (Cond.code yX12_copyFrom cX12_copyFrom 6 none :: gG) { frames := 607, cells := 0, slots := 0, locals := 12930 } (cPre D (tM ca) (wM h ad ca I F) sz [.ref h, .int (zI x0), .int (zI x1), .int (zI x2)]) (va_Qv (fun (u : (Int → Int)) => K u ∧ rngS I (sF F 2 u)) (fun u t => cB D (va_A (wM h ad ca I F) sz) [] (wM h ad ca I (sF F 2 u)) t) (va_A (wM h ad ca I F) sz)) 0 0 (va_A (wM h ad ca I F) sz) := by
  intro D h ad ca I F hS x0 x1 x2 g_x0 g_x1 g_x2 K hw l sz
  refine Met.ofW (cc := cX12_copyFrom) (maxL := 6) (ret := none) (by decide) rfl ?_
  intro p e s m args below meth c s₁ B hml hv
  obtain ⟨rfl, aks, rfl, Wd⟩ := k_enter hv
  have C : CallFix p m c cX12_copyFrom 6 s _ gG RX12 := ⟨B.exec, B.bytes, hml, findClass_of_methodNamed B.named, fun w h => atoms_spec (ws := Cond.code yX12_copyFrom cX12_copyFrom 6 none :: gG) B.pre w (List.mem_cons_of_mem _ h)⟩
  have hr := B.returns
  have hlk := B.notSynchronized
  generalize va_A (wM h ad ca I F) s.heap.size = A at Wd ⊢
  replace Wd : wXM D ca s h ad I F s.heap A s.heap [] := ⟨Wd, hS⟩
  refine k_locals (Nat.le_of_ble_eq_true rfl) [(0, .ref h), (1, .int (zI x0)), (2, .int (zI x1)), (3, .int (zI x2))] rfl (fun ls hl => ?_)
  unfold wp_copyFrom at hw
  refine lv_aload_n C.1 C.2.1 dX12_copyFrom_0 rfl (lv_at hl 0 rfl) ?_
  refine lv_iload_n C.1 C.2.1 dX12_copyFrom_1 rfl (lv_at hl 1 rfl) ?_
  refine k_pi (k_runVM (rest := []) C aks Wd cs_X12_104 (mt_behind D h ad ca I F Wd.2 x0 g_x0 _ hw l _) rfl rfl ⟨(Nat.le_of_ble_eq_true rfl), (Nat.le_of_ble_eq_true rfl)⟩ hl.1 rfl rfl (Nat.le_of_ble_eq_true rfl) ⟨(Nat.le_of_ble_eq_true rfl), (Nat.le_of_ble_eq_true rfl)⟩ dX12_copyFrom_2) (fun y2 hy => ?_)
  obtain ⟨r2, rfl, g_r2, hw⟩ := hy
  refine lv_istore (lv' := [(4, .int (zI r2)), (0, .ref h), (1, .int (zI x0)), (2, .int (zI x1)), (3, .int (zI x2))]) C.1 C.2.1 dX12_copyFrom_5 hl (by decide) rfl (fun ls hl => ?_)
  replace hl := lv_sub hl [1, 2, 3, 4, 0] rfl
  refine k_lp2 hw (fun (l4_7 : Int) (row_7 : Int → Int) H locs ls => rng l4_7 ∧ wXM D ca s h ad I (sF F 2 row_7) H A s.heap locs ∧ lv_has ls 6 [(0, .ref h), (2, .int (zI x1)), (3, .int (zI x2)), (4, .int (zI l4_7))]) (fun (l4_7 : Int) (row_7 : Int → Int) ls => F0 m 7 ls []) (fun L7 hL7 l4_7 row_7 hw H locs ls hi => ?_) _ _ _ ⟨g_r2, wMc Wd rfl rfl ⟨hS.1, (rsF hS.2 (hS.2 2))⟩, lv_sub hl [0, 2, 3, 4] rfl⟩
  obtain ⟨g_l4_7, Wd, hl⟩ := hi
  have Wd7 := Wd
  unfold wp_copyFrom_7 at hw
  refine lv_aload_n C.1 C.2.1 dX12_copyFrom_7 rfl (lv_at hl 0 rfl) ?_
  refine lv_iload C.1 C.2.1 dX12_copyFrom_8 (lv_at hl 3 rfl) ?_
  refine k_pi (k_runVM (rest := []) C aks Wd cs_X12_107 (mt_isLast D h ad ca I (sF F 2 row_7) Wd.2 l4_7 g_l4_7 _ hw l _) rfl rfl ⟨(Nat.le_of_ble_eq_true rfl), (Nat.le_of_ble_eq_true rfl)⟩ hl.1 rfl rfl (Nat.le_of_ble_eq_true rfl) ⟨(Nat.le_of_ble_eq_true rfl), (Nat.le_of_ble_eq_true rfl)⟩ dX12_copyFrom_10) (fun y10 hy => ?_)
  obtain ⟨r10, rfl, g_r10, hw⟩ := hy
  refine lv_if_ne (tgt := 109) C.1 C.2.1 dX12_copyFrom_13 (by decide) (fun c13 => ?_) (fun c13 => ?_)
  · have hw := hw.1 (z0_ne g_r10 c13)
    exact k_retMv C hr hlk Wd (u := row_7) rfl rfl ⟨hw, ⟨hS.1, (rsF hS.2 (fun j => Wd7.2.2 2 j))⟩⟩ dX12_copyFrom_109
  · have hw := hw.2 (z0_eq g_r10 c13)
    refine lv_aload_n C.1 C.2.1 dX12_copyFrom_16 rfl (lv_at hl 0 rfl) ?_
    refine k_get (v := .ref (ad 2)) C Wd.1 KX12 0 2 wM0 (by decide) fl_X12_16 rfl dX12_copyFrom_17 ?_
    refine lv_iload C.1 C.2.1 dX12_copyFrom_20 (lv_at hl 3 rfl) ?_
    obtain ⟨a22, hw⟩ := hw
    refine k_ialdM (g := row_7) C Wd 3 2 rfl rfl a22 (by decide) dX12_copyFrom_22 ?_
    have g22 : rng (row_7 l4_7) := rngL (fun j => Wd7.2.2 2 j) a22
    refine lv_bipush (v := zI 112) C.1 C.2.1 dX12_copyFrom_23 (by decide) ?_
    refine k_cut1 (fun (s0_45 : Int) H locs ls => rng s0_45 ∧ wp_copyFrom_45 K x1 x2 l4_7 row_7 L7 s0_45 ∧ wXM D ca s h ad I (sF F 2 row_7) H A s.heap locs ∧ lv_has ls 6 [(0, .ref h), (2, .int (zI x1)), (3, .int (zI x2)), (4, .int (zI l4_7))]) (fun (s0_45 : Int) ls => F0 m 45 ls [.int (zI s0_45)]) (fun s0_45 H locs ls hi => ?_) (fun J45 => ?_)
    · obtain ⟨g_s0_45, hw, Wd, hl⟩ := hi
      have Wd45 := Wd
      unfold wp_copyFrom_45 at hw
      refine lv_istore (lv' := [(5, .int (zI s0_45)), (0, .ref h), (2, .int (zI x1)), (3, .int (zI x2)), (4, .int (zI l4_7))]) C.1 C.2.1 dX12_copyFrom_45 hl (by decide) rfl (fun ls hl => ?_)
      replace hl := lv_sub hl [1, 2, 3, 4, 0] rfl
      refine lv_iload C.1 C.2.1 dX12_copyFrom_47 (lv_at hl 4 rfl) ?_
      refine k_cut0 (fun  H locs ls => wp_copyFrom_69 K x1 x2 l4_7 row_7 L7 ∧ wXM D ca s h ad I (sF F 2 row_7) H A s.heap locs ∧ lv_has ls 6 [(0, .ref h), (2, .int (zI x1)), (3, .int (zI x2)), (4, .int (zI l4_7))]) (fun  ls => F0 m 69 ls []) (fun  H locs ls hi => ?_) (fun J69 => ?_)
      · obtain ⟨hw, Wd, hl⟩ := hi
        have Wd69 := Wd
        unfold wp_copyFrom_69 at hw
        refine lv_aload_n C.1 C.2.1 dX12_copyFrom_69 rfl (lv_at hl 0 rfl) ?_
        refine lv_iload C.1 C.2.1 dX12_copyFrom_70 (lv_at hl 3 rfl) ?_
        refine lv_aload_n C.1 C.2.1 dX12_copyFrom_72 rfl (lv_at hl 0 rfl) ?_
        refine lv_iload C.1 C.2.1 dX12_copyFrom_73 (lv_at hl 3 rfl) ?_
        refine k_pi (k_runVM (rest := [.int (zI l4_7), .ref h]) C aks Wd cs_X12_104 (mt_behind D h ad ca I (sF F 2 row_7) Wd.2 l4_7 g_l4_7 _ hw l _) rfl rfl ⟨(Nat.le_of_ble_eq_true rfl), (Nat.le_of_ble_eq_true rfl)⟩ hl.1 rfl rfl (Nat.le_of_ble_eq_true rfl) ⟨(Nat.le_of_ble_eq_true rfl), (Nat.le_of_ble_eq_true rfl)⟩ dX12_copyFrom_75) (fun y75 hy => ?_)
        obtain ⟨r75, rfl, g_r75, hw⟩ := hy
        refine lv_iload_n C.1 C.2.1 dX12_copyFrom_78 rfl (lv_at hl 1 rfl) ?_
        refine lv_iload_n C.1 C.2.1 dX12_copyFrom_79 rfl (lv_at hl 2 rfl) ?_
        refine k_cMv Wd (k_runVM (rest := []) C aks Wd cs_X12_412 (mt_replaces D h ad ca I (sF F 2 row_7) Wd.2 l4_7 r75 x1 x2 g_l4_7 g_r75 g_x1 g_x2 _ hw l _) rfl rfl ⟨(Nat.le_of_ble_eq_true rfl), (Nat.le_of_ble_eq_true rfl)⟩ hl.1 rfl rfl (Nat.le_of_ble_eq_true rfl) ⟨(Nat.le_of_ble_eq_true rfl), (Nat.le_of_ble_eq_true rfl)⟩ dX12_copyFrom_80) (fun row_r80 H locs hw Wd => ?_)
        have Wc80 := Wd
        have Wd : wXM D ca s h ad I (sF F 2 row_r80) H A s.heap locs := wMc Wd rfl rfl ⟨hS.1, (rsF hS.2 (fun j => Wc80.2.2 2 j))⟩
        refine lv_aload_n C.1 C.2.1 dX12_copyFrom_83 rfl (lv_at hl 0 rfl) ?_
        refine k_get (v := .ref (ad 2)) C Wd.1 KX12 0 2 wM0 (by decide) fl_X12_16 rfl dX12_copyFrom_84 ?_
        refine lv_iload C.1 C.2.1 dX12_copyFrom_87 (lv_at hl 3 rfl) ?_
        obtain ⟨a89, hw⟩ := hw
        refine k_ialdM (g := row_r80) C Wd 3 2 rfl rfl a89 (by decide) dX12_copyFrom_89 ?_
        have g89 : rng (row_r80 l4_7) := rngL (fun j => Wc80.2.2 2 j) a89
        refine lv_bipush (v := zI 100) C.1 C.2.1 dX12_copyFrom_90 (by decide) ?_
        refine lv_iload_n C.1 C.2.1 dX12_copyFrom_92 rfl (lv_at hl 1 rfl) ?_
        refine k_iadd (v := zI (100 + x1)) C (zI_iadd _ _) dX12_copyFrom_93 ?_
        obtain ⟨g94_0, hw⟩ := hw
        refine lv_icmp_ne (tgt := 98) C.1 C.2.1 dX12_copyFrom_94 (by decide) (fun c94 => ?_) (fun c94 => ?_)
        · have hw := hw.1 (z_ne g89 g94_0 c94)
          refine lv_aload_n C.1 C.2.1 dX12_copyFrom_98 rfl (lv_at hl 0 rfl) ?_
          refine lv_iload C.1 C.2.1 dX12_copyFrom_99 (lv_at hl 3 rfl) ?_
          refine k_pi (k_runVM (rest := []) C aks Wd cs_X12_104 (mt_behind D h ad ca I (sF F 2 row_r80) Wd.2 l4_7 g_l4_7 _ hw l _) rfl rfl ⟨(Nat.le_of_ble_eq_true rfl), (Nat.le_of_ble_eq_true rfl)⟩ hl.1 rfl rfl (Nat.le_of_ble_eq_true rfl) ⟨(Nat.le_of_ble_eq_true rfl), (Nat.le_of_ble_eq_true rfl)⟩ dX12_copyFrom_101) (fun y101 hy => ?_)
          obtain ⟨r101, rfl, g_r101, hw⟩ := hy
          refine lv_istore (lv' := [(4, .int (zI r101)), (0, .ref h), (2, .int (zI x1)), (3, .int (zI x2))]) C.1 C.2.1 dX12_copyFrom_104 hl (by decide) rfl (fun ls hl => ?_)
          replace hl := lv_sub hl [1, 2, 3, 0] rfl
          refine lv_goto (tgt := 7) C.1 C.2.1 dX12_copyFrom_106 (by decide) ?_
          exact hL7 _ _ hw _ _ _ ⟨g_r101, wMc Wd rfl rfl ⟨hS.1, (rsF hS.2 (fun j => Wc80.2.2 2 j))⟩, lv_sub hl [0, 1, 2, 3] rfl⟩
        · have hw := hw.2 (z_eq g89 g94_0 c94)
          exact k_retMv C hr hlk Wd (u := row_r80) rfl rfl ⟨hw, ⟨hS.1, (rsF hS.2 (fun j => Wc80.2.2 2 j))⟩⟩ dX12_copyFrom_97
      refine lv_if_eq (tgt := 69) C.1 C.2.1 dX12_copyFrom_49 (by decide) (fun c49 => ?_) (fun c49 => ?_)
      · have hw := hw.1 (z0_eq g_s0_45 c49)
        exact J69  _ _ _ ⟨hw, wMc Wd rfl rfl ⟨hS.1, (rsF hS.2 (fun j => Wd7.2.2 2 j))⟩, lv_sub hl [0, 1, 2, 3] rfl⟩
      · have hw := hw.2 (z0_ne g_s0_45 c49)
        refine lv_aload_n C.1 C.2.1 dX12_copyFrom_52 rfl (lv_at hl 0 rfl) ?_
        refine lv_iload C.1 C.2.1 dX12_copyFrom_53 (lv_at hl 3 rfl) ?_
        refine lv_aload_n C.1 C.2.1 dX12_copyFrom_55 rfl (lv_at hl 0 rfl) ?_
        refine lv_iload C.1 C.2.1 dX12_copyFrom_56 (lv_at hl 3 rfl) ?_
        refine k_pi (k_runVM (rest := [.int (zI l4_7), .ref h]) C aks Wd cs_X12_104 (mt_behind D h ad ca I (sF F 2 row_7) Wd.2 l4_7 g_l4_7 _ hw l _) rfl rfl ⟨(Nat.le_of_ble_eq_true rfl), (Nat.le_of_ble_eq_true rfl)⟩ hl.1 rfl rfl (Nat.le_of_ble_eq_true rfl) ⟨(Nat.le_of_ble_eq_true rfl), (Nat.le_of_ble_eq_true rfl)⟩ dX12_copyFrom_58) (fun y58 hy => ?_)
        obtain ⟨r58, rfl, g_r58, hw⟩ := hy
        refine lv_iload_n C.1 C.2.1 dX12_copyFrom_61 rfl (lv_at hl 1 rfl) ?_
        refine k_pi (k_runVM (rest := []) C aks Wd cs_X12_409 (mt_sets D h ad ca I (sF F 2 row_7) Wd.2 l4_7 r58 x1 g_l4_7 g_r58 g_x1 _ hw l _) rfl rfl ⟨(Nat.le_of_ble_eq_true rfl), (Nat.le_of_ble_eq_true rfl)⟩ hl.1 rfl rfl (Nat.le_of_ble_eq_true rfl) ⟨(Nat.le_of_ble_eq_true rfl), (Nat.le_of_ble_eq_true rfl)⟩ dX12_copyFrom_62) (fun y62 hy => ?_)
        obtain ⟨r62, rfl, g_r62, hw⟩ := hy
        refine lv_if_eq (tgt := 69) C.1 C.2.1 dX12_copyFrom_65 (by decide) (fun c65 => ?_) (fun c65 => ?_)
        · have hw := hw.1 (z0_eq g_r62 c65)
          exact J69  _ _ _ ⟨hw, wMc Wd rfl rfl ⟨hS.1, (rsF hS.2 (fun j => Wd7.2.2 2 j))⟩, lv_sub hl [0, 1, 2, 3] rfl⟩
        · have hw := hw.2 (z0_ne g_r62 c65)
          exact k_retMv C hr hlk Wd (u := row_7) rfl rfl ⟨hw, ⟨hS.1, (rsF hS.2 (fun j => Wd7.2.2 2 j))⟩⟩ dX12_copyFrom_68
    refine k_cut0 (fun  H locs ls => wp_copyFrom_40 K x1 x2 l4_7 row_7 L7 ∧ wXM D ca s h ad I (sF F 2 row_7) H A s.heap locs ∧ lv_has ls 6 [(0, .ref h), (2, .int (zI x1)), (3, .int (zI x2)), (4, .int (zI l4_7))]) (fun  ls => F0 m 40 ls []) (fun  H locs ls hi => ?_) (fun J40 => ?_)
    · obtain ⟨hw, Wd, hl⟩ := hi
      have Wd40 := Wd
      unfold wp_copyFrom_40 at hw
      refine lv_iconst (v := zI 1) C.1 C.2.1 dX12_copyFrom_40 (by decide) ?_
      refine lv_goto (tgt := 45) C.1 C.2.1 dX12_copyFrom_41 (by decide) ?_
      exact J45 1 _ _ _ ⟨(show rng 1 from by decide), hw, wMc Wd rfl rfl ⟨hS.1, (rsF hS.2 (fun j => Wd7.2.2 2 j))⟩, lv_sub hl [0, 1, 2, 3] rfl⟩
    refine lv_icmp_eq (tgt := 40) C.1 C.2.1 dX12_copyFrom_25 (by decide) (fun c25 => ?_) (fun c25 => ?_)
    · have hw := hw.1 (z_eq g22 (show rng 112 from by decide) c25)
      exact J40  _ _ _ ⟨hw, wMc Wd rfl rfl ⟨hS.1, (rsF hS.2 (fun j => Wd7.2.2 2 j))⟩, lv_sub hl [0, 1, 2, 3] rfl⟩
    · have hw := hw.2 (z_ne g22 (show rng 112 from by decide) c25)
      refine lv_aload_n C.1 C.2.1 dX12_copyFrom_28 rfl (lv_at hl 0 rfl) ?_
      refine k_get (v := .ref (ad 2)) C Wd.1 KX12 0 2 wM0 (by decide) fl_X12_16 rfl dX12_copyFrom_29 ?_
      refine lv_iload C.1 C.2.1 dX12_copyFrom_32 (lv_at hl 3 rfl) ?_
      obtain ⟨a34, hw⟩ := hw
      refine k_ialdM (g := row_7) C Wd 3 2 rfl rfl a34 (by decide) dX12_copyFrom_34 ?_
      refine lv_bipush (v := zI 115) C.1 C.2.1 dX12_copyFrom_35 (by decide) ?_
      refine lv_icmp_ne (tgt := 44) C.1 C.2.1 dX12_copyFrom_37 (by decide) (fun c37 => ?_) (fun c37 => ?_)
      · have hw := hw.1 (z_ne g22 (show rng 115 from by decide) c37)
        refine lv_iconst (v := zI 0) C.1 C.2.1 dX12_copyFrom_44 (by decide) ?_
        exact J45 0 _ _ _ ⟨(show rng 0 from by decide), hw, wMc Wd rfl rfl ⟨hS.1, (rsF hS.2 (fun j => Wd7.2.2 2 j))⟩, lv_sub hl [0, 1, 2, 3] rfl⟩
      · have hw := hw.2 (z_eq g22 (show rng 115 from by decide) c37)
        exact J40  _ _ _ ⟨hw, wMc Wd rfl rfl ⟨hS.1, (rsF hS.2 (fun j => Wd7.2.2 2 j))⟩, lv_sub hl [0, 1, 2, 3] rfl⟩
set_option maxHeartbeats 4000000 in
set_option maxRecDepth 100000 in
theorem mt_hastyCopy : ∀ (D : va_G) (h : Nat) (ad : Nat → Nat) (ca : Nat → ClassId) (I : Nat → Int) (F : Nat → Int → Int) (hS : rngS I F) (K : (Int → Int) → Prop) (hw : wp_hastyCopy (F 2) (I 4) K) (l : Launch) (sz : Nat), Met l yX12_hastyCopy (Cond.code yX12_hastyCopy cX12_hastyCopy 4 none :: gG) { frames := 608, cells := 0, slots := 0, locals := 12955 } (cPre D (tM ca) (wM h ad ca I F) sz [.ref h]) (va_Qv (fun (u : (Int → Int)) => K u ∧ rngS I (sF F 2 u)) (fun u t => cB D (va_A (wM h ad ca I F) sz) [] (wM h ad ca I (sF F 2 u)) t) (va_A (wM h ad ca I F) sz)) 0 0 (va_A (wM h ad ca I F) sz) := by
  intro D h ad ca I F hS  K hw l sz
  refine Met.ofW (cc := cX12_hastyCopy) (maxL := 4) (ret := none) (by decide) rfl ?_
  intro p e s m args below meth c s₁ B hml hv
  obtain ⟨rfl, aks, rfl, Wd⟩ := k_enter hv
  have C : CallFix p m c cX12_hastyCopy 4 s _ gG RX12 := ⟨B.exec, B.bytes, hml, findClass_of_methodNamed B.named, fun w h => atoms_spec (ws := Cond.code yX12_hastyCopy cX12_hastyCopy 4 none :: gG) B.pre w (List.mem_cons_of_mem _ h)⟩
  have hr := B.returns
  have hlk := B.notSynchronized
  generalize va_A (wM h ad ca I F) s.heap.size = A at Wd ⊢
  replace Wd : wXM D ca s h ad I F s.heap A s.heap [] := ⟨Wd, hS⟩
  refine k_locals (Nat.le_of_ble_eq_true rfl) [(0, .ref h)] rfl (fun ls hl => ?_)
  unfold wp_hastyCopy at hw
  refine lv_iconst (v := zI 0) C.1 C.2.1 dX12_hastyCopy_0 (by decide) ?_
  refine lv_istore_n (lv' := [(1, .int (zI 0)), (0, .ref h)]) C.1 C.2.1 dX12_hastyCopy_1 rfl hl (by decide) rfl (fun ls hl => ?_)
  replace hl := lv_sub hl [1, 0] rfl
  refine k_lp2 hw (fun (l1_2 : Int) (row_2 : Int → Int) H locs ls => rng l1_2 ∧ wXM D ca s h ad I (sF F 2 row_2) H A s.heap locs ∧ lv_has ls 4 [(0, .ref h), (1, .int (zI l1_2))]) (fun (l1_2 : Int) (row_2 : Int → Int) ls => F0 m 2 ls []) (fun L2 hL2 l1_2 row_2 hw H locs ls hi => ?_) _ _ _ ⟨(show rng 0 from by decide), wMc Wd rfl rfl ⟨hS.1, (rsF hS.2 (hS.2 2))⟩, lv_sub hl [0, 1] rfl⟩
  obtain ⟨g_l1_2, Wd, hl⟩ := hi
  have Wd2 := Wd
  unfold wp_hastyCopy_2 at hw
  refine lv_iload_n C.1 C.2.1 dX12_hastyCopy_2 rfl (lv_at hl 1 rfl) ?_
  refine lv_aload_n C.1 C.2.1 dX12_hastyCopy_3 rfl (lv_at hl 0 rfl) ?_
  refine k_get (v := .int (zI (I 4))) C Wd.1 KX12 0 4 wM0 (by decide) fl_X12_98 rfl dX12_hastyCopy_4 ?_
  refine lv_icmp_ge (tgt := 87) C.1 C.2.1 dX12_hastyCopy_7 (by decide) (fun c7 => ?_) (fun c7 => ?_)
  · have hw := hw.1 (z_le (hS.1 4) g_l1_2 c7)
    exact k_retMv C hr hlk Wd (u := row_2) rfl rfl ⟨hw, ⟨hS.1, (rsF hS.2 (fun j => Wd2.2.2 2 j))⟩⟩ dX12_hastyCopy_87
  · have hw := hw.2 (z_nle (hS.1 4) g_l1_2 c7)
    refine lv_aload_n C.1 C.2.1 dX12_hastyCopy_10 rfl (lv_at hl 0 rfl) ?_
    refine k_get (v := .ref (ad 2)) C Wd.1 KX12 0 2 wM0 (by decide) fl_X12_16 rfl dX12_hastyCopy_11 ?_
    refine lv_iload_n C.1 C.2.1 dX12_hastyCopy_14 rfl (lv_at hl 1 rfl) ?_
    obtain ⟨a15, hw⟩ := hw
    refine k_ialdM (g := row_2) C Wd 3 2 rfl rfl a15 (by decide) dX12_hastyCopy_15 ?_
    have g15 : rng (row_2 l1_2) := rngL (fun j => Wd2.2.2 2 j) a15
    refine lv_bipush (v := zI 100) C.1 C.2.1 dX12_hastyCopy_16 (by decide) ?_
    refine lv_bipush (v := zI 105) C.1 C.2.1 dX12_hastyCopy_18 (by decide) ?_
    refine k_pi (k_runS (rest := []) C aks Wd.1 cs_X12_90 (mt_isIn D (row_2 l1_2) 100 105 g15 (show rng 100 from by decide) (show rng 105 from by decide) _ hw l _) [] rfl (by decide) [] rfl rfl rfl ⟨(Nat.le_of_ble_eq_true rfl), (Nat.le_of_ble_eq_true rfl)⟩ hl.1 rfl rfl (Nat.le_of_ble_eq_true rfl) ⟨(Nat.le_of_ble_eq_true rfl), (Nat.le_of_ble_eq_true rfl)⟩ dX12_hastyCopy_20) (fun y20 hy => ?_)
    obtain ⟨r20, rfl, g_r20, hw⟩ := hy
    refine lv_if_eq (tgt := 81) C.1 C.2.1 dX12_hastyCopy_23 (by decide) (fun c23 => ?_) (fun c23 => ?_)
    · have hw := hw.1 (z0_eq g_r20 c23)
      refine lv_iinc (v := zI (l1_2 + 1)) (lv' := [(1, .int (zI (l1_2 + 1))), (0, .ref h)]) C.1 C.2.1 dX12_hastyCopy_81 hl (k := 1) rfl (zI_inc _ _ (by decide)) (by decide) rfl (fun ls hl => ?_)
      replace hl := lv_sub hl [1, 0] rfl
      refine lv_goto (tgt := 2) C.1 C.2.1 dX12_hastyCopy_84 (by decide) ?_
      obtain ⟨g84_0, hw⟩ := hw
      exact hL2 _ _ hw _ _ _ ⟨g84_0, wMc Wd rfl rfl ⟨hS.1, (rsF hS.2 (fun j => Wd2.2.2 2 j))⟩, lv_sub hl [0, 1] rfl⟩
    · have hw := hw.2 (z0_ne g_r20 c23)
      refine lv_aload_n C.1 C.2.1 dX12_hastyCopy_26 rfl (lv_at hl 0 rfl) ?_
      refine k_get (v := .ref (ad 2)) C Wd.1 KX12 0 2 wM0 (by decide) fl_X12_16 rfl dX12_hastyCopy_27 ?_
      refine lv_iload_n C.1 C.2.1 dX12_hastyCopy_30 rfl (lv_at hl 1 rfl) ?_
      refine lv_iconst (v := zI 1) C.1 C.2.1 dX12_hastyCopy_31 (by decide) ?_
      refine k_iadd (v := zI (l1_2 + 1)) C (zI_iadd _ _) dX12_hastyCopy_32 ?_
      obtain ⟨a33, hw⟩ := hw
      refine k_ialdM (g := row_2) C Wd 3 2 rfl rfl a33 (by decide) dX12_hastyCopy_33 ?_
      have g33 : rng (row_2 (l1_2 + 1)) := rngL (fun j => Wd2.2.2 2 j) a33
      refine lv_bipush (v := zI 20) C.1 C.2.1 dX12_hastyCopy_34 (by decide) ?_
      refine lv_bipush (v := zI 25) C.1 C.2.1 dX12_hastyCopy_36 (by decide) ?_
      refine k_pi (k_runS (rest := []) C aks Wd.1 cs_X12_90 (mt_isIn D (row_2 (l1_2 + 1)) 20 25 g33 (show rng 20 from by decide) (show rng 25 from by decide) _ hw l _) [] rfl (by decide) [] rfl rfl rfl ⟨(Nat.le_of_ble_eq_true rfl), (Nat.le_of_ble_eq_true rfl)⟩ hl.1 rfl rfl (Nat.le_of_ble_eq_true rfl) ⟨(Nat.le_of_ble_eq_true rfl), (Nat.le_of_ble_eq_true rfl)⟩ dX12_hastyCopy_38) (fun y38 hy => ?_)
      obtain ⟨r38, rfl, g_r38, hw⟩ := hy
      refine lv_if_ne (tgt := 47) C.1 C.2.1 dX12_hastyCopy_41 (by decide) (fun c41 => ?_) (fun c41 => ?_)
      · have hw := hw.1 (z0_ne g_r38 c41)
        refine lv_aload_n C.1 C.2.1 dX12_hastyCopy_47 rfl (lv_at hl 0 rfl) ?_
        refine k_get (v := .ref (ad 2)) C Wd.1 KX12 0 2 wM0 (by decide) fl_X12_16 rfl dX12_hastyCopy_48 ?_
        refine lv_iload_n C.1 C.2.1 dX12_hastyCopy_51 rfl (lv_at hl 1 rfl) ?_
        obtain ⟨a52, hw⟩ := hw
        refine k_ialdM (g := row_2) C Wd 3 2 rfl rfl a52 (by decide) dX12_hastyCopy_52 ?_
        refine lv_bipush (v := zI 100) C.1 C.2.1 dX12_hastyCopy_53 (by decide) ?_
        refine k_isub (v := zI ((row_2 l1_2) - 100)) C (zI_isub _ _) dX12_hastyCopy_55 ?_
        refine lv_istore_n (lv' := [(2, .int (zI ((row_2 l1_2) - 100))), (0, .ref h), (1, .int (zI l1_2))]) C.1 C.2.1 dX12_hastyCopy_56 rfl hl (by decide) rfl (fun ls hl => ?_)
        replace hl := lv_sub hl [1, 2, 0] rfl
        refine lv_aload_n C.1 C.2.1 dX12_hastyCopy_57 rfl (lv_at hl 0 rfl) ?_
        refine k_get (v := .ref (ad 2)) C Wd.1 KX12 0 2 wM0 (by decide) fl_X12_16 rfl dX12_hastyCopy_58 ?_
        refine lv_iload_n C.1 C.2.1 dX12_hastyCopy_61 rfl (lv_at hl 1 rfl) ?_
        refine lv_iconst (v := zI 1) C.1 C.2.1 dX12_hastyCopy_62 (by decide) ?_
        refine k_iadd (v := zI (l1_2 + 1)) C (zI_iadd _ _) dX12_hastyCopy_63 ?_
        obtain ⟨a64, hw⟩ := hw
        refine k_ialdM (g := row_2) C Wd 3 2 rfl rfl a64 (by decide) dX12_hastyCopy_64 ?_
        refine lv_bipush (v := zI 20) C.1 C.2.1 dX12_hastyCopy_65 (by decide) ?_
        refine k_isub (v := zI ((row_2 (l1_2 + 1)) - 20)) C (zI_isub _ _) dX12_hastyCopy_67 ?_
        refine lv_istore_n (lv' := [(3, .int (zI ((row_2 (l1_2 + 1)) - 20))), (0, .ref h), (1, .int (zI l1_2)), (2, .int (zI ((row_2 l1_2) - 100)))]) C.1 C.2.1 dX12_hastyCopy_68 rfl hl (by decide) rfl (fun ls hl => ?_)
        replace hl := lv_sub hl [1, 2, 3, 0] rfl
        refine lv_iload_n C.1 C.2.1 dX12_hastyCopy_69 rfl (lv_at hl 2 rfl) ?_
        refine lv_iload_n C.1 C.2.1 dX12_hastyCopy_70 rfl (lv_at hl 3 rfl) ?_
        obtain ⟨g71_0, hw⟩ := hw
        obtain ⟨g71_1, hw⟩ := hw
        refine lv_icmp_eq (tgt := 81) C.1 C.2.1 dX12_hastyCopy_71 (by decide) (fun c71 => ?_) (fun c71 => ?_)
        · have hw := hw.1 (z_eq g71_0 g71_1 c71)
          refine lv_iinc (v := zI (l1_2 + 1)) (lv' := [(1, .int (zI (l1_2 + 1))), (0, .ref h), (2, .int (zI ((row_2 l1_2) - 100))), (3, .int (zI ((row_2 (l1_2 + 1)) - 20)))]) C.1 C.2.1 dX12_hastyCopy_81 hl (k := 1) rfl (zI_inc _ _ (by decide)) (by decide) rfl (fun ls hl => ?_)
          replace hl := lv_sub hl [1, 0, 2, 3] rfl
          refine lv_goto (tgt := 2) C.1 C.2.1 dX12_hastyCopy_84 (by decide) ?_
          obtain ⟨g84_0, hw⟩ := hw
          exact hL2 _ _ hw _ _ _ ⟨g84_0, wMc Wd rfl rfl ⟨hS.1, (rsF hS.2 (fun j => Wd2.2.2 2 j))⟩, lv_sub hl [0, 1] rfl⟩
        · have hw := hw.2 (z_ne g71_0 g71_1 c71)
          refine lv_aload_n C.1 C.2.1 dX12_hastyCopy_74 rfl (lv_at hl 0 rfl) ?_
          refine lv_iload_n C.1 C.2.1 dX12_hastyCopy_75 rfl (lv_at hl 1 rfl) ?_
          refine lv_iload_n C.1 C.2.1 dX12_hastyCopy_76 rfl (lv_at hl 2 rfl) ?_
          refine lv_iload_n C.1 C.2.1 dX12_hastyCopy_77 rfl (lv_at hl 3 rfl) ?_
          refine k_cMv Wd (k_runVM (rest := []) C aks Wd cs_X12_416 (mt_copyFrom D h ad ca I (sF F 2 row_2) Wd.2 l1_2 ((row_2 l1_2) - 100) ((row_2 (l1_2 + 1)) - 20) g_l1_2 g71_0 g71_1 _ hw l _) rfl rfl ⟨(Nat.le_of_ble_eq_true rfl), (Nat.le_of_ble_eq_true rfl)⟩ hl.1 rfl rfl (Nat.le_of_ble_eq_true rfl) ⟨(Nat.le_of_ble_eq_true rfl), (Nat.le_of_ble_eq_true rfl)⟩ dX12_hastyCopy_78) (fun row_r78 H locs hw Wd => ?_)
          have Wc78 := Wd
          have Wd : wXM D ca s h ad I (sF F 2 row_r78) H A s.heap locs := wMc Wd rfl rfl ⟨hS.1, (rsF hS.2 (fun j => Wc78.2.2 2 j))⟩
          refine lv_iinc (v := zI (l1_2 + 1)) (lv' := [(1, .int (zI (l1_2 + 1))), (0, .ref h), (2, .int (zI ((row_2 l1_2) - 100))), (3, .int (zI ((row_2 (l1_2 + 1)) - 20)))]) C.1 C.2.1 dX12_hastyCopy_81 hl (k := 1) rfl (zI_inc _ _ (by decide)) (by decide) rfl (fun ls hl => ?_)
          replace hl := lv_sub hl [1, 0, 2, 3] rfl
          refine lv_goto (tgt := 2) C.1 C.2.1 dX12_hastyCopy_84 (by decide) ?_
          obtain ⟨g84_0, hw⟩ := hw
          exact hL2 _ _ hw _ _ _ ⟨g84_0, wMc Wd rfl rfl ⟨hS.1, (rsF hS.2 (fun j => Wc78.2.2 2 j))⟩, lv_sub hl [0, 1] rfl⟩
      · have hw := hw.2 (z0_eq g_r38 c41)
        refine lv_goto (tgt := 81) C.1 C.2.1 dX12_hastyCopy_44 (by decide) ?_
        refine lv_iinc (v := zI (l1_2 + 1)) (lv' := [(1, .int (zI (l1_2 + 1))), (0, .ref h)]) C.1 C.2.1 dX12_hastyCopy_81 hl (k := 1) rfl (zI_inc _ _ (by decide)) (by decide) rfl (fun ls hl => ?_)
        replace hl := lv_sub hl [1, 0] rfl
        refine lv_goto (tgt := 2) C.1 C.2.1 dX12_hastyCopy_84 (by decide) ?_
        obtain ⟨g84_0, hw⟩ := hw
        exact hL2 _ _ hw _ _ _ ⟨g84_0, wMc Wd rfl rfl ⟨hS.1, (rsF hS.2 (fun j => Wd2.2.2 2 j))⟩, lv_sub hl [0, 1] rfl⟩
set_option maxHeartbeats 4000000 in
set_option maxRecDepth 100000 in
theorem mg_unrolls (n : Nat) : (∀ (D : va_G) (h : Nat) (ad : Nat → Nat) (ca : Nat → ClassId) (I : Nat → Int) (F : Nat → Int → Int) (hS : rngS I F) (x0 : Int) (g_x0 : rng x0) (K : (Int → Int) → Int → Prop) (hw : wp_unrolls n (F 2) (F 3) (I 4) (I 5) x0 K) (l : Launch) (sz : Nat), Met l yX12_unrolls (Cond.code yX12_unrolls cX12_unrolls 4 none :: gG) { frames := 609 + n, cells := 0, slots := 0, locals := 12992 + 23 * n } (cPre D (tM ca) (wM h ad ca I F) sz [.ref h, .int (zI x0)]) (va_Qv (fun (u : (Int → Int) × (Int)) => K u.1 u.2 ∧ rngS (sI I 5 u.2) (sF F 3 u.1)) (fun u t => cB D (va_A (wM h ad ca I F) sz) [] (wM h ad ca (sI I 5 u.2) (sF F 3 u.1)) t) (va_A (wM h ad ca I F) sz)) 0 0 (va_A (wM h ad ca I F) sz)) := by
  induction n with
  | zero => exact (fun _ _ _ _ _ _ _ _ _ _ hw => absurd hw id)
  | succ n ih =>
    have ih_unrolls := ih
    intro D h ad ca I F hS x0 g_x0 K hw l sz
    refine Met.ofW (cc := cX12_unrolls) (maxL := 4) (ret := none) (by decide) rfl ?_
    intro p e s m args below meth c s₁ B hml hv
    obtain ⟨rfl, aks, rfl, Wd⟩ := k_enter hv
    have C : CallFix p m c cX12_unrolls 4 s _ gG RX12 := ⟨B.exec, B.bytes, hml, findClass_of_methodNamed B.named, fun w h => atoms_spec (ws := Cond.code yX12_unrolls cX12_unrolls 4 none :: gG) B.pre w (List.mem_cons_of_mem _ h)⟩
    have hr := B.returns
    have hlk := B.notSynchronized
    generalize va_A (wM h ad ca I F) s.heap.size = A at Wd ⊢
    replace Wd : wXM D ca s h ad I F s.heap A s.heap [] := ⟨Wd, hS⟩
    refine k_locals (Nat.le_of_ble_eq_true rfl) [(0, .ref h), (1, .int (zI x0))] rfl (fun ls hl => ?_)
    replace hw : wp_unrolls_b (wp_unrolls n) (F 2) (F 3) (I 4) (I 5) x0 K := hw
    unfold wp_unrolls_b at hw
    refine lv_iload_n C.1 C.2.1 dX12_unrolls_0 rfl (lv_at hl 1 rfl) ?_
    refine lv_istore_n (lv' := [(2, .int (zI x0)), (0, .ref h), (1, .int (zI x0))]) C.1 C.2.1 dX12_unrolls_1 rfl hl (by decide) rfl (fun ls hl => ?_)
    replace hl := lv_sub hl [1, 2, 0] rfl
    refine k_lp3 hw (fun (l2_2 : Int) (fresh_2 : Int → Int) (made_2 : Int) H locs ls => rng l2_2 ∧ wXM D ca s h ad (sI I 5 made_2) (sF F 3 fresh_2) H A s.heap locs ∧ lv_has ls 4 [(0, .ref h), (2, .int (zI l2_2))]) (fun (l2_2 : Int) (fresh_2 : Int → Int) (made_2 : Int) ls => F0 m 2 ls []) (fun L2 hL2 l2_2 fresh_2 made_2 hw H locs ls hi => ?_) _ _ _ ⟨g_x0, wMc Wd rfl rfl ⟨(rsI hS.1 (hS.1 5)), (rsF hS.2 (hS.2 3))⟩, lv_sub hl [0, 2] rfl⟩
    obtain ⟨g_l2_2, Wd, hl⟩ := hi
    have Wd2 := Wd
    unfold wp_unrolls_2 at hw
    refine lv_aload_n C.1 C.2.1 dX12_unrolls_2 rfl (lv_at hl 0 rfl) ?_
    refine lv_iload_n C.1 C.2.1 dX12_unrolls_3 rfl (lv_at hl 1 rfl) ?_
    refine k_pi (k_runVM (rest := []) C aks Wd cs_X12_107 (mt_isLast D h ad ca (sI I 5 made_2) (sF F 3 fresh_2) Wd.2 l2_2 g_l2_2 _ hw l _) rfl rfl ⟨(by show 1 + 1 ≤ 609 + (n + 1); omega), (by show 8 + (2 + 11) + (64) ≤ 12992 + 23 * (n + 1); omega)⟩ hl.1 rfl rfl (Nat.le_of_ble_eq_true rfl) ⟨(Nat.le_of_ble_eq_true rfl), (Nat.le_of_ble_eq_true rfl)⟩ dX12_unrolls_4) (fun y4 hy => ?_)
    obtain ⟨r4, rfl, g_r4, hw⟩ := hy
    refine lv_if_ne (tgt := 158) C.1 C.2.1 dX12_unrolls_7 (by decide) (fun c7 => ?_) (fun c7 => ?_)
    · have hw := hw.1 (z0_ne g_r4 c7)
      exact k_retMv C hr hlk Wd (u := (fresh_2, made_2)) rfl rfl ⟨hw, ⟨(rsI hS.1 (Wd2.2.1 5)), (rsF hS.2 (fun j => Wd2.2.2 3 j))⟩⟩ dX12_unrolls_158
    · have hw := hw.2 (z0_eq g_r4 c7)
      refine lv_aload_n C.1 C.2.1 dX12_unrolls_10 rfl (lv_at hl 0 rfl) ?_
      refine k_get (v := .ref (ad 2)) C Wd.1 KX12 0 2 wM0 (by decide) fl_X12_16 rfl dX12_unrolls_11 ?_
      refine lv_iload_n C.1 C.2.1 dX12_unrolls_14 rfl (lv_at hl 1 rfl) ?_
      obtain ⟨a15, hw⟩ := hw
      refine k_ialdM (g := (F 2)) C Wd 3 2 rfl rfl a15 (by decide) dX12_unrolls_15 ?_
      have g15 : rng ((F 2) l2_2) := rngL (hS.2 2) a15
      refine lv_bipush (v := zI 115) C.1 C.2.1 dX12_unrolls_16 (by decide) ?_
      refine k_cut2 (fun (fresh_149 : Int → Int) (made_149 : Int) H locs ls => wp_unrolls_149 (F 2) l2_2 L2 fresh_149 made_149 ∧ wXM D ca s h ad (sI I 5 made_149) (sF F 3 fresh_149) H A s.heap locs ∧ lv_has ls 4 [(0, .ref h), (2, .int (zI l2_2))]) (fun (fresh_149 : Int → Int) (made_149 : Int) ls => F0 m 149 ls []) (fun fresh_149 made_149 H locs ls hi => ?_) (fun J149 => ?_)
      · obtain ⟨hw, Wd, hl⟩ := hi
        have Wd149 := Wd
        unfold wp_unrolls_149 at hw
        refine lv_aload_n C.1 C.2.1 dX12_unrolls_149 rfl (lv_at hl 0 rfl) ?_
        refine lv_iload_n C.1 C.2.1 dX12_unrolls_150 rfl (lv_at hl 1 rfl) ?_
        refine k_pi (k_runVM (rest := []) C aks Wd cs_X12_104 (mt_behind D h ad ca (sI I 5 made_149) (sF F 3 fresh_149) Wd.2 l2_2 g_l2_2 _ hw l _) rfl rfl ⟨(by show 606 + 1 ≤ 609 + (n + 1); omega), (by show 8 + (3 + 11) + (12908) ≤ 12992 + 23 * (n + 1); omega)⟩ hl.1 rfl rfl (Nat.le_of_ble_eq_true rfl) ⟨(Nat.le_of_ble_eq_true rfl), (Nat.le_of_ble_eq_true rfl)⟩ dX12_unrolls_151) (fun y151 hy => ?_)
        obtain ⟨r151, rfl, g_r151, hw⟩ := hy
        refine lv_istore_n (lv' := [(2, .int (zI r151)), (0, .ref h)]) C.1 C.2.1 dX12_unrolls_154 rfl hl (by decide) rfl (fun ls hl => ?_)
        replace hl := lv_sub hl [1, 0] rfl
        refine lv_goto (tgt := 2) C.1 C.2.1 dX12_unrolls_155 (by decide) ?_
        exact hL2 _ _ _ hw _ _ _ ⟨g_r151, wMc Wd rfl rfl ⟨(rsI hS.1 (Wd149.2.1 5)), (rsF hS.2 (fun j => Wd149.2.2 3 j))⟩, lv_sub hl [0, 1] rfl⟩
      refine lv_icmp_ne (tgt := 66) C.1 C.2.1 dX12_unrolls_18 (by decide) (fun c18 => ?_) (fun c18 => ?_)
      · have hw := hw.1 (z_ne g15 (show rng 115 from by decide) c18)
        refine lv_aload_n C.1 C.2.1 dX12_unrolls_66 rfl (lv_at hl 0 rfl) ?_
        refine k_get (v := .ref (ad 2)) C Wd.1 KX12 0 2 wM0 (by decide) fl_X12_16 rfl dX12_unrolls_67 ?_
        refine lv_iload_n C.1 C.2.1 dX12_unrolls_70 rfl (lv_at hl 1 rfl) ?_
        obtain ⟨a71, hw⟩ := hw
        refine k_ialdM (g := (F 2)) C Wd 3 2 rfl rfl a71 (by decide) dX12_unrolls_71 ?_
        refine lv_bipush (v := zI 112) C.1 C.2.1 dX12_unrolls_72 (by decide) ?_
        refine lv_icmp_ne (tgt := 139) C.1 C.2.1 dX12_unrolls_74 (by decide) (fun c74 => ?_) (fun c74 => ?_)
        · have hw := hw.1 (z_ne g15 (show rng 112 from by decide) c74)
          refine lv_aload_n C.1 C.2.1 dX12_unrolls_139 rfl (lv_at hl 0 rfl) ?_
          refine lv_iload_n C.1 C.2.1 dX12_unrolls_140 rfl (lv_at hl 1 rfl) ?_
          refine lv_aload_n C.1 C.2.1 dX12_unrolls_141 rfl (lv_at hl 0 rfl) ?_
          refine lv_iload_n C.1 C.2.1 dX12_unrolls_142 rfl (lv_at hl 1 rfl) ?_
          refine k_pi (k_runVM (rest := [.int (zI l2_2), .ref h]) C aks Wd cs_X12_104 (mt_behind D h ad ca (sI I 5 made_2) (sF F 3 fresh_2) Wd.2 l2_2 g_l2_2 _ hw l _) rfl rfl ⟨(by show 606 + 1 ≤ 609 + (n + 1); omega), (by show 8 + (3 + 11) + (12908) ≤ 12992 + 23 * (n + 1); omega)⟩ hl.1 rfl rfl (Nat.le_of_ble_eq_true rfl) ⟨(Nat.le_of_ble_eq_true rfl), (Nat.le_of_ble_eq_true rfl)⟩ dX12_unrolls_143) (fun y143 hy => ?_)
          obtain ⟨r143, rfl, g_r143, hw⟩ := hy
          refine k_cMv Wd (k_runVM (rest := []) C aks Wd cs_X12_367 (mt_writes D h ad ca (sI I 5 made_2) (sF F 3 fresh_2) Wd.2 l2_2 r143 g_l2_2 g_r143 _ hw l _) rfl rfl ⟨(by show 2 + 1 ≤ 609 + (n + 1); omega), (by show 8 + (4 + 11) + (85) ≤ 12992 + 23 * (n + 1); omega)⟩ hl.1 rfl rfl (Nat.le_of_ble_eq_true rfl) ⟨(Nat.le_of_ble_eq_true rfl), (Nat.le_of_ble_eq_true rfl)⟩ dX12_unrolls_146) (fun u146 H locs hw Wd => ?_)
          obtain ⟨fresh_r146, made_r146⟩ := u146
          dsimp only at hw
          have Wc146 := Wd
          have Wd : wXM D ca s h ad (sI I 5 made_r146) (sF F 3 fresh_r146) H A s.heap locs := wMc Wd rfl rfl ⟨(rsI hS.1 (Wc146.2.1 5)), (rsF hS.2 (fun j => Wc146.2.2 3 j))⟩
          exact J149 fresh_r146 made_r146 _ _ _ ⟨hw, wMc Wd rfl rfl ⟨(rsI hS.1 (Wc146.2.1 5)), (rsF hS.2 (fun j => Wc146.2.2 3 j))⟩, lv_sub hl [0, 1] rfl⟩
        · have hw := hw.2 (z_eq g15 (show rng 112 from by decide) c74)
          refine lv_aload_n C.1 C.2.1 dX12_unrolls_77 rfl (lv_at hl 0 rfl) ?_
          refine lv_iload_n C.1 C.2.1 dX12_unrolls_78 rfl (lv_at hl 1 rfl) ?_
          refine lv_aload_n C.1 C.2.1 dX12_unrolls_79 rfl (lv_at hl 0 rfl) ?_
          refine lv_iload_n C.1 C.2.1 dX12_unrolls_80 rfl (lv_at hl 1 rfl) ?_
          refine k_pi (k_runVM (rest := [.int (zI l2_2), .ref h]) C aks Wd cs_X12_101 (mt_body D h ad ca (sI I 5 made_2) (sF F 3 fresh_2) Wd.2 l2_2 g_l2_2 _ hw l _) rfl rfl ⟨(by show 504 + 1 ≤ 609 + (n + 1); omega), (by show 8 + (2 + 11) + (10647) ≤ 12992 + 23 * (n + 1); omega)⟩ hl.1 rfl rfl (Nat.le_of_ble_eq_true rfl) ⟨(Nat.le_of_ble_eq_true rfl), (Nat.le_of_ble_eq_true rfl)⟩ dX12_unrolls_81) (fun y81 hy => ?_)
          obtain ⟨r81, rfl, g_r81, hw⟩ := hy
          refine k_cMv Wd (k_runVM (rest := []) C aks Wd cs_X12_367 (mt_writes D h ad ca (sI I 5 made_2) (sF F 3 fresh_2) Wd.2 l2_2 r81 g_l2_2 g_r81 _ hw l _) rfl rfl ⟨(by show 2 + 1 ≤ 609 + (n + 1); omega), (by show 8 + (4 + 11) + (85) ≤ 12992 + 23 * (n + 1); omega)⟩ hl.1 rfl rfl (Nat.le_of_ble_eq_true rfl) ⟨(Nat.le_of_ble_eq_true rfl), (Nat.le_of_ble_eq_true rfl)⟩ dX12_unrolls_84) (fun u84 H locs hw Wd => ?_)
          obtain ⟨fresh_r84, made_r84⟩ := u84
          dsimp only at hw
          have Wc84 := Wd
          have Wd : wXM D ca s h ad (sI I 5 made_r84) (sF F 3 fresh_r84) H A s.heap locs := wMc Wd rfl rfl ⟨(rsI hS.1 (Wc84.2.1 5)), (rsF hS.2 (fun j => Wc84.2.2 3 j))⟩
          refine lv_aload_n C.1 C.2.1 dX12_unrolls_87 rfl (lv_at hl 0 rfl) ?_
          refine lv_aload_n C.1 C.2.1 dX12_unrolls_88 rfl (lv_at hl 0 rfl) ?_
          refine lv_iload_n C.1 C.2.1 dX12_unrolls_89 rfl (lv_at hl 1 rfl) ?_
          refine k_pi (k_runVM (rest := [.ref h]) C aks Wd cs_X12_101 (mt_body D h ad ca (sI I 5 made_r84) (sF F 3 fresh_r84) Wd.2 l2_2 g_l2_2 _ hw l _) rfl rfl ⟨(by show 504 + 1 ≤ 609 + (n + 1); omega), (by show 8 + (2 + 11) + (10647) ≤ 12992 + 23 * (n + 1); omega)⟩ hl.1 rfl rfl (Nat.le_of_ble_eq_true rfl) ⟨(Nat.le_of_ble_eq_true rfl), (Nat.le_of_ble_eq_true rfl)⟩ dX12_unrolls_90) (fun y90 hy => ?_)
          obtain ⟨r90, rfl, g_r90, hw⟩ := hy
          refine k_cMv Wd (k_runVM (rest := []) C aks Wd cs_X12_420 (ih_unrolls D h ad ca (sI I 5 made_r84) (sF F 3 fresh_r84) Wd.2 r90 g_r90 _ hw l _) rfl rfl ⟨(by show 609 + n + 1 ≤ 609 + (n + 1); omega), (by show 8 + (4 + 11) + (12992 + 23 * n) ≤ 12992 + 23 * (n + 1); omega)⟩ hl.1 rfl rfl (Nat.le_of_ble_eq_true rfl) ⟨(Nat.le_of_ble_eq_true rfl), (Nat.le_of_ble_eq_true rfl)⟩ dX12_unrolls_93) (fun u93 H locs hw Wd => ?_)
          obtain ⟨fresh_r93, made_r93⟩ := u93
          dsimp only at hw
          have Wc93 := Wd
          have Wd : wXM D ca s h ad (sI I 5 made_r93) (sF F 3 fresh_r93) H A s.heap locs := wMc Wd rfl rfl ⟨(rsI hS.1 (Wc93.2.1 5)), (rsF hS.2 (fun j => Wc93.2.2 3 j))⟩
          refine lv_aload_n C.1 C.2.1 dX12_unrolls_96 rfl (lv_at hl 0 rfl) ?_
          refine lv_aload_n C.1 C.2.1 dX12_unrolls_97 rfl (lv_at hl 0 rfl) ?_
          refine lv_iload_n C.1 C.2.1 dX12_unrolls_98 rfl (lv_at hl 1 rfl) ?_
          refine k_pi (k_runVM (rest := [.ref h]) C aks Wd cs_X12_101 (mt_body D h ad ca (sI I 5 made_r93) (sF F 3 fresh_r93) Wd.2 l2_2 g_l2_2 _ hw l _) rfl rfl ⟨(by show 504 + 1 ≤ 609 + (n + 1); omega), (by show 8 + (2 + 11) + (10647) ≤ 12992 + 23 * (n + 1); omega)⟩ hl.1 rfl rfl (Nat.le_of_ble_eq_true rfl) ⟨(Nat.le_of_ble_eq_true rfl), (Nat.le_of_ble_eq_true rfl)⟩ dX12_unrolls_99) (fun y99 hy => ?_)
          obtain ⟨r99, rfl, g_r99, hw⟩ := hy
          refine k_pi (k_runVM (rest := []) C aks Wd cs_X12_309 (mt_close D h ad ca (sI I 5 made_r93) (sF F 3 fresh_r93) Wd.2 r99 g_r99 _ hw l _) rfl rfl ⟨(by show 607 + 1 ≤ 609 + (n + 1); omega), (by show 8 + (3 + 11) + (12930) ≤ 12992 + 23 * (n + 1); omega)⟩ hl.1 rfl rfl (Nat.le_of_ble_eq_true rfl) ⟨(Nat.le_of_ble_eq_true rfl), (Nat.le_of_ble_eq_true rfl)⟩ dX12_unrolls_102) (fun y102 hy => ?_)
          obtain ⟨r102, rfl, g_r102, hw⟩ := hy
          refine lv_istore_n (lv' := [(3, .int (zI r102)), (0, .ref h), (2, .int (zI l2_2))]) C.1 C.2.1 dX12_unrolls_105 rfl hl (by decide) rfl (fun ls hl => ?_)
          replace hl := lv_sub hl [1, 2, 0] rfl
          refine lv_aload_n C.1 C.2.1 dX12_unrolls_106 rfl (lv_at hl 0 rfl) ?_
          refine k_get (v := .ref (ad 2)) C Wd.1 KX12 0 2 wM0 (by decide) fl_X12_16 rfl dX12_unrolls_107 ?_
          refine lv_iload_n C.1 C.2.1 dX12_unrolls_110 rfl (lv_at hl 2 rfl) ?_
          obtain ⟨a111, hw⟩ := hw
          refine k_ialdM (g := (F 2)) C Wd 3 2 rfl rfl a111 (by decide) dX12_unrolls_111 ?_
          have g111 : rng ((F 2) r102) := rngL (hS.2 2) a111
          refine lv_bipush (v := zI 113) C.1 C.2.1 dX12_unrolls_112 (by decide) ?_
          refine k_cut2 (fun (fresh_130 : Int → Int) (made_130 : Int) H locs ls => wp_unrolls_130 (F 2) l2_2 L2 fresh_130 made_130 ∧ wXM D ca s h ad (sI I 5 made_130) (sF F 3 fresh_130) H A s.heap locs ∧ lv_has ls 4 [(0, .ref h), (2, .int (zI l2_2))]) (fun (fresh_130 : Int → Int) (made_130 : Int) ls => F0 m 130 ls []) (fun fresh_130 made_130 H locs ls hi => ?_) (fun J130 => ?_)
          · obtain ⟨hw, Wd, hl⟩ := hi
            have Wd130 := Wd
            unfold wp_unrolls_130 at hw
            refine lv_aload_n C.1 C.2.1 dX12_unrolls_130 rfl (lv_at hl 0 rfl) ?_
            refine lv_bipush (v := zI 114) C.1 C.2.1 dX12_unrolls_131 (by decide) ?_
            refine k_cMv Wd (k_runVM (rest := []) C aks Wd cs_X12_120 (mt_write D h ad ca (sI I 5 made_130) (sF F 3 fresh_130) Wd.2 114 (show rng 114 from by decide) _ hw l _) rfl rfl ⟨(by show 1 + 1 ≤ 609 + (n + 1); omega), (by show 8 + (2 + 11) + (64) ≤ 12992 + 23 * (n + 1); omega)⟩ hl.1 rfl rfl (Nat.le_of_ble_eq_true rfl) ⟨(Nat.le_of_ble_eq_true rfl), (Nat.le_of_ble_eq_true rfl)⟩ dX12_unrolls_133) (fun u133 H locs hw Wd => ?_)
            obtain ⟨fresh_r133, made_r133⟩ := u133
            dsimp only at hw
            have Wc133 := Wd
            have Wd : wXM D ca s h ad (sI I 5 made_r133) (sF F 3 fresh_r133) H A s.heap locs := wMc Wd rfl rfl ⟨(rsI hS.1 (Wc133.2.1 5)), (rsF hS.2 (fun j => Wc133.2.2 3 j))⟩
            refine lv_goto (tgt := 149) C.1 C.2.1 dX12_unrolls_136 (by decide) ?_
            exact J149 fresh_r133 made_r133 _ _ _ ⟨hw, wMc Wd rfl rfl ⟨(rsI hS.1 (Wc133.2.1 5)), (rsF hS.2 (fun j => Wc133.2.2 3 j))⟩, lv_sub hl [0, 1] rfl⟩
          refine lv_icmp_ne (tgt := 130) C.1 C.2.1 dX12_unrolls_114 (by decide) (fun c114 => ?_) (fun c114 => ?_)
          · have hw := hw.1 (z_ne g111 (show rng 113 from by decide) c114)
            exact J130 fresh_r93 made_r93 _ _ _ ⟨hw, wMc Wd rfl rfl ⟨(rsI hS.1 (Wc93.2.1 5)), (rsF hS.2 (fun j => Wc93.2.2 3 j))⟩, lv_sub hl [0, 1] rfl⟩
          · have hw := hw.2 (z_eq g111 (show rng 113 from by decide) c114)
            refine lv_aload_n C.1 C.2.1 dX12_unrolls_117 rfl (lv_at hl 0 rfl) ?_
            refine lv_bipush (v := zI 113) C.1 C.2.1 dX12_unrolls_118 (by decide) ?_
            refine k_cMv Wd (k_runVM (rest := []) C aks Wd cs_X12_120 (mt_write D h ad ca (sI I 5 made_r93) (sF F 3 fresh_r93) Wd.2 113 (show rng 113 from by decide) _ hw l _) rfl rfl ⟨(by show 1 + 1 ≤ 609 + (n + 1); omega), (by show 8 + (2 + 11) + (64) ≤ 12992 + 23 * (n + 1); omega)⟩ hl.1 rfl rfl (Nat.le_of_ble_eq_true rfl) ⟨(Nat.le_of_ble_eq_true rfl), (Nat.le_of_ble_eq_true rfl)⟩ dX12_unrolls_120) (fun u120 H locs hw Wd => ?_)
            obtain ⟨fresh_r120, made_r120⟩ := u120
            dsimp only at hw
            have Wc120 := Wd
            have Wd : wXM D ca s h ad (sI I 5 made_r120) (sF F 3 fresh_r120) H A s.heap locs := wMc Wd rfl rfl ⟨(rsI hS.1 (Wc120.2.1 5)), (rsF hS.2 (fun j => Wc120.2.2 3 j))⟩
            refine lv_aload_n C.1 C.2.1 dX12_unrolls_123 rfl (lv_at hl 0 rfl) ?_
            refine lv_iload_n C.1 C.2.1 dX12_unrolls_124 rfl (lv_at hl 2 rfl) ?_
            refine lv_iconst (v := zI 1) C.1 C.2.1 dX12_unrolls_125 (by decide) ?_
            refine k_iadd (v := zI (r102 + 1)) C (zI_iadd _ _) dX12_unrolls_126 ?_
            obtain ⟨g127_0, hw⟩ := hw
            refine k_cMv Wd (k_runVM (rest := []) C aks Wd cs_X12_420 (ih_unrolls D h ad ca (sI I 5 made_r120) (sF F 3 fresh_r120) Wd.2 (r102 + 1) g127_0 _ hw l _) rfl rfl ⟨(by show 609 + n + 1 ≤ 609 + (n + 1); omega), (by show 8 + (4 + 11) + (12992 + 23 * n) ≤ 12992 + 23 * (n + 1); omega)⟩ hl.1 rfl rfl (Nat.le_of_ble_eq_true rfl) ⟨(Nat.le_of_ble_eq_true rfl), (Nat.le_of_ble_eq_true rfl)⟩ dX12_unrolls_127) (fun u127 H locs hw Wd => ?_)
            obtain ⟨fresh_r127, made_r127⟩ := u127
            dsimp only at hw
            have Wc127 := Wd
            have Wd : wXM D ca s h ad (sI I 5 made_r127) (sF F 3 fresh_r127) H A s.heap locs := wMc Wd rfl rfl ⟨(rsI hS.1 (Wc127.2.1 5)), (rsF hS.2 (fun j => Wc127.2.2 3 j))⟩
            exact J130 fresh_r127 made_r127 _ _ _ ⟨hw, wMc Wd rfl rfl ⟨(rsI hS.1 (Wc127.2.1 5)), (rsF hS.2 (fun j => Wc127.2.2 3 j))⟩, lv_sub hl [0, 1] rfl⟩
      · have hw := hw.2 (z_eq g15 (show rng 115 from by decide) c18)
        refine lv_aload_n C.1 C.2.1 dX12_unrolls_21 rfl (lv_at hl 0 rfl) ?_
        refine lv_bipush (v := zI 112) C.1 C.2.1 dX12_unrolls_22 (by decide) ?_
        refine k_cMv Wd (k_runVM (rest := []) C aks Wd cs_X12_120 (mt_write D h ad ca (sI I 5 made_2) (sF F 3 fresh_2) Wd.2 112 (show rng 112 from by decide) _ hw l _) rfl rfl ⟨(by show 1 + 1 ≤ 609 + (n + 1); omega), (by show 8 + (2 + 11) + (64) ≤ 12992 + 23 * (n + 1); omega)⟩ hl.1 rfl rfl (Nat.le_of_ble_eq_true rfl) ⟨(Nat.le_of_ble_eq_true rfl), (Nat.le_of_ble_eq_true rfl)⟩ dX12_unrolls_24) (fun u24 H locs hw Wd => ?_)
        obtain ⟨fresh_r24, made_r24⟩ := u24
        dsimp only at hw
        have Wc24 := Wd
        have Wd : wXM D ca s h ad (sI I 5 made_r24) (sF F 3 fresh_r24) H A s.heap locs := wMc Wd rfl rfl ⟨(rsI hS.1 (Wc24.2.1 5)), (rsF hS.2 (fun j => Wc24.2.2 3 j))⟩
        refine lv_aload_n C.1 C.2.1 dX12_unrolls_27 rfl (lv_at hl 0 rfl) ?_
        refine lv_iload_n C.1 C.2.1 dX12_unrolls_28 rfl (lv_at hl 1 rfl) ?_
        refine lv_iconst (v := zI 1) C.1 C.2.1 dX12_unrolls_29 (by decide) ?_
        refine k_iadd (v := zI (l2_2 + 1)) C (zI_iadd _ _) dX12_unrolls_30 ?_
        refine lv_aload_n C.1 C.2.1 dX12_unrolls_31 rfl (lv_at hl 0 rfl) ?_
        refine lv_iload_n C.1 C.2.1 dX12_unrolls_32 rfl (lv_at hl 1 rfl) ?_
        refine k_pi (k_runVM (rest := [.int (zI (l2_2 + 1)), .ref h]) C aks Wd cs_X12_104 (mt_behind D h ad ca (sI I 5 made_r24) (sF F 3 fresh_r24) Wd.2 l2_2 g_l2_2 _ hw l _) rfl rfl ⟨(by show 606 + 1 ≤ 609 + (n + 1); omega), (by show 8 + (3 + 11) + (12908) ≤ 12992 + 23 * (n + 1); omega)⟩ hl.1 rfl rfl (Nat.le_of_ble_eq_true rfl) ⟨(Nat.le_of_ble_eq_true rfl), (Nat.le_of_ble_eq_true rfl)⟩ dX12_unrolls_33) (fun y33 hy => ?_)
        obtain ⟨r33, rfl, g_r33, hw⟩ := hy
        refine lv_iconst (v := zI 1) C.1 C.2.1 dX12_unrolls_36 (by decide) ?_
        refine k_isub (v := zI (r33 - 1)) C (zI_isub _ _) dX12_unrolls_37 ?_
        obtain ⟨g38_0, hw⟩ := hw
        obtain ⟨g38_1, hw⟩ := hw
        refine k_cMv Wd (k_runVM (rest := []) C aks Wd cs_X12_367 (mt_writes D h ad ca (sI I 5 made_r24) (sF F 3 fresh_r24) Wd.2 (l2_2 + 1) (r33 - 1) g38_0 g38_1 _ hw l _) rfl rfl ⟨(by show 2 + 1 ≤ 609 + (n + 1); omega), (by show 8 + (4 + 11) + (85) ≤ 12992 + 23 * (n + 1); omega)⟩ hl.1 rfl rfl (Nat.le_of_ble_eq_true rfl) ⟨(Nat.le_of_ble_eq_true rfl), (Nat.le_of_ble_eq_true rfl)⟩ dX12_unrolls_38) (fun u38 H locs hw Wd => ?_)
        obtain ⟨fresh_r38, made_r38⟩ := u38
        dsimp only at hw
        have Wc38 := Wd
        have Wd : wXM D ca s h ad (sI I 5 made_r38) (sF F 3 fresh_r38) H A s.heap locs := wMc Wd rfl rfl ⟨(rsI hS.1 (Wc38.2.1 5)), (rsF hS.2 (fun j => Wc38.2.2 3 j))⟩
        refine lv_aload_n C.1 C.2.1 dX12_unrolls_41 rfl (lv_at hl 0 rfl) ?_
        refine lv_iload_n C.1 C.2.1 dX12_unrolls_42 rfl (lv_at hl 1 rfl) ?_
        refine lv_aload_n C.1 C.2.1 dX12_unrolls_43 rfl (lv_at hl 0 rfl) ?_
        refine lv_iload_n C.1 C.2.1 dX12_unrolls_44 rfl (lv_at hl 1 rfl) ?_
        refine k_pi (k_runVM (rest := [.int (zI l2_2), .ref h]) C aks Wd cs_X12_104 (mt_behind D h ad ca (sI I 5 made_r38) (sF F 3 fresh_r38) Wd.2 l2_2 g_l2_2 _ hw l _) rfl rfl ⟨(by show 606 + 1 ≤ 609 + (n + 1); omega), (by show 8 + (3 + 11) + (12908) ≤ 12992 + 23 * (n + 1); omega)⟩ hl.1 rfl rfl (Nat.le_of_ble_eq_true rfl) ⟨(Nat.le_of_ble_eq_true rfl), (Nat.le_of_ble_eq_true rfl)⟩ dX12_unrolls_45) (fun y45 hy => ?_)
        obtain ⟨r45, rfl, g_r45, hw⟩ := hy
        refine k_cMv Wd (k_runVM (rest := []) C aks Wd cs_X12_367 (mt_writes D h ad ca (sI I 5 made_r38) (sF F 3 fresh_r38) Wd.2 l2_2 r45 g_l2_2 g_r45 _ hw l _) rfl rfl ⟨(by show 2 + 1 ≤ 609 + (n + 1); omega), (by show 8 + (4 + 11) + (85) ≤ 12992 + 23 * (n + 1); omega)⟩ hl.1 rfl rfl (Nat.le_of_ble_eq_true rfl) ⟨(Nat.le_of_ble_eq_true rfl), (Nat.le_of_ble_eq_true rfl)⟩ dX12_unrolls_48) (fun u48 H locs hw Wd => ?_)
        obtain ⟨fresh_r48, made_r48⟩ := u48
        dsimp only at hw
        have Wc48 := Wd
        have Wd : wXM D ca s h ad (sI I 5 made_r48) (sF F 3 fresh_r48) H A s.heap locs := wMc Wd rfl rfl ⟨(rsI hS.1 (Wc48.2.1 5)), (rsF hS.2 (fun j => Wc48.2.2 3 j))⟩
        refine lv_aload_n C.1 C.2.1 dX12_unrolls_51 rfl (lv_at hl 0 rfl) ?_
        refine lv_bipush (v := zI 113) C.1 C.2.1 dX12_unrolls_52 (by decide) ?_
        refine k_cMv Wd (k_runVM (rest := []) C aks Wd cs_X12_120 (mt_write D h ad ca (sI I 5 made_r48) (sF F 3 fresh_r48) Wd.2 113 (show rng 113 from by decide) _ hw l _) rfl rfl ⟨(by show 1 + 1 ≤ 609 + (n + 1); omega), (by show 8 + (2 + 11) + (64) ≤ 12992 + 23 * (n + 1); omega)⟩ hl.1 rfl rfl (Nat.le_of_ble_eq_true rfl) ⟨(Nat.le_of_ble_eq_true rfl), (Nat.le_of_ble_eq_true rfl)⟩ dX12_unrolls_54) (fun u54 H locs hw Wd => ?_)
        obtain ⟨fresh_r54, made_r54⟩ := u54
        dsimp only at hw
        have Wc54 := Wd
        have Wd : wXM D ca s h ad (sI I 5 made_r54) (sF F 3 fresh_r54) H A s.heap locs := wMc Wd rfl rfl ⟨(rsI hS.1 (Wc54.2.1 5)), (rsF hS.2 (fun j => Wc54.2.2 3 j))⟩
        refine lv_aload_n C.1 C.2.1 dX12_unrolls_57 rfl (lv_at hl 0 rfl) ?_
        refine lv_bipush (v := zI 114) C.1 C.2.1 dX12_unrolls_58 (by decide) ?_
        refine k_cMv Wd (k_runVM (rest := []) C aks Wd cs_X12_120 (mt_write D h ad ca (sI I 5 made_r54) (sF F 3 fresh_r54) Wd.2 114 (show rng 114 from by decide) _ hw l _) rfl rfl ⟨(by show 1 + 1 ≤ 609 + (n + 1); omega), (by show 8 + (2 + 11) + (64) ≤ 12992 + 23 * (n + 1); omega)⟩ hl.1 rfl rfl (Nat.le_of_ble_eq_true rfl) ⟨(Nat.le_of_ble_eq_true rfl), (Nat.le_of_ble_eq_true rfl)⟩ dX12_unrolls_60) (fun u60 H locs hw Wd => ?_)
        obtain ⟨fresh_r60, made_r60⟩ := u60
        dsimp only at hw
        have Wc60 := Wd
        have Wd : wXM D ca s h ad (sI I 5 made_r60) (sF F 3 fresh_r60) H A s.heap locs := wMc Wd rfl rfl ⟨(rsI hS.1 (Wc60.2.1 5)), (rsF hS.2 (fun j => Wc60.2.2 3 j))⟩
        refine lv_goto (tgt := 149) C.1 C.2.1 dX12_unrolls_63 (by decide) ?_
        exact J149 fresh_r60 made_r60 _ _ _ ⟨hw, wMc Wd rfl rfl ⟨(rsI hS.1 (Wc60.2.1 5)), (rsF hS.2 (fun j => Wc60.2.2 3 j))⟩, lv_sub hl [0, 1] rfl⟩
theorem mt_unrolls : ∀ (D : va_G) (h : Nat) (ad : Nat → Nat) (ca : Nat → ClassId) (I : Nat → Int) (F : Nat → Int → Int) (hS : rngS I F) (x0 : Int) (g_x0 : rng x0) (K : (Int → Int) → Int → Prop) (hw : wp_unrolls 100 (F 2) (F 3) (I 4) (I 5) x0 K) (l : Launch) (sz : Nat), Met l yX12_unrolls (Cond.code yX12_unrolls cX12_unrolls 4 none :: gG) { frames := 709, cells := 0, slots := 0, locals := 15292 } (cPre D (tM ca) (wM h ad ca I F) sz [.ref h, .int (zI x0)]) (va_Qv (fun (u : (Int → Int) × (Int)) => K u.1 u.2 ∧ rngS (sI I 5 u.2) (sF F 3 u.1)) (fun u t => cB D (va_A (wM h ad ca I F) sz) [] (wM h ad ca (sI I 5 u.2) (sF F 3 u.1)) t) (va_A (wM h ad ca I F) sz)) 0 0 (va_A (wM h ad ca I F) sz) := mg_unrolls 100
