set_option maxHeartbeats 4000000 in
set_option maxRecDepth 100000 in
theorem mt_bad : ∀ (D : va_G) (h : Nat) (ad : Nat → Nat) (ca : Nat → ClassId) (I : Nat → Int) (F : Nat → Int → Int) (hS : rngS I F) (x0 : Int) (g_x0 : rng x0) (K : Int → Int → Int → Prop) (hw : wp_bad (I 10) (I 12) (I 13) x0 K) (l : Launch) (sz : Nat), Met l yX12_bad (Cond.code yX12_bad cX12_bad 2 (some .boolean) :: gG) { frames := 1, cells := 0, slots := 0, locals := 64 } (cPre D (tM ca) (wM h ad ca I F) sz [.ref h, .int (zI x0)]) (va_Qi (fun (r : Int32) (u : (Int) × (Int)) => (∃ x : Int, r = zI x ∧ rng x ∧ K x u.1 u.2) ∧ rngS (sI (sI I 12 u.1) 13 u.2) F) (fun u t => cB D (va_A (wM h ad ca I F) sz) [] (wM h ad ca (sI (sI I 12 u.1) 13 u.2) F) t) (va_A (wM h ad ca I F) sz)) 0 0 (va_A (wM h ad ca I F) sz) := by
  intro D h ad ca I F hS x0 g_x0 K hw l sz
  refine Met.ofW (cc := cX12_bad) (maxL := 2) (ret := (some .boolean)) (by decide) rfl ?_
  intro p e s m args below meth c s₁ B hml hv
  obtain ⟨rfl, aks, rfl, Wd⟩ := k_enter hv
  have C : CallFix p m c cX12_bad 2 s _ gG RX12 := ⟨B.exec, B.bytes, hml, findClass_of_methodNamed B.named, fun w h => atoms_spec (ws := Cond.code yX12_bad cX12_bad 2 (some .boolean) :: gG) B.pre w (List.mem_cons_of_mem _ h)⟩
  have hr := B.returns
  have hlk := B.notSynchronized
  generalize va_A (wM h ad ca I F) s.heap.size = A at Wd ⊢
  replace Wd : wXM D ca s h ad I F s.heap A s.heap [] := ⟨Wd, hS⟩
  refine k_locals (Nat.le_of_ble_eq_true rfl) [(0, .ref h), (1, .int (zI x0))] rfl (fun ls hl => ?_)
  unfold wp_bad at hw
  refine lv_aload_n C.1 C.2.1 dX12_bad_0 rfl (lv_at hl 0 rfl) ?_
  refine lv_iload_n C.1 C.2.1 dX12_bad_1 rfl (lv_at hl 1 rfl) ?_
  refine k_putM C Wd 12 (sI I 12 x0) (by decide) fl_X12_179 rfl rfl rfl rfl (rsI hS.1 g_x0) dX12_bad_2 (fun H locs Wd => ?_)
  refine lv_aload_n C.1 C.2.1 dX12_bad_5 rfl (lv_at hl 0 rfl) ?_
  refine lv_aload_n C.1 C.2.1 dX12_bad_6 rfl (lv_at hl 0 rfl) ?_
  refine k_get (v := .int (zI (I 10))) C Wd.1 KX12 0 10 wM0 (by decide) fl_X12_130 rfl dX12_bad_7 ?_
  refine k_putM C Wd 13 (sI (sI I 12 x0) 13 (I 10)) (by decide) fl_X12_182 rfl rfl rfl rfl (rsI (rsI hS.1 g_x0) (hS.1 10)) dX12_bad_10 (fun H locs Wd => ?_)
  refine lv_iconst (v := zI 0) C.1 C.2.1 dX12_bad_13 (by decide) ?_
  exact k_retMi C hr hlk (by decide) Wd (u := (x0, (I 10))) rfl rfl ⟨⟨_, rfl, (show rng 0 from by decide), hw⟩, ⟨(rsI (rsI hS.1 g_x0) (hS.1 10)), hS.2⟩⟩ dX12_bad_14
set_option maxHeartbeats 4000000 in
set_option maxRecDepth 100000 in
theorem mt_need : ∀ (D : va_G) (h : Nat) (ad : Nat → Nat) (ca : Nat → ClassId) (I : Nat → Int) (F : Nat → Int → Int) (hS : rngS I F) (adK adV : Nat → Nat) (tq : Nat) (x0 : Int) (g_x0 : rng x0) (K : Int → Int → Int → Int → Int → Int → Int → Prop) (hw : wp_need (F 6) (I 7) (I 8) (I 9) (I 10) (I 11) (I 12) (I 13) (I 21) x0 K) (l : Launch) (sz : Nat), Met l yX12_need (Cond.code yX12_need cX12_need 2 (some .boolean) :: gG) { frames := 8, cells := 0, slots := 0, locals := 366 } (cPS RX12 ixM adK adV tq D (tM ca) (wM h ad ca I F) sz [.ref h, .int (zI x0)]) (va_Qi (fun (r : Int32) (u : (Int) × (Int) × (Int) × (Int) × (Int) × (Int)) => (∃ x : Int, r = zI x ∧ rng x ∧ K x u.1 u.2.1 u.2.2.1 u.2.2.2.1 u.2.2.2.2.1 u.2.2.2.2.2) ∧ rngS (sI (sI (sI (sI (sI (sI I 8 u.1) 9 u.2.1) 10 u.2.2.1) 11 u.2.2.2.1) 12 u.2.2.2.2.1) 13 u.2.2.2.2.2) F) (fun u t => cB D (va_A (wM h ad ca I F) sz) [] (wM h ad ca (sI (sI (sI (sI (sI (sI I 8 u.1) 9 u.2.1) 10 u.2.2.1) 11 u.2.2.2.1) 12 u.2.2.2.2.1) 13 u.2.2.2.2.2) F) t) (va_A (wM h ad ca I F) sz)) 0 0 (va_A (wM h ad ca I F) sz) := by
  intro D h ad ca I F hS adK adV tq x0 g_x0 K hw l sz
  refine Met.ofW (cc := cX12_need) (maxL := 2) (ret := (some .boolean)) (by decide) rfl ?_
  intro p e s m args below meth c s₁ B hml hv
  obtain ⟨hv, hE⟩ := hv
  obtain ⟨rfl, aks, rfl, Wd⟩ := k_enter hv
  have C : CallFix p m c cX12_need 2 s _ gG RX12 := ⟨B.exec, B.bytes, hml, findClass_of_methodNamed B.named, fun w h => atoms_spec (ws := Cond.code yX12_need cX12_need 2 (some .boolean) :: gG) B.pre w (List.mem_cons_of_mem _ h)⟩
  have hr := B.returns
  have hlk := B.notSynchronized
  generalize va_A (wM h ad ca I F) s.heap.size = A at Wd hE ⊢
  replace Wd : wXM D ca s h ad I F s.heap A s.heap [] := ⟨Wd, hS⟩
  refine k_locals (Nat.le_of_ble_eq_true rfl) [(0, .ref h), (1, .int (zI x0))] rfl (fun ls hl => ?_)
  unfold wp_need at hw
  refine lv_aload_n C.1 C.2.1 dX12_need_0 rfl (lv_at hl 0 rfl) ?_
  refine k_get (v := .int (zI (I 9))) C Wd.1 KX12 0 9 wM0 (by decide) fl_X12_164 rfl dX12_need_1 ?_
  refine lv_iload_n C.1 C.2.1 dX12_need_4 rfl (lv_at hl 1 rfl) ?_
  refine lv_icmp_eq (tgt := 14) C.1 C.2.1 dX12_need_5 (by decide) (fun c5 => ?_) (fun c5 => ?_)
  · have hw := hw.1 (z_eq (hS.1 9) g_x0 c5)
    refine lv_aload_n C.1 C.2.1 dX12_need_14 rfl (lv_at hl 0 rfl) ?_
    refine k_cMv Wd (k_runVMS (rest := []) C aks hE Wd cs_X12_188 (mt_next0 D h ad ca I F Wd.2 adK adV tq   _ hw l _) rfl rfl ⟨(Nat.le_of_ble_eq_true rfl), (Nat.le_of_ble_eq_true rfl)⟩ hl.1 rfl rfl (Nat.le_of_ble_eq_true rfl) ⟨(Nat.le_of_ble_eq_true rfl), (Nat.le_of_ble_eq_true rfl)⟩ dX12_need_15) (fun u15 H locs hw Wd => ?_)
    obtain ⟨at0_r15, token_r15, tokenAt_r15, value_r15⟩ := u15
    dsimp only at hw
    have Wc15 := Wd
    have Wd : wXM D ca s h ad (sI (sI (sI (sI I 8 at0_r15) 9 token_r15) 10 tokenAt_r15) 11 value_r15) F H A s.heap locs := wMc Wd rfl rfl ⟨(rsI (rsI (rsI (rsI hS.1 (Wc15.2.1 8)) (Wc15.2.1 9)) (Wc15.2.1 10)) (Wc15.2.1 11)), hS.2⟩
    refine lv_iconst (v := zI 1) C.1 C.2.1 dX12_need_18 (by decide) ?_
    exact k_retMi C hr hlk (by decide) Wd (u := (at0_r15, token_r15, tokenAt_r15, value_r15, (I 12), (I 13))) rfl rfl ⟨⟨_, rfl, (show rng 1 from by decide), hw⟩, ⟨(rsI (rsI (rsI (rsI (rsI (rsI hS.1 (Wc15.2.1 8)) (Wc15.2.1 9)) (Wc15.2.1 10)) (Wc15.2.1 11)) (hS.1 12)) (hS.1 13)), hS.2⟩⟩ dX12_need_19
  · have hw := hw.2 (z_ne (hS.1 9) g_x0 c5)
    refine lv_aload_n C.1 C.2.1 dX12_need_8 rfl (lv_at hl 0 rfl) ?_
    refine lv_iconst (v := zI 1) C.1 C.2.1 dX12_need_9 (by decide) ?_
    refine k_cMi Wd (k_runVM (rest := []) C aks Wd cs_X12_185 (mt_bad D h ad ca I F Wd.2 1 (show rng 1 from by decide) _ hw l _) rfl rfl ⟨(Nat.le_of_ble_eq_true rfl), (Nat.le_of_ble_eq_true rfl)⟩ hl.1 rfl rfl (Nat.le_of_ble_eq_true rfl) ⟨(Nat.le_of_ble_eq_true rfl), (Nat.le_of_ble_eq_true rfl)⟩ dX12_need_10) (fun r10 u10 H locs g_r10 hw Wd => ?_)
    obtain ⟨wrong_r10, wrongAt_r10⟩ := u10
    dsimp only at hw
    have Wc10 := Wd
    have Wd : wXM D ca s h ad (sI (sI I 12 wrong_r10) 13 wrongAt_r10) F H A s.heap locs := wMc Wd rfl rfl ⟨(rsI (rsI hS.1 (Wc10.2.1 12)) (Wc10.2.1 13)), hS.2⟩
    obtain ⟨b13_0, hw⟩ := hw
    exact k_retMi C hr hlk (zI_nb b13_0) Wd (u := ((I 8), (I 9), (I 10), (I 11), wrong_r10, wrongAt_r10)) rfl rfl ⟨⟨_, rfl, g_r10, hw⟩, ⟨(rsI (rsI (rsI (rsI (rsI (rsI hS.1 (hS.1 8)) (hS.1 9)) (hS.1 10)) (hS.1 11)) (Wc10.2.1 12)) (Wc10.2.1 13)), hS.2⟩⟩ dX12_need_13
set_option maxHeartbeats 4000000 in
set_option maxRecDepth 100000 in
theorem mt_opens : ∀ (D : va_G) (h : Nat) (ad : Nat → Nat) (ca : Nat → ClassId) (I : Nat → Int) (F : Nat → Int → Int) (hS : rngS I F) (adK adV : Nat → Nat) (tq : Nat) (x0 : Int) (g_x0 : rng x0) (K : Int → Int → Int → Int → Int → Int → Int → Int → Prop) (hw : wp_opens (F 6) (I 7) (I 8) (I 9) (I 10) (I 11) (I 12) (I 13) (I 15) (I 21) x0 K) (l : Launch) (sz : Nat), Met l yX12_opens (Cond.code yX12_opens cX12_opens 2 (some .boolean) :: gG) { frames := 8, cells := 0, slots := 0, locals := 366 } (cPS RX12 ixM adK adV tq D (tM ca) (wM h ad ca I F) sz [.ref h, .int (zI x0)]) (va_Qi (fun (r : Int32) (u : (Int) × (Int) × (Int) × (Int) × (Int) × (Int) × (Int)) => (∃ x : Int, r = zI x ∧ rng x ∧ K x u.1 u.2.1 u.2.2.1 u.2.2.2.1 u.2.2.2.2.1 u.2.2.2.2.2.1 u.2.2.2.2.2.2) ∧ rngS (sI (sI (sI (sI (sI (sI (sI I 8 u.1) 9 u.2.1) 10 u.2.2.1) 11 u.2.2.2.1) 12 u.2.2.2.2.1) 13 u.2.2.2.2.2.1) 15 u.2.2.2.2.2.2) F) (fun u t => cB D (va_A (wM h ad ca I F) sz) [] (wM h ad ca (sI (sI (sI (sI (sI (sI (sI I 8 u.1) 9 u.2.1) 10 u.2.2.1) 11 u.2.2.2.1) 12 u.2.2.2.2.1) 13 u.2.2.2.2.2.1) 15 u.2.2.2.2.2.2) F) t) (va_A (wM h ad ca I F) sz)) 0 0 (va_A (wM h ad ca I F) sz) := by
  intro D h ad ca I F hS adK adV tq x0 g_x0 K hw l sz
  refine Met.ofW (cc := cX12_opens) (maxL := 2) (ret := (some .boolean)) (by decide) rfl ?_
  intro p e s m args below meth c s₁ B hml hv
  obtain ⟨hv, hE⟩ := hv
  obtain ⟨rfl, aks, rfl, Wd⟩ := k_enter hv
  have C : CallFix p m c cX12_opens 2 s _ gG RX12 := ⟨B.exec, B.bytes, hml, findClass_of_methodNamed B.named, fun w h => atoms_spec (ws := Cond.code yX12_opens cX12_opens 2 (some .boolean) :: gG) B.pre w (List.mem_cons_of_mem _ h)⟩
  have hr := B.returns
  have hlk := B.notSynchronized
  generalize va_A (wM h ad ca I F) s.heap.size = A at Wd hE ⊢
  replace Wd : wXM D ca s h ad I F s.heap A s.heap [] := ⟨Wd, hS⟩
  refine k_locals (Nat.le_of_ble_eq_true rfl) [(0, .ref h), (1, .int (zI x0))] rfl (fun ls hl => ?_)
  unfold wp_opens at hw
  refine lv_aload_n C.1 C.2.1 dX12_opens_0 rfl (lv_at hl 0 rfl) ?_
  refine k_get (v := .int (zI (I 9))) C Wd.1 KX12 0 9 wM0 (by decide) fl_X12_164 rfl dX12_opens_1 ?_
  refine lv_iload_n C.1 C.2.1 dX12_opens_4 rfl (lv_at hl 1 rfl) ?_
  refine lv_icmp_eq (tgt := 14) C.1 C.2.1 dX12_opens_5 (by decide) (fun c5 => ?_) (fun c5 => ?_)
  · have hw := hw.1 (z_eq (hS.1 9) g_x0 c5)
    refine lv_aload_n C.1 C.2.1 dX12_opens_14 rfl (lv_at hl 0 rfl) ?_
    refine k_get (v := .int (zI (I 15))) C Wd.1 KX12 0 15 wM0 (by decide) fl_X12_191 rfl dX12_opens_15 ?_
    refine lv_bipush (v := zI 8) C.1 C.2.1 dX12_opens_18 (by decide) ?_
    refine lv_icmp_ne (tgt := 29) C.1 C.2.1 dX12_opens_20 (by decide) (fun c20 => ?_) (fun c20 => ?_)
    · have hw := hw.1 (z_ne (hS.1 15) (show rng 8 from by decide) c20)
      refine lv_aload_n C.1 C.2.1 dX12_opens_29 rfl (lv_at hl 0 rfl) ?_
      refine lv_dup C.1 C.2.1 dX12_opens_30 rfl ?_
      refine k_get (v := .int (zI (I 15))) C Wd.1 KX12 0 15 wM0 (by decide) fl_X12_191 rfl dX12_opens_31 ?_
      refine lv_iconst (v := zI 1) C.1 C.2.1 dX12_opens_34 (by decide) ?_
      refine k_iadd (v := zI ((I 15) + 1)) C (zI_iadd _ _) dX12_opens_35 ?_
      obtain ⟨g36_0, hw⟩ := hw
      refine k_putM C Wd 15 (sI I 15 ((I 15) + 1)) (by decide) fl_X12_191 rfl rfl rfl rfl (rsI hS.1 g36_0) dX12_opens_36 (fun H locs Wd => ?_)
      refine lv_aload_n C.1 C.2.1 dX12_opens_39 rfl (lv_at hl 0 rfl) ?_
      refine k_cMv Wd (k_runVMS (rest := []) C aks hE Wd cs_X12_188 (mt_next0 D h ad ca (sI I 15 ((I 15) + 1)) F Wd.2 adK adV tq   _ hw l _) rfl rfl ⟨(Nat.le_of_ble_eq_true rfl), (Nat.le_of_ble_eq_true rfl)⟩ hl.1 rfl rfl (Nat.le_of_ble_eq_true rfl) ⟨(Nat.le_of_ble_eq_true rfl), (Nat.le_of_ble_eq_true rfl)⟩ dX12_opens_40) (fun u40 H locs hw Wd => ?_)
      obtain ⟨at0_r40, token_r40, tokenAt_r40, value_r40⟩ := u40
      dsimp only at hw
      have Wc40 := Wd
      have Wd : wXM D ca s h ad (sI (sI (sI (sI (sI I 8 at0_r40) 9 token_r40) 10 tokenAt_r40) 11 value_r40) 15 ((I 15) + 1)) F H A s.heap locs := wMc Wd rfl rfl ⟨(rsI (rsI (rsI (rsI (rsI hS.1 (Wc40.2.1 8)) (Wc40.2.1 9)) (Wc40.2.1 10)) (Wc40.2.1 11)) g36_0), hS.2⟩
      refine lv_iconst (v := zI 1) C.1 C.2.1 dX12_opens_43 (by decide) ?_
      exact k_retMi C hr hlk (by decide) Wd (u := (at0_r40, token_r40, tokenAt_r40, value_r40, (I 12), (I 13), ((I 15) + 1))) rfl rfl ⟨⟨_, rfl, (show rng 1 from by decide), hw⟩, ⟨(rsI (rsI (rsI (rsI (rsI (rsI (rsI hS.1 (Wc40.2.1 8)) (Wc40.2.1 9)) (Wc40.2.1 10)) (Wc40.2.1 11)) (hS.1 12)) (hS.1 13)) g36_0), hS.2⟩⟩ dX12_opens_44
    · have hw := hw.2 (z_eq (hS.1 15) (show rng 8 from by decide) c20)
      refine lv_aload_n C.1 C.2.1 dX12_opens_23 rfl (lv_at hl 0 rfl) ?_
      refine lv_iconst (v := zI 3) C.1 C.2.1 dX12_opens_24 (by decide) ?_
      refine k_cMi Wd (k_runVM (rest := []) C aks Wd cs_X12_185 (mt_bad D h ad ca I F Wd.2 3 (show rng 3 from by decide) _ hw l _) rfl rfl ⟨(Nat.le_of_ble_eq_true rfl), (Nat.le_of_ble_eq_true rfl)⟩ hl.1 rfl rfl (Nat.le_of_ble_eq_true rfl) ⟨(Nat.le_of_ble_eq_true rfl), (Nat.le_of_ble_eq_true rfl)⟩ dX12_opens_25) (fun r25 u25 H locs g_r25 hw Wd => ?_)
      obtain ⟨wrong_r25, wrongAt_r25⟩ := u25
      dsimp only at hw
      have Wc25 := Wd
      have Wd : wXM D ca s h ad (sI (sI I 12 wrong_r25) 13 wrongAt_r25) F H A s.heap locs := wMc Wd rfl rfl ⟨(rsI (rsI hS.1 (Wc25.2.1 12)) (Wc25.2.1 13)), hS.2⟩
      obtain ⟨b28_0, hw⟩ := hw
      exact k_retMi C hr hlk (zI_nb b28_0) Wd (u := ((I 8), (I 9), (I 10), (I 11), wrong_r25, wrongAt_r25, (I 15))) rfl rfl ⟨⟨_, rfl, g_r25, hw⟩, ⟨(rsI (rsI (rsI (rsI (rsI (rsI (rsI hS.1 (hS.1 8)) (hS.1 9)) (hS.1 10)) (hS.1 11)) (Wc25.2.1 12)) (Wc25.2.1 13)) (hS.1 15)), hS.2⟩⟩ dX12_opens_28
  · have hw := hw.2 (z_ne (hS.1 9) g_x0 c5)
    refine lv_aload_n C.1 C.2.1 dX12_opens_8 rfl (lv_at hl 0 rfl) ?_
    refine lv_iconst (v := zI 1) C.1 C.2.1 dX12_opens_9 (by decide) ?_
    refine k_cMi Wd (k_runVM (rest := []) C aks Wd cs_X12_185 (mt_bad D h ad ca I F Wd.2 1 (show rng 1 from by decide) _ hw l _) rfl rfl ⟨(Nat.le_of_ble_eq_true rfl), (Nat.le_of_ble_eq_true rfl)⟩ hl.1 rfl rfl (Nat.le_of_ble_eq_true rfl) ⟨(Nat.le_of_ble_eq_true rfl), (Nat.le_of_ble_eq_true rfl)⟩ dX12_opens_10) (fun r10 u10 H locs g_r10 hw Wd => ?_)
    obtain ⟨wrong_r10, wrongAt_r10⟩ := u10
    dsimp only at hw
    have Wc10 := Wd
    have Wd : wXM D ca s h ad (sI (sI I 12 wrong_r10) 13 wrongAt_r10) F H A s.heap locs := wMc Wd rfl rfl ⟨(rsI (rsI hS.1 (Wc10.2.1 12)) (Wc10.2.1 13)), hS.2⟩
    obtain ⟨b13_0, hw⟩ := hw
    exact k_retMi C hr hlk (zI_nb b13_0) Wd (u := ((I 8), (I 9), (I 10), (I 11), wrong_r10, wrongAt_r10, (I 15))) rfl rfl ⟨⟨_, rfl, g_r10, hw⟩, ⟨(rsI (rsI (rsI (rsI (rsI (rsI (rsI hS.1 (hS.1 8)) (hS.1 9)) (hS.1 10)) (hS.1 11)) (Wc10.2.1 12)) (Wc10.2.1 13)) (hS.1 15)), hS.2⟩⟩ dX12_opens_13
set_option maxHeartbeats 4000000 in
set_option maxRecDepth 100000 in
theorem mt_closes : ∀ (D : va_G) (h : Nat) (ad : Nat → Nat) (ca : Nat → ClassId) (I : Nat → Int) (F : Nat → Int → Int) (hS : rngS I F) (adK adV : Nat → Nat) (tq : Nat) (x0 : Int) (g_x0 : rng x0) (K : Int → Int → Int → Int → Int → Int → Int → Int → Prop) (hw : wp_closes (F 6) (I 7) (I 8) (I 9) (I 10) (I 11) (I 12) (I 13) (I 15) (I 21) x0 K) (l : Launch) (sz : Nat), Met l yX12_closes (Cond.code yX12_closes cX12_closes 2 (some .boolean) :: gG) { frames := 9, cells := 0, slots := 0, locals := 387 } (cPS RX12 ixM adK adV tq D (tM ca) (wM h ad ca I F) sz [.ref h, .int (zI x0)]) (va_Qi (fun (r : Int32) (u : (Int) × (Int) × (Int) × (Int) × (Int) × (Int) × (Int)) => (∃ x : Int, r = zI x ∧ rng x ∧ K x u.1 u.2.1 u.2.2.1 u.2.2.2.1 u.2.2.2.2.1 u.2.2.2.2.2.1 u.2.2.2.2.2.2) ∧ rngS (sI (sI (sI (sI (sI (sI (sI I 8 u.1) 9 u.2.1) 10 u.2.2.1) 11 u.2.2.2.1) 12 u.2.2.2.2.1) 13 u.2.2.2.2.2.1) 15 u.2.2.2.2.2.2) F) (fun u t => cB D (va_A (wM h ad ca I F) sz) [] (wM h ad ca (sI (sI (sI (sI (sI (sI (sI I 8 u.1) 9 u.2.1) 10 u.2.2.1) 11 u.2.2.2.1) 12 u.2.2.2.2.1) 13 u.2.2.2.2.2.1) 15 u.2.2.2.2.2.2) F) t) (va_A (wM h ad ca I F) sz)) 0 0 (va_A (wM h ad ca I F) sz) := by
  intro D h ad ca I F hS adK adV tq x0 g_x0 K hw l sz
  refine Met.ofW (cc := cX12_closes) (maxL := 2) (ret := (some .boolean)) (by decide) rfl ?_
  intro p e s m args below meth c s₁ B hml hv
  obtain ⟨hv, hE⟩ := hv
  obtain ⟨rfl, aks, rfl, Wd⟩ := k_enter hv
  have C : CallFix p m c cX12_closes 2 s _ gG RX12 := ⟨B.exec, B.bytes, hml, findClass_of_methodNamed B.named, fun w h => atoms_spec (ws := Cond.code yX12_closes cX12_closes 2 (some .boolean) :: gG) B.pre w (List.mem_cons_of_mem _ h)⟩
  have hr := B.returns
  have hlk := B.notSynchronized
  generalize va_A (wM h ad ca I F) s.heap.size = A at Wd hE ⊢
  replace Wd : wXM D ca s h ad I F s.heap A s.heap [] := ⟨Wd, hS⟩
  refine k_locals (Nat.le_of_ble_eq_true rfl) [(0, .ref h), (1, .int (zI x0))] rfl (fun ls hl => ?_)
  unfold wp_closes at hw
  refine lv_aload_n C.1 C.2.1 dX12_closes_0 rfl (lv_at hl 0 rfl) ?_
  refine lv_iload_n C.1 C.2.1 dX12_closes_1 rfl (lv_at hl 1 rfl) ?_
  refine k_cMi Wd (k_runVMS (rest := []) C aks hE Wd cs_X12_194 (mt_need D h ad ca I F Wd.2 adK adV tq x0 g_x0 _ hw l _) rfl rfl ⟨(Nat.le_of_ble_eq_true rfl), (Nat.le_of_ble_eq_true rfl)⟩ hl.1 rfl rfl (Nat.le_of_ble_eq_true rfl) ⟨(Nat.le_of_ble_eq_true rfl), (Nat.le_of_ble_eq_true rfl)⟩ dX12_closes_2) (fun r2 u2 H locs g_r2 hw Wd => ?_)
  obtain ⟨at0_r2, token_r2, tokenAt_r2, value_r2, wrong_r2, wrongAt_r2⟩ := u2
  dsimp only at hw
  have Wc2 := Wd
  have Wd : wXM D ca s h ad (sI (sI (sI (sI (sI (sI I 8 at0_r2) 9 token_r2) 10 tokenAt_r2) 11 value_r2) 12 wrong_r2) 13 wrongAt_r2) F H A s.heap locs := wMc Wd rfl rfl ⟨(rsI (rsI (rsI (rsI (rsI (rsI hS.1 (Wc2.2.1 8)) (Wc2.2.1 9)) (Wc2.2.1 10)) (Wc2.2.1 11)) (Wc2.2.1 12)) (Wc2.2.1 13)), hS.2⟩
  refine lv_if_ne (tgt := 10) C.1 C.2.1 dX12_closes_5 (by decide) (fun c5 => ?_) (fun c5 => ?_)
  · have hw := hw.1 (z0_ne g_r2 c5)
    refine lv_aload_n C.1 C.2.1 dX12_closes_10 rfl (lv_at hl 0 rfl) ?_
    refine lv_dup C.1 C.2.1 dX12_closes_11 rfl ?_
    refine k_get (v := .int (zI (I 15))) C Wd.1 KX12 0 15 wM0 (by decide) fl_X12_191 rfl dX12_closes_12 ?_
    refine lv_iconst (v := zI 1) C.1 C.2.1 dX12_closes_15 (by decide) ?_
    refine k_isub (v := zI ((I 15) - 1)) C (zI_isub _ _) dX12_closes_16 ?_
    obtain ⟨g17_0, hw⟩ := hw
    refine k_putM C Wd 15 (sI (sI (sI (sI (sI (sI (sI I 8 at0_r2) 9 token_r2) 10 tokenAt_r2) 11 value_r2) 12 wrong_r2) 13 wrongAt_r2) 15 ((I 15) - 1)) (by decide) fl_X12_191 rfl rfl rfl rfl (rsI (rsI (rsI (rsI (rsI (rsI (rsI hS.1 (Wc2.2.1 8)) (Wc2.2.1 9)) (Wc2.2.1 10)) (Wc2.2.1 11)) (Wc2.2.1 12)) (Wc2.2.1 13)) g17_0) dX12_closes_17 (fun H locs Wd => ?_)
    refine lv_iconst (v := zI 1) C.1 C.2.1 dX12_closes_20 (by decide) ?_
    exact k_retMi C hr hlk (by decide) Wd (u := (at0_r2, token_r2, tokenAt_r2, value_r2, wrong_r2, wrongAt_r2, ((I 15) - 1))) rfl rfl ⟨⟨_, rfl, (show rng 1 from by decide), hw⟩, ⟨(rsI (rsI (rsI (rsI (rsI (rsI (rsI hS.1 (Wc2.2.1 8)) (Wc2.2.1 9)) (Wc2.2.1 10)) (Wc2.2.1 11)) (Wc2.2.1 12)) (Wc2.2.1 13)) g17_0), hS.2⟩⟩ dX12_closes_21
  · have hw := hw.2 (z0_eq g_r2 c5)
    refine lv_iconst (v := zI 0) C.1 C.2.1 dX12_closes_8 (by decide) ?_
    exact k_retMi C hr hlk (by decide) Wd (u := (at0_r2, token_r2, tokenAt_r2, value_r2, wrong_r2, wrongAt_r2, (I 15))) rfl rfl ⟨⟨_, rfl, (show rng 0 from by decide), hw⟩, ⟨(rsI (rsI (rsI (rsI (rsI (rsI (rsI hS.1 (Wc2.2.1 8)) (Wc2.2.1 9)) (Wc2.2.1 10)) (Wc2.2.1 11)) (Wc2.2.1 12)) (Wc2.2.1 13)) (hS.1 15)), hS.2⟩⟩ dX12_closes_9
set_option maxHeartbeats 4000000 in
set_option maxRecDepth 100000 in
theorem mt_counts : ∀ (D : va_G) (h : Nat) (ad : Nat → Nat) (ca : Nat → ClassId) (I : Nat → Int) (F : Nat → Int → Int) (hS : rngS I F) (K : Int → Int → Int → Int → Prop) (hw : wp_counts (I 10) (I 12) (I 13) (I 16) (I 18) K) (l : Launch) (sz : Nat), Met l yX12_counts (Cond.code yX12_counts cX12_counts 1 (some .boolean) :: gG) { frames := 2, cells := 0, slots := 0, locals := 85 } (cPre D (tM ca) (wM h ad ca I F) sz [.ref h]) (va_Qi (fun (r : Int32) (u : (Int) × (Int) × (Int)) => (∃ x : Int, r = zI x ∧ rng x ∧ K x u.1 u.2.1 u.2.2) ∧ rngS (sI (sI (sI I 12 u.1) 13 u.2.1) 16 u.2.2) F) (fun u t => cB D (va_A (wM h ad ca I F) sz) [] (wM h ad ca (sI (sI (sI I 12 u.1) 13 u.2.1) 16 u.2.2) F) t) (va_A (wM h ad ca I F) sz)) 0 0 (va_A (wM h ad ca I F) sz) := by
  intro D h ad ca I F hS  K hw l sz
  refine Met.ofW (cc := cX12_counts) (maxL := 1) (ret := (some .boolean)) (by decide) rfl ?_
  intro p e s m args below meth c s₁ B hml hv
  obtain ⟨rfl, aks, rfl, Wd⟩ := k_enter hv
  have C : CallFix p m c cX12_counts 1 s _ gG RX12 := ⟨B.exec, B.bytes, hml, findClass_of_methodNamed B.named, fun w h => atoms_spec (ws := Cond.code yX12_counts cX12_counts 1 (some .boolean) :: gG) B.pre w (List.mem_cons_of_mem _ h)⟩
  have hr := B.returns
  have hlk := B.notSynchronized
  generalize va_A (wM h ad ca I F) s.heap.size = A at Wd ⊢
  replace Wd : wXM D ca s h ad I F s.heap A s.heap [] := ⟨Wd, hS⟩
  refine k_locals (Nat.le_of_ble_eq_true rfl) [(0, .ref h)] rfl (fun ls hl => ?_)
  unfold wp_counts at hw
  refine lv_aload_n C.1 C.2.1 dX12_counts_0 rfl (lv_at hl 0 rfl) ?_
  refine k_get (v := .int (zI (I 16))) C Wd.1 KX12 0 16 wM0 (by decide) fl_X12_197 rfl dX12_counts_1 ?_
  refine lv_aload_n C.1 C.2.1 dX12_counts_4 rfl (lv_at hl 0 rfl) ?_
  refine k_get (v := .int (zI (I 18))) C Wd.1 KX12 0 18 wM0 (by decide) fl_X12_200 rfl dX12_counts_5 ?_
  refine lv_icmp_ne (tgt := 17) C.1 C.2.1 dX12_counts_8 (by decide) (fun c8 => ?_) (fun c8 => ?_)
  · have hw := hw.1 (z_ne (hS.1 16) (hS.1 18) c8)
    refine lv_aload_n C.1 C.2.1 dX12_counts_17 rfl (lv_at hl 0 rfl) ?_
    refine lv_dup C.1 C.2.1 dX12_counts_18 rfl ?_
    refine k_get (v := .int (zI (I 16))) C Wd.1 KX12 0 16 wM0 (by decide) fl_X12_197 rfl dX12_counts_19 ?_
    refine lv_iconst (v := zI 1) C.1 C.2.1 dX12_counts_22 (by decide) ?_
    refine k_iadd (v := zI ((I 16) + 1)) C (zI_iadd _ _) dX12_counts_23 ?_
    obtain ⟨g24_0, hw⟩ := hw
    refine k_putM C Wd 16 (sI I 16 ((I 16) + 1)) (by decide) fl_X12_197 rfl rfl rfl rfl (rsI hS.1 g24_0) dX12_counts_24 (fun H locs Wd => ?_)
    refine lv_iconst (v := zI 1) C.1 C.2.1 dX12_counts_27 (by decide) ?_
    exact k_retMi C hr hlk (by decide) Wd (u := ((I 12), (I 13), ((I 16) + 1))) rfl rfl ⟨⟨_, rfl, (show rng 1 from by decide), hw⟩, ⟨(rsI (rsI (rsI hS.1 (hS.1 12)) (hS.1 13)) g24_0), hS.2⟩⟩ dX12_counts_28
  · have hw := hw.2 (z_eq (hS.1 16) (hS.1 18) c8)
    refine lv_aload_n C.1 C.2.1 dX12_counts_11 rfl (lv_at hl 0 rfl) ?_
    refine lv_iconst (v := zI 3) C.1 C.2.1 dX12_counts_12 (by decide) ?_
    refine k_cMi Wd (k_runVM (rest := []) C aks Wd cs_X12_185 (mt_bad D h ad ca I F Wd.2 3 (show rng 3 from by decide) _ hw l _) rfl rfl ⟨(Nat.le_of_ble_eq_true rfl), (Nat.le_of_ble_eq_true rfl)⟩ hl.1 rfl rfl (Nat.le_of_ble_eq_true rfl) ⟨(Nat.le_of_ble_eq_true rfl), (Nat.le_of_ble_eq_true rfl)⟩ dX12_counts_13) (fun r13 u13 H locs g_r13 hw Wd => ?_)
    obtain ⟨wrong_r13, wrongAt_r13⟩ := u13
    dsimp only at hw
    have Wc13 := Wd
    have Wd : wXM D ca s h ad (sI (sI I 12 wrong_r13) 13 wrongAt_r13) F H A s.heap locs := wMc Wd rfl rfl ⟨(rsI (rsI hS.1 (Wc13.2.1 12)) (Wc13.2.1 13)), hS.2⟩
    obtain ⟨b16_0, hw⟩ := hw
    exact k_retMi C hr hlk (zI_nb b16_0) Wd (u := (wrong_r13, wrongAt_r13, (I 16))) rfl rfl ⟨⟨_, rfl, g_r13, hw⟩, ⟨(rsI (rsI (rsI hS.1 (Wc13.2.1 12)) (Wc13.2.1 13)) (hS.1 16)), hS.2⟩⟩ dX12_counts_16
set_option maxHeartbeats 4000000 in
set_option maxRecDepth 100000 in
theorem mt_ahead : ∀ (D : va_G) (h : Nat) (ad : Nat → Nat) (ca : Nat → ClassId) (I : Nat → Int) (F : Nat → Int → Int) (hS : rngS I F) (x0 : Int) (x1 : Int) (g_x0 : rng x0) (g_x1 : rng x1) (K : (Int → Int) → Int → Prop) (hw : wp_ahead (F 3) (I 5) x0 x1 K) (l : Launch) (sz : Nat), Met l yX12_ahead (Cond.code yX12_ahead cX12_ahead 4 none :: gG) { frames := 1, cells := 0, slots := 0, locals := 64 } (cPre D (tM ca) (wM h ad ca I F) sz [.ref h, .int (zI x0), .int (zI x1)]) (va_Qv (fun (u : (Int → Int) × (Int)) => K u.1 u.2 ∧ rngS (sI I 5 u.2) (sF F 3 u.1)) (fun u t => cB D (va_A (wM h ad ca I F) sz) [] (wM h ad ca (sI I 5 u.2) (sF F 3 u.1)) t) (va_A (wM h ad ca I F) sz)) 0 0 (va_A (wM h ad ca I F) sz) := by
  intro D h ad ca I F hS x0 x1 g_x0 g_x1 K hw l sz
  refine Met.ofW (cc := cX12_ahead) (maxL := 4) (ret := none) (by decide) rfl ?_
  intro p e s m args below meth c s₁ B hml hv
  obtain ⟨rfl, aks, rfl, Wd⟩ := k_enter hv
  have C : CallFix p m c cX12_ahead 4 s _ gG RX12 := ⟨B.exec, B.bytes, hml, findClass_of_methodNamed B.named, fun w h => atoms_spec (ws := Cond.code yX12_ahead cX12_ahead 4 none :: gG) B.pre w (List.mem_cons_of_mem _ h)⟩
  have hr := B.returns
  have hlk := B.notSynchronized
  generalize va_A (wM h ad ca I F) s.heap.size = A at Wd ⊢
  replace Wd : wXM D ca s h ad I F s.heap A s.heap [] := ⟨Wd, hS⟩
  refine k_locals (Nat.le_of_ble_eq_true rfl) [(0, .ref h), (1, .int (zI x0)), (2, .int (zI x1))] rfl (fun ls hl => ?_)
  unfold wp_ahead at hw
  refine lv_aload_n C.1 C.2.1 dX12_ahead_0 rfl (lv_at hl 0 rfl) ?_
  refine k_get (v := .int (zI (I 5))) C Wd.1 KX12 0 5 wM0 (by decide) fl_X12_117 rfl dX12_ahead_1 ?_
  refine lv_istore_n (lv' := [(3, .int (zI (I 5))), (0, .ref h), (1, .int (zI x0)), (2, .int (zI x1))]) C.1 C.2.1 dX12_ahead_4 rfl hl (by decide) rfl (fun ls hl => ?_)
  replace hl := lv_sub hl [1, 2, 3, 0] rfl
  refine k_lp2 hw (fun (l3_5 : Int) (fresh_5 : Int → Int) H locs ls => rng l3_5 ∧ wXM D ca s h ad I (sF F 3 fresh_5) H A s.heap locs ∧ lv_has ls 4 [(0, .ref h), (1, .int (zI x0)), (2, .int (zI x1)), (3, .int (zI l3_5))]) (fun (l3_5 : Int) (fresh_5 : Int → Int) ls => F0 m 5 ls []) (fun L5 hL5 l3_5 fresh_5 hw H locs ls hi => ?_) _ _ _ ⟨(hS.1 5), wMc Wd rfl rfl ⟨hS.1, (rsF hS.2 (hS.2 3))⟩, lv_sub hl [0, 1, 2, 3] rfl⟩
  obtain ⟨g_l3_5, Wd, hl⟩ := hi
  have Wd5 := Wd
  unfold wp_ahead_5 at hw
  refine lv_iload_n C.1 C.2.1 dX12_ahead_5 rfl (lv_at hl 3 rfl) ?_
  refine lv_iload_n C.1 C.2.1 dX12_ahead_6 rfl (lv_at hl 1 rfl) ?_
  refine lv_icmp_le (tgt := 30) C.1 C.2.1 dX12_ahead_7 (by decide) (fun c7 => ?_) (fun c7 => ?_)
  · have hw := hw.1 (z_le g_l3_5 g_x0 c7)
    refine lv_aload_n C.1 C.2.1 dX12_ahead_30 rfl (lv_at hl 0 rfl) ?_
    refine k_get (v := .ref (ad 3)) C Wd.1 KX12 0 3 wM0 (by decide) fl_X12_19 rfl dX12_ahead_31 ?_
    refine lv_iload_n C.1 C.2.1 dX12_ahead_34 rfl (lv_at hl 1 rfl) ?_
    refine lv_iload_n C.1 C.2.1 dX12_ahead_35 rfl (lv_at hl 2 rfl) ?_
    obtain ⟨a36, hw⟩ := hw
    have q36 : ∀ j : Nat, rng ((uZ fresh_5 x0 x1) j) := ruZ (fun j => Wd5.2.2 3 j) g_x1
    refine k_iastM (g := fresh_5) C Wd 3 3 (sF F 3 (uZ fresh_5 x0 x1)) rfl rfl a36 (by decide) rfl rfl (rsF hS.2 q36) dX12_ahead_36 (fun H locs Wd => ?_)
    refine lv_aload_n C.1 C.2.1 dX12_ahead_37 rfl (lv_at hl 0 rfl) ?_
    refine lv_dup C.1 C.2.1 dX12_ahead_38 rfl ?_
    refine k_get (v := .int (zI (I 5))) C Wd.1 KX12 0 5 wM0 (by decide) fl_X12_117 rfl dX12_ahead_39 ?_
    refine lv_iconst (v := zI 1) C.1 C.2.1 dX12_ahead_42 (by decide) ?_
    refine k_iadd (v := zI ((I 5) + 1)) C (zI_iadd _ _) dX12_ahead_43 ?_
    obtain ⟨g44_0, hw⟩ := hw
    refine k_putM C Wd 5 (sI I 5 ((I 5) + 1)) (by decide) fl_X12_117 rfl rfl rfl rfl (rsI hS.1 g44_0) dX12_ahead_44 (fun H locs Wd => ?_)
    exact k_retMv C hr hlk Wd (u := ((uZ fresh_5 x0 x1), ((I 5) + 1))) rfl rfl ⟨hw, ⟨(rsI hS.1 g44_0), (rsF hS.2 q36)⟩⟩ dX12_ahead_47
  · have hw := hw.2 (z_nle g_l3_5 g_x0 c7)
    refine lv_aload_n C.1 C.2.1 dX12_ahead_10 rfl (lv_at hl 0 rfl) ?_
    refine k_get (v := .ref (ad 3)) C Wd.1 KX12 0 3 wM0 (by decide) fl_X12_19 rfl dX12_ahead_11 ?_
    refine lv_iload_n C.1 C.2.1 dX12_ahead_14 rfl (lv_at hl 3 rfl) ?_
    refine lv_aload_n C.1 C.2.1 dX12_ahead_15 rfl (lv_at hl 0 rfl) ?_
    refine k_get (v := .ref (ad 3)) C Wd.1 KX12 0 3 wM0 (by decide) fl_X12_19 rfl dX12_ahead_16 ?_
    refine lv_iload_n C.1 C.2.1 dX12_ahead_19 rfl (lv_at hl 3 rfl) ?_
    refine lv_iconst (v := zI 1) C.1 C.2.1 dX12_ahead_20 (by decide) ?_
    refine k_isub (v := zI (l3_5 - 1)) C (zI_isub _ _) dX12_ahead_21 ?_
    obtain ⟨a22, hw⟩ := hw
    refine k_ialdM (g := fresh_5) C Wd 4 3 rfl rfl a22 (by decide) dX12_ahead_22 ?_
    have g22 : rng (fresh_5 (l3_5 - 1)) := rngL (fun j => Wd5.2.2 3 j) a22
    obtain ⟨a23, hw⟩ := hw
    have q23 : ∀ j : Nat, rng ((uZ fresh_5 l3_5 (fresh_5 (l3_5 - 1))) j) := ruZ (fun j => Wd5.2.2 3 j) g22
    refine k_iastM (g := fresh_5) C Wd 3 3 (sF F 3 (uZ fresh_5 l3_5 (fresh_5 (l3_5 - 1)))) rfl rfl a23 (by decide) rfl rfl (rsF hS.2 q23) dX12_ahead_23 (fun H locs Wd => ?_)
    refine lv_iinc (v := zI (l3_5 - 1)) (lv' := [(3, .int (zI (l3_5 - 1))), (0, .ref h), (1, .int (zI x0)), (2, .int (zI x1))]) C.1 C.2.1 dX12_ahead_24 hl (k := 3) rfl (zI_dec _ _ (by decide)) (by decide) rfl (fun ls hl => ?_)
    replace hl := lv_sub hl [1, 2, 3, 0] rfl
    refine lv_goto (tgt := 5) C.1 C.2.1 dX12_ahead_27 (by decide) ?_
    obtain ⟨g27_0, hw⟩ := hw
    exact hL5 _ _ hw _ _ _ ⟨g27_0, wMc Wd rfl rfl ⟨hS.1, (rsF hS.2 q23)⟩, lv_sub hl [0, 1, 2, 3] rfl⟩
set_option maxHeartbeats 4000000 in
set_option maxRecDepth 100000 in
theorem mg_sumUp (n : Nat) : (∀ (D : va_G) (h : Nat) (ad : Nat → Nat) (ca : Nat → ClassId) (I : Nat → Int) (F : Nat → Int → Int) (hS : rngS I F) (adK adV : Nat → Nat) (tq : Nat) (K : Int → (Int → Int) → Int → Int → Int → Int → Int → Int → Int → Int → Int → Int → Prop) (hw : wp_sumUp n (F 3) (I 5) (F 6) (I 7) (I 8) (I 9) (I 10) (I 11) (I 12) (I 13) (I 15) (I 16) (I 18) (I 19) (I 21) (I 22) K) (l : Launch) (sz : Nat), Met l yX12_sumUp (Cond.code yX12_sumUp cX12_sumUp 3 (some .boolean) :: gG) { frames := 11 + n, cells := 0, slots := 0, locals := 448 + 22 * n } (cPS RX12 ixM adK adV tq D (tM ca) (wM h ad ca I F) sz [.ref h]) (va_Qi (fun (r : Int32) (u : (Int → Int) × (Int) × (Int) × (Int) × (Int) × (Int) × (Int) × (Int) × (Int) × (Int) × (Int)) => (∃ x : Int, r = zI x ∧ rng x ∧ K x u.1 u.2.1 u.2.2.1 u.2.2.2.1 u.2.2.2.2.1 u.2.2.2.2.2.1 u.2.2.2.2.2.2.1 u.2.2.2.2.2.2.2.1 u.2.2.2.2.2.2.2.2.1 u.2.2.2.2.2.2.2.2.2.1 u.2.2.2.2.2.2.2.2.2.2) ∧ rngS (sI (sI (sI (sI (sI (sI (sI (sI (sI (sI I 5 u.2.1) 8 u.2.2.1) 9 u.2.2.2.1) 10 u.2.2.2.2.1) 11 u.2.2.2.2.2.1) 12 u.2.2.2.2.2.2.1) 13 u.2.2.2.2.2.2.2.1) 15 u.2.2.2.2.2.2.2.2.1) 16 u.2.2.2.2.2.2.2.2.2.1) 19 u.2.2.2.2.2.2.2.2.2.2) (sF F 3 u.1)) (fun u t => cB D (va_A (wM h ad ca I F) sz) [] (wM h ad ca (sI (sI (sI (sI (sI (sI (sI (sI (sI (sI I 5 u.2.1) 8 u.2.2.1) 9 u.2.2.2.1) 10 u.2.2.2.2.1) 11 u.2.2.2.2.2.1) 12 u.2.2.2.2.2.2.1) 13 u.2.2.2.2.2.2.2.1) 15 u.2.2.2.2.2.2.2.2.1) 16 u.2.2.2.2.2.2.2.2.2.1) 19 u.2.2.2.2.2.2.2.2.2.2) (sF F 3 u.1)) t) (va_A (wM h ad ca I F) sz)) 0 0 (va_A (wM h ad ca I F) sz)) ∧ (∀ (D : va_G) (h : Nat) (ad : Nat → Nat) (ca : Nat → ClassId) (I : Nat → Int) (F : Nat → Int → Int) (hS : rngS I F) (adK adV : Nat → Nat) (tq : Nat) (K : Int → (Int → Int) → Int → Int → Int → Int → Int → Int → Int → Int → Int → Int → Prop) (hw : wp_product n (F 3) (I 5) (F 6) (I 7) (I 8) (I 9) (I 10) (I 11) (I 12) (I 13) (I 15) (I 16) (I 18) (I 19) (I 21) (I 22) K) (l : Launch) (sz : Nat), Met l yX12_product (Cond.code yX12_product cX12_product 2 (some .boolean) :: gG) { frames := 11 + n, cells := 0, slots := 0, locals := 448 + 22 * n } (cPS RX12 ixM adK adV tq D (tM ca) (wM h ad ca I F) sz [.ref h]) (va_Qi (fun (r : Int32) (u : (Int → Int) × (Int) × (Int) × (Int) × (Int) × (Int) × (Int) × (Int) × (Int) × (Int) × (Int)) => (∃ x : Int, r = zI x ∧ rng x ∧ K x u.1 u.2.1 u.2.2.1 u.2.2.2.1 u.2.2.2.2.1 u.2.2.2.2.2.1 u.2.2.2.2.2.2.1 u.2.2.2.2.2.2.2.1 u.2.2.2.2.2.2.2.2.1 u.2.2.2.2.2.2.2.2.2.1 u.2.2.2.2.2.2.2.2.2.2) ∧ rngS (sI (sI (sI (sI (sI (sI (sI (sI (sI (sI I 5 u.2.1) 8 u.2.2.1) 9 u.2.2.2.1) 10 u.2.2.2.2.1) 11 u.2.2.2.2.2.1) 12 u.2.2.2.2.2.2.1) 13 u.2.2.2.2.2.2.2.1) 15 u.2.2.2.2.2.2.2.2.1) 16 u.2.2.2.2.2.2.2.2.2.1) 19 u.2.2.2.2.2.2.2.2.2.2) (sF F 3 u.1)) (fun u t => cB D (va_A (wM h ad ca I F) sz) [] (wM h ad ca (sI (sI (sI (sI (sI (sI (sI (sI (sI (sI I 5 u.2.1) 8 u.2.2.1) 9 u.2.2.2.1) 10 u.2.2.2.2.1) 11 u.2.2.2.2.2.1) 12 u.2.2.2.2.2.2.1) 13 u.2.2.2.2.2.2.2.1) 15 u.2.2.2.2.2.2.2.2.1) 16 u.2.2.2.2.2.2.2.2.2.1) 19 u.2.2.2.2.2.2.2.2.2.2) (sF F 3 u.1)) t) (va_A (wM h ad ca I F) sz)) 0 0 (va_A (wM h ad ca I F) sz)) ∧ (∀ (D : va_G) (h : Nat) (ad : Nat → Nat) (ca : Nat → ClassId) (I : Nat → Int) (F : Nat → Int → Int) (hS : rngS I F) (adK adV : Nat → Nat) (tq : Nat) (K : Int → (Int → Int) → Int → Int → Int → Int → Int → Int → Int → Int → Int → Int → Prop) (hw : wp_unit n (F 3) (I 5) (F 6) (I 7) (I 8) (I 9) (I 10) (I 11) (I 12) (I 13) (I 15) (I 16) (I 18) (I 19) (I 21) (I 22) K) (l : Launch) (sz : Nat), Met l yX12_unit (Cond.code yX12_unit cX12_unit 3 (some .boolean) :: gG) { frames := 11 + n, cells := 0, slots := 0, locals := 448 + 22 * n } (cPS RX12 ixM adK adV tq D (tM ca) (wM h ad ca I F) sz [.ref h]) (va_Qi (fun (r : Int32) (u : (Int → Int) × (Int) × (Int) × (Int) × (Int) × (Int) × (Int) × (Int) × (Int) × (Int) × (Int)) => (∃ x : Int, r = zI x ∧ rng x ∧ K x u.1 u.2.1 u.2.2.1 u.2.2.2.1 u.2.2.2.2.1 u.2.2.2.2.2.1 u.2.2.2.2.2.2.1 u.2.2.2.2.2.2.2.1 u.2.2.2.2.2.2.2.2.1 u.2.2.2.2.2.2.2.2.2.1 u.2.2.2.2.2.2.2.2.2.2) ∧ rngS (sI (sI (sI (sI (sI (sI (sI (sI (sI (sI I 5 u.2.1) 8 u.2.2.1) 9 u.2.2.2.1) 10 u.2.2.2.2.1) 11 u.2.2.2.2.2.1) 12 u.2.2.2.2.2.2.1) 13 u.2.2.2.2.2.2.2.1) 15 u.2.2.2.2.2.2.2.2.1) 16 u.2.2.2.2.2.2.2.2.2.1) 19 u.2.2.2.2.2.2.2.2.2.2) (sF F 3 u.1)) (fun u t => cB D (va_A (wM h ad ca I F) sz) [] (wM h ad ca (sI (sI (sI (sI (sI (sI (sI (sI (sI (sI I 5 u.2.1) 8 u.2.2.1) 9 u.2.2.2.1) 10 u.2.2.2.2.1) 11 u.2.2.2.2.2.1) 12 u.2.2.2.2.2.2.1) 13 u.2.2.2.2.2.2.2.1) 15 u.2.2.2.2.2.2.2.2.1) 16 u.2.2.2.2.2.2.2.2.2.1) 19 u.2.2.2.2.2.2.2.2.2.2) (sF F 3 u.1)) t) (va_A (wM h ad ca I F) sz)) 0 0 (va_A (wM h ad ca I F) sz)) := by
  induction n with
  | zero => exact ⟨(fun _ _ _ _ _ _ _ _ _ _ _ hw => absurd hw id), (fun _ _ _ _ _ _ _ _ _ _ _ hw => absurd hw id), (fun _ _ _ _ _ _ _ _ _ _ _ hw => absurd hw id)⟩
  | succ n ih =>
    obtain ⟨ih_sumUp, ih_product, ih_unit⟩ := ih
    refine ⟨?_, ?_, ?_⟩
    · intro D h ad ca I F hS adK adV tq  K hw l sz
      refine Met.ofW (cc := cX12_sumUp) (maxL := 3) (ret := (some .boolean)) (by decide) rfl ?_
      intro p e s m args below meth c s₁ B hml hv
      obtain ⟨hv, hE⟩ := hv
      obtain ⟨rfl, aks, rfl, Wd⟩ := k_enter hv
      have C : CallFix p m c cX12_sumUp 3 s _ gG RX12 := ⟨B.exec, B.bytes, hml, findClass_of_methodNamed B.named, fun w h => atoms_spec (ws := Cond.code yX12_sumUp cX12_sumUp 3 (some .boolean) :: gG) B.pre w (List.mem_cons_of_mem _ h)⟩
      have hr := B.returns
      have hlk := B.notSynchronized
      generalize va_A (wM h ad ca I F) s.heap.size = A at Wd hE ⊢
      replace Wd : wXM D ca s h ad I F s.heap A s.heap [] := ⟨Wd, hS⟩
      refine k_locals (Nat.le_of_ble_eq_true rfl) [(0, .ref h)] rfl (fun ls hl => ?_)
      replace hw : wp_sumUp_b (wp_sumUp n) (wp_product n) (wp_unit n) (F 3) (I 5) (F 6) (I 7) (I 8) (I 9) (I 10) (I 11) (I 12) (I 13) (I 15) (I 16) (I 18) (I 19) (I 21) (I 22) K := hw
      unfold wp_sumUp_b at hw
      refine lv_aload_n C.1 C.2.1 dX12_sumUp_0 rfl (lv_at hl 0 rfl) ?_
      refine k_get (v := .int (zI (I 5))) C Wd.1 KX12 0 5 wM0 (by decide) fl_X12_117 rfl dX12_sumUp_1 ?_
      refine lv_istore_n (lv' := [(1, .int (zI (I 5))), (0, .ref h)]) C.1 C.2.1 dX12_sumUp_4 rfl hl (by decide) rfl (fun ls hl => ?_)
      replace hl := lv_sub hl [1, 0] rfl
      refine lv_aload_n C.1 C.2.1 dX12_sumUp_5 rfl (lv_at hl 0 rfl) ?_
      refine k_cMi Wd (k_runVMS (rest := []) C aks hE Wd cs_X12_203 (ih_product D h ad ca I F Wd.2 adK adV tq   _ hw l _) rfl rfl ⟨(by show 11 + n + 1 ≤ 11 + (n + 1); omega), (by show 8 + (2 + 11) + (448 + 22 * n) ≤ 448 + 22 * (n + 1); omega)⟩ hl.1 rfl rfl (Nat.le_of_ble_eq_true rfl) ⟨(Nat.le_of_ble_eq_true rfl), (Nat.le_of_ble_eq_true rfl)⟩ dX12_sumUp_6) (fun r6 u6 H locs g_r6 hw Wd => ?_)
      obtain ⟨fresh_r6, made_r6, at0_r6, token_r6, tokenAt_r6, value_r6, wrong_r6, wrongAt_r6, depth_r6, countParts_r6, leftLetters_r6⟩ := u6
      dsimp only at hw
      have Wc6 := Wd
      have Wd : wXM D ca s h ad (sI (sI (sI (sI (sI (sI (sI (sI (sI (sI I 5 made_r6) 8 at0_r6) 9 token_r6) 10 tokenAt_r6) 11 value_r6) 12 wrong_r6) 13 wrongAt_r6) 15 depth_r6) 16 countParts_r6) 19 leftLetters_r6) (sF F 3 fresh_r6) H A s.heap locs := wMc Wd rfl rfl ⟨(rsI (rsI (rsI (rsI (rsI (rsI (rsI (rsI (rsI (rsI hS.1 (Wc6.2.1 5)) (Wc6.2.1 8)) (Wc6.2.1 9)) (Wc6.2.1 10)) (Wc6.2.1 11)) (Wc6.2.1 12)) (Wc6.2.1 13)) (Wc6.2.1 15)) (Wc6.2.1 16)) (Wc6.2.1 19)), (rsF hS.2 (fun j => Wc6.2.2 3 j))⟩
      refine lv_if_ne (tgt := 14) C.1 C.2.1 dX12_sumUp_9 (by decide) (fun c9 => ?_) (fun c9 => ?_)
      · have hw := hw.1 (z0_ne g_r6 c9)
        refine k_lp11 hw (fun (fresh_14 : Int → Int) (made_14 : Int) (at0_14 : Int) (token_14 : Int) (tokenAt_14 : Int) (value_14 : Int) (wrong_14 : Int) (wrongAt_14 : Int) (depth_14 : Int) (countParts_14 : Int) (leftLetters_14 : Int) H locs ls => wXM D ca s h ad (sI (sI (sI (sI (sI (sI (sI (sI (sI (sI I 5 made_14) 8 at0_14) 9 token_14) 10 tokenAt_14) 11 value_14) 12 wrong_14) 13 wrongAt_14) 15 depth_14) 16 countParts_14) 19 leftLetters_14) (sF F 3 fresh_14) H A s.heap locs ∧ lv_has ls 3 [(0, .ref h), (1, .int (zI (I 5)))]) (fun (fresh_14 : Int → Int) (made_14 : Int) (at0_14 : Int) (token_14 : Int) (tokenAt_14 : Int) (value_14 : Int) (wrong_14 : Int) (wrongAt_14 : Int) (depth_14 : Int) (countParts_14 : Int) (leftLetters_14 : Int) ls => F0 m 14 ls []) (fun L14 hL14 fresh_14 made_14 at0_14 token_14 tokenAt_14 value_14 wrong_14 wrongAt_14 depth_14 countParts_14 leftLetters_14 hw H locs ls hi => ?_) _ _ _ ⟨wMc Wd rfl rfl ⟨(rsI (rsI (rsI (rsI (rsI (rsI (rsI (rsI (rsI (rsI hS.1 (Wc6.2.1 5)) (Wc6.2.1 8)) (Wc6.2.1 9)) (Wc6.2.1 10)) (Wc6.2.1 11)) (Wc6.2.1 12)) (Wc6.2.1 13)) (Wc6.2.1 15)) (Wc6.2.1 16)) (Wc6.2.1 19)), (rsF hS.2 (fun j => Wc6.2.2 3 j))⟩, lv_sub hl [0, 1] rfl⟩
        obtain ⟨Wd, hl⟩ := hi
        have Wd14 := Wd
        unfold wp_sumUp_14 at hw
        refine lv_aload_n C.1 C.2.1 dX12_sumUp_14 rfl (lv_at hl 0 rfl) ?_
        refine k_get (v := .int (zI token_14)) C Wd.1 KX12 0 9 wM0 (by decide) fl_X12_164 rfl dX12_sumUp_15 ?_
        refine lv_bipush (v := zI 43) C.1 C.2.1 dX12_sumUp_18 (by decide) ?_
        refine k_cut0 (fun  H locs ls => wp_sumUp_32 (wp_product n) K (I 5) (F 6) (I 7) (I 18) (I 21) (I 22) at0_14 countParts_14 depth_14 fresh_14 leftLetters_14 made_14 tokenAt_14 token_14 value_14 wrongAt_14 wrong_14 L14 ∧ wXM D ca s h ad (sI (sI (sI (sI (sI (sI (sI (sI (sI (sI I 5 made_14) 8 at0_14) 9 token_14) 10 tokenAt_14) 11 value_14) 12 wrong_14) 13 wrongAt_14) 15 depth_14) 16 countParts_14) 19 leftLetters_14) (sF F 3 fresh_14) H A s.heap locs ∧ lv_has ls 3 [(0, .ref h), (1, .int (zI (I 5)))]) (fun  ls => F0 m 32 ls []) (fun  H locs ls hi => ?_) (fun J32 => ?_)
        · obtain ⟨hw, Wd, hl⟩ := hi
          have Wd32 := Wd
          unfold wp_sumUp_32 at hw
          refine lv_aload_n C.1 C.2.1 dX12_sumUp_32 rfl (lv_at hl 0 rfl) ?_
          refine k_get (v := .int (zI token_14)) C Wd.1 KX12 0 9 wM0 (by decide) fl_X12_164 rfl dX12_sumUp_33 ?_
          refine lv_bipush (v := zI 43) C.1 C.2.1 dX12_sumUp_36 (by decide) ?_
          refine k_cut1 (fun (s0_48 : Int) H locs ls => rng s0_48 ∧ wp_sumUp_48 (wp_product n) K (I 5) (F 6) (I 7) (I 18) (I 21) (I 22) at0_14 countParts_14 depth_14 fresh_14 leftLetters_14 made_14 tokenAt_14 token_14 value_14 wrongAt_14 wrong_14 L14 s0_48 ∧ wXM D ca s h ad (sI (sI (sI (sI (sI (sI (sI (sI (sI (sI I 5 made_14) 8 at0_14) 9 token_14) 10 tokenAt_14) 11 value_14) 12 wrong_14) 13 wrongAt_14) 15 depth_14) 16 countParts_14) 19 leftLetters_14) (sF F 3 fresh_14) H A s.heap locs ∧ lv_has ls 3 [(0, .ref h), (1, .int (zI (I 5)))]) (fun (s0_48 : Int) ls => F0 m 48 ls [.int (zI s0_48)]) (fun s0_48 H locs ls hi => ?_) (fun J48 => ?_)
          · obtain ⟨g_s0_48, hw, Wd, hl⟩ := hi
            have Wd48 := Wd
            unfold wp_sumUp_48 at hw
            refine lv_istore_n (lv' := [(2, .int (zI s0_48)), (0, .ref h), (1, .int (zI (I 5)))]) C.1 C.2.1 dX12_sumUp_48 rfl hl (by decide) rfl (fun ls hl => ?_)
            replace hl := lv_sub hl [1, 2, 0] rfl
            refine lv_aload_n C.1 C.2.1 dX12_sumUp_49 rfl (lv_at hl 0 rfl) ?_
            refine k_cMi Wd (k_runVM (rest := []) C aks Wd cs_X12_206 (mt_counts D h ad ca (sI (sI (sI (sI (sI (sI (sI (sI (sI (sI I 5 made_14) 8 at0_14) 9 token_14) 10 tokenAt_14) 11 value_14) 12 wrong_14) 13 wrongAt_14) 15 depth_14) 16 countParts_14) 19 leftLetters_14) (sF F 3 fresh_14) Wd.2   _ hw l _) rfl rfl ⟨(by show 2 + 1 ≤ 11 + (n + 1); omega), (by show 8 + (1 + 11) + (85) ≤ 448 + 22 * (n + 1); omega)⟩ hl.1 rfl rfl (Nat.le_of_ble_eq_true rfl) ⟨(Nat.le_of_ble_eq_true rfl), (Nat.le_of_ble_eq_true rfl)⟩ dX12_sumUp_50) (fun r50 u50 H locs g_r50 hw Wd => ?_)
            obtain ⟨wrong_r50, wrongAt_r50, countParts_r50⟩ := u50
            dsimp only at hw
            have Wc50 := Wd
            have Wd : wXM D ca s h ad (sI (sI (sI (sI (sI (sI (sI (sI (sI (sI I 5 made_14) 8 at0_14) 9 token_14) 10 tokenAt_14) 11 value_14) 12 wrong_r50) 13 wrongAt_r50) 15 depth_14) 16 countParts_r50) 19 leftLetters_14) (sF F 3 fresh_14) H A s.heap locs := wMc Wd rfl rfl ⟨(rsI (rsI (rsI (rsI (rsI (rsI (rsI (rsI (rsI (rsI hS.1 (Wd14.2.1 5)) (Wd14.2.1 8)) (Wd14.2.1 9)) (Wd14.2.1 10)) (Wd14.2.1 11)) (Wc50.2.1 12)) (Wc50.2.1 13)) (Wd14.2.1 15)) (Wc50.2.1 16)) (Wd14.2.1 19)), (rsF hS.2 (fun j => Wd14.2.2 3 j))⟩
            refine lv_if_ne (tgt := 58) C.1 C.2.1 dX12_sumUp_53 (by decide) (fun c53 => ?_) (fun c53 => ?_)
            · have hw := hw.1 (z0_ne g_r50 c53)
              refine lv_aload_n C.1 C.2.1 dX12_sumUp_58 rfl (lv_at hl 0 rfl) ?_
              refine k_cMv Wd (k_runVMS (rest := []) C aks hE Wd cs_X12_188 (mt_next0 D h ad ca (sI (sI (sI (sI (sI (sI (sI (sI (sI (sI I 5 made_14) 8 at0_14) 9 token_14) 10 tokenAt_14) 11 value_14) 12 wrong_r50) 13 wrongAt_r50) 15 depth_14) 16 countParts_r50) 19 leftLetters_14) (sF F 3 fresh_14) Wd.2 adK adV tq   _ hw l _) rfl rfl ⟨(by show 7 + 1 ≤ 11 + (n + 1); omega), (by show 8 + (3 + 11) + (344) ≤ 448 + 22 * (n + 1); omega)⟩ hl.1 rfl rfl (Nat.le_of_ble_eq_true rfl) ⟨(Nat.le_of_ble_eq_true rfl), (Nat.le_of_ble_eq_true rfl)⟩ dX12_sumUp_59) (fun u59 H locs hw Wd => ?_)
              obtain ⟨at0_r59, token_r59, tokenAt_r59, value_r59⟩ := u59
              dsimp only at hw
              have Wc59 := Wd
              have Wd : wXM D ca s h ad (sI (sI (sI (sI (sI (sI (sI (sI (sI (sI I 5 made_14) 8 at0_r59) 9 token_r59) 10 tokenAt_r59) 11 value_r59) 12 wrong_r50) 13 wrongAt_r50) 15 depth_14) 16 countParts_r50) 19 leftLetters_14) (sF F 3 fresh_14) H A s.heap locs := wMc Wd rfl rfl ⟨(rsI (rsI (rsI (rsI (rsI (rsI (rsI (rsI (rsI (rsI hS.1 (Wd14.2.1 5)) (Wc59.2.1 8)) (Wc59.2.1 9)) (Wc59.2.1 10)) (Wc59.2.1 11)) (Wc50.2.1 12)) (Wc50.2.1 13)) (Wd14.2.1 15)) (Wc50.2.1 16)) (Wd14.2.1 19)), (rsF hS.2 (fun j => Wd14.2.2 3 j))⟩
              refine lv_aload_n C.1 C.2.1 dX12_sumUp_62 rfl (lv_at hl 0 rfl) ?_
              refine lv_iload_n C.1 C.2.1 dX12_sumUp_63 rfl (lv_at hl 1 rfl) ?_
              refine lv_iload_n C.1 C.2.1 dX12_sumUp_64 rfl (lv_at hl 2 rfl) ?_
              refine k_cMv Wd (k_runVM (rest := []) C aks Wd cs_X12_209 (mt_ahead D h ad ca (sI (sI (sI (sI (sI (sI (sI (sI (sI (sI I 5 made_14) 8 at0_r59) 9 token_r59) 10 tokenAt_r59) 11 value_r59) 12 wrong_r50) 13 wrongAt_r50) 15 depth_14) 16 countParts_r50) 19 leftLetters_14) (sF F 3 fresh_14) Wd.2 (I 5) s0_48 (hS.1 5) g_s0_48 _ hw l _) rfl rfl ⟨(by show 1 + 1 ≤ 11 + (n + 1); omega), (by show 8 + (4 + 11) + (64) ≤ 448 + 22 * (n + 1); omega)⟩ hl.1 rfl rfl (Nat.le_of_ble_eq_true rfl) ⟨(Nat.le_of_ble_eq_true rfl), (Nat.le_of_ble_eq_true rfl)⟩ dX12_sumUp_65) (fun u65 H locs hw Wd => ?_)
              obtain ⟨fresh_r65, made_r65⟩ := u65
              dsimp only at hw
              have Wc65 := Wd
              have Wd : wXM D ca s h ad (sI (sI (sI (sI (sI (sI (sI (sI (sI (sI I 5 made_r65) 8 at0_r59) 9 token_r59) 10 tokenAt_r59) 11 value_r59) 12 wrong_r50) 13 wrongAt_r50) 15 depth_14) 16 countParts_r50) 19 leftLetters_14) (sF F 3 fresh_r65) H A s.heap locs := wMc Wd rfl rfl ⟨(rsI (rsI (rsI (rsI (rsI (rsI (rsI (rsI (rsI (rsI hS.1 (Wc65.2.1 5)) (Wc59.2.1 8)) (Wc59.2.1 9)) (Wc59.2.1 10)) (Wc59.2.1 11)) (Wc50.2.1 12)) (Wc50.2.1 13)) (Wd14.2.1 15)) (Wc50.2.1 16)) (Wd14.2.1 19)), (rsF hS.2 (fun j => Wc65.2.2 3 j))⟩
              refine lv_aload_n C.1 C.2.1 dX12_sumUp_68 rfl (lv_at hl 0 rfl) ?_
              refine k_cMi Wd (k_runVMS (rest := []) C aks hE Wd cs_X12_203 (ih_product D h ad ca (sI (sI (sI (sI (sI (sI (sI (sI (sI (sI I 5 made_r65) 8 at0_r59) 9 token_r59) 10 tokenAt_r59) 11 value_r59) 12 wrong_r50) 13 wrongAt_r50) 15 depth_14) 16 countParts_r50) 19 leftLetters_14) (sF F 3 fresh_r65) Wd.2 adK adV tq   _ hw l _) rfl rfl ⟨(by show 11 + n + 1 ≤ 11 + (n + 1); omega), (by show 8 + (2 + 11) + (448 + 22 * n) ≤ 448 + 22 * (n + 1); omega)⟩ hl.1 rfl rfl (Nat.le_of_ble_eq_true rfl) ⟨(Nat.le_of_ble_eq_true rfl), (Nat.le_of_ble_eq_true rfl)⟩ dX12_sumUp_69) (fun r69 u69 H locs g_r69 hw Wd => ?_)
              obtain ⟨fresh_r69, made_r69, at0_r69, token_r69, tokenAt_r69, value_r69, wrong_r69, wrongAt_r69, depth_r69, countParts_r69, leftLetters_r69⟩ := u69
              dsimp only at hw
              have Wc69 := Wd
              have Wd : wXM D ca s h ad (sI (sI (sI (sI (sI (sI (sI (sI (sI (sI I 5 made_r69) 8 at0_r69) 9 token_r69) 10 tokenAt_r69) 11 value_r69) 12 wrong_r69) 13 wrongAt_r69) 15 depth_r69) 16 countParts_r69) 19 leftLetters_r69) (sF F 3 fresh_r69) H A s.heap locs := wMc Wd rfl rfl ⟨(rsI (rsI (rsI (rsI (rsI (rsI (rsI (rsI (rsI (rsI hS.1 (Wc69.2.1 5)) (Wc69.2.1 8)) (Wc69.2.1 9)) (Wc69.2.1 10)) (Wc69.2.1 11)) (Wc69.2.1 12)) (Wc69.2.1 13)) (Wc69.2.1 15)) (Wc69.2.1 16)) (Wc69.2.1 19)), (rsF hS.2 (fun j => Wc69.2.2 3 j))⟩
              refine lv_if_ne (tgt := 77) C.1 C.2.1 dX12_sumUp_72 (by decide) (fun c72 => ?_) (fun c72 => ?_)
              · have hw := hw.1 (z0_ne g_r69 c72)
                refine lv_goto (tgt := 14) C.1 C.2.1 dX12_sumUp_77 (by decide) ?_
                exact hL14 _ _ _ _ _ _ _ _ _ _ _ hw _ _ _ ⟨wMc Wd rfl rfl ⟨(rsI (rsI (rsI (rsI (rsI (rsI (rsI (rsI (rsI (rsI hS.1 (Wc69.2.1 5)) (Wc69.2.1 8)) (Wc69.2.1 9)) (Wc69.2.1 10)) (Wc69.2.1 11)) (Wc69.2.1 12)) (Wc69.2.1 13)) (Wc69.2.1 15)) (Wc69.2.1 16)) (Wc69.2.1 19)), (rsF hS.2 (fun j => Wc69.2.2 3 j))⟩, lv_sub hl [0, 1] rfl⟩
              · have hw := hw.2 (z0_eq g_r69 c72)
                refine lv_iconst (v := zI 0) C.1 C.2.1 dX12_sumUp_75 (by decide) ?_
                exact k_retMi C hr hlk (by decide) Wd (u := (fresh_r69, made_r69, at0_r69, token_r69, tokenAt_r69, value_r69, wrong_r69, wrongAt_r69, depth_r69, countParts_r69, leftLetters_r69)) rfl rfl ⟨⟨_, rfl, (show rng 0 from by decide), hw⟩, ⟨(rsI (rsI (rsI (rsI (rsI (rsI (rsI (rsI (rsI (rsI hS.1 (Wc69.2.1 5)) (Wc69.2.1 8)) (Wc69.2.1 9)) (Wc69.2.1 10)) (Wc69.2.1 11)) (Wc69.2.1 12)) (Wc69.2.1 13)) (Wc69.2.1 15)) (Wc69.2.1 16)) (Wc69.2.1 19)), (rsF hS.2 (fun j => Wc69.2.2 3 j))⟩⟩ dX12_sumUp_76
            · have hw := hw.2 (z0_eq g_r50 c53)
              refine lv_iconst (v := zI 0) C.1 C.2.1 dX12_sumUp_56 (by decide) ?_
              exact k_retMi C hr hlk (by decide) Wd (u := (fresh_14, made_14, at0_14, token_14, tokenAt_14, value_14, wrong_r50, wrongAt_r50, depth_14, countParts_r50, leftLetters_14)) rfl rfl ⟨⟨_, rfl, (show rng 0 from by decide), hw⟩, ⟨(rsI (rsI (rsI (rsI (rsI (rsI (rsI (rsI (rsI (rsI hS.1 (Wd14.2.1 5)) (Wd14.2.1 8)) (Wd14.2.1 9)) (Wd14.2.1 10)) (Wd14.2.1 11)) (Wc50.2.1 12)) (Wc50.2.1 13)) (Wd14.2.1 15)) (Wc50.2.1 16)) (Wd14.2.1 19)), (rsF hS.2 (fun j => Wd14.2.2 3 j))⟩⟩ dX12_sumUp_57
          refine lv_icmp_ne (tgt := 46) C.1 C.2.1 dX12_sumUp_38 (by decide) (fun c38 => ?_) (fun c38 => ?_)
          · have hw := hw.1 (z_ne (Wd14.2.1 9) (show rng 43 from by decide) c38)
            refine lv_bipush (v := zI 121) C.1 C.2.1 dX12_sumUp_46 (by decide) ?_
            exact J48 121 _ _ _ ⟨(show rng 121 from by decide), hw, wMc Wd rfl rfl ⟨(rsI (rsI (rsI (rsI (rsI (rsI (rsI (rsI (rsI (rsI hS.1 (Wd14.2.1 5)) (Wd14.2.1 8)) (Wd14.2.1 9)) (Wd14.2.1 10)) (Wd14.2.1 11)) (Wd14.2.1 12)) (Wd14.2.1 13)) (Wd14.2.1 15)) (Wd14.2.1 16)) (Wd14.2.1 19)), (rsF hS.2 (fun j => Wd14.2.2 3 j))⟩, lv_sub hl [0, 1] rfl⟩
          · have hw := hw.2 (z_eq (Wd14.2.1 9) (show rng 43 from by decide) c38)
            refine lv_bipush (v := zI 120) C.1 C.2.1 dX12_sumUp_41 (by decide) ?_
            refine lv_goto (tgt := 48) C.1 C.2.1 dX12_sumUp_43 (by decide) ?_
            exact J48 120 _ _ _ ⟨(show rng 120 from by decide), hw, wMc Wd rfl rfl ⟨(rsI (rsI (rsI (rsI (rsI (rsI (rsI (rsI (rsI (rsI hS.1 (Wd14.2.1 5)) (Wd14.2.1 8)) (Wd14.2.1 9)) (Wd14.2.1 10)) (Wd14.2.1 11)) (Wd14.2.1 12)) (Wd14.2.1 13)) (Wd14.2.1 15)) (Wd14.2.1 16)) (Wd14.2.1 19)), (rsF hS.2 (fun j => Wd14.2.2 3 j))⟩, lv_sub hl [0, 1] rfl⟩
        refine lv_icmp_eq (tgt := 32) C.1 C.2.1 dX12_sumUp_20 (by decide) (fun c20 => ?_) (fun c20 => ?_)
        · have hw := hw.1 (z_eq (Wd14.2.1 9) (show rng 43 from by decide) c20)
          exact J32  _ _ _ ⟨hw, wMc Wd rfl rfl ⟨(rsI (rsI (rsI (rsI (rsI (rsI (rsI (rsI (rsI (rsI hS.1 (Wd14.2.1 5)) (Wd14.2.1 8)) (Wd14.2.1 9)) (Wd14.2.1 10)) (Wd14.2.1 11)) (Wd14.2.1 12)) (Wd14.2.1 13)) (Wd14.2.1 15)) (Wd14.2.1 16)) (Wd14.2.1 19)), (rsF hS.2 (fun j => Wd14.2.2 3 j))⟩, lv_sub hl [0, 1] rfl⟩
        · have hw := hw.2 (z_ne (Wd14.2.1 9) (show rng 43 from by decide) c20)
          refine lv_aload_n C.1 C.2.1 dX12_sumUp_23 rfl (lv_at hl 0 rfl) ?_
          refine k_get (v := .int (zI token_14)) C Wd.1 KX12 0 9 wM0 (by decide) fl_X12_164 rfl dX12_sumUp_24 ?_
          refine lv_bipush (v := zI 45) C.1 C.2.1 dX12_sumUp_27 (by decide) ?_
          refine lv_icmp_ne (tgt := 80) C.1 C.2.1 dX12_sumUp_29 (by decide) (fun c29 => ?_) (fun c29 => ?_)
          · have hw := hw.1 (z_ne (Wd14.2.1 9) (show rng 45 from by decide) c29)
            refine lv_iconst (v := zI 1) C.1 C.2.1 dX12_sumUp_80 (by decide) ?_
            exact k_retMi C hr hlk (by decide) Wd (u := (fresh_14, made_14, at0_14, token_14, tokenAt_14, value_14, wrong_14, wrongAt_14, depth_14, countParts_14, leftLetters_14)) rfl rfl ⟨⟨_, rfl, (show rng 1 from by decide), hw⟩, ⟨(rsI (rsI (rsI (rsI (rsI (rsI (rsI (rsI (rsI (rsI hS.1 (Wd14.2.1 5)) (Wd14.2.1 8)) (Wd14.2.1 9)) (Wd14.2.1 10)) (Wd14.2.1 11)) (Wd14.2.1 12)) (Wd14.2.1 13)) (Wd14.2.1 15)) (Wd14.2.1 16)) (Wd14.2.1 19)), (rsF hS.2 (fun j => Wd14.2.2 3 j))⟩⟩ dX12_sumUp_81
          · have hw := hw.2 (z_eq (Wd14.2.1 9) (show rng 45 from by decide) c29)
            exact J32  _ _ _ ⟨hw, wMc Wd rfl rfl ⟨(rsI (rsI (rsI (rsI (rsI (rsI (rsI (rsI (rsI (rsI hS.1 (Wd14.2.1 5)) (Wd14.2.1 8)) (Wd14.2.1 9)) (Wd14.2.1 10)) (Wd14.2.1 11)) (Wd14.2.1 12)) (Wd14.2.1 13)) (Wd14.2.1 15)) (Wd14.2.1 16)) (Wd14.2.1 19)), (rsF hS.2 (fun j => Wd14.2.2 3 j))⟩, lv_sub hl [0, 1] rfl⟩
      · have hw := hw.2 (z0_eq g_r6 c9)
        refine lv_iconst (v := zI 0) C.1 C.2.1 dX12_sumUp_12 (by decide) ?_
        exact k_retMi C hr hlk (by decide) Wd (u := (fresh_r6, made_r6, at0_r6, token_r6, tokenAt_r6, value_r6, wrong_r6, wrongAt_r6, depth_r6, countParts_r6, leftLetters_r6)) rfl rfl ⟨⟨_, rfl, (show rng 0 from by decide), hw⟩, ⟨(rsI (rsI (rsI (rsI (rsI (rsI (rsI (rsI (rsI (rsI hS.1 (Wc6.2.1 5)) (Wc6.2.1 8)) (Wc6.2.1 9)) (Wc6.2.1 10)) (Wc6.2.1 11)) (Wc6.2.1 12)) (Wc6.2.1 13)) (Wc6.2.1 15)) (Wc6.2.1 16)) (Wc6.2.1 19)), (rsF hS.2 (fun j => Wc6.2.2 3 j))⟩⟩ dX12_sumUp_13
    · intro D h ad ca I F hS adK adV tq  K hw l sz
      refine Met.ofW (cc := cX12_product) (maxL := 2) (ret := (some .boolean)) (by decide) rfl ?_
      intro p e s m args below meth c s₁ B hml hv
      obtain ⟨hv, hE⟩ := hv
      obtain ⟨rfl, aks, rfl, Wd⟩ := k_enter hv
      have C : CallFix p m c cX12_product 2 s _ gG RX12 := ⟨B.exec, B.bytes, hml, findClass_of_methodNamed B.named, fun w h => atoms_spec (ws := Cond.code yX12_product cX12_product 2 (some .boolean) :: gG) B.pre w (List.mem_cons_of_mem _ h)⟩
      have hr := B.returns
      have hlk := B.notSynchronized
      generalize va_A (wM h ad ca I F) s.heap.size = A at Wd hE ⊢
      replace Wd : wXM D ca s h ad I F s.heap A s.heap [] := ⟨Wd, hS⟩
      refine k_locals (Nat.le_of_ble_eq_true rfl) [(0, .ref h)] rfl (fun ls hl => ?_)
      replace hw : wp_product_b (wp_sumUp n) (wp_product n) (wp_unit n) (F 3) (I 5) (F 6) (I 7) (I 8) (I 9) (I 10) (I 11) (I 12) (I 13) (I 15) (I 16) (I 18) (I 19) (I 21) (I 22) K := hw
      unfold wp_product_b at hw
      refine lv_aload_n C.1 C.2.1 dX12_product_0 rfl (lv_at hl 0 rfl) ?_
      refine k_get (v := .int (zI (I 5))) C Wd.1 KX12 0 5 wM0 (by decide) fl_X12_117 rfl dX12_product_1 ?_
      refine lv_istore_n (lv' := [(1, .int (zI (I 5))), (0, .ref h)]) C.1 C.2.1 dX12_product_4 rfl hl (by decide) rfl (fun ls hl => ?_)
      replace hl := lv_sub hl [1, 0] rfl
      refine lv_aload_n C.1 C.2.1 dX12_product_5 rfl (lv_at hl 0 rfl) ?_
      refine k_cMi Wd (k_runVMS (rest := []) C aks hE Wd cs_X12_213 (ih_unit D h ad ca I F Wd.2 adK adV tq   _ hw l _) rfl rfl ⟨(by show 11 + n + 1 ≤ 11 + (n + 1); omega), (by show 8 + (3 + 11) + (448 + 22 * n) ≤ 448 + 22 * (n + 1); omega)⟩ hl.1 rfl rfl (Nat.le_of_ble_eq_true rfl) ⟨(Nat.le_of_ble_eq_true rfl), (Nat.le_of_ble_eq_true rfl)⟩ dX12_product_6) (fun r6 u6 H locs g_r6 hw Wd => ?_)
      obtain ⟨fresh_r6, made_r6, at0_r6, token_r6, tokenAt_r6, value_r6, wrong_r6, wrongAt_r6, depth_r6, countParts_r6, leftLetters_r6⟩ := u6
      dsimp only at hw
      have Wc6 := Wd
      have Wd : wXM D ca s h ad (sI (sI (sI (sI (sI (sI (sI (sI (sI (sI I 5 made_r6) 8 at0_r6) 9 token_r6) 10 tokenAt_r6) 11 value_r6) 12 wrong_r6) 13 wrongAt_r6) 15 depth_r6) 16 countParts_r6) 19 leftLetters_r6) (sF F 3 fresh_r6) H A s.heap locs := wMc Wd rfl rfl ⟨(rsI (rsI (rsI (rsI (rsI (rsI (rsI (rsI (rsI (rsI hS.1 (Wc6.2.1 5)) (Wc6.2.1 8)) (Wc6.2.1 9)) (Wc6.2.1 10)) (Wc6.2.1 11)) (Wc6.2.1 12)) (Wc6.2.1 13)) (Wc6.2.1 15)) (Wc6.2.1 16)) (Wc6.2.1 19)), (rsF hS.2 (fun j => Wc6.2.2 3 j))⟩
      refine lv_if_ne (tgt := 14) C.1 C.2.1 dX12_product_9 (by decide) (fun c9 => ?_) (fun c9 => ?_)
      · have hw := hw.1 (z0_ne g_r6 c9)
        refine k_lp11 hw (fun (fresh_14 : Int → Int) (made_14 : Int) (at0_14 : Int) (token_14 : Int) (tokenAt_14 : Int) (value_14 : Int) (wrong_14 : Int) (wrongAt_14 : Int) (depth_14 : Int) (countParts_14 : Int) (leftLetters_14 : Int) H locs ls => wXM D ca s h ad (sI (sI (sI (sI (sI (sI (sI (sI (sI (sI I 5 made_14) 8 at0_14) 9 token_14) 10 tokenAt_14) 11 value_14) 12 wrong_14) 13 wrongAt_14) 15 depth_14) 16 countParts_14) 19 leftLetters_14) (sF F 3 fresh_14) H A s.heap locs ∧ lv_has ls 2 [(0, .ref h), (1, .int (zI (I 5)))]) (fun (fresh_14 : Int → Int) (made_14 : Int) (at0_14 : Int) (token_14 : Int) (tokenAt_14 : Int) (value_14 : Int) (wrong_14 : Int) (wrongAt_14 : Int) (depth_14 : Int) (countParts_14 : Int) (leftLetters_14 : Int) ls => F0 m 14 ls []) (fun L14 hL14 fresh_14 made_14 at0_14 token_14 tokenAt_14 value_14 wrong_14 wrongAt_14 depth_14 countParts_14 leftLetters_14 hw H locs ls hi => ?_) _ _ _ ⟨wMc Wd rfl rfl ⟨(rsI (rsI (rsI (rsI (rsI (rsI (rsI (rsI (rsI (rsI hS.1 (Wc6.2.1 5)) (Wc6.2.1 8)) (Wc6.2.1 9)) (Wc6.2.1 10)) (Wc6.2.1 11)) (Wc6.2.1 12)) (Wc6.2.1 13)) (Wc6.2.1 15)) (Wc6.2.1 16)) (Wc6.2.1 19)), (rsF hS.2 (fun j => Wc6.2.2 3 j))⟩, lv_sub hl [0, 1] rfl⟩
        obtain ⟨Wd, hl⟩ := hi
        have Wd14 := Wd
        unfold wp_product_14 at hw
        refine lv_aload_n C.1 C.2.1 dX12_product_14 rfl (lv_at hl 0 rfl) ?_
        refine k_get (v := .int (zI token_14)) C Wd.1 KX12 0 9 wM0 (by decide) fl_X12_164 rfl dX12_product_15 ?_
        refine lv_bipush (v := zI 42) C.1 C.2.1 dX12_product_18 (by decide) ?_
        refine lv_icmp_ne (tgt := 52) C.1 C.2.1 dX12_product_20 (by decide) (fun c20 => ?_) (fun c20 => ?_)
        · have hw := hw.1 (z_ne (Wd14.2.1 9) (show rng 42 from by decide) c20)
          refine lv_iconst (v := zI 1) C.1 C.2.1 dX12_product_52 (by decide) ?_
          exact k_retMi C hr hlk (by decide) Wd (u := (fresh_14, made_14, at0_14, token_14, tokenAt_14, value_14, wrong_14, wrongAt_14, depth_14, countParts_14, leftLetters_14)) rfl rfl ⟨⟨_, rfl, (show rng 1 from by decide), hw⟩, ⟨(rsI (rsI (rsI (rsI (rsI (rsI (rsI (rsI (rsI (rsI hS.1 (Wd14.2.1 5)) (Wd14.2.1 8)) (Wd14.2.1 9)) (Wd14.2.1 10)) (Wd14.2.1 11)) (Wd14.2.1 12)) (Wd14.2.1 13)) (Wd14.2.1 15)) (Wd14.2.1 16)) (Wd14.2.1 19)), (rsF hS.2 (fun j => Wd14.2.2 3 j))⟩⟩ dX12_product_53
        · have hw := hw.2 (z_eq (Wd14.2.1 9) (show rng 42 from by decide) c20)
          refine lv_aload_n C.1 C.2.1 dX12_product_23 rfl (lv_at hl 0 rfl) ?_
          refine k_cMi Wd (k_runVM (rest := []) C aks Wd cs_X12_206 (mt_counts D h ad ca (sI (sI (sI (sI (sI (sI (sI (sI (sI (sI I 5 made_14) 8 at0_14) 9 token_14) 10 tokenAt_14) 11 value_14) 12 wrong_14) 13 wrongAt_14) 15 depth_14) 16 countParts_14) 19 leftLetters_14) (sF F 3 fresh_14) Wd.2   _ hw l _) rfl rfl ⟨(by show 2 + 1 ≤ 11 + (n + 1); omega), (by show 8 + (1 + 11) + (85) ≤ 448 + 22 * (n + 1); omega)⟩ hl.1 rfl rfl (Nat.le_of_ble_eq_true rfl) ⟨(Nat.le_of_ble_eq_true rfl), (Nat.le_of_ble_eq_true rfl)⟩ dX12_product_24) (fun r24 u24 H locs g_r24 hw Wd => ?_)
          obtain ⟨wrong_r24, wrongAt_r24, countParts_r24⟩ := u24
          dsimp only at hw
          have Wc24 := Wd
          have Wd : wXM D ca s h ad (sI (sI (sI (sI (sI (sI (sI (sI (sI (sI I 5 made_14) 8 at0_14) 9 token_14) 10 tokenAt_14) 11 value_14) 12 wrong_r24) 13 wrongAt_r24) 15 depth_14) 16 countParts_r24) 19 leftLetters_14) (sF F 3 fresh_14) H A s.heap locs := wMc Wd rfl rfl ⟨(rsI (rsI (rsI (rsI (rsI (rsI (rsI (rsI (rsI (rsI hS.1 (Wd14.2.1 5)) (Wd14.2.1 8)) (Wd14.2.1 9)) (Wd14.2.1 10)) (Wd14.2.1 11)) (Wc24.2.1 12)) (Wc24.2.1 13)) (Wd14.2.1 15)) (Wc24.2.1 16)) (Wd14.2.1 19)), (rsF hS.2 (fun j => Wd14.2.2 3 j))⟩
          refine lv_if_ne (tgt := 32) C.1 C.2.1 dX12_product_27 (by decide) (fun c27 => ?_) (fun c27 => ?_)
          · have hw := hw.1 (z0_ne g_r24 c27)
            refine lv_aload_n C.1 C.2.1 dX12_product_32 rfl (lv_at hl 0 rfl) ?_
            refine k_cMv Wd (k_runVMS (rest := []) C aks hE Wd cs_X12_188 (mt_next0 D h ad ca (sI (sI (sI (sI (sI (sI (sI (sI (sI (sI I 5 made_14) 8 at0_14) 9 token_14) 10 tokenAt_14) 11 value_14) 12 wrong_r24) 13 wrongAt_r24) 15 depth_14) 16 countParts_r24) 19 leftLetters_14) (sF F 3 fresh_14) Wd.2 adK adV tq   _ hw l _) rfl rfl ⟨(by show 7 + 1 ≤ 11 + (n + 1); omega), (by show 8 + (3 + 11) + (344) ≤ 448 + 22 * (n + 1); omega)⟩ hl.1 rfl rfl (Nat.le_of_ble_eq_true rfl) ⟨(Nat.le_of_ble_eq_true rfl), (Nat.le_of_ble_eq_true rfl)⟩ dX12_product_33) (fun u33 H locs hw Wd => ?_)
            obtain ⟨at0_r33, token_r33, tokenAt_r33, value_r33⟩ := u33
            dsimp only at hw
            have Wc33 := Wd
            have Wd : wXM D ca s h ad (sI (sI (sI (sI (sI (sI (sI (sI (sI (sI I 5 made_14) 8 at0_r33) 9 token_r33) 10 tokenAt_r33) 11 value_r33) 12 wrong_r24) 13 wrongAt_r24) 15 depth_14) 16 countParts_r24) 19 leftLetters_14) (sF F 3 fresh_14) H A s.heap locs := wMc Wd rfl rfl ⟨(rsI (rsI (rsI (rsI (rsI (rsI (rsI (rsI (rsI (rsI hS.1 (Wd14.2.1 5)) (Wc33.2.1 8)) (Wc33.2.1 9)) (Wc33.2.1 10)) (Wc33.2.1 11)) (Wc24.2.1 12)) (Wc24.2.1 13)) (Wd14.2.1 15)) (Wc24.2.1 16)) (Wd14.2.1 19)), (rsF hS.2 (fun j => Wd14.2.2 3 j))⟩
            refine lv_aload_n C.1 C.2.1 dX12_product_36 rfl (lv_at hl 0 rfl) ?_
            refine lv_iload_n C.1 C.2.1 dX12_product_37 rfl (lv_at hl 1 rfl) ?_
            refine lv_bipush (v := zI 122) C.1 C.2.1 dX12_product_38 (by decide) ?_
            refine k_cMv Wd (k_runVM (rest := []) C aks Wd cs_X12_209 (mt_ahead D h ad ca (sI (sI (sI (sI (sI (sI (sI (sI (sI (sI I 5 made_14) 8 at0_r33) 9 token_r33) 10 tokenAt_r33) 11 value_r33) 12 wrong_r24) 13 wrongAt_r24) 15 depth_14) 16 countParts_r24) 19 leftLetters_14) (sF F 3 fresh_14) Wd.2 (I 5) 122 (hS.1 5) (show rng 122 from by decide) _ hw l _) rfl rfl ⟨(by show 1 + 1 ≤ 11 + (n + 1); omega), (by show 8 + (4 + 11) + (64) ≤ 448 + 22 * (n + 1); omega)⟩ hl.1 rfl rfl (Nat.le_of_ble_eq_true rfl) ⟨(Nat.le_of_ble_eq_true rfl), (Nat.le_of_ble_eq_true rfl)⟩ dX12_product_40) (fun u40 H locs hw Wd => ?_)
            obtain ⟨fresh_r40, made_r40⟩ := u40
            dsimp only at hw
            have Wc40 := Wd
            have Wd : wXM D ca s h ad (sI (sI (sI (sI (sI (sI (sI (sI (sI (sI I 5 made_r40) 8 at0_r33) 9 token_r33) 10 tokenAt_r33) 11 value_r33) 12 wrong_r24) 13 wrongAt_r24) 15 depth_14) 16 countParts_r24) 19 leftLetters_14) (sF F 3 fresh_r40) H A s.heap locs := wMc Wd rfl rfl ⟨(rsI (rsI (rsI (rsI (rsI (rsI (rsI (rsI (rsI (rsI hS.1 (Wc40.2.1 5)) (Wc33.2.1 8)) (Wc33.2.1 9)) (Wc33.2.1 10)) (Wc33.2.1 11)) (Wc24.2.1 12)) (Wc24.2.1 13)) (Wd14.2.1 15)) (Wc24.2.1 16)) (Wd14.2.1 19)), (rsF hS.2 (fun j => Wc40.2.2 3 j))⟩
            refine lv_aload_n C.1 C.2.1 dX12_product_43 rfl (lv_at hl 0 rfl) ?_
            refine k_cMi Wd (k_runVMS (rest := []) C aks hE Wd cs_X12_213 (ih_unit D h ad ca (sI (sI (sI (sI (sI (sI (sI (sI (sI (sI I 5 made_r40) 8 at0_r33) 9 token_r33) 10 tokenAt_r33) 11 value_r33) 12 wrong_r24) 13 wrongAt_r24) 15 depth_14) 16 countParts_r24) 19 leftLetters_14) (sF F 3 fresh_r40) Wd.2 adK adV tq   _ hw l _) rfl rfl ⟨(by show 11 + n + 1 ≤ 11 + (n + 1); omega), (by show 8 + (3 + 11) + (448 + 22 * n) ≤ 448 + 22 * (n + 1); omega)⟩ hl.1 rfl rfl (Nat.le_of_ble_eq_true rfl) ⟨(Nat.le_of_ble_eq_true rfl), (Nat.le_of_ble_eq_true rfl)⟩ dX12_product_44) (fun r44 u44 H locs g_r44 hw Wd => ?_)
            obtain ⟨fresh_r44, made_r44, at0_r44, token_r44, tokenAt_r44, value_r44, wrong_r44, wrongAt_r44, depth_r44, countParts_r44, leftLetters_r44⟩ := u44
            dsimp only at hw
            have Wc44 := Wd
            have Wd : wXM D ca s h ad (sI (sI (sI (sI (sI (sI (sI (sI (sI (sI I 5 made_r44) 8 at0_r44) 9 token_r44) 10 tokenAt_r44) 11 value_r44) 12 wrong_r44) 13 wrongAt_r44) 15 depth_r44) 16 countParts_r44) 19 leftLetters_r44) (sF F 3 fresh_r44) H A s.heap locs := wMc Wd rfl rfl ⟨(rsI (rsI (rsI (rsI (rsI (rsI (rsI (rsI (rsI (rsI hS.1 (Wc44.2.1 5)) (Wc44.2.1 8)) (Wc44.2.1 9)) (Wc44.2.1 10)) (Wc44.2.1 11)) (Wc44.2.1 12)) (Wc44.2.1 13)) (Wc44.2.1 15)) (Wc44.2.1 16)) (Wc44.2.1 19)), (rsF hS.2 (fun j => Wc44.2.2 3 j))⟩
            refine lv_if_ne (tgt := 14) C.1 C.2.1 dX12_product_47 (by decide) (fun c47 => ?_) (fun c47 => ?_)
            · have hw := hw.1 (z0_ne g_r44 c47)
              exact hL14 _ _ _ _ _ _ _ _ _ _ _ hw _ _ _ ⟨wMc Wd rfl rfl ⟨(rsI (rsI (rsI (rsI (rsI (rsI (rsI (rsI (rsI (rsI hS.1 (Wc44.2.1 5)) (Wc44.2.1 8)) (Wc44.2.1 9)) (Wc44.2.1 10)) (Wc44.2.1 11)) (Wc44.2.1 12)) (Wc44.2.1 13)) (Wc44.2.1 15)) (Wc44.2.1 16)) (Wc44.2.1 19)), (rsF hS.2 (fun j => Wc44.2.2 3 j))⟩, lv_sub hl [0, 1] rfl⟩
            · have hw := hw.2 (z0_eq g_r44 c47)
              refine lv_iconst (v := zI 0) C.1 C.2.1 dX12_product_50 (by decide) ?_
              exact k_retMi C hr hlk (by decide) Wd (u := (fresh_r44, made_r44, at0_r44, token_r44, tokenAt_r44, value_r44, wrong_r44, wrongAt_r44, depth_r44, countParts_r44, leftLetters_r44)) rfl rfl ⟨⟨_, rfl, (show rng 0 from by decide), hw⟩, ⟨(rsI (rsI (rsI (rsI (rsI (rsI (rsI (rsI (rsI (rsI hS.1 (Wc44.2.1 5)) (Wc44.2.1 8)) (Wc44.2.1 9)) (Wc44.2.1 10)) (Wc44.2.1 11)) (Wc44.2.1 12)) (Wc44.2.1 13)) (Wc44.2.1 15)) (Wc44.2.1 16)) (Wc44.2.1 19)), (rsF hS.2 (fun j => Wc44.2.2 3 j))⟩⟩ dX12_product_51
          · have hw := hw.2 (z0_eq g_r24 c27)
            refine lv_iconst (v := zI 0) C.1 C.2.1 dX12_product_30 (by decide) ?_
            exact k_retMi C hr hlk (by decide) Wd (u := (fresh_14, made_14, at0_14, token_14, tokenAt_14, value_14, wrong_r24, wrongAt_r24, depth_14, countParts_r24, leftLetters_14)) rfl rfl ⟨⟨_, rfl, (show rng 0 from by decide), hw⟩, ⟨(rsI (rsI (rsI (rsI (rsI (rsI (rsI (rsI (rsI (rsI hS.1 (Wd14.2.1 5)) (Wd14.2.1 8)) (Wd14.2.1 9)) (Wd14.2.1 10)) (Wd14.2.1 11)) (Wc24.2.1 12)) (Wc24.2.1 13)) (Wd14.2.1 15)) (Wc24.2.1 16)) (Wd14.2.1 19)), (rsF hS.2 (fun j => Wd14.2.2 3 j))⟩⟩ dX12_product_31
      · have hw := hw.2 (z0_eq g_r6 c9)
        refine lv_iconst (v := zI 0) C.1 C.2.1 dX12_product_12 (by decide) ?_
        exact k_retMi C hr hlk (by decide) Wd (u := (fresh_r6, made_r6, at0_r6, token_r6, tokenAt_r6, value_r6, wrong_r6, wrongAt_r6, depth_r6, countParts_r6, leftLetters_r6)) rfl rfl ⟨⟨_, rfl, (show rng 0 from by decide), hw⟩, ⟨(rsI (rsI (rsI (rsI (rsI (rsI (rsI (rsI (rsI (rsI hS.1 (Wc6.2.1 5)) (Wc6.2.1 8)) (Wc6.2.1 9)) (Wc6.2.1 10)) (Wc6.2.1 11)) (Wc6.2.1 12)) (Wc6.2.1 13)) (Wc6.2.1 15)) (Wc6.2.1 16)) (Wc6.2.1 19)), (rsF hS.2 (fun j => Wc6.2.2 3 j))⟩⟩ dX12_product_13
    · intro D h ad ca I F hS adK adV tq  K hw l sz
      refine Met.ofW (cc := cX12_unit) (maxL := 3) (ret := (some .boolean)) (by decide) rfl ?_
      intro p e s m args below meth c s₁ B hml hv
      obtain ⟨hv, hE⟩ := hv
      obtain ⟨rfl, aks, rfl, Wd⟩ := k_enter hv
      have C : CallFix p m c cX12_unit 3 s _ gG RX12 := ⟨B.exec, B.bytes, hml, findClass_of_methodNamed B.named, fun w h => atoms_spec (ws := Cond.code yX12_unit cX12_unit 3 (some .boolean) :: gG) B.pre w (List.mem_cons_of_mem _ h)⟩
      have hr := B.returns
      have hlk := B.notSynchronized
      generalize va_A (wM h ad ca I F) s.heap.size = A at Wd hE ⊢
      replace Wd : wXM D ca s h ad I F s.heap A s.heap [] := ⟨Wd, hS⟩
      refine k_locals (Nat.le_of_ble_eq_true rfl) [(0, .ref h)] rfl (fun ls hl => ?_)
      replace hw : wp_unit_b (wp_sumUp n) (wp_product n) (wp_unit n) (F 3) (I 5) (F 6) (I 7) (I 8) (I 9) (I 10) (I 11) (I 12) (I 13) (I 15) (I 16) (I 18) (I 19) (I 21) (I 22) K := hw
      unfold wp_unit_b at hw
      refine lv_aload_n C.1 C.2.1 dX12_unit_0 rfl (lv_at hl 0 rfl) ?_
      refine k_get (v := .int (zI (I 9))) C Wd.1 KX12 0 9 wM0 (by decide) fl_X12_164 rfl dX12_unit_1 ?_
      refine lv_bipush (v := zI 40) C.1 C.2.1 dX12_unit_4 (by decide) ?_
      refine lv_icmp_ne (tgt := 40) C.1 C.2.1 dX12_unit_6 (by decide) (fun c6 => ?_) (fun c6 => ?_)
      · have hw := hw.1 (z_ne (hS.1 9) (show rng 40 from by decide) c6)
        refine lv_aload_n C.1 C.2.1 dX12_unit_40 rfl (lv_at hl 0 rfl) ?_
        refine k_get (v := .int (zI (I 9))) C Wd.1 KX12 0 9 wM0 (by decide) fl_X12_164 rfl dX12_unit_41 ?_
        refine lv_iconst (v := zI 2) C.1 C.2.1 dX12_unit_44 (by decide) ?_
        refine k_cut0 (fun  H locs ls => wp_unit_63 K (F 3) (I 5) (F 6) (I 7) (I 8) (I 9) (I 10) (I 11) (I 12) (I 13) (I 15) (I 16) (I 18) (I 19) (I 21) (I 22) ∧ wXM D ca s h ad I F H A s.heap locs ∧ lv_has ls 3 [(0, .ref h)]) (fun  ls => F0 m 63 ls []) (fun  H locs ls hi => ?_) (fun J63 => ?_)
        · obtain ⟨hw, Wd, hl⟩ := hi
          have Wd63 := Wd
          unfold wp_unit_63 at hw
          refine lv_aload_n C.1 C.2.1 dX12_unit_63 rfl (lv_at hl 0 rfl) ?_
          refine k_get (v := .int (zI (I 9))) C Wd.1 KX12 0 9 wM0 (by decide) fl_X12_164 rfl dX12_unit_64 ?_
          refine lv_sipush (v := zI 320) C.1 C.2.1 dX12_unit_67 (zS (by decide) (by decide)) ?_
          refine k_cut1 (fun (s0_78 : Int) H locs ls => rng s0_78 ∧ wp_unit_78 K (F 3) (I 5) (F 6) (I 7) (I 8) (I 9) (I 10) (I 11) (I 12) (I 13) (I 15) (I 16) (I 18) (I 19) (I 21) (I 22) s0_78 ∧ wXM D ca s h ad I F H A s.heap locs ∧ lv_has ls 3 [(0, .ref h)]) (fun (s0_78 : Int) ls => F0 m 78 ls [.int (zI s0_78)]) (fun s0_78 H locs ls hi => ?_) (fun J78 => ?_)
          · obtain ⟨g_s0_78, hw, Wd, hl⟩ := hi
            have Wd78 := Wd
            unfold wp_unit_78 at hw
            refine lv_istore_n (lv' := [(1, .int (zI s0_78)), (0, .ref h)]) C.1 C.2.1 dX12_unit_78 rfl hl (by decide) rfl (fun ls hl => ?_)
            replace hl := lv_sub hl [1, 0] rfl
            refine lv_aload_n C.1 C.2.1 dX12_unit_79 rfl (lv_at hl 0 rfl) ?_
            refine k_get (v := .int (zI (I 9))) C Wd.1 KX12 0 9 wM0 (by decide) fl_X12_164 rfl dX12_unit_80 ?_
            refine lv_iconst (v := zI 2) C.1 C.2.1 dX12_unit_83 (by decide) ?_
            refine k_cut0 (fun  H locs ls => wp_unit_97 K (F 3) (I 5) (F 6) (I 7) (I 8) (I 9) (I 10) (I 11) (I 12) (I 13) (I 15) (I 16) (I 18) (I 19) (I 21) (I 22) s0_78 ∧ wXM D ca s h ad I F H A s.heap locs ∧ lv_has ls 3 [(0, .ref h), (1, .int (zI s0_78))]) (fun  ls => F0 m 97 ls []) (fun  H locs ls hi => ?_) (fun J97 => ?_)
            · obtain ⟨hw, Wd, hl⟩ := hi
              have Wd97 := Wd
              unfold wp_unit_97 at hw
              refine lv_iload_n C.1 C.2.1 dX12_unit_97 rfl (lv_at hl 1 rfl) ?_
              refine k_cut1 (fun (leftLetters_151 : Int) H locs ls => wp_unit_151 K (F 3) (I 5) (F 6) (I 7) (I 8) (I 9) (I 10) (I 11) (I 12) (I 13) (I 15) (I 16) (I 18) (I 21) leftLetters_151 ∧ wXM D ca s h ad (sI I 19 leftLetters_151) F H A s.heap locs ∧ lv_has ls 3 [(0, .ref h)]) (fun (leftLetters_151 : Int) ls => F0 m 151 ls []) (fun leftLetters_151 H locs ls hi => ?_) (fun J151 => ?_)
              · obtain ⟨hw, Wd, hl⟩ := hi
                have Wd151 := Wd
                unfold wp_unit_151 at hw
                refine lv_aload_n C.1 C.2.1 dX12_unit_151 rfl (lv_at hl 0 rfl) ?_
                refine k_cMi Wd (k_runVM (rest := []) C aks Wd cs_X12_206 (mt_counts D h ad ca (sI I 19 leftLetters_151) F Wd.2   _ hw l _) rfl rfl ⟨(by show 2 + 1 ≤ 11 + (n + 1); omega), (by show 8 + (1 + 11) + (85) ≤ 448 + 22 * (n + 1); omega)⟩ hl.1 rfl rfl (Nat.le_of_ble_eq_true rfl) ⟨(Nat.le_of_ble_eq_true rfl), (Nat.le_of_ble_eq_true rfl)⟩ dX12_unit_152) (fun r152 u152 H locs g_r152 hw Wd => ?_)
                obtain ⟨wrong_r152, wrongAt_r152, countParts_r152⟩ := u152
                dsimp only at hw
                have Wc152 := Wd
                have Wd : wXM D ca s h ad (sI (sI (sI (sI I 12 wrong_r152) 13 wrongAt_r152) 16 countParts_r152) 19 leftLetters_151) F H A s.heap locs := wMc Wd rfl rfl ⟨(rsI (rsI (rsI (rsI hS.1 (Wc152.2.1 12)) (Wc152.2.1 13)) (Wc152.2.1 16)) (Wd151.2.1 19)), hS.2⟩
                refine lv_if_ne (tgt := 160) C.1 C.2.1 dX12_unit_155 (by decide) (fun c155 => ?_) (fun c155 => ?_)
                · have hw := hw.1 (z0_ne g_r152 c155)
                  refine lv_aload_n C.1 C.2.1 dX12_unit_160 rfl (lv_at hl 0 rfl) ?_
                  refine lv_aload_n C.1 C.2.1 dX12_unit_161 rfl (lv_at hl 0 rfl) ?_
                  refine k_get (v := .int (zI (I 9))) C Wd.1 KX12 0 9 wM0 (by decide) fl_X12_164 rfl dX12_unit_162 ?_
                  refine lv_iconst (v := zI 2) C.1 C.2.1 dX12_unit_165 (by decide) ?_
                  refine k_cut1 (fun (s0_208 : Int) H locs ls => rng s0_208 ∧ wp_unit_208 K (F 3) (I 5) (F 6) (I 7) (I 8) (I 9) (I 10) (I 11) (I 15) (I 21) countParts_r152 leftLetters_151 wrongAt_r152 wrong_r152 s0_208 ∧ wXM D ca s h ad (sI (sI (sI (sI I 12 wrong_r152) 13 wrongAt_r152) 16 countParts_r152) 19 leftLetters_151) F H A s.heap locs ∧ lv_has ls 3 [(0, .ref h)]) (fun (s0_208 : Int) ls => F0 m 208 ls [.int (zI s0_208), .ref h]) (fun s0_208 H locs ls hi => ?_) (fun J208 => ?_)
                  · obtain ⟨g_s0_208, hw, Wd, hl⟩ := hi
                    have Wd208 := Wd
                    unfold wp_unit_208 at hw
                    refine k_cMv Wd (k_runVM (rest := []) C aks Wd cs_X12_120 (mt_write D h ad ca (sI (sI (sI (sI I 12 wrong_r152) 13 wrongAt_r152) 16 countParts_r152) 19 leftLetters_151) F Wd.2 s0_208 g_s0_208 _ hw l _) rfl rfl ⟨(by show 1 + 1 ≤ 11 + (n + 1); omega), (by show 8 + (2 + 11) + (64) ≤ 448 + 22 * (n + 1); omega)⟩ hl.1 rfl rfl (Nat.le_of_ble_eq_true rfl) ⟨(Nat.le_of_ble_eq_true rfl), (Nat.le_of_ble_eq_true rfl)⟩ dX12_unit_208) (fun u208 H locs hw Wd => ?_)
                    obtain ⟨fresh_r208, made_r208⟩ := u208
                    dsimp only at hw
                    have Wc208 := Wd
                    have Wd : wXM D ca s h ad (sI (sI (sI (sI (sI I 5 made_r208) 12 wrong_r152) 13 wrongAt_r152) 16 countParts_r152) 19 leftLetters_151) (sF F 3 fresh_r208) H A s.heap locs := wMc Wd rfl rfl ⟨(rsI (rsI (rsI (rsI (rsI hS.1 (Wc208.2.1 5)) (Wc152.2.1 12)) (Wc152.2.1 13)) (Wc152.2.1 16)) (Wd151.2.1 19)), (rsF hS.2 (fun j => Wc208.2.2 3 j))⟩
                    refine lv_aload_n C.1 C.2.1 dX12_unit_211 rfl (lv_at hl 0 rfl) ?_
                    refine k_cMv Wd (k_runVMS (rest := []) C aks hE Wd cs_X12_188 (mt_next0 D h ad ca (sI (sI (sI (sI (sI I 5 made_r208) 12 wrong_r152) 13 wrongAt_r152) 16 countParts_r152) 19 leftLetters_151) (sF F 3 fresh_r208) Wd.2 adK adV tq   _ hw l _) rfl rfl ⟨(by show 7 + 1 ≤ 11 + (n + 1); omega), (by show 8 + (3 + 11) + (344) ≤ 448 + 22 * (n + 1); omega)⟩ hl.1 rfl rfl (Nat.le_of_ble_eq_true rfl) ⟨(Nat.le_of_ble_eq_true rfl), (Nat.le_of_ble_eq_true rfl)⟩ dX12_unit_212) (fun u212 H locs hw Wd => ?_)
                    obtain ⟨at0_r212, token_r212, tokenAt_r212, value_r212⟩ := u212
                    dsimp only at hw
                    have Wc212 := Wd
                    have Wd : wXM D ca s h ad (sI (sI (sI (sI (sI (sI (sI (sI (sI I 5 made_r208) 8 at0_r212) 9 token_r212) 10 tokenAt_r212) 11 value_r212) 12 wrong_r152) 13 wrongAt_r152) 16 countParts_r152) 19 leftLetters_151) (sF F 3 fresh_r208) H A s.heap locs := wMc Wd rfl rfl ⟨(rsI (rsI (rsI (rsI (rsI (rsI (rsI (rsI (rsI hS.1 (Wc208.2.1 5)) (Wc212.2.1 8)) (Wc212.2.1 9)) (Wc212.2.1 10)) (Wc212.2.1 11)) (Wc152.2.1 12)) (Wc152.2.1 13)) (Wc152.2.1 16)) (Wd151.2.1 19)), (rsF hS.2 (fun j => Wc208.2.2 3 j))⟩
                    refine lv_iconst (v := zI 1) C.1 C.2.1 dX12_unit_215 (by decide) ?_
                    exact k_retMi C hr hlk (by decide) Wd (u := (fresh_r208, made_r208, at0_r212, token_r212, tokenAt_r212, value_r212, wrong_r152, wrongAt_r152, (I 15), countParts_r152, leftLetters_151)) rfl rfl ⟨⟨_, rfl, (show rng 1 from by decide), hw⟩, ⟨(rsI (rsI (rsI (rsI (rsI (rsI (rsI (rsI (rsI (rsI hS.1 (Wc208.2.1 5)) (Wc212.2.1 8)) (Wc212.2.1 9)) (Wc212.2.1 10)) (Wc212.2.1 11)) (Wc152.2.1 12)) (Wc152.2.1 13)) (hS.1 15)) (Wc152.2.1 16)) (Wd151.2.1 19)), (rsF hS.2 (fun j => Wc208.2.2 3 j))⟩⟩ dX12_unit_216
                  refine lv_icmp_ne (tgt := 176) C.1 C.2.1 dX12_unit_166 (by decide) (fun c166 => ?_) (fun c166 => ?_)
                  · have hw := hw.1 (z_ne (hS.1 9) (show rng 2 from by decide) c166)
                    refine lv_aload_n C.1 C.2.1 dX12_unit_176 rfl (lv_at hl 0 rfl) ?_
                    refine k_get (v := .int (zI (I 21))) C Wd.1 KX12 0 21 wM0 (by decide) fl_X12_143 rfl dX12_unit_177 ?_
                    refine lv_if_eq (tgt := 197) C.1 C.2.1 dX12_unit_180 (by decide) (fun c180 => ?_) (fun c180 => ?_)
                    · have hw := hw.1 (z0_eq (hS.1 21) c180)
                      refine lv_bipush (v := zI 20) C.1 C.2.1 dX12_unit_197 (by decide) ?_
                      refine lv_aload_n C.1 C.2.1 dX12_unit_199 rfl (lv_at hl 0 rfl) ?_
                      refine k_get (v := .int (zI (I 9))) C Wd.1 KX12 0 9 wM0 (by decide) fl_X12_164 rfl dX12_unit_200 ?_
                      refine k_iadd (v := zI (20 + (I 9))) C (zI_iadd _ _) dX12_unit_203 ?_
                      refine lv_sipush (v := zI 320) C.1 C.2.1 dX12_unit_204 (zS (by decide) (by decide)) ?_
                      refine k_isub (v := zI ((20 + (I 9)) - 320)) C (zI_isub _ _) dX12_unit_207 ?_
                      obtain ⟨g207_0, hw⟩ := hw
                      exact J208 ((20 + (I 9)) - 320) _ _ _ ⟨g207_0, hw, wMc Wd rfl rfl ⟨(rsI (rsI (rsI (rsI hS.1 (Wc152.2.1 12)) (Wc152.2.1 13)) (Wc152.2.1 16)) (Wd151.2.1 19)), hS.2⟩, lv_sub hl [0] rfl⟩
                    · have hw := hw.2 (z0_ne (hS.1 21) c180)
                      refine lv_bipush (v := zI 30) C.1 C.2.1 dX12_unit_183 (by decide) ?_
                      refine lv_aload_n C.1 C.2.1 dX12_unit_185 rfl (lv_at hl 0 rfl) ?_
                      refine k_get (v := .int (zI (I 9))) C Wd.1 KX12 0 9 wM0 (by decide) fl_X12_164 rfl dX12_unit_186 ?_
                      refine k_iadd (v := zI (30 + (I 9))) C (zI_iadd _ _) dX12_unit_189 ?_
                      refine lv_sipush (v := zI 330) C.1 C.2.1 dX12_unit_190 (zS (by decide) (by decide)) ?_
                      refine k_isub (v := zI ((30 + (I 9)) - 330)) C (zI_isub _ _) dX12_unit_193 ?_
                      refine lv_goto (tgt := 208) C.1 C.2.1 dX12_unit_194 (by decide) ?_
                      obtain ⟨g194_0, hw⟩ := hw
                      exact J208 ((30 + (I 9)) - 330) _ _ _ ⟨g194_0, hw, wMc Wd rfl rfl ⟨(rsI (rsI (rsI (rsI hS.1 (Wc152.2.1 12)) (Wc152.2.1 13)) (Wc152.2.1 16)) (Wd151.2.1 19)), hS.2⟩, lv_sub hl [0] rfl⟩
                  · have hw := hw.2 (z_eq (hS.1 9) (show rng 2 from by decide) c166)
                    refine lv_aload_n C.1 C.2.1 dX12_unit_169 rfl (lv_at hl 0 rfl) ?_
                    refine k_get (v := .int (zI (I 11))) C Wd.1 KX12 0 11 wM0 (by decide) fl_X12_176 rfl dX12_unit_170 ?_
                    refine lv_goto (tgt := 208) C.1 C.2.1 dX12_unit_173 (by decide) ?_
                    exact J208 (I 11) _ _ _ ⟨(hS.1 11), hw, wMc Wd rfl rfl ⟨(rsI (rsI (rsI (rsI hS.1 (Wc152.2.1 12)) (Wc152.2.1 13)) (Wc152.2.1 16)) (Wd151.2.1 19)), hS.2⟩, lv_sub hl [0] rfl⟩
                · have hw := hw.2 (z0_eq g_r152 c155)
                  refine lv_iconst (v := zI 0) C.1 C.2.1 dX12_unit_158 (by decide) ?_
                  exact k_retMi C hr hlk (by decide) Wd (u := ((F 3), (I 5), (I 8), (I 9), (I 10), (I 11), wrong_r152, wrongAt_r152, (I 15), countParts_r152, leftLetters_151)) rfl rfl ⟨⟨_, rfl, (show rng 0 from by decide), hw⟩, ⟨(rsI (rsI (rsI (rsI (rsI (rsI (rsI (rsI (rsI (rsI hS.1 (hS.1 5)) (hS.1 8)) (hS.1 9)) (hS.1 10)) (hS.1 11)) (Wc152.2.1 12)) (Wc152.2.1 13)) (hS.1 15)) (Wc152.2.1 16)) (Wd151.2.1 19)), (rsF hS.2 (hS.2 3))⟩⟩ dX12_unit_159
              refine lv_if_eq (tgt := 151) C.1 C.2.1 dX12_unit_98 (by decide) (fun c98 => ?_) (fun c98 => ?_)
              · have hw := hw.1 (z0_eq g_s0_78 c98)
                exact J151 (I 19) _ _ _ ⟨hw, wMc Wd rfl rfl ⟨(rsI hS.1 (hS.1 19)), hS.2⟩, lv_sub hl [0] rfl⟩
              · have hw := hw.2 (z0_ne g_s0_78 c98)
                refine lv_aload_n C.1 C.2.1 dX12_unit_101 rfl (lv_at hl 0 rfl) ?_
                refine k_get (v := .int (zI (I 21))) C Wd.1 KX12 0 21 wM0 (by decide) fl_X12_143 rfl dX12_unit_102 ?_
                refine lv_if_eq (tgt := 151) C.1 C.2.1 dX12_unit_105 (by decide) (fun c105 => ?_) (fun c105 => ?_)
                · have hw := hw.1 (z0_eq (hS.1 21) c105)
                  exact J151 (I 19) _ _ _ ⟨hw, wMc Wd rfl rfl ⟨(rsI hS.1 (hS.1 19)), hS.2⟩, lv_sub hl [0] rfl⟩
                · have hw := hw.2 (z0_ne (hS.1 21) c105)
                  refine lv_iconst (v := zI 1) C.1 C.2.1 dX12_unit_108 (by decide) ?_
                  refine lv_aload_n C.1 C.2.1 dX12_unit_109 rfl (lv_at hl 0 rfl) ?_
                  refine k_get (v := .int (zI (I 9))) C Wd.1 KX12 0 9 wM0 (by decide) fl_X12_164 rfl dX12_unit_110 ?_
                  refine lv_sipush (v := zI 330) C.1 C.2.1 dX12_unit_113 (zS (by decide) (by decide)) ?_
                  refine k_isub (v := zI ((I 9) - 330)) C (zI_isub _ _) dX12_unit_116 ?_
                  refine k_ishl (v := zI (zishl 1 ((I 9) - 330))) C (zishl_eq _ _) dX12_unit_117 ?_
                  refine lv_istore_n (lv' := [(2, .int (zI (zishl 1 ((I 9) - 330)))), (0, .ref h), (1, .int (zI s0_78))]) C.1 C.2.1 dX12_unit_118 rfl hl (by decide) rfl (fun ls hl => ?_)
                  replace hl := lv_sub hl [1, 2, 0] rfl
                  refine lv_aload_n C.1 C.2.1 dX12_unit_119 rfl (lv_at hl 0 rfl) ?_
                  refine k_get (v := .int (zI (I 22))) C Wd.1 KX12 0 22 wM0 (by decide) fl_X12_225 rfl dX12_unit_120 ?_
                  refine k_cut0 (fun  H locs ls => wp_unit_141 K (F 3) (I 5) (F 6) (I 7) (I 8) (I 9) (I 10) (I 11) (I 12) (I 13) (I 15) (I 16) (I 18) (I 19) (I 21) ∧ wXM D ca s h ad I F H A s.heap locs ∧ lv_has ls 3 [(0, .ref h), (2, .int (zI (zishl 1 ((I 9) - 330))))]) (fun  ls => F0 m 141 ls []) (fun  H locs ls hi => ?_) (fun J141 => ?_)
                  · obtain ⟨hw, Wd, hl⟩ := hi
                    have Wd141 := Wd
                    unfold wp_unit_141 at hw
                    refine lv_aload_n C.1 C.2.1 dX12_unit_141 rfl (lv_at hl 0 rfl) ?_
                    refine lv_dup C.1 C.2.1 dX12_unit_142 rfl ?_
                    refine k_get (v := .int (zI (I 19))) C Wd.1 KX12 0 19 wM0 (by decide) fl_X12_228 rfl dX12_unit_143 ?_
                    refine lv_iload_n C.1 C.2.1 dX12_unit_146 rfl (lv_at hl 1 rfl) ?_
                    refine k_ior (v := zI (zior (I 19) (zishl 1 ((I 9) - 330)))) C (zior_eq _ _) dX12_unit_147 ?_
                    refine k_putM C Wd 19 (sI I 19 (zior (I 19) (zishl 1 ((I 9) - 330)))) (by decide) fl_X12_228 rfl rfl rfl rfl (rsI hS.1 (rng_toInt _)) dX12_unit_148 (fun H locs Wd => ?_)
                    exact J151 (zior (I 19) (zishl 1 ((I 9) - 330))) _ _ _ ⟨hw, wMc Wd rfl rfl ⟨(rsI hS.1 (rng_toInt _)), hS.2⟩, lv_sub hl [0] rfl⟩
                  refine lv_if_eq (tgt := 141) C.1 C.2.1 dX12_unit_123 (by decide) (fun c123 => ?_) (fun c123 => ?_)
                  · have hw := hw.1 (z0_eq (hS.1 22) c123)
                    exact J141  _ _ _ ⟨hw, Wd, lv_sub hl [0, 2] rfl⟩
                  · have hw := hw.2 (z0_ne (hS.1 22) c123)
                    refine lv_aload_n C.1 C.2.1 dX12_unit_126 rfl (lv_at hl 0 rfl) ?_
                    refine k_get (v := .int (zI (I 19))) C Wd.1 KX12 0 19 wM0 (by decide) fl_X12_228 rfl dX12_unit_127 ?_
                    refine lv_iload_n C.1 C.2.1 dX12_unit_130 rfl (lv_at hl 2 rfl) ?_
                    refine k_iand (v := zI (ziand (I 19) (zishl 1 ((I 9) - 330)))) C (ziand_eq _ _) dX12_unit_131 ?_
                    refine lv_if_ne (tgt := 141) C.1 C.2.1 dX12_unit_132 (by decide) (fun c132 => ?_) (fun c132 => ?_)
                    · have hw := hw.1 (z0_ne (rng_toInt _) c132)
                      exact J141  _ _ _ ⟨hw, Wd, lv_sub hl [0, 2] rfl⟩
                    · have hw := hw.2 (z0_eq (rng_toInt _) c132)
                      refine lv_aload_n C.1 C.2.1 dX12_unit_135 rfl (lv_at hl 0 rfl) ?_
                      refine lv_iconst (v := zI 2) C.1 C.2.1 dX12_unit_136 (by decide) ?_
                      refine k_cMi Wd (k_runVM (rest := []) C aks Wd cs_X12_185 (mt_bad D h ad ca I F Wd.2 2 (show rng 2 from by decide) _ hw l _) rfl rfl ⟨(by show 1 + 1 ≤ 11 + (n + 1); omega), (by show 8 + (2 + 11) + (64) ≤ 448 + 22 * (n + 1); omega)⟩ hl.1 rfl rfl (Nat.le_of_ble_eq_true rfl) ⟨(Nat.le_of_ble_eq_true rfl), (Nat.le_of_ble_eq_true rfl)⟩ dX12_unit_137) (fun r137 u137 H locs g_r137 hw Wd => ?_)
                      obtain ⟨wrong_r137, wrongAt_r137⟩ := u137
                      dsimp only at hw
                      have Wc137 := Wd
                      have Wd : wXM D ca s h ad (sI (sI I 12 wrong_r137) 13 wrongAt_r137) F H A s.heap locs := wMc Wd rfl rfl ⟨(rsI (rsI hS.1 (Wc137.2.1 12)) (Wc137.2.1 13)), hS.2⟩
                      obtain ⟨b140_0, hw⟩ := hw
                      exact k_retMi C hr hlk (zI_nb b140_0) Wd (u := ((F 3), (I 5), (I 8), (I 9), (I 10), (I 11), wrong_r137, wrongAt_r137, (I 15), (I 16), (I 19))) rfl rfl ⟨⟨_, rfl, g_r137, hw⟩, ⟨(rsI (rsI (rsI (rsI (rsI (rsI (rsI (rsI (rsI (rsI hS.1 (hS.1 5)) (hS.1 8)) (hS.1 9)) (hS.1 10)) (hS.1 11)) (Wc137.2.1 12)) (Wc137.2.1 13)) (hS.1 15)) (hS.1 16)) (hS.1 19)), (rsF hS.2 (hS.2 3))⟩⟩ dX12_unit_140
            refine lv_icmp_eq (tgt := 97) C.1 C.2.1 dX12_unit_84 (by decide) (fun c84 => ?_) (fun c84 => ?_)
            · have hw := hw.1 (z_eq (hS.1 9) (show rng 2 from by decide) c84)
              exact J97  _ _ _ ⟨hw, Wd, lv_sub hl [0, 1] rfl⟩
            · have hw := hw.2 (z_ne (hS.1 9) (show rng 2 from by decide) c84)
              refine lv_iload_n C.1 C.2.1 dX12_unit_87 rfl (lv_at hl 1 rfl) ?_
              refine lv_if_ne (tgt := 97) C.1 C.2.1 dX12_unit_88 (by decide) (fun c88 => ?_) (fun c88 => ?_)
              · have hw := hw.1 (z0_ne g_s0_78 c88)
                exact J97  _ _ _ ⟨hw, Wd, lv_sub hl [0, 1] rfl⟩
              · have hw := hw.2 (z0_eq g_s0_78 c88)
                refine lv_aload_n C.1 C.2.1 dX12_unit_91 rfl (lv_at hl 0 rfl) ?_
                refine lv_iconst (v := zI 1) C.1 C.2.1 dX12_unit_92 (by decide) ?_
                refine k_cMi Wd (k_runVM (rest := []) C aks Wd cs_X12_185 (mt_bad D h ad ca I F Wd.2 1 (show rng 1 from by decide) _ hw l _) rfl rfl ⟨(by show 1 + 1 ≤ 11 + (n + 1); omega), (by show 8 + (2 + 11) + (64) ≤ 448 + 22 * (n + 1); omega)⟩ hl.1 rfl rfl (Nat.le_of_ble_eq_true rfl) ⟨(Nat.le_of_ble_eq_true rfl), (Nat.le_of_ble_eq_true rfl)⟩ dX12_unit_93) (fun r93 u93 H locs g_r93 hw Wd => ?_)
                obtain ⟨wrong_r93, wrongAt_r93⟩ := u93
                dsimp only at hw
                have Wc93 := Wd
                have Wd : wXM D ca s h ad (sI (sI I 12 wrong_r93) 13 wrongAt_r93) F H A s.heap locs := wMc Wd rfl rfl ⟨(rsI (rsI hS.1 (Wc93.2.1 12)) (Wc93.2.1 13)), hS.2⟩
                obtain ⟨b96_0, hw⟩ := hw
                exact k_retMi C hr hlk (zI_nb b96_0) Wd (u := ((F 3), (I 5), (I 8), (I 9), (I 10), (I 11), wrong_r93, wrongAt_r93, (I 15), (I 16), (I 19))) rfl rfl ⟨⟨_, rfl, g_r93, hw⟩, ⟨(rsI (rsI (rsI (rsI (rsI (rsI (rsI (rsI (rsI (rsI hS.1 (hS.1 5)) (hS.1 8)) (hS.1 9)) (hS.1 10)) (hS.1 11)) (Wc93.2.1 12)) (Wc93.2.1 13)) (hS.1 15)) (hS.1 16)) (hS.1 19)), (rsF hS.2 (hS.2 3))⟩⟩ dX12_unit_96
          refine lv_icmp_lt (tgt := 77) C.1 C.2.1 dX12_unit_70 (by decide) (fun c70 => ?_) (fun c70 => ?_)
          · have hw := hw.1 (z_lt (hS.1 9) (show rng 320 from by decide) c70)
            refine lv_iconst (v := zI 0) C.1 C.2.1 dX12_unit_77 (by decide) ?_
            exact J78 0 _ _ _ ⟨(show rng 0 from by decide), hw, Wd, lv_sub hl [0] rfl⟩
          · have hw := hw.2 (z_nlt (hS.1 9) (show rng 320 from by decide) c70)
            refine lv_iconst (v := zI 1) C.1 C.2.1 dX12_unit_73 (by decide) ?_
            refine lv_goto (tgt := 78) C.1 C.2.1 dX12_unit_74 (by decide) ?_
            exact J78 1 _ _ _ ⟨(show rng 1 from by decide), hw, Wd, lv_sub hl [0] rfl⟩
        refine lv_icmp_ne (tgt := 63) C.1 C.2.1 dX12_unit_45 (by decide) (fun c45 => ?_) (fun c45 => ?_)
        · have hw := hw.1 (z_ne (hS.1 9) (show rng 2 from by decide) c45)
          exact J63  _ _ _ ⟨hw, Wd, lv_sub hl [0] rfl⟩
        · have hw := hw.2 (z_eq (hS.1 9) (show rng 2 from by decide) c45)
          refine lv_aload_n C.1 C.2.1 dX12_unit_48 rfl (lv_at hl 0 rfl) ?_
          refine k_get (v := .int (zI (I 11))) C Wd.1 KX12 0 11 wM0 (by decide) fl_X12_176 rfl dX12_unit_49 ?_
          refine lv_bipush (v := zI 15) C.1 C.2.1 dX12_unit_52 (by decide) ?_
          refine lv_icmp_le (tgt := 63) C.1 C.2.1 dX12_unit_54 (by decide) (fun c54 => ?_) (fun c54 => ?_)
          · have hw := hw.1 (z_le (hS.1 11) (show rng 15 from by decide) c54)
            exact J63  _ _ _ ⟨hw, Wd, lv_sub hl [0] rfl⟩
          · have hw := hw.2 (z_nle (hS.1 11) (show rng 15 from by decide) c54)
            refine lv_aload_n C.1 C.2.1 dX12_unit_57 rfl (lv_at hl 0 rfl) ?_
            refine lv_iconst (v := zI 2) C.1 C.2.1 dX12_unit_58 (by decide) ?_
            refine k_cMi Wd (k_runVM (rest := []) C aks Wd cs_X12_185 (mt_bad D h ad ca I F Wd.2 2 (show rng 2 from by decide) _ hw l _) rfl rfl ⟨(by show 1 + 1 ≤ 11 + (n + 1); omega), (by show 8 + (2 + 11) + (64) ≤ 448 + 22 * (n + 1); omega)⟩ hl.1 rfl rfl (Nat.le_of_ble_eq_true rfl) ⟨(Nat.le_of_ble_eq_true rfl), (Nat.le_of_ble_eq_true rfl)⟩ dX12_unit_59) (fun r59 u59 H locs g_r59 hw Wd => ?_)
            obtain ⟨wrong_r59, wrongAt_r59⟩ := u59
            dsimp only at hw
            have Wc59 := Wd
            have Wd : wXM D ca s h ad (sI (sI I 12 wrong_r59) 13 wrongAt_r59) F H A s.heap locs := wMc Wd rfl rfl ⟨(rsI (rsI hS.1 (Wc59.2.1 12)) (Wc59.2.1 13)), hS.2⟩
            obtain ⟨b62_0, hw⟩ := hw
            exact k_retMi C hr hlk (zI_nb b62_0) Wd (u := ((F 3), (I 5), (I 8), (I 9), (I 10), (I 11), wrong_r59, wrongAt_r59, (I 15), (I 16), (I 19))) rfl rfl ⟨⟨_, rfl, g_r59, hw⟩, ⟨(rsI (rsI (rsI (rsI (rsI (rsI (rsI (rsI (rsI (rsI hS.1 (hS.1 5)) (hS.1 8)) (hS.1 9)) (hS.1 10)) (hS.1 11)) (Wc59.2.1 12)) (Wc59.2.1 13)) (hS.1 15)) (hS.1 16)) (hS.1 19)), (rsF hS.2 (hS.2 3))⟩⟩ dX12_unit_62
      · have hw := hw.2 (z_eq (hS.1 9) (show rng 40 from by decide) c6)
        refine lv_aload_n C.1 C.2.1 dX12_unit_9 rfl (lv_at hl 0 rfl) ?_
        refine lv_bipush (v := zI 40) C.1 C.2.1 dX12_unit_10 (by decide) ?_
        refine k_cMi Wd (k_runVMS (rest := []) C aks hE Wd cs_X12_216 (mt_opens D h ad ca I F Wd.2 adK adV tq 40 (show rng 40 from by decide) _ hw l _) rfl rfl ⟨(by show 8 + 1 ≤ 11 + (n + 1); omega), (by show 8 + (2 + 11) + (366) ≤ 448 + 22 * (n + 1); omega)⟩ hl.1 rfl rfl (Nat.le_of_ble_eq_true rfl) ⟨(Nat.le_of_ble_eq_true rfl), (Nat.le_of_ble_eq_true rfl)⟩ dX12_unit_12) (fun r12 u12 H locs g_r12 hw Wd => ?_)
        obtain ⟨at0_r12, token_r12, tokenAt_r12, value_r12, wrong_r12, wrongAt_r12, depth_r12⟩ := u12
        dsimp only at hw
        have Wc12 := Wd
        have Wd : wXM D ca s h ad (sI (sI (sI (sI (sI (sI (sI I 8 at0_r12) 9 token_r12) 10 tokenAt_r12) 11 value_r12) 12 wrong_r12) 13 wrongAt_r12) 15 depth_r12) F H A s.heap locs := wMc Wd rfl rfl ⟨(rsI (rsI (rsI (rsI (rsI (rsI (rsI hS.1 (Wc12.2.1 8)) (Wc12.2.1 9)) (Wc12.2.1 10)) (Wc12.2.1 11)) (Wc12.2.1 12)) (Wc12.2.1 13)) (Wc12.2.1 15)), hS.2⟩
        refine lv_if_eq (tgt := 38) C.1 C.2.1 dX12_unit_15 (by decide) (fun c15 => ?_) (fun c15 => ?_)
        · have hw := hw.1 (z0_eq g_r12 c15)
          refine lv_iconst (v := zI 0) C.1 C.2.1 dX12_unit_38 (by decide) ?_
          exact k_retMi C hr hlk (by decide) Wd (u := ((F 3), (I 5), at0_r12, token_r12, tokenAt_r12, value_r12, wrong_r12, wrongAt_r12, depth_r12, (I 16), (I 19))) rfl rfl ⟨⟨_, rfl, (show rng 0 from by decide), hw⟩, ⟨(rsI (rsI (rsI (rsI (rsI (rsI (rsI (rsI (rsI (rsI hS.1 (hS.1 5)) (Wc12.2.1 8)) (Wc12.2.1 9)) (Wc12.2.1 10)) (Wc12.2.1 11)) (Wc12.2.1 12)) (Wc12.2.1 13)) (Wc12.2.1 15)) (hS.1 16)) (hS.1 19)), (rsF hS.2 (hS.2 3))⟩⟩ dX12_unit_39
        · have hw := hw.2 (z0_ne g_r12 c15)
          refine lv_aload_n C.1 C.2.1 dX12_unit_18 rfl (lv_at hl 0 rfl) ?_
          refine k_cMi Wd (k_runVMS (rest := []) C aks hE Wd cs_X12_219 (ih_sumUp D h ad ca (sI (sI (sI (sI (sI (sI (sI I 8 at0_r12) 9 token_r12) 10 tokenAt_r12) 11 value_r12) 12 wrong_r12) 13 wrongAt_r12) 15 depth_r12) F Wd.2 adK adV tq   _ hw l _) rfl rfl ⟨(by show 11 + n + 1 ≤ 11 + (n + 1); omega), (by show 8 + (3 + 11) + (448 + 22 * n) ≤ 448 + 22 * (n + 1); omega)⟩ hl.1 rfl rfl (Nat.le_of_ble_eq_true rfl) ⟨(Nat.le_of_ble_eq_true rfl), (Nat.le_of_ble_eq_true rfl)⟩ dX12_unit_19) (fun r19 u19 H locs g_r19 hw Wd => ?_)
          obtain ⟨fresh_r19, made_r19, at0_r19, token_r19, tokenAt_r19, value_r19, wrong_r19, wrongAt_r19, depth_r19, countParts_r19, leftLetters_r19⟩ := u19
          dsimp only at hw
          have Wc19 := Wd
          have Wd : wXM D ca s h ad (sI (sI (sI (sI (sI (sI (sI (sI (sI (sI I 5 made_r19) 8 at0_r19) 9 token_r19) 10 tokenAt_r19) 11 value_r19) 12 wrong_r19) 13 wrongAt_r19) 15 depth_r19) 16 countParts_r19) 19 leftLetters_r19) (sF F 3 fresh_r19) H A s.heap locs := wMc Wd rfl rfl ⟨(rsI (rsI (rsI (rsI (rsI (rsI (rsI (rsI (rsI (rsI hS.1 (Wc19.2.1 5)) (Wc19.2.1 8)) (Wc19.2.1 9)) (Wc19.2.1 10)) (Wc19.2.1 11)) (Wc19.2.1 12)) (Wc19.2.1 13)) (Wc19.2.1 15)) (Wc19.2.1 16)) (Wc19.2.1 19)), (rsF hS.2 (fun j => Wc19.2.2 3 j))⟩
          refine lv_if_eq (tgt := 38) C.1 C.2.1 dX12_unit_22 (by decide) (fun c22 => ?_) (fun c22 => ?_)
          · have hw := hw.1 (z0_eq g_r19 c22)
            refine lv_iconst (v := zI 0) C.1 C.2.1 dX12_unit_38 (by decide) ?_
            exact k_retMi C hr hlk (by decide) Wd (u := (fresh_r19, made_r19, at0_r19, token_r19, tokenAt_r19, value_r19, wrong_r19, wrongAt_r19, depth_r19, countParts_r19, leftLetters_r19)) rfl rfl ⟨⟨_, rfl, (show rng 0 from by decide), hw⟩, ⟨(rsI (rsI (rsI (rsI (rsI (rsI (rsI (rsI (rsI (rsI hS.1 (Wc19.2.1 5)) (Wc19.2.1 8)) (Wc19.2.1 9)) (Wc19.2.1 10)) (Wc19.2.1 11)) (Wc19.2.1 12)) (Wc19.2.1 13)) (Wc19.2.1 15)) (Wc19.2.1 16)) (Wc19.2.1 19)), (rsF hS.2 (fun j => Wc19.2.2 3 j))⟩⟩ dX12_unit_39
          · have hw := hw.2 (z0_ne g_r19 c22)
            refine lv_aload_n C.1 C.2.1 dX12_unit_25 rfl (lv_at hl 0 rfl) ?_
            refine lv_bipush (v := zI 41) C.1 C.2.1 dX12_unit_26 (by decide) ?_
            refine k_cMi Wd (k_runVMS (rest := []) C aks hE Wd cs_X12_222 (mt_closes D h ad ca (sI (sI (sI (sI (sI (sI (sI (sI (sI (sI I 5 made_r19) 8 at0_r19) 9 token_r19) 10 tokenAt_r19) 11 value_r19) 12 wrong_r19) 13 wrongAt_r19) 15 depth_r19) 16 countParts_r19) 19 leftLetters_r19) (sF F 3 fresh_r19) Wd.2 adK adV tq 41 (show rng 41 from by decide) _ hw l _) rfl rfl ⟨(by show 9 + 1 ≤ 11 + (n + 1); omega), (by show 8 + (2 + 11) + (387) ≤ 448 + 22 * (n + 1); omega)⟩ hl.1 rfl rfl (Nat.le_of_ble_eq_true rfl) ⟨(Nat.le_of_ble_eq_true rfl), (Nat.le_of_ble_eq_true rfl)⟩ dX12_unit_28) (fun r28 u28 H locs g_r28 hw Wd => ?_)
            obtain ⟨at0_r28, token_r28, tokenAt_r28, value_r28, wrong_r28, wrongAt_r28, depth_r28⟩ := u28
            dsimp only at hw
            have Wc28 := Wd
            have Wd : wXM D ca s h ad (sI (sI (sI (sI (sI (sI (sI (sI (sI (sI I 5 made_r19) 8 at0_r28) 9 token_r28) 10 tokenAt_r28) 11 value_r28) 12 wrong_r28) 13 wrongAt_r28) 15 depth_r28) 16 countParts_r19) 19 leftLetters_r19) (sF F 3 fresh_r19) H A s.heap locs := wMc Wd rfl rfl ⟨(rsI (rsI (rsI (rsI (rsI (rsI (rsI (rsI (rsI (rsI hS.1 (Wc19.2.1 5)) (Wc28.2.1 8)) (Wc28.2.1 9)) (Wc28.2.1 10)) (Wc28.2.1 11)) (Wc28.2.1 12)) (Wc28.2.1 13)) (Wc28.2.1 15)) (Wc19.2.1 16)) (Wc19.2.1 19)), (rsF hS.2 (fun j => Wc19.2.2 3 j))⟩
            refine lv_if_eq (tgt := 38) C.1 C.2.1 dX12_unit_31 (by decide) (fun c31 => ?_) (fun c31 => ?_)
            · have hw := hw.1 (z0_eq g_r28 c31)
              refine lv_iconst (v := zI 0) C.1 C.2.1 dX12_unit_38 (by decide) ?_
              exact k_retMi C hr hlk (by decide) Wd (u := (fresh_r19, made_r19, at0_r28, token_r28, tokenAt_r28, value_r28, wrong_r28, wrongAt_r28, depth_r28, countParts_r19, leftLetters_r19)) rfl rfl ⟨⟨_, rfl, (show rng 0 from by decide), hw⟩, ⟨(rsI (rsI (rsI (rsI (rsI (rsI (rsI (rsI (rsI (rsI hS.1 (Wc19.2.1 5)) (Wc28.2.1 8)) (Wc28.2.1 9)) (Wc28.2.1 10)) (Wc28.2.1 11)) (Wc28.2.1 12)) (Wc28.2.1 13)) (Wc28.2.1 15)) (Wc19.2.1 16)) (Wc19.2.1 19)), (rsF hS.2 (fun j => Wc19.2.2 3 j))⟩⟩ dX12_unit_39
            · have hw := hw.2 (z0_ne g_r28 c31)
              refine lv_iconst (v := zI 1) C.1 C.2.1 dX12_unit_34 (by decide) ?_
              refine lv_goto (tgt := 39) C.1 C.2.1 dX12_unit_35 (by decide) ?_
              exact k_retMi C hr hlk (by decide) Wd (u := (fresh_r19, made_r19, at0_r28, token_r28, tokenAt_r28, value_r28, wrong_r28, wrongAt_r28, depth_r28, countParts_r19, leftLetters_r19)) rfl rfl ⟨⟨_, rfl, (show rng 1 from by decide), hw⟩, ⟨(rsI (rsI (rsI (rsI (rsI (rsI (rsI (rsI (rsI (rsI hS.1 (Wc19.2.1 5)) (Wc28.2.1 8)) (Wc28.2.1 9)) (Wc28.2.1 10)) (Wc28.2.1 11)) (Wc28.2.1 12)) (Wc28.2.1 13)) (Wc28.2.1 15)) (Wc19.2.1 16)) (Wc19.2.1 19)), (rsF hS.2 (fun j => Wc19.2.2 3 j))⟩⟩ dX12_unit_39
theorem mt_sumUp : ∀ (D : va_G) (h : Nat) (ad : Nat → Nat) (ca : Nat → ClassId) (I : Nat → Int) (F : Nat → Int → Int) (hS : rngS I F) (adK adV : Nat → Nat) (tq : Nat) (K : Int → (Int → Int) → Int → Int → Int → Int → Int → Int → Int → Int → Int → Int → Prop) (hw : wp_sumUp 100 (F 3) (I 5) (F 6) (I 7) (I 8) (I 9) (I 10) (I 11) (I 12) (I 13) (I 15) (I 16) (I 18) (I 19) (I 21) (I 22) K) (l : Launch) (sz : Nat), Met l yX12_sumUp (Cond.code yX12_sumUp cX12_sumUp 3 (some .boolean) :: gG) { frames := 111, cells := 0, slots := 0, locals := 2648 } (cPS RX12 ixM adK adV tq D (tM ca) (wM h ad ca I F) sz [.ref h]) (va_Qi (fun (r : Int32) (u : (Int → Int) × (Int) × (Int) × (Int) × (Int) × (Int) × (Int) × (Int) × (Int) × (Int) × (Int)) => (∃ x : Int, r = zI x ∧ rng x ∧ K x u.1 u.2.1 u.2.2.1 u.2.2.2.1 u.2.2.2.2.1 u.2.2.2.2.2.1 u.2.2.2.2.2.2.1 u.2.2.2.2.2.2.2.1 u.2.2.2.2.2.2.2.2.1 u.2.2.2.2.2.2.2.2.2.1 u.2.2.2.2.2.2.2.2.2.2) ∧ rngS (sI (sI (sI (sI (sI (sI (sI (sI (sI (sI I 5 u.2.1) 8 u.2.2.1) 9 u.2.2.2.1) 10 u.2.2.2.2.1) 11 u.2.2.2.2.2.1) 12 u.2.2.2.2.2.2.1) 13 u.2.2.2.2.2.2.2.1) 15 u.2.2.2.2.2.2.2.2.1) 16 u.2.2.2.2.2.2.2.2.2.1) 19 u.2.2.2.2.2.2.2.2.2.2) (sF F 3 u.1)) (fun u t => cB D (va_A (wM h ad ca I F) sz) [] (wM h ad ca (sI (sI (sI (sI (sI (sI (sI (sI (sI (sI I 5 u.2.1) 8 u.2.2.1) 9 u.2.2.2.1) 10 u.2.2.2.2.1) 11 u.2.2.2.2.2.1) 12 u.2.2.2.2.2.2.1) 13 u.2.2.2.2.2.2.2.1) 15 u.2.2.2.2.2.2.2.2.1) 16 u.2.2.2.2.2.2.2.2.2.1) 19 u.2.2.2.2.2.2.2.2.2.2) (sF F 3 u.1)) t) (va_A (wM h ad ca I F) sz)) 0 0 (va_A (wM h ad ca I F) sz) := (mg_sumUp 100).1
theorem mt_product : ∀ (D : va_G) (h : Nat) (ad : Nat → Nat) (ca : Nat → ClassId) (I : Nat → Int) (F : Nat → Int → Int) (hS : rngS I F) (adK adV : Nat → Nat) (tq : Nat) (K : Int → (Int → Int) → Int → Int → Int → Int → Int → Int → Int → Int → Int → Int → Prop) (hw : wp_product 100 (F 3) (I 5) (F 6) (I 7) (I 8) (I 9) (I 10) (I 11) (I 12) (I 13) (I 15) (I 16) (I 18) (I 19) (I 21) (I 22) K) (l : Launch) (sz : Nat), Met l yX12_product (Cond.code yX12_product cX12_product 2 (some .boolean) :: gG) { frames := 111, cells := 0, slots := 0, locals := 2648 } (cPS RX12 ixM adK adV tq D (tM ca) (wM h ad ca I F) sz [.ref h]) (va_Qi (fun (r : Int32) (u : (Int → Int) × (Int) × (Int) × (Int) × (Int) × (Int) × (Int) × (Int) × (Int) × (Int) × (Int)) => (∃ x : Int, r = zI x ∧ rng x ∧ K x u.1 u.2.1 u.2.2.1 u.2.2.2.1 u.2.2.2.2.1 u.2.2.2.2.2.1 u.2.2.2.2.2.2.1 u.2.2.2.2.2.2.2.1 u.2.2.2.2.2.2.2.2.1 u.2.2.2.2.2.2.2.2.2.1 u.2.2.2.2.2.2.2.2.2.2) ∧ rngS (sI (sI (sI (sI (sI (sI (sI (sI (sI (sI I 5 u.2.1) 8 u.2.2.1) 9 u.2.2.2.1) 10 u.2.2.2.2.1) 11 u.2.2.2.2.2.1) 12 u.2.2.2.2.2.2.1) 13 u.2.2.2.2.2.2.2.1) 15 u.2.2.2.2.2.2.2.2.1) 16 u.2.2.2.2.2.2.2.2.2.1) 19 u.2.2.2.2.2.2.2.2.2.2) (sF F 3 u.1)) (fun u t => cB D (va_A (wM h ad ca I F) sz) [] (wM h ad ca (sI (sI (sI (sI (sI (sI (sI (sI (sI (sI I 5 u.2.1) 8 u.2.2.1) 9 u.2.2.2.1) 10 u.2.2.2.2.1) 11 u.2.2.2.2.2.1) 12 u.2.2.2.2.2.2.1) 13 u.2.2.2.2.2.2.2.1) 15 u.2.2.2.2.2.2.2.2.1) 16 u.2.2.2.2.2.2.2.2.2.1) 19 u.2.2.2.2.2.2.2.2.2.2) (sF F 3 u.1)) t) (va_A (wM h ad ca I F) sz)) 0 0 (va_A (wM h ad ca I F) sz) := (mg_sumUp 100).2.1
theorem mt_unit : ∀ (D : va_G) (h : Nat) (ad : Nat → Nat) (ca : Nat → ClassId) (I : Nat → Int) (F : Nat → Int → Int) (hS : rngS I F) (adK adV : Nat → Nat) (tq : Nat) (K : Int → (Int → Int) → Int → Int → Int → Int → Int → Int → Int → Int → Int → Int → Prop) (hw : wp_unit 100 (F 3) (I 5) (F 6) (I 7) (I 8) (I 9) (I 10) (I 11) (I 12) (I 13) (I 15) (I 16) (I 18) (I 19) (I 21) (I 22) K) (l : Launch) (sz : Nat), Met l yX12_unit (Cond.code yX12_unit cX12_unit 3 (some .boolean) :: gG) { frames := 111, cells := 0, slots := 0, locals := 2648 } (cPS RX12 ixM adK adV tq D (tM ca) (wM h ad ca I F) sz [.ref h]) (va_Qi (fun (r : Int32) (u : (Int → Int) × (Int) × (Int) × (Int) × (Int) × (Int) × (Int) × (Int) × (Int) × (Int) × (Int)) => (∃ x : Int, r = zI x ∧ rng x ∧ K x u.1 u.2.1 u.2.2.1 u.2.2.2.1 u.2.2.2.2.1 u.2.2.2.2.2.1 u.2.2.2.2.2.2.1 u.2.2.2.2.2.2.2.1 u.2.2.2.2.2.2.2.2.1 u.2.2.2.2.2.2.2.2.2.1 u.2.2.2.2.2.2.2.2.2.2) ∧ rngS (sI (sI (sI (sI (sI (sI (sI (sI (sI (sI I 5 u.2.1) 8 u.2.2.1) 9 u.2.2.2.1) 10 u.2.2.2.2.1) 11 u.2.2.2.2.2.1) 12 u.2.2.2.2.2.2.1) 13 u.2.2.2.2.2.2.2.1) 15 u.2.2.2.2.2.2.2.2.1) 16 u.2.2.2.2.2.2.2.2.2.1) 19 u.2.2.2.2.2.2.2.2.2.2) (sF F 3 u.1)) (fun u t => cB D (va_A (wM h ad ca I F) sz) [] (wM h ad ca (sI (sI (sI (sI (sI (sI (sI (sI (sI (sI I 5 u.2.1) 8 u.2.2.1) 9 u.2.2.2.1) 10 u.2.2.2.2.1) 11 u.2.2.2.2.2.1) 12 u.2.2.2.2.2.2.1) 13 u.2.2.2.2.2.2.2.1) 15 u.2.2.2.2.2.2.2.2.1) 16 u.2.2.2.2.2.2.2.2.2.1) 19 u.2.2.2.2.2.2.2.2.2.2) (sF F 3 u.1)) t) (va_A (wM h ad ca I F) sz)) 0 0 (va_A (wM h ad ca I F) sz) := (mg_sumUp 100).2.2
set_option maxHeartbeats 4000000 in
set_option maxRecDepth 100000 in
theorem mt_asks : ∀ (D : va_G) (h : Nat) (ad : Nat → Nat) (ca : Nat → ClassId) (I : Nat → Int) (F : Nat → Int → Int) (hS : rngS I F) (adK adV : Nat → Nat) (tq : Nat) (K : Int → (Int → Int) → Int → Int → Int → Int → Int → Int → Int → Int → Int → Int → Prop) (hw : wp_asks (F 3) (I 5) (F 6) (I 7) (I 8) (I 9) (I 10) (I 11) (I 12) (I 13) (I 15) (I 16) (I 18) (I 19) (I 21) (I 22) K) (l : Launch) (sz : Nat), Met l yX12_asks (Cond.code yX12_asks cX12_asks 3 (some .boolean) :: gG) { frames := 112, cells := 0, slots := 0, locals := 2670 } (cPS RX12 ixM adK adV tq D (tM ca) (wM h ad ca I F) sz [.ref h]) (va_Qi (fun (r : Int32) (u : (Int → Int) × (Int) × (Int) × (Int) × (Int) × (Int) × (Int) × (Int) × (Int) × (Int) × (Int)) => (∃ x : Int, r = zI x ∧ rng x ∧ K x u.1 u.2.1 u.2.2.1 u.2.2.2.1 u.2.2.2.2.1 u.2.2.2.2.2.1 u.2.2.2.2.2.2.1 u.2.2.2.2.2.2.2.1 u.2.2.2.2.2.2.2.2.1 u.2.2.2.2.2.2.2.2.2.1 u.2.2.2.2.2.2.2.2.2.2) ∧ rngS (sI (sI (sI (sI (sI (sI (sI (sI (sI (sI I 5 u.2.1) 8 u.2.2.1) 9 u.2.2.2.1) 10 u.2.2.2.2.1) 11 u.2.2.2.2.2.1) 12 u.2.2.2.2.2.2.1) 13 u.2.2.2.2.2.2.2.1) 15 u.2.2.2.2.2.2.2.2.1) 16 u.2.2.2.2.2.2.2.2.2.1) 19 u.2.2.2.2.2.2.2.2.2.2) (sF F 3 u.1)) (fun u t => cB D (va_A (wM h ad ca I F) sz) [] (wM h ad ca (sI (sI (sI (sI (sI (sI (sI (sI (sI (sI I 5 u.2.1) 8 u.2.2.1) 9 u.2.2.2.1) 10 u.2.2.2.2.1) 11 u.2.2.2.2.2.1) 12 u.2.2.2.2.2.2.1) 13 u.2.2.2.2.2.2.2.1) 15 u.2.2.2.2.2.2.2.2.1) 16 u.2.2.2.2.2.2.2.2.2.1) 19 u.2.2.2.2.2.2.2.2.2.2) (sF F 3 u.1)) t) (va_A (wM h ad ca I F) sz)) 0 0 (va_A (wM h ad ca I F) sz) := by
  intro D h ad ca I F hS adK adV tq  K hw l sz
  refine Met.ofW (cc := cX12_asks) (maxL := 3) (ret := (some .boolean)) (by decide) rfl ?_
  intro p e s m args below meth c s₁ B hml hv
  obtain ⟨hv, hE⟩ := hv
  obtain ⟨rfl, aks, rfl, Wd⟩ := k_enter hv
  have C : CallFix p m c cX12_asks 3 s _ gG RX12 := ⟨B.exec, B.bytes, hml, findClass_of_methodNamed B.named, fun w h => atoms_spec (ws := Cond.code yX12_asks cX12_asks 3 (some .boolean) :: gG) B.pre w (List.mem_cons_of_mem _ h)⟩
  have hr := B.returns
  have hlk := B.notSynchronized
  generalize va_A (wM h ad ca I F) s.heap.size = A at Wd hE ⊢
  replace Wd : wXM D ca s h ad I F s.heap A s.heap [] := ⟨Wd, hS⟩
  refine k_locals (Nat.le_of_ble_eq_true rfl) [(0, .ref h)] rfl (fun ls hl => ?_)
  unfold wp_asks at hw
  refine lv_aload_n C.1 C.2.1 dX12_asks_0 rfl (lv_at hl 0 rfl) ?_
  refine k_get (v := .int (zI (I 5))) C Wd.1 KX12 0 5 wM0 (by decide) fl_X12_117 rfl dX12_asks_1 ?_
  refine lv_istore_n (lv' := [(1, .int (zI (I 5))), (0, .ref h)]) C.1 C.2.1 dX12_asks_4 rfl hl (by decide) rfl (fun ls hl => ?_)
  replace hl := lv_sub hl [1, 0] rfl
  refine lv_aload_n C.1 C.2.1 dX12_asks_5 rfl (lv_at hl 0 rfl) ?_
  refine k_cMi Wd (k_runVMS (rest := []) C aks hE Wd cs_X12_219 (mt_sumUp D h ad ca I F Wd.2 adK adV tq   _ hw l _) rfl rfl ⟨(Nat.le_of_ble_eq_true rfl), (Nat.le_of_ble_eq_true rfl)⟩ hl.1 rfl rfl (Nat.le_of_ble_eq_true rfl) ⟨(Nat.le_of_ble_eq_true rfl), (Nat.le_of_ble_eq_true rfl)⟩ dX12_asks_6) (fun r6 u6 H locs g_r6 hw Wd => ?_)
  obtain ⟨fresh_r6, made_r6, at0_r6, token_r6, tokenAt_r6, value_r6, wrong_r6, wrongAt_r6, depth_r6, countParts_r6, leftLetters_r6⟩ := u6
  dsimp only at hw
  have Wc6 := Wd
  have Wd : wXM D ca s h ad (sI (sI (sI (sI (sI (sI (sI (sI (sI (sI I 5 made_r6) 8 at0_r6) 9 token_r6) 10 tokenAt_r6) 11 value_r6) 12 wrong_r6) 13 wrongAt_r6) 15 depth_r6) 16 countParts_r6) 19 leftLetters_r6) (sF F 3 fresh_r6) H A s.heap locs := wMc Wd rfl rfl ⟨(rsI (rsI (rsI (rsI (rsI (rsI (rsI (rsI (rsI (rsI hS.1 (Wc6.2.1 5)) (Wc6.2.1 8)) (Wc6.2.1 9)) (Wc6.2.1 10)) (Wc6.2.1 11)) (Wc6.2.1 12)) (Wc6.2.1 13)) (Wc6.2.1 15)) (Wc6.2.1 16)) (Wc6.2.1 19)), (rsF hS.2 (fun j => Wc6.2.2 3 j))⟩
  refine lv_if_ne (tgt := 14) C.1 C.2.1 dX12_asks_9 (by decide) (fun c9 => ?_) (fun c9 => ?_)
  · have hw := hw.1 (z0_ne g_r6 c9)
    refine lv_aload_n C.1 C.2.1 dX12_asks_14 rfl (lv_at hl 0 rfl) ?_
    refine k_get (v := .int (zI token_r6)) C Wd.1 KX12 0 9 wM0 (by decide) fl_X12_164 rfl dX12_asks_15 ?_
    refine lv_bipush (v := zI 60) C.1 C.2.1 dX12_asks_18 (by decide) ?_
    refine k_cut1 (fun (s0_60 : Int) H locs ls => rng s0_60 ∧ wp_asks_60 K (I 5) (F 6) (I 7) (I 18) (I 21) (I 22) at0_r6 countParts_r6 depth_r6 fresh_r6 leftLetters_r6 made_r6 tokenAt_r6 token_r6 value_r6 wrongAt_r6 wrong_r6 s0_60 ∧ wXM D ca s h ad (sI (sI (sI (sI (sI (sI (sI (sI (sI (sI I 5 made_r6) 8 at0_r6) 9 token_r6) 10 tokenAt_r6) 11 value_r6) 12 wrong_r6) 13 wrongAt_r6) 15 depth_r6) 16 countParts_r6) 19 leftLetters_r6) (sF F 3 fresh_r6) H A s.heap locs ∧ lv_has ls 3 [(0, .ref h), (1, .int (zI (I 5)))]) (fun (s0_60 : Int) ls => F0 m 60 ls [.int (zI s0_60)]) (fun s0_60 H locs ls hi => ?_) (fun J60 => ?_)
    · obtain ⟨g_s0_60, hw, Wd, hl⟩ := hi
      have Wd60 := Wd
      unfold wp_asks_60 at hw
      refine lv_istore_n (lv' := [(2, .int (zI s0_60)), (0, .ref h), (1, .int (zI (I 5)))]) C.1 C.2.1 dX12_asks_60 rfl hl (by decide) rfl (fun ls hl => ?_)
      replace hl := lv_sub hl [1, 2, 0] rfl
      refine lv_iload_n C.1 C.2.1 dX12_asks_61 rfl (lv_at hl 2 rfl) ?_
      refine lv_iconst (v := zI (-1)) C.1 C.2.1 dX12_asks_62 (by decide) ?_
      refine lv_icmp_ne (tgt := 72) C.1 C.2.1 dX12_asks_63 (by decide) (fun c63 => ?_) (fun c63 => ?_)
      · have hw := hw.1 (z_ne g_s0_60 (show rng (-1) from by decide) c63)
        refine lv_aload_n C.1 C.2.1 dX12_asks_72 rfl (lv_at hl 0 rfl) ?_
        refine k_cMv Wd (k_runVMS (rest := []) C aks hE Wd cs_X12_188 (mt_next0 D h ad ca (sI (sI (sI (sI (sI (sI (sI (sI (sI (sI I 5 made_r6) 8 at0_r6) 9 token_r6) 10 tokenAt_r6) 11 value_r6) 12 wrong_r6) 13 wrongAt_r6) 15 depth_r6) 16 countParts_r6) 19 leftLetters_r6) (sF F 3 fresh_r6) Wd.2 adK adV tq   _ hw l _) rfl rfl ⟨(Nat.le_of_ble_eq_true rfl), (Nat.le_of_ble_eq_true rfl)⟩ hl.1 rfl rfl (Nat.le_of_ble_eq_true rfl) ⟨(Nat.le_of_ble_eq_true rfl), (Nat.le_of_ble_eq_true rfl)⟩ dX12_asks_73) (fun u73 H locs hw Wd => ?_)
        obtain ⟨at0_r73, token_r73, tokenAt_r73, value_r73⟩ := u73
        dsimp only at hw
        have Wc73 := Wd
        have Wd : wXM D ca s h ad (sI (sI (sI (sI (sI (sI (sI (sI (sI (sI I 5 made_r6) 8 at0_r73) 9 token_r73) 10 tokenAt_r73) 11 value_r73) 12 wrong_r6) 13 wrongAt_r6) 15 depth_r6) 16 countParts_r6) 19 leftLetters_r6) (sF F 3 fresh_r6) H A s.heap locs := wMc Wd rfl rfl ⟨(rsI (rsI (rsI (rsI (rsI (rsI (rsI (rsI (rsI (rsI hS.1 (Wc6.2.1 5)) (Wc73.2.1 8)) (Wc73.2.1 9)) (Wc73.2.1 10)) (Wc73.2.1 11)) (Wc6.2.1 12)) (Wc6.2.1 13)) (Wc6.2.1 15)) (Wc6.2.1 16)) (Wc6.2.1 19)), (rsF hS.2 (fun j => Wc6.2.2 3 j))⟩
        refine lv_aload_n C.1 C.2.1 dX12_asks_76 rfl (lv_at hl 0 rfl) ?_
        refine lv_iload_n C.1 C.2.1 dX12_asks_77 rfl (lv_at hl 1 rfl) ?_
        refine lv_iload_n C.1 C.2.1 dX12_asks_78 rfl (lv_at hl 2 rfl) ?_
        refine k_cMv Wd (k_runVM (rest := []) C aks Wd cs_X12_209 (mt_ahead D h ad ca (sI (sI (sI (sI (sI (sI (sI (sI (sI (sI I 5 made_r6) 8 at0_r73) 9 token_r73) 10 tokenAt_r73) 11 value_r73) 12 wrong_r6) 13 wrongAt_r6) 15 depth_r6) 16 countParts_r6) 19 leftLetters_r6) (sF F 3 fresh_r6) Wd.2 (I 5) s0_60 (hS.1 5) g_s0_60 _ hw l _) rfl rfl ⟨(Nat.le_of_ble_eq_true rfl), (Nat.le_of_ble_eq_true rfl)⟩ hl.1 rfl rfl (Nat.le_of_ble_eq_true rfl) ⟨(Nat.le_of_ble_eq_true rfl), (Nat.le_of_ble_eq_true rfl)⟩ dX12_asks_79) (fun u79 H locs hw Wd => ?_)
        obtain ⟨fresh_r79, made_r79⟩ := u79
        dsimp only at hw
        have Wc79 := Wd
        have Wd : wXM D ca s h ad (sI (sI (sI (sI (sI (sI (sI (sI (sI (sI I 5 made_r79) 8 at0_r73) 9 token_r73) 10 tokenAt_r73) 11 value_r73) 12 wrong_r6) 13 wrongAt_r6) 15 depth_r6) 16 countParts_r6) 19 leftLetters_r6) (sF F 3 fresh_r79) H A s.heap locs := wMc Wd rfl rfl ⟨(rsI (rsI (rsI (rsI (rsI (rsI (rsI (rsI (rsI (rsI hS.1 (Wc79.2.1 5)) (Wc73.2.1 8)) (Wc73.2.1 9)) (Wc73.2.1 10)) (Wc73.2.1 11)) (Wc6.2.1 12)) (Wc6.2.1 13)) (Wc6.2.1 15)) (Wc6.2.1 16)) (Wc6.2.1 19)), (rsF hS.2 (fun j => Wc79.2.2 3 j))⟩
        refine lv_aload_n C.1 C.2.1 dX12_asks_82 rfl (lv_at hl 0 rfl) ?_
        refine k_cMi Wd (k_runVMS (rest := []) C aks hE Wd cs_X12_219 (mt_sumUp D h ad ca (sI (sI (sI (sI (sI (sI (sI (sI (sI (sI I 5 made_r79) 8 at0_r73) 9 token_r73) 10 tokenAt_r73) 11 value_r73) 12 wrong_r6) 13 wrongAt_r6) 15 depth_r6) 16 countParts_r6) 19 leftLetters_r6) (sF F 3 fresh_r79) Wd.2 adK adV tq   _ hw l _) rfl rfl ⟨(Nat.le_of_ble_eq_true rfl), (Nat.le_of_ble_eq_true rfl)⟩ hl.1 rfl rfl (Nat.le_of_ble_eq_true rfl) ⟨(Nat.le_of_ble_eq_true rfl), (Nat.le_of_ble_eq_true rfl)⟩ dX12_asks_83) (fun r83 u83 H locs g_r83 hw Wd => ?_)
        obtain ⟨fresh_r83, made_r83, at0_r83, token_r83, tokenAt_r83, value_r83, wrong_r83, wrongAt_r83, depth_r83, countParts_r83, leftLetters_r83⟩ := u83
        dsimp only at hw
        have Wc83 := Wd
        have Wd : wXM D ca s h ad (sI (sI (sI (sI (sI (sI (sI (sI (sI (sI I 5 made_r83) 8 at0_r83) 9 token_r83) 10 tokenAt_r83) 11 value_r83) 12 wrong_r83) 13 wrongAt_r83) 15 depth_r83) 16 countParts_r83) 19 leftLetters_r83) (sF F 3 fresh_r83) H A s.heap locs := wMc Wd rfl rfl ⟨(rsI (rsI (rsI (rsI (rsI (rsI (rsI (rsI (rsI (rsI hS.1 (Wc83.2.1 5)) (Wc83.2.1 8)) (Wc83.2.1 9)) (Wc83.2.1 10)) (Wc83.2.1 11)) (Wc83.2.1 12)) (Wc83.2.1 13)) (Wc83.2.1 15)) (Wc83.2.1 16)) (Wc83.2.1 19)), (rsF hS.2 (fun j => Wc83.2.2 3 j))⟩
        obtain ⟨b86_0, hw⟩ := hw
        exact k_retMi C hr hlk (zI_nb b86_0) Wd (u := (fresh_r83, made_r83, at0_r83, token_r83, tokenAt_r83, value_r83, wrong_r83, wrongAt_r83, depth_r83, countParts_r83, leftLetters_r83)) rfl rfl ⟨⟨_, rfl, g_r83, hw⟩, ⟨(rsI (rsI (rsI (rsI (rsI (rsI (rsI (rsI (rsI (rsI hS.1 (Wc83.2.1 5)) (Wc83.2.1 8)) (Wc83.2.1 9)) (Wc83.2.1 10)) (Wc83.2.1 11)) (Wc83.2.1 12)) (Wc83.2.1 13)) (Wc83.2.1 15)) (Wc83.2.1 16)) (Wc83.2.1 19)), (rsF hS.2 (fun j => Wc83.2.2 3 j))⟩⟩ dX12_asks_86
      · have hw := hw.2 (z_eq g_s0_60 (show rng (-1) from by decide) c63)
        refine lv_aload_n C.1 C.2.1 dX12_asks_66 rfl (lv_at hl 0 rfl) ?_
        refine lv_iconst (v := zI 1) C.1 C.2.1 dX12_asks_67 (by decide) ?_
        refine k_cMi Wd (k_runVM (rest := []) C aks Wd cs_X12_185 (mt_bad D h ad ca (sI (sI (sI (sI (sI (sI (sI (sI (sI (sI I 5 made_r6) 8 at0_r6) 9 token_r6) 10 tokenAt_r6) 11 value_r6) 12 wrong_r6) 13 wrongAt_r6) 15 depth_r6) 16 countParts_r6) 19 leftLetters_r6) (sF F 3 fresh_r6) Wd.2 1 (show rng 1 from by decide) _ hw l _) rfl rfl ⟨(Nat.le_of_ble_eq_true rfl), (Nat.le_of_ble_eq_true rfl)⟩ hl.1 rfl rfl (Nat.le_of_ble_eq_true rfl) ⟨(Nat.le_of_ble_eq_true rfl), (Nat.le_of_ble_eq_true rfl)⟩ dX12_asks_68) (fun r68 u68 H locs g_r68 hw Wd => ?_)
        obtain ⟨wrong_r68, wrongAt_r68⟩ := u68
        dsimp only at hw
        have Wc68 := Wd
        have Wd : wXM D ca s h ad (sI (sI (sI (sI (sI (sI (sI (sI (sI (sI I 5 made_r6) 8 at0_r6) 9 token_r6) 10 tokenAt_r6) 11 value_r6) 12 wrong_r68) 13 wrongAt_r68) 15 depth_r6) 16 countParts_r6) 19 leftLetters_r6) (sF F 3 fresh_r6) H A s.heap locs := wMc Wd rfl rfl ⟨(rsI (rsI (rsI (rsI (rsI (rsI (rsI (rsI (rsI (rsI hS.1 (Wc6.2.1 5)) (Wc6.2.1 8)) (Wc6.2.1 9)) (Wc6.2.1 10)) (Wc6.2.1 11)) (Wc68.2.1 12)) (Wc68.2.1 13)) (Wc6.2.1 15)) (Wc6.2.1 16)) (Wc6.2.1 19)), (rsF hS.2 (fun j => Wc6.2.2 3 j))⟩
        obtain ⟨b71_0, hw⟩ := hw
        exact k_retMi C hr hlk (zI_nb b71_0) Wd (u := (fresh_r6, made_r6, at0_r6, token_r6, tokenAt_r6, value_r6, wrong_r68, wrongAt_r68, depth_r6, countParts_r6, leftLetters_r6)) rfl rfl ⟨⟨_, rfl, g_r68, hw⟩, ⟨(rsI (rsI (rsI (rsI (rsI (rsI (rsI (rsI (rsI (rsI hS.1 (Wc6.2.1 5)) (Wc6.2.1 8)) (Wc6.2.1 9)) (Wc6.2.1 10)) (Wc6.2.1 11)) (Wc68.2.1 12)) (Wc68.2.1 13)) (Wc6.2.1 15)) (Wc6.2.1 16)) (Wc6.2.1 19)), (rsF hS.2 (fun j => Wc6.2.2 3 j))⟩⟩ dX12_asks_71
    refine lv_icmp_ne (tgt := 29) C.1 C.2.1 dX12_asks_20 (by decide) (fun c20 => ?_) (fun c20 => ?_)
    · have hw := hw.1 (z_ne (Wc6.2.1 9) (show rng 60 from by decide) c20)
      refine lv_aload_n C.1 C.2.1 dX12_asks_29 rfl (lv_at hl 0 rfl) ?_
      refine k_get (v := .int (zI token_r6)) C Wd.1 KX12 0 9 wM0 (by decide) fl_X12_164 rfl dX12_asks_30 ?_
      refine lv_bipush (v := zI 61) C.1 C.2.1 dX12_asks_33 (by decide) ?_
      refine lv_icmp_ne (tgt := 44) C.1 C.2.1 dX12_asks_35 (by decide) (fun c35 => ?_) (fun c35 => ?_)
      · have hw := hw.1 (z_ne (Wc6.2.1 9) (show rng 61 from by decide) c35)
        refine lv_aload_n C.1 C.2.1 dX12_asks_44 rfl (lv_at hl 0 rfl) ?_
        refine k_get (v := .int (zI token_r6)) C Wd.1 KX12 0 9 wM0 (by decide) fl_X12_164 rfl dX12_asks_45 ?_
        refine lv_bipush (v := zI 62) C.1 C.2.1 dX12_asks_48 (by decide) ?_
        refine lv_icmp_ne (tgt := 59) C.1 C.2.1 dX12_asks_50 (by decide) (fun c50 => ?_) (fun c50 => ?_)
        · have hw := hw.1 (z_ne (Wc6.2.1 9) (show rng 62 from by decide) c50)
          refine lv_iconst (v := zI (-1)) C.1 C.2.1 dX12_asks_59 (by decide) ?_
          exact J60 (-1) _ _ _ ⟨(show rng (-1) from by decide), hw, wMc Wd rfl rfl ⟨(rsI (rsI (rsI (rsI (rsI (rsI (rsI (rsI (rsI (rsI hS.1 (Wc6.2.1 5)) (Wc6.2.1 8)) (Wc6.2.1 9)) (Wc6.2.1 10)) (Wc6.2.1 11)) (Wc6.2.1 12)) (Wc6.2.1 13)) (Wc6.2.1 15)) (Wc6.2.1 16)) (Wc6.2.1 19)), (rsF hS.2 (fun j => Wc6.2.2 3 j))⟩, lv_sub hl [0, 1] rfl⟩
        · have hw := hw.2 (z_eq (Wc6.2.1 9) (show rng 62 from by decide) c50)
          refine lv_sipush (v := zI 132) C.1 C.2.1 dX12_asks_53 (zS (by decide) (by decide)) ?_
          refine lv_goto (tgt := 60) C.1 C.2.1 dX12_asks_56 (by decide) ?_
          exact J60 132 _ _ _ ⟨(show rng 132 from by decide), hw, wMc Wd rfl rfl ⟨(rsI (rsI (rsI (rsI (rsI (rsI (rsI (rsI (rsI (rsI hS.1 (Wc6.2.1 5)) (Wc6.2.1 8)) (Wc6.2.1 9)) (Wc6.2.1 10)) (Wc6.2.1 11)) (Wc6.2.1 12)) (Wc6.2.1 13)) (Wc6.2.1 15)) (Wc6.2.1 16)) (Wc6.2.1 19)), (rsF hS.2 (fun j => Wc6.2.2 3 j))⟩, lv_sub hl [0, 1] rfl⟩
      · have hw := hw.2 (z_eq (Wc6.2.1 9) (show rng 61 from by decide) c35)
        refine lv_sipush (v := zI 131) C.1 C.2.1 dX12_asks_38 (zS (by decide) (by decide)) ?_
        refine lv_goto (tgt := 60) C.1 C.2.1 dX12_asks_41 (by decide) ?_
        exact J60 131 _ _ _ ⟨(show rng 131 from by decide), hw, wMc Wd rfl rfl ⟨(rsI (rsI (rsI (rsI (rsI (rsI (rsI (rsI (rsI (rsI hS.1 (Wc6.2.1 5)) (Wc6.2.1 8)) (Wc6.2.1 9)) (Wc6.2.1 10)) (Wc6.2.1 11)) (Wc6.2.1 12)) (Wc6.2.1 13)) (Wc6.2.1 15)) (Wc6.2.1 16)) (Wc6.2.1 19)), (rsF hS.2 (fun j => Wc6.2.2 3 j))⟩, lv_sub hl [0, 1] rfl⟩
    · have hw := hw.2 (z_eq (Wc6.2.1 9) (show rng 60 from by decide) c20)
      refine lv_sipush (v := zI 130) C.1 C.2.1 dX12_asks_23 (zS (by decide) (by decide)) ?_
      refine lv_goto (tgt := 60) C.1 C.2.1 dX12_asks_26 (by decide) ?_
      exact J60 130 _ _ _ ⟨(show rng 130 from by decide), hw, wMc Wd rfl rfl ⟨(rsI (rsI (rsI (rsI (rsI (rsI (rsI (rsI (rsI (rsI hS.1 (Wc6.2.1 5)) (Wc6.2.1 8)) (Wc6.2.1 9)) (Wc6.2.1 10)) (Wc6.2.1 11)) (Wc6.2.1 12)) (Wc6.2.1 13)) (Wc6.2.1 15)) (Wc6.2.1 16)) (Wc6.2.1 19)), (rsF hS.2 (fun j => Wc6.2.2 3 j))⟩, lv_sub hl [0, 1] rfl⟩
  · have hw := hw.2 (z0_eq g_r6 c9)
    refine lv_iconst (v := zI 0) C.1 C.2.1 dX12_asks_12 (by decide) ?_
    exact k_retMi C hr hlk (by decide) Wd (u := (fresh_r6, made_r6, at0_r6, token_r6, tokenAt_r6, value_r6, wrong_r6, wrongAt_r6, depth_r6, countParts_r6, leftLetters_r6)) rfl rfl ⟨⟨_, rfl, (show rng 0 from by decide), hw⟩, ⟨(rsI (rsI (rsI (rsI (rsI (rsI (rsI (rsI (rsI (rsI hS.1 (Wc6.2.1 5)) (Wc6.2.1 8)) (Wc6.2.1 9)) (Wc6.2.1 10)) (Wc6.2.1 11)) (Wc6.2.1 12)) (Wc6.2.1 13)) (Wc6.2.1 15)) (Wc6.2.1 16)) (Wc6.2.1 19)), (rsF hS.2 (fun j => Wc6.2.2 3 j))⟩⟩ dX12_asks_13
set_option maxHeartbeats 4000000 in
set_option maxRecDepth 100000 in
theorem mg_block (n : Nat) : (∀ (D : va_G) (h : Nat) (ad : Nat → Nat) (ca : Nat → ClassId) (I : Nat → Int) (F : Nat → Int → Int) (hS : rngS I F) (adK adV : Nat → Nat) (tq : Nat) (K : Int → (Int → Int) → Int → Int → Int → Int → Int → Int → Int → Int → Int → Int → Int → Prop) (hw : wp_block n (F 3) (I 5) (F 6) (I 7) (I 8) (I 9) (I 10) (I 11) (I 12) (I 13) (I 15) (I 16) (I 17) (I 18) (I 19) (I 21) (I 22) K) (l : Launch) (sz : Nat), Met l yX12_block (Cond.code yX12_block cX12_block 1 (some .boolean) :: gG) { frames := 114 + n, cells := 0, slots := 0, locals := 2732 + 22 * n } (cPS RX12 ixM adK adV tq D (tM ca) (wM h ad ca I F) sz [.ref h]) (va_Qi (fun (r : Int32) (u : (Int → Int) × (Int) × (Int) × (Int) × (Int) × (Int) × (Int) × (Int) × (Int) × (Int) × (Int) × (Int)) => (∃ x : Int, r = zI x ∧ rng x ∧ K x u.1 u.2.1 u.2.2.1 u.2.2.2.1 u.2.2.2.2.1 u.2.2.2.2.2.1 u.2.2.2.2.2.2.1 u.2.2.2.2.2.2.2.1 u.2.2.2.2.2.2.2.2.1 u.2.2.2.2.2.2.2.2.2.1 u.2.2.2.2.2.2.2.2.2.2.1 u.2.2.2.2.2.2.2.2.2.2.2) ∧ rngS (sI (sI (sI (sI (sI (sI (sI (sI (sI (sI (sI I 5 u.2.1) 8 u.2.2.1) 9 u.2.2.2.1) 10 u.2.2.2.2.1) 11 u.2.2.2.2.2.1) 12 u.2.2.2.2.2.2.1) 13 u.2.2.2.2.2.2.2.1) 15 u.2.2.2.2.2.2.2.2.1) 16 u.2.2.2.2.2.2.2.2.2.1) 17 u.2.2.2.2.2.2.2.2.2.2.1) 19 u.2.2.2.2.2.2.2.2.2.2.2) (sF F 3 u.1)) (fun u t => cB D (va_A (wM h ad ca I F) sz) [] (wM h ad ca (sI (sI (sI (sI (sI (sI (sI (sI (sI (sI (sI I 5 u.2.1) 8 u.2.2.1) 9 u.2.2.2.1) 10 u.2.2.2.2.1) 11 u.2.2.2.2.2.1) 12 u.2.2.2.2.2.2.1) 13 u.2.2.2.2.2.2.2.1) 15 u.2.2.2.2.2.2.2.2.1) 16 u.2.2.2.2.2.2.2.2.2.1) 17 u.2.2.2.2.2.2.2.2.2.2.1) 19 u.2.2.2.2.2.2.2.2.2.2.2) (sF F 3 u.1)) t) (va_A (wM h ad ca I F) sz)) 0 0 (va_A (wM h ad ca I F) sz)) ∧ (∀ (D : va_G) (h : Nat) (ad : Nat → Nat) (ca : Nat → ClassId) (I : Nat → Int) (F : Nat → Int → Int) (hS : rngS I F) (adK adV : Nat → Nat) (tq : Nat) (K : Int → (Int → Int) → Int → Int → Int → Int → Int → Int → Int → Int → Int → Int → Int → Prop) (hw : wp_statement n (F 3) (I 5) (F 6) (I 7) (I 8) (I 9) (I 10) (I 11) (I 12) (I 13) (I 15) (I 16) (I 17) (I 18) (I 19) (I 21) (I 22) K) (l : Launch) (sz : Nat), Met l yX12_statement (Cond.code yX12_statement cX12_statement 3 (some .boolean) :: gG) { frames := 114 + n, cells := 0, slots := 0, locals := 2732 + 22 * n } (cPS RX12 ixM adK adV tq D (tM ca) (wM h ad ca I F) sz [.ref h]) (va_Qi (fun (r : Int32) (u : (Int → Int) × (Int) × (Int) × (Int) × (Int) × (Int) × (Int) × (Int) × (Int) × (Int) × (Int) × (Int)) => (∃ x : Int, r = zI x ∧ rng x ∧ K x u.1 u.2.1 u.2.2.1 u.2.2.2.1 u.2.2.2.2.1 u.2.2.2.2.2.1 u.2.2.2.2.2.2.1 u.2.2.2.2.2.2.2.1 u.2.2.2.2.2.2.2.2.1 u.2.2.2.2.2.2.2.2.2.1 u.2.2.2.2.2.2.2.2.2.2.1 u.2.2.2.2.2.2.2.2.2.2.2) ∧ rngS (sI (sI (sI (sI (sI (sI (sI (sI (sI (sI (sI I 5 u.2.1) 8 u.2.2.1) 9 u.2.2.2.1) 10 u.2.2.2.2.1) 11 u.2.2.2.2.2.1) 12 u.2.2.2.2.2.2.1) 13 u.2.2.2.2.2.2.2.1) 15 u.2.2.2.2.2.2.2.2.1) 16 u.2.2.2.2.2.2.2.2.2.1) 17 u.2.2.2.2.2.2.2.2.2.2.1) 19 u.2.2.2.2.2.2.2.2.2.2.2) (sF F 3 u.1)) (fun u t => cB D (va_A (wM h ad ca I F) sz) [] (wM h ad ca (sI (sI (sI (sI (sI (sI (sI (sI (sI (sI (sI I 5 u.2.1) 8 u.2.2.1) 9 u.2.2.2.1) 10 u.2.2.2.2.1) 11 u.2.2.2.2.2.1) 12 u.2.2.2.2.2.2.1) 13 u.2.2.2.2.2.2.2.1) 15 u.2.2.2.2.2.2.2.2.1) 16 u.2.2.2.2.2.2.2.2.2.1) 17 u.2.2.2.2.2.2.2.2.2.2.1) 19 u.2.2.2.2.2.2.2.2.2.2.2) (sF F 3 u.1)) t) (va_A (wM h ad ca I F) sz)) 0 0 (va_A (wM h ad ca I F) sz)) ∧ (∀ (D : va_G) (h : Nat) (ad : Nat → Nat) (ca : Nat → ClassId) (I : Nat → Int) (F : Nat → Int → Int) (hS : rngS I F) (adK adV : Nat → Nat) (tq : Nat) (K : Int → (Int → Int) → Int → Int → Int → Int → Int → Int → Int → Int → Int → Int → Int → Prop) (hw : wp_otherwise n (F 3) (I 5) (F 6) (I 7) (I 8) (I 9) (I 10) (I 11) (I 12) (I 13) (I 15) (I 16) (I 17) (I 18) (I 19) (I 21) (I 22) K) (l : Launch) (sz : Nat), Met l yX12_otherwise (Cond.code yX12_otherwise cX12_otherwise 1 (some .boolean) :: gG) { frames := 114 + n, cells := 0, slots := 0, locals := 2732 + 22 * n } (cPS RX12 ixM adK adV tq D (tM ca) (wM h ad ca I F) sz [.ref h]) (va_Qi (fun (r : Int32) (u : (Int → Int) × (Int) × (Int) × (Int) × (Int) × (Int) × (Int) × (Int) × (Int) × (Int) × (Int) × (Int)) => (∃ x : Int, r = zI x ∧ rng x ∧ K x u.1 u.2.1 u.2.2.1 u.2.2.2.1 u.2.2.2.2.1 u.2.2.2.2.2.1 u.2.2.2.2.2.2.1 u.2.2.2.2.2.2.2.1 u.2.2.2.2.2.2.2.2.1 u.2.2.2.2.2.2.2.2.2.1 u.2.2.2.2.2.2.2.2.2.2.1 u.2.2.2.2.2.2.2.2.2.2.2) ∧ rngS (sI (sI (sI (sI (sI (sI (sI (sI (sI (sI (sI I 5 u.2.1) 8 u.2.2.1) 9 u.2.2.2.1) 10 u.2.2.2.2.1) 11 u.2.2.2.2.2.1) 12 u.2.2.2.2.2.2.1) 13 u.2.2.2.2.2.2.2.1) 15 u.2.2.2.2.2.2.2.2.1) 16 u.2.2.2.2.2.2.2.2.2.1) 17 u.2.2.2.2.2.2.2.2.2.2.1) 19 u.2.2.2.2.2.2.2.2.2.2.2) (sF F 3 u.1)) (fun u t => cB D (va_A (wM h ad ca I F) sz) [] (wM h ad ca (sI (sI (sI (sI (sI (sI (sI (sI (sI (sI (sI I 5 u.2.1) 8 u.2.2.1) 9 u.2.2.2.1) 10 u.2.2.2.2.1) 11 u.2.2.2.2.2.1) 12 u.2.2.2.2.2.2.1) 13 u.2.2.2.2.2.2.2.1) 15 u.2.2.2.2.2.2.2.2.1) 16 u.2.2.2.2.2.2.2.2.2.1) 17 u.2.2.2.2.2.2.2.2.2.2.1) 19 u.2.2.2.2.2.2.2.2.2.2.2) (sF F 3 u.1)) t) (va_A (wM h ad ca I F) sz)) 0 0 (va_A (wM h ad ca I F) sz)) := by
  induction n with
  | zero => exact ⟨(fun _ _ _ _ _ _ _ _ _ _ _ hw => absurd hw id), (fun _ _ _ _ _ _ _ _ _ _ _ hw => absurd hw id), (fun _ _ _ _ _ _ _ _ _ _ _ hw => absurd hw id)⟩
  | succ n ih =>
    obtain ⟨ih_block, ih_statement, ih_otherwise⟩ := ih
    refine ⟨?_, ?_, ?_⟩
    · intro D h ad ca I F hS adK adV tq  K hw l sz
      refine Met.ofW (cc := cX12_block) (maxL := 1) (ret := (some .boolean)) (by decide) rfl ?_
      intro p e s m args below meth c s₁ B hml hv
      obtain ⟨hv, hE⟩ := hv
      obtain ⟨rfl, aks, rfl, Wd⟩ := k_enter hv
      have C : CallFix p m c cX12_block 1 s _ gG RX12 := ⟨B.exec, B.bytes, hml, findClass_of_methodNamed B.named, fun w h => atoms_spec (ws := Cond.code yX12_block cX12_block 1 (some .boolean) :: gG) B.pre w (List.mem_cons_of_mem _ h)⟩
      have hr := B.returns
      have hlk := B.notSynchronized
      generalize va_A (wM h ad ca I F) s.heap.size = A at Wd hE ⊢
      replace Wd : wXM D ca s h ad I F s.heap A s.heap [] := ⟨Wd, hS⟩
      refine k_locals (Nat.le_of_ble_eq_true rfl) [(0, .ref h)] rfl (fun ls hl => ?_)
      replace hw : wp_block_b (wp_block n) (wp_statement n) (wp_otherwise n) (F 3) (I 5) (F 6) (I 7) (I 8) (I 9) (I 10) (I 11) (I 12) (I 13) (I 15) (I 16) (I 17) (I 18) (I 19) (I 21) (I 22) K := hw
      unfold wp_block_b at hw
      refine lv_aload_n C.1 C.2.1 dX12_block_0 rfl (lv_at hl 0 rfl) ?_
      refine lv_bipush (v := zI 123) C.1 C.2.1 dX12_block_1 (by decide) ?_
      refine k_cMi Wd (k_runVMS (rest := []) C aks hE Wd cs_X12_216 (mt_opens D h ad ca I F Wd.2 adK adV tq 123 (show rng 123 from by decide) _ hw l _) rfl rfl ⟨(by show 8 + 1 ≤ 114 + (n + 1); omega), (by show 8 + (2 + 11) + (366) ≤ 2732 + 22 * (n + 1); omega)⟩ hl.1 rfl rfl (Nat.le_of_ble_eq_true rfl) ⟨(Nat.le_of_ble_eq_true rfl), (Nat.le_of_ble_eq_true rfl)⟩ dX12_block_3) (fun r3 u3 H locs g_r3 hw Wd => ?_)
      obtain ⟨at0_r3, token_r3, tokenAt_r3, value_r3, wrong_r3, wrongAt_r3, depth_r3⟩ := u3
      dsimp only at hw
      have Wc3 := Wd
      have Wd : wXM D ca s h ad (sI (sI (sI (sI (sI (sI (sI I 8 at0_r3) 9 token_r3) 10 tokenAt_r3) 11 value_r3) 12 wrong_r3) 13 wrongAt_r3) 15 depth_r3) F H A s.heap locs := wMc Wd rfl rfl ⟨(rsI (rsI (rsI (rsI (rsI (rsI (rsI hS.1 (Wc3.2.1 8)) (Wc3.2.1 9)) (Wc3.2.1 10)) (Wc3.2.1 11)) (Wc3.2.1 12)) (Wc3.2.1 13)) (Wc3.2.1 15)), hS.2⟩
      refine lv_if_ne (tgt := 11) C.1 C.2.1 dX12_block_6 (by decide) (fun c6 => ?_) (fun c6 => ?_)
      · have hw := hw.1 (z0_ne g_r3 c6)
        refine k_lp12 hw (fun (fresh_11 : Int → Int) (made_11 : Int) (at0_11 : Int) (token_11 : Int) (tokenAt_11 : Int) (value_11 : Int) (wrong_11 : Int) (wrongAt_11 : Int) (depth_11 : Int) (countParts_11 : Int) (countStatements_11 : Int) (leftLetters_11 : Int) H locs ls => wXM D ca s h ad (sI (sI (sI (sI (sI (sI (sI (sI (sI (sI (sI I 5 made_11) 8 at0_11) 9 token_11) 10 tokenAt_11) 11 value_11) 12 wrong_11) 13 wrongAt_11) 15 depth_11) 16 countParts_11) 17 countStatements_11) 19 leftLetters_11) (sF F 3 fresh_11) H A s.heap locs ∧ lv_has ls 1 [(0, .ref h)]) (fun (fresh_11 : Int → Int) (made_11 : Int) (at0_11 : Int) (token_11 : Int) (tokenAt_11 : Int) (value_11 : Int) (wrong_11 : Int) (wrongAt_11 : Int) (depth_11 : Int) (countParts_11 : Int) (countStatements_11 : Int) (leftLetters_11 : Int) ls => F0 m 11 ls []) (fun L11 hL11 fresh_11 made_11 at0_11 token_11 tokenAt_11 value_11 wrong_11 wrongAt_11 depth_11 countParts_11 countStatements_11 leftLetters_11 hw H locs ls hi => ?_) _ _ _ ⟨wMc Wd rfl rfl ⟨(rsI (rsI (rsI (rsI (rsI (rsI (rsI (rsI (rsI (rsI (rsI hS.1 (hS.1 5)) (Wc3.2.1 8)) (Wc3.2.1 9)) (Wc3.2.1 10)) (Wc3.2.1 11)) (Wc3.2.1 12)) (Wc3.2.1 13)) (Wc3.2.1 15)) (hS.1 16)) (hS.1 17)) (hS.1 19)), (rsF hS.2 (hS.2 3))⟩, lv_sub hl [0] rfl⟩
        obtain ⟨Wd, hl⟩ := hi
        have Wd11 := Wd
        unfold wp_block_11 at hw
        refine lv_aload_n C.1 C.2.1 dX12_block_11 rfl (lv_at hl 0 rfl) ?_
        refine k_get (v := .int (zI token_11)) C Wd.1 KX12 0 9 wM0 (by decide) fl_X12_164 rfl dX12_block_12 ?_
        refine lv_bipush (v := zI 125) C.1 C.2.1 dX12_block_15 (by decide) ?_
        refine lv_icmp_eq (tgt := 29) C.1 C.2.1 dX12_block_17 (by decide) (fun c17 => ?_) (fun c17 => ?_)
        · have hw := hw.1 (z_eq (Wd11.2.1 9) (show rng 125 from by decide) c17)
          refine lv_aload_n C.1 C.2.1 dX12_block_29 rfl (lv_at hl 0 rfl) ?_
          refine lv_bipush (v := zI 125) C.1 C.2.1 dX12_block_30 (by decide) ?_
          refine k_cMi Wd (k_runVMS (rest := []) C aks hE Wd cs_X12_222 (mt_closes D h ad ca (sI (sI (sI (sI (sI (sI (sI (sI (sI (sI (sI I 5 made_11) 8 at0_11) 9 token_11) 10 tokenAt_11) 11 value_11) 12 wrong_11) 13 wrongAt_11) 15 depth_11) 16 countParts_11) 17 countStatements_11) 19 leftLetters_11) (sF F 3 fresh_11) Wd.2 adK adV tq 125 (show rng 125 from by decide) _ hw l _) rfl rfl ⟨(by show 9 + 1 ≤ 114 + (n + 1); omega), (by show 8 + (2 + 11) + (387) ≤ 2732 + 22 * (n + 1); omega)⟩ hl.1 rfl rfl (Nat.le_of_ble_eq_true rfl) ⟨(Nat.le_of_ble_eq_true rfl), (Nat.le_of_ble_eq_true rfl)⟩ dX12_block_32) (fun r32 u32 H locs g_r32 hw Wd => ?_)
          obtain ⟨at0_r32, token_r32, tokenAt_r32, value_r32, wrong_r32, wrongAt_r32, depth_r32⟩ := u32
          dsimp only at hw
          have Wc32 := Wd
          have Wd : wXM D ca s h ad (sI (sI (sI (sI (sI (sI (sI (sI (sI (sI (sI I 5 made_11) 8 at0_r32) 9 token_r32) 10 tokenAt_r32) 11 value_r32) 12 wrong_r32) 13 wrongAt_r32) 15 depth_r32) 16 countParts_11) 17 countStatements_11) 19 leftLetters_11) (sF F 3 fresh_11) H A s.heap locs := wMc Wd rfl rfl ⟨(rsI (rsI (rsI (rsI (rsI (rsI (rsI (rsI (rsI (rsI (rsI hS.1 (Wd11.2.1 5)) (Wc32.2.1 8)) (Wc32.2.1 9)) (Wc32.2.1 10)) (Wc32.2.1 11)) (Wc32.2.1 12)) (Wc32.2.1 13)) (Wc32.2.1 15)) (Wd11.2.1 16)) (Wd11.2.1 17)) (Wd11.2.1 19)), (rsF hS.2 (fun j => Wd11.2.2 3 j))⟩
          obtain ⟨b35_0, hw⟩ := hw
          exact k_retMi C hr hlk (zI_nb b35_0) Wd (u := (fresh_11, made_11, at0_r32, token_r32, tokenAt_r32, value_r32, wrong_r32, wrongAt_r32, depth_r32, countParts_11, countStatements_11, leftLetters_11)) rfl rfl ⟨⟨_, rfl, g_r32, hw⟩, ⟨(rsI (rsI (rsI (rsI (rsI (rsI (rsI (rsI (rsI (rsI (rsI hS.1 (Wd11.2.1 5)) (Wc32.2.1 8)) (Wc32.2.1 9)) (Wc32.2.1 10)) (Wc32.2.1 11)) (Wc32.2.1 12)) (Wc32.2.1 13)) (Wc32.2.1 15)) (Wd11.2.1 16)) (Wd11.2.1 17)) (Wd11.2.1 19)), (rsF hS.2 (fun j => Wd11.2.2 3 j))⟩⟩ dX12_block_35
        · have hw := hw.2 (z_ne (Wd11.2.1 9) (show rng 125 from by decide) c17)
          refine lv_aload_n C.1 C.2.1 dX12_block_20 rfl (lv_at hl 0 rfl) ?_
          refine k_cMi Wd (k_runVMS (rest := []) C aks hE Wd cs_X12_231 (ih_statement D h ad ca (sI (sI (sI (sI (sI (sI (sI (sI (sI (sI (sI I 5 made_11) 8 at0_11) 9 token_11) 10 tokenAt_11) 11 value_11) 12 wrong_11) 13 wrongAt_11) 15 depth_11) 16 countParts_11) 17 countStatements_11) 19 leftLetters_11) (sF F 3 fresh_11) Wd.2 adK adV tq   _ hw l _) rfl rfl ⟨(by show 114 + n + 1 ≤ 114 + (n + 1); omega), (by show 8 + (3 + 11) + (2732 + 22 * n) ≤ 2732 + 22 * (n + 1); omega)⟩ hl.1 rfl rfl (Nat.le_of_ble_eq_true rfl) ⟨(Nat.le_of_ble_eq_true rfl), (Nat.le_of_ble_eq_true rfl)⟩ dX12_block_21) (fun r21 u21 H locs g_r21 hw Wd => ?_)
          obtain ⟨fresh_r21, made_r21, at0_r21, token_r21, tokenAt_r21, value_r21, wrong_r21, wrongAt_r21, depth_r21, countParts_r21, countStatements_r21, leftLetters_r21⟩ := u21
          dsimp only at hw
          have Wc21 := Wd
          have Wd : wXM D ca s h ad (sI (sI (sI (sI (sI (sI (sI (sI (sI (sI (sI I 5 made_r21) 8 at0_r21) 9 token_r21) 10 tokenAt_r21) 11 value_r21) 12 wrong_r21) 13 wrongAt_r21) 15 depth_r21) 16 countParts_r21) 17 countStatements_r21) 19 leftLetters_r21) (sF F 3 fresh_r21) H A s.heap locs := wMc Wd rfl rfl ⟨(rsI (rsI (rsI (rsI (rsI (rsI (rsI (rsI (rsI (rsI (rsI hS.1 (Wc21.2.1 5)) (Wc21.2.1 8)) (Wc21.2.1 9)) (Wc21.2.1 10)) (Wc21.2.1 11)) (Wc21.2.1 12)) (Wc21.2.1 13)) (Wc21.2.1 15)) (Wc21.2.1 16)) (Wc21.2.1 17)) (Wc21.2.1 19)), (rsF hS.2 (fun j => Wc21.2.2 3 j))⟩
          refine lv_if_ne (tgt := 11) C.1 C.2.1 dX12_block_24 (by decide) (fun c24 => ?_) (fun c24 => ?_)
          · have hw := hw.1 (z0_ne g_r21 c24)
            exact hL11 _ _ _ _ _ _ _ _ _ _ _ _ hw _ _ _ ⟨wMc Wd rfl rfl ⟨(rsI (rsI (rsI (rsI (rsI (rsI (rsI (rsI (rsI (rsI (rsI hS.1 (Wc21.2.1 5)) (Wc21.2.1 8)) (Wc21.2.1 9)) (Wc21.2.1 10)) (Wc21.2.1 11)) (Wc21.2.1 12)) (Wc21.2.1 13)) (Wc21.2.1 15)) (Wc21.2.1 16)) (Wc21.2.1 17)) (Wc21.2.1 19)), (rsF hS.2 (fun j => Wc21.2.2 3 j))⟩, lv_sub hl [0] rfl⟩
          · have hw := hw.2 (z0_eq g_r21 c24)
            refine lv_iconst (v := zI 0) C.1 C.2.1 dX12_block_27 (by decide) ?_
            exact k_retMi C hr hlk (by decide) Wd (u := (fresh_r21, made_r21, at0_r21, token_r21, tokenAt_r21, value_r21, wrong_r21, wrongAt_r21, depth_r21, countParts_r21, countStatements_r21, leftLetters_r21)) rfl rfl ⟨⟨_, rfl, (show rng 0 from by decide), hw⟩, ⟨(rsI (rsI (rsI (rsI (rsI (rsI (rsI (rsI (rsI (rsI (rsI hS.1 (Wc21.2.1 5)) (Wc21.2.1 8)) (Wc21.2.1 9)) (Wc21.2.1 10)) (Wc21.2.1 11)) (Wc21.2.1 12)) (Wc21.2.1 13)) (Wc21.2.1 15)) (Wc21.2.1 16)) (Wc21.2.1 17)) (Wc21.2.1 19)), (rsF hS.2 (fun j => Wc21.2.2 3 j))⟩⟩ dX12_block_28
      · have hw := hw.2 (z0_eq g_r3 c6)
        refine lv_iconst (v := zI 0) C.1 C.2.1 dX12_block_9 (by decide) ?_
        exact k_retMi C hr hlk (by decide) Wd (u := ((F 3), (I 5), at0_r3, token_r3, tokenAt_r3, value_r3, wrong_r3, wrongAt_r3, depth_r3, (I 16), (I 17), (I 19))) rfl rfl ⟨⟨_, rfl, (show rng 0 from by decide), hw⟩, ⟨(rsI (rsI (rsI (rsI (rsI (rsI (rsI (rsI (rsI (rsI (rsI hS.1 (hS.1 5)) (Wc3.2.1 8)) (Wc3.2.1 9)) (Wc3.2.1 10)) (Wc3.2.1 11)) (Wc3.2.1 12)) (Wc3.2.1 13)) (Wc3.2.1 15)) (hS.1 16)) (hS.1 17)) (hS.1 19)), (rsF hS.2 (hS.2 3))⟩⟩ dX12_block_10
    · intro D h ad ca I F hS adK adV tq  K hw l sz
      refine Met.ofW (cc := cX12_statement) (maxL := 3) (ret := (some .boolean)) (by decide) rfl ?_
      intro p e s m args below meth c s₁ B hml hv
      obtain ⟨hv, hE⟩ := hv
      obtain ⟨rfl, aks, rfl, Wd⟩ := k_enter hv
      have C : CallFix p m c cX12_statement 3 s _ gG RX12 := ⟨B.exec, B.bytes, hml, findClass_of_methodNamed B.named, fun w h => atoms_spec (ws := Cond.code yX12_statement cX12_statement 3 (some .boolean) :: gG) B.pre w (List.mem_cons_of_mem _ h)⟩
      have hr := B.returns
      have hlk := B.notSynchronized
      generalize va_A (wM h ad ca I F) s.heap.size = A at Wd hE ⊢
      replace Wd : wXM D ca s h ad I F s.heap A s.heap [] := ⟨Wd, hS⟩
      refine k_locals (Nat.le_of_ble_eq_true rfl) [(0, .ref h)] rfl (fun ls hl => ?_)
      replace hw : wp_statement_b (wp_block n) (wp_statement n) (wp_otherwise n) (F 3) (I 5) (F 6) (I 7) (I 8) (I 9) (I 10) (I 11) (I 12) (I 13) (I 15) (I 16) (I 17) (I 18) (I 19) (I 21) (I 22) K := hw
      unfold wp_statement_b at hw
      refine lv_aload_n C.1 C.2.1 dX12_statement_0 rfl (lv_at hl 0 rfl) ?_
      refine k_get (v := .int (zI (I 9))) C Wd.1 KX12 0 9 wM0 (by decide) fl_X12_164 rfl dX12_statement_1 ?_
      refine lv_sipush (v := zI 320) C.1 C.2.1 dX12_statement_4 (zS (by decide) (by decide)) ?_
      refine k_cut1 (fun (s0_15 : Int) H locs ls => rng s0_15 ∧ wp_statement_15 (wp_block n) (wp_otherwise n) K (F 3) (I 5) (F 6) (I 7) (I 8) (I 9) (I 10) (I 11) (I 12) (I 13) (I 15) (I 16) (I 17) (I 18) (I 19) (I 21) (I 22) s0_15 ∧ wXM D ca s h ad I F H A s.heap locs ∧ lv_has ls 3 [(0, .ref h)]) (fun (s0_15 : Int) ls => F0 m 15 ls [.int (zI s0_15)]) (fun s0_15 H locs ls hi => ?_) (fun J15 => ?_)
      · obtain ⟨g_s0_15, hw, Wd, hl⟩ := hi
        have Wd15 := Wd
        unfold wp_statement_15 at hw
        refine lv_istore_n (lv' := [(1, .int (zI s0_15)), (0, .ref h)]) C.1 C.2.1 dX12_statement_15 rfl hl (by decide) rfl (fun ls hl => ?_)
        replace hl := lv_sub hl [1, 0] rfl
        refine lv_iload_n C.1 C.2.1 dX12_statement_16 rfl (lv_at hl 1 rfl) ?_
        refine k_cut0 (fun  H locs ls => wp_statement_59 (wp_block n) (wp_otherwise n) K (F 3) (I 5) (F 6) (I 7) (I 8) (I 9) (I 10) (I 11) (I 12) (I 13) (I 15) (I 16) (I 17) (I 18) (I 19) (I 21) (I 22) s0_15 ∧ wXM D ca s h ad I F H A s.heap locs ∧ lv_has ls 3 [(0, .ref h), (1, .int (zI s0_15))]) (fun  ls => F0 m 59 ls []) (fun  H locs ls hi => ?_) (fun J59 => ?_)
        · obtain ⟨hw, Wd, hl⟩ := hi
          have Wd59 := Wd
          unfold wp_statement_59 at hw
          refine lv_aload_n C.1 C.2.1 dX12_statement_59 rfl (lv_at hl 0 rfl) ?_
          refine k_get (v := .int (zI (I 17))) C Wd.1 KX12 0 17 wM0 (by decide) fl_X12_237 rfl dX12_statement_60 ?_
          refine lv_bipush (v := zI 40) C.1 C.2.1 dX12_statement_63 (by decide) ?_
          refine lv_icmp_ne (tgt := 74) C.1 C.2.1 dX12_statement_65 (by decide) (fun c65 => ?_) (fun c65 => ?_)
          · have hw := hw.1 (z_ne (hS.1 17) (show rng 40 from by decide) c65)
            refine lv_aload_n C.1 C.2.1 dX12_statement_74 rfl (lv_at hl 0 rfl) ?_
            refine lv_dup C.1 C.2.1 dX12_statement_75 rfl ?_
            refine k_get (v := .int (zI (I 17))) C Wd.1 KX12 0 17 wM0 (by decide) fl_X12_237 rfl dX12_statement_76 ?_
            refine lv_iconst (v := zI 1) C.1 C.2.1 dX12_statement_79 (by decide) ?_
            refine k_iadd (v := zI ((I 17) + 1)) C (zI_iadd _ _) dX12_statement_80 ?_
            obtain ⟨g81_0, hw⟩ := hw
            refine k_putM C Wd 17 (sI I 17 ((I 17) + 1)) (by decide) fl_X12_237 rfl rfl rfl rfl (rsI hS.1 g81_0) dX12_statement_81 (fun H locs Wd => ?_)
            refine lv_aload_n C.1 C.2.1 dX12_statement_84 rfl (lv_at hl 0 rfl) ?_
            refine k_get (v := .int (zI (I 9))) C Wd.1 KX12 0 9 wM0 (by decide) fl_X12_164 rfl dX12_statement_85 ?_
            refine lv_istore_n (lv' := [(2, .int (zI (I 9))), (0, .ref h), (1, .int (zI s0_15))]) C.1 C.2.1 dX12_statement_88 rfl hl (by decide) rfl (fun ls hl => ?_)
            replace hl := lv_sub hl [1, 2, 0] rfl
            refine lv_aload_n C.1 C.2.1 dX12_statement_89 rfl (lv_at hl 0 rfl) ?_
            refine k_cMv Wd (k_runVMS (rest := []) C aks hE Wd cs_X12_188 (mt_next0 D h ad ca (sI I 17 ((I 17) + 1)) F Wd.2 adK adV tq   _ hw l _) rfl rfl ⟨(by show 7 + 1 ≤ 114 + (n + 1); omega), (by show 8 + (3 + 11) + (344) ≤ 2732 + 22 * (n + 1); omega)⟩ hl.1 rfl rfl (Nat.le_of_ble_eq_true rfl) ⟨(Nat.le_of_ble_eq_true rfl), (Nat.le_of_ble_eq_true rfl)⟩ dX12_statement_90) (fun u90 H locs hw Wd => ?_)
            obtain ⟨at0_r90, token_r90, tokenAt_r90, value_r90⟩ := u90
            dsimp only at hw
            have Wc90 := Wd
            have Wd : wXM D ca s h ad (sI (sI (sI (sI (sI I 8 at0_r90) 9 token_r90) 10 tokenAt_r90) 11 value_r90) 17 ((I 17) + 1)) F H A s.heap locs := wMc Wd rfl rfl ⟨(rsI (rsI (rsI (rsI (rsI hS.1 (Wc90.2.1 8)) (Wc90.2.1 9)) (Wc90.2.1 10)) (Wc90.2.1 11)) g81_0), hS.2⟩
            refine lv_iload_n C.1 C.2.1 dX12_statement_93 rfl (lv_at hl 1 rfl) ?_
            refine lv_if_eq (tgt := 140) C.1 C.2.1 dX12_statement_94 (by decide) (fun c94 => ?_) (fun c94 => ?_)
            · have hw := hw.1 (z0_eq g_s0_15 c94)
              refine lv_iload_n C.1 C.2.1 dX12_statement_140 rfl (lv_at hl 2 rfl) ?_
              refine lv_iconst (v := zI 4) C.1 C.2.1 dX12_statement_141 (by decide) ?_
              refine lv_icmp_ne (tgt := 158) C.1 C.2.1 dX12_statement_142 (by decide) (fun c142 => ?_) (fun c142 => ?_)
              · have hw := hw.1 (z_ne (hS.1 9) (show rng 4 from by decide) c142)
                refine lv_iload_n C.1 C.2.1 dX12_statement_158 rfl (lv_at hl 2 rfl) ?_
                refine lv_iconst (v := zI 3) C.1 C.2.1 dX12_statement_159 (by decide) ?_
                refine lv_icmp_ne (tgt := 191) C.1 C.2.1 dX12_statement_160 (by decide) (fun c160 => ?_) (fun c160 => ?_)
                · have hw := hw.1 (z_ne (hS.1 9) (show rng 3 from by decide) c160)
                  refine lv_aload_n C.1 C.2.1 dX12_statement_191 rfl (lv_at hl 0 rfl) ?_
                  refine lv_iload_n C.1 C.2.1 dX12_statement_192 rfl (lv_at hl 2 rfl) ?_
                  refine lv_iconst (v := zI 5) C.1 C.2.1 dX12_statement_193 (by decide) ?_
                  refine k_cut1 (fun (s0_204 : Int) H locs ls => rng s0_204 ∧ wp_statement_204 (wp_block n) (wp_otherwise n) K (F 3) (I 5) (F 6) (I 7) (I 9) (I 12) (I 13) (I 15) (I 16) (I 17) (I 18) (I 19) (I 21) (I 22) at0_r90 tokenAt_r90 token_r90 value_r90 s0_204 ∧ wXM D ca s h ad (sI (sI (sI (sI (sI I 8 at0_r90) 9 token_r90) 10 tokenAt_r90) 11 value_r90) 17 ((I 17) + 1)) F H A s.heap locs ∧ lv_has ls 3 [(0, .ref h), (2, .int (zI (I 9)))]) (fun (s0_204 : Int) ls => F0 m 204 ls [.int (zI s0_204), .ref h]) (fun s0_204 H locs ls hi => ?_) (fun J204 => ?_)
                  · obtain ⟨g_s0_204, hw, Wd, hl⟩ := hi
                    have Wd204 := Wd
                    unfold wp_statement_204 at hw
                    refine k_cMv Wd (k_runVM (rest := []) C aks Wd cs_X12_120 (mt_write D h ad ca (sI (sI (sI (sI (sI I 8 at0_r90) 9 token_r90) 10 tokenAt_r90) 11 value_r90) 17 ((I 17) + 1)) F Wd.2 s0_204 g_s0_204 _ hw l _) rfl rfl ⟨(by show 1 + 1 ≤ 114 + (n + 1); omega), (by show 8 + (2 + 11) + (64) ≤ 2732 + 22 * (n + 1); omega)⟩ hl.1 rfl rfl (Nat.le_of_ble_eq_true rfl) ⟨(Nat.le_of_ble_eq_true rfl), (Nat.le_of_ble_eq_true rfl)⟩ dX12_statement_204) (fun u204 H locs hw Wd => ?_)
                    obtain ⟨fresh_r204, made_r204⟩ := u204
                    dsimp only at hw
                    have Wc204 := Wd
                    have Wd : wXM D ca s h ad (sI (sI (sI (sI (sI (sI I 5 made_r204) 8 at0_r90) 9 token_r90) 10 tokenAt_r90) 11 value_r90) 17 ((I 17) + 1)) (sF F 3 fresh_r204) H A s.heap locs := wMc Wd rfl rfl ⟨(rsI (rsI (rsI (rsI (rsI (rsI hS.1 (Wc204.2.1 5)) (Wc90.2.1 8)) (Wc90.2.1 9)) (Wc90.2.1 10)) (Wc90.2.1 11)) g81_0), (rsF hS.2 (fun j => Wc204.2.2 3 j))⟩
                    refine lv_aload_n C.1 C.2.1 dX12_statement_207 rfl (lv_at hl 0 rfl) ?_
                    refine k_cMi Wd (k_runVMS (rest := []) C aks hE Wd cs_X12_240 (mt_asks D h ad ca (sI (sI (sI (sI (sI (sI I 5 made_r204) 8 at0_r90) 9 token_r90) 10 tokenAt_r90) 11 value_r90) 17 ((I 17) + 1)) (sF F 3 fresh_r204) Wd.2 adK adV tq   _ hw l _) rfl rfl ⟨(by show 112 + 1 ≤ 114 + (n + 1); omega), (by show 8 + (3 + 11) + (2670) ≤ 2732 + 22 * (n + 1); omega)⟩ hl.1 rfl rfl (Nat.le_of_ble_eq_true rfl) ⟨(Nat.le_of_ble_eq_true rfl), (Nat.le_of_ble_eq_true rfl)⟩ dX12_statement_208) (fun r208 u208 H locs g_r208 hw Wd => ?_)
                    obtain ⟨fresh_r208, made_r208, at0_r208, token_r208, tokenAt_r208, value_r208, wrong_r208, wrongAt_r208, depth_r208, countParts_r208, leftLetters_r208⟩ := u208
                    dsimp only at hw
                    have Wc208 := Wd
                    have Wd : wXM D ca s h ad (sI (sI (sI (sI (sI (sI (sI (sI (sI (sI (sI I 5 made_r208) 8 at0_r208) 9 token_r208) 10 tokenAt_r208) 11 value_r208) 12 wrong_r208) 13 wrongAt_r208) 15 depth_r208) 16 countParts_r208) 17 ((I 17) + 1)) 19 leftLetters_r208) (sF F 3 fresh_r208) H A s.heap locs := wMc Wd rfl rfl ⟨(rsI (rsI (rsI (rsI (rsI (rsI (rsI (rsI (rsI (rsI (rsI hS.1 (Wc208.2.1 5)) (Wc208.2.1 8)) (Wc208.2.1 9)) (Wc208.2.1 10)) (Wc208.2.1 11)) (Wc208.2.1 12)) (Wc208.2.1 13)) (Wc208.2.1 15)) (Wc208.2.1 16)) g81_0) (Wc208.2.1 19)), (rsF hS.2 (fun j => Wc208.2.2 3 j))⟩
                    refine lv_if_eq (tgt := 221) C.1 C.2.1 dX12_statement_211 (by decide) (fun c211 => ?_) (fun c211 => ?_)
                    · have hw := hw.1 (z0_eq g_r208 c211)
                      refine lv_iconst (v := zI 0) C.1 C.2.1 dX12_statement_221 (by decide) ?_
                      exact k_retMi C hr hlk (by decide) Wd (u := (fresh_r208, made_r208, at0_r208, token_r208, tokenAt_r208, value_r208, wrong_r208, wrongAt_r208, depth_r208, countParts_r208, ((I 17) + 1), leftLetters_r208)) rfl rfl ⟨⟨_, rfl, (show rng 0 from by decide), hw⟩, ⟨(rsI (rsI (rsI (rsI (rsI (rsI (rsI (rsI (rsI (rsI (rsI hS.1 (Wc208.2.1 5)) (Wc208.2.1 8)) (Wc208.2.1 9)) (Wc208.2.1 10)) (Wc208.2.1 11)) (Wc208.2.1 12)) (Wc208.2.1 13)) (Wc208.2.1 15)) (Wc208.2.1 16)) g81_0) (Wc208.2.1 19)), (rsF hS.2 (fun j => Wc208.2.2 3 j))⟩⟩ dX12_statement_222
                    · have hw := hw.2 (z0_ne g_r208 c211)
                      refine lv_aload_n C.1 C.2.1 dX12_statement_214 rfl (lv_at hl 0 rfl) ?_
                      refine k_cMi Wd (k_runVMS (rest := []) C aks hE Wd cs_X12_234 (ih_block D h ad ca (sI (sI (sI (sI (sI (sI (sI (sI (sI (sI (sI I 5 made_r208) 8 at0_r208) 9 token_r208) 10 tokenAt_r208) 11 value_r208) 12 wrong_r208) 13 wrongAt_r208) 15 depth_r208) 16 countParts_r208) 17 ((I 17) + 1)) 19 leftLetters_r208) (sF F 3 fresh_r208) Wd.2 adK adV tq   _ hw l _) rfl rfl ⟨(by show 114 + n + 1 ≤ 114 + (n + 1); omega), (by show 8 + (1 + 11) + (2732 + 22 * n) ≤ 2732 + 22 * (n + 1); omega)⟩ hl.1 rfl rfl (Nat.le_of_ble_eq_true rfl) ⟨(Nat.le_of_ble_eq_true rfl), (Nat.le_of_ble_eq_true rfl)⟩ dX12_statement_215) (fun r215 u215 H locs g_r215 hw Wd => ?_)
                      obtain ⟨fresh_r215, made_r215, at0_r215, token_r215, tokenAt_r215, value_r215, wrong_r215, wrongAt_r215, depth_r215, countParts_r215, countStatements_r215, leftLetters_r215⟩ := u215
                      dsimp only at hw
                      have Wc215 := Wd
                      have Wd : wXM D ca s h ad (sI (sI (sI (sI (sI (sI (sI (sI (sI (sI (sI I 5 made_r215) 8 at0_r215) 9 token_r215) 10 tokenAt_r215) 11 value_r215) 12 wrong_r215) 13 wrongAt_r215) 15 depth_r215) 16 countParts_r215) 17 countStatements_r215) 19 leftLetters_r215) (sF F 3 fresh_r215) H A s.heap locs := wMc Wd rfl rfl ⟨(rsI (rsI (rsI (rsI (rsI (rsI (rsI (rsI (rsI (rsI (rsI hS.1 (Wc215.2.1 5)) (Wc215.2.1 8)) (Wc215.2.1 9)) (Wc215.2.1 10)) (Wc215.2.1 11)) (Wc215.2.1 12)) (Wc215.2.1 13)) (Wc215.2.1 15)) (Wc215.2.1 16)) (Wc215.2.1 17)) (Wc215.2.1 19)), (rsF hS.2 (fun j => Wc215.2.2 3 j))⟩
                      refine lv_if_ne (tgt := 223) C.1 C.2.1 dX12_statement_218 (by decide) (fun c218 => ?_) (fun c218 => ?_)
                      · have hw := hw.1 (z0_ne g_r215 c218)
                        refine lv_iload_n C.1 C.2.1 dX12_statement_223 rfl (lv_at hl 1 rfl) ?_
                        refine lv_iconst (v := zI 5) C.1 C.2.1 dX12_statement_224 (by decide) ?_
                        refine k_cut12 (fun (fresh_237 : Int → Int) (made_237 : Int) (at0_237 : Int) (token_237 : Int) (tokenAt_237 : Int) (value_237 : Int) (wrong_237 : Int) (wrongAt_237 : Int) (depth_237 : Int) (countParts_237 : Int) (countStatements_237 : Int) (leftLetters_237 : Int) H locs ls => wp_statement_237 K fresh_237 made_237 at0_237 token_237 tokenAt_237 value_237 wrong_237 wrongAt_237 depth_237 countParts_237 countStatements_237 leftLetters_237 ∧ wXM D ca s h ad (sI (sI (sI (sI (sI (sI (sI (sI (sI (sI (sI I 5 made_237) 8 at0_237) 9 token_237) 10 tokenAt_237) 11 value_237) 12 wrong_237) 13 wrongAt_237) 15 depth_237) 16 countParts_237) 17 countStatements_237) 19 leftLetters_237) (sF F 3 fresh_237) H A s.heap locs ∧ lv_has ls 3 [(0, .ref h)]) (fun (fresh_237 : Int → Int) (made_237 : Int) (at0_237 : Int) (token_237 : Int) (tokenAt_237 : Int) (value_237 : Int) (wrong_237 : Int) (wrongAt_237 : Int) (depth_237 : Int) (countParts_237 : Int) (countStatements_237 : Int) (leftLetters_237 : Int) ls => F0 m 237 ls []) (fun fresh_237 made_237 at0_237 token_237 tokenAt_237 value_237 wrong_237 wrongAt_237 depth_237 countParts_237 countStatements_237 leftLetters_237 H locs ls hi => ?_) (fun J237 => ?_)
                        · obtain ⟨hw, Wd, hl⟩ := hi
                          have Wd237 := Wd
                          unfold wp_statement_237 at hw
                          refine lv_aload_n C.1 C.2.1 dX12_statement_237 rfl (lv_at hl 0 rfl) ?_
                          refine lv_bipush (v := zI 114) C.1 C.2.1 dX12_statement_238 (by decide) ?_
                          refine k_cMv Wd (k_runVM (rest := []) C aks Wd cs_X12_120 (mt_write D h ad ca (sI (sI (sI (sI (sI (sI (sI (sI (sI (sI (sI I 5 made_237) 8 at0_237) 9 token_237) 10 tokenAt_237) 11 value_237) 12 wrong_237) 13 wrongAt_237) 15 depth_237) 16 countParts_237) 17 countStatements_237) 19 leftLetters_237) (sF F 3 fresh_237) Wd.2 114 (show rng 114 from by decide) _ hw l _) rfl rfl ⟨(by show 1 + 1 ≤ 114 + (n + 1); omega), (by show 8 + (2 + 11) + (64) ≤ 2732 + 22 * (n + 1); omega)⟩ hl.1 rfl rfl (Nat.le_of_ble_eq_true rfl) ⟨(Nat.le_of_ble_eq_true rfl), (Nat.le_of_ble_eq_true rfl)⟩ dX12_statement_240) (fun u240 H locs hw Wd => ?_)
                          obtain ⟨fresh_r240, made_r240⟩ := u240
                          dsimp only at hw
                          have Wc240 := Wd
                          have Wd : wXM D ca s h ad (sI (sI (sI (sI (sI (sI (sI (sI (sI (sI (sI I 5 made_r240) 8 at0_237) 9 token_237) 10 tokenAt_237) 11 value_237) 12 wrong_237) 13 wrongAt_237) 15 depth_237) 16 countParts_237) 17 countStatements_237) 19 leftLetters_237) (sF F 3 fresh_r240) H A s.heap locs := wMc Wd rfl rfl ⟨(rsI (rsI (rsI (rsI (rsI (rsI (rsI (rsI (rsI (rsI (rsI hS.1 (Wc240.2.1 5)) (Wd237.2.1 8)) (Wd237.2.1 9)) (Wd237.2.1 10)) (Wd237.2.1 11)) (Wd237.2.1 12)) (Wd237.2.1 13)) (Wd237.2.1 15)) (Wd237.2.1 16)) (Wd237.2.1 17)) (Wd237.2.1 19)), (rsF hS.2 (fun j => Wc240.2.2 3 j))⟩
                          refine lv_iconst (v := zI 1) C.1 C.2.1 dX12_statement_243 (by decide) ?_
                          exact k_retMi C hr hlk (by decide) Wd (u := (fresh_r240, made_r240, at0_237, token_237, tokenAt_237, value_237, wrong_237, wrongAt_237, depth_237, countParts_237, countStatements_237, leftLetters_237)) rfl rfl ⟨⟨_, rfl, (show rng 1 from by decide), hw⟩, ⟨(rsI (rsI (rsI (rsI (rsI (rsI (rsI (rsI (rsI (rsI (rsI hS.1 (Wc240.2.1 5)) (Wd237.2.1 8)) (Wd237.2.1 9)) (Wd237.2.1 10)) (Wd237.2.1 11)) (Wd237.2.1 12)) (Wd237.2.1 13)) (Wd237.2.1 15)) (Wd237.2.1 16)) (Wd237.2.1 17)) (Wd237.2.1 19)), (rsF hS.2 (fun j => Wc240.2.2 3 j))⟩⟩ dX12_statement_244
                        refine lv_icmp_ne (tgt := 237) C.1 C.2.1 dX12_statement_225 (by decide) (fun c225 => ?_) (fun c225 => ?_)
                        · have hw := hw.1 (z_ne (hS.1 9) (show rng 5 from by decide) c225)
                          exact J237 fresh_r215 made_r215 at0_r215 token_r215 tokenAt_r215 value_r215 wrong_r215 wrongAt_r215 depth_r215 countParts_r215 countStatements_r215 leftLetters_r215 _ _ _ ⟨hw, wMc Wd rfl rfl ⟨(rsI (rsI (rsI (rsI (rsI (rsI (rsI (rsI (rsI (rsI (rsI hS.1 (Wc215.2.1 5)) (Wc215.2.1 8)) (Wc215.2.1 9)) (Wc215.2.1 10)) (Wc215.2.1 11)) (Wc215.2.1 12)) (Wc215.2.1 13)) (Wc215.2.1 15)) (Wc215.2.1 16)) (Wc215.2.1 17)) (Wc215.2.1 19)), (rsF hS.2 (fun j => Wc215.2.2 3 j))⟩, lv_sub hl [0] rfl⟩
                        · have hw := hw.2 (z_eq (hS.1 9) (show rng 5 from by decide) c225)
                          refine lv_aload_n C.1 C.2.1 dX12_statement_228 rfl (lv_at hl 0 rfl) ?_
                          refine k_cMi Wd (k_runVMS (rest := []) C aks hE Wd cs_X12_243 (ih_otherwise D h ad ca (sI (sI (sI (sI (sI (sI (sI (sI (sI (sI (sI I 5 made_r215) 8 at0_r215) 9 token_r215) 10 tokenAt_r215) 11 value_r215) 12 wrong_r215) 13 wrongAt_r215) 15 depth_r215) 16 countParts_r215) 17 countStatements_r215) 19 leftLetters_r215) (sF F 3 fresh_r215) Wd.2 adK adV tq   _ hw l _) rfl rfl ⟨(by show 114 + n + 1 ≤ 114 + (n + 1); omega), (by show 8 + (1 + 11) + (2732 + 22 * n) ≤ 2732 + 22 * (n + 1); omega)⟩ hl.1 rfl rfl (Nat.le_of_ble_eq_true rfl) ⟨(Nat.le_of_ble_eq_true rfl), (Nat.le_of_ble_eq_true rfl)⟩ dX12_statement_229) (fun r229 u229 H locs g_r229 hw Wd => ?_)
                          obtain ⟨fresh_r229, made_r229, at0_r229, token_r229, tokenAt_r229, value_r229, wrong_r229, wrongAt_r229, depth_r229, countParts_r229, countStatements_r229, leftLetters_r229⟩ := u229
                          dsimp only at hw
                          have Wc229 := Wd
                          have Wd : wXM D ca s h ad (sI (sI (sI (sI (sI (sI (sI (sI (sI (sI (sI I 5 made_r229) 8 at0_r229) 9 token_r229) 10 tokenAt_r229) 11 value_r229) 12 wrong_r229) 13 wrongAt_r229) 15 depth_r229) 16 countParts_r229) 17 countStatements_r229) 19 leftLetters_r229) (sF F 3 fresh_r229) H A s.heap locs := wMc Wd rfl rfl ⟨(rsI (rsI (rsI (rsI (rsI (rsI (rsI (rsI (rsI (rsI (rsI hS.1 (Wc229.2.1 5)) (Wc229.2.1 8)) (Wc229.2.1 9)) (Wc229.2.1 10)) (Wc229.2.1 11)) (Wc229.2.1 12)) (Wc229.2.1 13)) (Wc229.2.1 15)) (Wc229.2.1 16)) (Wc229.2.1 17)) (Wc229.2.1 19)), (rsF hS.2 (fun j => Wc229.2.2 3 j))⟩
                          refine lv_if_ne (tgt := 237) C.1 C.2.1 dX12_statement_232 (by decide) (fun c232 => ?_) (fun c232 => ?_)
                          · have hw := hw.1 (z0_ne g_r229 c232)
                            exact J237 fresh_r229 made_r229 at0_r229 token_r229 tokenAt_r229 value_r229 wrong_r229 wrongAt_r229 depth_r229 countParts_r229 countStatements_r229 leftLetters_r229 _ _ _ ⟨hw, wMc Wd rfl rfl ⟨(rsI (rsI (rsI (rsI (rsI (rsI (rsI (rsI (rsI (rsI (rsI hS.1 (Wc229.2.1 5)) (Wc229.2.1 8)) (Wc229.2.1 9)) (Wc229.2.1 10)) (Wc229.2.1 11)) (Wc229.2.1 12)) (Wc229.2.1 13)) (Wc229.2.1 15)) (Wc229.2.1 16)) (Wc229.2.1 17)) (Wc229.2.1 19)), (rsF hS.2 (fun j => Wc229.2.2 3 j))⟩, lv_sub hl [0] rfl⟩
                          · have hw := hw.2 (z0_eq g_r229 c232)
                            refine lv_iconst (v := zI 0) C.1 C.2.1 dX12_statement_235 (by decide) ?_
                            exact k_retMi C hr hlk (by decide) Wd (u := (fresh_r229, made_r229, at0_r229, token_r229, tokenAt_r229, value_r229, wrong_r229, wrongAt_r229, depth_r229, countParts_r229, countStatements_r229, leftLetters_r229)) rfl rfl ⟨⟨_, rfl, (show rng 0 from by decide), hw⟩, ⟨(rsI (rsI (rsI (rsI (rsI (rsI (rsI (rsI (rsI (rsI (rsI hS.1 (Wc229.2.1 5)) (Wc229.2.1 8)) (Wc229.2.1 9)) (Wc229.2.1 10)) (Wc229.2.1 11)) (Wc229.2.1 12)) (Wc229.2.1 13)) (Wc229.2.1 15)) (Wc229.2.1 16)) (Wc229.2.1 17)) (Wc229.2.1 19)), (rsF hS.2 (fun j => Wc229.2.2 3 j))⟩⟩ dX12_statement_236
                      · have hw := hw.2 (z0_eq g_r215 c218)
                        refine lv_iconst (v := zI 0) C.1 C.2.1 dX12_statement_221 (by decide) ?_
                        exact k_retMi C hr hlk (by decide) Wd (u := (fresh_r215, made_r215, at0_r215, token_r215, tokenAt_r215, value_r215, wrong_r215, wrongAt_r215, depth_r215, countParts_r215, countStatements_r215, leftLetters_r215)) rfl rfl ⟨⟨_, rfl, (show rng 0 from by decide), hw⟩, ⟨(rsI (rsI (rsI (rsI (rsI (rsI (rsI (rsI (rsI (rsI (rsI hS.1 (Wc215.2.1 5)) (Wc215.2.1 8)) (Wc215.2.1 9)) (Wc215.2.1 10)) (Wc215.2.1 11)) (Wc215.2.1 12)) (Wc215.2.1 13)) (Wc215.2.1 15)) (Wc215.2.1 16)) (Wc215.2.1 17)) (Wc215.2.1 19)), (rsF hS.2 (fun j => Wc215.2.2 3 j))⟩⟩ dX12_statement_222
                  refine lv_icmp_ne (tgt := 202) C.1 C.2.1 dX12_statement_194 (by decide) (fun c194 => ?_) (fun c194 => ?_)
                  · have hw := hw.1 (z_ne (hS.1 9) (show rng 5 from by decide) c194)
                    refine lv_bipush (v := zI 115) C.1 C.2.1 dX12_statement_202 (by decide) ?_
                    exact J204 115 _ _ _ ⟨(show rng 115 from by decide), hw, wMc Wd rfl rfl ⟨(rsI (rsI (rsI (rsI (rsI hS.1 (Wc90.2.1 8)) (Wc90.2.1 9)) (Wc90.2.1 10)) (Wc90.2.1 11)) g81_0), hS.2⟩, lv_sub hl [0, 2] rfl⟩
                  · have hw := hw.2 (z_eq (hS.1 9) (show rng 5 from by decide) c194)
                    refine lv_bipush (v := zI 112) C.1 C.2.1 dX12_statement_197 (by decide) ?_
                    refine lv_goto (tgt := 204) C.1 C.2.1 dX12_statement_199 (by decide) ?_
                    exact J204 112 _ _ _ ⟨(show rng 112 from by decide), hw, wMc Wd rfl rfl ⟨(rsI (rsI (rsI (rsI (rsI hS.1 (Wc90.2.1 8)) (Wc90.2.1 9)) (Wc90.2.1 10)) (Wc90.2.1 11)) g81_0), hS.2⟩, lv_sub hl [0, 2] rfl⟩
                · have hw := hw.2 (z_eq (hS.1 9) (show rng 3 from by decide) c160)
                  refine lv_aload_n C.1 C.2.1 dX12_statement_163 rfl (lv_at hl 0 rfl) ?_
                  refine lv_bipush (v := zI 110) C.1 C.2.1 dX12_statement_164 (by decide) ?_
                  refine k_cMv Wd (k_runVM (rest := []) C aks Wd cs_X12_120 (mt_write D h ad ca (sI (sI (sI (sI (sI I 8 at0_r90) 9 token_r90) 10 tokenAt_r90) 11 value_r90) 17 ((I 17) + 1)) F Wd.2 110 (show rng 110 from by decide) _ hw l _) rfl rfl ⟨(by show 1 + 1 ≤ 114 + (n + 1); omega), (by show 8 + (2 + 11) + (64) ≤ 2732 + 22 * (n + 1); omega)⟩ hl.1 rfl rfl (Nat.le_of_ble_eq_true rfl) ⟨(Nat.le_of_ble_eq_true rfl), (Nat.le_of_ble_eq_true rfl)⟩ dX12_statement_166) (fun u166 H locs hw Wd => ?_)
                  obtain ⟨fresh_r166, made_r166⟩ := u166
                  dsimp only at hw
                  have Wc166 := Wd
                  have Wd : wXM D ca s h ad (sI (sI (sI (sI (sI (sI I 5 made_r166) 8 at0_r90) 9 token_r90) 10 tokenAt_r90) 11 value_r90) 17 ((I 17) + 1)) (sF F 3 fresh_r166) H A s.heap locs := wMc Wd rfl rfl ⟨(rsI (rsI (rsI (rsI (rsI (rsI hS.1 (Wc166.2.1 5)) (Wc90.2.1 8)) (Wc90.2.1 9)) (Wc90.2.1 10)) (Wc90.2.1 11)) g81_0), (rsF hS.2 (fun j => Wc166.2.2 3 j))⟩
                  refine lv_aload_n C.1 C.2.1 dX12_statement_169 rfl (lv_at hl 0 rfl) ?_
                  refine k_cMi Wd (k_runVMS (rest := []) C aks hE Wd cs_X12_219 (mt_sumUp D h ad ca (sI (sI (sI (sI (sI (sI I 5 made_r166) 8 at0_r90) 9 token_r90) 10 tokenAt_r90) 11 value_r90) 17 ((I 17) + 1)) (sF F 3 fresh_r166) Wd.2 adK adV tq   _ hw l _) rfl rfl ⟨(by show 111 + 1 ≤ 114 + (n + 1); omega), (by show 8 + (3 + 11) + (2648) ≤ 2732 + 22 * (n + 1); omega)⟩ hl.1 rfl rfl (Nat.le_of_ble_eq_true rfl) ⟨(Nat.le_of_ble_eq_true rfl), (Nat.le_of_ble_eq_true rfl)⟩ dX12_statement_170) (fun r170 u170 H locs g_r170 hw Wd => ?_)
                  obtain ⟨fresh_r170, made_r170, at0_r170, token_r170, tokenAt_r170, value_r170, wrong_r170, wrongAt_r170, depth_r170, countParts_r170, leftLetters_r170⟩ := u170
                  dsimp only at hw
                  have Wc170 := Wd
                  have Wd : wXM D ca s h ad (sI (sI (sI (sI (sI (sI (sI (sI (sI (sI (sI I 5 made_r170) 8 at0_r170) 9 token_r170) 10 tokenAt_r170) 11 value_r170) 12 wrong_r170) 13 wrongAt_r170) 15 depth_r170) 16 countParts_r170) 17 ((I 17) + 1)) 19 leftLetters_r170) (sF F 3 fresh_r170) H A s.heap locs := wMc Wd rfl rfl ⟨(rsI (rsI (rsI (rsI (rsI (rsI (rsI (rsI (rsI (rsI (rsI hS.1 (Wc170.2.1 5)) (Wc170.2.1 8)) (Wc170.2.1 9)) (Wc170.2.1 10)) (Wc170.2.1 11)) (Wc170.2.1 12)) (Wc170.2.1 13)) (Wc170.2.1 15)) (Wc170.2.1 16)) g81_0) (Wc170.2.1 19)), (rsF hS.2 (fun j => Wc170.2.2 3 j))⟩
                  refine lv_if_eq (tgt := 189) C.1 C.2.1 dX12_statement_173 (by decide) (fun c173 => ?_) (fun c173 => ?_)
                  · have hw := hw.1 (z0_eq g_r170 c173)
                    refine lv_iconst (v := zI 0) C.1 C.2.1 dX12_statement_189 (by decide) ?_
                    exact k_retMi C hr hlk (by decide) Wd (u := (fresh_r170, made_r170, at0_r170, token_r170, tokenAt_r170, value_r170, wrong_r170, wrongAt_r170, depth_r170, countParts_r170, ((I 17) + 1), leftLetters_r170)) rfl rfl ⟨⟨_, rfl, (show rng 0 from by decide), hw⟩, ⟨(rsI (rsI (rsI (rsI (rsI (rsI (rsI (rsI (rsI (rsI (rsI hS.1 (Wc170.2.1 5)) (Wc170.2.1 8)) (Wc170.2.1 9)) (Wc170.2.1 10)) (Wc170.2.1 11)) (Wc170.2.1 12)) (Wc170.2.1 13)) (Wc170.2.1 15)) (Wc170.2.1 16)) g81_0) (Wc170.2.1 19)), (rsF hS.2 (fun j => Wc170.2.2 3 j))⟩⟩ dX12_statement_190
                  · have hw := hw.2 (z0_ne g_r170 c173)
                    refine lv_aload_n C.1 C.2.1 dX12_statement_176 rfl (lv_at hl 0 rfl) ?_
                    refine lv_bipush (v := zI 59) C.1 C.2.1 dX12_statement_177 (by decide) ?_
                    refine k_cMi Wd (k_runVMS (rest := []) C aks hE Wd cs_X12_194 (mt_need D h ad ca (sI (sI (sI (sI (sI (sI (sI (sI (sI (sI (sI I 5 made_r170) 8 at0_r170) 9 token_r170) 10 tokenAt_r170) 11 value_r170) 12 wrong_r170) 13 wrongAt_r170) 15 depth_r170) 16 countParts_r170) 17 ((I 17) + 1)) 19 leftLetters_r170) (sF F 3 fresh_r170) Wd.2 adK adV tq 59 (show rng 59 from by decide) _ hw l _) rfl rfl ⟨(by show 8 + 1 ≤ 114 + (n + 1); omega), (by show 8 + (2 + 11) + (366) ≤ 2732 + 22 * (n + 1); omega)⟩ hl.1 rfl rfl (Nat.le_of_ble_eq_true rfl) ⟨(Nat.le_of_ble_eq_true rfl), (Nat.le_of_ble_eq_true rfl)⟩ dX12_statement_179) (fun r179 u179 H locs g_r179 hw Wd => ?_)
                    obtain ⟨at0_r179, token_r179, tokenAt_r179, value_r179, wrong_r179, wrongAt_r179⟩ := u179
                    dsimp only at hw
                    have Wc179 := Wd
                    have Wd : wXM D ca s h ad (sI (sI (sI (sI (sI (sI (sI (sI (sI (sI (sI I 5 made_r170) 8 at0_r179) 9 token_r179) 10 tokenAt_r179) 11 value_r179) 12 wrong_r179) 13 wrongAt_r179) 15 depth_r170) 16 countParts_r170) 17 ((I 17) + 1)) 19 leftLetters_r170) (sF F 3 fresh_r170) H A s.heap locs := wMc Wd rfl rfl ⟨(rsI (rsI (rsI (rsI (rsI (rsI (rsI (rsI (rsI (rsI (rsI hS.1 (Wc170.2.1 5)) (Wc179.2.1 8)) (Wc179.2.1 9)) (Wc179.2.1 10)) (Wc179.2.1 11)) (Wc179.2.1 12)) (Wc179.2.1 13)) (Wc170.2.1 15)) (Wc170.2.1 16)) g81_0) (Wc170.2.1 19)), (rsF hS.2 (fun j => Wc170.2.2 3 j))⟩
                    refine lv_if_eq (tgt := 189) C.1 C.2.1 dX12_statement_182 (by decide) (fun c182 => ?_) (fun c182 => ?_)
                    · have hw := hw.1 (z0_eq g_r179 c182)
                      refine lv_iconst (v := zI 0) C.1 C.2.1 dX12_statement_189 (by decide) ?_
                      exact k_retMi C hr hlk (by decide) Wd (u := (fresh_r170, made_r170, at0_r179, token_r179, tokenAt_r179, value_r179, wrong_r179, wrongAt_r179, depth_r170, countParts_r170, ((I 17) + 1), leftLetters_r170)) rfl rfl ⟨⟨_, rfl, (show rng 0 from by decide), hw⟩, ⟨(rsI (rsI (rsI (rsI (rsI (rsI (rsI (rsI (rsI (rsI (rsI hS.1 (Wc170.2.1 5)) (Wc179.2.1 8)) (Wc179.2.1 9)) (Wc179.2.1 10)) (Wc179.2.1 11)) (Wc179.2.1 12)) (Wc179.2.1 13)) (Wc170.2.1 15)) (Wc170.2.1 16)) g81_0) (Wc170.2.1 19)), (rsF hS.2 (fun j => Wc170.2.2 3 j))⟩⟩ dX12_statement_190
                    · have hw := hw.2 (z0_ne g_r179 c182)
                      refine lv_iconst (v := zI 1) C.1 C.2.1 dX12_statement_185 (by decide) ?_
                      refine lv_goto (tgt := 190) C.1 C.2.1 dX12_statement_186 (by decide) ?_
                      exact k_retMi C hr hlk (by decide) Wd (u := (fresh_r170, made_r170, at0_r179, token_r179, tokenAt_r179, value_r179, wrong_r179, wrongAt_r179, depth_r170, countParts_r170, ((I 17) + 1), leftLetters_r170)) rfl rfl ⟨⟨_, rfl, (show rng 1 from by decide), hw⟩, ⟨(rsI (rsI (rsI (rsI (rsI (rsI (rsI (rsI (rsI (rsI (rsI hS.1 (Wc170.2.1 5)) (Wc179.2.1 8)) (Wc179.2.1 9)) (Wc179.2.1 10)) (Wc179.2.1 11)) (Wc179.2.1 12)) (Wc179.2.1 13)) (Wc170.2.1 15)) (Wc170.2.1 16)) g81_0) (Wc170.2.1 19)), (rsF hS.2 (fun j => Wc170.2.2 3 j))⟩⟩ dX12_statement_190
              · have hw := hw.2 (z_eq (hS.1 9) (show rng 4 from by decide) c142)
                refine lv_aload_n C.1 C.2.1 dX12_statement_145 rfl (lv_at hl 0 rfl) ?_
                refine lv_bipush (v := zI 111) C.1 C.2.1 dX12_statement_146 (by decide) ?_
                refine k_cMv Wd (k_runVM (rest := []) C aks Wd cs_X12_120 (mt_write D h ad ca (sI (sI (sI (sI (sI I 8 at0_r90) 9 token_r90) 10 tokenAt_r90) 11 value_r90) 17 ((I 17) + 1)) F Wd.2 111 (show rng 111 from by decide) _ hw l _) rfl rfl ⟨(by show 1 + 1 ≤ 114 + (n + 1); omega), (by show 8 + (2 + 11) + (64) ≤ 2732 + 22 * (n + 1); omega)⟩ hl.1 rfl rfl (Nat.le_of_ble_eq_true rfl) ⟨(Nat.le_of_ble_eq_true rfl), (Nat.le_of_ble_eq_true rfl)⟩ dX12_statement_148) (fun u148 H locs hw Wd => ?_)
                obtain ⟨fresh_r148, made_r148⟩ := u148
                dsimp only at hw
                have Wc148 := Wd
                have Wd : wXM D ca s h ad (sI (sI (sI (sI (sI (sI I 5 made_r148) 8 at0_r90) 9 token_r90) 10 tokenAt_r90) 11 value_r90) 17 ((I 17) + 1)) (sF F 3 fresh_r148) H A s.heap locs := wMc Wd rfl rfl ⟨(rsI (rsI (rsI (rsI (rsI (rsI hS.1 (Wc148.2.1 5)) (Wc90.2.1 8)) (Wc90.2.1 9)) (Wc90.2.1 10)) (Wc90.2.1 11)) g81_0), (rsF hS.2 (fun j => Wc148.2.2 3 j))⟩
                refine lv_aload_n C.1 C.2.1 dX12_statement_151 rfl (lv_at hl 0 rfl) ?_
                refine lv_bipush (v := zI 59) C.1 C.2.1 dX12_statement_152 (by decide) ?_
                refine k_cMi Wd (k_runVMS (rest := []) C aks hE Wd cs_X12_194 (mt_need D h ad ca (sI (sI (sI (sI (sI (sI I 5 made_r148) 8 at0_r90) 9 token_r90) 10 tokenAt_r90) 11 value_r90) 17 ((I 17) + 1)) (sF F 3 fresh_r148) Wd.2 adK adV tq 59 (show rng 59 from by decide) _ hw l _) rfl rfl ⟨(by show 8 + 1 ≤ 114 + (n + 1); omega), (by show 8 + (2 + 11) + (366) ≤ 2732 + 22 * (n + 1); omega)⟩ hl.1 rfl rfl (Nat.le_of_ble_eq_true rfl) ⟨(Nat.le_of_ble_eq_true rfl), (Nat.le_of_ble_eq_true rfl)⟩ dX12_statement_154) (fun r154 u154 H locs g_r154 hw Wd => ?_)
                obtain ⟨at0_r154, token_r154, tokenAt_r154, value_r154, wrong_r154, wrongAt_r154⟩ := u154
                dsimp only at hw
                have Wc154 := Wd
                have Wd : wXM D ca s h ad (sI (sI (sI (sI (sI (sI (sI (sI I 5 made_r148) 8 at0_r154) 9 token_r154) 10 tokenAt_r154) 11 value_r154) 12 wrong_r154) 13 wrongAt_r154) 17 ((I 17) + 1)) (sF F 3 fresh_r148) H A s.heap locs := wMc Wd rfl rfl ⟨(rsI (rsI (rsI (rsI (rsI (rsI (rsI (rsI hS.1 (Wc148.2.1 5)) (Wc154.2.1 8)) (Wc154.2.1 9)) (Wc154.2.1 10)) (Wc154.2.1 11)) (Wc154.2.1 12)) (Wc154.2.1 13)) g81_0), (rsF hS.2 (fun j => Wc148.2.2 3 j))⟩
                obtain ⟨b157_0, hw⟩ := hw
                exact k_retMi C hr hlk (zI_nb b157_0) Wd (u := (fresh_r148, made_r148, at0_r154, token_r154, tokenAt_r154, value_r154, wrong_r154, wrongAt_r154, (I 15), (I 16), ((I 17) + 1), (I 19))) rfl rfl ⟨⟨_, rfl, g_r154, hw⟩, ⟨(rsI (rsI (rsI (rsI (rsI (rsI (rsI (rsI (rsI (rsI (rsI hS.1 (Wc148.2.1 5)) (Wc154.2.1 8)) (Wc154.2.1 9)) (Wc154.2.1 10)) (Wc154.2.1 11)) (Wc154.2.1 12)) (Wc154.2.1 13)) (hS.1 15)) (hS.1 16)) g81_0) (hS.1 19)), (rsF hS.2 (fun j => Wc148.2.2 3 j))⟩⟩ dX12_statement_157
            · have hw := hw.2 (z0_ne g_s0_15 c94)
              refine lv_aload_n C.1 C.2.1 dX12_statement_97 rfl (lv_at hl 0 rfl) ?_
              refine lv_bipush (v := zI 100) C.1 C.2.1 dX12_statement_98 (by decide) ?_
              refine lv_iload_n C.1 C.2.1 dX12_statement_100 rfl (lv_at hl 2 rfl) ?_
              refine k_iadd (v := zI (100 + (I 9))) C (zI_iadd _ _) dX12_statement_101 ?_
              refine lv_sipush (v := zI 320) C.1 C.2.1 dX12_statement_102 (zS (by decide) (by decide)) ?_
              refine k_isub (v := zI ((100 + (I 9)) - 320)) C (zI_isub _ _) dX12_statement_105 ?_
              obtain ⟨g106_0, hw⟩ := hw
              refine k_cMv Wd (k_runVM (rest := []) C aks Wd cs_X12_120 (mt_write D h ad ca (sI (sI (sI (sI (sI I 8 at0_r90) 9 token_r90) 10 tokenAt_r90) 11 value_r90) 17 ((I 17) + 1)) F Wd.2 ((100 + (I 9)) - 320) g106_0 _ hw l _) rfl rfl ⟨(by show 1 + 1 ≤ 114 + (n + 1); omega), (by show 8 + (2 + 11) + (64) ≤ 2732 + 22 * (n + 1); omega)⟩ hl.1 rfl rfl (Nat.le_of_ble_eq_true rfl) ⟨(Nat.le_of_ble_eq_true rfl), (Nat.le_of_ble_eq_true rfl)⟩ dX12_statement_106) (fun u106 H locs hw Wd => ?_)
              obtain ⟨fresh_r106, made_r106⟩ := u106
              dsimp only at hw
              have Wc106 := Wd
              have Wd : wXM D ca s h ad (sI (sI (sI (sI (sI (sI I 5 made_r106) 8 at0_r90) 9 token_r90) 10 tokenAt_r90) 11 value_r90) 17 ((I 17) + 1)) (sF F 3 fresh_r106) H A s.heap locs := wMc Wd rfl rfl ⟨(rsI (rsI (rsI (rsI (rsI (rsI hS.1 (Wc106.2.1 5)) (Wc90.2.1 8)) (Wc90.2.1 9)) (Wc90.2.1 10)) (Wc90.2.1 11)) g81_0), (rsF hS.2 (fun j => Wc106.2.2 3 j))⟩
              refine lv_aload_n C.1 C.2.1 dX12_statement_109 rfl (lv_at hl 0 rfl) ?_
              refine lv_bipush (v := zI 61) C.1 C.2.1 dX12_statement_110 (by decide) ?_
              refine k_cMi Wd (k_runVMS (rest := []) C aks hE Wd cs_X12_194 (mt_need D h ad ca (sI (sI (sI (sI (sI (sI I 5 made_r106) 8 at0_r90) 9 token_r90) 10 tokenAt_r90) 11 value_r90) 17 ((I 17) + 1)) (sF F 3 fresh_r106) Wd.2 adK adV tq 61 (show rng 61 from by decide) _ hw l _) rfl rfl ⟨(by show 8 + 1 ≤ 114 + (n + 1); omega), (by show 8 + (2 + 11) + (366) ≤ 2732 + 22 * (n + 1); omega)⟩ hl.1 rfl rfl (Nat.le_of_ble_eq_true rfl) ⟨(Nat.le_of_ble_eq_true rfl), (Nat.le_of_ble_eq_true rfl)⟩ dX12_statement_112) (fun r112 u112 H locs g_r112 hw Wd => ?_)
              obtain ⟨at0_r112, token_r112, tokenAt_r112, value_r112, wrong_r112, wrongAt_r112⟩ := u112
              dsimp only at hw
              have Wc112 := Wd
              have Wd : wXM D ca s h ad (sI (sI (sI (sI (sI (sI (sI (sI I 5 made_r106) 8 at0_r112) 9 token_r112) 10 tokenAt_r112) 11 value_r112) 12 wrong_r112) 13 wrongAt_r112) 17 ((I 17) + 1)) (sF F 3 fresh_r106) H A s.heap locs := wMc Wd rfl rfl ⟨(rsI (rsI (rsI (rsI (rsI (rsI (rsI (rsI hS.1 (Wc106.2.1 5)) (Wc112.2.1 8)) (Wc112.2.1 9)) (Wc112.2.1 10)) (Wc112.2.1 11)) (Wc112.2.1 12)) (Wc112.2.1 13)) g81_0), (rsF hS.2 (fun j => Wc106.2.2 3 j))⟩
              refine lv_if_eq (tgt := 138) C.1 C.2.1 dX12_statement_115 (by decide) (fun c115 => ?_) (fun c115 => ?_)
              · have hw := hw.1 (z0_eq g_r112 c115)
                refine lv_iconst (v := zI 0) C.1 C.2.1 dX12_statement_138 (by decide) ?_
                exact k_retMi C hr hlk (by decide) Wd (u := (fresh_r106, made_r106, at0_r112, token_r112, tokenAt_r112, value_r112, wrong_r112, wrongAt_r112, (I 15), (I 16), ((I 17) + 1), (I 19))) rfl rfl ⟨⟨_, rfl, (show rng 0 from by decide), hw⟩, ⟨(rsI (rsI (rsI (rsI (rsI (rsI (rsI (rsI (rsI (rsI (rsI hS.1 (Wc106.2.1 5)) (Wc112.2.1 8)) (Wc112.2.1 9)) (Wc112.2.1 10)) (Wc112.2.1 11)) (Wc112.2.1 12)) (Wc112.2.1 13)) (hS.1 15)) (hS.1 16)) g81_0) (hS.1 19)), (rsF hS.2 (fun j => Wc106.2.2 3 j))⟩⟩ dX12_statement_139
              · have hw := hw.2 (z0_ne g_r112 c115)
                refine lv_aload_n C.1 C.2.1 dX12_statement_118 rfl (lv_at hl 0 rfl) ?_
                refine k_cMi Wd (k_runVMS (rest := []) C aks hE Wd cs_X12_219 (mt_sumUp D h ad ca (sI (sI (sI (sI (sI (sI (sI (sI I 5 made_r106) 8 at0_r112) 9 token_r112) 10 tokenAt_r112) 11 value_r112) 12 wrong_r112) 13 wrongAt_r112) 17 ((I 17) + 1)) (sF F 3 fresh_r106) Wd.2 adK adV tq   _ hw l _) rfl rfl ⟨(by show 111 + 1 ≤ 114 + (n + 1); omega), (by show 8 + (3 + 11) + (2648) ≤ 2732 + 22 * (n + 1); omega)⟩ hl.1 rfl rfl (Nat.le_of_ble_eq_true rfl) ⟨(Nat.le_of_ble_eq_true rfl), (Nat.le_of_ble_eq_true rfl)⟩ dX12_statement_119) (fun r119 u119 H locs g_r119 hw Wd => ?_)
                obtain ⟨fresh_r119, made_r119, at0_r119, token_r119, tokenAt_r119, value_r119, wrong_r119, wrongAt_r119, depth_r119, countParts_r119, leftLetters_r119⟩ := u119
                dsimp only at hw
                have Wc119 := Wd
                have Wd : wXM D ca s h ad (sI (sI (sI (sI (sI (sI (sI (sI (sI (sI (sI I 5 made_r119) 8 at0_r119) 9 token_r119) 10 tokenAt_r119) 11 value_r119) 12 wrong_r119) 13 wrongAt_r119) 15 depth_r119) 16 countParts_r119) 17 ((I 17) + 1)) 19 leftLetters_r119) (sF F 3 fresh_r119) H A s.heap locs := wMc Wd rfl rfl ⟨(rsI (rsI (rsI (rsI (rsI (rsI (rsI (rsI (rsI (rsI (rsI hS.1 (Wc119.2.1 5)) (Wc119.2.1 8)) (Wc119.2.1 9)) (Wc119.2.1 10)) (Wc119.2.1 11)) (Wc119.2.1 12)) (Wc119.2.1 13)) (Wc119.2.1 15)) (Wc119.2.1 16)) g81_0) (Wc119.2.1 19)), (rsF hS.2 (fun j => Wc119.2.2 3 j))⟩
                refine lv_if_eq (tgt := 138) C.1 C.2.1 dX12_statement_122 (by decide) (fun c122 => ?_) (fun c122 => ?_)
                · have hw := hw.1 (z0_eq g_r119 c122)
                  refine lv_iconst (v := zI 0) C.1 C.2.1 dX12_statement_138 (by decide) ?_
                  exact k_retMi C hr hlk (by decide) Wd (u := (fresh_r119, made_r119, at0_r119, token_r119, tokenAt_r119, value_r119, wrong_r119, wrongAt_r119, depth_r119, countParts_r119, ((I 17) + 1), leftLetters_r119)) rfl rfl ⟨⟨_, rfl, (show rng 0 from by decide), hw⟩, ⟨(rsI (rsI (rsI (rsI (rsI (rsI (rsI (rsI (rsI (rsI (rsI hS.1 (Wc119.2.1 5)) (Wc119.2.1 8)) (Wc119.2.1 9)) (Wc119.2.1 10)) (Wc119.2.1 11)) (Wc119.2.1 12)) (Wc119.2.1 13)) (Wc119.2.1 15)) (Wc119.2.1 16)) g81_0) (Wc119.2.1 19)), (rsF hS.2 (fun j => Wc119.2.2 3 j))⟩⟩ dX12_statement_139
                · have hw := hw.2 (z0_ne g_r119 c122)
                  refine lv_aload_n C.1 C.2.1 dX12_statement_125 rfl (lv_at hl 0 rfl) ?_
                  refine lv_bipush (v := zI 59) C.1 C.2.1 dX12_statement_126 (by decide) ?_
                  refine k_cMi Wd (k_runVMS (rest := []) C aks hE Wd cs_X12_194 (mt_need D h ad ca (sI (sI (sI (sI (sI (sI (sI (sI (sI (sI (sI I 5 made_r119) 8 at0_r119) 9 token_r119) 10 tokenAt_r119) 11 value_r119) 12 wrong_r119) 13 wrongAt_r119) 15 depth_r119) 16 countParts_r119) 17 ((I 17) + 1)) 19 leftLetters_r119) (sF F 3 fresh_r119) Wd.2 adK adV tq 59 (show rng 59 from by decide) _ hw l _) rfl rfl ⟨(by show 8 + 1 ≤ 114 + (n + 1); omega), (by show 8 + (2 + 11) + (366) ≤ 2732 + 22 * (n + 1); omega)⟩ hl.1 rfl rfl (Nat.le_of_ble_eq_true rfl) ⟨(Nat.le_of_ble_eq_true rfl), (Nat.le_of_ble_eq_true rfl)⟩ dX12_statement_128) (fun r128 u128 H locs g_r128 hw Wd => ?_)
                  obtain ⟨at0_r128, token_r128, tokenAt_r128, value_r128, wrong_r128, wrongAt_r128⟩ := u128
                  dsimp only at hw
                  have Wc128 := Wd
                  have Wd : wXM D ca s h ad (sI (sI (sI (sI (sI (sI (sI (sI (sI (sI (sI I 5 made_r119) 8 at0_r128) 9 token_r128) 10 tokenAt_r128) 11 value_r128) 12 wrong_r128) 13 wrongAt_r128) 15 depth_r119) 16 countParts_r119) 17 ((I 17) + 1)) 19 leftLetters_r119) (sF F 3 fresh_r119) H A s.heap locs := wMc Wd rfl rfl ⟨(rsI (rsI (rsI (rsI (rsI (rsI (rsI (rsI (rsI (rsI (rsI hS.1 (Wc119.2.1 5)) (Wc128.2.1 8)) (Wc128.2.1 9)) (Wc128.2.1 10)) (Wc128.2.1 11)) (Wc128.2.1 12)) (Wc128.2.1 13)) (Wc119.2.1 15)) (Wc119.2.1 16)) g81_0) (Wc119.2.1 19)), (rsF hS.2 (fun j => Wc119.2.2 3 j))⟩
                  refine lv_if_eq (tgt := 138) C.1 C.2.1 dX12_statement_131 (by decide) (fun c131 => ?_) (fun c131 => ?_)
                  · have hw := hw.1 (z0_eq g_r128 c131)
                    refine lv_iconst (v := zI 0) C.1 C.2.1 dX12_statement_138 (by decide) ?_
                    exact k_retMi C hr hlk (by decide) Wd (u := (fresh_r119, made_r119, at0_r128, token_r128, tokenAt_r128, value_r128, wrong_r128, wrongAt_r128, depth_r119, countParts_r119, ((I 17) + 1), leftLetters_r119)) rfl rfl ⟨⟨_, rfl, (show rng 0 from by decide), hw⟩, ⟨(rsI (rsI (rsI (rsI (rsI (rsI (rsI (rsI (rsI (rsI (rsI hS.1 (Wc119.2.1 5)) (Wc128.2.1 8)) (Wc128.2.1 9)) (Wc128.2.1 10)) (Wc128.2.1 11)) (Wc128.2.1 12)) (Wc128.2.1 13)) (Wc119.2.1 15)) (Wc119.2.1 16)) g81_0) (Wc119.2.1 19)), (rsF hS.2 (fun j => Wc119.2.2 3 j))⟩⟩ dX12_statement_139
                  · have hw := hw.2 (z0_ne g_r128 c131)
                    refine lv_iconst (v := zI 1) C.1 C.2.1 dX12_statement_134 (by decide) ?_
                    refine lv_goto (tgt := 139) C.1 C.2.1 dX12_statement_135 (by decide) ?_
                    exact k_retMi C hr hlk (by decide) Wd (u := (fresh_r119, made_r119, at0_r128, token_r128, tokenAt_r128, value_r128, wrong_r128, wrongAt_r128, depth_r119, countParts_r119, ((I 17) + 1), leftLetters_r119)) rfl rfl ⟨⟨_, rfl, (show rng 1 from by decide), hw⟩, ⟨(rsI (rsI (rsI (rsI (rsI (rsI (rsI (rsI (rsI (rsI (rsI hS.1 (Wc119.2.1 5)) (Wc128.2.1 8)) (Wc128.2.1 9)) (Wc128.2.1 10)) (Wc128.2.1 11)) (Wc128.2.1 12)) (Wc128.2.1 13)) (Wc119.2.1 15)) (Wc119.2.1 16)) g81_0) (Wc119.2.1 19)), (rsF hS.2 (fun j => Wc119.2.2 3 j))⟩⟩ dX12_statement_139
          · have hw := hw.2 (z_eq (hS.1 17) (show rng 40 from by decide) c65)
            refine lv_aload_n C.1 C.2.1 dX12_statement_68 rfl (lv_at hl 0 rfl) ?_
            refine lv_iconst (v := zI 3) C.1 C.2.1 dX12_statement_69 (by decide) ?_
            refine k_cMi Wd (k_runVM (rest := []) C aks Wd cs_X12_185 (mt_bad D h ad ca I F Wd.2 3 (show rng 3 from by decide) _ hw l _) rfl rfl ⟨(by show 1 + 1 ≤ 114 + (n + 1); omega), (by show 8 + (2 + 11) + (64) ≤ 2732 + 22 * (n + 1); omega)⟩ hl.1 rfl rfl (Nat.le_of_ble_eq_true rfl) ⟨(Nat.le_of_ble_eq_true rfl), (Nat.le_of_ble_eq_true rfl)⟩ dX12_statement_70) (fun r70 u70 H locs g_r70 hw Wd => ?_)
            obtain ⟨wrong_r70, wrongAt_r70⟩ := u70
            dsimp only at hw
            have Wc70 := Wd
            have Wd : wXM D ca s h ad (sI (sI I 12 wrong_r70) 13 wrongAt_r70) F H A s.heap locs := wMc Wd rfl rfl ⟨(rsI (rsI hS.1 (Wc70.2.1 12)) (Wc70.2.1 13)), hS.2⟩
            obtain ⟨b73_0, hw⟩ := hw
            exact k_retMi C hr hlk (zI_nb b73_0) Wd (u := ((F 3), (I 5), (I 8), (I 9), (I 10), (I 11), wrong_r70, wrongAt_r70, (I 15), (I 16), (I 17), (I 19))) rfl rfl ⟨⟨_, rfl, g_r70, hw⟩, ⟨(rsI (rsI (rsI (rsI (rsI (rsI (rsI (rsI (rsI (rsI (rsI hS.1 (hS.1 5)) (hS.1 8)) (hS.1 9)) (hS.1 10)) (hS.1 11)) (Wc70.2.1 12)) (Wc70.2.1 13)) (hS.1 15)) (hS.1 16)) (hS.1 17)) (hS.1 19)), (rsF hS.2 (hS.2 3))⟩⟩ dX12_statement_73
        refine lv_if_ne (tgt := 59) C.1 C.2.1 dX12_statement_17 (by decide) (fun c17 => ?_) (fun c17 => ?_)
        · have hw := hw.1 (z0_ne g_s0_15 c17)
          exact J59  _ _ _ ⟨hw, Wd, lv_sub hl [0, 1] rfl⟩
        · have hw := hw.2 (z0_eq g_s0_15 c17)
          refine lv_aload_n C.1 C.2.1 dX12_statement_20 rfl (lv_at hl 0 rfl) ?_
          refine k_get (v := .int (zI (I 9))) C Wd.1 KX12 0 9 wM0 (by decide) fl_X12_164 rfl dX12_statement_21 ?_
          refine lv_iconst (v := zI 3) C.1 C.2.1 dX12_statement_24 (by decide) ?_
          refine lv_icmp_eq (tgt := 59) C.1 C.2.1 dX12_statement_25 (by decide) (fun c25 => ?_) (fun c25 => ?_)
          · have hw := hw.1 (z_eq (hS.1 9) (show rng 3 from by decide) c25)
            exact J59  _ _ _ ⟨hw, Wd, lv_sub hl [0, 1] rfl⟩
          · have hw := hw.2 (z_ne (hS.1 9) (show rng 3 from by decide) c25)
            refine lv_aload_n C.1 C.2.1 dX12_statement_28 rfl (lv_at hl 0 rfl) ?_
            refine k_get (v := .int (zI (I 9))) C Wd.1 KX12 0 9 wM0 (by decide) fl_X12_164 rfl dX12_statement_29 ?_
            refine lv_iconst (v := zI 4) C.1 C.2.1 dX12_statement_32 (by decide) ?_
            refine lv_icmp_eq (tgt := 59) C.1 C.2.1 dX12_statement_33 (by decide) (fun c33 => ?_) (fun c33 => ?_)
            · have hw := hw.1 (z_eq (hS.1 9) (show rng 4 from by decide) c33)
              exact J59  _ _ _ ⟨hw, Wd, lv_sub hl [0, 1] rfl⟩
            · have hw := hw.2 (z_ne (hS.1 9) (show rng 4 from by decide) c33)
              refine lv_aload_n C.1 C.2.1 dX12_statement_36 rfl (lv_at hl 0 rfl) ?_
              refine k_get (v := .int (zI (I 9))) C Wd.1 KX12 0 9 wM0 (by decide) fl_X12_164 rfl dX12_statement_37 ?_
              refine lv_iconst (v := zI 5) C.1 C.2.1 dX12_statement_40 (by decide) ?_
              refine lv_icmp_eq (tgt := 59) C.1 C.2.1 dX12_statement_41 (by decide) (fun c41 => ?_) (fun c41 => ?_)
              · have hw := hw.1 (z_eq (hS.1 9) (show rng 5 from by decide) c41)
                exact J59  _ _ _ ⟨hw, Wd, lv_sub hl [0, 1] rfl⟩
              · have hw := hw.2 (z_ne (hS.1 9) (show rng 5 from by decide) c41)
                refine lv_aload_n C.1 C.2.1 dX12_statement_44 rfl (lv_at hl 0 rfl) ?_
                refine k_get (v := .int (zI (I 9))) C Wd.1 KX12 0 9 wM0 (by decide) fl_X12_164 rfl dX12_statement_45 ?_
                refine lv_bipush (v := zI 7) C.1 C.2.1 dX12_statement_48 (by decide) ?_
                refine lv_icmp_eq (tgt := 59) C.1 C.2.1 dX12_statement_50 (by decide) (fun c50 => ?_) (fun c50 => ?_)
                · have hw := hw.1 (z_eq (hS.1 9) (show rng 7 from by decide) c50)
                  exact J59  _ _ _ ⟨hw, Wd, lv_sub hl [0, 1] rfl⟩
                · have hw := hw.2 (z_ne (hS.1 9) (show rng 7 from by decide) c50)
                  refine lv_aload_n C.1 C.2.1 dX12_statement_53 rfl (lv_at hl 0 rfl) ?_
                  refine lv_iconst (v := zI 1) C.1 C.2.1 dX12_statement_54 (by decide) ?_
                  refine k_cMi Wd (k_runVM (rest := []) C aks Wd cs_X12_185 (mt_bad D h ad ca I F Wd.2 1 (show rng 1 from by decide) _ hw l _) rfl rfl ⟨(by show 1 + 1 ≤ 114 + (n + 1); omega), (by show 8 + (2 + 11) + (64) ≤ 2732 + 22 * (n + 1); omega)⟩ hl.1 rfl rfl (Nat.le_of_ble_eq_true rfl) ⟨(Nat.le_of_ble_eq_true rfl), (Nat.le_of_ble_eq_true rfl)⟩ dX12_statement_55) (fun r55 u55 H locs g_r55 hw Wd => ?_)
                  obtain ⟨wrong_r55, wrongAt_r55⟩ := u55
                  dsimp only at hw
                  have Wc55 := Wd
                  have Wd : wXM D ca s h ad (sI (sI I 12 wrong_r55) 13 wrongAt_r55) F H A s.heap locs := wMc Wd rfl rfl ⟨(rsI (rsI hS.1 (Wc55.2.1 12)) (Wc55.2.1 13)), hS.2⟩
                  obtain ⟨b58_0, hw⟩ := hw
                  exact k_retMi C hr hlk (zI_nb b58_0) Wd (u := ((F 3), (I 5), (I 8), (I 9), (I 10), (I 11), wrong_r55, wrongAt_r55, (I 15), (I 16), (I 17), (I 19))) rfl rfl ⟨⟨_, rfl, g_r55, hw⟩, ⟨(rsI (rsI (rsI (rsI (rsI (rsI (rsI (rsI (rsI (rsI (rsI hS.1 (hS.1 5)) (hS.1 8)) (hS.1 9)) (hS.1 10)) (hS.1 11)) (Wc55.2.1 12)) (Wc55.2.1 13)) (hS.1 15)) (hS.1 16)) (hS.1 17)) (hS.1 19)), (rsF hS.2 (hS.2 3))⟩⟩ dX12_statement_58
      refine lv_icmp_lt (tgt := 14) C.1 C.2.1 dX12_statement_7 (by decide) (fun c7 => ?_) (fun c7 => ?_)
      · have hw := hw.1 (z_lt (hS.1 9) (show rng 320 from by decide) c7)
        refine lv_iconst (v := zI 0) C.1 C.2.1 dX12_statement_14 (by decide) ?_
        exact J15 0 _ _ _ ⟨(show rng 0 from by decide), hw, Wd, lv_sub hl [0] rfl⟩
      · have hw := hw.2 (z_nlt (hS.1 9) (show rng 320 from by decide) c7)
        refine lv_iconst (v := zI 1) C.1 C.2.1 dX12_statement_10 (by decide) ?_
        refine lv_goto (tgt := 15) C.1 C.2.1 dX12_statement_11 (by decide) ?_
        exact J15 1 _ _ _ ⟨(show rng 1 from by decide), hw, Wd, lv_sub hl [0] rfl⟩
    · intro D h ad ca I F hS adK adV tq  K hw l sz
      refine Met.ofW (cc := cX12_otherwise) (maxL := 1) (ret := (some .boolean)) (by decide) rfl ?_
      intro p e s m args below meth c s₁ B hml hv
      obtain ⟨hv, hE⟩ := hv
      obtain ⟨rfl, aks, rfl, Wd⟩ := k_enter hv
      have C : CallFix p m c cX12_otherwise 1 s _ gG RX12 := ⟨B.exec, B.bytes, hml, findClass_of_methodNamed B.named, fun w h => atoms_spec (ws := Cond.code yX12_otherwise cX12_otherwise 1 (some .boolean) :: gG) B.pre w (List.mem_cons_of_mem _ h)⟩
      have hr := B.returns
      have hlk := B.notSynchronized
      generalize va_A (wM h ad ca I F) s.heap.size = A at Wd hE ⊢
      replace Wd : wXM D ca s h ad I F s.heap A s.heap [] := ⟨Wd, hS⟩
      refine k_locals (Nat.le_of_ble_eq_true rfl) [(0, .ref h)] rfl (fun ls hl => ?_)
      replace hw : wp_otherwise_b (wp_block n) (wp_statement n) (wp_otherwise n) (F 3) (I 5) (F 6) (I 7) (I 8) (I 9) (I 10) (I 11) (I 12) (I 13) (I 15) (I 16) (I 17) (I 18) (I 19) (I 21) (I 22) K := hw
      unfold wp_otherwise_b at hw
      refine lv_aload_n C.1 C.2.1 dX12_otherwise_0 rfl (lv_at hl 0 rfl) ?_
      refine lv_bipush (v := zI 113) C.1 C.2.1 dX12_otherwise_1 (by decide) ?_
      refine k_cMv Wd (k_runVM (rest := []) C aks Wd cs_X12_120 (mt_write D h ad ca I F Wd.2 113 (show rng 113 from by decide) _ hw l _) rfl rfl ⟨(by show 1 + 1 ≤ 114 + (n + 1); omega), (by show 8 + (2 + 11) + (64) ≤ 2732 + 22 * (n + 1); omega)⟩ hl.1 rfl rfl (Nat.le_of_ble_eq_true rfl) ⟨(Nat.le_of_ble_eq_true rfl), (Nat.le_of_ble_eq_true rfl)⟩ dX12_otherwise_3) (fun u3 H locs hw Wd => ?_)
      obtain ⟨fresh_r3, made_r3⟩ := u3
      dsimp only at hw
      have Wc3 := Wd
      have Wd : wXM D ca s h ad (sI I 5 made_r3) (sF F 3 fresh_r3) H A s.heap locs := wMc Wd rfl rfl ⟨(rsI hS.1 (Wc3.2.1 5)), (rsF hS.2 (fun j => Wc3.2.2 3 j))⟩
      refine lv_aload_n C.1 C.2.1 dX12_otherwise_6 rfl (lv_at hl 0 rfl) ?_
      refine k_get (v := .int (zI (I 9))) C Wd.1 KX12 0 9 wM0 (by decide) fl_X12_164 rfl dX12_otherwise_7 ?_
      refine lv_bipush (v := zI 6) C.1 C.2.1 dX12_otherwise_10 (by decide) ?_
      refine lv_icmp_eq (tgt := 17) C.1 C.2.1 dX12_otherwise_12 (by decide) (fun c12 => ?_) (fun c12 => ?_)
      · have hw := hw.1 (z_eq (hS.1 9) (show rng 6 from by decide) c12)
        refine lv_aload_n C.1 C.2.1 dX12_otherwise_17 rfl (lv_at hl 0 rfl) ?_
        refine k_cMv Wd (k_runVMS (rest := []) C aks hE Wd cs_X12_188 (mt_next0 D h ad ca (sI I 5 made_r3) (sF F 3 fresh_r3) Wd.2 adK adV tq   _ hw l _) rfl rfl ⟨(by show 7 + 1 ≤ 114 + (n + 1); omega), (by show 8 + (3 + 11) + (344) ≤ 2732 + 22 * (n + 1); omega)⟩ hl.1 rfl rfl (Nat.le_of_ble_eq_true rfl) ⟨(Nat.le_of_ble_eq_true rfl), (Nat.le_of_ble_eq_true rfl)⟩ dX12_otherwise_18) (fun u18 H locs hw Wd => ?_)
        obtain ⟨at0_r18, token_r18, tokenAt_r18, value_r18⟩ := u18
        dsimp only at hw
        have Wc18 := Wd
        have Wd : wXM D ca s h ad (sI (sI (sI (sI (sI I 5 made_r3) 8 at0_r18) 9 token_r18) 10 tokenAt_r18) 11 value_r18) (sF F 3 fresh_r3) H A s.heap locs := wMc Wd rfl rfl ⟨(rsI (rsI (rsI (rsI (rsI hS.1 (Wc3.2.1 5)) (Wc18.2.1 8)) (Wc18.2.1 9)) (Wc18.2.1 10)) (Wc18.2.1 11)), (rsF hS.2 (fun j => Wc3.2.2 3 j))⟩
        refine lv_aload_n C.1 C.2.1 dX12_otherwise_21 rfl (lv_at hl 0 rfl) ?_
        refine k_cMi Wd (k_runVMS (rest := []) C aks hE Wd cs_X12_234 (ih_block D h ad ca (sI (sI (sI (sI (sI I 5 made_r3) 8 at0_r18) 9 token_r18) 10 tokenAt_r18) 11 value_r18) (sF F 3 fresh_r3) Wd.2 adK adV tq   _ hw l _) rfl rfl ⟨(by show 114 + n + 1 ≤ 114 + (n + 1); omega), (by show 8 + (1 + 11) + (2732 + 22 * n) ≤ 2732 + 22 * (n + 1); omega)⟩ hl.1 rfl rfl (Nat.le_of_ble_eq_true rfl) ⟨(Nat.le_of_ble_eq_true rfl), (Nat.le_of_ble_eq_true rfl)⟩ dX12_otherwise_22) (fun r22 u22 H locs g_r22 hw Wd => ?_)
        obtain ⟨fresh_r22, made_r22, at0_r22, token_r22, tokenAt_r22, value_r22, wrong_r22, wrongAt_r22, depth_r22, countParts_r22, countStatements_r22, leftLetters_r22⟩ := u22
        dsimp only at hw
        have Wc22 := Wd
        have Wd : wXM D ca s h ad (sI (sI (sI (sI (sI (sI (sI (sI (sI (sI (sI I 5 made_r22) 8 at0_r22) 9 token_r22) 10 tokenAt_r22) 11 value_r22) 12 wrong_r22) 13 wrongAt_r22) 15 depth_r22) 16 countParts_r22) 17 countStatements_r22) 19 leftLetters_r22) (sF F 3 fresh_r22) H A s.heap locs := wMc Wd rfl rfl ⟨(rsI (rsI (rsI (rsI (rsI (rsI (rsI (rsI (rsI (rsI (rsI hS.1 (Wc22.2.1 5)) (Wc22.2.1 8)) (Wc22.2.1 9)) (Wc22.2.1 10)) (Wc22.2.1 11)) (Wc22.2.1 12)) (Wc22.2.1 13)) (Wc22.2.1 15)) (Wc22.2.1 16)) (Wc22.2.1 17)) (Wc22.2.1 19)), (rsF hS.2 (fun j => Wc22.2.2 3 j))⟩
        obtain ⟨b25_0, hw⟩ := hw
        exact k_retMi C hr hlk (zI_nb b25_0) Wd (u := (fresh_r22, made_r22, at0_r22, token_r22, tokenAt_r22, value_r22, wrong_r22, wrongAt_r22, depth_r22, countParts_r22, countStatements_r22, leftLetters_r22)) rfl rfl ⟨⟨_, rfl, g_r22, hw⟩, ⟨(rsI (rsI (rsI (rsI (rsI (rsI (rsI (rsI (rsI (rsI (rsI hS.1 (Wc22.2.1 5)) (Wc22.2.1 8)) (Wc22.2.1 9)) (Wc22.2.1 10)) (Wc22.2.1 11)) (Wc22.2.1 12)) (Wc22.2.1 13)) (Wc22.2.1 15)) (Wc22.2.1 16)) (Wc22.2.1 17)) (Wc22.2.1 19)), (rsF hS.2 (fun j => Wc22.2.2 3 j))⟩⟩ dX12_otherwise_25
      · have hw := hw.2 (z_ne (hS.1 9) (show rng 6 from by decide) c12)
        refine lv_iconst (v := zI 1) C.1 C.2.1 dX12_otherwise_15 (by decide) ?_
        exact k_retMi C hr hlk (by decide) Wd (u := (fresh_r3, made_r3, (I 8), (I 9), (I 10), (I 11), (I 12), (I 13), (I 15), (I 16), (I 17), (I 19))) rfl rfl ⟨⟨_, rfl, (show rng 1 from by decide), hw⟩, ⟨(rsI (rsI (rsI (rsI (rsI (rsI (rsI (rsI (rsI (rsI (rsI hS.1 (Wc3.2.1 5)) (hS.1 8)) (hS.1 9)) (hS.1 10)) (hS.1 11)) (hS.1 12)) (hS.1 13)) (hS.1 15)) (hS.1 16)) (hS.1 17)) (hS.1 19)), (rsF hS.2 (fun j => Wc3.2.2 3 j))⟩⟩ dX12_otherwise_16
theorem mt_block : ∀ (D : va_G) (h : Nat) (ad : Nat → Nat) (ca : Nat → ClassId) (I : Nat → Int) (F : Nat → Int → Int) (hS : rngS I F) (adK adV : Nat → Nat) (tq : Nat) (K : Int → (Int → Int) → Int → Int → Int → Int → Int → Int → Int → Int → Int → Int → Int → Prop) (hw : wp_block 100 (F 3) (I 5) (F 6) (I 7) (I 8) (I 9) (I 10) (I 11) (I 12) (I 13) (I 15) (I 16) (I 17) (I 18) (I 19) (I 21) (I 22) K) (l : Launch) (sz : Nat), Met l yX12_block (Cond.code yX12_block cX12_block 1 (some .boolean) :: gG) { frames := 214, cells := 0, slots := 0, locals := 4932 } (cPS RX12 ixM adK adV tq D (tM ca) (wM h ad ca I F) sz [.ref h]) (va_Qi (fun (r : Int32) (u : (Int → Int) × (Int) × (Int) × (Int) × (Int) × (Int) × (Int) × (Int) × (Int) × (Int) × (Int) × (Int)) => (∃ x : Int, r = zI x ∧ rng x ∧ K x u.1 u.2.1 u.2.2.1 u.2.2.2.1 u.2.2.2.2.1 u.2.2.2.2.2.1 u.2.2.2.2.2.2.1 u.2.2.2.2.2.2.2.1 u.2.2.2.2.2.2.2.2.1 u.2.2.2.2.2.2.2.2.2.1 u.2.2.2.2.2.2.2.2.2.2.1 u.2.2.2.2.2.2.2.2.2.2.2) ∧ rngS (sI (sI (sI (sI (sI (sI (sI (sI (sI (sI (sI I 5 u.2.1) 8 u.2.2.1) 9 u.2.2.2.1) 10 u.2.2.2.2.1) 11 u.2.2.2.2.2.1) 12 u.2.2.2.2.2.2.1) 13 u.2.2.2.2.2.2.2.1) 15 u.2.2.2.2.2.2.2.2.1) 16 u.2.2.2.2.2.2.2.2.2.1) 17 u.2.2.2.2.2.2.2.2.2.2.1) 19 u.2.2.2.2.2.2.2.2.2.2.2) (sF F 3 u.1)) (fun u t => cB D (va_A (wM h ad ca I F) sz) [] (wM h ad ca (sI (sI (sI (sI (sI (sI (sI (sI (sI (sI (sI I 5 u.2.1) 8 u.2.2.1) 9 u.2.2.2.1) 10 u.2.2.2.2.1) 11 u.2.2.2.2.2.1) 12 u.2.2.2.2.2.2.1) 13 u.2.2.2.2.2.2.2.1) 15 u.2.2.2.2.2.2.2.2.1) 16 u.2.2.2.2.2.2.2.2.2.1) 17 u.2.2.2.2.2.2.2.2.2.2.1) 19 u.2.2.2.2.2.2.2.2.2.2.2) (sF F 3 u.1)) t) (va_A (wM h ad ca I F) sz)) 0 0 (va_A (wM h ad ca I F) sz) := (mg_block 100).1
theorem mt_statement : ∀ (D : va_G) (h : Nat) (ad : Nat → Nat) (ca : Nat → ClassId) (I : Nat → Int) (F : Nat → Int → Int) (hS : rngS I F) (adK adV : Nat → Nat) (tq : Nat) (K : Int → (Int → Int) → Int → Int → Int → Int → Int → Int → Int → Int → Int → Int → Int → Prop) (hw : wp_statement 100 (F 3) (I 5) (F 6) (I 7) (I 8) (I 9) (I 10) (I 11) (I 12) (I 13) (I 15) (I 16) (I 17) (I 18) (I 19) (I 21) (I 22) K) (l : Launch) (sz : Nat), Met l yX12_statement (Cond.code yX12_statement cX12_statement 3 (some .boolean) :: gG) { frames := 214, cells := 0, slots := 0, locals := 4932 } (cPS RX12 ixM adK adV tq D (tM ca) (wM h ad ca I F) sz [.ref h]) (va_Qi (fun (r : Int32) (u : (Int → Int) × (Int) × (Int) × (Int) × (Int) × (Int) × (Int) × (Int) × (Int) × (Int) × (Int) × (Int)) => (∃ x : Int, r = zI x ∧ rng x ∧ K x u.1 u.2.1 u.2.2.1 u.2.2.2.1 u.2.2.2.2.1 u.2.2.2.2.2.1 u.2.2.2.2.2.2.1 u.2.2.2.2.2.2.2.1 u.2.2.2.2.2.2.2.2.1 u.2.2.2.2.2.2.2.2.2.1 u.2.2.2.2.2.2.2.2.2.2.1 u.2.2.2.2.2.2.2.2.2.2.2) ∧ rngS (sI (sI (sI (sI (sI (sI (sI (sI (sI (sI (sI I 5 u.2.1) 8 u.2.2.1) 9 u.2.2.2.1) 10 u.2.2.2.2.1) 11 u.2.2.2.2.2.1) 12 u.2.2.2.2.2.2.1) 13 u.2.2.2.2.2.2.2.1) 15 u.2.2.2.2.2.2.2.2.1) 16 u.2.2.2.2.2.2.2.2.2.1) 17 u.2.2.2.2.2.2.2.2.2.2.1) 19 u.2.2.2.2.2.2.2.2.2.2.2) (sF F 3 u.1)) (fun u t => cB D (va_A (wM h ad ca I F) sz) [] (wM h ad ca (sI (sI (sI (sI (sI (sI (sI (sI (sI (sI (sI I 5 u.2.1) 8 u.2.2.1) 9 u.2.2.2.1) 10 u.2.2.2.2.1) 11 u.2.2.2.2.2.1) 12 u.2.2.2.2.2.2.1) 13 u.2.2.2.2.2.2.2.1) 15 u.2.2.2.2.2.2.2.2.1) 16 u.2.2.2.2.2.2.2.2.2.1) 17 u.2.2.2.2.2.2.2.2.2.2.1) 19 u.2.2.2.2.2.2.2.2.2.2.2) (sF F 3 u.1)) t) (va_A (wM h ad ca I F) sz)) 0 0 (va_A (wM h ad ca I F) sz) := (mg_block 100).2.1
theorem mt_otherwise : ∀ (D : va_G) (h : Nat) (ad : Nat → Nat) (ca : Nat → ClassId) (I : Nat → Int) (F : Nat → Int → Int) (hS : rngS I F) (adK adV : Nat → Nat) (tq : Nat) (K : Int → (Int → Int) → Int → Int → Int → Int → Int → Int → Int → Int → Int → Int → Int → Prop) (hw : wp_otherwise 100 (F 3) (I 5) (F 6) (I 7) (I 8) (I 9) (I 10) (I 11) (I 12) (I 13) (I 15) (I 16) (I 17) (I 18) (I 19) (I 21) (I 22) K) (l : Launch) (sz : Nat), Met l yX12_otherwise (Cond.code yX12_otherwise cX12_otherwise 1 (some .boolean) :: gG) { frames := 214, cells := 0, slots := 0, locals := 4932 } (cPS RX12 ixM adK adV tq D (tM ca) (wM h ad ca I F) sz [.ref h]) (va_Qi (fun (r : Int32) (u : (Int → Int) × (Int) × (Int) × (Int) × (Int) × (Int) × (Int) × (Int) × (Int) × (Int) × (Int) × (Int)) => (∃ x : Int, r = zI x ∧ rng x ∧ K x u.1 u.2.1 u.2.2.1 u.2.2.2.1 u.2.2.2.2.1 u.2.2.2.2.2.1 u.2.2.2.2.2.2.1 u.2.2.2.2.2.2.2.1 u.2.2.2.2.2.2.2.2.1 u.2.2.2.2.2.2.2.2.2.1 u.2.2.2.2.2.2.2.2.2.2.1 u.2.2.2.2.2.2.2.2.2.2.2) ∧ rngS (sI (sI (sI (sI (sI (sI (sI (sI (sI (sI (sI I 5 u.2.1) 8 u.2.2.1) 9 u.2.2.2.1) 10 u.2.2.2.2.1) 11 u.2.2.2.2.2.1) 12 u.2.2.2.2.2.2.1) 13 u.2.2.2.2.2.2.2.1) 15 u.2.2.2.2.2.2.2.2.1) 16 u.2.2.2.2.2.2.2.2.2.1) 17 u.2.2.2.2.2.2.2.2.2.2.1) 19 u.2.2.2.2.2.2.2.2.2.2.2) (sF F 3 u.1)) (fun u t => cB D (va_A (wM h ad ca I F) sz) [] (wM h ad ca (sI (sI (sI (sI (sI (sI (sI (sI (sI (sI (sI I 5 u.2.1) 8 u.2.2.1) 9 u.2.2.2.1) 10 u.2.2.2.2.1) 11 u.2.2.2.2.2.1) 12 u.2.2.2.2.2.2.1) 13 u.2.2.2.2.2.2.2.1) 15 u.2.2.2.2.2.2.2.2.1) 16 u.2.2.2.2.2.2.2.2.2.1) 17 u.2.2.2.2.2.2.2.2.2.2.1) 19 u.2.2.2.2.2.2.2.2.2.2.2) (sF F 3 u.1)) t) (va_A (wM h ad ca I F) sz)) 0 0 (va_A (wM h ad ca I F) sz) := (mg_block 100).2.2
