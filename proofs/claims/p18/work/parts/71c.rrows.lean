set_option maxHeartbeats 4000000 in
set_option maxRecDepth 100000 in
theorem mt_begins : ∀ (D : va_G) (h : Nat) (ad : Nat → Nat) (ca : Nat → ClassId) (I : Nat → Int) (F : Nat → Int → Int) (hS : rngS I F) (adK adV : Nat → Nat) (tq : Nat) (x0 : Int) (x1 : Int) (g_x0 : rng x0) (g_x1 : rng x1) (K : Int → Int → Int → Int → Int → Int → Int → Int → Int → Int → Int → Int → Int → Int → Prop) (hw : wp_begins (I 5) (F 6) (I 7) (I 8) (I 9) (I 10) (I 11) (I 12) (I 13) (I 15) (I 16) (I 17) (I 18) (I 19) (I 21) (I 22) x0 x1 K) (l : Launch) (sz : Nat), Met l yX12_begins (Cond.code yX12_begins cX12_begins 3 none :: gG) { frames := 8, cells := 0, slots := 0, locals := 366 } (cPS RX12 ixM adK adV tq D (tM ca) (wM h ad ca I F) sz [.ref h, .int (zI x0), .int (zI x1)]) (va_Qv (fun (u : (Int) × (Int) × (Int) × (Int) × (Int) × (Int) × (Int) × (Int) × (Int) × (Int) × (Int) × (Int) × (Int) × (Int)) => K u.1 u.2.1 u.2.2.1 u.2.2.2.1 u.2.2.2.2.1 u.2.2.2.2.2.1 u.2.2.2.2.2.2.1 u.2.2.2.2.2.2.2.1 u.2.2.2.2.2.2.2.2.1 u.2.2.2.2.2.2.2.2.2.1 u.2.2.2.2.2.2.2.2.2.2.1 u.2.2.2.2.2.2.2.2.2.2.2.1 u.2.2.2.2.2.2.2.2.2.2.2.2.1 u.2.2.2.2.2.2.2.2.2.2.2.2.2 ∧ rngS (sI (sI (sI (sI (sI (sI (sI (sI (sI (sI (sI (sI (sI (sI I 5 u.1) 8 u.2.1) 9 u.2.2.1) 10 u.2.2.2.1) 11 u.2.2.2.2.1) 12 u.2.2.2.2.2.1) 13 u.2.2.2.2.2.2.1) 15 u.2.2.2.2.2.2.2.1) 16 u.2.2.2.2.2.2.2.2.1) 17 u.2.2.2.2.2.2.2.2.2.1) 18 u.2.2.2.2.2.2.2.2.2.2.1) 19 u.2.2.2.2.2.2.2.2.2.2.2.1) 21 u.2.2.2.2.2.2.2.2.2.2.2.2.1) 22 u.2.2.2.2.2.2.2.2.2.2.2.2.2) F) (fun u t => cB D (va_A (wM h ad ca I F) sz) [] (wM h ad ca (sI (sI (sI (sI (sI (sI (sI (sI (sI (sI (sI (sI (sI (sI I 5 u.1) 8 u.2.1) 9 u.2.2.1) 10 u.2.2.2.1) 11 u.2.2.2.2.1) 12 u.2.2.2.2.2.1) 13 u.2.2.2.2.2.2.1) 15 u.2.2.2.2.2.2.2.1) 16 u.2.2.2.2.2.2.2.2.1) 17 u.2.2.2.2.2.2.2.2.2.1) 18 u.2.2.2.2.2.2.2.2.2.2.1) 19 u.2.2.2.2.2.2.2.2.2.2.2.1) 21 u.2.2.2.2.2.2.2.2.2.2.2.2.1) 22 u.2.2.2.2.2.2.2.2.2.2.2.2.2) F) t) (va_A (wM h ad ca I F) sz)) 0 0 (va_A (wM h ad ca I F) sz) := by
  intro D h ad ca I F hS adK adV tq x0 x1 g_x0 g_x1 K hw l sz
  refine Met.ofW (cc := cX12_begins) (maxL := 3) (ret := none) (by decide) rfl ?_
  intro p e s m args below meth c s₁ B hml hv
  obtain ⟨hv, hE⟩ := hv
  obtain ⟨rfl, aks, rfl, Wd⟩ := k_enter hv
  have C : CallFix p m c cX12_begins 3 s _ gG RX12 := ⟨B.exec, B.bytes, hml, findClass_of_methodNamed B.named, fun w h => atoms_spec (ws := Cond.code yX12_begins cX12_begins 3 none :: gG) B.pre w (List.mem_cons_of_mem _ h)⟩
  have hr := B.returns
  have hlk := B.notSynchronized
  generalize va_A (wM h ad ca I F) s.heap.size = A at Wd hE ⊢
  replace Wd : wXM D ca s h ad I F s.heap A s.heap [] := ⟨Wd, hS⟩
  refine k_locals (Nat.le_of_ble_eq_true rfl) [(0, .ref h), (1, .int (zI x0)), (2, .int (zI x1))] rfl (fun ls hl => ?_)
  unfold wp_begins at hw
  refine lv_aload_n C.1 C.2.1 dX12_begins_0 rfl (lv_at hl 0 rfl) ?_
  refine lv_iload_n C.1 C.2.1 dX12_begins_1 rfl (lv_at hl 1 rfl) ?_
  obtain ⟨b2_0, hw⟩ := hw
  refine k_putM C Wd 21 (sI I 21 x0) (by decide) fl_X12_143 rfl (zI_nb b2_0) (zI_fb b2_0) rfl (rsI hS.1 g_x0) dX12_begins_2 (fun H locs Wd => ?_)
  refine lv_aload_n C.1 C.2.1 dX12_begins_5 rfl (lv_at hl 0 rfl) ?_
  refine lv_iconst (v := zI 0) C.1 C.2.1 dX12_begins_6 (by decide) ?_
  refine k_putM C Wd 22 (sI (sI I 21 x0) 22 0) (by decide) fl_X12_225 rfl (by decide) (by decide) rfl (rsI (rsI hS.1 g_x0) (show rng 0 from by decide)) dX12_begins_7 (fun H locs Wd => ?_)
  refine lv_aload_n C.1 C.2.1 dX12_begins_10 rfl (lv_at hl 0 rfl) ?_
  refine lv_iload_n C.1 C.2.1 dX12_begins_11 rfl (lv_at hl 2 rfl) ?_
  refine k_putM C Wd 18 (sI (sI (sI I 18 x1) 21 x0) 22 0) (by decide) fl_X12_200 rfl rfl rfl rfl (rsI (rsI (rsI hS.1 g_x1) g_x0) (show rng 0 from by decide)) dX12_begins_12 (fun H locs Wd => ?_)
  refine lv_aload_n C.1 C.2.1 dX12_begins_15 rfl (lv_at hl 0 rfl) ?_
  refine lv_iconst (v := zI 0) C.1 C.2.1 dX12_begins_16 (by decide) ?_
  refine k_putM C Wd 12 (sI (sI (sI (sI I 12 0) 18 x1) 21 x0) 22 0) (by decide) fl_X12_179 rfl rfl rfl rfl (rsI (rsI (rsI (rsI hS.1 (show rng 0 from by decide)) g_x1) g_x0) (show rng 0 from by decide)) dX12_begins_17 (fun H locs Wd => ?_)
  refine lv_aload_n C.1 C.2.1 dX12_begins_20 rfl (lv_at hl 0 rfl) ?_
  refine lv_iconst (v := zI (-1)) C.1 C.2.1 dX12_begins_21 (by decide) ?_
  refine k_putM C Wd 13 (sI (sI (sI (sI (sI I 12 0) 13 (-1)) 18 x1) 21 x0) 22 0) (by decide) fl_X12_182 rfl rfl rfl rfl (rsI (rsI (rsI (rsI (rsI hS.1 (show rng 0 from by decide)) (show rng (-1) from by decide)) g_x1) g_x0) (show rng 0 from by decide)) dX12_begins_22 (fun H locs Wd => ?_)
  refine lv_aload_n C.1 C.2.1 dX12_begins_25 rfl (lv_at hl 0 rfl) ?_
  refine lv_iconst (v := zI 0) C.1 C.2.1 dX12_begins_26 (by decide) ?_
  refine k_putM C Wd 8 (sI (sI (sI (sI (sI (sI I 8 0) 12 0) 13 (-1)) 18 x1) 21 x0) 22 0) (by decide) fl_X12_127 rfl rfl rfl rfl (rsI (rsI (rsI (rsI (rsI (rsI hS.1 (show rng 0 from by decide)) (show rng 0 from by decide)) (show rng (-1) from by decide)) g_x1) g_x0) (show rng 0 from by decide)) dX12_begins_27 (fun H locs Wd => ?_)
  refine lv_aload_n C.1 C.2.1 dX12_begins_30 rfl (lv_at hl 0 rfl) ?_
  refine lv_iconst (v := zI 0) C.1 C.2.1 dX12_begins_31 (by decide) ?_
  refine k_putM C Wd 15 (sI (sI (sI (sI (sI (sI (sI I 8 0) 12 0) 13 (-1)) 15 0) 18 x1) 21 x0) 22 0) (by decide) fl_X12_191 rfl rfl rfl rfl (rsI (rsI (rsI (rsI (rsI (rsI (rsI hS.1 (show rng 0 from by decide)) (show rng 0 from by decide)) (show rng (-1) from by decide)) (show rng 0 from by decide)) g_x1) g_x0) (show rng 0 from by decide)) dX12_begins_32 (fun H locs Wd => ?_)
  refine lv_aload_n C.1 C.2.1 dX12_begins_35 rfl (lv_at hl 0 rfl) ?_
  refine lv_iconst (v := zI 0) C.1 C.2.1 dX12_begins_36 (by decide) ?_
  refine k_putM C Wd 16 (sI (sI (sI (sI (sI (sI (sI (sI I 8 0) 12 0) 13 (-1)) 15 0) 16 0) 18 x1) 21 x0) 22 0) (by decide) fl_X12_197 rfl rfl rfl rfl (rsI (rsI (rsI (rsI (rsI (rsI (rsI (rsI hS.1 (show rng 0 from by decide)) (show rng 0 from by decide)) (show rng (-1) from by decide)) (show rng 0 from by decide)) (show rng 0 from by decide)) g_x1) g_x0) (show rng 0 from by decide)) dX12_begins_37 (fun H locs Wd => ?_)
  refine lv_aload_n C.1 C.2.1 dX12_begins_40 rfl (lv_at hl 0 rfl) ?_
  refine lv_iconst (v := zI 0) C.1 C.2.1 dX12_begins_41 (by decide) ?_
  refine k_putM C Wd 17 (sI (sI (sI (sI (sI (sI (sI (sI (sI I 8 0) 12 0) 13 (-1)) 15 0) 16 0) 17 0) 18 x1) 21 x0) 22 0) (by decide) fl_X12_237 rfl rfl rfl rfl (rsI (rsI (rsI (rsI (rsI (rsI (rsI (rsI (rsI hS.1 (show rng 0 from by decide)) (show rng 0 from by decide)) (show rng (-1) from by decide)) (show rng 0 from by decide)) (show rng 0 from by decide)) (show rng 0 from by decide)) g_x1) g_x0) (show rng 0 from by decide)) dX12_begins_42 (fun H locs Wd => ?_)
  refine lv_aload_n C.1 C.2.1 dX12_begins_45 rfl (lv_at hl 0 rfl) ?_
  refine lv_iconst (v := zI 0) C.1 C.2.1 dX12_begins_46 (by decide) ?_
  refine k_putM C Wd 19 (sI (sI (sI (sI (sI (sI (sI (sI (sI (sI I 8 0) 12 0) 13 (-1)) 15 0) 16 0) 17 0) 18 x1) 19 0) 21 x0) 22 0) (by decide) fl_X12_228 rfl rfl rfl rfl (rsI (rsI (rsI (rsI (rsI (rsI (rsI (rsI (rsI (rsI hS.1 (show rng 0 from by decide)) (show rng 0 from by decide)) (show rng (-1) from by decide)) (show rng 0 from by decide)) (show rng 0 from by decide)) (show rng 0 from by decide)) g_x1) (show rng 0 from by decide)) g_x0) (show rng 0 from by decide)) dX12_begins_47 (fun H locs Wd => ?_)
  refine lv_aload_n C.1 C.2.1 dX12_begins_50 rfl (lv_at hl 0 rfl) ?_
  refine lv_iconst (v := zI 0) C.1 C.2.1 dX12_begins_51 (by decide) ?_
  refine k_putM C Wd 5 (sI (sI (sI (sI (sI (sI (sI (sI (sI (sI (sI I 5 0) 8 0) 12 0) 13 (-1)) 15 0) 16 0) 17 0) 18 x1) 19 0) 21 x0) 22 0) (by decide) fl_X12_117 rfl rfl rfl rfl (rsI (rsI (rsI (rsI (rsI (rsI (rsI (rsI (rsI (rsI (rsI hS.1 (show rng 0 from by decide)) (show rng 0 from by decide)) (show rng 0 from by decide)) (show rng (-1) from by decide)) (show rng 0 from by decide)) (show rng 0 from by decide)) (show rng 0 from by decide)) g_x1) (show rng 0 from by decide)) g_x0) (show rng 0 from by decide)) dX12_begins_52 (fun H locs Wd => ?_)
  refine lv_aload_n C.1 C.2.1 dX12_begins_55 rfl (lv_at hl 0 rfl) ?_
  refine k_cMv Wd (k_runVMS (rest := []) C aks hE Wd cs_X12_188 (mt_next0 D h ad ca (sI (sI (sI (sI (sI (sI (sI (sI (sI (sI (sI I 5 0) 8 0) 12 0) 13 (-1)) 15 0) 16 0) 17 0) 18 x1) 19 0) 21 x0) 22 0) F Wd.2 adK adV tq   _ hw l _) rfl rfl ⟨(Nat.le_of_ble_eq_true rfl), (Nat.le_of_ble_eq_true rfl)⟩ hl.1 rfl rfl (Nat.le_of_ble_eq_true rfl) ⟨(Nat.le_of_ble_eq_true rfl), (Nat.le_of_ble_eq_true rfl)⟩ dX12_begins_56) (fun u56 H locs hw Wd => ?_)
  obtain ⟨at0_r56, token_r56, tokenAt_r56, value_r56⟩ := u56
  dsimp only at hw
  have Wc56 := Wd
  have Wd : wXM D ca s h ad (sI (sI (sI (sI (sI (sI (sI (sI (sI (sI (sI (sI (sI (sI I 5 0) 8 at0_r56) 9 token_r56) 10 tokenAt_r56) 11 value_r56) 12 0) 13 (-1)) 15 0) 16 0) 17 0) 18 x1) 19 0) 21 x0) 22 0) F H A s.heap locs := wMc Wd rfl rfl ⟨(rsI (rsI (rsI (rsI (rsI (rsI (rsI (rsI (rsI (rsI (rsI (rsI (rsI (rsI hS.1 (show rng 0 from by decide)) (Wc56.2.1 8)) (Wc56.2.1 9)) (Wc56.2.1 10)) (Wc56.2.1 11)) (show rng 0 from by decide)) (show rng (-1) from by decide)) (show rng 0 from by decide)) (show rng 0 from by decide)) (show rng 0 from by decide)) g_x1) (show rng 0 from by decide)) g_x0) (show rng 0 from by decide)), hS.2⟩
  exact k_retMv C hr hlk Wd (u := (0, at0_r56, token_r56, tokenAt_r56, value_r56, 0, (-1), 0, 0, 0, x1, 0, x0, 0)) rfl rfl ⟨hw, ⟨(rsI (rsI (rsI (rsI (rsI (rsI (rsI (rsI (rsI (rsI (rsI (rsI (rsI (rsI hS.1 (show rng 0 from by decide)) (Wc56.2.1 8)) (Wc56.2.1 9)) (Wc56.2.1 10)) (Wc56.2.1 11)) (show rng 0 from by decide)) (show rng (-1) from by decide)) (show rng 0 from by decide)) (show rng 0 from by decide)) (show rng 0 from by decide)) g_x1) (show rng 0 from by decide)) g_x0) (show rng 0 from by decide)), hS.2⟩⟩ dX12_begins_59
set_option maxHeartbeats 4000000 in
set_option maxRecDepth 100000 in
theorem mt_ends : ∀ (D : va_G) (h : Nat) (ad : Nat → Nat) (ca : Nat → ClassId) (I : Nat → Int) (F : Nat → Int → Int) (hS : rngS I F) (K : Int → Int → Int → Prop) (hw : wp_ends (I 7) (I 12) (I 13) (I 14) (I 20) K) (l : Launch) (sz : Nat), Met l yX12_ends (Cond.code yX12_ends cX12_ends 1 none :: gG) { frames := 1, cells := 0, slots := 0, locals := 64 } (cPre D (tM ca) (wM h ad ca I F) sz [.ref h]) (va_Qv (fun (u : (Int) × (Int) × (Int)) => K u.1 u.2.1 u.2.2 ∧ rngS (sI (sI (sI I 7 u.1) 14 u.2.1) 20 u.2.2) F) (fun u t => cB D (va_A (wM h ad ca I F) sz) [] (wM h ad ca (sI (sI (sI I 7 u.1) 14 u.2.1) 20 u.2.2) F) t) (va_A (wM h ad ca I F) sz)) 0 0 (va_A (wM h ad ca I F) sz) := by
  intro D h ad ca I F hS  K hw l sz
  refine Met.ofW (cc := cX12_ends) (maxL := 1) (ret := none) (by decide) rfl ?_
  intro p e s m args below meth c s₁ B hml hv
  obtain ⟨rfl, aks, rfl, Wd⟩ := k_enter hv
  have C : CallFix p m c cX12_ends 1 s _ gG RX12 := ⟨B.exec, B.bytes, hml, findClass_of_methodNamed B.named, fun w h => atoms_spec (ws := Cond.code yX12_ends cX12_ends 1 none :: gG) B.pre w (List.mem_cons_of_mem _ h)⟩
  have hr := B.returns
  have hlk := B.notSynchronized
  generalize va_A (wM h ad ca I F) s.heap.size = A at Wd ⊢
  replace Wd : wXM D ca s h ad I F s.heap A s.heap [] := ⟨Wd, hS⟩
  refine k_locals (Nat.le_of_ble_eq_true rfl) [(0, .ref h)] rfl (fun ls hl => ?_)
  unfold wp_ends at hw
  refine lv_aload_n C.1 C.2.1 dX12_ends_0 rfl (lv_at hl 0 rfl) ?_
  refine lv_iconst (v := zI 0) C.1 C.2.1 dX12_ends_1 (by decide) ?_
  refine k_putM C Wd 7 (sI I 7 0) (by decide) fl_X12_124 rfl rfl rfl rfl (rsI hS.1 (show rng 0 from by decide)) dX12_ends_2 (fun H locs Wd => ?_)
  refine lv_aload_n C.1 C.2.1 dX12_ends_5 rfl (lv_at hl 0 rfl) ?_
  refine lv_aload_n C.1 C.2.1 dX12_ends_6 rfl (lv_at hl 0 rfl) ?_
  refine k_get (v := .int (zI (I 12))) C Wd.1 KX12 0 12 wM0 (by decide) fl_X12_179 rfl dX12_ends_7 ?_
  refine k_putM C Wd 14 (sI (sI I 7 0) 14 (I 12)) (by decide) fl_X12_246 rfl rfl rfl rfl (rsI (rsI hS.1 (show rng 0 from by decide)) (hS.1 12)) dX12_ends_10 (fun H locs Wd => ?_)
  refine lv_aload_n C.1 C.2.1 dX12_ends_13 rfl (lv_at hl 0 rfl) ?_
  refine lv_aload_n C.1 C.2.1 dX12_ends_14 rfl (lv_at hl 0 rfl) ?_
  refine k_get (v := .int (zI (I 12))) C Wd.1 KX12 0 12 wM0 (by decide) fl_X12_179 rfl dX12_ends_15 ?_
  refine lv_if_ne (tgt := 25) C.1 C.2.1 dX12_ends_18 (by decide) (fun c18 => ?_) (fun c18 => ?_)
  · have hw := hw.1 (z0_ne (hS.1 12) c18)
    refine lv_aload_n C.1 C.2.1 dX12_ends_25 rfl (lv_at hl 0 rfl) ?_
    refine k_get (v := .int (zI (I 13))) C Wd.1 KX12 0 13 wM0 (by decide) fl_X12_182 rfl dX12_ends_26 ?_
    refine k_putM C Wd 20 (sI (sI (sI I 7 0) 14 (I 12)) 20 (I 13)) (by decide) fl_X12_25 rfl rfl rfl rfl (rsI (rsI (rsI hS.1 (show rng 0 from by decide)) (hS.1 12)) (hS.1 13)) dX12_ends_29 (fun H locs Wd => ?_)
    exact k_retMv C hr hlk Wd (u := (0, (I 12), (I 13))) rfl rfl ⟨hw, ⟨(rsI (rsI (rsI hS.1 (show rng 0 from by decide)) (hS.1 12)) (hS.1 13)), hS.2⟩⟩ dX12_ends_32
  · have hw := hw.2 (z0_eq (hS.1 12) c18)
    refine lv_iconst (v := zI (-1)) C.1 C.2.1 dX12_ends_21 (by decide) ?_
    refine lv_goto (tgt := 29) C.1 C.2.1 dX12_ends_22 (by decide) ?_
    refine k_putM C Wd 20 (sI (sI (sI I 7 0) 14 (I 12)) 20 (-1)) (by decide) fl_X12_25 rfl rfl rfl rfl (rsI (rsI (rsI hS.1 (show rng 0 from by decide)) (hS.1 12)) (show rng (-1) from by decide)) dX12_ends_29 (fun H locs Wd => ?_)
    exact k_retMv C hr hlk Wd (u := (0, (I 12), (-1))) rfl rfl ⟨hw, ⟨(rsI (rsI (rsI hS.1 (show rng 0 from by decide)) (hS.1 12)) (show rng (-1) from by decide)), hS.2⟩⟩ dX12_ends_32
set_option maxHeartbeats 4000000 in
set_option maxRecDepth 100000 in
theorem mt_program : ∀ (D : va_G) (h : Nat) (ad : Nat → Nat) (ca : Nat → ClassId) (I : Nat → Int) (F : Nat → Int → Int) (hS : rngS I F) (adK adV : Nat → Nat) (tq : Nat) (x0 : Int) (g_x0 : rng x0) (K : Int → (Int → Int) → (Int → Int) → (Int → Int) → (Int → Int) → Int → Int → Int → Int → Int → Int → Int → Int → Int → Int → Int → Int → Int → Int → Int → Int → Int → Int → Prop) (hw : wp_program (F 0) (F 1) (F 2) (F 3) (I 4) (I 5) (F 6) (I 7) (I 8) (I 9) (I 10) (I 11) (I 12) (I 13) (I 14) (I 15) (I 16) (I 17) (I 18) (I 19) (I 20) (I 21) (I 22) x0 K) (l : Launch) (sz : Nat), Met l yX12_program (Cond.code yX12_program cX12_program 3 (some .int) :: gG) { frames := 215, cells := 0, slots := 0, locals := 4954 } (cPS RX12 ixM adK adV tq D (tM ca) (wM h ad ca I F) sz [.ref h, .int (zI x0)]) (va_Qi (fun (r : Int32) (u : (Int → Int) × (Int → Int) × (Int → Int) × (Int → Int) × (Int) × (Int) × (Int) × (Int) × (Int) × (Int) × (Int) × (Int) × (Int) × (Int) × (Int) × (Int) × (Int) × (Int) × (Int) × (Int) × (Int) × (Int)) => (∃ x : Int, r = zI x ∧ rng x ∧ K x u.1 u.2.1 u.2.2.1 u.2.2.2.1 u.2.2.2.2.1 u.2.2.2.2.2.1 u.2.2.2.2.2.2.1 u.2.2.2.2.2.2.2.1 u.2.2.2.2.2.2.2.2.1 u.2.2.2.2.2.2.2.2.2.1 u.2.2.2.2.2.2.2.2.2.2.1 u.2.2.2.2.2.2.2.2.2.2.2.1 u.2.2.2.2.2.2.2.2.2.2.2.2.1 u.2.2.2.2.2.2.2.2.2.2.2.2.2.1 u.2.2.2.2.2.2.2.2.2.2.2.2.2.2.1 u.2.2.2.2.2.2.2.2.2.2.2.2.2.2.2.1 u.2.2.2.2.2.2.2.2.2.2.2.2.2.2.2.2.1 u.2.2.2.2.2.2.2.2.2.2.2.2.2.2.2.2.2.1 u.2.2.2.2.2.2.2.2.2.2.2.2.2.2.2.2.2.2.1 u.2.2.2.2.2.2.2.2.2.2.2.2.2.2.2.2.2.2.2.1 u.2.2.2.2.2.2.2.2.2.2.2.2.2.2.2.2.2.2.2.2.1 u.2.2.2.2.2.2.2.2.2.2.2.2.2.2.2.2.2.2.2.2.2) ∧ rngS (sI (sI (sI (sI (sI (sI (sI (sI (sI (sI (sI (sI (sI (sI (sI (sI (sI (sI I 4 u.2.2.2.2.1) 5 u.2.2.2.2.2.1) 7 u.2.2.2.2.2.2.1) 8 u.2.2.2.2.2.2.2.1) 9 u.2.2.2.2.2.2.2.2.1) 10 u.2.2.2.2.2.2.2.2.2.1) 11 u.2.2.2.2.2.2.2.2.2.2.1) 12 u.2.2.2.2.2.2.2.2.2.2.2.1) 13 u.2.2.2.2.2.2.2.2.2.2.2.2.1) 14 u.2.2.2.2.2.2.2.2.2.2.2.2.2.1) 15 u.2.2.2.2.2.2.2.2.2.2.2.2.2.2.1) 16 u.2.2.2.2.2.2.2.2.2.2.2.2.2.2.2.1) 17 u.2.2.2.2.2.2.2.2.2.2.2.2.2.2.2.2.1) 18 u.2.2.2.2.2.2.2.2.2.2.2.2.2.2.2.2.2.1) 19 u.2.2.2.2.2.2.2.2.2.2.2.2.2.2.2.2.2.2.1) 20 u.2.2.2.2.2.2.2.2.2.2.2.2.2.2.2.2.2.2.2.1) 21 u.2.2.2.2.2.2.2.2.2.2.2.2.2.2.2.2.2.2.2.2.1) 22 u.2.2.2.2.2.2.2.2.2.2.2.2.2.2.2.2.2.2.2.2.2) (sF (sF (sF (sF F 0 u.1) 1 u.2.1) 2 u.2.2.1) 3 u.2.2.2.1)) (fun u t => cB D (va_A (wM h ad ca I F) sz) [] (wM h ad ca (sI (sI (sI (sI (sI (sI (sI (sI (sI (sI (sI (sI (sI (sI (sI (sI (sI (sI I 4 u.2.2.2.2.1) 5 u.2.2.2.2.2.1) 7 u.2.2.2.2.2.2.1) 8 u.2.2.2.2.2.2.2.1) 9 u.2.2.2.2.2.2.2.2.1) 10 u.2.2.2.2.2.2.2.2.2.1) 11 u.2.2.2.2.2.2.2.2.2.2.1) 12 u.2.2.2.2.2.2.2.2.2.2.2.1) 13 u.2.2.2.2.2.2.2.2.2.2.2.2.1) 14 u.2.2.2.2.2.2.2.2.2.2.2.2.2.1) 15 u.2.2.2.2.2.2.2.2.2.2.2.2.2.2.1) 16 u.2.2.2.2.2.2.2.2.2.2.2.2.2.2.2.1) 17 u.2.2.2.2.2.2.2.2.2.2.2.2.2.2.2.2.1) 18 u.2.2.2.2.2.2.2.2.2.2.2.2.2.2.2.2.2.1) 19 u.2.2.2.2.2.2.2.2.2.2.2.2.2.2.2.2.2.2.1) 20 u.2.2.2.2.2.2.2.2.2.2.2.2.2.2.2.2.2.2.2.1) 21 u.2.2.2.2.2.2.2.2.2.2.2.2.2.2.2.2.2.2.2.2.1) 22 u.2.2.2.2.2.2.2.2.2.2.2.2.2.2.2.2.2.2.2.2.2) (sF (sF (sF (sF F 0 u.1) 1 u.2.1) 2 u.2.2.1) 3 u.2.2.2.1)) t) (va_A (wM h ad ca I F) sz)) 0 0 (va_A (wM h ad ca I F) sz) := by
  intro D h ad ca I F hS adK adV tq x0 g_x0 K hw l sz
  refine Met.ofW (cc := cX12_program) (maxL := 3) (ret := (some .int)) (by decide) rfl ?_
  intro p e s m args below meth c s₁ B hml hv
  obtain ⟨hv, hE⟩ := hv
  obtain ⟨rfl, aks, rfl, Wd⟩ := k_enter hv
  have C : CallFix p m c cX12_program 3 s _ gG RX12 := ⟨B.exec, B.bytes, hml, findClass_of_methodNamed B.named, fun w h => atoms_spec (ws := Cond.code yX12_program cX12_program 3 (some .int) :: gG) B.pre w (List.mem_cons_of_mem _ h)⟩
  have hr := B.returns
  have hlk := B.notSynchronized
  generalize va_A (wM h ad ca I F) s.heap.size = A at Wd hE ⊢
  replace Wd : wXM D ca s h ad I F s.heap A s.heap [] := ⟨Wd, hS⟩
  refine k_locals (Nat.le_of_ble_eq_true rfl) [(0, .ref h), (1, .int (zI x0))] rfl (fun ls hl => ?_)
  unfold wp_program at hw
  refine lv_aload_n C.1 C.2.1 dX12_program_0 rfl (lv_at hl 0 rfl) ?_
  refine lv_iconst (v := zI 0) C.1 C.2.1 dX12_program_1 (by decide) ?_
  refine k_putM C Wd 12 (sI I 12 0) (by decide) fl_X12_179 rfl rfl rfl rfl (rsI hS.1 (show rng 0 from by decide)) dX12_program_2 (fun H locs Wd => ?_)
  refine lv_iload_n C.1 C.2.1 dX12_program_5 rfl (lv_at hl 1 rfl) ?_
  refine k_pi (k_runS (rest := []) C aks Wd.1 cs_X12_249 (mt_isSlot D x0 g_x0 _ hw l _) [] rfl (by decide) [] rfl rfl rfl ⟨(Nat.le_of_ble_eq_true rfl), (Nat.le_of_ble_eq_true rfl)⟩ hl.1 rfl rfl (Nat.le_of_ble_eq_true rfl) ⟨(Nat.le_of_ble_eq_true rfl), (Nat.le_of_ble_eq_true rfl)⟩ dX12_program_6) (fun y6 hy => ?_)
  obtain ⟨r6, rfl, g_r6, hw⟩ := hy
  refine lv_if_ne (tgt := 18) C.1 C.2.1 dX12_program_9 (by decide) (fun c9 => ?_) (fun c9 => ?_)
  · have hw := hw.1 (z0_ne g_r6 c9)
    refine lv_aload_n C.1 C.2.1 dX12_program_18 rfl (lv_at hl 0 rfl) ?_
    refine lv_iconst (v := zI 0) C.1 C.2.1 dX12_program_19 (by decide) ?_
    refine lv_sipush (v := zI 300) C.1 C.2.1 dX12_program_20 (zS (by decide) (by decide)) ?_
    refine k_cMv Wd (k_runVMS (rest := []) C aks hE Wd cs_X12_255 (mt_begins D h ad ca (sI I 12 0) F Wd.2 adK adV tq 0 300 (show rng 0 from by decide) (show rng 300 from by decide) _ hw l _) rfl rfl ⟨(Nat.le_of_ble_eq_true rfl), (Nat.le_of_ble_eq_true rfl)⟩ hl.1 rfl rfl (Nat.le_of_ble_eq_true rfl) ⟨(Nat.le_of_ble_eq_true rfl), (Nat.le_of_ble_eq_true rfl)⟩ dX12_program_23) (fun u23 H locs hw Wd => ?_)
    obtain ⟨made_r23, at0_r23, token_r23, tokenAt_r23, value_r23, wrong_r23, wrongAt_r23, depth_r23, countParts_r23, countStatements_r23, partsMost_r23, leftLetters_r23, isRule_r23, isRight_r23⟩ := u23
    dsimp only at hw
    have Wc23 := Wd
    have Wd : wXM D ca s h ad (sI (sI (sI (sI (sI (sI (sI (sI (sI (sI (sI (sI (sI (sI I 5 made_r23) 8 at0_r23) 9 token_r23) 10 tokenAt_r23) 11 value_r23) 12 wrong_r23) 13 wrongAt_r23) 15 depth_r23) 16 countParts_r23) 17 countStatements_r23) 18 partsMost_r23) 19 leftLetters_r23) 21 isRule_r23) 22 isRight_r23) F H A s.heap locs := wMc Wd rfl rfl ⟨(rsI (rsI (rsI (rsI (rsI (rsI (rsI (rsI (rsI (rsI (rsI (rsI (rsI (rsI hS.1 (Wc23.2.1 5)) (Wc23.2.1 8)) (Wc23.2.1 9)) (Wc23.2.1 10)) (Wc23.2.1 11)) (Wc23.2.1 12)) (Wc23.2.1 13)) (Wc23.2.1 15)) (Wc23.2.1 16)) (Wc23.2.1 17)) (Wc23.2.1 18)) (Wc23.2.1 19)) (Wc23.2.1 21)) (Wc23.2.1 22)), hS.2⟩
    refine lv_iconst (v := zI 1) C.1 C.2.1 dX12_program_26 (by decide) ?_
    refine lv_istore_n (lv' := [(2, .int (zI 1)), (0, .ref h), (1, .int (zI x0))]) C.1 C.2.1 dX12_program_27 rfl hl (by decide) rfl (fun ls hl => ?_)
    replace hl := lv_sub hl [1, 2, 0] rfl
    refine k_lp13 hw (fun (l2_28 : Int) (fresh_28 : Int → Int) (made_28 : Int) (at0_28 : Int) (token_28 : Int) (tokenAt_28 : Int) (value_28 : Int) (wrong_28 : Int) (wrongAt_28 : Int) (depth_28 : Int) (countParts_28 : Int) (countStatements_28 : Int) (leftLetters_28 : Int) H locs ls => rng l2_28 ∧ wXM D ca s h ad (sI (sI (sI (sI (sI (sI (sI (sI (sI (sI (sI (sI (sI (sI I 5 made_28) 8 at0_28) 9 token_28) 10 tokenAt_28) 11 value_28) 12 wrong_28) 13 wrongAt_28) 15 depth_28) 16 countParts_28) 17 countStatements_28) 18 partsMost_r23) 19 leftLetters_28) 21 isRule_r23) 22 isRight_r23) (sF F 3 fresh_28) H A s.heap locs ∧ lv_has ls 3 [(0, .ref h), (1, .int (zI x0)), (2, .int (zI l2_28))]) (fun (l2_28 : Int) (fresh_28 : Int → Int) (made_28 : Int) (at0_28 : Int) (token_28 : Int) (tokenAt_28 : Int) (value_28 : Int) (wrong_28 : Int) (wrongAt_28 : Int) (depth_28 : Int) (countParts_28 : Int) (countStatements_28 : Int) (leftLetters_28 : Int) ls => F0 m 28 ls []) (fun L28 hL28 l2_28 fresh_28 made_28 at0_28 token_28 tokenAt_28 value_28 wrong_28 wrongAt_28 depth_28 countParts_28 countStatements_28 leftLetters_28 hw H locs ls hi => ?_) _ _ _ ⟨(show rng 1 from by decide), wMc Wd rfl rfl ⟨(rsI (rsI (rsI (rsI (rsI (rsI (rsI (rsI (rsI (rsI (rsI (rsI (rsI (rsI hS.1 (Wc23.2.1 5)) (Wc23.2.1 8)) (Wc23.2.1 9)) (Wc23.2.1 10)) (Wc23.2.1 11)) (Wc23.2.1 12)) (Wc23.2.1 13)) (Wc23.2.1 15)) (Wc23.2.1 16)) (Wc23.2.1 17)) (Wc23.2.1 18)) (Wc23.2.1 19)) (Wc23.2.1 21)) (Wc23.2.1 22)), (rsF hS.2 (hS.2 3))⟩, lv_sub hl [0, 1, 2] rfl⟩
    obtain ⟨g_l2_28, Wd, hl⟩ := hi
    have Wd28 := Wd
    unfold wp_program_28 at hw
    refine lv_iload_n C.1 C.2.1 dX12_program_28 rfl (lv_at hl 2 rfl) ?_
    refine k_cut0 (fun  H locs ls => wp_program_47 K (F 0) (F 1) (F 2) (I 4) (I 7) (I 14) (I 20) x0 at0_28 countParts_28 countStatements_28 depth_28 fresh_28 isRight_r23 isRule_r23 l2_28 leftLetters_28 made_28 partsMost_r23 tokenAt_28 token_28 value_28 wrongAt_28 wrong_28 ∧ wXM D ca s h ad (sI (sI (sI (sI (sI (sI (sI (sI (sI (sI (sI (sI (sI (sI I 5 made_28) 8 at0_28) 9 token_28) 10 tokenAt_28) 11 value_28) 12 wrong_28) 13 wrongAt_28) 15 depth_28) 16 countParts_28) 17 countStatements_28) 18 partsMost_r23) 19 leftLetters_28) 21 isRule_r23) 22 isRight_r23) (sF F 3 fresh_28) H A s.heap locs ∧ lv_has ls 3 [(0, .ref h), (1, .int (zI x0)), (2, .int (zI l2_28))]) (fun  ls => F0 m 47 ls []) (fun  H locs ls hi => ?_) (fun J47 => ?_)
    · obtain ⟨hw, Wd, hl⟩ := hi
      have Wd47 := Wd
      unfold wp_program_47 at hw
      refine lv_aload_n C.1 C.2.1 dX12_program_47 rfl (lv_at hl 0 rfl) ?_
      refine k_cMv Wd (k_runVM (rest := []) C aks Wd cs_X12_252 (mt_ends D h ad ca (sI (sI (sI (sI (sI (sI (sI (sI (sI (sI (sI (sI (sI (sI I 5 made_28) 8 at0_28) 9 token_28) 10 tokenAt_28) 11 value_28) 12 wrong_28) 13 wrongAt_28) 15 depth_28) 16 countParts_28) 17 countStatements_28) 18 partsMost_r23) 19 leftLetters_28) 21 isRule_r23) 22 isRight_r23) (sF F 3 fresh_28) Wd.2   _ hw l _) rfl rfl ⟨(Nat.le_of_ble_eq_true rfl), (Nat.le_of_ble_eq_true rfl)⟩ hl.1 rfl rfl (Nat.le_of_ble_eq_true rfl) ⟨(Nat.le_of_ble_eq_true rfl), (Nat.le_of_ble_eq_true rfl)⟩ dX12_program_48) (fun u48 H locs hw Wd => ?_)
      obtain ⟨taped_r48, faultKind_r48, faultPlace_r48⟩ := u48
      dsimp only at hw
      have Wc48 := Wd
      have Wd : wXM D ca s h ad (sI (sI (sI (sI (sI (sI (sI (sI (sI (sI (sI (sI (sI (sI (sI (sI (sI I 5 made_28) 7 taped_r48) 8 at0_28) 9 token_28) 10 tokenAt_28) 11 value_28) 12 wrong_28) 13 wrongAt_28) 14 faultKind_r48) 15 depth_28) 16 countParts_28) 17 countStatements_28) 18 partsMost_r23) 19 leftLetters_28) 20 faultPlace_r48) 21 isRule_r23) 22 isRight_r23) (sF F 3 fresh_28) H A s.heap locs := wMc Wd rfl rfl ⟨(rsI (rsI (rsI (rsI (rsI (rsI (rsI (rsI (rsI (rsI (rsI (rsI (rsI (rsI (rsI (rsI (rsI hS.1 (Wd28.2.1 5)) (Wc48.2.1 7)) (Wd28.2.1 8)) (Wd28.2.1 9)) (Wd28.2.1 10)) (Wd28.2.1 11)) (Wd28.2.1 12)) (Wd28.2.1 13)) (Wc48.2.1 14)) (Wd28.2.1 15)) (Wd28.2.1 16)) (Wd28.2.1 17)) (Wc23.2.1 18)) (Wd28.2.1 19)) (Wc48.2.1 20)) (Wc23.2.1 21)) (Wc23.2.1 22)), (rsF hS.2 (fun j => Wd28.2.2 3 j))⟩
      refine lv_iload_n C.1 C.2.1 dX12_program_51 rfl (lv_at hl 2 rfl) ?_
      refine lv_if_ne (tgt := 57) C.1 C.2.1 dX12_program_52 (by decide) (fun c52 => ?_) (fun c52 => ?_)
      · have hw := hw.1 (z0_ne g_l2_28 c52)
        refine lv_aload_n C.1 C.2.1 dX12_program_57 rfl (lv_at hl 0 rfl) ?_
        refine k_cMv Wd (k_runVM (rest := []) C aks Wd cs_X12_259 (mt_turns D h ad ca (sI (sI (sI (sI (sI (sI (sI (sI (sI (sI (sI (sI (sI (sI (sI (sI (sI I 5 made_28) 7 taped_r48) 8 at0_28) 9 token_28) 10 tokenAt_28) 11 value_28) 12 wrong_28) 13 wrongAt_28) 14 faultKind_r48) 15 depth_28) 16 countParts_28) 17 countStatements_28) 18 partsMost_r23) 19 leftLetters_28) 20 faultPlace_r48) 21 isRule_r23) 22 isRight_r23) (sF F 3 fresh_28) Wd.2   _ hw l _) rfl rfl ⟨(Nat.le_of_ble_eq_true rfl), (Nat.le_of_ble_eq_true rfl)⟩ hl.1 rfl rfl (Nat.le_of_ble_eq_true rfl) ⟨(Nat.le_of_ble_eq_true rfl), (Nat.le_of_ble_eq_true rfl)⟩ dX12_program_58) (fun u58 H locs hw Wd => ?_)
        obtain ⟨row_r58, many_r58, made_r58⟩ := u58
        dsimp only at hw
        have Wc58 := Wd
        have Wd : wXM D ca s h ad (sI (sI (sI (sI (sI (sI (sI (sI (sI (sI (sI (sI (sI (sI (sI (sI (sI (sI I 4 many_r58) 5 made_r58) 7 taped_r48) 8 at0_28) 9 token_28) 10 tokenAt_28) 11 value_28) 12 wrong_28) 13 wrongAt_28) 14 faultKind_r48) 15 depth_28) 16 countParts_28) 17 countStatements_28) 18 partsMost_r23) 19 leftLetters_28) 20 faultPlace_r48) 21 isRule_r23) 22 isRight_r23) (sF (sF F 2 row_r58) 3 fresh_28) H A s.heap locs := wMc Wd rfl rfl ⟨(rsI (rsI (rsI (rsI (rsI (rsI (rsI (rsI (rsI (rsI (rsI (rsI (rsI (rsI (rsI (rsI (rsI (rsI hS.1 (Wc58.2.1 4)) (Wc58.2.1 5)) (Wc48.2.1 7)) (Wd28.2.1 8)) (Wd28.2.1 9)) (Wd28.2.1 10)) (Wd28.2.1 11)) (Wd28.2.1 12)) (Wd28.2.1 13)) (Wc48.2.1 14)) (Wd28.2.1 15)) (Wd28.2.1 16)) (Wd28.2.1 17)) (Wc23.2.1 18)) (Wd28.2.1 19)) (Wc48.2.1 20)) (Wc23.2.1 21)) (Wc23.2.1 22)), (rsF (rsF hS.2 (fun j => Wc58.2.2 2 j)) (fun j => Wd28.2.2 3 j))⟩
        refine lv_aload_n C.1 C.2.1 dX12_program_61 rfl (lv_at hl 0 rfl) ?_
        refine lv_iload_n C.1 C.2.1 dX12_program_62 rfl (lv_at hl 1 rfl) ?_
        refine k_cMv Wd (k_runVM (rest := []) C aks Wd cs_X12_262 (mt_puts D h ad ca (sI (sI (sI (sI (sI (sI (sI (sI (sI (sI (sI (sI (sI (sI (sI (sI (sI (sI I 4 many_r58) 5 made_r58) 7 taped_r48) 8 at0_28) 9 token_28) 10 tokenAt_28) 11 value_28) 12 wrong_28) 13 wrongAt_28) 14 faultKind_r48) 15 depth_28) 16 countParts_28) 17 countStatements_28) 18 partsMost_r23) 19 leftLetters_28) 20 faultPlace_r48) 21 isRule_r23) 22 isRight_r23) (sF (sF F 2 row_r58) 3 fresh_28) Wd.2 x0 g_x0 _ hw l _) rfl rfl ⟨(Nat.le_of_ble_eq_true rfl), (Nat.le_of_ble_eq_true rfl)⟩ hl.1 rfl rfl (Nat.le_of_ble_eq_true rfl) ⟨(Nat.le_of_ble_eq_true rfl), (Nat.le_of_ble_eq_true rfl)⟩ dX12_program_63) (fun u63 H locs hw Wd => ?_)
        obtain ⟨slot_r63, slotLong_r63⟩ := u63
        dsimp only at hw
        have Wc63 := Wd
        have Wd : wXM D ca s h ad (sI (sI (sI (sI (sI (sI (sI (sI (sI (sI (sI (sI (sI (sI (sI (sI (sI (sI I 4 many_r58) 5 made_r58) 7 taped_r48) 8 at0_28) 9 token_28) 10 tokenAt_28) 11 value_28) 12 wrong_28) 13 wrongAt_28) 14 faultKind_r48) 15 depth_28) 16 countParts_28) 17 countStatements_28) 18 partsMost_r23) 19 leftLetters_28) 20 faultPlace_r48) 21 isRule_r23) 22 isRight_r23) (sF (sF (sF (sF F 0 slot_r63) 1 slotLong_r63) 2 row_r58) 3 fresh_28) H A s.heap locs := wMc Wd rfl rfl ⟨(rsI (rsI (rsI (rsI (rsI (rsI (rsI (rsI (rsI (rsI (rsI (rsI (rsI (rsI (rsI (rsI (rsI (rsI hS.1 (Wc58.2.1 4)) (Wc58.2.1 5)) (Wc48.2.1 7)) (Wd28.2.1 8)) (Wd28.2.1 9)) (Wd28.2.1 10)) (Wd28.2.1 11)) (Wd28.2.1 12)) (Wd28.2.1 13)) (Wc48.2.1 14)) (Wd28.2.1 15)) (Wd28.2.1 16)) (Wd28.2.1 17)) (Wc23.2.1 18)) (Wd28.2.1 19)) (Wc48.2.1 20)) (Wc23.2.1 21)) (Wc23.2.1 22)), (rsF (rsF (rsF (rsF hS.2 (fun j => Wc63.2.2 0 j)) (fun j => Wc63.2.2 1 j)) (fun j => Wc58.2.2 2 j)) (fun j => Wd28.2.2 3 j))⟩
        refine lv_aload_n C.1 C.2.1 dX12_program_66 rfl (lv_at hl 0 rfl) ?_
        refine k_pi (k_runVM (rest := []) C aks Wd cs_X12_265 (mt_statements D h ad ca (sI (sI (sI (sI (sI (sI (sI (sI (sI (sI (sI (sI (sI (sI (sI (sI (sI (sI I 4 many_r58) 5 made_r58) 7 taped_r48) 8 at0_28) 9 token_28) 10 tokenAt_28) 11 value_28) 12 wrong_28) 13 wrongAt_28) 14 faultKind_r48) 15 depth_28) 16 countParts_28) 17 countStatements_28) 18 partsMost_r23) 19 leftLetters_28) 20 faultPlace_r48) 21 isRule_r23) 22 isRight_r23) (sF (sF (sF (sF F 0 slot_r63) 1 slotLong_r63) 2 row_r58) 3 fresh_28) Wd.2   _ hw l _) rfl rfl ⟨(Nat.le_of_ble_eq_true rfl), (Nat.le_of_ble_eq_true rfl)⟩ hl.1 rfl rfl (Nat.le_of_ble_eq_true rfl) ⟨(Nat.le_of_ble_eq_true rfl), (Nat.le_of_ble_eq_true rfl)⟩ dX12_program_67) (fun y67 hy => ?_)
        obtain ⟨r67, rfl, g_r67, hw⟩ := hy
        exact k_retMi C hr hlk rfl Wd (u := (slot_r63, slotLong_r63, row_r58, fresh_28, many_r58, made_r58, taped_r48, at0_28, token_28, tokenAt_28, value_28, wrong_28, wrongAt_28, faultKind_r48, depth_28, countParts_28, countStatements_28, partsMost_r23, leftLetters_28, faultPlace_r48, isRule_r23, isRight_r23)) rfl rfl ⟨⟨_, rfl, g_r67, hw⟩, ⟨(rsI (rsI (rsI (rsI (rsI (rsI (rsI (rsI (rsI (rsI (rsI (rsI (rsI (rsI (rsI (rsI (rsI (rsI hS.1 (Wc58.2.1 4)) (Wc58.2.1 5)) (Wc48.2.1 7)) (Wd28.2.1 8)) (Wd28.2.1 9)) (Wd28.2.1 10)) (Wd28.2.1 11)) (Wd28.2.1 12)) (Wd28.2.1 13)) (Wc48.2.1 14)) (Wd28.2.1 15)) (Wd28.2.1 16)) (Wd28.2.1 17)) (Wc23.2.1 18)) (Wd28.2.1 19)) (Wc48.2.1 20)) (Wc23.2.1 21)) (Wc23.2.1 22)), (rsF (rsF (rsF (rsF hS.2 (fun j => Wc63.2.2 0 j)) (fun j => Wc63.2.2 1 j)) (fun j => Wc58.2.2 2 j)) (fun j => Wd28.2.2 3 j))⟩⟩ dX12_program_70
      · have hw := hw.2 (z0_eq g_l2_28 c52)
        refine lv_iconst (v := zI (-1)) C.1 C.2.1 dX12_program_55 (by decide) ?_
        exact k_retMi C hr hlk rfl Wd (u := ((F 0), (F 1), (F 2), fresh_28, (I 4), made_28, taped_r48, at0_28, token_28, tokenAt_28, value_28, wrong_28, wrongAt_28, faultKind_r48, depth_28, countParts_28, countStatements_28, partsMost_r23, leftLetters_28, faultPlace_r48, isRule_r23, isRight_r23)) rfl rfl ⟨⟨_, rfl, (show rng (-1) from by decide), hw⟩, ⟨(rsI (rsI (rsI (rsI (rsI (rsI (rsI (rsI (rsI (rsI (rsI (rsI (rsI (rsI (rsI (rsI (rsI (rsI hS.1 (hS.1 4)) (Wd28.2.1 5)) (Wc48.2.1 7)) (Wd28.2.1 8)) (Wd28.2.1 9)) (Wd28.2.1 10)) (Wd28.2.1 11)) (Wd28.2.1 12)) (Wd28.2.1 13)) (Wc48.2.1 14)) (Wd28.2.1 15)) (Wd28.2.1 16)) (Wd28.2.1 17)) (Wc23.2.1 18)) (Wd28.2.1 19)) (Wc48.2.1 20)) (Wc23.2.1 21)) (Wc23.2.1 22)), (rsF (rsF (rsF (rsF hS.2 (hS.2 0)) (hS.2 1)) (hS.2 2)) (fun j => Wd28.2.2 3 j))⟩⟩ dX12_program_56
    refine lv_if_eq (tgt := 47) C.1 C.2.1 dX12_program_29 (by decide) (fun c29 => ?_) (fun c29 => ?_)
    · have hw := hw.1 (z0_eq g_l2_28 c29)
      exact J47  _ _ _ ⟨hw, wMc Wd rfl rfl ⟨(rsI (rsI (rsI (rsI (rsI (rsI (rsI (rsI (rsI (rsI (rsI (rsI (rsI (rsI hS.1 (Wd28.2.1 5)) (Wd28.2.1 8)) (Wd28.2.1 9)) (Wd28.2.1 10)) (Wd28.2.1 11)) (Wd28.2.1 12)) (Wd28.2.1 13)) (Wd28.2.1 15)) (Wd28.2.1 16)) (Wd28.2.1 17)) (Wc23.2.1 18)) (Wd28.2.1 19)) (Wc23.2.1 21)) (Wc23.2.1 22)), (rsF hS.2 (fun j => Wd28.2.2 3 j))⟩, lv_sub hl [0, 1, 2] rfl⟩
    · have hw := hw.2 (z0_ne g_l2_28 c29)
      refine lv_aload_n C.1 C.2.1 dX12_program_32 rfl (lv_at hl 0 rfl) ?_
      refine k_get (v := .int (zI token_28)) C Wd.1 KX12 0 9 wM0 (by decide) fl_X12_164 rfl dX12_program_33 ?_
      refine lv_if_eq (tgt := 47) C.1 C.2.1 dX12_program_36 (by decide) (fun c36 => ?_) (fun c36 => ?_)
      · have hw := hw.1 (z0_eq (Wd28.2.1 9) c36)
        exact J47  _ _ _ ⟨hw, wMc Wd rfl rfl ⟨(rsI (rsI (rsI (rsI (rsI (rsI (rsI (rsI (rsI (rsI (rsI (rsI (rsI (rsI hS.1 (Wd28.2.1 5)) (Wd28.2.1 8)) (Wd28.2.1 9)) (Wd28.2.1 10)) (Wd28.2.1 11)) (Wd28.2.1 12)) (Wd28.2.1 13)) (Wd28.2.1 15)) (Wd28.2.1 16)) (Wd28.2.1 17)) (Wc23.2.1 18)) (Wd28.2.1 19)) (Wc23.2.1 21)) (Wc23.2.1 22)), (rsF hS.2 (fun j => Wd28.2.2 3 j))⟩, lv_sub hl [0, 1, 2] rfl⟩
      · have hw := hw.2 (z0_ne (Wd28.2.1 9) c36)
        refine lv_aload_n C.1 C.2.1 dX12_program_39 rfl (lv_at hl 0 rfl) ?_
        refine k_cMi Wd (k_runVMS (rest := []) C aks hE Wd cs_X12_231 (mt_statement D h ad ca (sI (sI (sI (sI (sI (sI (sI (sI (sI (sI (sI (sI (sI (sI I 5 made_28) 8 at0_28) 9 token_28) 10 tokenAt_28) 11 value_28) 12 wrong_28) 13 wrongAt_28) 15 depth_28) 16 countParts_28) 17 countStatements_28) 18 partsMost_r23) 19 leftLetters_28) 21 isRule_r23) 22 isRight_r23) (sF F 3 fresh_28) Wd.2 adK adV tq   _ hw l _) rfl rfl ⟨(Nat.le_of_ble_eq_true rfl), (Nat.le_of_ble_eq_true rfl)⟩ hl.1 rfl rfl (Nat.le_of_ble_eq_true rfl) ⟨(Nat.le_of_ble_eq_true rfl), (Nat.le_of_ble_eq_true rfl)⟩ dX12_program_40) (fun r40 u40 H locs g_r40 hw Wd => ?_)
        obtain ⟨fresh_r40, made_r40, at0_r40, token_r40, tokenAt_r40, value_r40, wrong_r40, wrongAt_r40, depth_r40, countParts_r40, countStatements_r40, leftLetters_r40⟩ := u40
        dsimp only at hw
        have Wc40 := Wd
        have Wd : wXM D ca s h ad (sI (sI (sI (sI (sI (sI (sI (sI (sI (sI (sI (sI (sI (sI I 5 made_r40) 8 at0_r40) 9 token_r40) 10 tokenAt_r40) 11 value_r40) 12 wrong_r40) 13 wrongAt_r40) 15 depth_r40) 16 countParts_r40) 17 countStatements_r40) 18 partsMost_r23) 19 leftLetters_r40) 21 isRule_r23) 22 isRight_r23) (sF F 3 fresh_r40) H A s.heap locs := wMc Wd rfl rfl ⟨(rsI (rsI (rsI (rsI (rsI (rsI (rsI (rsI (rsI (rsI (rsI (rsI (rsI (rsI hS.1 (Wc40.2.1 5)) (Wc40.2.1 8)) (Wc40.2.1 9)) (Wc40.2.1 10)) (Wc40.2.1 11)) (Wc40.2.1 12)) (Wc40.2.1 13)) (Wc40.2.1 15)) (Wc40.2.1 16)) (Wc40.2.1 17)) (Wc23.2.1 18)) (Wc40.2.1 19)) (Wc23.2.1 21)) (Wc23.2.1 22)), (rsF hS.2 (fun j => Wc40.2.2 3 j))⟩
        refine lv_istore_n (lv' := [(2, .int (zI r40)), (0, .ref h), (1, .int (zI x0))]) C.1 C.2.1 dX12_program_43 rfl hl (by decide) rfl (fun ls hl => ?_)
        replace hl := lv_sub hl [1, 2, 0] rfl
        refine lv_goto (tgt := 28) C.1 C.2.1 dX12_program_44 (by decide) ?_
        exact hL28 _ _ _ _ _ _ _ _ _ _ _ _ _ hw _ _ _ ⟨g_r40, wMc Wd rfl rfl ⟨(rsI (rsI (rsI (rsI (rsI (rsI (rsI (rsI (rsI (rsI (rsI (rsI (rsI (rsI hS.1 (Wc40.2.1 5)) (Wc40.2.1 8)) (Wc40.2.1 9)) (Wc40.2.1 10)) (Wc40.2.1 11)) (Wc40.2.1 12)) (Wc40.2.1 13)) (Wc40.2.1 15)) (Wc40.2.1 16)) (Wc40.2.1 17)) (Wc23.2.1 18)) (Wc40.2.1 19)) (Wc23.2.1 21)) (Wc23.2.1 22)), (rsF hS.2 (fun j => Wc40.2.2 3 j))⟩, lv_sub hl [0, 1, 2] rfl⟩
  · have hw := hw.2 (z0_eq g_r6 c9)
    refine lv_aload_n C.1 C.2.1 dX12_program_12 rfl (lv_at hl 0 rfl) ?_
    refine k_cMv Wd (k_runVM (rest := []) C aks Wd cs_X12_252 (mt_ends D h ad ca (sI I 12 0) F Wd.2   _ hw l _) rfl rfl ⟨(Nat.le_of_ble_eq_true rfl), (Nat.le_of_ble_eq_true rfl)⟩ hl.1 rfl rfl (Nat.le_of_ble_eq_true rfl) ⟨(Nat.le_of_ble_eq_true rfl), (Nat.le_of_ble_eq_true rfl)⟩ dX12_program_13) (fun u13 H locs hw Wd => ?_)
    obtain ⟨taped_r13, faultKind_r13, faultPlace_r13⟩ := u13
    dsimp only at hw
    have Wc13 := Wd
    have Wd : wXM D ca s h ad (sI (sI (sI (sI I 7 taped_r13) 12 0) 14 faultKind_r13) 20 faultPlace_r13) F H A s.heap locs := wMc Wd rfl rfl ⟨(rsI (rsI (rsI (rsI hS.1 (Wc13.2.1 7)) (show rng 0 from by decide)) (Wc13.2.1 14)) (Wc13.2.1 20)), hS.2⟩
    refine lv_iconst (v := zI (-1)) C.1 C.2.1 dX12_program_16 (by decide) ?_
    exact k_retMi C hr hlk rfl Wd (u := ((F 0), (F 1), (F 2), (F 3), (I 4), (I 5), taped_r13, (I 8), (I 9), (I 10), (I 11), 0, (I 13), faultKind_r13, (I 15), (I 16), (I 17), (I 18), (I 19), faultPlace_r13, (I 21), (I 22))) rfl rfl ⟨⟨_, rfl, (show rng (-1) from by decide), hw⟩, ⟨(rsI (rsI (rsI (rsI (rsI (rsI (rsI (rsI (rsI (rsI (rsI (rsI (rsI (rsI (rsI (rsI (rsI (rsI hS.1 (hS.1 4)) (hS.1 5)) (Wc13.2.1 7)) (hS.1 8)) (hS.1 9)) (hS.1 10)) (hS.1 11)) (show rng 0 from by decide)) (hS.1 13)) (Wc13.2.1 14)) (hS.1 15)) (hS.1 16)) (hS.1 17)) (hS.1 18)) (hS.1 19)) (Wc13.2.1 20)) (hS.1 21)) (hS.1 22)), (rsF (rsF (rsF (rsF hS.2 (hS.2 0)) (hS.2 1)) (hS.2 2)) (hS.2 3))⟩⟩ dX12_program_17
set_option maxHeartbeats 4000000 in
set_option maxRecDepth 100000 in
theorem mt_rule : ∀ (D : va_G) (h : Nat) (ad : Nat → Nat) (ca : Nat → ClassId) (I : Nat → Int) (F : Nat → Int → Int) (hS : rngS I F) (adK adV : Nat → Nat) (tq : Nat) (K : Int → (Int → Int) → Int → Int → Int → Int → Int → Int → Int → Int → Int → Int → Int → Int → Int → Int → Int → Int → Int → Int → (Int → Int) → (Int → Int) → (Int → Int) → (Int → Int) → Prop) (hw : wp_rule (F 3) (I 5) (F 6) (I 7) (I 8) (I 9) (I 10) (I 11) (I 12) (I 13) (I 14) (I 15) (I 16) (I 17) (I 18) (I 19) (I 20) (I 21) (I 22) (I 23) (F 24) (F 25) (F 26) (F 27) K) (l : Launch) (sz : Nat), Met l yX12_rule (Cond.code yX12_rule cX12_rule 4 (some .int) :: gG) { frames := 112, cells := 0, slots := 0, locals := 2670 } (cPS RX12 ixM adK adV tq D (tM ca) (wM h ad ca I F) sz [.ref h]) (va_Qi (fun (r : Int32) (u : (Int → Int) × (Int) × (Int) × (Int) × (Int) × (Int) × (Int) × (Int) × (Int) × (Int) × (Int) × (Int) × (Int) × (Int) × (Int) × (Int) × (Int) × (Int) × (Int) × (Int → Int) × (Int → Int) × (Int → Int) × (Int → Int)) => (∃ x : Int, r = zI x ∧ rng x ∧ K x u.1 u.2.1 u.2.2.1 u.2.2.2.1 u.2.2.2.2.1 u.2.2.2.2.2.1 u.2.2.2.2.2.2.1 u.2.2.2.2.2.2.2.1 u.2.2.2.2.2.2.2.2.1 u.2.2.2.2.2.2.2.2.2.1 u.2.2.2.2.2.2.2.2.2.2.1 u.2.2.2.2.2.2.2.2.2.2.2.1 u.2.2.2.2.2.2.2.2.2.2.2.2.1 u.2.2.2.2.2.2.2.2.2.2.2.2.2.1 u.2.2.2.2.2.2.2.2.2.2.2.2.2.2.1 u.2.2.2.2.2.2.2.2.2.2.2.2.2.2.2.1 u.2.2.2.2.2.2.2.2.2.2.2.2.2.2.2.2.1 u.2.2.2.2.2.2.2.2.2.2.2.2.2.2.2.2.2.1 u.2.2.2.2.2.2.2.2.2.2.2.2.2.2.2.2.2.2.1 u.2.2.2.2.2.2.2.2.2.2.2.2.2.2.2.2.2.2.2.1 u.2.2.2.2.2.2.2.2.2.2.2.2.2.2.2.2.2.2.2.2.1 u.2.2.2.2.2.2.2.2.2.2.2.2.2.2.2.2.2.2.2.2.2.1 u.2.2.2.2.2.2.2.2.2.2.2.2.2.2.2.2.2.2.2.2.2.2) ∧ rngS (sI (sI (sI (sI (sI (sI (sI (sI (sI (sI (sI (sI (sI (sI (sI (sI (sI (sI I 5 u.2.1) 7 u.2.2.1) 8 u.2.2.2.1) 9 u.2.2.2.2.1) 10 u.2.2.2.2.2.1) 11 u.2.2.2.2.2.2.1) 12 u.2.2.2.2.2.2.2.1) 13 u.2.2.2.2.2.2.2.2.1) 14 u.2.2.2.2.2.2.2.2.2.1) 15 u.2.2.2.2.2.2.2.2.2.2.1) 16 u.2.2.2.2.2.2.2.2.2.2.2.1) 17 u.2.2.2.2.2.2.2.2.2.2.2.2.1) 18 u.2.2.2.2.2.2.2.2.2.2.2.2.2.1) 19 u.2.2.2.2.2.2.2.2.2.2.2.2.2.2.1) 20 u.2.2.2.2.2.2.2.2.2.2.2.2.2.2.2.1) 21 u.2.2.2.2.2.2.2.2.2.2.2.2.2.2.2.2.1) 22 u.2.2.2.2.2.2.2.2.2.2.2.2.2.2.2.2.2.1) 23 u.2.2.2.2.2.2.2.2.2.2.2.2.2.2.2.2.2.2.1) (sF (sF (sF (sF (sF F 3 u.1) 24 u.2.2.2.2.2.2.2.2.2.2.2.2.2.2.2.2.2.2.2.1) 25 u.2.2.2.2.2.2.2.2.2.2.2.2.2.2.2.2.2.2.2.2.1) 26 u.2.2.2.2.2.2.2.2.2.2.2.2.2.2.2.2.2.2.2.2.2.1) 27 u.2.2.2.2.2.2.2.2.2.2.2.2.2.2.2.2.2.2.2.2.2.2)) (fun u t => cB D (va_A (wM h ad ca I F) sz) [] (wM h ad ca (sI (sI (sI (sI (sI (sI (sI (sI (sI (sI (sI (sI (sI (sI (sI (sI (sI (sI I 5 u.2.1) 7 u.2.2.1) 8 u.2.2.2.1) 9 u.2.2.2.2.1) 10 u.2.2.2.2.2.1) 11 u.2.2.2.2.2.2.1) 12 u.2.2.2.2.2.2.2.1) 13 u.2.2.2.2.2.2.2.2.1) 14 u.2.2.2.2.2.2.2.2.2.1) 15 u.2.2.2.2.2.2.2.2.2.2.1) 16 u.2.2.2.2.2.2.2.2.2.2.2.1) 17 u.2.2.2.2.2.2.2.2.2.2.2.2.1) 18 u.2.2.2.2.2.2.2.2.2.2.2.2.2.1) 19 u.2.2.2.2.2.2.2.2.2.2.2.2.2.2.1) 20 u.2.2.2.2.2.2.2.2.2.2.2.2.2.2.2.1) 21 u.2.2.2.2.2.2.2.2.2.2.2.2.2.2.2.2.1) 22 u.2.2.2.2.2.2.2.2.2.2.2.2.2.2.2.2.2.1) 23 u.2.2.2.2.2.2.2.2.2.2.2.2.2.2.2.2.2.2.1) (sF (sF (sF (sF (sF F 3 u.1) 24 u.2.2.2.2.2.2.2.2.2.2.2.2.2.2.2.2.2.2.2.1) 25 u.2.2.2.2.2.2.2.2.2.2.2.2.2.2.2.2.2.2.2.2.1) 26 u.2.2.2.2.2.2.2.2.2.2.2.2.2.2.2.2.2.2.2.2.2.1) 27 u.2.2.2.2.2.2.2.2.2.2.2.2.2.2.2.2.2.2.2.2.2.2)) t) (va_A (wM h ad ca I F) sz)) 0 0 (va_A (wM h ad ca I F) sz) := by
  intro D h ad ca I F hS adK adV tq  K hw l sz
  refine Met.ofW (cc := cX12_rule) (maxL := 4) (ret := (some .int)) (by decide) rfl ?_
  intro p e s m args below meth c s₁ B hml hv
  obtain ⟨hv, hE⟩ := hv
  obtain ⟨rfl, aks, rfl, Wd⟩ := k_enter hv
  have C : CallFix p m c cX12_rule 4 s _ gG RX12 := ⟨B.exec, B.bytes, hml, findClass_of_methodNamed B.named, fun w h => atoms_spec (ws := Cond.code yX12_rule cX12_rule 4 (some .int) :: gG) B.pre w (List.mem_cons_of_mem _ h)⟩
  have hr := B.returns
  have hlk := B.notSynchronized
  generalize va_A (wM h ad ca I F) s.heap.size = A at Wd hE ⊢
  replace Wd : wXM D ca s h ad I F s.heap A s.heap [] := ⟨Wd, hS⟩
  refine k_locals (Nat.le_of_ble_eq_true rfl) [(0, .ref h)] rfl (fun ls hl => ?_)
  unfold wp_rule at hw
  refine lv_aload_n C.1 C.2.1 dX12_rule_0 rfl (lv_at hl 0 rfl) ?_
  refine lv_iconst (v := zI 0) C.1 C.2.1 dX12_rule_1 (by decide) ?_
  refine k_putM C Wd 12 (sI I 12 0) (by decide) fl_X12_179 rfl rfl rfl rfl (rsI hS.1 (show rng 0 from by decide)) dX12_rule_2 (fun H locs Wd => ?_)
  refine lv_aload_n C.1 C.2.1 dX12_rule_5 rfl (lv_at hl 0 rfl) ?_
  refine k_get (v := .int (zI (I 23))) C Wd.1 KX12 0 23 wM0 (by decide) fl_X12_268 rfl dX12_rule_6 ?_
  refine lv_bipush (v := zI 12) C.1 C.2.1 dX12_rule_9 (by decide) ?_
  refine lv_icmp_ne (tgt := 20) C.1 C.2.1 dX12_rule_11 (by decide) (fun c11 => ?_) (fun c11 => ?_)
  · have hw := hw.1 (z_ne (hS.1 23) (show rng 12 from by decide) c11)
    refine lv_aload_n C.1 C.2.1 dX12_rule_20 rfl (lv_at hl 0 rfl) ?_
    refine lv_iconst (v := zI 1) C.1 C.2.1 dX12_rule_21 (by decide) ?_
    refine lv_bipush (v := zI 40) C.1 C.2.1 dX12_rule_22 (by decide) ?_
    refine k_cMv Wd (k_runVMS (rest := []) C aks hE Wd cs_X12_255 (mt_begins D h ad ca (sI I 12 0) F Wd.2 adK adV tq 1 40 (show rng 1 from by decide) (show rng 40 from by decide) _ hw l _) rfl rfl ⟨(Nat.le_of_ble_eq_true rfl), (Nat.le_of_ble_eq_true rfl)⟩ hl.1 rfl rfl (Nat.le_of_ble_eq_true rfl) ⟨(Nat.le_of_ble_eq_true rfl), (Nat.le_of_ble_eq_true rfl)⟩ dX12_rule_24) (fun u24 H locs hw Wd => ?_)
    obtain ⟨made_r24, at0_r24, token_r24, tokenAt_r24, value_r24, wrong_r24, wrongAt_r24, depth_r24, countParts_r24, countStatements_r24, partsMost_r24, leftLetters_r24, isRule_r24, isRight_r24⟩ := u24
    dsimp only at hw
    have Wc24 := Wd
    have Wd : wXM D ca s h ad (sI (sI (sI (sI (sI (sI (sI (sI (sI (sI (sI (sI (sI (sI I 5 made_r24) 8 at0_r24) 9 token_r24) 10 tokenAt_r24) 11 value_r24) 12 wrong_r24) 13 wrongAt_r24) 15 depth_r24) 16 countParts_r24) 17 countStatements_r24) 18 partsMost_r24) 19 leftLetters_r24) 21 isRule_r24) 22 isRight_r24) F H A s.heap locs := wMc Wd rfl rfl ⟨(rsI (rsI (rsI (rsI (rsI (rsI (rsI (rsI (rsI (rsI (rsI (rsI (rsI (rsI hS.1 (Wc24.2.1 5)) (Wc24.2.1 8)) (Wc24.2.1 9)) (Wc24.2.1 10)) (Wc24.2.1 11)) (Wc24.2.1 12)) (Wc24.2.1 13)) (Wc24.2.1 15)) (Wc24.2.1 16)) (Wc24.2.1 17)) (Wc24.2.1 18)) (Wc24.2.1 19)) (Wc24.2.1 21)) (Wc24.2.1 22)), hS.2⟩
    refine lv_aload_n C.1 C.2.1 dX12_rule_27 rfl (lv_at hl 0 rfl) ?_
    refine k_cMi Wd (k_runVMS (rest := []) C aks hE Wd cs_X12_219 (mt_sumUp D h ad ca (sI (sI (sI (sI (sI (sI (sI (sI (sI (sI (sI (sI (sI (sI I 5 made_r24) 8 at0_r24) 9 token_r24) 10 tokenAt_r24) 11 value_r24) 12 wrong_r24) 13 wrongAt_r24) 15 depth_r24) 16 countParts_r24) 17 countStatements_r24) 18 partsMost_r24) 19 leftLetters_r24) 21 isRule_r24) 22 isRight_r24) F Wd.2 adK adV tq   _ hw l _) rfl rfl ⟨(Nat.le_of_ble_eq_true rfl), (Nat.le_of_ble_eq_true rfl)⟩ hl.1 rfl rfl (Nat.le_of_ble_eq_true rfl) ⟨(Nat.le_of_ble_eq_true rfl), (Nat.le_of_ble_eq_true rfl)⟩ dX12_rule_28) (fun r28 u28 H locs g_r28 hw Wd => ?_)
    obtain ⟨fresh_r28, made_r28, at0_r28, token_r28, tokenAt_r28, value_r28, wrong_r28, wrongAt_r28, depth_r28, countParts_r28, leftLetters_r28⟩ := u28
    dsimp only at hw
    have Wc28 := Wd
    have Wd : wXM D ca s h ad (sI (sI (sI (sI (sI (sI (sI (sI (sI (sI (sI (sI (sI (sI I 5 made_r28) 8 at0_r28) 9 token_r28) 10 tokenAt_r28) 11 value_r28) 12 wrong_r28) 13 wrongAt_r28) 15 depth_r28) 16 countParts_r28) 17 countStatements_r24) 18 partsMost_r24) 19 leftLetters_r28) 21 isRule_r24) 22 isRight_r24) (sF F 3 fresh_r28) H A s.heap locs := wMc Wd rfl rfl ⟨(rsI (rsI (rsI (rsI (rsI (rsI (rsI (rsI (rsI (rsI (rsI (rsI (rsI (rsI hS.1 (Wc28.2.1 5)) (Wc28.2.1 8)) (Wc28.2.1 9)) (Wc28.2.1 10)) (Wc28.2.1 11)) (Wc28.2.1 12)) (Wc28.2.1 13)) (Wc28.2.1 15)) (Wc28.2.1 16)) (Wc24.2.1 17)) (Wc24.2.1 18)) (Wc28.2.1 19)) (Wc24.2.1 21)) (Wc24.2.1 22)), (rsF hS.2 (fun j => Wc28.2.2 3 j))⟩
    refine k_cut7 (fun (s0_48 : Int) (at0_48 : Int) (token_48 : Int) (tokenAt_48 : Int) (value_48 : Int) (wrong_48 : Int) (wrongAt_48 : Int) H locs ls => rng s0_48 ∧ wp_rule_48 K (F 6) (I 7) (I 14) (I 20) (I 23) (F 24) (F 25) (F 26) (F 27) countParts_r28 countStatements_r24 depth_r28 fresh_r28 isRule_r24 leftLetters_r28 made_r28 partsMost_r24 s0_48 at0_48 token_48 tokenAt_48 value_48 wrong_48 wrongAt_48 ∧ wXM D ca s h ad (sI (sI (sI (sI (sI (sI (sI (sI (sI (sI (sI (sI (sI (sI I 5 made_r28) 8 at0_48) 9 token_48) 10 tokenAt_48) 11 value_48) 12 wrong_48) 13 wrongAt_48) 15 depth_r28) 16 countParts_r28) 17 countStatements_r24) 18 partsMost_r24) 19 leftLetters_r28) 21 isRule_r24) 22 isRight_r24) (sF F 3 fresh_r28) H A s.heap locs ∧ lv_has ls 4 [(0, .ref h)]) (fun (s0_48 : Int) (at0_48 : Int) (token_48 : Int) (tokenAt_48 : Int) (value_48 : Int) (wrong_48 : Int) (wrongAt_48 : Int) ls => F0 m 48 ls [.int (zI s0_48)]) (fun s0_48 at0_48 token_48 tokenAt_48 value_48 wrong_48 wrongAt_48 H locs ls hi => ?_) (fun J48 => ?_)
    · obtain ⟨g_s0_48, hw, Wd, hl⟩ := hi
      have Wd48 := Wd
      unfold wp_rule_48 at hw
      refine lv_istore_n (lv' := [(1, .int (zI s0_48)), (0, .ref h)]) C.1 C.2.1 dX12_rule_48 rfl hl (by decide) rfl (fun ls hl => ?_)
      replace hl := lv_sub hl [1, 0] rfl
      refine lv_aload_n C.1 C.2.1 dX12_rule_49 rfl (lv_at hl 0 rfl) ?_
      refine k_get (v := .int (zI made_r28)) C Wd.1 KX12 0 5 wM0 (by decide) fl_X12_117 rfl dX12_rule_50 ?_
      refine lv_istore_n (lv' := [(2, .int (zI made_r28)), (0, .ref h), (1, .int (zI s0_48))]) C.1 C.2.1 dX12_rule_53 rfl hl (by decide) rfl (fun ls hl => ?_)
      replace hl := lv_sub hl [1, 2, 0] rfl
      refine lv_aload_n C.1 C.2.1 dX12_rule_54 rfl (lv_at hl 0 rfl) ?_
      refine lv_iconst (v := zI 1) C.1 C.2.1 dX12_rule_55 (by decide) ?_
      refine k_putM C Wd 22 (sI (sI (sI (sI (sI (sI (sI (sI (sI (sI (sI (sI (sI (sI I 5 made_r28) 8 at0_48) 9 token_48) 10 tokenAt_48) 11 value_48) 12 wrong_48) 13 wrongAt_48) 15 depth_r28) 16 countParts_r28) 17 countStatements_r24) 18 partsMost_r24) 19 leftLetters_r28) 21 isRule_r24) 22 1) (by decide) fl_X12_225 rfl (by decide) (by decide) rfl (rsI (rsI (rsI (rsI (rsI (rsI (rsI (rsI (rsI (rsI (rsI (rsI (rsI (rsI hS.1 (Wc28.2.1 5)) (Wd48.2.1 8)) (Wd48.2.1 9)) (Wd48.2.1 10)) (Wd48.2.1 11)) (Wd48.2.1 12)) (Wd48.2.1 13)) (Wc28.2.1 15)) (Wc28.2.1 16)) (Wc24.2.1 17)) (Wc24.2.1 18)) (Wc28.2.1 19)) (Wc24.2.1 21)) (show rng 1 from by decide)) dX12_rule_56 (fun H locs Wd => ?_)
      refine lv_iload_n C.1 C.2.1 dX12_rule_59 rfl (lv_at hl 1 rfl) ?_
      refine k_cut12 (fun (s0_90 : Int) (fresh_90 : Int → Int) (made_90 : Int) (at0_90 : Int) (token_90 : Int) (tokenAt_90 : Int) (value_90 : Int) (wrong_90 : Int) (wrongAt_90 : Int) (depth_90 : Int) (countParts_90 : Int) (leftLetters_90 : Int) H locs ls => rng s0_90 ∧ wp_rule_90 K (I 7) (I 14) (I 20) (I 23) (F 24) (F 25) (F 26) (F 27) countStatements_r24 isRule_r24 made_r28 partsMost_r24 s0_90 fresh_90 made_90 at0_90 token_90 tokenAt_90 value_90 wrong_90 wrongAt_90 depth_90 countParts_90 leftLetters_90 ∧ wXM D ca s h ad (sI (sI (sI (sI (sI (sI (sI (sI (sI (sI (sI (sI (sI (sI I 5 made_90) 8 at0_90) 9 token_90) 10 tokenAt_90) 11 value_90) 12 wrong_90) 13 wrongAt_90) 15 depth_90) 16 countParts_90) 17 countStatements_r24) 18 partsMost_r24) 19 leftLetters_90) 21 isRule_r24) 22 1) (sF F 3 fresh_90) H A s.heap locs ∧ lv_has ls 4 [(0, .ref h), (2, .int (zI made_r28))]) (fun (s0_90 : Int) (fresh_90 : Int → Int) (made_90 : Int) (at0_90 : Int) (token_90 : Int) (tokenAt_90 : Int) (value_90 : Int) (wrong_90 : Int) (wrongAt_90 : Int) (depth_90 : Int) (countParts_90 : Int) (leftLetters_90 : Int) ls => F0 m 90 ls [.int (zI s0_90)]) (fun s0_90 fresh_90 made_90 at0_90 token_90 tokenAt_90 value_90 wrong_90 wrongAt_90 depth_90 countParts_90 leftLetters_90 H locs ls hi => ?_) (fun J90 => ?_)
      · obtain ⟨g_s0_90, hw, Wd, hl⟩ := hi
        have Wd90 := Wd
        unfold wp_rule_90 at hw
        refine lv_istore_n (lv' := [(1, .int (zI s0_90)), (0, .ref h), (2, .int (zI made_r28))]) C.1 C.2.1 dX12_rule_90 rfl hl (by decide) rfl (fun ls hl => ?_)
        replace hl := lv_sub hl [1, 0, 2] rfl
        refine lv_aload_n C.1 C.2.1 dX12_rule_91 rfl (lv_at hl 0 rfl) ?_
        refine k_cMv Wd (k_runVM (rest := []) C aks Wd cs_X12_252 (mt_ends D h ad ca (sI (sI (sI (sI (sI (sI (sI (sI (sI (sI (sI (sI (sI (sI I 5 made_90) 8 at0_90) 9 token_90) 10 tokenAt_90) 11 value_90) 12 wrong_90) 13 wrongAt_90) 15 depth_90) 16 countParts_90) 17 countStatements_r24) 18 partsMost_r24) 19 leftLetters_90) 21 isRule_r24) 22 1) (sF F 3 fresh_90) Wd.2   _ hw l _) rfl rfl ⟨(Nat.le_of_ble_eq_true rfl), (Nat.le_of_ble_eq_true rfl)⟩ hl.1 rfl rfl (Nat.le_of_ble_eq_true rfl) ⟨(Nat.le_of_ble_eq_true rfl), (Nat.le_of_ble_eq_true rfl)⟩ dX12_rule_92) (fun u92 H locs hw Wd => ?_)
        obtain ⟨taped_r92, faultKind_r92, faultPlace_r92⟩ := u92
        dsimp only at hw
        have Wc92 := Wd
        have Wd : wXM D ca s h ad (sI (sI (sI (sI (sI (sI (sI (sI (sI (sI (sI (sI (sI (sI (sI (sI (sI I 5 made_90) 7 taped_r92) 8 at0_90) 9 token_90) 10 tokenAt_90) 11 value_90) 12 wrong_90) 13 wrongAt_90) 14 faultKind_r92) 15 depth_90) 16 countParts_90) 17 countStatements_r24) 18 partsMost_r24) 19 leftLetters_90) 20 faultPlace_r92) 21 isRule_r24) 22 1) (sF F 3 fresh_90) H A s.heap locs := wMc Wd rfl rfl ⟨(rsI (rsI (rsI (rsI (rsI (rsI (rsI (rsI (rsI (rsI (rsI (rsI (rsI (rsI (rsI (rsI (rsI hS.1 (Wd90.2.1 5)) (Wc92.2.1 7)) (Wd90.2.1 8)) (Wd90.2.1 9)) (Wd90.2.1 10)) (Wd90.2.1 11)) (Wd90.2.1 12)) (Wd90.2.1 13)) (Wc92.2.1 14)) (Wd90.2.1 15)) (Wd90.2.1 16)) (Wc24.2.1 17)) (Wc24.2.1 18)) (Wd90.2.1 19)) (Wc92.2.1 20)) (Wc24.2.1 21)) (show rng 1 from by decide)), (rsF hS.2 (fun j => Wd90.2.2 3 j))⟩
        refine lv_iload_n C.1 C.2.1 dX12_rule_95 rfl (lv_at hl 1 rfl) ?_
        refine lv_if_ne (tgt := 101) C.1 C.2.1 dX12_rule_96 (by decide) (fun c96 => ?_) (fun c96 => ?_)
        · have hw := hw.1 (z0_ne g_s0_90 c96)
          refine lv_iconst (v := zI 0) C.1 C.2.1 dX12_rule_101 (by decide) ?_
          refine lv_istore_n (lv' := [(3, .int (zI 0)), (0, .ref h), (1, .int (zI s0_90)), (2, .int (zI made_r28))]) C.1 C.2.1 dX12_rule_102 rfl hl (by decide) rfl (fun ls hl => ?_)
          replace hl := lv_sub hl [1, 2, 3, 0] rfl
          refine k_lp2 hw (fun (l3_103 : Int) (rule_103 : Int → Int) H locs ls => rng l3_103 ∧ wXM D ca s h ad (sI (sI (sI (sI (sI (sI (sI (sI (sI (sI (sI (sI (sI (sI (sI (sI (sI I 5 made_90) 7 taped_r92) 8 at0_90) 9 token_90) 10 tokenAt_90) 11 value_90) 12 wrong_90) 13 wrongAt_90) 14 faultKind_r92) 15 depth_90) 16 countParts_90) 17 countStatements_r24) 18 partsMost_r24) 19 leftLetters_90) 20 faultPlace_r92) 21 isRule_r24) 22 1) (sF (sF F 3 fresh_90) 24 rule_103) H A s.heap locs ∧ lv_has ls 4 [(0, .ref h), (2, .int (zI made_r28)), (3, .int (zI l3_103))]) (fun (l3_103 : Int) (rule_103 : Int → Int) ls => F0 m 103 ls []) (fun L103 hL103 l3_103 rule_103 hw H locs ls hi => ?_) _ _ _ ⟨(show rng 0 from by decide), wMc Wd rfl rfl ⟨(rsI (rsI (rsI (rsI (rsI (rsI (rsI (rsI (rsI (rsI (rsI (rsI (rsI (rsI (rsI (rsI (rsI hS.1 (Wd90.2.1 5)) (Wc92.2.1 7)) (Wd90.2.1 8)) (Wd90.2.1 9)) (Wd90.2.1 10)) (Wd90.2.1 11)) (Wd90.2.1 12)) (Wd90.2.1 13)) (Wc92.2.1 14)) (Wd90.2.1 15)) (Wd90.2.1 16)) (Wc24.2.1 17)) (Wc24.2.1 18)) (Wd90.2.1 19)) (Wc92.2.1 20)) (Wc24.2.1 21)) (show rng 1 from by decide)), (rsF (rsF hS.2 (fun j => Wd90.2.2 3 j)) (hS.2 24))⟩, lv_sub hl [0, 2, 3] rfl⟩
          obtain ⟨g_l3_103, Wd, hl⟩ := hi
          have Wd103 := Wd
          unfold wp_rule_103 at hw
          refine lv_iload_n C.1 C.2.1 dX12_rule_103 rfl (lv_at hl 2 rfl) ?_
          refine lv_aload_n C.1 C.2.1 dX12_rule_104 rfl (lv_at hl 0 rfl) ?_
          refine k_get (v := .int (zI made_90)) C Wd.1 KX12 0 5 wM0 (by decide) fl_X12_117 rfl dX12_rule_105 ?_
          refine lv_icmp_ge (tgt := 137) C.1 C.2.1 dX12_rule_108 (by decide) (fun c108 => ?_) (fun c108 => ?_)
          · have hw := hw.1 (z_le (Wd90.2.1 5) g_l3_103 c108)
            refine lv_aload_n C.1 C.2.1 dX12_rule_137 rfl (lv_at hl 0 rfl) ?_
            refine k_get (v := .ref (ad 25)) C Wd.1 KX12 0 25 wM0 (by decide) fl_X12_32 rfl dX12_rule_138 ?_
            refine lv_aload_n C.1 C.2.1 dX12_rule_141 rfl (lv_at hl 0 rfl) ?_
            refine k_get (v := .int (zI (I 23))) C Wd.1 KX12 0 23 wM0 (by decide) fl_X12_268 rfl dX12_rule_142 ?_
            refine lv_iload_n C.1 C.2.1 dX12_rule_145 rfl (lv_at hl 1 rfl) ?_
            obtain ⟨a146, hw⟩ := hw
            have q146 : ∀ j : Nat, rng ((uZ (F 25) (I 23) made_r28) j) := ruZ (hS.2 25) (Wc28.2.1 5)
            refine k_iastM (g := (F 25)) C Wd 6 6 (sF (sF (sF F 3 fresh_90) 24 rule_103) 25 (uZ (F 25) (I 23) made_r28)) rfl rfl a146 (by decide) rfl rfl (rsF (rsF (rsF hS.2 (fun j => Wd90.2.2 3 j)) (fun j => Wd103.2.2 24 j)) q146) dX12_rule_146 (fun H locs Wd => ?_)
            refine lv_aload_n C.1 C.2.1 dX12_rule_147 rfl (lv_at hl 0 rfl) ?_
            refine k_get (v := .ref (ad 26)) C Wd.1 KX12 0 26 wM0 (by decide) fl_X12_35 rfl dX12_rule_148 ?_
            refine lv_aload_n C.1 C.2.1 dX12_rule_151 rfl (lv_at hl 0 rfl) ?_
            refine k_get (v := .int (zI (I 23))) C Wd.1 KX12 0 23 wM0 (by decide) fl_X12_268 rfl dX12_rule_152 ?_
            refine lv_aload_n C.1 C.2.1 dX12_rule_155 rfl (lv_at hl 0 rfl) ?_
            refine k_get (v := .int (zI made_90)) C Wd.1 KX12 0 5 wM0 (by decide) fl_X12_117 rfl dX12_rule_156 ?_
            obtain ⟨a159, hw⟩ := hw
            have q159 : ∀ j : Nat, rng ((uZ (F 26) (I 23) made_90) j) := ruZ (hS.2 26) (Wd90.2.1 5)
            refine k_iastM (g := (F 26)) C Wd 7 7 (sF (sF (sF (sF F 3 fresh_90) 24 rule_103) 25 (uZ (F 25) (I 23) made_r28)) 26 (uZ (F 26) (I 23) made_90)) rfl rfl a159 (by decide) rfl rfl (rsF (rsF (rsF (rsF hS.2 (fun j => Wd90.2.2 3 j)) (fun j => Wd103.2.2 24 j)) q146) q159) dX12_rule_159 (fun H locs Wd => ?_)
            refine lv_aload_n C.1 C.2.1 dX12_rule_160 rfl (lv_at hl 0 rfl) ?_
            refine k_get (v := .ref (ad 27)) C Wd.1 KX12 0 27 wM0 (by decide) fl_X12_38 rfl dX12_rule_161 ?_
            refine lv_aload_n C.1 C.2.1 dX12_rule_164 rfl (lv_at hl 0 rfl) ?_
            refine k_get (v := .int (zI (I 23))) C Wd.1 KX12 0 23 wM0 (by decide) fl_X12_268 rfl dX12_rule_165 ?_
            refine lv_aload_n C.1 C.2.1 dX12_rule_168 rfl (lv_at hl 0 rfl) ?_
            refine k_get (v := .int (zI leftLetters_90)) C Wd.1 KX12 0 19 wM0 (by decide) fl_X12_228 rfl dX12_rule_169 ?_
            obtain ⟨a172, hw⟩ := hw
            have q172 : ∀ j : Nat, rng ((uZ (F 27) (I 23) leftLetters_90) j) := ruZ (hS.2 27) (Wd90.2.1 19)
            refine k_iastM (g := (F 27)) C Wd 8 8 (sF (sF (sF (sF (sF F 3 fresh_90) 24 rule_103) 25 (uZ (F 25) (I 23) made_r28)) 26 (uZ (F 26) (I 23) made_90)) 27 (uZ (F 27) (I 23) leftLetters_90)) rfl rfl a172 (by decide) rfl rfl (rsF (rsF (rsF (rsF (rsF hS.2 (fun j => Wd90.2.2 3 j)) (fun j => Wd103.2.2 24 j)) q146) q159) q172) dX12_rule_172 (fun H locs Wd => ?_)
            refine lv_aload_n C.1 C.2.1 dX12_rule_173 rfl (lv_at hl 0 rfl) ?_
            refine lv_iconst (v := zI 0) C.1 C.2.1 dX12_rule_174 (by decide) ?_
            refine k_putM C Wd 5 (sI (sI (sI (sI (sI (sI (sI (sI (sI (sI (sI (sI (sI (sI (sI (sI (sI I 5 0) 7 taped_r92) 8 at0_90) 9 token_90) 10 tokenAt_90) 11 value_90) 12 wrong_90) 13 wrongAt_90) 14 faultKind_r92) 15 depth_90) 16 countParts_90) 17 countStatements_r24) 18 partsMost_r24) 19 leftLetters_90) 20 faultPlace_r92) 21 isRule_r24) 22 1) (by decide) fl_X12_117 rfl rfl rfl rfl (rsI (rsI (rsI (rsI (rsI (rsI (rsI (rsI (rsI (rsI (rsI (rsI (rsI (rsI (rsI (rsI (rsI hS.1 (show rng 0 from by decide)) (Wc92.2.1 7)) (Wd90.2.1 8)) (Wd90.2.1 9)) (Wd90.2.1 10)) (Wd90.2.1 11)) (Wd90.2.1 12)) (Wd90.2.1 13)) (Wc92.2.1 14)) (Wd90.2.1 15)) (Wd90.2.1 16)) (Wc24.2.1 17)) (Wc24.2.1 18)) (Wd90.2.1 19)) (Wc92.2.1 20)) (Wc24.2.1 21)) (show rng 1 from by decide)) dX12_rule_175 (fun H locs Wd => ?_)
            refine lv_aload_n C.1 C.2.1 dX12_rule_178 rfl (lv_at hl 0 rfl) ?_
            refine lv_dup C.1 C.2.1 dX12_rule_179 rfl ?_
            refine k_get (v := .int (zI (I 23))) C Wd.1 KX12 0 23 wM0 (by decide) fl_X12_268 rfl dX12_rule_180 ?_
            refine lv_iconst (v := zI 1) C.1 C.2.1 dX12_rule_183 (by decide) ?_
            refine k_iadd (v := zI ((I 23) + 1)) C (zI_iadd _ _) dX12_rule_184 ?_
            obtain ⟨g185_0, hw⟩ := hw
            refine k_putM C Wd 23 (sI (sI (sI (sI (sI (sI (sI (sI (sI (sI (sI (sI (sI (sI (sI (sI (sI (sI I 5 0) 7 taped_r92) 8 at0_90) 9 token_90) 10 tokenAt_90) 11 value_90) 12 wrong_90) 13 wrongAt_90) 14 faultKind_r92) 15 depth_90) 16 countParts_90) 17 countStatements_r24) 18 partsMost_r24) 19 leftLetters_90) 20 faultPlace_r92) 21 isRule_r24) 22 1) 23 ((I 23) + 1)) (by decide) fl_X12_268 rfl rfl rfl rfl (rsI (rsI (rsI (rsI (rsI (rsI (rsI (rsI (rsI (rsI (rsI (rsI (rsI (rsI (rsI (rsI (rsI (rsI hS.1 (show rng 0 from by decide)) (Wc92.2.1 7)) (Wd90.2.1 8)) (Wd90.2.1 9)) (Wd90.2.1 10)) (Wd90.2.1 11)) (Wd90.2.1 12)) (Wd90.2.1 13)) (Wc92.2.1 14)) (Wd90.2.1 15)) (Wd90.2.1 16)) (Wc24.2.1 17)) (Wc24.2.1 18)) (Wd90.2.1 19)) (Wc92.2.1 20)) (Wc24.2.1 21)) (show rng 1 from by decide)) g185_0) dX12_rule_185 (fun H locs Wd => ?_)
            refine lv_aload_n C.1 C.2.1 dX12_rule_188 rfl (lv_at hl 0 rfl) ?_
            refine k_get (v := .int (zI ((I 23) + 1))) C Wd.1 KX12 0 23 wM0 (by decide) fl_X12_268 rfl dX12_rule_189 ?_
            refine lv_iconst (v := zI 1) C.1 C.2.1 dX12_rule_192 (by decide) ?_
            refine k_isub (v := zI (((I 23) + 1) - 1)) C (zI_isub _ _) dX12_rule_193 ?_
            obtain ⟨g194_0, hw⟩ := hw
            exact k_retMi C hr hlk rfl Wd (u := (fresh_90, 0, taped_r92, at0_90, token_90, tokenAt_90, value_90, wrong_90, wrongAt_90, faultKind_r92, depth_90, countParts_90, countStatements_r24, partsMost_r24, leftLetters_90, faultPlace_r92, isRule_r24, 1, ((I 23) + 1), rule_103, (uZ (F 25) (I 23) made_r28), (uZ (F 26) (I 23) made_90), (uZ (F 27) (I 23) leftLetters_90))) rfl rfl ⟨⟨_, rfl, g194_0, hw⟩, ⟨(rsI (rsI (rsI (rsI (rsI (rsI (rsI (rsI (rsI (rsI (rsI (rsI (rsI (rsI (rsI (rsI (rsI (rsI hS.1 (show rng 0 from by decide)) (Wc92.2.1 7)) (Wd90.2.1 8)) (Wd90.2.1 9)) (Wd90.2.1 10)) (Wd90.2.1 11)) (Wd90.2.1 12)) (Wd90.2.1 13)) (Wc92.2.1 14)) (Wd90.2.1 15)) (Wd90.2.1 16)) (Wc24.2.1 17)) (Wc24.2.1 18)) (Wd90.2.1 19)) (Wc92.2.1 20)) (Wc24.2.1 21)) (show rng 1 from by decide)) g185_0), (rsF (rsF (rsF (rsF (rsF hS.2 (fun j => Wd90.2.2 3 j)) (fun j => Wd103.2.2 24 j)) q146) q159) q172)⟩⟩ dX12_rule_194
          · have hw := hw.2 (z_nle (Wd90.2.1 5) g_l3_103 c108)
            refine lv_aload_n C.1 C.2.1 dX12_rule_111 rfl (lv_at hl 0 rfl) ?_
            refine k_get (v := .ref (ad 24)) C Wd.1 KX12 0 24 wM0 (by decide) fl_X12_29 rfl dX12_rule_112 ?_
            refine lv_bipush (v := zI 40) C.1 C.2.1 dX12_rule_115 (by decide) ?_
            refine lv_aload_n C.1 C.2.1 dX12_rule_117 rfl (lv_at hl 0 rfl) ?_
            refine k_get (v := .int (zI (I 23))) C Wd.1 KX12 0 23 wM0 (by decide) fl_X12_268 rfl dX12_rule_118 ?_
            refine k_imul (v := zI (40 * (I 23))) C (zI_imul _ _) dX12_rule_121 ?_
            refine lv_iload_n C.1 C.2.1 dX12_rule_122 rfl (lv_at hl 2 rfl) ?_
            refine k_iadd (v := zI ((40 * (I 23)) + l3_103)) C (zI_iadd _ _) dX12_rule_123 ?_
            refine lv_aload_n C.1 C.2.1 dX12_rule_124 rfl (lv_at hl 0 rfl) ?_
            refine k_get (v := .ref (ad 3)) C Wd.1 KX12 0 3 wM0 (by decide) fl_X12_19 rfl dX12_rule_125 ?_
            refine lv_iload_n C.1 C.2.1 dX12_rule_128 rfl (lv_at hl 2 rfl) ?_
            obtain ⟨a129, hw⟩ := hw
            refine k_ialdM (g := fresh_90) C Wd 4 3 rfl rfl a129 (by decide) dX12_rule_129 ?_
            have g129 : rng (fresh_90 l3_103) := rngL (fun j => Wd90.2.2 3 j) a129
            obtain ⟨a130, hw⟩ := hw
            have q130 : ∀ j : Nat, rng ((uZ rule_103 ((40 * (I 23)) + l3_103) (fresh_90 l3_103)) j) := ruZ (fun j => Wd103.2.2 24 j) g129
            refine k_iastM (g := rule_103) C Wd 5 5 (sF (sF F 3 fresh_90) 24 (uZ rule_103 ((40 * (I 23)) + l3_103) (fresh_90 l3_103))) rfl rfl a130 (by decide) rfl rfl (rsF (rsF hS.2 (fun j => Wd90.2.2 3 j)) q130) dX12_rule_130 (fun H locs Wd => ?_)
            refine lv_iinc (v := zI (l3_103 + 1)) (lv' := [(3, .int (zI (l3_103 + 1))), (0, .ref h), (2, .int (zI made_r28))]) C.1 C.2.1 dX12_rule_131 hl (k := 2) rfl (zI_inc _ _ (by decide)) (by decide) rfl (fun ls hl => ?_)
            replace hl := lv_sub hl [1, 2, 0] rfl
            refine lv_goto (tgt := 103) C.1 C.2.1 dX12_rule_134 (by decide) ?_
            obtain ⟨g134_0, hw⟩ := hw
            exact hL103 _ _ hw _ _ _ ⟨g134_0, wMc Wd rfl rfl ⟨(rsI (rsI (rsI (rsI (rsI (rsI (rsI (rsI (rsI (rsI (rsI (rsI (rsI (rsI (rsI (rsI (rsI hS.1 (Wd90.2.1 5)) (Wc92.2.1 7)) (Wd90.2.1 8)) (Wd90.2.1 9)) (Wd90.2.1 10)) (Wd90.2.1 11)) (Wd90.2.1 12)) (Wd90.2.1 13)) (Wc92.2.1 14)) (Wd90.2.1 15)) (Wd90.2.1 16)) (Wc24.2.1 17)) (Wc24.2.1 18)) (Wd90.2.1 19)) (Wc92.2.1 20)) (Wc24.2.1 21)) (show rng 1 from by decide)), (rsF (rsF hS.2 (fun j => Wd90.2.2 3 j)) q130)⟩, lv_sub hl [0, 1, 2] rfl⟩
        · have hw := hw.2 (z0_eq g_s0_90 c96)
          refine lv_iconst (v := zI (-1)) C.1 C.2.1 dX12_rule_99 (by decide) ?_
          exact k_retMi C hr hlk rfl Wd (u := (fresh_90, made_90, taped_r92, at0_90, token_90, tokenAt_90, value_90, wrong_90, wrongAt_90, faultKind_r92, depth_90, countParts_90, countStatements_r24, partsMost_r24, leftLetters_90, faultPlace_r92, isRule_r24, 1, (I 23), (F 24), (F 25), (F 26), (F 27))) rfl rfl ⟨⟨_, rfl, (show rng (-1) from by decide), hw⟩, ⟨(rsI (rsI (rsI (rsI (rsI (rsI (rsI (rsI (rsI (rsI (rsI (rsI (rsI (rsI (rsI (rsI (rsI (rsI hS.1 (Wd90.2.1 5)) (Wc92.2.1 7)) (Wd90.2.1 8)) (Wd90.2.1 9)) (Wd90.2.1 10)) (Wd90.2.1 11)) (Wd90.2.1 12)) (Wd90.2.1 13)) (Wc92.2.1 14)) (Wd90.2.1 15)) (Wd90.2.1 16)) (Wc24.2.1 17)) (Wc24.2.1 18)) (Wd90.2.1 19)) (Wc92.2.1 20)) (Wc24.2.1 21)) (show rng 1 from by decide)) (hS.1 23)), (rsF (rsF (rsF (rsF (rsF hS.2 (fun j => Wd90.2.2 3 j)) (hS.2 24)) (hS.2 25)) (hS.2 26)) (hS.2 27))⟩⟩ dX12_rule_100
      refine k_cut11 (fun (fresh_89 : Int → Int) (made_89 : Int) (at0_89 : Int) (token_89 : Int) (tokenAt_89 : Int) (value_89 : Int) (wrong_89 : Int) (wrongAt_89 : Int) (depth_89 : Int) (countParts_89 : Int) (leftLetters_89 : Int) H locs ls => wp_rule_89 K (I 7) (I 14) (I 20) (I 23) (F 24) (F 25) (F 26) (F 27) countStatements_r24 isRule_r24 made_r28 partsMost_r24 fresh_89 made_89 at0_89 token_89 tokenAt_89 value_89 wrong_89 wrongAt_89 depth_89 countParts_89 leftLetters_89 ∧ wXM D ca s h ad (sI (sI (sI (sI (sI (sI (sI (sI (sI (sI (sI (sI (sI (sI I 5 made_89) 8 at0_89) 9 token_89) 10 tokenAt_89) 11 value_89) 12 wrong_89) 13 wrongAt_89) 15 depth_89) 16 countParts_89) 17 countStatements_r24) 18 partsMost_r24) 19 leftLetters_89) 21 isRule_r24) 22 1) (sF F 3 fresh_89) H A s.heap locs ∧ lv_has ls 4 [(0, .ref h), (2, .int (zI made_r28))]) (fun (fresh_89 : Int → Int) (made_89 : Int) (at0_89 : Int) (token_89 : Int) (tokenAt_89 : Int) (value_89 : Int) (wrong_89 : Int) (wrongAt_89 : Int) (depth_89 : Int) (countParts_89 : Int) (leftLetters_89 : Int) ls => F0 m 89 ls []) (fun fresh_89 made_89 at0_89 token_89 tokenAt_89 value_89 wrong_89 wrongAt_89 depth_89 countParts_89 leftLetters_89 H locs ls hi => ?_) (fun J89 => ?_)
      · obtain ⟨hw, Wd, hl⟩ := hi
        have Wd89 := Wd
        unfold wp_rule_89 at hw
        refine lv_iconst (v := zI 0) C.1 C.2.1 dX12_rule_89 (by decide) ?_
        exact J90 0 fresh_89 made_89 at0_89 token_89 tokenAt_89 value_89 wrong_89 wrongAt_89 depth_89 countParts_89 leftLetters_89 _ _ _ ⟨(show rng 0 from by decide), hw, wMc Wd rfl rfl ⟨(rsI (rsI (rsI (rsI (rsI (rsI (rsI (rsI (rsI (rsI (rsI (rsI (rsI (rsI hS.1 (Wd89.2.1 5)) (Wd89.2.1 8)) (Wd89.2.1 9)) (Wd89.2.1 10)) (Wd89.2.1 11)) (Wd89.2.1 12)) (Wd89.2.1 13)) (Wd89.2.1 15)) (Wd89.2.1 16)) (Wc24.2.1 17)) (Wc24.2.1 18)) (Wd89.2.1 19)) (Wc24.2.1 21)) (show rng 1 from by decide)), (rsF hS.2 (fun j => Wd89.2.2 3 j))⟩, lv_sub hl [0, 1] rfl⟩
      refine lv_if_eq (tgt := 89) C.1 C.2.1 dX12_rule_60 (by decide) (fun c60 => ?_) (fun c60 => ?_)
      · have hw := hw.1 (z0_eq g_s0_48 c60)
        exact J89 fresh_r28 made_r28 at0_48 token_48 tokenAt_48 value_48 wrong_48 wrongAt_48 depth_r28 countParts_r28 leftLetters_r28 _ _ _ ⟨hw, wMc Wd rfl rfl ⟨(rsI (rsI (rsI (rsI (rsI (rsI (rsI (rsI (rsI (rsI (rsI (rsI (rsI (rsI hS.1 (Wc28.2.1 5)) (Wd48.2.1 8)) (Wd48.2.1 9)) (Wd48.2.1 10)) (Wd48.2.1 11)) (Wd48.2.1 12)) (Wd48.2.1 13)) (Wc28.2.1 15)) (Wc28.2.1 16)) (Wc24.2.1 17)) (Wc24.2.1 18)) (Wc28.2.1 19)) (Wc24.2.1 21)) (show rng 1 from by decide)), (rsF hS.2 (fun j => Wc28.2.2 3 j))⟩, lv_sub hl [0, 2] rfl⟩
      · have hw := hw.2 (z0_ne g_s0_48 c60)
        refine lv_aload_n C.1 C.2.1 dX12_rule_63 rfl (lv_at hl 0 rfl) ?_
        refine k_cMi Wd (k_runVMS (rest := []) C aks hE Wd cs_X12_219 (mt_sumUp D h ad ca (sI (sI (sI (sI (sI (sI (sI (sI (sI (sI (sI (sI (sI (sI I 5 made_r28) 8 at0_48) 9 token_48) 10 tokenAt_48) 11 value_48) 12 wrong_48) 13 wrongAt_48) 15 depth_r28) 16 countParts_r28) 17 countStatements_r24) 18 partsMost_r24) 19 leftLetters_r28) 21 isRule_r24) 22 1) (sF F 3 fresh_r28) Wd.2 adK adV tq   _ hw l _) rfl rfl ⟨(Nat.le_of_ble_eq_true rfl), (Nat.le_of_ble_eq_true rfl)⟩ hl.1 rfl rfl (Nat.le_of_ble_eq_true rfl) ⟨(Nat.le_of_ble_eq_true rfl), (Nat.le_of_ble_eq_true rfl)⟩ dX12_rule_64) (fun r64 u64 H locs g_r64 hw Wd => ?_)
        obtain ⟨fresh_r64, made_r64, at0_r64, token_r64, tokenAt_r64, value_r64, wrong_r64, wrongAt_r64, depth_r64, countParts_r64, leftLetters_r64⟩ := u64
        dsimp only at hw
        have Wc64 := Wd
        have Wd : wXM D ca s h ad (sI (sI (sI (sI (sI (sI (sI (sI (sI (sI (sI (sI (sI (sI I 5 made_r64) 8 at0_r64) 9 token_r64) 10 tokenAt_r64) 11 value_r64) 12 wrong_r64) 13 wrongAt_r64) 15 depth_r64) 16 countParts_r64) 17 countStatements_r24) 18 partsMost_r24) 19 leftLetters_r64) 21 isRule_r24) 22 1) (sF F 3 fresh_r64) H A s.heap locs := wMc Wd rfl rfl ⟨(rsI (rsI (rsI (rsI (rsI (rsI (rsI (rsI (rsI (rsI (rsI (rsI (rsI (rsI hS.1 (Wc64.2.1 5)) (Wc64.2.1 8)) (Wc64.2.1 9)) (Wc64.2.1 10)) (Wc64.2.1 11)) (Wc64.2.1 12)) (Wc64.2.1 13)) (Wc64.2.1 15)) (Wc64.2.1 16)) (Wc24.2.1 17)) (Wc24.2.1 18)) (Wc64.2.1 19)) (Wc24.2.1 21)) (show rng 1 from by decide)), (rsF hS.2 (fun j => Wc64.2.2 3 j))⟩
        refine lv_if_eq (tgt := 89) C.1 C.2.1 dX12_rule_67 (by decide) (fun c67 => ?_) (fun c67 => ?_)
        · have hw := hw.1 (z0_eq g_r64 c67)
          exact J89 fresh_r64 made_r64 at0_r64 token_r64 tokenAt_r64 value_r64 wrong_r64 wrongAt_r64 depth_r64 countParts_r64 leftLetters_r64 _ _ _ ⟨hw, wMc Wd rfl rfl ⟨(rsI (rsI (rsI (rsI (rsI (rsI (rsI (rsI (rsI (rsI (rsI (rsI (rsI (rsI hS.1 (Wc64.2.1 5)) (Wc64.2.1 8)) (Wc64.2.1 9)) (Wc64.2.1 10)) (Wc64.2.1 11)) (Wc64.2.1 12)) (Wc64.2.1 13)) (Wc64.2.1 15)) (Wc64.2.1 16)) (Wc24.2.1 17)) (Wc24.2.1 18)) (Wc64.2.1 19)) (Wc24.2.1 21)) (show rng 1 from by decide)), (rsF hS.2 (fun j => Wc64.2.2 3 j))⟩, lv_sub hl [0, 2] rfl⟩
        · have hw := hw.2 (z0_ne g_r64 c67)
          refine lv_aload_n C.1 C.2.1 dX12_rule_70 rfl (lv_at hl 0 rfl) ?_
          refine k_get (v := .int (zI token_r64)) C Wd.1 KX12 0 9 wM0 (by decide) fl_X12_164 rfl dX12_rule_71 ?_
          refine k_cut2 (fun (wrong_85 : Int) (wrongAt_85 : Int) H locs ls => wp_rule_85 K (I 7) (I 14) (I 20) (I 23) (F 24) (F 25) (F 26) (F 27) at0_r64 countParts_r64 countStatements_r24 depth_r64 fresh_r64 isRule_r24 leftLetters_r64 made_r28 made_r64 partsMost_r24 tokenAt_r64 token_r64 value_r64 wrong_85 wrongAt_85 ∧ wXM D ca s h ad (sI (sI (sI (sI (sI (sI (sI (sI (sI (sI (sI (sI (sI (sI I 5 made_r64) 8 at0_r64) 9 token_r64) 10 tokenAt_r64) 11 value_r64) 12 wrong_85) 13 wrongAt_85) 15 depth_r64) 16 countParts_r64) 17 countStatements_r24) 18 partsMost_r24) 19 leftLetters_r64) 21 isRule_r24) 22 1) (sF F 3 fresh_r64) H A s.heap locs ∧ lv_has ls 4 [(0, .ref h), (2, .int (zI made_r28))]) (fun (wrong_85 : Int) (wrongAt_85 : Int) ls => F0 m 85 ls []) (fun wrong_85 wrongAt_85 H locs ls hi => ?_) (fun J85 => ?_)
          · obtain ⟨hw, Wd, hl⟩ := hi
            have Wd85 := Wd
            unfold wp_rule_85 at hw
            refine lv_iconst (v := zI 1) C.1 C.2.1 dX12_rule_85 (by decide) ?_
            refine lv_goto (tgt := 90) C.1 C.2.1 dX12_rule_86 (by decide) ?_
            exact J90 1 fresh_r64 made_r64 at0_r64 token_r64 tokenAt_r64 value_r64 wrong_85 wrongAt_85 depth_r64 countParts_r64 leftLetters_r64 _ _ _ ⟨(show rng 1 from by decide), hw, wMc Wd rfl rfl ⟨(rsI (rsI (rsI (rsI (rsI (rsI (rsI (rsI (rsI (rsI (rsI (rsI (rsI (rsI hS.1 (Wc64.2.1 5)) (Wc64.2.1 8)) (Wc64.2.1 9)) (Wc64.2.1 10)) (Wc64.2.1 11)) (Wd85.2.1 12)) (Wd85.2.1 13)) (Wc64.2.1 15)) (Wc64.2.1 16)) (Wc24.2.1 17)) (Wc24.2.1 18)) (Wc64.2.1 19)) (Wc24.2.1 21)) (show rng 1 from by decide)), (rsF hS.2 (fun j => Wc64.2.2 3 j))⟩, lv_sub hl [0, 1] rfl⟩
          refine lv_if_eq (tgt := 85) C.1 C.2.1 dX12_rule_74 (by decide) (fun c74 => ?_) (fun c74 => ?_)
          · have hw := hw.1 (z0_eq (Wc64.2.1 9) c74)
            exact J85 wrong_r64 wrongAt_r64 _ _ _ ⟨hw, wMc Wd rfl rfl ⟨(rsI (rsI (rsI (rsI (rsI (rsI (rsI (rsI (rsI (rsI (rsI (rsI (rsI (rsI hS.1 (Wc64.2.1 5)) (Wc64.2.1 8)) (Wc64.2.1 9)) (Wc64.2.1 10)) (Wc64.2.1 11)) (Wc64.2.1 12)) (Wc64.2.1 13)) (Wc64.2.1 15)) (Wc64.2.1 16)) (Wc24.2.1 17)) (Wc24.2.1 18)) (Wc64.2.1 19)) (Wc24.2.1 21)) (show rng 1 from by decide)), (rsF hS.2 (fun j => Wc64.2.2 3 j))⟩, lv_sub hl [0, 2] rfl⟩
          · have hw := hw.2 (z0_ne (Wc64.2.1 9) c74)
            refine lv_aload_n C.1 C.2.1 dX12_rule_77 rfl (lv_at hl 0 rfl) ?_
            refine lv_iconst (v := zI 1) C.1 C.2.1 dX12_rule_78 (by decide) ?_
            refine k_cMi Wd (k_runVM (rest := []) C aks Wd cs_X12_185 (mt_bad D h ad ca (sI (sI (sI (sI (sI (sI (sI (sI (sI (sI (sI (sI (sI (sI I 5 made_r64) 8 at0_r64) 9 token_r64) 10 tokenAt_r64) 11 value_r64) 12 wrong_r64) 13 wrongAt_r64) 15 depth_r64) 16 countParts_r64) 17 countStatements_r24) 18 partsMost_r24) 19 leftLetters_r64) 21 isRule_r24) 22 1) (sF F 3 fresh_r64) Wd.2 1 (show rng 1 from by decide) _ hw l _) rfl rfl ⟨(Nat.le_of_ble_eq_true rfl), (Nat.le_of_ble_eq_true rfl)⟩ hl.1 rfl rfl (Nat.le_of_ble_eq_true rfl) ⟨(Nat.le_of_ble_eq_true rfl), (Nat.le_of_ble_eq_true rfl)⟩ dX12_rule_79) (fun r79 u79 H locs g_r79 hw Wd => ?_)
            obtain ⟨wrong_r79, wrongAt_r79⟩ := u79
            dsimp only at hw
            have Wc79 := Wd
            have Wd : wXM D ca s h ad (sI (sI (sI (sI (sI (sI (sI (sI (sI (sI (sI (sI (sI (sI I 5 made_r64) 8 at0_r64) 9 token_r64) 10 tokenAt_r64) 11 value_r64) 12 wrong_r79) 13 wrongAt_r79) 15 depth_r64) 16 countParts_r64) 17 countStatements_r24) 18 partsMost_r24) 19 leftLetters_r64) 21 isRule_r24) 22 1) (sF F 3 fresh_r64) H A s.heap locs := wMc Wd rfl rfl ⟨(rsI (rsI (rsI (rsI (rsI (rsI (rsI (rsI (rsI (rsI (rsI (rsI (rsI (rsI hS.1 (Wc64.2.1 5)) (Wc64.2.1 8)) (Wc64.2.1 9)) (Wc64.2.1 10)) (Wc64.2.1 11)) (Wc79.2.1 12)) (Wc79.2.1 13)) (Wc64.2.1 15)) (Wc64.2.1 16)) (Wc24.2.1 17)) (Wc24.2.1 18)) (Wc64.2.1 19)) (Wc24.2.1 21)) (show rng 1 from by decide)), (rsF hS.2 (fun j => Wc64.2.2 3 j))⟩
            refine lv_if_eq (tgt := 89) C.1 C.2.1 dX12_rule_82 (by decide) (fun c82 => ?_) (fun c82 => ?_)
            · have hw := hw.1 (z0_eq g_r79 c82)
              exact J89 fresh_r64 made_r64 at0_r64 token_r64 tokenAt_r64 value_r64 wrong_r79 wrongAt_r79 depth_r64 countParts_r64 leftLetters_r64 _ _ _ ⟨hw, wMc Wd rfl rfl ⟨(rsI (rsI (rsI (rsI (rsI (rsI (rsI (rsI (rsI (rsI (rsI (rsI (rsI (rsI hS.1 (Wc64.2.1 5)) (Wc64.2.1 8)) (Wc64.2.1 9)) (Wc64.2.1 10)) (Wc64.2.1 11)) (Wc79.2.1 12)) (Wc79.2.1 13)) (Wc64.2.1 15)) (Wc64.2.1 16)) (Wc24.2.1 17)) (Wc24.2.1 18)) (Wc64.2.1 19)) (Wc24.2.1 21)) (show rng 1 from by decide)), (rsF hS.2 (fun j => Wc64.2.2 3 j))⟩, lv_sub hl [0, 2] rfl⟩
            · have hw := hw.2 (z0_ne g_r79 c82)
              exact J85 wrong_r79 wrongAt_r79 _ _ _ ⟨hw, wMc Wd rfl rfl ⟨(rsI (rsI (rsI (rsI (rsI (rsI (rsI (rsI (rsI (rsI (rsI (rsI (rsI (rsI hS.1 (Wc64.2.1 5)) (Wc64.2.1 8)) (Wc64.2.1 9)) (Wc64.2.1 10)) (Wc64.2.1 11)) (Wc79.2.1 12)) (Wc79.2.1 13)) (Wc64.2.1 15)) (Wc64.2.1 16)) (Wc24.2.1 17)) (Wc24.2.1 18)) (Wc64.2.1 19)) (Wc24.2.1 21)) (show rng 1 from by decide)), (rsF hS.2 (fun j => Wc64.2.2 3 j))⟩, lv_sub hl [0, 2] rfl⟩
    refine k_cut6 (fun (at0_47 : Int) (token_47 : Int) (tokenAt_47 : Int) (value_47 : Int) (wrong_47 : Int) (wrongAt_47 : Int) H locs ls => wp_rule_47 K (F 6) (I 7) (I 14) (I 20) (I 23) (F 24) (F 25) (F 26) (F 27) countParts_r28 countStatements_r24 depth_r28 fresh_r28 isRule_r24 leftLetters_r28 made_r28 partsMost_r24 at0_47 token_47 tokenAt_47 value_47 wrong_47 wrongAt_47 ∧ wXM D ca s h ad (sI (sI (sI (sI (sI (sI (sI (sI (sI (sI (sI (sI (sI (sI I 5 made_r28) 8 at0_47) 9 token_47) 10 tokenAt_47) 11 value_47) 12 wrong_47) 13 wrongAt_47) 15 depth_r28) 16 countParts_r28) 17 countStatements_r24) 18 partsMost_r24) 19 leftLetters_r28) 21 isRule_r24) 22 isRight_r24) (sF F 3 fresh_r28) H A s.heap locs ∧ lv_has ls 4 [(0, .ref h)]) (fun (at0_47 : Int) (token_47 : Int) (tokenAt_47 : Int) (value_47 : Int) (wrong_47 : Int) (wrongAt_47 : Int) ls => F0 m 47 ls []) (fun at0_47 token_47 tokenAt_47 value_47 wrong_47 wrongAt_47 H locs ls hi => ?_) (fun J47 => ?_)
    · obtain ⟨hw, Wd, hl⟩ := hi
      have Wd47 := Wd
      unfold wp_rule_47 at hw
      refine lv_iconst (v := zI 0) C.1 C.2.1 dX12_rule_47 (by decide) ?_
      exact J48 0 at0_47 token_47 tokenAt_47 value_47 wrong_47 wrongAt_47 _ _ _ ⟨(show rng 0 from by decide), hw, wMc Wd rfl rfl ⟨(rsI (rsI (rsI (rsI (rsI (rsI (rsI (rsI (rsI (rsI (rsI (rsI (rsI (rsI hS.1 (Wc28.2.1 5)) (Wd47.2.1 8)) (Wd47.2.1 9)) (Wd47.2.1 10)) (Wd47.2.1 11)) (Wd47.2.1 12)) (Wd47.2.1 13)) (Wc28.2.1 15)) (Wc28.2.1 16)) (Wc24.2.1 17)) (Wc24.2.1 18)) (Wc28.2.1 19)) (Wc24.2.1 21)) (Wc24.2.1 22)), (rsF hS.2 (fun j => Wc28.2.2 3 j))⟩, lv_sub hl [0] rfl⟩
    refine lv_if_eq (tgt := 47) C.1 C.2.1 dX12_rule_31 (by decide) (fun c31 => ?_) (fun c31 => ?_)
    · have hw := hw.1 (z0_eq g_r28 c31)
      exact J47 at0_r28 token_r28 tokenAt_r28 value_r28 wrong_r28 wrongAt_r28 _ _ _ ⟨hw, wMc Wd rfl rfl ⟨(rsI (rsI (rsI (rsI (rsI (rsI (rsI (rsI (rsI (rsI (rsI (rsI (rsI (rsI hS.1 (Wc28.2.1 5)) (Wc28.2.1 8)) (Wc28.2.1 9)) (Wc28.2.1 10)) (Wc28.2.1 11)) (Wc28.2.1 12)) (Wc28.2.1 13)) (Wc28.2.1 15)) (Wc28.2.1 16)) (Wc24.2.1 17)) (Wc24.2.1 18)) (Wc28.2.1 19)) (Wc24.2.1 21)) (Wc24.2.1 22)), (rsF hS.2 (fun j => Wc28.2.2 3 j))⟩, lv_sub hl [0] rfl⟩
    · have hw := hw.2 (z0_ne g_r28 c31)
      refine lv_aload_n C.1 C.2.1 dX12_rule_34 rfl (lv_at hl 0 rfl) ?_
      refine lv_bipush (v := zI 8) C.1 C.2.1 dX12_rule_35 (by decide) ?_
      refine k_cMi Wd (k_runVMS (rest := []) C aks hE Wd cs_X12_194 (mt_need D h ad ca (sI (sI (sI (sI (sI (sI (sI (sI (sI (sI (sI (sI (sI (sI I 5 made_r28) 8 at0_r28) 9 token_r28) 10 tokenAt_r28) 11 value_r28) 12 wrong_r28) 13 wrongAt_r28) 15 depth_r28) 16 countParts_r28) 17 countStatements_r24) 18 partsMost_r24) 19 leftLetters_r28) 21 isRule_r24) 22 isRight_r24) (sF F 3 fresh_r28) Wd.2 adK adV tq 8 (show rng 8 from by decide) _ hw l _) rfl rfl ⟨(Nat.le_of_ble_eq_true rfl), (Nat.le_of_ble_eq_true rfl)⟩ hl.1 rfl rfl (Nat.le_of_ble_eq_true rfl) ⟨(Nat.le_of_ble_eq_true rfl), (Nat.le_of_ble_eq_true rfl)⟩ dX12_rule_37) (fun r37 u37 H locs g_r37 hw Wd => ?_)
      obtain ⟨at0_r37, token_r37, tokenAt_r37, value_r37, wrong_r37, wrongAt_r37⟩ := u37
      dsimp only at hw
      have Wc37 := Wd
      have Wd : wXM D ca s h ad (sI (sI (sI (sI (sI (sI (sI (sI (sI (sI (sI (sI (sI (sI I 5 made_r28) 8 at0_r37) 9 token_r37) 10 tokenAt_r37) 11 value_r37) 12 wrong_r37) 13 wrongAt_r37) 15 depth_r28) 16 countParts_r28) 17 countStatements_r24) 18 partsMost_r24) 19 leftLetters_r28) 21 isRule_r24) 22 isRight_r24) (sF F 3 fresh_r28) H A s.heap locs := wMc Wd rfl rfl ⟨(rsI (rsI (rsI (rsI (rsI (rsI (rsI (rsI (rsI (rsI (rsI (rsI (rsI (rsI hS.1 (Wc28.2.1 5)) (Wc37.2.1 8)) (Wc37.2.1 9)) (Wc37.2.1 10)) (Wc37.2.1 11)) (Wc37.2.1 12)) (Wc37.2.1 13)) (Wc28.2.1 15)) (Wc28.2.1 16)) (Wc24.2.1 17)) (Wc24.2.1 18)) (Wc28.2.1 19)) (Wc24.2.1 21)) (Wc24.2.1 22)), (rsF hS.2 (fun j => Wc28.2.2 3 j))⟩
      refine lv_if_eq (tgt := 47) C.1 C.2.1 dX12_rule_40 (by decide) (fun c40 => ?_) (fun c40 => ?_)
      · have hw := hw.1 (z0_eq g_r37 c40)
        exact J47 at0_r37 token_r37 tokenAt_r37 value_r37 wrong_r37 wrongAt_r37 _ _ _ ⟨hw, wMc Wd rfl rfl ⟨(rsI (rsI (rsI (rsI (rsI (rsI (rsI (rsI (rsI (rsI (rsI (rsI (rsI (rsI hS.1 (Wc28.2.1 5)) (Wc37.2.1 8)) (Wc37.2.1 9)) (Wc37.2.1 10)) (Wc37.2.1 11)) (Wc37.2.1 12)) (Wc37.2.1 13)) (Wc28.2.1 15)) (Wc28.2.1 16)) (Wc24.2.1 17)) (Wc24.2.1 18)) (Wc28.2.1 19)) (Wc24.2.1 21)) (Wc24.2.1 22)), (rsF hS.2 (fun j => Wc28.2.2 3 j))⟩, lv_sub hl [0] rfl⟩
      · have hw := hw.2 (z0_ne g_r37 c40)
        refine lv_iconst (v := zI 1) C.1 C.2.1 dX12_rule_43 (by decide) ?_
        refine lv_goto (tgt := 48) C.1 C.2.1 dX12_rule_44 (by decide) ?_
        exact J48 1 at0_r37 token_r37 tokenAt_r37 value_r37 wrong_r37 wrongAt_r37 _ _ _ ⟨(show rng 1 from by decide), hw, wMc Wd rfl rfl ⟨(rsI (rsI (rsI (rsI (rsI (rsI (rsI (rsI (rsI (rsI (rsI (rsI (rsI (rsI hS.1 (Wc28.2.1 5)) (Wc37.2.1 8)) (Wc37.2.1 9)) (Wc37.2.1 10)) (Wc37.2.1 11)) (Wc37.2.1 12)) (Wc37.2.1 13)) (Wc28.2.1 15)) (Wc28.2.1 16)) (Wc24.2.1 17)) (Wc24.2.1 18)) (Wc28.2.1 19)) (Wc24.2.1 21)) (Wc24.2.1 22)), (rsF hS.2 (fun j => Wc28.2.2 3 j))⟩, lv_sub hl [0] rfl⟩
  · have hw := hw.2 (z_eq (hS.1 23) (show rng 12 from by decide) c11)
    refine lv_aload_n C.1 C.2.1 dX12_rule_14 rfl (lv_at hl 0 rfl) ?_
    refine k_cMv Wd (k_runVM (rest := []) C aks Wd cs_X12_252 (mt_ends D h ad ca (sI I 12 0) F Wd.2   _ hw l _) rfl rfl ⟨(Nat.le_of_ble_eq_true rfl), (Nat.le_of_ble_eq_true rfl)⟩ hl.1 rfl rfl (Nat.le_of_ble_eq_true rfl) ⟨(Nat.le_of_ble_eq_true rfl), (Nat.le_of_ble_eq_true rfl)⟩ dX12_rule_15) (fun u15 H locs hw Wd => ?_)
    obtain ⟨taped_r15, faultKind_r15, faultPlace_r15⟩ := u15
    dsimp only at hw
    have Wc15 := Wd
    have Wd : wXM D ca s h ad (sI (sI (sI (sI I 7 taped_r15) 12 0) 14 faultKind_r15) 20 faultPlace_r15) F H A s.heap locs := wMc Wd rfl rfl ⟨(rsI (rsI (rsI (rsI hS.1 (Wc15.2.1 7)) (show rng 0 from by decide)) (Wc15.2.1 14)) (Wc15.2.1 20)), hS.2⟩
    refine lv_iconst (v := zI (-1)) C.1 C.2.1 dX12_rule_18 (by decide) ?_
    exact k_retMi C hr hlk rfl Wd (u := ((F 3), (I 5), taped_r15, (I 8), (I 9), (I 10), (I 11), 0, (I 13), faultKind_r15, (I 15), (I 16), (I 17), (I 18), (I 19), faultPlace_r15, (I 21), (I 22), (I 23), (F 24), (F 25), (F 26), (F 27))) rfl rfl ⟨⟨_, rfl, (show rng (-1) from by decide), hw⟩, ⟨(rsI (rsI (rsI (rsI (rsI (rsI (rsI (rsI (rsI (rsI (rsI (rsI (rsI (rsI (rsI (rsI (rsI (rsI hS.1 (hS.1 5)) (Wc15.2.1 7)) (hS.1 8)) (hS.1 9)) (hS.1 10)) (hS.1 11)) (show rng 0 from by decide)) (hS.1 13)) (Wc15.2.1 14)) (hS.1 15)) (hS.1 16)) (hS.1 17)) (hS.1 18)) (hS.1 19)) (Wc15.2.1 20)) (hS.1 21)) (hS.1 22)) (hS.1 23)), (rsF (rsF (rsF (rsF (rsF hS.2 (hS.2 3)) (hS.2 24)) (hS.2 25)) (hS.2 26)) (hS.2 27))⟩⟩ dX12_rule_19
set_option maxHeartbeats 4000000 in
set_option maxRecDepth 100000 in
theorem mt_fault : ∀ (D : va_G) (h : Nat) (ad : Nat → Nat) (ca : Nat → ClassId) (I : Nat → Int) (F : Nat → Int → Int) (hS : rngS I F) (x0 : Int) (g_x0 : rng x0) (K : Int → Prop) (hw : wp_fault (I 14) (I 20) x0 K) (l : Launch) (sz : Nat), Met l yX12_fault (Cond.code yX12_fault cX12_fault 2 (some .int) :: gG) { frames := 1, cells := 0, slots := 0, locals := 64 } (cPre D (tM ca) (wM h ad ca I F) sz [.ref h, .int (zI x0)]) (vp_Si (fun r => ∃ x : Int, r = zI x ∧ rng x ∧ K x)) 0 0 (fun _ => False) := by
  intro D h ad ca I F hS x0 g_x0 K hw l sz
  refine Met.ofW (cc := cX12_fault) (maxL := 2) (ret := (some .int)) (by decide) rfl ?_
  intro p e s m args below meth c s₁ B hml hv
  obtain ⟨rfl, aks, rfl, Wd⟩ := k_enter hv
  have C : CallFix p m c cX12_fault 2 s _ gG RX12 := ⟨B.exec, B.bytes, hml, findClass_of_methodNamed B.named, fun w h => atoms_spec (ws := Cond.code yX12_fault cX12_fault 2 (some .int) :: gG) B.pre w (List.mem_cons_of_mem _ h)⟩
  have hr := B.returns
  have hlk := B.notSynchronized
  obtain ⟨A, Wd⟩ : ∃ A, wXM D ca s h ad I F s.heap A s.heap [] := ⟨_, Wd, hS⟩
  refine k_locals (Nat.le_of_ble_eq_true rfl) [(0, .ref h), (1, .int (zI x0))] rfl (fun ls hl => ?_)
  unfold wp_fault at hw
  refine lv_iload_n C.1 C.2.1 dX12_fault_0 rfl (lv_at hl 1 rfl) ?_
  refine lv_if_ne (tgt := 11) C.1 C.2.1 dX12_fault_1 (by decide) (fun c1 => ?_) (fun c1 => ?_)
  · have hw := hw.1 (z0_ne g_x0 c1)
    refine lv_iload_n C.1 C.2.1 dX12_fault_11 rfl (lv_at hl 1 rfl) ?_
    refine lv_iconst (v := zI 1) C.1 C.2.1 dX12_fault_12 (by decide) ?_
    refine lv_icmp_ne (tgt := 23) C.1 C.2.1 dX12_fault_13 (by decide) (fun c13 => ?_) (fun c13 => ?_)
    · have hw := hw.1 (z_ne g_x0 (show rng 1 from by decide) c13)
      refine lv_iconst (v := zI (-1)) C.1 C.2.1 dX12_fault_23 (by decide) ?_
      exact k_zretP C hr hlk rfl ⟨_, rfl, (show rng (-1) from by decide), hw⟩ dX12_fault_24
    · have hw := hw.2 (z_eq g_x0 (show rng 1 from by decide) c13)
      refine lv_aload_n C.1 C.2.1 dX12_fault_16 rfl (lv_at hl 0 rfl) ?_
      refine k_get (v := .int (zI (I 20))) C Wd.1 KX12 0 20 wM0 (by decide) fl_X12_25 rfl dX12_fault_17 ?_
      refine lv_goto (tgt := 24) C.1 C.2.1 dX12_fault_20 (by decide) ?_
      exact k_zretP C hr hlk rfl ⟨_, rfl, (hS.1 20), hw⟩ dX12_fault_24
  · have hw := hw.2 (z0_eq g_x0 c1)
    refine lv_aload_n C.1 C.2.1 dX12_fault_4 rfl (lv_at hl 0 rfl) ?_
    refine k_get (v := .int (zI (I 14))) C Wd.1 KX12 0 14 wM0 (by decide) fl_X12_246 rfl dX12_fault_5 ?_
    refine lv_goto (tgt := 24) C.1 C.2.1 dX12_fault_8 (by decide) ?_
    exact k_zretP C hr hlk rfl ⟨_, rfl, (hS.1 14), hw⟩ dX12_fault_24
set_option maxHeartbeats 4000000 in
set_option maxRecDepth 100000 in
theorem mt_at : ∀ (D : va_G) (h : Nat) (ad : Nat → Nat) (ca : Nat → ClassId) (I : Nat → Int) (F : Nat → Int → Int) (hS : rngS I F) (x0 : Int) (x1 : Int) (g_x0 : rng x0) (g_x1 : rng x1) (K : Int → Prop) (hw : wp_at (F 0) (F 1) x0 x1 K) (l : Launch) (sz : Nat), Met l yX12_at (Cond.code yX12_at cX12_at 3 (some .int) :: gG) { frames := 3, cells := 0, slots := 0, locals := 106 } (cPre D (tM ca) (wM h ad ca I F) sz [.ref h, .int (zI x0), .int (zI x1)]) (vp_Si (fun r => ∃ x : Int, r = zI x ∧ rng x ∧ K x)) 0 0 (fun _ => False) := by
  intro D h ad ca I F hS x0 x1 g_x0 g_x1 K hw l sz
  refine Met.ofW (cc := cX12_at) (maxL := 3) (ret := (some .int)) (by decide) rfl ?_
  intro p e s m args below meth c s₁ B hml hv
  obtain ⟨rfl, aks, rfl, Wd⟩ := k_enter hv
  have C : CallFix p m c cX12_at 3 s _ gG RX12 := ⟨B.exec, B.bytes, hml, findClass_of_methodNamed B.named, fun w h => atoms_spec (ws := Cond.code yX12_at cX12_at 3 (some .int) :: gG) B.pre w (List.mem_cons_of_mem _ h)⟩
  have hr := B.returns
  have hlk := B.notSynchronized
  obtain ⟨A, Wd⟩ : ∃ A, wXM D ca s h ad I F s.heap A s.heap [] := ⟨_, Wd, hS⟩
  refine k_locals (Nat.le_of_ble_eq_true rfl) [(0, .ref h), (1, .int (zI x0)), (2, .int (zI x1))] rfl (fun ls hl => ?_)
  unfold wp_at at hw
  refine lv_iload_n C.1 C.2.1 dX12_at_0 rfl (lv_at hl 1 rfl) ?_
  refine k_pi (k_runS (rest := []) C aks Wd.1 cs_X12_249 (mt_isSlot D x0 g_x0 _ hw l _) [] rfl (by decide) [] rfl rfl rfl ⟨(Nat.le_of_ble_eq_true rfl), (Nat.le_of_ble_eq_true rfl)⟩ hl.1 rfl rfl (Nat.le_of_ble_eq_true rfl) ⟨(Nat.le_of_ble_eq_true rfl), (Nat.le_of_ble_eq_true rfl)⟩ dX12_at_1) (fun y1 hy => ?_)
  obtain ⟨r1, rfl, g_r1, hw⟩ := hy
  refine lv_if_eq (tgt := 38) C.1 C.2.1 dX12_at_4 (by decide) (fun c4 => ?_) (fun c4 => ?_)
  · have hw := hw.1 (z0_eq g_r1 c4)
    refine lv_iconst (v := zI (-1)) C.1 C.2.1 dX12_at_38 (by decide) ?_
    exact k_zretP C hr hlk rfl ⟨_, rfl, (show rng (-1) from by decide), hw⟩ dX12_at_39
  · have hw := hw.2 (z0_ne g_r1 c4)
    refine lv_iload_n C.1 C.2.1 dX12_at_7 rfl (lv_at hl 2 rfl) ?_
    refine lv_iconst (v := zI 0) C.1 C.2.1 dX12_at_8 (by decide) ?_
    refine lv_aload_n C.1 C.2.1 dX12_at_9 rfl (lv_at hl 0 rfl) ?_
    refine k_get (v := .ref (ad 1)) C Wd.1 KX12 0 1 wM0 (by decide) fl_X12_13 rfl dX12_at_10 ?_
    refine lv_iload_n C.1 C.2.1 dX12_at_13 rfl (lv_at hl 1 rfl) ?_
    obtain ⟨a14, hw⟩ := hw
    refine k_ialdM (g := (F 1)) C Wd 2 1 rfl rfl a14 (by decide) dX12_at_14 ?_
    have g14 : rng ((F 1) x0) := rngL (hS.2 1) a14
    refine lv_iconst (v := zI 1) C.1 C.2.1 dX12_at_15 (by decide) ?_
    refine k_isub (v := zI (((F 1) x0) - 1)) C (zI_isub _ _) dX12_at_16 ?_
    obtain ⟨g17_0, hw⟩ := hw
    refine k_pi (k_runS (rest := []) C aks Wd.1 cs_X12_90 (mt_isIn D x1 0 (((F 1) x0) - 1) g_x1 (show rng 0 from by decide) g17_0 _ hw l _) [] rfl (by decide) [] rfl rfl rfl ⟨(Nat.le_of_ble_eq_true rfl), (Nat.le_of_ble_eq_true rfl)⟩ hl.1 rfl rfl (Nat.le_of_ble_eq_true rfl) ⟨(Nat.le_of_ble_eq_true rfl), (Nat.le_of_ble_eq_true rfl)⟩ dX12_at_17) (fun y17 hy => ?_)
    obtain ⟨r17, rfl, g_r17, hw⟩ := hy
    refine lv_if_eq (tgt := 38) C.1 C.2.1 dX12_at_20 (by decide) (fun c20 => ?_) (fun c20 => ?_)
    · have hw := hw.1 (z0_eq g_r17 c20)
      refine lv_iconst (v := zI (-1)) C.1 C.2.1 dX12_at_38 (by decide) ?_
      exact k_zretP C hr hlk rfl ⟨_, rfl, (show rng (-1) from by decide), hw⟩ dX12_at_39
    · have hw := hw.2 (z0_ne g_r17 c20)
      refine lv_aload_n C.1 C.2.1 dX12_at_23 rfl (lv_at hl 0 rfl) ?_
      refine k_get (v := .ref (ad 0)) C Wd.1 KX12 0 0 wM0 (by decide) fl_X12_7 rfl dX12_at_24 ?_
      refine lv_sipush (v := zI 520) C.1 C.2.1 dX12_at_27 (zS (by decide) (by decide)) ?_
      refine lv_iload_n C.1 C.2.1 dX12_at_30 rfl (lv_at hl 1 rfl) ?_
      refine k_imul (v := zI (520 * x0)) C (zI_imul _ _) dX12_at_31 ?_
      refine lv_iload_n C.1 C.2.1 dX12_at_32 rfl (lv_at hl 2 rfl) ?_
      refine k_iadd (v := zI ((520 * x0) + x1)) C (zI_iadd _ _) dX12_at_33 ?_
      obtain ⟨a34, hw⟩ := hw
      refine k_ialdM (g := (F 0)) C Wd 1 0 rfl rfl a34 (by decide) dX12_at_34 ?_
      have g34 : rng ((F 0) ((520 * x0) + x1)) := rngL (hS.2 0) a34
      refine lv_goto (tgt := 39) C.1 C.2.1 dX12_at_35 (by decide) ?_
      exact k_zretP C hr hlk rfl ⟨_, rfl, g34, hw⟩ dX12_at_39
set_option maxHeartbeats 4000000 in
set_option maxRecDepth 100000 in
theorem mt_reads : ∀ (D : va_G) (h : Nat) (ad : Nat → Nat) (ca : Nat → ClassId) (I : Nat → Int) (F : Nat → Int → Int) (hS : rngS I F) (x0 : Int) (x1 : Int) (g_x0 : rng x0) (g_x1 : rng x1) (K : Int → Prop) (hw : wp_reads (F 2) x0 x1 K) (l : Launch) (sz : Nat), Met l yX12_reads (Cond.code yX12_reads cX12_reads 5 (some .int) :: gG) { frames := 2, cells := 0, slots := 0, locals := 86 } (cPre D (tM ca) (wM h ad ca I F) sz [.ref h, .int (zI x0), .int (zI x1)]) (vp_Si (fun r => ∃ x : Int, r = zI x ∧ rng x ∧ K x)) 0 0 (fun _ => False) := by
  intro D h ad ca I F hS x0 x1 g_x0 g_x1 K hw l sz
  refine Met.ofW (cc := cX12_reads) (maxL := 5) (ret := (some .int)) (by decide) rfl ?_
  intro p e s m args below meth c s₁ B hml hv
  obtain ⟨rfl, aks, rfl, Wd⟩ := k_enter hv
  have C : CallFix p m c cX12_reads 5 s _ gG RX12 := ⟨B.exec, B.bytes, hml, findClass_of_methodNamed B.named, fun w h => atoms_spec (ws := Cond.code yX12_reads cX12_reads 5 (some .int) :: gG) B.pre w (List.mem_cons_of_mem _ h)⟩
  have hr := B.returns
  have hlk := B.notSynchronized
  obtain ⟨A, Wd⟩ : ∃ A, wXM D ca s h ad I F s.heap A s.heap [] := ⟨_, Wd, hS⟩
  refine k_locals (Nat.le_of_ble_eq_true rfl) [(0, .ref h), (1, .int (zI x0)), (2, .int (zI x1))] rfl (fun ls hl => ?_)
  unfold wp_reads at hw
  refine lv_iconst (v := zI 0) C.1 C.2.1 dX12_reads_0 (by decide) ?_
  refine lv_istore_n (lv' := [(3, .int (zI 0)), (0, .ref h), (1, .int (zI x0)), (2, .int (zI x1))]) C.1 C.2.1 dX12_reads_1 rfl hl (by decide) rfl (fun ls hl => ?_)
  replace hl := lv_sub hl [1, 2, 3, 0] rfl
  refine lv_iload_n C.1 C.2.1 dX12_reads_2 rfl (lv_at hl 1 rfl) ?_
  refine lv_istore (lv' := [(4, .int (zI x0)), (0, .ref h), (1, .int (zI x0)), (2, .int (zI x1)), (3, .int (zI 0))]) C.1 C.2.1 dX12_reads_3 hl (by decide) rfl (fun ls hl => ?_)
  replace hl := lv_sub hl [1, 2, 3, 4, 0] rfl
  refine k_lp2 hw (fun (l3_5 : Int) (l4_5 : Int) H locs ls => rng l3_5 ∧ rng l4_5 ∧ wXM D ca s h ad I F H A s.heap locs ∧ H = s.heap ∧ locs = [] ∧ lv_has ls 5 [(0, .ref h), (2, .int (zI x1)), (3, .int (zI l3_5)), (4, .int (zI l4_5))]) (fun (l3_5 : Int) (l4_5 : Int) ls => F0 m 5 ls []) (fun L5 hL5 l3_5 l4_5 hw H locs ls hi => ?_) _ _ _ ⟨(show rng 0 from by decide), g_x0, Wd, rfl, rfl, lv_sub hl [0, 2, 3, 4] rfl⟩
  obtain ⟨g_l3_5, g_l4_5, Wd, rfl, rfl, hl⟩ := hi
  have Wd5 := Wd
  unfold wp_reads_5 at hw
  refine lv_iload C.1 C.2.1 dX12_reads_5 (lv_at hl 3 rfl) ?_
  refine lv_iload_n C.1 C.2.1 dX12_reads_7 rfl (lv_at hl 1 rfl) ?_
  refine lv_icmp_ge (tgt := 53) C.1 C.2.1 dX12_reads_8 (by decide) (fun c8 => ?_) (fun c8 => ?_)
  · have hw := hw.1 (z_le g_x1 g_l4_5 c8)
    refine lv_iload_n C.1 C.2.1 dX12_reads_53 rfl (lv_at hl 2 rfl) ?_
    exact k_zretP C hr hlk rfl ⟨_, rfl, g_l3_5, hw⟩ dX12_reads_54
  · have hw := hw.2 (z_nle g_x1 g_l4_5 c8)
    refine lv_iload_n C.1 C.2.1 dX12_reads_11 rfl (lv_at hl 2 rfl) ?_
    refine lv_aload_n C.1 C.2.1 dX12_reads_12 rfl (lv_at hl 0 rfl) ?_
    refine k_get (v := .ref (ad 2)) C Wd.1 KX12 0 2 wM0 (by decide) fl_X12_16 rfl dX12_reads_13 ?_
    refine lv_iload C.1 C.2.1 dX12_reads_16 (lv_at hl 3 rfl) ?_
    obtain ⟨a18, hw⟩ := hw
    refine k_ialdM (g := (F 2)) C Wd 3 2 rfl rfl a18 (by decide) dX12_reads_18 ?_
    have g18 : rng ((F 2) l4_5) := rngL (hS.2 2) a18
    refine lv_bipush (v := zI 20) C.1 C.2.1 dX12_reads_19 (by decide) ?_
    refine lv_bipush (v := zI 25) C.1 C.2.1 dX12_reads_21 (by decide) ?_
    refine k_pi (k_runS (rest := [.int (zI l3_5)]) C aks Wd.1 cs_X12_90 (mt_isIn D ((F 2) l4_5) 20 25 g18 (show rng 20 from by decide) (show rng 25 from by decide) _ hw l _) [] rfl (by decide) [] rfl rfl rfl ⟨(Nat.le_of_ble_eq_true rfl), (Nat.le_of_ble_eq_true rfl)⟩ hl.1 rfl rfl (Nat.le_of_ble_eq_true rfl) ⟨(Nat.le_of_ble_eq_true rfl), (Nat.le_of_ble_eq_true rfl)⟩ dX12_reads_23) (fun y23 hy => ?_)
    obtain ⟨r23, rfl, g_r23, hw⟩ := hy
    refine lv_if_eq (tgt := 44) C.1 C.2.1 dX12_reads_26 (by decide) (fun c26 => ?_) (fun c26 => ?_)
    · have hw := hw.1 (z0_eq g_r23 c26)
      refine lv_iconst (v := zI 0) C.1 C.2.1 dX12_reads_44 (by decide) ?_
      refine k_ior (v := zI (zior l3_5 0)) C (zior_eq _ _) dX12_reads_45 ?_
      refine lv_istore_n (lv' := [(3, .int (zI (zior l3_5 0))), (0, .ref h), (2, .int (zI x1)), (4, .int (zI l4_5))]) C.1 C.2.1 dX12_reads_46 rfl hl (by decide) rfl (fun ls hl => ?_)
      replace hl := lv_sub hl [1, 2, 0, 3] rfl
      refine lv_iinc (v := zI (l4_5 + 1)) (lv' := [(4, .int (zI (l4_5 + 1))), (0, .ref h), (2, .int (zI x1)), (3, .int (zI (zior l3_5 0)))]) C.1 C.2.1 dX12_reads_47 hl (k := 3) rfl (zI_inc _ _ (by decide)) (by decide) rfl (fun ls hl => ?_)
      replace hl := lv_sub hl [1, 2, 3, 0] rfl
      refine lv_goto (tgt := 5) C.1 C.2.1 dX12_reads_50 (by decide) ?_
      obtain ⟨g50_0, hw⟩ := hw
      exact hL5 _ _ hw _ _ _ ⟨(rng_toInt _), g50_0, Wd, rfl, rfl, lv_sub hl [0, 1, 2, 3] rfl⟩
    · have hw := hw.2 (z0_ne g_r23 c26)
      refine lv_iconst (v := zI 1) C.1 C.2.1 dX12_reads_29 (by decide) ?_
      refine lv_aload_n C.1 C.2.1 dX12_reads_30 rfl (lv_at hl 0 rfl) ?_
      refine k_get (v := .ref (ad 2)) C Wd.1 KX12 0 2 wM0 (by decide) fl_X12_16 rfl dX12_reads_31 ?_
      refine lv_iload C.1 C.2.1 dX12_reads_34 (lv_at hl 3 rfl) ?_
      obtain ⟨a36, hw⟩ := hw
      refine k_ialdM (g := (F 2)) C Wd 3 2 rfl rfl a36 (by decide) dX12_reads_36 ?_
      refine lv_bipush (v := zI 20) C.1 C.2.1 dX12_reads_37 (by decide) ?_
      refine k_isub (v := zI (((F 2) l4_5) - 20)) C (zI_isub _ _) dX12_reads_39 ?_
      refine k_ishl (v := zI (zishl 1 (((F 2) l4_5) - 20))) C (zishl_eq _ _) dX12_reads_40 ?_
      refine lv_goto (tgt := 45) C.1 C.2.1 dX12_reads_41 (by decide) ?_
      refine k_ior (v := zI (zior l3_5 (zishl 1 (((F 2) l4_5) - 20)))) C (zior_eq _ _) dX12_reads_45 ?_
      refine lv_istore_n (lv' := [(3, .int (zI (zior l3_5 (zishl 1 (((F 2) l4_5) - 20))))), (0, .ref h), (2, .int (zI x1)), (4, .int (zI l4_5))]) C.1 C.2.1 dX12_reads_46 rfl hl (by decide) rfl (fun ls hl => ?_)
      replace hl := lv_sub hl [1, 2, 0, 3] rfl
      refine lv_iinc (v := zI (l4_5 + 1)) (lv' := [(4, .int (zI (l4_5 + 1))), (0, .ref h), (2, .int (zI x1)), (3, .int (zI (zior l3_5 (zishl 1 (((F 2) l4_5) - 20)))))]) C.1 C.2.1 dX12_reads_47 hl (k := 3) rfl (zI_inc _ _ (by decide)) (by decide) rfl (fun ls hl => ?_)
      replace hl := lv_sub hl [1, 2, 3, 0] rfl
      refine lv_goto (tgt := 5) C.1 C.2.1 dX12_reads_50 (by decide) ?_
      obtain ⟨g50_0, hw⟩ := hw
      exact hL5 _ _ hw _ _ _ ⟨(rng_toInt _), g50_0, Wd, rfl, rfl, lv_sub hl [0, 1, 2, 3] rfl⟩
set_option maxHeartbeats 4000000 in
set_option maxRecDepth 100000 in
theorem mg_liveFrom (n : Nat) : (∀ (D : va_G) (h : Nat) (ad : Nat → Nat) (ca : Nat → ClassId) (I : Nat → Int) (F : Nat → Int → Int) (hS : rngS I F) (x0 : Int) (x1 : Int) (g_x0 : rng x0) (g_x1 : rng x1) (K : Int → Prop) (hw : wp_liveFrom n (F 2) (I 4) x0 x1 K) (l : Launch) (sz : Nat), Met l yX12_liveFrom (Cond.code yX12_liveFrom cX12_liveFrom 3 (some .int) :: gG) { frames := 609 + n, cells := 0, slots := 0, locals := 12992 + 26 * n } (cPre D (tM ca) (wM h ad ca I F) sz [.ref h, .int (zI x0), .int (zI x1)]) (vp_Si (fun r => ∃ x : Int, r = zI x ∧ rng x ∧ K x)) 0 0 (fun _ => False)) ∧ (∀ (D : va_G) (h : Nat) (ad : Nat → Nat) (ca : Nat → ClassId) (I : Nat → Int) (F : Nat → Int → Int) (hS : rngS I F) (x0 : Int) (x1 : Int) (g_x0 : rng x0) (g_x1 : rng x1) (K : Int → Prop) (hw : wp_liveAt n (F 2) (I 4) x0 x1 K) (l : Launch) (sz : Nat), Met l yX12_liveAt (Cond.code yX12_liveAt cX12_liveAt 7 (some .int) :: gG) { frames := 609 + n, cells := 0, slots := 0, locals := 12992 + 26 * n } (cPre D (tM ca) (wM h ad ca I F) sz [.ref h, .int (zI x0), .int (zI x1)]) (vp_Si (fun r => ∃ x : Int, r = zI x ∧ rng x ∧ K x)) 0 0 (fun _ => False)) := by
  induction n with
  | zero => exact ⟨(fun _ _ _ _ _ _ _ _ _ _ _ _ hw => absurd hw id), (fun _ _ _ _ _ _ _ _ _ _ _ _ hw => absurd hw id)⟩
  | succ n ih =>
    obtain ⟨ih_liveFrom, ih_liveAt⟩ := ih
    refine ⟨?_, ?_⟩
    · intro D h ad ca I F hS x0 x1 g_x0 g_x1 K hw l sz
      refine Met.ofW (cc := cX12_liveFrom) (maxL := 3) (ret := (some .int)) (by decide) rfl ?_
      intro p e s m args below meth c s₁ B hml hv
      obtain ⟨rfl, aks, rfl, Wd⟩ := k_enter hv
      have C : CallFix p m c cX12_liveFrom 3 s _ gG RX12 := ⟨B.exec, B.bytes, hml, findClass_of_methodNamed B.named, fun w h => atoms_spec (ws := Cond.code yX12_liveFrom cX12_liveFrom 3 (some .int) :: gG) B.pre w (List.mem_cons_of_mem _ h)⟩
      have hr := B.returns
      have hlk := B.notSynchronized
      obtain ⟨A, Wd⟩ : ∃ A, wXM D ca s h ad I F s.heap A s.heap [] := ⟨_, Wd, hS⟩
      refine k_locals (Nat.le_of_ble_eq_true rfl) [(0, .ref h), (1, .int (zI x0)), (2, .int (zI x1))] rfl (fun ls hl => ?_)
      replace hw : wp_liveFrom_b (wp_liveFrom n) (wp_liveAt n) (F 2) (I 4) x0 x1 K := hw
      unfold wp_liveFrom_b at hw
      refine lv_aload_n C.1 C.2.1 dX12_liveFrom_0 rfl (lv_at hl 0 rfl) ?_
      refine lv_iload_n C.1 C.2.1 dX12_liveFrom_1 rfl (lv_at hl 1 rfl) ?_
      refine k_pi (k_runVM (rest := []) C aks Wd cs_X12_107 (mt_isLast D h ad ca I F Wd.2 x0 g_x0 _ hw l _) rfl rfl ⟨(by show 1 + 1 ≤ 609 + (n + 1); omega), (by show 8 + (2 + 11) + (64) ≤ 12992 + 26 * (n + 1); omega)⟩ hl.1 rfl rfl (Nat.le_of_ble_eq_true rfl) ⟨(Nat.le_of_ble_eq_true rfl), (Nat.le_of_ble_eq_true rfl)⟩ dX12_liveFrom_2) (fun y2 hy => ?_)
      obtain ⟨r2, rfl, g_r2, hw⟩ := hy
      refine lv_if_eq (tgt := 12) C.1 C.2.1 dX12_liveFrom_5 (by decide) (fun c5 => ?_) (fun c5 => ?_)
      · have hw := hw.1 (z0_eq g_r2 c5)
        refine lv_aload_n C.1 C.2.1 dX12_liveFrom_12 rfl (lv_at hl 0 rfl) ?_
        refine lv_iload_n C.1 C.2.1 dX12_liveFrom_13 rfl (lv_at hl 1 rfl) ?_
        refine lv_aload_n C.1 C.2.1 dX12_liveFrom_14 rfl (lv_at hl 0 rfl) ?_
        refine lv_aload_n C.1 C.2.1 dX12_liveFrom_15 rfl (lv_at hl 0 rfl) ?_
        refine lv_iload_n C.1 C.2.1 dX12_liveFrom_16 rfl (lv_at hl 1 rfl) ?_
        refine k_pi (k_runVM (rest := [.ref h, .int (zI x0), .ref h]) C aks Wd cs_X12_104 (mt_behind D h ad ca I F Wd.2 x0 g_x0 _ hw l _) rfl rfl ⟨(by show 606 + 1 ≤ 609 + (n + 1); omega), (by show 8 + (3 + 11) + (12908) ≤ 12992 + 26 * (n + 1); omega)⟩ hl.1 rfl rfl (Nat.le_of_ble_eq_true rfl) ⟨(Nat.le_of_ble_eq_true rfl), (Nat.le_of_ble_eq_true rfl)⟩ dX12_liveFrom_17) (fun y17 hy => ?_)
        obtain ⟨r17, rfl, g_r17, hw⟩ := hy
        refine lv_iload_n C.1 C.2.1 dX12_liveFrom_20 rfl (lv_at hl 2 rfl) ?_
        refine k_pi (k_runVM (rest := [.int (zI x0), .ref h]) C aks Wd cs_X12_277 (ih_liveFrom D h ad ca I F Wd.2 r17 x1 g_r17 g_x1 _ hw l _) rfl rfl ⟨(by show 609 + n + 1 ≤ 609 + (n + 1); omega), (by show 8 + (3 + 11) + (12992 + 26 * n) ≤ 12992 + 26 * (n + 1); omega)⟩ hl.1 rfl rfl (Nat.le_of_ble_eq_true rfl) ⟨(Nat.le_of_ble_eq_true rfl), (Nat.le_of_ble_eq_true rfl)⟩ dX12_liveFrom_21) (fun y21 hy => ?_)
        obtain ⟨r21, rfl, g_r21, hw⟩ := hy
        refine k_pi (k_runVM (rest := []) C aks Wd cs_X12_376 (ih_liveAt D h ad ca I F Wd.2 x0 r21 g_x0 g_r21 _ hw l _) rfl rfl ⟨(by show 609 + n + 1 ≤ 609 + (n + 1); omega), (by show 8 + (7 + 11) + (12992 + 26 * n) ≤ 12992 + 26 * (n + 1); omega)⟩ hl.1 rfl rfl (Nat.le_of_ble_eq_true rfl) ⟨(Nat.le_of_ble_eq_true rfl), (Nat.le_of_ble_eq_true rfl)⟩ dX12_liveFrom_24) (fun y24 hy => ?_)
        obtain ⟨r24, rfl, g_r24, hw⟩ := hy
        exact k_zretP C hr hlk rfl ⟨_, rfl, g_r24, hw⟩ dX12_liveFrom_27
      · have hw := hw.2 (z0_ne g_r2 c5)
        refine lv_iload_n C.1 C.2.1 dX12_liveFrom_8 rfl (lv_at hl 2 rfl) ?_
        refine lv_goto (tgt := 27) C.1 C.2.1 dX12_liveFrom_9 (by decide) ?_
        exact k_zretP C hr hlk rfl ⟨_, rfl, g_x1, hw⟩ dX12_liveFrom_27
    · intro D h ad ca I F hS x0 x1 g_x0 g_x1 K hw l sz
      refine Met.ofW (cc := cX12_liveAt) (maxL := 7) (ret := (some .int)) (by decide) rfl ?_
      intro p e s m args below meth c s₁ B hml hv
      obtain ⟨rfl, aks, rfl, Wd⟩ := k_enter hv
      have C : CallFix p m c cX12_liveAt 7 s _ gG RX12 := ⟨B.exec, B.bytes, hml, findClass_of_methodNamed B.named, fun w h => atoms_spec (ws := Cond.code yX12_liveAt cX12_liveAt 7 (some .int) :: gG) B.pre w (List.mem_cons_of_mem _ h)⟩
      have hr := B.returns
      have hlk := B.notSynchronized
      obtain ⟨A, Wd⟩ : ∃ A, wXM D ca s h ad I F s.heap A s.heap [] := ⟨_, Wd, hS⟩
      refine k_locals (Nat.le_of_ble_eq_true rfl) [(0, .ref h), (1, .int (zI x0)), (2, .int (zI x1))] rfl (fun ls hl => ?_)
      replace hw : wp_liveAt_b (wp_liveFrom n) (wp_liveAt n) (F 2) (I 4) x0 x1 K := hw
      unfold wp_liveAt_b at hw
      refine lv_aload_n C.1 C.2.1 dX12_liveAt_0 rfl (lv_at hl 0 rfl) ?_
      refine k_get (v := .ref (ad 2)) C Wd.1 KX12 0 2 wM0 (by decide) fl_X12_16 rfl dX12_liveAt_1 ?_
      refine lv_iload_n C.1 C.2.1 dX12_liveAt_4 rfl (lv_at hl 1 rfl) ?_
      obtain ⟨a5, hw⟩ := hw
      refine k_ialdM (g := (F 2)) C Wd 3 2 rfl rfl a5 (by decide) dX12_liveAt_5 ?_
      have g5 : rng ((F 2) x0) := rngL (hS.2 2) a5
      refine lv_istore_n (lv' := [(3, .int (zI ((F 2) x0))), (0, .ref h), (1, .int (zI x0)), (2, .int (zI x1))]) C.1 C.2.1 dX12_liveAt_6 rfl hl (by decide) rfl (fun ls hl => ?_)
      replace hl := lv_sub hl [1, 2, 3, 0] rfl
      refine lv_iload_n C.1 C.2.1 dX12_liveAt_7 rfl (lv_at hl 3 rfl) ?_
      refine lv_bipush (v := zI 111) C.1 C.2.1 dX12_liveAt_8 (by decide) ?_
      refine lv_icmp_ne (tgt := 15) C.1 C.2.1 dX12_liveAt_10 (by decide) (fun c10 => ?_) (fun c10 => ?_)
      · have hw := hw.1 (z_ne g5 (show rng 111 from by decide) c10)
        refine lv_iload_n C.1 C.2.1 dX12_liveAt_15 rfl (lv_at hl 3 rfl) ?_
        refine lv_bipush (v := zI 110) C.1 C.2.1 dX12_liveAt_16 (by decide) ?_
        refine lv_icmp_ne (tgt := 34) C.1 C.2.1 dX12_liveAt_18 (by decide) (fun c18 => ?_) (fun c18 => ?_)
        · have hw := hw.1 (z_ne g5 (show rng 110 from by decide) c18)
          refine lv_iload_n C.1 C.2.1 dX12_liveAt_34 rfl (lv_at hl 3 rfl) ?_
          refine lv_bipush (v := zI 110) C.1 C.2.1 dX12_liveAt_35 (by decide) ?_
          refine lv_icmp_ge (tgt := 62) C.1 C.2.1 dX12_liveAt_37 (by decide) (fun c37 => ?_) (fun c37 => ?_)
          · have hw := hw.1 (z_le (show rng 110 from by decide) g5 c37)
            refine lv_aload_n C.1 C.2.1 dX12_liveAt_62 rfl (lv_at hl 0 rfl) ?_
            refine lv_iload_n C.1 C.2.1 dX12_liveAt_63 rfl (lv_at hl 1 rfl) ?_
            refine k_pi (k_runVM (rest := []) C aks Wd cs_X12_101 (mt_body D h ad ca I F Wd.2 x0 g_x0 _ hw l _) rfl rfl ⟨(by show 504 + 1 ≤ 609 + (n + 1); omega), (by show 8 + (2 + 11) + (10647) ≤ 12992 + 26 * (n + 1); omega)⟩ hl.1 rfl rfl (Nat.le_of_ble_eq_true rfl) ⟨(Nat.le_of_ble_eq_true rfl), (Nat.le_of_ble_eq_true rfl)⟩ dX12_liveAt_64) (fun y64 hy => ?_)
            obtain ⟨r64, rfl, g_r64, hw⟩ := hy
            refine lv_istore (lv' := [(4, .int (zI r64)), (0, .ref h), (1, .int (zI x0)), (2, .int (zI x1)), (3, .int (zI ((F 2) x0)))]) C.1 C.2.1 dX12_liveAt_67 hl (by decide) rfl (fun ls hl => ?_)
            replace hl := lv_sub hl [1, 2, 3, 4, 0] rfl
            refine lv_aload_n C.1 C.2.1 dX12_liveAt_69 rfl (lv_at hl 0 rfl) ?_
            refine lv_iload_n C.1 C.2.1 dX12_liveAt_70 rfl (lv_at hl 1 rfl) ?_
            refine lv_iconst (v := zI 2) C.1 C.2.1 dX12_liveAt_71 (by decide) ?_
            refine k_iadd (v := zI (x0 + 2)) C (zI_iadd _ _) dX12_liveAt_72 ?_
            refine lv_iload C.1 C.2.1 dX12_liveAt_73 (lv_at hl 4 rfl) ?_
            obtain ⟨g75_0, hw⟩ := hw
            refine k_pi (k_runVM (rest := []) C aks Wd cs_X12_379 (mt_reads D h ad ca I F Wd.2 (x0 + 2) r64 g75_0 g_r64 _ hw l _) rfl rfl ⟨(by show 2 + 1 ≤ 609 + (n + 1); omega), (by show 8 + (5 + 11) + (86) ≤ 12992 + 26 * (n + 1); omega)⟩ hl.1 rfl rfl (Nat.le_of_ble_eq_true rfl) ⟨(Nat.le_of_ble_eq_true rfl), (Nat.le_of_ble_eq_true rfl)⟩ dX12_liveAt_75) (fun y75 hy => ?_)
            obtain ⟨r75, rfl, g_r75, hw⟩ := hy
            refine lv_istore (lv' := [(5, .int (zI r75)), (0, .ref h), (1, .int (zI x0)), (2, .int (zI x1)), (3, .int (zI ((F 2) x0))), (4, .int (zI r64))]) C.1 C.2.1 dX12_liveAt_78 hl (by decide) rfl (fun ls hl => ?_)
            replace hl := lv_sub hl [1, 2, 3, 4, 5, 0] rfl
            refine lv_iload_n C.1 C.2.1 dX12_liveAt_80 rfl (lv_at hl 3 rfl) ?_
            refine lv_bipush (v := zI 112) C.1 C.2.1 dX12_liveAt_81 (by decide) ?_
            refine lv_icmp_ne (tgt := 131) C.1 C.2.1 dX12_liveAt_83 (by decide) (fun c83 => ?_) (fun c83 => ?_)
            · have hw := hw.1 (z_ne g5 (show rng 112 from by decide) c83)
              refine lv_iload C.1 C.2.1 dX12_liveAt_131 (lv_at hl 5 rfl) ?_
              refine lv_iload_n C.1 C.2.1 dX12_liveAt_133 rfl (lv_at hl 2 rfl) ?_
              refine k_ior (v := zI (zior r75 x1)) C (zior_eq _ _) dX12_liveAt_134 ?_
              refine lv_istore (lv' := [(6, .int (zI (zior r75 x1))), (0, .ref h), (1, .int (zI x0)), (2, .int (zI x1)), (3, .int (zI ((F 2) x0))), (4, .int (zI r64)), (5, .int (zI r75))]) C.1 C.2.1 dX12_liveAt_135 hl (by decide) rfl (fun ls hl => ?_)
              replace hl := lv_sub hl [1, 2, 3, 4, 5, 6, 0] rfl
              refine k_lp1 hw (fun (l6_137 : Int) H locs ls => rng l6_137 ∧ wXM D ca s h ad I F H A s.heap locs ∧ H = s.heap ∧ locs = [] ∧ lv_has ls 7 [(0, .ref h), (4, .int (zI r64)), (6, .int (zI l6_137))]) (fun (l6_137 : Int) ls => F0 m 137 ls []) (fun L137 hL137 l6_137 hw H locs ls hi => ?_) _ _ _ ⟨(rng_toInt _), Wd, rfl, rfl, lv_sub hl [0, 4, 6] rfl⟩
              obtain ⟨g_l6_137, Wd, rfl, rfl, hl⟩ := hi
              have Wd137 := Wd
              unfold wp_liveAt_137 at hw
              refine lv_iload C.1 C.2.1 dX12_liveAt_137 (lv_at hl 2 rfl) ?_
              refine lv_aload_n C.1 C.2.1 dX12_liveAt_139 rfl (lv_at hl 0 rfl) ?_
              refine lv_iload C.1 C.2.1 dX12_liveAt_140 (lv_at hl 1 rfl) ?_
              refine lv_iload C.1 C.2.1 dX12_liveAt_142 (lv_at hl 2 rfl) ?_
              refine k_pi (k_runVM (rest := [.int (zI l6_137)]) C aks Wd cs_X12_277 (ih_liveFrom D h ad ca I F Wd.2 r64 l6_137 g_r64 g_l6_137 _ hw l _) rfl rfl ⟨(by show 609 + n + 1 ≤ 609 + (n + 1); omega), (by show 8 + (3 + 11) + (12992 + 26 * n) ≤ 12992 + 26 * (n + 1); omega)⟩ hl.1 rfl rfl (Nat.le_of_ble_eq_true rfl) ⟨(Nat.le_of_ble_eq_true rfl), (Nat.le_of_ble_eq_true rfl)⟩ dX12_liveAt_144) (fun y144 hy => ?_)
              obtain ⟨r144, rfl, g_r144, hw⟩ := hy
              refine k_ior (v := zI (zior l6_137 r144)) C (zior_eq _ _) dX12_liveAt_147 ?_
              refine lv_iload C.1 C.2.1 dX12_liveAt_148 (lv_at hl 2 rfl) ?_
              refine lv_icmp_eq (tgt := 169) C.1 C.2.1 dX12_liveAt_150 (by decide) (fun c150 => ?_) (fun c150 => ?_)
              · have hw := hw.1 (z_eq (rng_toInt _) g_l6_137 c150)
                refine lv_iload C.1 C.2.1 dX12_liveAt_169 (lv_at hl 2 rfl) ?_
                exact k_zretP C hr hlk rfl ⟨_, rfl, g_l6_137, hw⟩ dX12_liveAt_171
              · have hw := hw.2 (z_ne (rng_toInt _) g_l6_137 c150)
                refine lv_iload C.1 C.2.1 dX12_liveAt_153 (lv_at hl 2 rfl) ?_
                refine lv_aload_n C.1 C.2.1 dX12_liveAt_155 rfl (lv_at hl 0 rfl) ?_
                refine lv_iload C.1 C.2.1 dX12_liveAt_156 (lv_at hl 1 rfl) ?_
                refine lv_iload C.1 C.2.1 dX12_liveAt_158 (lv_at hl 2 rfl) ?_
                refine k_pi (k_runVM (rest := [.int (zI l6_137)]) C aks Wd cs_X12_277 (ih_liveFrom D h ad ca I F Wd.2 r64 l6_137 g_r64 g_l6_137 _ hw l _) rfl rfl ⟨(by show 609 + n + 1 ≤ 609 + (n + 1); omega), (by show 8 + (3 + 11) + (12992 + 26 * n) ≤ 12992 + 26 * (n + 1); omega)⟩ hl.1 rfl rfl (Nat.le_of_ble_eq_true rfl) ⟨(Nat.le_of_ble_eq_true rfl), (Nat.le_of_ble_eq_true rfl)⟩ dX12_liveAt_160) (fun y160 hy => ?_)
                obtain ⟨r160, rfl, g_r160, hw⟩ := hy
                refine k_ior (v := zI (zior l6_137 r160)) C (zior_eq _ _) dX12_liveAt_163 ?_
                refine lv_istore (lv' := [(6, .int (zI (zior l6_137 r160))), (0, .ref h), (4, .int (zI r64))]) C.1 C.2.1 dX12_liveAt_164 hl (by decide) rfl (fun ls hl => ?_)
                replace hl := lv_sub hl [1, 2, 0] rfl
                refine lv_goto (tgt := 137) C.1 C.2.1 dX12_liveAt_166 (by decide) ?_
                exact hL137 _ hw _ _ _ ⟨(rng_toInt _), Wd, rfl, rfl, lv_sub hl [0, 1, 2] rfl⟩
            · have hw := hw.2 (z_eq g5 (show rng 112 from by decide) c83)
              refine lv_aload_n C.1 C.2.1 dX12_liveAt_86 rfl (lv_at hl 0 rfl) ?_
              refine lv_iload C.1 C.2.1 dX12_liveAt_87 (lv_at hl 4 rfl) ?_
              refine k_pi (k_runVM (rest := []) C aks Wd cs_X12_309 (mt_close D h ad ca I F Wd.2 r64 g_r64 _ hw l _) rfl rfl ⟨(by show 607 + 1 ≤ 609 + (n + 1); omega), (by show 8 + (3 + 11) + (12930) ≤ 12992 + 26 * (n + 1); omega)⟩ hl.1 rfl rfl (Nat.le_of_ble_eq_true rfl) ⟨(Nat.le_of_ble_eq_true rfl), (Nat.le_of_ble_eq_true rfl)⟩ dX12_liveAt_89) (fun y89 hy => ?_)
              obtain ⟨r89, rfl, g_r89, hw⟩ := hy
              refine lv_istore (lv' := [(6, .int (zI r89)), (0, .ref h), (1, .int (zI x0)), (2, .int (zI x1)), (3, .int (zI ((F 2) x0))), (4, .int (zI r64)), (5, .int (zI r75))]) C.1 C.2.1 dX12_liveAt_92 hl (by decide) rfl (fun ls hl => ?_)
              replace hl := lv_sub hl [1, 2, 3, 4, 5, 6, 0] rfl
              refine lv_iload C.1 C.2.1 dX12_liveAt_94 (lv_at hl 5 rfl) ?_
              refine lv_aload_n C.1 C.2.1 dX12_liveAt_96 rfl (lv_at hl 0 rfl) ?_
              refine lv_iload C.1 C.2.1 dX12_liveAt_97 (lv_at hl 4 rfl) ?_
              refine lv_iload_n C.1 C.2.1 dX12_liveAt_99 rfl (lv_at hl 2 rfl) ?_
              refine k_pi (k_runVM (rest := [.int (zI r75)]) C aks Wd cs_X12_277 (ih_liveFrom D h ad ca I F Wd.2 r64 x1 g_r64 g_x1 _ hw l _) rfl rfl ⟨(by show 609 + n + 1 ≤ 609 + (n + 1); omega), (by show 8 + (3 + 11) + (12992 + 26 * n) ≤ 12992 + 26 * (n + 1); omega)⟩ hl.1 rfl rfl (Nat.le_of_ble_eq_true rfl) ⟨(Nat.le_of_ble_eq_true rfl), (Nat.le_of_ble_eq_true rfl)⟩ dX12_liveAt_100) (fun y100 hy => ?_)
              obtain ⟨r100, rfl, g_r100, hw⟩ := hy
              refine k_ior (v := zI (zior r75 r100)) C (zior_eq _ _) dX12_liveAt_103 ?_
              refine lv_aload_n C.1 C.2.1 dX12_liveAt_104 rfl (lv_at hl 0 rfl) ?_
              refine k_get (v := .ref (ad 2)) C Wd.1 KX12 0 2 wM0 (by decide) fl_X12_16 rfl dX12_liveAt_105 ?_
              refine lv_iload C.1 C.2.1 dX12_liveAt_108 (lv_at hl 6 rfl) ?_
              obtain ⟨a110, hw⟩ := hw
              refine k_ialdM (g := (F 2)) C Wd 3 2 rfl rfl a110 (by decide) dX12_liveAt_110 ?_
              have g110 : rng ((F 2) r89) := rngL (hS.2 2) a110
              refine lv_bipush (v := zI 113) C.1 C.2.1 dX12_liveAt_111 (by decide) ?_
              refine lv_icmp_ne (tgt := 128) C.1 C.2.1 dX12_liveAt_113 (by decide) (fun c113 => ?_) (fun c113 => ?_)
              · have hw := hw.1 (z_ne g110 (show rng 113 from by decide) c113)
                refine lv_iload_n C.1 C.2.1 dX12_liveAt_128 rfl (lv_at hl 2 rfl) ?_
                refine k_ior (v := zI (zior (zior r75 r100) x1)) C (zior_eq _ _) dX12_liveAt_129 ?_
                exact k_zretP C hr hlk rfl ⟨_, rfl, (rng_toInt _), hw⟩ dX12_liveAt_130
              · have hw := hw.2 (z_eq g110 (show rng 113 from by decide) c113)
                refine lv_aload_n C.1 C.2.1 dX12_liveAt_116 rfl (lv_at hl 0 rfl) ?_
                refine lv_iload C.1 C.2.1 dX12_liveAt_117 (lv_at hl 6 rfl) ?_
                refine lv_iconst (v := zI 1) C.1 C.2.1 dX12_liveAt_119 (by decide) ?_
                refine k_iadd (v := zI (r89 + 1)) C (zI_iadd _ _) dX12_liveAt_120 ?_
                refine lv_iload_n C.1 C.2.1 dX12_liveAt_121 rfl (lv_at hl 2 rfl) ?_
                obtain ⟨g122_0, hw⟩ := hw
                refine k_pi (k_runVM (rest := [.int (zI (zior r75 r100))]) C aks Wd cs_X12_277 (ih_liveFrom D h ad ca I F Wd.2 (r89 + 1) x1 g122_0 g_x1 _ hw l _) rfl rfl ⟨(by show 609 + n + 1 ≤ 609 + (n + 1); omega), (by show 8 + (3 + 11) + (12992 + 26 * n) ≤ 12992 + 26 * (n + 1); omega)⟩ hl.1 rfl rfl (Nat.le_of_ble_eq_true rfl) ⟨(Nat.le_of_ble_eq_true rfl), (Nat.le_of_ble_eq_true rfl)⟩ dX12_liveAt_122) (fun y122 hy => ?_)
                obtain ⟨r122, rfl, g_r122, hw⟩ := hy
                refine lv_goto (tgt := 129) C.1 C.2.1 dX12_liveAt_125 (by decide) ?_
                refine k_ior (v := zI (zior (zior r75 r100) r122)) C (zior_eq _ _) dX12_liveAt_129 ?_
                exact k_zretP C hr hlk rfl ⟨_, rfl, (rng_toInt _), hw⟩ dX12_liveAt_130
          · have hw := hw.2 (z_nle (show rng 110 from by decide) g5 c37)
            refine lv_iload_n C.1 C.2.1 dX12_liveAt_40 rfl (lv_at hl 2 rfl) ?_
            refine lv_iconst (v := zI 1) C.1 C.2.1 dX12_liveAt_41 (by decide) ?_
            refine lv_iload_n C.1 C.2.1 dX12_liveAt_42 rfl (lv_at hl 3 rfl) ?_
            refine lv_bipush (v := zI 100) C.1 C.2.1 dX12_liveAt_43 (by decide) ?_
            refine k_isub (v := zI (((F 2) x0) - 100)) C (zI_isub _ _) dX12_liveAt_45 ?_
            refine k_ishl (v := zI (zishl 1 (((F 2) x0) - 100))) C (zishl_eq _ _) dX12_liveAt_46 ?_
            refine lv_iconst (v := zI (-1)) C.1 C.2.1 dX12_liveAt_47 (by decide) ?_
            refine k_ixor (v := zI (zixor (zishl 1 (((F 2) x0) - 100)) (-1))) C (zixor_eq _ _) dX12_liveAt_48 ?_
            refine k_iand (v := zI (ziand x1 (zixor (zishl 1 (((F 2) x0) - 100)) (-1)))) C (ziand_eq _ _) dX12_liveAt_49 ?_
            refine lv_aload_n C.1 C.2.1 dX12_liveAt_50 rfl (lv_at hl 0 rfl) ?_
            refine lv_iload_n C.1 C.2.1 dX12_liveAt_51 rfl (lv_at hl 1 rfl) ?_
            refine lv_aload_n C.1 C.2.1 dX12_liveAt_52 rfl (lv_at hl 0 rfl) ?_
            refine lv_iload_n C.1 C.2.1 dX12_liveAt_53 rfl (lv_at hl 1 rfl) ?_
            refine k_pi (k_runVM (rest := [.int (zI x0), .ref h, .int (zI (ziand x1 (zixor (zishl 1 (((F 2) x0) - 100)) (-1))))]) C aks Wd cs_X12_104 (mt_behind D h ad ca I F Wd.2 x0 g_x0 _ hw l _) rfl rfl ⟨(by show 606 + 1 ≤ 609 + (n + 1); omega), (by show 8 + (3 + 11) + (12908) ≤ 12992 + 26 * (n + 1); omega)⟩ hl.1 rfl rfl (Nat.le_of_ble_eq_true rfl) ⟨(Nat.le_of_ble_eq_true rfl), (Nat.le_of_ble_eq_true rfl)⟩ dX12_liveAt_54) (fun y54 hy => ?_)
            obtain ⟨r54, rfl, g_r54, hw⟩ := hy
            refine k_pi (k_runVM (rest := [.int (zI (ziand x1 (zixor (zishl 1 (((F 2) x0) - 100)) (-1))))]) C aks Wd cs_X12_379 (mt_reads D h ad ca I F Wd.2 x0 r54 g_x0 g_r54 _ hw l _) rfl rfl ⟨(by show 2 + 1 ≤ 609 + (n + 1); omega), (by show 8 + (5 + 11) + (86) ≤ 12992 + 26 * (n + 1); omega)⟩ hl.1 rfl rfl (Nat.le_of_ble_eq_true rfl) ⟨(Nat.le_of_ble_eq_true rfl), (Nat.le_of_ble_eq_true rfl)⟩ dX12_liveAt_57) (fun y57 hy => ?_)
            obtain ⟨r57, rfl, g_r57, hw⟩ := hy
            refine k_ior (v := zI (zior (ziand x1 (zixor (zishl 1 (((F 2) x0) - 100)) (-1))) r57)) C (zior_eq _ _) dX12_liveAt_60 ?_
            exact k_zretP C hr hlk rfl ⟨_, rfl, (rng_toInt _), hw⟩ dX12_liveAt_61
        · have hw := hw.2 (z_eq g5 (show rng 110 from by decide) c18)
          refine lv_iload_n C.1 C.2.1 dX12_liveAt_21 rfl (lv_at hl 2 rfl) ?_
          refine lv_aload_n C.1 C.2.1 dX12_liveAt_22 rfl (lv_at hl 0 rfl) ?_
          refine lv_iload_n C.1 C.2.1 dX12_liveAt_23 rfl (lv_at hl 1 rfl) ?_
          refine lv_aload_n C.1 C.2.1 dX12_liveAt_24 rfl (lv_at hl 0 rfl) ?_
          refine lv_iload_n C.1 C.2.1 dX12_liveAt_25 rfl (lv_at hl 1 rfl) ?_
          refine k_pi (k_runVM (rest := [.int (zI x0), .ref h, .int (zI x1)]) C aks Wd cs_X12_104 (mt_behind D h ad ca I F Wd.2 x0 g_x0 _ hw l _) rfl rfl ⟨(by show 606 + 1 ≤ 609 + (n + 1); omega), (by show 8 + (3 + 11) + (12908) ≤ 12992 + 26 * (n + 1); omega)⟩ hl.1 rfl rfl (Nat.le_of_ble_eq_true rfl) ⟨(Nat.le_of_ble_eq_true rfl), (Nat.le_of_ble_eq_true rfl)⟩ dX12_liveAt_26) (fun y26 hy => ?_)
          obtain ⟨r26, rfl, g_r26, hw⟩ := hy
          refine k_pi (k_runVM (rest := [.int (zI x1)]) C aks Wd cs_X12_379 (mt_reads D h ad ca I F Wd.2 x0 r26 g_x0 g_r26 _ hw l _) rfl rfl ⟨(by show 2 + 1 ≤ 609 + (n + 1); omega), (by show 8 + (5 + 11) + (86) ≤ 12992 + 26 * (n + 1); omega)⟩ hl.1 rfl rfl (Nat.le_of_ble_eq_true rfl) ⟨(Nat.le_of_ble_eq_true rfl), (Nat.le_of_ble_eq_true rfl)⟩ dX12_liveAt_29) (fun y29 hy => ?_)
          obtain ⟨r29, rfl, g_r29, hw⟩ := hy
          refine k_ior (v := zI (zior x1 r29)) C (zior_eq _ _) dX12_liveAt_32 ?_
          exact k_zretP C hr hlk rfl ⟨_, rfl, (rng_toInt _), hw⟩ dX12_liveAt_33
      · have hw := hw.2 (z_eq g5 (show rng 111 from by decide) c10)
        refine lv_iconst (v := zI 0) C.1 C.2.1 dX12_liveAt_13 (by decide) ?_
        exact k_zretP C hr hlk rfl ⟨_, rfl, (show rng 0 from by decide), hw⟩ dX12_liveAt_14
theorem mt_liveFrom : ∀ (D : va_G) (h : Nat) (ad : Nat → Nat) (ca : Nat → ClassId) (I : Nat → Int) (F : Nat → Int → Int) (hS : rngS I F) (x0 : Int) (x1 : Int) (g_x0 : rng x0) (g_x1 : rng x1) (K : Int → Prop) (hw : wp_liveFrom 100 (F 2) (I 4) x0 x1 K) (l : Launch) (sz : Nat), Met l yX12_liveFrom (Cond.code yX12_liveFrom cX12_liveFrom 3 (some .int) :: gG) { frames := 709, cells := 0, slots := 0, locals := 15592 } (cPre D (tM ca) (wM h ad ca I F) sz [.ref h, .int (zI x0), .int (zI x1)]) (vp_Si (fun r => ∃ x : Int, r = zI x ∧ rng x ∧ K x)) 0 0 (fun _ => False) := (mg_liveFrom 100).1
theorem mt_liveAt : ∀ (D : va_G) (h : Nat) (ad : Nat → Nat) (ca : Nat → ClassId) (I : Nat → Int) (F : Nat → Int → Int) (hS : rngS I F) (x0 : Int) (x1 : Int) (g_x0 : rng x0) (g_x1 : rng x1) (K : Int → Prop) (hw : wp_liveAt 100 (F 2) (I 4) x0 x1 K) (l : Launch) (sz : Nat), Met l yX12_liveAt (Cond.code yX12_liveAt cX12_liveAt 7 (some .int) :: gG) { frames := 709, cells := 0, slots := 0, locals := 15592 } (cPre D (tM ca) (wM h ad ca I F) sz [.ref h, .int (zI x0), .int (zI x1)]) (vp_Si (fun r => ∃ x : Int, r = zI x ∧ rng x ∧ K x)) 0 0 (fun _ => False) := (mg_liveFrom 100).2
set_option maxHeartbeats 4000000 in
set_option maxRecDepth 100000 in
theorem mt_size : ∀ (D : va_G) (h : Nat) (ad : Nat → Nat) (ca : Nat → ClassId) (I : Nat → Int) (F : Nat → Int → Int) (hS : rngS I F) (x0 : Int) (x1 : Int) (g_x0 : rng x0) (g_x1 : rng x1) (K : Int → (Int → Int) → Int → Prop) (hw : wp_size (F 0) (F 1) (F 2) (I 4) x0 x1 K) (l : Launch) (sz : Nat), Met l yX12_size (Cond.code yX12_size cX12_size 3 (some .int) :: gG) { frames := 710, cells := 0, slots := 0, locals := 15614 } (cPre D (tM ca) (wM h ad ca I F) sz [.ref h, .int (zI x0), .int (zI x1)]) (va_Qi (fun (r : Int32) (u : (Int → Int) × (Int)) => (∃ x : Int, r = zI x ∧ rng x ∧ K x u.1 u.2) ∧ rngS (sI I 4 u.2) (sF F 2 u.1)) (fun u t => cB D (va_A (wM h ad ca I F) sz) [] (wM h ad ca (sI I 4 u.2) (sF F 2 u.1)) t) (va_A (wM h ad ca I F) sz)) 0 0 (va_A (wM h ad ca I F) sz) := by
  intro D h ad ca I F hS x0 x1 g_x0 g_x1 K hw l sz
  refine Met.ofW (cc := cX12_size) (maxL := 3) (ret := (some .int)) (by decide) rfl ?_
  intro p e s m args below meth c s₁ B hml hv
  obtain ⟨rfl, aks, rfl, Wd⟩ := k_enter hv
  have C : CallFix p m c cX12_size 3 s _ gG RX12 := ⟨B.exec, B.bytes, hml, findClass_of_methodNamed B.named, fun w h => atoms_spec (ws := Cond.code yX12_size cX12_size 3 (some .int) :: gG) B.pre w (List.mem_cons_of_mem _ h)⟩
  have hr := B.returns
  have hlk := B.notSynchronized
  generalize va_A (wM h ad ca I F) s.heap.size = A at Wd ⊢
  replace Wd : wXM D ca s h ad I F s.heap A s.heap [] := ⟨Wd, hS⟩
  refine k_locals (Nat.le_of_ble_eq_true rfl) [(0, .ref h), (1, .int (zI x0)), (2, .int (zI x1))] rfl (fun ls hl => ?_)
  unfold wp_size at hw
  refine lv_iload_n C.1 C.2.1 dX12_size_0 rfl (lv_at hl 1 rfl) ?_
  refine k_pi (k_runS (rest := []) C aks Wd.1 cs_X12_249 (mt_isSlot D x0 g_x0 _ hw l _) [] rfl (by decide) [] rfl rfl rfl ⟨(Nat.le_of_ble_eq_true rfl), (Nat.le_of_ble_eq_true rfl)⟩ hl.1 rfl rfl (Nat.le_of_ble_eq_true rfl) ⟨(Nat.le_of_ble_eq_true rfl), (Nat.le_of_ble_eq_true rfl)⟩ dX12_size_1) (fun y1 hy => ?_)
  obtain ⟨r1, rfl, g_r1, hw⟩ := hy
  refine lv_if_eq (tgt := 16) C.1 C.2.1 dX12_size_4 (by decide) (fun c4 => ?_) (fun c4 => ?_)
  · have hw := hw.1 (z0_eq g_r1 c4)
    refine lv_iconst (v := zI (-1)) C.1 C.2.1 dX12_size_16 (by decide) ?_
    exact k_retMi C hr hlk rfl Wd (u := ((F 2), (I 4))) rfl rfl ⟨⟨_, rfl, (show rng (-1) from by decide), hw⟩, ⟨(rsI hS.1 (hS.1 4)), (rsF hS.2 (hS.2 2))⟩⟩ dX12_size_17
  · have hw := hw.2 (z0_ne g_r1 c4)
    refine lv_iload_n C.1 C.2.1 dX12_size_7 rfl (lv_at hl 2 rfl) ?_
    refine lv_iconst (v := zI 0) C.1 C.2.1 dX12_size_8 (by decide) ?_
    refine lv_iconst (v := zI 3) C.1 C.2.1 dX12_size_9 (by decide) ?_
    refine k_pi (k_runS (rest := []) C aks Wd.1 cs_X12_90 (mt_isIn D x1 0 3 g_x1 (show rng 0 from by decide) (show rng 3 from by decide) _ hw l _) [] rfl (by decide) [] rfl rfl rfl ⟨(Nat.le_of_ble_eq_true rfl), (Nat.le_of_ble_eq_true rfl)⟩ hl.1 rfl rfl (Nat.le_of_ble_eq_true rfl) ⟨(Nat.le_of_ble_eq_true rfl), (Nat.le_of_ble_eq_true rfl)⟩ dX12_size_10) (fun y10 hy => ?_)
    obtain ⟨r10, rfl, g_r10, hw⟩ := hy
    refine lv_if_ne (tgt := 18) C.1 C.2.1 dX12_size_13 (by decide) (fun c13 => ?_) (fun c13 => ?_)
    · have hw := hw.1 (z0_ne g_r10 c13)
      refine lv_aload_n C.1 C.2.1 dX12_size_18 rfl (lv_at hl 0 rfl) ?_
      refine lv_iload_n C.1 C.2.1 dX12_size_19 rfl (lv_at hl 1 rfl) ?_
      refine k_cMv Wd (k_runVM (rest := []) C aks Wd cs_X12_271 (mt_takes D h ad ca I F Wd.2 x0 g_x0 _ hw l _) rfl rfl ⟨(Nat.le_of_ble_eq_true rfl), (Nat.le_of_ble_eq_true rfl)⟩ hl.1 rfl rfl (Nat.le_of_ble_eq_true rfl) ⟨(Nat.le_of_ble_eq_true rfl), (Nat.le_of_ble_eq_true rfl)⟩ dX12_size_20) (fun u20 H locs hw Wd => ?_)
      obtain ⟨row_r20, many_r20⟩ := u20
      dsimp only at hw
      have Wc20 := Wd
      have Wd : wXM D ca s h ad (sI I 4 many_r20) (sF F 2 row_r20) H A s.heap locs := wMc Wd rfl rfl ⟨(rsI hS.1 (Wc20.2.1 4)), (rsF hS.2 (fun j => Wc20.2.2 2 j))⟩
      refine lv_iload_n C.1 C.2.1 dX12_size_23 rfl (lv_at hl 2 rfl) ?_
      refine lv_if_ne (tgt := 34) C.1 C.2.1 dX12_size_24 (by decide) (fun c24 => ?_) (fun c24 => ?_)
      · have hw := hw.1 (z0_ne g_x1 c24)
        refine lv_iload_n C.1 C.2.1 dX12_size_34 rfl (lv_at hl 2 rfl) ?_
        refine lv_iconst (v := zI 1) C.1 C.2.1 dX12_size_35 (by decide) ?_
        refine lv_icmp_ne (tgt := 46) C.1 C.2.1 dX12_size_36 (by decide) (fun c36 => ?_) (fun c36 => ?_)
        · have hw := hw.1 (z_ne g_x1 (show rng 1 from by decide) c36)
          refine lv_iload_n C.1 C.2.1 dX12_size_46 rfl (lv_at hl 2 rfl) ?_
          refine lv_iconst (v := zI 2) C.1 C.2.1 dX12_size_47 (by decide) ?_
          refine lv_icmp_ne (tgt := 58) C.1 C.2.1 dX12_size_48 (by decide) (fun c48 => ?_) (fun c48 => ?_)
          · have hw := hw.1 (z_ne g_x1 (show rng 2 from by decide) c48)
            refine lv_aload_n C.1 C.2.1 dX12_size_58 rfl (lv_at hl 0 rfl) ?_
            refine lv_iconst (v := zI 0) C.1 C.2.1 dX12_size_59 (by decide) ?_
            refine lv_iconst (v := zI 0) C.1 C.2.1 dX12_size_60 (by decide) ?_
            refine k_pi (k_runVM (rest := []) C aks Wd cs_X12_277 (mt_liveFrom D h ad ca (sI I 4 many_r20) (sF F 2 row_r20) Wd.2 0 0 (show rng 0 from by decide) (show rng 0 from by decide) _ hw l _) rfl rfl ⟨(Nat.le_of_ble_eq_true rfl), (Nat.le_of_ble_eq_true rfl)⟩ hl.1 rfl rfl (Nat.le_of_ble_eq_true rfl) ⟨(Nat.le_of_ble_eq_true rfl), (Nat.le_of_ble_eq_true rfl)⟩ dX12_size_61) (fun y61 hy => ?_)
            obtain ⟨r61, rfl, g_r61, hw⟩ := hy
            exact k_retMi C hr hlk rfl Wd (u := (row_r20, many_r20)) rfl rfl ⟨⟨_, rfl, g_r61, hw⟩, ⟨(rsI hS.1 (Wc20.2.1 4)), (rsF hS.2 (fun j => Wc20.2.2 2 j))⟩⟩ dX12_size_64
          · have hw := hw.2 (z_eq g_x1 (show rng 2 from by decide) c48)
            refine lv_aload_n C.1 C.2.1 dX12_size_51 rfl (lv_at hl 0 rfl) ?_
            refine k_get (v := .int (zI many_r20)) C Wd.1 KX12 0 4 wM0 (by decide) fl_X12_98 rfl dX12_size_52 ?_
            refine lv_goto (tgt := 64) C.1 C.2.1 dX12_size_55 (by decide) ?_
            exact k_retMi C hr hlk rfl Wd (u := (row_r20, many_r20)) rfl rfl ⟨⟨_, rfl, (Wc20.2.1 4), hw⟩, ⟨(rsI hS.1 (Wc20.2.1 4)), (rsF hS.2 (fun j => Wc20.2.2 2 j))⟩⟩ dX12_size_64
        · have hw := hw.2 (z_eq g_x1 (show rng 1 from by decide) c36)
          refine lv_aload_n C.1 C.2.1 dX12_size_39 rfl (lv_at hl 0 rfl) ?_
          refine k_pi (k_runVM (rest := []) C aks Wd cs_X12_274 (mt_parts D h ad ca (sI I 4 many_r20) (sF F 2 row_r20) Wd.2   _ hw l _) rfl rfl ⟨(Nat.le_of_ble_eq_true rfl), (Nat.le_of_ble_eq_true rfl)⟩ hl.1 rfl rfl (Nat.le_of_ble_eq_true rfl) ⟨(Nat.le_of_ble_eq_true rfl), (Nat.le_of_ble_eq_true rfl)⟩ dX12_size_40) (fun y40 hy => ?_)
          obtain ⟨r40, rfl, g_r40, hw⟩ := hy
          refine lv_goto (tgt := 64) C.1 C.2.1 dX12_size_43 (by decide) ?_
          exact k_retMi C hr hlk rfl Wd (u := (row_r20, many_r20)) rfl rfl ⟨⟨_, rfl, g_r40, hw⟩, ⟨(rsI hS.1 (Wc20.2.1 4)), (rsF hS.2 (fun j => Wc20.2.2 2 j))⟩⟩ dX12_size_64
      · have hw := hw.2 (z0_eq g_x1 c24)
        refine lv_aload_n C.1 C.2.1 dX12_size_27 rfl (lv_at hl 0 rfl) ?_
        refine k_pi (k_runVM (rest := []) C aks Wd cs_X12_265 (mt_statements D h ad ca (sI I 4 many_r20) (sF F 2 row_r20) Wd.2   _ hw l _) rfl rfl ⟨(Nat.le_of_ble_eq_true rfl), (Nat.le_of_ble_eq_true rfl)⟩ hl.1 rfl rfl (Nat.le_of_ble_eq_true rfl) ⟨(Nat.le_of_ble_eq_true rfl), (Nat.le_of_ble_eq_true rfl)⟩ dX12_size_28) (fun y28 hy => ?_)
        obtain ⟨r28, rfl, g_r28, hw⟩ := hy
        refine lv_goto (tgt := 64) C.1 C.2.1 dX12_size_31 (by decide) ?_
        exact k_retMi C hr hlk rfl Wd (u := (row_r20, many_r20)) rfl rfl ⟨⟨_, rfl, g_r28, hw⟩, ⟨(rsI hS.1 (Wc20.2.1 4)), (rsF hS.2 (fun j => Wc20.2.2 2 j))⟩⟩ dX12_size_64
    · have hw := hw.2 (z0_eq g_r10 c13)
      refine lv_iconst (v := zI (-1)) C.1 C.2.1 dX12_size_16 (by decide) ?_
      exact k_retMi C hr hlk rfl Wd (u := ((F 2), (I 4))) rfl rfl ⟨⟨_, rfl, (show rng (-1) from by decide), hw⟩, ⟨(rsI hS.1 (hS.1 4)), (rsF hS.2 (hS.2 2))⟩⟩ dX12_size_17
set_option maxHeartbeats 4000000 in
set_option maxRecDepth 100000 in
theorem mt_both : ∀ (D : va_G) (x0 : Int) (x1 : Int) (x2 : Int) (g_x0 : rng x0) (g_x1 : rng x1) (g_x2 : rng x2) (K : Int → Prop) (hw : wp_both x0 x1 x2 K) (l : Launch) (sz : Nat), Met l yX12_both (Cond.code yX12_both cX12_both 3 (some .int) :: gG) { frames := 1, cells := 0, slots := 0, locals := 64 } (cPre D [] [] sz [.int (zI x0), .int (zI x1), .int (zI x2)]) (vp_Si (fun r => ∃ x : Int, r = zI x ∧ rng x ∧ K x)) 0 0 (fun _ => False) := by
  intro D x0 x1 x2 g_x0 g_x1 g_x2 K hw l sz
  refine Met.ofW (cc := cX12_both) (maxL := 3) (ret := (some .int)) (by decide) rfl ?_
  intro p e s m args below meth c s₁ B hml hv
  obtain ⟨rfl, aks, rfl, Wd⟩ := k_enter hv
  have C : CallFix p m c cX12_both 3 s _ gG RX12 := ⟨B.exec, B.bytes, hml, findClass_of_methodNamed B.named, fun w h => atoms_spec (ws := Cond.code yX12_both cX12_both 3 (some .int) :: gG) B.pre w (List.mem_cons_of_mem _ h)⟩
  have hr := B.returns
  have hlk := B.notSynchronized
  obtain ⟨A, Wd⟩ : ∃ A, wX D [] s [] s.heap A s.heap [] := ⟨_, Wd⟩
  refine k_locals (Nat.le_of_ble_eq_true rfl) [(0, .int (zI x0)), (1, .int (zI x1)), (2, .int (zI x2))] rfl (fun ls hl => ?_)
  unfold wp_both at hw
  refine lv_iload_n C.1 C.2.1 dX12_both_0 rfl (lv_at hl 0 rfl) ?_
  refine lv_bipush (v := zI 120) C.1 C.2.1 dX12_both_1 (by decide) ?_
  refine lv_icmp_ne (tgt := 12) C.1 C.2.1 dX12_both_3 (by decide) (fun c3 => ?_) (fun c3 => ?_)
  · have hw := hw.1 (z_ne g_x0 (show rng 120 from by decide) c3)
    refine lv_iload_n C.1 C.2.1 dX12_both_12 rfl (lv_at hl 0 rfl) ?_
    refine lv_bipush (v := zI 121) C.1 C.2.1 dX12_both_13 (by decide) ?_
    refine lv_icmp_ne (tgt := 24) C.1 C.2.1 dX12_both_15 (by decide) (fun c15 => ?_) (fun c15 => ?_)
    · have hw := hw.1 (z_ne g_x0 (show rng 121 from by decide) c15)
      refine lv_iload_n C.1 C.2.1 dX12_both_24 rfl (lv_at hl 1 rfl) ?_
      refine lv_iload_n C.1 C.2.1 dX12_both_25 rfl (lv_at hl 2 rfl) ?_
      refine k_imul (v := zI (x1 * x2)) C (zI_imul _ _) dX12_both_26 ?_
      refine lv_bipush (v := zI 15) C.1 C.2.1 dX12_both_27 (by decide) ?_
      refine k_iand (v := zI (ziand (x1 * x2) 15)) C (ziand_eq _ _) dX12_both_29 ?_
      exact k_zretP C hr hlk rfl ⟨_, rfl, (rng_toInt _), hw⟩ dX12_both_30
    · have hw := hw.2 (z_eq g_x0 (show rng 121 from by decide) c15)
      refine lv_iload_n C.1 C.2.1 dX12_both_18 rfl (lv_at hl 1 rfl) ?_
      refine lv_iload_n C.1 C.2.1 dX12_both_19 rfl (lv_at hl 2 rfl) ?_
      refine k_isub (v := zI (x1 - x2)) C (zI_isub _ _) dX12_both_20 ?_
      refine lv_goto (tgt := 27) C.1 C.2.1 dX12_both_21 (by decide) ?_
      refine lv_bipush (v := zI 15) C.1 C.2.1 dX12_both_27 (by decide) ?_
      refine k_iand (v := zI (ziand (x1 - x2) 15)) C (ziand_eq _ _) dX12_both_29 ?_
      exact k_zretP C hr hlk rfl ⟨_, rfl, (rng_toInt _), hw⟩ dX12_both_30
  · have hw := hw.2 (z_eq g_x0 (show rng 120 from by decide) c3)
    refine lv_iload_n C.1 C.2.1 dX12_both_6 rfl (lv_at hl 1 rfl) ?_
    refine lv_iload_n C.1 C.2.1 dX12_both_7 rfl (lv_at hl 2 rfl) ?_
    refine k_iadd (v := zI (x1 + x2)) C (zI_iadd _ _) dX12_both_8 ?_
    refine lv_goto (tgt := 27) C.1 C.2.1 dX12_both_9 (by decide) ?_
    refine lv_bipush (v := zI 15) C.1 C.2.1 dX12_both_27 (by decide) ?_
    refine k_iand (v := zI (ziand (x1 + x2) 15)) C (ziand_eq _ _) dX12_both_29 ?_
    exact k_zretP C hr hlk rfl ⟨_, rfl, (rng_toInt _), hw⟩ dX12_both_30
set_option maxHeartbeats 4000000 in
set_option maxRecDepth 100000 in
theorem mg_worth (n : Nat) : (∀ (D : va_G) (h : Nat) (ad : Nat → Nat) (ca : Nat → ClassId) (I : Nat → Int) (F : Nat → Int → Int) (hS : rngS I F) (K : Int → Int → Prop) (hw : wp_worth n (F 2) (F 28) (I 33) K) (l : Launch) (sz : Nat), Met l yX12_worth (Cond.code yX12_worth cX12_worth 3 (some .int) :: gG) { frames := 3 + n, cells := 0, slots := 0, locals := 126 + 22 * n } (cPre D (tM ca) (wM h ad ca I F) sz [.ref h]) (va_Qi (fun (r : Int32) (u : (Int)) => (∃ x : Int, r = zI x ∧ rng x ∧ K x u) ∧ rngS (sI I 33 u) F) (fun u t => cB D (va_A (wM h ad ca I F) sz) [] (wM h ad ca (sI I 33 u) F) t) (va_A (wM h ad ca I F) sz)) 0 0 (va_A (wM h ad ca I F) sz)) := by
  induction n with
  | zero => exact (fun _ _ _ _ _ _ _ _ hw => absurd hw id)
  | succ n ih =>
    have ih_worth := ih
    intro D h ad ca I F hS  K hw l sz
    refine Met.ofW (cc := cX12_worth) (maxL := 3) (ret := (some .int)) (by decide) rfl ?_
    intro p e s m args below meth c s₁ B hml hv
    obtain ⟨rfl, aks, rfl, Wd⟩ := k_enter hv
    have C : CallFix p m c cX12_worth 3 s _ gG RX12 := ⟨B.exec, B.bytes, hml, findClass_of_methodNamed B.named, fun w h => atoms_spec (ws := Cond.code yX12_worth cX12_worth 3 (some .int) :: gG) B.pre w (List.mem_cons_of_mem _ h)⟩
    have hr := B.returns
    have hlk := B.notSynchronized
    generalize va_A (wM h ad ca I F) s.heap.size = A at Wd ⊢
    replace Wd : wXM D ca s h ad I F s.heap A s.heap [] := ⟨Wd, hS⟩
    refine k_locals (Nat.le_of_ble_eq_true rfl) [(0, .ref h)] rfl (fun ls hl => ?_)
    replace hw : wp_worth_b (wp_worth n) (F 2) (F 28) (I 33) K := hw
    unfold wp_worth_b at hw
    refine lv_aload_n C.1 C.2.1 dX12_worth_0 rfl (lv_at hl 0 rfl) ?_
    refine k_get (v := .ref (ad 2)) C Wd.1 KX12 0 2 wM0 (by decide) fl_X12_16 rfl dX12_worth_1 ?_
    refine lv_aload_n C.1 C.2.1 dX12_worth_4 rfl (lv_at hl 0 rfl) ?_
    refine k_get (v := .int (zI (I 33))) C Wd.1 KX12 0 33 wM0 (by decide) fl_X12_281 rfl dX12_worth_5 ?_
    obtain ⟨a8, hw⟩ := hw
    refine k_ialdM (g := (F 2)) C Wd 3 2 rfl rfl a8 (by decide) dX12_worth_8 ?_
    have g8 : rng ((F 2) (I 33)) := rngL (hS.2 2) a8
    refine lv_istore_n (lv' := [(1, .int (zI ((F 2) (I 33)))), (0, .ref h)]) C.1 C.2.1 dX12_worth_9 rfl hl (by decide) rfl (fun ls hl => ?_)
    replace hl := lv_sub hl [1, 0] rfl
    refine lv_aload_n C.1 C.2.1 dX12_worth_10 rfl (lv_at hl 0 rfl) ?_
    refine lv_dup C.1 C.2.1 dX12_worth_11 rfl ?_
    refine k_get (v := .int (zI (I 33))) C Wd.1 KX12 0 33 wM0 (by decide) fl_X12_281 rfl dX12_worth_12 ?_
    refine lv_iconst (v := zI 1) C.1 C.2.1 dX12_worth_15 (by decide) ?_
    refine k_iadd (v := zI ((I 33) + 1)) C (zI_iadd _ _) dX12_worth_16 ?_
    obtain ⟨g17_0, hw⟩ := hw
    refine k_putM C Wd 33 (sI I 33 ((I 33) + 1)) (by decide) fl_X12_281 rfl rfl rfl rfl (rsI hS.1 g17_0) dX12_worth_17 (fun H locs Wd => ?_)
    refine lv_iload_n C.1 C.2.1 dX12_worth_20 rfl (lv_at hl 1 rfl) ?_
    refine lv_bipush (v := zI 20) C.1 C.2.1 dX12_worth_21 (by decide) ?_
    refine lv_icmp_ge (tgt := 28) C.1 C.2.1 dX12_worth_23 (by decide) (fun c23 => ?_) (fun c23 => ?_)
    · have hw := hw.1 (z_le (show rng 20 from by decide) g8 c23)
      refine lv_iload_n C.1 C.2.1 dX12_worth_28 rfl (lv_at hl 1 rfl) ?_
      refine lv_bipush (v := zI 120) C.1 C.2.1 dX12_worth_29 (by decide) ?_
      refine lv_icmp_ge (tgt := 44) C.1 C.2.1 dX12_worth_31 (by decide) (fun c31 => ?_) (fun c31 => ?_)
      · have hw := hw.1 (z_le (show rng 120 from by decide) g8 c31)
        refine lv_aload_n C.1 C.2.1 dX12_worth_44 rfl (lv_at hl 0 rfl) ?_
        refine k_cMi Wd (k_runVM (rest := []) C aks Wd cs_X12_284 (ih_worth D h ad ca (sI I 33 ((I 33) + 1)) F Wd.2   _ hw l _) rfl rfl ⟨(by show 3 + n + 1 ≤ 3 + (n + 1); omega), (by show 8 + (3 + 11) + (126 + 22 * n) ≤ 126 + 22 * (n + 1); omega)⟩ hl.1 rfl rfl (Nat.le_of_ble_eq_true rfl) ⟨(Nat.le_of_ble_eq_true rfl), (Nat.le_of_ble_eq_true rfl)⟩ dX12_worth_45) (fun r45 cursor_r45 H locs g_r45 hw Wd => ?_)
        have Wc45 := Wd
        have Wd : wXM D ca s h ad (sI I 33 cursor_r45) F H A s.heap locs := wMc Wd rfl rfl ⟨(rsI hS.1 (Wc45.2.1 33)), hS.2⟩
        refine lv_istore_n (lv' := [(2, .int (zI r45)), (0, .ref h), (1, .int (zI ((F 2) (I 33))))]) C.1 C.2.1 dX12_worth_48 rfl hl (by decide) rfl (fun ls hl => ?_)
        replace hl := lv_sub hl [1, 2, 0] rfl
        refine lv_iload_n C.1 C.2.1 dX12_worth_49 rfl (lv_at hl 1 rfl) ?_
        refine lv_iload_n C.1 C.2.1 dX12_worth_50 rfl (lv_at hl 2 rfl) ?_
        refine lv_aload_n C.1 C.2.1 dX12_worth_51 rfl (lv_at hl 0 rfl) ?_
        refine k_cMi Wd (k_runVM (rest := [.int (zI r45), .int (zI ((F 2) (I 33)))]) C aks Wd cs_X12_284 (ih_worth D h ad ca (sI I 33 cursor_r45) F Wd.2   _ hw l _) rfl rfl ⟨(by show 3 + n + 1 ≤ 3 + (n + 1); omega), (by show 8 + (3 + 11) + (126 + 22 * n) ≤ 126 + 22 * (n + 1); omega)⟩ hl.1 rfl rfl (Nat.le_of_ble_eq_true rfl) ⟨(Nat.le_of_ble_eq_true rfl), (Nat.le_of_ble_eq_true rfl)⟩ dX12_worth_52) (fun r52 cursor_r52 H locs g_r52 hw Wd => ?_)
        have Wc52 := Wd
        have Wd : wXM D ca s h ad (sI I 33 cursor_r52) F H A s.heap locs := wMc Wd rfl rfl ⟨(rsI hS.1 (Wc52.2.1 33)), hS.2⟩
        refine k_pi (k_runS (rest := []) C aks Wd.1 cs_X12_287 (mt_both D ((F 2) (I 33)) r45 r52 g8 g_r45 g_r52 _ hw l _) [] rfl (by decide) [] rfl rfl rfl ⟨(by show 1 + 1 ≤ 3 + (n + 1); omega), (by show 8 + (3 + 11) + (64) ≤ 126 + 22 * (n + 1); omega)⟩ hl.1 rfl rfl (Nat.le_of_ble_eq_true rfl) ⟨(Nat.le_of_ble_eq_true rfl), (Nat.le_of_ble_eq_true rfl)⟩ dX12_worth_55) (fun y55 hy => ?_)
        obtain ⟨r55, rfl, g_r55, hw⟩ := hy
        exact k_retMi C hr hlk rfl Wd (u := cursor_r52) rfl rfl ⟨⟨_, rfl, g_r55, hw⟩, ⟨(rsI hS.1 (Wc52.2.1 33)), hS.2⟩⟩ dX12_worth_58
      · have hw := hw.2 (z_nle (show rng 120 from by decide) g8 c31)
        refine lv_aload_n C.1 C.2.1 dX12_worth_34 rfl (lv_at hl 0 rfl) ?_
        refine k_get (v := .ref (ad 28)) C Wd.1 KX12 0 28 wM0 (by decide) fl_X12_41 rfl dX12_worth_35 ?_
        refine lv_iload_n C.1 C.2.1 dX12_worth_38 rfl (lv_at hl 1 rfl) ?_
        refine lv_bipush (v := zI 20) C.1 C.2.1 dX12_worth_39 (by decide) ?_
        refine k_isub (v := zI (((F 2) (I 33)) - 20)) C (zI_isub _ _) dX12_worth_41 ?_
        obtain ⟨a42, hw⟩ := hw
        refine k_ialdM (g := (F 28)) C Wd 10 9 rfl rfl a42 (by decide) dX12_worth_42 ?_
        have g42 : rng ((F 28) (((F 2) (I 33)) - 20)) := rngL (hS.2 28) a42
        exact k_retMi C hr hlk rfl Wd (u := ((I 33) + 1)) rfl rfl ⟨⟨_, rfl, g42, hw⟩, ⟨(rsI hS.1 g17_0), hS.2⟩⟩ dX12_worth_43
    · have hw := hw.2 (z_nle (show rng 20 from by decide) g8 c23)
      refine lv_iload_n C.1 C.2.1 dX12_worth_26 rfl (lv_at hl 1 rfl) ?_
      exact k_retMi C hr hlk rfl Wd (u := ((I 33) + 1)) rfl rfl ⟨⟨_, rfl, g8, hw⟩, ⟨(rsI hS.1 g17_0), hS.2⟩⟩ dX12_worth_27
theorem mt_worth : ∀ (D : va_G) (h : Nat) (ad : Nat → Nat) (ca : Nat → ClassId) (I : Nat → Int) (F : Nat → Int → Int) (hS : rngS I F) (K : Int → Int → Prop) (hw : wp_worth 500 (F 2) (F 28) (I 33) K) (l : Launch) (sz : Nat), Met l yX12_worth (Cond.code yX12_worth cX12_worth 3 (some .int) :: gG) { frames := 503, cells := 0, slots := 0, locals := 11126 } (cPre D (tM ca) (wM h ad ca I F) sz [.ref h]) (va_Qi (fun (r : Int32) (u : (Int)) => (∃ x : Int, r = zI x ∧ rng x ∧ K x u) ∧ rngS (sI I 33 u) F) (fun u t => cB D (va_A (wM h ad ca I F) sz) [] (wM h ad ca (sI I 33 u) F) t) (va_A (wM h ad ca I F) sz)) 0 0 (va_A (wM h ad ca I F) sz) := mg_worth 500
set_option maxHeartbeats 4000000 in
set_option maxRecDepth 100000 in
theorem mt_isSo : ∀ (D : va_G) (h : Nat) (ad : Nat → Nat) (ca : Nat → ClassId) (I : Nat → Int) (F : Nat → Int → Int) (hS : rngS I F) (x0 : Int) (g_x0 : rng x0) (K : Int → Int → Prop) (hw : wp_isSo (F 2) (F 28) (I 33) x0 K) (l : Launch) (sz : Nat), Met l yX12_isSo (Cond.code yX12_isSo cX12_isSo 5 (some .boolean) :: gG) { frames := 504, cells := 0, slots := 0, locals := 11148 } (cPre D (tM ca) (wM h ad ca I F) sz [.ref h, .int (zI x0)]) (va_Qi (fun (r : Int32) (u : (Int)) => (∃ x : Int, r = zI x ∧ rng x ∧ K x u) ∧ rngS (sI I 33 u) F) (fun u t => cB D (va_A (wM h ad ca I F) sz) [] (wM h ad ca (sI I 33 u) F) t) (va_A (wM h ad ca I F) sz)) 0 0 (va_A (wM h ad ca I F) sz) := by
  intro D h ad ca I F hS x0 g_x0 K hw l sz
  refine Met.ofW (cc := cX12_isSo) (maxL := 5) (ret := (some .boolean)) (by decide) rfl ?_
  intro p e s m args below meth c s₁ B hml hv
  obtain ⟨rfl, aks, rfl, Wd⟩ := k_enter hv
  have C : CallFix p m c cX12_isSo 5 s _ gG RX12 := ⟨B.exec, B.bytes, hml, findClass_of_methodNamed B.named, fun w h => atoms_spec (ws := Cond.code yX12_isSo cX12_isSo 5 (some .boolean) :: gG) B.pre w (List.mem_cons_of_mem _ h)⟩
  have hr := B.returns
  have hlk := B.notSynchronized
  generalize va_A (wM h ad ca I F) s.heap.size = A at Wd ⊢
  replace Wd : wXM D ca s h ad I F s.heap A s.heap [] := ⟨Wd, hS⟩
  refine k_locals (Nat.le_of_ble_eq_true rfl) [(0, .ref h), (1, .int (zI x0))] rfl (fun ls hl => ?_)
  unfold wp_isSo at hw
  refine lv_aload_n C.1 C.2.1 dX12_isSo_0 rfl (lv_at hl 0 rfl) ?_
  refine lv_iload_n C.1 C.2.1 dX12_isSo_1 rfl (lv_at hl 1 rfl) ?_
  refine lv_iconst (v := zI 2) C.1 C.2.1 dX12_isSo_2 (by decide) ?_
  refine k_iadd (v := zI (x0 + 2)) C (zI_iadd _ _) dX12_isSo_3 ?_
  obtain ⟨g4_0, hw⟩ := hw
  refine k_putM C Wd 33 (sI I 33 (x0 + 2)) (by decide) fl_X12_281 rfl rfl rfl rfl (rsI hS.1 g4_0) dX12_isSo_4 (fun H locs Wd => ?_)
  refine lv_aload_n C.1 C.2.1 dX12_isSo_7 rfl (lv_at hl 0 rfl) ?_
  refine k_cMi Wd (k_runVM (rest := []) C aks Wd cs_X12_284 (mt_worth D h ad ca (sI I 33 (x0 + 2)) F Wd.2   _ hw l _) rfl rfl ⟨(Nat.le_of_ble_eq_true rfl), (Nat.le_of_ble_eq_true rfl)⟩ hl.1 rfl rfl (Nat.le_of_ble_eq_true rfl) ⟨(Nat.le_of_ble_eq_true rfl), (Nat.le_of_ble_eq_true rfl)⟩ dX12_isSo_8) (fun r8 cursor_r8 H locs g_r8 hw Wd => ?_)
  have Wc8 := Wd
  have Wd : wXM D ca s h ad (sI I 33 cursor_r8) F H A s.heap locs := wMc Wd rfl rfl ⟨(rsI hS.1 (Wc8.2.1 33)), hS.2⟩
  refine lv_istore_n (lv' := [(2, .int (zI r8)), (0, .ref h), (1, .int (zI x0))]) C.1 C.2.1 dX12_isSo_11 rfl hl (by decide) rfl (fun ls hl => ?_)
  replace hl := lv_sub hl [1, 2, 0] rfl
  refine lv_aload_n C.1 C.2.1 dX12_isSo_12 rfl (lv_at hl 0 rfl) ?_
  refine k_cMi Wd (k_runVM (rest := []) C aks Wd cs_X12_284 (mt_worth D h ad ca (sI I 33 cursor_r8) F Wd.2   _ hw l _) rfl rfl ⟨(Nat.le_of_ble_eq_true rfl), (Nat.le_of_ble_eq_true rfl)⟩ hl.1 rfl rfl (Nat.le_of_ble_eq_true rfl) ⟨(Nat.le_of_ble_eq_true rfl), (Nat.le_of_ble_eq_true rfl)⟩ dX12_isSo_13) (fun r13 cursor_r13 H locs g_r13 hw Wd => ?_)
  have Wc13 := Wd
  have Wd : wXM D ca s h ad (sI I 33 cursor_r13) F H A s.heap locs := wMc Wd rfl rfl ⟨(rsI hS.1 (Wc13.2.1 33)), hS.2⟩
  refine lv_istore_n (lv' := [(3, .int (zI r13)), (0, .ref h), (1, .int (zI x0)), (2, .int (zI r8))]) C.1 C.2.1 dX12_isSo_16 rfl hl (by decide) rfl (fun ls hl => ?_)
  replace hl := lv_sub hl [1, 2, 3, 0] rfl
  refine lv_aload_n C.1 C.2.1 dX12_isSo_17 rfl (lv_at hl 0 rfl) ?_
  refine k_get (v := .ref (ad 2)) C Wd.1 KX12 0 2 wM0 (by decide) fl_X12_16 rfl dX12_isSo_18 ?_
  refine lv_iload_n C.1 C.2.1 dX12_isSo_21 rfl (lv_at hl 1 rfl) ?_
  refine lv_iconst (v := zI 1) C.1 C.2.1 dX12_isSo_22 (by decide) ?_
  refine k_iadd (v := zI (x0 + 1)) C (zI_iadd _ _) dX12_isSo_23 ?_
  obtain ⟨a24, hw⟩ := hw
  refine k_ialdM (g := (F 2)) C Wd 3 2 rfl rfl a24 (by decide) dX12_isSo_24 ?_
  have g24 : rng ((F 2) (x0 + 1)) := rngL (hS.2 2) a24
  refine lv_istore (lv' := [(4, .int (zI ((F 2) (x0 + 1)))), (0, .ref h), (1, .int (zI x0)), (2, .int (zI r8)), (3, .int (zI r13))]) C.1 C.2.1 dX12_isSo_25 hl (by decide) rfl (fun ls hl => ?_)
  replace hl := lv_sub hl [1, 2, 3, 4, 0] rfl
  refine lv_iload C.1 C.2.1 dX12_isSo_27 (lv_at hl 4 rfl) ?_
  refine lv_sipush (v := zI 130) C.1 C.2.1 dX12_isSo_29 (zS (by decide) (by decide)) ?_
  refine lv_icmp_ne (tgt := 48) C.1 C.2.1 dX12_isSo_32 (by decide) (fun c32 => ?_) (fun c32 => ?_)
  · have hw := hw.1 (z_ne g24 (show rng 130 from by decide) c32)
    refine lv_iload C.1 C.2.1 dX12_isSo_48 (lv_at hl 4 rfl) ?_
    refine lv_sipush (v := zI 131) C.1 C.2.1 dX12_isSo_50 (zS (by decide) (by decide)) ?_
    refine lv_icmp_ne (tgt := 69) C.1 C.2.1 dX12_isSo_53 (by decide) (fun c53 => ?_) (fun c53 => ?_)
    · have hw := hw.1 (z_ne g24 (show rng 131 from by decide) c53)
      refine lv_iload_n C.1 C.2.1 dX12_isSo_69 rfl (lv_at hl 2 rfl) ?_
      refine lv_iload_n C.1 C.2.1 dX12_isSo_70 rfl (lv_at hl 3 rfl) ?_
      refine lv_icmp_le (tgt := 78) C.1 C.2.1 dX12_isSo_71 (by decide) (fun c71 => ?_) (fun c71 => ?_)
      · have hw := hw.1 (z_le g_r8 g_r13 c71)
        refine lv_iconst (v := zI 0) C.1 C.2.1 dX12_isSo_78 (by decide) ?_
        exact k_retMi C hr hlk (by decide) Wd (u := cursor_r13) rfl rfl ⟨⟨_, rfl, (show rng 0 from by decide), hw⟩, ⟨(rsI hS.1 (Wc13.2.1 33)), hS.2⟩⟩ dX12_isSo_79
      · have hw := hw.2 (z_nle g_r8 g_r13 c71)
        refine lv_iconst (v := zI 1) C.1 C.2.1 dX12_isSo_74 (by decide) ?_
        refine lv_goto (tgt := 79) C.1 C.2.1 dX12_isSo_75 (by decide) ?_
        exact k_retMi C hr hlk (by decide) Wd (u := cursor_r13) rfl rfl ⟨⟨_, rfl, (show rng 1 from by decide), hw⟩, ⟨(rsI hS.1 (Wc13.2.1 33)), hS.2⟩⟩ dX12_isSo_79
    · have hw := hw.2 (z_eq g24 (show rng 131 from by decide) c53)
      refine lv_iload_n C.1 C.2.1 dX12_isSo_56 rfl (lv_at hl 2 rfl) ?_
      refine lv_iload_n C.1 C.2.1 dX12_isSo_57 rfl (lv_at hl 3 rfl) ?_
      refine lv_icmp_ne (tgt := 65) C.1 C.2.1 dX12_isSo_58 (by decide) (fun c58 => ?_) (fun c58 => ?_)
      · have hw := hw.1 (z_ne g_r8 g_r13 c58)
        refine lv_iconst (v := zI 0) C.1 C.2.1 dX12_isSo_65 (by decide) ?_
        refine lv_goto (tgt := 79) C.1 C.2.1 dX12_isSo_66 (by decide) ?_
        exact k_retMi C hr hlk (by decide) Wd (u := cursor_r13) rfl rfl ⟨⟨_, rfl, (show rng 0 from by decide), hw⟩, ⟨(rsI hS.1 (Wc13.2.1 33)), hS.2⟩⟩ dX12_isSo_79
      · have hw := hw.2 (z_eq g_r8 g_r13 c58)
        refine lv_iconst (v := zI 1) C.1 C.2.1 dX12_isSo_61 (by decide) ?_
        refine lv_goto (tgt := 79) C.1 C.2.1 dX12_isSo_62 (by decide) ?_
        exact k_retMi C hr hlk (by decide) Wd (u := cursor_r13) rfl rfl ⟨⟨_, rfl, (show rng 1 from by decide), hw⟩, ⟨(rsI hS.1 (Wc13.2.1 33)), hS.2⟩⟩ dX12_isSo_79
  · have hw := hw.2 (z_eq g24 (show rng 130 from by decide) c32)
    refine lv_iload_n C.1 C.2.1 dX12_isSo_35 rfl (lv_at hl 2 rfl) ?_
    refine lv_iload_n C.1 C.2.1 dX12_isSo_36 rfl (lv_at hl 3 rfl) ?_
    refine lv_icmp_ge (tgt := 44) C.1 C.2.1 dX12_isSo_37 (by decide) (fun c37 => ?_) (fun c37 => ?_)
    · have hw := hw.1 (z_le g_r13 g_r8 c37)
      refine lv_iconst (v := zI 0) C.1 C.2.1 dX12_isSo_44 (by decide) ?_
      refine lv_goto (tgt := 79) C.1 C.2.1 dX12_isSo_45 (by decide) ?_
      exact k_retMi C hr hlk (by decide) Wd (u := cursor_r13) rfl rfl ⟨⟨_, rfl, (show rng 0 from by decide), hw⟩, ⟨(rsI hS.1 (Wc13.2.1 33)), hS.2⟩⟩ dX12_isSo_79
    · have hw := hw.2 (z_nle g_r13 g_r8 c37)
      refine lv_iconst (v := zI 1) C.1 C.2.1 dX12_isSo_40 (by decide) ?_
      refine lv_goto (tgt := 79) C.1 C.2.1 dX12_isSo_41 (by decide) ?_
      exact k_retMi C hr hlk (by decide) Wd (u := cursor_r13) rfl rfl ⟨⟨_, rfl, (show rng 1 from by decide), hw⟩, ⟨(rsI hS.1 (Wc13.2.1 33)), hS.2⟩⟩ dX12_isSo_79
set_option maxHeartbeats 4000000 in
set_option maxRecDepth 100000 in
theorem mt_step : ∀ (D : va_G) (h : Nat) (ad : Nat → Nat) (ca : Nat → ClassId) (I : Nat → Int) (F : Nat → Int → Int) (hS : rngS I F) (K : Int → Int → Int → Prop) (hw : wp_step (I 30) (I 31) K) (l : Launch) (sz : Nat), Met l yX12_step (Cond.code yX12_step cX12_step 1 (some .boolean) :: gG) { frames := 1, cells := 0, slots := 0, locals := 64 } (cPre D (tM ca) (wM h ad ca I F) sz [.ref h]) (va_Qi (fun (r : Int32) (u : (Int) × (Int)) => (∃ x : Int, r = zI x ∧ rng x ∧ K x u.1 u.2) ∧ rngS (sI (sI I 30 u.1) 31 u.2) F) (fun u t => cB D (va_A (wM h ad ca I F) sz) [] (wM h ad ca (sI (sI I 30 u.1) 31 u.2) F) t) (va_A (wM h ad ca I F) sz)) 0 0 (va_A (wM h ad ca I F) sz) := by
  intro D h ad ca I F hS  K hw l sz
  refine Met.ofW (cc := cX12_step) (maxL := 1) (ret := (some .boolean)) (by decide) rfl ?_
  intro p e s m args below meth c s₁ B hml hv
  obtain ⟨rfl, aks, rfl, Wd⟩ := k_enter hv
  have C : CallFix p m c cX12_step 1 s _ gG RX12 := ⟨B.exec, B.bytes, hml, findClass_of_methodNamed B.named, fun w h => atoms_spec (ws := Cond.code yX12_step cX12_step 1 (some .boolean) :: gG) B.pre w (List.mem_cons_of_mem _ h)⟩
  have hr := B.returns
  have hlk := B.notSynchronized
  generalize va_A (wM h ad ca I F) s.heap.size = A at Wd ⊢
  replace Wd : wXM D ca s h ad I F s.heap A s.heap [] := ⟨Wd, hS⟩
  refine k_locals (Nat.le_of_ble_eq_true rfl) [(0, .ref h)] rfl (fun ls hl => ?_)
  unfold wp_step at hw
  refine lv_aload_n C.1 C.2.1 dX12_step_0 rfl (lv_at hl 0 rfl) ?_
  refine k_get (v := .int (zI (I 30))) C Wd.1 KX12 0 30 wM0 (by decide) fl_X12_291 rfl dX12_step_1 ?_
  refine lv_bipush (v := zI 100) C.1 C.2.1 dX12_step_4 (by decide) ?_
  refine lv_icmp_ne (tgt := 16) C.1 C.2.1 dX12_step_6 (by decide) (fun c6 => ?_) (fun c6 => ?_)
  · have hw := hw.1 (z_ne (hS.1 30) (show rng 100 from by decide) c6)
    refine lv_aload_n C.1 C.2.1 dX12_step_16 rfl (lv_at hl 0 rfl) ?_
    refine lv_dup C.1 C.2.1 dX12_step_17 rfl ?_
    refine k_get (v := .int (zI (I 30))) C Wd.1 KX12 0 30 wM0 (by decide) fl_X12_291 rfl dX12_step_18 ?_
    refine lv_iconst (v := zI 1) C.1 C.2.1 dX12_step_21 (by decide) ?_
    refine k_iadd (v := zI ((I 30) + 1)) C (zI_iadd _ _) dX12_step_22 ?_
    obtain ⟨g23_0, hw⟩ := hw
    refine k_putM C Wd 30 (sI I 30 ((I 30) + 1)) (by decide) fl_X12_291 rfl rfl rfl rfl (rsI hS.1 g23_0) dX12_step_23 (fun H locs Wd => ?_)
    refine lv_iconst (v := zI 1) C.1 C.2.1 dX12_step_26 (by decide) ?_
    exact k_retMi C hr hlk (by decide) Wd (u := (((I 30) + 1), (I 31))) rfl rfl ⟨⟨_, rfl, (show rng 1 from by decide), hw⟩, ⟨(rsI (rsI hS.1 g23_0) (hS.1 31)), hS.2⟩⟩ dX12_step_27
  · have hw := hw.2 (z_eq (hS.1 30) (show rng 100 from by decide) c6)
    refine lv_aload_n C.1 C.2.1 dX12_step_9 rfl (lv_at hl 0 rfl) ?_
    refine lv_iconst (v := zI 2) C.1 C.2.1 dX12_step_10 (by decide) ?_
    refine k_putM C Wd 31 (sI I 31 2) (by decide) fl_X12_294 rfl rfl rfl rfl (rsI hS.1 (show rng 2 from by decide)) dX12_step_11 (fun H locs Wd => ?_)
    refine lv_iconst (v := zI 0) C.1 C.2.1 dX12_step_14 (by decide) ?_
    exact k_retMi C hr hlk (by decide) Wd (u := ((I 30), 2)) rfl rfl ⟨⟨_, rfl, (show rng 0 from by decide), hw⟩, ⟨(rsI (rsI hS.1 (hS.1 30)) (show rng 2 from by decide)), hS.2⟩⟩ dX12_step_15
set_option maxHeartbeats 4000000 in
set_option maxRecDepth 100000 in
theorem mg_does (n : Nat) : (∀ (D : va_G) (h : Nat) (ad : Nat → Nat) (ca : Nat → ClassId) (I : Nat → Int) (F : Nat → Int → Int) (hS : rngS I F) (x0 : Int) (g_x0 : rng x0) (K : Int → (Int → Int) → (Int → Int) → Int → Int → Int → Int → Prop) (hw : wp_does n (F 2) (I 4) (F 28) (F 29) (I 30) (I 31) (I 32) (I 33) x0 K) (l : Launch) (sz : Nat), Met l yX12_does (Cond.code yX12_does cX12_does 3 (some .boolean) :: gG) { frames := 609 + n, cells := 0, slots := 0, locals := 12992 + 23 * n } (cPre D (tM ca) (wM h ad ca I F) sz [.ref h, .int (zI x0)]) (va_Qi (fun (r : Int32) (u : (Int → Int) × (Int → Int) × (Int) × (Int) × (Int) × (Int)) => (∃ x : Int, r = zI x ∧ rng x ∧ K x u.1 u.2.1 u.2.2.1 u.2.2.2.1 u.2.2.2.2.1 u.2.2.2.2.2) ∧ rngS (sI (sI (sI (sI I 30 u.2.2.1) 31 u.2.2.2.1) 32 u.2.2.2.2.1) 33 u.2.2.2.2.2) (sF (sF F 28 u.1) 29 u.2.1)) (fun u t => cB D (va_A (wM h ad ca I F) sz) [] (wM h ad ca (sI (sI (sI (sI I 30 u.2.2.1) 31 u.2.2.2.1) 32 u.2.2.2.2.1) 33 u.2.2.2.2.2) (sF (sF F 28 u.1) 29 u.2.1)) t) (va_A (wM h ad ca I F) sz)) 0 0 (va_A (wM h ad ca I F) sz)) ∧ (∀ (D : va_G) (h : Nat) (ad : Nat → Nat) (ca : Nat → ClassId) (I : Nat → Int) (F : Nat → Int → Int) (hS : rngS I F) (x0 : Int) (g_x0 : rng x0) (K : Int → (Int → Int) → (Int → Int) → Int → Int → Int → Int → Prop) (hw : wp_doesOne n (F 2) (I 4) (F 28) (F 29) (I 30) (I 31) (I 32) (I 33) x0 K) (l : Launch) (sz : Nat), Met l yX12_doesOne (Cond.code yX12_doesOne cX12_doesOne 4 (some .boolean) :: gG) { frames := 609 + n, cells := 0, slots := 0, locals := 12992 + 23 * n } (cPre D (tM ca) (wM h ad ca I F) sz [.ref h, .int (zI x0)]) (va_Qi (fun (r : Int32) (u : (Int → Int) × (Int → Int) × (Int) × (Int) × (Int) × (Int)) => (∃ x : Int, r = zI x ∧ rng x ∧ K x u.1 u.2.1 u.2.2.1 u.2.2.2.1 u.2.2.2.2.1 u.2.2.2.2.2) ∧ rngS (sI (sI (sI (sI I 30 u.2.2.1) 31 u.2.2.2.1) 32 u.2.2.2.2.1) 33 u.2.2.2.2.2) (sF (sF F 28 u.1) 29 u.2.1)) (fun u t => cB D (va_A (wM h ad ca I F) sz) [] (wM h ad ca (sI (sI (sI (sI I 30 u.2.2.1) 31 u.2.2.2.1) 32 u.2.2.2.2.1) 33 u.2.2.2.2.2) (sF (sF F 28 u.1) 29 u.2.1)) t) (va_A (wM h ad ca I F) sz)) 0 0 (va_A (wM h ad ca I F) sz)) := by
  induction n with
  | zero => exact ⟨(fun _ _ _ _ _ _ _ _ _ _ hw => absurd hw id), (fun _ _ _ _ _ _ _ _ _ _ hw => absurd hw id)⟩
  | succ n ih =>
    obtain ⟨ih_does, ih_doesOne⟩ := ih
    refine ⟨?_, ?_⟩
    · intro D h ad ca I F hS x0 g_x0 K hw l sz
      refine Met.ofW (cc := cX12_does) (maxL := 3) (ret := (some .boolean)) (by decide) rfl ?_
      intro p e s m args below meth c s₁ B hml hv
      obtain ⟨rfl, aks, rfl, Wd⟩ := k_enter hv
      have C : CallFix p m c cX12_does 3 s _ gG RX12 := ⟨B.exec, B.bytes, hml, findClass_of_methodNamed B.named, fun w h => atoms_spec (ws := Cond.code yX12_does cX12_does 3 (some .boolean) :: gG) B.pre w (List.mem_cons_of_mem _ h)⟩
      have hr := B.returns
      have hlk := B.notSynchronized
      generalize va_A (wM h ad ca I F) s.heap.size = A at Wd ⊢
      replace Wd : wXM D ca s h ad I F s.heap A s.heap [] := ⟨Wd, hS⟩
      refine k_locals (Nat.le_of_ble_eq_true rfl) [(0, .ref h), (1, .int (zI x0))] rfl (fun ls hl => ?_)
      replace hw : wp_does_b (wp_does n) (wp_doesOne n) (F 2) (I 4) (F 28) (F 29) (I 30) (I 31) (I 32) (I 33) x0 K := hw
      unfold wp_does_b at hw
      refine lv_iload_n C.1 C.2.1 dX12_does_0 rfl (lv_at hl 1 rfl) ?_
      refine lv_istore_n (lv' := [(2, .int (zI x0)), (0, .ref h), (1, .int (zI x0))]) C.1 C.2.1 dX12_does_1 rfl hl (by decide) rfl (fun ls hl => ?_)
      replace hl := lv_sub hl [1, 2, 0] rfl
      refine k_lp7 hw (fun (l2_2 : Int) (holds_2 : Int → Int) (outs_2 : Int → Int) (steps_2 : Int) (ending_2 : Int) (outMany_2 : Int) (cursor_2 : Int) H locs ls => rng l2_2 ∧ wXM D ca s h ad (sI (sI (sI (sI I 30 steps_2) 31 ending_2) 32 outMany_2) 33 cursor_2) (sF (sF F 28 holds_2) 29 outs_2) H A s.heap locs ∧ lv_has ls 3 [(0, .ref h), (2, .int (zI l2_2))]) (fun (l2_2 : Int) (holds_2 : Int → Int) (outs_2 : Int → Int) (steps_2 : Int) (ending_2 : Int) (outMany_2 : Int) (cursor_2 : Int) ls => F0 m 2 ls []) (fun L2 hL2 l2_2 holds_2 outs_2 steps_2 ending_2 outMany_2 cursor_2 hw H locs ls hi => ?_) _ _ _ ⟨g_x0, wMc Wd rfl rfl ⟨(rsI (rsI (rsI (rsI hS.1 (hS.1 30)) (hS.1 31)) (hS.1 32)) (hS.1 33)), (rsF (rsF hS.2 (hS.2 28)) (hS.2 29))⟩, lv_sub hl [0, 2] rfl⟩
      obtain ⟨g_l2_2, Wd, hl⟩ := hi
      have Wd2 := Wd
      unfold wp_does_2 at hw
      refine lv_aload_n C.1 C.2.1 dX12_does_2 rfl (lv_at hl 0 rfl) ?_
      refine lv_iload_n C.1 C.2.1 dX12_does_3 rfl (lv_at hl 1 rfl) ?_
      refine k_pi (k_runVM (rest := []) C aks Wd cs_X12_107 (mt_isLast D h ad ca (sI (sI (sI (sI I 30 steps_2) 31 ending_2) 32 outMany_2) 33 cursor_2) (sF (sF F 28 holds_2) 29 outs_2) Wd.2 l2_2 g_l2_2 _ hw l _) rfl rfl ⟨(by show 1 + 1 ≤ 609 + (n + 1); omega), (by show 8 + (2 + 11) + (64) ≤ 12992 + 23 * (n + 1); omega)⟩ hl.1 rfl rfl (Nat.le_of_ble_eq_true rfl) ⟨(Nat.le_of_ble_eq_true rfl), (Nat.le_of_ble_eq_true rfl)⟩ dX12_does_4) (fun y4 hy => ?_)
      obtain ⟨r4, rfl, g_r4, hw⟩ := hy
      refine lv_if_ne (tgt := 29) C.1 C.2.1 dX12_does_7 (by decide) (fun c7 => ?_) (fun c7 => ?_)
      · have hw := hw.1 (z0_ne g_r4 c7)
        refine lv_iconst (v := zI 1) C.1 C.2.1 dX12_does_29 (by decide) ?_
        exact k_retMi C hr hlk (by decide) Wd (u := (holds_2, outs_2, steps_2, ending_2, outMany_2, cursor_2)) rfl rfl ⟨⟨_, rfl, (show rng 1 from by decide), hw⟩, ⟨(rsI (rsI (rsI (rsI hS.1 (Wd2.2.1 30)) (Wd2.2.1 31)) (Wd2.2.1 32)) (Wd2.2.1 33)), (rsF (rsF hS.2 (fun j => Wd2.2.2 28 j)) (fun j => Wd2.2.2 29 j))⟩⟩ dX12_does_30
      · have hw := hw.2 (z0_eq g_r4 c7)
        refine lv_aload_n C.1 C.2.1 dX12_does_10 rfl (lv_at hl 0 rfl) ?_
        refine lv_iload_n C.1 C.2.1 dX12_does_11 rfl (lv_at hl 1 rfl) ?_
        refine k_cMi Wd (k_runVM (rest := []) C aks Wd cs_X12_297 (ih_doesOne D h ad ca (sI (sI (sI (sI I 30 steps_2) 31 ending_2) 32 outMany_2) 33 cursor_2) (sF (sF F 28 holds_2) 29 outs_2) Wd.2 l2_2 g_l2_2 _ hw l _) rfl rfl ⟨(by show 609 + n + 1 ≤ 609 + (n + 1); omega), (by show 8 + (4 + 11) + (12992 + 23 * n) ≤ 12992 + 23 * (n + 1); omega)⟩ hl.1 rfl rfl (Nat.le_of_ble_eq_true rfl) ⟨(Nat.le_of_ble_eq_true rfl), (Nat.le_of_ble_eq_true rfl)⟩ dX12_does_12) (fun r12 u12 H locs g_r12 hw Wd => ?_)
        obtain ⟨holds_r12, outs_r12, steps_r12, ending_r12, outMany_r12, cursor_r12⟩ := u12
        dsimp only at hw
        have Wc12 := Wd
        have Wd : wXM D ca s h ad (sI (sI (sI (sI I 30 steps_r12) 31 ending_r12) 32 outMany_r12) 33 cursor_r12) (sF (sF F 28 holds_r12) 29 outs_r12) H A s.heap locs := wMc Wd rfl rfl ⟨(rsI (rsI (rsI (rsI hS.1 (Wc12.2.1 30)) (Wc12.2.1 31)) (Wc12.2.1 32)) (Wc12.2.1 33)), (rsF (rsF hS.2 (fun j => Wc12.2.2 28 j)) (fun j => Wc12.2.2 29 j))⟩
        refine lv_if_ne (tgt := 20) C.1 C.2.1 dX12_does_15 (by decide) (fun c15 => ?_) (fun c15 => ?_)
        · have hw := hw.1 (z0_ne g_r12 c15)
          refine lv_aload_n C.1 C.2.1 dX12_does_20 rfl (lv_at hl 0 rfl) ?_
          refine lv_iload_n C.1 C.2.1 dX12_does_21 rfl (lv_at hl 1 rfl) ?_
          refine k_pi (k_runVM (rest := []) C aks Wd cs_X12_104 (mt_behind D h ad ca (sI (sI (sI (sI I 30 steps_r12) 31 ending_r12) 32 outMany_r12) 33 cursor_r12) (sF (sF F 28 holds_r12) 29 outs_r12) Wd.2 l2_2 g_l2_2 _ hw l _) rfl rfl ⟨(by show 606 + 1 ≤ 609 + (n + 1); omega), (by show 8 + (3 + 11) + (12908) ≤ 12992 + 23 * (n + 1); omega)⟩ hl.1 rfl rfl (Nat.le_of_ble_eq_true rfl) ⟨(Nat.le_of_ble_eq_true rfl), (Nat.le_of_ble_eq_true rfl)⟩ dX12_does_22) (fun y22 hy => ?_)
          obtain ⟨r22, rfl, g_r22, hw⟩ := hy
          refine lv_istore_n (lv' := [(2, .int (zI r22)), (0, .ref h)]) C.1 C.2.1 dX12_does_25 rfl hl (by decide) rfl (fun ls hl => ?_)
          replace hl := lv_sub hl [1, 0] rfl
          refine lv_goto (tgt := 2) C.1 C.2.1 dX12_does_26 (by decide) ?_
          exact hL2 _ _ _ _ _ _ _ hw _ _ _ ⟨g_r22, wMc Wd rfl rfl ⟨(rsI (rsI (rsI (rsI hS.1 (Wc12.2.1 30)) (Wc12.2.1 31)) (Wc12.2.1 32)) (Wc12.2.1 33)), (rsF (rsF hS.2 (fun j => Wc12.2.2 28 j)) (fun j => Wc12.2.2 29 j))⟩, lv_sub hl [0, 1] rfl⟩
        · have hw := hw.2 (z0_eq g_r12 c15)
          refine lv_iconst (v := zI 0) C.1 C.2.1 dX12_does_18 (by decide) ?_
          exact k_retMi C hr hlk (by decide) Wd (u := (holds_r12, outs_r12, steps_r12, ending_r12, outMany_r12, cursor_r12)) rfl rfl ⟨⟨_, rfl, (show rng 0 from by decide), hw⟩, ⟨(rsI (rsI (rsI (rsI hS.1 (Wc12.2.1 30)) (Wc12.2.1 31)) (Wc12.2.1 32)) (Wc12.2.1 33)), (rsF (rsF hS.2 (fun j => Wc12.2.2 28 j)) (fun j => Wc12.2.2 29 j))⟩⟩ dX12_does_19
    · intro D h ad ca I F hS x0 g_x0 K hw l sz
      refine Met.ofW (cc := cX12_doesOne) (maxL := 4) (ret := (some .boolean)) (by decide) rfl ?_
      intro p e s m args below meth c s₁ B hml hv
      obtain ⟨rfl, aks, rfl, Wd⟩ := k_enter hv
      have C : CallFix p m c cX12_doesOne 4 s _ gG RX12 := ⟨B.exec, B.bytes, hml, findClass_of_methodNamed B.named, fun w h => atoms_spec (ws := Cond.code yX12_doesOne cX12_doesOne 4 (some .boolean) :: gG) B.pre w (List.mem_cons_of_mem _ h)⟩
      have hr := B.returns
      have hlk := B.notSynchronized
      generalize va_A (wM h ad ca I F) s.heap.size = A at Wd ⊢
      replace Wd : wXM D ca s h ad I F s.heap A s.heap [] := ⟨Wd, hS⟩
      refine k_locals (Nat.le_of_ble_eq_true rfl) [(0, .ref h), (1, .int (zI x0))] rfl (fun ls hl => ?_)
      replace hw : wp_doesOne_b (wp_does n) (wp_doesOne n) (F 2) (I 4) (F 28) (F 29) (I 30) (I 31) (I 32) (I 33) x0 K := hw
      unfold wp_doesOne_b at hw
      refine lv_aload_n C.1 C.2.1 dX12_doesOne_0 rfl (lv_at hl 0 rfl) ?_
      refine k_cMi Wd (k_runVM (rest := []) C aks Wd cs_X12_300 (mt_step D h ad ca I F Wd.2   _ hw l _) rfl rfl ⟨(by show 1 + 1 ≤ 609 + (n + 1); omega), (by show 8 + (1 + 11) + (64) ≤ 12992 + 23 * (n + 1); omega)⟩ hl.1 rfl rfl (Nat.le_of_ble_eq_true rfl) ⟨(Nat.le_of_ble_eq_true rfl), (Nat.le_of_ble_eq_true rfl)⟩ dX12_doesOne_1) (fun r1 u1 H locs g_r1 hw Wd => ?_)
      obtain ⟨steps_r1, ending_r1⟩ := u1
      dsimp only at hw
      have Wc1 := Wd
      have Wd : wXM D ca s h ad (sI (sI I 30 steps_r1) 31 ending_r1) F H A s.heap locs := wMc Wd rfl rfl ⟨(rsI (rsI hS.1 (Wc1.2.1 30)) (Wc1.2.1 31)), hS.2⟩
      refine lv_if_ne (tgt := 9) C.1 C.2.1 dX12_doesOne_4 (by decide) (fun c4 => ?_) (fun c4 => ?_)
      · have hw := hw.1 (z0_ne g_r1 c4)
        refine lv_aload_n C.1 C.2.1 dX12_doesOne_9 rfl (lv_at hl 0 rfl) ?_
        refine k_get (v := .ref (ad 2)) C Wd.1 KX12 0 2 wM0 (by decide) fl_X12_16 rfl dX12_doesOne_10 ?_
        refine lv_iload_n C.1 C.2.1 dX12_doesOne_13 rfl (lv_at hl 1 rfl) ?_
        obtain ⟨a14, hw⟩ := hw
        refine k_ialdM (g := (F 2)) C Wd 3 2 rfl rfl a14 (by decide) dX12_doesOne_14 ?_
        have g14 : rng ((F 2) x0) := rngL (hS.2 2) a14
        refine lv_istore_n (lv' := [(2, .int (zI ((F 2) x0))), (0, .ref h), (1, .int (zI x0))]) C.1 C.2.1 dX12_doesOne_15 rfl hl (by decide) rfl (fun ls hl => ?_)
        replace hl := lv_sub hl [1, 2, 0] rfl
        refine lv_iload_n C.1 C.2.1 dX12_doesOne_16 rfl (lv_at hl 2 rfl) ?_
        refine lv_bipush (v := zI 111) C.1 C.2.1 dX12_doesOne_17 (by decide) ?_
        refine lv_icmp_ne (tgt := 29) C.1 C.2.1 dX12_doesOne_19 (by decide) (fun c19 => ?_) (fun c19 => ?_)
        · have hw := hw.1 (z_ne g14 (show rng 111 from by decide) c19)
          refine lv_iload_n C.1 C.2.1 dX12_doesOne_29 rfl (lv_at hl 2 rfl) ?_
          refine lv_bipush (v := zI 112) C.1 C.2.1 dX12_doesOne_30 (by decide) ?_
          refine lv_icmp_ne (tgt := 88) C.1 C.2.1 dX12_doesOne_32 (by decide) (fun c32 => ?_) (fun c32 => ?_)
          · have hw := hw.1 (z_ne g14 (show rng 112 from by decide) c32)
            refine lv_iload_n C.1 C.2.1 dX12_doesOne_88 rfl (lv_at hl 2 rfl) ?_
            refine lv_bipush (v := zI 115) C.1 C.2.1 dX12_doesOne_89 (by decide) ?_
            refine lv_icmp_ne (tgt := 125) C.1 C.2.1 dX12_doesOne_91 (by decide) (fun c91 => ?_) (fun c91 => ?_)
            · have hw := hw.1 (z_ne g14 (show rng 115 from by decide) c91)
              refine lv_aload_n C.1 C.2.1 dX12_doesOne_125 rfl (lv_at hl 0 rfl) ?_
              refine lv_iload_n C.1 C.2.1 dX12_doesOne_126 rfl (lv_at hl 1 rfl) ?_
              refine lv_iconst (v := zI 1) C.1 C.2.1 dX12_doesOne_127 (by decide) ?_
              refine k_iadd (v := zI (x0 + 1)) C (zI_iadd _ _) dX12_doesOne_128 ?_
              obtain ⟨g129_0, hw⟩ := hw
              refine k_putM C Wd 33 (sI (sI (sI I 30 steps_r1) 31 ending_r1) 33 (x0 + 1)) (by decide) fl_X12_281 rfl rfl rfl rfl (rsI (rsI (rsI hS.1 (Wc1.2.1 30)) (Wc1.2.1 31)) g129_0) dX12_doesOne_129 (fun H locs Wd => ?_)
              refine lv_aload_n C.1 C.2.1 dX12_doesOne_132 rfl (lv_at hl 0 rfl) ?_
              refine k_cMi Wd (k_runVM (rest := []) C aks Wd cs_X12_284 (mt_worth D h ad ca (sI (sI (sI I 30 steps_r1) 31 ending_r1) 33 (x0 + 1)) F Wd.2   _ hw l _) rfl rfl ⟨(by show 503 + 1 ≤ 609 + (n + 1); omega), (by show 8 + (3 + 11) + (11126) ≤ 12992 + 23 * (n + 1); omega)⟩ hl.1 rfl rfl (Nat.le_of_ble_eq_true rfl) ⟨(Nat.le_of_ble_eq_true rfl), (Nat.le_of_ble_eq_true rfl)⟩ dX12_doesOne_133) (fun r133 cursor_r133 H locs g_r133 hw Wd => ?_)
              have Wc133 := Wd
              have Wd : wXM D ca s h ad (sI (sI (sI I 30 steps_r1) 31 ending_r1) 33 cursor_r133) F H A s.heap locs := wMc Wd rfl rfl ⟨(rsI (rsI (rsI hS.1 (Wc1.2.1 30)) (Wc1.2.1 31)) (Wc133.2.1 33)), hS.2⟩
              refine lv_istore_n (lv' := [(3, .int (zI r133)), (0, .ref h), (1, .int (zI x0)), (2, .int (zI ((F 2) x0)))]) C.1 C.2.1 dX12_doesOne_136 rfl hl (by decide) rfl (fun ls hl => ?_)
              replace hl := lv_sub hl [1, 2, 3, 0] rfl
              refine lv_iload_n C.1 C.2.1 dX12_doesOne_137 rfl (lv_at hl 2 rfl) ?_
              refine lv_bipush (v := zI 110) C.1 C.2.1 dX12_doesOne_138 (by decide) ?_
              refine lv_icmp_ne (tgt := 166) C.1 C.2.1 dX12_doesOne_140 (by decide) (fun c140 => ?_) (fun c140 => ?_)
              · have hw := hw.1 (z_ne g14 (show rng 110 from by decide) c140)
                refine lv_aload_n C.1 C.2.1 dX12_doesOne_166 rfl (lv_at hl 0 rfl) ?_
                refine k_get (v := .ref (ad 28)) C Wd.1 KX12 0 28 wM0 (by decide) fl_X12_41 rfl dX12_doesOne_167 ?_
                refine lv_iload_n C.1 C.2.1 dX12_doesOne_170 rfl (lv_at hl 2 rfl) ?_
                refine lv_bipush (v := zI 100) C.1 C.2.1 dX12_doesOne_171 (by decide) ?_
                refine k_isub (v := zI (((F 2) x0) - 100)) C (zI_isub _ _) dX12_doesOne_173 ?_
                refine lv_iload_n C.1 C.2.1 dX12_doesOne_174 rfl (lv_at hl 3 rfl) ?_
                obtain ⟨a175, hw⟩ := hw
                have q175 : ∀ j : Nat, rng ((uZ (F 28) (((F 2) x0) - 100) r133) j) := ruZ (hS.2 28) g_r133
                refine k_iastM (g := (F 28)) C Wd 9 9 (sF F 28 (uZ (F 28) (((F 2) x0) - 100) r133)) rfl rfl a175 (by decide) rfl rfl (rsF hS.2 q175) dX12_doesOne_175 (fun H locs Wd => ?_)
                refine lv_iconst (v := zI 1) C.1 C.2.1 dX12_doesOne_176 (by decide) ?_
                exact k_retMi C hr hlk (by decide) Wd (u := ((uZ (F 28) (((F 2) x0) - 100) r133), (F 29), steps_r1, ending_r1, (I 32), cursor_r133)) rfl rfl ⟨⟨_, rfl, (show rng 1 from by decide), hw⟩, ⟨(rsI (rsI (rsI (rsI hS.1 (Wc1.2.1 30)) (Wc1.2.1 31)) (hS.1 32)) (Wc133.2.1 33)), (rsF (rsF hS.2 q175) (hS.2 29))⟩⟩ dX12_doesOne_177
              · have hw := hw.2 (z_eq g14 (show rng 110 from by decide) c140)
                refine lv_aload_n C.1 C.2.1 dX12_doesOne_143 rfl (lv_at hl 0 rfl) ?_
                refine k_get (v := .ref (ad 29)) C Wd.1 KX12 0 29 wM0 (by decide) fl_X12_44 rfl dX12_doesOne_144 ?_
                refine lv_aload_n C.1 C.2.1 dX12_doesOne_147 rfl (lv_at hl 0 rfl) ?_
                refine k_get (v := .int (zI (I 32))) C Wd.1 KX12 0 32 wM0 (by decide) fl_X12_312 rfl dX12_doesOne_148 ?_
                refine lv_iload_n C.1 C.2.1 dX12_doesOne_151 rfl (lv_at hl 3 rfl) ?_
                obtain ⟨a152, hw⟩ := hw
                have q152 : ∀ j : Nat, rng ((uZ (F 29) (I 32) r133) j) := ruZ (hS.2 29) g_r133
                refine k_iastM (g := (F 29)) C Wd 10 10 (sF F 29 (uZ (F 29) (I 32) r133)) rfl rfl a152 (by decide) rfl rfl (rsF hS.2 q152) dX12_doesOne_152 (fun H locs Wd => ?_)
                refine lv_aload_n C.1 C.2.1 dX12_doesOne_153 rfl (lv_at hl 0 rfl) ?_
                refine lv_dup C.1 C.2.1 dX12_doesOne_154 rfl ?_
                refine k_get (v := .int (zI (I 32))) C Wd.1 KX12 0 32 wM0 (by decide) fl_X12_312 rfl dX12_doesOne_155 ?_
                refine lv_iconst (v := zI 1) C.1 C.2.1 dX12_doesOne_158 (by decide) ?_
                refine k_iadd (v := zI ((I 32) + 1)) C (zI_iadd _ _) dX12_doesOne_159 ?_
                obtain ⟨g160_0, hw⟩ := hw
                refine k_putM C Wd 32 (sI (sI (sI (sI I 30 steps_r1) 31 ending_r1) 32 ((I 32) + 1)) 33 cursor_r133) (by decide) fl_X12_312 rfl rfl rfl rfl (rsI (rsI (rsI (rsI hS.1 (Wc1.2.1 30)) (Wc1.2.1 31)) g160_0) (Wc133.2.1 33)) dX12_doesOne_160 (fun H locs Wd => ?_)
                refine lv_goto (tgt := 176) C.1 C.2.1 dX12_doesOne_163 (by decide) ?_
                refine lv_iconst (v := zI 1) C.1 C.2.1 dX12_doesOne_176 (by decide) ?_
                exact k_retMi C hr hlk (by decide) Wd (u := ((F 28), (uZ (F 29) (I 32) r133), steps_r1, ending_r1, ((I 32) + 1), cursor_r133)) rfl rfl ⟨⟨_, rfl, (show rng 1 from by decide), hw⟩, ⟨(rsI (rsI (rsI (rsI hS.1 (Wc1.2.1 30)) (Wc1.2.1 31)) g160_0) (Wc133.2.1 33)), (rsF (rsF hS.2 (hS.2 28)) q152)⟩⟩ dX12_doesOne_177
            · have hw := hw.2 (z_eq g14 (show rng 115 from by decide) c91)
              refine k_lp6 hw (fun (holds_94 : Int → Int) (outs_94 : Int → Int) (steps_94 : Int) (ending_94 : Int) (outMany_94 : Int) (cursor_94 : Int) H locs ls => wXM D ca s h ad (sI (sI (sI (sI I 30 steps_94) 31 ending_94) 32 outMany_94) 33 cursor_94) (sF (sF F 28 holds_94) 29 outs_94) H A s.heap locs ∧ lv_has ls 4 [(0, .ref h), (1, .int (zI x0))]) (fun (holds_94 : Int → Int) (outs_94 : Int → Int) (steps_94 : Int) (ending_94 : Int) (outMany_94 : Int) (cursor_94 : Int) ls => F0 m 94 ls []) (fun L94 hL94 holds_94 outs_94 steps_94 ending_94 outMany_94 cursor_94 hw H locs ls hi => ?_) _ _ _ ⟨wMc Wd rfl rfl ⟨(rsI (rsI (rsI (rsI hS.1 (Wc1.2.1 30)) (Wc1.2.1 31)) (hS.1 32)) (hS.1 33)), (rsF (rsF hS.2 (hS.2 28)) (hS.2 29))⟩, lv_sub hl [0, 1] rfl⟩
              obtain ⟨Wd, hl⟩ := hi
              have Wd94 := Wd
              unfold wp_doesOne_94 at hw
              refine lv_aload_n C.1 C.2.1 dX12_doesOne_94 rfl (lv_at hl 0 rfl) ?_
              refine lv_iload_n C.1 C.2.1 dX12_doesOne_95 rfl (lv_at hl 1 rfl) ?_
              refine k_cMi Wd (k_runVM (rest := []) C aks Wd cs_X12_303 (mt_isSo D h ad ca (sI (sI (sI (sI I 30 steps_94) 31 ending_94) 32 outMany_94) 33 cursor_94) (sF (sF F 28 holds_94) 29 outs_94) Wd.2 x0 g_x0 _ hw l _) rfl rfl ⟨(by show 504 + 1 ≤ 609 + (n + 1); omega), (by show 8 + (5 + 11) + (11148) ≤ 12992 + 23 * (n + 1); omega)⟩ hl.1 rfl rfl (Nat.le_of_ble_eq_true rfl) ⟨(Nat.le_of_ble_eq_true rfl), (Nat.le_of_ble_eq_true rfl)⟩ dX12_doesOne_96) (fun r96 cursor_r96 H locs g_r96 hw Wd => ?_)
              have Wc96 := Wd
              have Wd : wXM D ca s h ad (sI (sI (sI (sI I 30 steps_94) 31 ending_94) 32 outMany_94) 33 cursor_r96) (sF (sF F 28 holds_94) 29 outs_94) H A s.heap locs := wMc Wd rfl rfl ⟨(rsI (rsI (rsI (rsI hS.1 (Wd94.2.1 30)) (Wd94.2.1 31)) (Wd94.2.1 32)) (Wc96.2.1 33)), (rsF (rsF hS.2 (fun j => Wd94.2.2 28 j)) (fun j => Wd94.2.2 29 j))⟩
              refine lv_if_eq (tgt := 123) C.1 C.2.1 dX12_doesOne_99 (by decide) (fun c99 => ?_) (fun c99 => ?_)
              · have hw := hw.1 (z0_eq g_r96 c99)
                refine lv_iconst (v := zI 1) C.1 C.2.1 dX12_doesOne_123 (by decide) ?_
                exact k_retMi C hr hlk (by decide) Wd (u := (holds_94, outs_94, steps_94, ending_94, outMany_94, cursor_r96)) rfl rfl ⟨⟨_, rfl, (show rng 1 from by decide), hw⟩, ⟨(rsI (rsI (rsI (rsI hS.1 (Wd94.2.1 30)) (Wd94.2.1 31)) (Wd94.2.1 32)) (Wc96.2.1 33)), (rsF (rsF hS.2 (fun j => Wd94.2.2 28 j)) (fun j => Wd94.2.2 29 j))⟩⟩ dX12_doesOne_124
              · have hw := hw.2 (z0_ne g_r96 c99)
                refine lv_aload_n C.1 C.2.1 dX12_doesOne_102 rfl (lv_at hl 0 rfl) ?_
                refine lv_aload_n C.1 C.2.1 dX12_doesOne_103 rfl (lv_at hl 0 rfl) ?_
                refine lv_iload_n C.1 C.2.1 dX12_doesOne_104 rfl (lv_at hl 1 rfl) ?_
                refine k_pi (k_runVM (rest := [.ref h]) C aks Wd cs_X12_101 (mt_body D h ad ca (sI (sI (sI (sI I 30 steps_94) 31 ending_94) 32 outMany_94) 33 cursor_r96) (sF (sF F 28 holds_94) 29 outs_94) Wd.2 x0 g_x0 _ hw l _) rfl rfl ⟨(by show 504 + 1 ≤ 609 + (n + 1); omega), (by show 8 + (2 + 11) + (10647) ≤ 12992 + 23 * (n + 1); omega)⟩ hl.1 rfl rfl (Nat.le_of_ble_eq_true rfl) ⟨(Nat.le_of_ble_eq_true rfl), (Nat.le_of_ble_eq_true rfl)⟩ dX12_doesOne_105) (fun y105 hy => ?_)
                obtain ⟨r105, rfl, g_r105, hw⟩ := hy
                refine k_cMi Wd (k_runVM (rest := []) C aks Wd cs_X12_306 (ih_does D h ad ca (sI (sI (sI (sI I 30 steps_94) 31 ending_94) 32 outMany_94) 33 cursor_r96) (sF (sF F 28 holds_94) 29 outs_94) Wd.2 r105 g_r105 _ hw l _) rfl rfl ⟨(by show 609 + n + 1 ≤ 609 + (n + 1); omega), (by show 8 + (3 + 11) + (12992 + 23 * n) ≤ 12992 + 23 * (n + 1); omega)⟩ hl.1 rfl rfl (Nat.le_of_ble_eq_true rfl) ⟨(Nat.le_of_ble_eq_true rfl), (Nat.le_of_ble_eq_true rfl)⟩ dX12_doesOne_108) (fun r108 u108 H locs g_r108 hw Wd => ?_)
                obtain ⟨holds_r108, outs_r108, steps_r108, ending_r108, outMany_r108, cursor_r108⟩ := u108
                dsimp only at hw
                have Wc108 := Wd
                have Wd : wXM D ca s h ad (sI (sI (sI (sI I 30 steps_r108) 31 ending_r108) 32 outMany_r108) 33 cursor_r108) (sF (sF F 28 holds_r108) 29 outs_r108) H A s.heap locs := wMc Wd rfl rfl ⟨(rsI (rsI (rsI (rsI hS.1 (Wc108.2.1 30)) (Wc108.2.1 31)) (Wc108.2.1 32)) (Wc108.2.1 33)), (rsF (rsF hS.2 (fun j => Wc108.2.2 28 j)) (fun j => Wc108.2.2 29 j))⟩
                refine lv_if_eq (tgt := 121) C.1 C.2.1 dX12_doesOne_111 (by decide) (fun c111 => ?_) (fun c111 => ?_)
                · have hw := hw.1 (z0_eq g_r108 c111)
                  refine lv_iconst (v := zI 0) C.1 C.2.1 dX12_doesOne_121 (by decide) ?_
                  exact k_retMi C hr hlk (by decide) Wd (u := (holds_r108, outs_r108, steps_r108, ending_r108, outMany_r108, cursor_r108)) rfl rfl ⟨⟨_, rfl, (show rng 0 from by decide), hw⟩, ⟨(rsI (rsI (rsI (rsI hS.1 (Wc108.2.1 30)) (Wc108.2.1 31)) (Wc108.2.1 32)) (Wc108.2.1 33)), (rsF (rsF hS.2 (fun j => Wc108.2.2 28 j)) (fun j => Wc108.2.2 29 j))⟩⟩ dX12_doesOne_122
                · have hw := hw.2 (z0_ne g_r108 c111)
                  refine lv_aload_n C.1 C.2.1 dX12_doesOne_114 rfl (lv_at hl 0 rfl) ?_
                  refine k_cMi Wd (k_runVM (rest := []) C aks Wd cs_X12_300 (mt_step D h ad ca (sI (sI (sI (sI I 30 steps_r108) 31 ending_r108) 32 outMany_r108) 33 cursor_r108) (sF (sF F 28 holds_r108) 29 outs_r108) Wd.2   _ hw l _) rfl rfl ⟨(by show 1 + 1 ≤ 609 + (n + 1); omega), (by show 8 + (1 + 11) + (64) ≤ 12992 + 23 * (n + 1); omega)⟩ hl.1 rfl rfl (Nat.le_of_ble_eq_true rfl) ⟨(Nat.le_of_ble_eq_true rfl), (Nat.le_of_ble_eq_true rfl)⟩ dX12_doesOne_115) (fun r115 u115 H locs g_r115 hw Wd => ?_)
                  obtain ⟨steps_r115, ending_r115⟩ := u115
                  dsimp only at hw
                  have Wc115 := Wd
                  have Wd : wXM D ca s h ad (sI (sI (sI (sI I 30 steps_r115) 31 ending_r115) 32 outMany_r108) 33 cursor_r108) (sF (sF F 28 holds_r108) 29 outs_r108) H A s.heap locs := wMc Wd rfl rfl ⟨(rsI (rsI (rsI (rsI hS.1 (Wc115.2.1 30)) (Wc115.2.1 31)) (Wc108.2.1 32)) (Wc108.2.1 33)), (rsF (rsF hS.2 (fun j => Wc108.2.2 28 j)) (fun j => Wc108.2.2 29 j))⟩
                  refine lv_if_ne (tgt := 94) C.1 C.2.1 dX12_doesOne_118 (by decide) (fun c118 => ?_) (fun c118 => ?_)
                  · have hw := hw.1 (z0_ne g_r115 c118)
                    exact hL94 _ _ _ _ _ _ hw _ _ _ ⟨wMc Wd rfl rfl ⟨(rsI (rsI (rsI (rsI hS.1 (Wc115.2.1 30)) (Wc115.2.1 31)) (Wc108.2.1 32)) (Wc108.2.1 33)), (rsF (rsF hS.2 (fun j => Wc108.2.2 28 j)) (fun j => Wc108.2.2 29 j))⟩, lv_sub hl [0, 1] rfl⟩
                  · have hw := hw.2 (z0_eq g_r115 c118)
                    refine lv_iconst (v := zI 0) C.1 C.2.1 dX12_doesOne_121 (by decide) ?_
                    exact k_retMi C hr hlk (by decide) Wd (u := (holds_r108, outs_r108, steps_r115, ending_r115, outMany_r108, cursor_r108)) rfl rfl ⟨⟨_, rfl, (show rng 0 from by decide), hw⟩, ⟨(rsI (rsI (rsI (rsI hS.1 (Wc115.2.1 30)) (Wc115.2.1 31)) (Wc108.2.1 32)) (Wc108.2.1 33)), (rsF (rsF hS.2 (fun j => Wc108.2.2 28 j)) (fun j => Wc108.2.2 29 j))⟩⟩ dX12_doesOne_122
          · have hw := hw.2 (z_eq g14 (show rng 112 from by decide) c32)
            refine lv_aload_n C.1 C.2.1 dX12_doesOne_35 rfl (lv_at hl 0 rfl) ?_
            refine lv_iload_n C.1 C.2.1 dX12_doesOne_36 rfl (lv_at hl 1 rfl) ?_
            refine k_pi (k_runVM (rest := []) C aks Wd cs_X12_101 (mt_body D h ad ca (sI (sI I 30 steps_r1) 31 ending_r1) F Wd.2 x0 g_x0 _ hw l _) rfl rfl ⟨(by show 504 + 1 ≤ 609 + (n + 1); omega), (by show 8 + (2 + 11) + (10647) ≤ 12992 + 23 * (n + 1); omega)⟩ hl.1 rfl rfl (Nat.le_of_ble_eq_true rfl) ⟨(Nat.le_of_ble_eq_true rfl), (Nat.le_of_ble_eq_true rfl)⟩ dX12_doesOne_37) (fun y37 hy => ?_)
            obtain ⟨r37, rfl, g_r37, hw⟩ := hy
            refine lv_istore_n (lv' := [(3, .int (zI r37)), (0, .ref h), (1, .int (zI x0)), (2, .int (zI ((F 2) x0)))]) C.1 C.2.1 dX12_doesOne_40 rfl hl (by decide) rfl (fun ls hl => ?_)
            replace hl := lv_sub hl [1, 2, 3, 0] rfl
            refine lv_aload_n C.1 C.2.1 dX12_doesOne_41 rfl (lv_at hl 0 rfl) ?_
            refine lv_iload_n C.1 C.2.1 dX12_doesOne_42 rfl (lv_at hl 1 rfl) ?_
            refine k_cMi Wd (k_runVM (rest := []) C aks Wd cs_X12_303 (mt_isSo D h ad ca (sI (sI I 30 steps_r1) 31 ending_r1) F Wd.2 x0 g_x0 _ hw l _) rfl rfl ⟨(by show 504 + 1 ≤ 609 + (n + 1); omega), (by show 8 + (5 + 11) + (11148) ≤ 12992 + 23 * (n + 1); omega)⟩ hl.1 rfl rfl (Nat.le_of_ble_eq_true rfl) ⟨(Nat.le_of_ble_eq_true rfl), (Nat.le_of_ble_eq_true rfl)⟩ dX12_doesOne_43) (fun r43 cursor_r43 H locs g_r43 hw Wd => ?_)
            have Wc43 := Wd
            have Wd : wXM D ca s h ad (sI (sI (sI I 30 steps_r1) 31 ending_r1) 33 cursor_r43) F H A s.heap locs := wMc Wd rfl rfl ⟨(rsI (rsI (rsI hS.1 (Wc1.2.1 30)) (Wc1.2.1 31)) (Wc43.2.1 33)), hS.2⟩
            refine lv_if_eq (tgt := 55) C.1 C.2.1 dX12_doesOne_46 (by decide) (fun c46 => ?_) (fun c46 => ?_)
            · have hw := hw.1 (z0_eq g_r43 c46)
              refine lv_aload_n C.1 C.2.1 dX12_doesOne_55 rfl (lv_at hl 0 rfl) ?_
              refine lv_iload_n C.1 C.2.1 dX12_doesOne_56 rfl (lv_at hl 3 rfl) ?_
              refine k_pi (k_runVM (rest := []) C aks Wd cs_X12_309 (mt_close D h ad ca (sI (sI (sI I 30 steps_r1) 31 ending_r1) 33 cursor_r43) F Wd.2 r37 g_r37 _ hw l _) rfl rfl ⟨(by show 607 + 1 ≤ 609 + (n + 1); omega), (by show 8 + (3 + 11) + (12930) ≤ 12992 + 23 * (n + 1); omega)⟩ hl.1 rfl rfl (Nat.le_of_ble_eq_true rfl) ⟨(Nat.le_of_ble_eq_true rfl), (Nat.le_of_ble_eq_true rfl)⟩ dX12_doesOne_57) (fun y57 hy => ?_)
              obtain ⟨r57, rfl, g_r57, hw⟩ := hy
              refine lv_istore_n (lv' := [(3, .int (zI r57)), (0, .ref h), (1, .int (zI x0)), (2, .int (zI ((F 2) x0)))]) C.1 C.2.1 dX12_doesOne_60 rfl hl (by decide) rfl (fun ls hl => ?_)
              replace hl := lv_sub hl [1, 2, 3, 0] rfl
              refine lv_aload_n C.1 C.2.1 dX12_doesOne_61 rfl (lv_at hl 0 rfl) ?_
              refine k_get (v := .ref (ad 2)) C Wd.1 KX12 0 2 wM0 (by decide) fl_X12_16 rfl dX12_doesOne_62 ?_
              refine lv_iload_n C.1 C.2.1 dX12_doesOne_65 rfl (lv_at hl 3 rfl) ?_
              obtain ⟨a66, hw⟩ := hw
              refine k_ialdM (g := (F 2)) C Wd 3 2 rfl rfl a66 (by decide) dX12_doesOne_66 ?_
              have g66 : rng ((F 2) r57) := rngL (hS.2 2) a66
              refine lv_bipush (v := zI 114) C.1 C.2.1 dX12_doesOne_67 (by decide) ?_
              refine lv_icmp_eq (tgt := 82) C.1 C.2.1 dX12_doesOne_69 (by decide) (fun c69 => ?_) (fun c69 => ?_)
              · have hw := hw.1 (z_eq g66 (show rng 114 from by decide) c69)
                refine lv_iconst (v := zI 1) C.1 C.2.1 dX12_doesOne_82 (by decide) ?_
                refine lv_goto (tgt := 87) C.1 C.2.1 dX12_doesOne_83 (by decide) ?_
                exact k_retMi C hr hlk (by decide) Wd (u := ((F 28), (F 29), steps_r1, ending_r1, (I 32), cursor_r43)) rfl rfl ⟨⟨_, rfl, (show rng 1 from by decide), hw⟩, ⟨(rsI (rsI (rsI (rsI hS.1 (Wc1.2.1 30)) (Wc1.2.1 31)) (hS.1 32)) (Wc43.2.1 33)), (rsF (rsF hS.2 (hS.2 28)) (hS.2 29))⟩⟩ dX12_doesOne_87
              · have hw := hw.2 (z_ne g66 (show rng 114 from by decide) c69)
                refine lv_aload_n C.1 C.2.1 dX12_doesOne_72 rfl (lv_at hl 0 rfl) ?_
                refine lv_iload_n C.1 C.2.1 dX12_doesOne_73 rfl (lv_at hl 3 rfl) ?_
                refine lv_iconst (v := zI 1) C.1 C.2.1 dX12_doesOne_74 (by decide) ?_
                refine k_iadd (v := zI (r57 + 1)) C (zI_iadd _ _) dX12_doesOne_75 ?_
                obtain ⟨g76_0, hw⟩ := hw
                refine k_cMi Wd (k_runVM (rest := []) C aks Wd cs_X12_306 (ih_does D h ad ca (sI (sI (sI I 30 steps_r1) 31 ending_r1) 33 cursor_r43) F Wd.2 (r57 + 1) g76_0 _ hw l _) rfl rfl ⟨(by show 609 + n + 1 ≤ 609 + (n + 1); omega), (by show 8 + (3 + 11) + (12992 + 23 * n) ≤ 12992 + 23 * (n + 1); omega)⟩ hl.1 rfl rfl (Nat.le_of_ble_eq_true rfl) ⟨(Nat.le_of_ble_eq_true rfl), (Nat.le_of_ble_eq_true rfl)⟩ dX12_doesOne_76) (fun r76 u76 H locs g_r76 hw Wd => ?_)
                obtain ⟨holds_r76, outs_r76, steps_r76, ending_r76, outMany_r76, cursor_r76⟩ := u76
                dsimp only at hw
                have Wc76 := Wd
                have Wd : wXM D ca s h ad (sI (sI (sI (sI I 30 steps_r76) 31 ending_r76) 32 outMany_r76) 33 cursor_r76) (sF (sF F 28 holds_r76) 29 outs_r76) H A s.heap locs := wMc Wd rfl rfl ⟨(rsI (rsI (rsI (rsI hS.1 (Wc76.2.1 30)) (Wc76.2.1 31)) (Wc76.2.1 32)) (Wc76.2.1 33)), (rsF (rsF hS.2 (fun j => Wc76.2.2 28 j)) (fun j => Wc76.2.2 29 j))⟩
                refine lv_if_eq (tgt := 86) C.1 C.2.1 dX12_doesOne_79 (by decide) (fun c79 => ?_) (fun c79 => ?_)
                · have hw := hw.1 (z0_eq g_r76 c79)
                  refine lv_iconst (v := zI 0) C.1 C.2.1 dX12_doesOne_86 (by decide) ?_
                  exact k_retMi C hr hlk (by decide) Wd (u := (holds_r76, outs_r76, steps_r76, ending_r76, outMany_r76, cursor_r76)) rfl rfl ⟨⟨_, rfl, (show rng 0 from by decide), hw⟩, ⟨(rsI (rsI (rsI (rsI hS.1 (Wc76.2.1 30)) (Wc76.2.1 31)) (Wc76.2.1 32)) (Wc76.2.1 33)), (rsF (rsF hS.2 (fun j => Wc76.2.2 28 j)) (fun j => Wc76.2.2 29 j))⟩⟩ dX12_doesOne_87
                · have hw := hw.2 (z0_ne g_r76 c79)
                  refine lv_iconst (v := zI 1) C.1 C.2.1 dX12_doesOne_82 (by decide) ?_
                  refine lv_goto (tgt := 87) C.1 C.2.1 dX12_doesOne_83 (by decide) ?_
                  exact k_retMi C hr hlk (by decide) Wd (u := (holds_r76, outs_r76, steps_r76, ending_r76, outMany_r76, cursor_r76)) rfl rfl ⟨⟨_, rfl, (show rng 1 from by decide), hw⟩, ⟨(rsI (rsI (rsI (rsI hS.1 (Wc76.2.1 30)) (Wc76.2.1 31)) (Wc76.2.1 32)) (Wc76.2.1 33)), (rsF (rsF hS.2 (fun j => Wc76.2.2 28 j)) (fun j => Wc76.2.2 29 j))⟩⟩ dX12_doesOne_87
            · have hw := hw.2 (z0_ne g_r43 c46)
              refine lv_aload_n C.1 C.2.1 dX12_doesOne_49 rfl (lv_at hl 0 rfl) ?_
              refine lv_iload_n C.1 C.2.1 dX12_doesOne_50 rfl (lv_at hl 3 rfl) ?_
              refine k_cMi Wd (k_runVM (rest := []) C aks Wd cs_X12_306 (ih_does D h ad ca (sI (sI (sI I 30 steps_r1) 31 ending_r1) 33 cursor_r43) F Wd.2 r37 g_r37 _ hw l _) rfl rfl ⟨(by show 609 + n + 1 ≤ 609 + (n + 1); omega), (by show 8 + (3 + 11) + (12992 + 23 * n) ≤ 12992 + 23 * (n + 1); omega)⟩ hl.1 rfl rfl (Nat.le_of_ble_eq_true rfl) ⟨(Nat.le_of_ble_eq_true rfl), (Nat.le_of_ble_eq_true rfl)⟩ dX12_doesOne_51) (fun r51 u51 H locs g_r51 hw Wd => ?_)
              obtain ⟨holds_r51, outs_r51, steps_r51, ending_r51, outMany_r51, cursor_r51⟩ := u51
              dsimp only at hw
              have Wc51 := Wd
              have Wd : wXM D ca s h ad (sI (sI (sI (sI I 30 steps_r51) 31 ending_r51) 32 outMany_r51) 33 cursor_r51) (sF (sF F 28 holds_r51) 29 outs_r51) H A s.heap locs := wMc Wd rfl rfl ⟨(rsI (rsI (rsI (rsI hS.1 (Wc51.2.1 30)) (Wc51.2.1 31)) (Wc51.2.1 32)) (Wc51.2.1 33)), (rsF (rsF hS.2 (fun j => Wc51.2.2 28 j)) (fun j => Wc51.2.2 29 j))⟩
              obtain ⟨b54_0, hw⟩ := hw
              exact k_retMi C hr hlk (zI_nb b54_0) Wd (u := (holds_r51, outs_r51, steps_r51, ending_r51, outMany_r51, cursor_r51)) rfl rfl ⟨⟨_, rfl, g_r51, hw⟩, ⟨(rsI (rsI (rsI (rsI hS.1 (Wc51.2.1 30)) (Wc51.2.1 31)) (Wc51.2.1 32)) (Wc51.2.1 33)), (rsF (rsF hS.2 (fun j => Wc51.2.2 28 j)) (fun j => Wc51.2.2 29 j))⟩⟩ dX12_doesOne_54
        · have hw := hw.2 (z_eq g14 (show rng 111 from by decide) c19)
          refine lv_aload_n C.1 C.2.1 dX12_doesOne_22 rfl (lv_at hl 0 rfl) ?_
          refine lv_iconst (v := zI 1) C.1 C.2.1 dX12_doesOne_23 (by decide) ?_
          refine k_putM C Wd 31 (sI (sI I 30 steps_r1) 31 1) (by decide) fl_X12_294 rfl rfl rfl rfl (rsI (rsI hS.1 (Wc1.2.1 30)) (show rng 1 from by decide)) dX12_doesOne_24 (fun H locs Wd => ?_)
          refine lv_iconst (v := zI 0) C.1 C.2.1 dX12_doesOne_27 (by decide) ?_
          exact k_retMi C hr hlk (by decide) Wd (u := ((F 28), (F 29), steps_r1, 1, (I 32), (I 33))) rfl rfl ⟨⟨_, rfl, (show rng 0 from by decide), hw⟩, ⟨(rsI (rsI (rsI (rsI hS.1 (Wc1.2.1 30)) (show rng 1 from by decide)) (hS.1 32)) (hS.1 33)), (rsF (rsF hS.2 (hS.2 28)) (hS.2 29))⟩⟩ dX12_doesOne_28
      · have hw := hw.2 (z0_eq g_r1 c4)
        refine lv_iconst (v := zI 0) C.1 C.2.1 dX12_doesOne_7 (by decide) ?_
        exact k_retMi C hr hlk (by decide) Wd (u := ((F 28), (F 29), steps_r1, ending_r1, (I 32), (I 33))) rfl rfl ⟨⟨_, rfl, (show rng 0 from by decide), hw⟩, ⟨(rsI (rsI (rsI (rsI hS.1 (Wc1.2.1 30)) (Wc1.2.1 31)) (hS.1 32)) (hS.1 33)), (rsF (rsF hS.2 (hS.2 28)) (hS.2 29))⟩⟩ dX12_doesOne_8
theorem mt_does : ∀ (D : va_G) (h : Nat) (ad : Nat → Nat) (ca : Nat → ClassId) (I : Nat → Int) (F : Nat → Int → Int) (hS : rngS I F) (x0 : Int) (g_x0 : rng x0) (K : Int → (Int → Int) → (Int → Int) → Int → Int → Int → Int → Prop) (hw : wp_does 100 (F 2) (I 4) (F 28) (F 29) (I 30) (I 31) (I 32) (I 33) x0 K) (l : Launch) (sz : Nat), Met l yX12_does (Cond.code yX12_does cX12_does 3 (some .boolean) :: gG) { frames := 709, cells := 0, slots := 0, locals := 15292 } (cPre D (tM ca) (wM h ad ca I F) sz [.ref h, .int (zI x0)]) (va_Qi (fun (r : Int32) (u : (Int → Int) × (Int → Int) × (Int) × (Int) × (Int) × (Int)) => (∃ x : Int, r = zI x ∧ rng x ∧ K x u.1 u.2.1 u.2.2.1 u.2.2.2.1 u.2.2.2.2.1 u.2.2.2.2.2) ∧ rngS (sI (sI (sI (sI I 30 u.2.2.1) 31 u.2.2.2.1) 32 u.2.2.2.2.1) 33 u.2.2.2.2.2) (sF (sF F 28 u.1) 29 u.2.1)) (fun u t => cB D (va_A (wM h ad ca I F) sz) [] (wM h ad ca (sI (sI (sI (sI I 30 u.2.2.1) 31 u.2.2.2.1) 32 u.2.2.2.2.1) 33 u.2.2.2.2.2) (sF (sF F 28 u.1) 29 u.2.1)) t) (va_A (wM h ad ca I F) sz)) 0 0 (va_A (wM h ad ca I F) sz) := (mg_does 100).1
theorem mt_doesOne : ∀ (D : va_G) (h : Nat) (ad : Nat → Nat) (ca : Nat → ClassId) (I : Nat → Int) (F : Nat → Int → Int) (hS : rngS I F) (x0 : Int) (g_x0 : rng x0) (K : Int → (Int → Int) → (Int → Int) → Int → Int → Int → Int → Prop) (hw : wp_doesOne 100 (F 2) (I 4) (F 28) (F 29) (I 30) (I 31) (I 32) (I 33) x0 K) (l : Launch) (sz : Nat), Met l yX12_doesOne (Cond.code yX12_doesOne cX12_doesOne 4 (some .boolean) :: gG) { frames := 709, cells := 0, slots := 0, locals := 15292 } (cPre D (tM ca) (wM h ad ca I F) sz [.ref h, .int (zI x0)]) (va_Qi (fun (r : Int32) (u : (Int → Int) × (Int → Int) × (Int) × (Int) × (Int) × (Int)) => (∃ x : Int, r = zI x ∧ rng x ∧ K x u.1 u.2.1 u.2.2.1 u.2.2.2.1 u.2.2.2.2.1 u.2.2.2.2.2) ∧ rngS (sI (sI (sI (sI I 30 u.2.2.1) 31 u.2.2.2.1) 32 u.2.2.2.2.1) 33 u.2.2.2.2.2) (sF (sF F 28 u.1) 29 u.2.1)) (fun u t => cB D (va_A (wM h ad ca I F) sz) [] (wM h ad ca (sI (sI (sI (sI I 30 u.2.2.1) 31 u.2.2.2.1) 32 u.2.2.2.2.1) 33 u.2.2.2.2.2) (sF (sF F 28 u.1) 29 u.2.1)) t) (va_A (wM h ad ca I F) sz)) 0 0 (va_A (wM h ad ca I F) sz) := (mg_does 100).2
