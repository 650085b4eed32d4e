set_option maxHeartbeats 4000000 in
set_option maxRecDepth 100000 in
theorem gX11_program (l : Launch) (D : va_G) (adK adV : Nat → Nat) (tq : Nat) (ad : Nat → Nat) (ca : Nat → ClassId) (T : Value → Prop) (cel : Nat → Cl) (sz : Nat) (x0 : Int32) (hI : InvC ad ca (pTp T) cel) : Met l yX11_program (Cond.code yX11_program cX11_program 3 (some .int) :: gG) { frames := 9, cells := 0, slots := 0, locals := 386 } (cPS RX10 ixT adK adV tq D (tC ca) (wN NC cel) sz [.ref (ad 0), .int x0]) (va_Qi (fun (r : Int32) (c' : Nat → Cl) => (-1 ≤ r.toInt ∧ r.toInt ≤ 1000) ∧ InvC ad ca (pTp tT0) c') (fun c' t => cB D (va_A (wN NC cel) sz) [] (wN NC c') t) (va_A (wN NC cel) sz)) 0 0 (va_A (wN NC cel) sz) := by
  refine Met.ofW (cc := cX11_program) (maxL := 3) (ret := (some .int)) (by decide) rfl ?_
  intro p e s m args below meth c s₁ B hml hv
  obtain ⟨hv, hE⟩ := hv
  obtain ⟨rfl, aks, rfl, Wd⟩ := k_enter hv
  have C : CallFix p m c cX11_program 3 s _ gG RX11 := ⟨B.exec, B.bytes, hml, findClass_of_methodNamed B.named, fun w h => atoms_spec (ws := Cond.code yX11_program cX11_program 3 (some .int) :: gG) B.pre w (List.mem_cons_of_mem _ h)⟩
  have hr := B.returns
  have hlk := B.notSynchronized
  generalize va_A (wN NC cel) s.heap.size = A at Wd hE ⊢
  refine k_locals (Nat.le_of_ble_eq_true rfl) [(0, .ref (ad 0)), (1, .int x0)] rfl (fun ls hl => ?_)
  refine lv_aload_n C.1 C.2.1 dX11_program_0 rfl (lv_at hl 0 rfl) ?_
  refine lv_iload_n C.1 C.2.1 dX11_program_1 rfl (lv_at hl 1 rfl) ?_
  obtain ⟨_, e2o, y2o_1, rfl, b2o_1, c2o_1⟩ := at_E (by decide) (fx0 hI)
  refine k_pq (k_runV (rest := []) C aks Wd cs_X11_77 (gX11_slotAt l D ad ca (T) cel _ x0 hI) (List.range NC) (wN_all cel) ndR (List.range NC) (tC_all ca) 0 11 e2o rfl rfl rfl rfl ⟨(Nat.le_of_ble_eq_true rfl), (Nat.le_of_ble_eq_true rfl)⟩ hl.1 rfl rfl (Nat.le_of_ble_eq_true rfl) ⟨(Nat.le_of_ble_eq_true rfl), (Nat.le_of_ble_eq_true rfl)⟩ dX11_program_2) (fun o2 w2 => ?_)
  rcases w2 with rfl | ⟨z2, bz2, hz2, rfl⟩
  · skip
    refine lv_astore_nN (lv' := [(2, .null), (0, .ref (ad 0)), (1, .int x0)]) C.1 C.2.1 dX11_program_5 rfl hl (by decide) rfl (fun ls hl => ?_)
    refine lv_aload_nN C.1 C.2.1 dX11_program_6 rfl (lv_at hl 0 rfl) ?_
    refine lv_ifnonnullN C.1 C.2.1 dX11_program_7 ?_
    refine lv_aload_n C.1 C.2.1 dX11_program_10 rfl (lv_at hl 1 rfl) ?_
    obtain ⟨_, e11, y11_1, rfl, b11_1, c11_1⟩ := at_E (by decide) (fx0 hI)
    refine k_get C Wd KX11 0 3 e11 (by decide) fl_X11_29 rfl dX11_program_11 ?_
    obtain ⟨_, e14o, y14o_1, y14o_2, v14o_3, v14o_4, y14o_5, y14o_6, y14o_7, y14o_8, y14o_9, y14o_10, y14o_11, y14o_12, y14o_13, rfl, _, b14o_7, c14o_7, b14o_9, c14o_9, b14o_13, c14o_13⟩ := at_E (by decide) (fx2 hI)
    refine kc_v Wd (k_runV (rest := []) C aks Wd cs_X11_81 (liftV4 (P' := pTp tT0) hI (ok_25) (wtX6_drop_x l D (T) (ad 2) (ad 3) (ad 5) (ad 6) (ad 7) (ad 4) _ ([2, 3].map cel) ⟨(fx2 hI), (fx3 hI), trivial⟩) rfl (hs_PT (List.mem_of_getElem? (i := 1) rfl)) ⟨fun _ h => tx2 h (fun _ _ q => q), fun _ h => tx3 h (fun _ _ q => q), trivial⟩) (List.range NC) (wN_all cel) ndR (List.range NC) (tC_all ca) 2 6 e14o rfl rfl rfl rfl ⟨(Nat.le_of_ble_eq_true rfl), (Nat.le_of_ble_eq_true rfl)⟩ hl.1 rfl rfl (Nat.le_of_ble_eq_true rfl) ⟨(Nat.le_of_ble_eq_true rfl), (Nat.le_of_ble_eq_true rfl)⟩ dX11_program_14) (fun cel H locs w14 hI Wd => ?_)
    refine lv_iconst (v := (-1)) C.1 C.2.1 dX11_program_17 (by decide) ?_
    exact kc_zret C hr hlk rfl Wd ⟨(by exact ⟨by have zqm1 : (-1 : Int32).toInt = -1 := (by decide); omega, by have zqm1 : (-1 : Int32).toInt = -1 := (by decide); omega⟩), hI⟩ dX11_program_18
  · have hz2 : (z2 : Int) = x0.toInt := hz2
    refine lv_astore_n (lv' := [(2, .ref (ad (101 + 2 * z2))), (0, .ref (ad 0)), (1, .int x0)]) C.1 C.2.1 dX11_program_5 rfl hl (by decide) rfl (fun ls hl => ?_)
    refine lv_aload_n C.1 C.2.1 dX11_program_6 rfl (lv_at hl 0 rfl) ?_
    refine lv_ifnonnull (tgt := 19) C.1 C.2.1 dX11_program_7 (by decide) ?_
    refine lv_aload_n C.1 C.2.1 dX11_program_19 rfl (lv_at hl 1 rfl) ?_
    obtain ⟨_, e20, y20_1, rfl, b20_1, c20_1⟩ := at_E (by decide) (fx0 hI)
    refine k_get C Wd KX11 0 3 e20 (by decide) fl_X11_29 rfl dX11_program_20 ?_
    refine lv_aload_n C.1 C.2.1 dX11_program_23 rfl (lv_at hl 1 rfl) ?_
    obtain ⟨_, e24, y24_1, rfl, b24_1, c24_1⟩ := at_E (by decide) (fx0 hI)
    refine k_get C Wd KX11 0 2 e24 (by decide) fl_X11_22 rfl dX11_program_24 ?_
    obtain ⟨_, e27o, y27o_1, y27o_2, v27o_3, v27o_4, y27o_5, y27o_6, y27o_7, y27o_8, y27o_9, y27o_10, y27o_11, y27o_12, y27o_13, rfl, _, b27o_7, c27o_7, b27o_9, c27o_9, b27o_13, c27o_13⟩ := at_E (by decide) (fx2 hI)
    refine kc_v Wd (k_runV (rest := []) C aks Wd cs_X11_84 (liftV4 (P' := setP (pTp T) 2 (fun v w => v = .ref (ad 117) ∧ w = .null)) hI (ok_26) (wtX6_beginProgram l D (T) (ad 2) (ad 117) (ad 3) (ad 5) (ad 6) (ad 7) (ad 118) (ad 4) (ca 118) 1000 _ (by omega) (by omega) ([2, 117, 118, 3].map cel) ⟨(fx2 hI), (fx117 hI), (fx118 hI), (fx3 hI), trivial⟩) rfl (hs_set (List.mem_of_getElem? (i := 0) rfl)) ⟨fun _ h => tx2 h (fun _ _ q => q), fun _ h => h, fun _ h => h, fun _ h => tx3 h (fun _ _ q => q), trivial⟩) (List.range NC) (wN_all cel) ndR (List.range NC) (tC_all ca) 2 6 e27o rfl rfl rfl rfl ⟨(Nat.le_of_ble_eq_true rfl), (Nat.le_of_ble_eq_true rfl)⟩ hl.1 rfl rfl (Nat.le_of_ble_eq_true rfl) ⟨(Nat.le_of_ble_eq_true rfl), (Nat.le_of_ble_eq_true rfl)⟩ dX11_program_27) (fun cel H locs w27 hI Wd => ?_)
    refine lv_aload_n C.1 C.2.1 dX11_program_30 rfl (lv_at hl 1 rfl) ?_
    obtain ⟨_, e31, y31_1, rfl, b31_1, c31_1⟩ := at_E (by decide) (fx0 hI)
    refine k_get C Wd KX11 0 3 e31 (by decide) fl_X11_29 rfl dX11_program_31 ?_
    obtain ⟨_, e34o, y34o_1, y34o_2, v34o_3, v34o_4, y34o_5, y34o_6, y34o_7, y34o_8, y34o_9, y34o_10, y34o_11, y34o_12, y34o_13, rfl, _, b34o_7, c34o_7, b34o_9, c34o_9, b34o_13, c34o_13⟩ := at_E (by decide) (fx2 hI)
    refine kc_i Wd (k_runVT (rest := []) C aks hE Wd cs_X11_88 (liftIS4 (P' := pTp tT0) hI (ok_27) (wtX6_readAll_P_x l D adK adV tq (T) (ad 2) (ad 3) (ad 5) (ad 6) (ad 7) (ad 117) (ad 4) (ad 118) (ca 4) (ca 118) (ca 5) (ca 6) (ca 7) 1000 _ (by omega) (by omega) ([2, 3, 4, 117, 118, 5, 6, 7].map cel) ⟨(fx2 hI), (fx3 hI), (fx4 hI), (fx117 hI), (fx118 hI), (fx5 hI), (fx6 hI), (fx7 hI), trivial⟩) rfl (hs_rd ((List.mem_of_getElem? (i := 0) rfl)) ((List.mem_of_getElem? (i := 1) rfl))) ⟨fun _ h => tx2 h (fun _ _ q => q), fun _ h => tx3 h (fun _ _ q => q), fun _ h => h, fun _ h => h, fun _ h => h, fun _ h => h, fun _ h => h, fun _ h => h, trivial⟩) (List.range NC) (wN_all cel) ndR (List.range NC) (tC_all ca) 2 6 e34o rfl rfl rfl rfl ⟨(Nat.le_of_ble_eq_true rfl), (Nat.le_of_ble_eq_true rfl)⟩ hl.1 rfl rfl (Nat.le_of_ble_eq_true rfl) ⟨(Nat.le_of_ble_eq_true rfl), (Nat.le_of_ble_eq_true rfl)⟩ dX11_program_34) (fun r34 cel H locs w34 hI Wd => ?_)
    obtain ⟨g34_0, g34_1⟩ := w34
    have g34_0 : 0 ≤ r34.toInt := g34_0
    have g34_1 : r34.toInt ≤ 1 := g34_1
    refine lv_if_ne (tgt := 42) C.1 C.2.1 dX11_program_37 (by decide) (fun c37 => ?_) (fun c37 => ?_)
    · have i37 : ¬ r34.toInt = 0 := kz_ne c37
      refine lv_aload_n C.1 C.2.1 dX11_program_42 rfl (lv_at hl 0 rfl) ?_
      refine lv_aload_n C.1 C.2.1 dX11_program_43 rfl (lv_at hl 1 rfl) ?_
      obtain ⟨_, e44, y44_1, rfl, b44_1, c44_1⟩ := at_E (by decide) (fx0 hI)
      refine k_get C Wd KX11 0 2 e44 (by decide) fl_X11_22 rfl dX11_program_44 ?_
      obtain ⟨_, e47o, y47o_1, rfl, b47o_1, c47o_1⟩ := at_E (by show _ < 233; omega) (frow0 hI (by omega : z2 < 11))
      refine kc_v Wd (k_runV (rest := []) C aks Wd cs_X11_92 (liftV4 (P' := pTp tT0) hI (ok_28 z2 (by omega)) (wsX8_copy l D (ad (101 + 2 * z2)) (ad 117) (ad 118) (ad (101 + 2 * z2 + 1)) (ca 118) (ca (101 + 2 * z2 + 1)) 1000 (capR z2) _ (by omega) (by omega) (by have := capR_hi z2; have := capR_lo z2; omega) (by have := capR_hi z2; have := capR_lo z2; omega) ([117, 118, (101 + 2 * z2), (101 + 2 * z2 + 1)].map cel) ⟨(fx117 hI), (fx118 hI), (frow0 hI (by omega : z2 < 11)), (frow1 hI (by omega : z2 < 11)), trivial⟩) rfl (fun _ _ => rfl) ⟨fun _ h => h, fun _ h => h, fun _ h => trow0 (by omega) h, fun _ h => trow1 (by omega) h, trivial⟩) (List.range NC) (wN_all cel) ndR (List.range NC) (tC_all ca) (101 + 2 * z2) 8 e47o rfl rfl rfl rfl ⟨(Nat.le_of_ble_eq_true rfl), (Nat.le_of_ble_eq_true rfl)⟩ hl.1 rfl rfl (Nat.le_of_ble_eq_true rfl) ⟨(Nat.le_of_ble_eq_true rfl), (Nat.le_of_ble_eq_true rfl)⟩ dX11_program_47) (fun cel H locs w47 hI Wd => ?_)
      refine lv_aload_n C.1 C.2.1 dX11_program_50 rfl (lv_at hl 0 rfl) ?_
      obtain ⟨_, e51o, y51o_1, rfl, b51o_1, c51o_1⟩ := at_E (by show _ < 233; omega) (frow0 hI (by omega : z2 < 11))
      refine k_pi (k_runV (rest := []) C aks Wd cs_X11_95 (wsX8_statements l D (ad (101 + 2 * z2)) (ad (101 + 2 * z2 + 1)) (ca (101 + 2 * z2 + 1)) (capR z2) _ (by have := capR_hi z2; have := capR_lo z2; omega) (by have := capR_hi z2; have := capR_lo z2; omega) ([(101 + 2 * z2), (101 + 2 * z2 + 1)].map cel) ⟨(frow0 hI (by omega : z2 < 11)), (frow1 hI (by omega : z2 < 11)), trivial⟩) [(101 + 2 * z2), (101 + 2 * z2 + 1)] (wN_pick [(101 + 2 * z2), (101 + 2 * z2 + 1)] (okC_lt (ok_18 z2 (by omega)))) (okC_nd (ok_18 z2 (by omega))) [(101 + 2 * z2 + 1)] (tC_ok (ok_18 z2 (by omega)) rfl) (101 + 2 * z2) 8 e51o rfl rfl rfl rfl ⟨(Nat.le_of_ble_eq_true rfl), (Nat.le_of_ble_eq_true rfl)⟩ hl.1 rfl rfl (Nat.le_of_ble_eq_true rfl) ⟨(Nat.le_of_ble_eq_true rfl), (Nat.le_of_ble_eq_true rfl)⟩ dX11_program_51) (fun r51 w51 => ?_)
      obtain ⟨g51_0, g51_1⟩ := w51
      have g51_0 : 0 ≤ r51.toInt := g51_0
      have g51_1 : r51.toInt ≤ 1000 := g51_1
      exact kc_zret C hr hlk rfl Wd ⟨(by exact ⟨by omega, by omega⟩), hI⟩ dX11_program_54
    · have i37 : r34.toInt = 0 := kz_eq c37
      refine lv_iconst (v := (-1)) C.1 C.2.1 dX11_program_40 (by decide) ?_
      exact kc_zret C hr hlk rfl Wd ⟨(by exact ⟨by have zqm1 : (-1 : Int32).toInt = -1 := (by decide); omega, by have zqm1 : (-1 : Int32).toInt = -1 := (by decide); omega⟩), hI⟩ dX11_program_41
set_option maxHeartbeats 4000000 in
set_option maxRecDepth 100000 in
theorem gX11_rule (l : Launch) (D : va_G) (adK adV : Nat → Nat) (tq : Nat) (ad : Nat → Nat) (ca : Nat → ClassId) (T : Value → Prop) (cel : Nat → Cl) (sz : Nat) (hI : InvC ad ca (pTp T) cel) : Met l yX11_rule (Cond.code yX11_rule cX11_rule 2 (some .int) :: gG) { frames := 9, cells := 0, slots := 0, locals := 386 } (cPS RX10 ixT adK adV tq D (tC ca) (wN NC cel) sz [.ref (ad 0)]) (va_Qi (fun (r : Int32) (c' : Nat → Cl) => (-1 ≤ r.toInt ∧ r.toInt ≤ 11) ∧ InvC ad ca (pTp tT0) c') (fun c' t => cB D (va_A (wN NC cel) sz) [] (wN NC c') t) (va_A (wN NC cel) sz)) 0 0 (va_A (wN NC cel) sz) := by
  refine Met.ofW (cc := cX11_rule) (maxL := 2) (ret := (some .int)) (by decide) rfl ?_
  intro p e s m args below meth c s₁ B hml hv
  obtain ⟨hv, hE⟩ := hv
  obtain ⟨rfl, aks, rfl, Wd⟩ := k_enter hv
  have C : CallFix p m c cX11_rule 2 s _ gG RX11 := ⟨B.exec, B.bytes, hml, findClass_of_methodNamed B.named, fun w h => atoms_spec (ws := Cond.code yX11_rule cX11_rule 2 (some .int) :: gG) B.pre w (List.mem_cons_of_mem _ h)⟩
  have hr := B.returns
  have hlk := B.notSynchronized
  generalize va_A (wN NC cel) s.heap.size = A at Wd hE ⊢
  refine k_locals (Nat.le_of_ble_eq_true rfl) [(0, .ref (ad 0))] rfl (fun ls hl => ?_)
  refine lv_aload_n C.1 C.2.1 dX11_rule_0 rfl (lv_at hl 0 rfl) ?_
  obtain ⟨_, e1, y1_1, rfl, b1_1, c1_1⟩ := at_E (by decide) (fx0 hI)
  refine k_get C Wd KX11 0 6 e1 (by decide) fl_X11_50 rfl dX11_rule_1 ?_
  refine lv_aload_n C.1 C.2.1 dX11_rule_4 rfl (lv_at hl 0 rfl) ?_
  refine k_get C Wd KX11 0 1 e1 (by decide) fl_X11_18 rfl dX11_rule_5 ?_
  obtain ⟨_, e8o, y8o_3, y8o_4, rfl⟩ := at_E (by decide) (fx31 hI)
  refine k_pq (k_runV (rest := []) C aks Wd cs_X11_99 (gX4_ruleAt l D ad ca (T) cel _ y1_1 hI) (List.range NC) (wN_all cel) ndR (List.range NC) (tC_all ca) 31 4 e8o rfl rfl rfl rfl ⟨(Nat.le_of_ble_eq_true rfl), (Nat.le_of_ble_eq_true rfl)⟩ hl.1 rfl rfl (Nat.le_of_ble_eq_true rfl) ⟨(Nat.le_of_ble_eq_true rfl), (Nat.le_of_ble_eq_true rfl)⟩ dX11_rule_8) (fun o8 w8 => ?_)
  rcases w8 with rfl | ⟨z8, bz8, hz8, rfl⟩
  · skip
    refine lv_astore_nN (lv' := [(1, .null), (0, .ref (ad 0))]) C.1 C.2.1 dX11_rule_11 rfl hl (by decide) rfl (fun ls hl => ?_)
    refine lv_aload_nN C.1 C.2.1 dX11_rule_12 rfl (lv_at hl 0 rfl) ?_
    refine lv_ifnonnullN C.1 C.2.1 dX11_rule_13 ?_
    refine lv_aload_n C.1 C.2.1 dX11_rule_16 rfl (lv_at hl 1 rfl) ?_
    refine k_get C Wd KX11 0 3 e1 (by decide) fl_X11_29 rfl dX11_rule_17 ?_
    obtain ⟨_, e20o, y20o_1, y20o_2, v20o_3, v20o_4, y20o_5, y20o_6, y20o_7, y20o_8, y20o_9, y20o_10, y20o_11, y20o_12, y20o_13, rfl, _, b20o_7, c20o_7, b20o_9, c20o_9, b20o_13, c20o_13⟩ := at_E (by decide) (fx2 hI)
    refine kc_vk Wd (k_runV (rest := []) C aks Wd cs_X11_81 (liftVk4 (P' := pTp tT0) hI (ok_25) (by intro q; simp only [List.mem_cons, List.not_mem_nil, or_false] at q; omega) (wtX6_drop_x l D (T) (ad 2) (ad 3) (ad 5) (ad 6) (ad 7) (ad 4) _ ([2, 3].map cel) ⟨(fx2 hI), (fx3 hI), trivial⟩) rfl (hs_PT (List.mem_of_getElem? (i := 1) rfl)) ⟨fun _ h => tx2 h (fun _ _ q => q), fun _ h => tx3 h (fun _ _ q => q), trivial⟩) (List.range NC) (wN_all cel) ndR (List.range NC) (tC_all ca) 2 6 e20o rfl rfl rfl rfl ⟨(Nat.le_of_ble_eq_true rfl), (Nat.le_of_ble_eq_true rfl)⟩ hl.1 rfl rfl (Nat.le_of_ble_eq_true rfl) ⟨(Nat.le_of_ble_eq_true rfl), (Nat.le_of_ble_eq_true rfl)⟩ dX11_rule_20) (fun cel H locs w20 hI kz20 Wd => ?_)
    have e1 := (wN_at0 kz20).trans e1
    refine lv_iconst (v := (-1)) C.1 C.2.1 dX11_rule_23 (by decide) ?_
    exact kc_zret C hr hlk rfl Wd ⟨(by exact ⟨by have zqm1 : (-1 : Int32).toInt = -1 := (by decide); omega, by have zqm1 : (-1 : Int32).toInt = -1 := (by decide); omega⟩), hI⟩ dX11_rule_24
  · have hz8 : (z8 : Int) = y1_1.toInt := hz8
    refine lv_astore_n (lv' := [(1, .ref (ad (123 + 7 * z8))), (0, .ref (ad 0))]) C.1 C.2.1 dX11_rule_11 rfl hl (by decide) rfl (fun ls hl => ?_)
    refine lv_aload_n C.1 C.2.1 dX11_rule_12 rfl (lv_at hl 0 rfl) ?_
    refine lv_ifnonnull (tgt := 25) C.1 C.2.1 dX11_rule_13 (by decide) ?_
    refine lv_aload_n C.1 C.2.1 dX11_rule_25 rfl (lv_at hl 1 rfl) ?_
    refine k_get C Wd KX11 0 3 e1 (by decide) fl_X11_29 rfl dX11_rule_26 ?_
    refine lv_aload_n C.1 C.2.1 dX11_rule_29 rfl (lv_at hl 0 rfl) ?_
    obtain ⟨_, e30o, y30o_1, y30o_2, v30o_3, v30o_4, y30o_5, y30o_6, y30o_7, y30o_8, y30o_9, y30o_10, y30o_11, y30o_12, y30o_13, rfl, _, b30o_7, c30o_7, b30o_9, c30o_9, b30o_13, c30o_13⟩ := at_E (by decide) (fx2 hI)
    refine kc_vk Wd (k_runV (rest := []) C aks Wd cs_X11_103 (liftVk4 (P' := setP (pTp T) 2 (fun v w => v = .ref (ad (123 + 7 * z8 + 1)) ∧ w = .ref (ad (123 + 7 * z8)))) hI (ok_29 z8 (by omega)) (by intro q; simp only [List.mem_cons, List.not_mem_nil, or_false] at q; omega) (wtX6_beginRule l D (T) (ad 2) (ad (123 + 7 * z8)) (ad (123 + 7 * z8 + 1)) (ad (123 + 7 * z8 + 3)) (ad (123 + 7 * z8 + 5)) (ad (123 + 7 * z8 + 6)) (ad (123 + 7 * z8 + 2)) (ad (123 + 7 * z8 + 4)) (ad 3) (ad 5) (ad 6) (ad 7) (ad 4) (ca (123 + 7 * z8 + 2)) (ca (123 + 7 * z8 + 4)) 40 40 _ (by omega) (by omega) (by omega) (by omega) ([(123 + 7 * z8), (123 + 7 * z8 + 1), (123 + 7 * z8 + 2), (123 + 7 * z8 + 3), (123 + 7 * z8 + 4), 2, 3].map cel) ⟨(frule0 hI (by omega : z8 < 12)), (frule1 hI (by omega : z8 < 12)), (frule2 hI (by omega : z8 < 12)), (frule3 hI (by omega : z8 < 12)), (frule4 hI (by omega : z8 < 12)), (fx2 hI), (fx3 hI), trivial⟩) rfl (hs_set (List.mem_of_getElem? (i := 5) rfl)) ⟨fun _ h => trule0 (by omega) h, fun _ h => trule1 (by omega) h, fun _ h => trule2 (by omega) h, fun _ h => trule3 (by omega) h, fun _ h => trule4 (by omega) h, fun _ h => tx2 h (fun _ _ q => q), fun _ h => tx3 h (fun _ _ q => q), trivial⟩) (List.range NC) (wN_all cel) ndR (List.range NC) (tC_all ca) 2 6 e30o rfl rfl rfl rfl ⟨(Nat.le_of_ble_eq_true rfl), (Nat.le_of_ble_eq_true rfl)⟩ hl.1 rfl rfl (Nat.le_of_ble_eq_true rfl) ⟨(Nat.le_of_ble_eq_true rfl), (Nat.le_of_ble_eq_true rfl)⟩ dX11_rule_30) (fun cel H locs w30 hI kz30 Wd => ?_)
    have e1 := (wN_at0 kz30).trans e1
    refine lv_aload_n C.1 C.2.1 dX11_rule_33 rfl (lv_at hl 1 rfl) ?_
    refine k_get C Wd KX11 0 3 e1 (by decide) fl_X11_29 rfl dX11_rule_34 ?_
    obtain ⟨_, e37o, y37o_1, y37o_2, v37o_3, v37o_4, y37o_5, y37o_6, y37o_7, y37o_8, y37o_9, y37o_10, y37o_11, y37o_12, y37o_13, rfl, _, b37o_7, c37o_7, b37o_9, c37o_9, b37o_13, c37o_13⟩ := at_E (by decide) (fx2 hI)
    refine kc_ik Wd (k_runVT (rest := []) C aks hE Wd cs_X11_88 (liftISk4 (P' := pTp tT0) hI (ok_30 z8 (by omega)) (by intro q; simp only [List.mem_cons, List.not_mem_nil, or_false] at q; omega) (wtX6_readAll_L_x l D adK adV tq (T) (ad 2) (ad 3) (ad 5) (ad 6) (ad 7) (ad (123 + 7 * z8 + 1)) (ad (123 + 7 * z8)) (ad 4) (ad (123 + 7 * z8 + 2)) (ad (123 + 7 * z8 + 3)) (ad (123 + 7 * z8 + 5)) (ad (123 + 7 * z8 + 6)) (ad (123 + 7 * z8 + 4)) (ca 4) (ca (123 + 7 * z8 + 2)) (ca 5) (ca 6) (ca 7) (ca (123 + 7 * z8 + 4)) 40 40 _ (by omega) (by omega) (by omega) (by omega) ([2, 3, 4, (123 + 7 * z8 + 1), (123 + 7 * z8 + 2), 5, 6, 7, (123 + 7 * z8), (123 + 7 * z8 + 3), (123 + 7 * z8 + 4)].map cel) ⟨(fx2 hI), (fx3 hI), (fx4 hI), (frule1 hI (by omega : z8 < 12)), (frule2 hI (by omega : z8 < 12)), (fx5 hI), (fx6 hI), (fx7 hI), (frule0 hI (by omega : z8 < 12)), (frule3 hI (by omega : z8 < 12)), (frule4 hI (by omega : z8 < 12)), trivial⟩) rfl (hs_rd ((List.mem_of_getElem? (i := 0) rfl)) ((List.mem_of_getElem? (i := 1) rfl))) ⟨fun _ h => tx2 h (fun _ _ q => q), fun _ h => tx3 h (fun _ _ q => q), fun _ h => h, fun _ h => trule1 (by omega) h, fun _ h => trule2 (by omega) h, fun _ h => h, fun _ h => h, fun _ h => h, fun _ h => trule0 (by omega) h, fun _ h => trule3 (by omega) h, fun _ h => trule4 (by omega) h, trivial⟩) (List.range NC) (wN_all cel) ndR (List.range NC) (tC_all ca) 2 6 e37o rfl rfl rfl rfl ⟨(Nat.le_of_ble_eq_true rfl), (Nat.le_of_ble_eq_true rfl)⟩ hl.1 rfl rfl (Nat.le_of_ble_eq_true rfl) ⟨(Nat.le_of_ble_eq_true rfl), (Nat.le_of_ble_eq_true rfl)⟩ dX11_rule_37) (fun r37 cel H locs w37 hI kz37 Wd => ?_)
    have e1 := (wN_at0 kz37).trans e1
    obtain ⟨g37_0, g37_1⟩ := w37
    have g37_0 : 0 ≤ r37.toInt := g37_0
    have g37_1 : r37.toInt ≤ 1 := g37_1
    refine lv_if_ne (tgt := 45) C.1 C.2.1 dX11_rule_40 (by decide) (fun c40 => ?_) (fun c40 => ?_)
    · have i40 : ¬ r37.toInt = 0 := kz_ne c40
      refine lv_aload_n C.1 C.2.1 dX11_rule_45 rfl (lv_at hl 1 rfl) ?_
      refine lv_dup C.1 C.2.1 dX11_rule_46 rfl ?_
      refine k_get C Wd KX11 0 1 e1 (by decide) fl_X11_18 rfl dX11_rule_47 ?_
      refine lv_iconst (v := 1) C.1 C.2.1 dX11_rule_50 (by decide) ?_
      obtain ⟨v51, ev51⟩ : ∃ z : Int32, y1_1 + 1 = z := ⟨_, rfl⟩
      have iv51 : v51.toInt = y1_1.toInt + 1 := kz_addc ev51 (by decide) (by have zr0 := kz_rng y1_1; omega) (by have zr0 := kz_rng y1_1; omega)
      refine k_iadd (v := v51) C ev51 dX11_rule_51 ?_
      obtain ⟨_, e52, y52_1, rfl, b52_1, c52_1⟩ := at_E (by decide) (fx0 hI)
      refine k_put C Wd KX11 0 1 (wN NC (putC cel 0 ((ad 0), .inr (11, [.ref (ad 1), .int v51, .ref (ad 117), .ref (ad 2), .ref (ad 8), .ref (ad 25), .ref (ad 31), .ref (ad 84)])))) e52 (by decide) fl_X11_18 rfl rfl rfl (Nat.le_of_ble_eq_true rfl) (wN_set (by decide)) dX11_rule_52 (fun H locs Wd => ?_)
      obtain ⟨cel, Wd, hI⟩ : ∃ c : Nat → Cl, wX D (tC ca) s (wN NC c) H A s.heap locs ∧ InvC ad ca (pTp tT0) c := ⟨_, Wd, Inv_put hI ⟨rfl, v51, rfl, (by omega), (by omega)⟩⟩
      refine lv_aload_n C.1 C.2.1 dX11_rule_55 rfl (lv_at hl 1 rfl) ?_
      obtain ⟨_, e56, y56_1, rfl, b56_1, c56_1⟩ := at_E (by decide) (fx0 hI)
      refine k_get C Wd KX11 0 1 e56 (by decide) fl_X11_18 rfl dX11_rule_56 ?_
      refine lv_iconst (v := 1) C.1 C.2.1 dX11_rule_59 (by decide) ?_
      obtain ⟨v60, ev60⟩ : ∃ z : Int32, y56_1 - 1 = z := ⟨_, rfl⟩
      have iv60 : v60.toInt = y56_1.toInt - 1 := kz_subc ev60 (by decide) (by have zr0 := kz_rng y56_1; omega) (by have zr0 := kz_rng y56_1; omega)
      refine k_isub (v := v60) C ev60 dX11_rule_60 ?_
      exact kc_zret C hr hlk rfl Wd ⟨(by exact ⟨by omega, by omega⟩), hI⟩ dX11_rule_61
    · have i40 : r37.toInt = 0 := kz_eq c40
      refine lv_iconst (v := (-1)) C.1 C.2.1 dX11_rule_43 (by decide) ?_
      exact kc_zret C hr hlk rfl Wd ⟨(by exact ⟨by have zqm1 : (-1 : Int32).toInt = -1 := (by decide); omega, by have zqm1 : (-1 : Int32).toInt = -1 := (by decide); omega⟩), hI⟩ dX11_rule_44
set_option maxHeartbeats 4000000 in
set_option maxRecDepth 100000 in
theorem gX11_at (l : Launch) (D : va_G) (ad : Nat → Nat) (ca : Nat → ClassId) (T : Value → Prop) (cel : Nat → Cl) (sz : Nat) (x0 : Int32) (x1 : Int32) (hI : InvC ad ca (pTp T) cel) : Met l yX11_at (Cond.code yX11_at cX11_at 4 (some .int) :: gG) { frames := 2, cells := 0, slots := 0, locals := 85 } (cPre D (tC ca) (wN NC cel) sz [.ref (ad 0), .int x0, .int x1]) (va_Qi (fun (r : Int32) (c' : Nat → Cl) => (True) ∧ InvC ad ca (pTp T) c') (fun c' t => cB D (va_A (wN NC cel) sz) [] (wN NC c') t) (va_A (wN NC cel) sz)) 0 0 (va_A (wN NC cel) sz) := by
  refine Met.ofW (cc := cX11_at) (maxL := 4) (ret := (some .int)) (by decide) rfl ?_
  intro p e s m args below meth c s₁ B hml hv
  obtain ⟨rfl, aks, rfl, Wd⟩ := k_enter hv
  have C : CallFix p m c cX11_at 4 s _ gG RX11 := ⟨B.exec, B.bytes, hml, findClass_of_methodNamed B.named, fun w h => atoms_spec (ws := Cond.code yX11_at cX11_at 4 (some .int) :: gG) B.pre w (List.mem_cons_of_mem _ h)⟩
  have hr := B.returns
  have hlk := B.notSynchronized
  generalize va_A (wN NC cel) s.heap.size = A at Wd ⊢
  refine k_locals (Nat.le_of_ble_eq_true rfl) [(0, .ref (ad 0)), (1, .int x0), (2, .int x1)] rfl (fun ls hl => ?_)
  refine lv_aload_n C.1 C.2.1 dX11_at_0 rfl (lv_at hl 0 rfl) ?_
  refine lv_iload_n C.1 C.2.1 dX11_at_1 rfl (lv_at hl 1 rfl) ?_
  obtain ⟨_, e2o, y2o_1, rfl, b2o_1, c2o_1⟩ := at_E (by decide) (fx0 hI)
  refine k_pq (k_runV (rest := []) C aks Wd cs_X11_77 (gX11_slotAt l D ad ca (T) cel _ x0 hI) (List.range NC) (wN_all cel) ndR (List.range NC) (tC_all ca) 0 11 e2o rfl rfl rfl rfl ⟨(Nat.le_of_ble_eq_true rfl), (Nat.le_of_ble_eq_true rfl)⟩ hl.1 rfl rfl (Nat.le_of_ble_eq_true rfl) ⟨(Nat.le_of_ble_eq_true rfl), (Nat.le_of_ble_eq_true rfl)⟩ dX11_at_2) (fun o2 w2 => ?_)
  rcases w2 with rfl | ⟨z2, bz2, hz2, rfl⟩
  · skip
    refine lv_astore_nN (lv' := [(3, .null), (0, .ref (ad 0)), (1, .int x0), (2, .int x1)]) C.1 C.2.1 dX11_at_5 rfl hl (by decide) rfl (fun ls hl => ?_)
    refine lv_aload_nN C.1 C.2.1 dX11_at_6 rfl (lv_at hl 0 rfl) ?_
    refine lv_ifnonnullN C.1 C.2.1 dX11_at_7 ?_
    refine lv_iconst (v := (-1)) C.1 C.2.1 dX11_at_10 (by decide) ?_
    refine lv_goto (tgt := 19) C.1 C.2.1 dX11_at_11 (by decide) ?_
    exact kc_zret C hr hlk rfl Wd ⟨trivial, hI⟩ dX11_at_19
  · have hz2 : (z2 : Int) = x0.toInt := hz2
    refine lv_astore_n (lv' := [(3, .ref (ad (101 + 2 * z2))), (0, .ref (ad 0)), (1, .int x0), (2, .int x1)]) C.1 C.2.1 dX11_at_5 rfl hl (by decide) rfl (fun ls hl => ?_)
    refine lv_aload_n C.1 C.2.1 dX11_at_6 rfl (lv_at hl 0 rfl) ?_
    refine lv_ifnonnull (tgt := 14) C.1 C.2.1 dX11_at_7 (by decide) ?_
    refine lv_aload_n C.1 C.2.1 dX11_at_14 rfl (lv_at hl 0 rfl) ?_
    refine lv_iload_n C.1 C.2.1 dX11_at_15 rfl (lv_at hl 3 rfl) ?_
    obtain ⟨_, e16o, y16o_1, rfl, b16o_1, c16o_1⟩ := at_E (by show _ < 233; omega) (frow0 hI (by omega : z2 < 11))
    refine k_pi (k_runV (rest := []) C aks Wd cs_X11_113 (wsX8_cell l D (ad (101 + 2 * z2)) (ad (101 + 2 * z2 + 1)) (ca (101 + 2 * z2 + 1)) (capR z2) x1 _ (by have := capR_hi z2; have := capR_lo z2; omega) (by have := capR_hi z2; have := capR_lo z2; omega) ([(101 + 2 * z2), (101 + 2 * z2 + 1)].map cel) ⟨(frow0 hI (by omega : z2 < 11)), (frow1 hI (by omega : z2 < 11)), trivial⟩) [(101 + 2 * z2), (101 + 2 * z2 + 1)] (wN_pick [(101 + 2 * z2), (101 + 2 * z2 + 1)] (okC_lt (ok_18 z2 (by omega)))) (okC_nd (ok_18 z2 (by omega))) [(101 + 2 * z2 + 1)] (tC_ok (ok_18 z2 (by omega)) rfl) (101 + 2 * z2) 8 e16o rfl rfl rfl rfl ⟨(Nat.le_of_ble_eq_true rfl), (Nat.le_of_ble_eq_true rfl)⟩ hl.1 rfl rfl (Nat.le_of_ble_eq_true rfl) ⟨(Nat.le_of_ble_eq_true rfl), (Nat.le_of_ble_eq_true rfl)⟩ dX11_at_16) (fun r16 w16 => ?_)
    exact kc_zret C hr hlk rfl Wd ⟨trivial, hI⟩ dX11_at_19
set_option maxHeartbeats 4000000 in
set_option maxRecDepth 100000 in
theorem gX11_size (l : Launch) (D : va_G) (ad : Nat → Nat) (ca : Nat → ClassId) (T : Value → Prop) (cel : Nat → Cl) (sz : Nat) (x0 : Int32) (x1 : Int32) (hI : InvC ad ca (pTp T) cel) : Met l yX11_size (Cond.code yX11_size cX11_size 4 (some .int) :: gG) { frames := 5, cells := 0, slots := 0, locals := 152 } (cPre D (tC ca) (wN NC cel) sz [.ref (ad 0), .int x0, .int x1]) (va_Qi (fun (r : Int32) (c' : Nat → Cl) => (True) ∧ InvC ad ca (pTp T) c') (fun c' t => cB D (va_A (wN NC cel) sz) [] (wN NC c') t) (va_A (wN NC cel) sz)) 0 0 (va_A (wN NC cel) sz) := by
  refine Met.ofW (cc := cX11_size) (maxL := 4) (ret := (some .int)) (by decide) rfl ?_
  intro p e s m args below meth c s₁ B hml hv
  obtain ⟨rfl, aks, rfl, Wd⟩ := k_enter hv
  have C : CallFix p m c cX11_size 4 s _ gG RX11 := ⟨B.exec, B.bytes, hml, findClass_of_methodNamed B.named, fun w h => atoms_spec (ws := Cond.code yX11_size cX11_size 4 (some .int) :: gG) B.pre w (List.mem_cons_of_mem _ h)⟩
  have hr := B.returns
  have hlk := B.notSynchronized
  generalize va_A (wN NC cel) s.heap.size = A at Wd ⊢
  refine k_locals (Nat.le_of_ble_eq_true rfl) [(0, .ref (ad 0)), (1, .int x0), (2, .int x1)] rfl (fun ls hl => ?_)
  refine lv_aload_n C.1 C.2.1 dX11_size_0 rfl (lv_at hl 0 rfl) ?_
  refine lv_iload_n C.1 C.2.1 dX11_size_1 rfl (lv_at hl 1 rfl) ?_
  obtain ⟨_, e2o, y2o_1, rfl, b2o_1, c2o_1⟩ := at_E (by decide) (fx0 hI)
  refine k_pq (k_runV (rest := []) C aks Wd cs_X11_77 (gX11_slotAt l D ad ca (T) cel _ x0 hI) (List.range NC) (wN_all cel) ndR (List.range NC) (tC_all ca) 0 11 e2o rfl rfl rfl rfl ⟨(Nat.le_of_ble_eq_true rfl), (Nat.le_of_ble_eq_true rfl)⟩ hl.1 rfl rfl (Nat.le_of_ble_eq_true rfl) ⟨(Nat.le_of_ble_eq_true rfl), (Nat.le_of_ble_eq_true rfl)⟩ dX11_size_2) (fun o2 w2 => ?_)
  rcases w2 with rfl | ⟨z2, bz2, hz2, rfl⟩
  · skip
    refine lv_astore_nN (lv' := [(3, .null), (0, .ref (ad 0)), (1, .int x0), (2, .int x1)]) C.1 C.2.1 dX11_size_5 rfl hl (by decide) rfl (fun ls hl => ?_)
    refine lv_aload_nN C.1 C.2.1 dX11_size_6 rfl (lv_at hl 0 rfl) ?_
    refine lv_ifnonnullN C.1 C.2.1 dX11_size_7 ?_
    refine lv_iconst (v := (-1)) C.1 C.2.1 dX11_size_10 (by decide) ?_
    exact kc_zret C hr hlk rfl Wd ⟨trivial, hI⟩ dX11_size_11
  · have hz2 : (z2 : Int) = x0.toInt := hz2
    refine lv_astore_n (lv' := [(3, .ref (ad (101 + 2 * z2))), (0, .ref (ad 0)), (1, .int x0), (2, .int x1)]) C.1 C.2.1 dX11_size_5 rfl hl (by decide) rfl (fun ls hl => ?_)
    refine lv_aload_n C.1 C.2.1 dX11_size_6 rfl (lv_at hl 0 rfl) ?_
    refine lv_ifnonnull (tgt := 12) C.1 C.2.1 dX11_size_7 (by decide) ?_
    refine lv_iload_n C.1 C.2.1 dX11_size_12 rfl (lv_at hl 3 rfl) ?_
    by_cases c13_0 : x1.toInt = 0
    · refine lv_tableIn (off := 31) (tgt := 44) C.1 C.2.1 dX11_size_13 (by omega) (by omega) (by rw [c13_0]; rfl) (by decide) ?_
      refine lv_aload_n C.1 C.2.1 dX11_size_44 rfl (lv_at hl 0 rfl) ?_
      obtain ⟨_, e45o, y45o_1, rfl, b45o_1, c45o_1⟩ := at_E (by show _ < 233; omega) (frow0 hI (by omega : z2 < 11))
      refine k_pi (k_runV (rest := []) C aks Wd cs_X11_95 (wsX8_statements l D (ad (101 + 2 * z2)) (ad (101 + 2 * z2 + 1)) (ca (101 + 2 * z2 + 1)) (capR z2) _ (by have := capR_hi z2; have := capR_lo z2; omega) (by have := capR_hi z2; have := capR_lo z2; omega) ([(101 + 2 * z2), (101 + 2 * z2 + 1)].map cel) ⟨(frow0 hI (by omega : z2 < 11)), (frow1 hI (by omega : z2 < 11)), trivial⟩) [(101 + 2 * z2), (101 + 2 * z2 + 1)] (wN_pick [(101 + 2 * z2), (101 + 2 * z2 + 1)] (okC_lt (ok_18 z2 (by omega)))) (okC_nd (ok_18 z2 (by omega))) [(101 + 2 * z2 + 1)] (tC_ok (ok_18 z2 (by omega)) rfl) (101 + 2 * z2) 8 e45o rfl rfl rfl rfl ⟨(Nat.le_of_ble_eq_true rfl), (Nat.le_of_ble_eq_true rfl)⟩ hl.1 rfl rfl (Nat.le_of_ble_eq_true rfl) ⟨(Nat.le_of_ble_eq_true rfl), (Nat.le_of_ble_eq_true rfl)⟩ dX11_size_45) (fun r45 w45 => ?_)
      obtain ⟨g45_0, g45_1⟩ := w45
      have g45_0 : 0 ≤ r45.toInt := g45_0
      have g45_1 : r45.toInt ≤ 1000 := g45_1
      exact kc_zret C hr hlk rfl Wd ⟨trivial, hI⟩ dX11_size_48
    by_cases c13_1 : x1.toInt = 1
    · refine lv_tableIn (off := 36) (tgt := 49) C.1 C.2.1 dX11_size_13 (by omega) (by omega) (by rw [c13_1]; rfl) (by decide) ?_
      refine lv_aload_n C.1 C.2.1 dX11_size_49 rfl (lv_at hl 0 rfl) ?_
      obtain ⟨_, e50o, y50o_1, rfl, b50o_1, c50o_1⟩ := at_E (by show _ < 233; omega) (frow0 hI (by omega : z2 < 11))
      refine k_pi (k_runV (rest := []) C aks Wd cs_X11_117 (wsX8_expressions l D (ad (101 + 2 * z2)) (ad (101 + 2 * z2 + 1)) (ca (101 + 2 * z2 + 1)) (capR z2) _ (by have := capR_hi z2; have := capR_lo z2; omega) (by have := capR_hi z2; have := capR_lo z2; omega) ([(101 + 2 * z2), (101 + 2 * z2 + 1)].map cel) ⟨(frow0 hI (by omega : z2 < 11)), (frow1 hI (by omega : z2 < 11)), trivial⟩) [(101 + 2 * z2), (101 + 2 * z2 + 1)] (wN_pick [(101 + 2 * z2), (101 + 2 * z2 + 1)] (okC_lt (ok_18 z2 (by omega)))) (okC_nd (ok_18 z2 (by omega))) [(101 + 2 * z2 + 1)] (tC_ok (ok_18 z2 (by omega)) rfl) (101 + 2 * z2) 8 e50o rfl rfl rfl rfl ⟨(Nat.le_of_ble_eq_true rfl), (Nat.le_of_ble_eq_true rfl)⟩ hl.1 rfl rfl (Nat.le_of_ble_eq_true rfl) ⟨(Nat.le_of_ble_eq_true rfl), (Nat.le_of_ble_eq_true rfl)⟩ dX11_size_50) (fun r50 w50 => ?_)
      obtain ⟨g50_0, g50_1⟩ := w50
      have g50_0 : 0 ≤ r50.toInt := g50_0
      have g50_1 : r50.toInt ≤ 1000 := g50_1
      exact kc_zret C hr hlk rfl Wd ⟨trivial, hI⟩ dX11_size_53
    by_cases c13_2 : x1.toInt = 2
    · refine lv_tableIn (off := 41) (tgt := 54) C.1 C.2.1 dX11_size_13 (by omega) (by omega) (by rw [c13_2]; rfl) (by decide) ?_
      refine lv_aload_n C.1 C.2.1 dX11_size_54 rfl (lv_at hl 0 rfl) ?_
      obtain ⟨_, e55, y55_1, rfl, b55_1, c55_1⟩ := at_E (by show _ < 233; omega) (frow0 hI (by omega : z2 < 11))
      have hc_z2 := capR_hi z2
      refine k_get C Wd KX8 (101 + 2 * z2) 1 e55 (by decide) fl_X11_120 rfl dX11_size_55 ?_
      exact kc_zret C hr hlk rfl Wd ⟨trivial, hI⟩ dX11_size_58
    by_cases c13_3 : x1.toInt = 3
    · refine lv_tableIn (off := 46) (tgt := 59) C.1 C.2.1 dX11_size_13 (by omega) (by omega) (by rw [c13_3]; rfl) (by decide) ?_
      refine lv_aload_n C.1 C.2.1 dX11_size_59 rfl (lv_at hl 1 rfl) ?_
      obtain ⟨_, e60, y60_1, rfl, b60_1, c60_1⟩ := at_E (by decide) (fx0 hI)
      refine k_get C Wd KX11 0 4 e60 (by decide) fl_X11_36 rfl dX11_size_60 ?_
      obtain ⟨_, e63, y63_2, y63_3, y63_4, rfl, b63_2, c63_2⟩ := at_E (by decide) (fx8 hI)
      refine k_get C Wd KX3 8 0 e63 (by decide) fl_X11_121 rfl dX11_size_63 ?_
      refine lv_aload_n C.1 C.2.1 dX11_size_66 rfl (lv_at hl 0 rfl) ?_
      obtain ⟨_, e67o, v67o_0, y67o_1, rfl, _, b67o_1, c67o_1⟩ := at_E (by decide) (fx12 hI)
      refine kc_v Wd (k_runV (rest := []) C aks Wd cs_X11_125 (liftV4 (P' := pTp T) hI (ok_31 z2 (by omega)) (wsX1_trace l D (ad 12) (ad (101 + 2 * z2)) (ad 13) (ad 14) (ad 15) (ad 16) (ad 17) (ad 18) (ad 19) (ad 20) (ad 21) (ad 22) (ad 23) (ad 24) (ad (101 + 2 * z2 + 1)) (ca (101 + 2 * z2 + 1)) (ca 24) (ca 23) (ca 13) (ca 14) (ca 20) (ca 15) (ca 16) (ca 19) (ca 17) (ca 18) (ca 22) (ca 21) (capR z2) _ (by have := capR_hi z2; have := capR_lo z2; omega) (by have := capR_hi z2; have := capR_lo z2; omega) ([12, (101 + 2 * z2), (101 + 2 * z2 + 1), 24, 23, 13, 14, 20, 15, 16, 19, 17, 18, 22, 21].map cel) ⟨(fx12 hI), (frow0 hI (by omega : z2 < 11)), (frow1 hI (by omega : z2 < 11)), (fx24 hI), (fx23 hI), (fx13 hI), (fx14 hI), (fx20 hI), (fx15 hI), (fx16 hI), (fx19 hI), (fx17 hI), (fx18 hI), (fx22 hI), (fx21 hI), trivial⟩) rfl (fun _ _ => rfl) ⟨fun _ h => tx12 h (fun _ _ q => trivial), fun _ h => trow0 (by omega) h, fun _ h => trow1 (by omega) h, fun _ h => h, fun _ h => h, fun _ h => h, fun _ h => h, fun _ h => h, fun _ h => h, fun _ h => h, fun _ h => h, fun _ h => h, fun _ h => h, fun _ h => h, fun _ h => h, trivial⟩) (List.range NC) (wN_all cel) ndR (List.range NC) (tC_all ca) 12 1 e67o rfl rfl rfl rfl ⟨(Nat.le_of_ble_eq_true rfl), (Nat.le_of_ble_eq_true rfl)⟩ hl.1 rfl rfl (Nat.le_of_ble_eq_true rfl) ⟨(Nat.le_of_ble_eq_true rfl), (Nat.le_of_ble_eq_true rfl)⟩ dX11_size_67) (fun cel H locs w67 hI Wd => ?_)
      refine lv_aload_n C.1 C.2.1 dX11_size_70 rfl (lv_at hl 1 rfl) ?_
      obtain ⟨_, e71, y71_1, rfl, b71_1, c71_1⟩ := at_E (by decide) (fx0 hI)
      refine k_get C Wd KX11 0 4 e71 (by decide) fl_X11_36 rfl dX11_size_71 ?_
      obtain ⟨_, e74, y74_2, y74_3, y74_4, rfl, b74_2, c74_2⟩ := at_E (by decide) (fx8 hI)
      refine k_get C Wd KX3 8 0 e74 (by decide) fl_X11_121 rfl dX11_size_74 ?_
      refine lv_iconst (v := 0) C.1 C.2.1 dX11_size_77 (by decide) ?_
      obtain ⟨_, e78o, v78o_0, y78o_1, rfl, _, b78o_1, c78o_1⟩ := at_E (by decide) (fx12 hI)
      refine k_pi (k_runV (rest := []) C aks Wd cs_X11_130 (wsX1_aheadOf l D (ad 12) (ad 13) (ad 14) (ad 15) (ad 16) (ad 17) (ad 18) (ad 19) (ad 20) (ad 21) (ad 22) (ad 23) (ad 24) (ca 21) 0 _ ([12, 21].map cel) ⟨(fx12 hI), (fx21 hI), trivial⟩) [12, 21] (wN_pick [12, 21] (okC_lt (ok_32))) (okC_nd (ok_32)) [21] (tC_ok (ok_32) rfl) 12 1 e78o rfl rfl rfl rfl ⟨(Nat.le_of_ble_eq_true rfl), (Nat.le_of_ble_eq_true rfl)⟩ hl.1 rfl rfl (Nat.le_of_ble_eq_true rfl) ⟨(Nat.le_of_ble_eq_true rfl), (Nat.le_of_ble_eq_true rfl)⟩ dX11_size_78) (fun r78 w78 => ?_)
      exact kc_zret C hr hlk rfl Wd ⟨trivial, hI⟩ dX11_size_81
    refine lv_tableOut (tgt := 82) C.1 C.2.1 dX11_size_13 (by omega) (by decide) ?_
    refine lv_iconst (v := (-1)) C.1 C.2.1 dX11_size_82 (by decide) ?_
    exact kc_zret C hr hlk rfl Wd ⟨trivial, hI⟩ dX11_size_83
set_option maxHeartbeats 4000000 in
set_option maxRecDepth 100000 in
theorem gX11_run (l : Launch) (D : va_G) (ad : Nat → Nat) (ca : Nat → ClassId) (T : Value → Prop) (cel : Nat → Cl) (sz : Nat) (x0 : Int32) (x1 : Int32) (x2 : Int32) (x3 : Int32) (hI : InvC ad ca (pTp T) cel) : Met l yX11_run (Cond.code yX11_run cX11_run 6 (some .int) :: gG) { frames := 5, cells := 0, slots := 0, locals := 161 } (cPre D (tC ca) (wN NC cel) sz [.ref (ad 0), .int x0, .int x1, .int x2, .int x3]) (va_Qi (fun (r : Int32) (c' : Nat → Cl) => (True) ∧ InvC ad ca (pTp T) c') (fun c' t => cB D (va_A (wN NC cel) sz) [] (wN NC c') t) (va_A (wN NC cel) sz)) 0 0 (va_A (wN NC cel) sz) := by
  refine Met.ofW (cc := cX11_run) (maxL := 6) (ret := (some .int)) (by decide) rfl ?_
  intro p e s m args below meth c s₁ B hml hv
  obtain ⟨rfl, aks, rfl, Wd⟩ := k_enter hv
  have C : CallFix p m c cX11_run 6 s _ gG RX11 := ⟨B.exec, B.bytes, hml, findClass_of_methodNamed B.named, fun w h => atoms_spec (ws := Cond.code yX11_run cX11_run 6 (some .int) :: gG) B.pre w (List.mem_cons_of_mem _ h)⟩
  have hr := B.returns
  have hlk := B.notSynchronized
  generalize va_A (wN NC cel) s.heap.size = A at Wd ⊢
  refine k_locals (Nat.le_of_ble_eq_true rfl) [(0, .ref (ad 0)), (1, .int x0), (2, .int x1), (3, .int x2), (4, .int x3)] rfl (fun ls hl => ?_)
  refine lv_aload_n C.1 C.2.1 dX11_run_0 rfl (lv_at hl 0 rfl) ?_
  refine lv_iload_n C.1 C.2.1 dX11_run_1 rfl (lv_at hl 1 rfl) ?_
  obtain ⟨_, e2o, y2o_1, rfl, b2o_1, c2o_1⟩ := at_E (by decide) (fx0 hI)
  refine k_cutA (fun (cel : Nat → Cl) H locs ls => InvC ad ca (pTp T) cel ∧ wX D (tC ca) s (wN NC cel) H A s.heap locs ∧ lv_has ls 6 []) (fun (cel : Nat → Cl) ls => F0 m 26 ls []) (fun cel H locs ls hi => ?_) (fun J26 => ?_)
  · obtain ⟨hI, Wd, hl⟩ := hi
    refine lv_iconst (v := (-1)) C.1 C.2.1 dX11_run_26 (by decide) ?_
    exact kc_zret C hr hlk rfl Wd ⟨trivial, hI⟩ dX11_run_27
  refine k_pq (k_runV (rest := []) C aks Wd cs_X11_77 (gX11_slotAt l D ad ca (T) cel _ x0 hI) (List.range NC) (wN_all cel) ndR (List.range NC) (tC_all ca) 0 11 e2o rfl rfl rfl rfl ⟨(Nat.le_of_ble_eq_true rfl), (Nat.le_of_ble_eq_true rfl)⟩ hl.1 rfl rfl (Nat.le_of_ble_eq_true rfl) ⟨(Nat.le_of_ble_eq_true rfl), (Nat.le_of_ble_eq_true rfl)⟩ dX11_run_2) (fun o2 w2 => ?_)
  rcases w2 with rfl | ⟨z2, bz2, hz2, rfl⟩
  · skip
    refine lv_astoreN (lv' := [(5, .null), (0, .ref (ad 0)), (1, .int x0), (2, .int x1), (3, .int x2), (4, .int x3)]) C.1 C.2.1 dX11_run_5 hl (by decide) rfl (fun ls hl => ?_)
    refine lv_aloadN C.1 C.2.1 dX11_run_7 (lv_at hl 0 rfl) ?_
    refine lv_ifnullN (tgt := 26) C.1 C.2.1 dX11_run_9 (by decide) ?_
    exact J26 cel _ _ _ ⟨hI, Wd, lv_sub hl [] rfl⟩
  · have hz2 : (z2 : Int) = x0.toInt := hz2
    refine lv_astore (lv' := [(5, .ref (ad (101 + 2 * z2))), (0, .ref (ad 0)), (1, .int x0), (2, .int x1), (3, .int x2), (4, .int x3)]) C.1 C.2.1 dX11_run_5 hl (by decide) rfl (fun ls hl => ?_)
    refine lv_aload C.1 C.2.1 dX11_run_7 (lv_at hl 0 rfl) ?_
    refine lv_ifnull C.1 C.2.1 dX11_run_9 ?_
    refine lv_iload_n C.1 C.2.1 dX11_run_12 rfl (lv_at hl 3 rfl) ?_
    refine k_pi (k_runS (rest := []) C aks Wd cs_X11_133 (wsX11_isWord l D x1 _ ([].map cel) trivial) [] (wN_pick [] (okC_lt (ok_1))) (okC_nd (ok_1)) [] (tC_ok (ok_1) rfl)  rfl rfl ⟨(Nat.le_of_ble_eq_true rfl), (Nat.le_of_ble_eq_true rfl)⟩ hl.1 rfl rfl (Nat.le_of_ble_eq_true rfl) ⟨(Nat.le_of_ble_eq_true rfl), (Nat.le_of_ble_eq_true rfl)⟩ dX11_run_13) (fun r13 w13 => ?_)
    rcases w13 with rfl | ⟨g13_1_0, g13_1_1, rfl⟩
    · refine lv_if_eq (tgt := 26) C.1 C.2.1 dX11_run_16 (by decide) (fun _ => ?_) (fun c16 => absurd c16 (by decide))
      exact J26 cel _ _ _ ⟨hI, Wd, lv_sub hl [] rfl⟩
    · have g13_1_0 : 0 ≤ x1.toInt := g13_1_0
      have g13_1_1 : x1.toInt ≤ 15 := g13_1_1
      refine lv_if_eq (tgt := 26) C.1 C.2.1 dX11_run_16 (by decide) (fun c16 => absurd c16 (by decide)) (fun _ => ?_)
      refine lv_iload_n C.1 C.2.1 dX11_run_19 rfl (lv_at hl 4 rfl) ?_
      refine k_pi (k_runS (rest := []) C aks Wd cs_X11_133 (wsX11_isWord l D x2 _ ([].map cel) trivial) [] (wN_pick [] (okC_lt (ok_1))) (okC_nd (ok_1)) [] (tC_ok (ok_1) rfl)  rfl rfl ⟨(Nat.le_of_ble_eq_true rfl), (Nat.le_of_ble_eq_true rfl)⟩ hl.1 rfl rfl (Nat.le_of_ble_eq_true rfl) ⟨(Nat.le_of_ble_eq_true rfl), (Nat.le_of_ble_eq_true rfl)⟩ dX11_run_20) (fun r20 w20 => ?_)
      rcases w20 with rfl | ⟨g20_1_0, g20_1_1, rfl⟩
      · refine lv_if_ne (tgt := 28) C.1 C.2.1 dX11_run_23 (by decide) (fun c23 => absurd c23 (by decide)) (fun _ => ?_)
        exact J26 cel _ _ _ ⟨hI, Wd, lv_sub hl [] rfl⟩
      · have g20_1_0 : 0 ≤ x2.toInt := g20_1_0
        have g20_1_1 : x2.toInt ≤ 15 := g20_1_1
        refine lv_if_ne (tgt := 28) C.1 C.2.1 dX11_run_23 (by decide) (fun _ => ?_) (fun c23 => absurd c23 (by decide))
        refine lv_aload_n C.1 C.2.1 dX11_run_28 rfl (lv_at hl 1 rfl) ?_
        obtain ⟨_, e29, y29_1, rfl, b29_1, c29_1⟩ := at_E (by decide) (fx0 hI)
        refine k_get C Wd KX11 0 4 e29 (by decide) fl_X11_36 rfl dX11_run_29 ?_
        obtain ⟨_, e32, y32_2, y32_3, y32_4, rfl, b32_2, c32_2⟩ := at_E (by decide) (fx8 hI)
        refine k_get C Wd KX3 8 0 e32 (by decide) fl_X11_121 rfl dX11_run_32 ?_
        refine lv_aload C.1 C.2.1 dX11_run_35 (lv_at hl 0 rfl) ?_
        obtain ⟨_, e37o, v37o_0, y37o_1, rfl, _, b37o_1, c37o_1⟩ := at_E (by decide) (fx12 hI)
        refine kc_v Wd (k_runV (rest := []) C aks Wd cs_X11_125 (liftV4 (P' := setP (pTp T) 12 (fun v _ => v = .ref (ad (101 + 2 * z2)))) hI (ok_31 z2 (by omega)) (wsX1_trace l D (ad 12) (ad (101 + 2 * z2)) (ad 13) (ad 14) (ad 15) (ad 16) (ad 17) (ad 18) (ad 19) (ad 20) (ad 21) (ad 22) (ad 23) (ad 24) (ad (101 + 2 * z2 + 1)) (ca (101 + 2 * z2 + 1)) (ca 24) (ca 23) (ca 13) (ca 14) (ca 20) (ca 15) (ca 16) (ca 19) (ca 17) (ca 18) (ca 22) (ca 21) (capR z2) _ (by have := capR_hi z2; have := capR_lo z2; omega) (by have := capR_hi z2; have := capR_lo z2; omega) ([12, (101 + 2 * z2), (101 + 2 * z2 + 1), 24, 23, 13, 14, 20, 15, 16, 19, 17, 18, 22, 21].map cel) ⟨(fx12 hI), (frow0 hI (by omega : z2 < 11)), (frow1 hI (by omega : z2 < 11)), (fx24 hI), (fx23 hI), (fx13 hI), (fx14 hI), (fx20 hI), (fx15 hI), (fx16 hI), (fx19 hI), (fx17 hI), (fx18 hI), (fx22 hI), (fx21 hI), trivial⟩) rfl (hs_set ((List.mem_of_getElem? (i := 0) rfl))) ⟨fun _ h => tx12 h (fun _ _ q => q), fun _ h => trow0 (by omega) h, fun _ h => trow1 (by omega) h, fun _ h => h, fun _ h => h, fun _ h => h, fun _ h => h, fun _ h => h, fun _ h => h, fun _ h => h, fun _ h => h, fun _ h => h, fun _ h => h, fun _ h => h, fun _ h => h, trivial⟩) (List.range NC) (wN_all cel) ndR (List.range NC) (tC_all ca) 12 1 e37o rfl rfl rfl rfl ⟨(Nat.le_of_ble_eq_true rfl), (Nat.le_of_ble_eq_true rfl)⟩ hl.1 rfl rfl (Nat.le_of_ble_eq_true rfl) ⟨(Nat.le_of_ble_eq_true rfl), (Nat.le_of_ble_eq_true rfl)⟩ dX11_run_37) (fun cel H locs w37 hI Wd => ?_)
        refine lv_aload_n C.1 C.2.1 dX11_run_40 rfl (lv_at hl 1 rfl) ?_
        obtain ⟨_, e41, y41_1, rfl, b41_1, c41_1⟩ := at_E (by decide) (fx0 hI)
        refine k_get C Wd KX11 0 4 e41 (by decide) fl_X11_36 rfl dX11_run_41 ?_
        refine lv_iload_n C.1 C.2.1 dX11_run_44 rfl (lv_at hl 3 rfl) ?_
        refine lv_iload_n C.1 C.2.1 dX11_run_45 rfl (lv_at hl 4 rfl) ?_
        obtain ⟨_, e46o, y46o_2, y46o_3, y46o_4, rfl, b46o_2, c46o_2⟩ := at_E (by decide) (fx8 hI)
        refine kc_v Wd (k_runV (rest := []) C aks Wd cs_X11_136 (liftV4 (P' := pTp T) hI (ok_33 z2 (by omega)) (wsX3_go l D (ad 8) (ad 12) (ad 9) (ad 10) (ad 11) (ad 13) (ad 14) (ad 15) (ad 16) (ad 17) (ad 18) (ad 19) (ad 20) (ad 21) (ad 22) (ad 23) (ad 24) (ad (101 + 2 * z2)) (ad (101 + 2 * z2 + 1)) (ca 10) (ca 14) (ca 15) (ca 16) (ca (101 + 2 * z2 + 1)) (ca 11) (ca 9) (ca 13) (ca 18) (ca 17) (capR z2) x1 x2 _ (by have := capR_hi z2; have := capR_lo z2; omega) (by have := capR_hi z2; have := capR_lo z2; omega) ([8, 10, 12, 14, 15, 16, (101 + 2 * z2), (101 + 2 * z2 + 1), 11, 9, 13, 18, 17].map cel) ⟨(fx8 hI), (fx10 hI), (fx12 hI), (fx14 hI), (fx15 hI), (fx16 hI), (frow0 hI (by omega : z2 < 11)), (frow1 hI (by omega : z2 < 11)), (fx11 hI), (fx9 hI), (fx13 hI), (fx18 hI), (fx17 hI), trivial⟩) rfl (hs_unset ((List.mem_of_getElem? (i := 2) rfl))) ⟨fun _ h => h, fun _ h => h, fun _ h => tx12 h (fun _ _ q => trivial), fun _ h => h, fun _ h => h, fun _ h => h, fun _ h => trow0 (by omega) h, fun _ h => trow1 (by omega) h, fun _ h => h, fun _ h => h, fun _ h => h, fun _ h => h, fun _ h => h, trivial⟩) (List.range NC) (wN_all cel) ndR (List.range NC) (tC_all ca) 8 3 e46o rfl rfl rfl rfl ⟨(Nat.le_of_ble_eq_true rfl), (Nat.le_of_ble_eq_true rfl)⟩ hl.1 rfl rfl (Nat.le_of_ble_eq_true rfl) ⟨(Nat.le_of_ble_eq_true rfl), (Nat.le_of_ble_eq_true rfl)⟩ dX11_run_46) (fun cel H locs w46 hI Wd => ?_)
        refine lv_aload_n C.1 C.2.1 dX11_run_49 rfl (lv_at hl 1 rfl) ?_
        obtain ⟨_, e50, y50_1, rfl, b50_1, c50_1⟩ := at_E (by decide) (fx0 hI)
        refine k_get C Wd KX11 0 4 e50 (by decide) fl_X11_36 rfl dX11_run_50 ?_
        refine lv_iload C.1 C.2.1 dX11_run_53 (lv_at hl 5 rfl) ?_
        obtain ⟨_, e55o, y55o_2, y55o_3, y55o_4, rfl, b55o_2, c55o_2⟩ := at_E (by decide) (fx8 hI)
        refine k_pi (k_runV (rest := []) C aks Wd cs_X11_140 (wsX3_tell l D (ad 8) (ad 12) (ad 9) (ad 10) (ad 11) (ca 10) (ca 9) x3 _ ([8, 10, 9].map cel) ⟨(fx8 hI), (fx10 hI), (fx9 hI), trivial⟩) [8, 10, 9] (wN_pick [8, 10, 9] (okC_lt (ok_34))) (okC_nd (ok_34)) [10, 9] (tC_ok (ok_34) rfl) 8 3 e55o rfl rfl rfl rfl ⟨(Nat.le_of_ble_eq_true rfl), (Nat.le_of_ble_eq_true rfl)⟩ hl.1 rfl rfl (Nat.le_of_ble_eq_true rfl) ⟨(Nat.le_of_ble_eq_true rfl), (Nat.le_of_ble_eq_true rfl)⟩ dX11_run_55) (fun r55 w55 => ?_)
        exact kc_zret C hr hlk rfl Wd ⟨trivial, hI⟩ dX11_run_58
set_option maxHeartbeats 4000000 in
set_option maxRecDepth 100000 in
theorem gX11_judge (l : Launch) (D : va_G) (ad : Nat → Nat) (ca : Nat → ClassId) (T : Value → Prop) (cel : Nat → Cl) (sz : Nat) (x0 : Int32) (x1 : Int32) (x2 : Int32) (hI : InvC ad ca (pTp T) cel) : Met l yX11_judge (Cond.code yX11_judge cX11_judge 7 (some .int) :: gG) { frames := 6, cells := 0, slots := 0, locals := 189 } (cPre D (tC ca) (wN NC cel) sz [.ref (ad 0), .int x0, .int x1, .int x2]) (va_Qi (fun (r : Int32) (c' : Nat → Cl) => (True) ∧ InvC ad ca (pTp T) c') (fun c' t => cB D (va_A (wN NC cel) sz) [] (wN NC c') t) (va_A (wN NC cel) sz)) 0 0 (va_A (wN NC cel) sz) := by
  refine Met.ofW (cc := cX11_judge) (maxL := 7) (ret := (some .int)) (by decide) rfl ?_
  intro p e s m args below meth c s₁ B hml hv
  obtain ⟨rfl, aks, rfl, Wd⟩ := k_enter hv
  have C : CallFix p m c cX11_judge 7 s _ gG RX11 := ⟨B.exec, B.bytes, hml, findClass_of_methodNamed B.named, fun w h => atoms_spec (ws := Cond.code yX11_judge cX11_judge 7 (some .int) :: gG) B.pre w (List.mem_cons_of_mem _ h)⟩
  have hr := B.returns
  have hlk := B.notSynchronized
  generalize va_A (wN NC cel) s.heap.size = A at Wd ⊢
  refine k_locals (Nat.le_of_ble_eq_true rfl) [(0, .ref (ad 0)), (1, .int x0), (2, .int x1), (3, .int x2)] rfl (fun ls hl => ?_)
  refine lv_aload_n C.1 C.2.1 dX11_judge_0 rfl (lv_at hl 0 rfl) ?_
  refine lv_iload_n C.1 C.2.1 dX11_judge_1 rfl (lv_at hl 1 rfl) ?_
  obtain ⟨_, e2o, y2o_1, rfl, b2o_1, c2o_1⟩ := at_E (by decide) (fx0 hI)
  refine k_cutA (fun (cel : Nat → Cl) H locs ls => InvC ad ca (pTp T) cel ∧ wX D (tC ca) s (wN NC cel) H A s.heap locs ∧ lv_has ls 7 []) (fun (cel : Nat → Cl) ls => F0 m 33 ls []) (fun cel H locs ls hi => ?_) (fun J33 => ?_)
  · obtain ⟨hI, Wd, hl⟩ := hi
    refine lv_iconst (v := (-1)) C.1 C.2.1 dX11_judge_33 (by decide) ?_
    exact kc_zret C hr hlk rfl Wd ⟨trivial, hI⟩ dX11_judge_34
  refine k_pq (k_runV (rest := []) C aks Wd cs_X11_77 (gX11_slotAt l D ad ca (T) cel _ x0 hI) (List.range NC) (wN_all cel) ndR (List.range NC) (tC_all ca) 0 11 e2o rfl rfl rfl rfl ⟨(Nat.le_of_ble_eq_true rfl), (Nat.le_of_ble_eq_true rfl)⟩ hl.1 rfl rfl (Nat.le_of_ble_eq_true rfl) ⟨(Nat.le_of_ble_eq_true rfl), (Nat.le_of_ble_eq_true rfl)⟩ dX11_judge_2) (fun o2 w2 => ?_)
  rcases w2 with rfl | ⟨z2, bz2, hz2, rfl⟩
  · skip
    refine lv_astoreN (lv' := [(4, .null), (0, .ref (ad 0)), (1, .int x0), (2, .int x1), (3, .int x2)]) C.1 C.2.1 dX11_judge_5 hl (by decide) rfl (fun ls hl => ?_)
    refine lv_aload_n C.1 C.2.1 dX11_judge_7 rfl (lv_at hl 1 rfl) ?_
    refine lv_iload_n C.1 C.2.1 dX11_judge_8 rfl (lv_at hl 3 rfl) ?_
    obtain ⟨_, e9o, y9o_1, rfl, b9o_1, c9o_1⟩ := at_E (by decide) (fx0 hI)
    refine k_pq (k_runV (rest := []) C aks Wd cs_X11_77 (gX11_slotAt l D ad ca (T) cel _ x1 hI) (List.range NC) (wN_all cel) ndR (List.range NC) (tC_all ca) 0 11 e9o rfl rfl rfl rfl ⟨(Nat.le_of_ble_eq_true rfl), (Nat.le_of_ble_eq_true rfl)⟩ hl.1 rfl rfl (Nat.le_of_ble_eq_true rfl) ⟨(Nat.le_of_ble_eq_true rfl), (Nat.le_of_ble_eq_true rfl)⟩ dX11_judge_9) (fun o9 w9 => ?_)
    rcases w9 with rfl | ⟨z9, bz9, hz9, rfl⟩
    · skip
      refine lv_astoreN (lv' := [(5, .null), (4, .null), (0, .ref (ad 0)), (1, .int x0), (2, .int x1), (3, .int x2)]) C.1 C.2.1 dX11_judge_12 hl (by decide) rfl (fun ls hl => ?_)
      refine lv_aloadN C.1 C.2.1 dX11_judge_14 (lv_at hl 1 rfl) ?_
      refine lv_ifnullN (tgt := 33) C.1 C.2.1 dX11_judge_16 (by decide) ?_
      exact J33 cel _ _ _ ⟨hI, Wd, lv_sub hl [] rfl⟩
    · have hz9 : (z9 : Int) = x1.toInt := hz9
      refine lv_astore (lv' := [(5, .ref (ad (101 + 2 * z9))), (4, .null), (0, .ref (ad 0)), (1, .int x0), (2, .int x1), (3, .int x2)]) C.1 C.2.1 dX11_judge_12 hl (by decide) rfl (fun ls hl => ?_)
      refine lv_aloadN C.1 C.2.1 dX11_judge_14 (lv_at hl 1 rfl) ?_
      refine lv_ifnullN (tgt := 33) C.1 C.2.1 dX11_judge_16 (by decide) ?_
      exact J33 cel _ _ _ ⟨hI, Wd, lv_sub hl [] rfl⟩
  · have hz2 : (z2 : Int) = x0.toInt := hz2
    refine lv_astore (lv' := [(4, .ref (ad (101 + 2 * z2))), (0, .ref (ad 0)), (1, .int x0), (2, .int x1), (3, .int x2)]) C.1 C.2.1 dX11_judge_5 hl (by decide) rfl (fun ls hl => ?_)
    refine lv_aload_n C.1 C.2.1 dX11_judge_7 rfl (lv_at hl 1 rfl) ?_
    refine lv_iload_n C.1 C.2.1 dX11_judge_8 rfl (lv_at hl 3 rfl) ?_
    obtain ⟨_, e9o, y9o_1, rfl, b9o_1, c9o_1⟩ := at_E (by decide) (fx0 hI)
    refine k_pq (k_runV (rest := []) C aks Wd cs_X11_77 (gX11_slotAt l D ad ca (T) cel _ x1 hI) (List.range NC) (wN_all cel) ndR (List.range NC) (tC_all ca) 0 11 e9o rfl rfl rfl rfl ⟨(Nat.le_of_ble_eq_true rfl), (Nat.le_of_ble_eq_true rfl)⟩ hl.1 rfl rfl (Nat.le_of_ble_eq_true rfl) ⟨(Nat.le_of_ble_eq_true rfl), (Nat.le_of_ble_eq_true rfl)⟩ dX11_judge_9) (fun o9 w9 => ?_)
    rcases w9 with rfl | ⟨z9, bz9, hz9, rfl⟩
    · skip
      refine lv_astoreN (lv' := [(5, .null), (4, .ref (ad (101 + 2 * z2))), (0, .ref (ad 0)), (1, .int x0), (2, .int x1), (3, .int x2)]) C.1 C.2.1 dX11_judge_12 hl (by decide) rfl (fun ls hl => ?_)
      refine lv_aload C.1 C.2.1 dX11_judge_14 (lv_at hl 1 rfl) ?_
      refine lv_ifnull C.1 C.2.1 dX11_judge_16 ?_
      refine lv_aloadN C.1 C.2.1 dX11_judge_19 (lv_at hl 0 rfl) ?_
      refine lv_ifnullN (tgt := 33) C.1 C.2.1 dX11_judge_21 (by decide) ?_
      exact J33 cel _ _ _ ⟨hI, Wd, lv_sub hl [] rfl⟩
    · have hz9 : (z9 : Int) = x1.toInt := hz9
      refine lv_astore (lv' := [(5, .ref (ad (101 + 2 * z9))), (4, .ref (ad (101 + 2 * z2))), (0, .ref (ad 0)), (1, .int x0), (2, .int x1), (3, .int x2)]) C.1 C.2.1 dX11_judge_12 hl (by decide) rfl (fun ls hl => ?_)
      refine lv_aload C.1 C.2.1 dX11_judge_14 (lv_at hl 1 rfl) ?_
      refine lv_ifnull C.1 C.2.1 dX11_judge_16 ?_
      refine lv_aload C.1 C.2.1 dX11_judge_19 (lv_at hl 0 rfl) ?_
      refine lv_ifnull C.1 C.2.1 dX11_judge_21 ?_
      refine lv_iload_n C.1 C.2.1 dX11_judge_24 rfl (lv_at hl 5 rfl) ?_
      refine lv_if_lt (tgt := 33) C.1 C.2.1 dX11_judge_25 (by decide) (fun c25 => ?_) (fun c25 => ?_)
      · have i25 : x2.toInt < 0 := kz_lt c25
        exact J33 cel _ _ _ ⟨hI, Wd, lv_sub hl [] rfl⟩
      · have i25 : 0 ≤ x2.toInt := kz_nlt c25
        refine lv_iload_n C.1 C.2.1 dX11_judge_28 rfl (lv_at hl 5 rfl) ?_
        refine lv_iconst (v := 3) C.1 C.2.1 dX11_judge_29 (by decide) ?_
        refine lv_icmp_le (tgt := 35) C.1 C.2.1 dX11_judge_30 (by decide) (fun c30 => ?_) (fun c30 => ?_)
        · have i30 : x2.toInt ≤ 3 := kz_le c30
          refine lv_aload_n C.1 C.2.1 dX11_judge_35 rfl (lv_at hl 2 rfl) ?_
          obtain ⟨_, e36, y36_1, rfl, b36_1, c36_1⟩ := at_E (by decide) (fx0 hI)
          refine k_get C Wd KX11 0 6 e36 (by decide) fl_X11_50 rfl dX11_judge_36 ?_
          obtain ⟨_, e39, y39_3, y39_4, rfl⟩ := at_E (by decide) (fx31 hI)
          refine k_get C Wd KX4 31 0 e39 (by decide) fl_X11_143 rfl dX11_judge_39 ?_
          refine lv_astore (lv' := [(6, .ref (ad 32)), (5, .ref (ad (101 + 2 * z9))), (4, .ref (ad (101 + 2 * z2))), (0, .ref (ad 0)), (1, .int x0), (2, .int x1), (3, .int x2)]) C.1 C.2.1 dX11_judge_42 hl (by decide) rfl (fun ls hl => ?_)
          refine lv_aload C.1 C.2.1 dX11_judge_44 (lv_at hl 0 rfl) ?_
          refine lv_aload C.1 C.2.1 dX11_judge_46 (lv_at hl 2 rfl) ?_
          refine lv_aload C.1 C.2.1 dX11_judge_48 (lv_at hl 1 rfl) ?_
          refine lv_iconst (v := 0) C.1 C.2.1 dX11_judge_50 (by decide) ?_
          by_cases hq51 : z2 = z9
          · obtain rfl := hq51
            obtain ⟨_, e51o, y51o_0, y51o_1, y51o_2, y51o_3, rfl⟩ := at_E (by decide) (fx32 hI)
            refine kc_i Wd (k_runV (rest := []) C aks Wd cs_X11_147 (liftI4 (P' := pTp T) hI (ok_35 z2 (by omega)) (wtX2_compare_a0 l D (ad 32) (ad (101 + 2 * z2)) (ad 33) (ad 50) (ad 37) (ad 34) (ad 35) (ad 36) (ad 38) (ad 39) (ad 40) (ad 41) (ad 42) (ad 43) (ad 44) (ad 45) (ad 46) (ad 47) (ad 48) (ad 49) (ad (101 + 2 * z2 + 1)) (ad 54) (ad 51) (ad 52) (ad 53) (ad 55) (ad 56) (ad 57) (ad 58) (ad 59) (ad 60) (ad 61) (ad 62) (ad 63) (ad 64) (ad 65) (ad 66) (ca (101 + 2 * z2 + 1)) (ca 49) (ca 48) (ca 38) (ca 39) (ca 45) (ca 40) (ca 41) (ca 44) (ca 42) (ca 43) (ca 47) (ca 46) (ca 66) (ca 65) (ca 55) (ca 56) (ca 62) (ca 57) (ca 58) (ca 61) (ca 59) (ca 60) (ca 64) (ca 63) (ca 35) (ca 36) (ca 34) (ca 52) (ca 53) (ca 51) (capR z2) 0 _ (by have zq0 : (0 : Int32).toInt = 0 := (by decide); omega) (by have zq0 : (0 : Int32).toInt = 0 := (by decide); omega) (by have := capR_hi z2; have := capR_lo z2; omega) (by have := capR_hi z2; have := capR_lo z2; omega) ([32, 33, 37, (101 + 2 * z2), (101 + 2 * z2 + 1), 49, 48, 38, 39, 45, 40, 41, 44, 42, 43, 47, 46, 50, 54, 66, 65, 55, 56, 62, 57, 58, 61, 59, 60, 64, 63, 35, 36, 34, 52, 53, 51].map cel) ⟨(fx32 hI), (fx33 hI), (fx37 hI), (frow0 hI (by omega : z2 < 11)), (frow1 hI (by omega : z2 < 11)), (fx49 hI), (fx48 hI), (fx38 hI), (fx39 hI), (fx45 hI), (fx40 hI), (fx41 hI), (fx44 hI), (fx42 hI), (fx43 hI), (fx47 hI), (fx46 hI), (fx50 hI), (fx54 hI), (fx66 hI), (fx65 hI), (fx55 hI), (fx56 hI), (fx62 hI), (fx57 hI), (fx58 hI), (fx61 hI), (fx59 hI), (fx60 hI), (fx64 hI), (fx63 hI), (fx35 hI), (fx36 hI), (fx34 hI), (fx52 hI), (fx53 hI), (fx51 hI), trivial⟩) rfl (fun _ _ => rfl) ⟨fun _ h => h, fun _ h => h, fun _ h => tx37 h (fun _ _ q => trivial), fun _ h => trow0 (by omega) h, fun _ h => trow1 (by omega) h, fun _ h => h, fun _ h => h, fun _ h => h, fun _ h => h, fun _ h => h, fun _ h => h, fun _ h => h, fun _ h => h, fun _ h => h, fun _ h => h, fun _ h => h, fun _ h => h, fun _ h => h, fun _ h => tx54 h (fun _ _ q => trivial), fun _ h => h, fun _ h => h, fun _ h => h, fun _ h => h, fun _ h => h, fun _ h => h, fun _ h => h, fun _ h => h, fun _ h => h, fun _ h => h, fun _ h => h, fun _ h => h, fun _ h => h, fun _ h => h, fun _ h => h, fun _ h => h, fun _ h => h, fun _ h => h, trivial⟩) (List.range NC) (wN_all cel) ndR (List.range NC) (tC_all ca) 32 2 e51o rfl rfl rfl rfl ⟨(Nat.le_of_ble_eq_true rfl), (Nat.le_of_ble_eq_true rfl)⟩ hl.1 rfl rfl (Nat.le_of_ble_eq_true rfl) ⟨(Nat.le_of_ble_eq_true rfl), (Nat.le_of_ble_eq_true rfl)⟩ dX11_judge_51) (fun r51 cel H locs w51 hI Wd => ?_)
            obtain ⟨g51_0, g51_1⟩ := w51
            have g51_0 : 0 ≤ r51.toInt := g51_0
            have g51_1 : r51.toInt ≤ 1 := g51_1
            refine lv_pop C.1 C.2.1 dX11_judge_54 rfl ?_
            refine lv_iload_n C.1 C.2.1 dX11_judge_55 rfl (lv_at hl 6 rfl) ?_
            by_cases c56_0 : x2.toInt = 0
            · refine lv_tableIn (off := 28) (tgt := 84) C.1 C.2.1 dX11_judge_56 (by omega) (by omega) (by rw [c56_0]; rfl) (by decide) ?_
              refine lv_aload C.1 C.2.1 dX11_judge_84 (lv_at hl 0 rfl) ?_
              obtain ⟨_, e86o, y86o_0, y86o_1, y86o_2, y86o_3, rfl⟩ := at_E (by decide) (fx32 hI)
              refine k_pi (k_runV (rest := []) C aks Wd cs_X11_153 (wsX2_verdict l D (ad 32) (ad 33) (ad 50) _ ([32].map cel) ⟨(fx32 hI), trivial⟩) [32] (wN_pick [32] (okC_lt (ok_36))) (okC_nd (ok_36)) [] (tC_ok (ok_36) rfl) 32 2 e86o rfl rfl rfl rfl ⟨(Nat.le_of_ble_eq_true rfl), (Nat.le_of_ble_eq_true rfl)⟩ hl.1 rfl rfl (Nat.le_of_ble_eq_true rfl) ⟨(Nat.le_of_ble_eq_true rfl), (Nat.le_of_ble_eq_true rfl)⟩ dX11_judge_86) (fun r86 w86 => ?_)
              obtain ⟨g86_0, g86_1⟩ := w86
              have g86_0 : 0 ≤ r86.toInt := g86_0
              have g86_1 : r86.toInt ≤ 2 := g86_1
              exact kc_zret C hr hlk rfl Wd ⟨trivial, hI⟩ dX11_judge_89
            by_cases c56_1 : x2.toInt = 1
            · refine lv_tableIn (off := 34) (tgt := 90) C.1 C.2.1 dX11_judge_56 (by omega) (by omega) (by rw [c56_1]; rfl) (by decide) ?_
              refine lv_aload C.1 C.2.1 dX11_judge_90 (lv_at hl 0 rfl) ?_
              obtain ⟨_, e92, y92_0, y92_1, y92_2, y92_3, rfl⟩ := at_E (by decide) (fx32 hI)
              refine k_get C Wd KX2 32 0 e92 (by decide) fl_X11_156 rfl dX11_judge_92 ?_
              exact kc_zret C hr hlk rfl Wd ⟨trivial, hI⟩ dX11_judge_95
            by_cases c56_2 : x2.toInt = 2
            · refine lv_tableIn (off := 40) (tgt := 96) C.1 C.2.1 dX11_judge_56 (by omega) (by omega) (by rw [c56_2]; rfl) (by decide) ?_
              refine lv_aload C.1 C.2.1 dX11_judge_96 (lv_at hl 0 rfl) ?_
              obtain ⟨_, e98, y98_0, y98_1, y98_2, y98_3, rfl⟩ := at_E (by decide) (fx32 hI)
              refine k_get C Wd KX2 32 1 e98 (by decide) fl_X11_159 rfl dX11_judge_98 ?_
              exact kc_zret C hr hlk rfl Wd ⟨trivial, hI⟩ dX11_judge_101
            refine lv_tableOut (tgt := 102) C.1 C.2.1 dX11_judge_56 (by omega) (by decide) ?_
            refine lv_aload C.1 C.2.1 dX11_judge_102 (lv_at hl 0 rfl) ?_
            obtain ⟨_, e104, y104_0, y104_1, y104_2, y104_3, rfl⟩ := at_E (by decide) (fx32 hI)
            refine k_get C Wd KX2 32 2 e104 (by decide) fl_X11_162 rfl dX11_judge_104 ?_
            exact kc_zret C hr hlk rfl Wd ⟨trivial, hI⟩ dX11_judge_107
          obtain ⟨_, e51o, y51o_0, y51o_1, y51o_2, y51o_3, rfl⟩ := at_E (by decide) (fx32 hI)
          refine kc_i Wd (k_runV (rest := []) C aks Wd cs_X11_147 (liftI4 (P' := pTp T) hI (ok_37 z2 (by omega) z9 (by omega) (by omega)) (wsX2_compare l D (ad 32) (ad (101 + 2 * z2)) (ad (101 + 2 * z9)) (ad 33) (ad 50) (ad 37) (ad 34) (ad 35) (ad 36) (ad 38) (ad 39) (ad 40) (ad 41) (ad 42) (ad 43) (ad 44) (ad 45) (ad 46) (ad 47) (ad 48) (ad 49) (ad (101 + 2 * z2 + 1)) (ad 54) (ad 51) (ad 52) (ad 53) (ad 55) (ad 56) (ad 57) (ad 58) (ad 59) (ad 60) (ad 61) (ad 62) (ad 63) (ad 64) (ad 65) (ad 66) (ad (101 + 2 * z9 + 1)) (ca (101 + 2 * z2 + 1)) (ca 49) (ca 48) (ca 38) (ca 39) (ca 45) (ca 40) (ca 41) (ca 44) (ca 42) (ca 43) (ca 47) (ca 46) (ca (101 + 2 * z9 + 1)) (ca 66) (ca 65) (ca 55) (ca 56) (ca 62) (ca 57) (ca 58) (ca 61) (ca 59) (ca 60) (ca 64) (ca 63) (ca 35) (ca 36) (ca 34) (ca 52) (ca 53) (ca 51) (capR z2) (capR z9) 0 _ (by have zq0 : (0 : Int32).toInt = 0 := (by decide); omega) (by have zq0 : (0 : Int32).toInt = 0 := (by decide); omega) (by have := capR_hi z2; have := capR_lo z2; omega) (by have := capR_hi z2; have := capR_lo z2; omega) (by have := capR_hi z9; have := capR_lo z9; omega) (by have := capR_hi z9; have := capR_lo z9; omega) ([32, 33, 37, (101 + 2 * z2), (101 + 2 * z2 + 1), 49, 48, 38, 39, 45, 40, 41, 44, 42, 43, 47, 46, 50, 54, (101 + 2 * z9), (101 + 2 * z9 + 1), 66, 65, 55, 56, 62, 57, 58, 61, 59, 60, 64, 63, 35, 36, 34, 52, 53, 51].map cel) ⟨(fx32 hI), (fx33 hI), (fx37 hI), (frow0 hI (by omega : z2 < 11)), (frow1 hI (by omega : z2 < 11)), (fx49 hI), (fx48 hI), (fx38 hI), (fx39 hI), (fx45 hI), (fx40 hI), (fx41 hI), (fx44 hI), (fx42 hI), (fx43 hI), (fx47 hI), (fx46 hI), (fx50 hI), (fx54 hI), (frow0 hI (by omega : z9 < 11)), (frow1 hI (by omega : z9 < 11)), (fx66 hI), (fx65 hI), (fx55 hI), (fx56 hI), (fx62 hI), (fx57 hI), (fx58 hI), (fx61 hI), (fx59 hI), (fx60 hI), (fx64 hI), (fx63 hI), (fx35 hI), (fx36 hI), (fx34 hI), (fx52 hI), (fx53 hI), (fx51 hI), trivial⟩) rfl (fun _ _ => rfl) ⟨fun _ h => h, fun _ h => h, fun _ h => tx37 h (fun _ _ q => trivial), fun _ h => trow0 (by omega) h, fun _ h => trow1 (by omega) h, fun _ h => h, fun _ h => h, fun _ h => h, fun _ h => h, fun _ h => h, fun _ h => h, fun _ h => h, fun _ h => h, fun _ h => h, fun _ h => h, fun _ h => h, fun _ h => h, fun _ h => h, fun _ h => tx54 h (fun _ _ q => trivial), fun _ h => trow0 (by omega) h, fun _ h => trow1 (by omega) h, fun _ h => h, fun _ h => h, fun _ h => h, fun _ h => h, fun _ h => h, fun _ h => h, fun _ h => h, fun _ h => h, fun _ h => h, fun _ h => h, fun _ h => h, fun _ h => h, fun _ h => h, fun _ h => h, fun _ h => h, fun _ h => h, fun _ h => h, fun _ h => h, trivial⟩) (List.range NC) (wN_all cel) ndR (List.range NC) (tC_all ca) 32 2 e51o rfl rfl rfl rfl ⟨(Nat.le_of_ble_eq_true rfl), (Nat.le_of_ble_eq_true rfl)⟩ hl.1 rfl rfl (Nat.le_of_ble_eq_true rfl) ⟨(Nat.le_of_ble_eq_true rfl), (Nat.le_of_ble_eq_true rfl)⟩ dX11_judge_51) (fun r51 cel H locs w51 hI Wd => ?_)
          obtain ⟨g51_0, g51_1⟩ := w51
          have g51_0 : 0 ≤ r51.toInt := g51_0
          have g51_1 : r51.toInt ≤ 1 := g51_1
          refine lv_pop C.1 C.2.1 dX11_judge_54 rfl ?_
          refine lv_iload_n C.1 C.2.1 dX11_judge_55 rfl (lv_at hl 6 rfl) ?_
          by_cases c56_0 : x2.toInt = 0
          · refine lv_tableIn (off := 28) (tgt := 84) C.1 C.2.1 dX11_judge_56 (by omega) (by omega) (by rw [c56_0]; rfl) (by decide) ?_
            refine lv_aload C.1 C.2.1 dX11_judge_84 (lv_at hl 0 rfl) ?_
            obtain ⟨_, e86o, y86o_0, y86o_1, y86o_2, y86o_3, rfl⟩ := at_E (by decide) (fx32 hI)
            refine k_pi (k_runV (rest := []) C aks Wd cs_X11_153 (wsX2_verdict l D (ad 32) (ad 33) (ad 50) _ ([32].map cel) ⟨(fx32 hI), trivial⟩) [32] (wN_pick [32] (okC_lt (ok_36))) (okC_nd (ok_36)) [] (tC_ok (ok_36) rfl) 32 2 e86o rfl rfl rfl rfl ⟨(Nat.le_of_ble_eq_true rfl), (Nat.le_of_ble_eq_true rfl)⟩ hl.1 rfl rfl (Nat.le_of_ble_eq_true rfl) ⟨(Nat.le_of_ble_eq_true rfl), (Nat.le_of_ble_eq_true rfl)⟩ dX11_judge_86) (fun r86 w86 => ?_)
            obtain ⟨g86_0, g86_1⟩ := w86
            have g86_0 : 0 ≤ r86.toInt := g86_0
            have g86_1 : r86.toInt ≤ 2 := g86_1
            exact kc_zret C hr hlk rfl Wd ⟨trivial, hI⟩ dX11_judge_89
          by_cases c56_1 : x2.toInt = 1
          · refine lv_tableIn (off := 34) (tgt := 90) C.1 C.2.1 dX11_judge_56 (by omega) (by omega) (by rw [c56_1]; rfl) (by decide) ?_
            refine lv_aload C.1 C.2.1 dX11_judge_90 (lv_at hl 0 rfl) ?_
            obtain ⟨_, e92, y92_0, y92_1, y92_2, y92_3, rfl⟩ := at_E (by decide) (fx32 hI)
            refine k_get C Wd KX2 32 0 e92 (by decide) fl_X11_156 rfl dX11_judge_92 ?_
            exact kc_zret C hr hlk rfl Wd ⟨trivial, hI⟩ dX11_judge_95
          by_cases c56_2 : x2.toInt = 2
          · refine lv_tableIn (off := 40) (tgt := 96) C.1 C.2.1 dX11_judge_56 (by omega) (by omega) (by rw [c56_2]; rfl) (by decide) ?_
            refine lv_aload C.1 C.2.1 dX11_judge_96 (lv_at hl 0 rfl) ?_
            obtain ⟨_, e98, y98_0, y98_1, y98_2, y98_3, rfl⟩ := at_E (by decide) (fx32 hI)
            refine k_get C Wd KX2 32 1 e98 (by decide) fl_X11_159 rfl dX11_judge_98 ?_
            exact kc_zret C hr hlk rfl Wd ⟨trivial, hI⟩ dX11_judge_101
          refine lv_tableOut (tgt := 102) C.1 C.2.1 dX11_judge_56 (by omega) (by decide) ?_
          refine lv_aload C.1 C.2.1 dX11_judge_102 (lv_at hl 0 rfl) ?_
          obtain ⟨_, e104, y104_0, y104_1, y104_2, y104_3, rfl⟩ := at_E (by decide) (fx32 hI)
          refine k_get C Wd KX2 32 2 e104 (by decide) fl_X11_162 rfl dX11_judge_104 ?_
          exact kc_zret C hr hlk rfl Wd ⟨trivial, hI⟩ dX11_judge_107
        · have i30 : 3 < x2.toInt := kz_nle c30
          exact J33 cel _ _ _ ⟨hI, Wd, lv_sub hl [] rfl⟩
