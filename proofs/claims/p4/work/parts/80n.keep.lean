set_option maxHeartbeats 4000000 in
set_option maxRecDepth 100000 in
theorem gK11_run (l : Launch) (D : va_G) (ad : Nat → Nat) (ca : Nat → ClassId) (T : Value → Prop) (kq : Nat → Cl) (cel : Nat → Cl) (sz : Nat) (x0 : Int32) (x1 : Int32) (x2 : Int32) (x3 : Int32) (hI : InvK ad ca (pTp T) kq cel) : Met l yX11_run (Cond.code yX11_run cX11_run 6 (some .int) :: gG) { frames := 5, cells := 0, slots := 0, locals := 161 } (cPre D (tC ca) (wN NC cel) sz [.ref (ad 0), .int x0, .int x1, .int x2, .int x3]) (va_Qi (fun (r : Int32) (c' : Nat → Cl) => (True) ∧ InvK ad ca (pTp T) kq c') (fun c' t => cB D (va_A (wN NC cel) sz) [] (wN NC c') t) (va_A (wN NC cel) sz)) 0 0 (va_A (wN NC cel) sz) := by
  refine Met.ofW (cc := cX11_run) (maxL := 6) (ret := (some .int)) (by decide) rfl ?_
  intro p e s m args below meth c s₁ B hml hv
  obtain ⟨rfl, aks, rfl, Wd⟩ := k_enter hv
  have C : CallFix p m c cX11_run 6 s _ gG RX11 := ⟨B.exec, B.bytes, hml, findClass_of_methodNamed B.named, fun w h => atoms_spec (ws := Cond.code yX11_run cX11_run 6 (some .int) :: gG) B.pre w (List.mem_cons_of_mem _ h)⟩
  have hr := B.returns
  have hlk := B.notSynchronized
  generalize va_A (wN NC cel) s.heap.size = A at Wd ⊢
  refine k_locals (Nat.le_of_ble_eq_true rfl) [(0, .ref (ad 0)), (1, .int x0), (2, .int x1), (3, .int x2), (4, .int x3)] rfl (fun ls hl => ?_)
  refine lv_aload_n C.1 C.2.1 dX11_run_0 rfl (lv_at hl 0 rfl) ?_
  refine lv_iload_n C.1 C.2.1 dX11_run_1 rfl (lv_at hl 1 rfl) ?_
  obtain ⟨_, e2o, y2o_1, rfl, b2o_1, c2o_1⟩ := at_E (by decide) (fx0 hI.1)
  refine k_cutA (fun (cel : Nat → Cl) H locs ls => InvK ad ca (pTp T) kq cel ∧ wX D (tC ca) s (wN NC cel) H A s.heap locs ∧ lv_has ls 6 []) (fun (cel : Nat → Cl) ls => F0 m 26 ls []) (fun cel H locs ls hi => ?_) (fun J26 => ?_)
  · obtain ⟨hI, Wd, hl⟩ := hi
    refine lv_iconst (v := (-1)) C.1 C.2.1 dX11_run_26 (by decide) ?_
    exact kK_zret C hr hlk rfl Wd ⟨trivial, hI⟩ dX11_run_27
  refine k_pq (k_runV (rest := []) C aks Wd cs_X11_77 (gX11_slotAt l D ad ca (T) cel _ x0 hI.1) (List.range NC) (wN_all cel) ndR (List.range NC) (tC_all ca) 0 11 e2o rfl rfl rfl rfl ⟨(Nat.le_of_ble_eq_true rfl), (Nat.le_of_ble_eq_true rfl)⟩ hl.1 rfl rfl (Nat.le_of_ble_eq_true rfl) ⟨(Nat.le_of_ble_eq_true rfl), (Nat.le_of_ble_eq_true rfl)⟩ dX11_run_2) (fun o2 w2 => ?_)
  rcases w2 with rfl | ⟨z2, bz2, hz2, rfl⟩
  · skip
    refine lv_astoreN (lv' := [(5, .null), (0, .ref (ad 0)), (1, .int x0), (2, .int x1), (3, .int x2), (4, .int x3)]) C.1 C.2.1 dX11_run_5 hl (by decide) rfl (fun ls hl => ?_)
    refine lv_aloadN C.1 C.2.1 dX11_run_7 (lv_at hl 0 rfl) ?_
    refine lv_ifnullN (tgt := 26) C.1 C.2.1 dX11_run_9 (by decide) ?_
    exact J26 cel _ _ _ ⟨hI, Wd, lv_sub hl [] rfl⟩
  · have hz2 : (z2 : Int) = x0.toInt := hz2
    refine lv_astore (lv' := [(5, .ref (ad (101 + 2 * z2))), (0, .ref (ad 0)), (1, .int x0), (2, .int x1), (3, .int x2), (4, .int x3)]) C.1 C.2.1 dX11_run_5 hl (by decide) rfl (fun ls hl => ?_)
    refine lv_aload C.1 C.2.1 dX11_run_7 (lv_at hl 0 rfl) ?_
    refine lv_ifnull C.1 C.2.1 dX11_run_9 ?_
    refine lv_iload_n C.1 C.2.1 dX11_run_12 rfl (lv_at hl 3 rfl) ?_
    refine k_pi (k_runS (rest := []) C aks Wd cs_X11_133 (wsX11_isWord l D x1 _ ([].map cel) trivial) [] (wN_pick [] (okC_lt (ok_1))) (okC_nd (ok_1)) [] (tC_ok (ok_1) rfl)  rfl rfl ⟨(Nat.le_of_ble_eq_true rfl), (Nat.le_of_ble_eq_true rfl)⟩ hl.1 rfl rfl (Nat.le_of_ble_eq_true rfl) ⟨(Nat.le_of_ble_eq_true rfl), (Nat.le_of_ble_eq_true rfl)⟩ dX11_run_13) (fun r13 w13 => ?_)
    rcases w13 with rfl | ⟨g13_1_0, g13_1_1, rfl⟩
    · refine lv_if_eq (tgt := 26) C.1 C.2.1 dX11_run_16 (by decide) (fun _ => ?_) (fun c16 => absurd c16 (by decide))
      exact J26 cel _ _ _ ⟨hI, Wd, lv_sub hl [] rfl⟩
    · have g13_1_0 : 0 ≤ x1.toInt := g13_1_0
      have g13_1_1 : x1.toInt ≤ 15 := g13_1_1
      refine lv_if_eq (tgt := 26) C.1 C.2.1 dX11_run_16 (by decide) (fun c16 => absurd c16 (by decide)) (fun _ => ?_)
      refine lv_iload_n C.1 C.2.1 dX11_run_19 rfl (lv_at hl 4 rfl) ?_
      refine k_pi (k_runS (rest := []) C aks Wd cs_X11_133 (wsX11_isWord l D x2 _ ([].map cel) trivial) [] (wN_pick [] (okC_lt (ok_1))) (okC_nd (ok_1)) [] (tC_ok (ok_1) rfl)  rfl rfl ⟨(Nat.le_of_ble_eq_true rfl), (Nat.le_of_ble_eq_true rfl)⟩ hl.1 rfl rfl (Nat.le_of_ble_eq_true rfl) ⟨(Nat.le_of_ble_eq_true rfl), (Nat.le_of_ble_eq_true rfl)⟩ dX11_run_20) (fun r20 w20 => ?_)
      rcases w20 with rfl | ⟨g20_1_0, g20_1_1, rfl⟩
      · refine lv_if_ne (tgt := 28) C.1 C.2.1 dX11_run_23 (by decide) (fun c23 => absurd c23 (by decide)) (fun _ => ?_)
        exact J26 cel _ _ _ ⟨hI, Wd, lv_sub hl [] rfl⟩
      · have g20_1_0 : 0 ≤ x2.toInt := g20_1_0
        have g20_1_1 : x2.toInt ≤ 15 := g20_1_1
        refine lv_if_ne (tgt := 28) C.1 C.2.1 dX11_run_23 (by decide) (fun _ => ?_) (fun c23 => absurd c23 (by decide))
        refine lv_aload_n C.1 C.2.1 dX11_run_28 rfl (lv_at hl 1 rfl) ?_
        obtain ⟨_, e29, y29_1, rfl, b29_1, c29_1⟩ := at_E (by decide) (fx0 hI.1)
        refine k_get C Wd KX11 0 4 e29 (by decide) fl_X11_36 rfl dX11_run_29 ?_
        obtain ⟨_, e32, y32_2, y32_3, y32_4, rfl, b32_2, c32_2⟩ := at_E (by decide) (fx8 hI.1)
        refine k_get C Wd KX3 8 0 e32 (by decide) fl_X11_121 rfl dX11_run_32 ?_
        refine lv_aload C.1 C.2.1 dX11_run_35 (lv_at hl 0 rfl) ?_
        obtain ⟨_, e37o, v37o_0, y37o_1, rfl, _, b37o_1, c37o_1⟩ := at_E (by decide) (fx12 hI.1)
        refine kK_v Wd (k_runV (rest := []) C aks Wd cs_X11_125 (liftV4K (P' := setP (pTp T) 12 (fun v _ => v = .ref (ad (101 + 2 * z2)))) hI (ok_31 z2 (by omega)) (nk_31 z2 (by omega)) (wsX1_trace l D (ad 12) (ad (101 + 2 * z2)) (ad 13) (ad 14) (ad 15) (ad 16) (ad 17) (ad 18) (ad 19) (ad 20) (ad 21) (ad 22) (ad 23) (ad 24) (ad (101 + 2 * z2 + 1)) (ca (101 + 2 * z2 + 1)) (ca 24) (ca 23) (ca 13) (ca 14) (ca 20) (ca 15) (ca 16) (ca 19) (ca 17) (ca 18) (ca 22) (ca 21) (capR z2) _ (by have := capR_hi z2; have := capR_lo z2; omega) (by have := capR_hi z2; have := capR_lo z2; omega) ([12, (101 + 2 * z2), (101 + 2 * z2 + 1), 24, 23, 13, 14, 20, 15, 16, 19, 17, 18, 22, 21].map cel) ⟨(fx12 hI.1), (frow0 hI.1 (by omega : z2 < 11)), (frow1 hI.1 (by omega : z2 < 11)), (fx24 hI.1), (fx23 hI.1), (fx13 hI.1), (fx14 hI.1), (fx20 hI.1), (fx15 hI.1), (fx16 hI.1), (fx19 hI.1), (fx17 hI.1), (fx18 hI.1), (fx22 hI.1), (fx21 hI.1), trivial⟩) rfl (hs_set ((List.mem_of_getElem? (i := 0) rfl))) ⟨fun _ h => tx12 h (fun _ _ q => q), fun _ h => trow0 (by omega) h, fun _ h => trow1 (by omega) h, fun _ h => h, fun _ h => h, fun _ h => h, fun _ h => h, fun _ h => h, fun _ h => h, fun _ h => h, fun _ h => h, fun _ h => h, fun _ h => h, fun _ h => h, fun _ h => h, trivial⟩) (List.range NC) (wN_all cel) ndR (List.range NC) (tC_all ca) 12 1 e37o rfl rfl rfl rfl ⟨(Nat.le_of_ble_eq_true rfl), (Nat.le_of_ble_eq_true rfl)⟩ hl.1 rfl rfl (Nat.le_of_ble_eq_true rfl) ⟨(Nat.le_of_ble_eq_true rfl), (Nat.le_of_ble_eq_true rfl)⟩ dX11_run_37) (fun cel H locs w37 hI Wd => ?_)
        refine lv_aload_n C.1 C.2.1 dX11_run_40 rfl (lv_at hl 1 rfl) ?_
        obtain ⟨_, e41, y41_1, rfl, b41_1, c41_1⟩ := at_E (by decide) (fx0 hI.1)
        refine k_get C Wd KX11 0 4 e41 (by decide) fl_X11_36 rfl dX11_run_41 ?_
        refine lv_iload_n C.1 C.2.1 dX11_run_44 rfl (lv_at hl 3 rfl) ?_
        refine lv_iload_n C.1 C.2.1 dX11_run_45 rfl (lv_at hl 4 rfl) ?_
        obtain ⟨_, e46o, y46o_2, y46o_3, y46o_4, rfl, b46o_2, c46o_2⟩ := at_E (by decide) (fx8 hI.1)
        refine kK_v Wd (k_runV (rest := []) C aks Wd cs_X11_136 (liftV4K (P' := pTp T) hI (ok_33 z2 (by omega)) (nk_33 z2 (by omega)) (wsX3_go l D (ad 8) (ad 12) (ad 9) (ad 10) (ad 11) (ad 13) (ad 14) (ad 15) (ad 16) (ad 17) (ad 18) (ad 19) (ad 20) (ad 21) (ad 22) (ad 23) (ad 24) (ad (101 + 2 * z2)) (ad (101 + 2 * z2 + 1)) (ca 10) (ca 14) (ca 15) (ca 16) (ca (101 + 2 * z2 + 1)) (ca 11) (ca 9) (ca 13) (ca 18) (ca 17) (capR z2) x1 x2 _ (by have := capR_hi z2; have := capR_lo z2; omega) (by have := capR_hi z2; have := capR_lo z2; omega) ([8, 10, 12, 14, 15, 16, (101 + 2 * z2), (101 + 2 * z2 + 1), 11, 9, 13, 18, 17].map cel) ⟨(fx8 hI.1), (fx10 hI.1), (fx12 hI.1), (fx14 hI.1), (fx15 hI.1), (fx16 hI.1), (frow0 hI.1 (by omega : z2 < 11)), (frow1 hI.1 (by omega : z2 < 11)), (fx11 hI.1), (fx9 hI.1), (fx13 hI.1), (fx18 hI.1), (fx17 hI.1), trivial⟩) rfl (hs_unset ((List.mem_of_getElem? (i := 2) rfl))) ⟨fun _ h => h, fun _ h => h, fun _ h => tx12 h (fun _ _ q => trivial), fun _ h => h, fun _ h => h, fun _ h => h, fun _ h => trow0 (by omega) h, fun _ h => trow1 (by omega) h, fun _ h => h, fun _ h => h, fun _ h => h, fun _ h => h, fun _ h => h, trivial⟩) (List.range NC) (wN_all cel) ndR (List.range NC) (tC_all ca) 8 3 e46o rfl rfl rfl rfl ⟨(Nat.le_of_ble_eq_true rfl), (Nat.le_of_ble_eq_true rfl)⟩ hl.1 rfl rfl (Nat.le_of_ble_eq_true rfl) ⟨(Nat.le_of_ble_eq_true rfl), (Nat.le_of_ble_eq_true rfl)⟩ dX11_run_46) (fun cel H locs w46 hI Wd => ?_)
        refine lv_aload_n C.1 C.2.1 dX11_run_49 rfl (lv_at hl 1 rfl) ?_
        obtain ⟨_, e50, y50_1, rfl, b50_1, c50_1⟩ := at_E (by decide) (fx0 hI.1)
        refine k_get C Wd KX11 0 4 e50 (by decide) fl_X11_36 rfl dX11_run_50 ?_
        refine lv_iload C.1 C.2.1 dX11_run_53 (lv_at hl 5 rfl) ?_
        obtain ⟨_, e55o, y55o_2, y55o_3, y55o_4, rfl, b55o_2, c55o_2⟩ := at_E (by decide) (fx8 hI.1)
        refine k_pi (k_runV (rest := []) C aks Wd cs_X11_140 (wsX3_tell l D (ad 8) (ad 12) (ad 9) (ad 10) (ad 11) (ca 10) (ca 9) x3 _ ([8, 10, 9].map cel) ⟨(fx8 hI.1), (fx10 hI.1), (fx9 hI.1), trivial⟩) [8, 10, 9] (wN_pick [8, 10, 9] (okC_lt (ok_34))) (okC_nd (ok_34)) [10, 9] (tC_ok (ok_34) rfl) 8 3 e55o rfl rfl rfl rfl ⟨(Nat.le_of_ble_eq_true rfl), (Nat.le_of_ble_eq_true rfl)⟩ hl.1 rfl rfl (Nat.le_of_ble_eq_true rfl) ⟨(Nat.le_of_ble_eq_true rfl), (Nat.le_of_ble_eq_true rfl)⟩ dX11_run_55) (fun r55 w55 => ?_)
        exact kK_zret C hr hlk rfl Wd ⟨trivial, hI⟩ dX11_run_58
set_option maxHeartbeats 4000000 in
set_option maxRecDepth 100000 in
theorem gK11_judge (l : Launch) (D : va_G) (ad : Nat → Nat) (ca : Nat → ClassId) (T : Value → Prop) (kq : Nat → Cl) (cel : Nat → Cl) (sz : Nat) (x0 : Int32) (x1 : Int32) (x2 : Int32) (hI : InvK ad ca (pTp T) kq cel) : Met l yX11_judge (Cond.code yX11_judge cX11_judge 7 (some .int) :: gG) { frames := 6, cells := 0, slots := 0, locals := 189 } (cPre D (tC ca) (wN NC cel) sz [.ref (ad 0), .int x0, .int x1, .int x2]) (va_Qi (fun (r : Int32) (c' : Nat → Cl) => (True) ∧ InvK ad ca (pTp T) kq c') (fun c' t => cB D (va_A (wN NC cel) sz) [] (wN NC c') t) (va_A (wN NC cel) sz)) 0 0 (va_A (wN NC cel) sz) := by
  refine Met.ofW (cc := cX11_judge) (maxL := 7) (ret := (some .int)) (by decide) rfl ?_
  intro p e s m args below meth c s₁ B hml hv
  obtain ⟨rfl, aks, rfl, Wd⟩ := k_enter hv
  have C : CallFix p m c cX11_judge 7 s _ gG RX11 := ⟨B.exec, B.bytes, hml, findClass_of_methodNamed B.named, fun w h => atoms_spec (ws := Cond.code yX11_judge cX11_judge 7 (some .int) :: gG) B.pre w (List.mem_cons_of_mem _ h)⟩
  have hr := B.returns
  have hlk := B.notSynchronized
  generalize va_A (wN NC cel) s.heap.size = A at Wd ⊢
  refine k_locals (Nat.le_of_ble_eq_true rfl) [(0, .ref (ad 0)), (1, .int x0), (2, .int x1), (3, .int x2)] rfl (fun ls hl => ?_)
  refine lv_aload_n C.1 C.2.1 dX11_judge_0 rfl (lv_at hl 0 rfl) ?_
  refine lv_iload_n C.1 C.2.1 dX11_judge_1 rfl (lv_at hl 1 rfl) ?_
  obtain ⟨_, e2o, y2o_1, rfl, b2o_1, c2o_1⟩ := at_E (by decide) (fx0 hI.1)
  refine k_cutA (fun (cel : Nat → Cl) H locs ls => InvK ad ca (pTp T) kq cel ∧ wX D (tC ca) s (wN NC cel) H A s.heap locs ∧ lv_has ls 7 []) (fun (cel : Nat → Cl) ls => F0 m 33 ls []) (fun cel H locs ls hi => ?_) (fun J33 => ?_)
  · obtain ⟨hI, Wd, hl⟩ := hi
    refine lv_iconst (v := (-1)) C.1 C.2.1 dX11_judge_33 (by decide) ?_
    exact kK_zret C hr hlk rfl Wd ⟨trivial, hI⟩ dX11_judge_34
  refine k_pq (k_runV (rest := []) C aks Wd cs_X11_77 (gX11_slotAt l D ad ca (T) cel _ x0 hI.1) (List.range NC) (wN_all cel) ndR (List.range NC) (tC_all ca) 0 11 e2o rfl rfl rfl rfl ⟨(Nat.le_of_ble_eq_true rfl), (Nat.le_of_ble_eq_true rfl)⟩ hl.1 rfl rfl (Nat.le_of_ble_eq_true rfl) ⟨(Nat.le_of_ble_eq_true rfl), (Nat.le_of_ble_eq_true rfl)⟩ dX11_judge_2) (fun o2 w2 => ?_)
  rcases w2 with rfl | ⟨z2, bz2, hz2, rfl⟩
  · skip
    refine lv_astoreN (lv' := [(4, .null), (0, .ref (ad 0)), (1, .int x0), (2, .int x1), (3, .int x2)]) C.1 C.2.1 dX11_judge_5 hl (by decide) rfl (fun ls hl => ?_)
    refine lv_aload_n C.1 C.2.1 dX11_judge_7 rfl (lv_at hl 1 rfl) ?_
    refine lv_iload_n C.1 C.2.1 dX11_judge_8 rfl (lv_at hl 3 rfl) ?_
    obtain ⟨_, e9o, y9o_1, rfl, b9o_1, c9o_1⟩ := at_E (by decide) (fx0 hI.1)
    refine k_pq (k_runV (rest := []) C aks Wd cs_X11_77 (gX11_slotAt l D ad ca (T) cel _ x1 hI.1) (List.range NC) (wN_all cel) ndR (List.range NC) (tC_all ca) 0 11 e9o rfl rfl rfl rfl ⟨(Nat.le_of_ble_eq_true rfl), (Nat.le_of_ble_eq_true rfl)⟩ hl.1 rfl rfl (Nat.le_of_ble_eq_true rfl) ⟨(Nat.le_of_ble_eq_true rfl), (Nat.le_of_ble_eq_true rfl)⟩ dX11_judge_9) (fun o9 w9 => ?_)
    rcases w9 with rfl | ⟨z9, bz9, hz9, rfl⟩
    · skip
      refine lv_astoreN (lv' := [(5, .null), (4, .null), (0, .ref (ad 0)), (1, .int x0), (2, .int x1), (3, .int x2)]) C.1 C.2.1 dX11_judge_12 hl (by decide) rfl (fun ls hl => ?_)
      refine lv_aloadN C.1 C.2.1 dX11_judge_14 (lv_at hl 1 rfl) ?_
      refine lv_ifnullN (tgt := 33) C.1 C.2.1 dX11_judge_16 (by decide) ?_
      exact J33 cel _ _ _ ⟨hI, Wd, lv_sub hl [] rfl⟩
    · have hz9 : (z9 : Int) = x1.toInt := hz9
      refine lv_astore (lv' := [(5, .ref (ad (101 + 2 * z9))), (4, .null), (0, .ref (ad 0)), (1, .int x0), (2, .int x1), (3, .int x2)]) C.1 C.2.1 dX11_judge_12 hl (by decide) rfl (fun ls hl => ?_)
      refine lv_aloadN C.1 C.2.1 dX11_judge_14 (lv_at hl 1 rfl) ?_
      refine lv_ifnullN (tgt := 33) C.1 C.2.1 dX11_judge_16 (by decide) ?_
      exact J33 cel _ _ _ ⟨hI, Wd, lv_sub hl [] rfl⟩
  · have hz2 : (z2 : Int) = x0.toInt := hz2
    refine lv_astore (lv' := [(4, .ref (ad (101 + 2 * z2))), (0, .ref (ad 0)), (1, .int x0), (2, .int x1), (3, .int x2)]) C.1 C.2.1 dX11_judge_5 hl (by decide) rfl (fun ls hl => ?_)
    refine lv_aload_n C.1 C.2.1 dX11_judge_7 rfl (lv_at hl 1 rfl) ?_
    refine lv_iload_n C.1 C.2.1 dX11_judge_8 rfl (lv_at hl 3 rfl) ?_
    obtain ⟨_, e9o, y9o_1, rfl, b9o_1, c9o_1⟩ := at_E (by decide) (fx0 hI.1)
    refine k_pq (k_runV (rest := []) C aks Wd cs_X11_77 (gX11_slotAt l D ad ca (T) cel _ x1 hI.1) (List.range NC) (wN_all cel) ndR (List.range NC) (tC_all ca) 0 11 e9o rfl rfl rfl rfl ⟨(Nat.le_of_ble_eq_true rfl), (Nat.le_of_ble_eq_true rfl)⟩ hl.1 rfl rfl (Nat.le_of_ble_eq_true rfl) ⟨(Nat.le_of_ble_eq_true rfl), (Nat.le_of_ble_eq_true rfl)⟩ dX11_judge_9) (fun o9 w9 => ?_)
    rcases w9 with rfl | ⟨z9, bz9, hz9, rfl⟩
    · skip
      refine lv_astoreN (lv' := [(5, .null), (4, .ref (ad (101 + 2 * z2))), (0, .ref (ad 0)), (1, .int x0), (2, .int x1), (3, .int x2)]) C.1 C.2.1 dX11_judge_12 hl (by decide) rfl (fun ls hl => ?_)
      refine lv_aload C.1 C.2.1 dX11_judge_14 (lv_at hl 1 rfl) ?_
      refine lv_ifnull C.1 C.2.1 dX11_judge_16 ?_
      refine lv_aloadN C.1 C.2.1 dX11_judge_19 (lv_at hl 0 rfl) ?_
      refine lv_ifnullN (tgt := 33) C.1 C.2.1 dX11_judge_21 (by decide) ?_
      exact J33 cel _ _ _ ⟨hI, Wd, lv_sub hl [] rfl⟩
    · have hz9 : (z9 : Int) = x1.toInt := hz9
      refine lv_astore (lv' := [(5, .ref (ad (101 + 2 * z9))), (4, .ref (ad (101 + 2 * z2))), (0, .ref (ad 0)), (1, .int x0), (2, .int x1), (3, .int x2)]) C.1 C.2.1 dX11_judge_12 hl (by decide) rfl (fun ls hl => ?_)
      refine lv_aload C.1 C.2.1 dX11_judge_14 (lv_at hl 1 rfl) ?_
      refine lv_ifnull C.1 C.2.1 dX11_judge_16 ?_
      refine lv_aload C.1 C.2.1 dX11_judge_19 (lv_at hl 0 rfl) ?_
      refine lv_ifnull C.1 C.2.1 dX11_judge_21 ?_
      refine lv_iload_n C.1 C.2.1 dX11_judge_24 rfl (lv_at hl 5 rfl) ?_
      refine lv_if_lt (tgt := 33) C.1 C.2.1 dX11_judge_25 (by decide) (fun c25 => ?_) (fun c25 => ?_)
      · have i25 : x2.toInt < 0 := kz_lt c25
        exact J33 cel _ _ _ ⟨hI, Wd, lv_sub hl [] rfl⟩
      · have i25 : 0 ≤ x2.toInt := kz_nlt c25
        refine lv_iload_n C.1 C.2.1 dX11_judge_28 rfl (lv_at hl 5 rfl) ?_
        refine lv_iconst (v := 3) C.1 C.2.1 dX11_judge_29 (by decide) ?_
        refine lv_icmp_le (tgt := 35) C.1 C.2.1 dX11_judge_30 (by decide) (fun c30 => ?_) (fun c30 => ?_)
        · have i30 : x2.toInt ≤ 3 := kz_le c30
          refine lv_aload_n C.1 C.2.1 dX11_judge_35 rfl (lv_at hl 2 rfl) ?_
          obtain ⟨_, e36, y36_1, rfl, b36_1, c36_1⟩ := at_E (by decide) (fx0 hI.1)
          refine k_get C Wd KX11 0 6 e36 (by decide) fl_X11_50 rfl dX11_judge_36 ?_
          obtain ⟨_, e39, y39_3, y39_4, rfl⟩ := at_E (by decide) (fx31 hI.1)
          refine k_get C Wd KX4 31 0 e39 (by decide) fl_X11_143 rfl dX11_judge_39 ?_
          refine lv_astore (lv' := [(6, .ref (ad 32)), (5, .ref (ad (101 + 2 * z9))), (4, .ref (ad (101 + 2 * z2))), (0, .ref (ad 0)), (1, .int x0), (2, .int x1), (3, .int x2)]) C.1 C.2.1 dX11_judge_42 hl (by decide) rfl (fun ls hl => ?_)
          refine lv_aload C.1 C.2.1 dX11_judge_44 (lv_at hl 0 rfl) ?_
          refine lv_aload C.1 C.2.1 dX11_judge_46 (lv_at hl 2 rfl) ?_
          refine lv_aload C.1 C.2.1 dX11_judge_48 (lv_at hl 1 rfl) ?_
          refine lv_iconst (v := 0) C.1 C.2.1 dX11_judge_50 (by decide) ?_
          by_cases hq51 : z2 = z9
          · obtain rfl := hq51
            obtain ⟨_, e51o, y51o_0, y51o_1, y51o_2, y51o_3, rfl⟩ := at_E (by decide) (fx32 hI.1)
            refine kK_i Wd (k_runV (rest := []) C aks Wd cs_X11_147 (liftI4K (P' := pTp T) hI (ok_35 z2 (by omega)) (nk_35 z2 (by omega)) (wtX2_compare_a0 l D (ad 32) (ad (101 + 2 * z2)) (ad 33) (ad 50) (ad 37) (ad 34) (ad 35) (ad 36) (ad 38) (ad 39) (ad 40) (ad 41) (ad 42) (ad 43) (ad 44) (ad 45) (ad 46) (ad 47) (ad 48) (ad 49) (ad (101 + 2 * z2 + 1)) (ad 54) (ad 51) (ad 52) (ad 53) (ad 55) (ad 56) (ad 57) (ad 58) (ad 59) (ad 60) (ad 61) (ad 62) (ad 63) (ad 64) (ad 65) (ad 66) (ca (101 + 2 * z2 + 1)) (ca 49) (ca 48) (ca 38) (ca 39) (ca 45) (ca 40) (ca 41) (ca 44) (ca 42) (ca 43) (ca 47) (ca 46) (ca 66) (ca 65) (ca 55) (ca 56) (ca 62) (ca 57) (ca 58) (ca 61) (ca 59) (ca 60) (ca 64) (ca 63) (ca 35) (ca 36) (ca 34) (ca 52) (ca 53) (ca 51) (capR z2) 0 _ (by have zq0 : (0 : Int32).toInt = 0 := (by decide); omega) (by have zq0 : (0 : Int32).toInt = 0 := (by decide); omega) (by have := capR_hi z2; have := capR_lo z2; omega) (by have := capR_hi z2; have := capR_lo z2; omega) ([32, 33, 37, (101 + 2 * z2), (101 + 2 * z2 + 1), 49, 48, 38, 39, 45, 40, 41, 44, 42, 43, 47, 46, 50, 54, 66, 65, 55, 56, 62, 57, 58, 61, 59, 60, 64, 63, 35, 36, 34, 52, 53, 51].map cel) ⟨(fx32 hI.1), (fx33 hI.1), (fx37 hI.1), (frow0 hI.1 (by omega : z2 < 11)), (frow1 hI.1 (by omega : z2 < 11)), (fx49 hI.1), (fx48 hI.1), (fx38 hI.1), (fx39 hI.1), (fx45 hI.1), (fx40 hI.1), (fx41 hI.1), (fx44 hI.1), (fx42 hI.1), (fx43 hI.1), (fx47 hI.1), (fx46 hI.1), (fx50 hI.1), (fx54 hI.1), (fx66 hI.1), (fx65 hI.1), (fx55 hI.1), (fx56 hI.1), (fx62 hI.1), (fx57 hI.1), (fx58 hI.1), (fx61 hI.1), (fx59 hI.1), (fx60 hI.1), (fx64 hI.1), (fx63 hI.1), (fx35 hI.1), (fx36 hI.1), (fx34 hI.1), (fx52 hI.1), (fx53 hI.1), (fx51 hI.1), trivial⟩) rfl (fun _ _ => rfl) ⟨fun _ h => h, fun _ h => h, fun _ h => tx37 h (fun _ _ q => trivial), fun _ h => trow0 (by omega) h, fun _ h => trow1 (by omega) h, fun _ h => h, fun _ h => h, fun _ h => h, fun _ h => h, fun _ h => h, fun _ h => h, fun _ h => h, fun _ h => h, fun _ h => h, fun _ h => h, fun _ h => h, fun _ h => h, fun _ h => h, fun _ h => tx54 h (fun _ _ q => trivial), fun _ h => h, fun _ h => h, fun _ h => h, fun _ h => h, fun _ h => h, fun _ h => h, fun _ h => h, fun _ h => h, fun _ h => h, fun _ h => h, fun _ h => h, fun _ h => h, fun _ h => h, fun _ h => h, fun _ h => h, fun _ h => h, fun _ h => h, fun _ h => h, trivial⟩) (List.range NC) (wN_all cel) ndR (List.range NC) (tC_all ca) 32 2 e51o rfl rfl rfl rfl ⟨(Nat.le_of_ble_eq_true rfl), (Nat.le_of_ble_eq_true rfl)⟩ hl.1 rfl rfl (Nat.le_of_ble_eq_true rfl) ⟨(Nat.le_of_ble_eq_true rfl), (Nat.le_of_ble_eq_true rfl)⟩ dX11_judge_51) (fun r51 cel H locs w51 hI Wd => ?_)
            obtain ⟨g51_0, g51_1⟩ := w51
            have g51_0 : 0 ≤ r51.toInt := g51_0
            have g51_1 : r51.toInt ≤ 1 := g51_1
            refine lv_pop C.1 C.2.1 dX11_judge_54 rfl ?_
            refine lv_iload_n C.1 C.2.1 dX11_judge_55 rfl (lv_at hl 6 rfl) ?_
            by_cases c56_0 : x2.toInt = 0
            · refine lv_tableIn (off := 28) (tgt := 84) C.1 C.2.1 dX11_judge_56 (by omega) (by omega) (by rw [c56_0]; rfl) (by decide) ?_
              refine lv_aload C.1 C.2.1 dX11_judge_84 (lv_at hl 0 rfl) ?_
              obtain ⟨_, e86o, y86o_0, y86o_1, y86o_2, y86o_3, rfl⟩ := at_E (by decide) (fx32 hI.1)
              refine k_pi (k_runV (rest := []) C aks Wd cs_X11_153 (wsX2_verdict l D (ad 32) (ad 33) (ad 50) _ ([32].map cel) ⟨(fx32 hI.1), trivial⟩) [32] (wN_pick [32] (okC_lt (ok_36))) (okC_nd (ok_36)) [] (tC_ok (ok_36) rfl) 32 2 e86o rfl rfl rfl rfl ⟨(Nat.le_of_ble_eq_true rfl), (Nat.le_of_ble_eq_true rfl)⟩ hl.1 rfl rfl (Nat.le_of_ble_eq_true rfl) ⟨(Nat.le_of_ble_eq_true rfl), (Nat.le_of_ble_eq_true rfl)⟩ dX11_judge_86) (fun r86 w86 => ?_)
              obtain ⟨g86_0, g86_1⟩ := w86
              have g86_0 : 0 ≤ r86.toInt := g86_0
              have g86_1 : r86.toInt ≤ 2 := g86_1
              exact kK_zret C hr hlk rfl Wd ⟨trivial, hI⟩ dX11_judge_89
            by_cases c56_1 : x2.toInt = 1
            · refine lv_tableIn (off := 34) (tgt := 90) C.1 C.2.1 dX11_judge_56 (by omega) (by omega) (by rw [c56_1]; rfl) (by decide) ?_
              refine lv_aload C.1 C.2.1 dX11_judge_90 (lv_at hl 0 rfl) ?_
              obtain ⟨_, e92, y92_0, y92_1, y92_2, y92_3, rfl⟩ := at_E (by decide) (fx32 hI.1)
              refine k_get C Wd KX2 32 0 e92 (by decide) fl_X11_156 rfl dX11_judge_92 ?_
              exact kK_zret C hr hlk rfl Wd ⟨trivial, hI⟩ dX11_judge_95
            by_cases c56_2 : x2.toInt = 2
            · refine lv_tableIn (off := 40) (tgt := 96) C.1 C.2.1 dX11_judge_56 (by omega) (by omega) (by rw [c56_2]; rfl) (by decide) ?_
              refine lv_aload C.1 C.2.1 dX11_judge_96 (lv_at hl 0 rfl) ?_
              obtain ⟨_, e98, y98_0, y98_1, y98_2, y98_3, rfl⟩ := at_E (by decide) (fx32 hI.1)
              refine k_get C Wd KX2 32 1 e98 (by decide) fl_X11_159 rfl dX11_judge_98 ?_
              exact kK_zret C hr hlk rfl Wd ⟨trivial, hI⟩ dX11_judge_101
            refine lv_tableOut (tgt := 102) C.1 C.2.1 dX11_judge_56 (by omega) (by decide) ?_
            refine lv_aload C.1 C.2.1 dX11_judge_102 (lv_at hl 0 rfl) ?_
            obtain ⟨_, e104, y104_0, y104_1, y104_2, y104_3, rfl⟩ := at_E (by decide) (fx32 hI.1)
            refine k_get C Wd KX2 32 2 e104 (by decide) fl_X11_162 rfl dX11_judge_104 ?_
            exact kK_zret C hr hlk rfl Wd ⟨trivial, hI⟩ dX11_judge_107
          obtain ⟨_, e51o, y51o_0, y51o_1, y51o_2, y51o_3, rfl⟩ := at_E (by decide) (fx32 hI.1)
          refine kK_i Wd (k_runV (rest := []) C aks Wd cs_X11_147 (liftI4K (P' := pTp T) hI (ok_37 z2 (by omega) z9 (by omega) (by omega)) (nk_37 z2 (by omega) z9 (by omega) (by omega)) (wsX2_compare l D (ad 32) (ad (101 + 2 * z2)) (ad (101 + 2 * z9)) (ad 33) (ad 50) (ad 37) (ad 34) (ad 35) (ad 36) (ad 38) (ad 39) (ad 40) (ad 41) (ad 42) (ad 43) (ad 44) (ad 45) (ad 46) (ad 47) (ad 48) (ad 49) (ad (101 + 2 * z2 + 1)) (ad 54) (ad 51) (ad 52) (ad 53) (ad 55) (ad 56) (ad 57) (ad 58) (ad 59) (ad 60) (ad 61) (ad 62) (ad 63) (ad 64) (ad 65) (ad 66) (ad (101 + 2 * z9 + 1)) (ca (101 + 2 * z2 + 1)) (ca 49) (ca 48) (ca 38) (ca 39) (ca 45) (ca 40) (ca 41) (ca 44) (ca 42) (ca 43) (ca 47) (ca 46) (ca (101 + 2 * z9 + 1)) (ca 66) (ca 65) (ca 55) (ca 56) (ca 62) (ca 57) (ca 58) (ca 61) (ca 59) (ca 60) (ca 64) (ca 63) (ca 35) (ca 36) (ca 34) (ca 52) (ca 53) (ca 51) (capR z2) (capR z9) 0 _ (by have zq0 : (0 : Int32).toInt = 0 := (by decide); omega) (by have zq0 : (0 : Int32).toInt = 0 := (by decide); omega) (by have := capR_hi z2; have := capR_lo z2; omega) (by have := capR_hi z2; have := capR_lo z2; omega) (by have := capR_hi z9; have := capR_lo z9; omega) (by have := capR_hi z9; have := capR_lo z9; omega) ([32, 33, 37, (101 + 2 * z2), (101 + 2 * z2 + 1), 49, 48, 38, 39, 45, 40, 41, 44, 42, 43, 47, 46, 50, 54, (101 + 2 * z9), (101 + 2 * z9 + 1), 66, 65, 55, 56, 62, 57, 58, 61, 59, 60, 64, 63, 35, 36, 34, 52, 53, 51].map cel) ⟨(fx32 hI.1), (fx33 hI.1), (fx37 hI.1), (frow0 hI.1 (by omega : z2 < 11)), (frow1 hI.1 (by omega : z2 < 11)), (fx49 hI.1), (fx48 hI.1), (fx38 hI.1), (fx39 hI.1), (fx45 hI.1), (fx40 hI.1), (fx41 hI.1), (fx44 hI.1), (fx42 hI.1), (fx43 hI.1), (fx47 hI.1), (fx46 hI.1), (fx50 hI.1), (fx54 hI.1), (frow0 hI.1 (by omega : z9 < 11)), (frow1 hI.1 (by omega : z9 < 11)), (fx66 hI.1), (fx65 hI.1), (fx55 hI.1), (fx56 hI.1), (fx62 hI.1), (fx57 hI.1), (fx58 hI.1), (fx61 hI.1), (fx59 hI.1), (fx60 hI.1), (fx64 hI.1), (fx63 hI.1), (fx35 hI.1), (fx36 hI.1), (fx34 hI.1), (fx52 hI.1), (fx53 hI.1), (fx51 hI.1), trivial⟩) rfl (fun _ _ => rfl) ⟨fun _ h => h, fun _ h => h, fun _ h => tx37 h (fun _ _ q => trivial), fun _ h => trow0 (by omega) h, fun _ h => trow1 (by omega) h, fun _ h => h, fun _ h => h, fun _ h => h, fun _ h => h, fun _ h => h, fun _ h => h, fun _ h => h, fun _ h => h, fun _ h => h, fun _ h => h, fun _ h => h, fun _ h => h, fun _ h => h, fun _ h => tx54 h (fun _ _ q => trivial), fun _ h => trow0 (by omega) h, fun _ h => trow1 (by omega) h, fun _ h => h, fun _ h => h, fun _ h => h, fun _ h => h, fun _ h => h, fun _ h => h, fun _ h => h, fun _ h => h, fun _ h => h, fun _ h => h, fun _ h => h, fun _ h => h, fun _ h => h, fun _ h => h, fun _ h => h, fun _ h => h, fun _ h => h, fun _ h => h, trivial⟩) (List.range NC) (wN_all cel) ndR (List.range NC) (tC_all ca) 32 2 e51o rfl rfl rfl rfl ⟨(Nat.le_of_ble_eq_true rfl), (Nat.le_of_ble_eq_true rfl)⟩ hl.1 rfl rfl (Nat.le_of_ble_eq_true rfl) ⟨(Nat.le_of_ble_eq_true rfl), (Nat.le_of_ble_eq_true rfl)⟩ dX11_judge_51) (fun r51 cel H locs w51 hI Wd => ?_)
          obtain ⟨g51_0, g51_1⟩ := w51
          have g51_0 : 0 ≤ r51.toInt := g51_0
          have g51_1 : r51.toInt ≤ 1 := g51_1
          refine lv_pop C.1 C.2.1 dX11_judge_54 rfl ?_
          refine lv_iload_n C.1 C.2.1 dX11_judge_55 rfl (lv_at hl 6 rfl) ?_
          by_cases c56_0 : x2.toInt = 0
          · refine lv_tableIn (off := 28) (tgt := 84) C.1 C.2.1 dX11_judge_56 (by omega) (by omega) (by rw [c56_0]; rfl) (by decide) ?_
            refine lv_aload C.1 C.2.1 dX11_judge_84 (lv_at hl 0 rfl) ?_
            obtain ⟨_, e86o, y86o_0, y86o_1, y86o_2, y86o_3, rfl⟩ := at_E (by decide) (fx32 hI.1)
            refine k_pi (k_runV (rest := []) C aks Wd cs_X11_153 (wsX2_verdict l D (ad 32) (ad 33) (ad 50) _ ([32].map cel) ⟨(fx32 hI.1), trivial⟩) [32] (wN_pick [32] (okC_lt (ok_36))) (okC_nd (ok_36)) [] (tC_ok (ok_36) rfl) 32 2 e86o rfl rfl rfl rfl ⟨(Nat.le_of_ble_eq_true rfl), (Nat.le_of_ble_eq_true rfl)⟩ hl.1 rfl rfl (Nat.le_of_ble_eq_true rfl) ⟨(Nat.le_of_ble_eq_true rfl), (Nat.le_of_ble_eq_true rfl)⟩ dX11_judge_86) (fun r86 w86 => ?_)
            obtain ⟨g86_0, g86_1⟩ := w86
            have g86_0 : 0 ≤ r86.toInt := g86_0
            have g86_1 : r86.toInt ≤ 2 := g86_1
            exact kK_zret C hr hlk rfl Wd ⟨trivial, hI⟩ dX11_judge_89
          by_cases c56_1 : x2.toInt = 1
          · refine lv_tableIn (off := 34) (tgt := 90) C.1 C.2.1 dX11_judge_56 (by omega) (by omega) (by rw [c56_1]; rfl) (by decide) ?_
            refine lv_aload C.1 C.2.1 dX11_judge_90 (lv_at hl 0 rfl) ?_
            obtain ⟨_, e92, y92_0, y92_1, y92_2, y92_3, rfl⟩ := at_E (by decide) (fx32 hI.1)
            refine k_get C Wd KX2 32 0 e92 (by decide) fl_X11_156 rfl dX11_judge_92 ?_
            exact kK_zret C hr hlk rfl Wd ⟨trivial, hI⟩ dX11_judge_95
          by_cases c56_2 : x2.toInt = 2
          · refine lv_tableIn (off := 40) (tgt := 96) C.1 C.2.1 dX11_judge_56 (by omega) (by omega) (by rw [c56_2]; rfl) (by decide) ?_
            refine lv_aload C.1 C.2.1 dX11_judge_96 (lv_at hl 0 rfl) ?_
            obtain ⟨_, e98, y98_0, y98_1, y98_2, y98_3, rfl⟩ := at_E (by decide) (fx32 hI.1)
            refine k_get C Wd KX2 32 1 e98 (by decide) fl_X11_159 rfl dX11_judge_98 ?_
            exact kK_zret C hr hlk rfl Wd ⟨trivial, hI⟩ dX11_judge_101
          refine lv_tableOut (tgt := 102) C.1 C.2.1 dX11_judge_56 (by omega) (by decide) ?_
          refine lv_aload C.1 C.2.1 dX11_judge_102 (lv_at hl 0 rfl) ?_
          obtain ⟨_, e104, y104_0, y104_1, y104_2, y104_3, rfl⟩ := at_E (by decide) (fx32 hI.1)
          refine k_get C Wd KX2 32 2 e104 (by decide) fl_X11_162 rfl dX11_judge_104 ?_
          exact kK_zret C hr hlk rfl Wd ⟨trivial, hI⟩ dX11_judge_107
        · have i30 : 3 < x2.toInt := kz_nle c30
          exact J33 cel _ _ _ ⟨hI, Wd, lv_sub hl [] rfl⟩
