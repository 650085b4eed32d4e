set_option maxHeartbeats 4000000 in
set_option maxRecDepth 100000 in
theorem gK11_at (l : Launch) (D : va_G) (ad : Nat → Nat) (ca : Nat → ClassId) (T : Value → Prop) (kq : Nat → Cl) (cel : Nat → Cl) (sz : Nat) (x0 : Int32) (x1 : Int32) (hI : InvK ad ca (pTp T) kq cel) : Met l yX11_at (Cond.code yX11_at cX11_at 4 (some .int) :: gG) { frames := 2, cells := 0, slots := 0, locals := 85 } (cPre D (tC ca) (wN NC cel) sz [.ref (ad 0), .int x0, .int x1]) (va_Qi (fun (r : Int32) (c' : Nat → Cl) => (True) ∧ InvK ad ca (pTp T) kq c') (fun c' t => cB D (va_A (wN NC cel) sz) [] (wN NC c') t) (va_A (wN NC cel) sz)) 0 0 (va_A (wN NC cel) sz) := by
  refine Met.ofW (cc := cX11_at) (maxL := 4) (ret := (some .int)) (by decide) rfl ?_
  intro p e s m args below meth c s₁ B hml hv
  obtain ⟨rfl, aks, rfl, Wd⟩ := k_enter hv
  have C : CallFix p m c cX11_at 4 s _ gG RX11 := ⟨B.exec, B.bytes, hml, findClass_of_methodNamed B.named, fun w h => atoms_spec (ws := Cond.code yX11_at cX11_at 4 (some .int) :: gG) B.pre w (List.mem_cons_of_mem _ h)⟩
  have hr := B.returns
  have hlk := B.notSynchronized
  generalize va_A (wN NC cel) s.heap.size = A at Wd ⊢
  refine k_locals (Nat.le_of_ble_eq_true rfl) [(0, .ref (ad 0)), (1, .int x0), (2, .int x1)] rfl (fun ls hl => ?_)
  refine lv_aload_n C.1 C.2.1 dX11_at_0 rfl (lv_at hl 0 rfl) ?_
  refine lv_iload_n C.1 C.2.1 dX11_at_1 rfl (lv_at hl 1 rfl) ?_
  obtain ⟨_, e2o, y2o_1, rfl, b2o_1, c2o_1⟩ := at_E (by decide) (fx0 hI.1)
  refine k_pq (k_runV (rest := []) C aks Wd cs_X11_77 (gX11_slotAt l D ad ca (T) cel _ x0 hI.1) (List.range NC) (wN_all cel) ndR (List.range NC) (tC_all ca) 0 11 e2o rfl rfl rfl rfl ⟨(Nat.le_of_ble_eq_true rfl), (Nat.le_of_ble_eq_true rfl)⟩ hl.1 rfl rfl (Nat.le_of_ble_eq_true rfl) ⟨(Nat.le_of_ble_eq_true rfl), (Nat.le_of_ble_eq_true rfl)⟩ dX11_at_2) (fun o2 w2 => ?_)
  rcases w2 with rfl | ⟨z2, bz2, hz2, rfl⟩
  · skip
    refine lv_astore_nN (lv' := [(3, .null), (0, .ref (ad 0)), (1, .int x0), (2, .int x1)]) C.1 C.2.1 dX11_at_5 rfl hl (by decide) rfl (fun ls hl => ?_)
    refine lv_aload_nN C.1 C.2.1 dX11_at_6 rfl (lv_at hl 0 rfl) ?_
    refine lv_ifnonnullN C.1 C.2.1 dX11_at_7 ?_
    refine lv_iconst (v := (-1)) C.1 C.2.1 dX11_at_10 (by decide) ?_
    refine lv_goto (tgt := 19) C.1 C.2.1 dX11_at_11 (by decide) ?_
    exact kK_zret C hr hlk rfl Wd ⟨trivial, hI⟩ dX11_at_19
  · have hz2 : (z2 : Int) = x0.toInt := hz2
    refine lv_astore_n (lv' := [(3, .ref (ad (101 + 2 * z2))), (0, .ref (ad 0)), (1, .int x0), (2, .int x1)]) C.1 C.2.1 dX11_at_5 rfl hl (by decide) rfl (fun ls hl => ?_)
    refine lv_aload_n C.1 C.2.1 dX11_at_6 rfl (lv_at hl 0 rfl) ?_
    refine lv_ifnonnull (tgt := 14) C.1 C.2.1 dX11_at_7 (by decide) ?_
    refine lv_aload_n C.1 C.2.1 dX11_at_14 rfl (lv_at hl 0 rfl) ?_
    refine lv_iload_n C.1 C.2.1 dX11_at_15 rfl (lv_at hl 3 rfl) ?_
    obtain ⟨_, e16o, y16o_1, rfl, b16o_1, c16o_1⟩ := at_E (by show _ < 233; omega) (frow0 hI.1 (by omega : z2 < 11))
    refine k_pi (k_runV (rest := []) C aks Wd cs_X11_113 (wsX8_cell l D (ad (101 + 2 * z2)) (ad (101 + 2 * z2 + 1)) (ca (101 + 2 * z2 + 1)) (capR z2) x1 _ (by have := capR_hi z2; have := capR_lo z2; omega) (by have := capR_hi z2; have := capR_lo z2; omega) ([(101 + 2 * z2), (101 + 2 * z2 + 1)].map cel) ⟨(frow0 hI.1 (by omega : z2 < 11)), (frow1 hI.1 (by omega : z2 < 11)), trivial⟩) [(101 + 2 * z2), (101 + 2 * z2 + 1)] (wN_pick [(101 + 2 * z2), (101 + 2 * z2 + 1)] (okC_lt (ok_18 z2 (by omega)))) (okC_nd (ok_18 z2 (by omega))) [(101 + 2 * z2 + 1)] (tC_ok (ok_18 z2 (by omega)) rfl) (101 + 2 * z2) 8 e16o rfl rfl rfl rfl ⟨(Nat.le_of_ble_eq_true rfl), (Nat.le_of_ble_eq_true rfl)⟩ hl.1 rfl rfl (Nat.le_of_ble_eq_true rfl) ⟨(Nat.le_of_ble_eq_true rfl), (Nat.le_of_ble_eq_true rfl)⟩ dX11_at_16) (fun r16 w16 => ?_)
    exact kK_zret C hr hlk rfl Wd ⟨trivial, hI⟩ dX11_at_19
set_option maxHeartbeats 4000000 in
set_option maxRecDepth 100000 in
theorem gK11_size (l : Launch) (D : va_G) (ad : Nat → Nat) (ca : Nat → ClassId) (T : Value → Prop) (kq : Nat → Cl) (cel : Nat → Cl) (sz : Nat) (x0 : Int32) (x1 : Int32) (hI : InvK ad ca (pTp T) kq cel) : Met l yX11_size (Cond.code yX11_size cX11_size 4 (some .int) :: gG) { frames := 5, cells := 0, slots := 0, locals := 152 } (cPre D (tC ca) (wN NC cel) sz [.ref (ad 0), .int x0, .int x1]) (va_Qi (fun (r : Int32) (c' : Nat → Cl) => (True) ∧ InvK ad ca (pTp T) kq c') (fun c' t => cB D (va_A (wN NC cel) sz) [] (wN NC c') t) (va_A (wN NC cel) sz)) 0 0 (va_A (wN NC cel) sz) := by
  refine Met.ofW (cc := cX11_size) (maxL := 4) (ret := (some .int)) (by decide) rfl ?_
  intro p e s m args below meth c s₁ B hml hv
  obtain ⟨rfl, aks, rfl, Wd⟩ := k_enter hv
  have C : CallFix p m c cX11_size 4 s _ gG RX11 := ⟨B.exec, B.bytes, hml, findClass_of_methodNamed B.named, fun w h => atoms_spec (ws := Cond.code yX11_size cX11_size 4 (some .int) :: gG) B.pre w (List.mem_cons_of_mem _ h)⟩
  have hr := B.returns
  have hlk := B.notSynchronized
  generalize va_A (wN NC cel) s.heap.size = A at Wd ⊢
  refine k_locals (Nat.le_of_ble_eq_true rfl) [(0, .ref (ad 0)), (1, .int x0), (2, .int x1)] rfl (fun ls hl => ?_)
  refine lv_aload_n C.1 C.2.1 dX11_size_0 rfl (lv_at hl 0 rfl) ?_
  refine lv_iload_n C.1 C.2.1 dX11_size_1 rfl (lv_at hl 1 rfl) ?_
  obtain ⟨_, e2o, y2o_1, rfl, b2o_1, c2o_1⟩ := at_E (by decide) (fx0 hI.1)
  refine k_pq (k_runV (rest := []) C aks Wd cs_X11_77 (gX11_slotAt l D ad ca (T) cel _ x0 hI.1) (List.range NC) (wN_all cel) ndR (List.range NC) (tC_all ca) 0 11 e2o rfl rfl rfl rfl ⟨(Nat.le_of_ble_eq_true rfl), (Nat.le_of_ble_eq_true rfl)⟩ hl.1 rfl rfl (Nat.le_of_ble_eq_true rfl) ⟨(Nat.le_of_ble_eq_true rfl), (Nat.le_of_ble_eq_true rfl)⟩ dX11_size_2) (fun o2 w2 => ?_)
  rcases w2 with rfl | ⟨z2, bz2, hz2, rfl⟩
  · skip
    refine lv_astore_nN (lv' := [(3, .null), (0, .ref (ad 0)), (1, .int x0), (2, .int x1)]) C.1 C.2.1 dX11_size_5 rfl hl (by decide) rfl (fun ls hl => ?_)
    refine lv_aload_nN C.1 C.2.1 dX11_size_6 rfl (lv_at hl 0 rfl) ?_
    refine lv_ifnonnullN C.1 C.2.1 dX11_size_7 ?_
    refine lv_iconst (v := (-1)) C.1 C.2.1 dX11_size_10 (by decide) ?_
    exact kK_zret C hr hlk rfl Wd ⟨trivial, hI⟩ dX11_size_11
  · have hz2 : (z2 : Int) = x0.toInt := hz2
    refine lv_astore_n (lv' := [(3, .ref (ad (101 + 2 * z2))), (0, .ref (ad 0)), (1, .int x0), (2, .int x1)]) C.1 C.2.1 dX11_size_5 rfl hl (by decide) rfl (fun ls hl => ?_)
    refine lv_aload_n C.1 C.2.1 dX11_size_6 rfl (lv_at hl 0 rfl) ?_
    refine lv_ifnonnull (tgt := 12) C.1 C.2.1 dX11_size_7 (by decide) ?_
    refine lv_iload_n C.1 C.2.1 dX11_size_12 rfl (lv_at hl 3 rfl) ?_
    by_cases c13_0 : x1.toInt = 0
    · refine lv_tableIn (off := 31) (tgt := 44) C.1 C.2.1 dX11_size_13 (by omega) (by omega) (by rw [c13_0]; rfl) (by decide) ?_
      refine lv_aload_n C.1 C.2.1 dX11_size_44 rfl (lv_at hl 0 rfl) ?_
      obtain ⟨_, e45o, y45o_1, rfl, b45o_1, c45o_1⟩ := at_E (by show _ < 233; omega) (frow0 hI.1 (by omega : z2 < 11))
      refine k_pi (k_runV (rest := []) C aks Wd cs_X11_95 (wsX8_statements l D (ad (101 + 2 * z2)) (ad (101 + 2 * z2 + 1)) (ca (101 + 2 * z2 + 1)) (capR z2) _ (by have := capR_hi z2; have := capR_lo z2; omega) (by have := capR_hi z2; have := capR_lo z2; omega) ([(101 + 2 * z2), (101 + 2 * z2 + 1)].map cel) ⟨(frow0 hI.1 (by omega : z2 < 11)), (frow1 hI.1 (by omega : z2 < 11)), trivial⟩) [(101 + 2 * z2), (101 + 2 * z2 + 1)] (wN_pick [(101 + 2 * z2), (101 + 2 * z2 + 1)] (okC_lt (ok_18 z2 (by omega)))) (okC_nd (ok_18 z2 (by omega))) [(101 + 2 * z2 + 1)] (tC_ok (ok_18 z2 (by omega)) rfl) (101 + 2 * z2) 8 e45o rfl rfl rfl rfl ⟨(Nat.le_of_ble_eq_true rfl), (Nat.le_of_ble_eq_true rfl)⟩ hl.1 rfl rfl (Nat.le_of_ble_eq_true rfl) ⟨(Nat.le_of_ble_eq_true rfl), (Nat.le_of_ble_eq_true rfl)⟩ dX11_size_45) (fun r45 w45 => ?_)
      obtain ⟨g45_0, g45_1⟩ := w45
      have g45_0 : 0 ≤ r45.toInt := g45_0
      have g45_1 : r45.toInt ≤ 1000 := g45_1
      exact kK_zret C hr hlk rfl Wd ⟨trivial, hI⟩ dX11_size_48
    by_cases c13_1 : x1.toInt = 1
    · refine lv_tableIn (off := 36) (tgt := 49) C.1 C.2.1 dX11_size_13 (by omega) (by omega) (by rw [c13_1]; rfl) (by decide) ?_
      refine lv_aload_n C.1 C.2.1 dX11_size_49 rfl (lv_at hl 0 rfl) ?_
      obtain ⟨_, e50o, y50o_1, rfl, b50o_1, c50o_1⟩ := at_E (by show _ < 233; omega) (frow0 hI.1 (by omega : z2 < 11))
      refine k_pi (k_runV (rest := []) C aks Wd cs_X11_117 (wsX8_expressions l D (ad (101 + 2 * z2)) (ad (101 + 2 * z2 + 1)) (ca (101 + 2 * z2 + 1)) (capR z2) _ (by have := capR_hi z2; have := capR_lo z2; omega) (by have := capR_hi z2; have := capR_lo z2; omega) ([(101 + 2 * z2), (101 + 2 * z2 + 1)].map cel) ⟨(frow0 hI.1 (by omega : z2 < 11)), (frow1 hI.1 (by omega : z2 < 11)), trivial⟩) [(101 + 2 * z2), (101 + 2 * z2 + 1)] (wN_pick [(101 + 2 * z2), (101 + 2 * z2 + 1)] (okC_lt (ok_18 z2 (by omega)))) (okC_nd (ok_18 z2 (by omega))) [(101 + 2 * z2 + 1)] (tC_ok (ok_18 z2 (by omega)) rfl) (101 + 2 * z2) 8 e50o rfl rfl rfl rfl ⟨(Nat.le_of_ble_eq_true rfl), (Nat.le_of_ble_eq_true rfl)⟩ hl.1 rfl rfl (Nat.le_of_ble_eq_true rfl) ⟨(Nat.le_of_ble_eq_true rfl), (Nat.le_of_ble_eq_true rfl)⟩ dX11_size_50) (fun r50 w50 => ?_)
      obtain ⟨g50_0, g50_1⟩ := w50
      have g50_0 : 0 ≤ r50.toInt := g50_0
      have g50_1 : r50.toInt ≤ 1000 := g50_1
      exact kK_zret C hr hlk rfl Wd ⟨trivial, hI⟩ dX11_size_53
    by_cases c13_2 : x1.toInt = 2
    · refine lv_tableIn (off := 41) (tgt := 54) C.1 C.2.1 dX11_size_13 (by omega) (by omega) (by rw [c13_2]; rfl) (by decide) ?_
      refine lv_aload_n C.1 C.2.1 dX11_size_54 rfl (lv_at hl 0 rfl) ?_
      obtain ⟨_, e55, y55_1, rfl, b55_1, c55_1⟩ := at_E (by show _ < 233; omega) (frow0 hI.1 (by omega : z2 < 11))
      have hc_z2 := capR_hi z2
      refine k_get C Wd KX8 (101 + 2 * z2) 1 e55 (by decide) fl_X11_120 rfl dX11_size_55 ?_
      exact kK_zret C hr hlk rfl Wd ⟨trivial, hI⟩ dX11_size_58
    by_cases c13_3 : x1.toInt = 3
    · refine lv_tableIn (off := 46) (tgt := 59) C.1 C.2.1 dX11_size_13 (by omega) (by omega) (by rw [c13_3]; rfl) (by decide) ?_
      refine lv_aload_n C.1 C.2.1 dX11_size_59 rfl (lv_at hl 1 rfl) ?_
      obtain ⟨_, e60, y60_1, rfl, b60_1, c60_1⟩ := at_E (by decide) (fx0 hI.1)
      refine k_get C Wd KX11 0 4 e60 (by decide) fl_X11_36 rfl dX11_size_60 ?_
      obtain ⟨_, e63, y63_2, y63_3, y63_4, rfl, b63_2, c63_2⟩ := at_E (by decide) (fx8 hI.1)
      refine k_get C Wd KX3 8 0 e63 (by decide) fl_X11_121 rfl dX11_size_63 ?_
      refine lv_aload_n C.1 C.2.1 dX11_size_66 rfl (lv_at hl 0 rfl) ?_
      obtain ⟨_, e67o, v67o_0, y67o_1, rfl, _, b67o_1, c67o_1⟩ := at_E (by decide) (fx12 hI.1)
      refine kK_v Wd (k_runV (rest := []) C aks Wd cs_X11_125 (liftV4K (P' := pTp T) hI (ok_31 z2 (by omega)) (nk_31 z2 (by omega)) (wsX1_trace l D (ad 12) (ad (101 + 2 * z2)) (ad 13) (ad 14) (ad 15) (ad 16) (ad 17) (ad 18) (ad 19) (ad 20) (ad 21) (ad 22) (ad 23) (ad 24) (ad (101 + 2 * z2 + 1)) (ca (101 + 2 * z2 + 1)) (ca 24) (ca 23) (ca 13) (ca 14) (ca 20) (ca 15) (ca 16) (ca 19) (ca 17) (ca 18) (ca 22) (ca 21) (capR z2) _ (by have := capR_hi z2; have := capR_lo z2; omega) (by have := capR_hi z2; have := capR_lo z2; omega) ([12, (101 + 2 * z2), (101 + 2 * z2 + 1), 24, 23, 13, 14, 20, 15, 16, 19, 17, 18, 22, 21].map cel) ⟨(fx12 hI.1), (frow0 hI.1 (by omega : z2 < 11)), (frow1 hI.1 (by omega : z2 < 11)), (fx24 hI.1), (fx23 hI.1), (fx13 hI.1), (fx14 hI.1), (fx20 hI.1), (fx15 hI.1), (fx16 hI.1), (fx19 hI.1), (fx17 hI.1), (fx18 hI.1), (fx22 hI.1), (fx21 hI.1), trivial⟩) rfl (fun _ _ => rfl) ⟨fun _ h => tx12 h (fun _ _ q => trivial), fun _ h => trow0 (by omega) h, fun _ h => trow1 (by omega) h, fun _ h => h, fun _ h => h, fun _ h => h, fun _ h => h, fun _ h => h, fun _ h => h, fun _ h => h, fun _ h => h, fun _ h => h, fun _ h => h, fun _ h => h, fun _ h => h, trivial⟩) (List.range NC) (wN_all cel) ndR (List.range NC) (tC_all ca) 12 1 e67o rfl rfl rfl rfl ⟨(Nat.le_of_ble_eq_true rfl), (Nat.le_of_ble_eq_true rfl)⟩ hl.1 rfl rfl (Nat.le_of_ble_eq_true rfl) ⟨(Nat.le_of_ble_eq_true rfl), (Nat.le_of_ble_eq_true rfl)⟩ dX11_size_67) (fun cel H locs w67 hI Wd => ?_)
      refine lv_aload_n C.1 C.2.1 dX11_size_70 rfl (lv_at hl 1 rfl) ?_
      obtain ⟨_, e71, y71_1, rfl, b71_1, c71_1⟩ := at_E (by decide) (fx0 hI.1)
      refine k_get C Wd KX11 0 4 e71 (by decide) fl_X11_36 rfl dX11_size_71 ?_
      obtain ⟨_, e74, y74_2, y74_3, y74_4, rfl, b74_2, c74_2⟩ := at_E (by decide) (fx8 hI.1)
      refine k_get C Wd KX3 8 0 e74 (by decide) fl_X11_121 rfl dX11_size_74 ?_
      refine lv_iconst (v := 0) C.1 C.2.1 dX11_size_77 (by decide) ?_
      obtain ⟨_, e78o, v78o_0, y78o_1, rfl, _, b78o_1, c78o_1⟩ := at_E (by decide) (fx12 hI.1)
      refine k_pi (k_runV (rest := []) C aks Wd cs_X11_130 (wsX1_aheadOf l D (ad 12) (ad 13) (ad 14) (ad 15) (ad 16) (ad 17) (ad 18) (ad 19) (ad 20) (ad 21) (ad 22) (ad 23) (ad 24) (ca 21) 0 _ ([12, 21].map cel) ⟨(fx12 hI.1), (fx21 hI.1), trivial⟩) [12, 21] (wN_pick [12, 21] (okC_lt (ok_32))) (okC_nd (ok_32)) [21] (tC_ok (ok_32) rfl) 12 1 e78o rfl rfl rfl rfl ⟨(Nat.le_of_ble_eq_true rfl), (Nat.le_of_ble_eq_true rfl)⟩ hl.1 rfl rfl (Nat.le_of_ble_eq_true rfl) ⟨(Nat.le_of_ble_eq_true rfl), (Nat.le_of_ble_eq_true rfl)⟩ dX11_size_78) (fun r78 w78 => ?_)
      exact kK_zret C hr hlk rfl Wd ⟨trivial, hI⟩ dX11_size_81
    refine lv_tableOut (tgt := 82) C.1 C.2.1 dX11_size_13 (by omega) (by decide) ?_
    refine lv_iconst (v := (-1)) C.1 C.2.1 dX11_size_82 (by decide) ?_
    exact kK_zret C hr hlk rfl Wd ⟨trivial, hI⟩ dX11_size_83
