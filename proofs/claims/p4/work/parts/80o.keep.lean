set_option maxHeartbeats 4000000 in
set_option maxRecDepth 100000 in
theorem gK11_ruleOf (l : Launch) (D : va_G) (ad : Nat → Nat) (ca : Nat → ClassId) (T : Value → Prop) (kq : Nat → Cl) (cel : Nat → Cl) (sz : Nat) (x0 : Int32) (x1 : Int32) (hI : InvK ad ca (pTp T) kq cel) : Met l yX11_ruleOf (Cond.code yX11_ruleOf cX11_ruleOf 4 (some .int) :: gG) { frames := 6, cells := 0, slots := 0, locals := 187 } (cPre D (tC ca) (wN NC cel) sz [.ref (ad 0), .int x0, .int x1]) (va_Qi (fun (r : Int32) (c' : Nat → Cl) => (True) ∧ InvK ad ca (pTp T) kq c') (fun c' t => cB D (va_A (wN NC cel) sz) [] (wN NC c') t) (va_A (wN NC cel) sz)) 0 0 (va_A (wN NC cel) sz) := by
  refine Met.ofW (cc := cX11_ruleOf) (maxL := 4) (ret := (some .int)) (by decide) rfl ?_
  intro p e s m args below meth c s₁ B hml hv
  obtain ⟨rfl, aks, rfl, Wd⟩ := k_enter hv
  have C : CallFix p m c cX11_ruleOf 4 s _ gG RX11 := ⟨B.exec, B.bytes, hml, findClass_of_methodNamed B.named, fun w h => atoms_spec (ws := Cond.code yX11_ruleOf cX11_ruleOf 4 (some .int) :: gG) B.pre w (List.mem_cons_of_mem _ h)⟩
  have hr := B.returns
  have hlk := B.notSynchronized
  generalize va_A (wN NC cel) s.heap.size = A at Wd ⊢
  refine k_locals (Nat.le_of_ble_eq_true rfl) [(0, .ref (ad 0)), (1, .int x0), (2, .int x1)] rfl (fun ls hl => ?_)
  refine lv_aload_n C.1 C.2.1 dX11_ruleOf_0 rfl (lv_at hl 0 rfl) ?_
  refine lv_iload_n C.1 C.2.1 dX11_ruleOf_1 rfl (lv_at hl 1 rfl) ?_
  obtain ⟨_, e2o, y2o_1, rfl, b2o_1, c2o_1⟩ := at_E (by decide) (fx0 hI.1)
  refine k_pq (k_runV (rest := []) C aks Wd cs_X11_165 (gX11_ruleAt l D ad ca (T) cel _ x0 hI.1) (List.range NC) (wN_all cel) ndR (List.range NC) (tC_all ca) 0 11 e2o rfl rfl rfl rfl ⟨(Nat.le_of_ble_eq_true rfl), (Nat.le_of_ble_eq_true rfl)⟩ hl.1 rfl rfl (Nat.le_of_ble_eq_true rfl) ⟨(Nat.le_of_ble_eq_true rfl), (Nat.le_of_ble_eq_true rfl)⟩ dX11_ruleOf_2) (fun o2 w2 => ?_)
  rcases w2 with rfl | ⟨z2, bz2, hz2, rfl⟩
  · skip
    refine lv_astore_nN (lv' := [(3, .null), (0, .ref (ad 0)), (1, .int x0), (2, .int x1)]) C.1 C.2.1 dX11_ruleOf_5 rfl hl (by decide) rfl (fun ls hl => ?_)
    refine lv_aload_nN C.1 C.2.1 dX11_ruleOf_6 rfl (lv_at hl 0 rfl) ?_
    refine lv_ifnonnullN C.1 C.2.1 dX11_ruleOf_7 ?_
    refine lv_bipush (v := (-2)) C.1 C.2.1 dX11_ruleOf_10 (by decide) ?_
    exact kK_zret C hr hlk rfl Wd ⟨trivial, hI⟩ dX11_ruleOf_12
  · have hz2 : (z2 : Int) = x0.toInt := hz2
    refine lv_astore_n (lv' := [(3, .ref (ad (123 + 7 * z2))), (0, .ref (ad 0)), (1, .int x0), (2, .int x1)]) C.1 C.2.1 dX11_ruleOf_5 rfl hl (by decide) rfl (fun ls hl => ?_)
    refine lv_aload_n C.1 C.2.1 dX11_ruleOf_6 rfl (lv_at hl 0 rfl) ?_
    refine lv_ifnonnull (tgt := 13) C.1 C.2.1 dX11_ruleOf_7 (by decide) ?_
    refine lv_iload_n C.1 C.2.1 dX11_ruleOf_13 rfl (lv_at hl 3 rfl) ?_
    refine lv_iconst (v := 2) C.1 C.2.1 dX11_ruleOf_14 (by decide) ?_
    refine lv_icmp_ne (tgt := 27) C.1 C.2.1 dX11_ruleOf_15 (by decide) (fun c15 => ?_) (fun c15 => ?_)
    · have i15 : ¬ x1.toInt = 2 := kz_ne c15
      refine lv_aload_n C.1 C.2.1 dX11_ruleOf_27 rfl (lv_at hl 1 rfl) ?_
      obtain ⟨_, e28, y28_1, rfl, b28_1, c28_1⟩ := at_E (by decide) (fx0 hI.1)
      refine k_get C Wd KX11 0 5 e28 (by decide) fl_X11_43 rfl dX11_ruleOf_28 ?_
      refine lv_aload_n C.1 C.2.1 dX11_ruleOf_31 rfl (lv_at hl 0 rfl) ?_
      obtain ⟨_, e32o, y32o_0, y32o_1, rfl⟩ := at_E (by decide) (fx25 hI.1)
      refine kK_v Wd (k_runV (rest := []) C aks Wd cs_X11_170 (liftV4K (P' := pTp T) hI (ok_38 z2 (by omega)) (nk_38 z2 (by omega)) (wsX5_tryAll l D (ad 25) (ad (123 + 7 * z2)) (ad 26) (ad 27) (ad 30) (ad 28) (ad 29) (ad (123 + 7 * z2 + 1)) (ad (123 + 7 * z2 + 3)) (ad (123 + 7 * z2 + 5)) (ad (123 + 7 * z2 + 6)) (ad (123 + 7 * z2 + 2)) (ad (123 + 7 * z2 + 4)) (ca 26) (ca (123 + 7 * z2 + 2)) (ca 27) (ca (123 + 7 * z2 + 4)) 40 40 _ (by omega) (by omega) (by omega) (by omega) ([25, (123 + 7 * z2), 26, (123 + 7 * z2 + 1), (123 + 7 * z2 + 2), 27, (123 + 7 * z2 + 3), (123 + 7 * z2 + 4)].map cel) ⟨(fx25 hI.1), (frule0 hI.1 (by omega : z2 < 12)), (fx26 hI.1), (frule1 hI.1 (by omega : z2 < 12)), (frule2 hI.1 (by omega : z2 < 12)), (fx27 hI.1), (frule3 hI.1 (by omega : z2 < 12)), (frule4 hI.1 (by omega : z2 < 12)), trivial⟩) rfl (fun _ _ => rfl) ⟨fun _ h => h, fun _ h => trule0 (by omega) h, fun _ h => h, fun _ h => trule1 (by omega) h, fun _ h => trule2 (by omega) h, fun _ h => h, fun _ h => trule3 (by omega) h, fun _ h => trule4 (by omega) h, trivial⟩) (List.range NC) (wN_all cel) ndR (List.range NC) (tC_all ca) 25 5 e32o rfl rfl rfl rfl ⟨(Nat.le_of_ble_eq_true rfl), (Nat.le_of_ble_eq_true rfl)⟩ hl.1 rfl rfl (Nat.le_of_ble_eq_true rfl) ⟨(Nat.le_of_ble_eq_true rfl), (Nat.le_of_ble_eq_true rfl)⟩ dX11_ruleOf_32) (fun cel H locs w32 hI Wd => ?_)
      refine lv_iload_n C.1 C.2.1 dX11_ruleOf_35 rfl (lv_at hl 3 rfl) ?_
      by_cases c36_0 : x1.toInt = 0
      · refine lv_tableIn (off := 32) (tgt := 68) C.1 C.2.1 dX11_ruleOf_36 (by omega) (by omega) (by rw [c36_0]; rfl) (by decide) ?_
        refine lv_aload_n C.1 C.2.1 dX11_ruleOf_68 rfl (lv_at hl 1 rfl) ?_
        obtain ⟨_, e69, y69_1, rfl, b69_1, c69_1⟩ := at_E (by decide) (fx0 hI.1)
        refine k_get C Wd KX11 0 5 e69 (by decide) fl_X11_43 rfl dX11_ruleOf_69 ?_
        obtain ⟨_, e72, y72_0, y72_1, rfl⟩ := at_E (by decide) (fx25 hI.1)
        refine k_get C Wd KX5 25 1 e72 (by decide) fl_X11_173 rfl dX11_ruleOf_72 ?_
        refine lv_if_ne (tgt := 82) C.1 C.2.1 dX11_ruleOf_75 (by decide) (fun c75 => ?_) (fun c75 => ?_)
        · have i75 : ¬ y72_1.toInt = 0 := kz_ne c75
          refine lv_iconst (v := 0) C.1 C.2.1 dX11_ruleOf_82 (by decide) ?_
          exact kK_zret C hr hlk rfl Wd ⟨trivial, hI⟩ dX11_ruleOf_83
        · have i75 : y72_1.toInt = 0 := kz_eq c75
          refine lv_iconst (v := 1) C.1 C.2.1 dX11_ruleOf_78 (by decide) ?_
          refine lv_goto (tgt := 83) C.1 C.2.1 dX11_ruleOf_79 (by decide) ?_
          exact kK_zret C hr hlk rfl Wd ⟨trivial, hI⟩ dX11_ruleOf_83
      by_cases c36_1 : x1.toInt = 1
      · refine lv_tableIn (off := 48) (tgt := 84) C.1 C.2.1 dX11_ruleOf_36 (by omega) (by omega) (by rw [c36_1]; rfl) (by decide) ?_
        refine lv_aload_n C.1 C.2.1 dX11_ruleOf_84 rfl (lv_at hl 1 rfl) ?_
        obtain ⟨_, e85, y85_1, rfl, b85_1, c85_1⟩ := at_E (by decide) (fx0 hI.1)
        refine k_get C Wd KX11 0 5 e85 (by decide) fl_X11_43 rfl dX11_ruleOf_85 ?_
        obtain ⟨_, e88, y88_0, y88_1, rfl⟩ := at_E (by decide) (fx25 hI.1)
        refine k_get C Wd KX5 25 0 e88 (by decide) fl_X11_176 rfl dX11_ruleOf_88 ?_
        exact kK_zret C hr hlk rfl Wd ⟨trivial, hI⟩ dX11_ruleOf_91
      by_cases c36_2 : x1.toInt = 2
      · refine lv_tableIn (off := 64) (tgt := 100) C.1 C.2.1 dX11_ruleOf_36 (by omega) (by omega) (by rw [c36_2]; rfl) (by decide) ?_
        refine lv_bipush (v := (-2)) C.1 C.2.1 dX11_ruleOf_100 (by decide) ?_
        exact kK_zret C hr hlk rfl Wd ⟨trivial, hI⟩ dX11_ruleOf_102
      by_cases c36_3 : x1.toInt = 3
      · refine lv_tableIn (off := 56) (tgt := 92) C.1 C.2.1 dX11_ruleOf_36 (by omega) (by omega) (by rw [c36_3]; rfl) (by decide) ?_
        refine lv_aload_n C.1 C.2.1 dX11_ruleOf_92 rfl (lv_at hl 1 rfl) ?_
        obtain ⟨_, e93, y93_1, rfl, b93_1, c93_1⟩ := at_E (by decide) (fx0 hI.1)
        refine k_get C Wd KX11 0 5 e93 (by decide) fl_X11_43 rfl dX11_ruleOf_93 ?_
        obtain ⟨_, e96, y96_0, y96_1, rfl⟩ := at_E (by decide) (fx25 hI.1)
        refine k_get C Wd KX5 25 1 e96 (by decide) fl_X11_173 rfl dX11_ruleOf_96 ?_
        exact kK_zret C hr hlk rfl Wd ⟨trivial, hI⟩ dX11_ruleOf_99
      refine lv_tableOut (tgt := 100) C.1 C.2.1 dX11_ruleOf_36 (by omega) (by decide) ?_
      refine lv_bipush (v := (-2)) C.1 C.2.1 dX11_ruleOf_100 (by decide) ?_
      exact kK_zret C hr hlk rfl Wd ⟨trivial, hI⟩ dX11_ruleOf_102
    · have i15 : x1.toInt = 2 := kz_eq c15
      refine lv_aload_n C.1 C.2.1 dX11_ruleOf_18 rfl (lv_at hl 1 rfl) ?_
      obtain ⟨_, e19, y19_1, rfl, b19_1, c19_1⟩ := at_E (by decide) (fx0 hI.1)
      refine k_get C Wd KX11 0 5 e19 (by decide) fl_X11_43 rfl dX11_ruleOf_19 ?_
      refine lv_aload_n C.1 C.2.1 dX11_ruleOf_22 rfl (lv_at hl 0 rfl) ?_
      obtain ⟨_, e23o, y23o_0, y23o_1, rfl⟩ := at_E (by decide) (fx25 hI.1)
      refine kK_i Wd (k_runV (rest := []) C aks Wd cs_X11_166 (gK5_compareForms l D ad ca (T) kq cel _ z2 (by omega) hI) (List.range NC) (wN_all cel) ndR (List.range NC) (tC_all ca) 25 5 e23o rfl rfl rfl rfl ⟨(Nat.le_of_ble_eq_true rfl), (Nat.le_of_ble_eq_true rfl)⟩ hl.1 rfl rfl (Nat.le_of_ble_eq_true rfl) ⟨(Nat.le_of_ble_eq_true rfl), (Nat.le_of_ble_eq_true rfl)⟩ dX11_ruleOf_23) (fun r23 cel H locs w23 hI Wd => ?_)
      obtain ⟨g23_0, g23_1⟩ := w23
      have g23_0 : -1 ≤ r23.toInt := g23_0
      have g23_1 : r23.toInt ≤ 1 := g23_1
      exact kK_zret C hr hlk rfl Wd ⟨trivial, hI⟩ dX11_ruleOf_26
set_option maxHeartbeats 4000000 in
set_option maxRecDepth 100000 in
theorem gK11_places (l : Launch) (D : va_G) (ad : Nat → Nat) (ca : Nat → ClassId) (T : Value → Prop) (kq : Nat → Cl) (cel : Nat → Cl) (sz : Nat) (x0 : Int32) (x1 : Int32) (hI : InvK ad ca (pTp T) kq cel) : Met l yX11_places (Cond.code yX11_places cX11_places 5 (some .int) :: gG) { frames := 5, cells := 0, slots := 0, locals := 162 } (cPre D (tC ca) (wN NC cel) sz [.ref (ad 0), .int x0, .int x1]) (va_Qi (fun (r : Int32) (c' : Nat → Cl) => (-1 ≤ r.toInt ∧ r.toInt ≤ 1000) ∧ InvK ad ca (pTp T) kq c') (fun c' t => cB D (va_A (wN NC cel) sz) [] (wN NC c') t) (va_A (wN NC cel) sz)) 0 0 (va_A (wN NC cel) sz) := by
  refine Met.ofW (cc := cX11_places) (maxL := 5) (ret := (some .int)) (by decide) rfl ?_
  intro p e s m args below meth c s₁ B hml hv
  obtain ⟨rfl, aks, rfl, Wd⟩ := k_enter hv
  have C : CallFix p m c cX11_places 5 s _ gG RX11 := ⟨B.exec, B.bytes, hml, findClass_of_methodNamed B.named, fun w h => atoms_spec (ws := Cond.code yX11_places cX11_places 5 (some .int) :: gG) B.pre w (List.mem_cons_of_mem _ h)⟩
  have hr := B.returns
  have hlk := B.notSynchronized
  generalize va_A (wN NC cel) s.heap.size = A at Wd ⊢
  refine k_locals (Nat.le_of_ble_eq_true rfl) [(0, .ref (ad 0)), (1, .int x0), (2, .int x1)] rfl (fun ls hl => ?_)
  refine lv_aload_n C.1 C.2.1 dX11_places_0 rfl (lv_at hl 0 rfl) ?_
  refine lv_iload_n C.1 C.2.1 dX11_places_1 rfl (lv_at hl 1 rfl) ?_
  obtain ⟨_, e2o, y2o_1, rfl, b2o_1, c2o_1⟩ := at_E (by decide) (fx0 hI.1)
  refine k_cutA (fun (cel : Nat → Cl) H locs ls => InvK ad ca (pTp T) kq cel ∧ wX D (tC ca) s (wN NC cel) H A s.heap locs ∧ lv_has ls 5 []) (fun (cel : Nat → Cl) ls => F0 m 22 ls []) (fun cel H locs ls hi => ?_) (fun J22 => ?_)
  · obtain ⟨hI, Wd, hl⟩ := hi
    refine lv_iconst (v := (-1)) C.1 C.2.1 dX11_places_22 (by decide) ?_
    refine lv_goto (tgt := 32) C.1 C.2.1 dX11_places_23 (by decide) ?_
    exact kK_zret C hr hlk rfl Wd ⟨(by exact ⟨by have zqm1 : (-1 : Int32).toInt = -1 := (by decide); omega, by have zqm1 : (-1 : Int32).toInt = -1 := (by decide); omega⟩), hI⟩ dX11_places_32
  refine k_pq (k_runV (rest := []) C aks Wd cs_X11_165 (gX11_ruleAt l D ad ca (T) cel _ x0 hI.1) (List.range NC) (wN_all cel) ndR (List.range NC) (tC_all ca) 0 11 e2o rfl rfl rfl rfl ⟨(Nat.le_of_ble_eq_true rfl), (Nat.le_of_ble_eq_true rfl)⟩ hl.1 rfl rfl (Nat.le_of_ble_eq_true rfl) ⟨(Nat.le_of_ble_eq_true rfl), (Nat.le_of_ble_eq_true rfl)⟩ dX11_places_2) (fun o2 w2 => ?_)
  rcases w2 with rfl | ⟨z2, bz2, hz2, rfl⟩
  · skip
    refine lv_astore_nN (lv' := [(3, .null), (0, .ref (ad 0)), (1, .int x0), (2, .int x1)]) C.1 C.2.1 dX11_places_5 rfl hl (by decide) rfl (fun ls hl => ?_)
    refine lv_aload_n C.1 C.2.1 dX11_places_6 rfl (lv_at hl 1 rfl) ?_
    refine lv_iload_n C.1 C.2.1 dX11_places_7 rfl (lv_at hl 3 rfl) ?_
    obtain ⟨_, e8o, y8o_1, rfl, b8o_1, c8o_1⟩ := at_E (by decide) (fx0 hI.1)
    refine k_pq (k_runV (rest := []) C aks Wd cs_X11_77 (gX11_slotAt l D ad ca (T) cel _ x1 hI.1) (List.range NC) (wN_all cel) ndR (List.range NC) (tC_all ca) 0 11 e8o rfl rfl rfl rfl ⟨(Nat.le_of_ble_eq_true rfl), (Nat.le_of_ble_eq_true rfl)⟩ hl.1 rfl rfl (Nat.le_of_ble_eq_true rfl) ⟨(Nat.le_of_ble_eq_true rfl), (Nat.le_of_ble_eq_true rfl)⟩ dX11_places_8) (fun o8 w8 => ?_)
    rcases w8 with rfl | ⟨z8, bz8, hz8, rfl⟩
    · skip
      refine lv_astoreN (lv' := [(4, .null), (3, .null), (0, .ref (ad 0)), (1, .int x0), (2, .int x1)]) C.1 C.2.1 dX11_places_11 hl (by decide) rfl (fun ls hl => ?_)
      refine lv_aload_nN C.1 C.2.1 dX11_places_13 rfl (lv_at hl 1 rfl) ?_
      refine lv_ifnullN (tgt := 22) C.1 C.2.1 dX11_places_14 (by decide) ?_
      exact J22 cel _ _ _ ⟨hI, Wd, lv_sub hl [] rfl⟩
    · have hz8 : (z8 : Int) = x1.toInt := hz8
      refine lv_astore (lv' := [(4, .ref (ad (101 + 2 * z8))), (3, .null), (0, .ref (ad 0)), (1, .int x0), (2, .int x1)]) C.1 C.2.1 dX11_places_11 hl (by decide) rfl (fun ls hl => ?_)
      refine lv_aload_nN C.1 C.2.1 dX11_places_13 rfl (lv_at hl 1 rfl) ?_
      refine lv_ifnullN (tgt := 22) C.1 C.2.1 dX11_places_14 (by decide) ?_
      exact J22 cel _ _ _ ⟨hI, Wd, lv_sub hl [] rfl⟩
  · have hz2 : (z2 : Int) = x0.toInt := hz2
    refine lv_astore_n (lv' := [(3, .ref (ad (123 + 7 * z2))), (0, .ref (ad 0)), (1, .int x0), (2, .int x1)]) C.1 C.2.1 dX11_places_5 rfl hl (by decide) rfl (fun ls hl => ?_)
    refine lv_aload_n C.1 C.2.1 dX11_places_6 rfl (lv_at hl 1 rfl) ?_
    refine lv_iload_n C.1 C.2.1 dX11_places_7 rfl (lv_at hl 3 rfl) ?_
    obtain ⟨_, e8o, y8o_1, rfl, b8o_1, c8o_1⟩ := at_E (by decide) (fx0 hI.1)
    refine k_pq (k_runV (rest := []) C aks Wd cs_X11_77 (gX11_slotAt l D ad ca (T) cel _ x1 hI.1) (List.range NC) (wN_all cel) ndR (List.range NC) (tC_all ca) 0 11 e8o rfl rfl rfl rfl ⟨(Nat.le_of_ble_eq_true rfl), (Nat.le_of_ble_eq_true rfl)⟩ hl.1 rfl rfl (Nat.le_of_ble_eq_true rfl) ⟨(Nat.le_of_ble_eq_true rfl), (Nat.le_of_ble_eq_true rfl)⟩ dX11_places_8) (fun o8 w8 => ?_)
    rcases w8 with rfl | ⟨z8, bz8, hz8, rfl⟩
    · skip
      refine lv_astoreN (lv' := [(4, .null), (3, .ref (ad (123 + 7 * z2))), (0, .ref (ad 0)), (1, .int x0), (2, .int x1)]) C.1 C.2.1 dX11_places_11 hl (by decide) rfl (fun ls hl => ?_)
      refine lv_aload_n C.1 C.2.1 dX11_places_13 rfl (lv_at hl 1 rfl) ?_
      refine lv_ifnull C.1 C.2.1 dX11_places_14 ?_
      refine lv_aloadN C.1 C.2.1 dX11_places_17 (lv_at hl 0 rfl) ?_
      refine lv_ifnonnullN C.1 C.2.1 dX11_places_19 ?_
      exact J22 cel _ _ _ ⟨hI, Wd, lv_sub hl [] rfl⟩
    · have hz8 : (z8 : Int) = x1.toInt := hz8
      refine lv_astore (lv' := [(4, .ref (ad (101 + 2 * z8))), (3, .ref (ad (123 + 7 * z2))), (0, .ref (ad 0)), (1, .int x0), (2, .int x1)]) C.1 C.2.1 dX11_places_11 hl (by decide) rfl (fun ls hl => ?_)
      refine lv_aload_n C.1 C.2.1 dX11_places_13 rfl (lv_at hl 1 rfl) ?_
      refine lv_ifnull C.1 C.2.1 dX11_places_14 ?_
      refine lv_aload C.1 C.2.1 dX11_places_17 (lv_at hl 0 rfl) ?_
      refine lv_ifnonnull (tgt := 26) C.1 C.2.1 dX11_places_19 (by decide) ?_
      refine lv_aload_n C.1 C.2.1 dX11_places_26 rfl (lv_at hl 1 rfl) ?_
      refine lv_aload C.1 C.2.1 dX11_places_27 (lv_at hl 0 rfl) ?_
      obtain ⟨_, e29o, y29o_2, rfl⟩ := at_E (by show _ < 233; omega) (frule0 hI.1 (by omega : z2 < 12))
      refine kK_i Wd (k_runV (rest := []) C aks Wd cs_X11_177 (liftI4K (P' := pTp T) hI (ok_39 z2 (by omega) z8 (by omega)) (nk_39 z2 (by omega) z8 (by omega)) (wsX9_countIn l D (ad (123 + 7 * z2)) (ad (101 + 2 * z8)) (ad (101 + 2 * z8 + 1)) (ad (123 + 7 * z2 + 1)) (ad (123 + 7 * z2 + 3)) (ad (123 + 7 * z2 + 5)) (ad (123 + 7 * z2 + 6)) (ad (123 + 7 * z2 + 2)) (ca (101 + 2 * z8 + 1)) (ca (123 + 7 * z2 + 5)) (ca (123 + 7 * z2 + 6)) (ca (123 + 7 * z2 + 2)) (capR z8) 40 _ (by have := capR_hi z8; have := capR_lo z8; omega) (by have := capR_hi z8; have := capR_lo z8; omega) (by omega) (by omega) ([(101 + 2 * z8), (101 + 2 * z8 + 1), (123 + 7 * z2), (123 + 7 * z2 + 5), (123 + 7 * z2 + 6), (123 + 7 * z2 + 1), (123 + 7 * z2 + 2)].map cel) ⟨(frow0 hI.1 (by omega : z8 < 11)), (frow1 hI.1 (by omega : z8 < 11)), (frule0 hI.1 (by omega : z2 < 12)), (frule5 hI.1 (by omega : z2 < 12)), (frule6 hI.1 (by omega : z2 < 12)), (frule1 hI.1 (by omega : z2 < 12)), (frule2 hI.1 (by omega : z2 < 12)), trivial⟩) rfl (fun _ _ => rfl) ⟨fun _ h => trow0 (by omega) h, fun _ h => trow1 (by omega) h, fun _ h => trule0 (by omega) h, fun _ h => trule5 (by omega) h, fun _ h => trule6 (by omega) h, fun _ h => trule1 (by omega) h, fun _ h => trule2 (by omega) h, trivial⟩) (List.range NC) (wN_all cel) ndR (List.range NC) (tC_all ca) (123 + 7 * z2) 9 e29o rfl rfl rfl rfl ⟨(Nat.le_of_ble_eq_true rfl), (Nat.le_of_ble_eq_true rfl)⟩ hl.1 rfl rfl (Nat.le_of_ble_eq_true rfl) ⟨(Nat.le_of_ble_eq_true rfl), (Nat.le_of_ble_eq_true rfl)⟩ dX11_places_29) (fun r29 cel H locs w29 hI Wd => ?_)
      obtain ⟨g29_0, g29_1⟩ := w29
      have g29_0 : 0 ≤ r29.toInt := g29_0
      have g29_1 : r29.toInt ≤ 1000 := g29_1
      exact kK_zret C hr hlk rfl Wd ⟨(by exact ⟨by omega, by omega⟩), hI⟩ dX11_places_32
set_option maxHeartbeats 4000000 in
set_option maxRecDepth 100000 in
theorem gK11_apply (l : Launch) (D : va_G) (ad : Nat → Nat) (ca : Nat → ClassId) (T : Value → Prop) (kq : Nat → Cl) (cel : Nat → Cl) (sz : Nat) (x0 : Int32) (x1 : Int32) (x2 : Int32) (x3 : Int32) (hI : InvK ad ca (pTp T) kq cel) : Met l yX11_apply (Cond.code yX11_apply cX11_apply 9 (some .boolean) :: gG) { frames := 5, cells := 0, slots := 0, locals := 165 } (cPre D (tC ca) (wN NC cel) sz [.ref (ad 0), .int x0, .int x1, .int x2, .int x3]) (va_Qi (fun (r : Int32) (c' : Nat → Cl) => (0 ≤ r.toInt ∧ r.toInt ≤ 1) ∧ InvK ad ca (pTp T) kq c') (fun c' t => cB D (va_A (wN NC cel) sz) [] (wN NC c') t) (va_A (wN NC cel) sz)) 0 0 (va_A (wN NC cel) sz) := by
  refine Met.ofW (cc := cX11_apply) (maxL := 9) (ret := (some .boolean)) (by decide) rfl ?_
  intro p e s m args below meth c s₁ B hml hv
  obtain ⟨rfl, aks, rfl, Wd⟩ := k_enter hv
  have C : CallFix p m c cX11_apply 9 s _ gG RX11 := ⟨B.exec, B.bytes, hml, findClass_of_methodNamed B.named, fun w h => atoms_spec (ws := Cond.code yX11_apply cX11_apply 9 (some .boolean) :: gG) B.pre w (List.mem_cons_of_mem _ h)⟩
  have hr := B.returns
  have hlk := B.notSynchronized
  generalize va_A (wN NC cel) s.heap.size = A at Wd ⊢
  refine k_locals (Nat.le_of_ble_eq_true rfl) [(0, .ref (ad 0)), (1, .int x0), (2, .int x1), (3, .int x2), (4, .int x3)] rfl (fun ls hl => ?_)
  refine lv_aload_n C.1 C.2.1 dX11_apply_0 rfl (lv_at hl 0 rfl) ?_
  refine lv_iload_n C.1 C.2.1 dX11_apply_1 rfl (lv_at hl 1 rfl) ?_
  obtain ⟨_, e2o, y2o_1, rfl, b2o_1, c2o_1⟩ := at_E (by decide) (fx0 hI.1)
  refine k_cutA (fun (cel : Nat → Cl) H locs ls => InvK ad ca (pTp T) kq cel ∧ wX D (tC ca) s (wN NC cel) H A s.heap locs ∧ lv_has ls 9 []) (fun (cel : Nat → Cl) ls => F0 m 37 ls []) (fun cel H locs ls hi => ?_) (fun J37 => ?_)
  · obtain ⟨hI, Wd, hl⟩ := hi
    refine lv_iconst (v := 0) C.1 C.2.1 dX11_apply_37 (by decide) ?_
    exact kK_zret C hr hlk rfl Wd ⟨(by exact ⟨by have zq0 : (0 : Int32).toInt = 0 := (by decide); omega, by have zq0 : (0 : Int32).toInt = 0 := (by decide); omega⟩), hI⟩ dX11_apply_38
  refine k_pq (k_runV (rest := []) C aks Wd cs_X11_165 (gX11_ruleAt l D ad ca (T) cel _ x0 hI.1) (List.range NC) (wN_all cel) ndR (List.range NC) (tC_all ca) 0 11 e2o rfl rfl rfl rfl ⟨(Nat.le_of_ble_eq_true rfl), (Nat.le_of_ble_eq_true rfl)⟩ hl.1 rfl rfl (Nat.le_of_ble_eq_true rfl) ⟨(Nat.le_of_ble_eq_true rfl), (Nat.le_of_ble_eq_true rfl)⟩ dX11_apply_2) (fun o2 w2 => ?_)
  rcases w2 with rfl | ⟨z2, bz2, hz2, rfl⟩
  · skip
    refine lv_astoreN (lv' := [(5, .null), (0, .ref (ad 0)), (1, .int x0), (2, .int x1), (3, .int x2), (4, .int x3)]) C.1 C.2.1 dX11_apply_5 hl (by decide) rfl (fun ls hl => ?_)
    refine lv_aload_n C.1 C.2.1 dX11_apply_7 rfl (lv_at hl 1 rfl) ?_
    refine lv_iload_n C.1 C.2.1 dX11_apply_8 rfl (lv_at hl 3 rfl) ?_
    obtain ⟨_, e9o, y9o_1, rfl, b9o_1, c9o_1⟩ := at_E (by decide) (fx0 hI.1)
    refine k_pq (k_runV (rest := []) C aks Wd cs_X11_77 (gX11_slotAt l D ad ca (T) cel _ x1 hI.1) (List.range NC) (wN_all cel) ndR (List.range NC) (tC_all ca) 0 11 e9o rfl rfl rfl rfl ⟨(Nat.le_of_ble_eq_true rfl), (Nat.le_of_ble_eq_true rfl)⟩ hl.1 rfl rfl (Nat.le_of_ble_eq_true rfl) ⟨(Nat.le_of_ble_eq_true rfl), (Nat.le_of_ble_eq_true rfl)⟩ dX11_apply_9) (fun o9 w9 => ?_)
    rcases w9 with rfl | ⟨z9, bz9, hz9, rfl⟩
    · skip
      refine lv_astoreN (lv' := [(6, .null), (5, .null), (0, .ref (ad 0)), (1, .int x0), (2, .int x1), (3, .int x2), (4, .int x3)]) C.1 C.2.1 dX11_apply_12 hl (by decide) rfl (fun ls hl => ?_)
      refine lv_aload_n C.1 C.2.1 dX11_apply_14 rfl (lv_at hl 2 rfl) ?_
      refine lv_iload C.1 C.2.1 dX11_apply_15 (lv_at hl 6 rfl) ?_
      obtain ⟨_, e17o, y17o_1, rfl, b17o_1, c17o_1⟩ := at_E (by decide) (fx0 hI.1)
      refine k_pq (k_runV (rest := []) C aks Wd cs_X11_77 (gX11_slotAt l D ad ca (T) cel _ x3 hI.1) (List.range NC) (wN_all cel) ndR (List.range NC) (tC_all ca) 0 11 e17o rfl rfl rfl rfl ⟨(Nat.le_of_ble_eq_true rfl), (Nat.le_of_ble_eq_true rfl)⟩ hl.1 rfl rfl (Nat.le_of_ble_eq_true rfl) ⟨(Nat.le_of_ble_eq_true rfl), (Nat.le_of_ble_eq_true rfl)⟩ dX11_apply_17) (fun o17 w17 => ?_)
      rcases w17 with rfl | ⟨z17, bz17, hz17, rfl⟩
      · skip
        refine lv_astoreN (lv' := [(7, .null), (6, .null), (5, .null), (0, .ref (ad 0)), (1, .int x0), (2, .int x1), (3, .int x2), (4, .int x3)]) C.1 C.2.1 dX11_apply_20 hl (by decide) rfl (fun ls hl => ?_)
        refine lv_aloadN C.1 C.2.1 dX11_apply_22 (lv_at hl 2 rfl) ?_
        refine lv_ifnullN (tgt := 37) C.1 C.2.1 dX11_apply_24 (by decide) ?_
        exact J37 cel _ _ _ ⟨hI, Wd, lv_sub hl [] rfl⟩
      · have hz17 : (z17 : Int) = x3.toInt := hz17
        refine lv_astore (lv' := [(7, .ref (ad (101 + 2 * z17))), (6, .null), (5, .null), (0, .ref (ad 0)), (1, .int x0), (2, .int x1), (3, .int x2), (4, .int x3)]) C.1 C.2.1 dX11_apply_20 hl (by decide) rfl (fun ls hl => ?_)
        refine lv_aloadN C.1 C.2.1 dX11_apply_22 (lv_at hl 2 rfl) ?_
        refine lv_ifnullN (tgt := 37) C.1 C.2.1 dX11_apply_24 (by decide) ?_
        exact J37 cel _ _ _ ⟨hI, Wd, lv_sub hl [] rfl⟩
    · have hz9 : (z9 : Int) = x1.toInt := hz9
      refine lv_astore (lv' := [(6, .ref (ad (101 + 2 * z9))), (5, .null), (0, .ref (ad 0)), (1, .int x0), (2, .int x1), (3, .int x2), (4, .int x3)]) C.1 C.2.1 dX11_apply_12 hl (by decide) rfl (fun ls hl => ?_)
      refine lv_aload_n C.1 C.2.1 dX11_apply_14 rfl (lv_at hl 2 rfl) ?_
      refine lv_iload C.1 C.2.1 dX11_apply_15 (lv_at hl 6 rfl) ?_
      obtain ⟨_, e17o, y17o_1, rfl, b17o_1, c17o_1⟩ := at_E (by decide) (fx0 hI.1)
      refine k_pq (k_runV (rest := []) C aks Wd cs_X11_77 (gX11_slotAt l D ad ca (T) cel _ x3 hI.1) (List.range NC) (wN_all cel) ndR (List.range NC) (tC_all ca) 0 11 e17o rfl rfl rfl rfl ⟨(Nat.le_of_ble_eq_true rfl), (Nat.le_of_ble_eq_true rfl)⟩ hl.1 rfl rfl (Nat.le_of_ble_eq_true rfl) ⟨(Nat.le_of_ble_eq_true rfl), (Nat.le_of_ble_eq_true rfl)⟩ dX11_apply_17) (fun o17 w17 => ?_)
      rcases w17 with rfl | ⟨z17, bz17, hz17, rfl⟩
      · skip
        refine lv_astoreN (lv' := [(7, .null), (6, .ref (ad (101 + 2 * z9))), (5, .null), (0, .ref (ad 0)), (1, .int x0), (2, .int x1), (3, .int x2), (4, .int x3)]) C.1 C.2.1 dX11_apply_20 hl (by decide) rfl (fun ls hl => ?_)
        refine lv_aloadN C.1 C.2.1 dX11_apply_22 (lv_at hl 2 rfl) ?_
        refine lv_ifnullN (tgt := 37) C.1 C.2.1 dX11_apply_24 (by decide) ?_
        exact J37 cel _ _ _ ⟨hI, Wd, lv_sub hl [] rfl⟩
      · have hz17 : (z17 : Int) = x3.toInt := hz17
        refine lv_astore (lv' := [(7, .ref (ad (101 + 2 * z17))), (6, .ref (ad (101 + 2 * z9))), (5, .null), (0, .ref (ad 0)), (1, .int x0), (2, .int x1), (3, .int x2), (4, .int x3)]) C.1 C.2.1 dX11_apply_20 hl (by decide) rfl (fun ls hl => ?_)
        refine lv_aloadN C.1 C.2.1 dX11_apply_22 (lv_at hl 2 rfl) ?_
        refine lv_ifnullN (tgt := 37) C.1 C.2.1 dX11_apply_24 (by decide) ?_
        exact J37 cel _ _ _ ⟨hI, Wd, lv_sub hl [] rfl⟩
  · have hz2 : (z2 : Int) = x0.toInt := hz2
    refine lv_astore (lv' := [(5, .ref (ad (123 + 7 * z2))), (0, .ref (ad 0)), (1, .int x0), (2, .int x1), (3, .int x2), (4, .int x3)]) C.1 C.2.1 dX11_apply_5 hl (by decide) rfl (fun ls hl => ?_)
    refine lv_aload_n C.1 C.2.1 dX11_apply_7 rfl (lv_at hl 1 rfl) ?_
    refine lv_iload_n C.1 C.2.1 dX11_apply_8 rfl (lv_at hl 3 rfl) ?_
    obtain ⟨_, e9o, y9o_1, rfl, b9o_1, c9o_1⟩ := at_E (by decide) (fx0 hI.1)
    refine k_pq (k_runV (rest := []) C aks Wd cs_X11_77 (gX11_slotAt l D ad ca (T) cel _ x1 hI.1) (List.range NC) (wN_all cel) ndR (List.range NC) (tC_all ca) 0 11 e9o rfl rfl rfl rfl ⟨(Nat.le_of_ble_eq_true rfl), (Nat.le_of_ble_eq_true rfl)⟩ hl.1 rfl rfl (Nat.le_of_ble_eq_true rfl) ⟨(Nat.le_of_ble_eq_true rfl), (Nat.le_of_ble_eq_true rfl)⟩ dX11_apply_9) (fun o9 w9 => ?_)
    rcases w9 with rfl | ⟨z9, bz9, hz9, rfl⟩
    · skip
      refine lv_astoreN (lv' := [(6, .null), (5, .ref (ad (123 + 7 * z2))), (0, .ref (ad 0)), (1, .int x0), (2, .int x1), (3, .int x2), (4, .int x3)]) C.1 C.2.1 dX11_apply_12 hl (by decide) rfl (fun ls hl => ?_)
      refine lv_aload_n C.1 C.2.1 dX11_apply_14 rfl (lv_at hl 2 rfl) ?_
      refine lv_iload C.1 C.2.1 dX11_apply_15 (lv_at hl 6 rfl) ?_
      obtain ⟨_, e17o, y17o_1, rfl, b17o_1, c17o_1⟩ := at_E (by decide) (fx0 hI.1)
      refine k_pq (k_runV (rest := []) C aks Wd cs_X11_77 (gX11_slotAt l D ad ca (T) cel _ x3 hI.1) (List.range NC) (wN_all cel) ndR (List.range NC) (tC_all ca) 0 11 e17o rfl rfl rfl rfl ⟨(Nat.le_of_ble_eq_true rfl), (Nat.le_of_ble_eq_true rfl)⟩ hl.1 rfl rfl (Nat.le_of_ble_eq_true rfl) ⟨(Nat.le_of_ble_eq_true rfl), (Nat.le_of_ble_eq_true rfl)⟩ dX11_apply_17) (fun o17 w17 => ?_)
      rcases w17 with rfl | ⟨z17, bz17, hz17, rfl⟩
      · skip
        refine lv_astoreN (lv' := [(7, .null), (6, .null), (5, .ref (ad (123 + 7 * z2))), (0, .ref (ad 0)), (1, .int x0), (2, .int x1), (3, .int x2), (4, .int x3)]) C.1 C.2.1 dX11_apply_20 hl (by decide) rfl (fun ls hl => ?_)
        refine lv_aload C.1 C.2.1 dX11_apply_22 (lv_at hl 2 rfl) ?_
        refine lv_ifnull C.1 C.2.1 dX11_apply_24 ?_
        refine lv_aloadN C.1 C.2.1 dX11_apply_27 (lv_at hl 1 rfl) ?_
        refine lv_ifnullN (tgt := 37) C.1 C.2.1 dX11_apply_29 (by decide) ?_
        exact J37 cel _ _ _ ⟨hI, Wd, lv_sub hl [] rfl⟩
      · have hz17 : (z17 : Int) = x3.toInt := hz17
        refine lv_astore (lv' := [(7, .ref (ad (101 + 2 * z17))), (6, .null), (5, .ref (ad (123 + 7 * z2))), (0, .ref (ad 0)), (1, .int x0), (2, .int x1), (3, .int x2), (4, .int x3)]) C.1 C.2.1 dX11_apply_20 hl (by decide) rfl (fun ls hl => ?_)
        refine lv_aload C.1 C.2.1 dX11_apply_22 (lv_at hl 2 rfl) ?_
        refine lv_ifnull C.1 C.2.1 dX11_apply_24 ?_
        refine lv_aloadN C.1 C.2.1 dX11_apply_27 (lv_at hl 1 rfl) ?_
        refine lv_ifnullN (tgt := 37) C.1 C.2.1 dX11_apply_29 (by decide) ?_
        exact J37 cel _ _ _ ⟨hI, Wd, lv_sub hl [] rfl⟩
    · have hz9 : (z9 : Int) = x1.toInt := hz9
      refine lv_astore (lv' := [(6, .ref (ad (101 + 2 * z9))), (5, .ref (ad (123 + 7 * z2))), (0, .ref (ad 0)), (1, .int x0), (2, .int x1), (3, .int x2), (4, .int x3)]) C.1 C.2.1 dX11_apply_12 hl (by decide) rfl (fun ls hl => ?_)
      refine lv_aload_n C.1 C.2.1 dX11_apply_14 rfl (lv_at hl 2 rfl) ?_
      refine lv_iload C.1 C.2.1 dX11_apply_15 (lv_at hl 6 rfl) ?_
      obtain ⟨_, e17o, y17o_1, rfl, b17o_1, c17o_1⟩ := at_E (by decide) (fx0 hI.1)
      refine k_pq (k_runV (rest := []) C aks Wd cs_X11_77 (gX11_slotAt l D ad ca (T) cel _ x3 hI.1) (List.range NC) (wN_all cel) ndR (List.range NC) (tC_all ca) 0 11 e17o rfl rfl rfl rfl ⟨(Nat.le_of_ble_eq_true rfl), (Nat.le_of_ble_eq_true rfl)⟩ hl.1 rfl rfl (Nat.le_of_ble_eq_true rfl) ⟨(Nat.le_of_ble_eq_true rfl), (Nat.le_of_ble_eq_true rfl)⟩ dX11_apply_17) (fun o17 w17 => ?_)
      rcases w17 with rfl | ⟨z17, bz17, hz17, rfl⟩
      · skip
        refine lv_astoreN (lv' := [(7, .null), (6, .ref (ad (101 + 2 * z9))), (5, .ref (ad (123 + 7 * z2))), (0, .ref (ad 0)), (1, .int x0), (2, .int x1), (3, .int x2), (4, .int x3)]) C.1 C.2.1 dX11_apply_20 hl (by decide) rfl (fun ls hl => ?_)
        refine lv_aload C.1 C.2.1 dX11_apply_22 (lv_at hl 2 rfl) ?_
        refine lv_ifnull C.1 C.2.1 dX11_apply_24 ?_
        refine lv_aload C.1 C.2.1 dX11_apply_27 (lv_at hl 1 rfl) ?_
        refine lv_ifnull C.1 C.2.1 dX11_apply_29 ?_
        refine lv_aloadN C.1 C.2.1 dX11_apply_32 (lv_at hl 0 rfl) ?_
        refine lv_ifnonnullN C.1 C.2.1 dX11_apply_34 ?_
        exact J37 cel _ _ _ ⟨hI, Wd, lv_sub hl [] rfl⟩
      · have hz17 : (z17 : Int) = x3.toInt := hz17
        refine lv_astore (lv' := [(7, .ref (ad (101 + 2 * z17))), (6, .ref (ad (101 + 2 * z9))), (5, .ref (ad (123 + 7 * z2))), (0, .ref (ad 0)), (1, .int x0), (2, .int x1), (3, .int x2), (4, .int x3)]) C.1 C.2.1 dX11_apply_20 hl (by decide) rfl (fun ls hl => ?_)
        refine lv_aload C.1 C.2.1 dX11_apply_22 (lv_at hl 2 rfl) ?_
        refine lv_ifnull C.1 C.2.1 dX11_apply_24 ?_
        refine lv_aload C.1 C.2.1 dX11_apply_27 (lv_at hl 1 rfl) ?_
        refine lv_ifnull C.1 C.2.1 dX11_apply_29 ?_
        refine lv_aload C.1 C.2.1 dX11_apply_32 (lv_at hl 0 rfl) ?_
        refine lv_ifnonnull (tgt := 39) C.1 C.2.1 dX11_apply_34 (by decide) ?_
        refine lv_aload C.1 C.2.1 dX11_apply_39 (lv_at hl 2 rfl) ?_
        refine lv_aload C.1 C.2.1 dX11_apply_41 (lv_at hl 1 rfl) ?_
        refine lv_iload_n C.1 C.2.1 dX11_apply_43 rfl (lv_at hl 6 rfl) ?_
        obtain ⟨_, e44o, y44o_2, rfl⟩ := at_E (by show _ < 233; omega) (frule0 hI.1 (by omega : z2 < 12))
        refine kK_i Wd (k_runV (rest := []) C aks Wd cs_X11_183 (liftI4K (P' := pTp T) hI (ok_39 z2 (by omega) z9 (by omega)) (nk_39 z2 (by omega) z9 (by omega)) (wsX9_placeIn l D (ad (123 + 7 * z2)) (ad (101 + 2 * z9)) (ad (101 + 2 * z9 + 1)) (ad (123 + 7 * z2 + 1)) (ad (123 + 7 * z2 + 3)) (ad (123 + 7 * z2 + 5)) (ad (123 + 7 * z2 + 6)) (ad (123 + 7 * z2 + 2)) (ca (101 + 2 * z9 + 1)) (ca (123 + 7 * z2 + 5)) (ca (123 + 7 * z2 + 6)) (ca (123 + 7 * z2 + 2)) (capR z9) 40 x2 _ (by have := capR_hi z9; have := capR_lo z9; omega) (by have := capR_hi z9; have := capR_lo z9; omega) (by omega) (by omega) ([(101 + 2 * z9), (101 + 2 * z9 + 1), (123 + 7 * z2), (123 + 7 * z2 + 5), (123 + 7 * z2 + 6), (123 + 7 * z2 + 1), (123 + 7 * z2 + 2)].map cel) ⟨(frow0 hI.1 (by omega : z9 < 11)), (frow1 hI.1 (by omega : z9 < 11)), (frule0 hI.1 (by omega : z2 < 12)), (frule5 hI.1 (by omega : z2 < 12)), (frule6 hI.1 (by omega : z2 < 12)), (frule1 hI.1 (by omega : z2 < 12)), (frule2 hI.1 (by omega : z2 < 12)), trivial⟩) rfl (fun _ _ => rfl) ⟨fun _ h => trow0 (by omega) h, fun _ h => trow1 (by omega) h, fun _ h => trule0 (by omega) h, fun _ h => trule5 (by omega) h, fun _ h => trule6 (by omega) h, fun _ h => trule1 (by omega) h, fun _ h => trule2 (by omega) h, trivial⟩) (List.range NC) (wN_all cel) ndR (List.range NC) (tC_all ca) (123 + 7 * z2) 9 e44o rfl rfl rfl rfl ⟨(Nat.le_of_ble_eq_true rfl), (Nat.le_of_ble_eq_true rfl)⟩ hl.1 rfl rfl (Nat.le_of_ble_eq_true rfl) ⟨(Nat.le_of_ble_eq_true rfl), (Nat.le_of_ble_eq_true rfl)⟩ dX11_apply_44) (fun r44 cel H locs w44 hI Wd => ?_)
        obtain ⟨g44_0, g44_1⟩ := w44
        have g44_0 : -1 ≤ r44.toInt := g44_0
        have g44_1 : r44.toInt ≤ 999 := g44_1
        refine lv_istore (lv' := [(8, .int r44), (7, .ref (ad (101 + 2 * z17))), (6, .ref (ad (101 + 2 * z9))), (5, .ref (ad (123 + 7 * z2))), (0, .ref (ad 0)), (1, .int x0), (2, .int x1), (3, .int x2), (4, .int x3)]) C.1 C.2.1 dX11_apply_47 hl (by decide) rfl (fun ls hl => ?_)
        refine lv_iload C.1 C.2.1 dX11_apply_49 (lv_at hl 0 rfl) ?_
        refine lv_iconst (v := (-1)) C.1 C.2.1 dX11_apply_51 (by decide) ?_
        refine k_cutA (fun (cel : Nat → Cl) H locs ls => InvK ad ca (pTp T) kq cel ∧ wX D (tC ca) s (wN NC cel) H A s.heap locs ∧ lv_has ls 9 []) (fun (cel : Nat → Cl) ls => F0 m 71 ls []) (fun cel H locs ls hi => ?_) (fun J71 => ?_)
        · obtain ⟨hI, Wd, hl⟩ := hi
          refine lv_iconst (v := 0) C.1 C.2.1 dX11_apply_71 (by decide) ?_
          exact kK_zret C hr hlk rfl Wd ⟨(by exact ⟨by have zq0 : (0 : Int32).toInt = 0 := (by decide); omega, by have zq0 : (0 : Int32).toInt = 0 := (by decide); omega⟩), hI⟩ dX11_apply_72
        refine lv_icmp_eq (tgt := 71) C.1 C.2.1 dX11_apply_52 (by decide) (fun c52 => ?_) (fun c52 => ?_)
        · have i52 : r44.toInt = (-1) := kz_eq c52
          exact J71 cel _ _ _ ⟨hI, Wd, lv_sub hl [] rfl⟩
        · have i52 : ¬ r44.toInt = (-1) := kz_ne c52
          refine lv_aload C.1 C.2.1 dX11_apply_55 (lv_at hl 3 rfl) ?_
          refine lv_aload C.1 C.2.1 dX11_apply_57 (lv_at hl 2 rfl) ?_
          refine lv_iload C.1 C.2.1 dX11_apply_59 (lv_at hl 0 rfl) ?_
          refine lv_aload_n C.1 C.2.1 dX11_apply_61 rfl (lv_at hl 4 rfl) ?_
          obtain ⟨_, e62, y62_1, rfl, b62_1, c62_1⟩ := at_E (by decide) (fx0 hI.1)
          refine k_get C Wd KX11 0 2 e62 (by decide) fl_X11_22 rfl dX11_apply_62 ?_
          obtain ⟨_, e65o, y65o_2, rfl⟩ := at_E (by show _ < 233; omega) (frule0 hI.1 (by omega : z2 < 12))
          refine kK_i Wd (k_runV (rest := []) C aks Wd cs_X11_187 (liftI4K (P' := pTp T) hI (ok_40 z2 (by omega) z9 (by omega)) (nk_40 z2 (by omega) z9 (by omega)) (wsX9_rewrite l D (ad (123 + 7 * z2)) (ad (101 + 2 * z9)) (ad 117) (ad (123 + 7 * z2 + 1)) (ad (123 + 7 * z2 + 3)) (ad (123 + 7 * z2 + 5)) (ad (123 + 7 * z2 + 6)) (ad (101 + 2 * z9 + 1)) (ad (123 + 7 * z2 + 2)) (ad (123 + 7 * z2 + 4)) (ad 118) (ca (101 + 2 * z9 + 1)) (ca (123 + 7 * z2 + 5)) (ca (123 + 7 * z2 + 6)) (ca (123 + 7 * z2 + 2)) (ca (123 + 7 * z2 + 4)) (ca 118) (capR z9) 40 40 1000 r44 _ (by omega) (by omega) (by have := capR_hi z9; have := capR_lo z9; omega) (by have := capR_hi z9; have := capR_lo z9; omega) (by omega) (by omega) (by omega) (by omega) (by omega) (by omega) ([(123 + 7 * z2), (101 + 2 * z9), (101 + 2 * z9 + 1), (123 + 7 * z2 + 5), (123 + 7 * z2 + 6), (123 + 7 * z2 + 1), (123 + 7 * z2 + 2), (123 + 7 * z2 + 3), (123 + 7 * z2 + 4), 117, 118].map cel) ⟨(frule0 hI.1 (by omega : z2 < 12)), (frow0 hI.1 (by omega : z9 < 11)), (frow1 hI.1 (by omega : z9 < 11)), (frule5 hI.1 (by omega : z2 < 12)), (frule6 hI.1 (by omega : z2 < 12)), (frule1 hI.1 (by omega : z2 < 12)), (frule2 hI.1 (by omega : z2 < 12)), (frule3 hI.1 (by omega : z2 < 12)), (frule4 hI.1 (by omega : z2 < 12)), (fx117 hI.1), (fx118 hI.1), trivial⟩) rfl (fun _ _ => rfl) ⟨fun _ h => trule0 (by omega) h, fun _ h => trow0 (by omega) h, fun _ h => trow1 (by omega) h, fun _ h => trule5 (by omega) h, fun _ h => trule6 (by omega) h, fun _ h => trule1 (by omega) h, fun _ h => trule2 (by omega) h, fun _ h => trule3 (by omega) h, fun _ h => trule4 (by omega) h, fun _ h => h, fun _ h => h, trivial⟩) (List.range NC) (wN_all cel) ndR (List.range NC) (tC_all ca) (123 + 7 * z2) 9 e65o rfl rfl rfl rfl ⟨(Nat.le_of_ble_eq_true rfl), (Nat.le_of_ble_eq_true rfl)⟩ hl.1 rfl rfl (Nat.le_of_ble_eq_true rfl) ⟨(Nat.le_of_ble_eq_true rfl), (Nat.le_of_ble_eq_true rfl)⟩ dX11_apply_65) (fun r65 cel H locs w65 hI Wd => ?_)
          obtain ⟨g65_0, g65_1⟩ := w65
          have g65_0 : 0 ≤ r65.toInt := g65_0
          have g65_1 : r65.toInt ≤ 1 := g65_1
          refine lv_if_ne (tgt := 73) C.1 C.2.1 dX11_apply_68 (by decide) (fun c68 => ?_) (fun c68 => ?_)
          · have i68 : ¬ r65.toInt = 0 := kz_ne c68
            refine lv_aload C.1 C.2.1 dX11_apply_73 (lv_at hl 1 rfl) ?_
            refine lv_aload_n C.1 C.2.1 dX11_apply_75 rfl (lv_at hl 4 rfl) ?_
            obtain ⟨_, e76, y76_1, rfl, b76_1, c76_1⟩ := at_E (by decide) (fx0 hI.1)
            refine k_get C Wd KX11 0 2 e76 (by decide) fl_X11_22 rfl dX11_apply_76 ?_
            obtain ⟨_, e79o, y79o_1, rfl, b79o_1, c79o_1⟩ := at_E (by show _ < 233; omega) (frow0 hI.1 (by omega : z17 < 11))
            refine kK_v Wd (k_runV (rest := []) C aks Wd cs_X11_92 (liftV4K (P' := pTp T) hI (ok_28 z17 (by omega)) (nk_28 z17 (by omega)) (wsX8_copy l D (ad (101 + 2 * z17)) (ad 117) (ad 118) (ad (101 + 2 * z17 + 1)) (ca 118) (ca (101 + 2 * z17 + 1)) 1000 (capR z17) _ (by omega) (by omega) (by have := capR_hi z17; have := capR_lo z17; omega) (by have := capR_hi z17; have := capR_lo z17; omega) ([117, 118, (101 + 2 * z17), (101 + 2 * z17 + 1)].map cel) ⟨(fx117 hI.1), (fx118 hI.1), (frow0 hI.1 (by omega : z17 < 11)), (frow1 hI.1 (by omega : z17 < 11)), trivial⟩) rfl (fun _ _ => rfl) ⟨fun _ h => h, fun _ h => h, fun _ h => trow0 (by omega) h, fun _ h => trow1 (by omega) h, trivial⟩) (List.range NC) (wN_all cel) ndR (List.range NC) (tC_all ca) (101 + 2 * z17) 8 e79o rfl rfl rfl rfl ⟨(Nat.le_of_ble_eq_true rfl), (Nat.le_of_ble_eq_true rfl)⟩ hl.1 rfl rfl (Nat.le_of_ble_eq_true rfl) ⟨(Nat.le_of_ble_eq_true rfl), (Nat.le_of_ble_eq_true rfl)⟩ dX11_apply_79) (fun cel H locs w79 hI Wd => ?_)
            refine lv_iconst (v := 1) C.1 C.2.1 dX11_apply_82 (by decide) ?_
            exact kK_zret C hr hlk rfl Wd ⟨(by exact ⟨by have zq1 : (1 : Int32).toInt = 1 := (by decide); omega, by have zq1 : (1 : Int32).toInt = 1 := (by decide); omega⟩), hI⟩ dX11_apply_83
          · have i68 : r65.toInt = 0 := kz_eq c68
            exact J71 cel _ _ _ ⟨hI, Wd, lv_sub hl [] rfl⟩
set_option maxHeartbeats 4000000 in
set_option maxRecDepth 100000 in
theorem gK11_make (l : Launch) (D : va_G) (ad : Nat → Nat) (ca : Nat → ClassId) (T : Value → Prop) (kq : Nat → Cl) (cel : Nat → Cl) (sz : Nat) (x0 : Int32) (x1 : Int32) (x2 : Int32) (hI : InvK ad ca (pTp T) kq cel) : Met l yX11_make (Cond.code yX11_make cX11_make 6 (some .int) :: gG) { frames := 7, cells := 0, slots := 0, locals := 212 } (cPre D (tC ca) (wN NC cel) sz [.ref (ad 0), .int x0, .int x1, .int x2]) (va_Qi (fun (r : Int32) (c' : Nat → Cl) => (-1 ≤ r.toInt ∧ r.toInt ≤ 1000) ∧ InvK ad ca (pTp T) kq c') (fun c' t => cB D (va_A (wN NC cel) sz) [] (wN NC c') t) (va_A (wN NC cel) sz)) 0 0 (va_A (wN NC cel) sz) := by
  refine Met.ofW (cc := cX11_make) (maxL := 6) (ret := (some .int)) (by decide) rfl ?_
  intro p e s m args below meth c s₁ B hml hv
  obtain ⟨rfl, aks, rfl, Wd⟩ := k_enter hv
  have C : CallFix p m c cX11_make 6 s _ gG RX11 := ⟨B.exec, B.bytes, hml, findClass_of_methodNamed B.named, fun w h => atoms_spec (ws := Cond.code yX11_make cX11_make 6 (some .int) :: gG) B.pre w (List.mem_cons_of_mem _ h)⟩
  have hr := B.returns
  have hlk := B.notSynchronized
  generalize va_A (wN NC cel) s.heap.size = A at Wd ⊢
  refine k_locals (Nat.le_of_ble_eq_true rfl) [(0, .ref (ad 0)), (1, .int x0), (2, .int x1), (3, .int x2)] rfl (fun ls hl => ?_)
  refine lv_aload_n C.1 C.2.1 dX11_make_0 rfl (lv_at hl 0 rfl) ?_
  refine lv_iload_n C.1 C.2.1 dX11_make_1 rfl (lv_at hl 2 rfl) ?_
  obtain ⟨_, e2o, y2o_1, rfl, b2o_1, c2o_1⟩ := at_E (by decide) (fx0 hI.1)
  refine k_cutA (fun (cel : Nat → Cl) H locs ls => InvK ad ca (pTp T) kq cel ∧ wX D (tC ca) s (wN NC cel) H A s.heap locs ∧ lv_has ls 6 []) (fun (cel : Nat → Cl) ls => F0 m 37 ls []) (fun cel H locs ls hi => ?_) (fun J37 => ?_)
  · obtain ⟨hI, Wd, hl⟩ := hi
    refine lv_iconst (v := (-1)) C.1 C.2.1 dX11_make_37 (by decide) ?_
    exact kK_zret C hr hlk rfl Wd ⟨(by exact ⟨by have zqm1 : (-1 : Int32).toInt = -1 := (by decide); omega, by have zqm1 : (-1 : Int32).toInt = -1 := (by decide); omega⟩), hI⟩ dX11_make_38
  refine k_pq (k_runV (rest := []) C aks Wd cs_X11_77 (gX11_slotAt l D ad ca (T) cel _ x1 hI.1) (List.range NC) (wN_all cel) ndR (List.range NC) (tC_all ca) 0 11 e2o rfl rfl rfl rfl ⟨(Nat.le_of_ble_eq_true rfl), (Nat.le_of_ble_eq_true rfl)⟩ hl.1 rfl rfl (Nat.le_of_ble_eq_true rfl) ⟨(Nat.le_of_ble_eq_true rfl), (Nat.le_of_ble_eq_true rfl)⟩ dX11_make_2) (fun o2 w2 => ?_)
  rcases w2 with rfl | ⟨z2, bz2, hz2, rfl⟩
  · skip
    refine lv_astoreN (lv' := [(4, .null), (0, .ref (ad 0)), (1, .int x0), (2, .int x1), (3, .int x2)]) C.1 C.2.1 dX11_make_5 hl (by decide) rfl (fun ls hl => ?_)
    refine lv_aload_n C.1 C.2.1 dX11_make_7 rfl (lv_at hl 1 rfl) ?_
    refine lv_iload_n C.1 C.2.1 dX11_make_8 rfl (lv_at hl 4 rfl) ?_
    obtain ⟨_, e9o, y9o_1, rfl, b9o_1, c9o_1⟩ := at_E (by decide) (fx0 hI.1)
    refine k_pq (k_runV (rest := []) C aks Wd cs_X11_77 (gX11_slotAt l D ad ca (T) cel _ x2 hI.1) (List.range NC) (wN_all cel) ndR (List.range NC) (tC_all ca) 0 11 e9o rfl rfl rfl rfl ⟨(Nat.le_of_ble_eq_true rfl), (Nat.le_of_ble_eq_true rfl)⟩ hl.1 rfl rfl (Nat.le_of_ble_eq_true rfl) ⟨(Nat.le_of_ble_eq_true rfl), (Nat.le_of_ble_eq_true rfl)⟩ dX11_make_9) (fun o9 w9 => ?_)
    rcases w9 with rfl | ⟨z9, bz9, hz9, rfl⟩
    · skip
      refine lv_astoreN (lv' := [(5, .null), (4, .null), (0, .ref (ad 0)), (1, .int x0), (2, .int x1), (3, .int x2)]) C.1 C.2.1 dX11_make_12 hl (by decide) rfl (fun ls hl => ?_)
      refine lv_aloadN C.1 C.2.1 dX11_make_14 (lv_at hl 1 rfl) ?_
      refine lv_ifnullN (tgt := 37) C.1 C.2.1 dX11_make_16 (by decide) ?_
      exact J37 cel _ _ _ ⟨hI, Wd, lv_sub hl [] rfl⟩
    · have hz9 : (z9 : Int) = x2.toInt := hz9
      refine lv_astore (lv' := [(5, .ref (ad (101 + 2 * z9))), (4, .null), (0, .ref (ad 0)), (1, .int x0), (2, .int x1), (3, .int x2)]) C.1 C.2.1 dX11_make_12 hl (by decide) rfl (fun ls hl => ?_)
      refine lv_aloadN C.1 C.2.1 dX11_make_14 (lv_at hl 1 rfl) ?_
      refine lv_ifnullN (tgt := 37) C.1 C.2.1 dX11_make_16 (by decide) ?_
      exact J37 cel _ _ _ ⟨hI, Wd, lv_sub hl [] rfl⟩
  · have hz2 : (z2 : Int) = x1.toInt := hz2
    refine lv_astore (lv' := [(4, .ref (ad (101 + 2 * z2))), (0, .ref (ad 0)), (1, .int x0), (2, .int x1), (3, .int x2)]) C.1 C.2.1 dX11_make_5 hl (by decide) rfl (fun ls hl => ?_)
    refine lv_aload_n C.1 C.2.1 dX11_make_7 rfl (lv_at hl 1 rfl) ?_
    refine lv_iload_n C.1 C.2.1 dX11_make_8 rfl (lv_at hl 4 rfl) ?_
    obtain ⟨_, e9o, y9o_1, rfl, b9o_1, c9o_1⟩ := at_E (by decide) (fx0 hI.1)
    refine k_pq (k_runV (rest := []) C aks Wd cs_X11_77 (gX11_slotAt l D ad ca (T) cel _ x2 hI.1) (List.range NC) (wN_all cel) ndR (List.range NC) (tC_all ca) 0 11 e9o rfl rfl rfl rfl ⟨(Nat.le_of_ble_eq_true rfl), (Nat.le_of_ble_eq_true rfl)⟩ hl.1 rfl rfl (Nat.le_of_ble_eq_true rfl) ⟨(Nat.le_of_ble_eq_true rfl), (Nat.le_of_ble_eq_true rfl)⟩ dX11_make_9) (fun o9 w9 => ?_)
    rcases w9 with rfl | ⟨z9, bz9, hz9, rfl⟩
    · skip
      refine lv_astoreN (lv' := [(5, .null), (4, .ref (ad (101 + 2 * z2))), (0, .ref (ad 0)), (1, .int x0), (2, .int x1), (3, .int x2)]) C.1 C.2.1 dX11_make_12 hl (by decide) rfl (fun ls hl => ?_)
      refine lv_aload C.1 C.2.1 dX11_make_14 (lv_at hl 1 rfl) ?_
      refine lv_ifnull C.1 C.2.1 dX11_make_16 ?_
      refine lv_aloadN C.1 C.2.1 dX11_make_19 (lv_at hl 0 rfl) ?_
      refine lv_ifnullN (tgt := 37) C.1 C.2.1 dX11_make_21 (by decide) ?_
      exact J37 cel _ _ _ ⟨hI, Wd, lv_sub hl [] rfl⟩
    · have hz9 : (z9 : Int) = x2.toInt := hz9
      refine lv_astore (lv' := [(5, .ref (ad (101 + 2 * z9))), (4, .ref (ad (101 + 2 * z2))), (0, .ref (ad 0)), (1, .int x0), (2, .int x1), (3, .int x2)]) C.1 C.2.1 dX11_make_12 hl (by decide) rfl (fun ls hl => ?_)
      refine lv_aload C.1 C.2.1 dX11_make_14 (lv_at hl 1 rfl) ?_
      refine lv_ifnull C.1 C.2.1 dX11_make_16 ?_
      refine lv_aload C.1 C.2.1 dX11_make_19 (lv_at hl 0 rfl) ?_
      refine lv_ifnull C.1 C.2.1 dX11_make_21 ?_
      refine lv_aload_n C.1 C.2.1 dX11_make_24 rfl (lv_at hl 2 rfl) ?_
      obtain ⟨_, e25, y25_1, rfl, b25_1, c25_1⟩ := at_E (by decide) (fx0 hI.1)
      refine k_get C Wd KX11 0 6 e25 (by decide) fl_X11_50 rfl dX11_make_25 ?_
      refine lv_iload_n C.1 C.2.1 dX11_make_28 rfl (lv_at hl 3 rfl) ?_
      refine lv_aload C.1 C.2.1 dX11_make_29 (lv_at hl 1 rfl) ?_
      obtain ⟨_, e31o, y31o_3, y31o_4, rfl⟩ := at_E (by decide) (fx31 hI.1)
      refine kK_i Wd (k_runV (rest := []) C aks Wd cs_X11_198 (gK4_makeOf l D ad ca (T) kq cel _ z2 (by omega) x0 hI) (List.range NC) (wN_all cel) ndR (List.range NC) (tC_all ca) 31 4 e31o rfl rfl rfl rfl ⟨(Nat.le_of_ble_eq_true rfl), (Nat.le_of_ble_eq_true rfl)⟩ hl.1 rfl rfl (Nat.le_of_ble_eq_true rfl) ⟨(Nat.le_of_ble_eq_true rfl), (Nat.le_of_ble_eq_true rfl)⟩ dX11_make_31) (fun r31 cel H locs w31 hI Wd => ?_)
      obtain ⟨g31_0, g31_1⟩ := w31
      have g31_0 : 0 ≤ r31.toInt := g31_0
      have g31_1 : r31.toInt ≤ 1 := g31_1
      refine lv_if_ne (tgt := 39) C.1 C.2.1 dX11_make_34 (by decide) (fun c34 => ?_) (fun c34 => ?_)
      · have i34 : ¬ r31.toInt = 0 := kz_ne c34
        refine lv_aload C.1 C.2.1 dX11_make_39 (lv_at hl 0 rfl) ?_
        refine lv_aload_n C.1 C.2.1 dX11_make_41 rfl (lv_at hl 2 rfl) ?_
        obtain ⟨_, e42, y42_1, rfl, b42_1, c42_1⟩ := at_E (by decide) (fx0 hI.1)
        refine k_get C Wd KX11 0 6 e42 (by decide) fl_X11_50 rfl dX11_make_42 ?_
        obtain ⟨_, e45, y45_3, y45_4, rfl⟩ := at_E (by decide) (fx31 hI.1)
        refine k_get C Wd KX4 31 1 e45 (by decide) fl_X11_202 rfl dX11_make_45 ?_
        obtain ⟨_, e48o, y48o_1, rfl, b48o_1, c48o_1⟩ := at_E (by show _ < 233; omega) (frow0 hI.1 (by omega : z9 < 11))
        refine kK_v Wd (k_runV (rest := []) C aks Wd cs_X11_92 (liftV4K (P' := pTp T) hI (ok_41 z9 (by omega)) (nk_41 z9 (by omega)) (wsX8_copy l D (ad (101 + 2 * z9)) (ad 119) (ad 120) (ad (101 + 2 * z9 + 1)) (ca 120) (ca (101 + 2 * z9 + 1)) 1000 (capR z9) _ (by omega) (by omega) (by have := capR_hi z9; have := capR_lo z9; omega) (by have := capR_hi z9; have := capR_lo z9; omega) ([119, 120, (101 + 2 * z9), (101 + 2 * z9 + 1)].map cel) ⟨(fx119 hI.1), (fx120 hI.1), (frow0 hI.1 (by omega : z9 < 11)), (frow1 hI.1 (by omega : z9 < 11)), trivial⟩) rfl (fun _ _ => rfl) ⟨fun _ h => h, fun _ h => h, fun _ h => trow0 (by omega) h, fun _ h => trow1 (by omega) h, trivial⟩) (List.range NC) (wN_all cel) ndR (List.range NC) (tC_all ca) (101 + 2 * z9) 8 e48o rfl rfl rfl rfl ⟨(Nat.le_of_ble_eq_true rfl), (Nat.le_of_ble_eq_true rfl)⟩ hl.1 rfl rfl (Nat.le_of_ble_eq_true rfl) ⟨(Nat.le_of_ble_eq_true rfl), (Nat.le_of_ble_eq_true rfl)⟩ dX11_make_48) (fun cel H locs w48 hI Wd => ?_)
        refine lv_aload C.1 C.2.1 dX11_make_51 (lv_at hl 0 rfl) ?_
        obtain ⟨_, e53o, y53o_1, rfl, b53o_1, c53o_1⟩ := at_E (by show _ < 233; omega) (frow0 hI.1 (by omega : z9 < 11))
        refine k_pi (k_runV (rest := []) C aks Wd cs_X11_95 (wsX8_statements l D (ad (101 + 2 * z9)) (ad (101 + 2 * z9 + 1)) (ca (101 + 2 * z9 + 1)) (capR z9) _ (by have := capR_hi z9; have := capR_lo z9; omega) (by have := capR_hi z9; have := capR_lo z9; omega) ([(101 + 2 * z9), (101 + 2 * z9 + 1)].map cel) ⟨(frow0 hI.1 (by omega : z9 < 11)), (frow1 hI.1 (by omega : z9 < 11)), trivial⟩) [(101 + 2 * z9), (101 + 2 * z9 + 1)] (wN_pick [(101 + 2 * z9), (101 + 2 * z9 + 1)] (okC_lt (ok_18 z9 (by omega)))) (okC_nd (ok_18 z9 (by omega))) [(101 + 2 * z9 + 1)] (tC_ok (ok_18 z9 (by omega)) rfl) (101 + 2 * z9) 8 e53o rfl rfl rfl rfl ⟨(Nat.le_of_ble_eq_true rfl), (Nat.le_of_ble_eq_true rfl)⟩ hl.1 rfl rfl (Nat.le_of_ble_eq_true rfl) ⟨(Nat.le_of_ble_eq_true rfl), (Nat.le_of_ble_eq_true rfl)⟩ dX11_make_53) (fun r53 w53 => ?_)
        obtain ⟨g53_0, g53_1⟩ := w53
        have g53_0 : 0 ≤ r53.toInt := g53_0
        have g53_1 : r53.toInt ≤ 1000 := g53_1
        exact kK_zret C hr hlk rfl Wd ⟨(by exact ⟨by omega, by omega⟩), hI⟩ dX11_make_56
      · have i34 : r31.toInt = 0 := kz_eq c34
        exact J37 cel _ _ _ ⟨hI, Wd, lv_sub hl [] rfl⟩
