set_option maxHeartbeats 4000000 in
set_option maxRecDepth 100000 in
theorem gK11_blame (l : Launch) (D : va_G) (ad : Nat → Nat) (ca : Nat → ClassId) (T : Value → Prop) (kq : Nat → Cl) (cel : Nat → Cl) (sz : Nat) (x0 : Int32) (x1 : Int32) (hI : InvK ad ca (pTp T) kq cel) : Met l yX11_blame (Cond.code yX11_blame cX11_blame 4 (some .int) :: gG) { frames := 8, cells := 0, slots := 0, locals := 234 } (cPre D (tC ca) (wN NC cel) sz [.ref (ad 0), .int x0, .int x1]) (va_Qi (fun (r : Int32) (c' : Nat → Cl) => (True) ∧ InvK ad ca (pTp T) kq c') (fun c' t => cB D (va_A (wN NC cel) sz) [] (wN NC c') t) (va_A (wN NC cel) sz)) 0 0 (va_A (wN NC cel) sz) := by
  refine Met.ofW (cc := cX11_blame) (maxL := 4) (ret := (some .int)) (by decide) rfl ?_
  intro p e s m args below meth c s₁ B hml hv
  obtain ⟨rfl, aks, rfl, Wd⟩ := k_enter hv
  have C : CallFix p m c cX11_blame 4 s _ gG RX11 := ⟨B.exec, B.bytes, hml, findClass_of_methodNamed B.named, fun w h => atoms_spec (ws := Cond.code yX11_blame cX11_blame 4 (some .int) :: gG) B.pre w (List.mem_cons_of_mem _ h)⟩
  have hr := B.returns
  have hlk := B.notSynchronized
  generalize va_A (wN NC cel) s.heap.size = A at Wd ⊢
  refine k_locals (Nat.le_of_ble_eq_true rfl) [(0, .ref (ad 0)), (1, .int x0), (2, .int x1)] rfl (fun ls hl => ?_)
  refine lv_aload_n C.1 C.2.1 dX11_blame_0 rfl (lv_at hl 0 rfl) ?_
  refine lv_iload_n C.1 C.2.1 dX11_blame_1 rfl (lv_at hl 1 rfl) ?_
  obtain ⟨_, e2o, y2o_1, rfl, b2o_1, c2o_1⟩ := at_E (by decide) (fx0 hI.1)
  refine k_cutA (fun (cel : Nat → Cl) H locs ls => InvK ad ca (pTp T) kq cel ∧ wX D (tC ca) s (wN NC cel) H A s.heap locs ∧ lv_has ls 4 []) (fun (cel : Nat → Cl) ls => F0 m 19 ls []) (fun cel H locs ls hi => ?_) (fun J19 => ?_)
  · obtain ⟨hI, Wd, hl⟩ := hi
    refine lv_iconst (v := (-1)) C.1 C.2.1 dX11_blame_19 (by decide) ?_
    exact kK_zret C hr hlk rfl Wd ⟨trivial, hI⟩ dX11_blame_20
  refine k_pq (k_runV (rest := []) C aks Wd cs_X11_77 (gX11_slotAt l D ad ca (T) cel _ x0 hI.1) (List.range NC) (wN_all cel) ndR (List.range NC) (tC_all ca) 0 11 e2o rfl rfl rfl rfl ⟨(Nat.le_of_ble_eq_true rfl), (Nat.le_of_ble_eq_true rfl)⟩ hl.1 rfl rfl (Nat.le_of_ble_eq_true rfl) ⟨(Nat.le_of_ble_eq_true rfl), (Nat.le_of_ble_eq_true rfl)⟩ dX11_blame_2) (fun o2 w2 => ?_)
  rcases w2 with rfl | ⟨z2, bz2, hz2, rfl⟩
  · skip
    refine lv_astore_nN (lv' := [(3, .null), (0, .ref (ad 0)), (1, .int x0), (2, .int x1)]) C.1 C.2.1 dX11_blame_5 rfl hl (by decide) rfl (fun ls hl => ?_)
    refine lv_aload_nN C.1 C.2.1 dX11_blame_6 rfl (lv_at hl 0 rfl) ?_
    refine lv_ifnullN (tgt := 19) C.1 C.2.1 dX11_blame_7 (by decide) ?_
    exact J19 cel _ _ _ ⟨hI, Wd, lv_sub hl [] rfl⟩
  · have hz2 : (z2 : Int) = x0.toInt := hz2
    refine lv_astore_n (lv' := [(3, .ref (ad (101 + 2 * z2))), (0, .ref (ad 0)), (1, .int x0), (2, .int x1)]) C.1 C.2.1 dX11_blame_5 rfl hl (by decide) rfl (fun ls hl => ?_)
    refine lv_aload_n C.1 C.2.1 dX11_blame_6 rfl (lv_at hl 0 rfl) ?_
    refine lv_ifnull C.1 C.2.1 dX11_blame_7 ?_
    refine lv_iload_n C.1 C.2.1 dX11_blame_10 rfl (lv_at hl 3 rfl) ?_
    refine lv_if_lt (tgt := 19) C.1 C.2.1 dX11_blame_11 (by decide) (fun c11 => ?_) (fun c11 => ?_)
    · have i11 : x1.toInt < 0 := kz_lt c11
      exact J19 cel _ _ _ ⟨hI, Wd, lv_sub hl [] rfl⟩
    · have i11 : 0 ≤ x1.toInt := kz_nlt c11
      refine lv_iload_n C.1 C.2.1 dX11_blame_14 rfl (lv_at hl 3 rfl) ?_
      refine lv_iconst (v := 1) C.1 C.2.1 dX11_blame_15 (by decide) ?_
      refine lv_icmp_le (tgt := 21) C.1 C.2.1 dX11_blame_16 (by decide) (fun c16 => ?_) (fun c16 => ?_)
      · have i16 : x1.toInt ≤ 1 := kz_le c16
        refine lv_aload_n C.1 C.2.1 dX11_blame_21 rfl (lv_at hl 1 rfl) ?_
        obtain ⟨_, e22, y22_1, rfl, b22_1, c22_1⟩ := at_E (by decide) (fx0 hI.1)
        refine k_get C Wd KX11 0 6 e22 (by decide) fl_X11_50 rfl dX11_blame_22 ?_
        refine lv_aload_n C.1 C.2.1 dX11_blame_25 rfl (lv_at hl 0 rfl) ?_
        obtain ⟨_, e26o, y26o_3, y26o_4, rfl⟩ := at_E (by decide) (fx31 hI.1)
        refine kK_v Wd (k_runV (rest := []) C aks Wd cs_X11_205 (gK4_findBad l D ad ca (T) kq cel _ z2 (by omega) hI) (List.range NC) (wN_all cel) ndR (List.range NC) (tC_all ca) 31 4 e26o rfl rfl rfl rfl ⟨(Nat.le_of_ble_eq_true rfl), (Nat.le_of_ble_eq_true rfl)⟩ hl.1 rfl rfl (Nat.le_of_ble_eq_true rfl) ⟨(Nat.le_of_ble_eq_true rfl), (Nat.le_of_ble_eq_true rfl)⟩ dX11_blame_26) (fun cel H locs w26 hI Wd => ?_)
        refine lv_iload_n C.1 C.2.1 dX11_blame_29 rfl (lv_at hl 3 rfl) ?_
        refine lv_if_ne (tgt := 43) C.1 C.2.1 dX11_blame_30 (by decide) (fun c30 => ?_) (fun c30 => ?_)
        · have i30 : ¬ x1.toInt = 0 := kz_ne c30
          refine lv_aload_n C.1 C.2.1 dX11_blame_43 rfl (lv_at hl 1 rfl) ?_
          obtain ⟨_, e44, y44_1, rfl, b44_1, c44_1⟩ := at_E (by decide) (fx0 hI.1)
          refine k_get C Wd KX11 0 6 e44 (by decide) fl_X11_50 rfl dX11_blame_44 ?_
          obtain ⟨_, e47, y47_3, y47_4, rfl⟩ := at_E (by decide) (fx31 hI.1)
          refine k_get C Wd KX4 31 4 e47 (by decide) fl_X11_211 rfl dX11_blame_47 ?_
          exact kK_zret C hr hlk rfl Wd ⟨trivial, hI⟩ dX11_blame_50
        · have i30 : x1.toInt = 0 := kz_eq c30
          refine lv_aload_n C.1 C.2.1 dX11_blame_33 rfl (lv_at hl 1 rfl) ?_
          obtain ⟨_, e34, y34_1, rfl, b34_1, c34_1⟩ := at_E (by decide) (fx0 hI.1)
          refine k_get C Wd KX11 0 6 e34 (by decide) fl_X11_50 rfl dX11_blame_34 ?_
          obtain ⟨_, e37, y37_3, y37_4, rfl⟩ := at_E (by decide) (fx31 hI.1)
          refine k_get C Wd KX4 31 3 e37 (by decide) fl_X11_208 rfl dX11_blame_37 ?_
          refine lv_goto (tgt := 50) C.1 C.2.1 dX11_blame_40 (by decide) ?_
          exact kK_zret C hr hlk rfl Wd ⟨trivial, hI⟩ dX11_blame_50
      · have i16 : 1 < x1.toInt := kz_nle c16
        exact J19 cel _ _ _ ⟨hI, Wd, lv_sub hl [] rfl⟩
set_option maxHeartbeats 4000000 in
set_option maxRecDepth 100000 in
theorem gK11_cut (l : Launch) (D : va_G) (ad : Nat → Nat) (ca : Nat → ClassId) (T : Value → Prop) (kq : Nat → Cl) (cel : Nat → Cl) (sz : Nat) (x0 : Int32) (x1 : Int32) (x2 : Int32) (hI : InvK ad ca (pTp T) kq cel) : Met l yX11_cut (Cond.code yX11_cut cX11_cut 6 (some .int) :: gG) { frames := 8, cells := 0, slots := 0, locals := 238 } (cPre D (tC ca) (wN NC cel) sz [.ref (ad 0), .int x0, .int x1, .int x2]) (va_Qi (fun (r : Int32) (c' : Nat → Cl) => (-1 ≤ r.toInt ∧ r.toInt ≤ 1000) ∧ InvK ad ca (pTp T) kq c') (fun c' t => cB D (va_A (wN NC cel) sz) [] (wN NC c') t) (va_A (wN NC cel) sz)) 0 0 (va_A (wN NC cel) sz) := by
  refine Met.ofW (cc := cX11_cut) (maxL := 6) (ret := (some .int)) (by decide) rfl ?_
  intro p e s m args below meth c s₁ B hml hv
  obtain ⟨rfl, aks, rfl, Wd⟩ := k_enter hv
  have C : CallFix p m c cX11_cut 6 s _ gG RX11 := ⟨B.exec, B.bytes, hml, findClass_of_methodNamed B.named, fun w h => atoms_spec (ws := Cond.code yX11_cut cX11_cut 6 (some .int) :: gG) B.pre w (List.mem_cons_of_mem _ h)⟩
  have hr := B.returns
  have hlk := B.notSynchronized
  generalize va_A (wN NC cel) s.heap.size = A at Wd ⊢
  refine k_locals (Nat.le_of_ble_eq_true rfl) [(0, .ref (ad 0)), (1, .int x0), (2, .int x1), (3, .int x2)] rfl (fun ls hl => ?_)
  refine lv_aload_n C.1 C.2.1 dX11_cut_0 rfl (lv_at hl 0 rfl) ?_
  refine lv_iload_n C.1 C.2.1 dX11_cut_1 rfl (lv_at hl 2 rfl) ?_
  obtain ⟨_, e2o, y2o_1, rfl, b2o_1, c2o_1⟩ := at_E (by decide) (fx0 hI.1)
  refine k_cutA (fun (cel : Nat → Cl) H locs ls => InvK ad ca (pTp T) kq cel ∧ wX D (tC ca) s (wN NC cel) H A s.heap locs ∧ lv_has ls 6 []) (fun (cel : Nat → Cl) ls => F0 m 37 ls []) (fun cel H locs ls hi => ?_) (fun J37 => ?_)
  · obtain ⟨hI, Wd, hl⟩ := hi
    refine lv_iconst (v := (-1)) C.1 C.2.1 dX11_cut_37 (by decide) ?_
    exact kK_zret C hr hlk rfl Wd ⟨(by exact ⟨by have zqm1 : (-1 : Int32).toInt = -1 := (by decide); omega, by have zqm1 : (-1 : Int32).toInt = -1 := (by decide); omega⟩), hI⟩ dX11_cut_38
  refine k_pq (k_runV (rest := []) C aks Wd cs_X11_77 (gX11_slotAt l D ad ca (T) cel _ x1 hI.1) (List.range NC) (wN_all cel) ndR (List.range NC) (tC_all ca) 0 11 e2o rfl rfl rfl rfl ⟨(Nat.le_of_ble_eq_true rfl), (Nat.le_of_ble_eq_true rfl)⟩ hl.1 rfl rfl (Nat.le_of_ble_eq_true rfl) ⟨(Nat.le_of_ble_eq_true rfl), (Nat.le_of_ble_eq_true rfl)⟩ dX11_cut_2) (fun o2 w2 => ?_)
  rcases w2 with rfl | ⟨z2, bz2, hz2, rfl⟩
  · skip
    refine lv_astoreN (lv' := [(4, .null), (0, .ref (ad 0)), (1, .int x0), (2, .int x1), (3, .int x2)]) C.1 C.2.1 dX11_cut_5 hl (by decide) rfl (fun ls hl => ?_)
    refine lv_aload_n C.1 C.2.1 dX11_cut_7 rfl (lv_at hl 1 rfl) ?_
    refine lv_iload_n C.1 C.2.1 dX11_cut_8 rfl (lv_at hl 4 rfl) ?_
    obtain ⟨_, e9o, y9o_1, rfl, b9o_1, c9o_1⟩ := at_E (by decide) (fx0 hI.1)
    refine k_pq (k_runV (rest := []) C aks Wd cs_X11_77 (gX11_slotAt l D ad ca (T) cel _ x2 hI.1) (List.range NC) (wN_all cel) ndR (List.range NC) (tC_all ca) 0 11 e9o rfl rfl rfl rfl ⟨(Nat.le_of_ble_eq_true rfl), (Nat.le_of_ble_eq_true rfl)⟩ hl.1 rfl rfl (Nat.le_of_ble_eq_true rfl) ⟨(Nat.le_of_ble_eq_true rfl), (Nat.le_of_ble_eq_true rfl)⟩ dX11_cut_9) (fun o9 w9 => ?_)
    rcases w9 with rfl | ⟨z9, bz9, hz9, rfl⟩
    · skip
      refine lv_astoreN (lv' := [(5, .null), (4, .null), (0, .ref (ad 0)), (1, .int x0), (2, .int x1), (3, .int x2)]) C.1 C.2.1 dX11_cut_12 hl (by decide) rfl (fun ls hl => ?_)
      refine lv_aloadN C.1 C.2.1 dX11_cut_14 (lv_at hl 1 rfl) ?_
      refine lv_ifnullN (tgt := 37) C.1 C.2.1 dX11_cut_16 (by decide) ?_
      exact J37 cel _ _ _ ⟨hI, Wd, lv_sub hl [] rfl⟩
    · have hz9 : (z9 : Int) = x2.toInt := hz9
      refine lv_astore (lv' := [(5, .ref (ad (101 + 2 * z9))), (4, .null), (0, .ref (ad 0)), (1, .int x0), (2, .int x1), (3, .int x2)]) C.1 C.2.1 dX11_cut_12 hl (by decide) rfl (fun ls hl => ?_)
      refine lv_aloadN C.1 C.2.1 dX11_cut_14 (lv_at hl 1 rfl) ?_
      refine lv_ifnullN (tgt := 37) C.1 C.2.1 dX11_cut_16 (by decide) ?_
      exact J37 cel _ _ _ ⟨hI, Wd, lv_sub hl [] rfl⟩
  · have hz2 : (z2 : Int) = x1.toInt := hz2
    refine lv_astore (lv' := [(4, .ref (ad (101 + 2 * z2))), (0, .ref (ad 0)), (1, .int x0), (2, .int x1), (3, .int x2)]) C.1 C.2.1 dX11_cut_5 hl (by decide) rfl (fun ls hl => ?_)
    refine lv_aload_n C.1 C.2.1 dX11_cut_7 rfl (lv_at hl 1 rfl) ?_
    refine lv_iload_n C.1 C.2.1 dX11_cut_8 rfl (lv_at hl 4 rfl) ?_
    obtain ⟨_, e9o, y9o_1, rfl, b9o_1, c9o_1⟩ := at_E (by decide) (fx0 hI.1)
    refine k_pq (k_runV (rest := []) C aks Wd cs_X11_77 (gX11_slotAt l D ad ca (T) cel _ x2 hI.1) (List.range NC) (wN_all cel) ndR (List.range NC) (tC_all ca) 0 11 e9o rfl rfl rfl rfl ⟨(Nat.le_of_ble_eq_true rfl), (Nat.le_of_ble_eq_true rfl)⟩ hl.1 rfl rfl (Nat.le_of_ble_eq_true rfl) ⟨(Nat.le_of_ble_eq_true rfl), (Nat.le_of_ble_eq_true rfl)⟩ dX11_cut_9) (fun o9 w9 => ?_)
    rcases w9 with rfl | ⟨z9, bz9, hz9, rfl⟩
    · skip
      refine lv_astoreN (lv' := [(5, .null), (4, .ref (ad (101 + 2 * z2))), (0, .ref (ad 0)), (1, .int x0), (2, .int x1), (3, .int x2)]) C.1 C.2.1 dX11_cut_12 hl (by decide) rfl (fun ls hl => ?_)
      refine lv_aload C.1 C.2.1 dX11_cut_14 (lv_at hl 1 rfl) ?_
      refine lv_ifnull C.1 C.2.1 dX11_cut_16 ?_
      refine lv_aloadN C.1 C.2.1 dX11_cut_19 (lv_at hl 0 rfl) ?_
      refine lv_ifnullN (tgt := 37) C.1 C.2.1 dX11_cut_21 (by decide) ?_
      exact J37 cel _ _ _ ⟨hI, Wd, lv_sub hl [] rfl⟩
    · have hz9 : (z9 : Int) = x2.toInt := hz9
      refine lv_astore (lv' := [(5, .ref (ad (101 + 2 * z9))), (4, .ref (ad (101 + 2 * z2))), (0, .ref (ad 0)), (1, .int x0), (2, .int x1), (3, .int x2)]) C.1 C.2.1 dX11_cut_12 hl (by decide) rfl (fun ls hl => ?_)
      refine lv_aload C.1 C.2.1 dX11_cut_14 (lv_at hl 1 rfl) ?_
      refine lv_ifnull C.1 C.2.1 dX11_cut_16 ?_
      refine lv_aload C.1 C.2.1 dX11_cut_19 (lv_at hl 0 rfl) ?_
      refine lv_ifnull C.1 C.2.1 dX11_cut_21 ?_
      refine lv_aload_n C.1 C.2.1 dX11_cut_24 rfl (lv_at hl 2 rfl) ?_
      obtain ⟨_, e25, y25_1, rfl, b25_1, c25_1⟩ := at_E (by decide) (fx0 hI.1)
      refine k_get C Wd KX11 0 6 e25 (by decide) fl_X11_50 rfl dX11_cut_25 ?_
      refine lv_iload_n C.1 C.2.1 dX11_cut_28 rfl (lv_at hl 3 rfl) ?_
      refine lv_aload C.1 C.2.1 dX11_cut_29 (lv_at hl 1 rfl) ?_
      obtain ⟨_, e31o, y31o_3, y31o_4, rfl⟩ := at_E (by decide) (fx31 hI.1)
      refine kK_i Wd (k_runV (rest := []) C aks Wd cs_X11_214 (gK4_cutDown l D ad ca (T) kq cel _ z2 (by omega) x0 hI) (List.range NC) (wN_all cel) ndR (List.range NC) (tC_all ca) 31 4 e31o rfl rfl rfl rfl ⟨(Nat.le_of_ble_eq_true rfl), (Nat.le_of_ble_eq_true rfl)⟩ hl.1 rfl rfl (Nat.le_of_ble_eq_true rfl) ⟨(Nat.le_of_ble_eq_true rfl), (Nat.le_of_ble_eq_true rfl)⟩ dX11_cut_31) (fun r31 cel H locs w31 hI Wd => ?_)
      obtain ⟨g31_0, g31_1⟩ := w31
      have g31_0 : 0 ≤ r31.toInt := g31_0
      have g31_1 : r31.toInt ≤ 1 := g31_1
      refine lv_if_ne (tgt := 39) C.1 C.2.1 dX11_cut_34 (by decide) (fun c34 => ?_) (fun c34 => ?_)
      · have i34 : ¬ r31.toInt = 0 := kz_ne c34
        refine lv_aload C.1 C.2.1 dX11_cut_39 (lv_at hl 0 rfl) ?_
        refine lv_aload_n C.1 C.2.1 dX11_cut_41 rfl (lv_at hl 2 rfl) ?_
        obtain ⟨_, e42, y42_1, rfl, b42_1, c42_1⟩ := at_E (by decide) (fx0 hI.1)
        refine k_get C Wd KX11 0 6 e42 (by decide) fl_X11_50 rfl dX11_cut_42 ?_
        obtain ⟨_, e45, y45_3, y45_4, rfl⟩ := at_E (by decide) (fx31 hI.1)
        refine k_get C Wd KX4 31 2 e45 (by decide) fl_X11_217 rfl dX11_cut_45 ?_
        obtain ⟨_, e48o, y48o_1, rfl, b48o_1, c48o_1⟩ := at_E (by show _ < 233; omega) (frow0 hI.1 (by omega : z9 < 11))
        refine kK_v Wd (k_runV (rest := []) C aks Wd cs_X11_92 (liftV4K (P' := pTp T) hI (ok_42 z9 (by omega)) (nk_42 z9 (by omega)) (wsX8_copy l D (ad (101 + 2 * z9)) (ad 113) (ad 114) (ad (101 + 2 * z9 + 1)) (ca 114) (ca (101 + 2 * z9 + 1)) 480 (capR z9) _ (by omega) (by omega) (by have := capR_hi z9; have := capR_lo z9; omega) (by have := capR_hi z9; have := capR_lo z9; omega) ([113, 114, (101 + 2 * z9), (101 + 2 * z9 + 1)].map cel) ⟨(fx113 hI.1), (fx114 hI.1), (frow0 hI.1 (by omega : z9 < 11)), (frow1 hI.1 (by omega : z9 < 11)), trivial⟩) rfl (fun _ _ => rfl) ⟨fun _ h => h, fun _ h => h, fun _ h => trow0 (by omega) h, fun _ h => trow1 (by omega) h, trivial⟩) (List.range NC) (wN_all cel) ndR (List.range NC) (tC_all ca) (101 + 2 * z9) 8 e48o rfl rfl rfl rfl ⟨(Nat.le_of_ble_eq_true rfl), (Nat.le_of_ble_eq_true rfl)⟩ hl.1 rfl rfl (Nat.le_of_ble_eq_true rfl) ⟨(Nat.le_of_ble_eq_true rfl), (Nat.le_of_ble_eq_true rfl)⟩ dX11_cut_48) (fun cel H locs w48 hI Wd => ?_)
        refine lv_aload C.1 C.2.1 dX11_cut_51 (lv_at hl 0 rfl) ?_
        obtain ⟨_, e53o, y53o_1, rfl, b53o_1, c53o_1⟩ := at_E (by show _ < 233; omega) (frow0 hI.1 (by omega : z9 < 11))
        refine k_pi (k_runV (rest := []) C aks Wd cs_X11_95 (wsX8_statements l D (ad (101 + 2 * z9)) (ad (101 + 2 * z9 + 1)) (ca (101 + 2 * z9 + 1)) (capR z9) _ (by have := capR_hi z9; have := capR_lo z9; omega) (by have := capR_hi z9; have := capR_lo z9; omega) ([(101 + 2 * z9), (101 + 2 * z9 + 1)].map cel) ⟨(frow0 hI.1 (by omega : z9 < 11)), (frow1 hI.1 (by omega : z9 < 11)), trivial⟩) [(101 + 2 * z9), (101 + 2 * z9 + 1)] (wN_pick [(101 + 2 * z9), (101 + 2 * z9 + 1)] (okC_lt (ok_18 z9 (by omega)))) (okC_nd (ok_18 z9 (by omega))) [(101 + 2 * z9 + 1)] (tC_ok (ok_18 z9 (by omega)) rfl) (101 + 2 * z9) 8 e53o rfl rfl rfl rfl ⟨(Nat.le_of_ble_eq_true rfl), (Nat.le_of_ble_eq_true rfl)⟩ hl.1 rfl rfl (Nat.le_of_ble_eq_true rfl) ⟨(Nat.le_of_ble_eq_true rfl), (Nat.le_of_ble_eq_true rfl)⟩ dX11_cut_53) (fun r53 w53 => ?_)
        obtain ⟨g53_0, g53_1⟩ := w53
        have g53_0 : 0 ≤ r53.toInt := g53_0
        have g53_1 : r53.toInt ≤ 1000 := g53_1
        exact kK_zret C hr hlk rfl Wd ⟨(by exact ⟨by omega, by omega⟩), hI⟩ dX11_cut_56
      · have i34 : r31.toInt = 0 := kz_eq c34
        exact J37 cel _ _ _ ⟨hI, Wd, lv_sub hl [] rfl⟩
set_option maxHeartbeats 4000000 in
set_option maxRecDepth 100000 in
theorem gK11_registers (l : Launch) (D : va_G) (ad : Nat → Nat) (ca : Nat → ClassId) (T : Value → Prop) (kq : Nat → Cl) (cel : Nat → Cl) (sz : Nat) (x0 : Int32) (x1 : Int32) (hI : InvK ad ca (pTp T) kq cel) : Met l yX11_registers (Cond.code yX11_registers cX11_registers 4 (some .int) :: gG) { frames := 12, cells := 0, slots := 0, locals := 315 } (cPre D (tC ca) (wN NC cel) sz [.ref (ad 0), .int x0, .int x1]) (va_Qi (fun (r : Int32) (c' : Nat → Cl) => (True) ∧ InvK ad ca (pTp T) kq c') (fun c' t => cB D (va_A (wN NC cel) sz) [] (wN NC c') t) (va_A (wN NC cel) sz)) 0 0 (va_A (wN NC cel) sz) := by
  refine Met.ofW (cc := cX11_registers) (maxL := 4) (ret := (some .int)) (by decide) rfl ?_
  intro p e s m args below meth c s₁ B hml hv
  obtain ⟨rfl, aks, rfl, Wd⟩ := k_enter hv
  have C : CallFix p m c cX11_registers 4 s _ gG RX11 := ⟨B.exec, B.bytes, hml, findClass_of_methodNamed B.named, fun w h => atoms_spec (ws := Cond.code yX11_registers cX11_registers 4 (some .int) :: gG) B.pre w (List.mem_cons_of_mem _ h)⟩
  have hr := B.returns
  have hlk := B.notSynchronized
  generalize va_A (wN NC cel) s.heap.size = A at Wd ⊢
  refine k_locals (Nat.le_of_ble_eq_true rfl) [(0, .ref (ad 0)), (1, .int x0), (2, .int x1)] rfl (fun ls hl => ?_)
  refine lv_aload_n C.1 C.2.1 dX11_registers_0 rfl (lv_at hl 0 rfl) ?_
  refine lv_iload_n C.1 C.2.1 dX11_registers_1 rfl (lv_at hl 1 rfl) ?_
  obtain ⟨_, e2o, y2o_1, rfl, b2o_1, c2o_1⟩ := at_E (by decide) (fx0 hI.1)
  refine k_pq (k_runV (rest := []) C aks Wd cs_X11_77 (gX11_slotAt l D ad ca (T) cel _ x0 hI.1) (List.range NC) (wN_all cel) ndR (List.range NC) (tC_all ca) 0 11 e2o rfl rfl rfl rfl ⟨(Nat.le_of_ble_eq_true rfl), (Nat.le_of_ble_eq_true rfl)⟩ hl.1 rfl rfl (Nat.le_of_ble_eq_true rfl) ⟨(Nat.le_of_ble_eq_true rfl), (Nat.le_of_ble_eq_true rfl)⟩ dX11_registers_2) (fun o2 w2 => ?_)
  rcases w2 with rfl | ⟨z2, bz2, hz2, rfl⟩
  · skip
    refine lv_astore_nN (lv' := [(3, .null), (0, .ref (ad 0)), (1, .int x0), (2, .int x1)]) C.1 C.2.1 dX11_registers_5 rfl hl (by decide) rfl (fun ls hl => ?_)
    refine lv_aload_nN C.1 C.2.1 dX11_registers_6 rfl (lv_at hl 0 rfl) ?_
    refine lv_ifnonnullN C.1 C.2.1 dX11_registers_7 ?_
    refine lv_iconst (v := (-1)) C.1 C.2.1 dX11_registers_10 (by decide) ?_
    exact kK_zret C hr hlk rfl Wd ⟨trivial, hI⟩ dX11_registers_11
  · have hz2 : (z2 : Int) = x0.toInt := hz2
    refine lv_astore_n (lv' := [(3, .ref (ad (101 + 2 * z2))), (0, .ref (ad 0)), (1, .int x0), (2, .int x1)]) C.1 C.2.1 dX11_registers_5 rfl hl (by decide) rfl (fun ls hl => ?_)
    refine lv_aload_n C.1 C.2.1 dX11_registers_6 rfl (lv_at hl 0 rfl) ?_
    refine lv_ifnonnull (tgt := 12) C.1 C.2.1 dX11_registers_7 (by decide) ?_
    refine lv_aload_n C.1 C.2.1 dX11_registers_12 rfl (lv_at hl 1 rfl) ?_
    obtain ⟨_, e13, y13_1, rfl, b13_1, c13_1⟩ := at_E (by decide) (fx0 hI.1)
    refine k_get C Wd KX11 0 7 e13 (by decide) fl_X11_57 rfl dX11_registers_13 ?_
    refine lv_aload_n C.1 C.2.1 dX11_registers_16 rfl (lv_at hl 0 rfl) ?_
    obtain ⟨_, e17o, y17o_4, rfl⟩ := at_E (by decide) (fx84 hI.1)
    refine kK_v Wd (k_runV (rest := []) C aks Wd cs_X11_220 (liftV4K (P' := pTp T) hI (ok_43 z2 (by omega)) (nk_43 z2 (by omega)) (wsX7_study l D (ad 84) (ad (101 + 2 * z2)) (ad 88) (ad 85) (ad 86) (ad 87) (ad 89) (ad 90) (ad 91) (ad 92) (ad 93) (ad 94) (ad 95) (ad 96) (ad 97) (ad 98) (ad 99) (ad 100) (ad (101 + 2 * z2 + 1)) (ca (101 + 2 * z2 + 1)) (ca 100) (ca 99) (ca 89) (ca 90) (ca 96) (ca 91) (ca 92) (ca 95) (ca 93) (ca 94) (ca 98) (ca 97) (ca 85) (ca 86) (capR z2) _ (by have := capR_hi z2; have := capR_lo z2; omega) (by have := capR_hi z2; have := capR_lo z2; omega) ([84, 88, (101 + 2 * z2), (101 + 2 * z2 + 1), 100, 99, 89, 90, 96, 91, 92, 95, 93, 94, 98, 97, 85, 86].map cel) ⟨(fx84 hI.1), (fx88 hI.1), (frow0 hI.1 (by omega : z2 < 11)), (frow1 hI.1 (by omega : z2 < 11)), (fx100 hI.1), (fx99 hI.1), (fx89 hI.1), (fx90 hI.1), (fx96 hI.1), (fx91 hI.1), (fx92 hI.1), (fx95 hI.1), (fx93 hI.1), (fx94 hI.1), (fx98 hI.1), (fx97 hI.1), (fx85 hI.1), (fx86 hI.1), trivial⟩) rfl (fun _ _ => rfl) ⟨fun _ h => h, fun _ h => tx88 h (fun _ _ q => trivial), fun _ h => trow0 (by omega) h, fun _ h => trow1 (by omega) h, fun _ h => h, fun _ h => h, fun _ h => h, fun _ h => h, fun _ h => h, fun _ h => h, fun _ h => h, fun _ h => h, fun _ h => h, fun _ h => h, fun _ h => h, fun _ h => h, fun _ h => h, fun _ h => h, trivial⟩) (List.range NC) (wN_all cel) ndR (List.range NC) (tC_all ca) 84 7 e17o rfl rfl rfl rfl ⟨(Nat.le_of_ble_eq_true rfl), (Nat.le_of_ble_eq_true rfl)⟩ hl.1 rfl rfl (Nat.le_of_ble_eq_true rfl) ⟨(Nat.le_of_ble_eq_true rfl), (Nat.le_of_ble_eq_true rfl)⟩ dX11_registers_17) (fun cel H locs w17 hI Wd => ?_)
    refine lv_iload_n C.1 C.2.1 dX11_registers_20 rfl (lv_at hl 3 rfl) ?_
    refine lv_if_ne (tgt := 32) C.1 C.2.1 dX11_registers_21 (by decide) (fun c21 => ?_) (fun c21 => ?_)
    · have i21 : ¬ x1.toInt = 0 := kz_ne c21
      refine lv_iload_n C.1 C.2.1 dX11_registers_32 rfl (lv_at hl 3 rfl) ?_
      refine lv_bipush (v := 10) C.1 C.2.1 dX11_registers_33 (by decide) ?_
      refine k_cutA (fun (cel : Nat → Cl) H locs ls => InvK ad ca (pTp T) kq cel ∧ wX D (tC ca) s (wN NC cel) H A s.heap locs ∧ lv_has ls 4 [(0, .ref (ad 0)), (2, .int x1)]) (fun (cel : Nat → Cl) ls => F0 m 56 ls []) (fun cel H locs ls hi => ?_) (fun J56 => ?_)
      · obtain ⟨hI, Wd, hl⟩ := hi
        refine lv_iload_n C.1 C.2.1 dX11_registers_56 rfl (lv_at hl 1 rfl) ?_
        refine lv_bipush (v := 20) C.1 C.2.1 dX11_registers_57 (by decide) ?_
        refine k_cutA (fun (cel : Nat → Cl) H locs ls => InvK ad ca (pTp T) kq cel ∧ wX D (tC ca) s (wN NC cel) H A s.heap locs ∧ lv_has ls 4 []) (fun (cel : Nat → Cl) ls => F0 m 82 ls []) (fun cel H locs ls hi => ?_) (fun J82 => ?_)
        · obtain ⟨hI, Wd, hl⟩ := hi
          refine lv_iconst (v := (-1)) C.1 C.2.1 dX11_registers_82 (by decide) ?_
          exact kK_zret C hr hlk rfl Wd ⟨trivial, hI⟩ dX11_registers_83
        refine lv_icmp_lt (tgt := 82) C.1 C.2.1 dX11_registers_59 (by decide) (fun c59 => ?_) (fun c59 => ?_)
        · have i59 : x1.toInt < 20 := kz_lt c59
          exact J82 cel _ _ _ ⟨hI, Wd, lv_sub hl [] rfl⟩
        · have i59 : 20 ≤ x1.toInt := kz_nlt c59
          refine lv_iload_n C.1 C.2.1 dX11_registers_62 rfl (lv_at hl 1 rfl) ?_
          refine lv_bipush (v := 26) C.1 C.2.1 dX11_registers_63 (by decide) ?_
          refine lv_icmp_gt (tgt := 82) C.1 C.2.1 dX11_registers_65 (by decide) (fun c65 => ?_) (fun c65 => ?_)
          · have i65 : 26 < x1.toInt := kz_lt c65
            exact J82 cel _ _ _ ⟨hI, Wd, lv_sub hl [] rfl⟩
          · have i65 : x1.toInt ≤ 26 := kz_nlt c65
            refine lv_aload_n C.1 C.2.1 dX11_registers_68 rfl (lv_at hl 0 rfl) ?_
            obtain ⟨_, e69, y69_1, rfl, b69_1, c69_1⟩ := at_E (by decide) (fx0 hI.1)
            refine k_get C Wd KX11 0 7 e69 (by decide) fl_X11_57 rfl dX11_registers_69 ?_
            refine lv_iload_n C.1 C.2.1 dX11_registers_72 rfl (lv_at hl 1 rfl) ?_
            refine lv_bipush (v := 20) C.1 C.2.1 dX11_registers_73 (by decide) ?_
            obtain ⟨v75, ev75⟩ : ∃ z : Int32, x1 - 20 = z := ⟨_, rfl⟩
            have iv75 : v75.toInt = x1.toInt - 20 := kz_subc ev75 (by decide) (by have zr0 := kz_rng x1; omega) (by have zr0 := kz_rng x1; omega)
            refine k_isub (v := v75) C ev75 dX11_registers_75 ?_
            obtain ⟨_, e76o, y76o_4, rfl⟩ := at_E (by decide) (fx84 hI.1)
            refine kK_i Wd (k_runV (rest := []) C aks Wd cs_X11_229 (liftI4K (P' := pTp T) hI (ok_45) (nk_45) (wsX7_spills l D (ad 84) (ad 88) (ad 85) (ad 86) (ad 87) (ca 86) (ca 87) (ca 85) v75 _ (by omega) (by omega) ([84, 86, 87, 85].map cel) ⟨(fx84 hI.1), (fx86 hI.1), (fx87 hI.1), (fx85 hI.1), trivial⟩) rfl (fun _ _ => rfl) ⟨fun _ h => h, fun _ h => h, fun _ h => h, fun _ h => h, trivial⟩) (List.range NC) (wN_all cel) ndR (List.range NC) (tC_all ca) 84 7 e76o rfl rfl rfl rfl ⟨(Nat.le_of_ble_eq_true rfl), (Nat.le_of_ble_eq_true rfl)⟩ hl.1 rfl rfl (Nat.le_of_ble_eq_true rfl) ⟨(Nat.le_of_ble_eq_true rfl), (Nat.le_of_ble_eq_true rfl)⟩ dX11_registers_76) (fun r76 cel H locs w76 hI Wd => ?_)
            refine lv_goto (tgt := 83) C.1 C.2.1 dX11_registers_79 (by decide) ?_
            exact kK_zret C hr hlk rfl Wd ⟨trivial, hI⟩ dX11_registers_83
      refine lv_icmp_lt (tgt := 56) C.1 C.2.1 dX11_registers_35 (by decide) (fun c35 => ?_) (fun c35 => ?_)
      · have i35 : x1.toInt < 10 := kz_lt c35
        exact J56 cel _ _ _ ⟨hI, Wd, lv_sub hl [1, 3] rfl⟩
      · have i35 : 10 ≤ x1.toInt := kz_nlt c35
        refine lv_iload_n C.1 C.2.1 dX11_registers_38 rfl (lv_at hl 3 rfl) ?_
        refine lv_bipush (v := 16) C.1 C.2.1 dX11_registers_39 (by decide) ?_
        refine lv_icmp_ge (tgt := 56) C.1 C.2.1 dX11_registers_41 (by decide) (fun c41 => ?_) (fun c41 => ?_)
        · have i41 : 16 ≤ x1.toInt := kz_le c41
          exact J56 cel _ _ _ ⟨hI, Wd, lv_sub hl [1, 3] rfl⟩
        · have i41 : x1.toInt < 16 := kz_nle c41
          refine lv_aload_n C.1 C.2.1 dX11_registers_44 rfl (lv_at hl 1 rfl) ?_
          obtain ⟨_, e45, y45_1, rfl, b45_1, c45_1⟩ := at_E (by decide) (fx0 hI.1)
          refine k_get C Wd KX11 0 7 e45 (by decide) fl_X11_57 rfl dX11_registers_45 ?_
          refine lv_iload_n C.1 C.2.1 dX11_registers_48 rfl (lv_at hl 3 rfl) ?_
          refine lv_bipush (v := 10) C.1 C.2.1 dX11_registers_49 (by decide) ?_
          obtain ⟨v51, ev51⟩ : ∃ z : Int32, x1 - 10 = z := ⟨_, rfl⟩
          have iv51 : v51.toInt = x1.toInt - 10 := kz_subc ev51 (by decide) (by have zr0 := kz_rng x1; omega) (by have zr0 := kz_rng x1; omega)
          refine k_isub (v := v51) C ev51 dX11_registers_51 ?_
          obtain ⟨_, e52o, y52o_4, rfl⟩ := at_E (by decide) (fx84 hI.1)
          refine kK_i Wd (k_runV (rest := []) C aks Wd cs_X11_226 (liftI4K (P' := pTp T) hI (ok_44) (nk_44) (wsX7_registerOf l D (ad 84) (ad 88) (ad 85) (ad 86) (ad 87) (ca 87) (ca 85) v51 _ ([84, 87, 85].map cel) ⟨(fx84 hI.1), (fx87 hI.1), (fx85 hI.1), trivial⟩) rfl (fun _ _ => rfl) ⟨fun _ h => h, fun _ h => h, fun _ h => h, trivial⟩) (List.range NC) (wN_all cel) ndR (List.range NC) (tC_all ca) 84 7 e52o rfl rfl rfl rfl ⟨(Nat.le_of_ble_eq_true rfl), (Nat.le_of_ble_eq_true rfl)⟩ hl.1 rfl rfl (Nat.le_of_ble_eq_true rfl) ⟨(Nat.le_of_ble_eq_true rfl), (Nat.le_of_ble_eq_true rfl)⟩ dX11_registers_52) (fun r52 cel H locs w52 hI Wd => ?_)
          exact kK_zret C hr hlk rfl Wd ⟨trivial, hI⟩ dX11_registers_55
    · have i21 : x1.toInt = 0 := kz_eq c21
      refine lv_aload_n C.1 C.2.1 dX11_registers_24 rfl (lv_at hl 1 rfl) ?_
      obtain ⟨_, e25, y25_1, rfl, b25_1, c25_1⟩ := at_E (by decide) (fx0 hI.1)
      refine k_get C Wd KX11 0 7 e25 (by decide) fl_X11_57 rfl dX11_registers_25 ?_
      obtain ⟨_, e28o, y28o_4, rfl⟩ := at_E (by decide) (fx84 hI.1)
      refine kK_i Wd (k_runV (rest := []) C aks Wd cs_X11_223 (liftI4K (P' := pTp T) hI (ok_44) (nk_44) (wsX7_fewest l D (ad 84) (ad 88) (ad 85) (ad 86) (ad 87) (ca 87) (ca 85) _ ([84, 87, 85].map cel) ⟨(fx84 hI.1), (fx87 hI.1), (fx85 hI.1), trivial⟩) rfl (fun _ _ => rfl) ⟨fun _ h => h, fun _ h => h, fun _ h => h, trivial⟩) (List.range NC) (wN_all cel) ndR (List.range NC) (tC_all ca) 84 7 e28o rfl rfl rfl rfl ⟨(Nat.le_of_ble_eq_true rfl), (Nat.le_of_ble_eq_true rfl)⟩ hl.1 rfl rfl (Nat.le_of_ble_eq_true rfl) ⟨(Nat.le_of_ble_eq_true rfl), (Nat.le_of_ble_eq_true rfl)⟩ dX11_registers_28) (fun r28 cel H locs w28 hI Wd => ?_)
      obtain ⟨g28_0, g28_1⟩ := w28
      have g28_0 : 0 ≤ r28.toInt := g28_0
      have g28_1 : r28.toInt ≤ 6 := g28_1
      exact kK_zret C hr hlk rfl Wd ⟨trivial, hI⟩ dX11_registers_31
set_option maxHeartbeats 4000000 in
set_option maxRecDepth 100000 in
theorem gK11_clash (l : Launch) (D : va_G) (ad : Nat → Nat) (ca : Nat → ClassId) (T : Value → Prop) (kq : Nat → Cl) (cel : Nat → Cl) (sz : Nat) (x0 : Int32) (x1 : Int32) (x2 : Int32) (hI : InvK ad ca (pTp T) kq cel) : Met l yX11_clash (Cond.code yX11_clash cX11_clash 5 (some .int) :: gG) { frames := 6, cells := 0, slots := 0, locals := 174 } (cPre D (tC ca) (wN NC cel) sz [.ref (ad 0), .int x0, .int x1, .int x2]) (va_Qi (fun (r : Int32) (c' : Nat → Cl) => (-1 ≤ r.toInt ∧ r.toInt ≤ 1) ∧ InvK ad ca (pTp T) kq c') (fun c' t => cB D (va_A (wN NC cel) sz) [] (wN NC c') t) (va_A (wN NC cel) sz)) 0 0 (va_A (wN NC cel) sz) := by
  refine Met.ofW (cc := cX11_clash) (maxL := 5) (ret := (some .int)) (by decide) rfl ?_
  intro p e s m args below meth c s₁ B hml hv
  obtain ⟨rfl, aks, rfl, Wd⟩ := k_enter hv
  have C : CallFix p m c cX11_clash 5 s _ gG RX11 := ⟨B.exec, B.bytes, hml, findClass_of_methodNamed B.named, fun w h => atoms_spec (ws := Cond.code yX11_clash cX11_clash 5 (some .int) :: gG) B.pre w (List.mem_cons_of_mem _ h)⟩
  have hr := B.returns
  have hlk := B.notSynchronized
  generalize va_A (wN NC cel) s.heap.size = A at Wd ⊢
  refine k_locals (Nat.le_of_ble_eq_true rfl) [(0, .ref (ad 0)), (1, .int x0), (2, .int x1), (3, .int x2)] rfl (fun ls hl => ?_)
  refine lv_aload_n C.1 C.2.1 dX11_clash_0 rfl (lv_at hl 0 rfl) ?_
  refine lv_iload_n C.1 C.2.1 dX11_clash_1 rfl (lv_at hl 1 rfl) ?_
  obtain ⟨_, e2o, y2o_1, rfl, b2o_1, c2o_1⟩ := at_E (by decide) (fx0 hI.1)
  refine k_cutA (fun (cel : Nat → Cl) H locs ls => InvK ad ca (pTp T) kq cel ∧ wX D (tC ca) s (wN NC cel) H A s.heap locs ∧ lv_has ls 5 []) (fun (cel : Nat → Cl) ls => F0 m 31 ls []) (fun cel H locs ls hi => ?_) (fun J31 => ?_)
  · obtain ⟨hI, Wd, hl⟩ := hi
    refine lv_iconst (v := (-1)) C.1 C.2.1 dX11_clash_31 (by decide) ?_
    exact kK_zret C hr hlk rfl Wd ⟨(by exact ⟨by have zqm1 : (-1 : Int32).toInt = -1 := (by decide); omega, by have zqm1 : (-1 : Int32).toInt = -1 := (by decide); omega⟩), hI⟩ dX11_clash_32
  refine k_pq (k_runV (rest := []) C aks Wd cs_X11_77 (gX11_slotAt l D ad ca (T) cel _ x0 hI.1) (List.range NC) (wN_all cel) ndR (List.range NC) (tC_all ca) 0 11 e2o rfl rfl rfl rfl ⟨(Nat.le_of_ble_eq_true rfl), (Nat.le_of_ble_eq_true rfl)⟩ hl.1 rfl rfl (Nat.le_of_ble_eq_true rfl) ⟨(Nat.le_of_ble_eq_true rfl), (Nat.le_of_ble_eq_true rfl)⟩ dX11_clash_2) (fun o2 w2 => ?_)
  rcases w2 with rfl | ⟨z2, bz2, hz2, rfl⟩
  · skip
    refine lv_astoreN (lv' := [(4, .null), (0, .ref (ad 0)), (1, .int x0), (2, .int x1), (3, .int x2)]) C.1 C.2.1 dX11_clash_5 hl (by decide) rfl (fun ls hl => ?_)
    refine lv_aloadN C.1 C.2.1 dX11_clash_7 (lv_at hl 0 rfl) ?_
    refine lv_ifnullN (tgt := 31) C.1 C.2.1 dX11_clash_9 (by decide) ?_
    exact J31 cel _ _ _ ⟨hI, Wd, lv_sub hl [] rfl⟩
  · have hz2 : (z2 : Int) = x0.toInt := hz2
    refine lv_astore (lv' := [(4, .ref (ad (101 + 2 * z2))), (0, .ref (ad 0)), (1, .int x0), (2, .int x1), (3, .int x2)]) C.1 C.2.1 dX11_clash_5 hl (by decide) rfl (fun ls hl => ?_)
    refine lv_aload C.1 C.2.1 dX11_clash_7 (lv_at hl 0 rfl) ?_
    refine lv_ifnull C.1 C.2.1 dX11_clash_9 ?_
    refine lv_iload_n C.1 C.2.1 dX11_clash_12 rfl (lv_at hl 3 rfl) ?_
    refine k_pi (k_runS (rest := []) C aks Wd cs_X11_232 (wsX11_isVariable l D x1 _ ([].map cel) trivial) [] (wN_pick [] (okC_lt (ok_1))) (okC_nd (ok_1)) [] (tC_ok (ok_1) rfl)  rfl rfl ⟨(Nat.le_of_ble_eq_true rfl), (Nat.le_of_ble_eq_true rfl)⟩ hl.1 rfl rfl (Nat.le_of_ble_eq_true rfl) ⟨(Nat.le_of_ble_eq_true rfl), (Nat.le_of_ble_eq_true rfl)⟩ dX11_clash_13) (fun r13 w13 => ?_)
    rcases w13 with rfl | ⟨g13_1_0, g13_1_1, rfl⟩
    · refine lv_if_eq (tgt := 31) C.1 C.2.1 dX11_clash_16 (by decide) (fun _ => ?_) (fun c16 => absurd c16 (by decide))
      exact J31 cel _ _ _ ⟨hI, Wd, lv_sub hl [] rfl⟩
    · have g13_1_0 : 0 ≤ x1.toInt := g13_1_0
      have g13_1_1 : x1.toInt ≤ 5 := g13_1_1
      refine lv_if_eq (tgt := 31) C.1 C.2.1 dX11_clash_16 (by decide) (fun c16 => absurd c16 (by decide)) (fun _ => ?_)
      refine lv_iload_n C.1 C.2.1 dX11_clash_19 rfl (lv_at hl 4 rfl) ?_
      refine k_pi (k_runS (rest := []) C aks Wd cs_X11_232 (wsX11_isVariable l D x2 _ ([].map cel) trivial) [] (wN_pick [] (okC_lt (ok_1))) (okC_nd (ok_1)) [] (tC_ok (ok_1) rfl)  rfl rfl ⟨(Nat.le_of_ble_eq_true rfl), (Nat.le_of_ble_eq_true rfl)⟩ hl.1 rfl rfl (Nat.le_of_ble_eq_true rfl) ⟨(Nat.le_of_ble_eq_true rfl), (Nat.le_of_ble_eq_true rfl)⟩ dX11_clash_20) (fun r20 w20 => ?_)
      rcases w20 with rfl | ⟨g20_1_0, g20_1_1, rfl⟩
      · refine lv_if_eq (tgt := 31) C.1 C.2.1 dX11_clash_23 (by decide) (fun _ => ?_) (fun c23 => absurd c23 (by decide))
        exact J31 cel _ _ _ ⟨hI, Wd, lv_sub hl [] rfl⟩
      · have g20_1_0 : 0 ≤ x2.toInt := g20_1_0
        have g20_1_1 : x2.toInt ≤ 5 := g20_1_1
        refine lv_if_eq (tgt := 31) C.1 C.2.1 dX11_clash_23 (by decide) (fun c23 => absurd c23 (by decide)) (fun _ => ?_)
        refine lv_iload_n C.1 C.2.1 dX11_clash_26 rfl (lv_at hl 3 rfl) ?_
        refine lv_iload_n C.1 C.2.1 dX11_clash_27 rfl (lv_at hl 4 rfl) ?_
        refine lv_icmp_ne (tgt := 33) C.1 C.2.1 dX11_clash_28 (by decide) (fun c28 => ?_) (fun c28 => ?_)
        · have i28 : ¬ x1.toInt = x2.toInt := kz_ne c28
          refine lv_aload_n C.1 C.2.1 dX11_clash_33 rfl (lv_at hl 1 rfl) ?_
          obtain ⟨_, e34, y34_1, rfl, b34_1, c34_1⟩ := at_E (by decide) (fx0 hI.1)
          refine k_get C Wd KX11 0 7 e34 (by decide) fl_X11_57 rfl dX11_clash_34 ?_
          refine lv_aload C.1 C.2.1 dX11_clash_37 (lv_at hl 0 rfl) ?_
          obtain ⟨_, e39o, y39o_4, rfl⟩ := at_E (by decide) (fx84 hI.1)
          refine kK_v Wd (k_runV (rest := []) C aks Wd cs_X11_220 (liftV4K (P' := pTp T) hI (ok_43 z2 (by omega)) (nk_43 z2 (by omega)) (wsX7_study l D (ad 84) (ad (101 + 2 * z2)) (ad 88) (ad 85) (ad 86) (ad 87) (ad 89) (ad 90) (ad 91) (ad 92) (ad 93) (ad 94) (ad 95) (ad 96) (ad 97) (ad 98) (ad 99) (ad 100) (ad (101 + 2 * z2 + 1)) (ca (101 + 2 * z2 + 1)) (ca 100) (ca 99) (ca 89) (ca 90) (ca 96) (ca 91) (ca 92) (ca 95) (ca 93) (ca 94) (ca 98) (ca 97) (ca 85) (ca 86) (capR z2) _ (by have := capR_hi z2; have := capR_lo z2; omega) (by have := capR_hi z2; have := capR_lo z2; omega) ([84, 88, (101 + 2 * z2), (101 + 2 * z2 + 1), 100, 99, 89, 90, 96, 91, 92, 95, 93, 94, 98, 97, 85, 86].map cel) ⟨(fx84 hI.1), (fx88 hI.1), (frow0 hI.1 (by omega : z2 < 11)), (frow1 hI.1 (by omega : z2 < 11)), (fx100 hI.1), (fx99 hI.1), (fx89 hI.1), (fx90 hI.1), (fx96 hI.1), (fx91 hI.1), (fx92 hI.1), (fx95 hI.1), (fx93 hI.1), (fx94 hI.1), (fx98 hI.1), (fx97 hI.1), (fx85 hI.1), (fx86 hI.1), trivial⟩) rfl (fun _ _ => rfl) ⟨fun _ h => h, fun _ h => tx88 h (fun _ _ q => trivial), fun _ h => trow0 (by omega) h, fun _ h => trow1 (by omega) h, fun _ h => h, fun _ h => h, fun _ h => h, fun _ h => h, fun _ h => h, fun _ h => h, fun _ h => h, fun _ h => h, fun _ h => h, fun _ h => h, fun _ h => h, fun _ h => h, fun _ h => h, fun _ h => h, trivial⟩) (List.range NC) (wN_all cel) ndR (List.range NC) (tC_all ca) 84 7 e39o rfl rfl rfl rfl ⟨(Nat.le_of_ble_eq_true rfl), (Nat.le_of_ble_eq_true rfl)⟩ hl.1 rfl rfl (Nat.le_of_ble_eq_true rfl) ⟨(Nat.le_of_ble_eq_true rfl), (Nat.le_of_ble_eq_true rfl)⟩ dX11_clash_39) (fun cel H locs w39 hI Wd => ?_)
          refine lv_aload_n C.1 C.2.1 dX11_clash_42 rfl (lv_at hl 1 rfl) ?_
          obtain ⟨_, e43, y43_1, rfl, b43_1, c43_1⟩ := at_E (by decide) (fx0 hI.1)
          refine k_get C Wd KX11 0 7 e43 (by decide) fl_X11_57 rfl dX11_clash_43 ?_
          refine lv_iload_n C.1 C.2.1 dX11_clash_46 rfl (lv_at hl 3 rfl) ?_
          refine lv_iload_n C.1 C.2.1 dX11_clash_47 rfl (lv_at hl 4 rfl) ?_
          obtain ⟨_, e48o, y48o_4, rfl⟩ := at_E (by decide) (fx84 hI.1)
          refine k_pi (k_runV (rest := []) C aks Wd cs_X11_235 (wsX7_clashing l D (ad 84) (ad 88) (ad 85) (ad 86) (ad 87) (ca 85) x1 x2 _ ([84, 85].map cel) ⟨(fx84 hI.1), (fx85 hI.1), trivial⟩) [84, 85] (wN_pick [84, 85] (okC_lt (ok_46))) (okC_nd (ok_46)) [85] (tC_ok (ok_46) rfl) 84 7 e48o rfl rfl rfl rfl ⟨(Nat.le_of_ble_eq_true rfl), (Nat.le_of_ble_eq_true rfl)⟩ hl.1 rfl rfl (Nat.le_of_ble_eq_true rfl) ⟨(Nat.le_of_ble_eq_true rfl), (Nat.le_of_ble_eq_true rfl)⟩ dX11_clash_48) (fun r48 w48 => ?_)
          obtain ⟨g48_0, g48_1⟩ := w48
          have g48_0 : 0 ≤ r48.toInt := g48_0
          have g48_1 : r48.toInt ≤ 1 := g48_1
          refine lv_if_eq (tgt := 58) C.1 C.2.1 dX11_clash_51 (by decide) (fun c51 => ?_) (fun c51 => ?_)
          · have i51 : r48.toInt = 0 := kz_eq c51
            refine lv_iconst (v := 0) C.1 C.2.1 dX11_clash_58 (by decide) ?_
            exact kK_zret C hr hlk rfl Wd ⟨(by exact ⟨by have zq0 : (0 : Int32).toInt = 0 := (by decide); omega, by have zq0 : (0 : Int32).toInt = 0 := (by decide); omega⟩), hI⟩ dX11_clash_59
          · have i51 : ¬ r48.toInt = 0 := kz_ne c51
            refine lv_iconst (v := 1) C.1 C.2.1 dX11_clash_54 (by decide) ?_
            refine lv_goto (tgt := 59) C.1 C.2.1 dX11_clash_55 (by decide) ?_
            exact kK_zret C hr hlk rfl Wd ⟨(by exact ⟨by have zq1 : (1 : Int32).toInt = 1 := (by decide); omega, by have zq1 : (1 : Int32).toInt = 1 := (by decide); omega⟩), hI⟩ dX11_clash_59
        · have i28 : x1.toInt = x2.toInt := kz_eq c28
          exact J31 cel _ _ _ ⟨hI, Wd, lv_sub hl [] rfl⟩
