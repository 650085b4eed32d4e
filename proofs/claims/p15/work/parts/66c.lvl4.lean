set_option maxHeartbeats 4000000 in
set_option maxRecDepth 100000 in
theorem gX4_cutDown (l : Launch) (D : va_G) (ad : Nat → Nat) (ca : Nat → ClassId) (T : Value → Prop) (cel : Nat → Cl) (sz : Nat) (i1 : Nat) (hb_i1 : i1 < 6) (x0 : Int32) (hI : InvC ad ca (pTp T) cel) : Met l yX4_cutDown (Cond.code yX4_cutDown cX4_cutDown 7 (some .boolean) :: gG) { frames := 7, cells := 0, slots := 0, locals := 212 } (cPre D (tC ca) (wN NC cel) sz [.ref (ad 31), .int x0, .ref (ad (101 + 2 * i1))]) (va_Qi (fun (r : Int32) (c' : Nat → Cl) => (0 ≤ r.toInt ∧ r.toInt ≤ 1) ∧ InvC ad ca (pTp T) c') (fun c' t => cB D (va_A (wN NC cel) sz) [] (wN NC c') t) (va_A (wN NC cel) sz)) 0 0 (va_A (wN NC cel) sz) := by
  refine Met.ofW (cc := cX4_cutDown) (maxL := 7) (ret := (some .boolean)) (by decide) rfl ?_
  intro p e s m args below meth c s₁ B hml hv
  obtain ⟨rfl, aks, rfl, Wd⟩ := k_enter hv
  have C : CallFix p m c cX4_cutDown 7 s _ gG RX4 := ⟨B.exec, B.bytes, hml, findClass_of_methodNamed B.named, fun w h => atoms_spec (ws := Cond.code yX4_cutDown cX4_cutDown 7 (some .boolean) :: gG) B.pre w (List.mem_cons_of_mem _ h)⟩
  have hr := B.returns
  have hlk := B.notSynchronized
  generalize va_A (wN NC cel) s.heap.size = A at Wd ⊢
  refine k_locals (Nat.le_of_ble_eq_true rfl) [(0, .ref (ad 31)), (1, .int x0), (2, .ref (ad (101 + 2 * i1)))] rfl (fun ls hl => ?_)
  refine lv_aload_n C.1 C.2.1 dX4_cutDown_0 rfl (lv_at hl 2 rfl) ?_
  obtain ⟨_, e1o, y1o_1, rfl, b1o_1, c1o_1⟩ := at_E (by show _ < 233; omega) (frow0 hI (by omega : i1 < 11))
  refine k_pi (k_runV (rest := []) C aks Wd cs_X4_127 (wsX8_statements l D (ad (101 + 2 * i1)) (ad (101 + 2 * i1 + 1)) (ca (101 + 2 * i1 + 1)) (capR i1) _ (by have := capR_hi i1; have := capR_lo i1; omega) (by have := capR_hi i1; have := capR_lo i1; omega) ([(101 + 2 * i1), (101 + 2 * i1 + 1)].map cel) ⟨(frow0 hI (by omega : i1 < 11)), (frow1 hI (by omega : i1 < 11)), trivial⟩) [(101 + 2 * i1), (101 + 2 * i1 + 1)] (wN_pick [(101 + 2 * i1), (101 + 2 * i1 + 1)] (okC_lt (ok_18 i1 (by omega)))) (okC_nd (ok_18 i1 (by omega))) [(101 + 2 * i1 + 1)] (tC_ok (ok_18 i1 (by omega)) rfl) (101 + 2 * i1) 8 e1o rfl rfl rfl rfl ⟨(Nat.le_of_ble_eq_true rfl), (Nat.le_of_ble_eq_true rfl)⟩ hl.1 rfl rfl (Nat.le_of_ble_eq_true rfl) ⟨(Nat.le_of_ble_eq_true rfl), (Nat.le_of_ble_eq_true rfl)⟩ dX4_cutDown_1) (fun r1 w1 => ?_)
  obtain ⟨g1_0, g1_1⟩ := w1
  have g1_0 : 0 ≤ r1.toInt := g1_0
  have g1_1 : r1.toInt ≤ 1000 := g1_1
  refine lv_istore_n (lv' := [(3, .int r1), (0, .ref (ad 31)), (1, .int x0), (2, .ref (ad (101 + 2 * i1)))]) C.1 C.2.1 dX4_cutDown_4 rfl hl (by decide) rfl (fun ls hl => ?_)
  refine lv_iload_n C.1 C.2.1 dX4_cutDown_5 rfl (lv_at hl 0 rfl) ?_
  refine lv_iconst (v := 1) C.1 C.2.1 dX4_cutDown_6 (by decide) ?_
  refine k_cutA (fun (cel : Nat → Cl) H locs ls => InvC ad ca (pTp T) cel ∧ wX D (tC ca) s (wN NC cel) H A s.heap locs ∧ lv_has ls 7 []) (fun (cel : Nat → Cl) ls => F0 m 33 ls []) (fun cel H locs ls hi => ?_) (fun J33 => ?_)
  · obtain ⟨hI, Wd, hl⟩ := hi
    refine lv_iconst (v := 0) C.1 C.2.1 dX4_cutDown_33 (by decide) ?_
    exact kc_zret C hr hlk rfl Wd ⟨(by exact ⟨by have zq0 : (0 : Int32).toInt = 0 := (by decide); omega, by have zq0 : (0 : Int32).toInt = 0 := (by decide); omega⟩), hI⟩ dX4_cutDown_34
  refine lv_icmp_lt (tgt := 33) C.1 C.2.1 dX4_cutDown_7 (by decide) (fun c7 => ?_) (fun c7 => ?_)
  · have i7 : r1.toInt < 1 := kz_lt c7
    exact J33 cel _ _ _ ⟨hI, Wd, lv_sub hl [] rfl⟩
  · have i7 : 1 ≤ r1.toInt := kz_nlt c7
    refine lv_iload_n C.1 C.2.1 dX4_cutDown_10 rfl (lv_at hl 0 rfl) ?_
    refine lv_bipush (v := 12) C.1 C.2.1 dX4_cutDown_11 (by decide) ?_
    refine lv_icmp_gt (tgt := 33) C.1 C.2.1 dX4_cutDown_13 (by decide) (fun c13 => ?_) (fun c13 => ?_)
    · have i13 : 12 < r1.toInt := kz_lt c13
      exact J33 cel _ _ _ ⟨hI, Wd, lv_sub hl [] rfl⟩
    · have i13 : r1.toInt ≤ 12 := kz_nlt c13
      refine lv_aload_n C.1 C.2.1 dX4_cutDown_16 rfl (lv_at hl 1 rfl) ?_
      refine lv_iload_n C.1 C.2.1 dX4_cutDown_17 rfl (lv_at hl 2 rfl) ?_
      refine lv_aload_n C.1 C.2.1 dX4_cutDown_18 rfl (lv_at hl 3 rfl) ?_
      obtain ⟨_, e19o, y19o_3, y19o_4, rfl⟩ := at_E (by decide) (fx31 hI)
      refine kc_i Wd (k_runV (rest := []) C aks Wd cs_X4_109 (gX4_makeOf l D ad ca (T) cel _ i1 (by omega) x0 hI) (List.range NC) (wN_all cel) ndR (List.range NC) (tC_all ca) 31 4 e19o rfl rfl rfl rfl ⟨(Nat.le_of_ble_eq_true rfl), (Nat.le_of_ble_eq_true rfl)⟩ hl.1 rfl rfl (Nat.le_of_ble_eq_true rfl) ⟨(Nat.le_of_ble_eq_true rfl), (Nat.le_of_ble_eq_true rfl)⟩ dX4_cutDown_19) (fun r19 cel H locs w19 hI Wd => ?_)
      obtain ⟨g19_0, g19_1⟩ := w19
      have g19_0 : 0 ≤ r19.toInt := g19_0
      have g19_1 : r19.toInt ≤ 1 := g19_1
      refine lv_if_eq (tgt := 33) C.1 C.2.1 dX4_cutDown_22 (by decide) (fun c22 => ?_) (fun c22 => ?_)
      · have i22 : r19.toInt = 0 := kz_eq c22
        exact J33 cel _ _ _ ⟨hI, Wd, lv_sub hl [] rfl⟩
      · have i22 : ¬ r19.toInt = 0 := kz_ne c22
        refine lv_aload_n C.1 C.2.1 dX4_cutDown_25 rfl (lv_at hl 1 rfl) ?_
        refine lv_aload_n C.1 C.2.1 dX4_cutDown_26 rfl (lv_at hl 3 rfl) ?_
        obtain ⟨_, e27o, y27o_3, y27o_4, rfl⟩ := at_E (by decide) (fx31 hI)
        have hM27 := liftI4 (P' := pTp T) hI (ok_19 i1 (by omega)) (wsX4_madeWrong l D (ad 31) (ad (101 + 2 * i1)) (ad 32) (ad 119) (ad 113) (ad 67) (ad 68) (ad 69) (ad 70) (ad 115) (ad (101 + 2 * i1 + 1)) (ad 120) (ad 33) (ad 50) (ad 37) (ad 34) (ad 35) (ad 36) (ad 38) (ad 39) (ad 40) (ad 41) (ad 42) (ad 43) (ad 44) (ad 45) (ad 46) (ad 47) (ad 48) (ad 49) (ad 54) (ad 51) (ad 52) (ad 53) (ad 55) (ad 56) (ad 57) (ad 58) (ad 59) (ad 60) (ad 61) (ad 62) (ad 63) (ad 64) (ad 65) (ad 66) (ca (101 + 2 * i1 + 1)) (ca 120) (ca 49) (ca 48) (ca 38) (ca 39) (ca 45) (ca 40) (ca 41) (ca 44) (ca 42) (ca 43) (ca 47) (ca 46) (ca 66) (ca 65) (ca 55) (ca 56) (ca 62) (ca 57) (ca 58) (ca 61) (ca 59) (ca 60) (ca 64) (ca 63) (ca 35) (ca 36) (ca 34) (ca 52) (ca 53) (ca 51) (capR i1) 1000 _ (by have := capR_hi i1; have := capR_lo i1; omega) (by have := capR_hi i1; have := capR_lo i1; omega) (by omega) (by omega) ([31, (101 + 2 * i1), (101 + 2 * i1 + 1), 119, 120, 32, 33, 37, 49, 48, 38, 39, 45, 40, 41, 44, 42, 43, 47, 46, 50, 54, 66, 65, 55, 56, 62, 57, 58, 61, 59, 60, 64, 63, 35, 36, 34, 52, 53, 51].map cel) ⟨(fx31 hI), (frow0 hI (by omega : i1 < 11)), (frow1 hI (by omega : i1 < 11)), (fx119 hI), (fx120 hI), (fx32 hI), (fx33 hI), (fx37 hI), (fx49 hI), (fx48 hI), (fx38 hI), (fx39 hI), (fx45 hI), (fx40 hI), (fx41 hI), (fx44 hI), (fx42 hI), (fx43 hI), (fx47 hI), (fx46 hI), (fx50 hI), (fx54 hI), (fx66 hI), (fx65 hI), (fx55 hI), (fx56 hI), (fx62 hI), (fx57 hI), (fx58 hI), (fx61 hI), (fx59 hI), (fx60 hI), (fx64 hI), (fx63 hI), (fx35 hI), (fx36 hI), (fx34 hI), (fx52 hI), (fx53 hI), (fx51 hI), trivial⟩) rfl (fun _ _ => rfl) ⟨fun _ h => h, fun _ h => trow0 (by omega) h, fun _ h => trow1 (by omega) h, fun _ h => h, fun _ h => h, fun _ h => h, fun _ h => h, fun _ h => tx37 h (fun _ _ q => trivial), fun _ h => h, fun _ h => h, fun _ h => h, fun _ h => h, fun _ h => h, fun _ h => h, fun _ h => h, fun _ h => h, fun _ h => h, fun _ h => h, fun _ h => h, fun _ h => h, fun _ h => h, fun _ h => tx54 h (fun _ _ q => trivial), fun _ h => h, fun _ h => h, fun _ h => h, fun _ h => h, fun _ h => h, fun _ h => h, fun _ h => h, fun _ h => h, fun _ h => h, fun _ h => h, fun _ h => h, fun _ h => h, fun _ h => h, fun _ h => h, fun _ h => h, fun _ h => h, fun _ h => h, fun _ h => h, trivial⟩
        refine kc_i Wd (k_runV (rest := []) C aks Wd cs_X4_113 hM27 (List.range NC) (wN_all cel) ndR (List.range NC) (tC_all ca) 31 4 e27o rfl rfl rfl rfl ⟨(Nat.le_of_ble_eq_true rfl), (Nat.le_of_ble_eq_true rfl)⟩ hl.1 rfl rfl (Nat.le_of_ble_eq_true rfl) ⟨(Nat.le_of_ble_eq_true rfl), (Nat.le_of_ble_eq_true rfl)⟩ dX4_cutDown_27) (fun r27 cel H locs w27 hI Wd => ?_)
        obtain ⟨g27_0, g27_1⟩ := w27
        have g27_0 : 0 ≤ r27.toInt := g27_0
        have g27_1 : r27.toInt ≤ 1 := g27_1
        refine lv_if_ne (tgt := 35) C.1 C.2.1 dX4_cutDown_30 (by decide) (fun c30 => ?_) (fun c30 => ?_)
        · have i30 : ¬ r27.toInt = 0 := kz_ne c30
          refine lv_aload_n C.1 C.2.1 dX4_cutDown_35 rfl (lv_at hl 1 rfl) ?_
          obtain ⟨_, e36, y36_3, y36_4, rfl⟩ := at_E (by decide) (fx31 hI)
          refine k_get C Wd KX4 31 2 e36 (by decide) fl_X4_43 rfl dX4_cutDown_36 ?_
          refine lv_aload_n C.1 C.2.1 dX4_cutDown_39 rfl (lv_at hl 3 rfl) ?_
          obtain ⟨_, e40o, y40o_1, rfl, b40o_1, c40o_1⟩ := at_E (by decide) (fx113 hI)
          have hM40 := liftV4 (P' := pTp T) hI (ok_15 i1 (by omega)) (wsX8_copy l D (ad 113) (ad (101 + 2 * i1)) (ad (101 + 2 * i1 + 1)) (ad 114) (ca (101 + 2 * i1 + 1)) (ca 114) (capR i1) 480 _ (by have := capR_hi i1; have := capR_lo i1; omega) (by have := capR_hi i1; have := capR_lo i1; omega) (by omega) (by omega) ([(101 + 2 * i1), (101 + 2 * i1 + 1), 113, 114].map cel) ⟨(frow0 hI (by omega : i1 < 11)), (frow1 hI (by omega : i1 < 11)), (fx113 hI), (fx114 hI), trivial⟩) rfl (fun _ _ => rfl) ⟨fun _ h => trow0 (by omega) h, fun _ h => trow1 (by omega) h, fun _ h => h, fun _ h => h, trivial⟩
          refine kc_v Wd (k_runV (rest := []) C aks Wd cs_X4_67 hM40 (List.range NC) (wN_all cel) ndR (List.range NC) (tC_all ca) 113 8 e40o rfl rfl rfl rfl ⟨(Nat.le_of_ble_eq_true rfl), (Nat.le_of_ble_eq_true rfl)⟩ hl.1 rfl rfl (Nat.le_of_ble_eq_true rfl) ⟨(Nat.le_of_ble_eq_true rfl), (Nat.le_of_ble_eq_true rfl)⟩ dX4_cutDown_40) (fun cel H locs w40 hI Wd => ?_)
          refine lv_iconst (v := 1) C.1 C.2.1 dX4_cutDown_43 (by decide) ?_
          refine lv_istore (lv' := [(4, .int 1), (3, .int r1), (0, .ref (ad 31)), (1, .int x0), (2, .ref (ad (101 + 2 * i1)))]) C.1 C.2.1 dX4_cutDown_44 hl (by decide) rfl (fun ls hl => ?_)
          refine lv_iconst (v := 0) C.1 C.2.1 dX4_cutDown_46 (by decide) ?_
          refine lv_istore (lv' := [(5, .int 0), (4, .int 1), (3, .int r1), (0, .ref (ad 31)), (1, .int x0), (2, .ref (ad (101 + 2 * i1)))]) C.1 C.2.1 dX4_cutDown_47 hl (by decide) rfl (fun ls hl => ?_)
          refine k_loopA (fun (u : (Nat → Cl) × (Int32) × (Int32)) H locs ls => match u with | (cel, j49_L_4, j49_L_5) => 0 ≤ j49_L_4.toInt ∧ 0 ≤ j49_L_5.toInt ∧ j49_L_4.toInt ≤ 1 ∧ j49_L_5.toInt ≤ 13 ∧ InvC ad ca (pTp T) cel ∧ wX D (tC ca) s (wN NC cel) H A s.heap locs ∧ lv_has ls 7 [(5, .int j49_L_5), (4, .int j49_L_4), (0, .ref (ad 31)), (1, .int x0)]) (fun (u : (Nat → Cl) × (Int32) × (Int32)) ls => match u with | (cel, j49_L_4, j49_L_5) => F0 m 49 ls []) (fun (u : (Nat → Cl) × (Int32) × (Int32)) => match u with | (cel, j49_L_4, j49_L_5) => (14 - j49_L_5.toInt).toNat) (fun u H locs ls hi ih49 => ?_) (cel, 1, 0) _ _ _ ⟨by have zq1 : (1 : Int32).toInt = 1 := (by decide); omega, by have zq0 : (0 : Int32).toInt = 0 := (by decide); omega, by have zq1 : (1 : Int32).toInt = 1 := (by decide); omega, by have zq0 : (0 : Int32).toInt = 0 := (by decide); omega, hI, Wd, lv_sub hl [0, 1, 3, 4] rfl⟩
          obtain ⟨cel, j49_L_4, j49_L_5⟩ := u
          obtain ⟨i49_0, i49_1, i49_2, i49_3, hI, Wd, hl⟩ := hi
          refine lv_iload C.1 C.2.1 dX4_cutDown_49 (lv_at hl 0 rfl) ?_
          refine lv_bipush (v := 12) C.1 C.2.1 dX4_cutDown_51 (by decide) ?_
          refine k_cutA (fun (cel : Nat → Cl) H locs ls => j49_L_4.toInt ≤ j49_L_5.toInt ∧ InvC ad ca (pTp T) cel ∧ wX D (tC ca) s (wN NC cel) H A s.heap locs ∧ lv_has ls 7 []) (fun (cel : Nat → Cl) ls => F0 m 186 ls []) (fun cel H locs ls hi => ?_) (fun J186 => ?_)
          · obtain ⟨i186_0, hI, Wd, hl⟩ := hi
            refine lv_iconst (v := 1) C.1 C.2.1 dX4_cutDown_186 (by decide) ?_
            exact kc_zret C hr hlk rfl Wd ⟨(by exact ⟨by have zq1 : (1 : Int32).toInt = 1 := (by decide); omega, by have zq1 : (1 : Int32).toInt = 1 := (by decide); omega⟩), hI⟩ dX4_cutDown_187
          refine lv_icmp_ge (tgt := 186) C.1 C.2.1 dX4_cutDown_53 (by decide) (fun c53 => ?_) (fun c53 => ?_)
          · have i53 : 12 ≤ j49_L_5.toInt := kz_le c53
            exact J186 cel _ _ _ ⟨by omega, hI, Wd, lv_sub hl [] rfl⟩
          · have i53 : j49_L_5.toInt < 12 := kz_nle c53
            refine lv_iload C.1 C.2.1 dX4_cutDown_56 (lv_at hl 1 rfl) ?_
            refine lv_if_eq (tgt := 186) C.1 C.2.1 dX4_cutDown_58 (by decide) (fun c58 => ?_) (fun c58 => ?_)
            · have i58 : j49_L_4.toInt = 0 := kz_eq c58
              exact J186 cel _ _ _ ⟨by omega, hI, Wd, lv_sub hl [] rfl⟩
            · have i58 : ¬ j49_L_4.toInt = 0 := kz_ne c58
              refine lv_iconst (v := 0) C.1 C.2.1 dX4_cutDown_61 (by decide) ?_
              refine lv_istore (lv' := [(4, .int 0), (5, .int j49_L_5), (0, .ref (ad 31)), (1, .int x0)]) C.1 C.2.1 dX4_cutDown_62 hl (by decide) rfl (fun ls hl => ?_)
              refine lv_iconst (v := 0) C.1 C.2.1 dX4_cutDown_64 (by decide) ?_
              refine lv_istore (lv' := [(6, .int 0), (4, .int 0), (5, .int j49_L_5), (0, .ref (ad 31)), (1, .int x0)]) C.1 C.2.1 dX4_cutDown_65 hl (by decide) rfl (fun ls hl => ?_)
              refine k_loopA (fun (u : (Nat → Cl) × (Int32) × (Int32) × (Int32)) H locs ls => match u with | (cel, j67_L_4, j67_L_5, j67_L_6) => 0 ≤ j67_L_4.toInt ∧ 0 ≤ j67_L_5.toInt ∧ 0 ≤ j67_L_6.toInt ∧ j67_L_4.toInt ≤ 1 ∧ j67_L_5.toInt ≤ 12 ∧ j67_L_6.toInt ≤ 480 ∧ j49_L_5.toInt ≤ j67_L_5.toInt ∧ j67_L_4.toInt ≤ j67_L_6.toInt ∧ j67_L_5.toInt ≤ j49_L_5.toInt ∧ InvC ad ca (pTp T) cel ∧ wX D (tC ca) s (wN NC cel) H A s.heap locs ∧ lv_has ls 7 [(6, .int j67_L_6), (4, .int j67_L_4), (5, .int j67_L_5), (0, .ref (ad 31)), (1, .int x0)]) (fun (u : (Nat → Cl) × (Int32) × (Int32) × (Int32)) ls => match u with | (cel, j67_L_4, j67_L_5, j67_L_6) => F0 m 67 ls []) (fun (u : (Nat → Cl) × (Int32) × (Int32) × (Int32)) => match u with | (cel, j67_L_4, j67_L_5, j67_L_6) => (481 - j67_L_6.toInt).toNat) (fun u H locs ls hi ih67 => ?_) (cel, 0, j49_L_5, 0) _ _ _ ⟨by have zq0 : (0 : Int32).toInt = 0 := (by decide); omega, by omega, by have zq0 : (0 : Int32).toInt = 0 := (by decide); omega, by have zq0 : (0 : Int32).toInt = 0 := (by decide); omega, by omega, by have zq0 : (0 : Int32).toInt = 0 := (by decide); omega, by omega, by have zq0 : (0 : Int32).toInt = 0 := (by decide); omega, by omega, hI, Wd, lv_sub hl [0, 1, 2, 3, 4] rfl⟩
              obtain ⟨cel, j67_L_4, j67_L_5, j67_L_6⟩ := u
              obtain ⟨i67_0, i67_1, i67_2, i67_3, i67_4, i67_5, i67_6, i67_7, i67_8, hI, Wd, hl⟩ := hi
              refine lv_iload C.1 C.2.1 dX4_cutDown_67 (lv_at hl 0 rfl) ?_
              refine lv_aload_n C.1 C.2.1 dX4_cutDown_69 rfl (lv_at hl 3 rfl) ?_
              obtain ⟨_, e70, y70_3, y70_4, rfl⟩ := at_E (by decide) (fx31 hI)
              refine k_get C Wd KX4 31 2 e70 (by decide) fl_X4_43 rfl dX4_cutDown_70 ?_
              obtain ⟨_, e73, y73_1, rfl, b73_1, c73_1⟩ := at_E (by decide) (fx113 hI)
              refine k_get C Wd KX8 113 1 e73 (by decide) fl_X4_131 rfl dX4_cutDown_73 ?_
              refine k_cutA (fun (cel : Nat → Cl) H locs ls => y73_1.toInt ≤ j67_L_6.toInt + 479 ∧ InvC ad ca (pTp T) cel ∧ wX D (tC ca) s (wN NC cel) H A s.heap locs ∧ lv_has ls 7 [(4, .int j67_L_4), (5, .int j67_L_5), (0, .ref (ad 31)), (1, .int x0)]) (fun (cel : Nat → Cl) ls => F0 m 164 ls []) (fun cel H locs ls hi => ?_) (fun J164 => ?_)
              · obtain ⟨i164_0, hI, Wd, hl⟩ := hi
                refine lv_iload C.1 C.2.1 dX4_cutDown_164 (lv_at hl 0 rfl) ?_
                refine k_cutA (fun (cel : Nat → Cl) H locs ls => InvC ad ca (pTp T) cel ∧ wX D (tC ca) s (wN NC cel) H A s.heap locs ∧ lv_has ls 7 [(4, .int j67_L_4), (5, .int j67_L_5), (0, .ref (ad 31)), (1, .int x0)]) (fun (cel : Nat → Cl) ls => F0 m 180 ls []) (fun cel H locs ls hi => ?_) (fun J180 => ?_)
                · obtain ⟨hI, Wd, hl⟩ := hi
                  obtain ⟨v180, ev180⟩ : ∃ z : Int32, j67_L_5 + 1 = z := ⟨_, rfl⟩
                  have iv180 : v180.toInt = j67_L_5.toInt + 1 := kz_addc ev180 (by decide) (by have zr0 := kz_rng j67_L_5; omega) (by have zr0 := kz_rng j67_L_5; omega)
                  refine lv_iinc (v := v180) (lv' := [(5, .int v180), (4, .int j67_L_4), (0, .ref (ad 31)), (1, .int x0)]) C.1 C.2.1 dX4_cutDown_180 hl (k := 1) rfl ev180 (by decide) rfl (fun ls hl => ?_)
                  refine lv_goto (tgt := 49) C.1 C.2.1 dX4_cutDown_183 (by decide) ?_
                  exact ih49 (cel, j67_L_4, v180) _ _ _ ⟨by omega, by omega, by omega, by omega, hI, Wd, lv_sub hl [0, 1, 2, 3] rfl⟩ (by show (14 - v180.toInt).toNat < (14 - j49_L_5.toInt).toNat; omega)
                refine lv_if_eq (tgt := 180) C.1 C.2.1 dX4_cutDown_166 (by decide) (fun c166 => ?_) (fun c166 => ?_)
                · have i166 : j67_L_4.toInt = 0 := kz_eq c166
                  exact J180 cel _ _ _ ⟨hI, Wd, lv_sub hl [0, 1, 2, 3] rfl⟩
                · have i166 : ¬ j67_L_4.toInt = 0 := kz_ne c166
                  refine lv_aload_n C.1 C.2.1 dX4_cutDown_169 rfl (lv_at hl 2 rfl) ?_
                  obtain ⟨_, e170, y170_3, y170_4, rfl⟩ := at_E (by decide) (fx31 hI)
                  refine k_get C Wd KX4 31 2 e170 (by decide) fl_X4_43 rfl dX4_cutDown_170 ?_
                  refine lv_aload_n C.1 C.2.1 dX4_cutDown_173 rfl (lv_at hl 2 rfl) ?_
                  obtain ⟨_, e174, y174_3, y174_4, rfl⟩ := at_E (by decide) (fx31 hI)
                  refine k_get C Wd KX4 31 9 e174 (by decide) fl_X4_46 rfl dX4_cutDown_174 ?_
                  obtain ⟨_, e177o, y177o_1, rfl, b177o_1, c177o_1⟩ := at_E (by decide) (fx113 hI)
                  have hM177 := liftV4 (P' := pTp T) hI (ok_24) (wsX8_copy l D (ad 113) (ad 115) (ad 116) (ad 114) (ca 116) (ca 114) 480 480 _ (by omega) (by omega) (by omega) (by omega) ([115, 116, 113, 114].map cel) ⟨(fx115 hI), (fx116 hI), (fx113 hI), (fx114 hI), trivial⟩) rfl (fun _ _ => rfl) ⟨fun _ h => h, fun _ h => h, fun _ h => h, fun _ h => h, trivial⟩
                  refine kc_v Wd (k_runV (rest := []) C aks Wd cs_X4_67 hM177 (List.range NC) (wN_all cel) ndR (List.range NC) (tC_all ca) 113 8 e177o rfl rfl rfl rfl ⟨(Nat.le_of_ble_eq_true rfl), (Nat.le_of_ble_eq_true rfl)⟩ hl.1 rfl rfl (Nat.le_of_ble_eq_true rfl) ⟨(Nat.le_of_ble_eq_true rfl), (Nat.le_of_ble_eq_true rfl)⟩ dX4_cutDown_177) (fun cel H locs w177 hI Wd => ?_)
                  exact J180 cel _ _ _ ⟨hI, Wd, lv_sub hl [0, 1, 2, 3] rfl⟩
              refine lv_icmp_ge (tgt := 164) C.1 C.2.1 dX4_cutDown_76 (by decide) (fun c76 => ?_) (fun c76 => ?_)
              · have i76 : y73_1.toInt ≤ j67_L_6.toInt := kz_le c76
                exact J164 cel _ _ _ ⟨by omega, hI, Wd, lv_sub hl [1, 2, 3, 4] rfl⟩
              · have i76 : j67_L_6.toInt < y73_1.toInt := kz_nle c76
                refine lv_iload C.1 C.2.1 dX4_cutDown_79 (lv_at hl 1 rfl) ?_
                refine lv_if_ne (tgt := 164) C.1 C.2.1 dX4_cutDown_81 (by decide) (fun c81 => ?_) (fun c81 => ?_)
                · have i81 : ¬ j67_L_4.toInt = 0 := kz_ne c81
                  exact J164 cel _ _ _ ⟨by omega, hI, Wd, lv_sub hl [1, 2, 3, 4] rfl⟩
                · have i81 : j67_L_4.toInt = 0 := kz_eq c81
                  refine lv_aload_n C.1 C.2.1 dX4_cutDown_84 rfl (lv_at hl 3 rfl) ?_
                  obtain ⟨_, e85, y85_3, y85_4, rfl⟩ := at_E (by decide) (fx31 hI)
                  refine k_get C Wd KX4 31 2 e85 (by decide) fl_X4_43 rfl dX4_cutDown_85 ?_
                  refine lv_iload C.1 C.2.1 dX4_cutDown_88 (lv_at hl 0 rfl) ?_
                  obtain ⟨_, e90o, y90o_1, rfl, b90o_1, c90o_1⟩ := at_E (by decide) (fx113 hI)
                  refine k_pi (k_runV (rest := []) C aks Wd cs_X4_134 (wsX8_cell l D (ad 113) (ad 114) (ca 114) 480 j67_L_6 _ (by omega) (by omega) ([113, 114].map cel) ⟨(fx113 hI), (fx114 hI), trivial⟩) [113, 114] (wN_pick [113, 114] (okC_lt (ok_20))) (okC_nd (ok_20)) [114] (tC_ok (ok_20) rfl) 113 8 e90o rfl rfl rfl rfl ⟨(Nat.le_of_ble_eq_true rfl), (Nat.le_of_ble_eq_true rfl)⟩ hl.1 rfl rfl (Nat.le_of_ble_eq_true rfl) ⟨(Nat.le_of_ble_eq_true rfl), (Nat.le_of_ble_eq_true rfl)⟩ dX4_cutDown_90) (fun r90 w90 => ?_)
                  refine k_pi (k_runS (rest := []) C aks Wd cs_X4_138 (wsX8_isStatement l D r90 _ ([].map cel) ⟨trivial⟩) [] (wN_pick [] (okC_lt (ok_1))) (okC_nd (ok_1)) [] (tC_ok (ok_1) rfl)  rfl rfl ⟨(Nat.le_of_ble_eq_true rfl), (Nat.le_of_ble_eq_true rfl)⟩ hl.1 rfl rfl (Nat.le_of_ble_eq_true rfl) ⟨(Nat.le_of_ble_eq_true rfl), (Nat.le_of_ble_eq_true rfl)⟩ dX4_cutDown_93) (fun r93 w93 => ?_)
                  obtain ⟨g93_0, g93_1⟩ := w93
                  have g93_0 : 0 ≤ r93.toInt := g93_0
                  have g93_1 : r93.toInt ≤ 1 := g93_1
                  refine k_cutA (fun (u : (Nat → Cl) × (Int32)) H locs ls => match u with | (cel, j158_L_4) => 0 ≤ j158_L_4.toInt ∧ j158_L_4.toInt ≤ 1 ∧ j158_L_4.toInt ≤ r93.toInt ∧ InvC ad ca (pTp T) cel ∧ wX D (tC ca) s (wN NC cel) H A s.heap locs ∧ lv_has ls 7 [(6, .int j67_L_6), (4, .int j158_L_4), (5, .int j67_L_5), (0, .ref (ad 31)), (1, .int x0)]) (fun (u : (Nat → Cl) × (Int32)) ls => match u with | (cel, j158_L_4) => F0 m 158 ls []) (fun u H locs ls hi => ?_) (fun J158 => ?_)
                  · obtain ⟨cel, j158_L_4⟩ := u
                    obtain ⟨i158_0, i158_1, i158_2, hI, Wd, hl⟩ := hi
                    obtain ⟨v158, ev158⟩ : ∃ z : Int32, j67_L_6 + 1 = z := ⟨_, rfl⟩
                    have iv158 : v158.toInt = j67_L_6.toInt + 1 := kz_addc ev158 (by decide) (by have zr0 := kz_rng j67_L_6; omega) (by have zr0 := kz_rng j67_L_6; omega)
                    refine lv_iinc (v := v158) (lv' := [(6, .int v158), (4, .int j158_L_4), (5, .int j67_L_5), (0, .ref (ad 31)), (1, .int x0)]) C.1 C.2.1 dX4_cutDown_158 hl (k := 0) rfl ev158 (by decide) rfl (fun ls hl => ?_)
                    refine lv_goto (tgt := 67) C.1 C.2.1 dX4_cutDown_161 (by decide) ?_
                    exact ih67 (cel, j158_L_4, j67_L_5, v158) _ _ _ ⟨by omega, by omega, by omega, by omega, by omega, by omega, by omega, by omega, by omega, hI, Wd, lv_sub hl [0, 1, 2, 3, 4] rfl⟩ (by show (481 - v158.toInt).toNat < (481 - j67_L_6.toInt).toNat; omega)
                  refine lv_if_eq (tgt := 158) C.1 C.2.1 dX4_cutDown_96 (by decide) (fun c96 => ?_) (fun c96 => ?_)
                  · have i96 : r93.toInt = 0 := kz_eq c96
                    exact J158 (cel, j67_L_4) _ _ _ ⟨by omega, by omega, by omega, hI, Wd, lv_sub hl [0, 1, 2, 3, 4] rfl⟩
                  · have i96 : ¬ r93.toInt = 0 := kz_ne c96
                    refine lv_aload_n C.1 C.2.1 dX4_cutDown_99 rfl (lv_at hl 3 rfl) ?_
                    obtain ⟨_, e100, y100_3, y100_4, rfl⟩ := at_E (by decide) (fx31 hI)
                    refine k_get C Wd KX4 31 9 e100 (by decide) fl_X4_46 rfl dX4_cutDown_100 ?_
                    refine lv_aload_n C.1 C.2.1 dX4_cutDown_103 rfl (lv_at hl 3 rfl) ?_
                    obtain ⟨_, e104, y104_3, y104_4, rfl⟩ := at_E (by decide) (fx31 hI)
                    refine k_get C Wd KX4 31 2 e104 (by decide) fl_X4_43 rfl dX4_cutDown_104 ?_
                    obtain ⟨_, e107o, y107o_1, rfl, b107o_1, c107o_1⟩ := at_E (by decide) (fx115 hI)
                    have hM107 := liftV4 (P' := pTp T) hI (ok_21) (wsX8_copy l D (ad 115) (ad 113) (ad 114) (ad 116) (ca 114) (ca 116) 480 480 _ (by omega) (by omega) (by omega) (by omega) ([113, 114, 115, 116].map cel) ⟨(fx113 hI), (fx114 hI), (fx115 hI), (fx116 hI), trivial⟩) rfl (fun _ _ => rfl) ⟨fun _ h => h, fun _ h => h, fun _ h => h, fun _ h => h, trivial⟩
                    refine kc_v Wd (k_runV (rest := []) C aks Wd cs_X4_67 hM107 (List.range NC) (wN_all cel) ndR (List.range NC) (tC_all ca) 115 8 e107o rfl rfl rfl rfl ⟨(Nat.le_of_ble_eq_true rfl), (Nat.le_of_ble_eq_true rfl)⟩ hl.1 rfl rfl (Nat.le_of_ble_eq_true rfl) ⟨(Nat.le_of_ble_eq_true rfl), (Nat.le_of_ble_eq_true rfl)⟩ dX4_cutDown_107) (fun cel H locs w107 hI Wd => ?_)
                    refine lv_aload_n C.1 C.2.1 dX4_cutDown_110 rfl (lv_at hl 3 rfl) ?_
                    obtain ⟨_, e111, y111_3, y111_4, rfl⟩ := at_E (by decide) (fx31 hI)
                    refine k_get C Wd KX4 31 9 e111 (by decide) fl_X4_46 rfl dX4_cutDown_111 ?_
                    refine lv_iload C.1 C.2.1 dX4_cutDown_114 (lv_at hl 0 rfl) ?_
                    refine lv_aload_n C.1 C.2.1 dX4_cutDown_116 rfl (lv_at hl 3 rfl) ?_
                    obtain ⟨_, e117, y117_3, y117_4, rfl⟩ := at_E (by decide) (fx31 hI)
                    refine k_get C Wd KX4 31 2 e117 (by decide) fl_X4_43 rfl dX4_cutDown_117 ?_
                    refine lv_iload C.1 C.2.1 dX4_cutDown_120 (lv_at hl 0 rfl) ?_
                    obtain ⟨_, e122o, y122o_1, rfl, b122o_1, c122o_1⟩ := at_E (by decide) (fx113 hI)
                    refine k_pi (k_runV (rest := [.int j67_L_6, .ref (ad 115)]) C aks Wd cs_X4_141 (wsX8_statementEnd l D (ad 113) (ad 114) (ca 114) 480 j67_L_6 _ (by omega) (by omega) ([113, 114].map cel) ⟨(fx113 hI), (fx114 hI), trivial⟩) [113, 114] (wN_pick [113, 114] (okC_lt (ok_20))) (okC_nd (ok_20)) [114] (tC_ok (ok_20) rfl) 113 8 e122o rfl rfl rfl rfl ⟨(Nat.le_of_ble_eq_true rfl), (Nat.le_of_ble_eq_true rfl)⟩ hl.1 rfl rfl (Nat.le_of_ble_eq_true rfl) ⟨(Nat.le_of_ble_eq_true rfl), (Nat.le_of_ble_eq_true rfl)⟩ dX4_cutDown_122) (fun r122 w122 => ?_)
                    obtain ⟨_, e125o, y125o_1, rfl, b125o_1, c125o_1⟩ := at_E (by decide) (fx115 hI)
                    have hM125 := liftV4 (P' := pTp T) hI (ok_22) (wsX8_remove l D (ad 115) (ad 116) (ca 116) 480 j67_L_6 r122 _ (by omega) (by omega) ([115, 116].map cel) ⟨(fx115 hI), (fx116 hI), trivial⟩) rfl (fun _ _ => rfl) ⟨fun _ h => h, fun _ h => h, trivial⟩
                    refine kc_v Wd (k_runV (rest := []) C aks Wd cs_X4_144 hM125 (List.range NC) (wN_all cel) ndR (List.range NC) (tC_all ca) 115 8 e125o rfl rfl rfl rfl ⟨(Nat.le_of_ble_eq_true rfl), (Nat.le_of_ble_eq_true rfl)⟩ hl.1 rfl rfl (Nat.le_of_ble_eq_true rfl) ⟨(Nat.le_of_ble_eq_true rfl), (Nat.le_of_ble_eq_true rfl)⟩ dX4_cutDown_125) (fun cel H locs w125 hI Wd => ?_)
                    refine lv_aload_n C.1 C.2.1 dX4_cutDown_128 rfl (lv_at hl 3 rfl) ?_
                    refine lv_iload_n C.1 C.2.1 dX4_cutDown_129 rfl (lv_at hl 4 rfl) ?_
                    refine lv_aload_n C.1 C.2.1 dX4_cutDown_130 rfl (lv_at hl 3 rfl) ?_
                    obtain ⟨_, e131, y131_3, y131_4, rfl⟩ := at_E (by decide) (fx31 hI)
                    refine k_get C Wd KX4 31 9 e131 (by decide) fl_X4_46 rfl dX4_cutDown_131 ?_
                    obtain ⟨_, e134o, y134o_3, y134o_4, rfl⟩ := at_E (by decide) (fx31 hI)
                    refine kc_i Wd (k_runV (rest := []) C aks Wd cs_X4_109 (gX4_makeOf l D ad ca (T) cel _ 7 (by decide) x0 hI) (List.range NC) (wN_all cel) ndR (List.range NC) (tC_all ca) 31 4 e134o rfl rfl rfl rfl ⟨(Nat.le_of_ble_eq_true rfl), (Nat.le_of_ble_eq_true rfl)⟩ hl.1 rfl rfl (Nat.le_of_ble_eq_true rfl) ⟨(Nat.le_of_ble_eq_true rfl), (Nat.le_of_ble_eq_true rfl)⟩ dX4_cutDown_134) (fun r134 cel H locs w134 hI Wd => ?_)
                    obtain ⟨g134_0, g134_1⟩ := w134
                    have g134_0 : 0 ≤ r134.toInt := g134_0
                    have g134_1 : r134.toInt ≤ 1 := g134_1
                    refine k_cutA (fun (u : (Nat → Cl) × (Int32)) H locs ls => match u with | (cel, j156_S_0) => 0 ≤ j156_S_0.toInt ∧ j156_S_0.toInt ≤ 1 ∧ j156_S_0.toInt ≤ r134.toInt ∧ InvC ad ca (pTp T) cel ∧ wX D (tC ca) s (wN NC cel) H A s.heap locs ∧ lv_has ls 7 [(6, .int j67_L_6), (5, .int j67_L_5), (0, .ref (ad 31)), (1, .int x0)]) (fun (u : (Nat → Cl) × (Int32)) ls => match u with | (cel, j156_S_0) => F0 m 156 ls [.int j156_S_0]) (fun u H locs ls hi => ?_) (fun J156 => ?_)
                    · obtain ⟨cel, j156_S_0⟩ := u
                      obtain ⟨i156_0, i156_1, i156_2, hI, Wd, hl⟩ := hi
                      refine lv_istore (lv' := [(4, .int j156_S_0), (6, .int j67_L_6), (5, .int j67_L_5), (0, .ref (ad 31)), (1, .int x0)]) C.1 C.2.1 dX4_cutDown_156 hl (by decide) rfl (fun ls hl => ?_)
                      exact J158 (cel, j156_S_0) _ _ _ ⟨by omega, by omega, by omega, hI, Wd, lv_sub hl [1, 0, 2, 3, 4] rfl⟩
                    refine k_cutA (fun (cel : Nat → Cl) H locs ls => InvC ad ca (pTp T) cel ∧ wX D (tC ca) s (wN NC cel) H A s.heap locs ∧ lv_has ls 7 [(6, .int j67_L_6), (5, .int j67_L_5), (0, .ref (ad 31)), (1, .int x0)]) (fun (cel : Nat → Cl) ls => F0 m 155 ls []) (fun cel H locs ls hi => ?_) (fun J155 => ?_)
                    · obtain ⟨hI, Wd, hl⟩ := hi
                      refine lv_iconst (v := 0) C.1 C.2.1 dX4_cutDown_155 (by decide) ?_
                      exact J156 (cel, 0) _ _ _ ⟨by have zq0 : (0 : Int32).toInt = 0 := (by decide); omega, by have zq0 : (0 : Int32).toInt = 0 := (by decide); omega, by have zq0 : (0 : Int32).toInt = 0 := (by decide); omega, hI, Wd, lv_sub hl [0, 1, 2, 3] rfl⟩
                    refine lv_if_eq (tgt := 155) C.1 C.2.1 dX4_cutDown_137 (by decide) (fun c137 => ?_) (fun c137 => ?_)
                    · have i137 : r134.toInt = 0 := kz_eq c137
                      exact J155 cel _ _ _ ⟨hI, Wd, lv_sub hl [0, 2, 3, 4] rfl⟩
                    · have i137 : ¬ r134.toInt = 0 := kz_ne c137
                      refine lv_aload_n C.1 C.2.1 dX4_cutDown_140 rfl (lv_at hl 3 rfl) ?_
                      refine lv_aload_n C.1 C.2.1 dX4_cutDown_141 rfl (lv_at hl 3 rfl) ?_
                      obtain ⟨_, e142, y142_3, y142_4, rfl⟩ := at_E (by decide) (fx31 hI)
                      refine k_get C Wd KX4 31 9 e142 (by decide) fl_X4_46 rfl dX4_cutDown_142 ?_
                      obtain ⟨_, e145o, y145o_3, y145o_4, rfl⟩ := at_E (by decide) (fx31 hI)
                      have hM145 := liftI4 (P' := pTp T) hI (ok_23) (wsX4_madeWrong l D (ad 31) (ad 115) (ad 32) (ad 119) (ad 113) (ad 67) (ad 68) (ad 69) (ad 70) (ad 115) (ad 116) (ad 120) (ad 33) (ad 50) (ad 37) (ad 34) (ad 35) (ad 36) (ad 38) (ad 39) (ad 40) (ad 41) (ad 42) (ad 43) (ad 44) (ad 45) (ad 46) (ad 47) (ad 48) (ad 49) (ad 54) (ad 51) (ad 52) (ad 53) (ad 55) (ad 56) (ad 57) (ad 58) (ad 59) (ad 60) (ad 61) (ad 62) (ad 63) (ad 64) (ad 65) (ad 66) (ca 116) (ca 120) (ca 49) (ca 48) (ca 38) (ca 39) (ca 45) (ca 40) (ca 41) (ca 44) (ca 42) (ca 43) (ca 47) (ca 46) (ca 66) (ca 65) (ca 55) (ca 56) (ca 62) (ca 57) (ca 58) (ca 61) (ca 59) (ca 60) (ca 64) (ca 63) (ca 35) (ca 36) (ca 34) (ca 52) (ca 53) (ca 51) 480 1000 _ (by omega) (by omega) (by omega) (by omega) ([31, 115, 116, 119, 120, 32, 33, 37, 49, 48, 38, 39, 45, 40, 41, 44, 42, 43, 47, 46, 50, 54, 66, 65, 55, 56, 62, 57, 58, 61, 59, 60, 64, 63, 35, 36, 34, 52, 53, 51].map cel) ⟨(fx31 hI), (fx115 hI), (fx116 hI), (fx119 hI), (fx120 hI), (fx32 hI), (fx33 hI), (fx37 hI), (fx49 hI), (fx48 hI), (fx38 hI), (fx39 hI), (fx45 hI), (fx40 hI), (fx41 hI), (fx44 hI), (fx42 hI), (fx43 hI), (fx47 hI), (fx46 hI), (fx50 hI), (fx54 hI), (fx66 hI), (fx65 hI), (fx55 hI), (fx56 hI), (fx62 hI), (fx57 hI), (fx58 hI), (fx61 hI), (fx59 hI), (fx60 hI), (fx64 hI), (fx63 hI), (fx35 hI), (fx36 hI), (fx34 hI), (fx52 hI), (fx53 hI), (fx51 hI), trivial⟩) rfl (fun _ _ => rfl) ⟨fun _ h => h, fun _ h => h, fun _ h => h, fun _ h => h, fun _ h => h, fun _ h => h, fun _ h => h, fun _ h => tx37 h (fun _ _ q => trivial), fun _ h => h, fun _ h => h, fun _ h => h, fun _ h => h, fun _ h => h, fun _ h => h, fun _ h => h, fun _ h => h, fun _ h => h, fun _ h => h, fun _ h => h, fun _ h => h, fun _ h => h, fun _ h => tx54 h (fun _ _ q => trivial), fun _ h => h, fun _ h => h, fun _ h => h, fun _ h => h, fun _ h => h, fun _ h => h, fun _ h => h, fun _ h => h, fun _ h => h, fun _ h => h, fun _ h => h, fun _ h => h, fun _ h => h, fun _ h => h, fun _ h => h, fun _ h => h, fun _ h => h, fun _ h => h, trivial⟩
                      refine kc_i Wd (k_runV (rest := []) C aks Wd cs_X4_113 hM145 (List.range NC) (wN_all cel) ndR (List.range NC) (tC_all ca) 31 4 e145o rfl rfl rfl rfl ⟨(Nat.le_of_ble_eq_true rfl), (Nat.le_of_ble_eq_true rfl)⟩ hl.1 rfl rfl (Nat.le_of_ble_eq_true rfl) ⟨(Nat.le_of_ble_eq_true rfl), (Nat.le_of_ble_eq_true rfl)⟩ dX4_cutDown_145) (fun r145 cel H locs w145 hI Wd => ?_)
                      obtain ⟨g145_0, g145_1⟩ := w145
                      have g145_0 : 0 ≤ r145.toInt := g145_0
                      have g145_1 : r145.toInt ≤ 1 := g145_1
                      refine lv_if_eq (tgt := 155) C.1 C.2.1 dX4_cutDown_148 (by decide) (fun c148 => ?_) (fun c148 => ?_)
                      · have i148 : r145.toInt = 0 := kz_eq c148
                        exact J155 cel _ _ _ ⟨hI, Wd, lv_sub hl [0, 2, 3, 4] rfl⟩
                      · have i148 : ¬ r145.toInt = 0 := kz_ne c148
                        refine lv_iconst (v := 1) C.1 C.2.1 dX4_cutDown_151 (by decide) ?_
                        refine lv_goto (tgt := 156) C.1 C.2.1 dX4_cutDown_152 (by decide) ?_
                        exact J156 (cel, 1) _ _ _ ⟨by have zq1 : (1 : Int32).toInt = 1 := (by decide); omega, by have zq1 : (1 : Int32).toInt = 1 := (by decide); omega, by have zq1 : (1 : Int32).toInt = 1 := (by decide); omega, hI, Wd, lv_sub hl [0, 2, 3, 4] rfl⟩
        · have i30 : r27.toInt = 0 := kz_eq c30
          exact J33 cel _ _ _ ⟨hI, Wd, lv_sub hl [] rfl⟩
set_option maxHeartbeats 4000000 in
set_option maxRecDepth 100000 in
theorem gX11_program (l : Launch) (D : va_G) (adK adV : Nat → Nat) (tq : Nat) (ad : Nat → Nat) (ca : Nat → ClassId) (T : Value → Prop) (cel : Nat → Cl) (sz : Nat) (x0 : Int32) (hI : InvC ad ca (pTp T) cel) : Met l yX11_program (Cond.code yX11_program cX11_program 3 (some .int) :: gG) { frames := 9, cells := 0, slots := 0, locals := 386 } (cPS RX10 ixT adK adV tq D (tC ca) (wN NC cel) sz [.ref (ad 0), .int x0]) (va_Qi (fun (r : Int32) (c' : Nat → Cl) => (-1 ≤ r.toInt ∧ r.toInt ≤ 1000) ∧ InvC ad ca (pTp tTT) c') (fun c' t => cB D (va_A (wN NC cel) sz) [] (wN NC c') t) (va_A (wN NC cel) sz)) 0 0 (va_A (wN NC cel) sz) := by
  refine Met.ofW (cc := cX11_program) (maxL := 3) (ret := (some .int)) (by decide) rfl ?_
  intro p e s m args below meth c s₁ B hml hv
  obtain ⟨hv, hE⟩ := hv
  obtain ⟨rfl, aks, rfl, Wd⟩ := k_enter hv
  have C : CallFix p m c cX11_program 3 s _ gG RX11 := ⟨B.exec, B.bytes, hml, findClass_of_methodNamed B.named, fun w h => atoms_spec (ws := Cond.code yX11_program cX11_program 3 (some .int) :: gG) B.pre w (List.mem_cons_of_mem _ h)⟩
  have hr := B.returns
  have hlk := B.notSynchronized
  generalize va_A (wN NC cel) s.heap.size = A at Wd hE ⊢
  refine k_locals (Nat.le_of_ble_eq_true rfl) [(0, .ref (ad 0)), (1, .int x0)] rfl (fun ls hl => ?_)
  refine lv_aload_n C.1 C.2.1 dX11_program_0 rfl (lv_at hl 0 rfl) ?_
  refine lv_iload_n C.1 C.2.1 dX11_program_1 rfl (lv_at hl 1 rfl) ?_
  obtain ⟨_, e2o, y2o_1, rfl, b2o_1, c2o_1⟩ := at_E (by decide) (fx0 hI)
  refine k_pq (k_runV (rest := []) C aks Wd cs_X11_77 (gX11_slotAt l D ad ca (T) cel _ x0 hI) (List.range NC) (wN_all cel) ndR (List.range NC) (tC_all ca) 0 11 e2o rfl rfl rfl rfl ⟨(Nat.le_of_ble_eq_true rfl), (Nat.le_of_ble_eq_true rfl)⟩ hl.1 rfl rfl (Nat.le_of_ble_eq_true rfl) ⟨(Nat.le_of_ble_eq_true rfl), (Nat.le_of_ble_eq_true rfl)⟩ dX11_program_2) (fun o2 w2 => ?_)
  rcases w2 with rfl | ⟨z2, bz2, hz2, rfl⟩
  · skip
    refine lv_astore_nN (lv' := [(2, .null), (0, .ref (ad 0)), (1, .int x0)]) C.1 C.2.1 dX11_program_5 rfl hl (by decide) rfl (fun ls hl => ?_)
    refine lv_aload_nN C.1 C.2.1 dX11_program_6 rfl (lv_at hl 0 rfl) ?_
    refine lv_ifnonnullN C.1 C.2.1 dX11_program_7 ?_
    refine lv_aload_n C.1 C.2.1 dX11_program_10 rfl (lv_at hl 1 rfl) ?_
    obtain ⟨_, e11, y11_1, rfl, b11_1, c11_1⟩ := at_E (by decide) (fx0 hI)
    refine k_get C Wd KX11 0 3 e11 (by decide) fl_X11_29 rfl dX11_program_11 ?_
    obtain ⟨_, e14o, y14o_1, y14o_2, v14o_3, v14o_4, y14o_5, y14o_6, y14o_7, y14o_8, y14o_9, y14o_10, y14o_11, y14o_12, y14o_13, rfl, _, b14o_7, c14o_7, b14o_9, c14o_9, b14o_13, c14o_13⟩ := at_E (by decide) (fx2 hI)
    have hM14 := liftV4 (P' := pTp tTT) hI (ok_25) (wtX6_drop l D (T) (ad 2) (ad 3) (ad 5) (ad 6) (ad 7) (ad 4) _ ([2, 3].map cel) ⟨(fx2 hI), (fx3 hI), trivial⟩) rfl (hs_PT (List.mem_of_getElem? (i := 1) rfl)) ⟨fun _ h => tx2 h (fun _ _ q => q), fun _ h => tx3 h (fun _ _ q => q), trivial⟩
    refine kc_v Wd (k_runV (rest := []) C aks Wd cs_X11_81 hM14 (List.range NC) (wN_all cel) ndR (List.range NC) (tC_all ca) 2 6 e14o rfl rfl rfl rfl ⟨(Nat.le_of_ble_eq_true rfl), (Nat.le_of_ble_eq_true rfl)⟩ hl.1 rfl rfl (Nat.le_of_ble_eq_true rfl) ⟨(Nat.le_of_ble_eq_true rfl), (Nat.le_of_ble_eq_true rfl)⟩ dX11_program_14) (fun cel H locs w14 hI Wd => ?_)
    refine lv_iconst (v := (-1)) C.1 C.2.1 dX11_program_17 (by decide) ?_
    exact kc_zret C hr hlk rfl Wd ⟨(by exact ⟨by have zqm1 : (-1 : Int32).toInt = -1 := (by decide); omega, by have zqm1 : (-1 : Int32).toInt = -1 := (by decide); omega⟩), hI⟩ dX11_program_18
  · have hz2 : (z2 : Int) = x0.toInt := hz2
    refine lv_astore_n (lv' := [(2, .ref (ad (101 + 2 * z2))), (0, .ref (ad 0)), (1, .int x0)]) C.1 C.2.1 dX11_program_5 rfl hl (by decide) rfl (fun ls hl => ?_)
    refine lv_aload_n C.1 C.2.1 dX11_program_6 rfl (lv_at hl 0 rfl) ?_
    refine lv_ifnonnull (tgt := 19) C.1 C.2.1 dX11_program_7 (by decide) ?_
    refine lv_aload_n C.1 C.2.1 dX11_program_19 rfl (lv_at hl 1 rfl) ?_
    obtain ⟨_, e20, y20_1, rfl, b20_1, c20_1⟩ := at_E (by decide) (fx0 hI)
    refine k_get C Wd KX11 0 3 e20 (by decide) fl_X11_29 rfl dX11_program_20 ?_
    refine lv_aload_n C.1 C.2.1 dX11_program_23 rfl (lv_at hl 1 rfl) ?_
    obtain ⟨_, e24, y24_1, rfl, b24_1, c24_1⟩ := at_E (by decide) (fx0 hI)
    refine k_get C Wd KX11 0 2 e24 (by decide) fl_X11_22 rfl dX11_program_24 ?_
    obtain ⟨_, e27o, y27o_1, y27o_2, v27o_3, v27o_4, y27o_5, y27o_6, y27o_7, y27o_8, y27o_9, y27o_10, y27o_11, y27o_12, y27o_13, rfl, _, b27o_7, c27o_7, b27o_9, c27o_9, b27o_13, c27o_13⟩ := at_E (by decide) (fx2 hI)
    have hM27 := liftV4 (P' := setP (pTp T) 2 (fun v w => v = .ref (ad 117) ∧ w = .null)) hI (ok_26) (wtX6_beginProgram l D (T) (ad 2) (ad 117) (ad 3) (ad 5) (ad 6) (ad 7) (ad 118) (ad 4) (ca 118) 1000 _ (by omega) (by omega) ([2, 117, 118, 3].map cel) ⟨(fx2 hI), (fx117 hI), (fx118 hI), (fx3 hI), trivial⟩) rfl (hs_set (List.mem_of_getElem? (i := 0) rfl)) ⟨fun _ h => tx2 h (fun _ _ q => q), fun _ h => h, fun _ h => h, fun _ h => tx3 h (fun _ _ q => q), trivial⟩
    refine kc_v Wd (k_runV (rest := []) C aks Wd cs_X11_84 hM27 (List.range NC) (wN_all cel) ndR (List.range NC) (tC_all ca) 2 6 e27o rfl rfl rfl rfl ⟨(Nat.le_of_ble_eq_true rfl), (Nat.le_of_ble_eq_true rfl)⟩ hl.1 rfl rfl (Nat.le_of_ble_eq_true rfl) ⟨(Nat.le_of_ble_eq_true rfl), (Nat.le_of_ble_eq_true rfl)⟩ dX11_program_27) (fun cel H locs w27 hI Wd => ?_)
    refine lv_aload_n C.1 C.2.1 dX11_program_30 rfl (lv_at hl 1 rfl) ?_
    obtain ⟨_, e31, y31_1, rfl, b31_1, c31_1⟩ := at_E (by decide) (fx0 hI)
    refine k_get C Wd KX11 0 3 e31 (by decide) fl_X11_29 rfl dX11_program_31 ?_
    obtain ⟨_, e34o, y34o_1, y34o_2, v34o_3, v34o_4, y34o_5, y34o_6, y34o_7, y34o_8, y34o_9, y34o_10, y34o_11, y34o_12, y34o_13, rfl, _, b34o_7, c34o_7, b34o_9, c34o_9, b34o_13, c34o_13⟩ := at_E (by decide) (fx2 hI)
    have hM34 := liftIS4 (P' := pTp tTT) hI (ok_27) (wtX6_readAll_P l D adK adV tq (T) (ad 2) (ad 3) (ad 5) (ad 6) (ad 7) (ad 117) (ad 4) (ad 118) (ca 4) (ca 118) (ca 5) (ca 6) (ca 7) 1000 _ (by omega) (by omega) ([2, 3, 4, 117, 118, 5, 6, 7].map cel) ⟨(fx2 hI), (fx3 hI), (fx4 hI), (fx117 hI), (fx118 hI), (fx5 hI), (fx6 hI), (fx7 hI), trivial⟩) rfl (hs_rd ((List.mem_of_getElem? (i := 0) rfl)) ((List.mem_of_getElem? (i := 1) rfl))) ⟨fun _ h => tx2 h (fun _ _ q => q), fun _ h => tx3 h (fun _ _ q => q), fun _ h => h, fun _ h => h, fun _ h => h, fun _ h => h, fun _ h => h, fun _ h => h, trivial⟩
    refine kc_i Wd (k_runVT (rest := []) C aks hE Wd cs_X11_88 hM34 (List.range NC) (wN_all cel) ndR (List.range NC) (tC_all ca) 2 6 e34o rfl rfl rfl rfl ⟨(Nat.le_of_ble_eq_true rfl), (Nat.le_of_ble_eq_true rfl)⟩ hl.1 rfl rfl (Nat.le_of_ble_eq_true rfl) ⟨(Nat.le_of_ble_eq_true rfl), (Nat.le_of_ble_eq_true rfl)⟩ dX11_program_34) (fun r34 cel H locs w34 hI Wd => ?_)
    obtain ⟨g34_0, g34_1⟩ := w34
    have g34_0 : 0 ≤ r34.toInt := g34_0
    have g34_1 : r34.toInt ≤ 1 := g34_1
    refine lv_if_ne (tgt := 42) C.1 C.2.1 dX11_program_37 (by decide) (fun c37 => ?_) (fun c37 => ?_)
    · have i37 : ¬ r34.toInt = 0 := kz_ne c37
      refine lv_aload_n C.1 C.2.1 dX11_program_42 rfl (lv_at hl 0 rfl) ?_
      refine lv_aload_n C.1 C.2.1 dX11_program_43 rfl (lv_at hl 1 rfl) ?_
      obtain ⟨_, e44, y44_1, rfl, b44_1, c44_1⟩ := at_E (by decide) (fx0 hI)
      refine k_get C Wd KX11 0 2 e44 (by decide) fl_X11_22 rfl dX11_program_44 ?_
      obtain ⟨_, e47o, y47o_1, rfl, b47o_1, c47o_1⟩ := at_E (by show _ < 233; omega) (frow0 hI (by omega : z2 < 11))
      have hM47 := liftV4 (P' := pTp tTT) hI (ok_28 z2 (by omega)) (wsX8_copy l D (ad (101 + 2 * z2)) (ad 117) (ad 118) (ad (101 + 2 * z2 + 1)) (ca 118) (ca (101 + 2 * z2 + 1)) 1000 (capR z2) _ (by omega) (by omega) (by have := capR_hi z2; have := capR_lo z2; omega) (by have := capR_hi z2; have := capR_lo z2; omega) ([117, 118, (101 + 2 * z2), (101 + 2 * z2 + 1)].map cel) ⟨(fx117 hI), (fx118 hI), (frow0 hI (by omega : z2 < 11)), (frow1 hI (by omega : z2 < 11)), trivial⟩) rfl (fun _ _ => rfl) ⟨fun _ h => h, fun _ h => h, fun _ h => trow0 (by omega) h, fun _ h => trow1 (by omega) h, trivial⟩
      refine kc_v Wd (k_runV (rest := []) C aks Wd cs_X11_92 hM47 (List.range NC) (wN_all cel) ndR (List.range NC) (tC_all ca) (101 + 2 * z2) 8 e47o rfl rfl rfl rfl ⟨(Nat.le_of_ble_eq_true rfl), (Nat.le_of_ble_eq_true rfl)⟩ hl.1 rfl rfl (Nat.le_of_ble_eq_true rfl) ⟨(Nat.le_of_ble_eq_true rfl), (Nat.le_of_ble_eq_true rfl)⟩ dX11_program_47) (fun cel H locs w47 hI Wd => ?_)
      refine lv_aload_n C.1 C.2.1 dX11_program_50 rfl (lv_at hl 0 rfl) ?_
      obtain ⟨_, e51o, y51o_1, rfl, b51o_1, c51o_1⟩ := at_E (by show _ < 233; omega) (frow0 hI (by omega : z2 < 11))
      refine k_pi (k_runV (rest := []) C aks Wd cs_X11_95 (wsX8_statements l D (ad (101 + 2 * z2)) (ad (101 + 2 * z2 + 1)) (ca (101 + 2 * z2 + 1)) (capR z2) _ (by have := capR_hi z2; have := capR_lo z2; omega) (by have := capR_hi z2; have := capR_lo z2; omega) ([(101 + 2 * z2), (101 + 2 * z2 + 1)].map cel) ⟨(frow0 hI (by omega : z2 < 11)), (frow1 hI (by omega : z2 < 11)), trivial⟩) [(101 + 2 * z2), (101 + 2 * z2 + 1)] (wN_pick [(101 + 2 * z2), (101 + 2 * z2 + 1)] (okC_lt (ok_18 z2 (by omega)))) (okC_nd (ok_18 z2 (by omega))) [(101 + 2 * z2 + 1)] (tC_ok (ok_18 z2 (by omega)) rfl) (101 + 2 * z2) 8 e51o rfl rfl rfl rfl ⟨(Nat.le_of_ble_eq_true rfl), (Nat.le_of_ble_eq_true rfl)⟩ hl.1 rfl rfl (Nat.le_of_ble_eq_true rfl) ⟨(Nat.le_of_ble_eq_true rfl), (Nat.le_of_ble_eq_true rfl)⟩ dX11_program_51) (fun r51 w51 => ?_)
      obtain ⟨g51_0, g51_1⟩ := w51
      have g51_0 : 0 ≤ r51.toInt := g51_0
      have g51_1 : r51.toInt ≤ 1000 := g51_1
      exact kc_zret C hr hlk rfl Wd ⟨(by exact ⟨by omega, by omega⟩), hI⟩ dX11_program_54
    · have i37 : r34.toInt = 0 := kz_eq c37
      refine lv_iconst (v := (-1)) C.1 C.2.1 dX11_program_40 (by decide) ?_
      exact kc_zret C hr hlk rfl Wd ⟨(by exact ⟨by have zqm1 : (-1 : Int32).toInt = -1 := (by decide); omega, by have zqm1 : (-1 : Int32).toInt = -1 := (by decide); omega⟩), hI⟩ dX11_program_41
set_option maxHeartbeats 4000000 in
set_option maxRecDepth 100000 in
theorem gX11_rule (l : Launch) (D : va_G) (adK adV : Nat → Nat) (tq : Nat) (ad : Nat → Nat) (ca : Nat → ClassId) (T : Value → Prop) (cel : Nat → Cl) (sz : Nat) (hI : InvC ad ca (pTp T) cel) : Met l yX11_rule (Cond.code yX11_rule cX11_rule 2 (some .int) :: gG) { frames := 9, cells := 0, slots := 0, locals := 386 } (cPS RX10 ixT adK adV tq D (tC ca) (wN NC cel) sz [.ref (ad 0)]) (va_Qi (fun (r : Int32) (c' : Nat → Cl) => (-1 ≤ r.toInt ∧ r.toInt ≤ 11) ∧ InvC ad ca (pTp tTT) c') (fun c' t => cB D (va_A (wN NC cel) sz) [] (wN NC c') t) (va_A (wN NC cel) sz)) 0 0 (va_A (wN NC cel) sz) := by
  refine Met.ofW (cc := cX11_rule) (maxL := 2) (ret := (some .int)) (by decide) rfl ?_
  intro p e s m args below meth c s₁ B hml hv
  obtain ⟨hv, hE⟩ := hv
  obtain ⟨rfl, aks, rfl, Wd⟩ := k_enter hv
  have C : CallFix p m c cX11_rule 2 s _ gG RX11 := ⟨B.exec, B.bytes, hml, findClass_of_methodNamed B.named, fun w h => atoms_spec (ws := Cond.code yX11_rule cX11_rule 2 (some .int) :: gG) B.pre w (List.mem_cons_of_mem _ h)⟩
  have hr := B.returns
  have hlk := B.notSynchronized
  generalize va_A (wN NC cel) s.heap.size = A at Wd hE ⊢
  refine k_locals (Nat.le_of_ble_eq_true rfl) [(0, .ref (ad 0))] rfl (fun ls hl => ?_)
  refine lv_aload_n C.1 C.2.1 dX11_rule_0 rfl (lv_at hl 0 rfl) ?_
  obtain ⟨_, e1, y1_1, rfl, b1_1, c1_1⟩ := at_E (by decide) (fx0 hI)
  refine k_get C Wd KX11 0 6 e1 (by decide) fl_X11_50 rfl dX11_rule_1 ?_
  refine lv_aload_n C.1 C.2.1 dX11_rule_4 rfl (lv_at hl 0 rfl) ?_
  obtain ⟨_, e5, y5_1, rfl, b5_1, c5_1⟩ := at_E (by decide) (fx0 hI)
  refine k_get C Wd KX11 0 1 e5 (by decide) fl_X11_18 rfl dX11_rule_5 ?_
  obtain ⟨_, e8o, y8o_3, y8o_4, rfl⟩ := at_E (by decide) (fx31 hI)
  refine k_pq (k_runV (rest := []) C aks Wd cs_X11_99 (gX4_ruleAt l D ad ca (T) cel _ y5_1 hI) (List.range NC) (wN_all cel) ndR (List.range NC) (tC_all ca) 31 4 e8o rfl rfl rfl rfl ⟨(Nat.le_of_ble_eq_true rfl), (Nat.le_of_ble_eq_true rfl)⟩ hl.1 rfl rfl (Nat.le_of_ble_eq_true rfl) ⟨(Nat.le_of_ble_eq_true rfl), (Nat.le_of_ble_eq_true rfl)⟩ dX11_rule_8) (fun o8 w8 => ?_)
  rcases w8 with rfl | ⟨z8, bz8, hz8, rfl⟩
  · skip
    refine lv_astore_nN (lv' := [(1, .null), (0, .ref (ad 0))]) C.1 C.2.1 dX11_rule_11 rfl hl (by decide) rfl (fun ls hl => ?_)
    refine lv_aload_nN C.1 C.2.1 dX11_rule_12 rfl (lv_at hl 0 rfl) ?_
    refine lv_ifnonnullN C.1 C.2.1 dX11_rule_13 ?_
    refine lv_aload_n C.1 C.2.1 dX11_rule_16 rfl (lv_at hl 1 rfl) ?_
    obtain ⟨_, e17, y17_1, rfl, b17_1, c17_1⟩ := at_E (by decide) (fx0 hI)
    refine k_get C Wd KX11 0 3 e17 (by decide) fl_X11_29 rfl dX11_rule_17 ?_
    obtain ⟨_, e20o, y20o_1, y20o_2, v20o_3, v20o_4, y20o_5, y20o_6, y20o_7, y20o_8, y20o_9, y20o_10, y20o_11, y20o_12, y20o_13, rfl, _, b20o_7, c20o_7, b20o_9, c20o_9, b20o_13, c20o_13⟩ := at_E (by decide) (fx2 hI)
    have hM20 := liftV4 (P' := pTp tTT) hI (ok_25) (wtX6_drop l D (T) (ad 2) (ad 3) (ad 5) (ad 6) (ad 7) (ad 4) _ ([2, 3].map cel) ⟨(fx2 hI), (fx3 hI), trivial⟩) rfl (hs_PT (List.mem_of_getElem? (i := 1) rfl)) ⟨fun _ h => tx2 h (fun _ _ q => q), fun _ h => tx3 h (fun _ _ q => q), trivial⟩
    refine kc_v Wd (k_runV (rest := []) C aks Wd cs_X11_81 hM20 (List.range NC) (wN_all cel) ndR (List.range NC) (tC_all ca) 2 6 e20o rfl rfl rfl rfl ⟨(Nat.le_of_ble_eq_true rfl), (Nat.le_of_ble_eq_true rfl)⟩ hl.1 rfl rfl (Nat.le_of_ble_eq_true rfl) ⟨(Nat.le_of_ble_eq_true rfl), (Nat.le_of_ble_eq_true rfl)⟩ dX11_rule_20) (fun cel H locs w20 hI Wd => ?_)
    refine lv_iconst (v := (-1)) C.1 C.2.1 dX11_rule_23 (by decide) ?_
    exact kc_zret C hr hlk rfl Wd ⟨(by exact ⟨by have zqm1 : (-1 : Int32).toInt = -1 := (by decide); omega, by have zqm1 : (-1 : Int32).toInt = -1 := (by decide); omega⟩), hI⟩ dX11_rule_24
  · have hz8 : (z8 : Int) = y5_1.toInt := hz8
    refine lv_astore_n (lv' := [(1, .ref (ad (123 + 7 * z8))), (0, .ref (ad 0))]) C.1 C.2.1 dX11_rule_11 rfl hl (by decide) rfl (fun ls hl => ?_)
    refine lv_aload_n C.1 C.2.1 dX11_rule_12 rfl (lv_at hl 0 rfl) ?_
    refine lv_ifnonnull (tgt := 25) C.1 C.2.1 dX11_rule_13 (by decide) ?_
    refine lv_aload_n C.1 C.2.1 dX11_rule_25 rfl (lv_at hl 1 rfl) ?_
    obtain ⟨_, e26, y26_1, rfl, b26_1, c26_1⟩ := at_E (by decide) (fx0 hI)
    refine k_get C Wd KX11 0 3 e26 (by decide) fl_X11_29 rfl dX11_rule_26 ?_
    refine lv_aload_n C.1 C.2.1 dX11_rule_29 rfl (lv_at hl 0 rfl) ?_
    obtain ⟨_, e30o, y30o_1, y30o_2, v30o_3, v30o_4, y30o_5, y30o_6, y30o_7, y30o_8, y30o_9, y30o_10, y30o_11, y30o_12, y30o_13, rfl, _, b30o_7, c30o_7, b30o_9, c30o_9, b30o_13, c30o_13⟩ := at_E (by decide) (fx2 hI)
    have hM30 := liftV4 (P' := setP (pTp T) 2 (fun v w => v = .ref (ad (123 + 7 * z8 + 1)) ∧ w = .ref (ad (123 + 7 * z8)))) hI (ok_29 z8 (by omega)) (wtX6_beginRule l D (T) (ad 2) (ad (123 + 7 * z8)) (ad (123 + 7 * z8 + 1)) (ad (123 + 7 * z8 + 3)) (ad (123 + 7 * z8 + 5)) (ad (123 + 7 * z8 + 6)) (ad (123 + 7 * z8 + 2)) (ad (123 + 7 * z8 + 4)) (ad 3) (ad 5) (ad 6) (ad 7) (ad 4) (ca (123 + 7 * z8 + 2)) (ca (123 + 7 * z8 + 4)) 40 40 _ (by omega) (by omega) (by omega) (by omega) ([(123 + 7 * z8), (123 + 7 * z8 + 1), (123 + 7 * z8 + 2), (123 + 7 * z8 + 3), (123 + 7 * z8 + 4), 2, 3].map cel) ⟨(frule0 hI (by omega : z8 < 12)), (frule1 hI (by omega : z8 < 12)), (frule2 hI (by omega : z8 < 12)), (frule3 hI (by omega : z8 < 12)), (frule4 hI (by omega : z8 < 12)), (fx2 hI), (fx3 hI), trivial⟩) rfl (hs_set (List.mem_of_getElem? (i := 5) rfl)) ⟨fun _ h => trule0 (by omega) h, fun _ h => trule1 (by omega) h, fun _ h => trule2 (by omega) h, fun _ h => trule3 (by omega) h, fun _ h => trule4 (by omega) h, fun _ h => tx2 h (fun _ _ q => q), fun _ h => tx3 h (fun _ _ q => q), trivial⟩
    refine kc_v Wd (k_runV (rest := []) C aks Wd cs_X11_103 hM30 (List.range NC) (wN_all cel) ndR (List.range NC) (tC_all ca) 2 6 e30o rfl rfl rfl rfl ⟨(Nat.le_of_ble_eq_true rfl), (Nat.le_of_ble_eq_true rfl)⟩ hl.1 rfl rfl (Nat.le_of_ble_eq_true rfl) ⟨(Nat.le_of_ble_eq_true rfl), (Nat.le_of_ble_eq_true rfl)⟩ dX11_rule_30) (fun cel H locs w30 hI Wd => ?_)
    refine lv_aload_n C.1 C.2.1 dX11_rule_33 rfl (lv_at hl 1 rfl) ?_
    obtain ⟨_, e34, y34_1, rfl, b34_1, c34_1⟩ := at_E (by decide) (fx0 hI)
    refine k_get C Wd KX11 0 3 e34 (by decide) fl_X11_29 rfl dX11_rule_34 ?_
    obtain ⟨_, e37o, y37o_1, y37o_2, v37o_3, v37o_4, y37o_5, y37o_6, y37o_7, y37o_8, y37o_9, y37o_10, y37o_11, y37o_12, y37o_13, rfl, _, b37o_7, c37o_7, b37o_9, c37o_9, b37o_13, c37o_13⟩ := at_E (by decide) (fx2 hI)
    have hM37 := liftIS4 (P' := pTp tTT) hI (ok_30 z8 (by omega)) (wtX6_readAll_L l D adK adV tq (T) (ad 2) (ad 3) (ad 5) (ad 6) (ad 7) (ad (123 + 7 * z8 + 1)) (ad (123 + 7 * z8)) (ad 4) (ad (123 + 7 * z8 + 2)) (ad (123 + 7 * z8 + 3)) (ad (123 + 7 * z8 + 5)) (ad (123 + 7 * z8 + 6)) (ad (123 + 7 * z8 + 4)) (ca 4) (ca (123 + 7 * z8 + 2)) (ca 5) (ca 6) (ca 7) (ca (123 + 7 * z8 + 4)) 40 40 _ (by omega) (by omega) (by omega) (by omega) ([2, 3, 4, (123 + 7 * z8 + 1), (123 + 7 * z8 + 2), 5, 6, 7, (123 + 7 * z8), (123 + 7 * z8 + 3), (123 + 7 * z8 + 4)].map cel) ⟨(fx2 hI), (fx3 hI), (fx4 hI), (frule1 hI (by omega : z8 < 12)), (frule2 hI (by omega : z8 < 12)), (fx5 hI), (fx6 hI), (fx7 hI), (frule0 hI (by omega : z8 < 12)), (frule3 hI (by omega : z8 < 12)), (frule4 hI (by omega : z8 < 12)), trivial⟩) rfl (hs_rd ((List.mem_of_getElem? (i := 0) rfl)) ((List.mem_of_getElem? (i := 1) rfl))) ⟨fun _ h => tx2 h (fun _ _ q => q), fun _ h => tx3 h (fun _ _ q => q), fun _ h => h, fun _ h => trule1 (by omega) h, fun _ h => trule2 (by omega) h, fun _ h => h, fun _ h => h, fun _ h => h, fun _ h => trule0 (by omega) h, fun _ h => trule3 (by omega) h, fun _ h => trule4 (by omega) h, trivial⟩
    refine kc_i Wd (k_runVT (rest := []) C aks hE Wd cs_X11_88 hM37 (List.range NC) (wN_all cel) ndR (List.range NC) (tC_all ca) 2 6 e37o rfl rfl rfl rfl ⟨(Nat.le_of_ble_eq_true rfl), (Nat.le_of_ble_eq_true rfl)⟩ hl.1 rfl rfl (Nat.le_of_ble_eq_true rfl) ⟨(Nat.le_of_ble_eq_true rfl), (Nat.le_of_ble_eq_true rfl)⟩ dX11_rule_37) (fun r37 cel H locs w37 hI Wd => ?_)
    obtain ⟨g37_0, g37_1⟩ := w37
    have g37_0 : 0 ≤ r37.toInt := g37_0
    have g37_1 : r37.toInt ≤ 1 := g37_1
    refine lv_if_ne (tgt := 45) C.1 C.2.1 dX11_rule_40 (by decide) (fun c40 => ?_) (fun c40 => ?_)
    · have i40 : ¬ r37.toInt = 0 := kz_ne c40
      refine lv_aload_n C.1 C.2.1 dX11_rule_45 rfl (lv_at hl 1 rfl) ?_
      refine lv_dup C.1 C.2.1 dX11_rule_46 rfl ?_
      obtain ⟨_, e47, y47_1, rfl, b47_1, c47_1⟩ := at_E (by decide) (fx0 hI)
      refine k_get C Wd KX11 0 1 e47 (by decide) fl_X11_18 rfl dX11_rule_47 ?_
      refine lv_iconst (v := 1) C.1 C.2.1 dX11_rule_50 (by decide) ?_
      obtain ⟨v51, ev51⟩ : ∃ z : Int32, y47_1 + 1 = z := ⟨_, rfl⟩
      have iv51 : v51.toInt = y47_1.toInt + 1 := kz_addc ev51 (by decide) (by have zr0 := kz_rng y47_1; omega) (by have zr0 := kz_rng y47_1; omega)
      refine k_iadd (v := v51) C ev51 dX11_rule_51 ?_
      obtain ⟨_, e52, y52_1, rfl, b52_1, c52_1⟩ := at_E (by decide) (fx0 hI)
      refine k_put C Wd KX11 0 1 (wN NC (putC cel 0 ((ad 0), .inr (11, [.ref (ad 1), .int v51, .ref (ad 117), .ref (ad 2), .ref (ad 8), .ref (ad 25), .ref (ad 31), .ref (ad 84)])))) e52 (by decide) fl_X11_18 rfl rfl rfl (Nat.le_of_ble_eq_true rfl) (wN_set (by decide)) dX11_rule_52 (fun H locs Wd => ?_)
      obtain ⟨cel, Wd, hI⟩ : ∃ c : Nat → Cl, wX D (tC ca) s (wN NC c) H A s.heap locs ∧ InvC ad ca (pTp tTT) c := ⟨_, Wd, Inv_put hI ⟨rfl, v51, rfl, (by omega), (by omega)⟩⟩
      refine lv_aload_n C.1 C.2.1 dX11_rule_55 rfl (lv_at hl 1 rfl) ?_
      obtain ⟨_, e56, y56_1, rfl, b56_1, c56_1⟩ := at_E (by decide) (fx0 hI)
      refine k_get C Wd KX11 0 1 e56 (by decide) fl_X11_18 rfl dX11_rule_56 ?_
      refine lv_iconst (v := 1) C.1 C.2.1 dX11_rule_59 (by decide) ?_
      obtain ⟨v60, ev60⟩ : ∃ z : Int32, y56_1 - 1 = z := ⟨_, rfl⟩
      have iv60 : v60.toInt = y56_1.toInt - 1 := kz_subc ev60 (by decide) (by have zr0 := kz_rng y56_1; omega) (by have zr0 := kz_rng y56_1; omega)
      refine k_isub (v := v60) C ev60 dX11_rule_60 ?_
      exact kc_zret C hr hlk rfl Wd ⟨(by exact ⟨by omega, by omega⟩), hI⟩ dX11_rule_61
    · have i40 : r37.toInt = 0 := kz_eq c40
      refine lv_iconst (v := (-1)) C.1 C.2.1 dX11_rule_43 (by decide) ?_
      exact kc_zret C hr hlk rfl Wd ⟨(by exact ⟨by have zqm1 : (-1 : Int32).toInt = -1 := (by decide); omega, by have zqm1 : (-1 : Int32).toInt = -1 := (by decide); omega⟩), hI⟩ dX11_rule_44
set_option maxHeartbeats 4000000 in
set_option maxRecDepth 100000 in
theorem gX11_at (l : Launch) (D : va_G) (ad : Nat → Nat) (ca : Nat → ClassId) (T : Value → Prop) (cel : Nat → Cl) (sz : Nat) (x0 : Int32) (x1 : Int32) (hI : InvC ad ca (pTp T) cel) : Met l yX11_at (Cond.code yX11_at cX11_at 4 (some .int) :: gG) { frames := 2, cells := 0, slots := 0, locals := 85 } (cPre D (tC ca) (wN NC cel) sz [.ref (ad 0), .int x0, .int x1]) (va_Qi (fun (r : Int32) (c' : Nat → Cl) => (True) ∧ InvC ad ca (pTp T) c') (fun c' t => cB D (va_A (wN NC cel) sz) [] (wN NC c') t) (va_A (wN NC cel) sz)) 0 0 (va_A (wN NC cel) sz) := by
  refine Met.ofW (cc := cX11_at) (maxL := 4) (ret := (some .int)) (by decide) rfl ?_
  intro p e s m args below meth c s₁ B hml hv
  obtain ⟨rfl, aks, rfl, Wd⟩ := k_enter hv
  have C : CallFix p m c cX11_at 4 s _ gG RX11 := ⟨B.exec, B.bytes, hml, findClass_of_methodNamed B.named, fun w h => atoms_spec (ws := Cond.code yX11_at cX11_at 4 (some .int) :: gG) B.pre w (List.mem_cons_of_mem _ h)⟩
  have hr := B.returns
  have hlk := B.notSynchronized
  generalize va_A (wN NC cel) s.heap.size = A at Wd ⊢
  refine k_locals (Nat.le_of_ble_eq_true rfl) [(0, .ref (ad 0)), (1, .int x0), (2, .int x1)] rfl (fun ls hl => ?_)
  refine lv_aload_n C.1 C.2.1 dX11_at_0 rfl (lv_at hl 0 rfl) ?_
  refine lv_iload_n C.1 C.2.1 dX11_at_1 rfl (lv_at hl 1 rfl) ?_
  obtain ⟨_, e2o, y2o_1, rfl, b2o_1, c2o_1⟩ := at_E (by decide) (fx0 hI)
  refine k_pq (k_runV (rest := []) C aks Wd cs_X11_77 (gX11_slotAt l D ad ca (T) cel _ x0 hI) (List.range NC) (wN_all cel) ndR (List.range NC) (tC_all ca) 0 11 e2o rfl rfl rfl rfl ⟨(Nat.le_of_ble_eq_true rfl), (Nat.le_of_ble_eq_true rfl)⟩ hl.1 rfl rfl (Nat.le_of_ble_eq_true rfl) ⟨(Nat.le_of_ble_eq_true rfl), (Nat.le_of_ble_eq_true rfl)⟩ dX11_at_2) (fun o2 w2 => ?_)
  rcases w2 with rfl | ⟨z2, bz2, hz2, rfl⟩
  · skip
    refine lv_astore_nN (lv' := [(3, .null), (0, .ref (ad 0)), (1, .int x0), (2, .int x1)]) C.1 C.2.1 dX11_at_5 rfl hl (by decide) rfl (fun ls hl => ?_)
    refine lv_aload_nN C.1 C.2.1 dX11_at_6 rfl (lv_at hl 0 rfl) ?_
    refine lv_ifnonnullN C.1 C.2.1 dX11_at_7 ?_
    refine lv_iconst (v := (-1)) C.1 C.2.1 dX11_at_10 (by decide) ?_
    refine lv_goto (tgt := 19) C.1 C.2.1 dX11_at_11 (by decide) ?_
    exact kc_zret C hr hlk rfl Wd ⟨trivial, hI⟩ dX11_at_19
  · have hz2 : (z2 : Int) = x0.toInt := hz2
    refine lv_astore_n (lv' := [(3, .ref (ad (101 + 2 * z2))), (0, .ref (ad 0)), (1, .int x0), (2, .int x1)]) C.1 C.2.1 dX11_at_5 rfl hl (by decide) rfl (fun ls hl => ?_)
    refine lv_aload_n C.1 C.2.1 dX11_at_6 rfl (lv_at hl 0 rfl) ?_
    refine lv_ifnonnull (tgt := 14) C.1 C.2.1 dX11_at_7 (by decide) ?_
    refine lv_aload_n C.1 C.2.1 dX11_at_14 rfl (lv_at hl 0 rfl) ?_
    refine lv_iload_n C.1 C.2.1 dX11_at_15 rfl (lv_at hl 3 rfl) ?_
    obtain ⟨_, e16o, y16o_1, rfl, b16o_1, c16o_1⟩ := at_E (by show _ < 233; omega) (frow0 hI (by omega : z2 < 11))
    refine k_pi (k_runV (rest := []) C aks Wd cs_X11_113 (wsX8_cell l D (ad (101 + 2 * z2)) (ad (101 + 2 * z2 + 1)) (ca (101 + 2 * z2 + 1)) (capR z2) x1 _ (by have := capR_hi z2; have := capR_lo z2; omega) (by have := capR_hi z2; have := capR_lo z2; omega) ([(101 + 2 * z2), (101 + 2 * z2 + 1)].map cel) ⟨(frow0 hI (by omega : z2 < 11)), (frow1 hI (by omega : z2 < 11)), trivial⟩) [(101 + 2 * z2), (101 + 2 * z2 + 1)] (wN_pick [(101 + 2 * z2), (101 + 2 * z2 + 1)] (okC_lt (ok_18 z2 (by omega)))) (okC_nd (ok_18 z2 (by omega))) [(101 + 2 * z2 + 1)] (tC_ok (ok_18 z2 (by omega)) rfl) (101 + 2 * z2) 8 e16o rfl rfl rfl rfl ⟨(Nat.le_of_ble_eq_true rfl), (Nat.le_of_ble_eq_true rfl)⟩ hl.1 rfl rfl (Nat.le_of_ble_eq_true rfl) ⟨(Nat.le_of_ble_eq_true rfl), (Nat.le_of_ble_eq_true rfl)⟩ dX11_at_16) (fun r16 w16 => ?_)
    exact kc_zret C hr hlk rfl Wd ⟨trivial, hI⟩ dX11_at_19
set_option maxHeartbeats 4000000 in
set_option maxRecDepth 100000 in
theorem gX11_size (l : Launch) (D : va_G) (ad : Nat → Nat) (ca : Nat → ClassId) (T : Value → Prop) (cel : Nat → Cl) (sz : Nat) (x0 : Int32) (x1 : Int32) (hI : InvC ad ca (pTp T) cel) : Met l yX11_size (Cond.code yX11_size cX11_size 4 (some .int) :: gG) { frames := 5, cells := 0, slots := 0, locals := 152 } (cPre D (tC ca) (wN NC cel) sz [.ref (ad 0), .int x0, .int x1]) (va_Qi (fun (r : Int32) (c' : Nat → Cl) => (True) ∧ InvC ad ca (pTp T) c') (fun c' t => cB D (va_A (wN NC cel) sz) [] (wN NC c') t) (va_A (wN NC cel) sz)) 0 0 (va_A (wN NC cel) sz) := by
  refine Met.ofW (cc := cX11_size) (maxL := 4) (ret := (some .int)) (by decide) rfl ?_
  intro p e s m args below meth c s₁ B hml hv
  obtain ⟨rfl, aks, rfl, Wd⟩ := k_enter hv
  have C : CallFix p m c cX11_size 4 s _ gG RX11 := ⟨B.exec, B.bytes, hml, findClass_of_methodNamed B.named, fun w h => atoms_spec (ws := Cond.code yX11_size cX11_size 4 (some .int) :: gG) B.pre w (List.mem_cons_of_mem _ h)⟩
  have hr := B.returns
  have hlk := B.notSynchronized
  generalize va_A (wN NC cel) s.heap.size = A at Wd ⊢
  refine k_locals (Nat.le_of_ble_eq_true rfl) [(0, .ref (ad 0)), (1, .int x0), (2, .int x1)] rfl (fun ls hl => ?_)
  refine lv_aload_n C.1 C.2.1 dX11_size_0 rfl (lv_at hl 0 rfl) ?_
  refine lv_iload_n C.1 C.2.1 dX11_size_1 rfl (lv_at hl 1 rfl) ?_
  obtain ⟨_, e2o, y2o_1, rfl, b2o_1, c2o_1⟩ := at_E (by decide) (fx0 hI)
  refine k_pq (k_runV (rest := []) C aks Wd cs_X11_77 (gX11_slotAt l D ad ca (T) cel _ x0 hI) (List.range NC) (wN_all cel) ndR (List.range NC) (tC_all ca) 0 11 e2o rfl rfl rfl rfl ⟨(Nat.le_of_ble_eq_true rfl), (Nat.le_of_ble_eq_true rfl)⟩ hl.1 rfl rfl (Nat.le_of_ble_eq_true rfl) ⟨(Nat.le_of_ble_eq_true rfl), (Nat.le_of_ble_eq_true rfl)⟩ dX11_size_2) (fun o2 w2 => ?_)
  rcases w2 with rfl | ⟨z2, bz2, hz2, rfl⟩
  · skip
    refine lv_astore_nN (lv' := [(3, .null), (0, .ref (ad 0)), (1, .int x0), (2, .int x1)]) C.1 C.2.1 dX11_size_5 rfl hl (by decide) rfl (fun ls hl => ?_)
    refine lv_aload_nN C.1 C.2.1 dX11_size_6 rfl (lv_at hl 0 rfl) ?_
    refine lv_ifnonnullN C.1 C.2.1 dX11_size_7 ?_
    refine lv_iconst (v := (-1)) C.1 C.2.1 dX11_size_10 (by decide) ?_
    exact kc_zret C hr hlk rfl Wd ⟨trivial, hI⟩ dX11_size_11
  · have hz2 : (z2 : Int) = x0.toInt := hz2
    refine lv_astore_n (lv' := [(3, .ref (ad (101 + 2 * z2))), (0, .ref (ad 0)), (1, .int x0), (2, .int x1)]) C.1 C.2.1 dX11_size_5 rfl hl (by decide) rfl (fun ls hl => ?_)
    refine lv_aload_n C.1 C.2.1 dX11_size_6 rfl (lv_at hl 0 rfl) ?_
    refine lv_ifnonnull (tgt := 12) C.1 C.2.1 dX11_size_7 (by decide) ?_
    refine lv_iload_n C.1 C.2.1 dX11_size_12 rfl (lv_at hl 3 rfl) ?_
    by_cases c13_0 : x1.toInt = 0
    · refine lv_tableIn (off := 31) (tgt := 44) C.1 C.2.1 dX11_size_13 (by omega) (by omega) (by rw [c13_0]; rfl) (by decide) ?_
      refine lv_aload_n C.1 C.2.1 dX11_size_44 rfl (lv_at hl 0 rfl) ?_
      obtain ⟨_, e45o, y45o_1, rfl, b45o_1, c45o_1⟩ := at_E (by show _ < 233; omega) (frow0 hI (by omega : z2 < 11))
      refine k_pi (k_runV (rest := []) C aks Wd cs_X11_95 (wsX8_statements l D (ad (101 + 2 * z2)) (ad (101 + 2 * z2 + 1)) (ca (101 + 2 * z2 + 1)) (capR z2) _ (by have := capR_hi z2; have := capR_lo z2; omega) (by have := capR_hi z2; have := capR_lo z2; omega) ([(101 + 2 * z2), (101 + 2 * z2 + 1)].map cel) ⟨(frow0 hI (by omega : z2 < 11)), (frow1 hI (by omega : z2 < 11)), trivial⟩) [(101 + 2 * z2), (101 + 2 * z2 + 1)] (wN_pick [(101 + 2 * z2), (101 + 2 * z2 + 1)] (okC_lt (ok_18 z2 (by omega)))) (okC_nd (ok_18 z2 (by omega))) [(101 + 2 * z2 + 1)] (tC_ok (ok_18 z2 (by omega)) rfl) (101 + 2 * z2) 8 e45o rfl rfl rfl rfl ⟨(Nat.le_of_ble_eq_true rfl), (Nat.le_of_ble_eq_true rfl)⟩ hl.1 rfl rfl (Nat.le_of_ble_eq_true rfl) ⟨(Nat.le_of_ble_eq_true rfl), (Nat.le_of_ble_eq_true rfl)⟩ dX11_size_45) (fun r45 w45 => ?_)
      obtain ⟨g45_0, g45_1⟩ := w45
      have g45_0 : 0 ≤ r45.toInt := g45_0
      have g45_1 : r45.toInt ≤ 1000 := g45_1
      exact kc_zret C hr hlk rfl Wd ⟨trivial, hI⟩ dX11_size_48
    by_cases c13_1 : x1.toInt = 1
    · refine lv_tableIn (off := 36) (tgt := 49) C.1 C.2.1 dX11_size_13 (by omega) (by omega) (by rw [c13_1]; rfl) (by decide) ?_
      refine lv_aload_n C.1 C.2.1 dX11_size_49 rfl (lv_at hl 0 rfl) ?_
      obtain ⟨_, e50o, y50o_1, rfl, b50o_1, c50o_1⟩ := at_E (by show _ < 233; omega) (frow0 hI (by omega : z2 < 11))
      refine k_pi (k_runV (rest := []) C aks Wd cs_X11_117 (wsX8_expressions l D (ad (101 + 2 * z2)) (ad (101 + 2 * z2 + 1)) (ca (101 + 2 * z2 + 1)) (capR z2) _ (by have := capR_hi z2; have := capR_lo z2; omega) (by have := capR_hi z2; have := capR_lo z2; omega) ([(101 + 2 * z2), (101 + 2 * z2 + 1)].map cel) ⟨(frow0 hI (by omega : z2 < 11)), (frow1 hI (by omega : z2 < 11)), trivial⟩) [(101 + 2 * z2), (101 + 2 * z2 + 1)] (wN_pick [(101 + 2 * z2), (101 + 2 * z2 + 1)] (okC_lt (ok_18 z2 (by omega)))) (okC_nd (ok_18 z2 (by omega))) [(101 + 2 * z2 + 1)] (tC_ok (ok_18 z2 (by omega)) rfl) (101 + 2 * z2) 8 e50o rfl rfl rfl rfl ⟨(Nat.le_of_ble_eq_true rfl), (Nat.le_of_ble_eq_true rfl)⟩ hl.1 rfl rfl (Nat.le_of_ble_eq_true rfl) ⟨(Nat.le_of_ble_eq_true rfl), (Nat.le_of_ble_eq_true rfl)⟩ dX11_size_50) (fun r50 w50 => ?_)
      obtain ⟨g50_0, g50_1⟩ := w50
      have g50_0 : 0 ≤ r50.toInt := g50_0
      have g50_1 : r50.toInt ≤ 1000 := g50_1
      exact kc_zret C hr hlk rfl Wd ⟨trivial, hI⟩ dX11_size_53
    by_cases c13_2 : x1.toInt = 2
    · refine lv_tableIn (off := 41) (tgt := 54) C.1 C.2.1 dX11_size_13 (by omega) (by omega) (by rw [c13_2]; rfl) (by decide) ?_
      refine lv_aload_n C.1 C.2.1 dX11_size_54 rfl (lv_at hl 0 rfl) ?_
      obtain ⟨_, e55, y55_1, rfl, b55_1, c55_1⟩ := at_E (by show _ < 233; omega) (frow0 hI (by omega : z2 < 11))
      have hc_z2 := capR_hi z2
      refine k_get C Wd KX8 (101 + 2 * z2) 1 e55 (by decide) fl_X11_120 rfl dX11_size_55 ?_
      exact kc_zret C hr hlk rfl Wd ⟨trivial, hI⟩ dX11_size_58
    by_cases c13_3 : x1.toInt = 3
    · refine lv_tableIn (off := 46) (tgt := 59) C.1 C.2.1 dX11_size_13 (by omega) (by omega) (by rw [c13_3]; rfl) (by decide) ?_
      refine lv_aload_n C.1 C.2.1 dX11_size_59 rfl (lv_at hl 1 rfl) ?_
      obtain ⟨_, e60, y60_1, rfl, b60_1, c60_1⟩ := at_E (by decide) (fx0 hI)
      refine k_get C Wd KX11 0 4 e60 (by decide) fl_X11_36 rfl dX11_size_60 ?_
      obtain ⟨_, e63, y63_2, y63_3, y63_4, rfl, b63_2, c63_2⟩ := at_E (by decide) (fx8 hI)
      refine k_get C Wd KX3 8 0 e63 (by decide) fl_X11_121 rfl dX11_size_63 ?_
      refine lv_aload_n C.1 C.2.1 dX11_size_66 rfl (lv_at hl 0 rfl) ?_
      obtain ⟨_, e67o, v67o_0, y67o_1, rfl, _, b67o_1, c67o_1⟩ := at_E (by decide) (fx12 hI)
      have hM67 := liftV4 (P' := pTp T) hI (ok_31 z2 (by omega)) (wsX1_trace l D (ad 12) (ad (101 + 2 * z2)) (ad 13) (ad 14) (ad 15) (ad 16) (ad 17) (ad 18) (ad 19) (ad 20) (ad 21) (ad 22) (ad 23) (ad 24) (ad (101 + 2 * z2 + 1)) (ca (101 + 2 * z2 + 1)) (ca 24) (ca 23) (ca 13) (ca 14) (ca 20) (ca 15) (ca 16) (ca 19) (ca 17) (ca 18) (ca 22) (ca 21) (capR z2) _ (by have := capR_hi z2; have := capR_lo z2; omega) (by have := capR_hi z2; have := capR_lo z2; omega) ([12, (101 + 2 * z2), (101 + 2 * z2 + 1), 24, 23, 13, 14, 20, 15, 16, 19, 17, 18, 22, 21].map cel) ⟨(fx12 hI), (frow0 hI (by omega : z2 < 11)), (frow1 hI (by omega : z2 < 11)), (fx24 hI), (fx23 hI), (fx13 hI), (fx14 hI), (fx20 hI), (fx15 hI), (fx16 hI), (fx19 hI), (fx17 hI), (fx18 hI), (fx22 hI), (fx21 hI), trivial⟩) rfl (fun _ _ => rfl) ⟨fun _ h => tx12 h (fun _ _ q => trivial), fun _ h => trow0 (by omega) h, fun _ h => trow1 (by omega) h, fun _ h => h, fun _ h => h, fun _ h => h, fun _ h => h, fun _ h => h, fun _ h => h, fun _ h => h, fun _ h => h, fun _ h => h, fun _ h => h, fun _ h => h, fun _ h => h, trivial⟩
      refine kc_v Wd (k_runV (rest := []) C aks Wd cs_X11_125 hM67 (List.range NC) (wN_all cel) ndR (List.range NC) (tC_all ca) 12 1 e67o rfl rfl rfl rfl ⟨(Nat.le_of_ble_eq_true rfl), (Nat.le_of_ble_eq_true rfl)⟩ hl.1 rfl rfl (Nat.le_of_ble_eq_true rfl) ⟨(Nat.le_of_ble_eq_true rfl), (Nat.le_of_ble_eq_true rfl)⟩ dX11_size_67) (fun cel H locs w67 hI Wd => ?_)
      refine lv_aload_n C.1 C.2.1 dX11_size_70 rfl (lv_at hl 1 rfl) ?_
      obtain ⟨_, e71, y71_1, rfl, b71_1, c71_1⟩ := at_E (by decide) (fx0 hI)
      refine k_get C Wd KX11 0 4 e71 (by decide) fl_X11_36 rfl dX11_size_71 ?_
      obtain ⟨_, e74, y74_2, y74_3, y74_4, rfl, b74_2, c74_2⟩ := at_E (by decide) (fx8 hI)
      refine k_get C Wd KX3 8 0 e74 (by decide) fl_X11_121 rfl dX11_size_74 ?_
      refine lv_iconst (v := 0) C.1 C.2.1 dX11_size_77 (by decide) ?_
      obtain ⟨_, e78o, v78o_0, y78o_1, rfl, _, b78o_1, c78o_1⟩ := at_E (by decide) (fx12 hI)
      refine k_pi (k_runV (rest := []) C aks Wd cs_X11_130 (wsX1_aheadOf l D (ad 12) (ad 13) (ad 14) (ad 15) (ad 16) (ad 17) (ad 18) (ad 19) (ad 20) (ad 21) (ad 22) (ad 23) (ad 24) (ca 21) 0 _ ([12, 21].map cel) ⟨(fx12 hI), (fx21 hI), trivial⟩) [12, 21] (wN_pick [12, 21] (okC_lt (ok_32))) (okC_nd (ok_32)) [21] (tC_ok (ok_32) rfl) 12 1 e78o rfl rfl rfl rfl ⟨(Nat.le_of_ble_eq_true rfl), (Nat.le_of_ble_eq_true rfl)⟩ hl.1 rfl rfl (Nat.le_of_ble_eq_true rfl) ⟨(Nat.le_of_ble_eq_true rfl), (Nat.le_of_ble_eq_true rfl)⟩ dX11_size_78) (fun r78 w78 => ?_)
      exact kc_zret C hr hlk rfl Wd ⟨trivial, hI⟩ dX11_size_81
    refine lv_tableOut (tgt := 82) C.1 C.2.1 dX11_size_13 (by omega) (by decide) ?_
    refine lv_iconst (v := (-1)) C.1 C.2.1 dX11_size_82 (by decide) ?_
    exact kc_zret C hr hlk rfl Wd ⟨trivial, hI⟩ dX11_size_83
