set_option maxHeartbeats 4000000 in
set_option maxRecDepth 100000 in
theorem gX4_addItem (l : Launch) (D : va_G) (ad : Nat → Nat) (ca : Nat → ClassId) (T : Value → Prop) (cel : Nat → Cl) (sz : Nat) (x0 : Int32) (x1 : Int32) (hI : InvC ad ca (pTp T) cel) : Met l yX4_addItem (Cond.code yX4_addItem cX4_addItem 3 (some .int) :: gG) { frames := 2, cells := 0, slots := 0, locals := 84 } (cPre D (tC ca) (wN NC cel) sz [.ref (ad 31), .int x0, .int x1]) (va_Qi (fun (r : Int32) (c' : Nat → Cl) => (-1 ≤ r.toInt ∧ r.toInt ≤ 8) ∧ InvC ad ca (pTp T) c') (fun c' t => cB D (va_A (wN NC cel) sz) [] (wN NC c') t) (va_A (wN NC cel) sz)) 0 0 (va_A (wN NC cel) sz) := by
  refine Met.ofW (cc := cX4_addItem) (maxL := 3) (ret := (some .int)) (by decide) rfl ?_
  intro p e s m args below meth c s₁ B hml hv
  obtain ⟨rfl, aks, rfl, Wd⟩ := k_enter hv
  have C : CallFix p m c cX4_addItem 3 s _ gG RX4 := ⟨B.exec, B.bytes, hml, findClass_of_methodNamed B.named, fun w h => atoms_spec (ws := Cond.code yX4_addItem cX4_addItem 3 (some .int) :: gG) B.pre w (List.mem_cons_of_mem _ h)⟩
  have hr := B.returns
  have hlk := B.notSynchronized
  generalize va_A (wN NC cel) s.heap.size = A at Wd ⊢
  refine k_locals (Nat.le_of_ble_eq_true rfl) [(0, .ref (ad 31)), (1, .int x0), (2, .int x1)] rfl (fun ls hl => ?_)
  refine lv_iload_n C.1 C.2.1 dX4_addItem_0 rfl (lv_at hl 1 rfl) ?_
  refine k_cutA (fun (cel : Nat → Cl) H locs ls => InvC ad ca (pTp T) cel ∧ wX D (tC ca) s (wN NC cel) H A s.heap locs ∧ lv_has ls 3 []) (fun (cel : Nat → Cl) ls => F0 m 18 ls []) (fun cel H locs ls hi => ?_) (fun J18 => ?_)
  · obtain ⟨hI, Wd, hl⟩ := hi
    refine lv_iconst (v := (-1)) C.1 C.2.1 dX4_addItem_18 (by decide) ?_
    exact kc_zret C hr hlk rfl Wd ⟨(by exact ⟨by have zqm1 : (-1 : Int32).toInt = -1 := (by decide); omega, by have zqm1 : (-1 : Int32).toInt = -1 := (by decide); omega⟩), hI⟩ dX4_addItem_19
  refine k_pi (k_runS (rest := []) C aks Wd cs_X4_63 (wsX4_isPass l D x0 _ ([].map cel) trivial) [] (wN_pick [] (okC_lt (ok_1))) (okC_nd (ok_1)) [] (tC_ok (ok_1) rfl)  rfl rfl ⟨(Nat.le_of_ble_eq_true rfl), (Nat.le_of_ble_eq_true rfl)⟩ hl.1 rfl rfl (Nat.le_of_ble_eq_true rfl) ⟨(Nat.le_of_ble_eq_true rfl), (Nat.le_of_ble_eq_true rfl)⟩ dX4_addItem_1) (fun r1 w1 => ?_)
  rcases w1 with rfl | ⟨g1_1_0, g1_1_1, rfl⟩
  · refine lv_if_eq (tgt := 18) C.1 C.2.1 dX4_addItem_4 (by decide) (fun _ => ?_) (fun c4 => absurd c4 (by decide))
    exact J18 cel _ _ _ ⟨hI, Wd, lv_sub hl [] rfl⟩
  · have g1_1_0 : 0 ≤ x0.toInt := g1_1_0
    have g1_1_1 : x0.toInt ≤ 5 := g1_1_1
    refine lv_if_eq (tgt := 18) C.1 C.2.1 dX4_addItem_4 (by decide) (fun c4 => absurd c4 (by decide)) (fun _ => ?_)
    refine lv_aload_n C.1 C.2.1 dX4_addItem_7 rfl (lv_at hl 0 rfl) ?_
    obtain ⟨_, e8, y8_3, y8_4, rfl⟩ := at_E (by decide) (fx31 hI)
    refine k_get C Wd KX4 31 7 e8 (by decide) fl_X4_23 rfl dX4_addItem_8 ?_
    refine lv_iload_n C.1 C.2.1 dX4_addItem_11 rfl (lv_at hl 1 rfl) ?_
    obtain ⟨_, e12, f12, rfl, q12⟩ := at_E (by decide) (fx69 hI)
    obtain ⟨v12, ev12⟩ : ∃ z : Int32, f12 x0.toNatClampNeg = z := ⟨_, rfl⟩
    refine k_iald (v := v12) C Wd 69 69 e12 (tC_at (by decide) rfl) (vp_in_iff.mpr ⟨by omega, by omega⟩) ev12 dX4_addItem_12 ?_
    have iv12 : 0 ≤ v12.toInt ∧ v12.toInt ≤ 8 := by rw [← ev12]; exact q12 _
    refine lv_bipush (v := 8) C.1 C.2.1 dX4_addItem_13 (by decide) ?_
    refine lv_icmp_lt (tgt := 20) C.1 C.2.1 dX4_addItem_15 (by decide) (fun c15 => ?_) (fun c15 => ?_)
    · have i15 : v12.toInt < 8 := kz_lt c15
      refine lv_aload_n C.1 C.2.1 dX4_addItem_20 rfl (lv_at hl 0 rfl) ?_
      obtain ⟨_, e21, y21_3, y21_4, rfl⟩ := at_E (by decide) (fx31 hI)
      refine k_get C Wd KX4 31 6 e21 (by decide) fl_X4_20 rfl dX4_addItem_21 ?_
      refine lv_iload_n C.1 C.2.1 dX4_addItem_24 rfl (lv_at hl 1 rfl) ?_
      obtain ⟨_, e25, f25, rfl, q25⟩ := at_E (by decide) (fx68 hI)
      obtain ⟨z25, hz25, nz25⟩ : ∃ z : Nat, (z : Int) = x0.toInt ∧ x0.toNatClampNeg = z := ⟨x0.toNatClampNeg, Int.toNat_of_nonneg (by omega), rfl⟩
      have az25 : va_rf (f25 x0.toNatClampNeg) = .ref (ad (227 + z25)) := by rw [nz25, q25 z25 (by omega)]; rfl
      refine k_aldg C Wd 68 68 e25 (tC_at' (by decide)) (vp_in_iff.mpr ⟨by omega, by omega⟩) az25 dX4_addItem_25 ?_
      refine lv_aload_n C.1 C.2.1 dX4_addItem_26 rfl (lv_at hl 0 rfl) ?_
      obtain ⟨_, e27, y27_3, y27_4, rfl⟩ := at_E (by decide) (fx31 hI)
      refine k_get C Wd KX4 31 7 e27 (by decide) fl_X4_23 rfl dX4_addItem_27 ?_
      refine lv_iload_n C.1 C.2.1 dX4_addItem_30 rfl (lv_at hl 1 rfl) ?_
      refine k_iald (v := v12) C Wd 69 69 e12 (tC_at (by decide) rfl) (vp_in_iff.mpr ⟨by omega, by omega⟩) ev12 dX4_addItem_31 ?_
      refine lv_iload_n C.1 C.2.1 dX4_addItem_32 rfl (lv_at hl 2 rfl) ?_
      obtain ⟨_, e33, f33, rfl, q33⟩ := at_E (by show _ < 233; omega) (fitem0 hI (by omega : z25 < 6))
      obtain ⟨g33, eg33⟩ : ∃ z : Nat → Int32, upd f33 v12.toNatClampNeg x1 = z := ⟨_, rfl⟩
      refine k_iast C Wd (227 + z25) (227 + z25) (wN NC (putC cel (227 + z25) ((ad (227 + z25)), .inl (ca (227 + z25), 8, .inl g33)))) e33 (tC_at (by show _ < 233; omega) (tyC_fam (by omega))) (vp_in_iff.mpr ⟨by omega, by omega⟩) eg33 (wN_set (by show _ < 233; omega)) dX4_addItem_33 (fun H locs Wd => ?_)
      obtain ⟨cel, Wd, hI, kp33⟩ : ∃ c : Nat → Cl, wX D (tC ca) s (wN NC c) H A s.heap locs ∧ InvC ad ca (pTp T) c ∧ ∀ j, j ≠ (227 + z25) → (wN NC c)[j]? = (wN NC cel)[j]? := ⟨_, Wd, Inv_put hI (titem0 (by omega) ⟨rfl, g33, rfl, cr_all _⟩), fun j hj => wN_put hj⟩
      have e12 := (kp33 69 (by omega)).trans e12
      refine lv_aload_n C.1 C.2.1 dX4_addItem_34 rfl (lv_at hl 0 rfl) ?_
      obtain ⟨_, e35, y35_3, y35_4, rfl⟩ := at_E (by decide) (fx31 hI)
      refine k_get C Wd KX4 31 7 e35 (by decide) fl_X4_23 rfl dX4_addItem_35 ?_
      refine lv_iload_n C.1 C.2.1 dX4_addItem_38 rfl (lv_at hl 1 rfl) ?_
      refine lv_dup2_11 C.1 C.2.1 dX4_addItem_39 rfl rfl ?_
      refine k_iald (v := v12) C Wd 69 69 e12 (tC_at (by decide) rfl) (vp_in_iff.mpr ⟨by omega, by omega⟩) ev12 dX4_addItem_40 ?_
      refine lv_iconst (v := 1) C.1 C.2.1 dX4_addItem_41 (by decide) ?_
      obtain ⟨v42, ev42⟩ : ∃ z : Int32, v12 + 1 = z := ⟨_, rfl⟩
      have iv42 : v42.toInt = v12.toInt + 1 := kz_addc ev42 (by decide) (by have zr0 := kz_rng v12; omega) (by have zr0 := kz_rng v12; omega)
      refine k_iadd (v := v42) C ev42 dX4_addItem_42 ?_
      obtain ⟨_, e43, f43, rfl, q43⟩ := at_E (by decide) (fx69 hI)
      obtain ⟨g43, eg43⟩ : ∃ z : Nat → Int32, upd f43 x0.toNatClampNeg v42 = z := ⟨_, rfl⟩
      refine k_iast C Wd 69 69 (wN NC (putC cel 69 ((ad 69), .inl (ca 69, 6, .inl g43)))) e43 (tC_at (by decide) rfl) (vp_in_iff.mpr ⟨by omega, by omega⟩) eg43 (wN_set (by decide)) dX4_addItem_43 (fun H locs Wd => ?_)
      obtain ⟨cel, Wd, hI, kp43⟩ : ∃ c : Nat → Cl, wX D (tC ca) s (wN NC c) H A s.heap locs ∧ InvC ad ca (pTp T) c ∧ ∀ j, j ≠ 69 → (wN NC c)[j]? = (wN NC cel)[j]? := ⟨_, Wd, Inv_put hI ⟨rfl, g43, rfl, cr_upd q43 eg43 (by omega) (by omega)⟩, fun j hj => wN_put hj⟩
      refine lv_aload_n C.1 C.2.1 dX4_addItem_44 rfl (lv_at hl 0 rfl) ?_
      obtain ⟨_, e45, y45_3, y45_4, rfl⟩ := at_E (by decide) (fx31 hI)
      refine k_get C Wd KX4 31 7 e45 (by decide) fl_X4_23 rfl dX4_addItem_45 ?_
      refine lv_iload_n C.1 C.2.1 dX4_addItem_48 rfl (lv_at hl 1 rfl) ?_
      obtain ⟨_, e49, f49, rfl, q49⟩ := at_E (by decide) (fx69 hI)
      obtain ⟨v49, ev49⟩ : ∃ z : Int32, f49 x0.toNatClampNeg = z := ⟨_, rfl⟩
      refine k_iald (v := v49) C Wd 69 69 e49 (tC_at (by decide) rfl) (vp_in_iff.mpr ⟨by omega, by omega⟩) ev49 dX4_addItem_49 ?_
      have iv49 : 0 ≤ v49.toInt ∧ v49.toInt ≤ 8 := by rw [← ev49]; exact q49 _
      exact kc_zret C hr hlk rfl Wd ⟨(by exact ⟨by omega, by omega⟩), hI⟩ dX4_addItem_50
    · have i15 : 8 ≤ v12.toInt := kz_nlt c15
      exact J18 cel _ _ _ ⟨hI, Wd, lv_sub hl [] rfl⟩
set_option maxHeartbeats 4000000 in
set_option maxRecDepth 100000 in
theorem gX4_makeOf (l : Launch) (D : va_G) (ad : Nat → Nat) (ca : Nat → ClassId) (T : Value → Prop) (cel : Nat → Cl) (sz : Nat) (i1 : Nat) (hb_i1 : i1 < 8) (x0 : Int32) (hI : InvC ad ca (pTp T) cel) : Met l yX4_makeOf (Cond.code yX4_makeOf cX4_makeOf 5 (some .boolean) :: gG) { frames := 6, cells := 0, slots := 0, locals := 188 } (cPre D (tC ca) (wN NC cel) sz [.ref (ad 31), .int x0, .ref (ad (101 + 2 * i1))]) (va_Qi (fun (r : Int32) (c' : Nat → Cl) => (0 ≤ r.toInt ∧ r.toInt ≤ 1) ∧ InvC ad ca (pTp T) c') (fun c' t => cB D (va_A (wN NC cel) sz) [] (wN NC c') t) (va_A (wN NC cel) sz)) 0 0 (va_A (wN NC cel) sz) := by
  refine Met.ofW (cc := cX4_makeOf) (maxL := 5) (ret := (some .boolean)) (by decide) rfl ?_
  intro p e s m args below meth c s₁ B hml hv
  obtain ⟨rfl, aks, rfl, Wd⟩ := k_enter hv
  have C : CallFix p m c cX4_makeOf 5 s _ gG RX4 := ⟨B.exec, B.bytes, hml, findClass_of_methodNamed B.named, fun w h => atoms_spec (ws := Cond.code yX4_makeOf cX4_makeOf 5 (some .boolean) :: gG) B.pre w (List.mem_cons_of_mem _ h)⟩
  have hr := B.returns
  have hlk := B.notSynchronized
  generalize va_A (wN NC cel) s.heap.size = A at Wd ⊢
  refine k_locals (Nat.le_of_ble_eq_true rfl) [(0, .ref (ad 31)), (1, .int x0), (2, .ref (ad (101 + 2 * i1)))] rfl (fun ls hl => ?_)
  refine lv_iload_n C.1 C.2.1 dX4_makeOf_0 rfl (lv_at hl 1 rfl) ?_
  refine k_pi (k_runS (rest := []) C aks Wd cs_X4_63 (wsX4_isPass l D x0 _ ([].map cel) trivial) [] (wN_pick [] (okC_lt (ok_1))) (okC_nd (ok_1)) [] (tC_ok (ok_1) rfl)  rfl rfl ⟨(Nat.le_of_ble_eq_true rfl), (Nat.le_of_ble_eq_true rfl)⟩ hl.1 rfl rfl (Nat.le_of_ble_eq_true rfl) ⟨(Nat.le_of_ble_eq_true rfl), (Nat.le_of_ble_eq_true rfl)⟩ dX4_makeOf_1) (fun r1 w1 => ?_)
  rcases w1 with rfl | ⟨g1_1_0, g1_1_1, rfl⟩
  · refine lv_if_ne (tgt := 9) C.1 C.2.1 dX4_makeOf_4 (by decide) (fun c4 => absurd c4 (by decide)) (fun _ => ?_)
    refine lv_iconst (v := 0) C.1 C.2.1 dX4_makeOf_7 (by decide) ?_
    exact kc_zret C hr hlk rfl Wd ⟨(by exact ⟨by have zq0 : (0 : Int32).toInt = 0 := (by decide); omega, by have zq0 : (0 : Int32).toInt = 0 := (by decide); omega⟩), hI⟩ dX4_makeOf_8
  · have g1_1_0 : 0 ≤ x0.toInt := g1_1_0
    have g1_1_1 : x0.toInt ≤ 5 := g1_1_1
    refine lv_if_ne (tgt := 9) C.1 C.2.1 dX4_makeOf_4 (by decide) (fun _ => ?_) (fun c4 => absurd c4 (by decide))
    refine lv_aload_n C.1 C.2.1 dX4_makeOf_9 rfl (lv_at hl 0 rfl) ?_
    obtain ⟨_, e10, y10_3, y10_4, rfl⟩ := at_E (by decide) (fx31 hI)
    refine k_get C Wd KX4 31 1 e10 (by decide) fl_X4_39 rfl dX4_makeOf_10 ?_
    refine lv_aload_n C.1 C.2.1 dX4_makeOf_13 rfl (lv_at hl 2 rfl) ?_
    obtain ⟨_, e14o, y14o_1, rfl, b14o_1, c14o_1⟩ := at_E (by decide) (fx119 hI)
    refine kc_v Wd (k_runV (rest := []) C aks Wd cs_X4_67 (liftV4 (P' := pTp T) hI (ok_8 i1 (by omega)) (wsX8_copy l D (ad 119) (ad (101 + 2 * i1)) (ad (101 + 2 * i1 + 1)) (ad 120) (ca (101 + 2 * i1 + 1)) (ca 120) (capR i1) 1000 _ (by have := capR_hi i1; have := capR_lo i1; omega) (by have := capR_hi i1; have := capR_lo i1; omega) (by omega) (by omega) ([(101 + 2 * i1), (101 + 2 * i1 + 1), 119, 120].map cel) ⟨(frow0 hI (by omega : i1 < 11)), (frow1 hI (by omega : i1 < 11)), (fx119 hI), (fx120 hI), trivial⟩) rfl (fun _ _ => rfl) ⟨fun _ h => trow0 (by omega) h, fun _ h => trow1 (by omega) h, fun _ h => h, fun _ h => h, trivial⟩) (List.range NC) (wN_all cel) ndR (List.range NC) (tC_all ca) 119 8 e14o rfl rfl rfl rfl ⟨(Nat.le_of_ble_eq_true rfl), (Nat.le_of_ble_eq_true rfl)⟩ hl.1 rfl rfl (Nat.le_of_ble_eq_true rfl) ⟨(Nat.le_of_ble_eq_true rfl), (Nat.le_of_ble_eq_true rfl)⟩ dX4_makeOf_14) (fun cel H locs w14 hI Wd => ?_)
    refine lv_iconst (v := 0) C.1 C.2.1 dX4_makeOf_17 (by decide) ?_
    refine lv_istore_n (lv' := [(3, .int 0), (0, .ref (ad 31)), (1, .int x0), (2, .ref (ad (101 + 2 * i1)))]) C.1 C.2.1 dX4_makeOf_18 rfl hl (by decide) rfl (fun ls hl => ?_)
    refine k_loopA (fun (u : (Nat → Cl) × (Int32)) H locs ls => match u with | (cel, j19_L_3) => 0 ≤ j19_L_3.toInt ∧ j19_L_3.toInt ≤ 8 ∧ InvC ad ca (pTp T) cel ∧ wX D (tC ca) s (wN NC cel) H A s.heap locs ∧ lv_has ls 5 [(3, .int j19_L_3), (0, .ref (ad 31)), (1, .int x0)]) (fun (u : (Nat → Cl) × (Int32)) ls => match u with | (cel, j19_L_3) => F0 m 19 ls []) (fun (u : (Nat → Cl) × (Int32)) => match u with | (cel, j19_L_3) => (9 - j19_L_3.toInt).toNat) (fun u H locs ls hi ih19 => ?_) (cel, 0) _ _ _ ⟨by have zq0 : (0 : Int32).toInt = 0 := (by decide); omega, by have zq0 : (0 : Int32).toInt = 0 := (by decide); omega, hI, Wd, lv_sub hl [0, 1, 2] rfl⟩
    obtain ⟨cel, j19_L_3⟩ := u
    obtain ⟨i19_0, i19_1, hI, Wd, hl⟩ := hi
    refine lv_iload_n C.1 C.2.1 dX4_makeOf_19 rfl (lv_at hl 0 rfl) ?_
    refine lv_aload_n C.1 C.2.1 dX4_makeOf_20 rfl (lv_at hl 1 rfl) ?_
    obtain ⟨_, e21, y21_3, y21_4, rfl⟩ := at_E (by decide) (fx31 hI)
    refine k_get C Wd KX4 31 7 e21 (by decide) fl_X4_23 rfl dX4_makeOf_21 ?_
    refine lv_iload_n C.1 C.2.1 dX4_makeOf_24 rfl (lv_at hl 2 rfl) ?_
    obtain ⟨_, e25, f25, rfl, q25⟩ := at_E (by decide) (fx69 hI)
    obtain ⟨v25, ev25⟩ : ∃ z : Int32, f25 x0.toNatClampNeg = z := ⟨_, rfl⟩
    refine k_iald (v := v25) C Wd 69 69 e25 (tC_at (by decide) rfl) (vp_in_iff.mpr ⟨by omega, by omega⟩) ev25 dX4_makeOf_25 ?_
    have iv25 : 0 ≤ v25.toInt ∧ v25.toInt ≤ 8 := by rw [← ev25]; exact q25 _
    refine lv_icmp_ge (tgt := 191) C.1 C.2.1 dX4_makeOf_26 (by decide) (fun c26 => ?_) (fun c26 => ?_)
    · have i26 : v25.toInt ≤ j19_L_3.toInt := kz_le c26
      refine lv_iconst (v := 1) C.1 C.2.1 dX4_makeOf_191 (by decide) ?_
      exact kc_zret C hr hlk rfl Wd ⟨(by exact ⟨by have zq1 : (1 : Int32).toInt = 1 := (by decide); omega, by have zq1 : (1 : Int32).toInt = 1 := (by decide); omega⟩), hI⟩ dX4_makeOf_192
    · have i26 : j19_L_3.toInt < v25.toInt := kz_nle c26
      refine lv_iload_n C.1 C.2.1 dX4_makeOf_29 rfl (lv_at hl 0 rfl) ?_
      refine lv_bipush (v := 8) C.1 C.2.1 dX4_makeOf_30 (by decide) ?_
      refine lv_icmp_ge (tgt := 191) C.1 C.2.1 dX4_makeOf_32 (by decide) (fun c32 => False.elim (by have i32 : 8 ≤ j19_L_3.toInt := kz_le c32; omega)) (fun _ => ?_)
      refine lv_iconst (v := 1) C.1 C.2.1 dX4_makeOf_35 (by decide) ?_
      refine lv_istore (lv' := [(4, .int 1), (3, .int j19_L_3), (0, .ref (ad 31)), (1, .int x0)]) C.1 C.2.1 dX4_makeOf_36 hl (by decide) rfl (fun ls hl => ?_)
      refine lv_aload_n C.1 C.2.1 dX4_makeOf_38 rfl (lv_at hl 2 rfl) ?_
      obtain ⟨_, e39, y39_3, y39_4, rfl⟩ := at_E (by decide) (fx31 hI)
      refine k_get C Wd KX4 31 6 e39 (by decide) fl_X4_20 rfl dX4_makeOf_39 ?_
      refine lv_iload_n C.1 C.2.1 dX4_makeOf_42 rfl (lv_at hl 3 rfl) ?_
      obtain ⟨_, e43, f43, rfl, q43⟩ := at_E (by decide) (fx68 hI)
      obtain ⟨z43, hz43, nz43⟩ : ∃ z : Nat, (z : Int) = x0.toInt ∧ x0.toNatClampNeg = z := ⟨x0.toNatClampNeg, Int.toNat_of_nonneg (by omega), rfl⟩
      have az43 : va_rf (f43 x0.toNatClampNeg) = .ref (ad (227 + z43)) := by rw [nz43, q43 z43 (by omega)]; rfl
      refine k_aldg C Wd 68 68 e43 (tC_at' (by decide)) (vp_in_iff.mpr ⟨by omega, by omega⟩) az43 dX4_makeOf_43 ?_
      refine lv_iload_n C.1 C.2.1 dX4_makeOf_44 rfl (lv_at hl 1 rfl) ?_
      obtain ⟨_, e45, f45, rfl, q45⟩ := at_E (by show _ < 233; omega) (fitem0 hI (by omega : z43 < 6))
      obtain ⟨v45, ev45⟩ : ∃ z : Int32, f45 j19_L_3.toNatClampNeg = z := ⟨_, rfl⟩
      refine k_iald (v := v45) C Wd (227 + z43) (227 + z43) e45 (tC_at (by show _ < 233; omega) (tyC_fam (by omega))) (vp_in_iff.mpr ⟨by omega, by omega⟩) ev45 dX4_makeOf_45 ?_
      refine k_cutA (fun (u : (Nat → Cl) × (Int32)) H locs ls => match u with | (cel, j168_L_4) => 0 ≤ j168_L_4.toInt ∧ j168_L_4.toInt ≤ 1 ∧ InvC ad ca (pTp T) cel ∧ wX D (tC ca) s (wN NC cel) H A s.heap locs ∧ lv_has ls 5 [(4, .int j168_L_4), (3, .int j19_L_3), (0, .ref (ad 31)), (1, .int x0)]) (fun (u : (Nat → Cl) × (Int32)) ls => match u with | (cel, j168_L_4) => F0 m 168 ls []) (fun u H locs ls hi => ?_) (fun J168 => ?_)
      · obtain ⟨cel, j168_L_4⟩ := u
        obtain ⟨i168_0, i168_1, hI, Wd, hl⟩ := hi
        refine lv_iload C.1 C.2.1 dX4_makeOf_168 (lv_at hl 0 rfl) ?_
        refine k_cutA (fun (cel : Nat → Cl) H locs ls => InvC ad ca (pTp T) cel ∧ wX D (tC ca) s (wN NC cel) H A s.heap locs ∧ lv_has ls 5 []) (fun (cel : Nat → Cl) ls => F0 m 183 ls []) (fun cel H locs ls hi => ?_) (fun J183 => ?_)
        · obtain ⟨hI, Wd, hl⟩ := hi
          refine lv_iconst (v := 0) C.1 C.2.1 dX4_makeOf_183 (by decide) ?_
          exact kc_zret C hr hlk rfl Wd ⟨(by exact ⟨by have zq0 : (0 : Int32).toInt = 0 := (by decide); omega, by have zq0 : (0 : Int32).toInt = 0 := (by decide); omega⟩), hI⟩ dX4_makeOf_184
        refine lv_if_eq (tgt := 183) C.1 C.2.1 dX4_makeOf_170 (by decide) (fun c170 => ?_) (fun c170 => ?_)
        · have i170 : j168_L_4.toInt = 0 := kz_eq c170
          exact J183 cel _ _ _ ⟨hI, Wd, lv_sub hl [] rfl⟩
        · have i170 : ¬ j168_L_4.toInt = 0 := kz_ne c170
          refine lv_aload_n C.1 C.2.1 dX4_makeOf_173 rfl (lv_at hl 2 rfl) ?_
          obtain ⟨_, e174, y174_3, y174_4, rfl⟩ := at_E (by decide) (fx31 hI)
          refine k_get C Wd KX4 31 1 e174 (by decide) fl_X4_39 rfl dX4_makeOf_174 ?_
          obtain ⟨_, e177o, y177o_1, rfl, b177o_1, c177o_1⟩ := at_E (by decide) (fx119 hI)
          refine k_pi (k_runV (rest := []) C aks Wd cs_X4_94 (wsX8_isTooLarge l D (ad 119) (ad 120) (ca 120) 1000 _ (by omega) (by omega) ([119, 120].map cel) ⟨(fx119 hI), (fx120 hI), trivial⟩) [119, 120] (wN_pick [119, 120] (okC_lt (ok_11))) (okC_nd (ok_11)) [120] (tC_ok (ok_11) rfl) 119 8 e177o rfl rfl rfl rfl ⟨(Nat.le_of_ble_eq_true rfl), (Nat.le_of_ble_eq_true rfl)⟩ hl.1 rfl rfl (Nat.le_of_ble_eq_true rfl) ⟨(Nat.le_of_ble_eq_true rfl), (Nat.le_of_ble_eq_true rfl)⟩ dX4_makeOf_177) (fun r177 w177 => ?_)
          obtain ⟨g177_0, g177_1⟩ := w177
          have g177_0 : 0 ≤ r177.toInt := g177_0
          have g177_1 : r177.toInt ≤ 1 := g177_1
          refine lv_if_eq (tgt := 185) C.1 C.2.1 dX4_makeOf_180 (by decide) (fun c180 => ?_) (fun c180 => ?_)
          · have i180 : r177.toInt = 0 := kz_eq c180
            obtain ⟨v185, ev185⟩ : ∃ z : Int32, j19_L_3 + 1 = z := ⟨_, rfl⟩
            have iv185 : v185.toInt = j19_L_3.toInt + 1 := kz_addc ev185 (by decide) (by have zr0 := kz_rng j19_L_3; omega) (by have zr0 := kz_rng j19_L_3; omega)
            refine lv_iinc (v := v185) (lv' := [(3, .int v185), (4, .int j168_L_4), (0, .ref (ad 31)), (1, .int x0)]) C.1 C.2.1 dX4_makeOf_185 hl (k := 1) rfl ev185 (by decide) rfl (fun ls hl => ?_)
            refine lv_goto (tgt := 19) C.1 C.2.1 dX4_makeOf_188 (by decide) ?_
            exact ih19 (cel, v185) _ _ _ ⟨by omega, by omega, hI, Wd, lv_sub hl [0, 2, 3] rfl⟩ (by show (9 - v185.toInt).toNat < (9 - j19_L_3.toInt).toNat; omega)
          · have i180 : ¬ r177.toInt = 0 := kz_ne c180
            exact J183 cel _ _ _ ⟨hI, Wd, lv_sub hl [] rfl⟩
      by_cases c46_20 : v45.toInt = 20
      · refine lv_tableIn (off := 34) (tgt := 80) C.1 C.2.1 dX4_makeOf_46 (by omega) (by omega) (by rw [c46_20]; rfl) (by decide) ?_
        refine lv_aload_n C.1 C.2.1 dX4_makeOf_80 rfl (lv_at hl 2 rfl) ?_
        obtain ⟨_, e81, y81_3, y81_4, rfl⟩ := at_E (by decide) (fx31 hI)
        refine k_get C Wd KX4 31 8 e81 (by decide) fl_X4_30 rfl dX4_makeOf_81 ?_
        refine lv_aload_n C.1 C.2.1 dX4_makeOf_84 rfl (lv_at hl 2 rfl) ?_
        obtain ⟨_, e85, y85_3, y85_4, rfl⟩ := at_E (by decide) (fx31 hI)
        refine k_get C Wd KX4 31 1 e85 (by decide) fl_X4_39 rfl dX4_makeOf_85 ?_
        obtain ⟨_, e88o, rfl⟩ := at_E (by decide) (fx70 hI)
        refine kc_v Wd (k_runV (rest := []) C aks Wd cs_X4_71 (liftV4 (P' := pTp T) hI (ok_9) (wsX0_fold l D (ad 70) (ad 119) (ad 121) (ad 71) (ad 120) (ca 120) 1000 _ (by omega) (by omega) ([70, 119, 120].map cel) ⟨(fx70 hI), (fx119 hI), (fx120 hI), trivial⟩) rfl (fun _ _ => rfl) ⟨fun _ h => h, fun _ h => h, fun _ h => h, trivial⟩) (List.range NC) (wN_all cel) ndR (List.range NC) (tC_all ca) 70 0 e88o rfl rfl rfl rfl ⟨(Nat.le_of_ble_eq_true rfl), (Nat.le_of_ble_eq_true rfl)⟩ hl.1 rfl rfl (Nat.le_of_ble_eq_true rfl) ⟨(Nat.le_of_ble_eq_true rfl), (Nat.le_of_ble_eq_true rfl)⟩ dX4_makeOf_88) (fun cel H locs w88 hI Wd => ?_)
        refine lv_goto (tgt := 168) C.1 C.2.1 dX4_makeOf_91 (by decide) ?_
        exact J168 (cel, 1) _ _ _ ⟨by have zq1 : (1 : Int32).toInt = 1 := (by decide); omega, by have zq1 : (1 : Int32).toInt = 1 := (by decide); omega, hI, Wd, lv_sub hl [0, 1, 2, 3] rfl⟩
      by_cases c46_21 : v45.toInt = 21
      · refine lv_tableIn (off := 48) (tgt := 94) C.1 C.2.1 dX4_makeOf_46 (by omega) (by omega) (by rw [c46_21]; rfl) (by decide) ?_
        refine lv_aload_n C.1 C.2.1 dX4_makeOf_94 rfl (lv_at hl 2 rfl) ?_
        obtain ⟨_, e95, y95_3, y95_4, rfl⟩ := at_E (by decide) (fx31 hI)
        refine k_get C Wd KX4 31 8 e95 (by decide) fl_X4_30 rfl dX4_makeOf_95 ?_
        refine lv_aload_n C.1 C.2.1 dX4_makeOf_98 rfl (lv_at hl 2 rfl) ?_
        obtain ⟨_, e99, y99_3, y99_4, rfl⟩ := at_E (by decide) (fx31 hI)
        refine k_get C Wd KX4 31 1 e99 (by decide) fl_X4_39 rfl dX4_makeOf_99 ?_
        obtain ⟨_, e102o, rfl⟩ := at_E (by decide) (fx70 hI)
        refine kc_v Wd (k_runV (rest := []) C aks Wd cs_X4_74 (liftV4 (P' := pTp T) hI (ok_10) (wsX0_dead l D (ad 70) (ad 119) (ad 121) (ad 71) (ad 72) (ad 73) (ad 74) (ad 75) (ad 76) (ad 77) (ad 78) (ad 79) (ad 80) (ad 81) (ad 82) (ad 83) (ad 120) (ca 120) (ca 83) (ca 82) (ca 72) (ca 73) (ca 79) (ca 74) (ca 75) (ca 78) (ca 76) (ca 77) (ca 81) (ca 80) 1000 _ (by omega) (by omega) ([70, 71, 119, 120, 83, 82, 72, 73, 79, 74, 75, 78, 76, 77, 81, 80].map cel) ⟨(fx70 hI), (fx71 hI), (fx119 hI), (fx120 hI), (fx83 hI), (fx82 hI), (fx72 hI), (fx73 hI), (fx79 hI), (fx74 hI), (fx75 hI), (fx78 hI), (fx76 hI), (fx77 hI), (fx81 hI), (fx80 hI), trivial⟩) rfl (fun _ _ => rfl) ⟨fun _ h => h, fun _ h => tx71 h (fun _ _ q => trivial), fun _ h => h, fun _ h => h, fun _ h => h, fun _ h => h, fun _ h => h, fun _ h => h, fun _ h => h, fun _ h => h, fun _ h => h, fun _ h => h, fun _ h => h, fun _ h => h, fun _ h => h, fun _ h => h, trivial⟩) (List.range NC) (wN_all cel) ndR (List.range NC) (tC_all ca) 70 0 e102o rfl rfl rfl rfl ⟨(Nat.le_of_ble_eq_true rfl), (Nat.le_of_ble_eq_true rfl)⟩ hl.1 rfl rfl (Nat.le_of_ble_eq_true rfl) ⟨(Nat.le_of_ble_eq_true rfl), (Nat.le_of_ble_eq_true rfl)⟩ dX4_makeOf_102) (fun cel H locs w102 hI Wd => ?_)
        refine lv_goto (tgt := 168) C.1 C.2.1 dX4_makeOf_105 (by decide) ?_
        exact J168 (cel, 1) _ _ _ ⟨by have zq1 : (1 : Int32).toInt = 1 := (by decide); omega, by have zq1 : (1 : Int32).toInt = 1 := (by decide); omega, hI, Wd, lv_sub hl [0, 1, 2, 3] rfl⟩
      by_cases c46_22 : v45.toInt = 22
      · refine lv_tableIn (off := 62) (tgt := 108) C.1 C.2.1 dX4_makeOf_46 (by omega) (by omega) (by rw [c46_22]; rfl) (by decide) ?_
        refine lv_aload_n C.1 C.2.1 dX4_makeOf_108 rfl (lv_at hl 2 rfl) ?_
        obtain ⟨_, e109, y109_3, y109_4, rfl⟩ := at_E (by decide) (fx31 hI)
        refine k_get C Wd KX4 31 8 e109 (by decide) fl_X4_30 rfl dX4_makeOf_109 ?_
        refine lv_aload_n C.1 C.2.1 dX4_makeOf_112 rfl (lv_at hl 2 rfl) ?_
        obtain ⟨_, e113, y113_3, y113_4, rfl⟩ := at_E (by decide) (fx31 hI)
        refine k_get C Wd KX4 31 1 e113 (by decide) fl_X4_39 rfl dX4_makeOf_113 ?_
        obtain ⟨_, e116o, rfl⟩ := at_E (by decide) (fx70 hI)
        refine kc_v Wd (k_runV (rest := []) C aks Wd cs_X4_77 (liftV4 (P' := pTp T) hI (ok_11) (wsX0_hastyDead l D (ad 70) (ad 119) (ad 120) (ca 120) 1000 _ (by omega) (by omega) ([119, 120].map cel) ⟨(fx119 hI), (fx120 hI), trivial⟩) rfl (fun _ _ => rfl) ⟨fun _ h => h, fun _ h => h, trivial⟩) (List.range NC) (wN_all cel) ndR (List.range NC) (tC_all ca) 70 0 e116o rfl rfl rfl rfl ⟨(Nat.le_of_ble_eq_true rfl), (Nat.le_of_ble_eq_true rfl)⟩ hl.1 rfl rfl (Nat.le_of_ble_eq_true rfl) ⟨(Nat.le_of_ble_eq_true rfl), (Nat.le_of_ble_eq_true rfl)⟩ dX4_makeOf_116) (fun cel H locs w116 hI Wd => ?_)
        refine lv_goto (tgt := 168) C.1 C.2.1 dX4_makeOf_119 (by decide) ?_
        exact J168 (cel, 1) _ _ _ ⟨by have zq1 : (1 : Int32).toInt = 1 := (by decide); omega, by have zq1 : (1 : Int32).toInt = 1 := (by decide); omega, hI, Wd, lv_sub hl [0, 1, 2, 3] rfl⟩
      by_cases c46_23 : v45.toInt = 23
      · refine lv_tableIn (off := 76) (tgt := 122) C.1 C.2.1 dX4_makeOf_46 (by omega) (by omega) (by rw [c46_23]; rfl) (by decide) ?_
        refine lv_aload_n C.1 C.2.1 dX4_makeOf_122 rfl (lv_at hl 2 rfl) ?_
        obtain ⟨_, e123, y123_3, y123_4, rfl⟩ := at_E (by decide) (fx31 hI)
        refine k_get C Wd KX4 31 8 e123 (by decide) fl_X4_30 rfl dX4_makeOf_123 ?_
        refine lv_aload_n C.1 C.2.1 dX4_makeOf_126 rfl (lv_at hl 2 rfl) ?_
        obtain ⟨_, e127, y127_3, y127_4, rfl⟩ := at_E (by decide) (fx31 hI)
        refine k_get C Wd KX4 31 1 e127 (by decide) fl_X4_39 rfl dX4_makeOf_127 ?_
        obtain ⟨_, e130o, rfl⟩ := at_E (by decide) (fx70 hI)
        refine kc_v Wd (k_runV (rest := []) C aks Wd cs_X4_80 (liftV4 (P' := pTp T) hI (ok_12) (wsX0_hastyCopy l D (ad 70) (ad 119) (ad 120) (ad 121) (ad 71) (ca 120) 1000 _ (by omega) (by omega) ([119, 120, 70].map cel) ⟨(fx119 hI), (fx120 hI), (fx70 hI), trivial⟩) rfl (fun _ _ => rfl) ⟨fun _ h => h, fun _ h => h, fun _ h => h, trivial⟩) (List.range NC) (wN_all cel) ndR (List.range NC) (tC_all ca) 70 0 e130o rfl rfl rfl rfl ⟨(Nat.le_of_ble_eq_true rfl), (Nat.le_of_ble_eq_true rfl)⟩ hl.1 rfl rfl (Nat.le_of_ble_eq_true rfl) ⟨(Nat.le_of_ble_eq_true rfl), (Nat.le_of_ble_eq_true rfl)⟩ dX4_makeOf_130) (fun cel H locs w130 hI Wd => ?_)
        refine lv_goto (tgt := 168) C.1 C.2.1 dX4_makeOf_133 (by decide) ?_
        exact J168 (cel, 1) _ _ _ ⟨by have zq1 : (1 : Int32).toInt = 1 := (by decide); omega, by have zq1 : (1 : Int32).toInt = 1 := (by decide); omega, hI, Wd, lv_sub hl [0, 1, 2, 3] rfl⟩
      by_cases c46_24 : v45.toInt = 24
      · refine lv_tableIn (off := 90) (tgt := 136) C.1 C.2.1 dX4_makeOf_46 (by omega) (by omega) (by rw [c46_24]; rfl) (by decide) ?_
        refine lv_aload_n C.1 C.2.1 dX4_makeOf_136 rfl (lv_at hl 2 rfl) ?_
        obtain ⟨_, e137, y137_3, y137_4, rfl⟩ := at_E (by decide) (fx31 hI)
        refine k_get C Wd KX4 31 8 e137 (by decide) fl_X4_30 rfl dX4_makeOf_137 ?_
        refine lv_aload_n C.1 C.2.1 dX4_makeOf_140 rfl (lv_at hl 2 rfl) ?_
        obtain ⟨_, e141, y141_3, y141_4, rfl⟩ := at_E (by decide) (fx31 hI)
        refine k_get C Wd KX4 31 1 e141 (by decide) fl_X4_39 rfl dX4_makeOf_141 ?_
        obtain ⟨_, e144o, rfl⟩ := at_E (by decide) (fx70 hI)
        refine kc_v Wd (k_runV (rest := []) C aks Wd cs_X4_83 (liftV4 (P' := pTp T) hI (ok_13) (wsX0_unroll l D (ad 70) (ad 119) (ad 121) (ad 71) (ad 122) (ad 120) (ca 122) (ca 120) 1000 1000 _ (by omega) (by omega) (by omega) (by omega) ([70, 121, 122, 119, 120].map cel) ⟨(fx70 hI), (fx121 hI), (fx122 hI), (fx119 hI), (fx120 hI), trivial⟩) rfl (fun _ _ => rfl) ⟨fun _ h => h, fun _ h => h, fun _ h => h, fun _ h => h, fun _ h => h, trivial⟩) (List.range NC) (wN_all cel) ndR (List.range NC) (tC_all ca) 70 0 e144o rfl rfl rfl rfl ⟨(Nat.le_of_ble_eq_true rfl), (Nat.le_of_ble_eq_true rfl)⟩ hl.1 rfl rfl (Nat.le_of_ble_eq_true rfl) ⟨(Nat.le_of_ble_eq_true rfl), (Nat.le_of_ble_eq_true rfl)⟩ dX4_makeOf_144) (fun cel H locs w144 hI Wd => ?_)
        refine lv_goto (tgt := 168) C.1 C.2.1 dX4_makeOf_147 (by decide) ?_
        exact J168 (cel, 1) _ _ _ ⟨by have zq1 : (1 : Int32).toInt = 1 := (by decide); omega, by have zq1 : (1 : Int32).toInt = 1 := (by decide); omega, hI, Wd, lv_sub hl [0, 1, 2, 3] rfl⟩
      refine lv_tableOut (tgt := 150) C.1 C.2.1 dX4_makeOf_46 (by omega) (by decide) ?_
      refine lv_aload_n C.1 C.2.1 dX4_makeOf_150 rfl (lv_at hl 2 rfl) ?_
      refine lv_aload_n C.1 C.2.1 dX4_makeOf_151 rfl (lv_at hl 2 rfl) ?_
      refine lv_aload_n C.1 C.2.1 dX4_makeOf_152 rfl (lv_at hl 2 rfl) ?_
      obtain ⟨_, e153, y153_3, y153_4, rfl⟩ := at_E (by decide) (fx31 hI)
      refine k_get C Wd KX4 31 6 e153 (by decide) fl_X4_20 rfl dX4_makeOf_153 ?_
      refine lv_iload_n C.1 C.2.1 dX4_makeOf_156 rfl (lv_at hl 3 rfl) ?_
      obtain ⟨_, e157, f157, rfl, q157⟩ := at_E (by decide) (fx68 hI)
      obtain ⟨z157, hz157, nz157⟩ : ∃ z : Nat, (z : Int) = x0.toInt ∧ x0.toNatClampNeg = z := ⟨x0.toNatClampNeg, Int.toNat_of_nonneg (by omega), rfl⟩
      have az157 : va_rf (f157 x0.toNatClampNeg) = .ref (ad (227 + z157)) := by rw [nz157, q157 z157 (by omega)]; rfl
      refine k_aldg C Wd 68 68 e157 (tC_at' (by decide)) (vp_in_iff.mpr ⟨by omega, by omega⟩) az157 dX4_makeOf_157 ?_
      refine lv_iload_n C.1 C.2.1 dX4_makeOf_158 rfl (lv_at hl 1 rfl) ?_
      obtain ⟨_, e159, f159, rfl, q159⟩ := at_E (by show _ < 233; omega) (fitem0 hI (by omega : z157 < 6))
      obtain ⟨v159, ev159⟩ : ∃ z : Int32, f159 j19_L_3.toNatClampNeg = z := ⟨_, rfl⟩
      refine k_iald (v := v159) C Wd (227 + z157) (227 + z157) e159 (tC_at (by show _ < 233; omega) (tyC_fam (by omega))) (vp_in_iff.mpr ⟨by omega, by omega⟩) ev159 dX4_makeOf_159 ?_
      obtain ⟨_, e160o, y160o_3, y160o_4, rfl⟩ := at_E (by decide) (fx31 hI)
      refine k_pq (k_runV (rest := [.ref (ad 31)]) C aks Wd cs_X4_86 (gX4_ruleAt l D ad ca (T) cel _ v159 hI) (List.range NC) (wN_all cel) ndR (List.range NC) (tC_all ca) 31 4 e160o rfl rfl rfl rfl ⟨(Nat.le_of_ble_eq_true rfl), (Nat.le_of_ble_eq_true rfl)⟩ hl.1 rfl rfl (Nat.le_of_ble_eq_true rfl) ⟨(Nat.le_of_ble_eq_true rfl), (Nat.le_of_ble_eq_true rfl)⟩ dX4_makeOf_160) (fun o160 w160 => ?_)
      rcases w160 with rfl | ⟨z160, bz160, hz160, rfl⟩
      · skip
        obtain ⟨_, e163o, y163o_3, y163o_4, rfl⟩ := at_E (by decide) (fx31 hI)
        refine k_pi (k_runV (rest := []) C aks Wd cs_X4_90 (wtX4_applyRule_n l D (ad 31) _ ([].map cel) trivial) [] (wN_pick [] (okC_lt (ok_1))) (okC_nd (ok_1)) [] (tC_ok (ok_1) rfl) 31 4 e163o rfl rfl rfl rfl ⟨(Nat.le_of_ble_eq_true rfl), (Nat.le_of_ble_eq_true rfl)⟩ hl.1 rfl rfl (Nat.le_of_ble_eq_true rfl) ⟨(Nat.le_of_ble_eq_true rfl), (Nat.le_of_ble_eq_true rfl)⟩ dX4_makeOf_163) (fun r163 w163 => ?_)
        obtain rfl := w163
        refine lv_istore (lv' := [(4, .int 0), (3, .int j19_L_3), (0, .ref (ad 31)), (1, .int x0)]) C.1 C.2.1 dX4_makeOf_166 hl (by decide) rfl (fun ls hl => ?_)
        exact J168 (cel, 0) _ _ _ ⟨by have zq0 : (0 : Int32).toInt = 0 := (by decide); omega, by have zq0 : (0 : Int32).toInt = 0 := (by decide); omega, hI, Wd, lv_sub hl [0, 1, 2, 3] rfl⟩
      · have hz160 : (z160 : Int) = v159.toInt := hz160
        obtain ⟨_, e163o, y163o_3, y163o_4, rfl⟩ := at_E (by decide) (fx31 hI)
        refine kc_i Wd (k_runV (rest := []) C aks Wd cs_X4_90 (liftI4 (P' := pTp T) hI (ok_14 z160 (by omega)) (wsX4_applyRule l D (ad 31) (ad (123 + 7 * z160)) (ad 32) (ad 119) (ad 113) (ad 67) (ad 68) (ad 69) (ad 70) (ad 115) (ad (123 + 7 * z160 + 1)) (ad (123 + 7 * z160 + 3)) (ad (123 + 7 * z160 + 5)) (ad (123 + 7 * z160 + 6)) (ad 120) (ad (123 + 7 * z160 + 2)) (ad 121) (ad 71) (ad (123 + 7 * z160 + 4)) (ad 122) (ca 120) (ca (123 + 7 * z160 + 5)) (ca (123 + 7 * z160 + 6)) (ca (123 + 7 * z160 + 2)) (ca (123 + 7 * z160 + 4)) (ca 122) 1000 40 40 1000 _ (by omega) (by omega) (by omega) (by omega) (by omega) (by omega) (by omega) (by omega) ([31, (123 + 7 * z160), 119, 120, (123 + 7 * z160 + 5), (123 + 7 * z160 + 6), (123 + 7 * z160 + 1), (123 + 7 * z160 + 2), 70, (123 + 7 * z160 + 3), (123 + 7 * z160 + 4), 121, 122].map cel) ⟨(fx31 hI), (frule0 hI (by omega : z160 < 12)), (fx119 hI), (fx120 hI), (frule5 hI (by omega : z160 < 12)), (frule6 hI (by omega : z160 < 12)), (frule1 hI (by omega : z160 < 12)), (frule2 hI (by omega : z160 < 12)), (fx70 hI), (frule3 hI (by omega : z160 < 12)), (frule4 hI (by omega : z160 < 12)), (fx121 hI), (fx122 hI), trivial⟩) rfl (fun _ _ => rfl) ⟨fun _ h => h, fun _ h => trule0 (by omega) h, fun _ h => h, fun _ h => h, fun _ h => trule5 (by omega) h, fun _ h => trule6 (by omega) h, fun _ h => trule1 (by omega) h, fun _ h => trule2 (by omega) h, fun _ h => h, fun _ h => trule3 (by omega) h, fun _ h => trule4 (by omega) h, fun _ h => h, fun _ h => h, trivial⟩) (List.range NC) (wN_all cel) ndR (List.range NC) (tC_all ca) 31 4 e163o rfl rfl rfl rfl ⟨(Nat.le_of_ble_eq_true rfl), (Nat.le_of_ble_eq_true rfl)⟩ hl.1 rfl rfl (Nat.le_of_ble_eq_true rfl) ⟨(Nat.le_of_ble_eq_true rfl), (Nat.le_of_ble_eq_true rfl)⟩ dX4_makeOf_163) (fun r163 cel H locs w163 hI Wd => ?_)
        obtain ⟨g163_0, g163_1⟩ := w163
        have g163_0 : 0 ≤ r163.toInt := g163_0
        have g163_1 : r163.toInt ≤ 1 := g163_1
        refine lv_istore (lv' := [(4, .int r163), (3, .int j19_L_3), (0, .ref (ad 31)), (1, .int x0)]) C.1 C.2.1 dX4_makeOf_166 hl (by decide) rfl (fun ls hl => ?_)
        exact J168 (cel, r163) _ _ _ ⟨by omega, by omega, hI, Wd, lv_sub hl [0, 1, 2, 3] rfl⟩
set_option maxHeartbeats 4000000 in
set_option maxRecDepth 100000 in
theorem gX4_findBad (l : Launch) (D : va_G) (ad : Nat → Nat) (ca : Nat → ClassId) (T : Value → Prop) (cel : Nat → Cl) (sz : Nat) (i0 : Nat) (hb_i0 : i0 < 6) (hI : InvC ad ca (pTp T) cel) : Met l yX4_findBad (Cond.code yX4_findBad cX4_findBad 3 none :: gG) { frames := 7, cells := 0, slots := 0, locals := 212 } (cPre D (tC ca) (wN NC cel) sz [.ref (ad 31), .ref (ad (101 + 2 * i0))]) (va_Qv (fun (c' : Nat → Cl) => (True) ∧ InvC ad ca (pTp T) c') (fun c' t => cB D (va_A (wN NC cel) sz) [] (wN NC c') t) (va_A (wN NC cel) sz)) 0 0 (va_A (wN NC cel) sz) := by
  refine Met.ofW (cc := cX4_findBad) (maxL := 3) (ret := none) (by decide) rfl ?_
  intro p e s m args below meth c s₁ B hml hv
  obtain ⟨rfl, aks, rfl, Wd⟩ := k_enter hv
  have C : CallFix p m c cX4_findBad 3 s _ gG RX4 := ⟨B.exec, B.bytes, hml, findClass_of_methodNamed B.named, fun w h => atoms_spec (ws := Cond.code yX4_findBad cX4_findBad 3 none :: gG) B.pre w (List.mem_cons_of_mem _ h)⟩
  have hr := B.returns
  have hlk := B.notSynchronized
  generalize va_A (wN NC cel) s.heap.size = A at Wd ⊢
  refine k_locals (Nat.le_of_ble_eq_true rfl) [(0, .ref (ad 31)), (1, .ref (ad (101 + 2 * i0)))] rfl (fun ls hl => ?_)
  refine lv_aload_n C.1 C.2.1 dX4_findBad_0 rfl (lv_at hl 0 rfl) ?_
  refine lv_iconst (v := (-1)) C.1 C.2.1 dX4_findBad_1 (by decide) ?_
  obtain ⟨_, e2, y2_3, y2_4, rfl⟩ := at_E (by decide) (fx31 hI)
  refine k_put C Wd KX4 31 3 (wN NC (putC cel 31 ((ad 31), .inr (4, [.ref (ad 32), .ref (ad 119), .ref (ad 113), .int (-1), .int y2_4, .ref (ad 67), .ref (ad 68), .ref (ad 69), .ref (ad 70), .ref (ad 115)])))) e2 (by decide) fl_X4_56 rfl rfl rfl (Nat.le_of_ble_eq_true rfl) (wN_set (by decide)) dX4_findBad_2 (fun H locs Wd => ?_)
  obtain ⟨cel, Wd, hI⟩ : ∃ c : Nat → Cl, wX D (tC ca) s (wN NC c) H A s.heap locs ∧ InvC ad ca (pTp T) c := ⟨_, Wd, Inv_put hI ⟨rfl, (-1), y2_4, rfl⟩⟩
  refine lv_aload_n C.1 C.2.1 dX4_findBad_5 rfl (lv_at hl 0 rfl) ?_
  refine lv_iconst (v := (-1)) C.1 C.2.1 dX4_findBad_6 (by decide) ?_
  obtain ⟨_, e7, y7_3, y7_4, rfl⟩ := at_E (by decide) (fx31 hI)
  refine k_put C Wd KX4 31 4 (wN NC (putC cel 31 ((ad 31), .inr (4, [.ref (ad 32), .ref (ad 119), .ref (ad 113), .int y7_3, .int (-1), .ref (ad 67), .ref (ad 68), .ref (ad 69), .ref (ad 70), .ref (ad 115)])))) e7 (by decide) fl_X4_60 rfl rfl rfl (Nat.le_of_ble_eq_true rfl) (wN_set (by decide)) dX4_findBad_7 (fun H locs Wd => ?_)
  obtain ⟨cel, Wd, hI⟩ : ∃ c : Nat → Cl, wX D (tC ca) s (wN NC c) H A s.heap locs ∧ InvC ad ca (pTp T) c := ⟨_, Wd, Inv_put hI ⟨rfl, y7_3, (-1), rfl⟩⟩
  refine lv_aload_n C.1 C.2.1 dX4_findBad_10 rfl (lv_at hl 0 rfl) ?_
  obtain ⟨_, e11, y11_3, y11_4, rfl⟩ := at_E (by decide) (fx31 hI)
  refine k_get C Wd KX4 31 2 e11 (by decide) fl_X4_43 rfl dX4_findBad_11 ?_
  refine lv_aload_n C.1 C.2.1 dX4_findBad_14 rfl (lv_at hl 1 rfl) ?_
  obtain ⟨_, e15o, y15o_1, rfl, b15o_1, c15o_1⟩ := at_E (by decide) (fx113 hI)
  refine kc_v Wd (k_runV (rest := []) C aks Wd cs_X4_67 (liftV4 (P' := pTp T) hI (ok_15 i0 (by omega)) (wsX8_copy l D (ad 113) (ad (101 + 2 * i0)) (ad (101 + 2 * i0 + 1)) (ad 114) (ca (101 + 2 * i0 + 1)) (ca 114) (capR i0) 480 _ (by have := capR_hi i0; have := capR_lo i0; omega) (by have := capR_hi i0; have := capR_lo i0; omega) (by omega) (by omega) ([(101 + 2 * i0), (101 + 2 * i0 + 1), 113, 114].map cel) ⟨(frow0 hI (by omega : i0 < 11)), (frow1 hI (by omega : i0 < 11)), (fx113 hI), (fx114 hI), trivial⟩) rfl (fun _ _ => rfl) ⟨fun _ h => trow0 (by omega) h, fun _ h => trow1 (by omega) h, fun _ h => h, fun _ h => h, trivial⟩) (List.range NC) (wN_all cel) ndR (List.range NC) (tC_all ca) 113 8 e15o rfl rfl rfl rfl ⟨(Nat.le_of_ble_eq_true rfl), (Nat.le_of_ble_eq_true rfl)⟩ hl.1 rfl rfl (Nat.le_of_ble_eq_true rfl) ⟨(Nat.le_of_ble_eq_true rfl), (Nat.le_of_ble_eq_true rfl)⟩ dX4_findBad_15) (fun cel H locs w15 hI Wd => ?_)
  refine lv_iconst (v := 0) C.1 C.2.1 dX4_findBad_18 (by decide) ?_
  refine lv_istore_n (lv' := [(2, .int 0), (0, .ref (ad 31)), (1, .ref (ad (101 + 2 * i0)))]) C.1 C.2.1 dX4_findBad_19 rfl hl (by decide) rfl (fun ls hl => ?_)
  refine k_loopA (fun (u : (Nat → Cl) × (Int32)) H locs ls => match u with | (cel, j20_L_2) => 0 ≤ j20_L_2.toInt ∧ j20_L_2.toInt ≤ 6 ∧ InvC ad ca (pTp T) cel ∧ wX D (tC ca) s (wN NC cel) H A s.heap locs ∧ lv_has ls 3 [(2, .int j20_L_2), (0, .ref (ad 31))]) (fun (u : (Nat → Cl) × (Int32)) ls => match u with | (cel, j20_L_2) => F0 m 20 ls []) (fun (u : (Nat → Cl) × (Int32)) => match u with | (cel, j20_L_2) => (7 - j20_L_2.toInt).toNat) (fun u H locs ls hi ih20 => ?_) (cel, 0) _ _ _ ⟨by have zq0 : (0 : Int32).toInt = 0 := (by decide); omega, by have zq0 : (0 : Int32).toInt = 0 := (by decide); omega, hI, Wd, lv_sub hl [0, 1] rfl⟩
  obtain ⟨cel, j20_L_2⟩ := u
  obtain ⟨i20_0, i20_1, hI, Wd, hl⟩ := hi
  refine lv_iload_n C.1 C.2.1 dX4_findBad_20 rfl (lv_at hl 0 rfl) ?_
  refine lv_bipush (v := 6) C.1 C.2.1 dX4_findBad_21 (by decide) ?_
  refine lv_icmp_ge (tgt := 101) C.1 C.2.1 dX4_findBad_23 (by decide) (fun c23 => ?_) (fun c23 => ?_)
  · have i23 : 6 ≤ j20_L_2.toInt := kz_le c23
    exact kc_vret C hr hlk Wd ⟨trivial, hI⟩ dX4_findBad_101
  · have i23 : j20_L_2.toInt < 6 := kz_nle c23
    refine lv_aload_n C.1 C.2.1 dX4_findBad_26 rfl (lv_at hl 1 rfl) ?_
    obtain ⟨_, e27, y27_3, y27_4, rfl⟩ := at_E (by decide) (fx31 hI)
    refine k_get C Wd KX4 31 3 e27 (by decide) fl_X4_56 rfl dX4_findBad_27 ?_
    refine lv_iconst (v := (-1)) C.1 C.2.1 dX4_findBad_30 (by decide) ?_
    refine lv_icmp_ne (tgt := 101) C.1 C.2.1 dX4_findBad_31 (by decide) (fun c31 => ?_) (fun c31 => ?_)
    · have i31 : ¬ y27_3.toInt = (-1) := kz_ne c31
      exact kc_vret C hr hlk Wd ⟨trivial, hI⟩ dX4_findBad_101
    · have i31 : y27_3.toInt = (-1) := kz_eq c31
      refine lv_aload_n C.1 C.2.1 dX4_findBad_34 rfl (lv_at hl 1 rfl) ?_
      refine lv_iload_n C.1 C.2.1 dX4_findBad_35 rfl (lv_at hl 0 rfl) ?_
      refine lv_aload_n C.1 C.2.1 dX4_findBad_36 rfl (lv_at hl 1 rfl) ?_
      obtain ⟨_, e37, y37_3, y37_4, rfl⟩ := at_E (by decide) (fx31 hI)
      refine k_get C Wd KX4 31 2 e37 (by decide) fl_X4_43 rfl dX4_findBad_37 ?_
      obtain ⟨_, e40o, y40o_3, y40o_4, rfl⟩ := at_E (by decide) (fx31 hI)
      refine kc_i Wd (k_runV (rest := []) C aks Wd cs_X4_109 (gX4_makeOf l D ad ca (T) cel _ 6 (by decide) j20_L_2 hI) (List.range NC) (wN_all cel) ndR (List.range NC) (tC_all ca) 31 4 e40o rfl rfl rfl rfl ⟨(Nat.le_of_ble_eq_true rfl), (Nat.le_of_ble_eq_true rfl)⟩ hl.1 rfl rfl (Nat.le_of_ble_eq_true rfl) ⟨(Nat.le_of_ble_eq_true rfl), (Nat.le_of_ble_eq_true rfl)⟩ dX4_findBad_40) (fun r40 cel H locs w40 hI Wd => ?_)
      obtain ⟨g40_0, g40_1⟩ := w40
      have g40_0 : 0 ≤ r40.toInt := g40_0
      have g40_1 : r40.toInt ≤ 1 := g40_1
      refine k_cutA (fun (cel : Nat → Cl) H locs ls => InvC ad ca (pTp T) cel ∧ wX D (tC ca) s (wN NC cel) H A s.heap locs ∧ lv_has ls 3 [(2, .int j20_L_2), (0, .ref (ad 31))]) (fun (cel : Nat → Cl) ls => F0 m 95 ls []) (fun cel H locs ls hi => ?_) (fun J95 => ?_)
      · obtain ⟨hI, Wd, hl⟩ := hi
        obtain ⟨v95, ev95⟩ : ∃ z : Int32, j20_L_2 + 1 = z := ⟨_, rfl⟩
        have iv95 : v95.toInt = j20_L_2.toInt + 1 := kz_addc ev95 (by decide) (by have zr0 := kz_rng j20_L_2; omega) (by have zr0 := kz_rng j20_L_2; omega)
        refine lv_iinc (v := v95) (lv' := [(2, .int v95), (0, .ref (ad 31))]) C.1 C.2.1 dX4_findBad_95 hl (k := 0) rfl ev95 (by decide) rfl (fun ls hl => ?_)
        refine lv_goto (tgt := 20) C.1 C.2.1 dX4_findBad_98 (by decide) ?_
        exact ih20 (cel, v95) _ _ _ ⟨by omega, by omega, hI, Wd, lv_sub hl [0, 1] rfl⟩ (by show (7 - v95.toInt).toNat < (7 - j20_L_2.toInt).toNat; omega)
      refine lv_if_ne (tgt := 54) C.1 C.2.1 dX4_findBad_43 (by decide) (fun c43 => ?_) (fun c43 => ?_)
      · have i43 : ¬ r40.toInt = 0 := kz_ne c43
        refine lv_aload_n C.1 C.2.1 dX4_findBad_54 rfl (lv_at hl 1 rfl) ?_
        refine lv_aload_n C.1 C.2.1 dX4_findBad_55 rfl (lv_at hl 1 rfl) ?_
        obtain ⟨_, e56, y56_3, y56_4, rfl⟩ := at_E (by decide) (fx31 hI)
        refine k_get C Wd KX4 31 2 e56 (by decide) fl_X4_43 rfl dX4_findBad_56 ?_
        obtain ⟨_, e59o, y59o_3, y59o_4, rfl⟩ := at_E (by decide) (fx31 hI)
        refine kc_i Wd (k_runV (rest := []) C aks Wd cs_X4_113 (liftI4 (P' := pTp T) hI (ok_16) (wsX4_madeWrong l D (ad 31) (ad 113) (ad 32) (ad 119) (ad 113) (ad 67) (ad 68) (ad 69) (ad 70) (ad 115) (ad 114) (ad 120) (ad 33) (ad 50) (ad 37) (ad 34) (ad 35) (ad 36) (ad 38) (ad 39) (ad 40) (ad 41) (ad 42) (ad 43) (ad 44) (ad 45) (ad 46) (ad 47) (ad 48) (ad 49) (ad 54) (ad 51) (ad 52) (ad 53) (ad 55) (ad 56) (ad 57) (ad 58) (ad 59) (ad 60) (ad 61) (ad 62) (ad 63) (ad 64) (ad 65) (ad 66) (ca 114) (ca 120) (ca 49) (ca 48) (ca 38) (ca 39) (ca 45) (ca 40) (ca 41) (ca 44) (ca 42) (ca 43) (ca 47) (ca 46) (ca 66) (ca 65) (ca 55) (ca 56) (ca 62) (ca 57) (ca 58) (ca 61) (ca 59) (ca 60) (ca 64) (ca 63) (ca 35) (ca 36) (ca 34) (ca 52) (ca 53) (ca 51) 480 1000 _ (by omega) (by omega) (by omega) (by omega) ([31, 113, 114, 119, 120, 32, 33, 37, 49, 48, 38, 39, 45, 40, 41, 44, 42, 43, 47, 46, 50, 54, 66, 65, 55, 56, 62, 57, 58, 61, 59, 60, 64, 63, 35, 36, 34, 52, 53, 51].map cel) ⟨(fx31 hI), (fx113 hI), (fx114 hI), (fx119 hI), (fx120 hI), (fx32 hI), (fx33 hI), (fx37 hI), (fx49 hI), (fx48 hI), (fx38 hI), (fx39 hI), (fx45 hI), (fx40 hI), (fx41 hI), (fx44 hI), (fx42 hI), (fx43 hI), (fx47 hI), (fx46 hI), (fx50 hI), (fx54 hI), (fx66 hI), (fx65 hI), (fx55 hI), (fx56 hI), (fx62 hI), (fx57 hI), (fx58 hI), (fx61 hI), (fx59 hI), (fx60 hI), (fx64 hI), (fx63 hI), (fx35 hI), (fx36 hI), (fx34 hI), (fx52 hI), (fx53 hI), (fx51 hI), trivial⟩) rfl (fun _ _ => rfl) ⟨fun _ h => h, fun _ h => h, fun _ h => h, fun _ h => h, fun _ h => h, fun _ h => h, fun _ h => h, fun _ h => tx37 h (fun _ _ q => trivial), fun _ h => h, fun _ h => h, fun _ h => h, fun _ h => h, fun _ h => h, fun _ h => h, fun _ h => h, fun _ h => h, fun _ h => h, fun _ h => h, fun _ h => h, fun _ h => h, fun _ h => h, fun _ h => tx54 h (fun _ _ q => trivial), fun _ h => h, fun _ h => h, fun _ h => h, fun _ h => h, fun _ h => h, fun _ h => h, fun _ h => h, fun _ h => h, fun _ h => h, fun _ h => h, fun _ h => h, fun _ h => h, fun _ h => h, fun _ h => h, fun _ h => h, fun _ h => h, fun _ h => h, fun _ h => h, trivial⟩) (List.range NC) (wN_all cel) ndR (List.range NC) (tC_all ca) 31 4 e59o rfl rfl rfl rfl ⟨(Nat.le_of_ble_eq_true rfl), (Nat.le_of_ble_eq_true rfl)⟩ hl.1 rfl rfl (Nat.le_of_ble_eq_true rfl) ⟨(Nat.le_of_ble_eq_true rfl), (Nat.le_of_ble_eq_true rfl)⟩ dX4_findBad_59) (fun r59 cel H locs w59 hI Wd => ?_)
        obtain ⟨g59_0, g59_1⟩ := w59
        have g59_0 : 0 ≤ r59.toInt := g59_0
        have g59_1 : r59.toInt ≤ 1 := g59_1
        refine lv_if_eq (tgt := 84) C.1 C.2.1 dX4_findBad_62 (by decide) (fun c62 => ?_) (fun c62 => ?_)
        · have i62 : r59.toInt = 0 := kz_eq c62
          refine lv_aload_n C.1 C.2.1 dX4_findBad_84 rfl (lv_at hl 1 rfl) ?_
          obtain ⟨_, e85, y85_3, y85_4, rfl⟩ := at_E (by decide) (fx31 hI)
          refine k_get C Wd KX4 31 2 e85 (by decide) fl_X4_43 rfl dX4_findBad_85 ?_
          refine lv_aload_n C.1 C.2.1 dX4_findBad_88 rfl (lv_at hl 1 rfl) ?_
          obtain ⟨_, e89, y89_3, y89_4, rfl⟩ := at_E (by decide) (fx31 hI)
          refine k_get C Wd KX4 31 1 e89 (by decide) fl_X4_39 rfl dX4_findBad_89 ?_
          obtain ⟨_, e92o, y92o_1, rfl, b92o_1, c92o_1⟩ := at_E (by decide) (fx113 hI)
          refine kc_v Wd (k_runV (rest := []) C aks Wd cs_X4_67 (liftV4 (P' := pTp T) hI (ok_17) (wsX8_copy l D (ad 113) (ad 119) (ad 120) (ad 114) (ca 120) (ca 114) 1000 480 _ (by omega) (by omega) (by omega) (by omega) ([119, 120, 113, 114].map cel) ⟨(fx119 hI), (fx120 hI), (fx113 hI), (fx114 hI), trivial⟩) rfl (fun _ _ => rfl) ⟨fun _ h => h, fun _ h => h, fun _ h => h, fun _ h => h, trivial⟩) (List.range NC) (wN_all cel) ndR (List.range NC) (tC_all ca) 113 8 e92o rfl rfl rfl rfl ⟨(Nat.le_of_ble_eq_true rfl), (Nat.le_of_ble_eq_true rfl)⟩ hl.1 rfl rfl (Nat.le_of_ble_eq_true rfl) ⟨(Nat.le_of_ble_eq_true rfl), (Nat.le_of_ble_eq_true rfl)⟩ dX4_findBad_92) (fun cel H locs w92 hI Wd => ?_)
          exact J95 cel _ _ _ ⟨hI, Wd, lv_sub hl [0, 1] rfl⟩
        · have i62 : ¬ r59.toInt = 0 := kz_ne c62
          refine lv_aload_n C.1 C.2.1 dX4_findBad_65 rfl (lv_at hl 1 rfl) ?_
          refine lv_iload_n C.1 C.2.1 dX4_findBad_66 rfl (lv_at hl 0 rfl) ?_
          obtain ⟨_, e67, y67_3, y67_4, rfl⟩ := at_E (by decide) (fx31 hI)
          refine k_put C Wd KX4 31 3 (wN NC (putC cel 31 ((ad 31), .inr (4, [.ref (ad 32), .ref (ad 119), .ref (ad 113), .int j20_L_2, .int y67_4, .ref (ad 67), .ref (ad 68), .ref (ad 69), .ref (ad 70), .ref (ad 115)])))) e67 (by decide) fl_X4_56 rfl rfl rfl (Nat.le_of_ble_eq_true rfl) (wN_set (by decide)) dX4_findBad_67 (fun H locs Wd => ?_)
          obtain ⟨cel, Wd, hI⟩ : ∃ c : Nat → Cl, wX D (tC ca) s (wN NC c) H A s.heap locs ∧ InvC ad ca (pTp T) c := ⟨_, Wd, Inv_put hI ⟨rfl, j20_L_2, y67_4, rfl⟩⟩
          refine lv_aload_n C.1 C.2.1 dX4_findBad_70 rfl (lv_at hl 1 rfl) ?_
          refine lv_aload_n C.1 C.2.1 dX4_findBad_71 rfl (lv_at hl 1 rfl) ?_
          obtain ⟨_, e72, y72_3, y72_4, rfl⟩ := at_E (by decide) (fx31 hI)
          refine k_get C Wd KX4 31 0 e72 (by decide) fl_X4_52 rfl dX4_findBad_72 ?_
          obtain ⟨_, e75, y75_0, y75_1, y75_2, y75_3, rfl⟩ := at_E (by decide) (fx32 hI)
          refine k_get C Wd KX2 32 0 e75 (by decide) fl_X4_117 rfl dX4_findBad_75 ?_
          obtain ⟨_, e78, y78_3, y78_4, rfl⟩ := at_E (by decide) (fx31 hI)
          refine k_put C Wd KX4 31 4 (wN NC (putC cel 31 ((ad 31), .inr (4, [.ref (ad 32), .ref (ad 119), .ref (ad 113), .int y78_3, .int y75_0, .ref (ad 67), .ref (ad 68), .ref (ad 69), .ref (ad 70), .ref (ad 115)])))) e78 (by decide) fl_X4_60 rfl rfl rfl (Nat.le_of_ble_eq_true rfl) (wN_set (by decide)) dX4_findBad_78 (fun H locs Wd => ?_)
          obtain ⟨cel, Wd, hI⟩ : ∃ c : Nat → Cl, wX D (tC ca) s (wN NC c) H A s.heap locs ∧ InvC ad ca (pTp T) c := ⟨_, Wd, Inv_put hI ⟨rfl, y78_3, y75_0, rfl⟩⟩
          refine lv_goto (tgt := 95) C.1 C.2.1 dX4_findBad_81 (by decide) ?_
          exact J95 cel _ _ _ ⟨hI, Wd, lv_sub hl [0, 1] rfl⟩
      · have i43 : r40.toInt = 0 := kz_eq c43
        refine lv_aload_n C.1 C.2.1 dX4_findBad_46 rfl (lv_at hl 1 rfl) ?_
        refine lv_iload_n C.1 C.2.1 dX4_findBad_47 rfl (lv_at hl 0 rfl) ?_
        obtain ⟨_, e48, y48_3, y48_4, rfl⟩ := at_E (by decide) (fx31 hI)
        refine k_put C Wd KX4 31 3 (wN NC (putC cel 31 ((ad 31), .inr (4, [.ref (ad 32), .ref (ad 119), .ref (ad 113), .int j20_L_2, .int y48_4, .ref (ad 67), .ref (ad 68), .ref (ad 69), .ref (ad 70), .ref (ad 115)])))) e48 (by decide) fl_X4_56 rfl rfl rfl (Nat.le_of_ble_eq_true rfl) (wN_set (by decide)) dX4_findBad_48 (fun H locs Wd => ?_)
        obtain ⟨cel, Wd, hI⟩ : ∃ c : Nat → Cl, wX D (tC ca) s (wN NC c) H A s.heap locs ∧ InvC ad ca (pTp T) c := ⟨_, Wd, Inv_put hI ⟨rfl, j20_L_2, y48_4, rfl⟩⟩
        refine lv_goto (tgt := 95) C.1 C.2.1 dX4_findBad_51 (by decide) ?_
        exact J95 cel _ _ _ ⟨hI, Wd, lv_sub hl [0, 1] rfl⟩
set_option maxHeartbeats 4000000 in
set_option maxRecDepth 100000 in
theorem gX4_cutDown (l : Launch) (D : va_G) (ad : Nat → Nat) (ca : Nat → ClassId) (T : Value → Prop) (cel : Nat → Cl) (sz : Nat) (i1 : Nat) (hb_i1 : i1 < 6) (x0 : Int32) (hI : InvC ad ca (pTp T) cel) : Met l yX4_cutDown (Cond.code yX4_cutDown cX4_cutDown 7 (some .boolean) :: gG) { frames := 7, cells := 0, slots := 0, locals := 212 } (cPre D (tC ca) (wN NC cel) sz [.ref (ad 31), .int x0, .ref (ad (101 + 2 * i1))]) (va_Qi (fun (r : Int32) (c' : Nat → Cl) => (0 ≤ r.toInt ∧ r.toInt ≤ 1) ∧ InvC ad ca (pTp T) c') (fun c' t => cB D (va_A (wN NC cel) sz) [] (wN NC c') t) (va_A (wN NC cel) sz)) 0 0 (va_A (wN NC cel) sz) := by
  refine Met.ofW (cc := cX4_cutDown) (maxL := 7) (ret := (some .boolean)) (by decide) rfl ?_
  intro p e s m args below meth c s₁ B hml hv
  obtain ⟨rfl, aks, rfl, Wd⟩ := k_enter hv
  have C : CallFix p m c cX4_cutDown 7 s _ gG RX4 := ⟨B.exec, B.bytes, hml, findClass_of_methodNamed B.named, fun w h => atoms_spec (ws := Cond.code yX4_cutDown cX4_cutDown 7 (some .boolean) :: gG) B.pre w (List.mem_cons_of_mem _ h)⟩
  have hr := B.returns
  have hlk := B.notSynchronized
  generalize va_A (wN NC cel) s.heap.size = A at Wd ⊢
  refine k_locals (Nat.le_of_ble_eq_true rfl) [(0, .ref (ad 31)), (1, .int x0), (2, .ref (ad (101 + 2 * i1)))] rfl (fun ls hl => ?_)
  refine lv_aload_n C.1 C.2.1 dX4_cutDown_0 rfl (lv_at hl 2 rfl) ?_
  obtain ⟨_, e1o, y1o_1, rfl, b1o_1, c1o_1⟩ := at_E (by show _ < 233; omega) (frow0 hI (by omega : i1 < 11))
  refine k_pi (k_runV (rest := []) C aks Wd cs_X4_127 (wsX8_statements l D (ad (101 + 2 * i1)) (ad (101 + 2 * i1 + 1)) (ca (101 + 2 * i1 + 1)) (capR i1) _ (by have := capR_hi i1; have := capR_lo i1; omega) (by have := capR_hi i1; have := capR_lo i1; omega) ([(101 + 2 * i1), (101 + 2 * i1 + 1)].map cel) ⟨(frow0 hI (by omega : i1 < 11)), (frow1 hI (by omega : i1 < 11)), trivial⟩) [(101 + 2 * i1), (101 + 2 * i1 + 1)] (wN_pick [(101 + 2 * i1), (101 + 2 * i1 + 1)] (okC_lt (ok_18 i1 (by omega)))) (okC_nd (ok_18 i1 (by omega))) [(101 + 2 * i1 + 1)] (tC_ok (ok_18 i1 (by omega)) rfl) (101 + 2 * i1) 8 e1o rfl rfl rfl rfl ⟨(Nat.le_of_ble_eq_true rfl), (Nat.le_of_ble_eq_true rfl)⟩ hl.1 rfl rfl (Nat.le_of_ble_eq_true rfl) ⟨(Nat.le_of_ble_eq_true rfl), (Nat.le_of_ble_eq_true rfl)⟩ dX4_cutDown_1) (fun r1 w1 => ?_)
  obtain ⟨g1_0, g1_1⟩ := w1
  have g1_0 : 0 ≤ r1.toInt := g1_0
  have g1_1 : r1.toInt ≤ 1000 := g1_1
  refine lv_istore_n (lv' := [(3, .int r1), (0, .ref (ad 31)), (1, .int x0), (2, .ref (ad (101 + 2 * i1)))]) C.1 C.2.1 dX4_cutDown_4 rfl hl (by decide) rfl (fun ls hl => ?_)
  refine lv_iload_n C.1 C.2.1 dX4_cutDown_5 rfl (lv_at hl 0 rfl) ?_
  refine lv_iconst (v := 1) C.1 C.2.1 dX4_cutDown_6 (by decide) ?_
  refine k_cutA (fun (cel : Nat → Cl) H locs ls => InvC ad ca (pTp T) cel ∧ wX D (tC ca) s (wN NC cel) H A s.heap locs ∧ lv_has ls 7 []) (fun (cel : Nat → Cl) ls => F0 m 33 ls []) (fun cel H locs ls hi => ?_) (fun J33 => ?_)
  · obtain ⟨hI, Wd, hl⟩ := hi
    refine lv_iconst (v := 0) C.1 C.2.1 dX4_cutDown_33 (by decide) ?_
    exact kc_zret C hr hlk rfl Wd ⟨(by exact ⟨by have zq0 : (0 : Int32).toInt = 0 := (by decide); omega, by have zq0 : (0 : Int32).toInt = 0 := (by decide); omega⟩), hI⟩ dX4_cutDown_34
  refine lv_icmp_lt (tgt := 33) C.1 C.2.1 dX4_cutDown_7 (by decide) (fun c7 => ?_) (fun c7 => ?_)
  · have i7 : r1.toInt < 1 := kz_lt c7
    exact J33 cel _ _ _ ⟨hI, Wd, lv_sub hl [] rfl⟩
  · have i7 : 1 ≤ r1.toInt := kz_nlt c7
    refine lv_iload_n C.1 C.2.1 dX4_cutDown_10 rfl (lv_at hl 0 rfl) ?_
    refine lv_bipush (v := 12) C.1 C.2.1 dX4_cutDown_11 (by decide) ?_
    refine lv_icmp_gt (tgt := 33) C.1 C.2.1 dX4_cutDown_13 (by decide) (fun c13 => ?_) (fun c13 => ?_)
    · have i13 : 12 < r1.toInt := kz_lt c13
      exact J33 cel _ _ _ ⟨hI, Wd, lv_sub hl [] rfl⟩
    · have i13 : r1.toInt ≤ 12 := kz_nlt c13
      refine lv_aload_n C.1 C.2.1 dX4_cutDown_16 rfl (lv_at hl 1 rfl) ?_
      refine lv_iload_n C.1 C.2.1 dX4_cutDown_17 rfl (lv_at hl 2 rfl) ?_
      refine lv_aload_n C.1 C.2.1 dX4_cutDown_18 rfl (lv_at hl 3 rfl) ?_
      obtain ⟨_, e19o, y19o_3, y19o_4, rfl⟩ := at_E (by decide) (fx31 hI)
      refine kc_i Wd (k_runV (rest := []) C aks Wd cs_X4_109 (gX4_makeOf l D ad ca (T) cel _ i1 (by omega) x0 hI) (List.range NC) (wN_all cel) ndR (List.range NC) (tC_all ca) 31 4 e19o rfl rfl rfl rfl ⟨(Nat.le_of_ble_eq_true rfl), (Nat.le_of_ble_eq_true rfl)⟩ hl.1 rfl rfl (Nat.le_of_ble_eq_true rfl) ⟨(Nat.le_of_ble_eq_true rfl), (Nat.le_of_ble_eq_true rfl)⟩ dX4_cutDown_19) (fun r19 cel H locs w19 hI Wd => ?_)
      obtain ⟨g19_0, g19_1⟩ := w19
      have g19_0 : 0 ≤ r19.toInt := g19_0
      have g19_1 : r19.toInt ≤ 1 := g19_1
      refine lv_if_eq (tgt := 33) C.1 C.2.1 dX4_cutDown_22 (by decide) (fun c22 => ?_) (fun c22 => ?_)
      · have i22 : r19.toInt = 0 := kz_eq c22
        exact J33 cel _ _ _ ⟨hI, Wd, lv_sub hl [] rfl⟩
      · have i22 : ¬ r19.toInt = 0 := kz_ne c22
        refine lv_aload_n C.1 C.2.1 dX4_cutDown_25 rfl (lv_at hl 1 rfl) ?_
        refine lv_aload_n C.1 C.2.1 dX4_cutDown_26 rfl (lv_at hl 3 rfl) ?_
        obtain ⟨_, e27o, y27o_3, y27o_4, rfl⟩ := at_E (by decide) (fx31 hI)
        refine kc_i Wd (k_runV (rest := []) C aks Wd cs_X4_113 (liftI4 (P' := pTp T) hI (ok_19 i1 (by omega)) (wsX4_madeWrong l D (ad 31) (ad (101 + 2 * i1)) (ad 32) (ad 119) (ad 113) (ad 67) (ad 68) (ad 69) (ad 70) (ad 115) (ad (101 + 2 * i1 + 1)) (ad 120) (ad 33) (ad 50) (ad 37) (ad 34) (ad 35) (ad 36) (ad 38) (ad 39) (ad 40) (ad 41) (ad 42) (ad 43) (ad 44) (ad 45) (ad 46) (ad 47) (ad 48) (ad 49) (ad 54) (ad 51) (ad 52) (ad 53) (ad 55) (ad 56) (ad 57) (ad 58) (ad 59) (ad 60) (ad 61) (ad 62) (ad 63) (ad 64) (ad 65) (ad 66) (ca (101 + 2 * i1 + 1)) (ca 120) (ca 49) (ca 48) (ca 38) (ca 39) (ca 45) (ca 40) (ca 41) (ca 44) (ca 42) (ca 43) (ca 47) (ca 46) (ca 66) (ca 65) (ca 55) (ca 56) (ca 62) (ca 57) (ca 58) (ca 61) (ca 59) (ca 60) (ca 64) (ca 63) (ca 35) (ca 36) (ca 34) (ca 52) (ca 53) (ca 51) (capR i1) 1000 _ (by have := capR_hi i1; have := capR_lo i1; omega) (by have := capR_hi i1; have := capR_lo i1; omega) (by omega) (by omega) ([31, (101 + 2 * i1), (101 + 2 * i1 + 1), 119, 120, 32, 33, 37, 49, 48, 38, 39, 45, 40, 41, 44, 42, 43, 47, 46, 50, 54, 66, 65, 55, 56, 62, 57, 58, 61, 59, 60, 64, 63, 35, 36, 34, 52, 53, 51].map cel) ⟨(fx31 hI), (frow0 hI (by omega : i1 < 11)), (frow1 hI (by omega : i1 < 11)), (fx119 hI), (fx120 hI), (fx32 hI), (fx33 hI), (fx37 hI), (fx49 hI), (fx48 hI), (fx38 hI), (fx39 hI), (fx45 hI), (fx40 hI), (fx41 hI), (fx44 hI), (fx42 hI), (fx43 hI), (fx47 hI), (fx46 hI), (fx50 hI), (fx54 hI), (fx66 hI), (fx65 hI), (fx55 hI), (fx56 hI), (fx62 hI), (fx57 hI), (fx58 hI), (fx61 hI), (fx59 hI), (fx60 hI), (fx64 hI), (fx63 hI), (fx35 hI), (fx36 hI), (fx34 hI), (fx52 hI), (fx53 hI), (fx51 hI), trivial⟩) rfl (fun _ _ => rfl) ⟨fun _ h => h, fun _ h => trow0 (by omega) h, fun _ h => trow1 (by omega) h, fun _ h => h, fun _ h => h, fun _ h => h, fun _ h => h, fun _ h => tx37 h (fun _ _ q => trivial), fun _ h => h, fun _ h => h, fun _ h => h, fun _ h => h, fun _ h => h, fun _ h => h, fun _ h => h, fun _ h => h, fun _ h => h, fun _ h => h, fun _ h => h, fun _ h => h, fun _ h => h, fun _ h => tx54 h (fun _ _ q => trivial), fun _ h => h, fun _ h => h, fun _ h => h, fun _ h => h, fun _ h => h, fun _ h => h, fun _ h => h, fun _ h => h, fun _ h => h, fun _ h => h, fun _ h => h, fun _ h => h, fun _ h => h, fun _ h => h, fun _ h => h, fun _ h => h, fun _ h => h, fun _ h => h, trivial⟩) (List.range NC) (wN_all cel) ndR (List.range NC) (tC_all ca) 31 4 e27o rfl rfl rfl rfl ⟨(Nat.le_of_ble_eq_true rfl), (Nat.le_of_ble_eq_true rfl)⟩ hl.1 rfl rfl (Nat.le_of_ble_eq_true rfl) ⟨(Nat.le_of_ble_eq_true rfl), (Nat.le_of_ble_eq_true rfl)⟩ dX4_cutDown_27) (fun r27 cel H locs w27 hI Wd => ?_)
        obtain ⟨g27_0, g27_1⟩ := w27
        have g27_0 : 0 ≤ r27.toInt := g27_0
        have g27_1 : r27.toInt ≤ 1 := g27_1
        refine lv_if_ne (tgt := 35) C.1 C.2.1 dX4_cutDown_30 (by decide) (fun c30 => ?_) (fun c30 => ?_)
        · have i30 : ¬ r27.toInt = 0 := kz_ne c30
          refine lv_aload_n C.1 C.2.1 dX4_cutDown_35 rfl (lv_at hl 1 rfl) ?_
          obtain ⟨_, e36, y36_3, y36_4, rfl⟩ := at_E (by decide) (fx31 hI)
          refine k_get C Wd KX4 31 2 e36 (by decide) fl_X4_43 rfl dX4_cutDown_36 ?_
          refine lv_aload_n C.1 C.2.1 dX4_cutDown_39 rfl (lv_at hl 3 rfl) ?_
          obtain ⟨_, e40o, y40o_1, rfl, b40o_1, c40o_1⟩ := at_E (by decide) (fx113 hI)
          refine kc_v Wd (k_runV (rest := []) C aks Wd cs_X4_67 (liftV4 (P' := pTp T) hI (ok_15 i1 (by omega)) (wsX8_copy l D (ad 113) (ad (101 + 2 * i1)) (ad (101 + 2 * i1 + 1)) (ad 114) (ca (101 + 2 * i1 + 1)) (ca 114) (capR i1) 480 _ (by have := capR_hi i1; have := capR_lo i1; omega) (by have := capR_hi i1; have := capR_lo i1; omega) (by omega) (by omega) ([(101 + 2 * i1), (101 + 2 * i1 + 1), 113, 114].map cel) ⟨(frow0 hI (by omega : i1 < 11)), (frow1 hI (by omega : i1 < 11)), (fx113 hI), (fx114 hI), trivial⟩) rfl (fun _ _ => rfl) ⟨fun _ h => trow0 (by omega) h, fun _ h => trow1 (by omega) h, fun _ h => h, fun _ h => h, trivial⟩) (List.range NC) (wN_all cel) ndR (List.range NC) (tC_all ca) 113 8 e40o rfl rfl rfl rfl ⟨(Nat.le_of_ble_eq_true rfl), (Nat.le_of_ble_eq_true rfl)⟩ hl.1 rfl rfl (Nat.le_of_ble_eq_true rfl) ⟨(Nat.le_of_ble_eq_true rfl), (Nat.le_of_ble_eq_true rfl)⟩ dX4_cutDown_40) (fun cel H locs w40 hI Wd => ?_)
          refine lv_iconst (v := 1) C.1 C.2.1 dX4_cutDown_43 (by decide) ?_
          refine lv_istore (lv' := [(4, .int 1), (3, .int r1), (0, .ref (ad 31)), (1, .int x0), (2, .ref (ad (101 + 2 * i1)))]) C.1 C.2.1 dX4_cutDown_44 hl (by decide) rfl (fun ls hl => ?_)
          refine lv_iconst (v := 0) C.1 C.2.1 dX4_cutDown_46 (by decide) ?_
          refine lv_istore (lv' := [(5, .int 0), (4, .int 1), (3, .int r1), (0, .ref (ad 31)), (1, .int x0), (2, .ref (ad (101 + 2 * i1)))]) C.1 C.2.1 dX4_cutDown_47 hl (by decide) rfl (fun ls hl => ?_)
          refine k_loopA (fun (u : (Nat → Cl) × (Int32) × (Int32)) H locs ls => match u with | (cel, j49_L_4, j49_L_5) => 0 ≤ j49_L_4.toInt ∧ 0 ≤ j49_L_5.toInt ∧ j49_L_4.toInt ≤ 1 ∧ j49_L_5.toInt ≤ 13 ∧ InvC ad ca (pTp T) cel ∧ wX D (tC ca) s (wN NC cel) H A s.heap locs ∧ lv_has ls 7 [(5, .int j49_L_5), (4, .int j49_L_4), (0, .ref (ad 31)), (1, .int x0)]) (fun (u : (Nat → Cl) × (Int32) × (Int32)) ls => match u with | (cel, j49_L_4, j49_L_5) => F0 m 49 ls []) (fun (u : (Nat → Cl) × (Int32) × (Int32)) => match u with | (cel, j49_L_4, j49_L_5) => (14 - j49_L_5.toInt).toNat) (fun u H locs ls hi ih49 => ?_) (cel, 1, 0) _ _ _ ⟨by have zq1 : (1 : Int32).toInt = 1 := (by decide); omega, by have zq0 : (0 : Int32).toInt = 0 := (by decide); omega, by have zq1 : (1 : Int32).toInt = 1 := (by decide); omega, by have zq0 : (0 : Int32).toInt = 0 := (by decide); omega, hI, Wd, lv_sub hl [0, 1, 3, 4] rfl⟩
          obtain ⟨cel, j49_L_4, j49_L_5⟩ := u
          obtain ⟨i49_0, i49_1, i49_2, i49_3, hI, Wd, hl⟩ := hi
          refine lv_iload C.1 C.2.1 dX4_cutDown_49 (lv_at hl 0 rfl) ?_
          refine lv_bipush (v := 12) C.1 C.2.1 dX4_cutDown_51 (by decide) ?_
          refine k_cutA (fun (cel : Nat → Cl) H locs ls => j49_L_4.toInt ≤ j49_L_5.toInt ∧ InvC ad ca (pTp T) cel ∧ wX D (tC ca) s (wN NC cel) H A s.heap locs ∧ lv_has ls 7 []) (fun (cel : Nat → Cl) ls => F0 m 186 ls []) (fun cel H locs ls hi => ?_) (fun J186 => ?_)
          · obtain ⟨i186_0, hI, Wd, hl⟩ := hi
            refine lv_iconst (v := 1) C.1 C.2.1 dX4_cutDown_186 (by decide) ?_
            exact kc_zret C hr hlk rfl Wd ⟨(by exact ⟨by have zq1 : (1 : Int32).toInt = 1 := (by decide); omega, by have zq1 : (1 : Int32).toInt = 1 := (by decide); omega⟩), hI⟩ dX4_cutDown_187
          refine lv_icmp_ge (tgt := 186) C.1 C.2.1 dX4_cutDown_53 (by decide) (fun c53 => ?_) (fun c53 => ?_)
          · have i53 : 12 ≤ j49_L_5.toInt := kz_le c53
            exact J186 cel _ _ _ ⟨by omega, hI, Wd, lv_sub hl [] rfl⟩
          · have i53 : j49_L_5.toInt < 12 := kz_nle c53
            refine lv_iload C.1 C.2.1 dX4_cutDown_56 (lv_at hl 1 rfl) ?_
            refine lv_if_eq (tgt := 186) C.1 C.2.1 dX4_cutDown_58 (by decide) (fun c58 => ?_) (fun c58 => ?_)
            · have i58 : j49_L_4.toInt = 0 := kz_eq c58
              exact J186 cel _ _ _ ⟨by omega, hI, Wd, lv_sub hl [] rfl⟩
            · have i58 : ¬ j49_L_4.toInt = 0 := kz_ne c58
              refine lv_iconst (v := 0) C.1 C.2.1 dX4_cutDown_61 (by decide) ?_
              refine lv_istore (lv' := [(4, .int 0), (5, .int j49_L_5), (0, .ref (ad 31)), (1, .int x0)]) C.1 C.2.1 dX4_cutDown_62 hl (by decide) rfl (fun ls hl => ?_)
              refine lv_iconst (v := 0) C.1 C.2.1 dX4_cutDown_64 (by decide) ?_
              refine lv_istore (lv' := [(6, .int 0), (4, .int 0), (5, .int j49_L_5), (0, .ref (ad 31)), (1, .int x0)]) C.1 C.2.1 dX4_cutDown_65 hl (by decide) rfl (fun ls hl => ?_)
              refine k_loopA (fun (u : (Nat → Cl) × (Int32) × (Int32) × (Int32)) H locs ls => match u with | (cel, j67_L_4, j67_L_5, j67_L_6) => 0 ≤ j67_L_4.toInt ∧ 0 ≤ j67_L_5.toInt ∧ 0 ≤ j67_L_6.toInt ∧ j67_L_4.toInt ≤ 1 ∧ j67_L_5.toInt ≤ 12 ∧ j67_L_6.toInt ≤ 480 ∧ j49_L_5.toInt ≤ j67_L_5.toInt ∧ j67_L_4.toInt ≤ j67_L_6.toInt ∧ j67_L_5.toInt ≤ j49_L_5.toInt ∧ InvC ad ca (pTp T) cel ∧ wX D (tC ca) s (wN NC cel) H A s.heap locs ∧ lv_has ls 7 [(6, .int j67_L_6), (4, .int j67_L_4), (5, .int j67_L_5), (0, .ref (ad 31)), (1, .int x0)]) (fun (u : (Nat → Cl) × (Int32) × (Int32) × (Int32)) ls => match u with | (cel, j67_L_4, j67_L_5, j67_L_6) => F0 m 67 ls []) (fun (u : (Nat → Cl) × (Int32) × (Int32) × (Int32)) => match u with | (cel, j67_L_4, j67_L_5, j67_L_6) => (481 - j67_L_6.toInt).toNat) (fun u H locs ls hi ih67 => ?_) (cel, 0, j49_L_5, 0) _ _ _ ⟨by have zq0 : (0 : Int32).toInt = 0 := (by decide); omega, by omega, by have zq0 : (0 : Int32).toInt = 0 := (by decide); omega, by have zq0 : (0 : Int32).toInt = 0 := (by decide); omega, by omega, by have zq0 : (0 : Int32).toInt = 0 := (by decide); omega, by omega, by have zq0 : (0 : Int32).toInt = 0 := (by decide); omega, by omega, hI, Wd, lv_sub hl [0, 1, 2, 3, 4] rfl⟩
              obtain ⟨cel, j67_L_4, j67_L_5, j67_L_6⟩ := u
              obtain ⟨i67_0, i67_1, i67_2, i67_3, i67_4, i67_5, i67_6, i67_7, i67_8, hI, Wd, hl⟩ := hi
              refine lv_iload C.1 C.2.1 dX4_cutDown_67 (lv_at hl 0 rfl) ?_
              refine lv_aload_n C.1 C.2.1 dX4_cutDown_69 rfl (lv_at hl 3 rfl) ?_
              obtain ⟨_, e70, y70_3, y70_4, rfl⟩ := at_E (by decide) (fx31 hI)
              refine k_get C Wd KX4 31 2 e70 (by decide) fl_X4_43 rfl dX4_cutDown_70 ?_
              obtain ⟨_, e73, y73_1, rfl, b73_1, c73_1⟩ := at_E (by decide) (fx113 hI)
              refine k_get C Wd KX8 113 1 e73 (by decide) fl_X4_131 rfl dX4_cutDown_73 ?_
              refine k_cutA (fun (cel : Nat → Cl) H locs ls => y73_1.toInt ≤ j67_L_6.toInt + 479 ∧ InvC ad ca (pTp T) cel ∧ wX D (tC ca) s (wN NC cel) H A s.heap locs ∧ lv_has ls 7 [(4, .int j67_L_4), (5, .int j67_L_5), (0, .ref (ad 31)), (1, .int x0)]) (fun (cel : Nat → Cl) ls => F0 m 164 ls []) (fun cel H locs ls hi => ?_) (fun J164 => ?_)
              · obtain ⟨i164_0, hI, Wd, hl⟩ := hi
                refine lv_iload C.1 C.2.1 dX4_cutDown_164 (lv_at hl 0 rfl) ?_
                refine k_cutA (fun (cel : Nat → Cl) H locs ls => InvC ad ca (pTp T) cel ∧ wX D (tC ca) s (wN NC cel) H A s.heap locs ∧ lv_has ls 7 [(4, .int j67_L_4), (5, .int j67_L_5), (0, .ref (ad 31)), (1, .int x0)]) (fun (cel : Nat → Cl) ls => F0 m 180 ls []) (fun cel H locs ls hi => ?_) (fun J180 => ?_)
                · obtain ⟨hI, Wd, hl⟩ := hi
                  obtain ⟨v180, ev180⟩ : ∃ z : Int32, j67_L_5 + 1 = z := ⟨_, rfl⟩
                  have iv180 : v180.toInt = j67_L_5.toInt + 1 := kz_addc ev180 (by decide) (by have zr0 := kz_rng j67_L_5; omega) (by have zr0 := kz_rng j67_L_5; omega)
                  refine lv_iinc (v := v180) (lv' := [(5, .int v180), (4, .int j67_L_4), (0, .ref (ad 31)), (1, .int x0)]) C.1 C.2.1 dX4_cutDown_180 hl (k := 1) rfl ev180 (by decide) rfl (fun ls hl => ?_)
                  refine lv_goto (tgt := 49) C.1 C.2.1 dX4_cutDown_183 (by decide) ?_
                  exact ih49 (cel, j67_L_4, v180) _ _ _ ⟨by omega, by omega, by omega, by omega, hI, Wd, lv_sub hl [0, 1, 2, 3] rfl⟩ (by show (14 - v180.toInt).toNat < (14 - j49_L_5.toInt).toNat; omega)
                refine lv_if_eq (tgt := 180) C.1 C.2.1 dX4_cutDown_166 (by decide) (fun c166 => ?_) (fun c166 => ?_)
                · have i166 : j67_L_4.toInt = 0 := kz_eq c166
                  exact J180 cel _ _ _ ⟨hI, Wd, lv_sub hl [0, 1, 2, 3] rfl⟩
                · have i166 : ¬ j67_L_4.toInt = 0 := kz_ne c166
                  refine lv_aload_n C.1 C.2.1 dX4_cutDown_169 rfl (lv_at hl 2 rfl) ?_
                  obtain ⟨_, e170, y170_3, y170_4, rfl⟩ := at_E (by decide) (fx31 hI)
                  refine k_get C Wd KX4 31 2 e170 (by decide) fl_X4_43 rfl dX4_cutDown_170 ?_
                  refine lv_aload_n C.1 C.2.1 dX4_cutDown_173 rfl (lv_at hl 2 rfl) ?_
                  obtain ⟨_, e174, y174_3, y174_4, rfl⟩ := at_E (by decide) (fx31 hI)
                  refine k_get C Wd KX4 31 9 e174 (by decide) fl_X4_46 rfl dX4_cutDown_174 ?_
                  obtain ⟨_, e177o, y177o_1, rfl, b177o_1, c177o_1⟩ := at_E (by decide) (fx113 hI)
                  refine kc_v Wd (k_runV (rest := []) C aks Wd cs_X4_67 (liftV4 (P' := pTp T) hI (ok_24) (wsX8_copy l D (ad 113) (ad 115) (ad 116) (ad 114) (ca 116) (ca 114) 480 480 _ (by omega) (by omega) (by omega) (by omega) ([115, 116, 113, 114].map cel) ⟨(fx115 hI), (fx116 hI), (fx113 hI), (fx114 hI), trivial⟩) rfl (fun _ _ => rfl) ⟨fun _ h => h, fun _ h => h, fun _ h => h, fun _ h => h, trivial⟩) (List.range NC) (wN_all cel) ndR (List.range NC) (tC_all ca) 113 8 e177o rfl rfl rfl rfl ⟨(Nat.le_of_ble_eq_true rfl), (Nat.le_of_ble_eq_true rfl)⟩ hl.1 rfl rfl (Nat.le_of_ble_eq_true rfl) ⟨(Nat.le_of_ble_eq_true rfl), (Nat.le_of_ble_eq_true rfl)⟩ dX4_cutDown_177) (fun cel H locs w177 hI Wd => ?_)
                  exact J180 cel _ _ _ ⟨hI, Wd, lv_sub hl [0, 1, 2, 3] rfl⟩
              refine lv_icmp_ge (tgt := 164) C.1 C.2.1 dX4_cutDown_76 (by decide) (fun c76 => ?_) (fun c76 => ?_)
              · have i76 : y73_1.toInt ≤ j67_L_6.toInt := kz_le c76
                exact J164 cel _ _ _ ⟨by omega, hI, Wd, lv_sub hl [1, 2, 3, 4] rfl⟩
              · have i76 : j67_L_6.toInt < y73_1.toInt := kz_nle c76
                refine lv_iload C.1 C.2.1 dX4_cutDown_79 (lv_at hl 1 rfl) ?_
                refine lv_if_ne (tgt := 164) C.1 C.2.1 dX4_cutDown_81 (by decide) (fun c81 => ?_) (fun c81 => ?_)
                · have i81 : ¬ j67_L_4.toInt = 0 := kz_ne c81
                  exact J164 cel _ _ _ ⟨by omega, hI, Wd, lv_sub hl [1, 2, 3, 4] rfl⟩
                · have i81 : j67_L_4.toInt = 0 := kz_eq c81
                  refine lv_aload_n C.1 C.2.1 dX4_cutDown_84 rfl (lv_at hl 3 rfl) ?_
                  obtain ⟨_, e85, y85_3, y85_4, rfl⟩ := at_E (by decide) (fx31 hI)
                  refine k_get C Wd KX4 31 2 e85 (by decide) fl_X4_43 rfl dX4_cutDown_85 ?_
                  refine lv_iload C.1 C.2.1 dX4_cutDown_88 (lv_at hl 0 rfl) ?_
                  obtain ⟨_, e90o, y90o_1, rfl, b90o_1, c90o_1⟩ := at_E (by decide) (fx113 hI)
                  refine k_pi (k_runV (rest := []) C aks Wd cs_X4_134 (wsX8_cell l D (ad 113) (ad 114) (ca 114) 480 j67_L_6 _ (by omega) (by omega) ([113, 114].map cel) ⟨(fx113 hI), (fx114 hI), trivial⟩) [113, 114] (wN_pick [113, 114] (okC_lt (ok_20))) (okC_nd (ok_20)) [114] (tC_ok (ok_20) rfl) 113 8 e90o rfl rfl rfl rfl ⟨(Nat.le_of_ble_eq_true rfl), (Nat.le_of_ble_eq_true rfl)⟩ hl.1 rfl rfl (Nat.le_of_ble_eq_true rfl) ⟨(Nat.le_of_ble_eq_true rfl), (Nat.le_of_ble_eq_true rfl)⟩ dX4_cutDown_90) (fun r90 w90 => ?_)
                  refine k_pi (k_runS (rest := []) C aks Wd cs_X4_138 (wsX8_isStatement l D r90 _ ([].map cel) trivial) [] (wN_pick [] (okC_lt (ok_1))) (okC_nd (ok_1)) [] (tC_ok (ok_1) rfl)  rfl rfl ⟨(Nat.le_of_ble_eq_true rfl), (Nat.le_of_ble_eq_true rfl)⟩ hl.1 rfl rfl (Nat.le_of_ble_eq_true rfl) ⟨(Nat.le_of_ble_eq_true rfl), (Nat.le_of_ble_eq_true rfl)⟩ dX4_cutDown_93) (fun r93 w93 => ?_)
                  obtain ⟨g93_0, g93_1⟩ := w93
                  have g93_0 : 0 ≤ r93.toInt := g93_0
                  have g93_1 : r93.toInt ≤ 1 := g93_1
                  refine k_cutA (fun (u : (Nat → Cl) × (Int32)) H locs ls => match u with | (cel, j158_L_4) => 0 ≤ j158_L_4.toInt ∧ j158_L_4.toInt ≤ 1 ∧ j158_L_4.toInt ≤ r93.toInt ∧ InvC ad ca (pTp T) cel ∧ wX D (tC ca) s (wN NC cel) H A s.heap locs ∧ lv_has ls 7 [(6, .int j67_L_6), (4, .int j158_L_4), (5, .int j67_L_5), (0, .ref (ad 31)), (1, .int x0)]) (fun (u : (Nat → Cl) × (Int32)) ls => match u with | (cel, j158_L_4) => F0 m 158 ls []) (fun u H locs ls hi => ?_) (fun J158 => ?_)
                  · obtain ⟨cel, j158_L_4⟩ := u
                    obtain ⟨i158_0, i158_1, i158_2, hI, Wd, hl⟩ := hi
                    obtain ⟨v158, ev158⟩ : ∃ z : Int32, j67_L_6 + 1 = z := ⟨_, rfl⟩
                    have iv158 : v158.toInt = j67_L_6.toInt + 1 := kz_addc ev158 (by decide) (by have zr0 := kz_rng j67_L_6; omega) (by have zr0 := kz_rng j67_L_6; omega)
                    refine lv_iinc (v := v158) (lv' := [(6, .int v158), (4, .int j158_L_4), (5, .int j67_L_5), (0, .ref (ad 31)), (1, .int x0)]) C.1 C.2.1 dX4_cutDown_158 hl (k := 0) rfl ev158 (by decide) rfl (fun ls hl => ?_)
                    refine lv_goto (tgt := 67) C.1 C.2.1 dX4_cutDown_161 (by decide) ?_
                    exact ih67 (cel, j158_L_4, j67_L_5, v158) _ _ _ ⟨by omega, by omega, by omega, by omega, by omega, by omega, by omega, by omega, by omega, hI, Wd, lv_sub hl [0, 1, 2, 3, 4] rfl⟩ (by show (481 - v158.toInt).toNat < (481 - j67_L_6.toInt).toNat; omega)
                  refine lv_if_eq (tgt := 158) C.1 C.2.1 dX4_cutDown_96 (by decide) (fun c96 => ?_) (fun c96 => ?_)
                  · have i96 : r93.toInt = 0 := kz_eq c96
                    exact J158 (cel, j67_L_4) _ _ _ ⟨by omega, by omega, by omega, hI, Wd, lv_sub hl [0, 1, 2, 3, 4] rfl⟩
                  · have i96 : ¬ r93.toInt = 0 := kz_ne c96
                    refine lv_aload_n C.1 C.2.1 dX4_cutDown_99 rfl (lv_at hl 3 rfl) ?_
                    obtain ⟨_, e100, y100_3, y100_4, rfl⟩ := at_E (by decide) (fx31 hI)
                    refine k_get C Wd KX4 31 9 e100 (by decide) fl_X4_46 rfl dX4_cutDown_100 ?_
                    refine lv_aload_n C.1 C.2.1 dX4_cutDown_103 rfl (lv_at hl 3 rfl) ?_
                    obtain ⟨_, e104, y104_3, y104_4, rfl⟩ := at_E (by decide) (fx31 hI)
                    refine k_get C Wd KX4 31 2 e104 (by decide) fl_X4_43 rfl dX4_cutDown_104 ?_
                    obtain ⟨_, e107o, y107o_1, rfl, b107o_1, c107o_1⟩ := at_E (by decide) (fx115 hI)
                    refine kc_v Wd (k_runV (rest := []) C aks Wd cs_X4_67 (liftV4 (P' := pTp T) hI (ok_21) (wsX8_copy l D (ad 115) (ad 113) (ad 114) (ad 116) (ca 114) (ca 116) 480 480 _ (by omega) (by omega) (by omega) (by omega) ([113, 114, 115, 116].map cel) ⟨(fx113 hI), (fx114 hI), (fx115 hI), (fx116 hI), trivial⟩) rfl (fun _ _ => rfl) ⟨fun _ h => h, fun _ h => h, fun _ h => h, fun _ h => h, trivial⟩) (List.range NC) (wN_all cel) ndR (List.range NC) (tC_all ca) 115 8 e107o rfl rfl rfl rfl ⟨(Nat.le_of_ble_eq_true rfl), (Nat.le_of_ble_eq_true rfl)⟩ hl.1 rfl rfl (Nat.le_of_ble_eq_true rfl) ⟨(Nat.le_of_ble_eq_true rfl), (Nat.le_of_ble_eq_true rfl)⟩ dX4_cutDown_107) (fun cel H locs w107 hI Wd => ?_)
                    refine lv_aload_n C.1 C.2.1 dX4_cutDown_110 rfl (lv_at hl 3 rfl) ?_
                    obtain ⟨_, e111, y111_3, y111_4, rfl⟩ := at_E (by decide) (fx31 hI)
                    refine k_get C Wd KX4 31 9 e111 (by decide) fl_X4_46 rfl dX4_cutDown_111 ?_
                    refine lv_iload C.1 C.2.1 dX4_cutDown_114 (lv_at hl 0 rfl) ?_
                    refine lv_aload_n C.1 C.2.1 dX4_cutDown_116 rfl (lv_at hl 3 rfl) ?_
                    obtain ⟨_, e117, y117_3, y117_4, rfl⟩ := at_E (by decide) (fx31 hI)
                    refine k_get C Wd KX4 31 2 e117 (by decide) fl_X4_43 rfl dX4_cutDown_117 ?_
                    refine lv_iload C.1 C.2.1 dX4_cutDown_120 (lv_at hl 0 rfl) ?_
                    obtain ⟨_, e122o, y122o_1, rfl, b122o_1, c122o_1⟩ := at_E (by decide) (fx113 hI)
                    refine k_pi (k_runV (rest := [.int j67_L_6, .ref (ad 115)]) C aks Wd cs_X4_141 (wsX8_statementEnd l D (ad 113) (ad 114) (ca 114) 480 j67_L_6 _ (by omega) (by omega) ([113, 114].map cel) ⟨(fx113 hI), (fx114 hI), trivial⟩) [113, 114] (wN_pick [113, 114] (okC_lt (ok_20))) (okC_nd (ok_20)) [114] (tC_ok (ok_20) rfl) 113 8 e122o rfl rfl rfl rfl ⟨(Nat.le_of_ble_eq_true rfl), (Nat.le_of_ble_eq_true rfl)⟩ hl.1 rfl rfl (Nat.le_of_ble_eq_true rfl) ⟨(Nat.le_of_ble_eq_true rfl), (Nat.le_of_ble_eq_true rfl)⟩ dX4_cutDown_122) (fun r122 w122 => ?_)
                    obtain ⟨_, e125o, y125o_1, rfl, b125o_1, c125o_1⟩ := at_E (by decide) (fx115 hI)
                    refine kc_v Wd (k_runV (rest := []) C aks Wd cs_X4_144 (liftV4 (P' := pTp T) hI (ok_22) (wsX8_remove l D (ad 115) (ad 116) (ca 116) 480 j67_L_6 r122 _ (by omega) (by omega) ([115, 116].map cel) ⟨(fx115 hI), (fx116 hI), trivial⟩) rfl (fun _ _ => rfl) ⟨fun _ h => h, fun _ h => h, trivial⟩) (List.range NC) (wN_all cel) ndR (List.range NC) (tC_all ca) 115 8 e125o rfl rfl rfl rfl ⟨(Nat.le_of_ble_eq_true rfl), (Nat.le_of_ble_eq_true rfl)⟩ hl.1 rfl rfl (Nat.le_of_ble_eq_true rfl) ⟨(Nat.le_of_ble_eq_true rfl), (Nat.le_of_ble_eq_true rfl)⟩ dX4_cutDown_125) (fun cel H locs w125 hI Wd => ?_)
                    refine lv_aload_n C.1 C.2.1 dX4_cutDown_128 rfl (lv_at hl 3 rfl) ?_
                    refine lv_iload_n C.1 C.2.1 dX4_cutDown_129 rfl (lv_at hl 4 rfl) ?_
                    refine lv_aload_n C.1 C.2.1 dX4_cutDown_130 rfl (lv_at hl 3 rfl) ?_
                    obtain ⟨_, e131, y131_3, y131_4, rfl⟩ := at_E (by decide) (fx31 hI)
                    refine k_get C Wd KX4 31 9 e131 (by decide) fl_X4_46 rfl dX4_cutDown_131 ?_
                    obtain ⟨_, e134o, y134o_3, y134o_4, rfl⟩ := at_E (by decide) (fx31 hI)
                    refine kc_i Wd (k_runV (rest := []) C aks Wd cs_X4_109 (gX4_makeOf l D ad ca (T) cel _ 7 (by decide) x0 hI) (List.range NC) (wN_all cel) ndR (List.range NC) (tC_all ca) 31 4 e134o rfl rfl rfl rfl ⟨(Nat.le_of_ble_eq_true rfl), (Nat.le_of_ble_eq_true rfl)⟩ hl.1 rfl rfl (Nat.le_of_ble_eq_true rfl) ⟨(Nat.le_of_ble_eq_true rfl), (Nat.le_of_ble_eq_true rfl)⟩ dX4_cutDown_134) (fun r134 cel H locs w134 hI Wd => ?_)
                    obtain ⟨g134_0, g134_1⟩ := w134
                    have g134_0 : 0 ≤ r134.toInt := g134_0
                    have g134_1 : r134.toInt ≤ 1 := g134_1
                    refine k_cutA (fun (u : (Nat → Cl) × (Int32)) H locs ls => match u with | (cel, j156_S_0) => 0 ≤ j156_S_0.toInt ∧ j156_S_0.toInt ≤ 1 ∧ j156_S_0.toInt ≤ r134.toInt ∧ InvC ad ca (pTp T) cel ∧ wX D (tC ca) s (wN NC cel) H A s.heap locs ∧ lv_has ls 7 [(6, .int j67_L_6), (5, .int j67_L_5), (0, .ref (ad 31)), (1, .int x0)]) (fun (u : (Nat → Cl) × (Int32)) ls => match u with | (cel, j156_S_0) => F0 m 156 ls [.int j156_S_0]) (fun u H locs ls hi => ?_) (fun J156 => ?_)
                    · obtain ⟨cel, j156_S_0⟩ := u
                      obtain ⟨i156_0, i156_1, i156_2, hI, Wd, hl⟩ := hi
                      refine lv_istore (lv' := [(4, .int j156_S_0), (6, .int j67_L_6), (5, .int j67_L_5), (0, .ref (ad 31)), (1, .int x0)]) C.1 C.2.1 dX4_cutDown_156 hl (by decide) rfl (fun ls hl => ?_)
                      exact J158 (cel, j156_S_0) _ _ _ ⟨by omega, by omega, by omega, hI, Wd, lv_sub hl [1, 0, 2, 3, 4] rfl⟩
                    refine k_cutA (fun (cel : Nat → Cl) H locs ls => InvC ad ca (pTp T) cel ∧ wX D (tC ca) s (wN NC cel) H A s.heap locs ∧ lv_has ls 7 [(6, .int j67_L_6), (5, .int j67_L_5), (0, .ref (ad 31)), (1, .int x0)]) (fun (cel : Nat → Cl) ls => F0 m 155 ls []) (fun cel H locs ls hi => ?_) (fun J155 => ?_)
                    · obtain ⟨hI, Wd, hl⟩ := hi
                      refine lv_iconst (v := 0) C.1 C.2.1 dX4_cutDown_155 (by decide) ?_
                      exact J156 (cel, 0) _ _ _ ⟨by have zq0 : (0 : Int32).toInt = 0 := (by decide); omega, by have zq0 : (0 : Int32).toInt = 0 := (by decide); omega, by have zq0 : (0 : Int32).toInt = 0 := (by decide); omega, hI, Wd, lv_sub hl [0, 1, 2, 3] rfl⟩
                    refine lv_if_eq (tgt := 155) C.1 C.2.1 dX4_cutDown_137 (by decide) (fun c137 => ?_) (fun c137 => ?_)
                    · have i137 : r134.toInt = 0 := kz_eq c137
                      exact J155 cel _ _ _ ⟨hI, Wd, lv_sub hl [0, 2, 3, 4] rfl⟩
                    · have i137 : ¬ r134.toInt = 0 := kz_ne c137
                      refine lv_aload_n C.1 C.2.1 dX4_cutDown_140 rfl (lv_at hl 3 rfl) ?_
                      refine lv_aload_n C.1 C.2.1 dX4_cutDown_141 rfl (lv_at hl 3 rfl) ?_
                      obtain ⟨_, e142, y142_3, y142_4, rfl⟩ := at_E (by decide) (fx31 hI)
                      refine k_get C Wd KX4 31 9 e142 (by decide) fl_X4_46 rfl dX4_cutDown_142 ?_
                      obtain ⟨_, e145o, y145o_3, y145o_4, rfl⟩ := at_E (by decide) (fx31 hI)
                      refine kc_i Wd (k_runV (rest := []) C aks Wd cs_X4_113 (liftI4 (P' := pTp T) hI (ok_23) (wsX4_madeWrong l D (ad 31) (ad 115) (ad 32) (ad 119) (ad 113) (ad 67) (ad 68) (ad 69) (ad 70) (ad 115) (ad 116) (ad 120) (ad 33) (ad 50) (ad 37) (ad 34) (ad 35) (ad 36) (ad 38) (ad 39) (ad 40) (ad 41) (ad 42) (ad 43) (ad 44) (ad 45) (ad 46) (ad 47) (ad 48) (ad 49) (ad 54) (ad 51) (ad 52) (ad 53) (ad 55) (ad 56) (ad 57) (ad 58) (ad 59) (ad 60) (ad 61) (ad 62) (ad 63) (ad 64) (ad 65) (ad 66) (ca 116) (ca 120) (ca 49) (ca 48) (ca 38) (ca 39) (ca 45) (ca 40) (ca 41) (ca 44) (ca 42) (ca 43) (ca 47) (ca 46) (ca 66) (ca 65) (ca 55) (ca 56) (ca 62) (ca 57) (ca 58) (ca 61) (ca 59) (ca 60) (ca 64) (ca 63) (ca 35) (ca 36) (ca 34) (ca 52) (ca 53) (ca 51) 480 1000 _ (by omega) (by omega) (by omega) (by omega) ([31, 115, 116, 119, 120, 32, 33, 37, 49, 48, 38, 39, 45, 40, 41, 44, 42, 43, 47, 46, 50, 54, 66, 65, 55, 56, 62, 57, 58, 61, 59, 60, 64, 63, 35, 36, 34, 52, 53, 51].map cel) ⟨(fx31 hI), (fx115 hI), (fx116 hI), (fx119 hI), (fx120 hI), (fx32 hI), (fx33 hI), (fx37 hI), (fx49 hI), (fx48 hI), (fx38 hI), (fx39 hI), (fx45 hI), (fx40 hI), (fx41 hI), (fx44 hI), (fx42 hI), (fx43 hI), (fx47 hI), (fx46 hI), (fx50 hI), (fx54 hI), (fx66 hI), (fx65 hI), (fx55 hI), (fx56 hI), (fx62 hI), (fx57 hI), (fx58 hI), (fx61 hI), (fx59 hI), (fx60 hI), (fx64 hI), (fx63 hI), (fx35 hI), (fx36 hI), (fx34 hI), (fx52 hI), (fx53 hI), (fx51 hI), trivial⟩) rfl (fun _ _ => rfl) ⟨fun _ h => h, fun _ h => h, fun _ h => h, fun _ h => h, fun _ h => h, fun _ h => h, fun _ h => h, fun _ h => tx37 h (fun _ _ q => trivial), fun _ h => h, fun _ h => h, fun _ h => h, fun _ h => h, fun _ h => h, fun _ h => h, fun _ h => h, fun _ h => h, fun _ h => h, fun _ h => h, fun _ h => h, fun _ h => h, fun _ h => h, fun _ h => tx54 h (fun _ _ q => trivial), fun _ h => h, fun _ h => h, fun _ h => h, fun _ h => h, fun _ h => h, fun _ h => h, fun _ h => h, fun _ h => h, fun _ h => h, fun _ h => h, fun _ h => h, fun _ h => h, fun _ h => h, fun _ h => h, fun _ h => h, fun _ h => h, fun _ h => h, fun _ h => h, trivial⟩) (List.range NC) (wN_all cel) ndR (List.range NC) (tC_all ca) 31 4 e145o rfl rfl rfl rfl ⟨(Nat.le_of_ble_eq_true rfl), (Nat.le_of_ble_eq_true rfl)⟩ hl.1 rfl rfl (Nat.le_of_ble_eq_true rfl) ⟨(Nat.le_of_ble_eq_true rfl), (Nat.le_of_ble_eq_true rfl)⟩ dX4_cutDown_145) (fun r145 cel H locs w145 hI Wd => ?_)
                      obtain ⟨g145_0, g145_1⟩ := w145
                      have g145_0 : 0 ≤ r145.toInt := g145_0
                      have g145_1 : r145.toInt ≤ 1 := g145_1
                      refine lv_if_eq (tgt := 155) C.1 C.2.1 dX4_cutDown_148 (by decide) (fun c148 => ?_) (fun c148 => ?_)
                      · have i148 : r145.toInt = 0 := kz_eq c148
                        exact J155 cel _ _ _ ⟨hI, Wd, lv_sub hl [0, 2, 3, 4] rfl⟩
                      · have i148 : ¬ r145.toInt = 0 := kz_ne c148
                        refine lv_iconst (v := 1) C.1 C.2.1 dX4_cutDown_151 (by decide) ?_
                        refine lv_goto (tgt := 156) C.1 C.2.1 dX4_cutDown_152 (by decide) ?_
                        exact J156 (cel, 1) _ _ _ ⟨by have zq1 : (1 : Int32).toInt = 1 := (by decide); omega, by have zq1 : (1 : Int32).toInt = 1 := (by decide); omega, by have zq1 : (1 : Int32).toInt = 1 := (by decide); omega, hI, Wd, lv_sub hl [0, 2, 3, 4] rfl⟩
        · have i30 : r27.toInt = 0 := kz_eq c30
          exact J33 cel _ _ _ ⟨hI, Wd, lv_sub hl [] rfl⟩
