set_option maxHeartbeats 4000000 in
set_option maxRecDepth 100000 in
theorem tX10_isText_s0 (l : Launch) (D : va_G) (adK adV : Nat → Nat) (tq : Nat) (h : Nat) (h_0 : Nat) (h_1 : Int32) (h_2 : Int32) (h_3 : Int32) (h_4 : Int32) (h_5 : Int32) (a_h_0 : ClassId) (f_h_0 : Nat → Int32) (sz : Nat) (k_h_1_lo : 0 ≤ h_1.toInt) (k_h_1_hi : h_1.toInt ≤ 800)  : Met l yX10_isText (Cond.code yX10_isText cX10_isText 3 (some .boolean) :: gG) { frames := 5, cells := 0, slots := 0, locals := 300 } (cPS RX10 ixT adK adV tq D [(a_h_0, .int)] [(h, .inr (10, [.ref h_0, .int h_1, .int h_2, .int h_3, .int h_4, .int h_5])), (h_0, .inl (a_h_0, 800, .inl f_h_0))] sz [.ref h, .ref (adK 0)]) (vp_Si (fun r => 0 ≤ r.toInt ∧ r.toInt ≤ 1)) 0 0 (fun _ => False) := by
  refine Met.ofW (cc := cX10_isText) (maxL := 3) (ret := (some .boolean)) (by decide) rfl ?_
  intro p e s m args below meth c s₁ B hml hv
  obtain ⟨hv, hE⟩ := hv
  obtain ⟨rfl, aks, rfl, Wd⟩ := k_enter hv
  have C : CallFix p m c cX10_isText 3 s _ gG RX10 := ⟨B.exec, B.bytes, hml, findClass_of_methodNamed B.named, fun w h => atoms_spec (ws := Cond.code yX10_isText cX10_isText 3 (some .boolean) :: gG) B.pre w (List.mem_cons_of_mem _ h)⟩
  have hr := B.returns
  have hlk := B.notSynchronized
  obtain ⟨A, Wd, hE⟩ : ∃ A, wX D [(a_h_0, .int)] s [(h, .inr (10, [.ref h_0, .int h_1, .int h_2, .int h_3, .int h_4, .int h_5])), (h_0, .inl (a_h_0, 800, .inl f_h_0))] s.heap A s.heap [] ∧ sK RX10 ixT adK adV tq A s s.heap := ⟨_, Wd, hE⟩
  refine k_locals (Nat.le_of_ble_eq_true rfl) [(0, .ref h), (1, .ref (adK 0))] rfl (fun ls hl => ?_)
  refine lv_aload_n C.1 C.2.1 dX10_isText_0 rfl (lv_at hl 1 rfl) ?_
  refine k_pi (k_runVE (rest := []) C aks hE (show 0 < 5 by decide) Wd cs_X10_69 (js_length 0 (by decide) _ _ _ _ _ D l _) rfl rfl ⟨(Nat.le_of_ble_eq_true rfl), (Nat.le_of_ble_eq_true rfl)⟩ hl.1 rfl rfl (Nat.le_of_ble_eq_true rfl) ⟨(Nat.le_of_ble_eq_true rfl), (Nat.le_of_ble_eq_true rfl)⟩ dX10_isText_1) (fun r1 w1 => ?_)
  obtain rfl : r1 = 3 := w1.trans (by decide)
  refine lv_aload_n C.1 C.2.1 dX10_isText_4 rfl (lv_at hl 0 rfl) ?_
  refine k_get C Wd KX10 0 5 rfl (by decide) fl_X10_19 rfl dX10_isText_5 ?_
  refine lv_aload_n C.1 C.2.1 dX10_isText_8 rfl (lv_at hl 0 rfl) ?_
  refine k_get C Wd KX10 0 4 rfl (by decide) fl_X10_22 rfl dX10_isText_9 ?_
  obtain ⟨v12, ev12⟩ : ∃ z : Int32, h_5 - h_4 = z := ⟨_, rfl⟩
  refine k_isub (v := v12) C ev12 dX10_isText_12 ?_
  refine lv_icmp_eq (tgt := 18) C.1 C.2.1 dX10_isText_13 (by decide) (fun c13 => ?_) (fun c13 => ?_)
  · have i13 : 3 = v12.toInt := kz_eq c13
    refine lv_iconst (v := 0) C.1 C.2.1 dX10_isText_18 (by decide) ?_
    refine lv_istore_n (lv' := [(2, .int 0), (0, .ref h), (1, .ref (adK 0))]) C.1 C.2.1 dX10_isText_19 rfl hl (by decide) rfl (fun ls hl => ?_)
    refine k_loopA (fun (j20_L_2 : Int32) H locs ls => 0 ≤ j20_L_2.toInt ∧ j20_L_2.toInt ≤ 3 ∧ H = s.heap ∧ locs = [] ∧ wX D [(a_h_0, .int)] s [(h, .inr (10, [.ref h_0, .int h_1, .int h_2, .int h_3, .int h_4, .int h_5])), (h_0, .inl (a_h_0, 800, .inl f_h_0))] H A s.heap locs ∧ lv_has ls 3 [(2, .int j20_L_2), (0, .ref h), (1, .ref (adK 0))]) (fun (j20_L_2 : Int32) ls => F0 m 20 ls []) (fun (j20_L_2 : Int32) => (4 - j20_L_2.toInt).toNat) (fun j20_L_2 H locs ls hi ih20 => ?_) 0 _ _ _ ⟨by have zq0 : (0 : Int32).toInt = 0 := (by decide); omega, by have zq0 : (0 : Int32).toInt = 0 := (by decide); omega, rfl, rfl, Wd, lv_sub hl [0, 1, 2] rfl⟩
    obtain ⟨i20_0, i20_1, rfl, rfl, Wd, hl⟩ := hi
    refine lv_iload_n C.1 C.2.1 dX10_isText_20 rfl (lv_at hl 0 rfl) ?_
    refine lv_aload_n C.1 C.2.1 dX10_isText_21 rfl (lv_at hl 2 rfl) ?_
    refine k_pi (k_runVE (rest := [.int j20_L_2]) C aks hE (show 0 < 5 by decide) Wd cs_X10_69 (js_length 0 (by decide) _ _ _ _ _ D l _) rfl rfl ⟨(Nat.le_of_ble_eq_true rfl), (Nat.le_of_ble_eq_true rfl)⟩ hl.1 rfl rfl (Nat.le_of_ble_eq_true rfl) ⟨(Nat.le_of_ble_eq_true rfl), (Nat.le_of_ble_eq_true rfl)⟩ dX10_isText_22) (fun r22 w22 => ?_)
    obtain rfl : r22 = 3 := w22.trans (by decide)
    refine lv_icmp_ge (tgt := 54) C.1 C.2.1 dX10_isText_25 (by decide) (fun c25 => ?_) (fun c25 => ?_)
    · have i25 : 3 ≤ j20_L_2.toInt := kz_le c25
      refine lv_iconst (v := 1) C.1 C.2.1 dX10_isText_54 (by decide) ?_
      exact k_zretP C hr hlk rfl (by exact ⟨by have zq1 : (1 : Int32).toInt = 1 := (by decide); omega, by have zq1 : (1 : Int32).toInt = 1 := (by decide); omega⟩) dX10_isText_55
    · have i25 : j20_L_2.toInt < 3 := kz_nle c25
      refine lv_aload_n C.1 C.2.1 dX10_isText_28 rfl (lv_at hl 1 rfl) ?_
      refine lv_aload_n C.1 C.2.1 dX10_isText_29 rfl (lv_at hl 1 rfl) ?_
      refine k_get C Wd KX10 0 4 rfl (by decide) fl_X10_22 rfl dX10_isText_30 ?_
      refine lv_iload_n C.1 C.2.1 dX10_isText_33 rfl (lv_at hl 0 rfl) ?_
      obtain ⟨v34, ev34⟩ : ∃ z : Int32, h_4 + j20_L_2 = z := ⟨_, rfl⟩
      refine k_iadd (v := v34) C ev34 dX10_isText_34 ?_
      refine k_pi (k_runV (rest := []) C aks Wd cs_X10_31 (sX10_byteAt l D h v34 h_0 h_1 h_2 h_3 h_4 h_5 a_h_0 f_h_0 _ (by omega) (by omega)) [0, 1] rfl (by decide) [0] rfl 0 10 rfl rfl rfl rfl rfl ⟨(Nat.le_of_ble_eq_true rfl), (Nat.le_of_ble_eq_true rfl)⟩ hl.1 rfl rfl (Nat.le_of_ble_eq_true rfl) ⟨(Nat.le_of_ble_eq_true rfl), (Nat.le_of_ble_eq_true rfl)⟩ dX10_isText_35) (fun r35 w35 => ?_)
      refine lv_aload_n C.1 C.2.1 dX10_isText_38 rfl (lv_at hl 2 rfl) ?_
      refine lv_iload_n C.1 C.2.1 dX10_isText_39 rfl (lv_at hl 0 rfl) ?_
      refine k_pi (k_runVE (rest := [.int r35]) C aks hE (show 0 < 5 by decide) Wd cs_X10_74 (js_charAtV 0 (by decide) j20_L_2 (by show 0 ≤ j20_L_2.toInt ∧ j20_L_2.toInt < 3; omega) _ _ _ _ _ D l _) rfl rfl ⟨(Nat.le_of_ble_eq_true rfl), (Nat.le_of_ble_eq_true rfl)⟩ hl.1 rfl rfl (Nat.le_of_ble_eq_true rfl) ⟨(Nat.le_of_ble_eq_true rfl), (Nat.le_of_ble_eq_true rfl)⟩ dX10_isText_40) (fun r40 w40 => ?_)
      refine lv_icmp_eq (tgt := 48) C.1 C.2.1 dX10_isText_43 (by decide) (fun c43 => ?_) (fun c43 => ?_)
      · have i43 : r35.toInt = r40.toInt := kz_eq c43
        obtain ⟨v48, ev48⟩ : ∃ z : Int32, j20_L_2 + 1 = z := ⟨_, rfl⟩
        have iv48 : v48.toInt = j20_L_2.toInt + 1 := kz_addc ev48 (by decide) (by have zr0 := kz_rng j20_L_2; omega) (by have zr0 := kz_rng j20_L_2; omega)
        refine lv_iinc (v := v48) (lv' := [(2, .int v48), (0, .ref h), (1, .ref (adK 0))]) C.1 C.2.1 dX10_isText_48 hl (k := 0) rfl ev48 (by decide) rfl (fun ls hl => ?_)
        refine lv_goto (tgt := 20) C.1 C.2.1 dX10_isText_51 (by decide) ?_
        exact ih20 v48 _ _ _ ⟨by omega, by omega, rfl, rfl, Wd, lv_sub hl [0, 1, 2] rfl⟩ (by show (4 - v48.toInt).toNat < (4 - j20_L_2.toInt).toNat; omega)
      · have i43 : ¬ r35.toInt = r40.toInt := kz_ne c43
        refine lv_iconst (v := 0) C.1 C.2.1 dX10_isText_46 (by decide) ?_
        exact k_zretP C hr hlk rfl (by exact ⟨by have zq0 : (0 : Int32).toInt = 0 := (by decide); omega, by have zq0 : (0 : Int32).toInt = 0 := (by decide); omega⟩) dX10_isText_47
  · have i13 : ¬ 3 = v12.toInt := kz_ne c13
    refine lv_iconst (v := 0) C.1 C.2.1 dX10_isText_16 (by decide) ?_
    exact k_zretP C hr hlk rfl (by exact ⟨by have zq0 : (0 : Int32).toInt = 0 := (by decide); omega, by have zq0 : (0 : Int32).toInt = 0 := (by decide); omega⟩) dX10_isText_17
set_option maxHeartbeats 4000000 in
set_option maxRecDepth 100000 in
theorem tX10_isText_s1 (l : Launch) (D : va_G) (adK adV : Nat → Nat) (tq : Nat) (h : Nat) (h_0 : Nat) (h_1 : Int32) (h_2 : Int32) (h_3 : Int32) (h_4 : Int32) (h_5 : Int32) (a_h_0 : ClassId) (f_h_0 : Nat → Int32) (sz : Nat) (k_h_1_lo : 0 ≤ h_1.toInt) (k_h_1_hi : h_1.toInt ≤ 800)  : Met l yX10_isText (Cond.code yX10_isText cX10_isText 3 (some .boolean) :: gG) { frames := 5, cells := 0, slots := 0, locals := 300 } (cPS RX10 ixT adK adV tq D [(a_h_0, .int)] [(h, .inr (10, [.ref h_0, .int h_1, .int h_2, .int h_3, .int h_4, .int h_5])), (h_0, .inl (a_h_0, 800, .inl f_h_0))] sz [.ref h, .ref (adK 1)]) (vp_Si (fun r => 0 ≤ r.toInt ∧ r.toInt ≤ 1)) 0 0 (fun _ => False) := by
  refine Met.ofW (cc := cX10_isText) (maxL := 3) (ret := (some .boolean)) (by decide) rfl ?_
  intro p e s m args below meth c s₁ B hml hv
  obtain ⟨hv, hE⟩ := hv
  obtain ⟨rfl, aks, rfl, Wd⟩ := k_enter hv
  have C : CallFix p m c cX10_isText 3 s _ gG RX10 := ⟨B.exec, B.bytes, hml, findClass_of_methodNamed B.named, fun w h => atoms_spec (ws := Cond.code yX10_isText cX10_isText 3 (some .boolean) :: gG) B.pre w (List.mem_cons_of_mem _ h)⟩
  have hr := B.returns
  have hlk := B.notSynchronized
  obtain ⟨A, Wd, hE⟩ : ∃ A, wX D [(a_h_0, .int)] s [(h, .inr (10, [.ref h_0, .int h_1, .int h_2, .int h_3, .int h_4, .int h_5])), (h_0, .inl (a_h_0, 800, .inl f_h_0))] s.heap A s.heap [] ∧ sK RX10 ixT adK adV tq A s s.heap := ⟨_, Wd, hE⟩
  refine k_locals (Nat.le_of_ble_eq_true rfl) [(0, .ref h), (1, .ref (adK 1))] rfl (fun ls hl => ?_)
  refine lv_aload_n C.1 C.2.1 dX10_isText_0 rfl (lv_at hl 1 rfl) ?_
  refine k_pi (k_runVE (rest := []) C aks hE (show 1 < 5 by decide) Wd cs_X10_69 (js_length 1 (by decide) _ _ _ _ _ D l _) rfl rfl ⟨(Nat.le_of_ble_eq_true rfl), (Nat.le_of_ble_eq_true rfl)⟩ hl.1 rfl rfl (Nat.le_of_ble_eq_true rfl) ⟨(Nat.le_of_ble_eq_true rfl), (Nat.le_of_ble_eq_true rfl)⟩ dX10_isText_1) (fun r1 w1 => ?_)
  obtain rfl : r1 = 4 := w1.trans (by decide)
  refine lv_aload_n C.1 C.2.1 dX10_isText_4 rfl (lv_at hl 0 rfl) ?_
  refine k_get C Wd KX10 0 5 rfl (by decide) fl_X10_19 rfl dX10_isText_5 ?_
  refine lv_aload_n C.1 C.2.1 dX10_isText_8 rfl (lv_at hl 0 rfl) ?_
  refine k_get C Wd KX10 0 4 rfl (by decide) fl_X10_22 rfl dX10_isText_9 ?_
  obtain ⟨v12, ev12⟩ : ∃ z : Int32, h_5 - h_4 = z := ⟨_, rfl⟩
  refine k_isub (v := v12) C ev12 dX10_isText_12 ?_
  refine lv_icmp_eq (tgt := 18) C.1 C.2.1 dX10_isText_13 (by decide) (fun c13 => ?_) (fun c13 => ?_)
  · have i13 : 4 = v12.toInt := kz_eq c13
    refine lv_iconst (v := 0) C.1 C.2.1 dX10_isText_18 (by decide) ?_
    refine lv_istore_n (lv' := [(2, .int 0), (0, .ref h), (1, .ref (adK 1))]) C.1 C.2.1 dX10_isText_19 rfl hl (by decide) rfl (fun ls hl => ?_)
    refine k_loopA (fun (j20_L_2 : Int32) H locs ls => 0 ≤ j20_L_2.toInt ∧ j20_L_2.toInt ≤ 4 ∧ H = s.heap ∧ locs = [] ∧ wX D [(a_h_0, .int)] s [(h, .inr (10, [.ref h_0, .int h_1, .int h_2, .int h_3, .int h_4, .int h_5])), (h_0, .inl (a_h_0, 800, .inl f_h_0))] H A s.heap locs ∧ lv_has ls 3 [(2, .int j20_L_2), (0, .ref h), (1, .ref (adK 1))]) (fun (j20_L_2 : Int32) ls => F0 m 20 ls []) (fun (j20_L_2 : Int32) => (5 - j20_L_2.toInt).toNat) (fun j20_L_2 H locs ls hi ih20 => ?_) 0 _ _ _ ⟨by have zq0 : (0 : Int32).toInt = 0 := (by decide); omega, by have zq0 : (0 : Int32).toInt = 0 := (by decide); omega, rfl, rfl, Wd, lv_sub hl [0, 1, 2] rfl⟩
    obtain ⟨i20_0, i20_1, rfl, rfl, Wd, hl⟩ := hi
    refine lv_iload_n C.1 C.2.1 dX10_isText_20 rfl (lv_at hl 0 rfl) ?_
    refine lv_aload_n C.1 C.2.1 dX10_isText_21 rfl (lv_at hl 2 rfl) ?_
    refine k_pi (k_runVE (rest := [.int j20_L_2]) C aks hE (show 1 < 5 by decide) Wd cs_X10_69 (js_length 1 (by decide) _ _ _ _ _ D l _) rfl rfl ⟨(Nat.le_of_ble_eq_true rfl), (Nat.le_of_ble_eq_true rfl)⟩ hl.1 rfl rfl (Nat.le_of_ble_eq_true rfl) ⟨(Nat.le_of_ble_eq_true rfl), (Nat.le_of_ble_eq_true rfl)⟩ dX10_isText_22) (fun r22 w22 => ?_)
    obtain rfl : r22 = 4 := w22.trans (by decide)
    refine lv_icmp_ge (tgt := 54) C.1 C.2.1 dX10_isText_25 (by decide) (fun c25 => ?_) (fun c25 => ?_)
    · have i25 : 4 ≤ j20_L_2.toInt := kz_le c25
      refine lv_iconst (v := 1) C.1 C.2.1 dX10_isText_54 (by decide) ?_
      exact k_zretP C hr hlk rfl (by exact ⟨by have zq1 : (1 : Int32).toInt = 1 := (by decide); omega, by have zq1 : (1 : Int32).toInt = 1 := (by decide); omega⟩) dX10_isText_55
    · have i25 : j20_L_2.toInt < 4 := kz_nle c25
      refine lv_aload_n C.1 C.2.1 dX10_isText_28 rfl (lv_at hl 1 rfl) ?_
      refine lv_aload_n C.1 C.2.1 dX10_isText_29 rfl (lv_at hl 1 rfl) ?_
      refine k_get C Wd KX10 0 4 rfl (by decide) fl_X10_22 rfl dX10_isText_30 ?_
      refine lv_iload_n C.1 C.2.1 dX10_isText_33 rfl (lv_at hl 0 rfl) ?_
      obtain ⟨v34, ev34⟩ : ∃ z : Int32, h_4 + j20_L_2 = z := ⟨_, rfl⟩
      refine k_iadd (v := v34) C ev34 dX10_isText_34 ?_
      refine k_pi (k_runV (rest := []) C aks Wd cs_X10_31 (sX10_byteAt l D h v34 h_0 h_1 h_2 h_3 h_4 h_5 a_h_0 f_h_0 _ (by omega) (by omega)) [0, 1] rfl (by decide) [0] rfl 0 10 rfl rfl rfl rfl rfl ⟨(Nat.le_of_ble_eq_true rfl), (Nat.le_of_ble_eq_true rfl)⟩ hl.1 rfl rfl (Nat.le_of_ble_eq_true rfl) ⟨(Nat.le_of_ble_eq_true rfl), (Nat.le_of_ble_eq_true rfl)⟩ dX10_isText_35) (fun r35 w35 => ?_)
      refine lv_aload_n C.1 C.2.1 dX10_isText_38 rfl (lv_at hl 2 rfl) ?_
      refine lv_iload_n C.1 C.2.1 dX10_isText_39 rfl (lv_at hl 0 rfl) ?_
      refine k_pi (k_runVE (rest := [.int r35]) C aks hE (show 1 < 5 by decide) Wd cs_X10_74 (js_charAtV 1 (by decide) j20_L_2 (by show 0 ≤ j20_L_2.toInt ∧ j20_L_2.toInt < 4; omega) _ _ _ _ _ D l _) rfl rfl ⟨(Nat.le_of_ble_eq_true rfl), (Nat.le_of_ble_eq_true rfl)⟩ hl.1 rfl rfl (Nat.le_of_ble_eq_true rfl) ⟨(Nat.le_of_ble_eq_true rfl), (Nat.le_of_ble_eq_true rfl)⟩ dX10_isText_40) (fun r40 w40 => ?_)
      refine lv_icmp_eq (tgt := 48) C.1 C.2.1 dX10_isText_43 (by decide) (fun c43 => ?_) (fun c43 => ?_)
      · have i43 : r35.toInt = r40.toInt := kz_eq c43
        obtain ⟨v48, ev48⟩ : ∃ z : Int32, j20_L_2 + 1 = z := ⟨_, rfl⟩
        have iv48 : v48.toInt = j20_L_2.toInt + 1 := kz_addc ev48 (by decide) (by have zr0 := kz_rng j20_L_2; omega) (by have zr0 := kz_rng j20_L_2; omega)
        refine lv_iinc (v := v48) (lv' := [(2, .int v48), (0, .ref h), (1, .ref (adK 1))]) C.1 C.2.1 dX10_isText_48 hl (k := 0) rfl ev48 (by decide) rfl (fun ls hl => ?_)
        refine lv_goto (tgt := 20) C.1 C.2.1 dX10_isText_51 (by decide) ?_
        exact ih20 v48 _ _ _ ⟨by omega, by omega, rfl, rfl, Wd, lv_sub hl [0, 1, 2] rfl⟩ (by show (5 - v48.toInt).toNat < (5 - j20_L_2.toInt).toNat; omega)
      · have i43 : ¬ r35.toInt = r40.toInt := kz_ne c43
        refine lv_iconst (v := 0) C.1 C.2.1 dX10_isText_46 (by decide) ?_
        exact k_zretP C hr hlk rfl (by exact ⟨by have zq0 : (0 : Int32).toInt = 0 := (by decide); omega, by have zq0 : (0 : Int32).toInt = 0 := (by decide); omega⟩) dX10_isText_47
  · have i13 : ¬ 4 = v12.toInt := kz_ne c13
    refine lv_iconst (v := 0) C.1 C.2.1 dX10_isText_16 (by decide) ?_
    exact k_zretP C hr hlk rfl (by exact ⟨by have zq0 : (0 : Int32).toInt = 0 := (by decide); omega, by have zq0 : (0 : Int32).toInt = 0 := (by decide); omega⟩) dX10_isText_17
set_option maxHeartbeats 4000000 in
set_option maxRecDepth 100000 in
theorem tX10_isText_s2 (l : Launch) (D : va_G) (adK adV : Nat → Nat) (tq : Nat) (h : Nat) (h_0 : Nat) (h_1 : Int32) (h_2 : Int32) (h_3 : Int32) (h_4 : Int32) (h_5 : Int32) (a_h_0 : ClassId) (f_h_0 : Nat → Int32) (sz : Nat) (k_h_1_lo : 0 ≤ h_1.toInt) (k_h_1_hi : h_1.toInt ≤ 800)  : Met l yX10_isText (Cond.code yX10_isText cX10_isText 3 (some .boolean) :: gG) { frames := 5, cells := 0, slots := 0, locals := 300 } (cPS RX10 ixT adK adV tq D [(a_h_0, .int)] [(h, .inr (10, [.ref h_0, .int h_1, .int h_2, .int h_3, .int h_4, .int h_5])), (h_0, .inl (a_h_0, 800, .inl f_h_0))] sz [.ref h, .ref (adK 2)]) (vp_Si (fun r => 0 ≤ r.toInt ∧ r.toInt ≤ 1)) 0 0 (fun _ => False) := by
  refine Met.ofW (cc := cX10_isText) (maxL := 3) (ret := (some .boolean)) (by decide) rfl ?_
  intro p e s m args below meth c s₁ B hml hv
  obtain ⟨hv, hE⟩ := hv
  obtain ⟨rfl, aks, rfl, Wd⟩ := k_enter hv
  have C : CallFix p m c cX10_isText 3 s _ gG RX10 := ⟨B.exec, B.bytes, hml, findClass_of_methodNamed B.named, fun w h => atoms_spec (ws := Cond.code yX10_isText cX10_isText 3 (some .boolean) :: gG) B.pre w (List.mem_cons_of_mem _ h)⟩
  have hr := B.returns
  have hlk := B.notSynchronized
  obtain ⟨A, Wd, hE⟩ : ∃ A, wX D [(a_h_0, .int)] s [(h, .inr (10, [.ref h_0, .int h_1, .int h_2, .int h_3, .int h_4, .int h_5])), (h_0, .inl (a_h_0, 800, .inl f_h_0))] s.heap A s.heap [] ∧ sK RX10 ixT adK adV tq A s s.heap := ⟨_, Wd, hE⟩
  refine k_locals (Nat.le_of_ble_eq_true rfl) [(0, .ref h), (1, .ref (adK 2))] rfl (fun ls hl => ?_)
  refine lv_aload_n C.1 C.2.1 dX10_isText_0 rfl (lv_at hl 1 rfl) ?_
  refine k_pi (k_runVE (rest := []) C aks hE (show 2 < 5 by decide) Wd cs_X10_69 (js_length 2 (by decide) _ _ _ _ _ D l _) rfl rfl ⟨(Nat.le_of_ble_eq_true rfl), (Nat.le_of_ble_eq_true rfl)⟩ hl.1 rfl rfl (Nat.le_of_ble_eq_true rfl) ⟨(Nat.le_of_ble_eq_true rfl), (Nat.le_of_ble_eq_true rfl)⟩ dX10_isText_1) (fun r1 w1 => ?_)
  obtain rfl : r1 = 2 := w1.trans (by decide)
  refine lv_aload_n C.1 C.2.1 dX10_isText_4 rfl (lv_at hl 0 rfl) ?_
  refine k_get C Wd KX10 0 5 rfl (by decide) fl_X10_19 rfl dX10_isText_5 ?_
  refine lv_aload_n C.1 C.2.1 dX10_isText_8 rfl (lv_at hl 0 rfl) ?_
  refine k_get C Wd KX10 0 4 rfl (by decide) fl_X10_22 rfl dX10_isText_9 ?_
  obtain ⟨v12, ev12⟩ : ∃ z : Int32, h_5 - h_4 = z := ⟨_, rfl⟩
  refine k_isub (v := v12) C ev12 dX10_isText_12 ?_
  refine lv_icmp_eq (tgt := 18) C.1 C.2.1 dX10_isText_13 (by decide) (fun c13 => ?_) (fun c13 => ?_)
  · have i13 : 2 = v12.toInt := kz_eq c13
    refine lv_iconst (v := 0) C.1 C.2.1 dX10_isText_18 (by decide) ?_
    refine lv_istore_n (lv' := [(2, .int 0), (0, .ref h), (1, .ref (adK 2))]) C.1 C.2.1 dX10_isText_19 rfl hl (by decide) rfl (fun ls hl => ?_)
    refine k_loopA (fun (j20_L_2 : Int32) H locs ls => 0 ≤ j20_L_2.toInt ∧ j20_L_2.toInt ≤ 2 ∧ H = s.heap ∧ locs = [] ∧ wX D [(a_h_0, .int)] s [(h, .inr (10, [.ref h_0, .int h_1, .int h_2, .int h_3, .int h_4, .int h_5])), (h_0, .inl (a_h_0, 800, .inl f_h_0))] H A s.heap locs ∧ lv_has ls 3 [(2, .int j20_L_2), (0, .ref h), (1, .ref (adK 2))]) (fun (j20_L_2 : Int32) ls => F0 m 20 ls []) (fun (j20_L_2 : Int32) => (3 - j20_L_2.toInt).toNat) (fun j20_L_2 H locs ls hi ih20 => ?_) 0 _ _ _ ⟨by have zq0 : (0 : Int32).toInt = 0 := (by decide); omega, by have zq0 : (0 : Int32).toInt = 0 := (by decide); omega, rfl, rfl, Wd, lv_sub hl [0, 1, 2] rfl⟩
    obtain ⟨i20_0, i20_1, rfl, rfl, Wd, hl⟩ := hi
    refine lv_iload_n C.1 C.2.1 dX10_isText_20 rfl (lv_at hl 0 rfl) ?_
    refine lv_aload_n C.1 C.2.1 dX10_isText_21 rfl (lv_at hl 2 rfl) ?_
    refine k_pi (k_runVE (rest := [.int j20_L_2]) C aks hE (show 2 < 5 by decide) Wd cs_X10_69 (js_length 2 (by decide) _ _ _ _ _ D l _) rfl rfl ⟨(Nat.le_of_ble_eq_true rfl), (Nat.le_of_ble_eq_true rfl)⟩ hl.1 rfl rfl (Nat.le_of_ble_eq_true rfl) ⟨(Nat.le_of_ble_eq_true rfl), (Nat.le_of_ble_eq_true rfl)⟩ dX10_isText_22) (fun r22 w22 => ?_)
    obtain rfl : r22 = 2 := w22.trans (by decide)
    refine lv_icmp_ge (tgt := 54) C.1 C.2.1 dX10_isText_25 (by decide) (fun c25 => ?_) (fun c25 => ?_)
    · have i25 : 2 ≤ j20_L_2.toInt := kz_le c25
      refine lv_iconst (v := 1) C.1 C.2.1 dX10_isText_54 (by decide) ?_
      exact k_zretP C hr hlk rfl (by exact ⟨by have zq1 : (1 : Int32).toInt = 1 := (by decide); omega, by have zq1 : (1 : Int32).toInt = 1 := (by decide); omega⟩) dX10_isText_55
    · have i25 : j20_L_2.toInt < 2 := kz_nle c25
      refine lv_aload_n C.1 C.2.1 dX10_isText_28 rfl (lv_at hl 1 rfl) ?_
      refine lv_aload_n C.1 C.2.1 dX10_isText_29 rfl (lv_at hl 1 rfl) ?_
      refine k_get C Wd KX10 0 4 rfl (by decide) fl_X10_22 rfl dX10_isText_30 ?_
      refine lv_iload_n C.1 C.2.1 dX10_isText_33 rfl (lv_at hl 0 rfl) ?_
      obtain ⟨v34, ev34⟩ : ∃ z : Int32, h_4 + j20_L_2 = z := ⟨_, rfl⟩
      refine k_iadd (v := v34) C ev34 dX10_isText_34 ?_
      refine k_pi (k_runV (rest := []) C aks Wd cs_X10_31 (sX10_byteAt l D h v34 h_0 h_1 h_2 h_3 h_4 h_5 a_h_0 f_h_0 _ (by omega) (by omega)) [0, 1] rfl (by decide) [0] rfl 0 10 rfl rfl rfl rfl rfl ⟨(Nat.le_of_ble_eq_true rfl), (Nat.le_of_ble_eq_true rfl)⟩ hl.1 rfl rfl (Nat.le_of_ble_eq_true rfl) ⟨(Nat.le_of_ble_eq_true rfl), (Nat.le_of_ble_eq_true rfl)⟩ dX10_isText_35) (fun r35 w35 => ?_)
      refine lv_aload_n C.1 C.2.1 dX10_isText_38 rfl (lv_at hl 2 rfl) ?_
      refine lv_iload_n C.1 C.2.1 dX10_isText_39 rfl (lv_at hl 0 rfl) ?_
      refine k_pi (k_runVE (rest := [.int r35]) C aks hE (show 2 < 5 by decide) Wd cs_X10_74 (js_charAtV 2 (by decide) j20_L_2 (by show 0 ≤ j20_L_2.toInt ∧ j20_L_2.toInt < 2; omega) _ _ _ _ _ D l _) rfl rfl ⟨(Nat.le_of_ble_eq_true rfl), (Nat.le_of_ble_eq_true rfl)⟩ hl.1 rfl rfl (Nat.le_of_ble_eq_true rfl) ⟨(Nat.le_of_ble_eq_true rfl), (Nat.le_of_ble_eq_true rfl)⟩ dX10_isText_40) (fun r40 w40 => ?_)
      refine lv_icmp_eq (tgt := 48) C.1 C.2.1 dX10_isText_43 (by decide) (fun c43 => ?_) (fun c43 => ?_)
      · have i43 : r35.toInt = r40.toInt := kz_eq c43
        obtain ⟨v48, ev48⟩ : ∃ z : Int32, j20_L_2 + 1 = z := ⟨_, rfl⟩
        have iv48 : v48.toInt = j20_L_2.toInt + 1 := kz_addc ev48 (by decide) (by have zr0 := kz_rng j20_L_2; omega) (by have zr0 := kz_rng j20_L_2; omega)
        refine lv_iinc (v := v48) (lv' := [(2, .int v48), (0, .ref h), (1, .ref (adK 2))]) C.1 C.2.1 dX10_isText_48 hl (k := 0) rfl ev48 (by decide) rfl (fun ls hl => ?_)
        refine lv_goto (tgt := 20) C.1 C.2.1 dX10_isText_51 (by decide) ?_
        exact ih20 v48 _ _ _ ⟨by omega, by omega, rfl, rfl, Wd, lv_sub hl [0, 1, 2] rfl⟩ (by show (3 - v48.toInt).toNat < (3 - j20_L_2.toInt).toNat; omega)
      · have i43 : ¬ r35.toInt = r40.toInt := kz_ne c43
        refine lv_iconst (v := 0) C.1 C.2.1 dX10_isText_46 (by decide) ?_
        exact k_zretP C hr hlk rfl (by exact ⟨by have zq0 : (0 : Int32).toInt = 0 := (by decide); omega, by have zq0 : (0 : Int32).toInt = 0 := (by decide); omega⟩) dX10_isText_47
  · have i13 : ¬ 2 = v12.toInt := kz_ne c13
    refine lv_iconst (v := 0) C.1 C.2.1 dX10_isText_16 (by decide) ?_
    exact k_zretP C hr hlk rfl (by exact ⟨by have zq0 : (0 : Int32).toInt = 0 := (by decide); omega, by have zq0 : (0 : Int32).toInt = 0 := (by decide); omega⟩) dX10_isText_17
set_option maxHeartbeats 4000000 in
set_option maxRecDepth 100000 in
theorem tX10_isText_s3 (l : Launch) (D : va_G) (adK adV : Nat → Nat) (tq : Nat) (h : Nat) (h_0 : Nat) (h_1 : Int32) (h_2 : Int32) (h_3 : Int32) (h_4 : Int32) (h_5 : Int32) (a_h_0 : ClassId) (f_h_0 : Nat → Int32) (sz : Nat) (k_h_1_lo : 0 ≤ h_1.toInt) (k_h_1_hi : h_1.toInt ≤ 800)  : Met l yX10_isText (Cond.code yX10_isText cX10_isText 3 (some .boolean) :: gG) { frames := 5, cells := 0, slots := 0, locals := 300 } (cPS RX10 ixT adK adV tq D [(a_h_0, .int)] [(h, .inr (10, [.ref h_0, .int h_1, .int h_2, .int h_3, .int h_4, .int h_5])), (h_0, .inl (a_h_0, 800, .inl f_h_0))] sz [.ref h, .ref (adK 3)]) (vp_Si (fun r => 0 ≤ r.toInt ∧ r.toInt ≤ 1)) 0 0 (fun _ => False) := by
  refine Met.ofW (cc := cX10_isText) (maxL := 3) (ret := (some .boolean)) (by decide) rfl ?_
  intro p e s m args below meth c s₁ B hml hv
  obtain ⟨hv, hE⟩ := hv
  obtain ⟨rfl, aks, rfl, Wd⟩ := k_enter hv
  have C : CallFix p m c cX10_isText 3 s _ gG RX10 := ⟨B.exec, B.bytes, hml, findClass_of_methodNamed B.named, fun w h => atoms_spec (ws := Cond.code yX10_isText cX10_isText 3 (some .boolean) :: gG) B.pre w (List.mem_cons_of_mem _ h)⟩
  have hr := B.returns
  have hlk := B.notSynchronized
  obtain ⟨A, Wd, hE⟩ : ∃ A, wX D [(a_h_0, .int)] s [(h, .inr (10, [.ref h_0, .int h_1, .int h_2, .int h_3, .int h_4, .int h_5])), (h_0, .inl (a_h_0, 800, .inl f_h_0))] s.heap A s.heap [] ∧ sK RX10 ixT adK adV tq A s s.heap := ⟨_, Wd, hE⟩
  refine k_locals (Nat.le_of_ble_eq_true rfl) [(0, .ref h), (1, .ref (adK 3))] rfl (fun ls hl => ?_)
  refine lv_aload_n C.1 C.2.1 dX10_isText_0 rfl (lv_at hl 1 rfl) ?_
  refine k_pi (k_runVE (rest := []) C aks hE (show 3 < 5 by decide) Wd cs_X10_69 (js_length 3 (by decide) _ _ _ _ _ D l _) rfl rfl ⟨(Nat.le_of_ble_eq_true rfl), (Nat.le_of_ble_eq_true rfl)⟩ hl.1 rfl rfl (Nat.le_of_ble_eq_true rfl) ⟨(Nat.le_of_ble_eq_true rfl), (Nat.le_of_ble_eq_true rfl)⟩ dX10_isText_1) (fun r1 w1 => ?_)
  obtain rfl : r1 = 4 := w1.trans (by decide)
  refine lv_aload_n C.1 C.2.1 dX10_isText_4 rfl (lv_at hl 0 rfl) ?_
  refine k_get C Wd KX10 0 5 rfl (by decide) fl_X10_19 rfl dX10_isText_5 ?_
  refine lv_aload_n C.1 C.2.1 dX10_isText_8 rfl (lv_at hl 0 rfl) ?_
  refine k_get C Wd KX10 0 4 rfl (by decide) fl_X10_22 rfl dX10_isText_9 ?_
  obtain ⟨v12, ev12⟩ : ∃ z : Int32, h_5 - h_4 = z := ⟨_, rfl⟩
  refine k_isub (v := v12) C ev12 dX10_isText_12 ?_
  refine lv_icmp_eq (tgt := 18) C.1 C.2.1 dX10_isText_13 (by decide) (fun c13 => ?_) (fun c13 => ?_)
  · have i13 : 4 = v12.toInt := kz_eq c13
    refine lv_iconst (v := 0) C.1 C.2.1 dX10_isText_18 (by decide) ?_
    refine lv_istore_n (lv' := [(2, .int 0), (0, .ref h), (1, .ref (adK 3))]) C.1 C.2.1 dX10_isText_19 rfl hl (by decide) rfl (fun ls hl => ?_)
    refine k_loopA (fun (j20_L_2 : Int32) H locs ls => 0 ≤ j20_L_2.toInt ∧ j20_L_2.toInt ≤ 4 ∧ H = s.heap ∧ locs = [] ∧ wX D [(a_h_0, .int)] s [(h, .inr (10, [.ref h_0, .int h_1, .int h_2, .int h_3, .int h_4, .int h_5])), (h_0, .inl (a_h_0, 800, .inl f_h_0))] H A s.heap locs ∧ lv_has ls 3 [(2, .int j20_L_2), (0, .ref h), (1, .ref (adK 3))]) (fun (j20_L_2 : Int32) ls => F0 m 20 ls []) (fun (j20_L_2 : Int32) => (5 - j20_L_2.toInt).toNat) (fun j20_L_2 H locs ls hi ih20 => ?_) 0 _ _ _ ⟨by have zq0 : (0 : Int32).toInt = 0 := (by decide); omega, by have zq0 : (0 : Int32).toInt = 0 := (by decide); omega, rfl, rfl, Wd, lv_sub hl [0, 1, 2] rfl⟩
    obtain ⟨i20_0, i20_1, rfl, rfl, Wd, hl⟩ := hi
    refine lv_iload_n C.1 C.2.1 dX10_isText_20 rfl (lv_at hl 0 rfl) ?_
    refine lv_aload_n C.1 C.2.1 dX10_isText_21 rfl (lv_at hl 2 rfl) ?_
    refine k_pi (k_runVE (rest := [.int j20_L_2]) C aks hE (show 3 < 5 by decide) Wd cs_X10_69 (js_length 3 (by decide) _ _ _ _ _ D l _) rfl rfl ⟨(Nat.le_of_ble_eq_true rfl), (Nat.le_of_ble_eq_true rfl)⟩ hl.1 rfl rfl (Nat.le_of_ble_eq_true rfl) ⟨(Nat.le_of_ble_eq_true rfl), (Nat.le_of_ble_eq_true rfl)⟩ dX10_isText_22) (fun r22 w22 => ?_)
    obtain rfl : r22 = 4 := w22.trans (by decide)
    refine lv_icmp_ge (tgt := 54) C.1 C.2.1 dX10_isText_25 (by decide) (fun c25 => ?_) (fun c25 => ?_)
    · have i25 : 4 ≤ j20_L_2.toInt := kz_le c25
      refine lv_iconst (v := 1) C.1 C.2.1 dX10_isText_54 (by decide) ?_
      exact k_zretP C hr hlk rfl (by exact ⟨by have zq1 : (1 : Int32).toInt = 1 := (by decide); omega, by have zq1 : (1 : Int32).toInt = 1 := (by decide); omega⟩) dX10_isText_55
    · have i25 : j20_L_2.toInt < 4 := kz_nle c25
      refine lv_aload_n C.1 C.2.1 dX10_isText_28 rfl (lv_at hl 1 rfl) ?_
      refine lv_aload_n C.1 C.2.1 dX10_isText_29 rfl (lv_at hl 1 rfl) ?_
      refine k_get C Wd KX10 0 4 rfl (by decide) fl_X10_22 rfl dX10_isText_30 ?_
      refine lv_iload_n C.1 C.2.1 dX10_isText_33 rfl (lv_at hl 0 rfl) ?_
      obtain ⟨v34, ev34⟩ : ∃ z : Int32, h_4 + j20_L_2 = z := ⟨_, rfl⟩
      refine k_iadd (v := v34) C ev34 dX10_isText_34 ?_
      refine k_pi (k_runV (rest := []) C aks Wd cs_X10_31 (sX10_byteAt l D h v34 h_0 h_1 h_2 h_3 h_4 h_5 a_h_0 f_h_0 _ (by omega) (by omega)) [0, 1] rfl (by decide) [0] rfl 0 10 rfl rfl rfl rfl rfl ⟨(Nat.le_of_ble_eq_true rfl), (Nat.le_of_ble_eq_true rfl)⟩ hl.1 rfl rfl (Nat.le_of_ble_eq_true rfl) ⟨(Nat.le_of_ble_eq_true rfl), (Nat.le_of_ble_eq_true rfl)⟩ dX10_isText_35) (fun r35 w35 => ?_)
      refine lv_aload_n C.1 C.2.1 dX10_isText_38 rfl (lv_at hl 2 rfl) ?_
      refine lv_iload_n C.1 C.2.1 dX10_isText_39 rfl (lv_at hl 0 rfl) ?_
      refine k_pi (k_runVE (rest := [.int r35]) C aks hE (show 3 < 5 by decide) Wd cs_X10_74 (js_charAtV 3 (by decide) j20_L_2 (by show 0 ≤ j20_L_2.toInt ∧ j20_L_2.toInt < 4; omega) _ _ _ _ _ D l _) rfl rfl ⟨(Nat.le_of_ble_eq_true rfl), (Nat.le_of_ble_eq_true rfl)⟩ hl.1 rfl rfl (Nat.le_of_ble_eq_true rfl) ⟨(Nat.le_of_ble_eq_true rfl), (Nat.le_of_ble_eq_true rfl)⟩ dX10_isText_40) (fun r40 w40 => ?_)
      refine lv_icmp_eq (tgt := 48) C.1 C.2.1 dX10_isText_43 (by decide) (fun c43 => ?_) (fun c43 => ?_)
      · have i43 : r35.toInt = r40.toInt := kz_eq c43
        obtain ⟨v48, ev48⟩ : ∃ z : Int32, j20_L_2 + 1 = z := ⟨_, rfl⟩
        have iv48 : v48.toInt = j20_L_2.toInt + 1 := kz_addc ev48 (by decide) (by have zr0 := kz_rng j20_L_2; omega) (by have zr0 := kz_rng j20_L_2; omega)
        refine lv_iinc (v := v48) (lv' := [(2, .int v48), (0, .ref h), (1, .ref (adK 3))]) C.1 C.2.1 dX10_isText_48 hl (k := 0) rfl ev48 (by decide) rfl (fun ls hl => ?_)
        refine lv_goto (tgt := 20) C.1 C.2.1 dX10_isText_51 (by decide) ?_
        exact ih20 v48 _ _ _ ⟨by omega, by omega, rfl, rfl, Wd, lv_sub hl [0, 1, 2] rfl⟩ (by show (5 - v48.toInt).toNat < (5 - j20_L_2.toInt).toNat; omega)
      · have i43 : ¬ r35.toInt = r40.toInt := kz_ne c43
        refine lv_iconst (v := 0) C.1 C.2.1 dX10_isText_46 (by decide) ?_
        exact k_zretP C hr hlk rfl (by exact ⟨by have zq0 : (0 : Int32).toInt = 0 := (by decide); omega, by have zq0 : (0 : Int32).toInt = 0 := (by decide); omega⟩) dX10_isText_47
  · have i13 : ¬ 4 = v12.toInt := kz_ne c13
    refine lv_iconst (v := 0) C.1 C.2.1 dX10_isText_16 (by decide) ?_
    exact k_zretP C hr hlk rfl (by exact ⟨by have zq0 : (0 : Int32).toInt = 0 := (by decide); omega, by have zq0 : (0 : Int32).toInt = 0 := (by decide); omega⟩) dX10_isText_17
set_option maxHeartbeats 4000000 in
set_option maxRecDepth 100000 in
theorem tX10_isText_s4 (l : Launch) (D : va_G) (adK adV : Nat → Nat) (tq : Nat) (h : Nat) (h_0 : Nat) (h_1 : Int32) (h_2 : Int32) (h_3 : Int32) (h_4 : Int32) (h_5 : Int32) (a_h_0 : ClassId) (f_h_0 : Nat → Int32) (sz : Nat) (k_h_1_lo : 0 ≤ h_1.toInt) (k_h_1_hi : h_1.toInt ≤ 800)  : Met l yX10_isText (Cond.code yX10_isText cX10_isText 3 (some .boolean) :: gG) { frames := 5, cells := 0, slots := 0, locals := 300 } (cPS RX10 ixT adK adV tq D [(a_h_0, .int)] [(h, .inr (10, [.ref h_0, .int h_1, .int h_2, .int h_3, .int h_4, .int h_5])), (h_0, .inl (a_h_0, 800, .inl f_h_0))] sz [.ref h, .ref (adK 4)]) (vp_Si (fun r => 0 ≤ r.toInt ∧ r.toInt ≤ 1)) 0 0 (fun _ => False) := by
  refine Met.ofW (cc := cX10_isText) (maxL := 3) (ret := (some .boolean)) (by decide) rfl ?_
  intro p e s m args below meth c s₁ B hml hv
  obtain ⟨hv, hE⟩ := hv
  obtain ⟨rfl, aks, rfl, Wd⟩ := k_enter hv
  have C : CallFix p m c cX10_isText 3 s _ gG RX10 := ⟨B.exec, B.bytes, hml, findClass_of_methodNamed B.named, fun w h => atoms_spec (ws := Cond.code yX10_isText cX10_isText 3 (some .boolean) :: gG) B.pre w (List.mem_cons_of_mem _ h)⟩
  have hr := B.returns
  have hlk := B.notSynchronized
  obtain ⟨A, Wd, hE⟩ : ∃ A, wX D [(a_h_0, .int)] s [(h, .inr (10, [.ref h_0, .int h_1, .int h_2, .int h_3, .int h_4, .int h_5])), (h_0, .inl (a_h_0, 800, .inl f_h_0))] s.heap A s.heap [] ∧ sK RX10 ixT adK adV tq A s s.heap := ⟨_, Wd, hE⟩
  refine k_locals (Nat.le_of_ble_eq_true rfl) [(0, .ref h), (1, .ref (adK 4))] rfl (fun ls hl => ?_)
  refine lv_aload_n C.1 C.2.1 dX10_isText_0 rfl (lv_at hl 1 rfl) ?_
  refine k_pi (k_runVE (rest := []) C aks hE (show 4 < 5 by decide) Wd cs_X10_69 (js_length 4 (by decide) _ _ _ _ _ D l _) rfl rfl ⟨(Nat.le_of_ble_eq_true rfl), (Nat.le_of_ble_eq_true rfl)⟩ hl.1 rfl rfl (Nat.le_of_ble_eq_true rfl) ⟨(Nat.le_of_ble_eq_true rfl), (Nat.le_of_ble_eq_true rfl)⟩ dX10_isText_1) (fun r1 w1 => ?_)
  obtain rfl : r1 = 5 := w1.trans (by decide)
  refine lv_aload_n C.1 C.2.1 dX10_isText_4 rfl (lv_at hl 0 rfl) ?_
  refine k_get C Wd KX10 0 5 rfl (by decide) fl_X10_19 rfl dX10_isText_5 ?_
  refine lv_aload_n C.1 C.2.1 dX10_isText_8 rfl (lv_at hl 0 rfl) ?_
  refine k_get C Wd KX10 0 4 rfl (by decide) fl_X10_22 rfl dX10_isText_9 ?_
  obtain ⟨v12, ev12⟩ : ∃ z : Int32, h_5 - h_4 = z := ⟨_, rfl⟩
  refine k_isub (v := v12) C ev12 dX10_isText_12 ?_
  refine lv_icmp_eq (tgt := 18) C.1 C.2.1 dX10_isText_13 (by decide) (fun c13 => ?_) (fun c13 => ?_)
  · have i13 : 5 = v12.toInt := kz_eq c13
    refine lv_iconst (v := 0) C.1 C.2.1 dX10_isText_18 (by decide) ?_
    refine lv_istore_n (lv' := [(2, .int 0), (0, .ref h), (1, .ref (adK 4))]) C.1 C.2.1 dX10_isText_19 rfl hl (by decide) rfl (fun ls hl => ?_)
    refine k_loopA (fun (j20_L_2 : Int32) H locs ls => 0 ≤ j20_L_2.toInt ∧ j20_L_2.toInt ≤ 5 ∧ H = s.heap ∧ locs = [] ∧ wX D [(a_h_0, .int)] s [(h, .inr (10, [.ref h_0, .int h_1, .int h_2, .int h_3, .int h_4, .int h_5])), (h_0, .inl (a_h_0, 800, .inl f_h_0))] H A s.heap locs ∧ lv_has ls 3 [(2, .int j20_L_2), (0, .ref h), (1, .ref (adK 4))]) (fun (j20_L_2 : Int32) ls => F0 m 20 ls []) (fun (j20_L_2 : Int32) => (6 - j20_L_2.toInt).toNat) (fun j20_L_2 H locs ls hi ih20 => ?_) 0 _ _ _ ⟨by have zq0 : (0 : Int32).toInt = 0 := (by decide); omega, by have zq0 : (0 : Int32).toInt = 0 := (by decide); omega, rfl, rfl, Wd, lv_sub hl [0, 1, 2] rfl⟩
    obtain ⟨i20_0, i20_1, rfl, rfl, Wd, hl⟩ := hi
    refine lv_iload_n C.1 C.2.1 dX10_isText_20 rfl (lv_at hl 0 rfl) ?_
    refine lv_aload_n C.1 C.2.1 dX10_isText_21 rfl (lv_at hl 2 rfl) ?_
    refine k_pi (k_runVE (rest := [.int j20_L_2]) C aks hE (show 4 < 5 by decide) Wd cs_X10_69 (js_length 4 (by decide) _ _ _ _ _ D l _) rfl rfl ⟨(Nat.le_of_ble_eq_true rfl), (Nat.le_of_ble_eq_true rfl)⟩ hl.1 rfl rfl (Nat.le_of_ble_eq_true rfl) ⟨(Nat.le_of_ble_eq_true rfl), (Nat.le_of_ble_eq_true rfl)⟩ dX10_isText_22) (fun r22 w22 => ?_)
    obtain rfl : r22 = 5 := w22.trans (by decide)
    refine lv_icmp_ge (tgt := 54) C.1 C.2.1 dX10_isText_25 (by decide) (fun c25 => ?_) (fun c25 => ?_)
    · have i25 : 5 ≤ j20_L_2.toInt := kz_le c25
      refine lv_iconst (v := 1) C.1 C.2.1 dX10_isText_54 (by decide) ?_
      exact k_zretP C hr hlk rfl (by exact ⟨by have zq1 : (1 : Int32).toInt = 1 := (by decide); omega, by have zq1 : (1 : Int32).toInt = 1 := (by decide); omega⟩) dX10_isText_55
    · have i25 : j20_L_2.toInt < 5 := kz_nle c25
      refine lv_aload_n C.1 C.2.1 dX10_isText_28 rfl (lv_at hl 1 rfl) ?_
      refine lv_aload_n C.1 C.2.1 dX10_isText_29 rfl (lv_at hl 1 rfl) ?_
      refine k_get C Wd KX10 0 4 rfl (by decide) fl_X10_22 rfl dX10_isText_30 ?_
      refine lv_iload_n C.1 C.2.1 dX10_isText_33 rfl (lv_at hl 0 rfl) ?_
      obtain ⟨v34, ev34⟩ : ∃ z : Int32, h_4 + j20_L_2 = z := ⟨_, rfl⟩
      refine k_iadd (v := v34) C ev34 dX10_isText_34 ?_
      refine k_pi (k_runV (rest := []) C aks Wd cs_X10_31 (sX10_byteAt l D h v34 h_0 h_1 h_2 h_3 h_4 h_5 a_h_0 f_h_0 _ (by omega) (by omega)) [0, 1] rfl (by decide) [0] rfl 0 10 rfl rfl rfl rfl rfl ⟨(Nat.le_of_ble_eq_true rfl), (Nat.le_of_ble_eq_true rfl)⟩ hl.1 rfl rfl (Nat.le_of_ble_eq_true rfl) ⟨(Nat.le_of_ble_eq_true rfl), (Nat.le_of_ble_eq_true rfl)⟩ dX10_isText_35) (fun r35 w35 => ?_)
      refine lv_aload_n C.1 C.2.1 dX10_isText_38 rfl (lv_at hl 2 rfl) ?_
      refine lv_iload_n C.1 C.2.1 dX10_isText_39 rfl (lv_at hl 0 rfl) ?_
      refine k_pi (k_runVE (rest := [.int r35]) C aks hE (show 4 < 5 by decide) Wd cs_X10_74 (js_charAtV 4 (by decide) j20_L_2 (by show 0 ≤ j20_L_2.toInt ∧ j20_L_2.toInt < 5; omega) _ _ _ _ _ D l _) rfl rfl ⟨(Nat.le_of_ble_eq_true rfl), (Nat.le_of_ble_eq_true rfl)⟩ hl.1 rfl rfl (Nat.le_of_ble_eq_true rfl) ⟨(Nat.le_of_ble_eq_true rfl), (Nat.le_of_ble_eq_true rfl)⟩ dX10_isText_40) (fun r40 w40 => ?_)
      refine lv_icmp_eq (tgt := 48) C.1 C.2.1 dX10_isText_43 (by decide) (fun c43 => ?_) (fun c43 => ?_)
      · have i43 : r35.toInt = r40.toInt := kz_eq c43
        obtain ⟨v48, ev48⟩ : ∃ z : Int32, j20_L_2 + 1 = z := ⟨_, rfl⟩
        have iv48 : v48.toInt = j20_L_2.toInt + 1 := kz_addc ev48 (by decide) (by have zr0 := kz_rng j20_L_2; omega) (by have zr0 := kz_rng j20_L_2; omega)
        refine lv_iinc (v := v48) (lv' := [(2, .int v48), (0, .ref h), (1, .ref (adK 4))]) C.1 C.2.1 dX10_isText_48 hl (k := 0) rfl ev48 (by decide) rfl (fun ls hl => ?_)
        refine lv_goto (tgt := 20) C.1 C.2.1 dX10_isText_51 (by decide) ?_
        exact ih20 v48 _ _ _ ⟨by omega, by omega, rfl, rfl, Wd, lv_sub hl [0, 1, 2] rfl⟩ (by show (6 - v48.toInt).toNat < (6 - j20_L_2.toInt).toNat; omega)
      · have i43 : ¬ r35.toInt = r40.toInt := kz_ne c43
        refine lv_iconst (v := 0) C.1 C.2.1 dX10_isText_46 (by decide) ?_
        exact k_zretP C hr hlk rfl (by exact ⟨by have zq0 : (0 : Int32).toInt = 0 := (by decide); omega, by have zq0 : (0 : Int32).toInt = 0 := (by decide); omega⟩) dX10_isText_47
  · have i13 : ¬ 5 = v12.toInt := kz_ne c13
    refine lv_iconst (v := 0) C.1 C.2.1 dX10_isText_16 (by decide) ?_
    exact k_zretP C hr hlk rfl (by exact ⟨by have zq0 : (0 : Int32).toInt = 0 := (by decide); omega, by have zq0 : (0 : Int32).toInt = 0 := (by decide); omega⟩) dX10_isText_17
set_option maxHeartbeats 4000000 in
set_option maxRecDepth 100000 in
theorem tX10_takeLetters (l : Launch) (D : va_G) (adK adV : Nat → Nat) (tq : Nat) (h : Nat) (h_0 : Nat) (h_1 : Int32) (h_2 : Int32) (h_3 : Int32) (h_4 : Int32) (h_5 : Int32) (a_h_0 : ClassId) (f_h_0 : Nat → Int32) (sz : Nat) (k_h_1_lo : 0 ≤ h_1.toInt) (k_h_1_hi : h_1.toInt ≤ 800)  : Met l yX10_takeLetters (Cond.code yX10_takeLetters cX10_takeLetters 2 none :: gG) { frames := 6, cells := 0, slots := 0, locals := 322 } (cPS RX10 ixT adK adV tq D [(a_h_0, .int)] [(h, .inr (10, [.ref h_0, .int h_1, .int h_2, .int h_3, .int h_4, .int h_5])), (h_0, .inl (a_h_0, 800, .inl f_h_0))] sz [.ref h]) (va_Qv (fun (u : (Int32) × (Int32) × (Int32)) => match u with | (jX_F_h_2, jX_F_h_3, jX_F_h_5) => 0 ≤ jX_F_h_2.toInt ∧ jX_F_h_2.toInt ≤ 8 ∧ h_4.toInt ≤ jX_F_h_5.toInt) (fun u t => cB D (va_A [(h, .inr (10, [.ref h_0, .int h_1, .int h_2, .int h_3, .int h_4, .int h_5])), (h_0, .inl (a_h_0, 800, .inl f_h_0))] sz) ((fun (_ : (Int32) × (Int32) × (Int32)) => ([] : List (ClassId × FieldType))) u) ((fun (u : (Int32) × (Int32) × (Int32)) => match u with | (jX_F_h_2, jX_F_h_3, jX_F_h_5) => ([(h, .inr (10, [.ref h_0, .int h_1, .int jX_F_h_2, .int jX_F_h_3, .int h_4, .int jX_F_h_5])), (h_0, .inl (a_h_0, 800, .inl f_h_0))] : va_W)) u) t) (va_A [(h, .inr (10, [.ref h_0, .int h_1, .int h_2, .int h_3, .int h_4, .int h_5])), (h_0, .inl (a_h_0, 800, .inl f_h_0))] sz)) 0 0 (va_A [(h, .inr (10, [.ref h_0, .int h_1, .int h_2, .int h_3, .int h_4, .int h_5])), (h_0, .inl (a_h_0, 800, .inl f_h_0))] sz) := by
  refine Met.ofW (cc := cX10_takeLetters) (maxL := 2) (ret := none) (by decide) rfl ?_
  intro p e s m args below meth c s₁ B hml hv
  obtain ⟨hv, hE⟩ := hv
  obtain ⟨rfl, aks, rfl, Wd⟩ := k_enter hv
  have C : CallFix p m c cX10_takeLetters 2 s _ gG RX10 := ⟨B.exec, B.bytes, hml, findClass_of_methodNamed B.named, fun w h => atoms_spec (ws := Cond.code yX10_takeLetters cX10_takeLetters 2 none :: gG) B.pre w (List.mem_cons_of_mem _ h)⟩
  have hr := B.returns
  have hlk := B.notSynchronized
  generalize va_A [(h, .inr (10, [.ref h_0, .int h_1, .int h_2, .int h_3, .int h_4, .int h_5])), (h_0, .inl (a_h_0, 800, .inl f_h_0))] s.heap.size = A at Wd hE ⊢
  refine k_locals (Nat.le_of_ble_eq_true rfl) [(0, .ref h)] rfl (fun ls hl => ?_)
  refine lv_aload_n C.1 C.2.1 dX10_takeLetters_0 rfl (lv_at hl 0 rfl) ?_
  refine lv_aload_n C.1 C.2.1 dX10_takeLetters_1 rfl (lv_at hl 0 rfl) ?_
  refine k_get C Wd KX10 0 4 rfl (by decide) fl_X10_22 rfl dX10_takeLetters_2 ?_
  refine k_put C Wd KX10 0 5 [(h, .inr (10, [.ref h_0, .int h_1, .int h_2, .int h_3, .int h_4, .int h_4])), (h_0, .inl (a_h_0, 800, .inl f_h_0))] rfl (by decide) fl_X10_19 rfl rfl rfl (Nat.le_of_ble_eq_true rfl) rfl dX10_takeLetters_5 (fun H locs Wd => ?_)
  refine lv_aload_n C.1 C.2.1 dX10_takeLetters_8 rfl (lv_at hl 0 rfl) ?_
  refine k_get C Wd KX10 0 4 rfl (by decide) fl_X10_22 rfl dX10_takeLetters_9 ?_
  refine lv_istore_n (lv' := [(1, .int h_4), (0, .ref h)]) C.1 C.2.1 dX10_takeLetters_12 rfl hl (by decide) rfl (fun ls hl => ?_)
  refine k_loopA (fun (u : (Int32) × (Int32)) H locs ls => match u with | (j13_F_h_5, j13_L_1) => h_4.toInt ≤ j13_F_h_5.toInt ∧ h_4.toInt ≤ j13_L_1.toInt ∧ j13_F_h_5.toInt ≤ j13_L_1.toInt ∧ j13_L_1.toInt ≤ j13_F_h_5.toInt ∧ wX D [(a_h_0, .int)] s [(h, .inr (10, [.ref h_0, .int h_1, .int h_2, .int h_3, .int h_4, .int j13_F_h_5])), (h_0, .inl (a_h_0, 800, .inl f_h_0))] H A s.heap locs ∧ lv_has ls 2 [(1, .int j13_L_1), (0, .ref h)]) (fun (u : (Int32) × (Int32)) ls => match u with | (j13_F_h_5, j13_L_1) => F0 m 13 ls []) (fun (u : (Int32) × (Int32)) => match u with | (j13_F_h_5, j13_L_1) => (801 - j13_F_h_5.toInt).toNat) (fun u H locs ls hi ih13 => ?_) (h_4, h_4) _ _ _ ⟨by omega, by omega, by omega, by omega, Wd, lv_sub hl [0, 1] rfl⟩
  obtain ⟨j13_F_h_5, j13_L_1⟩ := u
  obtain ⟨i13_0, i13_1, i13_2, i13_3, Wd, hl⟩ := hi
  refine lv_iload_n C.1 C.2.1 dX10_takeLetters_13 rfl (lv_at hl 0 rfl) ?_
  refine lv_aload_n C.1 C.2.1 dX10_takeLetters_14 rfl (lv_at hl 1 rfl) ?_
  refine k_get C Wd KX10 0 1 rfl (by decide) fl_X10_15 rfl dX10_takeLetters_15 ?_
  refine k_cutA (fun (_ : Unit) H locs ls => wX D [(a_h_0, .int)] s [(h, .inr (10, [.ref h_0, .int h_1, .int h_2, .int h_3, .int h_4, .int j13_F_h_5])), (h_0, .inl (a_h_0, 800, .inl f_h_0))] H A s.heap locs ∧ lv_has ls 2 [(1, .int j13_L_1), (0, .ref h)]) (fun (_ : Unit) ls => F0 m 45 ls []) (fun _ H locs ls hi => ?_) (fun J45 => ?_)
  · obtain ⟨Wd, hl⟩ := hi
    refine lv_aload_n C.1 C.2.1 dX10_takeLetters_45 rfl (lv_at hl 1 rfl) ?_
    refine lv_aload_n C.1 C.2.1 dX10_takeLetters_46 rfl (lv_at hl 1 rfl) ?_
    refine lv_aload_n C.1 C.2.1 dX10_takeLetters_47 rfl (lv_at hl 1 rfl) ?_
    refine k_get C Wd KX10 0 4 rfl (by decide) fl_X10_22 rfl dX10_takeLetters_48 ?_
    refine k_pi (k_runV (rest := [.ref h]) C aks Wd cs_X10_31 (sX10_byteAt l D h h_4 h_0 h_1 h_2 h_3 h_4 j13_F_h_5 a_h_0 f_h_0 _ (by omega) (by omega)) [0, 1] rfl (by decide) [0] rfl 0 10 rfl rfl rfl rfl rfl ⟨(Nat.le_of_ble_eq_true rfl), (Nat.le_of_ble_eq_true rfl)⟩ hl.1 rfl rfl (Nat.le_of_ble_eq_true rfl) ⟨(Nat.le_of_ble_eq_true rfl), (Nat.le_of_ble_eq_true rfl)⟩ dX10_takeLetters_51) (fun r51 w51 => ?_)
    refine lv_bipush (v := 97) C.1 C.2.1 dX10_takeLetters_54 (by decide) ?_
    obtain ⟨v56, ev56⟩ : ∃ z : Int32, r51 - 97 = z := ⟨_, rfl⟩
    refine k_isub (v := v56) C ev56 dX10_takeLetters_56 ?_
    refine k_put C Wd KX10 0 3 [(h, .inr (10, [.ref h_0, .int h_1, .int h_2, .int v56, .int h_4, .int j13_F_h_5])), (h_0, .inl (a_h_0, 800, .inl f_h_0))] rfl (by decide) fl_X10_28 rfl rfl rfl (Nat.le_of_ble_eq_true rfl) rfl dX10_takeLetters_57 (fun H locs Wd => ?_)
    refine lv_aload_n C.1 C.2.1 dX10_takeLetters_60 rfl (lv_at hl 1 rfl) ?_
    refine k_get C Wd KX10 0 5 rfl (by decide) fl_X10_19 rfl dX10_takeLetters_61 ?_
    refine lv_aload_n C.1 C.2.1 dX10_takeLetters_64 rfl (lv_at hl 1 rfl) ?_
    refine k_get C Wd KX10 0 4 rfl (by decide) fl_X10_22 rfl dX10_takeLetters_65 ?_
    obtain ⟨v68, ev68⟩ : ∃ z : Int32, j13_F_h_5 - h_4 = z := ⟨_, rfl⟩
    refine k_isub (v := v68) C ev68 dX10_takeLetters_68 ?_
    refine lv_iconst (v := 1) C.1 C.2.1 dX10_takeLetters_69 (by decide) ?_
    refine k_cutA (fun (j188_F_h_2 : Int32) H locs ls => 0 ≤ j188_F_h_2.toInt ∧ j188_F_h_2.toInt ≤ 8 ∧ wX D [(a_h_0, .int)] s [(h, .inr (10, [.ref h_0, .int h_1, .int j188_F_h_2, .int v56, .int h_4, .int j13_F_h_5])), (h_0, .inl (a_h_0, 800, .inl f_h_0))] H A s.heap locs ∧ lv_has ls 2 [(1, .int j13_L_1), (0, .ref h)]) (fun (j188_F_h_2 : Int32) ls => F0 m 188 ls []) (fun j188_F_h_2 H locs ls hi => ?_) (fun J188 => ?_)
    · obtain ⟨i188_0, i188_1, Wd, hl⟩ := hi
      exact k_vret C hr hlk Wd (j188_F_h_2, v56, j13_F_h_5) (by exact ⟨by omega, by omega, by omega⟩) [0, 1] rfl (by decide) [] rfl (by decide) (by decide) dX10_takeLetters_188
    refine lv_icmp_ne (tgt := 99) C.1 C.2.1 dX10_takeLetters_70 (by decide) (fun c70 => ?_) (fun c70 => ?_)
    · have i70 : ¬ v68.toInt = 1 := kz_ne c70
      refine lv_aload_n C.1 C.2.1 dX10_takeLetters_99 rfl (lv_at hl 1 rfl) ?_
      refine va_ldcS C.1 C.2.1 C.2.2.2.1 (hE.2.1 0 (by decide)) dX10_takeLetters_100 ?_
      refine k_pi (k_runVT (rest := []) C aks hE Wd cs_X10_57 (tX10_isText_s0 l D adK adV tq h h_0 h_1 h_2 v56 h_4 j13_F_h_5 a_h_0 f_h_0 _ (by omega) (by omega)) [0, 1] rfl (by decide) [0] rfl 0 10 rfl rfl rfl rfl rfl ⟨(Nat.le_of_ble_eq_true rfl), (Nat.le_of_ble_eq_true rfl)⟩ hl.1 rfl rfl (Nat.le_of_ble_eq_true rfl) ⟨(Nat.le_of_ble_eq_true rfl), (Nat.le_of_ble_eq_true rfl)⟩ dX10_takeLetters_102) (fun r102 w102 => ?_)
      obtain ⟨g102_0, g102_1⟩ := w102
      have g102_0 : 0 ≤ r102.toInt := g102_0
      have g102_1 : r102.toInt ≤ 1 := g102_1
      refine lv_if_eq (tgt := 116) C.1 C.2.1 dX10_takeLetters_105 (by decide) (fun c105 => ?_) (fun c105 => ?_)
      · have i105 : r102.toInt = 0 := kz_eq c105
        refine lv_aload_n C.1 C.2.1 dX10_takeLetters_116 rfl (lv_at hl 1 rfl) ?_
        refine va_ldcS C.1 C.2.1 C.2.2.2.1 (hE.2.1 1 (by decide)) dX10_takeLetters_117 ?_
        refine k_pi (k_runVT (rest := []) C aks hE Wd cs_X10_57 (tX10_isText_s1 l D adK adV tq h h_0 h_1 h_2 v56 h_4 j13_F_h_5 a_h_0 f_h_0 _ (by omega) (by omega)) [0, 1] rfl (by decide) [0] rfl 0 10 rfl rfl rfl rfl rfl ⟨(Nat.le_of_ble_eq_true rfl), (Nat.le_of_ble_eq_true rfl)⟩ hl.1 rfl rfl (Nat.le_of_ble_eq_true rfl) ⟨(Nat.le_of_ble_eq_true rfl), (Nat.le_of_ble_eq_true rfl)⟩ dX10_takeLetters_119) (fun r119 w119 => ?_)
        obtain ⟨g119_0, g119_1⟩ := w119
        have g119_0 : 0 ≤ r119.toInt := g119_0
        have g119_1 : r119.toInt ≤ 1 := g119_1
        refine lv_if_eq (tgt := 133) C.1 C.2.1 dX10_takeLetters_122 (by decide) (fun c122 => ?_) (fun c122 => ?_)
        · have i122 : r119.toInt = 0 := kz_eq c122
          refine lv_aload_n C.1 C.2.1 dX10_takeLetters_133 rfl (lv_at hl 1 rfl) ?_
          refine va_ldcS C.1 C.2.1 C.2.2.2.1 (hE.2.1 2 (by decide)) dX10_takeLetters_134 ?_
          refine k_pi (k_runVT (rest := []) C aks hE Wd cs_X10_57 (tX10_isText_s2 l D adK adV tq h h_0 h_1 h_2 v56 h_4 j13_F_h_5 a_h_0 f_h_0 _ (by omega) (by omega)) [0, 1] rfl (by decide) [0] rfl 0 10 rfl rfl rfl rfl rfl ⟨(Nat.le_of_ble_eq_true rfl), (Nat.le_of_ble_eq_true rfl)⟩ hl.1 rfl rfl (Nat.le_of_ble_eq_true rfl) ⟨(Nat.le_of_ble_eq_true rfl), (Nat.le_of_ble_eq_true rfl)⟩ dX10_takeLetters_136) (fun r136 w136 => ?_)
          obtain ⟨g136_0, g136_1⟩ := w136
          have g136_0 : 0 ≤ r136.toInt := g136_0
          have g136_1 : r136.toInt ≤ 1 := g136_1
          refine lv_if_eq (tgt := 151) C.1 C.2.1 dX10_takeLetters_139 (by decide) (fun c139 => ?_) (fun c139 => ?_)
          · have i139 : r136.toInt = 0 := kz_eq c139
            refine lv_aload_n C.1 C.2.1 dX10_takeLetters_151 rfl (lv_at hl 1 rfl) ?_
            refine va_ldcS C.1 C.2.1 C.2.2.2.1 (hE.2.1 3 (by decide)) dX10_takeLetters_152 ?_
            refine k_pi (k_runVT (rest := []) C aks hE Wd cs_X10_57 (tX10_isText_s3 l D adK adV tq h h_0 h_1 h_2 v56 h_4 j13_F_h_5 a_h_0 f_h_0 _ (by omega) (by omega)) [0, 1] rfl (by decide) [0] rfl 0 10 rfl rfl rfl rfl rfl ⟨(Nat.le_of_ble_eq_true rfl), (Nat.le_of_ble_eq_true rfl)⟩ hl.1 rfl rfl (Nat.le_of_ble_eq_true rfl) ⟨(Nat.le_of_ble_eq_true rfl), (Nat.le_of_ble_eq_true rfl)⟩ dX10_takeLetters_154) (fun r154 w154 => ?_)
            obtain ⟨g154_0, g154_1⟩ := w154
            have g154_0 : 0 ≤ r154.toInt := g154_0
            have g154_1 : r154.toInt ≤ 1 := g154_1
            refine lv_if_eq (tgt := 169) C.1 C.2.1 dX10_takeLetters_157 (by decide) (fun c157 => ?_) (fun c157 => ?_)
            · have i157 : r154.toInt = 0 := kz_eq c157
              refine lv_aload_n C.1 C.2.1 dX10_takeLetters_169 rfl (lv_at hl 1 rfl) ?_
              refine lv_aload_n C.1 C.2.1 dX10_takeLetters_170 rfl (lv_at hl 1 rfl) ?_
              refine va_ldcS C.1 C.2.1 C.2.2.2.1 (hE.2.1 4 (by decide)) dX10_takeLetters_171 ?_
              refine k_pi (k_runVT (rest := [.ref h]) C aks hE Wd cs_X10_57 (tX10_isText_s4 l D adK adV tq h h_0 h_1 h_2 v56 h_4 j13_F_h_5 a_h_0 f_h_0 _ (by omega) (by omega)) [0, 1] rfl (by decide) [0] rfl 0 10 rfl rfl rfl rfl rfl ⟨(Nat.le_of_ble_eq_true rfl), (Nat.le_of_ble_eq_true rfl)⟩ hl.1 rfl rfl (Nat.le_of_ble_eq_true rfl) ⟨(Nat.le_of_ble_eq_true rfl), (Nat.le_of_ble_eq_true rfl)⟩ dX10_takeLetters_173) (fun r173 w173 => ?_)
              obtain ⟨g173_0, g173_1⟩ := w173
              have g173_0 : 0 ≤ r173.toInt := g173_0
              have g173_1 : r173.toInt ≤ 1 := g173_1
              refine k_cutA (fun (j185_S_0 : Int32) H locs ls => 0 ≤ j185_S_0.toInt ∧ j185_S_0.toInt ≤ 8 ∧ r173.toInt ≤ j185_S_0.toInt ∧ j185_S_0.toInt ≤ r173.toInt + 7 ∧ wX D [(a_h_0, .int)] s [(h, .inr (10, [.ref h_0, .int h_1, .int h_2, .int v56, .int h_4, .int j13_F_h_5])), (h_0, .inl (a_h_0, 800, .inl f_h_0))] H A s.heap locs ∧ lv_has ls 2 [(1, .int j13_L_1), (0, .ref h)]) (fun (j185_S_0 : Int32) ls => F0 m 185 ls [.int j185_S_0, .ref h]) (fun j185_S_0 H locs ls hi => ?_) (fun J185 => ?_)
              · obtain ⟨i185_0, i185_1, i185_2, i185_3, Wd, hl⟩ := hi
                refine k_put C Wd KX10 0 2 [(h, .inr (10, [.ref h_0, .int h_1, .int j185_S_0, .int v56, .int h_4, .int j13_F_h_5])), (h_0, .inl (a_h_0, 800, .inl f_h_0))] rfl (by decide) fl_X10_25 rfl rfl rfl (Nat.le_of_ble_eq_true rfl) rfl dX10_takeLetters_185 (fun H locs Wd => ?_)
                exact J188 j185_S_0 _ _ _ ⟨by omega, by omega, Wd, lv_sub hl [0, 1] rfl⟩
              refine lv_if_eq (tgt := 184) C.1 C.2.1 dX10_takeLetters_176 (by decide) (fun c176 => ?_) (fun c176 => ?_)
              · have i176 : r173.toInt = 0 := kz_eq c176
                refine lv_iconst (v := 0) C.1 C.2.1 dX10_takeLetters_184 (by decide) ?_
                exact J185 0 _ _ _ ⟨by have zq0 : (0 : Int32).toInt = 0 := (by decide); omega, by have zq0 : (0 : Int32).toInt = 0 := (by decide); omega, by have zq0 : (0 : Int32).toInt = 0 := (by decide); omega, by have zq0 : (0 : Int32).toInt = 0 := (by decide); omega, Wd, lv_sub hl [0, 1] rfl⟩
              · have i176 : ¬ r173.toInt = 0 := kz_ne c176
                refine lv_bipush (v := 8) C.1 C.2.1 dX10_takeLetters_179 (by decide) ?_
                refine lv_goto (tgt := 185) C.1 C.2.1 dX10_takeLetters_181 (by decide) ?_
                exact J185 8 _ _ _ ⟨by have zq8 : (8 : Int32).toInt = 8 := (by decide); omega, by have zq8 : (8 : Int32).toInt = 8 := (by decide); omega, by have zq8 : (8 : Int32).toInt = 8 := (by decide); omega, by have zq8 : (8 : Int32).toInt = 8 := (by decide); omega, Wd, lv_sub hl [0, 1] rfl⟩
            · have i157 : ¬ r154.toInt = 0 := kz_ne c157
              refine lv_aload_n C.1 C.2.1 dX10_takeLetters_160 rfl (lv_at hl 1 rfl) ?_
              refine lv_bipush (v := 7) C.1 C.2.1 dX10_takeLetters_161 (by decide) ?_
              refine k_put C Wd KX10 0 2 [(h, .inr (10, [.ref h_0, .int h_1, .int 7, .int v56, .int h_4, .int j13_F_h_5])), (h_0, .inl (a_h_0, 800, .inl f_h_0))] rfl (by decide) fl_X10_25 rfl rfl rfl (Nat.le_of_ble_eq_true rfl) rfl dX10_takeLetters_163 (fun H locs Wd => ?_)
              refine lv_goto (tgt := 188) C.1 C.2.1 dX10_takeLetters_166 (by decide) ?_
              exact J188 7 _ _ _ ⟨by have zq7 : (7 : Int32).toInt = 7 := (by decide); omega, by have zq7 : (7 : Int32).toInt = 7 := (by decide); omega, Wd, lv_sub hl [0, 1] rfl⟩
          · have i139 : ¬ r136.toInt = 0 := kz_ne c139
            refine lv_aload_n C.1 C.2.1 dX10_takeLetters_142 rfl (lv_at hl 1 rfl) ?_
            refine lv_bipush (v := 6) C.1 C.2.1 dX10_takeLetters_143 (by decide) ?_
            refine k_put C Wd KX10 0 2 [(h, .inr (10, [.ref h_0, .int h_1, .int 6, .int v56, .int h_4, .int j13_F_h_5])), (h_0, .inl (a_h_0, 800, .inl f_h_0))] rfl (by decide) fl_X10_25 rfl rfl rfl (Nat.le_of_ble_eq_true rfl) rfl dX10_takeLetters_145 (fun H locs Wd => ?_)
            refine lv_goto (tgt := 188) C.1 C.2.1 dX10_takeLetters_148 (by decide) ?_
            exact J188 6 _ _ _ ⟨by have zq6 : (6 : Int32).toInt = 6 := (by decide); omega, by have zq6 : (6 : Int32).toInt = 6 := (by decide); omega, Wd, lv_sub hl [0, 1] rfl⟩
        · have i122 : ¬ r119.toInt = 0 := kz_ne c122
          refine lv_aload_n C.1 C.2.1 dX10_takeLetters_125 rfl (lv_at hl 1 rfl) ?_
          refine lv_iconst (v := 5) C.1 C.2.1 dX10_takeLetters_126 (by decide) ?_
          refine k_put C Wd KX10 0 2 [(h, .inr (10, [.ref h_0, .int h_1, .int 5, .int v56, .int h_4, .int j13_F_h_5])), (h_0, .inl (a_h_0, 800, .inl f_h_0))] rfl (by decide) fl_X10_25 rfl rfl rfl (Nat.le_of_ble_eq_true rfl) rfl dX10_takeLetters_127 (fun H locs Wd => ?_)
          refine lv_goto (tgt := 188) C.1 C.2.1 dX10_takeLetters_130 (by decide) ?_
          exact J188 5 _ _ _ ⟨by have zq5 : (5 : Int32).toInt = 5 := (by decide); omega, by have zq5 : (5 : Int32).toInt = 5 := (by decide); omega, Wd, lv_sub hl [0, 1] rfl⟩
      · have i105 : ¬ r102.toInt = 0 := kz_ne c105
        refine lv_aload_n C.1 C.2.1 dX10_takeLetters_108 rfl (lv_at hl 1 rfl) ?_
        refine lv_iconst (v := 4) C.1 C.2.1 dX10_takeLetters_109 (by decide) ?_
        refine k_put C Wd KX10 0 2 [(h, .inr (10, [.ref h_0, .int h_1, .int 4, .int v56, .int h_4, .int j13_F_h_5])), (h_0, .inl (a_h_0, 800, .inl f_h_0))] rfl (by decide) fl_X10_25 rfl rfl rfl (Nat.le_of_ble_eq_true rfl) rfl dX10_takeLetters_110 (fun H locs Wd => ?_)
        refine lv_goto (tgt := 188) C.1 C.2.1 dX10_takeLetters_113 (by decide) ?_
        exact J188 4 _ _ _ ⟨by have zq4 : (4 : Int32).toInt = 4 := (by decide); omega, by have zq4 : (4 : Int32).toInt = 4 := (by decide); omega, Wd, lv_sub hl [0, 1] rfl⟩
    · have i70 : v68.toInt = 1 := kz_eq c70
      refine lv_aload_n C.1 C.2.1 dX10_takeLetters_73 rfl (lv_at hl 1 rfl) ?_
      refine lv_aload_n C.1 C.2.1 dX10_takeLetters_74 rfl (lv_at hl 1 rfl) ?_
      refine lv_aload_n C.1 C.2.1 dX10_takeLetters_75 rfl (lv_at hl 1 rfl) ?_
      refine k_get C Wd KX10 0 4 rfl (by decide) fl_X10_22 rfl dX10_takeLetters_76 ?_
      refine k_pi (k_runV (rest := [.ref h]) C aks Wd cs_X10_31 (sX10_byteAt l D h h_4 h_0 h_1 h_2 v56 h_4 j13_F_h_5 a_h_0 f_h_0 _ (by omega) (by omega)) [0, 1] rfl (by decide) [0] rfl 0 10 rfl rfl rfl rfl rfl ⟨(Nat.le_of_ble_eq_true rfl), (Nat.le_of_ble_eq_true rfl)⟩ hl.1 rfl rfl (Nat.le_of_ble_eq_true rfl) ⟨(Nat.le_of_ble_eq_true rfl), (Nat.le_of_ble_eq_true rfl)⟩ dX10_takeLetters_79) (fun r79 w79 => ?_)
      refine k_pi (k_runS (rest := [.ref h]) C aks Wd cs_X10_52 (sX10_isSmallLetter l D r79 _ ) [] rfl (by decide) [] rfl rfl rfl ⟨(Nat.le_of_ble_eq_true rfl), (Nat.le_of_ble_eq_true rfl)⟩ hl.1 rfl rfl (Nat.le_of_ble_eq_true rfl) ⟨(Nat.le_of_ble_eq_true rfl), (Nat.le_of_ble_eq_true rfl)⟩ dX10_takeLetters_82) (fun r82 w82 => ?_)
      obtain ⟨g82_0, g82_1⟩ := w82
      have g82_0 : 0 ≤ r82.toInt := g82_0
      have g82_1 : r82.toInt ≤ 1 := g82_1
      refine k_cutA (fun (j93_S_0 : Int32) H locs ls => 0 ≤ j93_S_0.toInt ∧ j93_S_0.toInt ≤ 3 ∧ r82.toInt ≤ j93_S_0.toInt ∧ j93_S_0.toInt ≤ r82.toInt + 2 ∧ wX D [(a_h_0, .int)] s [(h, .inr (10, [.ref h_0, .int h_1, .int h_2, .int v56, .int h_4, .int j13_F_h_5])), (h_0, .inl (a_h_0, 800, .inl f_h_0))] H A s.heap locs ∧ lv_has ls 2 [(1, .int j13_L_1), (0, .ref h)]) (fun (j93_S_0 : Int32) ls => F0 m 93 ls [.int j93_S_0, .ref h]) (fun j93_S_0 H locs ls hi => ?_) (fun J93 => ?_)
      · obtain ⟨i93_0, i93_1, i93_2, i93_3, Wd, hl⟩ := hi
        refine k_put C Wd KX10 0 2 [(h, .inr (10, [.ref h_0, .int h_1, .int j93_S_0, .int v56, .int h_4, .int j13_F_h_5])), (h_0, .inl (a_h_0, 800, .inl f_h_0))] rfl (by decide) fl_X10_25 rfl rfl rfl (Nat.le_of_ble_eq_true rfl) rfl dX10_takeLetters_93 (fun H locs Wd => ?_)
        refine lv_goto (tgt := 188) C.1 C.2.1 dX10_takeLetters_96 (by decide) ?_
        exact J188 j93_S_0 _ _ _ ⟨by omega, by omega, Wd, lv_sub hl [0, 1] rfl⟩
      refine lv_if_eq (tgt := 92) C.1 C.2.1 dX10_takeLetters_85 (by decide) (fun c85 => ?_) (fun c85 => ?_)
      · have i85 : r82.toInt = 0 := kz_eq c85
        refine lv_iconst (v := 0) C.1 C.2.1 dX10_takeLetters_92 (by decide) ?_
        exact J93 0 _ _ _ ⟨by have zq0 : (0 : Int32).toInt = 0 := (by decide); omega, by have zq0 : (0 : Int32).toInt = 0 := (by decide); omega, by have zq0 : (0 : Int32).toInt = 0 := (by decide); omega, by have zq0 : (0 : Int32).toInt = 0 := (by decide); omega, Wd, lv_sub hl [0, 1] rfl⟩
      · have i85 : ¬ r82.toInt = 0 := kz_ne c85
        refine lv_iconst (v := 3) C.1 C.2.1 dX10_takeLetters_88 (by decide) ?_
        refine lv_goto (tgt := 93) C.1 C.2.1 dX10_takeLetters_89 (by decide) ?_
        exact J93 3 _ _ _ ⟨by have zq3 : (3 : Int32).toInt = 3 := (by decide); omega, by have zq3 : (3 : Int32).toInt = 3 := (by decide); omega, by have zq3 : (3 : Int32).toInt = 3 := (by decide); omega, by have zq3 : (3 : Int32).toInt = 3 := (by decide); omega, Wd, lv_sub hl [0, 1] rfl⟩
  refine lv_icmp_ge (tgt := 45) C.1 C.2.1 dX10_takeLetters_18 (by decide) (fun c18 => ?_) (fun c18 => ?_)
  · have i18 : h_1.toInt ≤ j13_L_1.toInt := kz_le c18
    exact J45 () _ _ _ ⟨Wd, lv_sub hl [0, 1] rfl⟩
  · have i18 : j13_L_1.toInt < h_1.toInt := kz_nle c18
    refine lv_aload_n C.1 C.2.1 dX10_takeLetters_21 rfl (lv_at hl 1 rfl) ?_
    refine lv_iload_n C.1 C.2.1 dX10_takeLetters_22 rfl (lv_at hl 0 rfl) ?_
    refine k_pi (k_runV (rest := []) C aks Wd cs_X10_31 (sX10_byteAt l D h j13_L_1 h_0 h_1 h_2 h_3 h_4 j13_F_h_5 a_h_0 f_h_0 _ (by omega) (by omega)) [0, 1] rfl (by decide) [0] rfl 0 10 rfl rfl rfl rfl rfl ⟨(Nat.le_of_ble_eq_true rfl), (Nat.le_of_ble_eq_true rfl)⟩ hl.1 rfl rfl (Nat.le_of_ble_eq_true rfl) ⟨(Nat.le_of_ble_eq_true rfl), (Nat.le_of_ble_eq_true rfl)⟩ dX10_takeLetters_23) (fun r23 w23 => ?_)
    refine k_pi (k_runS (rest := []) C aks Wd cs_X10_35 (sX10_isLetter l D r23 _ ) [] rfl (by decide) [] rfl rfl rfl ⟨(Nat.le_of_ble_eq_true rfl), (Nat.le_of_ble_eq_true rfl)⟩ hl.1 rfl rfl (Nat.le_of_ble_eq_true rfl) ⟨(Nat.le_of_ble_eq_true rfl), (Nat.le_of_ble_eq_true rfl)⟩ dX10_takeLetters_26) (fun r26 w26 => ?_)
    obtain ⟨g26_0, g26_1⟩ := w26
    have g26_0 : 0 ≤ r26.toInt := g26_0
    have g26_1 : r26.toInt ≤ 1 := g26_1
    refine lv_if_eq (tgt := 45) C.1 C.2.1 dX10_takeLetters_29 (by decide) (fun c29 => ?_) (fun c29 => ?_)
    · have i29 : r26.toInt = 0 := kz_eq c29
      exact J45 () _ _ _ ⟨Wd, lv_sub hl [0, 1] rfl⟩
    · have i29 : ¬ r26.toInt = 0 := kz_ne c29
      refine lv_aload_n C.1 C.2.1 dX10_takeLetters_32 rfl (lv_at hl 1 rfl) ?_
      refine lv_iload_n C.1 C.2.1 dX10_takeLetters_33 rfl (lv_at hl 0 rfl) ?_
      refine lv_iconst (v := 1) C.1 C.2.1 dX10_takeLetters_34 (by decide) ?_
      obtain ⟨v35, ev35⟩ : ∃ z : Int32, j13_L_1 + 1 = z := ⟨_, rfl⟩
      have iv35 : v35.toInt = j13_L_1.toInt + 1 := kz_addc ev35 (by decide) (by have zr0 := kz_rng j13_L_1; omega) (by have zr0 := kz_rng j13_L_1; omega)
      refine k_iadd (v := v35) C ev35 dX10_takeLetters_35 ?_
      refine k_put C Wd KX10 0 5 [(h, .inr (10, [.ref h_0, .int h_1, .int h_2, .int h_3, .int h_4, .int v35])), (h_0, .inl (a_h_0, 800, .inl f_h_0))] rfl (by decide) fl_X10_19 rfl rfl rfl (Nat.le_of_ble_eq_true rfl) rfl dX10_takeLetters_36 (fun H locs Wd => ?_)
      obtain ⟨v39, ev39⟩ : ∃ z : Int32, j13_L_1 + 1 = z := ⟨_, rfl⟩
      have iv39 : v39.toInt = j13_L_1.toInt + 1 := kz_addc ev39 (by decide) (by have zr0 := kz_rng j13_L_1; omega) (by have zr0 := kz_rng j13_L_1; omega)
      refine lv_iinc (v := v39) (lv' := [(1, .int v39), (0, .ref h)]) C.1 C.2.1 dX10_takeLetters_39 hl (k := 0) rfl ev39 (by decide) rfl (fun ls hl => ?_)
      refine lv_goto (tgt := 13) C.1 C.2.1 dX10_takeLetters_42 (by decide) ?_
      exact ih13 (v35, v39) _ _ _ ⟨by omega, by omega, by omega, by omega, Wd, lv_sub hl [0, 1] rfl⟩ (by show (801 - v35.toInt).toNat < (801 - j13_F_h_5.toInt).toNat; omega)
set_option maxHeartbeats 4000000 in
set_option maxRecDepth 100000 in
theorem tX10_advance (l : Launch) (D : va_G) (adK adV : Nat → Nat) (tq : Nat) (h : Nat) (x0 : Int32) (h_0 : Nat) (h_1 : Int32) (h_2 : Int32) (h_3 : Int32) (h_4 : Int32) (h_5 : Int32) (a_h_0 : ClassId) (f_h_0 : Nat → Int32) (sz : Nat) (k_x0_lo : 0 ≤ x0.toInt) (k_x0_hi : x0.toInt ≤ 1) (k_h_1_lo : 0 ≤ h_1.toInt) (k_h_1_hi : h_1.toInt ≤ 800)  : Met l yX10_advance (Cond.code yX10_advance cX10_advance 3 none :: gG) { frames := 7, cells := 0, slots := 0, locals := 343 } (cPS RX10 ixT adK adV tq D [(a_h_0, .int)] [(h, .inr (10, [.ref h_0, .int h_1, .int h_2, .int h_3, .int h_4, .int h_5])), (h_0, .inl (a_h_0, 800, .inl f_h_0))] sz [.ref h, .int x0]) (va_Qv (fun (u : (Int32) × (Int32) × (Int32) × (Int32)) => match u with | (jX_F_h_2, jX_F_h_3, jX_F_h_4, jX_F_h_5) => h_5.toInt ≤ jX_F_h_4.toInt) (fun u t => cB D (va_A [(h, .inr (10, [.ref h_0, .int h_1, .int h_2, .int h_3, .int h_4, .int h_5])), (h_0, .inl (a_h_0, 800, .inl f_h_0))] sz) ((fun (_ : (Int32) × (Int32) × (Int32) × (Int32)) => ([] : List (ClassId × FieldType))) u) ((fun (u : (Int32) × (Int32) × (Int32) × (Int32)) => match u with | (jX_F_h_2, jX_F_h_3, jX_F_h_4, jX_F_h_5) => ([(h, .inr (10, [.ref h_0, .int h_1, .int jX_F_h_2, .int jX_F_h_3, .int jX_F_h_4, .int jX_F_h_5])), (h_0, .inl (a_h_0, 800, .inl f_h_0))] : va_W)) u) t) (va_A [(h, .inr (10, [.ref h_0, .int h_1, .int h_2, .int h_3, .int h_4, .int h_5])), (h_0, .inl (a_h_0, 800, .inl f_h_0))] sz)) 0 0 (va_A [(h, .inr (10, [.ref h_0, .int h_1, .int h_2, .int h_3, .int h_4, .int h_5])), (h_0, .inl (a_h_0, 800, .inl f_h_0))] sz) := by
  refine Met.ofW (cc := cX10_advance) (maxL := 3) (ret := none) (by decide) rfl ?_
  intro p e s m args below meth c s₁ B hml hv
  obtain ⟨hv, hE⟩ := hv
  obtain ⟨rfl, aks, rfl, Wd⟩ := k_enter hv
  have C : CallFix p m c cX10_advance 3 s _ gG RX10 := ⟨B.exec, B.bytes, hml, findClass_of_methodNamed B.named, fun w h => atoms_spec (ws := Cond.code yX10_advance cX10_advance 3 none :: gG) B.pre w (List.mem_cons_of_mem _ h)⟩
  have hr := B.returns
  have hlk := B.notSynchronized
  generalize va_A [(h, .inr (10, [.ref h_0, .int h_1, .int h_2, .int h_3, .int h_4, .int h_5])), (h_0, .inl (a_h_0, 800, .inl f_h_0))] s.heap.size = A at Wd hE ⊢
  refine k_locals (Nat.le_of_ble_eq_true rfl) [(0, .ref h), (1, .int x0)] rfl (fun ls hl => ?_)
  refine lv_aload_n C.1 C.2.1 dX10_advance_0 rfl (lv_at hl 0 rfl) ?_
  refine lv_aload_n C.1 C.2.1 dX10_advance_1 rfl (lv_at hl 0 rfl) ?_
  refine k_get C Wd KX10 0 5 rfl (by decide) fl_X10_19 rfl dX10_advance_2 ?_
  refine k_put C Wd KX10 0 4 [(h, .inr (10, [.ref h_0, .int h_1, .int h_2, .int h_3, .int h_5, .int h_5])), (h_0, .inl (a_h_0, 800, .inl f_h_0))] rfl (by decide) fl_X10_22 rfl rfl rfl (Nat.le_of_ble_eq_true rfl) rfl dX10_advance_5 (fun H locs Wd => ?_)
  refine lv_aload_n C.1 C.2.1 dX10_advance_8 rfl (lv_at hl 0 rfl) ?_
  refine k_get C Wd KX10 0 5 rfl (by decide) fl_X10_19 rfl dX10_advance_9 ?_
  refine lv_istore_n (lv' := [(2, .int h_5), (0, .ref h), (1, .int x0)]) C.1 C.2.1 dX10_advance_12 rfl hl (by decide) rfl (fun ls hl => ?_)
  refine k_loopA (fun (u : (Int32) × (Int32)) H locs ls => match u with | (j13_F_h_4, j13_L_2) => h_5.toInt ≤ j13_F_h_4.toInt ∧ h_5.toInt ≤ j13_L_2.toInt ∧ j13_F_h_4.toInt ≤ j13_L_2.toInt ∧ j13_L_2.toInt ≤ j13_F_h_4.toInt ∧ wX D [(a_h_0, .int)] s [(h, .inr (10, [.ref h_0, .int h_1, .int h_2, .int h_3, .int j13_F_h_4, .int h_5])), (h_0, .inl (a_h_0, 800, .inl f_h_0))] H A s.heap locs ∧ lv_has ls 3 [(2, .int j13_L_2), (0, .ref h), (1, .int x0)]) (fun (u : (Int32) × (Int32)) ls => match u with | (j13_F_h_4, j13_L_2) => F0 m 13 ls []) (fun (u : (Int32) × (Int32)) => match u with | (j13_F_h_4, j13_L_2) => (801 - j13_F_h_4.toInt).toNat) (fun u H locs ls hi ih13 => ?_) (h_5, h_5) _ _ _ ⟨by omega, by omega, by omega, by omega, Wd, lv_sub hl [0, 1, 2] rfl⟩
  obtain ⟨j13_F_h_4, j13_L_2⟩ := u
  obtain ⟨i13_0, i13_1, i13_2, i13_3, Wd, hl⟩ := hi
  refine lv_iload_n C.1 C.2.1 dX10_advance_13 rfl (lv_at hl 0 rfl) ?_
  refine lv_aload_n C.1 C.2.1 dX10_advance_14 rfl (lv_at hl 1 rfl) ?_
  refine k_get C Wd KX10 0 1 rfl (by decide) fl_X10_15 rfl dX10_advance_15 ?_
  refine k_cutA (fun (_ : Unit) H locs ls => wX D [(a_h_0, .int)] s [(h, .inr (10, [.ref h_0, .int h_1, .int h_2, .int h_3, .int j13_F_h_4, .int h_5])), (h_0, .inl (a_h_0, 800, .inl f_h_0))] H A s.heap locs ∧ lv_has ls 3 [(2, .int j13_L_2), (0, .ref h), (1, .int x0)]) (fun (_ : Unit) ls => F0 m 54 ls []) (fun _ H locs ls hi => ?_) (fun J54 => ?_)
  · obtain ⟨Wd, hl⟩ := hi
    refine lv_aload_n C.1 C.2.1 dX10_advance_54 rfl (lv_at hl 1 rfl) ?_
    refine lv_aload_n C.1 C.2.1 dX10_advance_55 rfl (lv_at hl 1 rfl) ?_
    refine k_get C Wd KX10 0 4 rfl (by decide) fl_X10_22 rfl dX10_advance_56 ?_
    refine k_pi (k_runV (rest := []) C aks Wd cs_X10_31 (sX10_byteAt l D h j13_F_h_4 h_0 h_1 h_2 h_3 j13_F_h_4 h_5 a_h_0 f_h_0 _ (by omega) (by omega)) [0, 1] rfl (by decide) [0] rfl 0 10 rfl rfl rfl rfl rfl ⟨(Nat.le_of_ble_eq_true rfl), (Nat.le_of_ble_eq_true rfl)⟩ hl.1 rfl rfl (Nat.le_of_ble_eq_true rfl) ⟨(Nat.le_of_ble_eq_true rfl), (Nat.le_of_ble_eq_true rfl)⟩ dX10_advance_59) (fun r59 w59 => ?_)
    refine lv_istore_n (lv' := [(2, .int r59), (0, .ref h), (1, .int x0)]) C.1 C.2.1 dX10_advance_62 rfl hl (by decide) rfl (fun ls hl => ?_)
    refine lv_iload_n C.1 C.2.1 dX10_advance_63 rfl (lv_at hl 0 rfl) ?_
    refine k_pi (k_runS (rest := []) C aks Wd cs_X10_35 (sX10_isLetter l D r59 _ ) [] rfl (by decide) [] rfl rfl rfl ⟨(Nat.le_of_ble_eq_true rfl), (Nat.le_of_ble_eq_true rfl)⟩ hl.1 rfl rfl (Nat.le_of_ble_eq_true rfl) ⟨(Nat.le_of_ble_eq_true rfl), (Nat.le_of_ble_eq_true rfl)⟩ dX10_advance_64) (fun r64 w64 => ?_)
    obtain ⟨g64_0, g64_1⟩ := w64
    have g64_0 : 0 ≤ r64.toInt := g64_0
    have g64_1 : r64.toInt ≤ 1 := g64_1
    refine k_cutA (fun (u : (Int32) × (Int32) × (Int32)) H locs ls => match u with | (j97_F_h_2, j97_F_h_3, j97_F_h_5) => wX D [(a_h_0, .int)] s [(h, .inr (10, [.ref h_0, .int h_1, .int j97_F_h_2, .int j97_F_h_3, .int j13_F_h_4, .int j97_F_h_5])), (h_0, .inl (a_h_0, 800, .inl f_h_0))] H A s.heap locs ∧ lv_has ls 3 [(2, .int r59), (0, .ref h), (1, .int x0)]) (fun (u : (Int32) × (Int32) × (Int32)) ls => match u with | (j97_F_h_2, j97_F_h_3, j97_F_h_5) => F0 m 97 ls []) (fun u H locs ls hi => ?_) (fun J97 => ?_)
    · obtain ⟨j97_F_h_2, j97_F_h_3, j97_F_h_5⟩ := u
      obtain ⟨Wd, hl⟩ := hi
      exact k_vret C hr hlk Wd (j97_F_h_2, j97_F_h_3, j13_F_h_4, j97_F_h_5) (by omega) [0, 1] rfl (by decide) [] rfl (by decide) (by decide) dX10_advance_97
    refine lv_if_eq (tgt := 77) C.1 C.2.1 dX10_advance_67 (by decide) (fun c67 => ?_) (fun c67 => ?_)
    · have i67 : r64.toInt = 0 := kz_eq c67
      refine lv_iload_n C.1 C.2.1 dX10_advance_77 rfl (lv_at hl 0 rfl) ?_
      refine k_pi (k_runS (rest := []) C aks Wd cs_X10_42 (sX10_isDigit l D r59 _ ) [] rfl (by decide) [] rfl rfl rfl ⟨(Nat.le_of_ble_eq_true rfl), (Nat.le_of_ble_eq_true rfl)⟩ hl.1 rfl rfl (Nat.le_of_ble_eq_true rfl) ⟨(Nat.le_of_ble_eq_true rfl), (Nat.le_of_ble_eq_true rfl)⟩ dX10_advance_78) (fun r78 w78 => ?_)
      obtain ⟨g78_0, g78_1⟩ := w78
      have g78_0 : 0 ≤ r78.toInt := g78_0
      have g78_1 : r78.toInt ≤ 1 := g78_1
      refine lv_if_eq (tgt := 91) C.1 C.2.1 dX10_advance_81 (by decide) (fun c81 => ?_) (fun c81 => ?_)
      · have i81 : r78.toInt = 0 := kz_eq c81
        refine lv_aload_n C.1 C.2.1 dX10_advance_91 rfl (lv_at hl 1 rfl) ?_
        refine lv_iload_n C.1 C.2.1 dX10_advance_92 rfl (lv_at hl 0 rfl) ?_
        refine lv_iload_n C.1 C.2.1 dX10_advance_93 rfl (lv_at hl 2 rfl) ?_
        refine k_cv Wd [0, 1] [] rfl (wr := []) rfl (by decide) (by decide) (cells' := 0) (slots' := 0) (by decide) (by decide) (k_runV (rest := []) C aks Wd cs_X10_48 (sX10_takeSign l D h r59 x0 h_0 h_1 h_2 h_3 j13_F_h_4 h_5 a_h_0 f_h_0 _ (by omega) (by omega) (by omega) (by omega)) [0, 1] rfl (by decide) [0] rfl 0 10 rfl rfl rfl rfl rfl ⟨(Nat.le_of_ble_eq_true rfl), (Nat.le_of_ble_eq_true rfl)⟩ hl.1 rfl rfl (Nat.le_of_ble_eq_true rfl) ⟨(Nat.le_of_ble_eq_true rfl), (Nat.le_of_ble_eq_true rfl)⟩ dX10_advance_94) (fun u H locs w94 Wd => ?_)
        obtain ⟨s94_0, s94_1⟩ := u
        have Wd : wX D [(a_h_0, .int)] s [(h, .inr (10, [.ref h_0, .int h_1, .int s94_0, .int h_3, .int j13_F_h_4, .int s94_1])), (h_0, .inl (a_h_0, 800, .inl f_h_0))] _ A s.heap _ := k_sub Wd [0, 1] rfl (by decide) [0] rfl
        exact J97 (s94_0, h_3, s94_1) _ _ _ ⟨Wd, lv_sub hl [0, 1, 2] rfl⟩
      · have i81 : ¬ r78.toInt = 0 := kz_ne c81
        refine lv_aload_n C.1 C.2.1 dX10_advance_84 rfl (lv_at hl 1 rfl) ?_
        refine k_cv Wd [0, 1] [] rfl (wr := []) rfl (by decide) (by decide) (cells' := 0) (slots' := 0) (by decide) (by decide) (k_runV (rest := []) C aks Wd cs_X10_45 (sX10_takeDigits l D h h_0 h_1 h_2 h_3 j13_F_h_4 h_5 a_h_0 f_h_0 _ (by omega) (by omega)) [0, 1] rfl (by decide) [0] rfl 0 10 rfl rfl rfl rfl rfl ⟨(Nat.le_of_ble_eq_true rfl), (Nat.le_of_ble_eq_true rfl)⟩ hl.1 rfl rfl (Nat.le_of_ble_eq_true rfl) ⟨(Nat.le_of_ble_eq_true rfl), (Nat.le_of_ble_eq_true rfl)⟩ dX10_advance_85) (fun u H locs w85 Wd => ?_)
        obtain ⟨s85_0, s85_1, s85_2⟩ := u
        have Wd : wX D [(a_h_0, .int)] s [(h, .inr (10, [.ref h_0, .int h_1, .int s85_0, .int s85_1, .int j13_F_h_4, .int s85_2])), (h_0, .inl (a_h_0, 800, .inl f_h_0))] _ A s.heap _ := k_sub Wd [0, 1] rfl (by decide) [0] rfl
        obtain ⟨g85_0, g85_1, g85_2⟩ := w85
        have g85_0 : 0 ≤ s85_0.toInt := g85_0
        have g85_1 : s85_0.toInt ≤ 2 := g85_1
        have g85_2 : j13_F_h_4.toInt ≤ s85_2.toInt := g85_2
        refine lv_goto (tgt := 97) C.1 C.2.1 dX10_advance_88 (by decide) ?_
        exact J97 (s85_0, s85_1, s85_2) _ _ _ ⟨Wd, lv_sub hl [0, 1, 2] rfl⟩
    · have i67 : ¬ r64.toInt = 0 := kz_ne c67
      refine lv_aload_n C.1 C.2.1 dX10_advance_70 rfl (lv_at hl 1 rfl) ?_
      refine k_cv Wd [0, 1] [] rfl (wr := []) rfl (by decide) (by decide) (cells' := 0) (slots' := 0) (by decide) (by decide) (k_runVT (rest := []) C aks hE Wd cs_X10_39 (tX10_takeLetters l D adK adV tq h h_0 h_1 h_2 h_3 j13_F_h_4 h_5 a_h_0 f_h_0 _ (by omega) (by omega)) [0, 1] rfl (by decide) [0] rfl 0 10 rfl rfl rfl rfl rfl ⟨(Nat.le_of_ble_eq_true rfl), (Nat.le_of_ble_eq_true rfl)⟩ hl.1 rfl rfl (Nat.le_of_ble_eq_true rfl) ⟨(Nat.le_of_ble_eq_true rfl), (Nat.le_of_ble_eq_true rfl)⟩ dX10_advance_71) (fun u H locs w71 Wd => ?_)
      obtain ⟨s71_0, s71_1, s71_2⟩ := u
      have Wd : wX D [(a_h_0, .int)] s [(h, .inr (10, [.ref h_0, .int h_1, .int s71_0, .int s71_1, .int j13_F_h_4, .int s71_2])), (h_0, .inl (a_h_0, 800, .inl f_h_0))] _ A s.heap _ := k_sub Wd [0, 1] rfl (by decide) [0] rfl
      obtain ⟨g71_0, g71_1, g71_2⟩ := w71
      have g71_0 : 0 ≤ s71_0.toInt := g71_0
      have g71_1 : s71_0.toInt ≤ 8 := g71_1
      have g71_2 : j13_F_h_4.toInt ≤ s71_2.toInt := g71_2
      refine lv_goto (tgt := 97) C.1 C.2.1 dX10_advance_74 (by decide) ?_
      exact J97 (s71_0, s71_1, s71_2) _ _ _ ⟨Wd, lv_sub hl [0, 1, 2] rfl⟩
  refine lv_icmp_ge (tgt := 54) C.1 C.2.1 dX10_advance_18 (by decide) (fun c18 => ?_) (fun c18 => ?_)
  · have i18 : h_1.toInt ≤ j13_L_2.toInt := kz_le c18
    exact J54 () _ _ _ ⟨Wd, lv_sub hl [0, 1, 2] rfl⟩
  · have i18 : j13_L_2.toInt < h_1.toInt := kz_nle c18
    refine lv_aload_n C.1 C.2.1 dX10_advance_21 rfl (lv_at hl 1 rfl) ?_
    refine lv_iload_n C.1 C.2.1 dX10_advance_22 rfl (lv_at hl 0 rfl) ?_
    refine k_pi (k_runV (rest := []) C aks Wd cs_X10_31 (sX10_byteAt l D h j13_L_2 h_0 h_1 h_2 h_3 j13_F_h_4 h_5 a_h_0 f_h_0 _ (by omega) (by omega)) [0, 1] rfl (by decide) [0] rfl 0 10 rfl rfl rfl rfl rfl ⟨(Nat.le_of_ble_eq_true rfl), (Nat.le_of_ble_eq_true rfl)⟩ hl.1 rfl rfl (Nat.le_of_ble_eq_true rfl) ⟨(Nat.le_of_ble_eq_true rfl), (Nat.le_of_ble_eq_true rfl)⟩ dX10_advance_23) (fun r23 w23 => ?_)
    refine lv_bipush (v := 32) C.1 C.2.1 dX10_advance_26 (by decide) ?_
    refine k_cutA (fun (_ : Unit) H locs ls => wX D [(a_h_0, .int)] s [(h, .inr (10, [.ref h_0, .int h_1, .int h_2, .int h_3, .int j13_F_h_4, .int h_5])), (h_0, .inl (a_h_0, 800, .inl f_h_0))] H A s.heap locs ∧ lv_has ls 3 [(2, .int j13_L_2), (0, .ref h), (1, .int x0)]) (fun (_ : Unit) ls => F0 m 41 ls []) (fun _ H locs ls hi => ?_) (fun J41 => ?_)
    · obtain ⟨Wd, hl⟩ := hi
      refine lv_aload_n C.1 C.2.1 dX10_advance_41 rfl (lv_at hl 1 rfl) ?_
      refine lv_iload_n C.1 C.2.1 dX10_advance_42 rfl (lv_at hl 0 rfl) ?_
      refine lv_iconst (v := 1) C.1 C.2.1 dX10_advance_43 (by decide) ?_
      obtain ⟨v44, ev44⟩ : ∃ z : Int32, j13_L_2 + 1 = z := ⟨_, rfl⟩
      have iv44 : v44.toInt = j13_L_2.toInt + 1 := kz_addc ev44 (by decide) (by have zr0 := kz_rng j13_L_2; omega) (by have zr0 := kz_rng j13_L_2; omega)
      refine k_iadd (v := v44) C ev44 dX10_advance_44 ?_
      refine k_put C Wd KX10 0 4 [(h, .inr (10, [.ref h_0, .int h_1, .int h_2, .int h_3, .int v44, .int h_5])), (h_0, .inl (a_h_0, 800, .inl f_h_0))] rfl (by decide) fl_X10_22 rfl rfl rfl (Nat.le_of_ble_eq_true rfl) rfl dX10_advance_45 (fun H locs Wd => ?_)
      obtain ⟨v48, ev48⟩ : ∃ z : Int32, j13_L_2 + 1 = z := ⟨_, rfl⟩
      have iv48 : v48.toInt = j13_L_2.toInt + 1 := kz_addc ev48 (by decide) (by have zr0 := kz_rng j13_L_2; omega) (by have zr0 := kz_rng j13_L_2; omega)
      refine lv_iinc (v := v48) (lv' := [(2, .int v48), (0, .ref h), (1, .int x0)]) C.1 C.2.1 dX10_advance_48 hl (k := 0) rfl ev48 (by decide) rfl (fun ls hl => ?_)
      refine lv_goto (tgt := 13) C.1 C.2.1 dX10_advance_51 (by decide) ?_
      exact ih13 (v44, v48) _ _ _ ⟨by omega, by omega, by omega, by omega, Wd, lv_sub hl [0, 1, 2] rfl⟩ (by show (801 - v44.toInt).toNat < (801 - j13_F_h_4.toInt).toNat; omega)
    refine lv_icmp_eq (tgt := 41) C.1 C.2.1 dX10_advance_28 (by decide) (fun c28 => ?_) (fun c28 => ?_)
    · have i28 : r23.toInt = 32 := kz_eq c28
      exact J41 () _ _ _ ⟨Wd, lv_sub hl [0, 1, 2] rfl⟩
    · have i28 : ¬ r23.toInt = 32 := kz_ne c28
      refine lv_aload_n C.1 C.2.1 dX10_advance_31 rfl (lv_at hl 1 rfl) ?_
      refine lv_iload_n C.1 C.2.1 dX10_advance_32 rfl (lv_at hl 0 rfl) ?_
      refine k_pi (k_runV (rest := []) C aks Wd cs_X10_31 (sX10_byteAt l D h j13_L_2 h_0 h_1 h_2 h_3 j13_F_h_4 h_5 a_h_0 f_h_0 _ (by omega) (by omega)) [0, 1] rfl (by decide) [0] rfl 0 10 rfl rfl rfl rfl rfl ⟨(Nat.le_of_ble_eq_true rfl), (Nat.le_of_ble_eq_true rfl)⟩ hl.1 rfl rfl (Nat.le_of_ble_eq_true rfl) ⟨(Nat.le_of_ble_eq_true rfl), (Nat.le_of_ble_eq_true rfl)⟩ dX10_advance_33) (fun r33 w33 => ?_)
      refine lv_bipush (v := 10) C.1 C.2.1 dX10_advance_36 (by decide) ?_
      refine lv_icmp_ne (tgt := 54) C.1 C.2.1 dX10_advance_38 (by decide) (fun c38 => ?_) (fun c38 => ?_)
      · have i38 : ¬ r33.toInt = 10 := kz_ne c38
        exact J54 () _ _ _ ⟨Wd, lv_sub hl [0, 1, 2] rfl⟩
      · have i38 : r33.toInt = 10 := kz_eq c38
        exact J41 () _ _ _ ⟨Wd, lv_sub hl [0, 1, 2] rfl⟩
set_option maxHeartbeats 4000000 in
set_option maxRecDepth 100000 in
theorem tX6_begin_n (l : Launch) (D : va_G) (h : Nat) (h0 : Nat) (x2 : Int32) (h_0 : Nat) (h_1 : Int32) (h_2 : Int32) (h_3 : Nat) (h_4 : Value) (h_5 : Int32) (h_6 : Int32) (h_7 : Int32) (h_8 : Int32) (h_9 : Int32) (h_10 : Int32) (h_11 : Int32) (h_12 : Int32) (h_13 : Int32) (h_14 : Nat) (h_15 : Nat) (h_16 : Nat) (h0_0 : Nat) (h0_1 : Int32) (n_h0_0 : Nat) (a_h0_0 : ClassId) (f_h0_0 : Nat → Int32) (h_0_0 : Nat) (h_0_1 : Int32) (h_0_2 : Int32) (h_0_3 : Int32) (h_0_4 : Int32) (h_0_5 : Int32) (sz : Nat) (k_h_7_lo : 0 ≤ h_7.toInt) (k_h_7_hi : h_7.toInt ≤ 40) (k_h_9_lo : 0 ≤ h_9.toInt) (k_h_9_hi : h_9.toInt ≤ 1000) (k_h_13_lo : 0 ≤ h_13.toInt) (k_h_13_hi : h_13.toInt ≤ 8) (k_h0_1_lo : 0 ≤ h0_1.toInt) (k_n_h0_0 : n_h0_0 ≤ 1000) (k_p_h0_0 : 1 ≤ n_h0_0) (k_h0_1_hi : h0_1.toInt ≤ (n_h0_0 : Int)) (k_h_0_1_lo : 0 ≤ h_0_1.toInt) (k_h_0_1_hi : h_0_1.toInt ≤ 800)  : Met l yX6_begin (Cond.code yX6_begin cX6_begin 4 none :: gG) { frames := 2, cells := 0, slots := 0, locals := 84 } (cPre D [(a_h0_0, .int)] [(h, .inr (6, [.ref h_0, .int h_1, .int h_2, .ref h_3, h_4, .int h_5, .int h_6, .int h_7, .int h_8, .int h_9, .int h_10, .int h_11, .int h_12, .int h_13, .ref h_14, .ref h_15, .ref h_16])), (h0, .inr (8, [.ref h0_0, .int h0_1])), (h0_0, .inl (a_h0_0, n_h0_0, .inl f_h0_0)), (h_0, .inr (10, [.ref h_0_0, .int h_0_1, .int h_0_2, .int h_0_3, .int h_0_4, .int h_0_5]))] sz [.ref h, .ref h0, .null, .int x2]) (va_Qv (fun (_ : Unit) => True) (fun u t => cB D (va_A [(h, .inr (6, [.ref h_0, .int h_1, .int h_2, .ref h_3, h_4, .int h_5, .int h_6, .int h_7, .int h_8, .int h_9, .int h_10, .int h_11, .int h_12, .int h_13, .ref h_14, .ref h_15, .ref h_16])), (h0, .inr (8, [.ref h0_0, .int h0_1])), (h0_0, .inl (a_h0_0, n_h0_0, .inl f_h0_0)), (h_0, .inr (10, [.ref h_0_0, .int h_0_1, .int h_0_2, .int h_0_3, .int h_0_4, .int h_0_5]))] sz) ((fun (_ : Unit) => ([] : List (ClassId × FieldType))) u) ((fun (_ : Unit) => ([(h, .inr (6, [.ref h_0, .int 0, .int (-1), .ref h0, .null, .int h_5, .int h_6, .int 0, .int 0, .int x2, .int h_10, .int h_11, .int h_12, .int 0, .ref h_14, .ref h_15, .ref h_16])), (h0, .inr (8, [.ref h0_0, .int 0])), (h0_0, .inl (a_h0_0, n_h0_0, .inl f_h0_0)), (h_0, .inr (10, [.ref h_0_0, .int h_0_1, .int 0, .int 0, .int 0, .int 0]))] : va_W)) u) t) (va_A [(h, .inr (6, [.ref h_0, .int h_1, .int h_2, .ref h_3, h_4, .int h_5, .int h_6, .int h_7, .int h_8, .int h_9, .int h_10, .int h_11, .int h_12, .int h_13, .ref h_14, .ref h_15, .ref h_16])), (h0, .inr (8, [.ref h0_0, .int h0_1])), (h0_0, .inl (a_h0_0, n_h0_0, .inl f_h0_0)), (h_0, .inr (10, [.ref h_0_0, .int h_0_1, .int h_0_2, .int h_0_3, .int h_0_4, .int h_0_5]))] sz)) 0 0 (va_A [(h, .inr (6, [.ref h_0, .int h_1, .int h_2, .ref h_3, h_4, .int h_5, .int h_6, .int h_7, .int h_8, .int h_9, .int h_10, .int h_11, .int h_12, .int h_13, .ref h_14, .ref h_15, .ref h_16])), (h0, .inr (8, [.ref h0_0, .int h0_1])), (h0_0, .inl (a_h0_0, n_h0_0, .inl f_h0_0)), (h_0, .inr (10, [.ref h_0_0, .int h_0_1, .int h_0_2, .int h_0_3, .int h_0_4, .int h_0_5]))] sz) := by
  refine Met.ofW (cc := cX6_begin) (maxL := 4) (ret := none) (by decide) rfl ?_
  intro p e s m args below meth c s₁ B hml hv
  obtain ⟨rfl, aks, rfl, Wd⟩ := k_enter hv
  have C : CallFix p m c cX6_begin 4 s _ gG RX6 := ⟨B.exec, B.bytes, hml, findClass_of_methodNamed B.named, fun w h => atoms_spec (ws := Cond.code yX6_begin cX6_begin 4 none :: gG) B.pre w (List.mem_cons_of_mem _ h)⟩
  have hr := B.returns
  have hlk := B.notSynchronized
  generalize va_A [(h, .inr (6, [.ref h_0, .int h_1, .int h_2, .ref h_3, h_4, .int h_5, .int h_6, .int h_7, .int h_8, .int h_9, .int h_10, .int h_11, .int h_12, .int h_13, .ref h_14, .ref h_15, .ref h_16])), (h0, .inr (8, [.ref h0_0, .int h0_1])), (h0_0, .inl (a_h0_0, n_h0_0, .inl f_h0_0)), (h_0, .inr (10, [.ref h_0_0, .int h_0_1, .int h_0_2, .int h_0_3, .int h_0_4, .int h_0_5]))] s.heap.size = A at Wd ⊢
  refine k_locals (Nat.le_of_ble_eq_true rfl) [(0, .ref h), (1, .ref h0), (2, .null), (3, .int x2)] rfl (fun ls hl => ?_)
  refine lv_aload_n C.1 C.2.1 dX6_begin_0 rfl (lv_at hl 0 rfl) ?_
  refine lv_iconst (v := 0) C.1 C.2.1 dX6_begin_1 (by decide) ?_
  refine k_put C Wd KX6 0 1 [(h, .inr (6, [.ref h_0, .int 0, .int h_2, .ref h_3, h_4, .int h_5, .int h_6, .int h_7, .int h_8, .int h_9, .int h_10, .int h_11, .int h_12, .int h_13, .ref h_14, .ref h_15, .ref h_16])), (h0, .inr (8, [.ref h0_0, .int h0_1])), (h0_0, .inl (a_h0_0, n_h0_0, .inl f_h0_0)), (h_0, .inr (10, [.ref h_0_0, .int h_0_1, .int h_0_2, .int h_0_3, .int h_0_4, .int h_0_5]))] rfl (by decide) fl_X6_37 rfl rfl rfl (Nat.le_of_ble_eq_true rfl) rfl dX6_begin_2 (fun H locs Wd => ?_)
  refine lv_aload_n C.1 C.2.1 dX6_begin_5 rfl (lv_at hl 0 rfl) ?_
  refine lv_iconst (v := (-1)) C.1 C.2.1 dX6_begin_6 (by decide) ?_
  refine k_put C Wd KX6 0 2 [(h, .inr (6, [.ref h_0, .int 0, .int (-1), .ref h_3, h_4, .int h_5, .int h_6, .int h_7, .int h_8, .int h_9, .int h_10, .int h_11, .int h_12, .int h_13, .ref h_14, .ref h_15, .ref h_16])), (h0, .inr (8, [.ref h0_0, .int h0_1])), (h0_0, .inl (a_h0_0, n_h0_0, .inl f_h0_0)), (h_0, .inr (10, [.ref h_0_0, .int h_0_1, .int h_0_2, .int h_0_3, .int h_0_4, .int h_0_5]))] rfl (by decide) fl_X6_41 rfl rfl rfl (Nat.le_of_ble_eq_true rfl) rfl dX6_begin_7 (fun H locs Wd => ?_)
  refine lv_aload_n C.1 C.2.1 dX6_begin_10 rfl (lv_at hl 0 rfl) ?_
  refine lv_aload_n C.1 C.2.1 dX6_begin_11 rfl (lv_at hl 1 rfl) ?_
  refine k_put C Wd KX6 0 3 [(h, .inr (6, [.ref h_0, .int 0, .int (-1), .ref h0, h_4, .int h_5, .int h_6, .int h_7, .int h_8, .int h_9, .int h_10, .int h_11, .int h_12, .int h_13, .ref h_14, .ref h_15, .ref h_16])), (h0, .inr (8, [.ref h0_0, .int h0_1])), (h0_0, .inl (a_h0_0, n_h0_0, .inl f_h0_0)), (h_0, .inr (10, [.ref h_0_0, .int h_0_1, .int h_0_2, .int h_0_3, .int h_0_4, .int h_0_5]))] rfl (by decide) fl_X6_23 rfl rfl rfl (Nat.le_of_ble_eq_true rfl) rfl dX6_begin_12 (fun H locs Wd => ?_)
  refine lv_aload_n C.1 C.2.1 dX6_begin_15 rfl (lv_at hl 0 rfl) ?_
  refine k_get C Wd KX6 0 3 rfl (by decide) fl_X6_23 rfl dX6_begin_16 ?_
  refine lv_iconst (v := 0) C.1 C.2.1 dX6_begin_19 (by decide) ?_
  refine k_put C Wd KX8 1 1 [(h, .inr (6, [.ref h_0, .int 0, .int (-1), .ref h0, h_4, .int h_5, .int h_6, .int h_7, .int h_8, .int h_9, .int h_10, .int h_11, .int h_12, .int h_13, .ref h_14, .ref h_15, .ref h_16])), (h0, .inr (8, [.ref h0_0, .int 0])), (h0_0, .inl (a_h0_0, n_h0_0, .inl f_h0_0)), (h_0, .inr (10, [.ref h_0_0, .int h_0_1, .int h_0_2, .int h_0_3, .int h_0_4, .int h_0_5]))] rfl (by decide) fl_X6_66 rfl rfl rfl (Nat.le_of_ble_eq_true rfl) rfl dX6_begin_20 (fun H locs Wd => ?_)
  refine lv_aload_n C.1 C.2.1 dX6_begin_23 rfl (lv_at hl 0 rfl) ?_
  refine lv_aload_nN C.1 C.2.1 dX6_begin_24 rfl (lv_at hl 2 rfl) ?_
  refine k_put C Wd KX6 0 4 [(h, .inr (6, [.ref h_0, .int 0, .int (-1), .ref h0, .null, .int h_5, .int h_6, .int h_7, .int h_8, .int h_9, .int h_10, .int h_11, .int h_12, .int h_13, .ref h_14, .ref h_15, .ref h_16])), (h0, .inr (8, [.ref h0_0, .int 0])), (h0_0, .inl (a_h0_0, n_h0_0, .inl f_h0_0)), (h_0, .inr (10, [.ref h_0_0, .int h_0_1, .int h_0_2, .int h_0_3, .int h_0_4, .int h_0_5]))] rfl (by decide) fl_X6_69 rfl rfl rfl (Nat.le_of_ble_eq_true rfl) rfl dX6_begin_25 (fun H locs Wd => ?_)
  refine lv_aload_n C.1 C.2.1 dX6_begin_28 rfl (lv_at hl 0 rfl) ?_
  refine lv_iconst (v := 0) C.1 C.2.1 dX6_begin_29 (by decide) ?_
  refine k_put C Wd KX6 0 7 [(h, .inr (6, [.ref h_0, .int 0, .int (-1), .ref h0, .null, .int h_5, .int h_6, .int 0, .int h_8, .int h_9, .int h_10, .int h_11, .int h_12, .int h_13, .ref h_14, .ref h_15, .ref h_16])), (h0, .inr (8, [.ref h0_0, .int 0])), (h0_0, .inl (a_h0_0, n_h0_0, .inl f_h0_0)), (h_0, .inr (10, [.ref h_0_0, .int h_0_1, .int h_0_2, .int h_0_3, .int h_0_4, .int h_0_5]))] rfl (by decide) fl_X6_73 rfl rfl rfl (Nat.le_of_ble_eq_true rfl) rfl dX6_begin_30 (fun H locs Wd => ?_)
  refine lv_aload_n C.1 C.2.1 dX6_begin_33 rfl (lv_at hl 0 rfl) ?_
  refine lv_iconst (v := 0) C.1 C.2.1 dX6_begin_34 (by decide) ?_
  refine k_put C Wd KX6 0 8 [(h, .inr (6, [.ref h_0, .int 0, .int (-1), .ref h0, .null, .int h_5, .int h_6, .int 0, .int 0, .int h_9, .int h_10, .int h_11, .int h_12, .int h_13, .ref h_14, .ref h_15, .ref h_16])), (h0, .inr (8, [.ref h0_0, .int 0])), (h0_0, .inl (a_h0_0, n_h0_0, .inl f_h0_0)), (h_0, .inr (10, [.ref h_0_0, .int h_0_1, .int h_0_2, .int h_0_3, .int h_0_4, .int h_0_5]))] rfl (by decide) fl_X6_76 rfl rfl rfl (Nat.le_of_ble_eq_true rfl) rfl dX6_begin_35 (fun H locs Wd => ?_)
  refine lv_aload_n C.1 C.2.1 dX6_begin_38 rfl (lv_at hl 0 rfl) ?_
  refine lv_iload_n C.1 C.2.1 dX6_begin_39 rfl (lv_at hl 3 rfl) ?_
  refine k_put C Wd KX6 0 9 [(h, .inr (6, [.ref h_0, .int 0, .int (-1), .ref h0, .null, .int h_5, .int h_6, .int 0, .int 0, .int x2, .int h_10, .int h_11, .int h_12, .int h_13, .ref h_14, .ref h_15, .ref h_16])), (h0, .inr (8, [.ref h0_0, .int 0])), (h0_0, .inl (a_h0_0, n_h0_0, .inl f_h0_0)), (h_0, .inr (10, [.ref h_0_0, .int h_0_1, .int h_0_2, .int h_0_3, .int h_0_4, .int h_0_5]))] rfl (by decide) fl_X6_79 rfl rfl rfl (Nat.le_of_ble_eq_true rfl) rfl dX6_begin_40 (fun H locs Wd => ?_)
  refine lv_aload_n C.1 C.2.1 dX6_begin_43 rfl (lv_at hl 0 rfl) ?_
  refine lv_iconst (v := 0) C.1 C.2.1 dX6_begin_44 (by decide) ?_
  refine k_put C Wd KX6 0 13 [(h, .inr (6, [.ref h_0, .int 0, .int (-1), .ref h0, .null, .int h_5, .int h_6, .int 0, .int 0, .int x2, .int h_10, .int h_11, .int h_12, .int 0, .ref h_14, .ref h_15, .ref h_16])), (h0, .inr (8, [.ref h0_0, .int 0])), (h0_0, .inl (a_h0_0, n_h0_0, .inl f_h0_0)), (h_0, .inr (10, [.ref h_0_0, .int h_0_1, .int h_0_2, .int h_0_3, .int h_0_4, .int h_0_5]))] rfl (by decide) fl_X6_82 rfl rfl rfl (Nat.le_of_ble_eq_true rfl) rfl dX6_begin_45 (fun H locs Wd => ?_)
  refine lv_aload_n C.1 C.2.1 dX6_begin_48 rfl (lv_at hl 0 rfl) ?_
  refine k_get C Wd KX6 0 0 rfl (by decide) fl_X6_12 rfl dX6_begin_49 ?_
  refine k_cv Wd [3] [0, 1, 2] rfl (wr := [(h, .inr (6, [.ref h_0, .int 0, .int (-1), .ref h0, .null, .int h_5, .int h_6, .int 0, .int 0, .int x2, .int h_10, .int h_11, .int h_12, .int 0, .ref h_14, .ref h_15, .ref h_16])), (h0, .inr (8, [.ref h0_0, .int 0])), (h0_0, .inl (a_h0_0, n_h0_0, .inl f_h0_0))]) rfl (by decide) (by decide) (cells' := 0) (slots' := 0) (by decide) (by decide) (k_runV (rest := []) C aks Wd cs_X6_85 (sX10_rewind l D h_0 h_0_0 h_0_1 h_0_2 h_0_3 h_0_4 h_0_5 _ (by omega) (by omega)) [3] rfl (by decide) [] rfl 3 10 rfl rfl rfl rfl rfl ⟨(Nat.le_of_ble_eq_true rfl), (Nat.le_of_ble_eq_true rfl)⟩ hl.1 rfl rfl (Nat.le_of_ble_eq_true rfl) ⟨(Nat.le_of_ble_eq_true rfl), (Nat.le_of_ble_eq_true rfl)⟩ dX6_begin_52) (fun _ H locs w52 Wd => ?_)
  have Wd : wX D [(a_h0_0, .int)] s [(h, .inr (6, [.ref h_0, .int 0, .int (-1), .ref h0, .null, .int h_5, .int h_6, .int 0, .int 0, .int x2, .int h_10, .int h_11, .int h_12, .int 0, .ref h_14, .ref h_15, .ref h_16])), (h0, .inr (8, [.ref h0_0, .int 0])), (h0_0, .inl (a_h0_0, n_h0_0, .inl f_h0_0)), (h_0, .inr (10, [.ref h_0_0, .int h_0_1, .int 0, .int 0, .int 0, .int 0]))] _ A s.heap _ := k_sub Wd [0, 1, 2, 3] rfl (by decide) [0] rfl
  exact k_vret C hr hlk Wd () trivial [0, 1, 2, 3] rfl (by decide) [] rfl (by decide) (by decide) dX6_begin_55
