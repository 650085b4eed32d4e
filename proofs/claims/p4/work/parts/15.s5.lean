set_option maxHeartbeats 4000000 in
set_option maxRecDepth 100000 in
theorem sX7_deal_c4 (l : Launch) (D : va_G) (h : Nat) (x1 : Int32) (x2 : Int32) (h_0 : Nat) (h_1 : Nat) (h_2 : Nat) (h_3 : Nat) (h_4 : Int32) (a_h_3 : ClassId) (f_h_3 : Nat → Int32) (a_h_1 : ClassId) (f_h_1 : Nat → Int32) (sz : Nat) (k_x2_lo : 0 ≤ x2.toInt) (k_x2_hi : x2.toInt ≤ 6)  : Met l yX7_deal (Cond.code yX7_deal cX7_deal 5 (some .boolean) :: gG) { frames := 5, cells := 0, slots := 0, locals := 153 } (cPre D [(a_h_3, .int), (a_h_1, .int)] [(h, .inr (7, [.ref h_0, .ref h_1, .ref h_2, .ref h_3, .int h_4])), (h_3, .inl (a_h_3, 6, .inl f_h_3)), (h_1, .inl (a_h_1, 6, .inl f_h_1))] sz [.ref h, .int 4, .int x1, .int x2]) (va_Qi (fun (r : Int32) (jX_C_h_3 : Nat → Int32) => 0 ≤ r.toInt ∧ r.toInt ≤ 1) (fun u t => cB D (va_A [(h, .inr (7, [.ref h_0, .ref h_1, .ref h_2, .ref h_3, .int h_4])), (h_3, .inl (a_h_3, 6, .inl f_h_3)), (h_1, .inl (a_h_1, 6, .inl f_h_1))] sz) ((fun (_ : (Nat → Int32)) => ([] : List (ClassId × FieldType))) u) ((fun (jX_C_h_3 : Nat → Int32) => ([(h, .inr (7, [.ref h_0, .ref h_1, .ref h_2, .ref h_3, .int h_4])), (h_3, .inl (a_h_3, 6, .inl jX_C_h_3)), (h_1, .inl (a_h_1, 6, .inl f_h_1))] : va_W)) u) t) (va_A [(h, .inr (7, [.ref h_0, .ref h_1, .ref h_2, .ref h_3, .int h_4])), (h_3, .inl (a_h_3, 6, .inl f_h_3)), (h_1, .inl (a_h_1, 6, .inl f_h_1))] sz)) 0 0 (va_A [(h, .inr (7, [.ref h_0, .ref h_1, .ref h_2, .ref h_3, .int h_4])), (h_3, .inl (a_h_3, 6, .inl f_h_3)), (h_1, .inl (a_h_1, 6, .inl f_h_1))] sz) := by
  refine Met.ofW (cc := cX7_deal) (maxL := 5) (ret := (some .boolean)) (by decide) rfl ?_
  intro p e s m args below meth c s₁ B hml hv
  obtain ⟨rfl, aks, rfl, Wd⟩ := k_enter hv
  have C : CallFix p m c cX7_deal 5 s _ gG RX7 := ⟨B.exec, B.bytes, hml, findClass_of_methodNamed B.named, fun w h => atoms_spec (ws := Cond.code yX7_deal cX7_deal 5 (some .boolean) :: gG) B.pre w (List.mem_cons_of_mem _ h)⟩
  have hr := B.returns
  have hlk := B.notSynchronized
  generalize va_A [(h, .inr (7, [.ref h_0, .ref h_1, .ref h_2, .ref h_3, .int h_4])), (h_3, .inl (a_h_3, 6, .inl f_h_3)), (h_1, .inl (a_h_1, 6, .inl f_h_1))] s.heap.size = A at Wd ⊢
  refine k_locals (Nat.le_of_ble_eq_true rfl) [(0, .ref h), (1, .int 4), (2, .int x1), (3, .int x2)] rfl (fun ls hl => ?_)
  refine lv_iload_n C.1 C.2.1 dX7_deal_0 rfl (lv_at hl 1 rfl) ?_
  refine k_pi (k_runN (rest := []) C aks Wd aks.2.2.2 cs_X7_71 (sX11_isVariable l D 4 _ ) [] rfl (by decide) [] rfl rfl rfl ⟨(Nat.le_of_ble_eq_true rfl), (Nat.le_of_ble_eq_true rfl)⟩ hl.1 rfl rfl (Nat.le_of_ble_eq_true rfl) ⟨(Nat.le_of_ble_eq_true rfl), (Nat.le_of_ble_eq_true rfl)⟩ dX7_deal_1) (fun r1 w1 => ?_)
  rcases w1 with rfl | ⟨g1_1_0, g1_1_1, rfl⟩
  · refine lv_if_ne (tgt := 9) C.1 C.2.1 dX7_deal_4 (by decide) (fun c4 => absurd c4 (by decide)) (fun _ => ?_)
    refine lv_iconst (v := 1) C.1 C.2.1 dX7_deal_7 (by decide) ?_
    exact k_zret C hr hlk rfl Wd f_h_3 (by exact ⟨by have zq1 : (1 : Int32).toInt = 1 := (by decide); omega, by have zq1 : (1 : Int32).toInt = 1 := (by decide); omega⟩) [0, 1, 2] rfl (by decide) [] rfl (by decide) (by decide) dX7_deal_8
  · refine lv_if_ne (tgt := 9) C.1 C.2.1 dX7_deal_4 (by decide) (fun _ => ?_) (fun c4 => absurd c4 (by decide))
    refine lv_aload_n C.1 C.2.1 dX7_deal_9 rfl (lv_at hl 0 rfl) ?_
    refine k_get C Wd KX7 0 3 rfl (by decide) fl_X7_25 rfl dX7_deal_10 ?_
    refine lv_iload_n C.1 C.2.1 dX7_deal_13 rfl (lv_at hl 1 rfl) ?_
    refine lv_iconst (v := (-1)) C.1 C.2.1 dX7_deal_14 (by decide) ?_
    obtain ⟨f15, ef15⟩ : ∃ z : Nat → Int32, upd f_h_3 (4 : Int32).toNatClampNeg (-1) = z := ⟨_, rfl⟩
    refine k_iast C Wd 1 0 [(h, .inr (7, [.ref h_0, .ref h_1, .ref h_2, .ref h_3, .int h_4])), (h_3, .inl (a_h_3, 6, .inl f15)), (h_1, .inl (a_h_1, 6, .inl f_h_1))] rfl rfl (vp_in_iff.mpr (by decide)) ef15 rfl dX7_deal_15 (fun H locs Wd => ?_)
    refine lv_iload_n C.1 C.2.1 dX7_deal_16 rfl (lv_at hl 2 rfl) ?_
    refine lv_iload_n C.1 C.2.1 dX7_deal_17 rfl (lv_at hl 1 rfl) ?_
    obtain ⟨v18, ev18⟩ : ∃ z : Int32, x1 >>> (4 &&& 31) = z := ⟨_, rfl⟩
    refine k_ishr (v := v18) C ev18 dX7_deal_18 ?_
    refine lv_iconst (v := 1) C.1 C.2.1 dX7_deal_19 (by decide) ?_
    obtain ⟨v20, ev20⟩ : ∃ z : Int32, v18 &&& 1 = z := ⟨_, rfl⟩
    refine k_iand (v := v20) C ev20 dX7_deal_20 ?_
    refine lv_if_ne (tgt := 34) C.1 C.2.1 dX7_deal_21 (by decide) (fun c21 => ?_) (fun c21 => ?_)
    · have i21 : ¬ v20.toInt = 0 := kz_ne c21
      refine lv_iconst (v := 0) C.1 C.2.1 dX7_deal_34 (by decide) ?_
      refine lv_istore (lv' := [(4, .int 0), (0, .ref h), (1, .int 4), (2, .int x1), (3, .int x2)]) C.1 C.2.1 dX7_deal_35 hl (by decide) rfl (fun ls hl => ?_)
      refine k_loopA (fun (u : (Nat → Int32) × (Int32)) H locs ls => match u with | (j37_C_h_3, j37_L_4) => 0 ≤ j37_L_4.toInt ∧ j37_L_4.toInt ≤ 6 ∧ j37_L_4.toInt ≤ x2.toInt ∧ wX D [(a_h_3, .int), (a_h_1, .int)] s [(h, .inr (7, [.ref h_0, .ref h_1, .ref h_2, .ref h_3, .int h_4])), (h_3, .inl (a_h_3, 6, .inl j37_C_h_3)), (h_1, .inl (a_h_1, 6, .inl f_h_1))] H A s.heap locs ∧ lv_has ls 5 [(4, .int j37_L_4), (0, .ref h), (1, .int 4), (2, .int x1), (3, .int x2)]) (fun (u : (Nat → Int32) × (Int32)) ls => match u with | (j37_C_h_3, j37_L_4) => F0 m 37 ls []) (fun (u : (Nat → Int32) × (Int32)) => match u with | (j37_C_h_3, j37_L_4) => (7 - j37_L_4.toInt).toNat) (fun u H locs ls hi ih37 => ?_) (f15, 0) _ _ _ ⟨by have zq0 : (0 : Int32).toInt = 0 := (by decide); omega, by have zq0 : (0 : Int32).toInt = 0 := (by decide); omega, by have zq0 : (0 : Int32).toInt = 0 := (by decide); omega, Wd, lv_sub hl [0, 1, 2, 3, 4] rfl⟩
      obtain ⟨j37_C_h_3, j37_L_4⟩ := u
      obtain ⟨i37_0, i37_1, i37_2, Wd, hl⟩ := hi
      refine lv_iload C.1 C.2.1 dX7_deal_37 (lv_at hl 0 rfl) ?_
      refine lv_iload_n C.1 C.2.1 dX7_deal_39 rfl (lv_at hl 4 rfl) ?_
      refine lv_icmp_ge (tgt := 81) C.1 C.2.1 dX7_deal_40 (by decide) (fun c40 => ?_) (fun c40 => ?_)
      · have i40 : x2.toInt ≤ j37_L_4.toInt := kz_le c40
        refine lv_aload_n C.1 C.2.1 dX7_deal_81 rfl (lv_at hl 1 rfl) ?_
        refine k_get C Wd KX7 0 3 rfl (by decide) fl_X7_25 rfl dX7_deal_82 ?_
        refine lv_iload_n C.1 C.2.1 dX7_deal_85 rfl (lv_at hl 2 rfl) ?_
        refine lv_iconst (v := (-1)) C.1 C.2.1 dX7_deal_86 (by decide) ?_
        obtain ⟨f87, ef87⟩ : ∃ z : Nat → Int32, upd j37_C_h_3 (4 : Int32).toNatClampNeg (-1) = z := ⟨_, rfl⟩
        refine k_iast C Wd 1 0 [(h, .inr (7, [.ref h_0, .ref h_1, .ref h_2, .ref h_3, .int h_4])), (h_3, .inl (a_h_3, 6, .inl f87)), (h_1, .inl (a_h_1, 6, .inl f_h_1))] rfl rfl (vp_in_iff.mpr (by decide)) ef87 rfl dX7_deal_87 (fun H locs Wd => ?_)
        refine lv_iconst (v := 0) C.1 C.2.1 dX7_deal_88 (by decide) ?_
        exact k_zret C hr hlk rfl Wd f87 (by exact ⟨by have zq0 : (0 : Int32).toInt = 0 := (by decide); omega, by have zq0 : (0 : Int32).toInt = 0 := (by decide); omega⟩) [0, 1, 2] rfl (by decide) [] rfl (by decide) (by decide) dX7_deal_89
      · have i40 : j37_L_4.toInt < x2.toInt := kz_nle c40
        refine lv_aload_n C.1 C.2.1 dX7_deal_43 rfl (lv_at hl 1 rfl) ?_
        refine lv_iload_n C.1 C.2.1 dX7_deal_44 rfl (lv_at hl 2 rfl) ?_
        refine lv_iload C.1 C.2.1 dX7_deal_45 (lv_at hl 0 rfl) ?_
        refine k_pi (k_runV (rest := []) C aks Wd cs_X7_85 (sX7_isFree l D h 4 j37_L_4 h_0 h_1 h_2 h_3 h_4 a_h_3 j37_C_h_3 a_h_1 f_h_1 _ ) [0, 1, 2] rfl (by decide) [0, 1] rfl 0 7 rfl rfl rfl rfl rfl ⟨(Nat.le_of_ble_eq_true rfl), (Nat.le_of_ble_eq_true rfl)⟩ hl.1 rfl rfl (Nat.le_of_ble_eq_true rfl) ⟨(Nat.le_of_ble_eq_true rfl), (Nat.le_of_ble_eq_true rfl)⟩ dX7_deal_47) (fun r47 w47 => ?_)
        obtain ⟨g47_0, g47_1⟩ := w47
        have g47_0 : 0 ≤ r47.toInt := g47_0
        have g47_1 : r47.toInt ≤ 1 := g47_1
        refine k_cutA (fun (j75_C_h_3 : Nat → Int32) H locs ls => wX D [(a_h_3, .int), (a_h_1, .int)] s [(h, .inr (7, [.ref h_0, .ref h_1, .ref h_2, .ref h_3, .int h_4])), (h_3, .inl (a_h_3, 6, .inl j75_C_h_3)), (h_1, .inl (a_h_1, 6, .inl f_h_1))] H A s.heap locs ∧ lv_has ls 5 [(4, .int j37_L_4), (0, .ref h), (1, .int 4), (2, .int x1), (3, .int x2)]) (fun (j75_C_h_3 : Nat → Int32) ls => F0 m 75 ls []) (fun j75_C_h_3 H locs ls hi => ?_) (fun J75 => ?_)
        · obtain ⟨Wd, hl⟩ := hi
          obtain ⟨v75, ev75⟩ : ∃ z : Int32, j37_L_4 + 1 = z := ⟨_, rfl⟩
          have iv75 : v75.toInt = j37_L_4.toInt + 1 := kz_addc ev75 (by decide) (by have zr0 := kz_rng j37_L_4; omega) (by have zr0 := kz_rng j37_L_4; omega)
          refine lv_iinc (v := v75) (lv' := [(4, .int v75), (0, .ref h), (1, .int 4), (2, .int x1), (3, .int x2)]) C.1 C.2.1 dX7_deal_75 hl (k := 0) rfl ev75 (by decide) rfl (fun ls hl => ?_)
          refine lv_goto (tgt := 37) C.1 C.2.1 dX7_deal_78 (by decide) ?_
          exact ih37 (j75_C_h_3, v75) _ _ _ ⟨by omega, by omega, by omega, Wd, lv_sub hl [0, 1, 2, 3, 4] rfl⟩ (by show (7 - v75.toInt).toNat < (7 - j37_L_4.toInt).toNat; omega)
        refine lv_if_eq (tgt := 75) C.1 C.2.1 dX7_deal_50 (by decide) (fun c50 => ?_) (fun c50 => ?_)
        · have i50 : r47.toInt = 0 := kz_eq c50
          exact J75 j37_C_h_3 _ _ _ ⟨Wd, lv_sub hl [0, 1, 2, 3, 4] rfl⟩
        · have i50 : ¬ r47.toInt = 0 := kz_ne c50
          refine lv_aload_n C.1 C.2.1 dX7_deal_53 rfl (lv_at hl 1 rfl) ?_
          refine k_get C Wd KX7 0 3 rfl (by decide) fl_X7_25 rfl dX7_deal_54 ?_
          refine lv_iload_n C.1 C.2.1 dX7_deal_57 rfl (lv_at hl 2 rfl) ?_
          refine lv_iload C.1 C.2.1 dX7_deal_58 (lv_at hl 0 rfl) ?_
          obtain ⟨f60, ef60⟩ : ∃ z : Nat → Int32, upd j37_C_h_3 (4 : Int32).toNatClampNeg j37_L_4 = z := ⟨_, rfl⟩
          refine k_iast C Wd 1 0 [(h, .inr (7, [.ref h_0, .ref h_1, .ref h_2, .ref h_3, .int h_4])), (h_3, .inl (a_h_3, 6, .inl f60)), (h_1, .inl (a_h_1, 6, .inl f_h_1))] rfl rfl (vp_in_iff.mpr (by decide)) ef60 rfl dX7_deal_60 (fun H locs Wd => ?_)
          refine lv_aload_n C.1 C.2.1 dX7_deal_61 rfl (lv_at hl 1 rfl) ?_
          refine lv_iload_n C.1 C.2.1 dX7_deal_62 rfl (lv_at hl 2 rfl) ?_
          refine lv_iconst (v := 1) C.1 C.2.1 dX7_deal_63 (by decide) ?_
          refine k_iadd (v := 5) C (by decide) dX7_deal_64 ?_
          refine lv_iload_n C.1 C.2.1 dX7_deal_65 rfl (lv_at hl 3 rfl) ?_
          refine lv_iload_n C.1 C.2.1 dX7_deal_66 rfl (lv_at hl 4 rfl) ?_
          refine k_ci Wd [0, 1, 2] [] rfl (wr := []) rfl (by decide) (by decide) (cells' := 0) (slots' := 0) (by decide) (by decide) (k_runV (rest := []) C aks Wd cs_X7_74 (sX7_deal_c5 l D h x1 x2 h_0 h_1 h_2 h_3 h_4 a_h_3 f60 a_h_1 f_h_1 _ (by omega) (by omega)) [0, 1, 2] rfl (by decide) [0, 1] rfl 0 7 rfl rfl rfl rfl rfl ⟨(Nat.le_of_ble_eq_true rfl), (Nat.le_of_ble_eq_true rfl)⟩ hl.1 rfl rfl (Nat.le_of_ble_eq_true rfl) ⟨(Nat.le_of_ble_eq_true rfl), (Nat.le_of_ble_eq_true rfl)⟩ dX7_deal_67) (fun r67 s67_0 H locs w67 Wd => ?_)
          have Wd : wX D [(a_h_3, .int), (a_h_1, .int)] s [(h, .inr (7, [.ref h_0, .ref h_1, .ref h_2, .ref h_3, .int h_4])), (h_3, .inl (a_h_3, 6, .inl s67_0)), (h_1, .inl (a_h_1, 6, .inl f_h_1))] _ A s.heap _ := k_sub Wd [0, 1, 2] rfl (by decide) [0, 1] rfl
          obtain ⟨g67_0, g67_1⟩ := w67
          have g67_0 : 0 ≤ r67.toInt := g67_0
          have g67_1 : r67.toInt ≤ 1 := g67_1
          refine lv_if_eq (tgt := 75) C.1 C.2.1 dX7_deal_70 (by decide) (fun c70 => ?_) (fun c70 => ?_)
          · have i70 : r67.toInt = 0 := kz_eq c70
            exact J75 s67_0 _ _ _ ⟨Wd, lv_sub hl [0, 1, 2, 3, 4] rfl⟩
          · have i70 : ¬ r67.toInt = 0 := kz_ne c70
            refine lv_iconst (v := 1) C.1 C.2.1 dX7_deal_73 (by decide) ?_
            exact k_zret C hr hlk rfl Wd s67_0 (by exact ⟨by have zq1 : (1 : Int32).toInt = 1 := (by decide); omega, by have zq1 : (1 : Int32).toInt = 1 := (by decide); omega⟩) [0, 1, 2] rfl (by decide) [] rfl (by decide) (by decide) dX7_deal_74
    · have i21 : v20.toInt = 0 := kz_eq c21
      refine lv_aload_n C.1 C.2.1 dX7_deal_24 rfl (lv_at hl 0 rfl) ?_
      refine lv_iload_n C.1 C.2.1 dX7_deal_25 rfl (lv_at hl 1 rfl) ?_
      refine lv_iconst (v := 1) C.1 C.2.1 dX7_deal_26 (by decide) ?_
      refine k_iadd (v := 5) C (by decide) dX7_deal_27 ?_
      refine lv_iload_n C.1 C.2.1 dX7_deal_28 rfl (lv_at hl 2 rfl) ?_
      refine lv_iload_n C.1 C.2.1 dX7_deal_29 rfl (lv_at hl 3 rfl) ?_
      refine k_ci Wd [0, 1, 2] [] rfl (wr := []) rfl (by decide) (by decide) (cells' := 0) (slots' := 0) (by decide) (by decide) (k_runV (rest := []) C aks Wd cs_X7_74 (sX7_deal_c5 l D h x1 x2 h_0 h_1 h_2 h_3 h_4 a_h_3 f15 a_h_1 f_h_1 _ (by omega) (by omega)) [0, 1, 2] rfl (by decide) [0, 1] rfl 0 7 rfl rfl rfl rfl rfl ⟨(Nat.le_of_ble_eq_true rfl), (Nat.le_of_ble_eq_true rfl)⟩ hl.1 rfl rfl (Nat.le_of_ble_eq_true rfl) ⟨(Nat.le_of_ble_eq_true rfl), (Nat.le_of_ble_eq_true rfl)⟩ dX7_deal_30) (fun r30 s30_0 H locs w30 Wd => ?_)
      have Wd : wX D [(a_h_3, .int), (a_h_1, .int)] s [(h, .inr (7, [.ref h_0, .ref h_1, .ref h_2, .ref h_3, .int h_4])), (h_3, .inl (a_h_3, 6, .inl s30_0)), (h_1, .inl (a_h_1, 6, .inl f_h_1))] _ A s.heap _ := k_sub Wd [0, 1, 2] rfl (by decide) [0, 1] rfl
      obtain ⟨g30_0, g30_1⟩ := w30
      have g30_0 : 0 ≤ r30.toInt := g30_0
      have g30_1 : r30.toInt ≤ 1 := g30_1
      exact k_zret C hr hlk (k_nb (by omega) (by omega)) Wd s30_0 (by exact ⟨by omega, by omega⟩) [0, 1, 2] rfl (by decide) [] rfl (by decide) (by decide) dX7_deal_33
set_option maxHeartbeats 4000000 in
set_option maxRecDepth 100000 in
theorem sX7_deal_c3 (l : Launch) (D : va_G) (h : Nat) (x1 : Int32) (x2 : Int32) (h_0 : Nat) (h_1 : Nat) (h_2 : Nat) (h_3 : Nat) (h_4 : Int32) (a_h_3 : ClassId) (f_h_3 : Nat → Int32) (a_h_1 : ClassId) (f_h_1 : Nat → Int32) (sz : Nat) (k_x2_lo : 0 ≤ x2.toInt) (k_x2_hi : x2.toInt ≤ 6)  : Met l yX7_deal (Cond.code yX7_deal cX7_deal 5 (some .boolean) :: gG) { frames := 6, cells := 0, slots := 0, locals := 177 } (cPre D [(a_h_3, .int), (a_h_1, .int)] [(h, .inr (7, [.ref h_0, .ref h_1, .ref h_2, .ref h_3, .int h_4])), (h_3, .inl (a_h_3, 6, .inl f_h_3)), (h_1, .inl (a_h_1, 6, .inl f_h_1))] sz [.ref h, .int 3, .int x1, .int x2]) (va_Qi (fun (r : Int32) (jX_C_h_3 : Nat → Int32) => 0 ≤ r.toInt ∧ r.toInt ≤ 1) (fun u t => cB D (va_A [(h, .inr (7, [.ref h_0, .ref h_1, .ref h_2, .ref h_3, .int h_4])), (h_3, .inl (a_h_3, 6, .inl f_h_3)), (h_1, .inl (a_h_1, 6, .inl f_h_1))] sz) ((fun (_ : (Nat → Int32)) => ([] : List (ClassId × FieldType))) u) ((fun (jX_C_h_3 : Nat → Int32) => ([(h, .inr (7, [.ref h_0, .ref h_1, .ref h_2, .ref h_3, .int h_4])), (h_3, .inl (a_h_3, 6, .inl jX_C_h_3)), (h_1, .inl (a_h_1, 6, .inl f_h_1))] : va_W)) u) t) (va_A [(h, .inr (7, [.ref h_0, .ref h_1, .ref h_2, .ref h_3, .int h_4])), (h_3, .inl (a_h_3, 6, .inl f_h_3)), (h_1, .inl (a_h_1, 6, .inl f_h_1))] sz)) 0 0 (va_A [(h, .inr (7, [.ref h_0, .ref h_1, .ref h_2, .ref h_3, .int h_4])), (h_3, .inl (a_h_3, 6, .inl f_h_3)), (h_1, .inl (a_h_1, 6, .inl f_h_1))] sz) := by
  refine Met.ofW (cc := cX7_deal) (maxL := 5) (ret := (some .boolean)) (by decide) rfl ?_
  intro p e s m args below meth c s₁ B hml hv
  obtain ⟨rfl, aks, rfl, Wd⟩ := k_enter hv
  have C : CallFix p m c cX7_deal 5 s _ gG RX7 := ⟨B.exec, B.bytes, hml, findClass_of_methodNamed B.named, fun w h => atoms_spec (ws := Cond.code yX7_deal cX7_deal 5 (some .boolean) :: gG) B.pre w (List.mem_cons_of_mem _ h)⟩
  have hr := B.returns
  have hlk := B.notSynchronized
  generalize va_A [(h, .inr (7, [.ref h_0, .ref h_1, .ref h_2, .ref h_3, .int h_4])), (h_3, .inl (a_h_3, 6, .inl f_h_3)), (h_1, .inl (a_h_1, 6, .inl f_h_1))] s.heap.size = A at Wd ⊢
  refine k_locals (Nat.le_of_ble_eq_true rfl) [(0, .ref h), (1, .int 3), (2, .int x1), (3, .int x2)] rfl (fun ls hl => ?_)
  refine lv_iload_n C.1 C.2.1 dX7_deal_0 rfl (lv_at hl 1 rfl) ?_
  refine k_pi (k_runN (rest := []) C aks Wd aks.2.2.2 cs_X7_71 (sX11_isVariable l D 3 _ ) [] rfl (by decide) [] rfl rfl rfl ⟨(Nat.le_of_ble_eq_true rfl), (Nat.le_of_ble_eq_true rfl)⟩ hl.1 rfl rfl (Nat.le_of_ble_eq_true rfl) ⟨(Nat.le_of_ble_eq_true rfl), (Nat.le_of_ble_eq_true rfl)⟩ dX7_deal_1) (fun r1 w1 => ?_)
  rcases w1 with rfl | ⟨g1_1_0, g1_1_1, rfl⟩
  · refine lv_if_ne (tgt := 9) C.1 C.2.1 dX7_deal_4 (by decide) (fun c4 => absurd c4 (by decide)) (fun _ => ?_)
    refine lv_iconst (v := 1) C.1 C.2.1 dX7_deal_7 (by decide) ?_
    exact k_zret C hr hlk rfl Wd f_h_3 (by exact ⟨by have zq1 : (1 : Int32).toInt = 1 := (by decide); omega, by have zq1 : (1 : Int32).toInt = 1 := (by decide); omega⟩) [0, 1, 2] rfl (by decide) [] rfl (by decide) (by decide) dX7_deal_8
  · refine lv_if_ne (tgt := 9) C.1 C.2.1 dX7_deal_4 (by decide) (fun _ => ?_) (fun c4 => absurd c4 (by decide))
    refine lv_aload_n C.1 C.2.1 dX7_deal_9 rfl (lv_at hl 0 rfl) ?_
    refine k_get C Wd KX7 0 3 rfl (by decide) fl_X7_25 rfl dX7_deal_10 ?_
    refine lv_iload_n C.1 C.2.1 dX7_deal_13 rfl (lv_at hl 1 rfl) ?_
    refine lv_iconst (v := (-1)) C.1 C.2.1 dX7_deal_14 (by decide) ?_
    obtain ⟨f15, ef15⟩ : ∃ z : Nat → Int32, upd f_h_3 (3 : Int32).toNatClampNeg (-1) = z := ⟨_, rfl⟩
    refine k_iast C Wd 1 0 [(h, .inr (7, [.ref h_0, .ref h_1, .ref h_2, .ref h_3, .int h_4])), (h_3, .inl (a_h_3, 6, .inl f15)), (h_1, .inl (a_h_1, 6, .inl f_h_1))] rfl rfl (vp_in_iff.mpr (by decide)) ef15 rfl dX7_deal_15 (fun H locs Wd => ?_)
    refine lv_iload_n C.1 C.2.1 dX7_deal_16 rfl (lv_at hl 2 rfl) ?_
    refine lv_iload_n C.1 C.2.1 dX7_deal_17 rfl (lv_at hl 1 rfl) ?_
    obtain ⟨v18, ev18⟩ : ∃ z : Int32, x1 >>> (3 &&& 31) = z := ⟨_, rfl⟩
    refine k_ishr (v := v18) C ev18 dX7_deal_18 ?_
    refine lv_iconst (v := 1) C.1 C.2.1 dX7_deal_19 (by decide) ?_
    obtain ⟨v20, ev20⟩ : ∃ z : Int32, v18 &&& 1 = z := ⟨_, rfl⟩
    refine k_iand (v := v20) C ev20 dX7_deal_20 ?_
    refine lv_if_ne (tgt := 34) C.1 C.2.1 dX7_deal_21 (by decide) (fun c21 => ?_) (fun c21 => ?_)
    · have i21 : ¬ v20.toInt = 0 := kz_ne c21
      refine lv_iconst (v := 0) C.1 C.2.1 dX7_deal_34 (by decide) ?_
      refine lv_istore (lv' := [(4, .int 0), (0, .ref h), (1, .int 3), (2, .int x1), (3, .int x2)]) C.1 C.2.1 dX7_deal_35 hl (by decide) rfl (fun ls hl => ?_)
      refine k_loopA (fun (u : (Nat → Int32) × (Int32)) H locs ls => match u with | (j37_C_h_3, j37_L_4) => 0 ≤ j37_L_4.toInt ∧ j37_L_4.toInt ≤ 6 ∧ j37_L_4.toInt ≤ x2.toInt ∧ wX D [(a_h_3, .int), (a_h_1, .int)] s [(h, .inr (7, [.ref h_0, .ref h_1, .ref h_2, .ref h_3, .int h_4])), (h_3, .inl (a_h_3, 6, .inl j37_C_h_3)), (h_1, .inl (a_h_1, 6, .inl f_h_1))] H A s.heap locs ∧ lv_has ls 5 [(4, .int j37_L_4), (0, .ref h), (1, .int 3), (2, .int x1), (3, .int x2)]) (fun (u : (Nat → Int32) × (Int32)) ls => match u with | (j37_C_h_3, j37_L_4) => F0 m 37 ls []) (fun (u : (Nat → Int32) × (Int32)) => match u with | (j37_C_h_3, j37_L_4) => (7 - j37_L_4.toInt).toNat) (fun u H locs ls hi ih37 => ?_) (f15, 0) _ _ _ ⟨by have zq0 : (0 : Int32).toInt = 0 := (by decide); omega, by have zq0 : (0 : Int32).toInt = 0 := (by decide); omega, by have zq0 : (0 : Int32).toInt = 0 := (by decide); omega, Wd, lv_sub hl [0, 1, 2, 3, 4] rfl⟩
      obtain ⟨j37_C_h_3, j37_L_4⟩ := u
      obtain ⟨i37_0, i37_1, i37_2, Wd, hl⟩ := hi
      refine lv_iload C.1 C.2.1 dX7_deal_37 (lv_at hl 0 rfl) ?_
      refine lv_iload_n C.1 C.2.1 dX7_deal_39 rfl (lv_at hl 4 rfl) ?_
      refine lv_icmp_ge (tgt := 81) C.1 C.2.1 dX7_deal_40 (by decide) (fun c40 => ?_) (fun c40 => ?_)
      · have i40 : x2.toInt ≤ j37_L_4.toInt := kz_le c40
        refine lv_aload_n C.1 C.2.1 dX7_deal_81 rfl (lv_at hl 1 rfl) ?_
        refine k_get C Wd KX7 0 3 rfl (by decide) fl_X7_25 rfl dX7_deal_82 ?_
        refine lv_iload_n C.1 C.2.1 dX7_deal_85 rfl (lv_at hl 2 rfl) ?_
        refine lv_iconst (v := (-1)) C.1 C.2.1 dX7_deal_86 (by decide) ?_
        obtain ⟨f87, ef87⟩ : ∃ z : Nat → Int32, upd j37_C_h_3 (3 : Int32).toNatClampNeg (-1) = z := ⟨_, rfl⟩
        refine k_iast C Wd 1 0 [(h, .inr (7, [.ref h_0, .ref h_1, .ref h_2, .ref h_3, .int h_4])), (h_3, .inl (a_h_3, 6, .inl f87)), (h_1, .inl (a_h_1, 6, .inl f_h_1))] rfl rfl (vp_in_iff.mpr (by decide)) ef87 rfl dX7_deal_87 (fun H locs Wd => ?_)
        refine lv_iconst (v := 0) C.1 C.2.1 dX7_deal_88 (by decide) ?_
        exact k_zret C hr hlk rfl Wd f87 (by exact ⟨by have zq0 : (0 : Int32).toInt = 0 := (by decide); omega, by have zq0 : (0 : Int32).toInt = 0 := (by decide); omega⟩) [0, 1, 2] rfl (by decide) [] rfl (by decide) (by decide) dX7_deal_89
      · have i40 : j37_L_4.toInt < x2.toInt := kz_nle c40
        refine lv_aload_n C.1 C.2.1 dX7_deal_43 rfl (lv_at hl 1 rfl) ?_
        refine lv_iload_n C.1 C.2.1 dX7_deal_44 rfl (lv_at hl 2 rfl) ?_
        refine lv_iload C.1 C.2.1 dX7_deal_45 (lv_at hl 0 rfl) ?_
        refine k_pi (k_runV (rest := []) C aks Wd cs_X7_85 (sX7_isFree l D h 3 j37_L_4 h_0 h_1 h_2 h_3 h_4 a_h_3 j37_C_h_3 a_h_1 f_h_1 _ ) [0, 1, 2] rfl (by decide) [0, 1] rfl 0 7 rfl rfl rfl rfl rfl ⟨(Nat.le_of_ble_eq_true rfl), (Nat.le_of_ble_eq_true rfl)⟩ hl.1 rfl rfl (Nat.le_of_ble_eq_true rfl) ⟨(Nat.le_of_ble_eq_true rfl), (Nat.le_of_ble_eq_true rfl)⟩ dX7_deal_47) (fun r47 w47 => ?_)
        obtain ⟨g47_0, g47_1⟩ := w47
        have g47_0 : 0 ≤ r47.toInt := g47_0
        have g47_1 : r47.toInt ≤ 1 := g47_1
        refine k_cutA (fun (j75_C_h_3 : Nat → Int32) H locs ls => wX D [(a_h_3, .int), (a_h_1, .int)] s [(h, .inr (7, [.ref h_0, .ref h_1, .ref h_2, .ref h_3, .int h_4])), (h_3, .inl (a_h_3, 6, .inl j75_C_h_3)), (h_1, .inl (a_h_1, 6, .inl f_h_1))] H A s.heap locs ∧ lv_has ls 5 [(4, .int j37_L_4), (0, .ref h), (1, .int 3), (2, .int x1), (3, .int x2)]) (fun (j75_C_h_3 : Nat → Int32) ls => F0 m 75 ls []) (fun j75_C_h_3 H locs ls hi => ?_) (fun J75 => ?_)
        · obtain ⟨Wd, hl⟩ := hi
          obtain ⟨v75, ev75⟩ : ∃ z : Int32, j37_L_4 + 1 = z := ⟨_, rfl⟩
          have iv75 : v75.toInt = j37_L_4.toInt + 1 := kz_addc ev75 (by decide) (by have zr0 := kz_rng j37_L_4; omega) (by have zr0 := kz_rng j37_L_4; omega)
          refine lv_iinc (v := v75) (lv' := [(4, .int v75), (0, .ref h), (1, .int 3), (2, .int x1), (3, .int x2)]) C.1 C.2.1 dX7_deal_75 hl (k := 0) rfl ev75 (by decide) rfl (fun ls hl => ?_)
          refine lv_goto (tgt := 37) C.1 C.2.1 dX7_deal_78 (by decide) ?_
          exact ih37 (j75_C_h_3, v75) _ _ _ ⟨by omega, by omega, by omega, Wd, lv_sub hl [0, 1, 2, 3, 4] rfl⟩ (by show (7 - v75.toInt).toNat < (7 - j37_L_4.toInt).toNat; omega)
        refine lv_if_eq (tgt := 75) C.1 C.2.1 dX7_deal_50 (by decide) (fun c50 => ?_) (fun c50 => ?_)
        · have i50 : r47.toInt = 0 := kz_eq c50
          exact J75 j37_C_h_3 _ _ _ ⟨Wd, lv_sub hl [0, 1, 2, 3, 4] rfl⟩
        · have i50 : ¬ r47.toInt = 0 := kz_ne c50
          refine lv_aload_n C.1 C.2.1 dX7_deal_53 rfl (lv_at hl 1 rfl) ?_
          refine k_get C Wd KX7 0 3 rfl (by decide) fl_X7_25 rfl dX7_deal_54 ?_
          refine lv_iload_n C.1 C.2.1 dX7_deal_57 rfl (lv_at hl 2 rfl) ?_
          refine lv_iload C.1 C.2.1 dX7_deal_58 (lv_at hl 0 rfl) ?_
          obtain ⟨f60, ef60⟩ : ∃ z : Nat → Int32, upd j37_C_h_3 (3 : Int32).toNatClampNeg j37_L_4 = z := ⟨_, rfl⟩
          refine k_iast C Wd 1 0 [(h, .inr (7, [.ref h_0, .ref h_1, .ref h_2, .ref h_3, .int h_4])), (h_3, .inl (a_h_3, 6, .inl f60)), (h_1, .inl (a_h_1, 6, .inl f_h_1))] rfl rfl (vp_in_iff.mpr (by decide)) ef60 rfl dX7_deal_60 (fun H locs Wd => ?_)
          refine lv_aload_n C.1 C.2.1 dX7_deal_61 rfl (lv_at hl 1 rfl) ?_
          refine lv_iload_n C.1 C.2.1 dX7_deal_62 rfl (lv_at hl 2 rfl) ?_
          refine lv_iconst (v := 1) C.1 C.2.1 dX7_deal_63 (by decide) ?_
          refine k_iadd (v := 4) C (by decide) dX7_deal_64 ?_
          refine lv_iload_n C.1 C.2.1 dX7_deal_65 rfl (lv_at hl 3 rfl) ?_
          refine lv_iload_n C.1 C.2.1 dX7_deal_66 rfl (lv_at hl 4 rfl) ?_
          refine k_ci Wd [0, 1, 2] [] rfl (wr := []) rfl (by decide) (by decide) (cells' := 0) (slots' := 0) (by decide) (by decide) (k_runV (rest := []) C aks Wd cs_X7_74 (sX7_deal_c4 l D h x1 x2 h_0 h_1 h_2 h_3 h_4 a_h_3 f60 a_h_1 f_h_1 _ (by omega) (by omega)) [0, 1, 2] rfl (by decide) [0, 1] rfl 0 7 rfl rfl rfl rfl rfl ⟨(Nat.le_of_ble_eq_true rfl), (Nat.le_of_ble_eq_true rfl)⟩ hl.1 rfl rfl (Nat.le_of_ble_eq_true rfl) ⟨(Nat.le_of_ble_eq_true rfl), (Nat.le_of_ble_eq_true rfl)⟩ dX7_deal_67) (fun r67 s67_0 H locs w67 Wd => ?_)
          have Wd : wX D [(a_h_3, .int), (a_h_1, .int)] s [(h, .inr (7, [.ref h_0, .ref h_1, .ref h_2, .ref h_3, .int h_4])), (h_3, .inl (a_h_3, 6, .inl s67_0)), (h_1, .inl (a_h_1, 6, .inl f_h_1))] _ A s.heap _ := k_sub Wd [0, 1, 2] rfl (by decide) [0, 1] rfl
          obtain ⟨g67_0, g67_1⟩ := w67
          have g67_0 : 0 ≤ r67.toInt := g67_0
          have g67_1 : r67.toInt ≤ 1 := g67_1
          refine lv_if_eq (tgt := 75) C.1 C.2.1 dX7_deal_70 (by decide) (fun c70 => ?_) (fun c70 => ?_)
          · have i70 : r67.toInt = 0 := kz_eq c70
            exact J75 s67_0 _ _ _ ⟨Wd, lv_sub hl [0, 1, 2, 3, 4] rfl⟩
          · have i70 : ¬ r67.toInt = 0 := kz_ne c70
            refine lv_iconst (v := 1) C.1 C.2.1 dX7_deal_73 (by decide) ?_
            exact k_zret C hr hlk rfl Wd s67_0 (by exact ⟨by have zq1 : (1 : Int32).toInt = 1 := (by decide); omega, by have zq1 : (1 : Int32).toInt = 1 := (by decide); omega⟩) [0, 1, 2] rfl (by decide) [] rfl (by decide) (by decide) dX7_deal_74
    · have i21 : v20.toInt = 0 := kz_eq c21
      refine lv_aload_n C.1 C.2.1 dX7_deal_24 rfl (lv_at hl 0 rfl) ?_
      refine lv_iload_n C.1 C.2.1 dX7_deal_25 rfl (lv_at hl 1 rfl) ?_
      refine lv_iconst (v := 1) C.1 C.2.1 dX7_deal_26 (by decide) ?_
      refine k_iadd (v := 4) C (by decide) dX7_deal_27 ?_
      refine lv_iload_n C.1 C.2.1 dX7_deal_28 rfl (lv_at hl 2 rfl) ?_
      refine lv_iload_n C.1 C.2.1 dX7_deal_29 rfl (lv_at hl 3 rfl) ?_
      refine k_ci Wd [0, 1, 2] [] rfl (wr := []) rfl (by decide) (by decide) (cells' := 0) (slots' := 0) (by decide) (by decide) (k_runV (rest := []) C aks Wd cs_X7_74 (sX7_deal_c4 l D h x1 x2 h_0 h_1 h_2 h_3 h_4 a_h_3 f15 a_h_1 f_h_1 _ (by omega) (by omega)) [0, 1, 2] rfl (by decide) [0, 1] rfl 0 7 rfl rfl rfl rfl rfl ⟨(Nat.le_of_ble_eq_true rfl), (Nat.le_of_ble_eq_true rfl)⟩ hl.1 rfl rfl (Nat.le_of_ble_eq_true rfl) ⟨(Nat.le_of_ble_eq_true rfl), (Nat.le_of_ble_eq_true rfl)⟩ dX7_deal_30) (fun r30 s30_0 H locs w30 Wd => ?_)
      have Wd : wX D [(a_h_3, .int), (a_h_1, .int)] s [(h, .inr (7, [.ref h_0, .ref h_1, .ref h_2, .ref h_3, .int h_4])), (h_3, .inl (a_h_3, 6, .inl s30_0)), (h_1, .inl (a_h_1, 6, .inl f_h_1))] _ A s.heap _ := k_sub Wd [0, 1, 2] rfl (by decide) [0, 1] rfl
      obtain ⟨g30_0, g30_1⟩ := w30
      have g30_0 : 0 ≤ r30.toInt := g30_0
      have g30_1 : r30.toInt ≤ 1 := g30_1
      exact k_zret C hr hlk (k_nb (by omega) (by omega)) Wd s30_0 (by exact ⟨by omega, by omega⟩) [0, 1, 2] rfl (by decide) [] rfl (by decide) (by decide) dX7_deal_33
set_option maxHeartbeats 4000000 in
set_option maxRecDepth 100000 in
theorem sX7_deal_c2 (l : Launch) (D : va_G) (h : Nat) (x1 : Int32) (x2 : Int32) (h_0 : Nat) (h_1 : Nat) (h_2 : Nat) (h_3 : Nat) (h_4 : Int32) (a_h_3 : ClassId) (f_h_3 : Nat → Int32) (a_h_1 : ClassId) (f_h_1 : Nat → Int32) (sz : Nat) (k_x2_lo : 0 ≤ x2.toInt) (k_x2_hi : x2.toInt ≤ 6)  : Met l yX7_deal (Cond.code yX7_deal cX7_deal 5 (some .boolean) :: gG) { frames := 7, cells := 0, slots := 0, locals := 201 } (cPre D [(a_h_3, .int), (a_h_1, .int)] [(h, .inr (7, [.ref h_0, .ref h_1, .ref h_2, .ref h_3, .int h_4])), (h_3, .inl (a_h_3, 6, .inl f_h_3)), (h_1, .inl (a_h_1, 6, .inl f_h_1))] sz [.ref h, .int 2, .int x1, .int x2]) (va_Qi (fun (r : Int32) (jX_C_h_3 : Nat → Int32) => 0 ≤ r.toInt ∧ r.toInt ≤ 1) (fun u t => cB D (va_A [(h, .inr (7, [.ref h_0, .ref h_1, .ref h_2, .ref h_3, .int h_4])), (h_3, .inl (a_h_3, 6, .inl f_h_3)), (h_1, .inl (a_h_1, 6, .inl f_h_1))] sz) ((fun (_ : (Nat → Int32)) => ([] : List (ClassId × FieldType))) u) ((fun (jX_C_h_3 : Nat → Int32) => ([(h, .inr (7, [.ref h_0, .ref h_1, .ref h_2, .ref h_3, .int h_4])), (h_3, .inl (a_h_3, 6, .inl jX_C_h_3)), (h_1, .inl (a_h_1, 6, .inl f_h_1))] : va_W)) u) t) (va_A [(h, .inr (7, [.ref h_0, .ref h_1, .ref h_2, .ref h_3, .int h_4])), (h_3, .inl (a_h_3, 6, .inl f_h_3)), (h_1, .inl (a_h_1, 6, .inl f_h_1))] sz)) 0 0 (va_A [(h, .inr (7, [.ref h_0, .ref h_1, .ref h_2, .ref h_3, .int h_4])), (h_3, .inl (a_h_3, 6, .inl f_h_3)), (h_1, .inl (a_h_1, 6, .inl f_h_1))] sz) := by
  refine Met.ofW (cc := cX7_deal) (maxL := 5) (ret := (some .boolean)) (by decide) rfl ?_
  intro p e s m args below meth c s₁ B hml hv
  obtain ⟨rfl, aks, rfl, Wd⟩ := k_enter hv
  have C : CallFix p m c cX7_deal 5 s _ gG RX7 := ⟨B.exec, B.bytes, hml, findClass_of_methodNamed B.named, fun w h => atoms_spec (ws := Cond.code yX7_deal cX7_deal 5 (some .boolean) :: gG) B.pre w (List.mem_cons_of_mem _ h)⟩
  have hr := B.returns
  have hlk := B.notSynchronized
  generalize va_A [(h, .inr (7, [.ref h_0, .ref h_1, .ref h_2, .ref h_3, .int h_4])), (h_3, .inl (a_h_3, 6, .inl f_h_3)), (h_1, .inl (a_h_1, 6, .inl f_h_1))] s.heap.size = A at Wd ⊢
  refine k_locals (Nat.le_of_ble_eq_true rfl) [(0, .ref h), (1, .int 2), (2, .int x1), (3, .int x2)] rfl (fun ls hl => ?_)
  refine lv_iload_n C.1 C.2.1 dX7_deal_0 rfl (lv_at hl 1 rfl) ?_
  refine k_pi (k_runN (rest := []) C aks Wd aks.2.2.2 cs_X7_71 (sX11_isVariable l D 2 _ ) [] rfl (by decide) [] rfl rfl rfl ⟨(Nat.le_of_ble_eq_true rfl), (Nat.le_of_ble_eq_true rfl)⟩ hl.1 rfl rfl (Nat.le_of_ble_eq_true rfl) ⟨(Nat.le_of_ble_eq_true rfl), (Nat.le_of_ble_eq_true rfl)⟩ dX7_deal_1) (fun r1 w1 => ?_)
  rcases w1 with rfl | ⟨g1_1_0, g1_1_1, rfl⟩
  · refine lv_if_ne (tgt := 9) C.1 C.2.1 dX7_deal_4 (by decide) (fun c4 => absurd c4 (by decide)) (fun _ => ?_)
    refine lv_iconst (v := 1) C.1 C.2.1 dX7_deal_7 (by decide) ?_
    exact k_zret C hr hlk rfl Wd f_h_3 (by exact ⟨by have zq1 : (1 : Int32).toInt = 1 := (by decide); omega, by have zq1 : (1 : Int32).toInt = 1 := (by decide); omega⟩) [0, 1, 2] rfl (by decide) [] rfl (by decide) (by decide) dX7_deal_8
  · refine lv_if_ne (tgt := 9) C.1 C.2.1 dX7_deal_4 (by decide) (fun _ => ?_) (fun c4 => absurd c4 (by decide))
    refine lv_aload_n C.1 C.2.1 dX7_deal_9 rfl (lv_at hl 0 rfl) ?_
    refine k_get C Wd KX7 0 3 rfl (by decide) fl_X7_25 rfl dX7_deal_10 ?_
    refine lv_iload_n C.1 C.2.1 dX7_deal_13 rfl (lv_at hl 1 rfl) ?_
    refine lv_iconst (v := (-1)) C.1 C.2.1 dX7_deal_14 (by decide) ?_
    obtain ⟨f15, ef15⟩ : ∃ z : Nat → Int32, upd f_h_3 (2 : Int32).toNatClampNeg (-1) = z := ⟨_, rfl⟩
    refine k_iast C Wd 1 0 [(h, .inr (7, [.ref h_0, .ref h_1, .ref h_2, .ref h_3, .int h_4])), (h_3, .inl (a_h_3, 6, .inl f15)), (h_1, .inl (a_h_1, 6, .inl f_h_1))] rfl rfl (vp_in_iff.mpr (by decide)) ef15 rfl dX7_deal_15 (fun H locs Wd => ?_)
    refine lv_iload_n C.1 C.2.1 dX7_deal_16 rfl (lv_at hl 2 rfl) ?_
    refine lv_iload_n C.1 C.2.1 dX7_deal_17 rfl (lv_at hl 1 rfl) ?_
    obtain ⟨v18, ev18⟩ : ∃ z : Int32, x1 >>> (2 &&& 31) = z := ⟨_, rfl⟩
    refine k_ishr (v := v18) C ev18 dX7_deal_18 ?_
    refine lv_iconst (v := 1) C.1 C.2.1 dX7_deal_19 (by decide) ?_
    obtain ⟨v20, ev20⟩ : ∃ z : Int32, v18 &&& 1 = z := ⟨_, rfl⟩
    refine k_iand (v := v20) C ev20 dX7_deal_20 ?_
    refine lv_if_ne (tgt := 34) C.1 C.2.1 dX7_deal_21 (by decide) (fun c21 => ?_) (fun c21 => ?_)
    · have i21 : ¬ v20.toInt = 0 := kz_ne c21
      refine lv_iconst (v := 0) C.1 C.2.1 dX7_deal_34 (by decide) ?_
      refine lv_istore (lv' := [(4, .int 0), (0, .ref h), (1, .int 2), (2, .int x1), (3, .int x2)]) C.1 C.2.1 dX7_deal_35 hl (by decide) rfl (fun ls hl => ?_)
      refine k_loopA (fun (u : (Nat → Int32) × (Int32)) H locs ls => match u with | (j37_C_h_3, j37_L_4) => 0 ≤ j37_L_4.toInt ∧ j37_L_4.toInt ≤ 6 ∧ j37_L_4.toInt ≤ x2.toInt ∧ wX D [(a_h_3, .int), (a_h_1, .int)] s [(h, .inr (7, [.ref h_0, .ref h_1, .ref h_2, .ref h_3, .int h_4])), (h_3, .inl (a_h_3, 6, .inl j37_C_h_3)), (h_1, .inl (a_h_1, 6, .inl f_h_1))] H A s.heap locs ∧ lv_has ls 5 [(4, .int j37_L_4), (0, .ref h), (1, .int 2), (2, .int x1), (3, .int x2)]) (fun (u : (Nat → Int32) × (Int32)) ls => match u with | (j37_C_h_3, j37_L_4) => F0 m 37 ls []) (fun (u : (Nat → Int32) × (Int32)) => match u with | (j37_C_h_3, j37_L_4) => (7 - j37_L_4.toInt).toNat) (fun u H locs ls hi ih37 => ?_) (f15, 0) _ _ _ ⟨by have zq0 : (0 : Int32).toInt = 0 := (by decide); omega, by have zq0 : (0 : Int32).toInt = 0 := (by decide); omega, by have zq0 : (0 : Int32).toInt = 0 := (by decide); omega, Wd, lv_sub hl [0, 1, 2, 3, 4] rfl⟩
      obtain ⟨j37_C_h_3, j37_L_4⟩ := u
      obtain ⟨i37_0, i37_1, i37_2, Wd, hl⟩ := hi
      refine lv_iload C.1 C.2.1 dX7_deal_37 (lv_at hl 0 rfl) ?_
      refine lv_iload_n C.1 C.2.1 dX7_deal_39 rfl (lv_at hl 4 rfl) ?_
      refine lv_icmp_ge (tgt := 81) C.1 C.2.1 dX7_deal_40 (by decide) (fun c40 => ?_) (fun c40 => ?_)
      · have i40 : x2.toInt ≤ j37_L_4.toInt := kz_le c40
        refine lv_aload_n C.1 C.2.1 dX7_deal_81 rfl (lv_at hl 1 rfl) ?_
        refine k_get C Wd KX7 0 3 rfl (by decide) fl_X7_25 rfl dX7_deal_82 ?_
        refine lv_iload_n C.1 C.2.1 dX7_deal_85 rfl (lv_at hl 2 rfl) ?_
        refine lv_iconst (v := (-1)) C.1 C.2.1 dX7_deal_86 (by decide) ?_
        obtain ⟨f87, ef87⟩ : ∃ z : Nat → Int32, upd j37_C_h_3 (2 : Int32).toNatClampNeg (-1) = z := ⟨_, rfl⟩
        refine k_iast C Wd 1 0 [(h, .inr (7, [.ref h_0, .ref h_1, .ref h_2, .ref h_3, .int h_4])), (h_3, .inl (a_h_3, 6, .inl f87)), (h_1, .inl (a_h_1, 6, .inl f_h_1))] rfl rfl (vp_in_iff.mpr (by decide)) ef87 rfl dX7_deal_87 (fun H locs Wd => ?_)
        refine lv_iconst (v := 0) C.1 C.2.1 dX7_deal_88 (by decide) ?_
        exact k_zret C hr hlk rfl Wd f87 (by exact ⟨by have zq0 : (0 : Int32).toInt = 0 := (by decide); omega, by have zq0 : (0 : Int32).toInt = 0 := (by decide); omega⟩) [0, 1, 2] rfl (by decide) [] rfl (by decide) (by decide) dX7_deal_89
      · have i40 : j37_L_4.toInt < x2.toInt := kz_nle c40
        refine lv_aload_n C.1 C.2.1 dX7_deal_43 rfl (lv_at hl 1 rfl) ?_
        refine lv_iload_n C.1 C.2.1 dX7_deal_44 rfl (lv_at hl 2 rfl) ?_
        refine lv_iload C.1 C.2.1 dX7_deal_45 (lv_at hl 0 rfl) ?_
        refine k_pi (k_runV (rest := []) C aks Wd cs_X7_85 (sX7_isFree l D h 2 j37_L_4 h_0 h_1 h_2 h_3 h_4 a_h_3 j37_C_h_3 a_h_1 f_h_1 _ ) [0, 1, 2] rfl (by decide) [0, 1] rfl 0 7 rfl rfl rfl rfl rfl ⟨(Nat.le_of_ble_eq_true rfl), (Nat.le_of_ble_eq_true rfl)⟩ hl.1 rfl rfl (Nat.le_of_ble_eq_true rfl) ⟨(Nat.le_of_ble_eq_true rfl), (Nat.le_of_ble_eq_true rfl)⟩ dX7_deal_47) (fun r47 w47 => ?_)
        obtain ⟨g47_0, g47_1⟩ := w47
        have g47_0 : 0 ≤ r47.toInt := g47_0
        have g47_1 : r47.toInt ≤ 1 := g47_1
        refine k_cutA (fun (j75_C_h_3 : Nat → Int32) H locs ls => wX D [(a_h_3, .int), (a_h_1, .int)] s [(h, .inr (7, [.ref h_0, .ref h_1, .ref h_2, .ref h_3, .int h_4])), (h_3, .inl (a_h_3, 6, .inl j75_C_h_3)), (h_1, .inl (a_h_1, 6, .inl f_h_1))] H A s.heap locs ∧ lv_has ls 5 [(4, .int j37_L_4), (0, .ref h), (1, .int 2), (2, .int x1), (3, .int x2)]) (fun (j75_C_h_3 : Nat → Int32) ls => F0 m 75 ls []) (fun j75_C_h_3 H locs ls hi => ?_) (fun J75 => ?_)
        · obtain ⟨Wd, hl⟩ := hi
          obtain ⟨v75, ev75⟩ : ∃ z : Int32, j37_L_4 + 1 = z := ⟨_, rfl⟩
          have iv75 : v75.toInt = j37_L_4.toInt + 1 := kz_addc ev75 (by decide) (by have zr0 := kz_rng j37_L_4; omega) (by have zr0 := kz_rng j37_L_4; omega)
          refine lv_iinc (v := v75) (lv' := [(4, .int v75), (0, .ref h), (1, .int 2), (2, .int x1), (3, .int x2)]) C.1 C.2.1 dX7_deal_75 hl (k := 0) rfl ev75 (by decide) rfl (fun ls hl => ?_)
          refine lv_goto (tgt := 37) C.1 C.2.1 dX7_deal_78 (by decide) ?_
          exact ih37 (j75_C_h_3, v75) _ _ _ ⟨by omega, by omega, by omega, Wd, lv_sub hl [0, 1, 2, 3, 4] rfl⟩ (by show (7 - v75.toInt).toNat < (7 - j37_L_4.toInt).toNat; omega)
        refine lv_if_eq (tgt := 75) C.1 C.2.1 dX7_deal_50 (by decide) (fun c50 => ?_) (fun c50 => ?_)
        · have i50 : r47.toInt = 0 := kz_eq c50
          exact J75 j37_C_h_3 _ _ _ ⟨Wd, lv_sub hl [0, 1, 2, 3, 4] rfl⟩
        · have i50 : ¬ r47.toInt = 0 := kz_ne c50
          refine lv_aload_n C.1 C.2.1 dX7_deal_53 rfl (lv_at hl 1 rfl) ?_
          refine k_get C Wd KX7 0 3 rfl (by decide) fl_X7_25 rfl dX7_deal_54 ?_
          refine lv_iload_n C.1 C.2.1 dX7_deal_57 rfl (lv_at hl 2 rfl) ?_
          refine lv_iload C.1 C.2.1 dX7_deal_58 (lv_at hl 0 rfl) ?_
          obtain ⟨f60, ef60⟩ : ∃ z : Nat → Int32, upd j37_C_h_3 (2 : Int32).toNatClampNeg j37_L_4 = z := ⟨_, rfl⟩
          refine k_iast C Wd 1 0 [(h, .inr (7, [.ref h_0, .ref h_1, .ref h_2, .ref h_3, .int h_4])), (h_3, .inl (a_h_3, 6, .inl f60)), (h_1, .inl (a_h_1, 6, .inl f_h_1))] rfl rfl (vp_in_iff.mpr (by decide)) ef60 rfl dX7_deal_60 (fun H locs Wd => ?_)
          refine lv_aload_n C.1 C.2.1 dX7_deal_61 rfl (lv_at hl 1 rfl) ?_
          refine lv_iload_n C.1 C.2.1 dX7_deal_62 rfl (lv_at hl 2 rfl) ?_
          refine lv_iconst (v := 1) C.1 C.2.1 dX7_deal_63 (by decide) ?_
          refine k_iadd (v := 3) C (by decide) dX7_deal_64 ?_
          refine lv_iload_n C.1 C.2.1 dX7_deal_65 rfl (lv_at hl 3 rfl) ?_
          refine lv_iload_n C.1 C.2.1 dX7_deal_66 rfl (lv_at hl 4 rfl) ?_
          refine k_ci Wd [0, 1, 2] [] rfl (wr := []) rfl (by decide) (by decide) (cells' := 0) (slots' := 0) (by decide) (by decide) (k_runV (rest := []) C aks Wd cs_X7_74 (sX7_deal_c3 l D h x1 x2 h_0 h_1 h_2 h_3 h_4 a_h_3 f60 a_h_1 f_h_1 _ (by omega) (by omega)) [0, 1, 2] rfl (by decide) [0, 1] rfl 0 7 rfl rfl rfl rfl rfl ⟨(Nat.le_of_ble_eq_true rfl), (Nat.le_of_ble_eq_true rfl)⟩ hl.1 rfl rfl (Nat.le_of_ble_eq_true rfl) ⟨(Nat.le_of_ble_eq_true rfl), (Nat.le_of_ble_eq_true rfl)⟩ dX7_deal_67) (fun r67 s67_0 H locs w67 Wd => ?_)
          have Wd : wX D [(a_h_3, .int), (a_h_1, .int)] s [(h, .inr (7, [.ref h_0, .ref h_1, .ref h_2, .ref h_3, .int h_4])), (h_3, .inl (a_h_3, 6, .inl s67_0)), (h_1, .inl (a_h_1, 6, .inl f_h_1))] _ A s.heap _ := k_sub Wd [0, 1, 2] rfl (by decide) [0, 1] rfl
          obtain ⟨g67_0, g67_1⟩ := w67
          have g67_0 : 0 ≤ r67.toInt := g67_0
          have g67_1 : r67.toInt ≤ 1 := g67_1
          refine lv_if_eq (tgt := 75) C.1 C.2.1 dX7_deal_70 (by decide) (fun c70 => ?_) (fun c70 => ?_)
          · have i70 : r67.toInt = 0 := kz_eq c70
            exact J75 s67_0 _ _ _ ⟨Wd, lv_sub hl [0, 1, 2, 3, 4] rfl⟩
          · have i70 : ¬ r67.toInt = 0 := kz_ne c70
            refine lv_iconst (v := 1) C.1 C.2.1 dX7_deal_73 (by decide) ?_
            exact k_zret C hr hlk rfl Wd s67_0 (by exact ⟨by have zq1 : (1 : Int32).toInt = 1 := (by decide); omega, by have zq1 : (1 : Int32).toInt = 1 := (by decide); omega⟩) [0, 1, 2] rfl (by decide) [] rfl (by decide) (by decide) dX7_deal_74
    · have i21 : v20.toInt = 0 := kz_eq c21
      refine lv_aload_n C.1 C.2.1 dX7_deal_24 rfl (lv_at hl 0 rfl) ?_
      refine lv_iload_n C.1 C.2.1 dX7_deal_25 rfl (lv_at hl 1 rfl) ?_
      refine lv_iconst (v := 1) C.1 C.2.1 dX7_deal_26 (by decide) ?_
      refine k_iadd (v := 3) C (by decide) dX7_deal_27 ?_
      refine lv_iload_n C.1 C.2.1 dX7_deal_28 rfl (lv_at hl 2 rfl) ?_
      refine lv_iload_n C.1 C.2.1 dX7_deal_29 rfl (lv_at hl 3 rfl) ?_
      refine k_ci Wd [0, 1, 2] [] rfl (wr := []) rfl (by decide) (by decide) (cells' := 0) (slots' := 0) (by decide) (by decide) (k_runV (rest := []) C aks Wd cs_X7_74 (sX7_deal_c3 l D h x1 x2 h_0 h_1 h_2 h_3 h_4 a_h_3 f15 a_h_1 f_h_1 _ (by omega) (by omega)) [0, 1, 2] rfl (by decide) [0, 1] rfl 0 7 rfl rfl rfl rfl rfl ⟨(Nat.le_of_ble_eq_true rfl), (Nat.le_of_ble_eq_true rfl)⟩ hl.1 rfl rfl (Nat.le_of_ble_eq_true rfl) ⟨(Nat.le_of_ble_eq_true rfl), (Nat.le_of_ble_eq_true rfl)⟩ dX7_deal_30) (fun r30 s30_0 H locs w30 Wd => ?_)
      have Wd : wX D [(a_h_3, .int), (a_h_1, .int)] s [(h, .inr (7, [.ref h_0, .ref h_1, .ref h_2, .ref h_3, .int h_4])), (h_3, .inl (a_h_3, 6, .inl s30_0)), (h_1, .inl (a_h_1, 6, .inl f_h_1))] _ A s.heap _ := k_sub Wd [0, 1, 2] rfl (by decide) [0, 1] rfl
      obtain ⟨g30_0, g30_1⟩ := w30
      have g30_0 : 0 ≤ r30.toInt := g30_0
      have g30_1 : r30.toInt ≤ 1 := g30_1
      exact k_zret C hr hlk (k_nb (by omega) (by omega)) Wd s30_0 (by exact ⟨by omega, by omega⟩) [0, 1, 2] rfl (by decide) [] rfl (by decide) (by decide) dX7_deal_33
set_option maxHeartbeats 4000000 in
set_option maxRecDepth 100000 in
theorem sX7_deal_c1 (l : Launch) (D : va_G) (h : Nat) (x1 : Int32) (x2 : Int32) (h_0 : Nat) (h_1 : Nat) (h_2 : Nat) (h_3 : Nat) (h_4 : Int32) (a_h_3 : ClassId) (f_h_3 : Nat → Int32) (a_h_1 : ClassId) (f_h_1 : Nat → Int32) (sz : Nat) (k_x2_lo : 0 ≤ x2.toInt) (k_x2_hi : x2.toInt ≤ 6)  : Met l yX7_deal (Cond.code yX7_deal cX7_deal 5 (some .boolean) :: gG) { frames := 8, cells := 0, slots := 0, locals := 225 } (cPre D [(a_h_3, .int), (a_h_1, .int)] [(h, .inr (7, [.ref h_0, .ref h_1, .ref h_2, .ref h_3, .int h_4])), (h_3, .inl (a_h_3, 6, .inl f_h_3)), (h_1, .inl (a_h_1, 6, .inl f_h_1))] sz [.ref h, .int 1, .int x1, .int x2]) (va_Qi (fun (r : Int32) (jX_C_h_3 : Nat → Int32) => 0 ≤ r.toInt ∧ r.toInt ≤ 1) (fun u t => cB D (va_A [(h, .inr (7, [.ref h_0, .ref h_1, .ref h_2, .ref h_3, .int h_4])), (h_3, .inl (a_h_3, 6, .inl f_h_3)), (h_1, .inl (a_h_1, 6, .inl f_h_1))] sz) ((fun (_ : (Nat → Int32)) => ([] : List (ClassId × FieldType))) u) ((fun (jX_C_h_3 : Nat → Int32) => ([(h, .inr (7, [.ref h_0, .ref h_1, .ref h_2, .ref h_3, .int h_4])), (h_3, .inl (a_h_3, 6, .inl jX_C_h_3)), (h_1, .inl (a_h_1, 6, .inl f_h_1))] : va_W)) u) t) (va_A [(h, .inr (7, [.ref h_0, .ref h_1, .ref h_2, .ref h_3, .int h_4])), (h_3, .inl (a_h_3, 6, .inl f_h_3)), (h_1, .inl (a_h_1, 6, .inl f_h_1))] sz)) 0 0 (va_A [(h, .inr (7, [.ref h_0, .ref h_1, .ref h_2, .ref h_3, .int h_4])), (h_3, .inl (a_h_3, 6, .inl f_h_3)), (h_1, .inl (a_h_1, 6, .inl f_h_1))] sz) := by
  refine Met.ofW (cc := cX7_deal) (maxL := 5) (ret := (some .boolean)) (by decide) rfl ?_
  intro p e s m args below meth c s₁ B hml hv
  obtain ⟨rfl, aks, rfl, Wd⟩ := k_enter hv
  have C : CallFix p m c cX7_deal 5 s _ gG RX7 := ⟨B.exec, B.bytes, hml, findClass_of_methodNamed B.named, fun w h => atoms_spec (ws := Cond.code yX7_deal cX7_deal 5 (some .boolean) :: gG) B.pre w (List.mem_cons_of_mem _ h)⟩
  have hr := B.returns
  have hlk := B.notSynchronized
  generalize va_A [(h, .inr (7, [.ref h_0, .ref h_1, .ref h_2, .ref h_3, .int h_4])), (h_3, .inl (a_h_3, 6, .inl f_h_3)), (h_1, .inl (a_h_1, 6, .inl f_h_1))] s.heap.size = A at Wd ⊢
  refine k_locals (Nat.le_of_ble_eq_true rfl) [(0, .ref h), (1, .int 1), (2, .int x1), (3, .int x2)] rfl (fun ls hl => ?_)
  refine lv_iload_n C.1 C.2.1 dX7_deal_0 rfl (lv_at hl 1 rfl) ?_
  refine k_pi (k_runN (rest := []) C aks Wd aks.2.2.2 cs_X7_71 (sX11_isVariable l D 1 _ ) [] rfl (by decide) [] rfl rfl rfl ⟨(Nat.le_of_ble_eq_true rfl), (Nat.le_of_ble_eq_true rfl)⟩ hl.1 rfl rfl (Nat.le_of_ble_eq_true rfl) ⟨(Nat.le_of_ble_eq_true rfl), (Nat.le_of_ble_eq_true rfl)⟩ dX7_deal_1) (fun r1 w1 => ?_)
  rcases w1 with rfl | ⟨g1_1_0, g1_1_1, rfl⟩
  · refine lv_if_ne (tgt := 9) C.1 C.2.1 dX7_deal_4 (by decide) (fun c4 => absurd c4 (by decide)) (fun _ => ?_)
    refine lv_iconst (v := 1) C.1 C.2.1 dX7_deal_7 (by decide) ?_
    exact k_zret C hr hlk rfl Wd f_h_3 (by exact ⟨by have zq1 : (1 : Int32).toInt = 1 := (by decide); omega, by have zq1 : (1 : Int32).toInt = 1 := (by decide); omega⟩) [0, 1, 2] rfl (by decide) [] rfl (by decide) (by decide) dX7_deal_8
  · refine lv_if_ne (tgt := 9) C.1 C.2.1 dX7_deal_4 (by decide) (fun _ => ?_) (fun c4 => absurd c4 (by decide))
    refine lv_aload_n C.1 C.2.1 dX7_deal_9 rfl (lv_at hl 0 rfl) ?_
    refine k_get C Wd KX7 0 3 rfl (by decide) fl_X7_25 rfl dX7_deal_10 ?_
    refine lv_iload_n C.1 C.2.1 dX7_deal_13 rfl (lv_at hl 1 rfl) ?_
    refine lv_iconst (v := (-1)) C.1 C.2.1 dX7_deal_14 (by decide) ?_
    obtain ⟨f15, ef15⟩ : ∃ z : Nat → Int32, upd f_h_3 (1 : Int32).toNatClampNeg (-1) = z := ⟨_, rfl⟩
    refine k_iast C Wd 1 0 [(h, .inr (7, [.ref h_0, .ref h_1, .ref h_2, .ref h_3, .int h_4])), (h_3, .inl (a_h_3, 6, .inl f15)), (h_1, .inl (a_h_1, 6, .inl f_h_1))] rfl rfl (vp_in_iff.mpr (by decide)) ef15 rfl dX7_deal_15 (fun H locs Wd => ?_)
    refine lv_iload_n C.1 C.2.1 dX7_deal_16 rfl (lv_at hl 2 rfl) ?_
    refine lv_iload_n C.1 C.2.1 dX7_deal_17 rfl (lv_at hl 1 rfl) ?_
    obtain ⟨v18, ev18⟩ : ∃ z : Int32, x1 >>> (1 &&& 31) = z := ⟨_, rfl⟩
    refine k_ishr (v := v18) C ev18 dX7_deal_18 ?_
    refine lv_iconst (v := 1) C.1 C.2.1 dX7_deal_19 (by decide) ?_
    obtain ⟨v20, ev20⟩ : ∃ z : Int32, v18 &&& 1 = z := ⟨_, rfl⟩
    refine k_iand (v := v20) C ev20 dX7_deal_20 ?_
    refine lv_if_ne (tgt := 34) C.1 C.2.1 dX7_deal_21 (by decide) (fun c21 => ?_) (fun c21 => ?_)
    · have i21 : ¬ v20.toInt = 0 := kz_ne c21
      refine lv_iconst (v := 0) C.1 C.2.1 dX7_deal_34 (by decide) ?_
      refine lv_istore (lv' := [(4, .int 0), (0, .ref h), (1, .int 1), (2, .int x1), (3, .int x2)]) C.1 C.2.1 dX7_deal_35 hl (by decide) rfl (fun ls hl => ?_)
      refine k_loopA (fun (u : (Nat → Int32) × (Int32)) H locs ls => match u with | (j37_C_h_3, j37_L_4) => 0 ≤ j37_L_4.toInt ∧ j37_L_4.toInt ≤ 6 ∧ j37_L_4.toInt ≤ x2.toInt ∧ wX D [(a_h_3, .int), (a_h_1, .int)] s [(h, .inr (7, [.ref h_0, .ref h_1, .ref h_2, .ref h_3, .int h_4])), (h_3, .inl (a_h_3, 6, .inl j37_C_h_3)), (h_1, .inl (a_h_1, 6, .inl f_h_1))] H A s.heap locs ∧ lv_has ls 5 [(4, .int j37_L_4), (0, .ref h), (1, .int 1), (2, .int x1), (3, .int x2)]) (fun (u : (Nat → Int32) × (Int32)) ls => match u with | (j37_C_h_3, j37_L_4) => F0 m 37 ls []) (fun (u : (Nat → Int32) × (Int32)) => match u with | (j37_C_h_3, j37_L_4) => (7 - j37_L_4.toInt).toNat) (fun u H locs ls hi ih37 => ?_) (f15, 0) _ _ _ ⟨by have zq0 : (0 : Int32).toInt = 0 := (by decide); omega, by have zq0 : (0 : Int32).toInt = 0 := (by decide); omega, by have zq0 : (0 : Int32).toInt = 0 := (by decide); omega, Wd, lv_sub hl [0, 1, 2, 3, 4] rfl⟩
      obtain ⟨j37_C_h_3, j37_L_4⟩ := u
      obtain ⟨i37_0, i37_1, i37_2, Wd, hl⟩ := hi
      refine lv_iload C.1 C.2.1 dX7_deal_37 (lv_at hl 0 rfl) ?_
      refine lv_iload_n C.1 C.2.1 dX7_deal_39 rfl (lv_at hl 4 rfl) ?_
      refine lv_icmp_ge (tgt := 81) C.1 C.2.1 dX7_deal_40 (by decide) (fun c40 => ?_) (fun c40 => ?_)
      · have i40 : x2.toInt ≤ j37_L_4.toInt := kz_le c40
        refine lv_aload_n C.1 C.2.1 dX7_deal_81 rfl (lv_at hl 1 rfl) ?_
        refine k_get C Wd KX7 0 3 rfl (by decide) fl_X7_25 rfl dX7_deal_82 ?_
        refine lv_iload_n C.1 C.2.1 dX7_deal_85 rfl (lv_at hl 2 rfl) ?_
        refine lv_iconst (v := (-1)) C.1 C.2.1 dX7_deal_86 (by decide) ?_
        obtain ⟨f87, ef87⟩ : ∃ z : Nat → Int32, upd j37_C_h_3 (1 : Int32).toNatClampNeg (-1) = z := ⟨_, rfl⟩
        refine k_iast C Wd 1 0 [(h, .inr (7, [.ref h_0, .ref h_1, .ref h_2, .ref h_3, .int h_4])), (h_3, .inl (a_h_3, 6, .inl f87)), (h_1, .inl (a_h_1, 6, .inl f_h_1))] rfl rfl (vp_in_iff.mpr (by decide)) ef87 rfl dX7_deal_87 (fun H locs Wd => ?_)
        refine lv_iconst (v := 0) C.1 C.2.1 dX7_deal_88 (by decide) ?_
        exact k_zret C hr hlk rfl Wd f87 (by exact ⟨by have zq0 : (0 : Int32).toInt = 0 := (by decide); omega, by have zq0 : (0 : Int32).toInt = 0 := (by decide); omega⟩) [0, 1, 2] rfl (by decide) [] rfl (by decide) (by decide) dX7_deal_89
      · have i40 : j37_L_4.toInt < x2.toInt := kz_nle c40
        refine lv_aload_n C.1 C.2.1 dX7_deal_43 rfl (lv_at hl 1 rfl) ?_
        refine lv_iload_n C.1 C.2.1 dX7_deal_44 rfl (lv_at hl 2 rfl) ?_
        refine lv_iload C.1 C.2.1 dX7_deal_45 (lv_at hl 0 rfl) ?_
        refine k_pi (k_runV (rest := []) C aks Wd cs_X7_85 (sX7_isFree l D h 1 j37_L_4 h_0 h_1 h_2 h_3 h_4 a_h_3 j37_C_h_3 a_h_1 f_h_1 _ ) [0, 1, 2] rfl (by decide) [0, 1] rfl 0 7 rfl rfl rfl rfl rfl ⟨(Nat.le_of_ble_eq_true rfl), (Nat.le_of_ble_eq_true rfl)⟩ hl.1 rfl rfl (Nat.le_of_ble_eq_true rfl) ⟨(Nat.le_of_ble_eq_true rfl), (Nat.le_of_ble_eq_true rfl)⟩ dX7_deal_47) (fun r47 w47 => ?_)
        obtain ⟨g47_0, g47_1⟩ := w47
        have g47_0 : 0 ≤ r47.toInt := g47_0
        have g47_1 : r47.toInt ≤ 1 := g47_1
        refine k_cutA (fun (j75_C_h_3 : Nat → Int32) H locs ls => wX D [(a_h_3, .int), (a_h_1, .int)] s [(h, .inr (7, [.ref h_0, .ref h_1, .ref h_2, .ref h_3, .int h_4])), (h_3, .inl (a_h_3, 6, .inl j75_C_h_3)), (h_1, .inl (a_h_1, 6, .inl f_h_1))] H A s.heap locs ∧ lv_has ls 5 [(4, .int j37_L_4), (0, .ref h), (1, .int 1), (2, .int x1), (3, .int x2)]) (fun (j75_C_h_3 : Nat → Int32) ls => F0 m 75 ls []) (fun j75_C_h_3 H locs ls hi => ?_) (fun J75 => ?_)
        · obtain ⟨Wd, hl⟩ := hi
          obtain ⟨v75, ev75⟩ : ∃ z : Int32, j37_L_4 + 1 = z := ⟨_, rfl⟩
          have iv75 : v75.toInt = j37_L_4.toInt + 1 := kz_addc ev75 (by decide) (by have zr0 := kz_rng j37_L_4; omega) (by have zr0 := kz_rng j37_L_4; omega)
          refine lv_iinc (v := v75) (lv' := [(4, .int v75), (0, .ref h), (1, .int 1), (2, .int x1), (3, .int x2)]) C.1 C.2.1 dX7_deal_75 hl (k := 0) rfl ev75 (by decide) rfl (fun ls hl => ?_)
          refine lv_goto (tgt := 37) C.1 C.2.1 dX7_deal_78 (by decide) ?_
          exact ih37 (j75_C_h_3, v75) _ _ _ ⟨by omega, by omega, by omega, Wd, lv_sub hl [0, 1, 2, 3, 4] rfl⟩ (by show (7 - v75.toInt).toNat < (7 - j37_L_4.toInt).toNat; omega)
        refine lv_if_eq (tgt := 75) C.1 C.2.1 dX7_deal_50 (by decide) (fun c50 => ?_) (fun c50 => ?_)
        · have i50 : r47.toInt = 0 := kz_eq c50
          exact J75 j37_C_h_3 _ _ _ ⟨Wd, lv_sub hl [0, 1, 2, 3, 4] rfl⟩
        · have i50 : ¬ r47.toInt = 0 := kz_ne c50
          refine lv_aload_n C.1 C.2.1 dX7_deal_53 rfl (lv_at hl 1 rfl) ?_
          refine k_get C Wd KX7 0 3 rfl (by decide) fl_X7_25 rfl dX7_deal_54 ?_
          refine lv_iload_n C.1 C.2.1 dX7_deal_57 rfl (lv_at hl 2 rfl) ?_
          refine lv_iload C.1 C.2.1 dX7_deal_58 (lv_at hl 0 rfl) ?_
          obtain ⟨f60, ef60⟩ : ∃ z : Nat → Int32, upd j37_C_h_3 (1 : Int32).toNatClampNeg j37_L_4 = z := ⟨_, rfl⟩
          refine k_iast C Wd 1 0 [(h, .inr (7, [.ref h_0, .ref h_1, .ref h_2, .ref h_3, .int h_4])), (h_3, .inl (a_h_3, 6, .inl f60)), (h_1, .inl (a_h_1, 6, .inl f_h_1))] rfl rfl (vp_in_iff.mpr (by decide)) ef60 rfl dX7_deal_60 (fun H locs Wd => ?_)
          refine lv_aload_n C.1 C.2.1 dX7_deal_61 rfl (lv_at hl 1 rfl) ?_
          refine lv_iload_n C.1 C.2.1 dX7_deal_62 rfl (lv_at hl 2 rfl) ?_
          refine lv_iconst (v := 1) C.1 C.2.1 dX7_deal_63 (by decide) ?_
          refine k_iadd (v := 2) C (by decide) dX7_deal_64 ?_
          refine lv_iload_n C.1 C.2.1 dX7_deal_65 rfl (lv_at hl 3 rfl) ?_
          refine lv_iload_n C.1 C.2.1 dX7_deal_66 rfl (lv_at hl 4 rfl) ?_
          refine k_ci Wd [0, 1, 2] [] rfl (wr := []) rfl (by decide) (by decide) (cells' := 0) (slots' := 0) (by decide) (by decide) (k_runV (rest := []) C aks Wd cs_X7_74 (sX7_deal_c2 l D h x1 x2 h_0 h_1 h_2 h_3 h_4 a_h_3 f60 a_h_1 f_h_1 _ (by omega) (by omega)) [0, 1, 2] rfl (by decide) [0, 1] rfl 0 7 rfl rfl rfl rfl rfl ⟨(Nat.le_of_ble_eq_true rfl), (Nat.le_of_ble_eq_true rfl)⟩ hl.1 rfl rfl (Nat.le_of_ble_eq_true rfl) ⟨(Nat.le_of_ble_eq_true rfl), (Nat.le_of_ble_eq_true rfl)⟩ dX7_deal_67) (fun r67 s67_0 H locs w67 Wd => ?_)
          have Wd : wX D [(a_h_3, .int), (a_h_1, .int)] s [(h, .inr (7, [.ref h_0, .ref h_1, .ref h_2, .ref h_3, .int h_4])), (h_3, .inl (a_h_3, 6, .inl s67_0)), (h_1, .inl (a_h_1, 6, .inl f_h_1))] _ A s.heap _ := k_sub Wd [0, 1, 2] rfl (by decide) [0, 1] rfl
          obtain ⟨g67_0, g67_1⟩ := w67
          have g67_0 : 0 ≤ r67.toInt := g67_0
          have g67_1 : r67.toInt ≤ 1 := g67_1
          refine lv_if_eq (tgt := 75) C.1 C.2.1 dX7_deal_70 (by decide) (fun c70 => ?_) (fun c70 => ?_)
          · have i70 : r67.toInt = 0 := kz_eq c70
            exact J75 s67_0 _ _ _ ⟨Wd, lv_sub hl [0, 1, 2, 3, 4] rfl⟩
          · have i70 : ¬ r67.toInt = 0 := kz_ne c70
            refine lv_iconst (v := 1) C.1 C.2.1 dX7_deal_73 (by decide) ?_
            exact k_zret C hr hlk rfl Wd s67_0 (by exact ⟨by have zq1 : (1 : Int32).toInt = 1 := (by decide); omega, by have zq1 : (1 : Int32).toInt = 1 := (by decide); omega⟩) [0, 1, 2] rfl (by decide) [] rfl (by decide) (by decide) dX7_deal_74
    · have i21 : v20.toInt = 0 := kz_eq c21
      refine lv_aload_n C.1 C.2.1 dX7_deal_24 rfl (lv_at hl 0 rfl) ?_
      refine lv_iload_n C.1 C.2.1 dX7_deal_25 rfl (lv_at hl 1 rfl) ?_
      refine lv_iconst (v := 1) C.1 C.2.1 dX7_deal_26 (by decide) ?_
      refine k_iadd (v := 2) C (by decide) dX7_deal_27 ?_
      refine lv_iload_n C.1 C.2.1 dX7_deal_28 rfl (lv_at hl 2 rfl) ?_
      refine lv_iload_n C.1 C.2.1 dX7_deal_29 rfl (lv_at hl 3 rfl) ?_
      refine k_ci Wd [0, 1, 2] [] rfl (wr := []) rfl (by decide) (by decide) (cells' := 0) (slots' := 0) (by decide) (by decide) (k_runV (rest := []) C aks Wd cs_X7_74 (sX7_deal_c2 l D h x1 x2 h_0 h_1 h_2 h_3 h_4 a_h_3 f15 a_h_1 f_h_1 _ (by omega) (by omega)) [0, 1, 2] rfl (by decide) [0, 1] rfl 0 7 rfl rfl rfl rfl rfl ⟨(Nat.le_of_ble_eq_true rfl), (Nat.le_of_ble_eq_true rfl)⟩ hl.1 rfl rfl (Nat.le_of_ble_eq_true rfl) ⟨(Nat.le_of_ble_eq_true rfl), (Nat.le_of_ble_eq_true rfl)⟩ dX7_deal_30) (fun r30 s30_0 H locs w30 Wd => ?_)
      have Wd : wX D [(a_h_3, .int), (a_h_1, .int)] s [(h, .inr (7, [.ref h_0, .ref h_1, .ref h_2, .ref h_3, .int h_4])), (h_3, .inl (a_h_3, 6, .inl s30_0)), (h_1, .inl (a_h_1, 6, .inl f_h_1))] _ A s.heap _ := k_sub Wd [0, 1, 2] rfl (by decide) [0, 1] rfl
      obtain ⟨g30_0, g30_1⟩ := w30
      have g30_0 : 0 ≤ r30.toInt := g30_0
      have g30_1 : r30.toInt ≤ 1 := g30_1
      exact k_zret C hr hlk (k_nb (by omega) (by omega)) Wd s30_0 (by exact ⟨by omega, by omega⟩) [0, 1, 2] rfl (by decide) [] rfl (by decide) (by decide) dX7_deal_33
set_option maxHeartbeats 4000000 in
set_option maxRecDepth 100000 in
theorem sX7_deal_c0 (l : Launch) (D : va_G) (h : Nat) (x1 : Int32) (x2 : Int32) (h_0 : Nat) (h_1 : Nat) (h_2 : Nat) (h_3 : Nat) (h_4 : Int32) (a_h_3 : ClassId) (f_h_3 : Nat → Int32) (a_h_1 : ClassId) (f_h_1 : Nat → Int32) (sz : Nat) (k_x2_lo : 0 ≤ x2.toInt) (k_x2_hi : x2.toInt ≤ 6)  : Met l yX7_deal (Cond.code yX7_deal cX7_deal 5 (some .boolean) :: gG) { frames := 9, cells := 0, slots := 0, locals := 249 } (cPre D [(a_h_3, .int), (a_h_1, .int)] [(h, .inr (7, [.ref h_0, .ref h_1, .ref h_2, .ref h_3, .int h_4])), (h_3, .inl (a_h_3, 6, .inl f_h_3)), (h_1, .inl (a_h_1, 6, .inl f_h_1))] sz [.ref h, .int 0, .int x1, .int x2]) (va_Qi (fun (r : Int32) (jX_C_h_3 : Nat → Int32) => 0 ≤ r.toInt ∧ r.toInt ≤ 1) (fun u t => cB D (va_A [(h, .inr (7, [.ref h_0, .ref h_1, .ref h_2, .ref h_3, .int h_4])), (h_3, .inl (a_h_3, 6, .inl f_h_3)), (h_1, .inl (a_h_1, 6, .inl f_h_1))] sz) ((fun (_ : (Nat → Int32)) => ([] : List (ClassId × FieldType))) u) ((fun (jX_C_h_3 : Nat → Int32) => ([(h, .inr (7, [.ref h_0, .ref h_1, .ref h_2, .ref h_3, .int h_4])), (h_3, .inl (a_h_3, 6, .inl jX_C_h_3)), (h_1, .inl (a_h_1, 6, .inl f_h_1))] : va_W)) u) t) (va_A [(h, .inr (7, [.ref h_0, .ref h_1, .ref h_2, .ref h_3, .int h_4])), (h_3, .inl (a_h_3, 6, .inl f_h_3)), (h_1, .inl (a_h_1, 6, .inl f_h_1))] sz)) 0 0 (va_A [(h, .inr (7, [.ref h_0, .ref h_1, .ref h_2, .ref h_3, .int h_4])), (h_3, .inl (a_h_3, 6, .inl f_h_3)), (h_1, .inl (a_h_1, 6, .inl f_h_1))] sz) := by
  refine Met.ofW (cc := cX7_deal) (maxL := 5) (ret := (some .boolean)) (by decide) rfl ?_
  intro p e s m args below meth c s₁ B hml hv
  obtain ⟨rfl, aks, rfl, Wd⟩ := k_enter hv
  have C : CallFix p m c cX7_deal 5 s _ gG RX7 := ⟨B.exec, B.bytes, hml, findClass_of_methodNamed B.named, fun w h => atoms_spec (ws := Cond.code yX7_deal cX7_deal 5 (some .boolean) :: gG) B.pre w (List.mem_cons_of_mem _ h)⟩
  have hr := B.returns
  have hlk := B.notSynchronized
  generalize va_A [(h, .inr (7, [.ref h_0, .ref h_1, .ref h_2, .ref h_3, .int h_4])), (h_3, .inl (a_h_3, 6, .inl f_h_3)), (h_1, .inl (a_h_1, 6, .inl f_h_1))] s.heap.size = A at Wd ⊢
  refine k_locals (Nat.le_of_ble_eq_true rfl) [(0, .ref h), (1, .int 0), (2, .int x1), (3, .int x2)] rfl (fun ls hl => ?_)
  refine lv_iload_n C.1 C.2.1 dX7_deal_0 rfl (lv_at hl 1 rfl) ?_
  refine k_pi (k_runN (rest := []) C aks Wd aks.2.2.2 cs_X7_71 (sX11_isVariable l D 0 _ ) [] rfl (by decide) [] rfl rfl rfl ⟨(Nat.le_of_ble_eq_true rfl), (Nat.le_of_ble_eq_true rfl)⟩ hl.1 rfl rfl (Nat.le_of_ble_eq_true rfl) ⟨(Nat.le_of_ble_eq_true rfl), (Nat.le_of_ble_eq_true rfl)⟩ dX7_deal_1) (fun r1 w1 => ?_)
  rcases w1 with rfl | ⟨g1_1_0, g1_1_1, rfl⟩
  · refine lv_if_ne (tgt := 9) C.1 C.2.1 dX7_deal_4 (by decide) (fun c4 => absurd c4 (by decide)) (fun _ => ?_)
    refine lv_iconst (v := 1) C.1 C.2.1 dX7_deal_7 (by decide) ?_
    exact k_zret C hr hlk rfl Wd f_h_3 (by exact ⟨by have zq1 : (1 : Int32).toInt = 1 := (by decide); omega, by have zq1 : (1 : Int32).toInt = 1 := (by decide); omega⟩) [0, 1, 2] rfl (by decide) [] rfl (by decide) (by decide) dX7_deal_8
  · refine lv_if_ne (tgt := 9) C.1 C.2.1 dX7_deal_4 (by decide) (fun _ => ?_) (fun c4 => absurd c4 (by decide))
    refine lv_aload_n C.1 C.2.1 dX7_deal_9 rfl (lv_at hl 0 rfl) ?_
    refine k_get C Wd KX7 0 3 rfl (by decide) fl_X7_25 rfl dX7_deal_10 ?_
    refine lv_iload_n C.1 C.2.1 dX7_deal_13 rfl (lv_at hl 1 rfl) ?_
    refine lv_iconst (v := (-1)) C.1 C.2.1 dX7_deal_14 (by decide) ?_
    obtain ⟨f15, ef15⟩ : ∃ z : Nat → Int32, upd f_h_3 (0 : Int32).toNatClampNeg (-1) = z := ⟨_, rfl⟩
    refine k_iast C Wd 1 0 [(h, .inr (7, [.ref h_0, .ref h_1, .ref h_2, .ref h_3, .int h_4])), (h_3, .inl (a_h_3, 6, .inl f15)), (h_1, .inl (a_h_1, 6, .inl f_h_1))] rfl rfl (vp_in_iff.mpr (by decide)) ef15 rfl dX7_deal_15 (fun H locs Wd => ?_)
    refine lv_iload_n C.1 C.2.1 dX7_deal_16 rfl (lv_at hl 2 rfl) ?_
    refine lv_iload_n C.1 C.2.1 dX7_deal_17 rfl (lv_at hl 1 rfl) ?_
    obtain ⟨v18, ev18⟩ : ∃ z : Int32, x1 >>> (0 &&& 31) = z := ⟨_, rfl⟩
    refine k_ishr (v := v18) C ev18 dX7_deal_18 ?_
    refine lv_iconst (v := 1) C.1 C.2.1 dX7_deal_19 (by decide) ?_
    obtain ⟨v20, ev20⟩ : ∃ z : Int32, v18 &&& 1 = z := ⟨_, rfl⟩
    refine k_iand (v := v20) C ev20 dX7_deal_20 ?_
    refine lv_if_ne (tgt := 34) C.1 C.2.1 dX7_deal_21 (by decide) (fun c21 => ?_) (fun c21 => ?_)
    · have i21 : ¬ v20.toInt = 0 := kz_ne c21
      refine lv_iconst (v := 0) C.1 C.2.1 dX7_deal_34 (by decide) ?_
      refine lv_istore (lv' := [(4, .int 0), (0, .ref h), (1, .int 0), (2, .int x1), (3, .int x2)]) C.1 C.2.1 dX7_deal_35 hl (by decide) rfl (fun ls hl => ?_)
      refine k_loopA (fun (u : (Nat → Int32) × (Int32)) H locs ls => match u with | (j37_C_h_3, j37_L_4) => 0 ≤ j37_L_4.toInt ∧ j37_L_4.toInt ≤ 6 ∧ j37_L_4.toInt ≤ x2.toInt ∧ wX D [(a_h_3, .int), (a_h_1, .int)] s [(h, .inr (7, [.ref h_0, .ref h_1, .ref h_2, .ref h_3, .int h_4])), (h_3, .inl (a_h_3, 6, .inl j37_C_h_3)), (h_1, .inl (a_h_1, 6, .inl f_h_1))] H A s.heap locs ∧ lv_has ls 5 [(4, .int j37_L_4), (0, .ref h), (1, .int 0), (2, .int x1), (3, .int x2)]) (fun (u : (Nat → Int32) × (Int32)) ls => match u with | (j37_C_h_3, j37_L_4) => F0 m 37 ls []) (fun (u : (Nat → Int32) × (Int32)) => match u with | (j37_C_h_3, j37_L_4) => (7 - j37_L_4.toInt).toNat) (fun u H locs ls hi ih37 => ?_) (f15, 0) _ _ _ ⟨by have zq0 : (0 : Int32).toInt = 0 := (by decide); omega, by have zq0 : (0 : Int32).toInt = 0 := (by decide); omega, by have zq0 : (0 : Int32).toInt = 0 := (by decide); omega, Wd, lv_sub hl [0, 1, 2, 3, 4] rfl⟩
      obtain ⟨j37_C_h_3, j37_L_4⟩ := u
      obtain ⟨i37_0, i37_1, i37_2, Wd, hl⟩ := hi
      refine lv_iload C.1 C.2.1 dX7_deal_37 (lv_at hl 0 rfl) ?_
      refine lv_iload_n C.1 C.2.1 dX7_deal_39 rfl (lv_at hl 4 rfl) ?_
      refine lv_icmp_ge (tgt := 81) C.1 C.2.1 dX7_deal_40 (by decide) (fun c40 => ?_) (fun c40 => ?_)
      · have i40 : x2.toInt ≤ j37_L_4.toInt := kz_le c40
        refine lv_aload_n C.1 C.2.1 dX7_deal_81 rfl (lv_at hl 1 rfl) ?_
        refine k_get C Wd KX7 0 3 rfl (by decide) fl_X7_25 rfl dX7_deal_82 ?_
        refine lv_iload_n C.1 C.2.1 dX7_deal_85 rfl (lv_at hl 2 rfl) ?_
        refine lv_iconst (v := (-1)) C.1 C.2.1 dX7_deal_86 (by decide) ?_
        obtain ⟨f87, ef87⟩ : ∃ z : Nat → Int32, upd j37_C_h_3 (0 : Int32).toNatClampNeg (-1) = z := ⟨_, rfl⟩
        refine k_iast C Wd 1 0 [(h, .inr (7, [.ref h_0, .ref h_1, .ref h_2, .ref h_3, .int h_4])), (h_3, .inl (a_h_3, 6, .inl f87)), (h_1, .inl (a_h_1, 6, .inl f_h_1))] rfl rfl (vp_in_iff.mpr (by decide)) ef87 rfl dX7_deal_87 (fun H locs Wd => ?_)
        refine lv_iconst (v := 0) C.1 C.2.1 dX7_deal_88 (by decide) ?_
        exact k_zret C hr hlk rfl Wd f87 (by exact ⟨by have zq0 : (0 : Int32).toInt = 0 := (by decide); omega, by have zq0 : (0 : Int32).toInt = 0 := (by decide); omega⟩) [0, 1, 2] rfl (by decide) [] rfl (by decide) (by decide) dX7_deal_89
      · have i40 : j37_L_4.toInt < x2.toInt := kz_nle c40
        refine lv_aload_n C.1 C.2.1 dX7_deal_43 rfl (lv_at hl 1 rfl) ?_
        refine lv_iload_n C.1 C.2.1 dX7_deal_44 rfl (lv_at hl 2 rfl) ?_
        refine lv_iload C.1 C.2.1 dX7_deal_45 (lv_at hl 0 rfl) ?_
        refine k_pi (k_runV (rest := []) C aks Wd cs_X7_85 (sX7_isFree l D h 0 j37_L_4 h_0 h_1 h_2 h_3 h_4 a_h_3 j37_C_h_3 a_h_1 f_h_1 _ ) [0, 1, 2] rfl (by decide) [0, 1] rfl 0 7 rfl rfl rfl rfl rfl ⟨(Nat.le_of_ble_eq_true rfl), (Nat.le_of_ble_eq_true rfl)⟩ hl.1 rfl rfl (Nat.le_of_ble_eq_true rfl) ⟨(Nat.le_of_ble_eq_true rfl), (Nat.le_of_ble_eq_true rfl)⟩ dX7_deal_47) (fun r47 w47 => ?_)
        obtain ⟨g47_0, g47_1⟩ := w47
        have g47_0 : 0 ≤ r47.toInt := g47_0
        have g47_1 : r47.toInt ≤ 1 := g47_1
        refine k_cutA (fun (j75_C_h_3 : Nat → Int32) H locs ls => wX D [(a_h_3, .int), (a_h_1, .int)] s [(h, .inr (7, [.ref h_0, .ref h_1, .ref h_2, .ref h_3, .int h_4])), (h_3, .inl (a_h_3, 6, .inl j75_C_h_3)), (h_1, .inl (a_h_1, 6, .inl f_h_1))] H A s.heap locs ∧ lv_has ls 5 [(4, .int j37_L_4), (0, .ref h), (1, .int 0), (2, .int x1), (3, .int x2)]) (fun (j75_C_h_3 : Nat → Int32) ls => F0 m 75 ls []) (fun j75_C_h_3 H locs ls hi => ?_) (fun J75 => ?_)
        · obtain ⟨Wd, hl⟩ := hi
          obtain ⟨v75, ev75⟩ : ∃ z : Int32, j37_L_4 + 1 = z := ⟨_, rfl⟩
          have iv75 : v75.toInt = j37_L_4.toInt + 1 := kz_addc ev75 (by decide) (by have zr0 := kz_rng j37_L_4; omega) (by have zr0 := kz_rng j37_L_4; omega)
          refine lv_iinc (v := v75) (lv' := [(4, .int v75), (0, .ref h), (1, .int 0), (2, .int x1), (3, .int x2)]) C.1 C.2.1 dX7_deal_75 hl (k := 0) rfl ev75 (by decide) rfl (fun ls hl => ?_)
          refine lv_goto (tgt := 37) C.1 C.2.1 dX7_deal_78 (by decide) ?_
          exact ih37 (j75_C_h_3, v75) _ _ _ ⟨by omega, by omega, by omega, Wd, lv_sub hl [0, 1, 2, 3, 4] rfl⟩ (by show (7 - v75.toInt).toNat < (7 - j37_L_4.toInt).toNat; omega)
        refine lv_if_eq (tgt := 75) C.1 C.2.1 dX7_deal_50 (by decide) (fun c50 => ?_) (fun c50 => ?_)
        · have i50 : r47.toInt = 0 := kz_eq c50
          exact J75 j37_C_h_3 _ _ _ ⟨Wd, lv_sub hl [0, 1, 2, 3, 4] rfl⟩
        · have i50 : ¬ r47.toInt = 0 := kz_ne c50
          refine lv_aload_n C.1 C.2.1 dX7_deal_53 rfl (lv_at hl 1 rfl) ?_
          refine k_get C Wd KX7 0 3 rfl (by decide) fl_X7_25 rfl dX7_deal_54 ?_
          refine lv_iload_n C.1 C.2.1 dX7_deal_57 rfl (lv_at hl 2 rfl) ?_
          refine lv_iload C.1 C.2.1 dX7_deal_58 (lv_at hl 0 rfl) ?_
          obtain ⟨f60, ef60⟩ : ∃ z : Nat → Int32, upd j37_C_h_3 (0 : Int32).toNatClampNeg j37_L_4 = z := ⟨_, rfl⟩
          refine k_iast C Wd 1 0 [(h, .inr (7, [.ref h_0, .ref h_1, .ref h_2, .ref h_3, .int h_4])), (h_3, .inl (a_h_3, 6, .inl f60)), (h_1, .inl (a_h_1, 6, .inl f_h_1))] rfl rfl (vp_in_iff.mpr (by decide)) ef60 rfl dX7_deal_60 (fun H locs Wd => ?_)
          refine lv_aload_n C.1 C.2.1 dX7_deal_61 rfl (lv_at hl 1 rfl) ?_
          refine lv_iload_n C.1 C.2.1 dX7_deal_62 rfl (lv_at hl 2 rfl) ?_
          refine lv_iconst (v := 1) C.1 C.2.1 dX7_deal_63 (by decide) ?_
          refine k_iadd (v := 1) C (by decide) dX7_deal_64 ?_
          refine lv_iload_n C.1 C.2.1 dX7_deal_65 rfl (lv_at hl 3 rfl) ?_
          refine lv_iload_n C.1 C.2.1 dX7_deal_66 rfl (lv_at hl 4 rfl) ?_
          refine k_ci Wd [0, 1, 2] [] rfl (wr := []) rfl (by decide) (by decide) (cells' := 0) (slots' := 0) (by decide) (by decide) (k_runV (rest := []) C aks Wd cs_X7_74 (sX7_deal_c1 l D h x1 x2 h_0 h_1 h_2 h_3 h_4 a_h_3 f60 a_h_1 f_h_1 _ (by omega) (by omega)) [0, 1, 2] rfl (by decide) [0, 1] rfl 0 7 rfl rfl rfl rfl rfl ⟨(Nat.le_of_ble_eq_true rfl), (Nat.le_of_ble_eq_true rfl)⟩ hl.1 rfl rfl (Nat.le_of_ble_eq_true rfl) ⟨(Nat.le_of_ble_eq_true rfl), (Nat.le_of_ble_eq_true rfl)⟩ dX7_deal_67) (fun r67 s67_0 H locs w67 Wd => ?_)
          have Wd : wX D [(a_h_3, .int), (a_h_1, .int)] s [(h, .inr (7, [.ref h_0, .ref h_1, .ref h_2, .ref h_3, .int h_4])), (h_3, .inl (a_h_3, 6, .inl s67_0)), (h_1, .inl (a_h_1, 6, .inl f_h_1))] _ A s.heap _ := k_sub Wd [0, 1, 2] rfl (by decide) [0, 1] rfl
          obtain ⟨g67_0, g67_1⟩ := w67
          have g67_0 : 0 ≤ r67.toInt := g67_0
          have g67_1 : r67.toInt ≤ 1 := g67_1
          refine lv_if_eq (tgt := 75) C.1 C.2.1 dX7_deal_70 (by decide) (fun c70 => ?_) (fun c70 => ?_)
          · have i70 : r67.toInt = 0 := kz_eq c70
            exact J75 s67_0 _ _ _ ⟨Wd, lv_sub hl [0, 1, 2, 3, 4] rfl⟩
          · have i70 : ¬ r67.toInt = 0 := kz_ne c70
            refine lv_iconst (v := 1) C.1 C.2.1 dX7_deal_73 (by decide) ?_
            exact k_zret C hr hlk rfl Wd s67_0 (by exact ⟨by have zq1 : (1 : Int32).toInt = 1 := (by decide); omega, by have zq1 : (1 : Int32).toInt = 1 := (by decide); omega⟩) [0, 1, 2] rfl (by decide) [] rfl (by decide) (by decide) dX7_deal_74
    · have i21 : v20.toInt = 0 := kz_eq c21
      refine lv_aload_n C.1 C.2.1 dX7_deal_24 rfl (lv_at hl 0 rfl) ?_
      refine lv_iload_n C.1 C.2.1 dX7_deal_25 rfl (lv_at hl 1 rfl) ?_
      refine lv_iconst (v := 1) C.1 C.2.1 dX7_deal_26 (by decide) ?_
      refine k_iadd (v := 1) C (by decide) dX7_deal_27 ?_
      refine lv_iload_n C.1 C.2.1 dX7_deal_28 rfl (lv_at hl 2 rfl) ?_
      refine lv_iload_n C.1 C.2.1 dX7_deal_29 rfl (lv_at hl 3 rfl) ?_
      refine k_ci Wd [0, 1, 2] [] rfl (wr := []) rfl (by decide) (by decide) (cells' := 0) (slots' := 0) (by decide) (by decide) (k_runV (rest := []) C aks Wd cs_X7_74 (sX7_deal_c1 l D h x1 x2 h_0 h_1 h_2 h_3 h_4 a_h_3 f15 a_h_1 f_h_1 _ (by omega) (by omega)) [0, 1, 2] rfl (by decide) [0, 1] rfl 0 7 rfl rfl rfl rfl rfl ⟨(Nat.le_of_ble_eq_true rfl), (Nat.le_of_ble_eq_true rfl)⟩ hl.1 rfl rfl (Nat.le_of_ble_eq_true rfl) ⟨(Nat.le_of_ble_eq_true rfl), (Nat.le_of_ble_eq_true rfl)⟩ dX7_deal_30) (fun r30 s30_0 H locs w30 Wd => ?_)
      have Wd : wX D [(a_h_3, .int), (a_h_1, .int)] s [(h, .inr (7, [.ref h_0, .ref h_1, .ref h_2, .ref h_3, .int h_4])), (h_3, .inl (a_h_3, 6, .inl s30_0)), (h_1, .inl (a_h_1, 6, .inl f_h_1))] _ A s.heap _ := k_sub Wd [0, 1, 2] rfl (by decide) [0, 1] rfl
      obtain ⟨g30_0, g30_1⟩ := w30
      have g30_0 : 0 ≤ r30.toInt := g30_0
      have g30_1 : r30.toInt ≤ 1 := g30_1
      exact k_zret C hr hlk (k_nb (by omega) (by omega)) Wd s30_0 (by exact ⟨by omega, by omega⟩) [0, 1, 2] rfl (by decide) [] rfl (by decide) (by decide) dX7_deal_33
set_option maxHeartbeats 4000000 in
set_option maxRecDepth 100000 in
theorem sX7_fewest (l : Launch) (D : va_G) (h : Nat) (h_0 : Nat) (h_1 : Nat) (h_2 : Nat) (h_3 : Nat) (h_4 : Int32) (a_h_3 : ClassId) (f_h_3 : Nat → Int32) (a_h_1 : ClassId) (f_h_1 : Nat → Int32) (sz : Nat)   : Met l yX7_fewest (Cond.code yX7_fewest cX7_fewest 2 (some .int) :: gG) { frames := 10, cells := 0, slots := 0, locals := 273 } (cPre D [(a_h_3, .int), (a_h_1, .int)] [(h, .inr (7, [.ref h_0, .ref h_1, .ref h_2, .ref h_3, .int h_4])), (h_3, .inl (a_h_3, 6, .inl f_h_3)), (h_1, .inl (a_h_1, 6, .inl f_h_1))] sz [.ref h]) (va_Qi (fun (r : Int32) (jX_C_h_3 : Nat → Int32) => 0 ≤ r.toInt ∧ r.toInt ≤ 6) (fun u t => cB D (va_A [(h, .inr (7, [.ref h_0, .ref h_1, .ref h_2, .ref h_3, .int h_4])), (h_3, .inl (a_h_3, 6, .inl f_h_3)), (h_1, .inl (a_h_1, 6, .inl f_h_1))] sz) ((fun (_ : (Nat → Int32)) => ([] : List (ClassId × FieldType))) u) ((fun (jX_C_h_3 : Nat → Int32) => ([(h, .inr (7, [.ref h_0, .ref h_1, .ref h_2, .ref h_3, .int h_4])), (h_3, .inl (a_h_3, 6, .inl jX_C_h_3)), (h_1, .inl (a_h_1, 6, .inl f_h_1))] : va_W)) u) t) (va_A [(h, .inr (7, [.ref h_0, .ref h_1, .ref h_2, .ref h_3, .int h_4])), (h_3, .inl (a_h_3, 6, .inl f_h_3)), (h_1, .inl (a_h_1, 6, .inl f_h_1))] sz)) 0 0 (va_A [(h, .inr (7, [.ref h_0, .ref h_1, .ref h_2, .ref h_3, .int h_4])), (h_3, .inl (a_h_3, 6, .inl f_h_3)), (h_1, .inl (a_h_1, 6, .inl f_h_1))] sz) := by
  refine Met.ofW (cc := cX7_fewest) (maxL := 2) (ret := (some .int)) (by decide) rfl ?_
  intro p e s m args below meth c s₁ B hml hv
  obtain ⟨rfl, aks, rfl, Wd⟩ := k_enter hv
  have C : CallFix p m c cX7_fewest 2 s _ gG RX7 := ⟨B.exec, B.bytes, hml, findClass_of_methodNamed B.named, fun w h => atoms_spec (ws := Cond.code yX7_fewest cX7_fewest 2 (some .int) :: gG) B.pre w (List.mem_cons_of_mem _ h)⟩
  have hr := B.returns
  have hlk := B.notSynchronized
  generalize va_A [(h, .inr (7, [.ref h_0, .ref h_1, .ref h_2, .ref h_3, .int h_4])), (h_3, .inl (a_h_3, 6, .inl f_h_3)), (h_1, .inl (a_h_1, 6, .inl f_h_1))] s.heap.size = A at Wd ⊢
  refine k_locals (Nat.le_of_ble_eq_true rfl) [(0, .ref h)] rfl (fun ls hl => ?_)
  refine lv_iconst (v := 0) C.1 C.2.1 dX7_fewest_0 (by decide) ?_
  refine lv_istore_n (lv' := [(1, .int 0), (0, .ref h)]) C.1 C.2.1 dX7_fewest_1 rfl hl (by decide) rfl (fun ls hl => ?_)
  refine k_loopA (fun (u : (Nat → Int32) × (Int32)) H locs ls => match u with | (j2_C_h_3, j2_L_1) => 0 ≤ j2_L_1.toInt ∧ j2_L_1.toInt ≤ 6 ∧ wX D [(a_h_3, .int), (a_h_1, .int)] s [(h, .inr (7, [.ref h_0, .ref h_1, .ref h_2, .ref h_3, .int h_4])), (h_3, .inl (a_h_3, 6, .inl j2_C_h_3)), (h_1, .inl (a_h_1, 6, .inl f_h_1))] H A s.heap locs ∧ lv_has ls 2 [(1, .int j2_L_1), (0, .ref h)]) (fun (u : (Nat → Int32) × (Int32)) ls => match u with | (j2_C_h_3, j2_L_1) => F0 m 2 ls []) (fun (u : (Nat → Int32) × (Int32)) => match u with | (j2_C_h_3, j2_L_1) => (7 - j2_L_1.toInt).toNat) (fun u H locs ls hi ih2 => ?_) (f_h_3, 0) _ _ _ ⟨by have zq0 : (0 : Int32).toInt = 0 := (by decide); omega, by have zq0 : (0 : Int32).toInt = 0 := (by decide); omega, Wd, lv_sub hl [0, 1] rfl⟩
  obtain ⟨j2_C_h_3, j2_L_1⟩ := u
  obtain ⟨i2_0, i2_1, Wd, hl⟩ := hi
  refine lv_iload_n C.1 C.2.1 dX7_fewest_2 rfl (lv_at hl 0 rfl) ?_
  refine lv_bipush (v := 6) C.1 C.2.1 dX7_fewest_3 (by decide) ?_
  refine lv_icmp_ge (tgt := 29) C.1 C.2.1 dX7_fewest_5 (by decide) (fun c5 => ?_) (fun c5 => ?_)
  · have i5 : 6 ≤ j2_L_1.toInt := kz_le c5
    refine lv_aload_n C.1 C.2.1 dX7_fewest_29 rfl (lv_at hl 1 rfl) ?_
    refine lv_iconst (v := 0) C.1 C.2.1 dX7_fewest_30 (by decide) ?_
    refine lv_aload_n C.1 C.2.1 dX7_fewest_31 rfl (lv_at hl 1 rfl) ?_
    refine k_get C Wd KX7 0 4 rfl (by decide) fl_X7_32 rfl dX7_fewest_32 ?_
    refine lv_bipush (v := 6) C.1 C.2.1 dX7_fewest_35 (by decide) ?_
    refine k_ci Wd [0, 1, 2] [] rfl (wr := []) rfl (by decide) (by decide) (cells' := 0) (slots' := 0) (by decide) (by decide) (k_runV (rest := []) C aks Wd cs_X7_74 (sX7_deal_c0 l D h h_4 6 h_0 h_1 h_2 h_3 h_4 a_h_3 j2_C_h_3 a_h_1 f_h_1 _ (by have zq0 : (6 : Int32).toInt = 6 := (by decide); omega) (by have zq0 : (6 : Int32).toInt = 6 := (by decide); omega)) [0, 1, 2] rfl (by decide) [0, 1] rfl 0 7 rfl rfl rfl rfl rfl ⟨(Nat.le_of_ble_eq_true rfl), (Nat.le_of_ble_eq_true rfl)⟩ hl.1 rfl rfl (Nat.le_of_ble_eq_true rfl) ⟨(Nat.le_of_ble_eq_true rfl), (Nat.le_of_ble_eq_true rfl)⟩ dX7_fewest_37) (fun r37 s37_0 H locs w37 Wd => ?_)
    have Wd : wX D [(a_h_3, .int), (a_h_1, .int)] s [(h, .inr (7, [.ref h_0, .ref h_1, .ref h_2, .ref h_3, .int h_4])), (h_3, .inl (a_h_3, 6, .inl s37_0)), (h_1, .inl (a_h_1, 6, .inl f_h_1))] _ A s.heap _ := k_sub Wd [0, 1, 2] rfl (by decide) [0, 1] rfl
    obtain ⟨g37_0, g37_1⟩ := w37
    have g37_0 : 0 ≤ r37.toInt := g37_0
    have g37_1 : r37.toInt ≤ 1 := g37_1
    refine lv_pop C.1 C.2.1 dX7_fewest_40 rfl ?_
    refine lv_bipush (v := 6) C.1 C.2.1 dX7_fewest_41 (by decide) ?_
    exact k_zret C hr hlk rfl Wd s37_0 (by exact ⟨by have zq6 : (6 : Int32).toInt = 6 := (by decide); omega, by have zq6 : (6 : Int32).toInt = 6 := (by decide); omega⟩) [0, 1, 2] rfl (by decide) [] rfl (by decide) (by decide) dX7_fewest_43
  · have i5 : j2_L_1.toInt < 6 := kz_nle c5
    refine lv_aload_n C.1 C.2.1 dX7_fewest_8 rfl (lv_at hl 1 rfl) ?_
    refine lv_iconst (v := 0) C.1 C.2.1 dX7_fewest_9 (by decide) ?_
    refine lv_aload_n C.1 C.2.1 dX7_fewest_10 rfl (lv_at hl 1 rfl) ?_
    refine k_get C Wd KX7 0 4 rfl (by decide) fl_X7_32 rfl dX7_fewest_11 ?_
    refine lv_iload_n C.1 C.2.1 dX7_fewest_14 rfl (lv_at hl 0 rfl) ?_
    refine k_ci Wd [0, 1, 2] [] rfl (wr := []) rfl (by decide) (by decide) (cells' := 0) (slots' := 0) (by decide) (by decide) (k_runV (rest := []) C aks Wd cs_X7_74 (sX7_deal_c0 l D h h_4 j2_L_1 h_0 h_1 h_2 h_3 h_4 a_h_3 j2_C_h_3 a_h_1 f_h_1 _ (by omega) (by omega)) [0, 1, 2] rfl (by decide) [0, 1] rfl 0 7 rfl rfl rfl rfl rfl ⟨(Nat.le_of_ble_eq_true rfl), (Nat.le_of_ble_eq_true rfl)⟩ hl.1 rfl rfl (Nat.le_of_ble_eq_true rfl) ⟨(Nat.le_of_ble_eq_true rfl), (Nat.le_of_ble_eq_true rfl)⟩ dX7_fewest_15) (fun r15 s15_0 H locs w15 Wd => ?_)
    have Wd : wX D [(a_h_3, .int), (a_h_1, .int)] s [(h, .inr (7, [.ref h_0, .ref h_1, .ref h_2, .ref h_3, .int h_4])), (h_3, .inl (a_h_3, 6, .inl s15_0)), (h_1, .inl (a_h_1, 6, .inl f_h_1))] _ A s.heap _ := k_sub Wd [0, 1, 2] rfl (by decide) [0, 1] rfl
    obtain ⟨g15_0, g15_1⟩ := w15
    have g15_0 : 0 ≤ r15.toInt := g15_0
    have g15_1 : r15.toInt ≤ 1 := g15_1
    refine lv_if_eq (tgt := 23) C.1 C.2.1 dX7_fewest_18 (by decide) (fun c18 => ?_) (fun c18 => ?_)
    · have i18 : r15.toInt = 0 := kz_eq c18
      obtain ⟨v23, ev23⟩ : ∃ z : Int32, j2_L_1 + 1 = z := ⟨_, rfl⟩
      have iv23 : v23.toInt = j2_L_1.toInt + 1 := kz_addc ev23 (by decide) (by have zr0 := kz_rng j2_L_1; omega) (by have zr0 := kz_rng j2_L_1; omega)
      refine lv_iinc (v := v23) (lv' := [(1, .int v23), (0, .ref h)]) C.1 C.2.1 dX7_fewest_23 hl (k := 0) rfl ev23 (by decide) rfl (fun ls hl => ?_)
      refine lv_goto (tgt := 2) C.1 C.2.1 dX7_fewest_26 (by decide) ?_
      exact ih2 (s15_0, v23) _ _ _ ⟨by omega, by omega, Wd, lv_sub hl [0, 1] rfl⟩ (by show (7 - v23.toInt).toNat < (7 - j2_L_1.toInt).toNat; omega)
    · have i18 : ¬ r15.toInt = 0 := kz_ne c18
      refine lv_iload_n C.1 C.2.1 dX7_fewest_21 rfl (lv_at hl 0 rfl) ?_
      exact k_zret C hr hlk rfl Wd s15_0 (by exact ⟨by omega, by omega⟩) [0, 1, 2] rfl (by decide) [] rfl (by decide) (by decide) dX7_fewest_22
set_option maxHeartbeats 4000000 in
set_option maxRecDepth 100000 in
theorem sX7_registerOf (l : Launch) (D : va_G) (h : Nat) (x0 : Int32) (h_0 : Nat) (h_1 : Nat) (h_2 : Nat) (h_3 : Nat) (h_4 : Int32) (a_h_3 : ClassId) (f_h_3 : Nat → Int32) (a_h_1 : ClassId) (f_h_1 : Nat → Int32) (sz : Nat)   : Met l yX7_registerOf (Cond.code yX7_registerOf cX7_registerOf 2 (some .int) :: gG) { frames := 11, cells := 0, slots := 0, locals := 294 } (cPre D [(a_h_3, .int), (a_h_1, .int)] [(h, .inr (7, [.ref h_0, .ref h_1, .ref h_2, .ref h_3, .int h_4])), (h_3, .inl (a_h_3, 6, .inl f_h_3)), (h_1, .inl (a_h_1, 6, .inl f_h_1))] sz [.ref h, .int x0]) (va_Qi (fun (r : Int32) (jX_C_h_3 : Nat → Int32) => True) (fun u t => cB D (va_A [(h, .inr (7, [.ref h_0, .ref h_1, .ref h_2, .ref h_3, .int h_4])), (h_3, .inl (a_h_3, 6, .inl f_h_3)), (h_1, .inl (a_h_1, 6, .inl f_h_1))] sz) ((fun (_ : (Nat → Int32)) => ([] : List (ClassId × FieldType))) u) ((fun (jX_C_h_3 : Nat → Int32) => ([(h, .inr (7, [.ref h_0, .ref h_1, .ref h_2, .ref h_3, .int h_4])), (h_3, .inl (a_h_3, 6, .inl jX_C_h_3)), (h_1, .inl (a_h_1, 6, .inl f_h_1))] : va_W)) u) t) (va_A [(h, .inr (7, [.ref h_0, .ref h_1, .ref h_2, .ref h_3, .int h_4])), (h_3, .inl (a_h_3, 6, .inl f_h_3)), (h_1, .inl (a_h_1, 6, .inl f_h_1))] sz)) 0 0 (va_A [(h, .inr (7, [.ref h_0, .ref h_1, .ref h_2, .ref h_3, .int h_4])), (h_3, .inl (a_h_3, 6, .inl f_h_3)), (h_1, .inl (a_h_1, 6, .inl f_h_1))] sz) := by
  refine Met.ofW (cc := cX7_registerOf) (maxL := 2) (ret := (some .int)) (by decide) rfl ?_
  intro p e s m args below meth c s₁ B hml hv
  obtain ⟨rfl, aks, rfl, Wd⟩ := k_enter hv
  have C : CallFix p m c cX7_registerOf 2 s _ gG RX7 := ⟨B.exec, B.bytes, hml, findClass_of_methodNamed B.named, fun w h => atoms_spec (ws := Cond.code yX7_registerOf cX7_registerOf 2 (some .int) :: gG) B.pre w (List.mem_cons_of_mem _ h)⟩
  have hr := B.returns
  have hlk := B.notSynchronized
  generalize va_A [(h, .inr (7, [.ref h_0, .ref h_1, .ref h_2, .ref h_3, .int h_4])), (h_3, .inl (a_h_3, 6, .inl f_h_3)), (h_1, .inl (a_h_1, 6, .inl f_h_1))] s.heap.size = A at Wd ⊢
  refine k_locals (Nat.le_of_ble_eq_true rfl) [(0, .ref h), (1, .int x0)] rfl (fun ls hl => ?_)
  refine lv_aload_n C.1 C.2.1 dX7_registerOf_0 rfl (lv_at hl 0 rfl) ?_
  refine k_ci Wd [0, 1, 2] [] rfl (wr := []) rfl (by decide) (by decide) (cells' := 0) (slots' := 0) (by decide) (by decide) (k_runV (rest := []) C aks Wd cs_X7_78 (sX7_fewest l D h h_0 h_1 h_2 h_3 h_4 a_h_3 f_h_3 a_h_1 f_h_1 _ ) [0, 1, 2] rfl (by decide) [0, 1] rfl 0 7 rfl rfl rfl rfl rfl ⟨(Nat.le_of_ble_eq_true rfl), (Nat.le_of_ble_eq_true rfl)⟩ hl.1 rfl rfl (Nat.le_of_ble_eq_true rfl) ⟨(Nat.le_of_ble_eq_true rfl), (Nat.le_of_ble_eq_true rfl)⟩ dX7_registerOf_1) (fun r1 s1_0 H locs w1 Wd => ?_)
  have Wd : wX D [(a_h_3, .int), (a_h_1, .int)] s [(h, .inr (7, [.ref h_0, .ref h_1, .ref h_2, .ref h_3, .int h_4])), (h_3, .inl (a_h_3, 6, .inl s1_0)), (h_1, .inl (a_h_1, 6, .inl f_h_1))] _ A s.heap _ := k_sub Wd [0, 1, 2] rfl (by decide) [0, 1] rfl
  obtain ⟨g1_0, g1_1⟩ := w1
  have g1_0 : 0 ≤ r1.toInt := g1_0
  have g1_1 : r1.toInt ≤ 6 := g1_1
  refine lv_pop C.1 C.2.1 dX7_registerOf_4 rfl ?_
  refine lv_iload_n C.1 C.2.1 dX7_registerOf_5 rfl (lv_at hl 1 rfl) ?_
  refine k_cutA (fun (j22_S_0 : Int32) H locs ls => wX D [(a_h_3, .int), (a_h_1, .int)] s [(h, .inr (7, [.ref h_0, .ref h_1, .ref h_2, .ref h_3, .int h_4])), (h_3, .inl (a_h_3, 6, .inl s1_0)), (h_1, .inl (a_h_1, 6, .inl f_h_1))] H A s.heap locs ∧ lv_has ls 2 [(0, .ref h), (1, .int x0)]) (fun (j22_S_0 : Int32) ls => F0 m 22 ls [.int j22_S_0]) (fun j22_S_0 H locs ls hi => ?_) (fun J22 => ?_)
  · obtain ⟨Wd, hl⟩ := hi
    exact k_zret C hr hlk rfl Wd s1_0 trivial [0, 1, 2] rfl (by decide) [] rfl (by decide) (by decide) dX7_registerOf_22
  refine k_pi (k_runN (rest := []) C aks Wd aks.2.2.2 cs_X7_71 (sX11_isVariable l D x0 _ ) [] rfl (by decide) [] rfl rfl rfl ⟨(Nat.le_of_ble_eq_true rfl), (Nat.le_of_ble_eq_true rfl)⟩ hl.1 rfl rfl (Nat.le_of_ble_eq_true rfl) ⟨(Nat.le_of_ble_eq_true rfl), (Nat.le_of_ble_eq_true rfl)⟩ dX7_registerOf_6) (fun r6 w6 => ?_)
  rcases w6 with rfl | ⟨g6_1_0, g6_1_1, rfl⟩
  · refine lv_if_eq (tgt := 21) C.1 C.2.1 dX7_registerOf_9 (by decide) (fun _ => ?_) (fun c9 => absurd c9 (by decide))
    refine lv_iconst (v := (-1)) C.1 C.2.1 dX7_registerOf_21 (by decide) ?_
    exact J22 (-1) _ _ _ ⟨Wd, lv_sub hl [0, 1] rfl⟩
  · have g6_1_0 : 0 ≤ x0.toInt := g6_1_0
    have g6_1_1 : x0.toInt ≤ 5 := g6_1_1
    refine lv_if_eq (tgt := 21) C.1 C.2.1 dX7_registerOf_9 (by decide) (fun c9 => absurd c9 (by decide)) (fun _ => ?_)
    refine lv_aload_n C.1 C.2.1 dX7_registerOf_12 rfl (lv_at hl 0 rfl) ?_
    refine k_get C Wd KX7 0 3 rfl (by decide) fl_X7_25 rfl dX7_registerOf_13 ?_
    refine lv_iload_n C.1 C.2.1 dX7_registerOf_16 rfl (lv_at hl 1 rfl) ?_
    obtain ⟨v17, ev17⟩ : ∃ z : Int32, s1_0 x0.toNatClampNeg = z := ⟨_, rfl⟩
    refine k_iald (v := v17) C Wd 1 0 rfl rfl (vp_in_iff.mpr ⟨by omega, by omega⟩) ev17 dX7_registerOf_17 ?_
    refine lv_goto (tgt := 22) C.1 C.2.1 dX7_registerOf_18 (by decide) ?_
    exact J22 v17 _ _ _ ⟨Wd, lv_sub hl [0, 1] rfl⟩
set_option maxHeartbeats 4000000 in
set_option maxRecDepth 100000 in
theorem sX7_comingsOf (l : Launch) (D : va_G) (h : Nat) (x0 : Int32) (h_0 : Nat) (h_1 : Nat) (h_2 : Nat) (h_3 : Nat) (h_4 : Int32) (a_h_2 : ClassId) (f_h_2 : Nat → Int32) (sz : Nat)   : Met l yX7_comingsOf (Cond.code yX7_comingsOf cX7_comingsOf 4 (some .int) :: gG) { frames := 1, cells := 0, slots := 0, locals := 64 } (cPre D [(a_h_2, .int)] [(h, .inr (7, [.ref h_0, .ref h_1, .ref h_2, .ref h_3, .int h_4])), (h_2, .inl (a_h_2, 6, .inl f_h_2))] sz [.ref h, .int x0]) (vp_Si (fun r => True)) 0 0 (fun _ => False) := by
  refine Met.ofW (cc := cX7_comingsOf) (maxL := 4) (ret := (some .int)) (by decide) rfl ?_
  intro p e s m args below meth c s₁ B hml hv
  obtain ⟨rfl, aks, rfl, Wd⟩ := k_enter hv
  have C : CallFix p m c cX7_comingsOf 4 s _ gG RX7 := ⟨B.exec, B.bytes, hml, findClass_of_methodNamed B.named, fun w h => atoms_spec (ws := Cond.code yX7_comingsOf cX7_comingsOf 4 (some .int) :: gG) B.pre w (List.mem_cons_of_mem _ h)⟩
  have hr := B.returns
  have hlk := B.notSynchronized
  obtain ⟨A, Wd⟩ : ∃ A, wX D [(a_h_2, .int)] s [(h, .inr (7, [.ref h_0, .ref h_1, .ref h_2, .ref h_3, .int h_4])), (h_2, .inl (a_h_2, 6, .inl f_h_2))] s.heap A s.heap [] := ⟨_, Wd⟩
  refine k_locals (Nat.le_of_ble_eq_true rfl) [(0, .ref h), (1, .int x0)] rfl (fun ls hl => ?_)
  refine lv_iconst (v := 0) C.1 C.2.1 dX7_comingsOf_0 (by decide) ?_
  refine lv_istore_n (lv' := [(2, .int 0), (0, .ref h), (1, .int x0)]) C.1 C.2.1 dX7_comingsOf_1 rfl hl (by decide) rfl (fun ls hl => ?_)
  refine lv_iconst (v := 0) C.1 C.2.1 dX7_comingsOf_2 (by decide) ?_
  refine lv_istore_n (lv' := [(3, .int 0), (2, .int 0), (0, .ref h), (1, .int x0)]) C.1 C.2.1 dX7_comingsOf_3 rfl hl (by decide) rfl (fun ls hl => ?_)
  refine k_loopA (fun (u : (Int32) × (Int32)) H locs ls => match u with | (j4_L_2, j4_L_3) => 0 ≤ j4_L_3.toInt ∧ j4_L_3.toInt ≤ 6 ∧ H = s.heap ∧ locs = [] ∧ wX D [(a_h_2, .int)] s [(h, .inr (7, [.ref h_0, .ref h_1, .ref h_2, .ref h_3, .int h_4])), (h_2, .inl (a_h_2, 6, .inl f_h_2))] H A s.heap locs ∧ lv_has ls 4 [(3, .int j4_L_3), (2, .int j4_L_2), (0, .ref h), (1, .int x0)]) (fun (u : (Int32) × (Int32)) ls => match u with | (j4_L_2, j4_L_3) => F0 m 4 ls []) (fun (u : (Int32) × (Int32)) => match u with | (j4_L_2, j4_L_3) => (7 - j4_L_3.toInt).toNat) (fun u H locs ls hi ih4 => ?_) (0, 0) _ _ _ ⟨by have zq0 : (0 : Int32).toInt = 0 := (by decide); omega, by have zq0 : (0 : Int32).toInt = 0 := (by decide); omega, rfl, rfl, Wd, lv_sub hl [0, 1, 2, 3] rfl⟩
  obtain ⟨j4_L_2, j4_L_3⟩ := u
  obtain ⟨i4_0, i4_1, rfl, rfl, Wd, hl⟩ := hi
  refine lv_iload_n C.1 C.2.1 dX7_comingsOf_4 rfl (lv_at hl 0 rfl) ?_
  refine lv_bipush (v := 6) C.1 C.2.1 dX7_comingsOf_5 (by decide) ?_
  refine lv_icmp_ge (tgt := 37) C.1 C.2.1 dX7_comingsOf_7 (by decide) (fun c7 => ?_) (fun c7 => ?_)
  · have i7 : 6 ≤ j4_L_3.toInt := kz_le c7
    refine lv_iload_n C.1 C.2.1 dX7_comingsOf_37 rfl (lv_at hl 1 rfl) ?_
    exact k_zretP C hr hlk rfl trivial dX7_comingsOf_38
  · have i7 : j4_L_3.toInt < 6 := kz_nle c7
    refine lv_iload_n C.1 C.2.1 dX7_comingsOf_10 rfl (lv_at hl 1 rfl) ?_
    refine lv_iload_n C.1 C.2.1 dX7_comingsOf_11 rfl (lv_at hl 3 rfl) ?_
    refine lv_iload_n C.1 C.2.1 dX7_comingsOf_12 rfl (lv_at hl 0 rfl) ?_
    obtain ⟨v13, ev13⟩ : ∃ z : Int32, x0 >>> (j4_L_3 &&& 31) = z := ⟨_, rfl⟩
    refine k_ishr (v := v13) C ev13 dX7_comingsOf_13 ?_
    refine lv_iconst (v := 1) C.1 C.2.1 dX7_comingsOf_14 (by decide) ?_
    obtain ⟨v15, ev15⟩ : ∃ z : Int32, v13 &&& 1 = z := ⟨_, rfl⟩
    refine k_iand (v := v15) C ev15 dX7_comingsOf_15 ?_
    refine k_cutA (fun (j29_S_0 : Int32) H locs ls => H = s.heap ∧ locs = [] ∧ wX D [(a_h_2, .int)] s [(h, .inr (7, [.ref h_0, .ref h_1, .ref h_2, .ref h_3, .int h_4])), (h_2, .inl (a_h_2, 6, .inl f_h_2))] H A s.heap locs ∧ lv_has ls 4 [(3, .int j4_L_3), (2, .int j4_L_2), (0, .ref h), (1, .int x0)]) (fun (j29_S_0 : Int32) ls => F0 m 29 ls [.int j29_S_0, .int j4_L_2]) (fun j29_S_0 H locs ls hi => ?_) (fun J29 => ?_)
    · obtain ⟨rfl, rfl, Wd, hl⟩ := hi
      obtain ⟨v29, ev29⟩ : ∃ z : Int32, j4_L_2 + j29_S_0 = z := ⟨_, rfl⟩
      refine k_iadd (v := v29) C ev29 dX7_comingsOf_29 ?_
      refine lv_istore_n (lv' := [(2, .int v29), (3, .int j4_L_3), (0, .ref h), (1, .int x0)]) C.1 C.2.1 dX7_comingsOf_30 rfl hl (by decide) rfl (fun ls hl => ?_)
      obtain ⟨v31, ev31⟩ : ∃ z : Int32, j4_L_3 + 1 = z := ⟨_, rfl⟩
      have iv31 : v31.toInt = j4_L_3.toInt + 1 := kz_addc ev31 (by decide) (by have zr0 := kz_rng j4_L_3; omega) (by have zr0 := kz_rng j4_L_3; omega)
      refine lv_iinc (v := v31) (lv' := [(3, .int v31), (2, .int v29), (0, .ref h), (1, .int x0)]) C.1 C.2.1 dX7_comingsOf_31 hl (k := 1) rfl ev31 (by decide) rfl (fun ls hl => ?_)
      refine lv_goto (tgt := 4) C.1 C.2.1 dX7_comingsOf_34 (by decide) ?_
      exact ih4 (v29, v31) _ _ _ ⟨by omega, by omega, rfl, rfl, Wd, lv_sub hl [0, 1, 2, 3] rfl⟩ (by show (7 - v31.toInt).toNat < (7 - j4_L_3.toInt).toNat; omega)
    refine lv_if_eq (tgt := 28) C.1 C.2.1 dX7_comingsOf_16 (by decide) (fun c16 => ?_) (fun c16 => ?_)
    · have i16 : v15.toInt = 0 := kz_eq c16
      refine lv_iconst (v := 0) C.1 C.2.1 dX7_comingsOf_28 (by decide) ?_
      exact J29 0 _ _ _ ⟨rfl, rfl, Wd, lv_sub hl [0, 1, 2, 3] rfl⟩
    · have i16 : ¬ v15.toInt = 0 := kz_ne c16
      refine lv_aload_n C.1 C.2.1 dX7_comingsOf_19 rfl (lv_at hl 2 rfl) ?_
      refine k_get C Wd KX7 0 2 rfl (by decide) fl_X7_22 rfl dX7_comingsOf_20 ?_
      refine lv_iload_n C.1 C.2.1 dX7_comingsOf_23 rfl (lv_at hl 0 rfl) ?_
      obtain ⟨v24, ev24⟩ : ∃ z : Int32, f_h_2 j4_L_3.toNatClampNeg = z := ⟨_, rfl⟩
      refine k_iald (v := v24) C Wd 1 0 rfl rfl (vp_in_iff.mpr ⟨by omega, by omega⟩) ev24 dX7_comingsOf_24 ?_
      refine lv_goto (tgt := 29) C.1 C.2.1 dX7_comingsOf_25 (by decide) ?_
      exact J29 v24 _ _ _ ⟨rfl, rfl, Wd, lv_sub hl [0, 1, 2, 3] rfl⟩
set_option maxHeartbeats 4000000 in
set_option maxRecDepth 100000 in
theorem sX7_spills (l : Launch) (D : va_G) (h : Nat) (x0 : Int32) (h_0 : Nat) (h_1 : Nat) (h_2 : Nat) (h_3 : Nat) (h_4 : Int32) (a_h_2 : ClassId) (f_h_2 : Nat → Int32) (a_h_3 : ClassId) (f_h_3 : Nat → Int32) (a_h_1 : ClassId) (f_h_1 : Nat → Int32) (sz : Nat) (k_x0_lo : 0 ≤ x0.toInt) (k_x0_hi : x0.toInt ≤ 6)  : Met l yX7_spills (Cond.code yX7_spills cX7_spills 6 (some .int) :: gG) { frames := 10, cells := 0, slots := 0, locals := 273 } (cPre D [(a_h_2, .int), (a_h_3, .int), (a_h_1, .int)] [(h, .inr (7, [.ref h_0, .ref h_1, .ref h_2, .ref h_3, .int h_4])), (h_2, .inl (a_h_2, 6, .inl f_h_2)), (h_3, .inl (a_h_3, 6, .inl f_h_3)), (h_1, .inl (a_h_1, 6, .inl f_h_1))] sz [.ref h, .int x0]) (va_Qi (fun (r : Int32) (jX_C_h_3 : Nat → Int32) => True) (fun u t => cB D (va_A [(h, .inr (7, [.ref h_0, .ref h_1, .ref h_2, .ref h_3, .int h_4])), (h_2, .inl (a_h_2, 6, .inl f_h_2)), (h_3, .inl (a_h_3, 6, .inl f_h_3)), (h_1, .inl (a_h_1, 6, .inl f_h_1))] sz) ((fun (_ : (Nat → Int32)) => ([] : List (ClassId × FieldType))) u) ((fun (jX_C_h_3 : Nat → Int32) => ([(h, .inr (7, [.ref h_0, .ref h_1, .ref h_2, .ref h_3, .int h_4])), (h_2, .inl (a_h_2, 6, .inl f_h_2)), (h_3, .inl (a_h_3, 6, .inl jX_C_h_3)), (h_1, .inl (a_h_1, 6, .inl f_h_1))] : va_W)) u) t) (va_A [(h, .inr (7, [.ref h_0, .ref h_1, .ref h_2, .ref h_3, .int h_4])), (h_2, .inl (a_h_2, 6, .inl f_h_2)), (h_3, .inl (a_h_3, 6, .inl f_h_3)), (h_1, .inl (a_h_1, 6, .inl f_h_1))] sz)) 0 0 (va_A [(h, .inr (7, [.ref h_0, .ref h_1, .ref h_2, .ref h_3, .int h_4])), (h_2, .inl (a_h_2, 6, .inl f_h_2)), (h_3, .inl (a_h_3, 6, .inl f_h_3)), (h_1, .inl (a_h_1, 6, .inl f_h_1))] sz) := by
  refine Met.ofW (cc := cX7_spills) (maxL := 6) (ret := (some .int)) (by decide) rfl ?_
  intro p e s m args below meth c s₁ B hml hv
  obtain ⟨rfl, aks, rfl, Wd⟩ := k_enter hv
  have C : CallFix p m c cX7_spills 6 s _ gG RX7 := ⟨B.exec, B.bytes, hml, findClass_of_methodNamed B.named, fun w h => atoms_spec (ws := Cond.code yX7_spills cX7_spills 6 (some .int) :: gG) B.pre w (List.mem_cons_of_mem _ h)⟩
  have hr := B.returns
  have hlk := B.notSynchronized
  generalize va_A [(h, .inr (7, [.ref h_0, .ref h_1, .ref h_2, .ref h_3, .int h_4])), (h_2, .inl (a_h_2, 6, .inl f_h_2)), (h_3, .inl (a_h_3, 6, .inl f_h_3)), (h_1, .inl (a_h_1, 6, .inl f_h_1))] s.heap.size = A at Wd ⊢
  refine k_locals (Nat.le_of_ble_eq_true rfl) [(0, .ref h), (1, .int x0)] rfl (fun ls hl => ?_)
  refine lv_aload_n C.1 C.2.1 dX7_spills_0 rfl (lv_at hl 0 rfl) ?_
  refine k_get C Wd KX7 0 4 rfl (by decide) fl_X7_32 rfl dX7_spills_1 ?_
  refine lv_istore_n (lv' := [(2, .int h_4), (0, .ref h), (1, .int x0)]) C.1 C.2.1 dX7_spills_4 rfl hl (by decide) rfl (fun ls hl => ?_)
  refine lv_aload_n C.1 C.2.1 dX7_spills_5 rfl (lv_at hl 1 rfl) ?_
  refine lv_aload_n C.1 C.2.1 dX7_spills_6 rfl (lv_at hl 1 rfl) ?_
  refine k_get C Wd KX7 0 4 rfl (by decide) fl_X7_32 rfl dX7_spills_7 ?_
  refine k_pi (k_runV (rest := []) C aks Wd cs_X7_82 (sX7_comingsOf l D h h_4 h_0 h_1 h_2 h_3 h_4 a_h_2 f_h_2 _ ) [0, 1] rfl (by decide) [0] rfl 0 7 rfl rfl rfl rfl rfl ⟨(Nat.le_of_ble_eq_true rfl), (Nat.le_of_ble_eq_true rfl)⟩ hl.1 rfl rfl (Nat.le_of_ble_eq_true rfl) ⟨(Nat.le_of_ble_eq_true rfl), (Nat.le_of_ble_eq_true rfl)⟩ dX7_spills_10) (fun r10 w10 => ?_)
  refine lv_istore_n (lv' := [(3, .int r10), (2, .int h_4), (0, .ref h), (1, .int x0)]) C.1 C.2.1 dX7_spills_13 rfl hl (by decide) rfl (fun ls hl => ?_)
  refine lv_iconst (v := 0) C.1 C.2.1 dX7_spills_14 (by decide) ?_
  refine lv_istore (lv' := [(4, .int 0), (3, .int r10), (2, .int h_4), (0, .ref h), (1, .int x0)]) C.1 C.2.1 dX7_spills_15 hl (by decide) rfl (fun ls hl => ?_)
  refine k_loopA (fun (u : (Nat → Int32) × (Int32) × (Int32) × (Int32)) H locs ls => match u with | (j17_C_h_3, j17_L_2, j17_L_3, j17_L_4) => 0 ≤ j17_L_4.toInt ∧ j17_L_4.toInt ≤ 64 ∧ j17_L_3.toInt ≤ r10.toInt ∧ wX D [(a_h_2, .int), (a_h_3, .int), (a_h_1, .int)] s [(h, .inr (7, [.ref h_0, .ref h_1, .ref h_2, .ref h_3, .int h_4])), (h_2, .inl (a_h_2, 6, .inl f_h_2)), (h_3, .inl (a_h_3, 6, .inl j17_C_h_3)), (h_1, .inl (a_h_1, 6, .inl f_h_1))] H A s.heap locs ∧ lv_has ls 6 [(4, .int j17_L_4), (3, .int j17_L_3), (2, .int j17_L_2), (0, .ref h), (1, .int x0)]) (fun (u : (Nat → Int32) × (Int32) × (Int32) × (Int32)) ls => match u with | (j17_C_h_3, j17_L_2, j17_L_3, j17_L_4) => F0 m 17 ls []) (fun (u : (Nat → Int32) × (Int32) × (Int32) × (Int32)) => match u with | (j17_C_h_3, j17_L_2, j17_L_3, j17_L_4) => (65 - j17_L_4.toInt).toNat) (fun u H locs ls hi ih17 => ?_) (f_h_3, h_4, r10, 0) _ _ _ ⟨by have zq0 : (0 : Int32).toInt = 0 := (by decide); omega, by have zq0 : (0 : Int32).toInt = 0 := (by decide); omega, by omega, Wd, lv_sub hl [0, 1, 2, 3, 4] rfl⟩
  obtain ⟨j17_C_h_3, j17_L_2, j17_L_3, j17_L_4⟩ := u
  obtain ⟨i17_0, i17_1, i17_2, Wd, hl⟩ := hi
  refine lv_iload C.1 C.2.1 dX7_spills_17 (lv_at hl 0 rfl) ?_
  refine lv_bipush (v := 64) C.1 C.2.1 dX7_spills_19 (by decide) ?_
  refine lv_icmp_ge (tgt := 68) C.1 C.2.1 dX7_spills_21 (by decide) (fun c21 => ?_) (fun c21 => ?_)
  · have i21 : 64 ≤ j17_L_4.toInt := kz_le c21
    refine lv_iload_n C.1 C.2.1 dX7_spills_68 rfl (lv_at hl 2 rfl) ?_
    exact k_zret C hr hlk rfl Wd j17_C_h_3 trivial [0, 1, 2, 3] rfl (by decide) [] rfl (by decide) (by decide) dX7_spills_69
  · have i21 : j17_L_4.toInt < 64 := kz_nle c21
    refine lv_aload_n C.1 C.2.1 dX7_spills_24 rfl (lv_at hl 3 rfl) ?_
    refine lv_iload C.1 C.2.1 dX7_spills_25 (lv_at hl 0 rfl) ?_
    refine k_pi (k_runV (rest := []) C aks Wd cs_X7_82 (sX7_comingsOf l D h j17_L_4 h_0 h_1 h_2 h_3 h_4 a_h_2 f_h_2 _ ) [0, 1] rfl (by decide) [0] rfl 0 7 rfl rfl rfl rfl rfl ⟨(Nat.le_of_ble_eq_true rfl), (Nat.le_of_ble_eq_true rfl)⟩ hl.1 rfl rfl (Nat.le_of_ble_eq_true rfl) ⟨(Nat.le_of_ble_eq_true rfl), (Nat.le_of_ble_eq_true rfl)⟩ dX7_spills_27) (fun r27 w27 => ?_)
    refine lv_istore (lv' := [(5, .int r27), (4, .int j17_L_4), (3, .int j17_L_3), (2, .int j17_L_2), (0, .ref h), (1, .int x0)]) C.1 C.2.1 dX7_spills_30 hl (by decide) rfl (fun ls hl => ?_)
    refine lv_iload C.1 C.2.1 dX7_spills_32 (lv_at hl 0 rfl) ?_
    refine lv_iload_n C.1 C.2.1 dX7_spills_34 rfl (lv_at hl 2 rfl) ?_
    refine k_cutA (fun (u : (Nat → Int32) × (Int32) × (Int32)) H locs ls => match u with | (j62_C_h_3, j62_L_3, j62_L_2) => j62_L_3.toInt ≤ j17_L_3.toInt ∧ wX D [(a_h_2, .int), (a_h_3, .int), (a_h_1, .int)] s [(h, .inr (7, [.ref h_0, .ref h_1, .ref h_2, .ref h_3, .int h_4])), (h_2, .inl (a_h_2, 6, .inl f_h_2)), (h_3, .inl (a_h_3, 6, .inl j62_C_h_3)), (h_1, .inl (a_h_1, 6, .inl f_h_1))] H A s.heap locs ∧ lv_has ls 6 [(5, .int r27), (4, .int j17_L_4), (3, .int j62_L_3), (2, .int j62_L_2), (0, .ref h), (1, .int x0)]) (fun (u : (Nat → Int32) × (Int32) × (Int32)) ls => match u with | (j62_C_h_3, j62_L_3, j62_L_2) => F0 m 62 ls []) (fun u H locs ls hi => ?_) (fun J62 => ?_)
    · obtain ⟨j62_C_h_3, j62_L_3, j62_L_2⟩ := u
      obtain ⟨i62_0, Wd, hl⟩ := hi
      obtain ⟨v62, ev62⟩ : ∃ z : Int32, j17_L_4 + 1 = z := ⟨_, rfl⟩
      have iv62 : v62.toInt = j17_L_4.toInt + 1 := kz_addc ev62 (by decide) (by have zr0 := kz_rng j17_L_4; omega) (by have zr0 := kz_rng j17_L_4; omega)
      refine lv_iinc (v := v62) (lv' := [(4, .int v62), (5, .int r27), (3, .int j62_L_3), (2, .int j62_L_2), (0, .ref h), (1, .int x0)]) C.1 C.2.1 dX7_spills_62 hl (k := 1) rfl ev62 (by decide) rfl (fun ls hl => ?_)
      refine lv_goto (tgt := 17) C.1 C.2.1 dX7_spills_65 (by decide) ?_
      exact ih17 (j62_C_h_3, j62_L_2, j62_L_3, v62) _ _ _ ⟨by omega, by omega, by omega, Wd, lv_sub hl [0, 2, 3, 4, 5] rfl⟩ (by show (65 - v62.toInt).toNat < (65 - j17_L_4.toInt).toNat; omega)
    refine lv_icmp_ge (tgt := 62) C.1 C.2.1 dX7_spills_35 (by decide) (fun c35 => ?_) (fun c35 => ?_)
    · have i35 : j17_L_3.toInt ≤ r27.toInt := kz_le c35
      exact J62 (j17_C_h_3, j17_L_3, j17_L_2) _ _ _ ⟨by omega, Wd, lv_sub hl [0, 1, 2, 3, 4, 5] rfl⟩
    · have i35 : r27.toInt < j17_L_3.toInt := kz_nle c35
      refine lv_aload_n C.1 C.2.1 dX7_spills_38 rfl (lv_at hl 4 rfl) ?_
      refine lv_iconst (v := 0) C.1 C.2.1 dX7_spills_39 (by decide) ?_
      refine lv_aload_n C.1 C.2.1 dX7_spills_40 rfl (lv_at hl 4 rfl) ?_
      refine k_get C Wd KX7 0 4 rfl (by decide) fl_X7_32 rfl dX7_spills_41 ?_
      refine lv_iload C.1 C.2.1 dX7_spills_44 (lv_at hl 1 rfl) ?_
      refine lv_iconst (v := (-1)) C.1 C.2.1 dX7_spills_46 (by decide) ?_
      obtain ⟨v47, ev47⟩ : ∃ z : Int32, j17_L_4 ^^^ (-1) = z := ⟨_, rfl⟩
      refine k_ixor (v := v47) C ev47 dX7_spills_47 ?_
      obtain ⟨v48, ev48⟩ : ∃ z : Int32, h_4 &&& v47 = z := ⟨_, rfl⟩
      refine k_iand (v := v48) C ev48 dX7_spills_48 ?_
      refine lv_iload_n C.1 C.2.1 dX7_spills_49 rfl (lv_at hl 5 rfl) ?_
      refine k_ci Wd [0, 2, 3] [1] rfl (wr := [(h_2, .inl (a_h_2, 6, .inl f_h_2))]) rfl (by decide) (by decide) (cells' := 0) (slots' := 0) (by decide) (by decide) (k_runV (rest := []) C aks Wd cs_X7_74 (sX7_deal_c0 l D h v48 x0 h_0 h_1 h_2 h_3 h_4 a_h_3 j17_C_h_3 a_h_1 f_h_1 _ (by omega) (by omega)) [0, 2, 3] rfl (by decide) [1, 2] rfl 0 7 rfl rfl rfl rfl rfl ⟨(Nat.le_of_ble_eq_true rfl), (Nat.le_of_ble_eq_true rfl)⟩ hl.1 rfl rfl (Nat.le_of_ble_eq_true rfl) ⟨(Nat.le_of_ble_eq_true rfl), (Nat.le_of_ble_eq_true rfl)⟩ dX7_spills_50) (fun r50 s50_0 H locs w50 Wd => ?_)
      have Wd : wX D [(a_h_2, .int), (a_h_3, .int), (a_h_1, .int)] s [(h, .inr (7, [.ref h_0, .ref h_1, .ref h_2, .ref h_3, .int h_4])), (h_2, .inl (a_h_2, 6, .inl f_h_2)), (h_3, .inl (a_h_3, 6, .inl s50_0)), (h_1, .inl (a_h_1, 6, .inl f_h_1))] _ A s.heap _ := k_sub Wd [1, 0, 2, 3] rfl (by decide) [0, 1, 2] rfl
      obtain ⟨g50_0, g50_1⟩ := w50
      have g50_0 : 0 ≤ r50.toInt := g50_0
      have g50_1 : r50.toInt ≤ 1 := g50_1
      refine lv_if_eq (tgt := 62) C.1 C.2.1 dX7_spills_53 (by decide) (fun c53 => ?_) (fun c53 => ?_)
      · have i53 : r50.toInt = 0 := kz_eq c53
        exact J62 (s50_0, j17_L_3, j17_L_2) _ _ _ ⟨by omega, Wd, lv_sub hl [0, 1, 2, 3, 4, 5] rfl⟩
      · have i53 : ¬ r50.toInt = 0 := kz_ne c53
        refine lv_iload C.1 C.2.1 dX7_spills_56 (lv_at hl 1 rfl) ?_
        refine lv_istore_n (lv' := [(2, .int j17_L_4), (5, .int r27), (4, .int j17_L_4), (3, .int j17_L_3), (0, .ref h), (1, .int x0)]) C.1 C.2.1 dX7_spills_58 rfl hl (by decide) rfl (fun ls hl => ?_)
        refine lv_iload C.1 C.2.1 dX7_spills_59 (lv_at hl 1 rfl) ?_
        refine lv_istore_n (lv' := [(3, .int r27), (2, .int j17_L_4), (5, .int r27), (4, .int j17_L_4), (0, .ref h), (1, .int x0)]) C.1 C.2.1 dX7_spills_61 rfl hl (by decide) rfl (fun ls hl => ?_)
        exact J62 (s50_0, r27, j17_L_4) _ _ _ ⟨by omega, Wd, lv_sub hl [2, 3, 0, 1, 4, 5] rfl⟩
set_option maxHeartbeats 4000000 in
set_option maxRecDepth 100000 in
theorem sX0_foldOperations (l : Launch) (D : va_G) (h : Nat) (h0 : Nat) (h0_0 : Nat) (h0_1 : Int32) (n_h0_0 : Nat) (a_h0_0 : ClassId) (f_h0_0 : Nat → Int32) (sz : Nat) (k_h0_1_lo : 0 ≤ h0_1.toInt) (k_n_h0_0 : n_h0_0 ≤ 1000) (k_p_h0_0 : 1 ≤ n_h0_0) (k_h0_1_hi : h0_1.toInt ≤ (n_h0_0 : Int))  : Met l yX0_foldOperations (Cond.code yX0_foldOperations cX0_foldOperations 6 none :: gG) { frames := 2, cells := 0, slots := 0, locals := 118 } (cPre D [(a_h0_0, .int)] [(h0, .inr (8, [.ref h0_0, .int h0_1])), (h0_0, .inl (a_h0_0, n_h0_0, .inl f_h0_0))] sz [.ref h, .ref h0]) (va_Qv (fun (u : (Int32) × (Nat → Int32)) => match u with | (jX_F_h0_1, jX_C_h0_0) => 0 ≤ jX_F_h0_1.toInt ∧ jX_F_h0_1.toInt ≤ 1000 ∧ jX_F_h0_1.toInt ≤ (n_h0_0 : Int) ∧ jX_F_h0_1.toInt ≤ h0_1.toInt) (fun u t => cB D (va_A [(h0, .inr (8, [.ref h0_0, .int h0_1])), (h0_0, .inl (a_h0_0, n_h0_0, .inl f_h0_0))] sz) ((fun (_ : (Int32) × (Nat → Int32)) => ([] : List (ClassId × FieldType))) u) ((fun (u : (Int32) × (Nat → Int32)) => match u with | (jX_F_h0_1, jX_C_h0_0) => ([(h0, .inr (8, [.ref h0_0, .int jX_F_h0_1])), (h0_0, .inl (a_h0_0, n_h0_0, .inl jX_C_h0_0))] : va_W)) u) t) (va_A [(h0, .inr (8, [.ref h0_0, .int h0_1])), (h0_0, .inl (a_h0_0, n_h0_0, .inl f_h0_0))] sz)) 0 0 (va_A [(h0, .inr (8, [.ref h0_0, .int h0_1])), (h0_0, .inl (a_h0_0, n_h0_0, .inl f_h0_0))] sz) := by
  refine Met.ofW (cc := cX0_foldOperations) (maxL := 6) (ret := none) (by decide) rfl ?_
  intro p e s m args below meth c s₁ B hml hv
  obtain ⟨rfl, aks, rfl, Wd⟩ := k_enter hv
  have C : CallFix p m c cX0_foldOperations 6 s _ gG RX0 := ⟨B.exec, B.bytes, hml, findClass_of_methodNamed B.named, fun w h => atoms_spec (ws := Cond.code yX0_foldOperations cX0_foldOperations 6 none :: gG) B.pre w (List.mem_cons_of_mem _ h)⟩
  have hr := B.returns
  have hlk := B.notSynchronized
  generalize va_A [(h0, .inr (8, [.ref h0_0, .int h0_1])), (h0_0, .inl (a_h0_0, n_h0_0, .inl f_h0_0))] s.heap.size = A at Wd ⊢
  refine k_locals (Nat.le_of_ble_eq_true rfl) [(0, .ref h), (1, .ref h0)] rfl (fun ls hl => ?_)
  refine lv_aload_n C.1 C.2.1 dX0_foldOperations_0 rfl (lv_at hl 1 rfl) ?_
  refine k_get C Wd KX8 0 1 rfl (by decide) fl_X0_31 rfl dX0_foldOperations_1 ?_
  refine lv_iconst (v := 1) C.1 C.2.1 dX0_foldOperations_4 (by decide) ?_
  obtain ⟨v5, ev5⟩ : ∃ z : Int32, h0_1 - 1 = z := ⟨_, rfl⟩
  have iv5 : v5.toInt = h0_1.toInt - 1 := kz_subc ev5 (by decide) (by have zr0 := kz_rng h0_1; omega) (by have zr0 := kz_rng h0_1; omega)
  refine k_isub (v := v5) C ev5 dX0_foldOperations_5 ?_
  refine lv_istore_n (lv' := [(2, .int v5), (0, .ref h), (1, .ref h0)]) C.1 C.2.1 dX0_foldOperations_6 rfl hl (by decide) rfl (fun ls hl => ?_)
  refine k_loopA (fun (u : (Nat → Int32) × (Int32) × (Int32)) H locs ls => match u with | (j7_C_h0_0, j7_F_h0_1, j7_L_2) => 0 ≤ j7_F_h0_1.toInt ∧ -1 ≤ j7_L_2.toInt ∧ j7_L_2.toInt ≤ 999 ∧ j7_F_h0_1.toInt ≤ 1000 ∧ j7_F_h0_1.toInt ≤ (n_h0_0 : Int) ∧ j7_F_h0_1.toInt ≤ h0_1.toInt ∧ j7_L_2.toInt ≤ v5.toInt ∧ j7_L_2.toInt ≤ j7_F_h0_1.toInt + 998 ∧ wX D [(a_h0_0, .int)] s [(h0, .inr (8, [.ref h0_0, .int j7_F_h0_1])), (h0_0, .inl (a_h0_0, n_h0_0, .inl j7_C_h0_0))] H A s.heap locs ∧ lv_has ls 6 [(2, .int j7_L_2), (0, .ref h), (1, .ref h0)]) (fun (u : (Nat → Int32) × (Int32) × (Int32)) ls => match u with | (j7_C_h0_0, j7_F_h0_1, j7_L_2) => F0 m 7 ls []) (fun (u : (Nat → Int32) × (Int32) × (Int32)) => match u with | (j7_C_h0_0, j7_F_h0_1, j7_L_2) => (j7_L_2.toInt + 2).toNat) (fun u H locs ls hi ih7 => ?_) (f_h0_0, h0_1, v5) _ _ _ ⟨by omega, by omega, by omega, by omega, by omega, by omega, by omega, by omega, Wd, lv_sub hl [0, 1, 2] rfl⟩
  obtain ⟨j7_C_h0_0, j7_F_h0_1, j7_L_2⟩ := u
  obtain ⟨i7_0, i7_1, i7_2, i7_3, i7_4, i7_5, i7_6, i7_7, Wd, hl⟩ := hi
  refine lv_iload_n C.1 C.2.1 dX0_foldOperations_7 rfl (lv_at hl 0 rfl) ?_
  refine lv_if_lt (tgt := 87) C.1 C.2.1 dX0_foldOperations_8 (by decide) (fun c8 => ?_) (fun c8 => ?_)
  · have i8 : j7_L_2.toInt < 0 := kz_lt c8
    exact k_vret C hr hlk Wd (j7_F_h0_1, j7_C_h0_0) (by exact ⟨by omega, by omega, by omega, by omega⟩) [0, 1] rfl (by decide) [] rfl (by decide) (by decide) dX0_foldOperations_87
  · have i8 : 0 ≤ j7_L_2.toInt := kz_nlt c8
    refine lv_aload_n C.1 C.2.1 dX0_foldOperations_11 rfl (lv_at hl 2 rfl) ?_
    refine lv_iload_n C.1 C.2.1 dX0_foldOperations_12 rfl (lv_at hl 0 rfl) ?_
    refine k_pi (k_runV (rest := []) C aks Wd cs_X0_35 (sX8_cell l D h0 j7_L_2 h0_0 j7_F_h0_1 n_h0_0 a_h0_0 j7_C_h0_0 _ (by omega) (by omega) (by omega) (by omega)) [0, 1] rfl (by decide) [0] rfl 0 8 rfl rfl rfl rfl rfl ⟨(Nat.le_of_ble_eq_true rfl), (Nat.le_of_ble_eq_true rfl)⟩ hl.1 rfl rfl (Nat.le_of_ble_eq_true rfl) ⟨(Nat.le_of_ble_eq_true rfl), (Nat.le_of_ble_eq_true rfl)⟩ dX0_foldOperations_13) (fun r13 w13 => ?_)
    refine lv_istore_n (lv' := [(3, .int r13), (2, .int j7_L_2), (0, .ref h), (1, .ref h0)]) C.1 C.2.1 dX0_foldOperations_16 rfl hl (by decide) rfl (fun ls hl => ?_)
    refine lv_aload_n C.1 C.2.1 dX0_foldOperations_17 rfl (lv_at hl 3 rfl) ?_
    refine lv_iload_n C.1 C.2.1 dX0_foldOperations_18 rfl (lv_at hl 1 rfl) ?_
    refine lv_iconst (v := 1) C.1 C.2.1 dX0_foldOperations_19 (by decide) ?_
    obtain ⟨v20, ev20⟩ : ∃ z : Int32, j7_L_2 + 1 = z := ⟨_, rfl⟩
    have iv20 : v20.toInt = j7_L_2.toInt + 1 := kz_addc ev20 (by decide) (by have zr0 := kz_rng j7_L_2; omega) (by have zr0 := kz_rng j7_L_2; omega)
    refine k_iadd (v := v20) C ev20 dX0_foldOperations_20 ?_
    refine k_pi (k_runV (rest := []) C aks Wd cs_X0_35 (sX8_cell l D h0 v20 h0_0 j7_F_h0_1 n_h0_0 a_h0_0 j7_C_h0_0 _ (by omega) (by omega) (by omega) (by omega)) [0, 1] rfl (by decide) [0] rfl 0 8 rfl rfl rfl rfl rfl ⟨(Nat.le_of_ble_eq_true rfl), (Nat.le_of_ble_eq_true rfl)⟩ hl.1 rfl rfl (Nat.le_of_ble_eq_true rfl) ⟨(Nat.le_of_ble_eq_true rfl), (Nat.le_of_ble_eq_true rfl)⟩ dX0_foldOperations_21) (fun r21 w21 => ?_)
    refine lv_istore (lv' := [(4, .int r21), (3, .int r13), (2, .int j7_L_2), (0, .ref h), (1, .ref h0)]) C.1 C.2.1 dX0_foldOperations_24 hl (by decide) rfl (fun ls hl => ?_)
    refine lv_aload_n C.1 C.2.1 dX0_foldOperations_26 rfl (lv_at hl 4 rfl) ?_
    refine lv_iload_n C.1 C.2.1 dX0_foldOperations_27 rfl (lv_at hl 2 rfl) ?_
    refine lv_iconst (v := 2) C.1 C.2.1 dX0_foldOperations_28 (by decide) ?_
    obtain ⟨v29, ev29⟩ : ∃ z : Int32, j7_L_2 + 2 = z := ⟨_, rfl⟩
    have iv29 : v29.toInt = j7_L_2.toInt + 2 := kz_addc ev29 (by decide) (by have zr0 := kz_rng j7_L_2; omega) (by have zr0 := kz_rng j7_L_2; omega)
    refine k_iadd (v := v29) C ev29 dX0_foldOperations_29 ?_
    refine k_pi (k_runV (rest := []) C aks Wd cs_X0_35 (sX8_cell l D h0 v29 h0_0 j7_F_h0_1 n_h0_0 a_h0_0 j7_C_h0_0 _ (by omega) (by omega) (by omega) (by omega)) [0, 1] rfl (by decide) [0] rfl 0 8 rfl rfl rfl rfl rfl ⟨(Nat.le_of_ble_eq_true rfl), (Nat.le_of_ble_eq_true rfl)⟩ hl.1 rfl rfl (Nat.le_of_ble_eq_true rfl) ⟨(Nat.le_of_ble_eq_true rfl), (Nat.le_of_ble_eq_true rfl)⟩ dX0_foldOperations_30) (fun r30 w30 => ?_)
    refine lv_istore (lv' := [(5, .int r30), (4, .int r21), (3, .int r13), (2, .int j7_L_2), (0, .ref h), (1, .ref h0)]) C.1 C.2.1 dX0_foldOperations_33 hl (by decide) rfl (fun ls hl => ?_)
    refine lv_iload_n C.1 C.2.1 dX0_foldOperations_35 rfl (lv_at hl 2 rfl) ?_
    refine k_pi (k_runS (rest := []) C aks Wd cs_X0_54 (sX8_isOperation l D r13 _ ) [] rfl (by decide) [] rfl rfl rfl ⟨(Nat.le_of_ble_eq_true rfl), (Nat.le_of_ble_eq_true rfl)⟩ hl.1 rfl rfl (Nat.le_of_ble_eq_true rfl) ⟨(Nat.le_of_ble_eq_true rfl), (Nat.le_of_ble_eq_true rfl)⟩ dX0_foldOperations_36) (fun r36 w36 => ?_)
    obtain ⟨g36_0, g36_1⟩ := w36
    have g36_0 : 0 ≤ r36.toInt := g36_0
    have g36_1 : r36.toInt ≤ 1 := g36_1
    refine k_cutA (fun (u : (Int32) × (Nat → Int32)) H locs ls => match u with | (j81_F_h0_1, j81_C_h0_0) => 0 ≤ j81_F_h0_1.toInt ∧ j81_F_h0_1.toInt ≤ 1000 ∧ j81_F_h0_1.toInt ≤ (n_h0_0 : Int) ∧ j81_F_h0_1.toInt ≤ h0_1.toInt ∧ j81_F_h0_1.toInt ≤ j7_F_h0_1.toInt ∧ wX D [(a_h0_0, .int)] s [(h0, .inr (8, [.ref h0_0, .int j81_F_h0_1])), (h0_0, .inl (a_h0_0, n_h0_0, .inl j81_C_h0_0))] H A s.heap locs ∧ lv_has ls 6 [(5, .int r30), (4, .int r21), (3, .int r13), (2, .int j7_L_2), (0, .ref h), (1, .ref h0)]) (fun (u : (Int32) × (Nat → Int32)) ls => match u with | (j81_F_h0_1, j81_C_h0_0) => F0 m 81 ls []) (fun u H locs ls hi => ?_) (fun J81 => ?_)
    · obtain ⟨j81_F_h0_1, j81_C_h0_0⟩ := u
      obtain ⟨i81_0, i81_1, i81_2, i81_3, i81_4, Wd, hl⟩ := hi
      obtain ⟨v81, ev81⟩ : ∃ z : Int32, j7_L_2 + (-1) = z := ⟨_, rfl⟩
      have iv81 : v81.toInt = j7_L_2.toInt + (-1) := kz_addc ev81 (by decide) (by have zr0 := kz_rng j7_L_2; omega) (by have zr0 := kz_rng j7_L_2; omega)
      refine lv_iinc (v := v81) (lv' := [(2, .int v81), (5, .int r30), (4, .int r21), (3, .int r13), (0, .ref h), (1, .ref h0)]) C.1 C.2.1 dX0_foldOperations_81 hl (k := 3) rfl ev81 (by decide) rfl (fun ls hl => ?_)
      refine lv_goto (tgt := 7) C.1 C.2.1 dX0_foldOperations_84 (by decide) ?_
      exact ih7 (j81_C_h0_0, j81_F_h0_1, v81) _ _ _ ⟨by omega, by omega, by omega, by omega, by omega, by omega, by omega, by omega, Wd, lv_sub hl [0, 4, 5] rfl⟩ (by show (v81.toInt + 2).toNat < (j7_L_2.toInt + 2).toNat; omega)
    refine lv_if_eq (tgt := 81) C.1 C.2.1 dX0_foldOperations_39 (by decide) (fun c39 => ?_) (fun c39 => ?_)
    · have i39 : r36.toInt = 0 := kz_eq c39
      exact J81 (j7_F_h0_1, j7_C_h0_0) _ _ _ ⟨by omega, by omega, by omega, by omega, by omega, Wd, lv_sub hl [0, 1, 2, 3, 4, 5] rfl⟩
    · have i39 : ¬ r36.toInt = 0 := kz_ne c39
      refine lv_iload C.1 C.2.1 dX0_foldOperations_42 (lv_at hl 1 rfl) ?_
      refine k_pi (k_runS (rest := []) C aks Wd cs_X0_39 (sX8_isNumber l D r21 _ ) [] rfl (by decide) [] rfl rfl rfl ⟨(Nat.le_of_ble_eq_true rfl), (Nat.le_of_ble_eq_true rfl)⟩ hl.1 rfl rfl (Nat.le_of_ble_eq_true rfl) ⟨(Nat.le_of_ble_eq_true rfl), (Nat.le_of_ble_eq_true rfl)⟩ dX0_foldOperations_44) (fun r44 w44 => ?_)
      obtain ⟨g44_0, g44_1⟩ := w44
      have g44_0 : 0 ≤ r44.toInt := g44_0
      have g44_1 : r44.toInt ≤ 1 := g44_1
      refine lv_if_eq (tgt := 81) C.1 C.2.1 dX0_foldOperations_47 (by decide) (fun c47 => ?_) (fun c47 => ?_)
      · have i47 : r44.toInt = 0 := kz_eq c47
        exact J81 (j7_F_h0_1, j7_C_h0_0) _ _ _ ⟨by omega, by omega, by omega, by omega, by omega, Wd, lv_sub hl [0, 1, 2, 3, 4, 5] rfl⟩
      · have i47 : ¬ r44.toInt = 0 := kz_ne c47
        refine lv_iload C.1 C.2.1 dX0_foldOperations_50 (lv_at hl 0 rfl) ?_
        refine k_pi (k_runS (rest := []) C aks Wd cs_X0_39 (sX8_isNumber l D r30 _ ) [] rfl (by decide) [] rfl rfl rfl ⟨(Nat.le_of_ble_eq_true rfl), (Nat.le_of_ble_eq_true rfl)⟩ hl.1 rfl rfl (Nat.le_of_ble_eq_true rfl) ⟨(Nat.le_of_ble_eq_true rfl), (Nat.le_of_ble_eq_true rfl)⟩ dX0_foldOperations_52) (fun r52 w52 => ?_)
        obtain ⟨g52_0, g52_1⟩ := w52
        have g52_0 : 0 ≤ r52.toInt := g52_0
        have g52_1 : r52.toInt ≤ 1 := g52_1
        refine lv_if_eq (tgt := 81) C.1 C.2.1 dX0_foldOperations_55 (by decide) (fun c55 => ?_) (fun c55 => ?_)
        · have i55 : r52.toInt = 0 := kz_eq c55
          exact J81 (j7_F_h0_1, j7_C_h0_0) _ _ _ ⟨by omega, by omega, by omega, by omega, by omega, Wd, lv_sub hl [0, 1, 2, 3, 4, 5] rfl⟩
        · have i55 : ¬ r52.toInt = 0 := kz_ne c55
          refine lv_aload_n C.1 C.2.1 dX0_foldOperations_58 rfl (lv_at hl 5 rfl) ?_
          refine lv_iload_n C.1 C.2.1 dX0_foldOperations_59 rfl (lv_at hl 3 rfl) ?_
          refine lv_iload_n C.1 C.2.1 dX0_foldOperations_60 rfl (lv_at hl 2 rfl) ?_
          refine lv_iload C.1 C.2.1 dX0_foldOperations_61 (lv_at hl 1 rfl) ?_
          refine lv_iload C.1 C.2.1 dX0_foldOperations_63 (lv_at hl 0 rfl) ?_
          refine k_pi (k_runS (rest := [.int j7_L_2, .ref h0]) C aks Wd cs_X0_57 (sX8_result l D r13 r21 r30 _ ) [] rfl (by decide) [] rfl rfl rfl ⟨(Nat.le_of_ble_eq_true rfl), (Nat.le_of_ble_eq_true rfl)⟩ hl.1 rfl rfl (Nat.le_of_ble_eq_true rfl) ⟨(Nat.le_of_ble_eq_true rfl), (Nat.le_of_ble_eq_true rfl)⟩ dX0_foldOperations_65) (fun r65 w65 => ?_)
          refine k_cv Wd [0, 1] [] rfl (wr := []) rfl (by decide) (by decide) (cells' := 0) (slots' := 0) (by decide) (by decide) (k_runV (rest := []) C aks Wd cs_X0_61 (sX8_change l D h0 j7_L_2 r65 h0_0 j7_F_h0_1 n_h0_0 a_h0_0 j7_C_h0_0 _ (by omega) (by omega) (by omega) (by omega)) [0, 1] rfl (by decide) [0] rfl 0 8 rfl rfl rfl rfl rfl ⟨(Nat.le_of_ble_eq_true rfl), (Nat.le_of_ble_eq_true rfl)⟩ hl.1 rfl rfl (Nat.le_of_ble_eq_true rfl) ⟨(Nat.le_of_ble_eq_true rfl), (Nat.le_of_ble_eq_true rfl)⟩ dX0_foldOperations_68) (fun s68_0 H locs w68 Wd => ?_)
          have Wd : wX D [(a_h0_0, .int)] s [(h0, .inr (8, [.ref h0_0, .int j7_F_h0_1])), (h0_0, .inl (a_h0_0, n_h0_0, .inl s68_0))] _ A s.heap _ := k_sub Wd [0, 1] rfl (by decide) [0] rfl
          refine lv_aload_n C.1 C.2.1 dX0_foldOperations_71 rfl (lv_at hl 5 rfl) ?_
          refine lv_iload_n C.1 C.2.1 dX0_foldOperations_72 rfl (lv_at hl 3 rfl) ?_
          refine lv_iconst (v := 1) C.1 C.2.1 dX0_foldOperations_73 (by decide) ?_
          obtain ⟨v74, ev74⟩ : ∃ z : Int32, j7_L_2 + 1 = z := ⟨_, rfl⟩
          have iv74 : v74.toInt = j7_L_2.toInt + 1 := kz_addc ev74 (by decide) (by have zr0 := kz_rng j7_L_2; omega) (by have zr0 := kz_rng j7_L_2; omega)
          refine k_iadd (v := v74) C ev74 dX0_foldOperations_74 ?_
          refine lv_iload_n C.1 C.2.1 dX0_foldOperations_75 rfl (lv_at hl 3 rfl) ?_
          refine lv_iconst (v := 3) C.1 C.2.1 dX0_foldOperations_76 (by decide) ?_
          obtain ⟨v77, ev77⟩ : ∃ z : Int32, j7_L_2 + 3 = z := ⟨_, rfl⟩
          have iv77 : v77.toInt = j7_L_2.toInt + 3 := kz_addc ev77 (by decide) (by have zr0 := kz_rng j7_L_2; omega) (by have zr0 := kz_rng j7_L_2; omega)
          refine k_iadd (v := v77) C ev77 dX0_foldOperations_77 ?_
          refine k_cv Wd [0, 1] [] rfl (wr := []) rfl (by decide) (by decide) (cells' := 0) (slots' := 0) (by decide) (by decide) (k_runV (rest := []) C aks Wd cs_X0_65 (sX8_remove l D h0 v74 v77 h0_0 j7_F_h0_1 n_h0_0 a_h0_0 s68_0 _ (by omega) (by omega) (by omega) (by omega)) [0, 1] rfl (by decide) [0] rfl 0 8 rfl rfl rfl rfl rfl ⟨(Nat.le_of_ble_eq_true rfl), (Nat.le_of_ble_eq_true rfl)⟩ hl.1 rfl rfl (Nat.le_of_ble_eq_true rfl) ⟨(Nat.le_of_ble_eq_true rfl), (Nat.le_of_ble_eq_true rfl)⟩ dX0_foldOperations_78) (fun u H locs w78 Wd => ?_)
          obtain ⟨s78_0, s78_1⟩ := u
          have Wd : wX D [(a_h0_0, .int)] s [(h0, .inr (8, [.ref h0_0, .int s78_0])), (h0_0, .inl (a_h0_0, n_h0_0, .inl s78_1))] _ A s.heap _ := k_sub Wd [0, 1] rfl (by decide) [0] rfl
          obtain ⟨g78_0, g78_1, g78_2, g78_3⟩ := w78
          have g78_0 : 0 ≤ s78_0.toInt := g78_0
          have g78_1 : s78_0.toInt ≤ 1000 := g78_1
          have g78_2 : s78_0.toInt ≤ (n_h0_0 : Int) := g78_2
          have g78_3 : s78_0.toInt ≤ j7_F_h0_1.toInt := g78_3
          exact J81 (s78_0, s78_1) _ _ _ ⟨by omega, by omega, by omega, by omega, by omega, Wd, lv_sub hl [0, 1, 2, 3, 4, 5] rfl⟩
set_option maxHeartbeats 4000000 in
set_option maxRecDepth 100000 in
theorem sX0_foldBranch (l : Launch) (D : va_G) (h : Nat) (h0 : Nat) (x1 : Int32) (x2 : Int32) (h0_0 : Nat) (h0_1 : Int32) (n_h0_0 : Nat) (a_h0_0 : ClassId) (f_h0_0 : Nat → Int32) (sz : Nat) (k_x2_lo : 0 ≤ x2.toInt) (k_x2_hi : x2.toInt ≤ 1) (k_h0_1_lo : 0 ≤ h0_1.toInt) (k_n_h0_0 : n_h0_0 ≤ 1000) (k_p_h0_0 : 1 ≤ n_h0_0) (k_h0_1_hi : h0_1.toInt ≤ (n_h0_0 : Int))  : Met l yX0_foldBranch (Cond.code yX0_foldBranch cX0_foldBranch 6 none :: gG) { frames := 3, cells := 0, slots := 0, locals := 118 } (cPre D [(a_h0_0, .int)] [(h0, .inr (8, [.ref h0_0, .int h0_1])), (h0_0, .inl (a_h0_0, n_h0_0, .inl f_h0_0))] sz [.ref h, .ref h0, .int x1, .int x2]) (va_Qv (fun (u : (Int32) × (Nat → Int32)) => match u with | (jX_F_h0_1, jX_C_h0_0) => 0 ≤ jX_F_h0_1.toInt ∧ jX_F_h0_1.toInt ≤ 1000 ∧ jX_F_h0_1.toInt ≤ (n_h0_0 : Int) ∧ jX_F_h0_1.toInt ≤ h0_1.toInt) (fun u t => cB D (va_A [(h0, .inr (8, [.ref h0_0, .int h0_1])), (h0_0, .inl (a_h0_0, n_h0_0, .inl f_h0_0))] sz) ((fun (_ : (Int32) × (Nat → Int32)) => ([] : List (ClassId × FieldType))) u) ((fun (u : (Int32) × (Nat → Int32)) => match u with | (jX_F_h0_1, jX_C_h0_0) => ([(h0, .inr (8, [.ref h0_0, .int jX_F_h0_1])), (h0_0, .inl (a_h0_0, n_h0_0, .inl jX_C_h0_0))] : va_W)) u) t) (va_A [(h0, .inr (8, [.ref h0_0, .int h0_1])), (h0_0, .inl (a_h0_0, n_h0_0, .inl f_h0_0))] sz)) 0 0 (va_A [(h0, .inr (8, [.ref h0_0, .int h0_1])), (h0_0, .inl (a_h0_0, n_h0_0, .inl f_h0_0))] sz) := by
  refine Met.ofW (cc := cX0_foldBranch) (maxL := 6) (ret := none) (by decide) rfl ?_
  intro p e s m args below meth c s₁ B hml hv
  obtain ⟨rfl, aks, rfl, Wd⟩ := k_enter hv
  have C : CallFix p m c cX0_foldBranch 6 s _ gG RX0 := ⟨B.exec, B.bytes, hml, findClass_of_methodNamed B.named, fun w h => atoms_spec (ws := Cond.code yX0_foldBranch cX0_foldBranch 6 none :: gG) B.pre w (List.mem_cons_of_mem _ h)⟩
  have hr := B.returns
  have hlk := B.notSynchronized
  generalize va_A [(h0, .inr (8, [.ref h0_0, .int h0_1])), (h0_0, .inl (a_h0_0, n_h0_0, .inl f_h0_0))] s.heap.size = A at Wd ⊢
  refine k_locals (Nat.le_of_ble_eq_true rfl) [(0, .ref h), (1, .ref h0), (2, .int x1), (3, .int x2)] rfl (fun ls hl => ?_)
  refine lv_aload_n C.1 C.2.1 dX0_foldBranch_0 rfl (lv_at hl 1 rfl) ?_
  refine lv_iload_n C.1 C.2.1 dX0_foldBranch_1 rfl (lv_at hl 2 rfl) ?_
  refine k_pi (k_runV (rest := []) C aks Wd cs_X0_68 (sX8_closeOf l D h0 x1 h0_0 h0_1 n_h0_0 a_h0_0 f_h0_0 _ (by omega) (by omega) (by omega) (by omega)) [0, 1] rfl (by decide) [0] rfl 0 8 rfl rfl rfl rfl rfl ⟨(Nat.le_of_ble_eq_true rfl), (Nat.le_of_ble_eq_true rfl)⟩ hl.1 rfl rfl (Nat.le_of_ble_eq_true rfl) ⟨(Nat.le_of_ble_eq_true rfl), (Nat.le_of_ble_eq_true rfl)⟩ dX0_foldBranch_2) (fun r2 w2 => ?_)
  obtain ⟨g2_0, g2_1, g2_2, g2_3⟩ := w2
  have g2_0 : 0 ≤ r2.toInt := g2_0
  have g2_1 : r2.toInt ≤ 1000 := g2_1
  have g2_2 : r2.toInt ≤ (n_h0_0 : Int) := g2_2
  have g2_3 : r2.toInt ≤ h0_1.toInt := g2_3
  refine lv_istore (lv' := [(4, .int r2), (0, .ref h), (1, .ref h0), (2, .int x1), (3, .int x2)]) C.1 C.2.1 dX0_foldBranch_5 hl (by decide) rfl (fun ls hl => ?_)
  refine lv_aload_n C.1 C.2.1 dX0_foldBranch_7 rfl (lv_at hl 2 rfl) ?_
  refine lv_iload_n C.1 C.2.1 dX0_foldBranch_8 rfl (lv_at hl 3 rfl) ?_
  refine k_pi (k_runV (rest := []) C aks Wd cs_X0_35 (sX8_cell l D h0 x1 h0_0 h0_1 n_h0_0 a_h0_0 f_h0_0 _ (by omega) (by omega) (by omega) (by omega)) [0, 1] rfl (by decide) [0] rfl 0 8 rfl rfl rfl rfl rfl ⟨(Nat.le_of_ble_eq_true rfl), (Nat.le_of_ble_eq_true rfl)⟩ hl.1 rfl rfl (Nat.le_of_ble_eq_true rfl) ⟨(Nat.le_of_ble_eq_true rfl), (Nat.le_of_ble_eq_true rfl)⟩ dX0_foldBranch_9) (fun r9 w9 => ?_)
  refine lv_bipush (v := 115) C.1 C.2.1 dX0_foldBranch_12 (by decide) ?_
  refine lv_icmp_ne (tgt := 31) C.1 C.2.1 dX0_foldBranch_14 (by decide) (fun c14 => ?_) (fun c14 => ?_)
  · have i14 : ¬ r9.toInt = 115 := kz_ne c14
    refine lv_aload_n C.1 C.2.1 dX0_foldBranch_31 rfl (lv_at hl 2 rfl) ?_
    refine lv_iload_n C.1 C.2.1 dX0_foldBranch_32 rfl (lv_at hl 3 rfl) ?_
    refine k_pi (k_runV (rest := []) C aks Wd cs_X0_71 (sX8_elseOf l D h0 x1 h0_0 h0_1 n_h0_0 a_h0_0 f_h0_0 _ (by omega) (by omega) (by omega) (by omega)) [0, 1] rfl (by decide) [0] rfl 0 8 rfl rfl rfl rfl rfl ⟨(Nat.le_of_ble_eq_true rfl), (Nat.le_of_ble_eq_true rfl)⟩ hl.1 rfl rfl (Nat.le_of_ble_eq_true rfl) ⟨(Nat.le_of_ble_eq_true rfl), (Nat.le_of_ble_eq_true rfl)⟩ dX0_foldBranch_33) (fun r33 w33 => ?_)
    obtain ⟨g33_0, g33_1, g33_2, g33_3⟩ := w33
    have g33_0 : 0 ≤ r33.toInt := g33_0
    have g33_1 : r33.toInt ≤ 1000 := g33_1
    have g33_2 : r33.toInt ≤ (n_h0_0 : Int) := g33_2
    have g33_3 : r33.toInt ≤ h0_1.toInt := g33_3
    refine lv_istore (lv' := [(5, .int r33), (4, .int r2), (0, .ref h), (1, .ref h0), (2, .int x1), (3, .int x2)]) C.1 C.2.1 dX0_foldBranch_36 hl (by decide) rfl (fun ls hl => ?_)
    refine lv_iload_n C.1 C.2.1 dX0_foldBranch_38 rfl (lv_at hl 5 rfl) ?_
    refine k_cutA (fun (u : (Int32) × (Nat → Int32)) H locs ls => match u with | (j82_F_h0_1, j82_C_h0_0) => 0 ≤ j82_F_h0_1.toInt ∧ j82_F_h0_1.toInt ≤ 1000 ∧ j82_F_h0_1.toInt ≤ (n_h0_0 : Int) ∧ j82_F_h0_1.toInt ≤ h0_1.toInt ∧ wX D [(a_h0_0, .int)] s [(h0, .inr (8, [.ref h0_0, .int j82_F_h0_1])), (h0_0, .inl (a_h0_0, n_h0_0, .inl j82_C_h0_0))] H A s.heap locs ∧ lv_has ls 6 [(5, .int r33), (4, .int r2), (0, .ref h), (1, .ref h0), (2, .int x1), (3, .int x2)]) (fun (u : (Int32) × (Nat → Int32)) ls => match u with | (j82_F_h0_1, j82_C_h0_0) => F0 m 82 ls []) (fun u H locs ls hi => ?_) (fun J82 => ?_)
    · obtain ⟨j82_F_h0_1, j82_C_h0_0⟩ := u
      obtain ⟨i82_0, i82_1, i82_2, i82_3, Wd, hl⟩ := hi
      exact k_vret C hr hlk Wd (j82_F_h0_1, j82_C_h0_0) (by exact ⟨by omega, by omega, by omega, by omega⟩) [0, 1] rfl (by decide) [] rfl (by decide) (by decide) dX0_foldBranch_82
    refine lv_if_eq (tgt := 63) C.1 C.2.1 dX0_foldBranch_39 (by decide) (fun c39 => ?_) (fun c39 => ?_)
    · have i39 : x2.toInt = 0 := kz_eq c39
      refine lv_aload_n C.1 C.2.1 dX0_foldBranch_63 rfl (lv_at hl 3 rfl) ?_
      refine lv_iload C.1 C.2.1 dX0_foldBranch_64 (lv_at hl 1 rfl) ?_
      refine lv_iload C.1 C.2.1 dX0_foldBranch_66 (lv_at hl 1 rfl) ?_
      refine lv_iconst (v := 1) C.1 C.2.1 dX0_foldBranch_68 (by decide) ?_
      obtain ⟨v69, ev69⟩ : ∃ z : Int32, r2 + 1 = z := ⟨_, rfl⟩
      have iv69 : v69.toInt = r2.toInt + 1 := kz_addc ev69 (by decide) (by have zr0 := kz_rng r2; omega) (by have zr0 := kz_rng r2; omega)
      refine k_iadd (v := v69) C ev69 dX0_foldBranch_69 ?_
      refine k_cv Wd [0, 1] [] rfl (wr := []) rfl (by decide) (by decide) (cells' := 0) (slots' := 0) (by decide) (by decide) (k_runV (rest := []) C aks Wd cs_X0_65 (sX8_remove l D h0 r2 v69 h0_0 h0_1 n_h0_0 a_h0_0 f_h0_0 _ (by omega) (by omega) (by omega) (by omega)) [0, 1] rfl (by decide) [0] rfl 0 8 rfl rfl rfl rfl rfl ⟨(Nat.le_of_ble_eq_true rfl), (Nat.le_of_ble_eq_true rfl)⟩ hl.1 rfl rfl (Nat.le_of_ble_eq_true rfl) ⟨(Nat.le_of_ble_eq_true rfl), (Nat.le_of_ble_eq_true rfl)⟩ dX0_foldBranch_70) (fun u H locs w70 Wd => ?_)
      obtain ⟨s70_0, s70_1⟩ := u
      have Wd : wX D [(a_h0_0, .int)] s [(h0, .inr (8, [.ref h0_0, .int s70_0])), (h0_0, .inl (a_h0_0, n_h0_0, .inl s70_1))] _ A s.heap _ := k_sub Wd [0, 1] rfl (by decide) [0] rfl
      obtain ⟨g70_0, g70_1, g70_2, g70_3⟩ := w70
      have g70_0 : 0 ≤ s70_0.toInt := g70_0
      have g70_1 : s70_0.toInt ≤ 1000 := g70_1
      have g70_2 : s70_0.toInt ≤ (n_h0_0 : Int) := g70_2
      have g70_3 : s70_0.toInt ≤ h0_1.toInt := g70_3
      refine lv_aload_n C.1 C.2.1 dX0_foldBranch_73 rfl (lv_at hl 3 rfl) ?_
      refine lv_iload_n C.1 C.2.1 dX0_foldBranch_74 rfl (lv_at hl 4 rfl) ?_
      refine lv_iload C.1 C.2.1 dX0_foldBranch_75 (lv_at hl 0 rfl) ?_
      refine lv_iconst (v := 1) C.1 C.2.1 dX0_foldBranch_77 (by decide) ?_
      obtain ⟨v78, ev78⟩ : ∃ z : Int32, r33 + 1 = z := ⟨_, rfl⟩
      have iv78 : v78.toInt = r33.toInt + 1 := kz_addc ev78 (by decide) (by have zr0 := kz_rng r33; omega) (by have zr0 := kz_rng r33; omega)
      refine k_iadd (v := v78) C ev78 dX0_foldBranch_78 ?_
      refine k_cv Wd [0, 1] [] rfl (wr := []) rfl (by decide) (by decide) (cells' := 0) (slots' := 0) (by decide) (by decide) (k_runV (rest := []) C aks Wd cs_X0_65 (sX8_remove l D h0 x1 v78 h0_0 s70_0 n_h0_0 a_h0_0 s70_1 _ (by omega) (by omega) (by omega) (by omega)) [0, 1] rfl (by decide) [0] rfl 0 8 rfl rfl rfl rfl rfl ⟨(Nat.le_of_ble_eq_true rfl), (Nat.le_of_ble_eq_true rfl)⟩ hl.1 rfl rfl (Nat.le_of_ble_eq_true rfl) ⟨(Nat.le_of_ble_eq_true rfl), (Nat.le_of_ble_eq_true rfl)⟩ dX0_foldBranch_79) (fun u H locs w79 Wd => ?_)
      obtain ⟨s79_0, s79_1⟩ := u
      have Wd : wX D [(a_h0_0, .int)] s [(h0, .inr (8, [.ref h0_0, .int s79_0])), (h0_0, .inl (a_h0_0, n_h0_0, .inl s79_1))] _ A s.heap _ := k_sub Wd [0, 1] rfl (by decide) [0] rfl
      obtain ⟨g79_0, g79_1, g79_2, g79_3⟩ := w79
      have g79_0 : 0 ≤ s79_0.toInt := g79_0
      have g79_1 : s79_0.toInt ≤ 1000 := g79_1
      have g79_2 : s79_0.toInt ≤ (n_h0_0 : Int) := g79_2
      have g79_3 : s79_0.toInt ≤ s70_0.toInt := g79_3
      exact J82 (s79_0, s79_1) _ _ _ ⟨by omega, by omega, by omega, by omega, Wd, lv_sub hl [0, 1, 2, 3, 4, 5] rfl⟩
    · have i39 : ¬ x2.toInt = 0 := kz_ne c39
      refine lv_aload_n C.1 C.2.1 dX0_foldBranch_42 rfl (lv_at hl 3 rfl) ?_
      refine lv_iload C.1 C.2.1 dX0_foldBranch_43 (lv_at hl 0 rfl) ?_
      refine lv_iload C.1 C.2.1 dX0_foldBranch_45 (lv_at hl 1 rfl) ?_
      refine lv_iconst (v := 1) C.1 C.2.1 dX0_foldBranch_47 (by decide) ?_
      obtain ⟨v48, ev48⟩ : ∃ z : Int32, r2 + 1 = z := ⟨_, rfl⟩
      have iv48 : v48.toInt = r2.toInt + 1 := kz_addc ev48 (by decide) (by have zr0 := kz_rng r2; omega) (by have zr0 := kz_rng r2; omega)
      refine k_iadd (v := v48) C ev48 dX0_foldBranch_48 ?_
      refine k_cv Wd [0, 1] [] rfl (wr := []) rfl (by decide) (by decide) (cells' := 0) (slots' := 0) (by decide) (by decide) (k_runV (rest := []) C aks Wd cs_X0_65 (sX8_remove l D h0 r33 v48 h0_0 h0_1 n_h0_0 a_h0_0 f_h0_0 _ (by omega) (by omega) (by omega) (by omega)) [0, 1] rfl (by decide) [0] rfl 0 8 rfl rfl rfl rfl rfl ⟨(Nat.le_of_ble_eq_true rfl), (Nat.le_of_ble_eq_true rfl)⟩ hl.1 rfl rfl (Nat.le_of_ble_eq_true rfl) ⟨(Nat.le_of_ble_eq_true rfl), (Nat.le_of_ble_eq_true rfl)⟩ dX0_foldBranch_49) (fun u H locs w49 Wd => ?_)
      obtain ⟨s49_0, s49_1⟩ := u
      have Wd : wX D [(a_h0_0, .int)] s [(h0, .inr (8, [.ref h0_0, .int s49_0])), (h0_0, .inl (a_h0_0, n_h0_0, .inl s49_1))] _ A s.heap _ := k_sub Wd [0, 1] rfl (by decide) [0] rfl
      obtain ⟨g49_0, g49_1, g49_2, g49_3⟩ := w49
      have g49_0 : 0 ≤ s49_0.toInt := g49_0
      have g49_1 : s49_0.toInt ≤ 1000 := g49_1
      have g49_2 : s49_0.toInt ≤ (n_h0_0 : Int) := g49_2
      have g49_3 : s49_0.toInt ≤ h0_1.toInt := g49_3
      refine lv_aload_n C.1 C.2.1 dX0_foldBranch_52 rfl (lv_at hl 3 rfl) ?_
      refine lv_iload_n C.1 C.2.1 dX0_foldBranch_53 rfl (lv_at hl 4 rfl) ?_
      refine lv_iload_n C.1 C.2.1 dX0_foldBranch_54 rfl (lv_at hl 4 rfl) ?_
      refine lv_iconst (v := 4) C.1 C.2.1 dX0_foldBranch_55 (by decide) ?_
      obtain ⟨v56, ev56⟩ : ∃ z : Int32, x1 + 4 = z := ⟨_, rfl⟩
      refine k_iadd (v := v56) C ev56 dX0_foldBranch_56 ?_
      refine k_cv Wd [0, 1] [] rfl (wr := []) rfl (by decide) (by decide) (cells' := 0) (slots' := 0) (by decide) (by decide) (k_runV (rest := []) C aks Wd cs_X0_65 (sX8_remove l D h0 x1 v56 h0_0 s49_0 n_h0_0 a_h0_0 s49_1 _ (by omega) (by omega) (by omega) (by omega)) [0, 1] rfl (by decide) [0] rfl 0 8 rfl rfl rfl rfl rfl ⟨(Nat.le_of_ble_eq_true rfl), (Nat.le_of_ble_eq_true rfl)⟩ hl.1 rfl rfl (Nat.le_of_ble_eq_true rfl) ⟨(Nat.le_of_ble_eq_true rfl), (Nat.le_of_ble_eq_true rfl)⟩ dX0_foldBranch_57) (fun u H locs w57 Wd => ?_)
      obtain ⟨s57_0, s57_1⟩ := u
      have Wd : wX D [(a_h0_0, .int)] s [(h0, .inr (8, [.ref h0_0, .int s57_0])), (h0_0, .inl (a_h0_0, n_h0_0, .inl s57_1))] _ A s.heap _ := k_sub Wd [0, 1] rfl (by decide) [0] rfl
      obtain ⟨g57_0, g57_1, g57_2, g57_3⟩ := w57
      have g57_0 : 0 ≤ s57_0.toInt := g57_0
      have g57_1 : s57_0.toInt ≤ 1000 := g57_1
      have g57_2 : s57_0.toInt ≤ (n_h0_0 : Int) := g57_2
      have g57_3 : s57_0.toInt ≤ s49_0.toInt := g57_3
      refine lv_goto (tgt := 82) C.1 C.2.1 dX0_foldBranch_60 (by decide) ?_
      exact J82 (s57_0, s57_1) _ _ _ ⟨by omega, by omega, by omega, by omega, Wd, lv_sub hl [0, 1, 2, 3, 4, 5] rfl⟩
  · have i14 : r9.toInt = 115 := kz_eq c14
    refine lv_iload_n C.1 C.2.1 dX0_foldBranch_17 rfl (lv_at hl 4 rfl) ?_
    refine k_cutA (fun (u : (Int32) × (Nat → Int32)) H locs ls => match u with | (j30_F_h0_1, j30_C_h0_0) => 0 ≤ j30_F_h0_1.toInt ∧ j30_F_h0_1.toInt ≤ 1000 ∧ j30_F_h0_1.toInt ≤ (n_h0_0 : Int) ∧ j30_F_h0_1.toInt ≤ h0_1.toInt ∧ wX D [(a_h0_0, .int)] s [(h0, .inr (8, [.ref h0_0, .int j30_F_h0_1])), (h0_0, .inl (a_h0_0, n_h0_0, .inl j30_C_h0_0))] H A s.heap locs ∧ lv_has ls 6 [(4, .int r2), (0, .ref h), (1, .ref h0), (2, .int x1), (3, .int x2)]) (fun (u : (Int32) × (Nat → Int32)) ls => match u with | (j30_F_h0_1, j30_C_h0_0) => F0 m 30 ls []) (fun u H locs ls hi => ?_) (fun J30 => ?_)
    · obtain ⟨j30_F_h0_1, j30_C_h0_0⟩ := u
      obtain ⟨i30_0, i30_1, i30_2, i30_3, Wd, hl⟩ := hi
      exact k_vret C hr hlk Wd (j30_F_h0_1, j30_C_h0_0) (by exact ⟨by omega, by omega, by omega, by omega⟩) [0, 1] rfl (by decide) [] rfl (by decide) (by decide) dX0_foldBranch_30
    refine lv_if_ne (tgt := 30) C.1 C.2.1 dX0_foldBranch_18 (by decide) (fun c18 => ?_) (fun c18 => ?_)
    · have i18 : ¬ x2.toInt = 0 := kz_ne c18
      exact J30 (h0_1, f_h0_0) _ _ _ ⟨by omega, by omega, by omega, by omega, Wd, lv_sub hl [0, 1, 2, 3, 4] rfl⟩
    · have i18 : x2.toInt = 0 := kz_eq c18
      refine lv_aload_n C.1 C.2.1 dX0_foldBranch_21 rfl (lv_at hl 2 rfl) ?_
      refine lv_iload_n C.1 C.2.1 dX0_foldBranch_22 rfl (lv_at hl 3 rfl) ?_
      refine lv_iload C.1 C.2.1 dX0_foldBranch_23 (lv_at hl 0 rfl) ?_
      refine lv_iconst (v := 1) C.1 C.2.1 dX0_foldBranch_25 (by decide) ?_
      obtain ⟨v26, ev26⟩ : ∃ z : Int32, r2 + 1 = z := ⟨_, rfl⟩
      have iv26 : v26.toInt = r2.toInt + 1 := kz_addc ev26 (by decide) (by have zr0 := kz_rng r2; omega) (by have zr0 := kz_rng r2; omega)
      refine k_iadd (v := v26) C ev26 dX0_foldBranch_26 ?_
      refine k_cv Wd [0, 1] [] rfl (wr := []) rfl (by decide) (by decide) (cells' := 0) (slots' := 0) (by decide) (by decide) (k_runV (rest := []) C aks Wd cs_X0_65 (sX8_remove l D h0 x1 v26 h0_0 h0_1 n_h0_0 a_h0_0 f_h0_0 _ (by omega) (by omega) (by omega) (by omega)) [0, 1] rfl (by decide) [0] rfl 0 8 rfl rfl rfl rfl rfl ⟨(Nat.le_of_ble_eq_true rfl), (Nat.le_of_ble_eq_true rfl)⟩ hl.1 rfl rfl (Nat.le_of_ble_eq_true rfl) ⟨(Nat.le_of_ble_eq_true rfl), (Nat.le_of_ble_eq_true rfl)⟩ dX0_foldBranch_27) (fun u H locs w27 Wd => ?_)
      obtain ⟨s27_0, s27_1⟩ := u
      have Wd : wX D [(a_h0_0, .int)] s [(h0, .inr (8, [.ref h0_0, .int s27_0])), (h0_0, .inl (a_h0_0, n_h0_0, .inl s27_1))] _ A s.heap _ := k_sub Wd [0, 1] rfl (by decide) [0] rfl
      obtain ⟨g27_0, g27_1, g27_2, g27_3⟩ := w27
      have g27_0 : 0 ≤ s27_0.toInt := g27_0
      have g27_1 : s27_0.toInt ≤ 1000 := g27_1
      have g27_2 : s27_0.toInt ≤ (n_h0_0 : Int) := g27_2
      have g27_3 : s27_0.toInt ≤ h0_1.toInt := g27_3
      exact J30 (s27_0, s27_1) _ _ _ ⟨by omega, by omega, by omega, by omega, Wd, lv_sub hl [0, 1, 2, 3, 4] rfl⟩
set_option maxHeartbeats 4000000 in
set_option maxRecDepth 100000 in
theorem sX0_fold (l : Launch) (D : va_G) (h : Nat) (h0 : Nat) (h_0 : Nat) (h_1 : Nat) (h0_0 : Nat) (h0_1 : Int32) (n_h0_0 : Nat) (a_h0_0 : ClassId) (f_h0_0 : Nat → Int32) (sz : Nat) (k_h0_1_lo : 0 ≤ h0_1.toInt) (k_n_h0_0 : n_h0_0 ≤ 1000) (k_p_h0_0 : 1 ≤ n_h0_0) (k_h0_1_hi : h0_1.toInt ≤ (n_h0_0 : Int))  : Met l yX0_fold (Cond.code yX0_fold cX0_fold 4 none :: gG) { frames := 4, cells := 0, slots := 0, locals := 143 } (cPre D [(a_h0_0, .int)] [(h, .inr (0, [.ref h_0, .ref h_1])), (h0, .inr (8, [.ref h0_0, .int h0_1])), (h0_0, .inl (a_h0_0, n_h0_0, .inl f_h0_0))] sz [.ref h, .ref h0]) (va_Qv (fun (u : (Int32) × (Nat → Int32)) => match u with | (jX_F_h0_1, jX_C_h0_0) => 0 ≤ jX_F_h0_1.toInt ∧ jX_F_h0_1.toInt ≤ 1000 ∧ jX_F_h0_1.toInt ≤ (n_h0_0 : Int) ∧ jX_F_h0_1.toInt ≤ h0_1.toInt) (fun u t => cB D (va_A [(h, .inr (0, [.ref h_0, .ref h_1])), (h0, .inr (8, [.ref h0_0, .int h0_1])), (h0_0, .inl (a_h0_0, n_h0_0, .inl f_h0_0))] sz) ((fun (_ : (Int32) × (Nat → Int32)) => ([] : List (ClassId × FieldType))) u) ((fun (u : (Int32) × (Nat → Int32)) => match u with | (jX_F_h0_1, jX_C_h0_0) => ([(h, .inr (0, [.ref h_0, .ref h_1])), (h0, .inr (8, [.ref h0_0, .int jX_F_h0_1])), (h0_0, .inl (a_h0_0, n_h0_0, .inl jX_C_h0_0))] : va_W)) u) t) (va_A [(h, .inr (0, [.ref h_0, .ref h_1])), (h0, .inr (8, [.ref h0_0, .int h0_1])), (h0_0, .inl (a_h0_0, n_h0_0, .inl f_h0_0))] sz)) 0 0 (va_A [(h, .inr (0, [.ref h_0, .ref h_1])), (h0, .inr (8, [.ref h0_0, .int h0_1])), (h0_0, .inl (a_h0_0, n_h0_0, .inl f_h0_0))] sz) := by
  refine Met.ofW (cc := cX0_fold) (maxL := 4) (ret := none) (by decide) rfl ?_
  intro p e s m args below meth c s₁ B hml hv
  obtain ⟨rfl, aks, rfl, Wd⟩ := k_enter hv
  have C : CallFix p m c cX0_fold 4 s _ gG RX0 := ⟨B.exec, B.bytes, hml, findClass_of_methodNamed B.named, fun w h => atoms_spec (ws := Cond.code yX0_fold cX0_fold 4 none :: gG) B.pre w (List.mem_cons_of_mem _ h)⟩
  have hr := B.returns
  have hlk := B.notSynchronized
  generalize va_A [(h, .inr (0, [.ref h_0, .ref h_1])), (h0, .inr (8, [.ref h0_0, .int h0_1])), (h0_0, .inl (a_h0_0, n_h0_0, .inl f_h0_0))] s.heap.size = A at Wd ⊢
  refine k_locals (Nat.le_of_ble_eq_true rfl) [(0, .ref h), (1, .ref h0)] rfl (fun ls hl => ?_)
  refine lv_aload_n C.1 C.2.1 dX0_fold_0 rfl (lv_at hl 0 rfl) ?_
  refine lv_aload_n C.1 C.2.1 dX0_fold_1 rfl (lv_at hl 1 rfl) ?_
  refine k_cv Wd [1, 2] [0] rfl (wr := [(h, .inr (0, [.ref h_0, .ref h_1]))]) rfl (by decide) (by decide) (cells' := 0) (slots' := 0) (by decide) (by decide) (k_runV (rest := []) C aks Wd cs_X0_27 (sX0_foldOperations l D h h0 h0_0 h0_1 n_h0_0 a_h0_0 f_h0_0 _ (by omega) (by omega) (by omega) (by omega)) [1, 2] rfl (by decide) [0] rfl 0 0 rfl rfl rfl rfl rfl ⟨(Nat.le_of_ble_eq_true rfl), (Nat.le_of_ble_eq_true rfl)⟩ hl.1 rfl rfl (Nat.le_of_ble_eq_true rfl) ⟨(Nat.le_of_ble_eq_true rfl), (Nat.le_of_ble_eq_true rfl)⟩ dX0_fold_2) (fun u H locs w2 Wd => ?_)
  obtain ⟨s2_0, s2_1⟩ := u
  have Wd : wX D [(a_h0_0, .int)] s [(h, .inr (0, [.ref h_0, .ref h_1])), (h0, .inr (8, [.ref h0_0, .int s2_0])), (h0_0, .inl (a_h0_0, n_h0_0, .inl s2_1))] _ A s.heap _ := k_sub Wd [0, 1, 2] rfl (by decide) [0] rfl
  obtain ⟨g2_0, g2_1, g2_2, g2_3⟩ := w2
  have g2_0 : 0 ≤ s2_0.toInt := g2_0
  have g2_1 : s2_0.toInt ≤ 1000 := g2_1
  have g2_2 : s2_0.toInt ≤ (n_h0_0 : Int) := g2_2
  have g2_3 : s2_0.toInt ≤ h0_1.toInt := g2_3
  refine lv_aload_n C.1 C.2.1 dX0_fold_5 rfl (lv_at hl 1 rfl) ?_
  refine k_get C Wd KX8 1 1 rfl (by decide) fl_X0_31 rfl dX0_fold_6 ?_
  refine lv_iconst (v := 1) C.1 C.2.1 dX0_fold_9 (by decide) ?_
  obtain ⟨v10, ev10⟩ : ∃ z : Int32, s2_0 - 1 = z := ⟨_, rfl⟩
  have iv10 : v10.toInt = s2_0.toInt - 1 := kz_subc ev10 (by decide) (by have zr0 := kz_rng s2_0; omega) (by have zr0 := kz_rng s2_0; omega)
  refine k_isub (v := v10) C ev10 dX0_fold_10 ?_
  refine lv_istore_n (lv' := [(2, .int v10), (0, .ref h), (1, .ref h0)]) C.1 C.2.1 dX0_fold_11 rfl hl (by decide) rfl (fun ls hl => ?_)
  refine k_loopA (fun (u : (Nat → Int32) × (Int32) × (Int32)) H locs ls => match u with | (j12_C_h0_0, j12_F_h0_1, j12_L_2) => 0 ≤ j12_F_h0_1.toInt ∧ -1 ≤ j12_L_2.toInt ∧ j12_L_2.toInt ≤ 999 ∧ j12_F_h0_1.toInt ≤ 1000 ∧ j12_F_h0_1.toInt ≤ (n_h0_0 : Int) ∧ j12_F_h0_1.toInt ≤ h0_1.toInt ∧ j12_F_h0_1.toInt ≤ s2_0.toInt ∧ j12_L_2.toInt ≤ v10.toInt ∧ j12_L_2.toInt ≤ j12_F_h0_1.toInt + 998 ∧ wX D [(a_h0_0, .int)] s [(h, .inr (0, [.ref h_0, .ref h_1])), (h0, .inr (8, [.ref h0_0, .int j12_F_h0_1])), (h0_0, .inl (a_h0_0, n_h0_0, .inl j12_C_h0_0))] H A s.heap locs ∧ lv_has ls 4 [(2, .int j12_L_2), (0, .ref h), (1, .ref h0)]) (fun (u : (Nat → Int32) × (Int32) × (Int32)) ls => match u with | (j12_C_h0_0, j12_F_h0_1, j12_L_2) => F0 m 12 ls []) (fun (u : (Nat → Int32) × (Int32) × (Int32)) => match u with | (j12_C_h0_0, j12_F_h0_1, j12_L_2) => (j12_L_2.toInt + 2).toNat) (fun u H locs ls hi ih12 => ?_) (s2_1, s2_0, v10) _ _ _ ⟨by omega, by omega, by omega, by omega, by omega, by omega, by omega, by omega, by omega, Wd, lv_sub hl [0, 1, 2] rfl⟩
  obtain ⟨j12_C_h0_0, j12_F_h0_1, j12_L_2⟩ := u
  obtain ⟨i12_0, i12_1, i12_2, i12_3, i12_4, i12_5, i12_6, i12_7, i12_8, Wd, hl⟩ := hi
  refine lv_iload_n C.1 C.2.1 dX0_fold_12 rfl (lv_at hl 0 rfl) ?_
  refine lv_if_lt (tgt := 99) C.1 C.2.1 dX0_fold_13 (by decide) (fun c13 => ?_) (fun c13 => ?_)
  · have i13 : j12_L_2.toInt < 0 := kz_lt c13
    exact k_vret C hr hlk Wd (j12_F_h0_1, j12_C_h0_0) (by exact ⟨by omega, by omega, by omega, by omega⟩) [0, 1, 2] rfl (by decide) [] rfl (by decide) (by decide) dX0_fold_99
  · have i13 : 0 ≤ j12_L_2.toInt := kz_nlt c13
    refine lv_aload_n C.1 C.2.1 dX0_fold_16 rfl (lv_at hl 2 rfl) ?_
    refine lv_iload_n C.1 C.2.1 dX0_fold_17 rfl (lv_at hl 0 rfl) ?_
    refine lv_iconst (v := 2) C.1 C.2.1 dX0_fold_18 (by decide) ?_
    obtain ⟨v19, ev19⟩ : ∃ z : Int32, j12_L_2 + 2 = z := ⟨_, rfl⟩
    have iv19 : v19.toInt = j12_L_2.toInt + 2 := kz_addc ev19 (by decide) (by have zr0 := kz_rng j12_L_2; omega) (by have zr0 := kz_rng j12_L_2; omega)
    refine k_iadd (v := v19) C ev19 dX0_fold_19 ?_
    refine k_pi (k_runV (rest := []) C aks Wd cs_X0_35 (sX8_cell l D h0 v19 h0_0 j12_F_h0_1 n_h0_0 a_h0_0 j12_C_h0_0 _ (by omega) (by omega) (by omega) (by omega)) [1, 2] rfl (by decide) [0] rfl 1 8 rfl rfl rfl rfl rfl ⟨(Nat.le_of_ble_eq_true rfl), (Nat.le_of_ble_eq_true rfl)⟩ hl.1 rfl rfl (Nat.le_of_ble_eq_true rfl) ⟨(Nat.le_of_ble_eq_true rfl), (Nat.le_of_ble_eq_true rfl)⟩ dX0_fold_20) (fun r20 w20 => ?_)
    refine k_pi (k_runS (rest := []) C aks Wd cs_X0_39 (sX8_isNumber l D r20 _ ) [] rfl (by decide) [] rfl rfl rfl ⟨(Nat.le_of_ble_eq_true rfl), (Nat.le_of_ble_eq_true rfl)⟩ hl.1 rfl rfl (Nat.le_of_ble_eq_true rfl) ⟨(Nat.le_of_ble_eq_true rfl), (Nat.le_of_ble_eq_true rfl)⟩ dX0_fold_23) (fun r23 w23 => ?_)
    obtain ⟨g23_0, g23_1⟩ := w23
    have g23_0 : 0 ≤ r23.toInt := g23_0
    have g23_1 : r23.toInt ≤ 1 := g23_1
    refine k_cutA (fun (j47_S_0 : Int32) H locs ls => 0 ≤ j47_S_0.toInt ∧ j47_S_0.toInt ≤ 1 ∧ j47_S_0.toInt ≤ r23.toInt ∧ wX D [(a_h0_0, .int)] s [(h, .inr (0, [.ref h_0, .ref h_1])), (h0, .inr (8, [.ref h0_0, .int j12_F_h0_1])), (h0_0, .inl (a_h0_0, n_h0_0, .inl j12_C_h0_0))] H A s.heap locs ∧ lv_has ls 4 [(2, .int j12_L_2), (0, .ref h), (1, .ref h0)]) (fun (j47_S_0 : Int32) ls => F0 m 47 ls [.int j47_S_0]) (fun j47_S_0 H locs ls hi => ?_) (fun J47 => ?_)
    · obtain ⟨i47_0, i47_1, i47_2, Wd, hl⟩ := hi
      refine lv_istore_n (lv' := [(3, .int j47_S_0), (2, .int j12_L_2), (0, .ref h), (1, .ref h0)]) C.1 C.2.1 dX0_fold_47 rfl hl (by decide) rfl (fun ls hl => ?_)
      refine lv_aload_n C.1 C.2.1 dX0_fold_48 rfl (lv_at hl 3 rfl) ?_
      refine lv_iload_n C.1 C.2.1 dX0_fold_49 rfl (lv_at hl 1 rfl) ?_
      refine k_pi (k_runV (rest := []) C aks Wd cs_X0_35 (sX8_cell l D h0 j12_L_2 h0_0 j12_F_h0_1 n_h0_0 a_h0_0 j12_C_h0_0 _ (by omega) (by omega) (by omega) (by omega)) [1, 2] rfl (by decide) [0] rfl 1 8 rfl rfl rfl rfl rfl ⟨(Nat.le_of_ble_eq_true rfl), (Nat.le_of_ble_eq_true rfl)⟩ hl.1 rfl rfl (Nat.le_of_ble_eq_true rfl) ⟨(Nat.le_of_ble_eq_true rfl), (Nat.le_of_ble_eq_true rfl)⟩ dX0_fold_50) (fun r50 w50 => ?_)
      refine k_pi (k_runS (rest := []) C aks Wd cs_X0_43 (sX8_isBranch l D r50 _ ) [] rfl (by decide) [] rfl rfl rfl ⟨(Nat.le_of_ble_eq_true rfl), (Nat.le_of_ble_eq_true rfl)⟩ hl.1 rfl rfl (Nat.le_of_ble_eq_true rfl) ⟨(Nat.le_of_ble_eq_true rfl), (Nat.le_of_ble_eq_true rfl)⟩ dX0_fold_53) (fun r53 w53 => ?_)
      obtain ⟨g53_0, g53_1⟩ := w53
      have g53_0 : 0 ≤ r53.toInt := g53_0
      have g53_1 : r53.toInt ≤ 1 := g53_1
      refine k_cutA (fun (u : (Int32) × (Nat → Int32)) H locs ls => match u with | (j93_F_h0_1, j93_C_h0_0) => 0 ≤ j93_F_h0_1.toInt ∧ j93_F_h0_1.toInt ≤ 1000 ∧ j93_F_h0_1.toInt ≤ (n_h0_0 : Int) ∧ j93_F_h0_1.toInt ≤ h0_1.toInt ∧ j93_F_h0_1.toInt ≤ j12_F_h0_1.toInt ∧ wX D [(a_h0_0, .int)] s [(h, .inr (0, [.ref h_0, .ref h_1])), (h0, .inr (8, [.ref h0_0, .int j93_F_h0_1])), (h0_0, .inl (a_h0_0, n_h0_0, .inl j93_C_h0_0))] H A s.heap locs ∧ lv_has ls 4 [(3, .int j47_S_0), (2, .int j12_L_2), (0, .ref h), (1, .ref h0)]) (fun (u : (Int32) × (Nat → Int32)) ls => match u with | (j93_F_h0_1, j93_C_h0_0) => F0 m 93 ls []) (fun u H locs ls hi => ?_) (fun J93 => ?_)
      · obtain ⟨j93_F_h0_1, j93_C_h0_0⟩ := u
        obtain ⟨i93_0, i93_1, i93_2, i93_3, i93_4, Wd, hl⟩ := hi
        obtain ⟨v93, ev93⟩ : ∃ z : Int32, j12_L_2 + (-1) = z := ⟨_, rfl⟩
        have iv93 : v93.toInt = j12_L_2.toInt + (-1) := kz_addc ev93 (by decide) (by have zr0 := kz_rng j12_L_2; omega) (by have zr0 := kz_rng j12_L_2; omega)
        refine lv_iinc (v := v93) (lv' := [(2, .int v93), (3, .int j47_S_0), (0, .ref h), (1, .ref h0)]) C.1 C.2.1 dX0_fold_93 hl (k := 1) rfl ev93 (by decide) rfl (fun ls hl => ?_)
        refine lv_goto (tgt := 12) C.1 C.2.1 dX0_fold_96 (by decide) ?_
        exact ih12 (j93_C_h0_0, j93_F_h0_1, v93) _ _ _ ⟨by omega, by omega, by omega, by omega, by omega, by omega, by omega, by omega, by omega, Wd, lv_sub hl [0, 2, 3] rfl⟩ (by show (v93.toInt + 2).toNat < (j12_L_2.toInt + 2).toNat; omega)
      refine lv_if_eq (tgt := 93) C.1 C.2.1 dX0_fold_56 (by decide) (fun c56 => ?_) (fun c56 => ?_)
      · have i56 : r53.toInt = 0 := kz_eq c56
        exact J93 (j12_F_h0_1, j12_C_h0_0) _ _ _ ⟨by omega, by omega, by omega, by omega, by omega, Wd, lv_sub hl [0, 1, 2, 3] rfl⟩
      · have i56 : ¬ r53.toInt = 0 := kz_ne c56
        refine lv_iload_n C.1 C.2.1 dX0_fold_59 rfl (lv_at hl 0 rfl) ?_
        refine lv_if_eq (tgt := 93) C.1 C.2.1 dX0_fold_60 (by decide) (fun c60 => ?_) (fun c60 => ?_)
        · have i60 : j47_S_0.toInt = 0 := kz_eq c60
          exact J93 (j12_F_h0_1, j12_C_h0_0) _ _ _ ⟨by omega, by omega, by omega, by omega, by omega, Wd, lv_sub hl [0, 1, 2, 3] rfl⟩
        · have i60 : ¬ j47_S_0.toInt = 0 := kz_ne c60
          refine lv_aload_n C.1 C.2.1 dX0_fold_63 rfl (lv_at hl 2 rfl) ?_
          refine lv_aload_n C.1 C.2.1 dX0_fold_64 rfl (lv_at hl 3 rfl) ?_
          refine lv_iload_n C.1 C.2.1 dX0_fold_65 rfl (lv_at hl 1 rfl) ?_
          refine lv_aload_n C.1 C.2.1 dX0_fold_66 rfl (lv_at hl 3 rfl) ?_
          refine lv_iload_n C.1 C.2.1 dX0_fold_67 rfl (lv_at hl 1 rfl) ?_
          refine lv_iconst (v := 1) C.1 C.2.1 dX0_fold_68 (by decide) ?_
          obtain ⟨v69, ev69⟩ : ∃ z : Int32, j12_L_2 + 1 = z := ⟨_, rfl⟩
          have iv69 : v69.toInt = j12_L_2.toInt + 1 := kz_addc ev69 (by decide) (by have zr0 := kz_rng j12_L_2; omega) (by have zr0 := kz_rng j12_L_2; omega)
          refine k_iadd (v := v69) C ev69 dX0_fold_69 ?_
          refine k_pi (k_runV (rest := [.int j12_L_2, .ref h0, .ref h]) C aks Wd cs_X0_35 (sX8_cell l D h0 v69 h0_0 j12_F_h0_1 n_h0_0 a_h0_0 j12_C_h0_0 _ (by omega) (by omega) (by omega) (by omega)) [1, 2] rfl (by decide) [0] rfl 1 8 rfl rfl rfl rfl rfl ⟨(Nat.le_of_ble_eq_true rfl), (Nat.le_of_ble_eq_true rfl)⟩ hl.1 rfl rfl (Nat.le_of_ble_eq_true rfl) ⟨(Nat.le_of_ble_eq_true rfl), (Nat.le_of_ble_eq_true rfl)⟩ dX0_fold_70) (fun r70 w70 => ?_)
          refine lv_aload_n C.1 C.2.1 dX0_fold_73 rfl (lv_at hl 3 rfl) ?_
          refine lv_iload_n C.1 C.2.1 dX0_fold_74 rfl (lv_at hl 1 rfl) ?_
          refine lv_iconst (v := 2) C.1 C.2.1 dX0_fold_75 (by decide) ?_
          obtain ⟨v76, ev76⟩ : ∃ z : Int32, j12_L_2 + 2 = z := ⟨_, rfl⟩
          have iv76 : v76.toInt = j12_L_2.toInt + 2 := kz_addc ev76 (by decide) (by have zr0 := kz_rng j12_L_2; omega) (by have zr0 := kz_rng j12_L_2; omega)
          refine k_iadd (v := v76) C ev76 dX0_fold_76 ?_
          refine k_pi (k_runV (rest := [.int r70, .int j12_L_2, .ref h0, .ref h]) C aks Wd cs_X0_35 (sX8_cell l D h0 v76 h0_0 j12_F_h0_1 n_h0_0 a_h0_0 j12_C_h0_0 _ (by omega) (by omega) (by omega) (by omega)) [1, 2] rfl (by decide) [0] rfl 1 8 rfl rfl rfl rfl rfl ⟨(Nat.le_of_ble_eq_true rfl), (Nat.le_of_ble_eq_true rfl)⟩ hl.1 rfl rfl (Nat.le_of_ble_eq_true rfl) ⟨(Nat.le_of_ble_eq_true rfl), (Nat.le_of_ble_eq_true rfl)⟩ dX0_fold_77) (fun r77 w77 => ?_)
          refine lv_aload_n C.1 C.2.1 dX0_fold_80 rfl (lv_at hl 3 rfl) ?_
          refine lv_iload_n C.1 C.2.1 dX0_fold_81 rfl (lv_at hl 1 rfl) ?_
          refine lv_iconst (v := 3) C.1 C.2.1 dX0_fold_82 (by decide) ?_
          obtain ⟨v83, ev83⟩ : ∃ z : Int32, j12_L_2 + 3 = z := ⟨_, rfl⟩
          have iv83 : v83.toInt = j12_L_2.toInt + 3 := kz_addc ev83 (by decide) (by have zr0 := kz_rng j12_L_2; omega) (by have zr0 := kz_rng j12_L_2; omega)
          refine k_iadd (v := v83) C ev83 dX0_fold_83 ?_
          refine k_pi (k_runV (rest := [.int r77, .int r70, .int j12_L_2, .ref h0, .ref h]) C aks Wd cs_X0_35 (sX8_cell l D h0 v83 h0_0 j12_F_h0_1 n_h0_0 a_h0_0 j12_C_h0_0 _ (by omega) (by omega) (by omega) (by omega)) [1, 2] rfl (by decide) [0] rfl 1 8 rfl rfl rfl rfl rfl ⟨(Nat.le_of_ble_eq_true rfl), (Nat.le_of_ble_eq_true rfl)⟩ hl.1 rfl rfl (Nat.le_of_ble_eq_true rfl) ⟨(Nat.le_of_ble_eq_true rfl), (Nat.le_of_ble_eq_true rfl)⟩ dX0_fold_84) (fun r84 w84 => ?_)
          refine k_pi (k_runS (rest := [.int j12_L_2, .ref h0, .ref h]) C aks Wd cs_X0_46 (sX8_holds l D r70 r77 r84 _ ) [] rfl (by decide) [] rfl rfl rfl ⟨(Nat.le_of_ble_eq_true rfl), (Nat.le_of_ble_eq_true rfl)⟩ hl.1 rfl rfl (Nat.le_of_ble_eq_true rfl) ⟨(Nat.le_of_ble_eq_true rfl), (Nat.le_of_ble_eq_true rfl)⟩ dX0_fold_87) (fun r87 w87 => ?_)
          obtain ⟨g87_0, g87_1⟩ := w87
          have g87_0 : 0 ≤ r87.toInt := g87_0
          have g87_1 : r87.toInt ≤ 1 := g87_1
          refine k_cv Wd [1, 2] [0] rfl (wr := [(h, .inr (0, [.ref h_0, .ref h_1]))]) rfl (by decide) (by decide) (cells' := 0) (slots' := 0) (by decide) (by decide) (k_runV (rest := []) C aks Wd cs_X0_50 (sX0_foldBranch l D h h0 j12_L_2 r87 h0_0 j12_F_h0_1 n_h0_0 a_h0_0 j12_C_h0_0 _ (by omega) (by omega) (by omega) (by omega) (by omega) (by omega)) [1, 2] rfl (by decide) [0] rfl 0 0 rfl rfl rfl rfl rfl ⟨(Nat.le_of_ble_eq_true rfl), (Nat.le_of_ble_eq_true rfl)⟩ hl.1 rfl rfl (Nat.le_of_ble_eq_true rfl) ⟨(Nat.le_of_ble_eq_true rfl), (Nat.le_of_ble_eq_true rfl)⟩ dX0_fold_90) (fun u H locs w90 Wd => ?_)
          obtain ⟨s90_0, s90_1⟩ := u
          have Wd : wX D [(a_h0_0, .int)] s [(h, .inr (0, [.ref h_0, .ref h_1])), (h0, .inr (8, [.ref h0_0, .int s90_0])), (h0_0, .inl (a_h0_0, n_h0_0, .inl s90_1))] _ A s.heap _ := k_sub Wd [0, 1, 2] rfl (by decide) [0] rfl
          obtain ⟨g90_0, g90_1, g90_2, g90_3⟩ := w90
          have g90_0 : 0 ≤ s90_0.toInt := g90_0
          have g90_1 : s90_0.toInt ≤ 1000 := g90_1
          have g90_2 : s90_0.toInt ≤ (n_h0_0 : Int) := g90_2
          have g90_3 : s90_0.toInt ≤ j12_F_h0_1.toInt := g90_3
          exact J93 (s90_0, s90_1) _ _ _ ⟨by omega, by omega, by omega, by omega, by omega, Wd, lv_sub hl [0, 1, 2, 3] rfl⟩
    refine k_cutA (fun (_ : Unit) H locs ls => wX D [(a_h0_0, .int)] s [(h, .inr (0, [.ref h_0, .ref h_1])), (h0, .inr (8, [.ref h0_0, .int j12_F_h0_1])), (h0_0, .inl (a_h0_0, n_h0_0, .inl j12_C_h0_0))] H A s.heap locs ∧ lv_has ls 4 [(2, .int j12_L_2), (0, .ref h), (1, .ref h0)]) (fun (_ : Unit) ls => F0 m 46 ls []) (fun _ H locs ls hi => ?_) (fun J46 => ?_)
    · obtain ⟨Wd, hl⟩ := hi
      refine lv_iconst (v := 0) C.1 C.2.1 dX0_fold_46 (by decide) ?_
      exact J47 0 _ _ _ ⟨by have zq0 : (0 : Int32).toInt = 0 := (by decide); omega, by have zq0 : (0 : Int32).toInt = 0 := (by decide); omega, by have zq0 : (0 : Int32).toInt = 0 := (by decide); omega, Wd, lv_sub hl [0, 1, 2] rfl⟩
    refine lv_if_eq (tgt := 46) C.1 C.2.1 dX0_fold_26 (by decide) (fun c26 => ?_) (fun c26 => ?_)
    · have i26 : r23.toInt = 0 := kz_eq c26
      exact J46 () _ _ _ ⟨Wd, lv_sub hl [0, 1, 2] rfl⟩
    · have i26 : ¬ r23.toInt = 0 := kz_ne c26
      refine lv_aload_n C.1 C.2.1 dX0_fold_29 rfl (lv_at hl 2 rfl) ?_
      refine lv_iload_n C.1 C.2.1 dX0_fold_30 rfl (lv_at hl 0 rfl) ?_
      refine lv_iconst (v := 3) C.1 C.2.1 dX0_fold_31 (by decide) ?_
      obtain ⟨v32, ev32⟩ : ∃ z : Int32, j12_L_2 + 3 = z := ⟨_, rfl⟩
      have iv32 : v32.toInt = j12_L_2.toInt + 3 := kz_addc ev32 (by decide) (by have zr0 := kz_rng j12_L_2; omega) (by have zr0 := kz_rng j12_L_2; omega)
      refine k_iadd (v := v32) C ev32 dX0_fold_32 ?_
      refine k_pi (k_runV (rest := []) C aks Wd cs_X0_35 (sX8_cell l D h0 v32 h0_0 j12_F_h0_1 n_h0_0 a_h0_0 j12_C_h0_0 _ (by omega) (by omega) (by omega) (by omega)) [1, 2] rfl (by decide) [0] rfl 1 8 rfl rfl rfl rfl rfl ⟨(Nat.le_of_ble_eq_true rfl), (Nat.le_of_ble_eq_true rfl)⟩ hl.1 rfl rfl (Nat.le_of_ble_eq_true rfl) ⟨(Nat.le_of_ble_eq_true rfl), (Nat.le_of_ble_eq_true rfl)⟩ dX0_fold_33) (fun r33 w33 => ?_)
      refine k_pi (k_runS (rest := []) C aks Wd cs_X0_39 (sX8_isNumber l D r33 _ ) [] rfl (by decide) [] rfl rfl rfl ⟨(Nat.le_of_ble_eq_true rfl), (Nat.le_of_ble_eq_true rfl)⟩ hl.1 rfl rfl (Nat.le_of_ble_eq_true rfl) ⟨(Nat.le_of_ble_eq_true rfl), (Nat.le_of_ble_eq_true rfl)⟩ dX0_fold_36) (fun r36 w36 => ?_)
      obtain ⟨g36_0, g36_1⟩ := w36
      have g36_0 : 0 ≤ r36.toInt := g36_0
      have g36_1 : r36.toInt ≤ 1 := g36_1
      refine lv_if_eq (tgt := 46) C.1 C.2.1 dX0_fold_39 (by decide) (fun c39 => ?_) (fun c39 => ?_)
      · have i39 : r36.toInt = 0 := kz_eq c39
        exact J46 () _ _ _ ⟨Wd, lv_sub hl [0, 1, 2] rfl⟩
      · have i39 : ¬ r36.toInt = 0 := kz_ne c39
        refine lv_iconst (v := 1) C.1 C.2.1 dX0_fold_42 (by decide) ?_
        refine lv_goto (tgt := 47) C.1 C.2.1 dX0_fold_43 (by decide) ?_
        exact J47 1 _ _ _ ⟨by have zq1 : (1 : Int32).toInt = 1 := (by decide); omega, by have zq1 : (1 : Int32).toInt = 1 := (by decide); omega, by have zq1 : (1 : Int32).toInt = 1 := (by decide); omega, Wd, lv_sub hl [0, 1, 2] rfl⟩
set_option maxHeartbeats 4000000 in
set_option maxRecDepth 100000 in
theorem sX0_dead (l : Launch) (D : va_G) (h : Nat) (h0 : Nat) (h_0 : Nat) (h_1 : Nat) (h_1_0 : Value) (h_1_1 : Int32) (h_1_2 : Nat) (h_1_3 : Nat) (h_1_4 : Nat) (h_1_5 : Nat) (h_1_6 : Nat) (h_1_7 : Nat) (h_1_8 : Nat) (h_1_9 : Nat) (h_1_10 : Nat) (h_1_11 : Nat) (h_1_12 : Nat) (h_1_13 : Nat) (h0_0 : Nat) (h0_1 : Int32) (n_h0_0 : Nat) (a_h0_0 : ClassId) (f_h0_0 : Nat → Int32) (a_h_1_13 : ClassId) (f_h_1_13 : Nat → Int32) (a_h_1_12 : ClassId) (f_h_1_12 : Nat → Int32) (a_h_1_2 : ClassId) (f_h_1_2 : Nat → Int32) (a_h_1_3 : ClassId) (f_h_1_3 : Nat → Int32) (a_h_1_9 : ClassId) (f_h_1_9 : Nat → Int32) (a_h_1_4 : ClassId) (f_h_1_4 : Nat → Int32) (a_h_1_5 : ClassId) (f_h_1_5 : Nat → Int32) (a_h_1_8 : ClassId) (f_h_1_8 : Nat → Int32) (a_h_1_6 : ClassId) (f_h_1_6 : Nat → Int32) (a_h_1_7 : ClassId) (f_h_1_7 : Nat → Int32) (a_h_1_11 : ClassId) (f_h_1_11 : Nat → Int32) (a_h_1_10 : ClassId) (f_h_1_10 : Nat → Int32) (sz : Nat) (k_h_1_1_lo : 0 ≤ h_1_1.toInt) (k_h_1_1_hi : h_1_1.toInt ≤ 40) (k_h0_1_lo : 0 ≤ h0_1.toInt) (k_n_h0_0 : n_h0_0 ≤ 1000) (k_p_h0_0 : 1 ≤ n_h0_0) (k_h0_1_hi : h0_1.toInt ≤ (n_h0_0 : Int)) (q_f_h_1_4 : ∀ j : Nat, 0 ≤ (f_h_1_4 j).toInt ∧ (f_h_1_4 j).toInt ≤ 2000) (q_f_h_1_5 : ∀ j : Nat, 0 ≤ (f_h_1_5 j).toInt ∧ (f_h_1_5 j).toInt ≤ 2000) : Met l yX0_dead (Cond.code yX0_dead cX0_dead 6 none :: gG) { frames := 5, cells := 0, slots := 0, locals := 152 } (cPre D [(a_h0_0, .int), (a_h_1_13, .int), (a_h_1_12, .int), (a_h_1_2, .int), (a_h_1_3, .int), (a_h_1_9, .int), (a_h_1_4, .int), (a_h_1_5, .int), (a_h_1_8, .int), (a_h_1_6, .int), (a_h_1_7, .int), (a_h_1_11, .int), (a_h_1_10, .int)] [(h, .inr (0, [.ref h_0, .ref h_1])), (h_1, .inr (1, [h_1_0, .int h_1_1, .ref h_1_2, .ref h_1_3, .ref h_1_4, .ref h_1_5, .ref h_1_6, .ref h_1_7, .ref h_1_8, .ref h_1_9, .ref h_1_10, .ref h_1_11, .ref h_1_12, .ref h_1_13])), (h0, .inr (8, [.ref h0_0, .int h0_1])), (h0_0, .inl (a_h0_0, n_h0_0, .inl f_h0_0)), (h_1_13, .inl (a_h_1_13, 480, .inl f_h_1_13)), (h_1_12, .inl (a_h_1_12, 40, .inl f_h_1_12)), (h_1_2, .inl (a_h_1_2, 40, .inl f_h_1_2)), (h_1_3, .inl (a_h_1_3, 40, .inl f_h_1_3)), (h_1_9, .inl (a_h_1_9, 40, .inl f_h_1_9)), (h_1_4, .inl (a_h_1_4, 40, .inl f_h_1_4)), (h_1_5, .inl (a_h_1_5, 40, .inl f_h_1_5)), (h_1_8, .inl (a_h_1_8, 40, .inl f_h_1_8)), (h_1_6, .inl (a_h_1_6, 40, .inl f_h_1_6)), (h_1_7, .inl (a_h_1_7, 40, .inl f_h_1_7)), (h_1_11, .inl (a_h_1_11, 40, .inl f_h_1_11)), (h_1_10, .inl (a_h_1_10, 40, .inl f_h_1_10))] sz [.ref h, .ref h0]) (va_Qv (fun (u : (Value) × (Int32) × (Int32) × (Nat → Int32) × (Nat → Int32) × (Nat → Int32) × (Nat → Int32) × (Nat → Int32) × (Nat → Int32) × (Nat → Int32) × (Nat → Int32) × (Nat → Int32) × (Nat → Int32) × (Nat → Int32) × (Nat → Int32) × (Nat → Int32)) => match u with | (jX_F_h_1_0, jX_F_h_1_1, jX_F_h0_1, jX_C_h0_0, jX_C_h_1_13, jX_C_h_1_12, jX_C_h_1_2, jX_C_h_1_3, jX_C_h_1_9, jX_C_h_1_4, jX_C_h_1_5, jX_C_h_1_8, jX_C_h_1_6, jX_C_h_1_7, jX_C_h_1_11, jX_C_h_1_10) => 0 ≤ jX_F_h0_1.toInt ∧ 0 ≤ jX_F_h_1_1.toInt ∧ jX_F_h_1_1.toInt ≤ 40 ∧ jX_F_h0_1.toInt ≤ 1000 ∧ jX_F_h0_1.toInt ≤ (n_h0_0 : Int) ∧ jX_F_h0_1.toInt ≤ h0_1.toInt ∧ (∀ j : Nat, 0 ≤ (jX_C_h_1_4 j).toInt ∧ (jX_C_h_1_4 j).toInt ≤ 2000) ∧ (∀ j : Nat, 0 ≤ (jX_C_h_1_5 j).toInt ∧ (jX_C_h_1_5 j).toInt ≤ 2000)) (fun u t => cB D (va_A [(h, .inr (0, [.ref h_0, .ref h_1])), (h_1, .inr (1, [h_1_0, .int h_1_1, .ref h_1_2, .ref h_1_3, .ref h_1_4, .ref h_1_5, .ref h_1_6, .ref h_1_7, .ref h_1_8, .ref h_1_9, .ref h_1_10, .ref h_1_11, .ref h_1_12, .ref h_1_13])), (h0, .inr (8, [.ref h0_0, .int h0_1])), (h0_0, .inl (a_h0_0, n_h0_0, .inl f_h0_0)), (h_1_13, .inl (a_h_1_13, 480, .inl f_h_1_13)), (h_1_12, .inl (a_h_1_12, 40, .inl f_h_1_12)), (h_1_2, .inl (a_h_1_2, 40, .inl f_h_1_2)), (h_1_3, .inl (a_h_1_3, 40, .inl f_h_1_3)), (h_1_9, .inl (a_h_1_9, 40, .inl f_h_1_9)), (h_1_4, .inl (a_h_1_4, 40, .inl f_h_1_4)), (h_1_5, .inl (a_h_1_5, 40, .inl f_h_1_5)), (h_1_8, .inl (a_h_1_8, 40, .inl f_h_1_8)), (h_1_6, .inl (a_h_1_6, 40, .inl f_h_1_6)), (h_1_7, .inl (a_h_1_7, 40, .inl f_h_1_7)), (h_1_11, .inl (a_h_1_11, 40, .inl f_h_1_11)), (h_1_10, .inl (a_h_1_10, 40, .inl f_h_1_10))] sz) ((fun (_ : (Value) × (Int32) × (Int32) × (Nat → Int32) × (Nat → Int32) × (Nat → Int32) × (Nat → Int32) × (Nat → Int32) × (Nat → Int32) × (Nat → Int32) × (Nat → Int32) × (Nat → Int32) × (Nat → Int32) × (Nat → Int32) × (Nat → Int32) × (Nat → Int32)) => ([] : List (ClassId × FieldType))) u) ((fun (u : (Value) × (Int32) × (Int32) × (Nat → Int32) × (Nat → Int32) × (Nat → Int32) × (Nat → Int32) × (Nat → Int32) × (Nat → Int32) × (Nat → Int32) × (Nat → Int32) × (Nat → Int32) × (Nat → Int32) × (Nat → Int32) × (Nat → Int32) × (Nat → Int32)) => match u with | (jX_F_h_1_0, jX_F_h_1_1, jX_F_h0_1, jX_C_h0_0, jX_C_h_1_13, jX_C_h_1_12, jX_C_h_1_2, jX_C_h_1_3, jX_C_h_1_9, jX_C_h_1_4, jX_C_h_1_5, jX_C_h_1_8, jX_C_h_1_6, jX_C_h_1_7, jX_C_h_1_11, jX_C_h_1_10) => ([(h, .inr (0, [.ref h_0, .ref h_1])), (h_1, .inr (1, [jX_F_h_1_0, .int jX_F_h_1_1, .ref h_1_2, .ref h_1_3, .ref h_1_4, .ref h_1_5, .ref h_1_6, .ref h_1_7, .ref h_1_8, .ref h_1_9, .ref h_1_10, .ref h_1_11, .ref h_1_12, .ref h_1_13])), (h0, .inr (8, [.ref h0_0, .int jX_F_h0_1])), (h0_0, .inl (a_h0_0, n_h0_0, .inl jX_C_h0_0)), (h_1_13, .inl (a_h_1_13, 480, .inl jX_C_h_1_13)), (h_1_12, .inl (a_h_1_12, 40, .inl jX_C_h_1_12)), (h_1_2, .inl (a_h_1_2, 40, .inl jX_C_h_1_2)), (h_1_3, .inl (a_h_1_3, 40, .inl jX_C_h_1_3)), (h_1_9, .inl (a_h_1_9, 40, .inl jX_C_h_1_9)), (h_1_4, .inl (a_h_1_4, 40, .inl jX_C_h_1_4)), (h_1_5, .inl (a_h_1_5, 40, .inl jX_C_h_1_5)), (h_1_8, .inl (a_h_1_8, 40, .inl jX_C_h_1_8)), (h_1_6, .inl (a_h_1_6, 40, .inl jX_C_h_1_6)), (h_1_7, .inl (a_h_1_7, 40, .inl jX_C_h_1_7)), (h_1_11, .inl (a_h_1_11, 40, .inl jX_C_h_1_11)), (h_1_10, .inl (a_h_1_10, 40, .inl jX_C_h_1_10))] : va_W)) u) t) (va_A [(h, .inr (0, [.ref h_0, .ref h_1])), (h_1, .inr (1, [h_1_0, .int h_1_1, .ref h_1_2, .ref h_1_3, .ref h_1_4, .ref h_1_5, .ref h_1_6, .ref h_1_7, .ref h_1_8, .ref h_1_9, .ref h_1_10, .ref h_1_11, .ref h_1_12, .ref h_1_13])), (h0, .inr (8, [.ref h0_0, .int h0_1])), (h0_0, .inl (a_h0_0, n_h0_0, .inl f_h0_0)), (h_1_13, .inl (a_h_1_13, 480, .inl f_h_1_13)), (h_1_12, .inl (a_h_1_12, 40, .inl f_h_1_12)), (h_1_2, .inl (a_h_1_2, 40, .inl f_h_1_2)), (h_1_3, .inl (a_h_1_3, 40, .inl f_h_1_3)), (h_1_9, .inl (a_h_1_9, 40, .inl f_h_1_9)), (h_1_4, .inl (a_h_1_4, 40, .inl f_h_1_4)), (h_1_5, .inl (a_h_1_5, 40, .inl f_h_1_5)), (h_1_8, .inl (a_h_1_8, 40, .inl f_h_1_8)), (h_1_6, .inl (a_h_1_6, 40, .inl f_h_1_6)), (h_1_7, .inl (a_h_1_7, 40, .inl f_h_1_7)), (h_1_11, .inl (a_h_1_11, 40, .inl f_h_1_11)), (h_1_10, .inl (a_h_1_10, 40, .inl f_h_1_10))] sz)) 0 0 (va_A [(h, .inr (0, [.ref h_0, .ref h_1])), (h_1, .inr (1, [h_1_0, .int h_1_1, .ref h_1_2, .ref h_1_3, .ref h_1_4, .ref h_1_5, .ref h_1_6, .ref h_1_7, .ref h_1_8, .ref h_1_9, .ref h_1_10, .ref h_1_11, .ref h_1_12, .ref h_1_13])), (h0, .inr (8, [.ref h0_0, .int h0_1])), (h0_0, .inl (a_h0_0, n_h0_0, .inl f_h0_0)), (h_1_13, .inl (a_h_1_13, 480, .inl f_h_1_13)), (h_1_12, .inl (a_h_1_12, 40, .inl f_h_1_12)), (h_1_2, .inl (a_h_1_2, 40, .inl f_h_1_2)), (h_1_3, .inl (a_h_1_3, 40, .inl f_h_1_3)), (h_1_9, .inl (a_h_1_9, 40, .inl f_h_1_9)), (h_1_4, .inl (a_h_1_4, 40, .inl f_h_1_4)), (h_1_5, .inl (a_h_1_5, 40, .inl f_h_1_5)), (h_1_8, .inl (a_h_1_8, 40, .inl f_h_1_8)), (h_1_6, .inl (a_h_1_6, 40, .inl f_h_1_6)), (h_1_7, .inl (a_h_1_7, 40, .inl f_h_1_7)), (h_1_11, .inl (a_h_1_11, 40, .inl f_h_1_11)), (h_1_10, .inl (a_h_1_10, 40, .inl f_h_1_10))] sz) := by
  refine Met.ofW (cc := cX0_dead) (maxL := 6) (ret := none) (by decide) rfl ?_
  intro p e s m args below meth c s₁ B hml hv
  obtain ⟨rfl, aks, rfl, Wd⟩ := k_enter hv
  have C : CallFix p m c cX0_dead 6 s _ gG RX0 := ⟨B.exec, B.bytes, hml, findClass_of_methodNamed B.named, fun w h => atoms_spec (ws := Cond.code yX0_dead cX0_dead 6 none :: gG) B.pre w (List.mem_cons_of_mem _ h)⟩
  have hr := B.returns
  have hlk := B.notSynchronized
  generalize va_A [(h, .inr (0, [.ref h_0, .ref h_1])), (h_1, .inr (1, [h_1_0, .int h_1_1, .ref h_1_2, .ref h_1_3, .ref h_1_4, .ref h_1_5, .ref h_1_6, .ref h_1_7, .ref h_1_8, .ref h_1_9, .ref h_1_10, .ref h_1_11, .ref h_1_12, .ref h_1_13])), (h0, .inr (8, [.ref h0_0, .int h0_1])), (h0_0, .inl (a_h0_0, n_h0_0, .inl f_h0_0)), (h_1_13, .inl (a_h_1_13, 480, .inl f_h_1_13)), (h_1_12, .inl (a_h_1_12, 40, .inl f_h_1_12)), (h_1_2, .inl (a_h_1_2, 40, .inl f_h_1_2)), (h_1_3, .inl (a_h_1_3, 40, .inl f_h_1_3)), (h_1_9, .inl (a_h_1_9, 40, .inl f_h_1_9)), (h_1_4, .inl (a_h_1_4, 40, .inl f_h_1_4)), (h_1_5, .inl (a_h_1_5, 40, .inl f_h_1_5)), (h_1_8, .inl (a_h_1_8, 40, .inl f_h_1_8)), (h_1_6, .inl (a_h_1_6, 40, .inl f_h_1_6)), (h_1_7, .inl (a_h_1_7, 40, .inl f_h_1_7)), (h_1_11, .inl (a_h_1_11, 40, .inl f_h_1_11)), (h_1_10, .inl (a_h_1_10, 40, .inl f_h_1_10))] s.heap.size = A at Wd ⊢
  refine k_locals (Nat.le_of_ble_eq_true rfl) [(0, .ref h), (1, .ref h0)] rfl (fun ls hl => ?_)
  refine lv_iconst (v := 1) C.1 C.2.1 dX0_dead_0 (by decide) ?_
  refine lv_istore_n (lv' := [(2, .int 1), (0, .ref h), (1, .ref h0)]) C.1 C.2.1 dX0_dead_1 rfl hl (by decide) rfl (fun ls hl => ?_)
  refine lv_iconst (v := 0) C.1 C.2.1 dX0_dead_2 (by decide) ?_
  refine lv_istore_n (lv' := [(3, .int 0), (2, .int 1), (0, .ref h), (1, .ref h0)]) C.1 C.2.1 dX0_dead_3 rfl hl (by decide) rfl (fun ls hl => ?_)
  refine k_loopA (fun (u : (Nat → Int32) × (Nat → Int32) × (Nat → Int32) × (Nat → Int32) × (Nat → Int32) × (Nat → Int32) × (Nat → Int32) × (Nat → Int32) × (Nat → Int32) × (Nat → Int32) × (Nat → Int32) × (Nat → Int32) × (Nat → Int32) × (Int32) × (Value) × (Int32) × (Int32) × (Int32)) H locs ls => match u with | (j4_C_h0_0, j4_C_h_1_10, j4_C_h_1_11, j4_C_h_1_12, j4_C_h_1_13, j4_C_h_1_2, j4_C_h_1_3, j4_C_h_1_4, j4_C_h_1_5, j4_C_h_1_6, j4_C_h_1_7, j4_C_h_1_8, j4_C_h_1_9, j4_F_h0_1, j4_F_h_1_0, j4_F_h_1_1, j4_L_2, j4_L_3) => 0 ≤ j4_F_h0_1.toInt ∧ 0 ≤ j4_F_h_1_1.toInt ∧ 0 ≤ j4_L_2.toInt ∧ 0 ≤ j4_L_3.toInt ∧ j4_L_2.toInt ≤ 1 ∧ j4_F_h_1_1.toInt ≤ 40 ∧ j4_L_3.toInt ≤ 41 ∧ j4_F_h0_1.toInt ≤ 1000 ∧ j4_F_h0_1.toInt ≤ (n_h0_0 : Int) ∧ j4_F_h0_1.toInt ≤ h0_1.toInt ∧ (∀ j : Nat, 0 ≤ (j4_C_h_1_4 j).toInt ∧ (j4_C_h_1_4 j).toInt ≤ 2000) ∧ (∀ j : Nat, 0 ≤ (j4_C_h_1_5 j).toInt ∧ (j4_C_h_1_5 j).toInt ≤ 2000) ∧ wX D [(a_h0_0, .int), (a_h_1_13, .int), (a_h_1_12, .int), (a_h_1_2, .int), (a_h_1_3, .int), (a_h_1_9, .int), (a_h_1_4, .int), (a_h_1_5, .int), (a_h_1_8, .int), (a_h_1_6, .int), (a_h_1_7, .int), (a_h_1_11, .int), (a_h_1_10, .int)] s [(h, .inr (0, [.ref h_0, .ref h_1])), (h_1, .inr (1, [j4_F_h_1_0, .int j4_F_h_1_1, .ref h_1_2, .ref h_1_3, .ref h_1_4, .ref h_1_5, .ref h_1_6, .ref h_1_7, .ref h_1_8, .ref h_1_9, .ref h_1_10, .ref h_1_11, .ref h_1_12, .ref h_1_13])), (h0, .inr (8, [.ref h0_0, .int j4_F_h0_1])), (h0_0, .inl (a_h0_0, n_h0_0, .inl j4_C_h0_0)), (h_1_13, .inl (a_h_1_13, 480, .inl j4_C_h_1_13)), (h_1_12, .inl (a_h_1_12, 40, .inl j4_C_h_1_12)), (h_1_2, .inl (a_h_1_2, 40, .inl j4_C_h_1_2)), (h_1_3, .inl (a_h_1_3, 40, .inl j4_C_h_1_3)), (h_1_9, .inl (a_h_1_9, 40, .inl j4_C_h_1_9)), (h_1_4, .inl (a_h_1_4, 40, .inl j4_C_h_1_4)), (h_1_5, .inl (a_h_1_5, 40, .inl j4_C_h_1_5)), (h_1_8, .inl (a_h_1_8, 40, .inl j4_C_h_1_8)), (h_1_6, .inl (a_h_1_6, 40, .inl j4_C_h_1_6)), (h_1_7, .inl (a_h_1_7, 40, .inl j4_C_h_1_7)), (h_1_11, .inl (a_h_1_11, 40, .inl j4_C_h_1_11)), (h_1_10, .inl (a_h_1_10, 40, .inl j4_C_h_1_10))] H A s.heap locs ∧ lv_has ls 6 [(3, .int j4_L_3), (2, .int j4_L_2), (0, .ref h), (1, .ref h0)]) (fun (u : (Nat → Int32) × (Nat → Int32) × (Nat → Int32) × (Nat → Int32) × (Nat → Int32) × (Nat → Int32) × (Nat → Int32) × (Nat → Int32) × (Nat → Int32) × (Nat → Int32) × (Nat → Int32) × (Nat → Int32) × (Nat → Int32) × (Int32) × (Value) × (Int32) × (Int32) × (Int32)) ls => match u with | (j4_C_h0_0, j4_C_h_1_10, j4_C_h_1_11, j4_C_h_1_12, j4_C_h_1_13, j4_C_h_1_2, j4_C_h_1_3, j4_C_h_1_4, j4_C_h_1_5, j4_C_h_1_6, j4_C_h_1_7, j4_C_h_1_8, j4_C_h_1_9, j4_F_h0_1, j4_F_h_1_0, j4_F_h_1_1, j4_L_2, j4_L_3) => F0 m 4 ls []) (fun (u : (Nat → Int32) × (Nat → Int32) × (Nat → Int32) × (Nat → Int32) × (Nat → Int32) × (Nat → Int32) × (Nat → Int32) × (Nat → Int32) × (Nat → Int32) × (Nat → Int32) × (Nat → Int32) × (Nat → Int32) × (Nat → Int32) × (Int32) × (Value) × (Int32) × (Int32) × (Int32)) => match u with | (j4_C_h0_0, j4_C_h_1_10, j4_C_h_1_11, j4_C_h_1_12, j4_C_h_1_13, j4_C_h_1_2, j4_C_h_1_3, j4_C_h_1_4, j4_C_h_1_5, j4_C_h_1_6, j4_C_h_1_7, j4_C_h_1_8, j4_C_h_1_9, j4_F_h0_1, j4_F_h_1_0, j4_F_h_1_1, j4_L_2, j4_L_3) => (42 - j4_L_3.toInt).toNat) (fun u H locs ls hi ih4 => ?_) (f_h0_0, f_h_1_10, f_h_1_11, f_h_1_12, f_h_1_13, f_h_1_2, f_h_1_3, f_h_1_4, f_h_1_5, f_h_1_6, f_h_1_7, f_h_1_8, f_h_1_9, h0_1, (h_1_0 : Value), h_1_1, 1, 0) _ _ _ ⟨by omega, by omega, by have zq1 : (1 : Int32).toInt = 1 := (by decide); omega, by have zq0 : (0 : Int32).toInt = 0 := (by decide); omega, by have zq1 : (1 : Int32).toInt = 1 := (by decide); omega, by omega, by have zq0 : (0 : Int32).toInt = 0 := (by decide); omega, by omega, by omega, by omega, q_f_h_1_4, q_f_h_1_5, Wd, lv_sub hl [0, 1, 2, 3] rfl⟩
  obtain ⟨j4_C_h0_0, j4_C_h_1_10, j4_C_h_1_11, j4_C_h_1_12, j4_C_h_1_13, j4_C_h_1_2, j4_C_h_1_3, j4_C_h_1_4, j4_C_h_1_5, j4_C_h_1_6, j4_C_h_1_7, j4_C_h_1_8, j4_C_h_1_9, j4_F_h0_1, j4_F_h_1_0, j4_F_h_1_1, j4_L_2, j4_L_3⟩ := u
  obtain ⟨i4_0, i4_1, i4_2, i4_3, i4_4, i4_5, i4_6, i4_7, i4_8, i4_9, q_j4_C_h_1_4, q_j4_C_h_1_5, Wd, hl⟩ := hi
  refine lv_iload_n C.1 C.2.1 dX0_dead_4 rfl (lv_at hl 0 rfl) ?_
  refine lv_bipush (v := 40) C.1 C.2.1 dX0_dead_5 (by decide) ?_
  refine k_cutA (fun (_ : Unit) H locs ls => j4_L_2.toInt ≤ j4_L_3.toInt ∧ wX D [(a_h0_0, .int), (a_h_1_13, .int), (a_h_1_12, .int), (a_h_1_2, .int), (a_h_1_3, .int), (a_h_1_9, .int), (a_h_1_4, .int), (a_h_1_5, .int), (a_h_1_8, .int), (a_h_1_6, .int), (a_h_1_7, .int), (a_h_1_11, .int), (a_h_1_10, .int)] s [(h, .inr (0, [.ref h_0, .ref h_1])), (h_1, .inr (1, [j4_F_h_1_0, .int j4_F_h_1_1, .ref h_1_2, .ref h_1_3, .ref h_1_4, .ref h_1_5, .ref h_1_6, .ref h_1_7, .ref h_1_8, .ref h_1_9, .ref h_1_10, .ref h_1_11, .ref h_1_12, .ref h_1_13])), (h0, .inr (8, [.ref h0_0, .int j4_F_h0_1])), (h0_0, .inl (a_h0_0, n_h0_0, .inl j4_C_h0_0)), (h_1_13, .inl (a_h_1_13, 480, .inl j4_C_h_1_13)), (h_1_12, .inl (a_h_1_12, 40, .inl j4_C_h_1_12)), (h_1_2, .inl (a_h_1_2, 40, .inl j4_C_h_1_2)), (h_1_3, .inl (a_h_1_3, 40, .inl j4_C_h_1_3)), (h_1_9, .inl (a_h_1_9, 40, .inl j4_C_h_1_9)), (h_1_4, .inl (a_h_1_4, 40, .inl j4_C_h_1_4)), (h_1_5, .inl (a_h_1_5, 40, .inl j4_C_h_1_5)), (h_1_8, .inl (a_h_1_8, 40, .inl j4_C_h_1_8)), (h_1_6, .inl (a_h_1_6, 40, .inl j4_C_h_1_6)), (h_1_7, .inl (a_h_1_7, 40, .inl j4_C_h_1_7)), (h_1_11, .inl (a_h_1_11, 40, .inl j4_C_h_1_11)), (h_1_10, .inl (a_h_1_10, 40, .inl j4_C_h_1_10))] H A s.heap locs ∧ lv_has ls 6 [(3, .int j4_L_3), (2, .int j4_L_2), (0, .ref h), (1, .ref h0)]) (fun (_ : Unit) ls => F0 m 121 ls []) (fun _ H locs ls hi => ?_) (fun J121 => ?_)
  · obtain ⟨i121_0, Wd, hl⟩ := hi
    exact k_vret C hr hlk Wd ((j4_F_h_1_0 : Value), j4_F_h_1_1, j4_F_h0_1, j4_C_h0_0, j4_C_h_1_13, j4_C_h_1_12, j4_C_h_1_2, j4_C_h_1_3, j4_C_h_1_9, j4_C_h_1_4, j4_C_h_1_5, j4_C_h_1_8, j4_C_h_1_6, j4_C_h_1_7, j4_C_h_1_11, j4_C_h_1_10) (by exact ⟨by omega, by omega, by omega, by omega, by omega, by omega, q_j4_C_h_1_4, q_j4_C_h_1_5⟩) [0, 1, 2, 3, 4, 5, 6, 7, 8, 9, 10, 11, 12, 13, 14, 15] rfl (by decide) [] rfl (by decide) (by decide) dX0_dead_121
  refine lv_icmp_gt (tgt := 121) C.1 C.2.1 dX0_dead_7 (by decide) (fun c7 => ?_) (fun c7 => ?_)
  · have i7 : 40 < j4_L_3.toInt := kz_lt c7
    exact J121 () _ _ _ ⟨by omega, Wd, lv_sub hl [0, 1, 2, 3] rfl⟩
  · have i7 : j4_L_3.toInt ≤ 40 := kz_nlt c7
    refine lv_iload_n C.1 C.2.1 dX0_dead_10 rfl (lv_at hl 1 rfl) ?_
    refine lv_if_eq (tgt := 121) C.1 C.2.1 dX0_dead_11 (by decide) (fun c11 => ?_) (fun c11 => ?_)
    · have i11 : j4_L_2.toInt = 0 := kz_eq c11
      exact J121 () _ _ _ ⟨by omega, Wd, lv_sub hl [0, 1, 2, 3] rfl⟩
    · have i11 : ¬ j4_L_2.toInt = 0 := kz_ne c11
      refine lv_iconst (v := 0) C.1 C.2.1 dX0_dead_14 (by decide) ?_
      refine lv_istore_n (lv' := [(2, .int 0), (3, .int j4_L_3), (0, .ref h), (1, .ref h0)]) C.1 C.2.1 dX0_dead_15 rfl hl (by decide) rfl (fun ls hl => ?_)
      refine lv_aload_n C.1 C.2.1 dX0_dead_16 rfl (lv_at hl 2 rfl) ?_
      refine k_get C Wd KX0 0 1 rfl (by decide) fl_X0_23 rfl dX0_dead_17 ?_
      refine lv_aload_n C.1 C.2.1 dX0_dead_20 rfl (lv_at hl 3 rfl) ?_
      refine k_cv Wd [1, 2, 3, 4, 5, 6, 7, 8, 9, 10, 11, 12, 13, 14, 15] [0] rfl (wr := [(h, .inr (0, [.ref h_0, .ref h_1]))]) rfl (by decide) (by decide) (cells' := 0) (slots' := 0) (by decide) (by decide) (k_runV (rest := []) C aks Wd cs_X0_74 (sX1_trace l D h_1 h0 (j4_F_h_1_0 : Value) j4_F_h_1_1 h_1_2 h_1_3 h_1_4 h_1_5 h_1_6 h_1_7 h_1_8 h_1_9 h_1_10 h_1_11 h_1_12 h_1_13 h0_0 j4_F_h0_1 n_h0_0 a_h0_0 j4_C_h0_0 a_h_1_13 j4_C_h_1_13 a_h_1_12 j4_C_h_1_12 a_h_1_2 j4_C_h_1_2 a_h_1_3 j4_C_h_1_3 a_h_1_9 j4_C_h_1_9 a_h_1_4 j4_C_h_1_4 a_h_1_5 j4_C_h_1_5 a_h_1_8 j4_C_h_1_8 a_h_1_6 j4_C_h_1_6 a_h_1_7 j4_C_h_1_7 a_h_1_11 j4_C_h_1_11 a_h_1_10 j4_C_h_1_10 _ (by omega) (by omega) (by omega) (by omega) (by omega) (by omega) q_j4_C_h_1_4 q_j4_C_h_1_5) [1, 2, 3, 4, 5, 6, 7, 8, 9, 10, 11, 12, 13, 14, 15] rfl (by decide) [0, 1, 2, 3, 4, 5, 6, 7, 8, 9, 10, 11, 12] rfl 1 1 rfl rfl rfl rfl rfl ⟨(Nat.le_of_ble_eq_true rfl), (Nat.le_of_ble_eq_true rfl)⟩ hl.1 rfl rfl (Nat.le_of_ble_eq_true rfl) ⟨(Nat.le_of_ble_eq_true rfl), (Nat.le_of_ble_eq_true rfl)⟩ dX0_dead_21) (fun u H locs w21 Wd => ?_)
      obtain ⟨s21_0, s21_1, s21_2, s21_3, s21_4, s21_5, s21_6, s21_7, s21_8, s21_9, s21_10, s21_11, s21_12⟩ := u
      have Wd : wX D [(a_h0_0, .int), (a_h_1_13, .int), (a_h_1_12, .int), (a_h_1_2, .int), (a_h_1_3, .int), (a_h_1_9, .int), (a_h_1_4, .int), (a_h_1_5, .int), (a_h_1_8, .int), (a_h_1_6, .int), (a_h_1_7, .int), (a_h_1_11, .int), (a_h_1_10, .int)] s [(h, .inr (0, [.ref h_0, .ref h_1])), (h_1, .inr (1, [.ref h0, .int s21_0, .ref h_1_2, .ref h_1_3, .ref h_1_4, .ref h_1_5, .ref h_1_6, .ref h_1_7, .ref h_1_8, .ref h_1_9, .ref h_1_10, .ref h_1_11, .ref h_1_12, .ref h_1_13])), (h0, .inr (8, [.ref h0_0, .int j4_F_h0_1])), (h0_0, .inl (a_h0_0, n_h0_0, .inl j4_C_h0_0)), (h_1_13, .inl (a_h_1_13, 480, .inl s21_1)), (h_1_12, .inl (a_h_1_12, 40, .inl s21_2)), (h_1_2, .inl (a_h_1_2, 40, .inl s21_3)), (h_1_3, .inl (a_h_1_3, 40, .inl s21_4)), (h_1_9, .inl (a_h_1_9, 40, .inl s21_5)), (h_1_4, .inl (a_h_1_4, 40, .inl s21_6)), (h_1_5, .inl (a_h_1_5, 40, .inl s21_7)), (h_1_8, .inl (a_h_1_8, 40, .inl s21_8)), (h_1_6, .inl (a_h_1_6, 40, .inl s21_9)), (h_1_7, .inl (a_h_1_7, 40, .inl s21_10)), (h_1_11, .inl (a_h_1_11, 40, .inl s21_11)), (h_1_10, .inl (a_h_1_10, 40, .inl s21_12))] _ A s.heap _ := k_sub Wd [0, 1, 2, 3, 4, 5, 6, 7, 8, 9, 10, 11, 12, 13, 14, 15] rfl (by decide) [0, 1, 2, 3, 4, 5, 6, 7, 8, 9, 10, 11, 12] rfl
      obtain ⟨g21_0, g21_1, g21_2, g21_3, q_s21_6, q_s21_7⟩ := w21
      have g21_0 : 0 ≤ s21_0.toInt := g21_0
      have g21_1 : s21_0.toInt ≤ 40 := g21_1
      have g21_2 : s21_0.toInt ≤ (n_h0_0 : Int) := g21_2
      have g21_3 : s21_0.toInt ≤ j4_F_h0_1.toInt := g21_3
      refine lv_aload_n C.1 C.2.1 dX0_dead_24 rfl (lv_at hl 2 rfl) ?_
      refine k_get C Wd KX0 0 1 rfl (by decide) fl_X0_23 rfl dX0_dead_25 ?_
      refine k_get C Wd KX1 1 1 rfl (by decide) fl_X0_77 rfl dX0_dead_28 ?_
      refine lv_iconst (v := 1) C.1 C.2.1 dX0_dead_31 (by decide) ?_
      obtain ⟨v32, ev32⟩ : ∃ z : Int32, s21_0 - 1 = z := ⟨_, rfl⟩
      have iv32 : v32.toInt = s21_0.toInt - 1 := kz_subc ev32 (by decide) (by have zr0 := kz_rng s21_0; omega) (by have zr0 := kz_rng s21_0; omega)
      refine k_isub (v := v32) C ev32 dX0_dead_32 ?_
      refine lv_istore (lv' := [(4, .int v32), (2, .int 0), (3, .int j4_L_3), (0, .ref h), (1, .ref h0)]) C.1 C.2.1 dX0_dead_33 hl (by decide) rfl (fun ls hl => ?_)
      refine k_loopA (fun (u : (Nat → Int32) × (Int32) × (Int32) × (Int32) × (Int32)) H locs ls => match u with | (j35_C_h0_0, j35_F_h0_1, j35_L_2, j35_L_3, j35_L_4) => 0 ≤ j35_F_h0_1.toInt ∧ 0 ≤ j35_L_2.toInt ∧ 0 ≤ j35_L_3.toInt ∧ -1 ≤ j35_L_4.toInt ∧ j35_L_2.toInt ≤ 1 ∧ j35_L_4.toInt ≤ 39 ∧ j35_L_3.toInt ≤ 40 ∧ j35_F_h0_1.toInt ≤ 1000 ∧ j35_F_h0_1.toInt ≤ (n_h0_0 : Int) ∧ j35_F_h0_1.toInt ≤ h0_1.toInt ∧ j35_F_h0_1.toInt ≤ j4_F_h0_1.toInt ∧ j35_L_2.toInt ≤ h0_1.toInt ∧ j35_L_2.toInt ≤ j4_F_h0_1.toInt ∧ j35_L_2.toInt ≤ s21_0.toInt ∧ j35_L_3.toInt ≤ j4_L_3.toInt ∧ j35_L_4.toInt ≤ v32.toInt ∧ j4_L_3.toInt ≤ j35_L_3.toInt ∧ wX D [(a_h0_0, .int), (a_h_1_13, .int), (a_h_1_12, .int), (a_h_1_2, .int), (a_h_1_3, .int), (a_h_1_9, .int), (a_h_1_4, .int), (a_h_1_5, .int), (a_h_1_8, .int), (a_h_1_6, .int), (a_h_1_7, .int), (a_h_1_11, .int), (a_h_1_10, .int)] s [(h, .inr (0, [.ref h_0, .ref h_1])), (h_1, .inr (1, [.ref h0, .int s21_0, .ref h_1_2, .ref h_1_3, .ref h_1_4, .ref h_1_5, .ref h_1_6, .ref h_1_7, .ref h_1_8, .ref h_1_9, .ref h_1_10, .ref h_1_11, .ref h_1_12, .ref h_1_13])), (h0, .inr (8, [.ref h0_0, .int j35_F_h0_1])), (h0_0, .inl (a_h0_0, n_h0_0, .inl j35_C_h0_0)), (h_1_13, .inl (a_h_1_13, 480, .inl s21_1)), (h_1_12, .inl (a_h_1_12, 40, .inl s21_2)), (h_1_2, .inl (a_h_1_2, 40, .inl s21_3)), (h_1_3, .inl (a_h_1_3, 40, .inl s21_4)), (h_1_9, .inl (a_h_1_9, 40, .inl s21_5)), (h_1_4, .inl (a_h_1_4, 40, .inl s21_6)), (h_1_5, .inl (a_h_1_5, 40, .inl s21_7)), (h_1_8, .inl (a_h_1_8, 40, .inl s21_8)), (h_1_6, .inl (a_h_1_6, 40, .inl s21_9)), (h_1_7, .inl (a_h_1_7, 40, .inl s21_10)), (h_1_11, .inl (a_h_1_11, 40, .inl s21_11)), (h_1_10, .inl (a_h_1_10, 40, .inl s21_12))] H A s.heap locs ∧ lv_has ls 6 [(4, .int j35_L_4), (2, .int j35_L_2), (3, .int j35_L_3), (0, .ref h), (1, .ref h0)]) (fun (u : (Nat → Int32) × (Int32) × (Int32) × (Int32) × (Int32)) ls => match u with | (j35_C_h0_0, j35_F_h0_1, j35_L_2, j35_L_3, j35_L_4) => F0 m 35 ls []) (fun (u : (Nat → Int32) × (Int32) × (Int32) × (Int32) × (Int32)) => match u with | (j35_C_h0_0, j35_F_h0_1, j35_L_2, j35_L_3, j35_L_4) => (j35_L_4.toInt + 2).toNat) (fun u H locs ls hi ih35 => ?_) (j4_C_h0_0, j4_F_h0_1, 0, j4_L_3, v32) _ _ _ ⟨by omega, by have zq0 : (0 : Int32).toInt = 0 := (by decide); omega, by omega, by omega, by have zq0 : (0 : Int32).toInt = 0 := (by decide); omega, by omega, by omega, by omega, by omega, by omega, by omega, by have zq0 : (0 : Int32).toInt = 0 := (by decide); omega, by have zq0 : (0 : Int32).toInt = 0 := (by decide); omega, by have zq0 : (0 : Int32).toInt = 0 := (by decide); omega, by omega, by omega, by omega, Wd, lv_sub hl [0, 1, 2, 3, 4] rfl⟩
      obtain ⟨j35_C_h0_0, j35_F_h0_1, j35_L_2, j35_L_3, j35_L_4⟩ := u
      obtain ⟨i35_0, i35_1, i35_2, i35_3, i35_4, i35_5, i35_6, i35_7, i35_8, i35_9, i35_10, i35_11, i35_12, i35_13, i35_14, i35_15, i35_16, Wd, hl⟩ := hi
      refine lv_iload C.1 C.2.1 dX0_dead_35 (lv_at hl 0 rfl) ?_
      refine lv_if_lt (tgt := 115) C.1 C.2.1 dX0_dead_37 (by decide) (fun c37 => ?_) (fun c37 => ?_)
      · have i37 : j35_L_4.toInt < 0 := kz_lt c37
        obtain ⟨v115, ev115⟩ : ∃ z : Int32, j35_L_3 + 1 = z := ⟨_, rfl⟩
        have iv115 : v115.toInt = j35_L_3.toInt + 1 := kz_addc ev115 (by decide) (by have zr0 := kz_rng j35_L_3; omega) (by have zr0 := kz_rng j35_L_3; omega)
        refine lv_iinc (v := v115) (lv' := [(3, .int v115), (4, .int j35_L_4), (2, .int j35_L_2), (0, .ref h), (1, .ref h0)]) C.1 C.2.1 dX0_dead_115 hl (k := 2) rfl ev115 (by decide) rfl (fun ls hl => ?_)
        refine lv_goto (tgt := 4) C.1 C.2.1 dX0_dead_118 (by decide) ?_
        exact ih4 (j35_C_h0_0, s21_12, s21_11, s21_2, s21_1, s21_3, s21_4, s21_6, s21_7, s21_9, s21_10, s21_8, s21_5, j35_F_h0_1, (.ref h0 : Value), s21_0, j35_L_2, v115) _ _ _ ⟨by omega, by omega, by omega, by omega, by omega, by omega, by omega, by omega, by omega, by omega, q_s21_6, q_s21_7, Wd, lv_sub hl [0, 2, 3, 4] rfl⟩ (by show (42 - v115.toInt).toNat < (42 - j4_L_3.toInt).toNat; omega)
      · have i37 : 0 ≤ j35_L_4.toInt := kz_nlt c37
        refine lv_aload_n C.1 C.2.1 dX0_dead_40 rfl (lv_at hl 3 rfl) ?_
        refine k_get C Wd KX0 0 1 rfl (by decide) fl_X0_23 rfl dX0_dead_41 ?_
        refine lv_iload C.1 C.2.1 dX0_dead_44 (lv_at hl 0 rfl) ?_
        refine k_pi (k_runV (rest := []) C aks Wd cs_X0_80 (sX1_setBy l D h_1 j35_L_4 (.ref h0 : Value) s21_0 h_1_2 h_1_3 h_1_4 h_1_5 h_1_6 h_1_7 h_1_8 h_1_9 h_1_10 h_1_11 h_1_12 h_1_13 a_h_1_9 s21_5 _ (by omega) (by omega)) [1, 8] rfl (by decide) [5] rfl 1 1 rfl rfl rfl rfl rfl ⟨(Nat.le_of_ble_eq_true rfl), (Nat.le_of_ble_eq_true rfl)⟩ hl.1 rfl rfl (Nat.le_of_ble_eq_true rfl) ⟨(Nat.le_of_ble_eq_true rfl), (Nat.le_of_ble_eq_true rfl)⟩ dX0_dead_46) (fun r46 w46 => ?_)
        refine lv_istore (lv' := [(5, .int r46), (4, .int j35_L_4), (2, .int j35_L_2), (3, .int j35_L_3), (0, .ref h), (1, .ref h0)]) C.1 C.2.1 dX0_dead_49 hl (by decide) rfl (fun ls hl => ?_)
        refine lv_iload C.1 C.2.1 dX0_dead_51 (lv_at hl 0 rfl) ?_
        refine k_cutA (fun (u : (Int32) × (Int32) × (Nat → Int32)) H locs ls => match u with | (j109_L_2, j109_F_h0_1, j109_C_h0_0) => 0 ≤ j109_F_h0_1.toInt ∧ 0 ≤ j109_L_2.toInt ∧ j109_L_2.toInt ≤ 1 ∧ j109_F_h0_1.toInt ≤ 1000 ∧ j109_F_h0_1.toInt ≤ (n_h0_0 : Int) ∧ j109_F_h0_1.toInt ≤ h0_1.toInt ∧ j109_F_h0_1.toInt ≤ j35_F_h0_1.toInt ∧ j35_L_2.toInt ≤ j109_L_2.toInt ∧ wX D [(a_h0_0, .int), (a_h_1_13, .int), (a_h_1_12, .int), (a_h_1_2, .int), (a_h_1_3, .int), (a_h_1_9, .int), (a_h_1_4, .int), (a_h_1_5, .int), (a_h_1_8, .int), (a_h_1_6, .int), (a_h_1_7, .int), (a_h_1_11, .int), (a_h_1_10, .int)] s [(h, .inr (0, [.ref h_0, .ref h_1])), (h_1, .inr (1, [.ref h0, .int s21_0, .ref h_1_2, .ref h_1_3, .ref h_1_4, .ref h_1_5, .ref h_1_6, .ref h_1_7, .ref h_1_8, .ref h_1_9, .ref h_1_10, .ref h_1_11, .ref h_1_12, .ref h_1_13])), (h0, .inr (8, [.ref h0_0, .int j109_F_h0_1])), (h0_0, .inl (a_h0_0, n_h0_0, .inl j109_C_h0_0)), (h_1_13, .inl (a_h_1_13, 480, .inl s21_1)), (h_1_12, .inl (a_h_1_12, 40, .inl s21_2)), (h_1_2, .inl (a_h_1_2, 40, .inl s21_3)), (h_1_3, .inl (a_h_1_3, 40, .inl s21_4)), (h_1_9, .inl (a_h_1_9, 40, .inl s21_5)), (h_1_4, .inl (a_h_1_4, 40, .inl s21_6)), (h_1_5, .inl (a_h_1_5, 40, .inl s21_7)), (h_1_8, .inl (a_h_1_8, 40, .inl s21_8)), (h_1_6, .inl (a_h_1_6, 40, .inl s21_9)), (h_1_7, .inl (a_h_1_7, 40, .inl s21_10)), (h_1_11, .inl (a_h_1_11, 40, .inl s21_11)), (h_1_10, .inl (a_h_1_10, 40, .inl s21_12))] H A s.heap locs ∧ lv_has ls 6 [(5, .int r46), (4, .int j35_L_4), (2, .int j109_L_2), (3, .int j35_L_3), (0, .ref h), (1, .ref h0)]) (fun (u : (Int32) × (Int32) × (Nat → Int32)) ls => match u with | (j109_L_2, j109_F_h0_1, j109_C_h0_0) => F0 m 109 ls []) (fun u H locs ls hi => ?_) (fun J109 => ?_)
        · obtain ⟨j109_L_2, j109_F_h0_1, j109_C_h0_0⟩ := u
          obtain ⟨i109_0, i109_1, i109_2, i109_3, i109_4, i109_5, i109_6, i109_7, Wd, hl⟩ := hi
          obtain ⟨v109, ev109⟩ : ∃ z : Int32, j35_L_4 + (-1) = z := ⟨_, rfl⟩
          have iv109 : v109.toInt = j35_L_4.toInt + (-1) := kz_addc ev109 (by decide) (by have zr0 := kz_rng j35_L_4; omega) (by have zr0 := kz_rng j35_L_4; omega)
          refine lv_iinc (v := v109) (lv' := [(4, .int v109), (5, .int r46), (2, .int j109_L_2), (3, .int j35_L_3), (0, .ref h), (1, .ref h0)]) C.1 C.2.1 dX0_dead_109 hl (k := 1) rfl ev109 (by decide) rfl (fun ls hl => ?_)
          refine lv_goto (tgt := 35) C.1 C.2.1 dX0_dead_112 (by decide) ?_
          exact ih35 (j109_C_h0_0, j109_F_h0_1, j109_L_2, j35_L_3, v109) _ _ _ ⟨by omega, by omega, by omega, by omega, by omega, by omega, by omega, by omega, by omega, by omega, by omega, by omega, by omega, by omega, by omega, by omega, by omega, Wd, lv_sub hl [0, 2, 3, 4, 5] rfl⟩ (by show (v109.toInt + 2).toNat < (j35_L_4.toInt + 2).toNat; omega)
        refine lv_if_eq (tgt := 109) C.1 C.2.1 dX0_dead_53 (by decide) (fun c53 => ?_) (fun c53 => ?_)
        · have i53 : r46.toInt = 0 := kz_eq c53
          exact J109 (j35_L_2, j35_F_h0_1, j35_C_h0_0) _ _ _ ⟨by omega, by omega, by omega, by omega, by omega, by omega, by omega, by omega, Wd, lv_sub hl [0, 1, 2, 3, 4, 5] rfl⟩
        · have i53 : ¬ r46.toInt = 0 := kz_ne c53
          refine lv_iload C.1 C.2.1 dX0_dead_56 (lv_at hl 0 rfl) ?_
          refine lv_aload_n C.1 C.2.1 dX0_dead_58 rfl (lv_at hl 4 rfl) ?_
          refine k_get C Wd KX0 0 1 rfl (by decide) fl_X0_23 rfl dX0_dead_59 ?_
          refine lv_iload C.1 C.2.1 dX0_dead_62 (lv_at hl 1 rfl) ?_
          refine k_pi (k_runV (rest := [.int r46]) C aks Wd cs_X0_83 (sX1_behind l D h_1 j35_L_4 (.ref h0 : Value) s21_0 h_1_2 h_1_3 h_1_4 h_1_5 h_1_6 h_1_7 h_1_8 h_1_9 h_1_10 h_1_11 h_1_12 h_1_13 a_h_1_6 s21_9 a_h_1_10 s21_12 a_h_1_7 s21_10 _ (by omega) (by omega)) [1, 12, 15, 13] rfl (by decide) [9, 12, 10] rfl 1 1 rfl rfl rfl rfl rfl ⟨(Nat.le_of_ble_eq_true rfl), (Nat.le_of_ble_eq_true rfl)⟩ hl.1 rfl rfl (Nat.le_of_ble_eq_true rfl) ⟨(Nat.le_of_ble_eq_true rfl), (Nat.le_of_ble_eq_true rfl)⟩ dX0_dead_64) (fun r64 w64 => ?_)
          obtain ⟨v67, ev67⟩ : ∃ z : Int32, r46 &&& r64 = z := ⟨_, rfl⟩
          refine k_iand (v := v67) C ev67 dX0_dead_67 ?_
          refine lv_if_ne (tgt := 109) C.1 C.2.1 dX0_dead_68 (by decide) (fun c68 => ?_) (fun c68 => ?_)
          · have i68 : ¬ v67.toInt = 0 := kz_ne c68
            exact J109 (j35_L_2, j35_F_h0_1, j35_C_h0_0) _ _ _ ⟨by omega, by omega, by omega, by omega, by omega, by omega, by omega, by omega, Wd, lv_sub hl [0, 1, 2, 3, 4, 5] rfl⟩
          · have i68 : v67.toInt = 0 := kz_eq c68
            refine lv_aload_n C.1 C.2.1 dX0_dead_71 rfl (lv_at hl 4 rfl) ?_
            refine k_get C Wd KX0 0 1 rfl (by decide) fl_X0_23 rfl dX0_dead_72 ?_
            refine lv_iload C.1 C.2.1 dX0_dead_75 (lv_at hl 1 rfl) ?_
            refine k_pi (k_runV (rest := []) C aks Wd cs_X0_86 (sX1_isHere l D h_1 j35_L_4 (.ref h0 : Value) s21_0 h_1_2 h_1_3 h_1_4 h_1_5 h_1_6 h_1_7 h_1_8 h_1_9 h_1_10 h_1_11 h_1_12 h_1_13 _ (by omega) (by omega)) [1] rfl (by decide) [] rfl 1 1 rfl rfl rfl rfl rfl ⟨(Nat.le_of_ble_eq_true rfl), (Nat.le_of_ble_eq_true rfl)⟩ hl.1 rfl rfl (Nat.le_of_ble_eq_true rfl) ⟨(Nat.le_of_ble_eq_true rfl), (Nat.le_of_ble_eq_true rfl)⟩ dX0_dead_77) (fun r77 w77 => ?_)
            rcases w77 with rfl | ⟨g77_1_0, g77_1_1, g77_1_2, g77_1_3, rfl⟩
            · refine lv_if_eq (tgt := 109) C.1 C.2.1 dX0_dead_80 (by decide) (fun _ => ?_) (fun c80 => absurd c80 (by decide))
              exact J109 (j35_L_2, j35_F_h0_1, j35_C_h0_0) _ _ _ ⟨by omega, by omega, by omega, by omega, by omega, by omega, by omega, by omega, Wd, lv_sub hl [0, 1, 2, 3, 4, 5] rfl⟩
            · have g77_1_0 : 0 ≤ j35_L_4.toInt := g77_1_0
              have g77_1_1 : 1 ≤ s21_0.toInt := g77_1_1
              have g77_1_2 : j35_L_4.toInt ≤ 39 := g77_1_2
              have g77_1_3 : j35_L_4.toInt + 1 ≤ s21_0.toInt := g77_1_3
              refine lv_if_eq (tgt := 109) C.1 C.2.1 dX0_dead_80 (by decide) (fun c80 => absurd c80 (by decide)) (fun _ => ?_)
              refine lv_aload_n C.1 C.2.1 dX0_dead_83 rfl (lv_at hl 5 rfl) ?_
              refine lv_aload_n C.1 C.2.1 dX0_dead_84 rfl (lv_at hl 4 rfl) ?_
              refine k_get C Wd KX0 0 1 rfl (by decide) fl_X0_23 rfl dX0_dead_85 ?_
              refine k_get C Wd KX1 1 2 rfl (by decide) fl_X0_89 rfl dX0_dead_88 ?_
              refine lv_iload C.1 C.2.1 dX0_dead_91 (lv_at hl 1 rfl) ?_
              obtain ⟨v93, ev93⟩ : ∃ z : Int32, s21_3 j35_L_4.toNatClampNeg = z := ⟨_, rfl⟩
              refine k_iald (v := v93) C Wd 6 3 rfl rfl (vp_in_iff.mpr ⟨by omega, by omega⟩) ev93 dX0_dead_93 ?_
              refine lv_aload_n C.1 C.2.1 dX0_dead_94 rfl (lv_at hl 4 rfl) ?_
              refine k_get C Wd KX0 0 1 rfl (by decide) fl_X0_23 rfl dX0_dead_95 ?_
              refine k_get C Wd KX1 1 5 rfl (by decide) fl_X0_93 rfl dX0_dead_98 ?_
              refine lv_iload C.1 C.2.1 dX0_dead_101 (lv_at hl 1 rfl) ?_
              obtain ⟨v103, ev103⟩ : ∃ z : Int32, s21_7 j35_L_4.toNatClampNeg = z := ⟨_, rfl⟩
              refine k_iald (v := v103) C Wd 10 7 rfl rfl (vp_in_iff.mpr ⟨by omega, by omega⟩) ev103 dX0_dead_103 ?_
              have iv103 : 0 ≤ v103.toInt ∧ v103.toInt ≤ 2000 := by rw [← ev103]; exact q_s21_7 _
              refine k_cv Wd [2, 3] [0, 1, 4, 5, 6, 7, 8, 9, 10, 11, 12, 13, 14, 15] rfl (wr := [(h, .inr (0, [.ref h_0, .ref h_1])), (h_1, .inr (1, [.ref h0, .int s21_0, .ref h_1_2, .ref h_1_3, .ref h_1_4, .ref h_1_5, .ref h_1_6, .ref h_1_7, .ref h_1_8, .ref h_1_9, .ref h_1_10, .ref h_1_11, .ref h_1_12, .ref h_1_13])), (h_1_13, .inl (a_h_1_13, 480, .inl s21_1)), (h_1_12, .inl (a_h_1_12, 40, .inl s21_2)), (h_1_2, .inl (a_h_1_2, 40, .inl s21_3)), (h_1_3, .inl (a_h_1_3, 40, .inl s21_4)), (h_1_9, .inl (a_h_1_9, 40, .inl s21_5)), (h_1_4, .inl (a_h_1_4, 40, .inl s21_6)), (h_1_5, .inl (a_h_1_5, 40, .inl s21_7)), (h_1_8, .inl (a_h_1_8, 40, .inl s21_8)), (h_1_6, .inl (a_h_1_6, 40, .inl s21_9)), (h_1_7, .inl (a_h_1_7, 40, .inl s21_10)), (h_1_11, .inl (a_h_1_11, 40, .inl s21_11)), (h_1_10, .inl (a_h_1_10, 40, .inl s21_12))]) rfl (by decide) (by decide) (cells' := 0) (slots' := 0) (by decide) (by decide) (k_runV (rest := []) C aks Wd cs_X0_65 (sX8_remove l D h0 v93 v103 h0_0 j35_F_h0_1 n_h0_0 a_h0_0 j35_C_h0_0 _ (by omega) (by omega) (by omega) (by omega)) [2, 3] rfl (by decide) [0] rfl 2 8 rfl rfl rfl rfl rfl ⟨(Nat.le_of_ble_eq_true rfl), (Nat.le_of_ble_eq_true rfl)⟩ hl.1 rfl rfl (Nat.le_of_ble_eq_true rfl) ⟨(Nat.le_of_ble_eq_true rfl), (Nat.le_of_ble_eq_true rfl)⟩ dX0_dead_104) (fun u H locs w104 Wd => ?_)
              obtain ⟨s104_0, s104_1⟩ := u
              have Wd : wX D [(a_h0_0, .int), (a_h_1_13, .int), (a_h_1_12, .int), (a_h_1_2, .int), (a_h_1_3, .int), (a_h_1_9, .int), (a_h_1_4, .int), (a_h_1_5, .int), (a_h_1_8, .int), (a_h_1_6, .int), (a_h_1_7, .int), (a_h_1_11, .int), (a_h_1_10, .int)] s [(h, .inr (0, [.ref h_0, .ref h_1])), (h_1, .inr (1, [.ref h0, .int s21_0, .ref h_1_2, .ref h_1_3, .ref h_1_4, .ref h_1_5, .ref h_1_6, .ref h_1_7, .ref h_1_8, .ref h_1_9, .ref h_1_10, .ref h_1_11, .ref h_1_12, .ref h_1_13])), (h0, .inr (8, [.ref h0_0, .int s104_0])), (h0_0, .inl (a_h0_0, n_h0_0, .inl s104_1)), (h_1_13, .inl (a_h_1_13, 480, .inl s21_1)), (h_1_12, .inl (a_h_1_12, 40, .inl s21_2)), (h_1_2, .inl (a_h_1_2, 40, .inl s21_3)), (h_1_3, .inl (a_h_1_3, 40, .inl s21_4)), (h_1_9, .inl (a_h_1_9, 40, .inl s21_5)), (h_1_4, .inl (a_h_1_4, 40, .inl s21_6)), (h_1_5, .inl (a_h_1_5, 40, .inl s21_7)), (h_1_8, .inl (a_h_1_8, 40, .inl s21_8)), (h_1_6, .inl (a_h_1_6, 40, .inl s21_9)), (h_1_7, .inl (a_h_1_7, 40, .inl s21_10)), (h_1_11, .inl (a_h_1_11, 40, .inl s21_11)), (h_1_10, .inl (a_h_1_10, 40, .inl s21_12))] _ A s.heap _ := k_sub Wd [0, 1, 14, 15, 2, 3, 4, 5, 6, 7, 8, 9, 10, 11, 12, 13] rfl (by decide) [0, 1, 2, 3, 4, 5, 6, 7, 8, 9, 10, 11, 12] rfl
              obtain ⟨g104_0, g104_1, g104_2, g104_3⟩ := w104
              have g104_0 : 0 ≤ s104_0.toInt := g104_0
              have g104_1 : s104_0.toInt ≤ 1000 := g104_1
              have g104_2 : s104_0.toInt ≤ (n_h0_0 : Int) := g104_2
              have g104_3 : s104_0.toInt ≤ j35_F_h0_1.toInt := g104_3
              refine lv_iconst (v := 1) C.1 C.2.1 dX0_dead_107 (by decide) ?_
              refine lv_istore_n (lv' := [(2, .int 1), (5, .int r46), (4, .int j35_L_4), (3, .int j35_L_3), (0, .ref h), (1, .ref h0)]) C.1 C.2.1 dX0_dead_108 rfl hl (by decide) rfl (fun ls hl => ?_)
              exact J109 (1, s104_0, s104_1) _ _ _ ⟨by omega, by have zq1 : (1 : Int32).toInt = 1 := (by decide); omega, by have zq1 : (1 : Int32).toInt = 1 := (by decide); omega, by omega, by omega, by omega, by omega, by have zq1 : (1 : Int32).toInt = 1 := (by decide); omega, Wd, lv_sub hl [1, 2, 0, 3, 4, 5] rfl⟩
set_option maxHeartbeats 4000000 in
set_option maxRecDepth 100000 in
theorem sX0_hastyDead (l : Launch) (D : va_G) (h : Nat) (h0 : Nat) (h0_0 : Nat) (h0_1 : Int32) (n_h0_0 : Nat) (a_h0_0 : ClassId) (f_h0_0 : Nat → Int32) (sz : Nat) (k_h0_1_lo : 0 ≤ h0_1.toInt) (k_n_h0_0 : n_h0_0 ≤ 1000) (k_p_h0_0 : 1 ≤ n_h0_0) (k_h0_1_hi : h0_1.toInt ≤ (n_h0_0 : Int))  : Met l yX0_hastyDead (Cond.code yX0_hastyDead cX0_hastyDead 5 none :: gG) { frames := 3, cells := 0, slots := 0, locals := 118 } (cPre D [(a_h0_0, .int)] [(h0, .inr (8, [.ref h0_0, .int h0_1])), (h0_0, .inl (a_h0_0, n_h0_0, .inl f_h0_0))] sz [.ref h, .ref h0]) (va_Qv (fun (u : (Int32) × (Nat → Int32)) => match u with | (jX_F_h0_1, jX_C_h0_0) => 0 ≤ jX_F_h0_1.toInt ∧ jX_F_h0_1.toInt ≤ 1000 ∧ jX_F_h0_1.toInt ≤ (n_h0_0 : Int) ∧ jX_F_h0_1.toInt ≤ h0_1.toInt) (fun u t => cB D (va_A [(h0, .inr (8, [.ref h0_0, .int h0_1])), (h0_0, .inl (a_h0_0, n_h0_0, .inl f_h0_0))] sz) ((fun (_ : (Int32) × (Nat → Int32)) => ([] : List (ClassId × FieldType))) u) ((fun (u : (Int32) × (Nat → Int32)) => match u with | (jX_F_h0_1, jX_C_h0_0) => ([(h0, .inr (8, [.ref h0_0, .int jX_F_h0_1])), (h0_0, .inl (a_h0_0, n_h0_0, .inl jX_C_h0_0))] : va_W)) u) t) (va_A [(h0, .inr (8, [.ref h0_0, .int h0_1])), (h0_0, .inl (a_h0_0, n_h0_0, .inl f_h0_0))] sz)) 0 0 (va_A [(h0, .inr (8, [.ref h0_0, .int h0_1])), (h0_0, .inl (a_h0_0, n_h0_0, .inl f_h0_0))] sz) := by
  refine Met.ofW (cc := cX0_hastyDead) (maxL := 5) (ret := none) (by decide) rfl ?_
  intro p e s m args below meth c s₁ B hml hv
  obtain ⟨rfl, aks, rfl, Wd⟩ := k_enter hv
  have C : CallFix p m c cX0_hastyDead 5 s _ gG RX0 := ⟨B.exec, B.bytes, hml, findClass_of_methodNamed B.named, fun w h => atoms_spec (ws := Cond.code yX0_hastyDead cX0_hastyDead 5 none :: gG) B.pre w (List.mem_cons_of_mem _ h)⟩
  have hr := B.returns
  have hlk := B.notSynchronized
  generalize va_A [(h0, .inr (8, [.ref h0_0, .int h0_1])), (h0_0, .inl (a_h0_0, n_h0_0, .inl f_h0_0))] s.heap.size = A at Wd ⊢
  refine k_locals (Nat.le_of_ble_eq_true rfl) [(0, .ref h), (1, .ref h0)] rfl (fun ls hl => ?_)
  refine lv_aload_n C.1 C.2.1 dX0_hastyDead_0 rfl (lv_at hl 1 rfl) ?_
  refine k_get C Wd KX8 0 1 rfl (by decide) fl_X0_31 rfl dX0_hastyDead_1 ?_
  refine lv_iconst (v := 1) C.1 C.2.1 dX0_hastyDead_4 (by decide) ?_
  obtain ⟨v5, ev5⟩ : ∃ z : Int32, h0_1 - 1 = z := ⟨_, rfl⟩
  have iv5 : v5.toInt = h0_1.toInt - 1 := kz_subc ev5 (by decide) (by have zr0 := kz_rng h0_1; omega) (by have zr0 := kz_rng h0_1; omega)
  refine k_isub (v := v5) C ev5 dX0_hastyDead_5 ?_
  refine lv_istore_n (lv' := [(2, .int v5), (0, .ref h), (1, .ref h0)]) C.1 C.2.1 dX0_hastyDead_6 rfl hl (by decide) rfl (fun ls hl => ?_)
  refine k_loopA (fun (u : (Nat → Int32) × (Int32) × (Int32)) H locs ls => match u with | (j7_C_h0_0, j7_F_h0_1, j7_L_2) => 0 ≤ j7_F_h0_1.toInt ∧ -1 ≤ j7_L_2.toInt ∧ j7_L_2.toInt ≤ 999 ∧ j7_F_h0_1.toInt ≤ 1000 ∧ j7_F_h0_1.toInt ≤ (n_h0_0 : Int) ∧ j7_F_h0_1.toInt ≤ h0_1.toInt ∧ j7_L_2.toInt ≤ v5.toInt ∧ j7_L_2.toInt ≤ j7_F_h0_1.toInt + 998 ∧ wX D [(a_h0_0, .int)] s [(h0, .inr (8, [.ref h0_0, .int j7_F_h0_1])), (h0_0, .inl (a_h0_0, n_h0_0, .inl j7_C_h0_0))] H A s.heap locs ∧ lv_has ls 5 [(2, .int j7_L_2), (0, .ref h), (1, .ref h0)]) (fun (u : (Nat → Int32) × (Int32) × (Int32)) ls => match u with | (j7_C_h0_0, j7_F_h0_1, j7_L_2) => F0 m 7 ls []) (fun (u : (Nat → Int32) × (Int32) × (Int32)) => match u with | (j7_C_h0_0, j7_F_h0_1, j7_L_2) => (j7_L_2.toInt + 2).toNat) (fun u H locs ls hi ih7 => ?_) (f_h0_0, h0_1, v5) _ _ _ ⟨by omega, by omega, by omega, by omega, by omega, by omega, by omega, by omega, Wd, lv_sub hl [0, 1, 2] rfl⟩
  obtain ⟨j7_C_h0_0, j7_F_h0_1, j7_L_2⟩ := u
  obtain ⟨i7_0, i7_1, i7_2, i7_3, i7_4, i7_5, i7_6, i7_7, Wd, hl⟩ := hi
  refine lv_iload_n C.1 C.2.1 dX0_hastyDead_7 rfl (lv_at hl 0 rfl) ?_
  refine lv_if_lt (tgt := 66) C.1 C.2.1 dX0_hastyDead_8 (by decide) (fun c8 => ?_) (fun c8 => ?_)
  · have i8 : j7_L_2.toInt < 0 := kz_lt c8
    exact k_vret C hr hlk Wd (j7_F_h0_1, j7_C_h0_0) (by exact ⟨by omega, by omega, by omega, by omega⟩) [0, 1] rfl (by decide) [] rfl (by decide) (by decide) dX0_hastyDead_66
  · have i8 : 0 ≤ j7_L_2.toInt := kz_nlt c8
    refine lv_aload_n C.1 C.2.1 dX0_hastyDead_11 rfl (lv_at hl 2 rfl) ?_
    refine lv_iload_n C.1 C.2.1 dX0_hastyDead_12 rfl (lv_at hl 0 rfl) ?_
    refine k_pi (k_runV (rest := []) C aks Wd cs_X0_35 (sX8_cell l D h0 j7_L_2 h0_0 j7_F_h0_1 n_h0_0 a_h0_0 j7_C_h0_0 _ (by omega) (by omega) (by omega) (by omega)) [0, 1] rfl (by decide) [0] rfl 0 8 rfl rfl rfl rfl rfl ⟨(Nat.le_of_ble_eq_true rfl), (Nat.le_of_ble_eq_true rfl)⟩ hl.1 rfl rfl (Nat.le_of_ble_eq_true rfl) ⟨(Nat.le_of_ble_eq_true rfl), (Nat.le_of_ble_eq_true rfl)⟩ dX0_hastyDead_13) (fun r13 w13 => ?_)
    refine lv_istore_n (lv' := [(3, .int r13), (2, .int j7_L_2), (0, .ref h), (1, .ref h0)]) C.1 C.2.1 dX0_hastyDead_16 rfl hl (by decide) rfl (fun ls hl => ?_)
    refine lv_aload_n C.1 C.2.1 dX0_hastyDead_17 rfl (lv_at hl 3 rfl) ?_
    refine lv_iload_n C.1 C.2.1 dX0_hastyDead_18 rfl (lv_at hl 1 rfl) ?_
    refine lv_iconst (v := 1) C.1 C.2.1 dX0_hastyDead_19 (by decide) ?_
    obtain ⟨v20, ev20⟩ : ∃ z : Int32, j7_L_2 + 1 = z := ⟨_, rfl⟩
    have iv20 : v20.toInt = j7_L_2.toInt + 1 := kz_addc ev20 (by decide) (by have zr0 := kz_rng j7_L_2; omega) (by have zr0 := kz_rng j7_L_2; omega)
    refine k_iadd (v := v20) C ev20 dX0_hastyDead_20 ?_
    refine k_pi (k_runV (rest := []) C aks Wd cs_X0_96 (sX8_expressionEnd l D h0 v20 h0_0 j7_F_h0_1 n_h0_0 a_h0_0 j7_C_h0_0 _ (by omega) (by omega) (by omega) (by omega)) [0, 1] rfl (by decide) [0] rfl 0 8 rfl rfl rfl rfl rfl ⟨(Nat.le_of_ble_eq_true rfl), (Nat.le_of_ble_eq_true rfl)⟩ hl.1 rfl rfl (Nat.le_of_ble_eq_true rfl) ⟨(Nat.le_of_ble_eq_true rfl), (Nat.le_of_ble_eq_true rfl)⟩ dX0_hastyDead_21) (fun r21 w21 => ?_)
    obtain ⟨g21_0, g21_1, gx21_0⟩ := w21
    have g21_0 : 0 ≤ r21.toInt := g21_0
    have g21_1 : v20.toInt ≤ r21.toInt := g21_1
    have gx21_0 : r21.toInt ≤ v20.toInt ∨ r21.toInt ≤ j7_F_h0_1.toInt ∨ r21.toInt ≤ 0 := gx21_0
    refine lv_istore (lv' := [(4, .int r21), (3, .int r13), (2, .int j7_L_2), (0, .ref h), (1, .ref h0)]) C.1 C.2.1 dX0_hastyDead_24 hl (by decide) rfl (fun ls hl => ?_)
    refine lv_iload_n C.1 C.2.1 dX0_hastyDead_26 rfl (lv_at hl 1 rfl) ?_
    refine k_cutA (fun (u : (Int32) × (Nat → Int32)) H locs ls => match u with | (j60_F_h0_1, j60_C_h0_0) => 0 ≤ j60_F_h0_1.toInt ∧ j60_F_h0_1.toInt ≤ 1000 ∧ j60_F_h0_1.toInt ≤ (n_h0_0 : Int) ∧ j60_F_h0_1.toInt ≤ h0_1.toInt ∧ j60_F_h0_1.toInt ≤ j7_F_h0_1.toInt ∧ wX D [(a_h0_0, .int)] s [(h0, .inr (8, [.ref h0_0, .int j60_F_h0_1])), (h0_0, .inl (a_h0_0, n_h0_0, .inl j60_C_h0_0))] H A s.heap locs ∧ lv_has ls 5 [(4, .int r21), (3, .int r13), (2, .int j7_L_2), (0, .ref h), (1, .ref h0)]) (fun (u : (Int32) × (Nat → Int32)) ls => match u with | (j60_F_h0_1, j60_C_h0_0) => F0 m 60 ls []) (fun u H locs ls hi => ?_) (fun J60 => ?_)
    · obtain ⟨j60_F_h0_1, j60_C_h0_0⟩ := u
      obtain ⟨i60_0, i60_1, i60_2, i60_3, i60_4, Wd, hl⟩ := hi
      obtain ⟨v60, ev60⟩ : ∃ z : Int32, j7_L_2 + (-1) = z := ⟨_, rfl⟩
      have iv60 : v60.toInt = j7_L_2.toInt + (-1) := kz_addc ev60 (by decide) (by have zr0 := kz_rng j7_L_2; omega) (by have zr0 := kz_rng j7_L_2; omega)
      refine lv_iinc (v := v60) (lv' := [(2, .int v60), (4, .int r21), (3, .int r13), (0, .ref h), (1, .ref h0)]) C.1 C.2.1 dX0_hastyDead_60 hl (k := 2) rfl ev60 (by decide) rfl (fun ls hl => ?_)
      refine lv_goto (tgt := 7) C.1 C.2.1 dX0_hastyDead_63 (by decide) ?_
      exact ih7 (j60_C_h0_0, j60_F_h0_1, v60) _ _ _ ⟨by omega, by omega, by omega, by omega, by omega, by omega, by omega, by omega, Wd, lv_sub hl [0, 3, 4] rfl⟩ (by show (v60.toInt + 2).toNat < (j7_L_2.toInt + 2).toNat; omega)
    refine k_pi (k_runS (rest := []) C aks Wd cs_X0_99 (sX8_isSet l D r13 _ ) [] rfl (by decide) [] rfl rfl rfl ⟨(Nat.le_of_ble_eq_true rfl), (Nat.le_of_ble_eq_true rfl)⟩ hl.1 rfl rfl (Nat.le_of_ble_eq_true rfl) ⟨(Nat.le_of_ble_eq_true rfl), (Nat.le_of_ble_eq_true rfl)⟩ dX0_hastyDead_27) (fun r27 w27 => ?_)
    rcases w27 with rfl | ⟨g27_1_0, g27_1_1, rfl⟩
    · refine lv_if_eq (tgt := 60) C.1 C.2.1 dX0_hastyDead_30 (by decide) (fun _ => ?_) (fun c30 => absurd c30 (by decide))
      exact J60 (j7_F_h0_1, j7_C_h0_0) _ _ _ ⟨by omega, by omega, by omega, by omega, by omega, Wd, lv_sub hl [0, 1, 2, 3, 4] rfl⟩
    · have g27_1_0 : 100 ≤ r13.toInt := g27_1_0
      have g27_1_1 : r13.toInt ≤ 105 := g27_1_1
      refine lv_if_eq (tgt := 60) C.1 C.2.1 dX0_hastyDead_30 (by decide) (fun c30 => absurd c30 (by decide)) (fun _ => ?_)
      refine lv_aload_n C.1 C.2.1 dX0_hastyDead_33 rfl (lv_at hl 4 rfl) ?_
      refine lv_iload_n C.1 C.2.1 dX0_hastyDead_34 rfl (lv_at hl 1 rfl) ?_
      refine lv_bipush (v := 100) C.1 C.2.1 dX0_hastyDead_35 (by decide) ?_
      obtain ⟨v37, ev37⟩ : ∃ z : Int32, r13 - 100 = z := ⟨_, rfl⟩
      have iv37 : v37.toInt = r13.toInt - 100 := kz_subc ev37 (by decide) (by have zr0 := kz_rng r13; omega) (by have zr0 := kz_rng r13; omega)
      refine k_isub (v := v37) C ev37 dX0_hastyDead_37 ?_
      refine lv_bipush (v := 20) C.1 C.2.1 dX0_hastyDead_38 (by decide) ?_
      obtain ⟨v40, ev40⟩ : ∃ z : Int32, v37 + 20 = z := ⟨_, rfl⟩
      have iv40 : v40.toInt = v37.toInt + 20 := kz_addc ev40 (by decide) (by have zr0 := kz_rng v37; omega) (by have zr0 := kz_rng v37; omega)
      refine k_iadd (v := v40) C ev40 dX0_hastyDead_40 ?_
      refine lv_iload C.1 C.2.1 dX0_hastyDead_41 (lv_at hl 0 rfl) ?_
      refine lv_aload_n C.1 C.2.1 dX0_hastyDead_43 rfl (lv_at hl 4 rfl) ?_
      refine k_get C Wd KX8 0 1 rfl (by decide) fl_X0_31 rfl dX0_hastyDead_44 ?_
      refine k_pi (k_runV (rest := []) C aks Wd cs_X0_102 (sX8_has l D h0 v40 r21 j7_F_h0_1 h0_0 j7_F_h0_1 n_h0_0 a_h0_0 j7_C_h0_0 _ (by omega) (by omega) (by omega) (by omega)) [0, 1] rfl (by decide) [0] rfl 0 8 rfl rfl rfl rfl rfl ⟨(Nat.le_of_ble_eq_true rfl), (Nat.le_of_ble_eq_true rfl)⟩ hl.1 rfl rfl (Nat.le_of_ble_eq_true rfl) ⟨(Nat.le_of_ble_eq_true rfl), (Nat.le_of_ble_eq_true rfl)⟩ dX0_hastyDead_47) (fun r47 w47 => ?_)
      obtain ⟨g47_0, g47_1, g47_2⟩ := w47
      have g47_0 : 0 ≤ r47.toInt := g47_0
      have g47_1 : r47.toInt ≤ 1 := g47_1
      have g47_2 : r47.toInt ≤ j7_F_h0_1.toInt := g47_2
      refine lv_if_ne (tgt := 60) C.1 C.2.1 dX0_hastyDead_50 (by decide) (fun c50 => ?_) (fun c50 => ?_)
      · have i50 : ¬ r47.toInt = 0 := kz_ne c50
        exact J60 (j7_F_h0_1, j7_C_h0_0) _ _ _ ⟨by omega, by omega, by omega, by omega, by omega, Wd, lv_sub hl [0, 1, 2, 3, 4] rfl⟩
      · have i50 : r47.toInt = 0 := kz_eq c50
        refine lv_aload_n C.1 C.2.1 dX0_hastyDead_53 rfl (lv_at hl 4 rfl) ?_
        refine lv_iload_n C.1 C.2.1 dX0_hastyDead_54 rfl (lv_at hl 2 rfl) ?_
        refine lv_iload C.1 C.2.1 dX0_hastyDead_55 (lv_at hl 0 rfl) ?_
        refine k_cv Wd [0, 1] [] rfl (wr := []) rfl (by decide) (by decide) (cells' := 0) (slots' := 0) (by decide) (by decide) (k_runV (rest := []) C aks Wd cs_X0_65 (sX8_remove l D h0 j7_L_2 r21 h0_0 j7_F_h0_1 n_h0_0 a_h0_0 j7_C_h0_0 _ (by omega) (by omega) (by omega) (by omega)) [0, 1] rfl (by decide) [0] rfl 0 8 rfl rfl rfl rfl rfl ⟨(Nat.le_of_ble_eq_true rfl), (Nat.le_of_ble_eq_true rfl)⟩ hl.1 rfl rfl (Nat.le_of_ble_eq_true rfl) ⟨(Nat.le_of_ble_eq_true rfl), (Nat.le_of_ble_eq_true rfl)⟩ dX0_hastyDead_57) (fun u H locs w57 Wd => ?_)
        obtain ⟨s57_0, s57_1⟩ := u
        have Wd : wX D [(a_h0_0, .int)] s [(h0, .inr (8, [.ref h0_0, .int s57_0])), (h0_0, .inl (a_h0_0, n_h0_0, .inl s57_1))] _ A s.heap _ := k_sub Wd [0, 1] rfl (by decide) [0] rfl
        obtain ⟨g57_0, g57_1, g57_2, g57_3⟩ := w57
        have g57_0 : 0 ≤ s57_0.toInt := g57_0
        have g57_1 : s57_0.toInt ≤ 1000 := g57_1
        have g57_2 : s57_0.toInt ≤ (n_h0_0 : Int) := g57_2
        have g57_3 : s57_0.toInt ≤ j7_F_h0_1.toInt := g57_3
        exact J60 (s57_0, s57_1) _ _ _ ⟨by omega, by omega, by omega, by omega, by omega, Wd, lv_sub hl [0, 1, 2, 3, 4] rfl⟩
set_option maxHeartbeats 4000000 in
set_option maxRecDepth 100000 in
theorem sX0_copyBehind (l : Launch) (D : va_G) (h : Nat) (h0 : Nat) (x1 : Int32) (x2 : Int32) (x3 : Int32) (h0_0 : Nat) (h0_1 : Int32) (n_h0_0 : Nat) (a_h0_0 : ClassId) (f_h0_0 : Nat → Int32) (sz : Nat) (k_h0_1_lo : 0 ≤ h0_1.toInt) (k_n_h0_0 : n_h0_0 ≤ 1000) (k_p_h0_0 : 1 ≤ n_h0_0) (k_h0_1_hi : h0_1.toInt ≤ (n_h0_0 : Int))  : Met l yX0_copyBehind (Cond.code yX0_copyBehind cX0_copyBehind 9 none :: gG) { frames := 4, cells := 0, slots := 0, locals := 129 } (cPre D [(a_h0_0, .int)] [(h0, .inr (8, [.ref h0_0, .int h0_1])), (h0_0, .inl (a_h0_0, n_h0_0, .inl f_h0_0))] sz [.ref h, .ref h0, .int x1, .int x2, .int x3]) (va_Qv (fun (jX_C_h0_0 : Nat → Int32) => True) (fun u t => cB D (va_A [(h0, .inr (8, [.ref h0_0, .int h0_1])), (h0_0, .inl (a_h0_0, n_h0_0, .inl f_h0_0))] sz) ((fun (_ : (Nat → Int32)) => ([] : List (ClassId × FieldType))) u) ((fun (jX_C_h0_0 : Nat → Int32) => ([(h0, .inr (8, [.ref h0_0, .int h0_1])), (h0_0, .inl (a_h0_0, n_h0_0, .inl jX_C_h0_0))] : va_W)) u) t) (va_A [(h0, .inr (8, [.ref h0_0, .int h0_1])), (h0_0, .inl (a_h0_0, n_h0_0, .inl f_h0_0))] sz)) 0 0 (va_A [(h0, .inr (8, [.ref h0_0, .int h0_1])), (h0_0, .inl (a_h0_0, n_h0_0, .inl f_h0_0))] sz) := by
  refine Met.ofW (cc := cX0_copyBehind) (maxL := 9) (ret := none) (by decide) rfl ?_
  intro p e s m args below meth c s₁ B hml hv
  obtain ⟨rfl, aks, rfl, Wd⟩ := k_enter hv
  have C : CallFix p m c cX0_copyBehind 9 s _ gG RX0 := ⟨B.exec, B.bytes, hml, findClass_of_methodNamed B.named, fun w h => atoms_spec (ws := Cond.code yX0_copyBehind cX0_copyBehind 9 none :: gG) B.pre w (List.mem_cons_of_mem _ h)⟩
  have hr := B.returns
  have hlk := B.notSynchronized
  generalize va_A [(h0, .inr (8, [.ref h0_0, .int h0_1])), (h0_0, .inl (a_h0_0, n_h0_0, .inl f_h0_0))] s.heap.size = A at Wd ⊢
  refine k_locals (Nat.le_of_ble_eq_true rfl) [(0, .ref h), (1, .ref h0), (2, .int x1), (3, .int x2), (4, .int x3)] rfl (fun ls hl => ?_)
  refine lv_iload_n C.1 C.2.1 dX0_copyBehind_0 rfl (lv_at hl 2 rfl) ?_
  refine lv_istore (lv' := [(5, .int x1), (0, .ref h), (1, .ref h0), (2, .int x1), (3, .int x2), (4, .int x3)]) C.1 C.2.1 dX0_copyBehind_1 hl (by decide) rfl (fun ls hl => ?_)
  refine lv_iconst (v := 0) C.1 C.2.1 dX0_copyBehind_3 (by decide) ?_
  refine lv_istore (lv' := [(6, .int 0), (5, .int x1), (0, .ref h), (1, .ref h0), (2, .int x1), (3, .int x2), (4, .int x3)]) C.1 C.2.1 dX0_copyBehind_4 hl (by decide) rfl (fun ls hl => ?_)
  refine k_loopA (fun (u : (Nat → Int32) × (Int32) × (Int32)) H locs ls => match u with | (j6_C_h0_0, j6_L_5, j6_L_6) => 0 ≤ j6_L_6.toInt ∧ j6_L_6.toInt ≤ 40 ∧ wX D [(a_h0_0, .int)] s [(h0, .inr (8, [.ref h0_0, .int h0_1])), (h0_0, .inl (a_h0_0, n_h0_0, .inl j6_C_h0_0))] H A s.heap locs ∧ lv_has ls 9 [(6, .int j6_L_6), (5, .int j6_L_5), (0, .ref h), (1, .ref h0), (2, .int x1), (3, .int x2), (4, .int x3)]) (fun (u : (Nat → Int32) × (Int32) × (Int32)) ls => match u with | (j6_C_h0_0, j6_L_5, j6_L_6) => F0 m 6 ls []) (fun (u : (Nat → Int32) × (Int32) × (Int32)) => match u with | (j6_C_h0_0, j6_L_5, j6_L_6) => (41 - j6_L_6.toInt).toNat) (fun u H locs ls hi ih6 => ?_) (f_h0_0, x1, 0) _ _ _ ⟨by have zq0 : (0 : Int32).toInt = 0 := (by decide); omega, by have zq0 : (0 : Int32).toInt = 0 := (by decide); omega, Wd, lv_sub hl [0, 1, 2, 3, 4, 5, 6] rfl⟩
  obtain ⟨j6_C_h0_0, j6_L_5, j6_L_6⟩ := u
  obtain ⟨i6_0, i6_1, Wd, hl⟩ := hi
  refine lv_iload C.1 C.2.1 dX0_copyBehind_6 (lv_at hl 0 rfl) ?_
  refine lv_bipush (v := 40) C.1 C.2.1 dX0_copyBehind_8 (by decide) ?_
  refine k_cutA (fun (_ : Unit) H locs ls => wX D [(a_h0_0, .int)] s [(h0, .inr (8, [.ref h0_0, .int h0_1])), (h0_0, .inl (a_h0_0, n_h0_0, .inl j6_C_h0_0))] H A s.heap locs ∧ lv_has ls 9 [(6, .int j6_L_6), (5, .int j6_L_5), (0, .ref h), (1, .ref h0), (2, .int x1), (3, .int x2), (4, .int x3)]) (fun (_ : Unit) ls => F0 m 98 ls []) (fun _ H locs ls hi => ?_) (fun J98 => ?_)
  · obtain ⟨Wd, hl⟩ := hi
    exact k_vret C hr hlk Wd j6_C_h0_0 trivial [0, 1] rfl (by decide) [] rfl (by decide) (by decide) dX0_copyBehind_98
  refine lv_icmp_ge (tgt := 98) C.1 C.2.1 dX0_copyBehind_10 (by decide) (fun c10 => ?_) (fun c10 => ?_)
  · have i10 : 40 ≤ j6_L_6.toInt := kz_le c10
    exact J98 () _ _ _ ⟨Wd, lv_sub hl [0, 1, 2, 3, 4, 5, 6] rfl⟩
  · have i10 : j6_L_6.toInt < 40 := kz_nle c10
    refine lv_aload_n C.1 C.2.1 dX0_copyBehind_13 rfl (lv_at hl 3 rfl) ?_
    refine lv_iload C.1 C.2.1 dX0_copyBehind_14 (lv_at hl 1 rfl) ?_
    refine k_pi (k_runV (rest := []) C aks Wd cs_X0_35 (sX8_cell l D h0 j6_L_5 h0_0 h0_1 n_h0_0 a_h0_0 j6_C_h0_0 _ (by omega) (by omega) (by omega) (by omega)) [0, 1] rfl (by decide) [0] rfl 0 8 rfl rfl rfl rfl rfl ⟨(Nat.le_of_ble_eq_true rfl), (Nat.le_of_ble_eq_true rfl)⟩ hl.1 rfl rfl (Nat.le_of_ble_eq_true rfl) ⟨(Nat.le_of_ble_eq_true rfl), (Nat.le_of_ble_eq_true rfl)⟩ dX0_copyBehind_16) (fun r16 w16 => ?_)
    refine k_pi (k_runS (rest := []) C aks Wd cs_X0_112 (sX8_isStatement l D r16 _ ) [] rfl (by decide) [] rfl rfl rfl ⟨(Nat.le_of_ble_eq_true rfl), (Nat.le_of_ble_eq_true rfl)⟩ hl.1 rfl rfl (Nat.le_of_ble_eq_true rfl) ⟨(Nat.le_of_ble_eq_true rfl), (Nat.le_of_ble_eq_true rfl)⟩ dX0_copyBehind_19) (fun r19 w19 => ?_)
    obtain ⟨g19_0, g19_1⟩ := w19
    have g19_0 : 0 ≤ r19.toInt := g19_0
    have g19_1 : r19.toInt ≤ 1 := g19_1
    refine lv_if_eq (tgt := 98) C.1 C.2.1 dX0_copyBehind_22 (by decide) (fun c22 => ?_) (fun c22 => ?_)
    · have i22 : r19.toInt = 0 := kz_eq c22
      exact J98 () _ _ _ ⟨Wd, lv_sub hl [0, 1, 2, 3, 4, 5, 6] rfl⟩
    · have i22 : ¬ r19.toInt = 0 := kz_ne c22
      refine lv_aload_n C.1 C.2.1 dX0_copyBehind_25 rfl (lv_at hl 3 rfl) ?_
      refine lv_iload C.1 C.2.1 dX0_copyBehind_26 (lv_at hl 1 rfl) ?_
      refine k_pi (k_runV (rest := []) C aks Wd cs_X0_115 (sX8_statementEnd l D h0 j6_L_5 h0_0 h0_1 n_h0_0 a_h0_0 j6_C_h0_0 _ (by omega) (by omega) (by omega) (by omega)) [0, 1] rfl (by decide) [0] rfl 0 8 rfl rfl rfl rfl rfl ⟨(Nat.le_of_ble_eq_true rfl), (Nat.le_of_ble_eq_true rfl)⟩ hl.1 rfl rfl (Nat.le_of_ble_eq_true rfl) ⟨(Nat.le_of_ble_eq_true rfl), (Nat.le_of_ble_eq_true rfl)⟩ dX0_copyBehind_28) (fun r28 w28 => ?_)
      refine lv_istore (lv' := [(7, .int r28), (6, .int j6_L_6), (5, .int j6_L_5), (0, .ref h), (1, .ref h0), (2, .int x1), (3, .int x2), (4, .int x3)]) C.1 C.2.1 dX0_copyBehind_31 hl (by decide) rfl (fun ls hl => ?_)
      refine lv_aload_n C.1 C.2.1 dX0_copyBehind_33 rfl (lv_at hl 4 rfl) ?_
      refine lv_bipush (v := 100) C.1 C.2.1 dX0_copyBehind_34 (by decide) ?_
      refine lv_iload_n C.1 C.2.1 dX0_copyBehind_36 rfl (lv_at hl 6 rfl) ?_
      obtain ⟨v37, ev37⟩ : ∃ z : Int32, 100 + x2 = z := ⟨_, rfl⟩
      refine k_iadd (v := v37) C ev37 dX0_copyBehind_37 ?_
      refine lv_iload C.1 C.2.1 dX0_copyBehind_38 (lv_at hl 2 rfl) ?_
      refine lv_iload C.1 C.2.1 dX0_copyBehind_40 (lv_at hl 0 rfl) ?_
      refine k_pi (k_runV (rest := []) C aks Wd cs_X0_102 (sX8_has l D h0 v37 j6_L_5 r28 h0_0 h0_1 n_h0_0 a_h0_0 j6_C_h0_0 _ (by omega) (by omega) (by omega) (by omega)) [0, 1] rfl (by decide) [0] rfl 0 8 rfl rfl rfl rfl rfl ⟨(Nat.le_of_ble_eq_true rfl), (Nat.le_of_ble_eq_true rfl)⟩ hl.1 rfl rfl (Nat.le_of_ble_eq_true rfl) ⟨(Nat.le_of_ble_eq_true rfl), (Nat.le_of_ble_eq_true rfl)⟩ dX0_copyBehind_42) (fun r42 w42 => ?_)
      obtain ⟨g42_0, g42_1, g42_2⟩ := w42
      have g42_0 : 0 ≤ r42.toInt := g42_0
      have g42_1 : r42.toInt ≤ 1 := g42_1
      have g42_2 : r42.toInt ≤ h0_1.toInt := g42_2
      refine lv_istore (lv' := [(8, .int r42), (7, .int r28), (6, .int j6_L_6), (5, .int j6_L_5), (0, .ref h), (1, .ref h0), (2, .int x1), (3, .int x2), (4, .int x3)]) C.1 C.2.1 dX0_copyBehind_45 hl (by decide) rfl (fun ls hl => ?_)
      refine lv_iload C.1 C.2.1 dX0_copyBehind_47 (lv_at hl 0 rfl) ?_
      refine k_cutA (fun (_ : Unit) H locs ls => wX D [(a_h0_0, .int)] s [(h0, .inr (8, [.ref h0_0, .int h0_1])), (h0_0, .inl (a_h0_0, n_h0_0, .inl j6_C_h0_0))] H A s.heap locs ∧ lv_has ls 9 [(8, .int r42), (7, .int r28), (6, .int j6_L_6), (5, .int j6_L_5), (0, .ref h), (1, .ref h0), (2, .int x1), (3, .int x2), (4, .int x3)]) (fun (_ : Unit) ls => F0 m 65 ls []) (fun _ H locs ls hi => ?_) (fun J65 => ?_)
      · obtain ⟨Wd, hl⟩ := hi
        refine lv_aload_n C.1 C.2.1 dX0_copyBehind_65 rfl (lv_at hl 5 rfl) ?_
        refine lv_bipush (v := 20) C.1 C.2.1 dX0_copyBehind_66 (by decide) ?_
        refine lv_iload_n C.1 C.2.1 dX0_copyBehind_68 rfl (lv_at hl 7 rfl) ?_
        obtain ⟨v69, ev69⟩ : ∃ z : Int32, 20 + x2 = z := ⟨_, rfl⟩
        refine k_iadd (v := v69) C ev69 dX0_copyBehind_69 ?_
        refine lv_bipush (v := 20) C.1 C.2.1 dX0_copyBehind_70 (by decide) ?_
        refine lv_iload C.1 C.2.1 dX0_copyBehind_72 (lv_at hl 8 rfl) ?_
        obtain ⟨v74, ev74⟩ : ∃ z : Int32, 20 + x3 = z := ⟨_, rfl⟩
        refine k_iadd (v := v74) C ev74 dX0_copyBehind_74 ?_
        refine lv_iload C.1 C.2.1 dX0_copyBehind_75 (lv_at hl 3 rfl) ?_
        refine lv_iload C.1 C.2.1 dX0_copyBehind_77 (lv_at hl 1 rfl) ?_
        refine k_cv Wd [0, 1] [] rfl (wr := []) rfl (by decide) (by decide) (cells' := 0) (slots' := 0) (by decide) (by decide) (k_runV (rest := []) C aks Wd cs_X0_118 (sX8_replace l D h0 v69 v74 j6_L_5 r28 h0_0 h0_1 n_h0_0 a_h0_0 j6_C_h0_0 _ (by omega) (by omega) (by omega) (by omega)) [0, 1] rfl (by decide) [0] rfl 0 8 rfl rfl rfl rfl rfl ⟨(Nat.le_of_ble_eq_true rfl), (Nat.le_of_ble_eq_true rfl)⟩ hl.1 rfl rfl (Nat.le_of_ble_eq_true rfl) ⟨(Nat.le_of_ble_eq_true rfl), (Nat.le_of_ble_eq_true rfl)⟩ dX0_copyBehind_79) (fun s79_0 H locs w79 Wd => ?_)
        have Wd : wX D [(a_h0_0, .int)] s [(h0, .inr (8, [.ref h0_0, .int h0_1])), (h0_0, .inl (a_h0_0, n_h0_0, .inl s79_0))] _ A s.heap _ := k_sub Wd [0, 1] rfl (by decide) [0] rfl
        refine lv_iload C.1 C.2.1 dX0_copyBehind_82 (lv_at hl 0 rfl) ?_
        refine lv_if_eq (tgt := 88) C.1 C.2.1 dX0_copyBehind_84 (by decide) (fun c84 => ?_) (fun c84 => ?_)
        · have i84 : r42.toInt = 0 := kz_eq c84
          refine lv_iload C.1 C.2.1 dX0_copyBehind_88 (lv_at hl 1 rfl) ?_
          refine lv_istore (lv' := [(5, .int r28), (8, .int r42), (7, .int r28), (6, .int j6_L_6), (0, .ref h), (1, .ref h0), (2, .int x1), (3, .int x2), (4, .int x3)]) C.1 C.2.1 dX0_copyBehind_90 hl (by decide) rfl (fun ls hl => ?_)
          obtain ⟨v92, ev92⟩ : ∃ z : Int32, j6_L_6 + 1 = z := ⟨_, rfl⟩
          have iv92 : v92.toInt = j6_L_6.toInt + 1 := kz_addc ev92 (by decide) (by have zr0 := kz_rng j6_L_6; omega) (by have zr0 := kz_rng j6_L_6; omega)
          refine lv_iinc (v := v92) (lv' := [(6, .int v92), (5, .int r28), (8, .int r42), (7, .int r28), (0, .ref h), (1, .ref h0), (2, .int x1), (3, .int x2), (4, .int x3)]) C.1 C.2.1 dX0_copyBehind_92 hl (k := 3) rfl ev92 (by decide) rfl (fun ls hl => ?_)
          refine lv_goto (tgt := 6) C.1 C.2.1 dX0_copyBehind_95 (by decide) ?_
          exact ih6 (s79_0, r28, v92) _ _ _ ⟨by omega, by omega, Wd, lv_sub hl [0, 1, 4, 5, 6, 7, 8] rfl⟩ (by show (41 - v92.toInt).toNat < (41 - j6_L_6.toInt).toNat; omega)
        · have i84 : ¬ r42.toInt = 0 := kz_ne c84
          exact k_vret C hr hlk Wd s79_0 trivial [0, 1] rfl (by decide) [] rfl (by decide) (by decide) dX0_copyBehind_87
      refine lv_if_eq (tgt := 65) C.1 C.2.1 dX0_copyBehind_49 (by decide) (fun c49 => ?_) (fun c49 => ?_)
      · have i49 : r42.toInt = 0 := kz_eq c49
        exact J65 () _ _ _ ⟨Wd, lv_sub hl [0, 1, 2, 3, 4, 5, 6, 7, 8] rfl⟩
      · have i49 : ¬ r42.toInt = 0 := kz_ne c49
        refine lv_aload_n C.1 C.2.1 dX0_copyBehind_52 rfl (lv_at hl 5 rfl) ?_
        refine lv_iload C.1 C.2.1 dX0_copyBehind_53 (lv_at hl 3 rfl) ?_
        refine k_pi (k_runV (rest := []) C aks Wd cs_X0_35 (sX8_cell l D h0 j6_L_5 h0_0 h0_1 n_h0_0 a_h0_0 j6_C_h0_0 _ (by omega) (by omega) (by omega) (by omega)) [0, 1] rfl (by decide) [0] rfl 0 8 rfl rfl rfl rfl rfl ⟨(Nat.le_of_ble_eq_true rfl), (Nat.le_of_ble_eq_true rfl)⟩ hl.1 rfl rfl (Nat.le_of_ble_eq_true rfl) ⟨(Nat.le_of_ble_eq_true rfl), (Nat.le_of_ble_eq_true rfl)⟩ dX0_copyBehind_55) (fun r55 w55 => ?_)
        refine k_pi (k_runS (rest := []) C aks Wd cs_X0_43 (sX8_isBranch l D r55 _ ) [] rfl (by decide) [] rfl rfl rfl ⟨(Nat.le_of_ble_eq_true rfl), (Nat.le_of_ble_eq_true rfl)⟩ hl.1 rfl rfl (Nat.le_of_ble_eq_true rfl) ⟨(Nat.le_of_ble_eq_true rfl), (Nat.le_of_ble_eq_true rfl)⟩ dX0_copyBehind_58) (fun r58 w58 => ?_)
        obtain ⟨g58_0, g58_1⟩ := w58
        have g58_0 : 0 ≤ r58.toInt := g58_0
        have g58_1 : r58.toInt ≤ 1 := g58_1
        refine lv_if_eq (tgt := 65) C.1 C.2.1 dX0_copyBehind_61 (by decide) (fun c61 => ?_) (fun c61 => ?_)
        · have i61 : r58.toInt = 0 := kz_eq c61
          exact J65 () _ _ _ ⟨Wd, lv_sub hl [0, 1, 2, 3, 4, 5, 6, 7, 8] rfl⟩
        · have i61 : ¬ r58.toInt = 0 := kz_ne c61
          exact k_vret C hr hlk Wd j6_C_h0_0 trivial [0, 1] rfl (by decide) [] rfl (by decide) (by decide) dX0_copyBehind_64
