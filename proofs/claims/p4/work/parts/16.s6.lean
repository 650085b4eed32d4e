set_option maxHeartbeats 4000000 in
set_option maxRecDepth 100000 in
theorem sX0_hastyCopy (l : Launch) (D : va_G) (h : Nat) (h0 : Nat) (h0_0 : Nat) (h0_1 : Int32) (n_h0_0 : Nat) (a_h0_0 : ClassId) (f_h0_0 : Nat → Int32) (h_0 : Nat) (h_1 : Nat) (sz : Nat) (k_h0_1_lo : 0 ≤ h0_1.toInt) (k_n_h0_0 : n_h0_0 ≤ 1000) (k_p_h0_0 : 1 ≤ n_h0_0) (k_h0_1_hi : h0_1.toInt ≤ (n_h0_0 : Int))  : Met l yX0_hastyCopy (Cond.code yX0_hastyCopy cX0_hastyCopy 5 none :: gG) { frames := 5, cells := 0, slots := 0, locals := 157 } (cPre D [(a_h0_0, .int)] [(h0, .inr (8, [.ref h0_0, .int h0_1])), (h0_0, .inl (a_h0_0, n_h0_0, .inl f_h0_0)), (h, .inr (0, [.ref h_0, .ref h_1]))] sz [.ref h, .ref h0]) (va_Qv (fun (jX_C_h0_0 : Nat → Int32) => True) (fun u t => cB D (va_A [(h0, .inr (8, [.ref h0_0, .int h0_1])), (h0_0, .inl (a_h0_0, n_h0_0, .inl f_h0_0)), (h, .inr (0, [.ref h_0, .ref h_1]))] sz) ((fun (_ : (Nat → Int32)) => ([] : List (ClassId × FieldType))) u) ((fun (jX_C_h0_0 : Nat → Int32) => ([(h0, .inr (8, [.ref h0_0, .int h0_1])), (h0_0, .inl (a_h0_0, n_h0_0, .inl jX_C_h0_0)), (h, .inr (0, [.ref h_0, .ref h_1]))] : va_W)) u) t) (va_A [(h0, .inr (8, [.ref h0_0, .int h0_1])), (h0_0, .inl (a_h0_0, n_h0_0, .inl f_h0_0)), (h, .inr (0, [.ref h_0, .ref h_1]))] sz)) 0 0 (va_A [(h0, .inr (8, [.ref h0_0, .int h0_1])), (h0_0, .inl (a_h0_0, n_h0_0, .inl f_h0_0)), (h, .inr (0, [.ref h_0, .ref h_1]))] sz) := by
  refine Met.ofW (cc := cX0_hastyCopy) (maxL := 5) (ret := none) (by decide) rfl ?_
  intro p e s m args below meth c s₁ B hml hv
  obtain ⟨rfl, aks, rfl, Wd⟩ := k_enter hv
  have C : CallFix p m c cX0_hastyCopy 5 s _ gG RX0 := ⟨B.exec, B.bytes, hml, findClass_of_methodNamed B.named, fun w h => atoms_spec (ws := Cond.code yX0_hastyCopy cX0_hastyCopy 5 none :: gG) B.pre w (List.mem_cons_of_mem _ h)⟩
  have hr := B.returns
  have hlk := B.notSynchronized
  generalize va_A [(h0, .inr (8, [.ref h0_0, .int h0_1])), (h0_0, .inl (a_h0_0, n_h0_0, .inl f_h0_0)), (h, .inr (0, [.ref h_0, .ref h_1]))] s.heap.size = A at Wd ⊢
  refine k_locals (Nat.le_of_ble_eq_true rfl) [(0, .ref h), (1, .ref h0)] rfl (fun ls hl => ?_)
  refine lv_iconst (v := 0) C.1 C.2.1 dX0_hastyCopy_0 (by decide) ?_
  refine lv_istore_n (lv' := [(2, .int 0), (0, .ref h), (1, .ref h0)]) C.1 C.2.1 dX0_hastyCopy_1 rfl hl (by decide) rfl (fun ls hl => ?_)
  refine k_loopA (fun (u : (Nat → Int32) × (Int32)) H locs ls => match u with | (j2_C_h0_0, j2_L_2) => 0 ≤ j2_L_2.toInt ∧ j2_L_2.toInt ≤ 1000 ∧ j2_L_2.toInt ≤ (n_h0_0 : Int) ∧ j2_L_2.toInt ≤ h0_1.toInt ∧ wX D [(a_h0_0, .int)] s [(h0, .inr (8, [.ref h0_0, .int h0_1])), (h0_0, .inl (a_h0_0, n_h0_0, .inl j2_C_h0_0)), (h, .inr (0, [.ref h_0, .ref h_1]))] H A s.heap locs ∧ lv_has ls 5 [(2, .int j2_L_2), (0, .ref h), (1, .ref h0)]) (fun (u : (Nat → Int32) × (Int32)) ls => match u with | (j2_C_h0_0, j2_L_2) => F0 m 2 ls []) (fun (u : (Nat → Int32) × (Int32)) => match u with | (j2_C_h0_0, j2_L_2) => (1001 - j2_L_2.toInt).toNat) (fun u H locs ls hi ih2 => ?_) (f_h0_0, 0) _ _ _ ⟨by have zq0 : (0 : Int32).toInt = 0 := (by decide); omega, by have zq0 : (0 : Int32).toInt = 0 := (by decide); omega, by have zq0 : (0 : Int32).toInt = 0 := (by decide); omega, by have zq0 : (0 : Int32).toInt = 0 := (by decide); omega, Wd, lv_sub hl [0, 1, 2] rfl⟩
  obtain ⟨j2_C_h0_0, j2_L_2⟩ := u
  obtain ⟨i2_0, i2_1, i2_2, i2_3, Wd, hl⟩ := hi
  refine lv_iload_n C.1 C.2.1 dX0_hastyCopy_2 rfl (lv_at hl 0 rfl) ?_
  refine lv_aload_n C.1 C.2.1 dX0_hastyCopy_3 rfl (lv_at hl 2 rfl) ?_
  refine k_get C Wd KX8 0 1 rfl (by decide) fl_X0_31 rfl dX0_hastyCopy_4 ?_
  refine lv_icmp_ge (tgt := 78) C.1 C.2.1 dX0_hastyCopy_7 (by decide) (fun c7 => ?_) (fun c7 => ?_)
  · have i7 : h0_1.toInt ≤ j2_L_2.toInt := kz_le c7
    exact k_vret C hr hlk Wd j2_C_h0_0 trivial [0, 1, 2] rfl (by decide) [] rfl (by decide) (by decide) dX0_hastyCopy_78
  · have i7 : j2_L_2.toInt < h0_1.toInt := kz_nle c7
    refine lv_aload_n C.1 C.2.1 dX0_hastyCopy_10 rfl (lv_at hl 2 rfl) ?_
    refine lv_iload_n C.1 C.2.1 dX0_hastyCopy_11 rfl (lv_at hl 0 rfl) ?_
    refine k_pi (k_runV (rest := []) C aks Wd cs_X0_35 (sX8_cell l D h0 j2_L_2 h0_0 h0_1 n_h0_0 a_h0_0 j2_C_h0_0 _ (by omega) (by omega) (by omega) (by omega)) [0, 1] rfl (by decide) [0] rfl 0 8 rfl rfl rfl rfl rfl ⟨(Nat.le_of_ble_eq_true rfl), (Nat.le_of_ble_eq_true rfl)⟩ hl.1 rfl rfl (Nat.le_of_ble_eq_true rfl) ⟨(Nat.le_of_ble_eq_true rfl), (Nat.le_of_ble_eq_true rfl)⟩ dX0_hastyCopy_12) (fun r12 w12 => ?_)
    refine lv_bipush (v := 100) C.1 C.2.1 dX0_hastyCopy_15 (by decide) ?_
    obtain ⟨v17, ev17⟩ : ∃ z : Int32, r12 - 100 = z := ⟨_, rfl⟩
    refine k_isub (v := v17) C ev17 dX0_hastyCopy_17 ?_
    refine lv_istore_n (lv' := [(3, .int v17), (2, .int j2_L_2), (0, .ref h), (1, .ref h0)]) C.1 C.2.1 dX0_hastyCopy_18 rfl hl (by decide) rfl (fun ls hl => ?_)
    refine lv_aload_n C.1 C.2.1 dX0_hastyCopy_19 rfl (lv_at hl 3 rfl) ?_
    refine lv_iload_n C.1 C.2.1 dX0_hastyCopy_20 rfl (lv_at hl 1 rfl) ?_
    refine lv_iconst (v := 1) C.1 C.2.1 dX0_hastyCopy_21 (by decide) ?_
    obtain ⟨v22, ev22⟩ : ∃ z : Int32, j2_L_2 + 1 = z := ⟨_, rfl⟩
    have iv22 : v22.toInt = j2_L_2.toInt + 1 := kz_addc ev22 (by decide) (by have zr0 := kz_rng j2_L_2; omega) (by have zr0 := kz_rng j2_L_2; omega)
    refine k_iadd (v := v22) C ev22 dX0_hastyCopy_22 ?_
    refine k_pi (k_runV (rest := []) C aks Wd cs_X0_35 (sX8_cell l D h0 v22 h0_0 h0_1 n_h0_0 a_h0_0 j2_C_h0_0 _ (by omega) (by omega) (by omega) (by omega)) [0, 1] rfl (by decide) [0] rfl 0 8 rfl rfl rfl rfl rfl ⟨(Nat.le_of_ble_eq_true rfl), (Nat.le_of_ble_eq_true rfl)⟩ hl.1 rfl rfl (Nat.le_of_ble_eq_true rfl) ⟨(Nat.le_of_ble_eq_true rfl), (Nat.le_of_ble_eq_true rfl)⟩ dX0_hastyCopy_23) (fun r23 w23 => ?_)
    refine lv_bipush (v := 20) C.1 C.2.1 dX0_hastyCopy_26 (by decide) ?_
    obtain ⟨v28, ev28⟩ : ∃ z : Int32, r23 - 20 = z := ⟨_, rfl⟩
    refine k_isub (v := v28) C ev28 dX0_hastyCopy_28 ?_
    refine lv_istore (lv' := [(4, .int v28), (3, .int v17), (2, .int j2_L_2), (0, .ref h), (1, .ref h0)]) C.1 C.2.1 dX0_hastyCopy_29 hl (by decide) rfl (fun ls hl => ?_)
    refine lv_aload_n C.1 C.2.1 dX0_hastyCopy_31 rfl (lv_at hl 4 rfl) ?_
    refine lv_iload_n C.1 C.2.1 dX0_hastyCopy_32 rfl (lv_at hl 2 rfl) ?_
    refine k_pi (k_runV (rest := []) C aks Wd cs_X0_35 (sX8_cell l D h0 j2_L_2 h0_0 h0_1 n_h0_0 a_h0_0 j2_C_h0_0 _ (by omega) (by omega) (by omega) (by omega)) [0, 1] rfl (by decide) [0] rfl 0 8 rfl rfl rfl rfl rfl ⟨(Nat.le_of_ble_eq_true rfl), (Nat.le_of_ble_eq_true rfl)⟩ hl.1 rfl rfl (Nat.le_of_ble_eq_true rfl) ⟨(Nat.le_of_ble_eq_true rfl), (Nat.le_of_ble_eq_true rfl)⟩ dX0_hastyCopy_33) (fun r33 w33 => ?_)
    refine k_cutA (fun (j72_C_h0_0 : Nat → Int32) H locs ls => wX D [(a_h0_0, .int)] s [(h0, .inr (8, [.ref h0_0, .int h0_1])), (h0_0, .inl (a_h0_0, n_h0_0, .inl j72_C_h0_0)), (h, .inr (0, [.ref h_0, .ref h_1]))] H A s.heap locs ∧ lv_has ls 5 [(4, .int v28), (3, .int v17), (2, .int j2_L_2), (0, .ref h), (1, .ref h0)]) (fun (j72_C_h0_0 : Nat → Int32) ls => F0 m 72 ls []) (fun j72_C_h0_0 H locs ls hi => ?_) (fun J72 => ?_)
    · obtain ⟨Wd, hl⟩ := hi
      obtain ⟨v72, ev72⟩ : ∃ z : Int32, j2_L_2 + 1 = z := ⟨_, rfl⟩
      have iv72 : v72.toInt = j2_L_2.toInt + 1 := kz_addc ev72 (by decide) (by have zr0 := kz_rng j2_L_2; omega) (by have zr0 := kz_rng j2_L_2; omega)
      refine lv_iinc (v := v72) (lv' := [(2, .int v72), (4, .int v28), (3, .int v17), (0, .ref h), (1, .ref h0)]) C.1 C.2.1 dX0_hastyCopy_72 hl (k := 2) rfl ev72 (by decide) rfl (fun ls hl => ?_)
      refine lv_goto (tgt := 2) C.1 C.2.1 dX0_hastyCopy_75 (by decide) ?_
      exact ih2 (j72_C_h0_0, v72) _ _ _ ⟨by omega, by omega, by omega, by omega, Wd, lv_sub hl [0, 3, 4] rfl⟩ (by show (1001 - v72.toInt).toNat < (1001 - j2_L_2.toInt).toNat; omega)
    refine k_pi (k_runS (rest := []) C aks Wd cs_X0_99 (sX8_isSet l D r33 _ ) [] rfl (by decide) [] rfl rfl rfl ⟨(Nat.le_of_ble_eq_true rfl), (Nat.le_of_ble_eq_true rfl)⟩ hl.1 rfl rfl (Nat.le_of_ble_eq_true rfl) ⟨(Nat.le_of_ble_eq_true rfl), (Nat.le_of_ble_eq_true rfl)⟩ dX0_hastyCopy_36) (fun r36 w36 => ?_)
    rcases w36 with rfl | ⟨g36_1_0, g36_1_1, rfl⟩
    · refine lv_if_eq (tgt := 72) C.1 C.2.1 dX0_hastyCopy_39 (by decide) (fun _ => ?_) (fun c39 => absurd c39 (by decide))
      exact J72 j2_C_h0_0 _ _ _ ⟨Wd, lv_sub hl [0, 1, 2, 3, 4] rfl⟩
    · have g36_1_0 : 100 ≤ r33.toInt := g36_1_0
      have g36_1_1 : r33.toInt ≤ 105 := g36_1_1
      refine lv_if_eq (tgt := 72) C.1 C.2.1 dX0_hastyCopy_39 (by decide) (fun c39 => absurd c39 (by decide)) (fun _ => ?_)
      refine lv_aload_n C.1 C.2.1 dX0_hastyCopy_42 rfl (lv_at hl 4 rfl) ?_
      refine lv_iload_n C.1 C.2.1 dX0_hastyCopy_43 rfl (lv_at hl 2 rfl) ?_
      refine lv_iconst (v := 1) C.1 C.2.1 dX0_hastyCopy_44 (by decide) ?_
      obtain ⟨v45, ev45⟩ : ∃ z : Int32, j2_L_2 + 1 = z := ⟨_, rfl⟩
      have iv45 : v45.toInt = j2_L_2.toInt + 1 := kz_addc ev45 (by decide) (by have zr0 := kz_rng j2_L_2; omega) (by have zr0 := kz_rng j2_L_2; omega)
      refine k_iadd (v := v45) C ev45 dX0_hastyCopy_45 ?_
      refine k_pi (k_runV (rest := []) C aks Wd cs_X0_35 (sX8_cell l D h0 v45 h0_0 h0_1 n_h0_0 a_h0_0 j2_C_h0_0 _ (by omega) (by omega) (by omega) (by omega)) [0, 1] rfl (by decide) [0] rfl 0 8 rfl rfl rfl rfl rfl ⟨(Nat.le_of_ble_eq_true rfl), (Nat.le_of_ble_eq_true rfl)⟩ hl.1 rfl rfl (Nat.le_of_ble_eq_true rfl) ⟨(Nat.le_of_ble_eq_true rfl), (Nat.le_of_ble_eq_true rfl)⟩ dX0_hastyCopy_46) (fun r46 w46 => ?_)
      refine k_pi (k_runS (rest := []) C aks Wd cs_X0_105 (sX8_isRead l D r46 _ ) [] rfl (by decide) [] rfl rfl rfl ⟨(Nat.le_of_ble_eq_true rfl), (Nat.le_of_ble_eq_true rfl)⟩ hl.1 rfl rfl (Nat.le_of_ble_eq_true rfl) ⟨(Nat.le_of_ble_eq_true rfl), (Nat.le_of_ble_eq_true rfl)⟩ dX0_hastyCopy_49) (fun r49 w49 => ?_)
      obtain ⟨g49_0, g49_1⟩ := w49
      have g49_0 : 0 ≤ r49.toInt := g49_0
      have g49_1 : r49.toInt ≤ 1 := g49_1
      refine lv_if_eq (tgt := 72) C.1 C.2.1 dX0_hastyCopy_52 (by decide) (fun c52 => ?_) (fun c52 => ?_)
      · have i52 : r49.toInt = 0 := kz_eq c52
        exact J72 j2_C_h0_0 _ _ _ ⟨Wd, lv_sub hl [0, 1, 2, 3, 4] rfl⟩
      · have i52 : ¬ r49.toInt = 0 := kz_ne c52
        refine lv_iload_n C.1 C.2.1 dX0_hastyCopy_55 rfl (lv_at hl 1 rfl) ?_
        refine lv_iload C.1 C.2.1 dX0_hastyCopy_56 (lv_at hl 0 rfl) ?_
        refine lv_icmp_eq (tgt := 72) C.1 C.2.1 dX0_hastyCopy_58 (by decide) (fun c58 => ?_) (fun c58 => ?_)
        · have i58 : v17.toInt = v28.toInt := kz_eq c58
          exact J72 j2_C_h0_0 _ _ _ ⟨Wd, lv_sub hl [0, 1, 2, 3, 4] rfl⟩
        · have i58 : ¬ v17.toInt = v28.toInt := kz_ne c58
          refine lv_aload_n C.1 C.2.1 dX0_hastyCopy_61 rfl (lv_at hl 3 rfl) ?_
          refine lv_aload_n C.1 C.2.1 dX0_hastyCopy_62 rfl (lv_at hl 4 rfl) ?_
          refine lv_iload_n C.1 C.2.1 dX0_hastyCopy_63 rfl (lv_at hl 2 rfl) ?_
          refine lv_iconst (v := 2) C.1 C.2.1 dX0_hastyCopy_64 (by decide) ?_
          obtain ⟨v65, ev65⟩ : ∃ z : Int32, j2_L_2 + 2 = z := ⟨_, rfl⟩
          have iv65 : v65.toInt = j2_L_2.toInt + 2 := kz_addc ev65 (by decide) (by have zr0 := kz_rng j2_L_2; omega) (by have zr0 := kz_rng j2_L_2; omega)
          refine k_iadd (v := v65) C ev65 dX0_hastyCopy_65 ?_
          refine lv_iload_n C.1 C.2.1 dX0_hastyCopy_66 rfl (lv_at hl 1 rfl) ?_
          refine lv_iload C.1 C.2.1 dX0_hastyCopy_67 (lv_at hl 0 rfl) ?_
          refine k_cv Wd [0, 1] [2] rfl (wr := [(h, .inr (0, [.ref h_0, .ref h_1]))]) rfl (by decide) (by decide) (cells' := 0) (slots' := 0) (by decide) (by decide) (k_runV (rest := []) C aks Wd cs_X0_108 (sX0_copyBehind l D h h0 v65 v17 v28 h0_0 h0_1 n_h0_0 a_h0_0 j2_C_h0_0 _ (by omega) (by omega) (by omega) (by omega)) [0, 1] rfl (by decide) [0] rfl 2 0 rfl rfl rfl rfl rfl ⟨(Nat.le_of_ble_eq_true rfl), (Nat.le_of_ble_eq_true rfl)⟩ hl.1 rfl rfl (Nat.le_of_ble_eq_true rfl) ⟨(Nat.le_of_ble_eq_true rfl), (Nat.le_of_ble_eq_true rfl)⟩ dX0_hastyCopy_69) (fun s69_0 H locs w69 Wd => ?_)
          have Wd : wX D [(a_h0_0, .int)] s [(h0, .inr (8, [.ref h0_0, .int h0_1])), (h0_0, .inl (a_h0_0, n_h0_0, .inl s69_0)), (h, .inr (0, [.ref h_0, .ref h_1]))] _ A s.heap _ := k_sub Wd [1, 2, 0] rfl (by decide) [0] rfl
          exact J72 s69_0 _ _ _ ⟨Wd, lv_sub hl [0, 1, 2, 3, 4] rfl⟩
set_option maxHeartbeats 4000000 in
set_option maxRecDepth 100000 in
theorem sX0_unroll (l : Launch) (D : va_G) (h : Nat) (h0 : Nat) (h_0 : Nat) (h_1 : Nat) (h_0_0 : Nat) (h_0_1 : Int32) (n_h_0_0 : Nat) (a_h_0_0 : ClassId) (f_h_0_0 : Nat → Int32) (h0_0 : Nat) (h0_1 : Int32) (n_h0_0 : Nat) (a_h0_0 : ClassId) (f_h0_0 : Nat → Int32) (sz : Nat) (k_h_0_1_lo : 0 ≤ h_0_1.toInt) (k_n_h_0_0 : n_h_0_0 ≤ 1000) (k_p_h_0_0 : 1 ≤ n_h_0_0) (k_h_0_1_hi : h_0_1.toInt ≤ (n_h_0_0 : Int)) (k_h0_1_lo : 0 ≤ h0_1.toInt) (k_n_h0_0 : n_h0_0 ≤ 1000) (k_p_h0_0 : 1 ≤ n_h0_0) (k_h0_1_hi : h0_1.toInt ≤ (n_h0_0 : Int))  : Met l yX0_unroll (Cond.code yX0_unroll cX0_unroll 4 none :: gG) { frames := 3, cells := 0, slots := 0, locals := 141 } (cPre D [(a_h_0_0, .int), (a_h0_0, .int)] [(h, .inr (0, [.ref h_0, .ref h_1])), (h_0, .inr (8, [.ref h_0_0, .int h_0_1])), (h_0_0, .inl (a_h_0_0, n_h_0_0, .inl f_h_0_0)), (h0, .inr (8, [.ref h0_0, .int h0_1])), (h0_0, .inl (a_h0_0, n_h0_0, .inl f_h0_0))] sz [.ref h, .ref h0]) (va_Qv (fun (u : (Int32) × (Nat → Int32) × (Int32) × (Nat → Int32)) => match u with | (jX_F_h_0_1, jX_C_h_0_0, jX_F_h0_1, jX_C_h0_0) => 0 ≤ jX_F_h0_1.toInt ∧ 0 ≤ jX_F_h_0_1.toInt ∧ jX_F_h0_1.toInt ≤ 1000 ∧ jX_F_h_0_1.toInt ≤ 1000 ∧ jX_F_h0_1.toInt ≤ (n_h0_0 : Int) ∧ jX_F_h_0_1.toInt ≤ (n_h_0_0 : Int) ∧ jX_F_h_0_1.toInt ≤ h0_1.toInt + 999) (fun u t => cB D (va_A [(h, .inr (0, [.ref h_0, .ref h_1])), (h_0, .inr (8, [.ref h_0_0, .int h_0_1])), (h_0_0, .inl (a_h_0_0, n_h_0_0, .inl f_h_0_0)), (h0, .inr (8, [.ref h0_0, .int h0_1])), (h0_0, .inl (a_h0_0, n_h0_0, .inl f_h0_0))] sz) ((fun (_ : (Int32) × (Nat → Int32) × (Int32) × (Nat → Int32)) => ([] : List (ClassId × FieldType))) u) ((fun (u : (Int32) × (Nat → Int32) × (Int32) × (Nat → Int32)) => match u with | (jX_F_h_0_1, jX_C_h_0_0, jX_F_h0_1, jX_C_h0_0) => ([(h, .inr (0, [.ref h_0, .ref h_1])), (h_0, .inr (8, [.ref h_0_0, .int jX_F_h_0_1])), (h_0_0, .inl (a_h_0_0, n_h_0_0, .inl jX_C_h_0_0)), (h0, .inr (8, [.ref h0_0, .int jX_F_h0_1])), (h0_0, .inl (a_h0_0, n_h0_0, .inl jX_C_h0_0))] : va_W)) u) t) (va_A [(h, .inr (0, [.ref h_0, .ref h_1])), (h_0, .inr (8, [.ref h_0_0, .int h_0_1])), (h_0_0, .inl (a_h_0_0, n_h_0_0, .inl f_h_0_0)), (h0, .inr (8, [.ref h0_0, .int h0_1])), (h0_0, .inl (a_h0_0, n_h0_0, .inl f_h0_0))] sz)) 0 0 (va_A [(h, .inr (0, [.ref h_0, .ref h_1])), (h_0, .inr (8, [.ref h_0_0, .int h_0_1])), (h_0_0, .inl (a_h_0_0, n_h_0_0, .inl f_h_0_0)), (h0, .inr (8, [.ref h0_0, .int h0_1])), (h0_0, .inl (a_h0_0, n_h0_0, .inl f_h0_0))] sz) := by
  refine Met.ofW (cc := cX0_unroll) (maxL := 4) (ret := none) (by decide) rfl ?_
  intro p e s m args below meth c s₁ B hml hv
  obtain ⟨rfl, aks, rfl, Wd⟩ := k_enter hv
  have C : CallFix p m c cX0_unroll 4 s _ gG RX0 := ⟨B.exec, B.bytes, hml, findClass_of_methodNamed B.named, fun w h => atoms_spec (ws := Cond.code yX0_unroll cX0_unroll 4 none :: gG) B.pre w (List.mem_cons_of_mem _ h)⟩
  have hr := B.returns
  have hlk := B.notSynchronized
  generalize va_A [(h, .inr (0, [.ref h_0, .ref h_1])), (h_0, .inr (8, [.ref h_0_0, .int h_0_1])), (h_0_0, .inl (a_h_0_0, n_h_0_0, .inl f_h_0_0)), (h0, .inr (8, [.ref h0_0, .int h0_1])), (h0_0, .inl (a_h0_0, n_h0_0, .inl f_h0_0))] s.heap.size = A at Wd ⊢
  refine k_locals (Nat.le_of_ble_eq_true rfl) [(0, .ref h), (1, .ref h0)] rfl (fun ls hl => ?_)
  refine lv_aload_n C.1 C.2.1 dX0_unroll_0 rfl (lv_at hl 0 rfl) ?_
  refine k_get C Wd KX0 0 0 rfl (by decide) fl_X0_14 rfl dX0_unroll_1 ?_
  refine lv_iconst (v := 0) C.1 C.2.1 dX0_unroll_4 (by decide) ?_
  refine k_put C Wd KX8 1 1 [(h, .inr (0, [.ref h_0, .ref h_1])), (h_0, .inr (8, [.ref h_0_0, .int 0])), (h_0_0, .inl (a_h_0_0, n_h_0_0, .inl f_h_0_0)), (h0, .inr (8, [.ref h0_0, .int h0_1])), (h0_0, .inl (a_h0_0, n_h0_0, .inl f_h0_0))] rfl (by decide) fl_X0_31 rfl rfl rfl (Nat.le_of_ble_eq_true rfl) rfl dX0_unroll_5 (fun H locs Wd => ?_)
  refine lv_iconst (v := 0) C.1 C.2.1 dX0_unroll_8 (by decide) ?_
  refine lv_istore_n (lv' := [(2, .int 0), (0, .ref h), (1, .ref h0)]) C.1 C.2.1 dX0_unroll_9 rfl hl (by decide) rfl (fun ls hl => ?_)
  refine k_loopA (fun (u : (Nat → Int32) × (Int32) × (Int32)) H locs ls => match u with | (j10_C_h_0_0, j10_F_h_0_1, j10_L_2) => 0 ≤ j10_F_h_0_1.toInt ∧ 0 ≤ j10_L_2.toInt ∧ j10_F_h_0_1.toInt ≤ 1000 ∧ j10_L_2.toInt ≤ 1001 ∧ j10_F_h_0_1.toInt ≤ (n_h_0_0 : Int) ∧ j10_L_2.toInt ≤ (n_h0_0 : Int) + 1 ∧ j10_L_2.toInt ≤ h0_1.toInt + 1 ∧ j10_F_h_0_1.toInt ≤ h0_1.toInt + 999 ∧ j10_F_h_0_1.toInt ≤ j10_L_2.toInt + 999 ∧ j10_L_2.toInt ≤ j10_F_h_0_1.toInt + 1000 ∧ wX D [(a_h_0_0, .int), (a_h0_0, .int)] s [(h, .inr (0, [.ref h_0, .ref h_1])), (h_0, .inr (8, [.ref h_0_0, .int j10_F_h_0_1])), (h_0_0, .inl (a_h_0_0, n_h_0_0, .inl j10_C_h_0_0)), (h0, .inr (8, [.ref h0_0, .int h0_1])), (h0_0, .inl (a_h0_0, n_h0_0, .inl f_h0_0))] H A s.heap locs ∧ lv_has ls 4 [(2, .int j10_L_2), (0, .ref h), (1, .ref h0)]) (fun (u : (Nat → Int32) × (Int32) × (Int32)) ls => match u with | (j10_C_h_0_0, j10_F_h_0_1, j10_L_2) => F0 m 10 ls []) (fun (u : (Nat → Int32) × (Int32) × (Int32)) => match u with | (j10_C_h_0_0, j10_F_h_0_1, j10_L_2) => (1002 - j10_L_2.toInt).toNat) (fun u H locs ls hi ih10 => ?_) (f_h_0_0, 0, 0) _ _ _ ⟨by have zq0 : (0 : Int32).toInt = 0 := (by decide); omega, by have zq0 : (0 : Int32).toInt = 0 := (by decide); omega, by have zq0 : (0 : Int32).toInt = 0 := (by decide); omega, by have zq0 : (0 : Int32).toInt = 0 := (by decide); omega, by have zq0 : (0 : Int32).toInt = 0 := (by decide); omega, by have zq0 : (0 : Int32).toInt = 0 := (by decide); omega, by have zq0 : (0 : Int32).toInt = 0 := (by decide); omega, by have zq0 : (0 : Int32).toInt = 0 := (by decide); omega, by have zq0 : (0 : Int32).toInt = 0 := (by decide); omega, by have zq0 : (0 : Int32).toInt = 0 := (by decide); omega, Wd, lv_sub hl [0, 1, 2] rfl⟩
  obtain ⟨j10_C_h_0_0, j10_F_h_0_1, j10_L_2⟩ := u
  obtain ⟨i10_0, i10_1, i10_2, i10_3, i10_4, i10_5, i10_6, i10_7, i10_8, i10_9, Wd, hl⟩ := hi
  refine lv_iload_n C.1 C.2.1 dX0_unroll_10 rfl (lv_at hl 0 rfl) ?_
  refine lv_aload_n C.1 C.2.1 dX0_unroll_11 rfl (lv_at hl 2 rfl) ?_
  refine k_get C Wd KX8 3 1 rfl (by decide) fl_X0_31 rfl dX0_unroll_12 ?_
  refine lv_icmp_ge (tgt := 112) C.1 C.2.1 dX0_unroll_15 (by decide) (fun c15 => ?_) (fun c15 => ?_)
  · have i15 : h0_1.toInt ≤ j10_L_2.toInt := kz_le c15
    refine lv_aload_n C.1 C.2.1 dX0_unroll_112 rfl (lv_at hl 2 rfl) ?_
    refine lv_aload_n C.1 C.2.1 dX0_unroll_113 rfl (lv_at hl 1 rfl) ?_
    refine k_get C Wd KX0 0 0 rfl (by decide) fl_X0_14 rfl dX0_unroll_114 ?_
    refine k_cv Wd [1, 2, 3, 4] [0] rfl (wr := [(h, .inr (0, [.ref h_0, .ref h_1]))]) rfl (by decide) (by decide) (cells' := 0) (slots' := 0) (by decide) (by decide) (k_runV (rest := []) C aks Wd cs_X0_135 (sX8_copy l D h0 h_0 h_0_0 j10_F_h_0_1 n_h_0_0 a_h_0_0 j10_C_h_0_0 h0_0 h0_1 n_h0_0 a_h0_0 f_h0_0 _ (by omega) (by omega) (by omega) (by omega) (by omega) (by omega) (by omega) (by omega)) [1, 2, 3, 4] rfl (by decide) [0, 1] rfl 3 8 rfl rfl rfl rfl rfl ⟨(Nat.le_of_ble_eq_true rfl), (Nat.le_of_ble_eq_true rfl)⟩ hl.1 rfl rfl (Nat.le_of_ble_eq_true rfl) ⟨(Nat.le_of_ble_eq_true rfl), (Nat.le_of_ble_eq_true rfl)⟩ dX0_unroll_117) (fun u H locs w117 Wd => ?_)
    obtain ⟨s117_0, s117_1⟩ := u
    have Wd : wX D [(a_h_0_0, .int), (a_h0_0, .int)] s [(h, .inr (0, [.ref h_0, .ref h_1])), (h_0, .inr (8, [.ref h_0_0, .int j10_F_h_0_1])), (h_0_0, .inl (a_h_0_0, n_h_0_0, .inl j10_C_h_0_0)), (h0, .inr (8, [.ref h0_0, .int s117_0])), (h0_0, .inl (a_h0_0, n_h0_0, .inl s117_1))] _ A s.heap _ := k_sub Wd [0, 1, 2, 3, 4] rfl (by decide) [0, 1] rfl
    obtain ⟨g117_0, g117_1, g117_2⟩ := w117
    have g117_0 : 0 ≤ s117_0.toInt := g117_0
    have g117_1 : s117_0.toInt ≤ 1000 := g117_1
    have g117_2 : s117_0.toInt ≤ (n_h0_0 : Int) := g117_2
    exact k_vret C hr hlk Wd (j10_F_h_0_1, j10_C_h_0_0, s117_0, s117_1) (by exact ⟨by omega, by omega, by omega, by omega, by omega, by omega, by omega⟩) [0, 1, 2, 3, 4] rfl (by decide) [] rfl (by decide) (by decide) dX0_unroll_120
  · have i15 : j10_L_2.toInt < h0_1.toInt := kz_nle c15
    refine lv_aload_n C.1 C.2.1 dX0_unroll_18 rfl (lv_at hl 2 rfl) ?_
    refine lv_iload_n C.1 C.2.1 dX0_unroll_19 rfl (lv_at hl 0 rfl) ?_
    refine k_pi (k_runV (rest := []) C aks Wd cs_X0_35 (sX8_cell l D h0 j10_L_2 h0_0 h0_1 n_h0_0 a_h0_0 f_h0_0 _ (by omega) (by omega) (by omega) (by omega)) [3, 4] rfl (by decide) [1] rfl 3 8 rfl rfl rfl rfl rfl ⟨(Nat.le_of_ble_eq_true rfl), (Nat.le_of_ble_eq_true rfl)⟩ hl.1 rfl rfl (Nat.le_of_ble_eq_true rfl) ⟨(Nat.le_of_ble_eq_true rfl), (Nat.le_of_ble_eq_true rfl)⟩ dX0_unroll_20) (fun r20 w20 => ?_)
    refine lv_bipush (v := 115) C.1 C.2.1 dX0_unroll_23 (by decide) ?_
    refine k_cutA (fun (u : (Int32) × (Int32) × (Nat → Int32)) H locs ls => match u with | (j106_L_2, j106_F_h_0_1, j106_C_h_0_0) => 0 ≤ j106_L_2.toInt ∧ 1 ≤ j106_F_h_0_1.toInt ∧ j106_F_h_0_1.toInt ≤ 1000 ∧ j106_L_2.toInt ≤ 1000 ∧ j106_F_h_0_1.toInt ≤ (n_h_0_0 : Int) ∧ j106_L_2.toInt ≤ (n_h0_0 : Int) ∧ j106_L_2.toInt ≤ h0_1.toInt ∧ j10_F_h_0_1.toInt ≤ j106_F_h_0_1.toInt ∧ j10_L_2.toInt ≤ j106_L_2.toInt ∧ wX D [(a_h_0_0, .int), (a_h0_0, .int)] s [(h, .inr (0, [.ref h_0, .ref h_1])), (h_0, .inr (8, [.ref h_0_0, .int j106_F_h_0_1])), (h_0_0, .inl (a_h_0_0, n_h_0_0, .inl j106_C_h_0_0)), (h0, .inr (8, [.ref h0_0, .int h0_1])), (h0_0, .inl (a_h0_0, n_h0_0, .inl f_h0_0))] H A s.heap locs ∧ lv_has ls 4 [(2, .int j106_L_2), (0, .ref h), (1, .ref h0)]) (fun (u : (Int32) × (Int32) × (Nat → Int32)) ls => match u with | (j106_L_2, j106_F_h_0_1, j106_C_h_0_0) => F0 m 106 ls []) (fun u H locs ls hi => ?_) (fun J106 => ?_)
    · obtain ⟨j106_L_2, j106_F_h_0_1, j106_C_h_0_0⟩ := u
      obtain ⟨i106_0, i106_1, i106_2, i106_3, i106_4, i106_5, i106_6, i106_7, i106_8, Wd, hl⟩ := hi
      obtain ⟨v106, ev106⟩ : ∃ z : Int32, j106_L_2 + 1 = z := ⟨_, rfl⟩
      have iv106 : v106.toInt = j106_L_2.toInt + 1 := kz_addc ev106 (by decide) (by have zr0 := kz_rng j106_L_2; omega) (by have zr0 := kz_rng j106_L_2; omega)
      refine lv_iinc (v := v106) (lv' := [(2, .int v106), (0, .ref h), (1, .ref h0)]) C.1 C.2.1 dX0_unroll_106 hl (k := 0) rfl ev106 (by decide) rfl (fun ls hl => ?_)
      refine lv_goto (tgt := 10) C.1 C.2.1 dX0_unroll_109 (by decide) ?_
      exact ih10 (j106_C_h_0_0, j106_F_h_0_1, v106) _ _ _ ⟨by omega, by omega, by omega, by omega, by omega, by omega, by omega, by omega, by omega, by omega, Wd, lv_sub hl [0, 1, 2] rfl⟩ (by show (1002 - v106.toInt).toNat < (1002 - j10_L_2.toInt).toNat; omega)
    refine lv_icmp_ne (tgt := 94) C.1 C.2.1 dX0_unroll_25 (by decide) (fun c25 => ?_) (fun c25 => ?_)
    · have i25 : ¬ r20.toInt = 115 := kz_ne c25
      refine lv_aload_n C.1 C.2.1 dX0_unroll_94 rfl (lv_at hl 1 rfl) ?_
      refine k_get C Wd KX0 0 0 rfl (by decide) fl_X0_14 rfl dX0_unroll_95 ?_
      refine lv_aload_n C.1 C.2.1 dX0_unroll_98 rfl (lv_at hl 2 rfl) ?_
      refine lv_iload_n C.1 C.2.1 dX0_unroll_99 rfl (lv_at hl 0 rfl) ?_
      refine k_pi (k_runV (rest := [.ref h_0]) C aks Wd cs_X0_35 (sX8_cell l D h0 j10_L_2 h0_0 h0_1 n_h0_0 a_h0_0 f_h0_0 _ (by omega) (by omega) (by omega) (by omega)) [3, 4] rfl (by decide) [1] rfl 3 8 rfl rfl rfl rfl rfl ⟨(Nat.le_of_ble_eq_true rfl), (Nat.le_of_ble_eq_true rfl)⟩ hl.1 rfl rfl (Nat.le_of_ble_eq_true rfl) ⟨(Nat.le_of_ble_eq_true rfl), (Nat.le_of_ble_eq_true rfl)⟩ dX0_unroll_100) (fun r100 w100 => ?_)
      refine k_cv Wd [1, 2] [0, 3, 4] rfl (wr := [(h, .inr (0, [.ref h_0, .ref h_1])), (h0, .inr (8, [.ref h0_0, .int h0_1])), (h0_0, .inl (a_h0_0, n_h0_0, .inl f_h0_0))]) rfl (by decide) (by decide) (cells' := 0) (slots' := 0) (by decide) (by decide) (k_runV (rest := []) C aks Wd cs_X0_122 (sX8_add l D h_0 r100 h_0_0 j10_F_h_0_1 n_h_0_0 a_h_0_0 j10_C_h_0_0 _ (by omega) (by omega) (by omega) (by omega)) [1, 2] rfl (by decide) [0] rfl 1 8 rfl rfl rfl rfl rfl ⟨(Nat.le_of_ble_eq_true rfl), (Nat.le_of_ble_eq_true rfl)⟩ hl.1 rfl rfl (Nat.le_of_ble_eq_true rfl) ⟨(Nat.le_of_ble_eq_true rfl), (Nat.le_of_ble_eq_true rfl)⟩ dX0_unroll_103) (fun u H locs w103 Wd => ?_)
      obtain ⟨s103_0, s103_1⟩ := u
      have Wd : wX D [(a_h_0_0, .int), (a_h0_0, .int)] s [(h, .inr (0, [.ref h_0, .ref h_1])), (h_0, .inr (8, [.ref h_0_0, .int s103_0])), (h_0_0, .inl (a_h_0_0, n_h_0_0, .inl s103_1)), (h0, .inr (8, [.ref h0_0, .int h0_1])), (h0_0, .inl (a_h0_0, n_h0_0, .inl f_h0_0))] _ A s.heap _ := k_sub Wd [0, 3, 4, 1, 2] rfl (by decide) [0, 1] rfl
      obtain ⟨g103_0, g103_1, g103_2, g103_3, g103_4⟩ := w103
      have g103_0 : 1 ≤ s103_0.toInt := g103_0
      have g103_1 : s103_0.toInt ≤ 1000 := g103_1
      have g103_2 : j10_F_h_0_1.toInt ≤ s103_0.toInt := g103_2
      have g103_3 : s103_0.toInt ≤ (n_h_0_0 : Int) := g103_3
      have g103_4 : s103_0.toInt ≤ j10_F_h_0_1.toInt + 1 := g103_4
      exact J106 (j10_L_2, s103_0, s103_1) _ _ _ ⟨by omega, by omega, by omega, by omega, by omega, by omega, by omega, by omega, by omega, Wd, lv_sub hl [0, 1, 2] rfl⟩
    · have i25 : r20.toInt = 115 := kz_eq c25
      refine lv_aload_n C.1 C.2.1 dX0_unroll_28 rfl (lv_at hl 2 rfl) ?_
      refine lv_iload_n C.1 C.2.1 dX0_unroll_29 rfl (lv_at hl 0 rfl) ?_
      refine k_pi (k_runV (rest := []) C aks Wd cs_X0_68 (sX8_closeOf l D h0 j10_L_2 h0_0 h0_1 n_h0_0 a_h0_0 f_h0_0 _ (by omega) (by omega) (by omega) (by omega)) [3, 4] rfl (by decide) [1] rfl 3 8 rfl rfl rfl rfl rfl ⟨(Nat.le_of_ble_eq_true rfl), (Nat.le_of_ble_eq_true rfl)⟩ hl.1 rfl rfl (Nat.le_of_ble_eq_true rfl) ⟨(Nat.le_of_ble_eq_true rfl), (Nat.le_of_ble_eq_true rfl)⟩ dX0_unroll_30) (fun r30 w30 => ?_)
      obtain ⟨g30_0, g30_1, g30_2, g30_3⟩ := w30
      have g30_0 : 0 ≤ r30.toInt := g30_0
      have g30_1 : r30.toInt ≤ 1000 := g30_1
      have g30_2 : r30.toInt ≤ (n_h0_0 : Int) := g30_2
      have g30_3 : r30.toInt ≤ h0_1.toInt := g30_3
      refine lv_istore_n (lv' := [(3, .int r30), (2, .int j10_L_2), (0, .ref h), (1, .ref h0)]) C.1 C.2.1 dX0_unroll_33 rfl hl (by decide) rfl (fun ls hl => ?_)
      refine lv_aload_n C.1 C.2.1 dX0_unroll_34 rfl (lv_at hl 2 rfl) ?_
      refine k_get C Wd KX0 0 0 rfl (by decide) fl_X0_14 rfl dX0_unroll_35 ?_
      refine lv_bipush (v := 112) C.1 C.2.1 dX0_unroll_38 (by decide) ?_
      refine k_cv Wd [1, 2] [0, 3, 4] rfl (wr := [(h, .inr (0, [.ref h_0, .ref h_1])), (h0, .inr (8, [.ref h0_0, .int h0_1])), (h0_0, .inl (a_h0_0, n_h0_0, .inl f_h0_0))]) rfl (by decide) (by decide) (cells' := 0) (slots' := 0) (by decide) (by decide) (k_runV (rest := []) C aks Wd cs_X0_122 (sX8_add l D h_0 112 h_0_0 j10_F_h_0_1 n_h_0_0 a_h_0_0 j10_C_h_0_0 _ (by omega) (by omega) (by omega) (by omega)) [1, 2] rfl (by decide) [0] rfl 1 8 rfl rfl rfl rfl rfl ⟨(Nat.le_of_ble_eq_true rfl), (Nat.le_of_ble_eq_true rfl)⟩ hl.1 rfl rfl (Nat.le_of_ble_eq_true rfl) ⟨(Nat.le_of_ble_eq_true rfl), (Nat.le_of_ble_eq_true rfl)⟩ dX0_unroll_40) (fun u H locs w40 Wd => ?_)
      obtain ⟨s40_0, s40_1⟩ := u
      have Wd : wX D [(a_h_0_0, .int), (a_h0_0, .int)] s [(h, .inr (0, [.ref h_0, .ref h_1])), (h_0, .inr (8, [.ref h_0_0, .int s40_0])), (h_0_0, .inl (a_h_0_0, n_h_0_0, .inl s40_1)), (h0, .inr (8, [.ref h0_0, .int h0_1])), (h0_0, .inl (a_h0_0, n_h0_0, .inl f_h0_0))] _ A s.heap _ := k_sub Wd [0, 3, 4, 1, 2] rfl (by decide) [0, 1] rfl
      obtain ⟨g40_0, g40_1, g40_2, g40_3, g40_4⟩ := w40
      have g40_0 : 1 ≤ s40_0.toInt := g40_0
      have g40_1 : s40_0.toInt ≤ 1000 := g40_1
      have g40_2 : j10_F_h_0_1.toInt ≤ s40_0.toInt := g40_2
      have g40_3 : s40_0.toInt ≤ (n_h_0_0 : Int) := g40_3
      have g40_4 : s40_0.toInt ≤ j10_F_h_0_1.toInt + 1 := g40_4
      refine lv_aload_n C.1 C.2.1 dX0_unroll_43 rfl (lv_at hl 2 rfl) ?_
      refine k_get C Wd KX0 0 0 rfl (by decide) fl_X0_14 rfl dX0_unroll_44 ?_
      refine lv_aload_n C.1 C.2.1 dX0_unroll_47 rfl (lv_at hl 3 rfl) ?_
      refine lv_iload_n C.1 C.2.1 dX0_unroll_48 rfl (lv_at hl 1 rfl) ?_
      refine lv_iconst (v := 1) C.1 C.2.1 dX0_unroll_49 (by decide) ?_
      obtain ⟨v50, ev50⟩ : ∃ z : Int32, j10_L_2 + 1 = z := ⟨_, rfl⟩
      have iv50 : v50.toInt = j10_L_2.toInt + 1 := kz_addc ev50 (by decide) (by have zr0 := kz_rng j10_L_2; omega) (by have zr0 := kz_rng j10_L_2; omega)
      refine k_iadd (v := v50) C ev50 dX0_unroll_50 ?_
      refine lv_iload_n C.1 C.2.1 dX0_unroll_51 rfl (lv_at hl 0 rfl) ?_
      refine k_cv Wd [3, 4, 1, 2] [0] rfl (wr := [(h, .inr (0, [.ref h_0, .ref h_1]))]) rfl (by decide) (by decide) (cells' := 0) (slots' := 0) (by decide) (by decide) (k_runV (rest := []) C aks Wd cs_X0_125 (sX8_addPart l D h_0 h0 v50 r30 h0_0 h0_1 n_h0_0 a_h0_0 f_h0_0 h_0_0 s40_0 n_h_0_0 a_h_0_0 s40_1 _ (by omega) (by omega) (by omega) (by omega) (by omega) (by omega) (by omega) (by omega) (by omega) (by omega) (by omega) (by omega)) [3, 4, 1, 2] rfl (by decide) [1, 0] rfl 1 8 rfl rfl rfl rfl rfl ⟨(Nat.le_of_ble_eq_true rfl), (Nat.le_of_ble_eq_true rfl)⟩ hl.1 rfl rfl (Nat.le_of_ble_eq_true rfl) ⟨(Nat.le_of_ble_eq_true rfl), (Nat.le_of_ble_eq_true rfl)⟩ dX0_unroll_52) (fun u H locs w52 Wd => ?_)
      obtain ⟨s52_0, s52_1⟩ := u
      have Wd : wX D [(a_h_0_0, .int), (a_h0_0, .int)] s [(h, .inr (0, [.ref h_0, .ref h_1])), (h_0, .inr (8, [.ref h_0_0, .int s52_0])), (h_0_0, .inl (a_h_0_0, n_h_0_0, .inl s52_1)), (h0, .inr (8, [.ref h0_0, .int h0_1])), (h0_0, .inl (a_h0_0, n_h0_0, .inl f_h0_0))] _ A s.heap _ := k_sub Wd [0, 3, 4, 1, 2] rfl (by decide) [0, 1] rfl
      obtain ⟨g52_0, g52_1, g52_2, g52_3⟩ := w52
      have g52_0 : 0 ≤ s52_0.toInt := g52_0
      have g52_1 : s52_0.toInt ≤ 1000 := g52_1
      have g52_2 : s40_0.toInt ≤ s52_0.toInt := g52_2
      have g52_3 : s52_0.toInt ≤ (n_h_0_0 : Int) := g52_3
      refine lv_aload_n C.1 C.2.1 dX0_unroll_55 rfl (lv_at hl 2 rfl) ?_
      refine k_get C Wd KX0 0 0 rfl (by decide) fl_X0_14 rfl dX0_unroll_56 ?_
      refine lv_aload_n C.1 C.2.1 dX0_unroll_59 rfl (lv_at hl 3 rfl) ?_
      refine lv_iload_n C.1 C.2.1 dX0_unroll_60 rfl (lv_at hl 1 rfl) ?_
      refine lv_iload_n C.1 C.2.1 dX0_unroll_61 rfl (lv_at hl 0 rfl) ?_
      refine lv_iconst (v := 1) C.1 C.2.1 dX0_unroll_62 (by decide) ?_
      obtain ⟨v63, ev63⟩ : ∃ z : Int32, r30 + 1 = z := ⟨_, rfl⟩
      have iv63 : v63.toInt = r30.toInt + 1 := kz_addc ev63 (by decide) (by have zr0 := kz_rng r30; omega) (by have zr0 := kz_rng r30; omega)
      refine k_iadd (v := v63) C ev63 dX0_unroll_63 ?_
      refine k_cv Wd [3, 4, 1, 2] [0] rfl (wr := [(h, .inr (0, [.ref h_0, .ref h_1]))]) rfl (by decide) (by decide) (cells' := 0) (slots' := 0) (by decide) (by decide) (k_runV (rest := []) C aks Wd cs_X0_125 (sX8_addPart l D h_0 h0 j10_L_2 v63 h0_0 h0_1 n_h0_0 a_h0_0 f_h0_0 h_0_0 s52_0 n_h_0_0 a_h_0_0 s52_1 _ (by omega) (by omega) (by omega) (by omega) (by omega) (by omega) (by omega) (by omega) (by omega) (by omega) (by omega) (by omega)) [3, 4, 1, 2] rfl (by decide) [1, 0] rfl 1 8 rfl rfl rfl rfl rfl ⟨(Nat.le_of_ble_eq_true rfl), (Nat.le_of_ble_eq_true rfl)⟩ hl.1 rfl rfl (Nat.le_of_ble_eq_true rfl) ⟨(Nat.le_of_ble_eq_true rfl), (Nat.le_of_ble_eq_true rfl)⟩ dX0_unroll_64) (fun u H locs w64 Wd => ?_)
      obtain ⟨s64_0, s64_1⟩ := u
      have Wd : wX D [(a_h_0_0, .int), (a_h0_0, .int)] s [(h, .inr (0, [.ref h_0, .ref h_1])), (h_0, .inr (8, [.ref h_0_0, .int s64_0])), (h_0_0, .inl (a_h_0_0, n_h_0_0, .inl s64_1)), (h0, .inr (8, [.ref h0_0, .int h0_1])), (h0_0, .inl (a_h0_0, n_h0_0, .inl f_h0_0))] _ A s.heap _ := k_sub Wd [0, 3, 4, 1, 2] rfl (by decide) [0, 1] rfl
      obtain ⟨g64_0, g64_1, g64_2, g64_3⟩ := w64
      have g64_0 : 0 ≤ s64_0.toInt := g64_0
      have g64_1 : s64_0.toInt ≤ 1000 := g64_1
      have g64_2 : s52_0.toInt ≤ s64_0.toInt := g64_2
      have g64_3 : s64_0.toInt ≤ (n_h_0_0 : Int) := g64_3
      refine lv_aload_n C.1 C.2.1 dX0_unroll_67 rfl (lv_at hl 2 rfl) ?_
      refine k_get C Wd KX0 0 0 rfl (by decide) fl_X0_14 rfl dX0_unroll_68 ?_
      refine lv_bipush (v := 113) C.1 C.2.1 dX0_unroll_71 (by decide) ?_
      refine k_cv Wd [1, 2] [0, 3, 4] rfl (wr := [(h, .inr (0, [.ref h_0, .ref h_1])), (h0, .inr (8, [.ref h0_0, .int h0_1])), (h0_0, .inl (a_h0_0, n_h0_0, .inl f_h0_0))]) rfl (by decide) (by decide) (cells' := 0) (slots' := 0) (by decide) (by decide) (k_runV (rest := []) C aks Wd cs_X0_122 (sX8_add l D h_0 113 h_0_0 s64_0 n_h_0_0 a_h_0_0 s64_1 _ (by omega) (by omega) (by omega) (by omega)) [1, 2] rfl (by decide) [0] rfl 1 8 rfl rfl rfl rfl rfl ⟨(Nat.le_of_ble_eq_true rfl), (Nat.le_of_ble_eq_true rfl)⟩ hl.1 rfl rfl (Nat.le_of_ble_eq_true rfl) ⟨(Nat.le_of_ble_eq_true rfl), (Nat.le_of_ble_eq_true rfl)⟩ dX0_unroll_73) (fun u H locs w73 Wd => ?_)
      obtain ⟨s73_0, s73_1⟩ := u
      have Wd : wX D [(a_h_0_0, .int), (a_h0_0, .int)] s [(h, .inr (0, [.ref h_0, .ref h_1])), (h_0, .inr (8, [.ref h_0_0, .int s73_0])), (h_0_0, .inl (a_h_0_0, n_h_0_0, .inl s73_1)), (h0, .inr (8, [.ref h0_0, .int h0_1])), (h0_0, .inl (a_h0_0, n_h0_0, .inl f_h0_0))] _ A s.heap _ := k_sub Wd [0, 3, 4, 1, 2] rfl (by decide) [0, 1] rfl
      obtain ⟨g73_0, g73_1, g73_2, g73_3, g73_4⟩ := w73
      have g73_0 : 1 ≤ s73_0.toInt := g73_0
      have g73_1 : s73_0.toInt ≤ 1000 := g73_1
      have g73_2 : s64_0.toInt ≤ s73_0.toInt := g73_2
      have g73_3 : s73_0.toInt ≤ (n_h_0_0 : Int) := g73_3
      have g73_4 : s73_0.toInt ≤ s64_0.toInt + 1 := g73_4
      refine lv_aload_n C.1 C.2.1 dX0_unroll_76 rfl (lv_at hl 2 rfl) ?_
      refine k_get C Wd KX0 0 0 rfl (by decide) fl_X0_14 rfl dX0_unroll_77 ?_
      refine lv_bipush (v := 114) C.1 C.2.1 dX0_unroll_80 (by decide) ?_
      refine k_cv Wd [1, 2] [0, 3, 4] rfl (wr := [(h, .inr (0, [.ref h_0, .ref h_1])), (h0, .inr (8, [.ref h0_0, .int h0_1])), (h0_0, .inl (a_h0_0, n_h0_0, .inl f_h0_0))]) rfl (by decide) (by decide) (cells' := 0) (slots' := 0) (by decide) (by decide) (k_runV (rest := []) C aks Wd cs_X0_122 (sX8_add l D h_0 114 h_0_0 s73_0 n_h_0_0 a_h_0_0 s73_1 _ (by omega) (by omega) (by omega) (by omega)) [1, 2] rfl (by decide) [0] rfl 1 8 rfl rfl rfl rfl rfl ⟨(Nat.le_of_ble_eq_true rfl), (Nat.le_of_ble_eq_true rfl)⟩ hl.1 rfl rfl (Nat.le_of_ble_eq_true rfl) ⟨(Nat.le_of_ble_eq_true rfl), (Nat.le_of_ble_eq_true rfl)⟩ dX0_unroll_82) (fun u H locs w82 Wd => ?_)
      obtain ⟨s82_0, s82_1⟩ := u
      have Wd : wX D [(a_h_0_0, .int), (a_h0_0, .int)] s [(h, .inr (0, [.ref h_0, .ref h_1])), (h_0, .inr (8, [.ref h_0_0, .int s82_0])), (h_0_0, .inl (a_h_0_0, n_h_0_0, .inl s82_1)), (h0, .inr (8, [.ref h0_0, .int h0_1])), (h0_0, .inl (a_h0_0, n_h0_0, .inl f_h0_0))] _ A s.heap _ := k_sub Wd [0, 3, 4, 1, 2] rfl (by decide) [0, 1] rfl
      obtain ⟨g82_0, g82_1, g82_2, g82_3, g82_4⟩ := w82
      have g82_0 : 1 ≤ s82_0.toInt := g82_0
      have g82_1 : s82_0.toInt ≤ 1000 := g82_1
      have g82_2 : s73_0.toInt ≤ s82_0.toInt := g82_2
      have g82_3 : s82_0.toInt ≤ (n_h_0_0 : Int) := g82_3
      have g82_4 : s82_0.toInt ≤ s73_0.toInt + 1 := g82_4
      refine lv_iload_n C.1 C.2.1 dX0_unroll_85 rfl (lv_at hl 1 rfl) ?_
      refine lv_iload_n C.1 C.2.1 dX0_unroll_86 rfl (lv_at hl 0 rfl) ?_
      obtain ⟨v87, ev87⟩ : ∃ z : Int32, (if j10_L_2 < r30 then r30 else j10_L_2) = z := ⟨_, rfl⟩
      have iv87 : j10_L_2.toInt ≤ v87.toInt ∧ r30.toInt ≤ v87.toInt ∧ (v87.toInt = j10_L_2.toInt ∨ v87.toInt = r30.toInt) := kz_max ev87
      refine k_mmax (v := v87) C hl.1 ml_X0_129 st_Lib_Math_max_name in_J9 cd_max (Nat.le_of_ble_eq_true rfl) (Nat.le_of_ble_eq_true rfl) (Nat.le_of_ble_eq_true rfl) (Nat.le_of_ble_eq_true rfl) ev87 dX0_unroll_87 ?_
      refine lv_istore_n (lv' := [(2, .int v87), (3, .int r30), (0, .ref h), (1, .ref h0)]) C.1 C.2.1 dX0_unroll_90 rfl hl (by decide) rfl (fun ls hl => ?_)
      refine lv_goto (tgt := 106) C.1 C.2.1 dX0_unroll_91 (by decide) ?_
      exact J106 (v87, s82_0, s82_1) _ _ _ ⟨by omega, by omega, by omega, by omega, by omega, by omega, by omega, by omega, by omega, Wd, lv_sub hl [0, 2, 3] rfl⟩
set_option maxHeartbeats 4000000 in
set_option maxRecDepth 100000 in
theorem sX5_valueOf (l : Launch) (D : va_G) (h : Nat) (h0 : Nat) (h0_0 : Nat) (h0_1 : Int32) (n_h0_0 : Nat) (a_h0_0 : ClassId) (f_h0_0 : Nat → Int32) (h_0 : Int32) (h_1 : Int32) (h_2 : Nat) (h_3 : Nat) (h_4 : Nat) (h_5 : Nat) (h_6 : Nat) (a_h_3 : ClassId) (f_h_3 : Nat → Int32) (a_h_2 : ClassId) (f_h_2 : Nat → Int32) (sz : Nat) (k_h0_1_lo : 0 ≤ h0_1.toInt) (k_n_h0_0 : n_h0_0 ≤ 1000) (k_p_h0_0 : 1 ≤ n_h0_0) (k_h0_1_hi : h0_1.toInt ≤ (n_h0_0 : Int))  : Met l yX5_valueOf (Cond.code yX5_valueOf cX5_valueOf 2 (some .int) :: gG) { frames := 3, cells := 0, slots := 0, locals := 115 } (cPre D [(a_h0_0, .int), (a_h_3, .int), (a_h_2, .int)] [(h0, .inr (8, [.ref h0_0, .int h0_1])), (h0_0, .inl (a_h0_0, n_h0_0, .inl f_h0_0)), (h, .inr (5, [.int h_0, .int h_1, .ref h_2, .ref h_3, .ref h_4, .ref h_5, .ref h_6])), (h_3, .inl (a_h_3, 40, .inl f_h_3)), (h_2, .inl (a_h_2, 3, .inl f_h_2))] sz [.ref h, .ref h0]) (va_Qi (fun (r : Int32) (jX_C_h_3 : Nat → Int32) => True) (fun u t => cB D (va_A [(h0, .inr (8, [.ref h0_0, .int h0_1])), (h0_0, .inl (a_h0_0, n_h0_0, .inl f_h0_0)), (h, .inr (5, [.int h_0, .int h_1, .ref h_2, .ref h_3, .ref h_4, .ref h_5, .ref h_6])), (h_3, .inl (a_h_3, 40, .inl f_h_3)), (h_2, .inl (a_h_2, 3, .inl f_h_2))] sz) ((fun (_ : (Nat → Int32)) => ([] : List (ClassId × FieldType))) u) ((fun (jX_C_h_3 : Nat → Int32) => ([(h0, .inr (8, [.ref h0_0, .int h0_1])), (h0_0, .inl (a_h0_0, n_h0_0, .inl f_h0_0)), (h, .inr (5, [.int h_0, .int h_1, .ref h_2, .ref h_3, .ref h_4, .ref h_5, .ref h_6])), (h_3, .inl (a_h_3, 40, .inl jX_C_h_3)), (h_2, .inl (a_h_2, 3, .inl f_h_2))] : va_W)) u) t) (va_A [(h0, .inr (8, [.ref h0_0, .int h0_1])), (h0_0, .inl (a_h0_0, n_h0_0, .inl f_h0_0)), (h, .inr (5, [.int h_0, .int h_1, .ref h_2, .ref h_3, .ref h_4, .ref h_5, .ref h_6])), (h_3, .inl (a_h_3, 40, .inl f_h_3)), (h_2, .inl (a_h_2, 3, .inl f_h_2))] sz)) 0 0 (va_A [(h0, .inr (8, [.ref h0_0, .int h0_1])), (h0_0, .inl (a_h0_0, n_h0_0, .inl f_h0_0)), (h, .inr (5, [.int h_0, .int h_1, .ref h_2, .ref h_3, .ref h_4, .ref h_5, .ref h_6])), (h_3, .inl (a_h_3, 40, .inl f_h_3)), (h_2, .inl (a_h_2, 3, .inl f_h_2))] sz) := by
  refine Met.ofW (cc := cX5_valueOf) (maxL := 2) (ret := (some .int)) (by decide) rfl ?_
  intro p e s m args below meth c s₁ B hml hv
  obtain ⟨rfl, aks, rfl, Wd⟩ := k_enter hv
  have C : CallFix p m c cX5_valueOf 2 s _ gG RX5 := ⟨B.exec, B.bytes, hml, findClass_of_methodNamed B.named, fun w h => atoms_spec (ws := Cond.code yX5_valueOf cX5_valueOf 2 (some .int) :: gG) B.pre w (List.mem_cons_of_mem _ h)⟩
  have hr := B.returns
  have hlk := B.notSynchronized
  generalize va_A [(h0, .inr (8, [.ref h0_0, .int h0_1])), (h0_0, .inl (a_h0_0, n_h0_0, .inl f_h0_0)), (h, .inr (5, [.int h_0, .int h_1, .ref h_2, .ref h_3, .ref h_4, .ref h_5, .ref h_6])), (h_3, .inl (a_h_3, 40, .inl f_h_3)), (h_2, .inl (a_h_2, 3, .inl f_h_2))] s.heap.size = A at Wd ⊢
  refine k_locals (Nat.le_of_ble_eq_true rfl) [(0, .ref h), (1, .ref h0)] rfl (fun ls hl => ?_)
  refine lv_aload_n C.1 C.2.1 dX5_valueOf_0 rfl (lv_at hl 1 rfl) ?_
  refine lv_iconst (v := 0) C.1 C.2.1 dX5_valueOf_1 (by decide) ?_
  refine lv_aload_n C.1 C.2.1 dX5_valueOf_2 rfl (lv_at hl 1 rfl) ?_
  refine k_get C Wd KX8 0 1 rfl (by decide) fl_X5_57 rfl dX5_valueOf_3 ?_
  refine lv_aload_n C.1 C.2.1 dX5_valueOf_6 rfl (lv_at hl 0 rfl) ?_
  refine k_get C Wd KX5 2 2 rfl (by decide) fl_X5_9 rfl dX5_valueOf_7 ?_
  refine lv_aload_n C.1 C.2.1 dX5_valueOf_10 rfl (lv_at hl 0 rfl) ?_
  refine k_get C Wd KX5 2 3 rfl (by decide) fl_X5_15 rfl dX5_valueOf_11 ?_
  refine k_cv Wd [0, 1, 3, 4] [2] rfl (wr := [(h, .inr (5, [.int h_0, .int h_1, .ref h_2, .ref h_3, .ref h_4, .ref h_5, .ref h_6]))]) rfl (by decide) (by decide) (cells' := 0) (slots' := 0) (by decide) (by decide) (k_runV (rest := []) C aks Wd cs_X5_62 (sX8_reckon l D h0 0 h0_1 h_2 h_3 h0_0 h0_1 n_h0_0 a_h0_0 f_h0_0 40 a_h_3 f_h_3 3 a_h_2 f_h_2 _ (by omega) (by omega) (by omega) (by omega) (by omega) (by omega) (by omega) (by omega) (by omega) (by omega)) [0, 1, 3, 4] rfl (by decide) [0, 1, 2] rfl 0 8 rfl rfl rfl rfl rfl ⟨(Nat.le_of_ble_eq_true rfl), (Nat.le_of_ble_eq_true rfl)⟩ hl.1 rfl rfl (Nat.le_of_ble_eq_true rfl) ⟨(Nat.le_of_ble_eq_true rfl), (Nat.le_of_ble_eq_true rfl)⟩ dX5_valueOf_14) (fun s14_0 H locs w14 Wd => ?_)
  have Wd : wX D [(a_h0_0, .int), (a_h_3, .int), (a_h_2, .int)] s [(h0, .inr (8, [.ref h0_0, .int h0_1])), (h0_0, .inl (a_h0_0, n_h0_0, .inl f_h0_0)), (h, .inr (5, [.int h_0, .int h_1, .ref h_2, .ref h_3, .ref h_4, .ref h_5, .ref h_6])), (h_3, .inl (a_h_3, 40, .inl s14_0)), (h_2, .inl (a_h_2, 3, .inl f_h_2))] _ A s.heap _ := k_sub Wd [1, 2, 0, 3, 4] rfl (by decide) [0, 1, 2] rfl
  refine lv_aload_n C.1 C.2.1 dX5_valueOf_17 rfl (lv_at hl 0 rfl) ?_
  refine k_get C Wd KX5 2 3 rfl (by decide) fl_X5_15 rfl dX5_valueOf_18 ?_
  refine lv_iconst (v := 0) C.1 C.2.1 dX5_valueOf_21 (by decide) ?_
  obtain ⟨v22, ev22⟩ : ∃ z : Int32, s14_0 (0 : Int32).toNatClampNeg = z := ⟨_, rfl⟩
  refine k_iald (v := v22) C Wd 3 1 rfl rfl (vp_in_iff.mpr (by decide)) ev22 dX5_valueOf_22 ?_
  exact k_zret C hr hlk rfl Wd s14_0 trivial [0, 1, 2, 3, 4] rfl (by decide) [] rfl (by decide) (by decide) dX5_valueOf_23
set_option maxHeartbeats 4000000 in
set_option maxRecDepth 100000 in
theorem sX5_tryOne (l : Launch) (D : va_G) (h : Nat) (h0 : Nat) (x1 : Int32) (x2 : Int32) (x3 : Int32) (h_0 : Int32) (h_1 : Int32) (h_2 : Nat) (h_3 : Nat) (h_4 : Nat) (h_5 : Nat) (h_6 : Nat) (a_h_2 : ClassId) (f_h_2 : Nat → Int32) (h0_0 : Nat) (h0_1 : Nat) (h0_2 : Int32) (h0_3 : Nat) (h0_4 : Nat) (h0_0_0 : Nat) (h0_0_1 : Int32) (n_h0_0_0 : Nat) (a_h0_0_0 : ClassId) (f_h0_0_0 : Nat → Int32) (a_h_3 : ClassId) (f_h_3 : Nat → Int32) (h0_1_0 : Nat) (h0_1_1 : Int32) (n_h0_1_0 : Nat) (a_h0_1_0 : ClassId) (f_h0_1_0 : Nat → Int32) (sz : Nat) (k_h0_0_1_lo : 0 ≤ h0_0_1.toInt) (k_n_h0_0_0 : n_h0_0_0 ≤ 1000) (k_p_h0_0_0 : 1 ≤ n_h0_0_0) (k_h0_0_1_hi : h0_0_1.toInt ≤ (n_h0_0_0 : Int)) (k_h0_1_1_lo : 0 ≤ h0_1_1.toInt) (k_n_h0_1_0 : n_h0_1_0 ≤ 1000) (k_p_h0_1_0 : 1 ≤ n_h0_1_0) (k_h0_1_1_hi : h0_1_1.toInt ≤ (n_h0_1_0 : Int))  : Met l yX5_tryOne (Cond.code yX5_tryOne cX5_tryOne 5 none :: gG) { frames := 4, cells := 0, slots := 0, locals := 136 } (cPre D [(a_h_2, .int), (a_h0_0_0, .int), (a_h_3, .int), (a_h0_1_0, .int)] [(h, .inr (5, [.int h_0, .int h_1, .ref h_2, .ref h_3, .ref h_4, .ref h_5, .ref h_6])), (h_2, .inl (a_h_2, 3, .inl f_h_2)), (h0, .inr (9, [.ref h0_0, .ref h0_1, .int h0_2, .ref h0_3, .ref h0_4])), (h0_0, .inr (8, [.ref h0_0_0, .int h0_0_1])), (h0_0_0, .inl (a_h0_0_0, n_h0_0_0, .inl f_h0_0_0)), (h_3, .inl (a_h_3, 40, .inl f_h_3)), (h0_1, .inr (8, [.ref h0_1_0, .int h0_1_1])), (h0_1_0, .inl (a_h0_1_0, n_h0_1_0, .inl f_h0_1_0))] sz [.ref h, .ref h0, .int x1, .int x2, .int x3]) (va_Qv (fun (u : (Nat → Int32) × (Nat → Int32) × (Int32) × (Int32)) => match u with | (jX_C_h_2, jX_C_h_3, jX_F_h_0, jX_F_h_1) => True) (fun u t => cB D (va_A [(h, .inr (5, [.int h_0, .int h_1, .ref h_2, .ref h_3, .ref h_4, .ref h_5, .ref h_6])), (h_2, .inl (a_h_2, 3, .inl f_h_2)), (h0, .inr (9, [.ref h0_0, .ref h0_1, .int h0_2, .ref h0_3, .ref h0_4])), (h0_0, .inr (8, [.ref h0_0_0, .int h0_0_1])), (h0_0_0, .inl (a_h0_0_0, n_h0_0_0, .inl f_h0_0_0)), (h_3, .inl (a_h_3, 40, .inl f_h_3)), (h0_1, .inr (8, [.ref h0_1_0, .int h0_1_1])), (h0_1_0, .inl (a_h0_1_0, n_h0_1_0, .inl f_h0_1_0))] sz) ((fun (_ : (Nat → Int32) × (Nat → Int32) × (Int32) × (Int32)) => ([] : List (ClassId × FieldType))) u) ((fun (u : (Nat → Int32) × (Nat → Int32) × (Int32) × (Int32)) => match u with | (jX_C_h_2, jX_C_h_3, jX_F_h_0, jX_F_h_1) => ([(h, .inr (5, [.int jX_F_h_0, .int jX_F_h_1, .ref h_2, .ref h_3, .ref h_4, .ref h_5, .ref h_6])), (h_2, .inl (a_h_2, 3, .inl jX_C_h_2)), (h0, .inr (9, [.ref h0_0, .ref h0_1, .int h0_2, .ref h0_3, .ref h0_4])), (h0_0, .inr (8, [.ref h0_0_0, .int h0_0_1])), (h0_0_0, .inl (a_h0_0_0, n_h0_0_0, .inl f_h0_0_0)), (h_3, .inl (a_h_3, 40, .inl jX_C_h_3)), (h0_1, .inr (8, [.ref h0_1_0, .int h0_1_1])), (h0_1_0, .inl (a_h0_1_0, n_h0_1_0, .inl f_h0_1_0))] : va_W)) u) t) (va_A [(h, .inr (5, [.int h_0, .int h_1, .ref h_2, .ref h_3, .ref h_4, .ref h_5, .ref h_6])), (h_2, .inl (a_h_2, 3, .inl f_h_2)), (h0, .inr (9, [.ref h0_0, .ref h0_1, .int h0_2, .ref h0_3, .ref h0_4])), (h0_0, .inr (8, [.ref h0_0_0, .int h0_0_1])), (h0_0_0, .inl (a_h0_0_0, n_h0_0_0, .inl f_h0_0_0)), (h_3, .inl (a_h_3, 40, .inl f_h_3)), (h0_1, .inr (8, [.ref h0_1_0, .int h0_1_1])), (h0_1_0, .inl (a_h0_1_0, n_h0_1_0, .inl f_h0_1_0))] sz)) 0 0 (va_A [(h, .inr (5, [.int h_0, .int h_1, .ref h_2, .ref h_3, .ref h_4, .ref h_5, .ref h_6])), (h_2, .inl (a_h_2, 3, .inl f_h_2)), (h0, .inr (9, [.ref h0_0, .ref h0_1, .int h0_2, .ref h0_3, .ref h0_4])), (h0_0, .inr (8, [.ref h0_0_0, .int h0_0_1])), (h0_0_0, .inl (a_h0_0_0, n_h0_0_0, .inl f_h0_0_0)), (h_3, .inl (a_h_3, 40, .inl f_h_3)), (h0_1, .inr (8, [.ref h0_1_0, .int h0_1_1])), (h0_1_0, .inl (a_h0_1_0, n_h0_1_0, .inl f_h0_1_0))] sz) := by
  refine Met.ofW (cc := cX5_tryOne) (maxL := 5) (ret := none) (by decide) rfl ?_
  intro p e s m args below meth c s₁ B hml hv
  obtain ⟨rfl, aks, rfl, Wd⟩ := k_enter hv
  have C : CallFix p m c cX5_tryOne 5 s _ gG RX5 := ⟨B.exec, B.bytes, hml, findClass_of_methodNamed B.named, fun w h => atoms_spec (ws := Cond.code yX5_tryOne cX5_tryOne 5 none :: gG) B.pre w (List.mem_cons_of_mem _ h)⟩
  have hr := B.returns
  have hlk := B.notSynchronized
  generalize va_A [(h, .inr (5, [.int h_0, .int h_1, .ref h_2, .ref h_3, .ref h_4, .ref h_5, .ref h_6])), (h_2, .inl (a_h_2, 3, .inl f_h_2)), (h0, .inr (9, [.ref h0_0, .ref h0_1, .int h0_2, .ref h0_3, .ref h0_4])), (h0_0, .inr (8, [.ref h0_0_0, .int h0_0_1])), (h0_0_0, .inl (a_h0_0_0, n_h0_0_0, .inl f_h0_0_0)), (h_3, .inl (a_h_3, 40, .inl f_h_3)), (h0_1, .inr (8, [.ref h0_1_0, .int h0_1_1])), (h0_1_0, .inl (a_h0_1_0, n_h0_1_0, .inl f_h0_1_0))] s.heap.size = A at Wd ⊢
  refine k_locals (Nat.le_of_ble_eq_true rfl) [(0, .ref h), (1, .ref h0), (2, .int x1), (3, .int x2), (4, .int x3)] rfl (fun ls hl => ?_)
  refine lv_aload_n C.1 C.2.1 dX5_tryOne_0 rfl (lv_at hl 0 rfl) ?_
  refine k_get C Wd KX5 0 2 rfl (by decide) fl_X5_9 rfl dX5_tryOne_1 ?_
  refine lv_iconst (v := 0) C.1 C.2.1 dX5_tryOne_4 (by decide) ?_
  refine lv_iload_n C.1 C.2.1 dX5_tryOne_5 rfl (lv_at hl 2 rfl) ?_
  obtain ⟨f6, ef6⟩ : ∃ z : Nat → Int32, upd f_h_2 (0 : Int32).toNatClampNeg x1 = z := ⟨_, rfl⟩
  refine k_iast C Wd 1 0 [(h, .inr (5, [.int h_0, .int h_1, .ref h_2, .ref h_3, .ref h_4, .ref h_5, .ref h_6])), (h_2, .inl (a_h_2, 3, .inl f6)), (h0, .inr (9, [.ref h0_0, .ref h0_1, .int h0_2, .ref h0_3, .ref h0_4])), (h0_0, .inr (8, [.ref h0_0_0, .int h0_0_1])), (h0_0_0, .inl (a_h0_0_0, n_h0_0_0, .inl f_h0_0_0)), (h_3, .inl (a_h_3, 40, .inl f_h_3)), (h0_1, .inr (8, [.ref h0_1_0, .int h0_1_1])), (h0_1_0, .inl (a_h0_1_0, n_h0_1_0, .inl f_h0_1_0))] rfl rfl (vp_in_iff.mpr (by decide)) ef6 rfl dX5_tryOne_6 (fun H locs Wd => ?_)
  refine lv_aload_n C.1 C.2.1 dX5_tryOne_7 rfl (lv_at hl 0 rfl) ?_
  refine k_get C Wd KX5 0 2 rfl (by decide) fl_X5_9 rfl dX5_tryOne_8 ?_
  refine lv_iconst (v := 1) C.1 C.2.1 dX5_tryOne_11 (by decide) ?_
  refine lv_iload_n C.1 C.2.1 dX5_tryOne_12 rfl (lv_at hl 3 rfl) ?_
  obtain ⟨f13, ef13⟩ : ∃ z : Nat → Int32, upd f6 (1 : Int32).toNatClampNeg x2 = z := ⟨_, rfl⟩
  refine k_iast C Wd 1 0 [(h, .inr (5, [.int h_0, .int h_1, .ref h_2, .ref h_3, .ref h_4, .ref h_5, .ref h_6])), (h_2, .inl (a_h_2, 3, .inl f13)), (h0, .inr (9, [.ref h0_0, .ref h0_1, .int h0_2, .ref h0_3, .ref h0_4])), (h0_0, .inr (8, [.ref h0_0_0, .int h0_0_1])), (h0_0_0, .inl (a_h0_0_0, n_h0_0_0, .inl f_h0_0_0)), (h_3, .inl (a_h_3, 40, .inl f_h_3)), (h0_1, .inr (8, [.ref h0_1_0, .int h0_1_1])), (h0_1_0, .inl (a_h0_1_0, n_h0_1_0, .inl f_h0_1_0))] rfl rfl (vp_in_iff.mpr (by decide)) ef13 rfl dX5_tryOne_13 (fun H locs Wd => ?_)
  refine lv_aload_n C.1 C.2.1 dX5_tryOne_14 rfl (lv_at hl 0 rfl) ?_
  refine k_get C Wd KX5 0 2 rfl (by decide) fl_X5_9 rfl dX5_tryOne_15 ?_
  refine lv_iconst (v := 2) C.1 C.2.1 dX5_tryOne_18 (by decide) ?_
  refine lv_iload C.1 C.2.1 dX5_tryOne_19 (lv_at hl 4 rfl) ?_
  obtain ⟨f21, ef21⟩ : ∃ z : Nat → Int32, upd f13 (2 : Int32).toNatClampNeg x3 = z := ⟨_, rfl⟩
  refine k_iast C Wd 1 0 [(h, .inr (5, [.int h_0, .int h_1, .ref h_2, .ref h_3, .ref h_4, .ref h_5, .ref h_6])), (h_2, .inl (a_h_2, 3, .inl f21)), (h0, .inr (9, [.ref h0_0, .ref h0_1, .int h0_2, .ref h0_3, .ref h0_4])), (h0_0, .inr (8, [.ref h0_0_0, .int h0_0_1])), (h0_0_0, .inl (a_h0_0_0, n_h0_0_0, .inl f_h0_0_0)), (h_3, .inl (a_h_3, 40, .inl f_h_3)), (h0_1, .inr (8, [.ref h0_1_0, .int h0_1_1])), (h0_1_0, .inl (a_h0_1_0, n_h0_1_0, .inl f_h0_1_0))] rfl rfl (vp_in_iff.mpr (by decide)) ef21 rfl dX5_tryOne_21 (fun H locs Wd => ?_)
  refine lv_aload_n C.1 C.2.1 dX5_tryOne_22 rfl (lv_at hl 0 rfl) ?_
  refine lv_aload_n C.1 C.2.1 dX5_tryOne_23 rfl (lv_at hl 1 rfl) ?_
  refine k_get C Wd KX9 2 0 rfl (by decide) fl_X5_46 rfl dX5_tryOne_24 ?_
  refine k_ci Wd [3, 4, 0, 5, 1] [2, 6, 7] rfl (wr := [(h0, .inr (9, [.ref h0_0, .ref h0_1, .int h0_2, .ref h0_3, .ref h0_4])), (h0_1, .inr (8, [.ref h0_1_0, .int h0_1_1])), (h0_1_0, .inl (a_h0_1_0, n_h0_1_0, .inl f_h0_1_0))]) rfl (by decide) (by decide) (cells' := 0) (slots' := 0) (by decide) (by decide) (k_runV (rest := []) C aks Wd cs_X5_50 (sX5_valueOf l D h h0_0 h0_0_0 h0_0_1 n_h0_0_0 a_h0_0_0 f_h0_0_0 h_0 h_1 h_2 h_3 h_4 h_5 h_6 a_h_3 f_h_3 a_h_2 f21 _ (by omega) (by omega) (by omega) (by omega)) [3, 4, 0, 5, 1] rfl (by decide) [1, 2, 0] rfl 0 5 rfl rfl rfl rfl rfl ⟨(Nat.le_of_ble_eq_true rfl), (Nat.le_of_ble_eq_true rfl)⟩ hl.1 rfl rfl (Nat.le_of_ble_eq_true rfl) ⟨(Nat.le_of_ble_eq_true rfl), (Nat.le_of_ble_eq_true rfl)⟩ dX5_tryOne_27) (fun r27 s27_0 H locs w27 Wd => ?_)
  have Wd : wX D [(a_h_2, .int), (a_h0_0_0, .int), (a_h_3, .int), (a_h0_1_0, .int)] s [(h, .inr (5, [.int h_0, .int h_1, .ref h_2, .ref h_3, .ref h_4, .ref h_5, .ref h_6])), (h_2, .inl (a_h_2, 3, .inl f21)), (h0, .inr (9, [.ref h0_0, .ref h0_1, .int h0_2, .ref h0_3, .ref h0_4])), (h0_0, .inr (8, [.ref h0_0_0, .int h0_0_1])), (h0_0_0, .inl (a_h0_0_0, n_h0_0_0, .inl f_h0_0_0)), (h_3, .inl (a_h_3, 40, .inl s27_0)), (h0_1, .inr (8, [.ref h0_1_0, .int h0_1_1])), (h0_1_0, .inl (a_h0_1_0, n_h0_1_0, .inl f_h0_1_0))] _ A s.heap _ := k_sub Wd [5, 7, 0, 3, 4, 6, 1, 2] rfl (by decide) [0, 1, 2, 3] rfl
  refine lv_aload_n C.1 C.2.1 dX5_tryOne_30 rfl (lv_at hl 0 rfl) ?_
  refine lv_aload_n C.1 C.2.1 dX5_tryOne_31 rfl (lv_at hl 1 rfl) ?_
  refine k_get C Wd KX9 2 1 rfl (by decide) fl_X5_54 rfl dX5_tryOne_32 ?_
  refine k_ci Wd [6, 7, 0, 5, 1] [2, 3, 4] rfl (wr := [(h0, .inr (9, [.ref h0_0, .ref h0_1, .int h0_2, .ref h0_3, .ref h0_4])), (h0_0, .inr (8, [.ref h0_0_0, .int h0_0_1])), (h0_0_0, .inl (a_h0_0_0, n_h0_0_0, .inl f_h0_0_0))]) rfl (by decide) (by decide) (cells' := 0) (slots' := 0) (by decide) (by decide) (k_runV (rest := [.int r27]) C aks Wd cs_X5_50 (sX5_valueOf l D h h0_1 h0_1_0 h0_1_1 n_h0_1_0 a_h0_1_0 f_h0_1_0 h_0 h_1 h_2 h_3 h_4 h_5 h_6 a_h_3 s27_0 a_h_2 f21 _ (by omega) (by omega) (by omega) (by omega)) [6, 7, 0, 5, 1] rfl (by decide) [3, 2, 0] rfl 0 5 rfl rfl rfl rfl rfl ⟨(Nat.le_of_ble_eq_true rfl), (Nat.le_of_ble_eq_true rfl)⟩ hl.1 rfl rfl (Nat.le_of_ble_eq_true rfl) ⟨(Nat.le_of_ble_eq_true rfl), (Nat.le_of_ble_eq_true rfl)⟩ dX5_tryOne_35) (fun r35 s35_0 H locs w35 Wd => ?_)
  have Wd : wX D [(a_h_2, .int), (a_h0_0_0, .int), (a_h_3, .int), (a_h0_1_0, .int)] s [(h, .inr (5, [.int h_0, .int h_1, .ref h_2, .ref h_3, .ref h_4, .ref h_5, .ref h_6])), (h_2, .inl (a_h_2, 3, .inl f21)), (h0, .inr (9, [.ref h0_0, .ref h0_1, .int h0_2, .ref h0_3, .ref h0_4])), (h0_0, .inr (8, [.ref h0_0_0, .int h0_0_1])), (h0_0_0, .inl (a_h0_0_0, n_h0_0_0, .inl f_h0_0_0)), (h_3, .inl (a_h_3, 40, .inl s35_0)), (h0_1, .inr (8, [.ref h0_1_0, .int h0_1_1])), (h0_1_0, .inl (a_h0_1_0, n_h0_1_0, .inl f_h0_1_0))] _ A s.heap _ := k_sub Wd [5, 7, 0, 1, 2, 6, 3, 4] rfl (by decide) [0, 1, 2, 3] rfl
  refine lv_icmp_ne (tgt := 42) C.1 C.2.1 dX5_tryOne_38 (by decide) (fun c38 => ?_) (fun c38 => ?_)
  · have i38 : ¬ r27.toInt = r35.toInt := kz_ne c38
    refine lv_aload_n C.1 C.2.1 dX5_tryOne_42 rfl (lv_at hl 0 rfl) ?_
    refine k_get C Wd KX5 0 1 rfl (by decide) fl_X5_33 rfl dX5_tryOne_43 ?_
    refine k_cutA (fun (j65_F_h_0 : Int32) H locs ls => wX D [(a_h_2, .int), (a_h0_0_0, .int), (a_h_3, .int), (a_h0_1_0, .int)] s [(h, .inr (5, [.int j65_F_h_0, .int h_1, .ref h_2, .ref h_3, .ref h_4, .ref h_5, .ref h_6])), (h_2, .inl (a_h_2, 3, .inl f21)), (h0, .inr (9, [.ref h0_0, .ref h0_1, .int h0_2, .ref h0_3, .ref h0_4])), (h0_0, .inr (8, [.ref h0_0_0, .int h0_0_1])), (h0_0_0, .inl (a_h0_0_0, n_h0_0_0, .inl f_h0_0_0)), (h_3, .inl (a_h_3, 40, .inl s35_0)), (h0_1, .inr (8, [.ref h0_1_0, .int h0_1_1])), (h0_1_0, .inl (a_h0_1_0, n_h0_1_0, .inl f_h0_1_0))] H A s.heap locs ∧ lv_has ls 5 [(0, .ref h), (1, .ref h0), (2, .int x1), (3, .int x2), (4, .int x3)]) (fun (j65_F_h_0 : Int32) ls => F0 m 65 ls []) (fun j65_F_h_0 H locs ls hi => ?_) (fun J65 => ?_)
    · obtain ⟨Wd, hl⟩ := hi
      refine lv_aload_n C.1 C.2.1 dX5_tryOne_65 rfl (lv_at hl 0 rfl) ?_
      refine lv_dup C.1 C.2.1 dX5_tryOne_66 rfl ?_
      refine k_get C Wd KX5 0 1 rfl (by decide) fl_X5_33 rfl dX5_tryOne_67 ?_
      refine lv_iconst (v := 1) C.1 C.2.1 dX5_tryOne_70 (by decide) ?_
      obtain ⟨v71, ev71⟩ : ∃ z : Int32, h_1 + 1 = z := ⟨_, rfl⟩
      refine k_iadd (v := v71) C ev71 dX5_tryOne_71 ?_
      refine k_put C Wd KX5 0 1 [(h, .inr (5, [.int j65_F_h_0, .int v71, .ref h_2, .ref h_3, .ref h_4, .ref h_5, .ref h_6])), (h_2, .inl (a_h_2, 3, .inl f21)), (h0, .inr (9, [.ref h0_0, .ref h0_1, .int h0_2, .ref h0_3, .ref h0_4])), (h0_0, .inr (8, [.ref h0_0_0, .int h0_0_1])), (h0_0_0, .inl (a_h0_0_0, n_h0_0_0, .inl f_h0_0_0)), (h_3, .inl (a_h_3, 40, .inl s35_0)), (h0_1, .inr (8, [.ref h0_1_0, .int h0_1_1])), (h0_1_0, .inl (a_h0_1_0, n_h0_1_0, .inl f_h0_1_0))] rfl (by decide) fl_X5_33 rfl rfl rfl (Nat.le_of_ble_eq_true rfl) rfl dX5_tryOne_72 (fun H locs Wd => ?_)
      exact k_vret C hr hlk Wd (f21, s35_0, j65_F_h_0, v71) trivial [0, 1, 2, 3, 4, 5, 6, 7] rfl (by decide) [] rfl (by decide) (by decide) dX5_tryOne_75
    refine lv_if_ne (tgt := 65) C.1 C.2.1 dX5_tryOne_46 (by decide) (fun c46 => ?_) (fun c46 => ?_)
    · have i46 : ¬ h_1.toInt = 0 := kz_ne c46
      exact J65 h_0 _ _ _ ⟨Wd, lv_sub hl [0, 1, 2, 3, 4] rfl⟩
    · have i46 : h_1.toInt = 0 := kz_eq c46
      refine lv_aload_n C.1 C.2.1 dX5_tryOne_49 rfl (lv_at hl 0 rfl) ?_
      refine lv_iload_n C.1 C.2.1 dX5_tryOne_50 rfl (lv_at hl 2 rfl) ?_
      refine lv_bipush (v := 16) C.1 C.2.1 dX5_tryOne_51 (by decide) ?_
      obtain ⟨v53, ev53⟩ : ∃ z : Int32, x1 * 16 = z := ⟨_, rfl⟩
      refine k_imul (v := v53) C ev53 dX5_tryOne_53 ?_
      refine lv_iload_n C.1 C.2.1 dX5_tryOne_54 rfl (lv_at hl 3 rfl) ?_
      obtain ⟨v55, ev55⟩ : ∃ z : Int32, v53 + x2 = z := ⟨_, rfl⟩
      refine k_iadd (v := v55) C ev55 dX5_tryOne_55 ?_
      refine lv_bipush (v := 16) C.1 C.2.1 dX5_tryOne_56 (by decide) ?_
      obtain ⟨v58, ev58⟩ : ∃ z : Int32, v55 * 16 = z := ⟨_, rfl⟩
      refine k_imul (v := v58) C ev58 dX5_tryOne_58 ?_
      refine lv_iload C.1 C.2.1 dX5_tryOne_59 (lv_at hl 4 rfl) ?_
      obtain ⟨v61, ev61⟩ : ∃ z : Int32, v58 + x3 = z := ⟨_, rfl⟩
      refine k_iadd (v := v61) C ev61 dX5_tryOne_61 ?_
      refine k_put C Wd KX5 0 0 [(h, .inr (5, [.int v61, .int h_1, .ref h_2, .ref h_3, .ref h_4, .ref h_5, .ref h_6])), (h_2, .inl (a_h_2, 3, .inl f21)), (h0, .inr (9, [.ref h0_0, .ref h0_1, .int h0_2, .ref h0_3, .ref h0_4])), (h0_0, .inr (8, [.ref h0_0_0, .int h0_0_1])), (h0_0_0, .inl (a_h0_0_0, n_h0_0_0, .inl f_h0_0_0)), (h_3, .inl (a_h_3, 40, .inl s35_0)), (h0_1, .inr (8, [.ref h0_1_0, .int h0_1_1])), (h0_1_0, .inl (a_h0_1_0, n_h0_1_0, .inl f_h0_1_0))] rfl (by decide) fl_X5_29 rfl rfl rfl (Nat.le_of_ble_eq_true rfl) rfl dX5_tryOne_62 (fun H locs Wd => ?_)
      exact J65 v61 _ _ _ ⟨Wd, lv_sub hl [0, 1, 2, 3, 4] rfl⟩
  · have i38 : r27.toInt = r35.toInt := kz_eq c38
    exact k_vret C hr hlk Wd (f21, s35_0, h_0, h_1) trivial [0, 1, 2, 3, 4, 5, 6, 7] rfl (by decide) [] rfl (by decide) (by decide) dX5_tryOne_41
set_option maxHeartbeats 4000000 in
set_option maxRecDepth 100000 in
theorem sX5_tryAll (l : Launch) (D : va_G) (h : Nat) (h0 : Nat) (h_0 : Int32) (h_1 : Int32) (h_2 : Nat) (h_3 : Nat) (h_4 : Nat) (h_5 : Nat) (h_6 : Nat) (h0_0 : Nat) (h0_1 : Nat) (h0_2 : Int32) (h0_3 : Nat) (h0_4 : Nat) (a_h_2 : ClassId) (f_h_2 : Nat → Int32) (h0_0_0 : Nat) (h0_0_1 : Int32) (n_h0_0_0 : Nat) (a_h0_0_0 : ClassId) (f_h0_0_0 : Nat → Int32) (a_h_3 : ClassId) (f_h_3 : Nat → Int32) (h0_1_0 : Nat) (h0_1_1 : Int32) (n_h0_1_0 : Nat) (a_h0_1_0 : ClassId) (f_h0_1_0 : Nat → Int32) (sz : Nat) (k_h0_0_1_lo : 0 ≤ h0_0_1.toInt) (k_n_h0_0_0 : n_h0_0_0 ≤ 1000) (k_p_h0_0_0 : 1 ≤ n_h0_0_0) (k_h0_0_1_hi : h0_0_1.toInt ≤ (n_h0_0_0 : Int)) (k_h0_1_1_lo : 0 ≤ h0_1_1.toInt) (k_n_h0_1_0 : n_h0_1_0 ≤ 1000) (k_p_h0_1_0 : 1 ≤ n_h0_1_0) (k_h0_1_1_hi : h0_1_1.toInt ≤ (n_h0_1_0 : Int))  : Met l yX5_tryAll (Cond.code yX5_tryAll cX5_tryAll 8 none :: gG) { frames := 5, cells := 0, slots := 0, locals := 160 } (cPre D [(a_h_2, .int), (a_h0_0_0, .int), (a_h_3, .int), (a_h0_1_0, .int)] [(h, .inr (5, [.int h_0, .int h_1, .ref h_2, .ref h_3, .ref h_4, .ref h_5, .ref h_6])), (h0, .inr (9, [.ref h0_0, .ref h0_1, .int h0_2, .ref h0_3, .ref h0_4])), (h_2, .inl (a_h_2, 3, .inl f_h_2)), (h0_0, .inr (8, [.ref h0_0_0, .int h0_0_1])), (h0_0_0, .inl (a_h0_0_0, n_h0_0_0, .inl f_h0_0_0)), (h_3, .inl (a_h_3, 40, .inl f_h_3)), (h0_1, .inr (8, [.ref h0_1_0, .int h0_1_1])), (h0_1_0, .inl (a_h0_1_0, n_h0_1_0, .inl f_h0_1_0))] sz [.ref h, .ref h0]) (va_Qv (fun (u : (Int32) × (Int32) × (Nat → Int32) × (Nat → Int32)) => match u with | (jX_F_h_0, jX_F_h_1, jX_C_h_2, jX_C_h_3) => True) (fun u t => cB D (va_A [(h, .inr (5, [.int h_0, .int h_1, .ref h_2, .ref h_3, .ref h_4, .ref h_5, .ref h_6])), (h0, .inr (9, [.ref h0_0, .ref h0_1, .int h0_2, .ref h0_3, .ref h0_4])), (h_2, .inl (a_h_2, 3, .inl f_h_2)), (h0_0, .inr (8, [.ref h0_0_0, .int h0_0_1])), (h0_0_0, .inl (a_h0_0_0, n_h0_0_0, .inl f_h0_0_0)), (h_3, .inl (a_h_3, 40, .inl f_h_3)), (h0_1, .inr (8, [.ref h0_1_0, .int h0_1_1])), (h0_1_0, .inl (a_h0_1_0, n_h0_1_0, .inl f_h0_1_0))] sz) ((fun (_ : (Int32) × (Int32) × (Nat → Int32) × (Nat → Int32)) => ([] : List (ClassId × FieldType))) u) ((fun (u : (Int32) × (Int32) × (Nat → Int32) × (Nat → Int32)) => match u with | (jX_F_h_0, jX_F_h_1, jX_C_h_2, jX_C_h_3) => ([(h, .inr (5, [.int jX_F_h_0, .int jX_F_h_1, .ref h_2, .ref h_3, .ref h_4, .ref h_5, .ref h_6])), (h0, .inr (9, [.ref h0_0, .ref h0_1, .int h0_2, .ref h0_3, .ref h0_4])), (h_2, .inl (a_h_2, 3, .inl jX_C_h_2)), (h0_0, .inr (8, [.ref h0_0_0, .int h0_0_1])), (h0_0_0, .inl (a_h0_0_0, n_h0_0_0, .inl f_h0_0_0)), (h_3, .inl (a_h_3, 40, .inl jX_C_h_3)), (h0_1, .inr (8, [.ref h0_1_0, .int h0_1_1])), (h0_1_0, .inl (a_h0_1_0, n_h0_1_0, .inl f_h0_1_0))] : va_W)) u) t) (va_A [(h, .inr (5, [.int h_0, .int h_1, .ref h_2, .ref h_3, .ref h_4, .ref h_5, .ref h_6])), (h0, .inr (9, [.ref h0_0, .ref h0_1, .int h0_2, .ref h0_3, .ref h0_4])), (h_2, .inl (a_h_2, 3, .inl f_h_2)), (h0_0, .inr (8, [.ref h0_0_0, .int h0_0_1])), (h0_0_0, .inl (a_h0_0_0, n_h0_0_0, .inl f_h0_0_0)), (h_3, .inl (a_h_3, 40, .inl f_h_3)), (h0_1, .inr (8, [.ref h0_1_0, .int h0_1_1])), (h0_1_0, .inl (a_h0_1_0, n_h0_1_0, .inl f_h0_1_0))] sz)) 0 0 (va_A [(h, .inr (5, [.int h_0, .int h_1, .ref h_2, .ref h_3, .ref h_4, .ref h_5, .ref h_6])), (h0, .inr (9, [.ref h0_0, .ref h0_1, .int h0_2, .ref h0_3, .ref h0_4])), (h_2, .inl (a_h_2, 3, .inl f_h_2)), (h0_0, .inr (8, [.ref h0_0_0, .int h0_0_1])), (h0_0_0, .inl (a_h0_0_0, n_h0_0_0, .inl f_h0_0_0)), (h_3, .inl (a_h_3, 40, .inl f_h_3)), (h0_1, .inr (8, [.ref h0_1_0, .int h0_1_1])), (h0_1_0, .inl (a_h0_1_0, n_h0_1_0, .inl f_h0_1_0))] sz) := by
  refine Met.ofW (cc := cX5_tryAll) (maxL := 8) (ret := none) (by decide) rfl ?_
  intro p e s m args below meth c s₁ B hml hv
  obtain ⟨rfl, aks, rfl, Wd⟩ := k_enter hv
  have C : CallFix p m c cX5_tryAll 8 s _ gG RX5 := ⟨B.exec, B.bytes, hml, findClass_of_methodNamed B.named, fun w h => atoms_spec (ws := Cond.code yX5_tryAll cX5_tryAll 8 none :: gG) B.pre w (List.mem_cons_of_mem _ h)⟩
  have hr := B.returns
  have hlk := B.notSynchronized
  generalize va_A [(h, .inr (5, [.int h_0, .int h_1, .ref h_2, .ref h_3, .ref h_4, .ref h_5, .ref h_6])), (h0, .inr (9, [.ref h0_0, .ref h0_1, .int h0_2, .ref h0_3, .ref h0_4])), (h_2, .inl (a_h_2, 3, .inl f_h_2)), (h0_0, .inr (8, [.ref h0_0_0, .int h0_0_1])), (h0_0_0, .inl (a_h0_0_0, n_h0_0_0, .inl f_h0_0_0)), (h_3, .inl (a_h_3, 40, .inl f_h_3)), (h0_1, .inr (8, [.ref h0_1_0, .int h0_1_1])), (h0_1_0, .inl (a_h0_1_0, n_h0_1_0, .inl f_h0_1_0))] s.heap.size = A at Wd ⊢
  refine k_locals (Nat.le_of_ble_eq_true rfl) [(0, .ref h), (1, .ref h0)] rfl (fun ls hl => ?_)
  refine lv_aload_n C.1 C.2.1 dX5_tryAll_0 rfl (lv_at hl 0 rfl) ?_
  refine lv_iconst (v := (-1)) C.1 C.2.1 dX5_tryAll_1 (by decide) ?_
  refine k_put C Wd KX5 0 0 [(h, .inr (5, [.int (-1), .int h_1, .ref h_2, .ref h_3, .ref h_4, .ref h_5, .ref h_6])), (h0, .inr (9, [.ref h0_0, .ref h0_1, .int h0_2, .ref h0_3, .ref h0_4])), (h_2, .inl (a_h_2, 3, .inl f_h_2)), (h0_0, .inr (8, [.ref h0_0_0, .int h0_0_1])), (h0_0_0, .inl (a_h0_0_0, n_h0_0_0, .inl f_h0_0_0)), (h_3, .inl (a_h_3, 40, .inl f_h_3)), (h0_1, .inr (8, [.ref h0_1_0, .int h0_1_1])), (h0_1_0, .inl (a_h0_1_0, n_h0_1_0, .inl f_h0_1_0))] rfl (by decide) fl_X5_29 rfl rfl rfl (Nat.le_of_ble_eq_true rfl) rfl dX5_tryAll_2 (fun H locs Wd => ?_)
  refine lv_aload_n C.1 C.2.1 dX5_tryAll_5 rfl (lv_at hl 0 rfl) ?_
  refine lv_iconst (v := 0) C.1 C.2.1 dX5_tryAll_6 (by decide) ?_
  refine k_put C Wd KX5 0 1 [(h, .inr (5, [.int (-1), .int 0, .ref h_2, .ref h_3, .ref h_4, .ref h_5, .ref h_6])), (h0, .inr (9, [.ref h0_0, .ref h0_1, .int h0_2, .ref h0_3, .ref h0_4])), (h_2, .inl (a_h_2, 3, .inl f_h_2)), (h0_0, .inr (8, [.ref h0_0_0, .int h0_0_1])), (h0_0_0, .inl (a_h0_0_0, n_h0_0_0, .inl f_h0_0_0)), (h_3, .inl (a_h_3, 40, .inl f_h_3)), (h0_1, .inr (8, [.ref h0_1_0, .int h0_1_1])), (h0_1_0, .inl (a_h0_1_0, n_h0_1_0, .inl f_h0_1_0))] rfl (by decide) fl_X5_33 rfl rfl rfl (Nat.le_of_ble_eq_true rfl) rfl dX5_tryAll_7 (fun H locs Wd => ?_)
  refine lv_aload_n C.1 C.2.1 dX5_tryAll_10 rfl (lv_at hl 1 rfl) ?_
  refine lv_iconst (v := 0) C.1 C.2.1 dX5_tryAll_11 (by decide) ?_
  refine k_pi (k_runV (rest := []) C aks Wd cs_X5_36 (sX9_hasLetter l D h0 0 h0_0 h0_1 h0_2 h0_3 h0_4 _ ) [1] rfl (by decide) [] rfl 1 9 rfl rfl rfl rfl rfl ⟨(Nat.le_of_ble_eq_true rfl), (Nat.le_of_ble_eq_true rfl)⟩ hl.1 rfl rfl (Nat.le_of_ble_eq_true rfl) ⟨(Nat.le_of_ble_eq_true rfl), (Nat.le_of_ble_eq_true rfl)⟩ dX5_tryAll_12) (fun r12 w12 => ?_)
  obtain ⟨g12_0, g12_1⟩ := w12
  have g12_0 : 0 ≤ r12.toInt := g12_0
  have g12_1 : r12.toInt ≤ 1 := g12_1
  refine k_cutA (fun (j24_S_0 : Int32) H locs ls => 1 ≤ j24_S_0.toInt ∧ j24_S_0.toInt ≤ 16 ∧ r12.toInt + 1 ≤ j24_S_0.toInt ∧ j24_S_0.toInt ≤ r12.toInt + 15 ∧ wX D [(a_h_2, .int), (a_h0_0_0, .int), (a_h_3, .int), (a_h0_1_0, .int)] s [(h, .inr (5, [.int (-1), .int 0, .ref h_2, .ref h_3, .ref h_4, .ref h_5, .ref h_6])), (h0, .inr (9, [.ref h0_0, .ref h0_1, .int h0_2, .ref h0_3, .ref h0_4])), (h_2, .inl (a_h_2, 3, .inl f_h_2)), (h0_0, .inr (8, [.ref h0_0_0, .int h0_0_1])), (h0_0_0, .inl (a_h0_0_0, n_h0_0_0, .inl f_h0_0_0)), (h_3, .inl (a_h_3, 40, .inl f_h_3)), (h0_1, .inr (8, [.ref h0_1_0, .int h0_1_1])), (h0_1_0, .inl (a_h0_1_0, n_h0_1_0, .inl f_h0_1_0))] H A s.heap locs ∧ lv_has ls 8 [(0, .ref h), (1, .ref h0)]) (fun (j24_S_0 : Int32) ls => F0 m 24 ls [.int j24_S_0]) (fun j24_S_0 H locs ls hi => ?_) (fun J24 => ?_)
  · obtain ⟨i24_0, i24_1, i24_2, i24_3, Wd, hl⟩ := hi
    refine lv_istore_n (lv' := [(2, .int j24_S_0), (0, .ref h), (1, .ref h0)]) C.1 C.2.1 dX5_tryAll_24 rfl hl (by decide) rfl (fun ls hl => ?_)
    refine lv_aload_n C.1 C.2.1 dX5_tryAll_25 rfl (lv_at hl 2 rfl) ?_
    refine lv_iconst (v := 1) C.1 C.2.1 dX5_tryAll_26 (by decide) ?_
    refine k_pi (k_runV (rest := []) C aks Wd cs_X5_36 (sX9_hasLetter l D h0 1 h0_0 h0_1 h0_2 h0_3 h0_4 _ ) [1] rfl (by decide) [] rfl 1 9 rfl rfl rfl rfl rfl ⟨(Nat.le_of_ble_eq_true rfl), (Nat.le_of_ble_eq_true rfl)⟩ hl.1 rfl rfl (Nat.le_of_ble_eq_true rfl) ⟨(Nat.le_of_ble_eq_true rfl), (Nat.le_of_ble_eq_true rfl)⟩ dX5_tryAll_27) (fun r27 w27 => ?_)
    obtain ⟨g27_0, g27_1⟩ := w27
    have g27_0 : 0 ≤ r27.toInt := g27_0
    have g27_1 : r27.toInt ≤ 1 := g27_1
    refine k_cutA (fun (j39_S_0 : Int32) H locs ls => 1 ≤ j39_S_0.toInt ∧ j39_S_0.toInt ≤ 16 ∧ r27.toInt + 1 ≤ j39_S_0.toInt ∧ j39_S_0.toInt ≤ r27.toInt + 15 ∧ wX D [(a_h_2, .int), (a_h0_0_0, .int), (a_h_3, .int), (a_h0_1_0, .int)] s [(h, .inr (5, [.int (-1), .int 0, .ref h_2, .ref h_3, .ref h_4, .ref h_5, .ref h_6])), (h0, .inr (9, [.ref h0_0, .ref h0_1, .int h0_2, .ref h0_3, .ref h0_4])), (h_2, .inl (a_h_2, 3, .inl f_h_2)), (h0_0, .inr (8, [.ref h0_0_0, .int h0_0_1])), (h0_0_0, .inl (a_h0_0_0, n_h0_0_0, .inl f_h0_0_0)), (h_3, .inl (a_h_3, 40, .inl f_h_3)), (h0_1, .inr (8, [.ref h0_1_0, .int h0_1_1])), (h0_1_0, .inl (a_h0_1_0, n_h0_1_0, .inl f_h0_1_0))] H A s.heap locs ∧ lv_has ls 8 [(2, .int j24_S_0), (0, .ref h), (1, .ref h0)]) (fun (j39_S_0 : Int32) ls => F0 m 39 ls [.int j39_S_0]) (fun j39_S_0 H locs ls hi => ?_) (fun J39 => ?_)
    · obtain ⟨i39_0, i39_1, i39_2, i39_3, Wd, hl⟩ := hi
      refine lv_istore_n (lv' := [(3, .int j39_S_0), (2, .int j24_S_0), (0, .ref h), (1, .ref h0)]) C.1 C.2.1 dX5_tryAll_39 rfl hl (by decide) rfl (fun ls hl => ?_)
      refine lv_aload_n C.1 C.2.1 dX5_tryAll_40 rfl (lv_at hl 3 rfl) ?_
      refine lv_iconst (v := 2) C.1 C.2.1 dX5_tryAll_41 (by decide) ?_
      refine k_pi (k_runV (rest := []) C aks Wd cs_X5_36 (sX9_hasLetter l D h0 2 h0_0 h0_1 h0_2 h0_3 h0_4 _ ) [1] rfl (by decide) [] rfl 1 9 rfl rfl rfl rfl rfl ⟨(Nat.le_of_ble_eq_true rfl), (Nat.le_of_ble_eq_true rfl)⟩ hl.1 rfl rfl (Nat.le_of_ble_eq_true rfl) ⟨(Nat.le_of_ble_eq_true rfl), (Nat.le_of_ble_eq_true rfl)⟩ dX5_tryAll_42) (fun r42 w42 => ?_)
      obtain ⟨g42_0, g42_1⟩ := w42
      have g42_0 : 0 ≤ r42.toInt := g42_0
      have g42_1 : r42.toInt ≤ 1 := g42_1
      refine k_cutA (fun (j54_S_0 : Int32) H locs ls => 1 ≤ j54_S_0.toInt ∧ j54_S_0.toInt ≤ 16 ∧ r42.toInt + 1 ≤ j54_S_0.toInt ∧ j54_S_0.toInt ≤ r42.toInt + 15 ∧ wX D [(a_h_2, .int), (a_h0_0_0, .int), (a_h_3, .int), (a_h0_1_0, .int)] s [(h, .inr (5, [.int (-1), .int 0, .ref h_2, .ref h_3, .ref h_4, .ref h_5, .ref h_6])), (h0, .inr (9, [.ref h0_0, .ref h0_1, .int h0_2, .ref h0_3, .ref h0_4])), (h_2, .inl (a_h_2, 3, .inl f_h_2)), (h0_0, .inr (8, [.ref h0_0_0, .int h0_0_1])), (h0_0_0, .inl (a_h0_0_0, n_h0_0_0, .inl f_h0_0_0)), (h_3, .inl (a_h_3, 40, .inl f_h_3)), (h0_1, .inr (8, [.ref h0_1_0, .int h0_1_1])), (h0_1_0, .inl (a_h0_1_0, n_h0_1_0, .inl f_h0_1_0))] H A s.heap locs ∧ lv_has ls 8 [(3, .int j39_S_0), (2, .int j24_S_0), (0, .ref h), (1, .ref h0)]) (fun (j54_S_0 : Int32) ls => F0 m 54 ls [.int j54_S_0]) (fun j54_S_0 H locs ls hi => ?_) (fun J54 => ?_)
      · obtain ⟨i54_0, i54_1, i54_2, i54_3, Wd, hl⟩ := hi
        refine lv_istore (lv' := [(4, .int j54_S_0), (3, .int j39_S_0), (2, .int j24_S_0), (0, .ref h), (1, .ref h0)]) C.1 C.2.1 dX5_tryAll_54 hl (by decide) rfl (fun ls hl => ?_)
        refine lv_iconst (v := 0) C.1 C.2.1 dX5_tryAll_56 (by decide) ?_
        refine lv_istore (lv' := [(5, .int 0), (4, .int j54_S_0), (3, .int j39_S_0), (2, .int j24_S_0), (0, .ref h), (1, .ref h0)]) C.1 C.2.1 dX5_tryAll_57 hl (by decide) rfl (fun ls hl => ?_)
        refine k_loopA (fun (u : (Nat → Int32) × (Nat → Int32) × (Int32) × (Int32) × (Int32)) H locs ls => match u with | (j59_C_h_2, j59_C_h_3, j59_F_h_0, j59_F_h_1, j59_L_5) => 0 ≤ j59_L_5.toInt ∧ j59_L_5.toInt ≤ 16 ∧ j59_L_5.toInt ≤ j24_S_0.toInt ∧ wX D [(a_h_2, .int), (a_h0_0_0, .int), (a_h_3, .int), (a_h0_1_0, .int)] s [(h, .inr (5, [.int j59_F_h_0, .int j59_F_h_1, .ref h_2, .ref h_3, .ref h_4, .ref h_5, .ref h_6])), (h0, .inr (9, [.ref h0_0, .ref h0_1, .int h0_2, .ref h0_3, .ref h0_4])), (h_2, .inl (a_h_2, 3, .inl j59_C_h_2)), (h0_0, .inr (8, [.ref h0_0_0, .int h0_0_1])), (h0_0_0, .inl (a_h0_0_0, n_h0_0_0, .inl f_h0_0_0)), (h_3, .inl (a_h_3, 40, .inl j59_C_h_3)), (h0_1, .inr (8, [.ref h0_1_0, .int h0_1_1])), (h0_1_0, .inl (a_h0_1_0, n_h0_1_0, .inl f_h0_1_0))] H A s.heap locs ∧ lv_has ls 8 [(5, .int j59_L_5), (4, .int j54_S_0), (3, .int j39_S_0), (2, .int j24_S_0), (0, .ref h), (1, .ref h0)]) (fun (u : (Nat → Int32) × (Nat → Int32) × (Int32) × (Int32) × (Int32)) ls => match u with | (j59_C_h_2, j59_C_h_3, j59_F_h_0, j59_F_h_1, j59_L_5) => F0 m 59 ls []) (fun (u : (Nat → Int32) × (Nat → Int32) × (Int32) × (Int32) × (Int32)) => match u with | (j59_C_h_2, j59_C_h_3, j59_F_h_0, j59_F_h_1, j59_L_5) => (17 - j59_L_5.toInt).toNat) (fun u H locs ls hi ih59 => ?_) (f_h_2, f_h_3, (-1), 0, 0) _ _ _ ⟨by have zq0 : (0 : Int32).toInt = 0 := (by decide); omega, by have zq0 : (0 : Int32).toInt = 0 := (by decide); omega, by have zq0 : (0 : Int32).toInt = 0 := (by decide); omega, Wd, lv_sub hl [0, 1, 2, 3, 4, 5] rfl⟩
        obtain ⟨j59_C_h_2, j59_C_h_3, j59_F_h_0, j59_F_h_1, j59_L_5⟩ := u
        obtain ⟨i59_0, i59_1, i59_2, Wd, hl⟩ := hi
        refine lv_iload C.1 C.2.1 dX5_tryAll_59 (lv_at hl 0 rfl) ?_
        refine lv_iload_n C.1 C.2.1 dX5_tryAll_61 rfl (lv_at hl 3 rfl) ?_
        refine lv_icmp_ge (tgt := 113) C.1 C.2.1 dX5_tryAll_62 (by decide) (fun c62 => ?_) (fun c62 => ?_)
        · have i62 : j24_S_0.toInt ≤ j59_L_5.toInt := kz_le c62
          exact k_vret C hr hlk Wd (j59_F_h_0, j59_F_h_1, j59_C_h_2, j59_C_h_3) trivial [0, 1, 2, 3, 4, 5, 6, 7] rfl (by decide) [] rfl (by decide) (by decide) dX5_tryAll_113
        · have i62 : j59_L_5.toInt < j24_S_0.toInt := kz_nle c62
          refine lv_iconst (v := 0) C.1 C.2.1 dX5_tryAll_65 (by decide) ?_
          refine lv_istore (lv' := [(6, .int 0), (5, .int j59_L_5), (4, .int j54_S_0), (3, .int j39_S_0), (2, .int j24_S_0), (0, .ref h), (1, .ref h0)]) C.1 C.2.1 dX5_tryAll_66 hl (by decide) rfl (fun ls hl => ?_)
          refine k_loopA (fun (u : (Nat → Int32) × (Nat → Int32) × (Int32) × (Int32) × (Int32) × (Int32)) H locs ls => match u with | (j68_C_h_2, j68_C_h_3, j68_F_h_0, j68_F_h_1, j68_L_5, j68_L_6) => 0 ≤ j68_L_5.toInt ∧ 0 ≤ j68_L_6.toInt ∧ j68_L_5.toInt ≤ 15 ∧ j68_L_6.toInt ≤ 16 ∧ j59_L_5.toInt ≤ j68_L_5.toInt ∧ j68_L_5.toInt ≤ j59_L_5.toInt ∧ j68_L_6.toInt ≤ j39_S_0.toInt ∧ wX D [(a_h_2, .int), (a_h0_0_0, .int), (a_h_3, .int), (a_h0_1_0, .int)] s [(h, .inr (5, [.int j68_F_h_0, .int j68_F_h_1, .ref h_2, .ref h_3, .ref h_4, .ref h_5, .ref h_6])), (h0, .inr (9, [.ref h0_0, .ref h0_1, .int h0_2, .ref h0_3, .ref h0_4])), (h_2, .inl (a_h_2, 3, .inl j68_C_h_2)), (h0_0, .inr (8, [.ref h0_0_0, .int h0_0_1])), (h0_0_0, .inl (a_h0_0_0, n_h0_0_0, .inl f_h0_0_0)), (h_3, .inl (a_h_3, 40, .inl j68_C_h_3)), (h0_1, .inr (8, [.ref h0_1_0, .int h0_1_1])), (h0_1_0, .inl (a_h0_1_0, n_h0_1_0, .inl f_h0_1_0))] H A s.heap locs ∧ lv_has ls 8 [(6, .int j68_L_6), (5, .int j68_L_5), (4, .int j54_S_0), (3, .int j39_S_0), (2, .int j24_S_0), (0, .ref h), (1, .ref h0)]) (fun (u : (Nat → Int32) × (Nat → Int32) × (Int32) × (Int32) × (Int32) × (Int32)) ls => match u with | (j68_C_h_2, j68_C_h_3, j68_F_h_0, j68_F_h_1, j68_L_5, j68_L_6) => F0 m 68 ls []) (fun (u : (Nat → Int32) × (Nat → Int32) × (Int32) × (Int32) × (Int32) × (Int32)) => match u with | (j68_C_h_2, j68_C_h_3, j68_F_h_0, j68_F_h_1, j68_L_5, j68_L_6) => (17 - j68_L_6.toInt).toNat) (fun u H locs ls hi ih68 => ?_) (j59_C_h_2, j59_C_h_3, j59_F_h_0, j59_F_h_1, j59_L_5, 0) _ _ _ ⟨by omega, by have zq0 : (0 : Int32).toInt = 0 := (by decide); omega, by omega, by have zq0 : (0 : Int32).toInt = 0 := (by decide); omega, by omega, by omega, by have zq0 : (0 : Int32).toInt = 0 := (by decide); omega, Wd, lv_sub hl [0, 1, 2, 3, 4, 5, 6] rfl⟩
          obtain ⟨j68_C_h_2, j68_C_h_3, j68_F_h_0, j68_F_h_1, j68_L_5, j68_L_6⟩ := u
          obtain ⟨i68_0, i68_1, i68_2, i68_3, i68_4, i68_5, i68_6, Wd, hl⟩ := hi
          refine lv_iload C.1 C.2.1 dX5_tryAll_68 (lv_at hl 0 rfl) ?_
          refine lv_iload_n C.1 C.2.1 dX5_tryAll_70 rfl (lv_at hl 3 rfl) ?_
          refine lv_icmp_ge (tgt := 107) C.1 C.2.1 dX5_tryAll_71 (by decide) (fun c71 => ?_) (fun c71 => ?_)
          · have i71 : j39_S_0.toInt ≤ j68_L_6.toInt := kz_le c71
            obtain ⟨v107, ev107⟩ : ∃ z : Int32, j68_L_5 + 1 = z := ⟨_, rfl⟩
            have iv107 : v107.toInt = j68_L_5.toInt + 1 := kz_addc ev107 (by decide) (by have zr0 := kz_rng j68_L_5; omega) (by have zr0 := kz_rng j68_L_5; omega)
            refine lv_iinc (v := v107) (lv' := [(5, .int v107), (6, .int j68_L_6), (4, .int j54_S_0), (3, .int j39_S_0), (2, .int j24_S_0), (0, .ref h), (1, .ref h0)]) C.1 C.2.1 dX5_tryAll_107 hl (k := 1) rfl ev107 (by decide) rfl (fun ls hl => ?_)
            refine lv_goto (tgt := 59) C.1 C.2.1 dX5_tryAll_110 (by decide) ?_
            exact ih59 (j68_C_h_2, j68_C_h_3, j68_F_h_0, j68_F_h_1, v107) _ _ _ ⟨by omega, by omega, by omega, Wd, lv_sub hl [0, 2, 3, 4, 5, 6] rfl⟩ (by show (17 - v107.toInt).toNat < (17 - j59_L_5.toInt).toNat; omega)
          · have i71 : j68_L_6.toInt < j39_S_0.toInt := kz_nle c71
            refine lv_iconst (v := 0) C.1 C.2.1 dX5_tryAll_74 (by decide) ?_
            refine lv_istore (lv' := [(7, .int 0), (6, .int j68_L_6), (5, .int j68_L_5), (4, .int j54_S_0), (3, .int j39_S_0), (2, .int j24_S_0), (0, .ref h), (1, .ref h0)]) C.1 C.2.1 dX5_tryAll_75 hl (by decide) rfl (fun ls hl => ?_)
            refine k_loopA (fun (u : (Nat → Int32) × (Nat → Int32) × (Int32) × (Int32) × (Int32) × (Int32) × (Int32)) H locs ls => match u with | (j77_C_h_2, j77_C_h_3, j77_F_h_0, j77_F_h_1, j77_L_5, j77_L_6, j77_L_7) => 0 ≤ j77_L_5.toInt ∧ 0 ≤ j77_L_6.toInt ∧ 0 ≤ j77_L_7.toInt ∧ j77_L_5.toInt ≤ 15 ∧ j77_L_6.toInt ≤ 15 ∧ j77_L_7.toInt ≤ 16 ∧ j59_L_5.toInt ≤ j77_L_5.toInt ∧ j68_L_6.toInt ≤ j77_L_6.toInt ∧ j77_L_5.toInt ≤ j59_L_5.toInt ∧ j77_L_6.toInt ≤ j68_L_6.toInt ∧ j77_L_7.toInt ≤ j54_S_0.toInt ∧ wX D [(a_h_2, .int), (a_h0_0_0, .int), (a_h_3, .int), (a_h0_1_0, .int)] s [(h, .inr (5, [.int j77_F_h_0, .int j77_F_h_1, .ref h_2, .ref h_3, .ref h_4, .ref h_5, .ref h_6])), (h0, .inr (9, [.ref h0_0, .ref h0_1, .int h0_2, .ref h0_3, .ref h0_4])), (h_2, .inl (a_h_2, 3, .inl j77_C_h_2)), (h0_0, .inr (8, [.ref h0_0_0, .int h0_0_1])), (h0_0_0, .inl (a_h0_0_0, n_h0_0_0, .inl f_h0_0_0)), (h_3, .inl (a_h_3, 40, .inl j77_C_h_3)), (h0_1, .inr (8, [.ref h0_1_0, .int h0_1_1])), (h0_1_0, .inl (a_h0_1_0, n_h0_1_0, .inl f_h0_1_0))] H A s.heap locs ∧ lv_has ls 8 [(7, .int j77_L_7), (6, .int j77_L_6), (5, .int j77_L_5), (4, .int j54_S_0), (3, .int j39_S_0), (2, .int j24_S_0), (0, .ref h), (1, .ref h0)]) (fun (u : (Nat → Int32) × (Nat → Int32) × (Int32) × (Int32) × (Int32) × (Int32) × (Int32)) ls => match u with | (j77_C_h_2, j77_C_h_3, j77_F_h_0, j77_F_h_1, j77_L_5, j77_L_6, j77_L_7) => F0 m 77 ls []) (fun (u : (Nat → Int32) × (Nat → Int32) × (Int32) × (Int32) × (Int32) × (Int32) × (Int32)) => match u with | (j77_C_h_2, j77_C_h_3, j77_F_h_0, j77_F_h_1, j77_L_5, j77_L_6, j77_L_7) => (17 - j77_L_7.toInt).toNat) (fun u H locs ls hi ih77 => ?_) (j68_C_h_2, j68_C_h_3, j68_F_h_0, j68_F_h_1, j68_L_5, j68_L_6, 0) _ _ _ ⟨by omega, by omega, by have zq0 : (0 : Int32).toInt = 0 := (by decide); omega, by omega, by omega, by have zq0 : (0 : Int32).toInt = 0 := (by decide); omega, by omega, by omega, by omega, by omega, by have zq0 : (0 : Int32).toInt = 0 := (by decide); omega, Wd, lv_sub hl [0, 1, 2, 3, 4, 5, 6, 7] rfl⟩
            obtain ⟨j77_C_h_2, j77_C_h_3, j77_F_h_0, j77_F_h_1, j77_L_5, j77_L_6, j77_L_7⟩ := u
            obtain ⟨i77_0, i77_1, i77_2, i77_3, i77_4, i77_5, i77_6, i77_7, i77_8, i77_9, i77_10, Wd, hl⟩ := hi
            refine lv_iload C.1 C.2.1 dX5_tryAll_77 (lv_at hl 0 rfl) ?_
            refine lv_iload C.1 C.2.1 dX5_tryAll_79 (lv_at hl 3 rfl) ?_
            refine lv_icmp_ge (tgt := 101) C.1 C.2.1 dX5_tryAll_81 (by decide) (fun c81 => ?_) (fun c81 => ?_)
            · have i81 : j54_S_0.toInt ≤ j77_L_7.toInt := kz_le c81
              obtain ⟨v101, ev101⟩ : ∃ z : Int32, j77_L_6 + 1 = z := ⟨_, rfl⟩
              have iv101 : v101.toInt = j77_L_6.toInt + 1 := kz_addc ev101 (by decide) (by have zr0 := kz_rng j77_L_6; omega) (by have zr0 := kz_rng j77_L_6; omega)
              refine lv_iinc (v := v101) (lv' := [(6, .int v101), (7, .int j77_L_7), (5, .int j77_L_5), (4, .int j54_S_0), (3, .int j39_S_0), (2, .int j24_S_0), (0, .ref h), (1, .ref h0)]) C.1 C.2.1 dX5_tryAll_101 hl (k := 1) rfl ev101 (by decide) rfl (fun ls hl => ?_)
              refine lv_goto (tgt := 68) C.1 C.2.1 dX5_tryAll_104 (by decide) ?_
              exact ih68 (j77_C_h_2, j77_C_h_3, j77_F_h_0, j77_F_h_1, j77_L_5, v101) _ _ _ ⟨by omega, by omega, by omega, by omega, by omega, by omega, by omega, Wd, lv_sub hl [0, 2, 3, 4, 5, 6, 7] rfl⟩ (by show (17 - v101.toInt).toNat < (17 - j68_L_6.toInt).toNat; omega)
            · have i81 : j77_L_7.toInt < j54_S_0.toInt := kz_nle c81
              refine lv_aload_n C.1 C.2.1 dX5_tryAll_84 rfl (lv_at hl 6 rfl) ?_
              refine lv_aload_n C.1 C.2.1 dX5_tryAll_85 rfl (lv_at hl 7 rfl) ?_
              refine lv_iload C.1 C.2.1 dX5_tryAll_86 (lv_at hl 2 rfl) ?_
              refine lv_iload C.1 C.2.1 dX5_tryAll_88 (lv_at hl 1 rfl) ?_
              refine lv_iload C.1 C.2.1 dX5_tryAll_90 (lv_at hl 0 rfl) ?_
              refine k_cv Wd [0, 2, 1, 3, 4, 5, 6, 7] [] rfl (wr := []) rfl (by decide) (by decide) (cells' := 0) (slots' := 0) (by decide) (by decide) (k_runV (rest := []) C aks Wd cs_X5_42 (sX5_tryOne l D h h0 j77_L_5 j77_L_6 j77_L_7 j77_F_h_0 j77_F_h_1 h_2 h_3 h_4 h_5 h_6 a_h_2 j77_C_h_2 h0_0 h0_1 h0_2 h0_3 h0_4 h0_0_0 h0_0_1 n_h0_0_0 a_h0_0_0 f_h0_0_0 a_h_3 j77_C_h_3 h0_1_0 h0_1_1 n_h0_1_0 a_h0_1_0 f_h0_1_0 _ (by omega) (by omega) (by omega) (by omega) (by omega) (by omega) (by omega) (by omega)) [0, 2, 1, 3, 4, 5, 6, 7] rfl (by decide) [0, 1, 2, 3] rfl 0 5 rfl rfl rfl rfl rfl ⟨(Nat.le_of_ble_eq_true rfl), (Nat.le_of_ble_eq_true rfl)⟩ hl.1 rfl rfl (Nat.le_of_ble_eq_true rfl) ⟨(Nat.le_of_ble_eq_true rfl), (Nat.le_of_ble_eq_true rfl)⟩ dX5_tryAll_92) (fun u H locs w92 Wd => ?_)
              obtain ⟨s92_0, s92_1, s92_2, s92_3⟩ := u
              have Wd : wX D [(a_h_2, .int), (a_h0_0_0, .int), (a_h_3, .int), (a_h0_1_0, .int)] s [(h, .inr (5, [.int s92_2, .int s92_3, .ref h_2, .ref h_3, .ref h_4, .ref h_5, .ref h_6])), (h0, .inr (9, [.ref h0_0, .ref h0_1, .int h0_2, .ref h0_3, .ref h0_4])), (h_2, .inl (a_h_2, 3, .inl s92_0)), (h0_0, .inr (8, [.ref h0_0_0, .int h0_0_1])), (h0_0_0, .inl (a_h0_0_0, n_h0_0_0, .inl f_h0_0_0)), (h_3, .inl (a_h_3, 40, .inl s92_1)), (h0_1, .inr (8, [.ref h0_1_0, .int h0_1_1])), (h0_1_0, .inl (a_h0_1_0, n_h0_1_0, .inl f_h0_1_0))] _ A s.heap _ := k_sub Wd [0, 2, 1, 3, 4, 5, 6, 7] rfl (by decide) [0, 1, 2, 3] rfl
              obtain ⟨v95, ev95⟩ : ∃ z : Int32, j77_L_7 + 1 = z := ⟨_, rfl⟩
              have iv95 : v95.toInt = j77_L_7.toInt + 1 := kz_addc ev95 (by decide) (by have zr0 := kz_rng j77_L_7; omega) (by have zr0 := kz_rng j77_L_7; omega)
              refine lv_iinc (v := v95) (lv' := [(7, .int v95), (6, .int j77_L_6), (5, .int j77_L_5), (4, .int j54_S_0), (3, .int j39_S_0), (2, .int j24_S_0), (0, .ref h), (1, .ref h0)]) C.1 C.2.1 dX5_tryAll_95 hl (k := 0) rfl ev95 (by decide) rfl (fun ls hl => ?_)
              refine lv_goto (tgt := 77) C.1 C.2.1 dX5_tryAll_98 (by decide) ?_
              exact ih77 (s92_0, s92_1, s92_2, s92_3, j77_L_5, j77_L_6, v95) _ _ _ ⟨by omega, by omega, by omega, by omega, by omega, by omega, by omega, by omega, by omega, by omega, by omega, Wd, lv_sub hl [0, 1, 2, 3, 4, 5, 6, 7] rfl⟩ (by show (17 - v95.toInt).toNat < (17 - j77_L_7.toInt).toNat; omega)
      refine lv_if_eq (tgt := 53) C.1 C.2.1 dX5_tryAll_45 (by decide) (fun c45 => ?_) (fun c45 => ?_)
      · have i45 : r42.toInt = 0 := kz_eq c45
        refine lv_iconst (v := 1) C.1 C.2.1 dX5_tryAll_53 (by decide) ?_
        exact J54 1 _ _ _ ⟨by have zq1 : (1 : Int32).toInt = 1 := (by decide); omega, by have zq1 : (1 : Int32).toInt = 1 := (by decide); omega, by have zq1 : (1 : Int32).toInt = 1 := (by decide); omega, by have zq1 : (1 : Int32).toInt = 1 := (by decide); omega, Wd, lv_sub hl [0, 1, 2, 3] rfl⟩
      · have i45 : ¬ r42.toInt = 0 := kz_ne c45
        refine lv_bipush (v := 16) C.1 C.2.1 dX5_tryAll_48 (by decide) ?_
        refine lv_goto (tgt := 54) C.1 C.2.1 dX5_tryAll_50 (by decide) ?_
        exact J54 16 _ _ _ ⟨by have zq16 : (16 : Int32).toInt = 16 := (by decide); omega, by have zq16 : (16 : Int32).toInt = 16 := (by decide); omega, by have zq16 : (16 : Int32).toInt = 16 := (by decide); omega, by have zq16 : (16 : Int32).toInt = 16 := (by decide); omega, Wd, lv_sub hl [0, 1, 2, 3] rfl⟩
    refine lv_if_eq (tgt := 38) C.1 C.2.1 dX5_tryAll_30 (by decide) (fun c30 => ?_) (fun c30 => ?_)
    · have i30 : r27.toInt = 0 := kz_eq c30
      refine lv_iconst (v := 1) C.1 C.2.1 dX5_tryAll_38 (by decide) ?_
      exact J39 1 _ _ _ ⟨by have zq1 : (1 : Int32).toInt = 1 := (by decide); omega, by have zq1 : (1 : Int32).toInt = 1 := (by decide); omega, by have zq1 : (1 : Int32).toInt = 1 := (by decide); omega, by have zq1 : (1 : Int32).toInt = 1 := (by decide); omega, Wd, lv_sub hl [0, 1, 2] rfl⟩
    · have i30 : ¬ r27.toInt = 0 := kz_ne c30
      refine lv_bipush (v := 16) C.1 C.2.1 dX5_tryAll_33 (by decide) ?_
      refine lv_goto (tgt := 39) C.1 C.2.1 dX5_tryAll_35 (by decide) ?_
      exact J39 16 _ _ _ ⟨by have zq16 : (16 : Int32).toInt = 16 := (by decide); omega, by have zq16 : (16 : Int32).toInt = 16 := (by decide); omega, by have zq16 : (16 : Int32).toInt = 16 := (by decide); omega, by have zq16 : (16 : Int32).toInt = 16 := (by decide); omega, Wd, lv_sub hl [0, 1, 2] rfl⟩
  refine lv_if_eq (tgt := 23) C.1 C.2.1 dX5_tryAll_15 (by decide) (fun c15 => ?_) (fun c15 => ?_)
  · have i15 : r12.toInt = 0 := kz_eq c15
    refine lv_iconst (v := 1) C.1 C.2.1 dX5_tryAll_23 (by decide) ?_
    exact J24 1 _ _ _ ⟨by have zq1 : (1 : Int32).toInt = 1 := (by decide); omega, by have zq1 : (1 : Int32).toInt = 1 := (by decide); omega, by have zq1 : (1 : Int32).toInt = 1 := (by decide); omega, by have zq1 : (1 : Int32).toInt = 1 := (by decide); omega, Wd, lv_sub hl [0, 1] rfl⟩
  · have i15 : ¬ r12.toInt = 0 := kz_ne c15
    refine lv_bipush (v := 16) C.1 C.2.1 dX5_tryAll_18 (by decide) ?_
    refine lv_goto (tgt := 24) C.1 C.2.1 dX5_tryAll_20 (by decide) ?_
    exact J24 16 _ _ _ ⟨by have zq16 : (16 : Int32).toInt = 16 := (by decide); omega, by have zq16 : (16 : Int32).toInt = 16 := (by decide); omega, by have zq16 : (16 : Int32).toInt = 16 := (by decide); omega, by have zq16 : (16 : Int32).toInt = 16 := (by decide); omega, Wd, lv_sub hl [0, 1] rfl⟩
set_option maxHeartbeats 4000000 in
set_option maxRecDepth 100000 in
theorem sX5_mostTimes (l : Launch) (D : va_G) (h : Nat) (h0 : Nat) (x1 : Int32) (h0_0 : Nat) (h0_1 : Int32) (n_h0_0 : Nat) (a_h0_0 : ClassId) (f_h0_0 : Nat → Int32) (h_0 : Int32) (h_1 : Int32) (h_2 : Nat) (h_3 : Nat) (h_4 : Nat) (h_5 : Nat) (h_6 : Nat) (a_h_3 : ClassId) (f_h_3 : Nat → Int32) (sz : Nat) (k_h0_1_lo : 0 ≤ h0_1.toInt) (k_n_h0_0 : n_h0_0 ≤ 1000) (k_p_h0_0 : 1 ≤ n_h0_0) (k_h0_1_hi : h0_1.toInt ≤ (n_h0_0 : Int))  : Met l yX5_mostTimes (Cond.code yX5_mostTimes cX5_mostTimes 8 (some .int) :: gG) { frames := 2, cells := 0, slots := 0, locals := 85 } (cPre D [(a_h0_0, .int), (a_h_3, .int)] [(h0, .inr (8, [.ref h0_0, .int h0_1])), (h0_0, .inl (a_h0_0, n_h0_0, .inl f_h0_0)), (h, .inr (5, [.int h_0, .int h_1, .ref h_2, .ref h_3, .ref h_4, .ref h_5, .ref h_6])), (h_3, .inl (a_h_3, 40, .inl f_h_3))] sz [.ref h, .ref h0, .int x1]) (va_Qi (fun (r : Int32) (jX_C_h_3 : Nat → Int32) => True) (fun u t => cB D (va_A [(h0, .inr (8, [.ref h0_0, .int h0_1])), (h0_0, .inl (a_h0_0, n_h0_0, .inl f_h0_0)), (h, .inr (5, [.int h_0, .int h_1, .ref h_2, .ref h_3, .ref h_4, .ref h_5, .ref h_6])), (h_3, .inl (a_h_3, 40, .inl f_h_3))] sz) ((fun (_ : (Nat → Int32)) => ([] : List (ClassId × FieldType))) u) ((fun (jX_C_h_3 : Nat → Int32) => ([(h0, .inr (8, [.ref h0_0, .int h0_1])), (h0_0, .inl (a_h0_0, n_h0_0, .inl f_h0_0)), (h, .inr (5, [.int h_0, .int h_1, .ref h_2, .ref h_3, .ref h_4, .ref h_5, .ref h_6])), (h_3, .inl (a_h_3, 40, .inl jX_C_h_3))] : va_W)) u) t) (va_A [(h0, .inr (8, [.ref h0_0, .int h0_1])), (h0_0, .inl (a_h0_0, n_h0_0, .inl f_h0_0)), (h, .inr (5, [.int h_0, .int h_1, .ref h_2, .ref h_3, .ref h_4, .ref h_5, .ref h_6])), (h_3, .inl (a_h_3, 40, .inl f_h_3))] sz)) 0 0 (va_A [(h0, .inr (8, [.ref h0_0, .int h0_1])), (h0_0, .inl (a_h0_0, n_h0_0, .inl f_h0_0)), (h, .inr (5, [.int h_0, .int h_1, .ref h_2, .ref h_3, .ref h_4, .ref h_5, .ref h_6])), (h_3, .inl (a_h_3, 40, .inl f_h_3))] sz) := by
  refine Met.ofW (cc := cX5_mostTimes) (maxL := 8) (ret := (some .int)) (by decide) rfl ?_
  intro p e s m args below meth c s₁ B hml hv
  obtain ⟨rfl, aks, rfl, Wd⟩ := k_enter hv
  have C : CallFix p m c cX5_mostTimes 8 s _ gG RX5 := ⟨B.exec, B.bytes, hml, findClass_of_methodNamed B.named, fun w h => atoms_spec (ws := Cond.code yX5_mostTimes cX5_mostTimes 8 (some .int) :: gG) B.pre w (List.mem_cons_of_mem _ h)⟩
  have hr := B.returns
  have hlk := B.notSynchronized
  generalize va_A [(h0, .inr (8, [.ref h0_0, .int h0_1])), (h0_0, .inl (a_h0_0, n_h0_0, .inl f_h0_0)), (h, .inr (5, [.int h_0, .int h_1, .ref h_2, .ref h_3, .ref h_4, .ref h_5, .ref h_6])), (h_3, .inl (a_h_3, 40, .inl f_h_3))] s.heap.size = A at Wd ⊢
  refine k_locals (Nat.le_of_ble_eq_true rfl) [(0, .ref h), (1, .ref h0), (2, .int x1)] rfl (fun ls hl => ?_)
  refine lv_iconst (v := 0) C.1 C.2.1 dX5_mostTimes_0 (by decide) ?_
  refine lv_istore_n (lv' := [(3, .int 0), (0, .ref h), (1, .ref h0), (2, .int x1)]) C.1 C.2.1 dX5_mostTimes_1 rfl hl (by decide) rfl (fun ls hl => ?_)
  refine lv_aload_n C.1 C.2.1 dX5_mostTimes_2 rfl (lv_at hl 2 rfl) ?_
  refine k_get C Wd KX8 0 1 rfl (by decide) fl_X5_57 rfl dX5_mostTimes_3 ?_
  refine lv_iconst (v := 1) C.1 C.2.1 dX5_mostTimes_6 (by decide) ?_
  obtain ⟨v7, ev7⟩ : ∃ z : Int32, h0_1 - 1 = z := ⟨_, rfl⟩
  have iv7 : v7.toInt = h0_1.toInt - 1 := kz_subc ev7 (by decide) (by have zr0 := kz_rng h0_1; omega) (by have zr0 := kz_rng h0_1; omega)
  refine k_isub (v := v7) C ev7 dX5_mostTimes_7 ?_
  refine lv_istore (lv' := [(4, .int v7), (3, .int 0), (0, .ref h), (1, .ref h0), (2, .int x1)]) C.1 C.2.1 dX5_mostTimes_8 hl (by decide) rfl (fun ls hl => ?_)
  refine k_loopA (fun (u : (Nat → Int32) × (Int32) × (Int32)) H locs ls => match u with | (j10_C_h_3, j10_L_3, j10_L_4) => 0 ≤ j10_L_3.toInt ∧ -1 ≤ j10_L_4.toInt ∧ j10_L_3.toInt ≤ 40 ∧ j10_L_4.toInt ≤ 999 ∧ j10_L_4.toInt ≤ v7.toInt ∧ j10_L_3.toInt ≤ h0_1.toInt + 39 ∧ wX D [(a_h0_0, .int), (a_h_3, .int)] s [(h0, .inr (8, [.ref h0_0, .int h0_1])), (h0_0, .inl (a_h0_0, n_h0_0, .inl f_h0_0)), (h, .inr (5, [.int h_0, .int h_1, .ref h_2, .ref h_3, .ref h_4, .ref h_5, .ref h_6])), (h_3, .inl (a_h_3, 40, .inl j10_C_h_3))] H A s.heap locs ∧ lv_has ls 8 [(4, .int j10_L_4), (3, .int j10_L_3), (0, .ref h), (1, .ref h0), (2, .int x1)]) (fun (u : (Nat → Int32) × (Int32) × (Int32)) ls => match u with | (j10_C_h_3, j10_L_3, j10_L_4) => F0 m 10 ls []) (fun (u : (Nat → Int32) × (Int32) × (Int32)) => match u with | (j10_C_h_3, j10_L_3, j10_L_4) => (j10_L_4.toInt + 2).toNat) (fun u H locs ls hi ih10 => ?_) (f_h_3, 0, v7) _ _ _ ⟨by have zq0 : (0 : Int32).toInt = 0 := (by decide); omega, by omega, by have zq0 : (0 : Int32).toInt = 0 := (by decide); omega, by omega, by omega, by have zq0 : (0 : Int32).toInt = 0 := (by decide); omega, Wd, lv_sub hl [0, 1, 2, 3, 4] rfl⟩
  obtain ⟨j10_C_h_3, j10_L_3, j10_L_4⟩ := u
  obtain ⟨i10_0, i10_1, i10_2, i10_3, i10_4, i10_5, Wd, hl⟩ := hi
  refine lv_iload C.1 C.2.1 dX5_mostTimes_10 (lv_at hl 0 rfl) ?_
  refine lv_if_lt (tgt := 139) C.1 C.2.1 dX5_mostTimes_12 (by decide) (fun c12 => ?_) (fun c12 => ?_)
  · have i12 : j10_L_4.toInt < 0 := kz_lt c12
    refine lv_iload_n C.1 C.2.1 dX5_mostTimes_139 rfl (lv_at hl 1 rfl) ?_
    refine k_cutA (fun (j153_S_0 : Int32) H locs ls => wX D [(a_h0_0, .int), (a_h_3, .int)] s [(h0, .inr (8, [.ref h0_0, .int h0_1])), (h0_0, .inl (a_h0_0, n_h0_0, .inl f_h0_0)), (h, .inr (5, [.int h_0, .int h_1, .ref h_2, .ref h_3, .ref h_4, .ref h_5, .ref h_6])), (h_3, .inl (a_h_3, 40, .inl j10_C_h_3))] H A s.heap locs ∧ lv_has ls 8 [(4, .int j10_L_4), (3, .int j10_L_3), (0, .ref h), (1, .ref h0), (2, .int x1)]) (fun (j153_S_0 : Int32) ls => F0 m 153 ls [.int j153_S_0]) (fun j153_S_0 H locs ls hi => ?_) (fun J153 => ?_)
    · obtain ⟨Wd, hl⟩ := hi
      exact k_zret C hr hlk rfl Wd j10_C_h_3 trivial [0, 1, 2, 3] rfl (by decide) [] rfl (by decide) (by decide) dX5_mostTimes_153
    refine lv_if_le (tgt := 152) C.1 C.2.1 dX5_mostTimes_140 (by decide) (fun c140 => ?_) (fun c140 => ?_)
    · have i140 : j10_L_3.toInt ≤ 0 := kz_le c140
      refine lv_iconst (v := 0) C.1 C.2.1 dX5_mostTimes_152 (by decide) ?_
      exact J153 0 _ _ _ ⟨Wd, lv_sub hl [0, 1, 2, 3, 4] rfl⟩
    · have i140 : 0 < j10_L_3.toInt := kz_nle c140
      refine lv_aload_n C.1 C.2.1 dX5_mostTimes_143 rfl (lv_at hl 2 rfl) ?_
      refine k_get C Wd KX5 2 3 rfl (by decide) fl_X5_15 rfl dX5_mostTimes_144 ?_
      refine lv_iconst (v := 0) C.1 C.2.1 dX5_mostTimes_147 (by decide) ?_
      obtain ⟨v148, ev148⟩ : ∃ z : Int32, j10_C_h_3 (0 : Int32).toNatClampNeg = z := ⟨_, rfl⟩
      refine k_iald (v := v148) C Wd 3 1 rfl rfl (vp_in_iff.mpr (by decide)) ev148 dX5_mostTimes_148 ?_
      refine lv_goto (tgt := 153) C.1 C.2.1 dX5_mostTimes_149 (by decide) ?_
      exact J153 v148 _ _ _ ⟨Wd, lv_sub hl [0, 1, 2, 3, 4] rfl⟩
  · have i12 : 0 ≤ j10_L_4.toInt := kz_nlt c12
    refine lv_aload_n C.1 C.2.1 dX5_mostTimes_15 rfl (lv_at hl 3 rfl) ?_
    refine lv_iload C.1 C.2.1 dX5_mostTimes_16 (lv_at hl 0 rfl) ?_
    refine k_pi (k_runV (rest := []) C aks Wd cs_X5_84 (sX8_cell l D h0 j10_L_4 h0_0 h0_1 n_h0_0 a_h0_0 f_h0_0 _ (by omega) (by omega) (by omega) (by omega)) [0, 1] rfl (by decide) [0] rfl 0 8 rfl rfl rfl rfl rfl ⟨(Nat.le_of_ble_eq_true rfl), (Nat.le_of_ble_eq_true rfl)⟩ hl.1 rfl rfl (Nat.le_of_ble_eq_true rfl) ⟨(Nat.le_of_ble_eq_true rfl), (Nat.le_of_ble_eq_true rfl)⟩ dX5_mostTimes_18) (fun r18 w18 => ?_)
    refine lv_istore (lv' := [(5, .int r18), (4, .int j10_L_4), (3, .int j10_L_3), (0, .ref h), (1, .ref h0), (2, .int x1)]) C.1 C.2.1 dX5_mostTimes_21 hl (by decide) rfl (fun ls hl => ?_)
    refine lv_iload C.1 C.2.1 dX5_mostTimes_23 (lv_at hl 0 rfl) ?_
    refine k_pi (k_runS (rest := []) C aks Wd cs_X5_88 (sX8_isOperation l D r18 _ ) [] rfl (by decide) [] rfl rfl rfl ⟨(Nat.le_of_ble_eq_true rfl), (Nat.le_of_ble_eq_true rfl)⟩ hl.1 rfl rfl (Nat.le_of_ble_eq_true rfl) ⟨(Nat.le_of_ble_eq_true rfl), (Nat.le_of_ble_eq_true rfl)⟩ dX5_mostTimes_25) (fun r25 w25 => ?_)
    obtain ⟨g25_0, g25_1⟩ := w25
    have g25_0 : 0 ≤ r25.toInt := g25_0
    have g25_1 : r25.toInt ≤ 1 := g25_1
    refine k_cutA (fun (u : (Int32) × (Nat → Int32)) H locs ls => match u with | (j133_L_3, j133_C_h_3) => 0 ≤ j133_L_3.toInt ∧ j133_L_3.toInt ≤ 40 ∧ j10_L_3.toInt ≤ j133_L_3.toInt + 1 ∧ j133_L_3.toInt ≤ j10_L_3.toInt + 1 ∧ wX D [(a_h0_0, .int), (a_h_3, .int)] s [(h0, .inr (8, [.ref h0_0, .int h0_1])), (h0_0, .inl (a_h0_0, n_h0_0, .inl f_h0_0)), (h, .inr (5, [.int h_0, .int h_1, .ref h_2, .ref h_3, .ref h_4, .ref h_5, .ref h_6])), (h_3, .inl (a_h_3, 40, .inl j133_C_h_3))] H A s.heap locs ∧ lv_has ls 8 [(3, .int j133_L_3), (5, .int r18), (4, .int j10_L_4), (0, .ref h), (1, .ref h0), (2, .int x1)]) (fun (u : (Int32) × (Nat → Int32)) ls => match u with | (j133_L_3, j133_C_h_3) => F0 m 133 ls []) (fun u H locs ls hi => ?_) (fun J133 => ?_)
    · obtain ⟨j133_L_3, j133_C_h_3⟩ := u
      obtain ⟨i133_0, i133_1, i133_2, i133_3, Wd, hl⟩ := hi
      obtain ⟨v133, ev133⟩ : ∃ z : Int32, j10_L_4 + (-1) = z := ⟨_, rfl⟩
      have iv133 : v133.toInt = j10_L_4.toInt + (-1) := kz_addc ev133 (by decide) (by have zr0 := kz_rng j10_L_4; omega) (by have zr0 := kz_rng j10_L_4; omega)
      refine lv_iinc (v := v133) (lv' := [(4, .int v133), (3, .int j133_L_3), (5, .int r18), (0, .ref h), (1, .ref h0), (2, .int x1)]) C.1 C.2.1 dX5_mostTimes_133 hl (k := 2) rfl ev133 (by decide) rfl (fun ls hl => ?_)
      refine lv_goto (tgt := 10) C.1 C.2.1 dX5_mostTimes_136 (by decide) ?_
      exact ih10 (j133_C_h_3, j133_L_3, v133) _ _ _ ⟨by omega, by omega, by omega, by omega, by omega, by omega, Wd, lv_sub hl [0, 1, 3, 4, 5] rfl⟩ (by show (v133.toInt + 2).toNat < (j10_L_4.toInt + 2).toNat; omega)
    refine k_cutA (fun (_ : Unit) H locs ls => wX D [(a_h0_0, .int), (a_h_3, .int)] s [(h0, .inr (8, [.ref h0_0, .int h0_1])), (h0_0, .inl (a_h0_0, n_h0_0, .inl f_h0_0)), (h, .inr (5, [.int h_0, .int h_1, .ref h_2, .ref h_3, .ref h_4, .ref h_5, .ref h_6])), (h_3, .inl (a_h_3, 40, .inl j10_C_h_3))] H A s.heap locs ∧ lv_has ls 8 [(5, .int r18), (4, .int j10_L_4), (3, .int j10_L_3), (0, .ref h), (1, .ref h0), (2, .int x1)]) (fun (_ : Unit) ls => F0 m 66 ls []) (fun _ H locs ls hi => ?_) (fun J66 => ?_)
    · obtain ⟨Wd, hl⟩ := hi
      refine lv_iload_n C.1 C.2.1 dX5_mostTimes_66 rfl (lv_at hl 2 rfl) ?_
      refine lv_iconst (v := 2) C.1 C.2.1 dX5_mostTimes_67 (by decide) ?_
      refine lv_icmp_lt (tgt := 133) C.1 C.2.1 dX5_mostTimes_68 (by decide) (fun c68 => ?_) (fun c68 => ?_)
      · have i68 : j10_L_3.toInt < 2 := kz_lt c68
        exact J133 (j10_L_3, j10_C_h_3) _ _ _ ⟨by omega, by omega, by omega, by omega, Wd, lv_sub hl [2, 0, 1, 3, 4, 5] rfl⟩
      · have i68 : 2 ≤ j10_L_3.toInt := kz_nlt c68
        refine lv_iload_n C.1 C.2.1 dX5_mostTimes_71 rfl (lv_at hl 2 rfl) ?_
        refine lv_aload_n C.1 C.2.1 dX5_mostTimes_72 rfl (lv_at hl 3 rfl) ?_
        refine k_get C Wd KX5 2 3 rfl (by decide) fl_X5_15 rfl dX5_mostTimes_73 ?_
        refine k_alen (v := 40) C Wd 3 1 rfl rfl rfl dX5_mostTimes_76 ?_
        refine lv_icmp_gt (tgt := 133) C.1 C.2.1 dX5_mostTimes_77 (by decide) (fun c77 => False.elim (by have i77 : 40 < j10_L_3.toInt := kz_lt c77; omega)) (fun _ => ?_)
        refine lv_aload_n C.1 C.2.1 dX5_mostTimes_80 rfl (lv_at hl 3 rfl) ?_
        refine k_get C Wd KX5 2 3 rfl (by decide) fl_X5_15 rfl dX5_mostTimes_81 ?_
        refine lv_iload_n C.1 C.2.1 dX5_mostTimes_84 rfl (lv_at hl 2 rfl) ?_
        refine lv_iconst (v := 1) C.1 C.2.1 dX5_mostTimes_85 (by decide) ?_
        obtain ⟨v86, ev86⟩ : ∃ z : Int32, j10_L_3 - 1 = z := ⟨_, rfl⟩
        have iv86 : v86.toInt = j10_L_3.toInt - 1 := kz_subc ev86 (by decide) (by have zr0 := kz_rng j10_L_3; omega) (by have zr0 := kz_rng j10_L_3; omega)
        refine k_isub (v := v86) C ev86 dX5_mostTimes_86 ?_
        obtain ⟨v87, ev87⟩ : ∃ z : Int32, j10_C_h_3 v86.toNatClampNeg = z := ⟨_, rfl⟩
        refine k_iald (v := v87) C Wd 3 1 rfl rfl (vp_in_iff.mpr ⟨by omega, by omega⟩) ev87 dX5_mostTimes_87 ?_
        refine lv_istore (lv' := [(6, .int v87), (5, .int r18), (4, .int j10_L_4), (3, .int j10_L_3), (0, .ref h), (1, .ref h0), (2, .int x1)]) C.1 C.2.1 dX5_mostTimes_88 hl (by decide) rfl (fun ls hl => ?_)
        refine lv_aload_n C.1 C.2.1 dX5_mostTimes_90 rfl (lv_at hl 4 rfl) ?_
        refine k_get C Wd KX5 2 3 rfl (by decide) fl_X5_15 rfl dX5_mostTimes_91 ?_
        refine lv_iload_n C.1 C.2.1 dX5_mostTimes_94 rfl (lv_at hl 3 rfl) ?_
        refine lv_iconst (v := 2) C.1 C.2.1 dX5_mostTimes_95 (by decide) ?_
        obtain ⟨v96, ev96⟩ : ∃ z : Int32, j10_L_3 - 2 = z := ⟨_, rfl⟩
        have iv96 : v96.toInt = j10_L_3.toInt - 2 := kz_subc ev96 (by decide) (by have zr0 := kz_rng j10_L_3; omega) (by have zr0 := kz_rng j10_L_3; omega)
        refine k_isub (v := v96) C ev96 dX5_mostTimes_96 ?_
        obtain ⟨v97, ev97⟩ : ∃ z : Int32, j10_C_h_3 v96.toNatClampNeg = z := ⟨_, rfl⟩
        refine k_iald (v := v97) C Wd 3 1 rfl rfl (vp_in_iff.mpr ⟨by omega, by omega⟩) ev97 dX5_mostTimes_97 ?_
        refine lv_istore (lv' := [(7, .int v97), (6, .int v87), (5, .int r18), (4, .int j10_L_4), (3, .int j10_L_3), (0, .ref h), (1, .ref h0), (2, .int x1)]) C.1 C.2.1 dX5_mostTimes_98 hl (by decide) rfl (fun ls hl => ?_)
        refine lv_aload_n C.1 C.2.1 dX5_mostTimes_100 rfl (lv_at hl 5 rfl) ?_
        refine k_get C Wd KX5 2 3 rfl (by decide) fl_X5_15 rfl dX5_mostTimes_101 ?_
        refine lv_iload_n C.1 C.2.1 dX5_mostTimes_104 rfl (lv_at hl 4 rfl) ?_
        refine lv_iconst (v := 2) C.1 C.2.1 dX5_mostTimes_105 (by decide) ?_
        obtain ⟨v106, ev106⟩ : ∃ z : Int32, j10_L_3 - 2 = z := ⟨_, rfl⟩
        have iv106 : v106.toInt = j10_L_3.toInt - 2 := kz_subc ev106 (by decide) (by have zr0 := kz_rng j10_L_3; omega) (by have zr0 := kz_rng j10_L_3; omega)
        refine k_isub (v := v106) C ev106 dX5_mostTimes_106 ?_
        refine lv_iload C.1 C.2.1 dX5_mostTimes_107 (lv_at hl 2 rfl) ?_
        refine lv_bipush (v := 122) C.1 C.2.1 dX5_mostTimes_109 (by decide) ?_
        refine k_cutA (fun (j129_S_0 : Int32) H locs ls => wX D [(a_h0_0, .int), (a_h_3, .int)] s [(h0, .inr (8, [.ref h0_0, .int h0_1])), (h0_0, .inl (a_h0_0, n_h0_0, .inl f_h0_0)), (h, .inr (5, [.int h_0, .int h_1, .ref h_2, .ref h_3, .ref h_4, .ref h_5, .ref h_6])), (h_3, .inl (a_h_3, 40, .inl j10_C_h_3))] H A s.heap locs ∧ lv_has ls 8 [(7, .int v97), (6, .int v87), (5, .int r18), (4, .int j10_L_4), (3, .int j10_L_3), (0, .ref h), (1, .ref h0), (2, .int x1)]) (fun (j129_S_0 : Int32) ls => F0 m 129 ls [.int j129_S_0, .int v106, .ref h_3]) (fun j129_S_0 H locs ls hi => ?_) (fun J129 => ?_)
        · obtain ⟨Wd, hl⟩ := hi
          obtain ⟨f129, ef129⟩ : ∃ z : Nat → Int32, upd j10_C_h_3 v106.toNatClampNeg j129_S_0 = z := ⟨_, rfl⟩
          refine k_iast C Wd 3 1 [(h0, .inr (8, [.ref h0_0, .int h0_1])), (h0_0, .inl (a_h0_0, n_h0_0, .inl f_h0_0)), (h, .inr (5, [.int h_0, .int h_1, .ref h_2, .ref h_3, .ref h_4, .ref h_5, .ref h_6])), (h_3, .inl (a_h_3, 40, .inl f129))] rfl rfl (vp_in_iff.mpr ⟨by omega, by omega⟩) ef129 rfl dX5_mostTimes_129 (fun H locs Wd => ?_)
          obtain ⟨v130, ev130⟩ : ∃ z : Int32, j10_L_3 + (-1) = z := ⟨_, rfl⟩
          have iv130 : v130.toInt = j10_L_3.toInt + (-1) := kz_addc ev130 (by decide) (by have zr0 := kz_rng j10_L_3; omega) (by have zr0 := kz_rng j10_L_3; omega)
          refine lv_iinc (v := v130) (lv' := [(3, .int v130), (7, .int v97), (6, .int v87), (5, .int r18), (4, .int j10_L_4), (0, .ref h), (1, .ref h0), (2, .int x1)]) C.1 C.2.1 dX5_mostTimes_130 hl (k := 4) rfl ev130 (by decide) rfl (fun ls hl => ?_)
          exact J133 (v130, f129) _ _ _ ⟨by omega, by omega, by omega, by omega, Wd, lv_sub hl [0, 3, 4, 5, 6, 7] rfl⟩
        refine lv_icmp_ne (tgt := 122) C.1 C.2.1 dX5_mostTimes_111 (by decide) (fun c111 => ?_) (fun c111 => ?_)
        · have i111 : ¬ r18.toInt = 122 := kz_ne c111
          refine lv_iload C.1 C.2.1 dX5_mostTimes_122 (lv_at hl 1 rfl) ?_
          refine lv_iload C.1 C.2.1 dX5_mostTimes_124 (lv_at hl 0 rfl) ?_
          obtain ⟨v126, ev126⟩ : ∃ z : Int32, (if v87 < v97 then v97 else v87) = z := ⟨_, rfl⟩
          have iv126 : v87.toInt ≤ v126.toInt ∧ v97.toInt ≤ v126.toInt ∧ (v126.toInt = v87.toInt ∨ v126.toInt = v97.toInt) := kz_max ev126
          refine k_mmax (v := v126) C hl.1 ml_X5_91 st_Lib_Math_max_name in_J9 cd_max (Nat.le_of_ble_eq_true rfl) (Nat.le_of_ble_eq_true rfl) (Nat.le_of_ble_eq_true rfl) (Nat.le_of_ble_eq_true rfl) ev126 dX5_mostTimes_126 ?_
          exact J129 v126 _ _ _ ⟨Wd, lv_sub hl [0, 1, 2, 3, 4, 5, 6, 7] rfl⟩
        · have i111 : r18.toInt = 122 := kz_eq c111
          refine lv_iload C.1 C.2.1 dX5_mostTimes_114 (lv_at hl 1 rfl) ?_
          refine lv_iload C.1 C.2.1 dX5_mostTimes_116 (lv_at hl 0 rfl) ?_
          obtain ⟨v118, ev118⟩ : ∃ z : Int32, v87 + v97 = z := ⟨_, rfl⟩
          refine k_iadd (v := v118) C ev118 dX5_mostTimes_118 ?_
          refine lv_goto (tgt := 129) C.1 C.2.1 dX5_mostTimes_119 (by decide) ?_
          exact J129 v118 _ _ _ ⟨Wd, lv_sub hl [0, 1, 2, 3, 4, 5, 6, 7] rfl⟩
    refine lv_if_ne (tgt := 66) C.1 C.2.1 dX5_mostTimes_28 (by decide) (fun c28 => ?_) (fun c28 => ?_)
    · have i28 : ¬ r25.toInt = 0 := kz_ne c28
      exact J66 () _ _ _ ⟨Wd, lv_sub hl [0, 1, 2, 3, 4, 5] rfl⟩
    · have i28 : r25.toInt = 0 := kz_eq c28
      refine lv_iload_n C.1 C.2.1 dX5_mostTimes_31 rfl (lv_at hl 2 rfl) ?_
      refine lv_aload_n C.1 C.2.1 dX5_mostTimes_32 rfl (lv_at hl 3 rfl) ?_
      refine k_get C Wd KX5 2 3 rfl (by decide) fl_X5_15 rfl dX5_mostTimes_33 ?_
      refine k_alen (v := 40) C Wd 3 1 rfl rfl rfl dX5_mostTimes_36 ?_
      refine lv_icmp_ge (tgt := 66) C.1 C.2.1 dX5_mostTimes_37 (by decide) (fun c37 => ?_) (fun c37 => ?_)
      · have i37 : 40 ≤ j10_L_3.toInt := kz_le c37
        exact J66 () _ _ _ ⟨Wd, lv_sub hl [0, 1, 2, 3, 4, 5] rfl⟩
      · have i37 : j10_L_3.toInt < 40 := kz_nle c37
        refine lv_aload_n C.1 C.2.1 dX5_mostTimes_40 rfl (lv_at hl 3 rfl) ?_
        refine k_get C Wd KX5 2 3 rfl (by decide) fl_X5_15 rfl dX5_mostTimes_41 ?_
        refine lv_iload_n C.1 C.2.1 dX5_mostTimes_44 rfl (lv_at hl 2 rfl) ?_
        refine lv_iload C.1 C.2.1 dX5_mostTimes_45 (lv_at hl 0 rfl) ?_
        refine lv_bipush (v := 20) C.1 C.2.1 dX5_mostTimes_47 (by decide) ?_
        refine lv_iload_n C.1 C.2.1 dX5_mostTimes_49 rfl (lv_at hl 5 rfl) ?_
        obtain ⟨v50, ev50⟩ : ∃ z : Int32, 20 + x1 = z := ⟨_, rfl⟩
        refine k_iadd (v := v50) C ev50 dX5_mostTimes_50 ?_
        refine k_cutA (fun (j59_S_0 : Int32) H locs ls => 0 ≤ j59_S_0.toInt ∧ j59_S_0.toInt ≤ 1 ∧ wX D [(a_h0_0, .int), (a_h_3, .int)] s [(h0, .inr (8, [.ref h0_0, .int h0_1])), (h0_0, .inl (a_h0_0, n_h0_0, .inl f_h0_0)), (h, .inr (5, [.int h_0, .int h_1, .ref h_2, .ref h_3, .ref h_4, .ref h_5, .ref h_6])), (h_3, .inl (a_h_3, 40, .inl j10_C_h_3))] H A s.heap locs ∧ lv_has ls 8 [(5, .int r18), (4, .int j10_L_4), (3, .int j10_L_3), (0, .ref h), (1, .ref h0), (2, .int x1)]) (fun (j59_S_0 : Int32) ls => F0 m 59 ls [.int j59_S_0, .int j10_L_3, .ref h_3]) (fun j59_S_0 H locs ls hi => ?_) (fun J59 => ?_)
        · obtain ⟨i59_0, i59_1, Wd, hl⟩ := hi
          obtain ⟨f59, ef59⟩ : ∃ z : Nat → Int32, upd j10_C_h_3 j10_L_3.toNatClampNeg j59_S_0 = z := ⟨_, rfl⟩
          refine k_iast C Wd 3 1 [(h0, .inr (8, [.ref h0_0, .int h0_1])), (h0_0, .inl (a_h0_0, n_h0_0, .inl f_h0_0)), (h, .inr (5, [.int h_0, .int h_1, .ref h_2, .ref h_3, .ref h_4, .ref h_5, .ref h_6])), (h_3, .inl (a_h_3, 40, .inl f59))] rfl rfl (vp_in_iff.mpr ⟨by omega, by omega⟩) ef59 rfl dX5_mostTimes_59 (fun H locs Wd => ?_)
          obtain ⟨v60, ev60⟩ : ∃ z : Int32, j10_L_3 + 1 = z := ⟨_, rfl⟩
          have iv60 : v60.toInt = j10_L_3.toInt + 1 := kz_addc ev60 (by decide) (by have zr0 := kz_rng j10_L_3; omega) (by have zr0 := kz_rng j10_L_3; omega)
          refine lv_iinc (v := v60) (lv' := [(3, .int v60), (5, .int r18), (4, .int j10_L_4), (0, .ref h), (1, .ref h0), (2, .int x1)]) C.1 C.2.1 dX5_mostTimes_60 hl (k := 2) rfl ev60 (by decide) rfl (fun ls hl => ?_)
          refine lv_goto (tgt := 133) C.1 C.2.1 dX5_mostTimes_63 (by decide) ?_
          exact J133 (v60, f59) _ _ _ ⟨by omega, by omega, by omega, by omega, Wd, lv_sub hl [0, 1, 2, 3, 4, 5] rfl⟩
        refine lv_icmp_ne (tgt := 58) C.1 C.2.1 dX5_mostTimes_51 (by decide) (fun c51 => ?_) (fun c51 => ?_)
        · have i51 : ¬ r18.toInt = v50.toInt := kz_ne c51
          refine lv_iconst (v := 0) C.1 C.2.1 dX5_mostTimes_58 (by decide) ?_
          exact J59 0 _ _ _ ⟨by have zq0 : (0 : Int32).toInt = 0 := (by decide); omega, by have zq0 : (0 : Int32).toInt = 0 := (by decide); omega, Wd, lv_sub hl [0, 1, 2, 3, 4, 5] rfl⟩
        · have i51 : r18.toInt = v50.toInt := kz_eq c51
          refine lv_iconst (v := 1) C.1 C.2.1 dX5_mostTimes_54 (by decide) ?_
          refine lv_goto (tgt := 59) C.1 C.2.1 dX5_mostTimes_55 (by decide) ?_
          exact J59 1 _ _ _ ⟨by have zq1 : (1 : Int32).toInt = 1 := (by decide); omega, by have zq1 : (1 : Int32).toInt = 1 := (by decide); omega, Wd, lv_sub hl [0, 1, 2, 3, 4, 5] rfl⟩
set_option maxHeartbeats 4000000 in
set_option maxRecDepth 100000 in
theorem sX5_hasForm (l : Launch) (D : va_G) (h : Nat) (h0 : Nat) (h_0 : Int32) (h_1 : Int32) (h_2 : Nat) (h_3 : Nat) (h_4 : Nat) (h_5 : Nat) (h_6 : Nat) (h0_0 : Nat) (h0_1 : Int32) (n_h0_0 : Nat) (a_h0_0 : ClassId) (f_h0_0 : Nat → Int32) (a_h_3 : ClassId) (f_h_3 : Nat → Int32) (sz : Nat) (k_h0_1_lo : 0 ≤ h0_1.toInt) (k_n_h0_0 : n_h0_0 ≤ 1000) (k_p_h0_0 : 1 ≤ n_h0_0) (k_h0_1_hi : h0_1.toInt ≤ (n_h0_0 : Int))  : Met l yX5_hasForm (Cond.code yX5_hasForm cX5_hasForm 3 (some .boolean) :: gG) { frames := 3, cells := 0, slots := 0, locals := 112 } (cPre D [(a_h0_0, .int), (a_h_3, .int)] [(h, .inr (5, [.int h_0, .int h_1, .ref h_2, .ref h_3, .ref h_4, .ref h_5, .ref h_6])), (h0, .inr (8, [.ref h0_0, .int h0_1])), (h0_0, .inl (a_h0_0, n_h0_0, .inl f_h0_0)), (h_3, .inl (a_h_3, 40, .inl f_h_3))] sz [.ref h, .ref h0]) (va_Qi (fun (r : Int32) (jX_C_h_3 : Nat → Int32) => 0 ≤ r.toInt ∧ r.toInt ≤ 1) (fun u t => cB D (va_A [(h, .inr (5, [.int h_0, .int h_1, .ref h_2, .ref h_3, .ref h_4, .ref h_5, .ref h_6])), (h0, .inr (8, [.ref h0_0, .int h0_1])), (h0_0, .inl (a_h0_0, n_h0_0, .inl f_h0_0)), (h_3, .inl (a_h_3, 40, .inl f_h_3))] sz) ((fun (_ : (Nat → Int32)) => ([] : List (ClassId × FieldType))) u) ((fun (jX_C_h_3 : Nat → Int32) => ([(h, .inr (5, [.int h_0, .int h_1, .ref h_2, .ref h_3, .ref h_4, .ref h_5, .ref h_6])), (h0, .inr (8, [.ref h0_0, .int h0_1])), (h0_0, .inl (a_h0_0, n_h0_0, .inl f_h0_0)), (h_3, .inl (a_h_3, 40, .inl jX_C_h_3))] : va_W)) u) t) (va_A [(h, .inr (5, [.int h_0, .int h_1, .ref h_2, .ref h_3, .ref h_4, .ref h_5, .ref h_6])), (h0, .inr (8, [.ref h0_0, .int h0_1])), (h0_0, .inl (a_h0_0, n_h0_0, .inl f_h0_0)), (h_3, .inl (a_h_3, 40, .inl f_h_3))] sz)) 0 0 (va_A [(h, .inr (5, [.int h_0, .int h_1, .ref h_2, .ref h_3, .ref h_4, .ref h_5, .ref h_6])), (h0, .inr (8, [.ref h0_0, .int h0_1])), (h0_0, .inl (a_h0_0, n_h0_0, .inl f_h0_0)), (h_3, .inl (a_h_3, 40, .inl f_h_3))] sz) := by
  refine Met.ofW (cc := cX5_hasForm) (maxL := 3) (ret := (some .boolean)) (by decide) rfl ?_
  intro p e s m args below meth c s₁ B hml hv
  obtain ⟨rfl, aks, rfl, Wd⟩ := k_enter hv
  have C : CallFix p m c cX5_hasForm 3 s _ gG RX5 := ⟨B.exec, B.bytes, hml, findClass_of_methodNamed B.named, fun w h => atoms_spec (ws := Cond.code yX5_hasForm cX5_hasForm 3 (some .boolean) :: gG) B.pre w (List.mem_cons_of_mem _ h)⟩
  have hr := B.returns
  have hlk := B.notSynchronized
  generalize va_A [(h, .inr (5, [.int h_0, .int h_1, .ref h_2, .ref h_3, .ref h_4, .ref h_5, .ref h_6])), (h0, .inr (8, [.ref h0_0, .int h0_1])), (h0_0, .inl (a_h0_0, n_h0_0, .inl f_h0_0)), (h_3, .inl (a_h_3, 40, .inl f_h_3))] s.heap.size = A at Wd ⊢
  refine k_locals (Nat.le_of_ble_eq_true rfl) [(0, .ref h), (1, .ref h0)] rfl (fun ls hl => ?_)
  refine lv_iconst (v := 0) C.1 C.2.1 dX5_hasForm_0 (by decide) ?_
  refine lv_istore_n (lv' := [(2, .int 0), (0, .ref h), (1, .ref h0)]) C.1 C.2.1 dX5_hasForm_1 rfl hl (by decide) rfl (fun ls hl => ?_)
  refine k_loopA (fun (u : (Nat → Int32) × (Int32)) H locs ls => match u with | (j2_C_h_3, j2_L_2) => 0 ≤ j2_L_2.toInt ∧ j2_L_2.toInt ≤ 3 ∧ wX D [(a_h0_0, .int), (a_h_3, .int)] s [(h, .inr (5, [.int h_0, .int h_1, .ref h_2, .ref h_3, .ref h_4, .ref h_5, .ref h_6])), (h0, .inr (8, [.ref h0_0, .int h0_1])), (h0_0, .inl (a_h0_0, n_h0_0, .inl f_h0_0)), (h_3, .inl (a_h_3, 40, .inl j2_C_h_3))] H A s.heap locs ∧ lv_has ls 3 [(2, .int j2_L_2), (0, .ref h), (1, .ref h0)]) (fun (u : (Nat → Int32) × (Int32)) ls => match u with | (j2_C_h_3, j2_L_2) => F0 m 2 ls []) (fun (u : (Nat → Int32) × (Int32)) => match u with | (j2_C_h_3, j2_L_2) => (4 - j2_L_2.toInt).toNat) (fun u H locs ls hi ih2 => ?_) (f_h_3, 0) _ _ _ ⟨by have zq0 : (0 : Int32).toInt = 0 := (by decide); omega, by have zq0 : (0 : Int32).toInt = 0 := (by decide); omega, Wd, lv_sub hl [0, 1, 2] rfl⟩
  obtain ⟨j2_C_h_3, j2_L_2⟩ := u
  obtain ⟨i2_0, i2_1, Wd, hl⟩ := hi
  refine lv_iload_n C.1 C.2.1 dX5_hasForm_2 rfl (lv_at hl 0 rfl) ?_
  refine lv_iconst (v := 3) C.1 C.2.1 dX5_hasForm_3 (by decide) ?_
  refine lv_icmp_ge (tgt := 26) C.1 C.2.1 dX5_hasForm_4 (by decide) (fun c4 => ?_) (fun c4 => ?_)
  · have i4 : 3 ≤ j2_L_2.toInt := kz_le c4
    refine lv_iconst (v := 1) C.1 C.2.1 dX5_hasForm_26 (by decide) ?_
    exact k_zret C hr hlk rfl Wd j2_C_h_3 (by exact ⟨by have zq1 : (1 : Int32).toInt = 1 := (by decide); omega, by have zq1 : (1 : Int32).toInt = 1 := (by decide); omega⟩) [0, 1, 2, 3] rfl (by decide) [] rfl (by decide) (by decide) dX5_hasForm_27
  · have i4 : j2_L_2.toInt < 3 := kz_nle c4
    refine lv_aload_n C.1 C.2.1 dX5_hasForm_7 rfl (lv_at hl 1 rfl) ?_
    refine lv_aload_n C.1 C.2.1 dX5_hasForm_8 rfl (lv_at hl 2 rfl) ?_
    refine lv_iload_n C.1 C.2.1 dX5_hasForm_9 rfl (lv_at hl 0 rfl) ?_
    refine k_ci Wd [1, 2, 0, 3] [] rfl (wr := []) rfl (by decide) (by decide) (cells' := 0) (slots' := 0) (by decide) (by decide) (k_runV (rest := []) C aks Wd cs_X5_80 (sX5_mostTimes l D h h0 j2_L_2 h0_0 h0_1 n_h0_0 a_h0_0 f_h0_0 h_0 h_1 h_2 h_3 h_4 h_5 h_6 a_h_3 j2_C_h_3 _ (by omega) (by omega) (by omega) (by omega)) [1, 2, 0, 3] rfl (by decide) [0, 1] rfl 0 5 rfl rfl rfl rfl rfl ⟨(Nat.le_of_ble_eq_true rfl), (Nat.le_of_ble_eq_true rfl)⟩ hl.1 rfl rfl (Nat.le_of_ble_eq_true rfl) ⟨(Nat.le_of_ble_eq_true rfl), (Nat.le_of_ble_eq_true rfl)⟩ dX5_hasForm_10) (fun r10 s10_0 H locs w10 Wd => ?_)
    have Wd : wX D [(a_h0_0, .int), (a_h_3, .int)] s [(h, .inr (5, [.int h_0, .int h_1, .ref h_2, .ref h_3, .ref h_4, .ref h_5, .ref h_6])), (h0, .inr (8, [.ref h0_0, .int h0_1])), (h0_0, .inl (a_h0_0, n_h0_0, .inl f_h0_0)), (h_3, .inl (a_h_3, 40, .inl s10_0))] _ A s.heap _ := k_sub Wd [2, 0, 1, 3] rfl (by decide) [0, 1] rfl
    refine lv_bipush (v := 7) C.1 C.2.1 dX5_hasForm_13 (by decide) ?_
    refine lv_icmp_le (tgt := 20) C.1 C.2.1 dX5_hasForm_15 (by decide) (fun c15 => ?_) (fun c15 => ?_)
    · have i15 : r10.toInt ≤ 7 := kz_le c15
      obtain ⟨v20, ev20⟩ : ∃ z : Int32, j2_L_2 + 1 = z := ⟨_, rfl⟩
      have iv20 : v20.toInt = j2_L_2.toInt + 1 := kz_addc ev20 (by decide) (by have zr0 := kz_rng j2_L_2; omega) (by have zr0 := kz_rng j2_L_2; omega)
      refine lv_iinc (v := v20) (lv' := [(2, .int v20), (0, .ref h), (1, .ref h0)]) C.1 C.2.1 dX5_hasForm_20 hl (k := 0) rfl ev20 (by decide) rfl (fun ls hl => ?_)
      refine lv_goto (tgt := 2) C.1 C.2.1 dX5_hasForm_23 (by decide) ?_
      exact ih2 (s10_0, v20) _ _ _ ⟨by omega, by omega, Wd, lv_sub hl [0, 1, 2] rfl⟩ (by show (4 - v20.toInt).toNat < (4 - j2_L_2.toInt).toNat; omega)
    · have i15 : 7 < r10.toInt := kz_nle c15
      refine lv_iconst (v := 0) C.1 C.2.1 dX5_hasForm_18 (by decide) ?_
      exact k_zret C hr hlk rfl Wd s10_0 (by exact ⟨by have zq0 : (0 : Int32).toInt = 0 := (by decide); omega, by have zq0 : (0 : Int32).toInt = 0 := (by decide); omega⟩) [0, 1, 2, 3] rfl (by decide) [] rfl (by decide) (by decide) dX5_hasForm_19
set_option maxHeartbeats 4000000 in
set_option maxRecDepth 100000 in
theorem sX5_beginForm (l : Launch) (D : va_G) (h : Nat) (h0 : Nat) (x1 : Int32) (n_h0 : Nat) (a_h0 : ClassId) (f_h0 : Nat → Int32) (sz : Nat) (k_n_h0 : n_h0 ≤ 100000) (k_p_h0 : 0 ≤ n_h0)  : Met l yX5_beginForm (Cond.code yX5_beginForm cX5_beginForm 5 none :: gG) { frames := 2, cells := 0, slots := 0, locals := 84 } (cPre D [(a_h0, .int)] [(h0, .inl (a_h0, n_h0, .inl f_h0))] sz [.ref h, .ref h0, .int x1]) (va_Qv (fun (jX_C_h0 : Nat → Int32) => True) (fun u t => cB D (va_A [(h0, .inl (a_h0, n_h0, .inl f_h0))] sz) ((fun (_ : (Nat → Int32)) => ([] : List (ClassId × FieldType))) u) ((fun (jX_C_h0 : Nat → Int32) => ([(h0, .inl (a_h0, n_h0, .inl jX_C_h0))] : va_W)) u) t) (va_A [(h0, .inl (a_h0, n_h0, .inl f_h0))] sz)) 0 0 (va_A [(h0, .inl (a_h0, n_h0, .inl f_h0))] sz) := by
  refine Met.ofW (cc := cX5_beginForm) (maxL := 5) (ret := none) (by decide) rfl ?_
  intro p e s m args below meth c s₁ B hml hv
  obtain ⟨rfl, aks, rfl, Wd⟩ := k_enter hv
  have C : CallFix p m c cX5_beginForm 5 s _ gG RX5 := ⟨B.exec, B.bytes, hml, findClass_of_methodNamed B.named, fun w h => atoms_spec (ws := Cond.code yX5_beginForm cX5_beginForm 5 none :: gG) B.pre w (List.mem_cons_of_mem _ h)⟩
  have hr := B.returns
  have hlk := B.notSynchronized
  generalize va_A [(h0, .inl (a_h0, n_h0, .inl f_h0))] s.heap.size = A at Wd ⊢
  refine k_locals (Nat.le_of_ble_eq_true rfl) [(0, .ref h), (1, .ref h0), (2, .int x1)] rfl (fun ls hl => ?_)
  refine lv_iconst (v := 0) C.1 C.2.1 dX5_beginForm_0 (by decide) ?_
  refine lv_istore_n (lv' := [(3, .int 0), (0, .ref h), (1, .ref h0), (2, .int x1)]) C.1 C.2.1 dX5_beginForm_1 rfl hl (by decide) rfl (fun ls hl => ?_)
  refine k_loopA (fun (u : (Nat → Int32) × (Int32)) H locs ls => match u with | (j2_C_h0, j2_L_3) => 0 ≤ j2_L_3.toInt ∧ j2_L_3.toInt ≤ 100000 ∧ j2_L_3.toInt ≤ (n_h0 : Int) ∧ wX D [(a_h0, .int)] s [(h0, .inl (a_h0, n_h0, .inl j2_C_h0))] H A s.heap locs ∧ lv_has ls 5 [(3, .int j2_L_3), (0, .ref h), (1, .ref h0), (2, .int x1)]) (fun (u : (Nat → Int32) × (Int32)) ls => match u with | (j2_C_h0, j2_L_3) => F0 m 2 ls []) (fun (u : (Nat → Int32) × (Int32)) => match u with | (j2_C_h0, j2_L_3) => (100001 - j2_L_3.toInt).toNat) (fun u H locs ls hi ih2 => ?_) (f_h0, 0) _ _ _ ⟨by have zq0 : (0 : Int32).toInt = 0 := (by decide); omega, by have zq0 : (0 : Int32).toInt = 0 := (by decide); omega, by have zq0 : (0 : Int32).toInt = 0 := (by decide); omega, Wd, lv_sub hl [0, 1, 2, 3] rfl⟩
  obtain ⟨j2_C_h0, j2_L_3⟩ := u
  obtain ⟨i2_0, i2_1, i2_2, Wd, hl⟩ := hi
  refine lv_iload_n C.1 C.2.1 dX5_beginForm_2 rfl (lv_at hl 0 rfl) ?_
  refine lv_aload_n C.1 C.2.1 dX5_beginForm_3 rfl (lv_at hl 2 rfl) ?_
  obtain ⟨v4, ev4⟩ : ∃ z : Int32, Int32.ofNat n_h0 = z := ⟨_, rfl⟩
  have iv4 : v4.toInt = (n_h0 : Int) := kz_len ev4 (by omega)
  refine k_alen (v := v4) C Wd 0 0 rfl rfl ev4 dX5_beginForm_4 ?_
  refine lv_icmp_ge (tgt := 18) C.1 C.2.1 dX5_beginForm_5 (by decide) (fun c5 => ?_) (fun c5 => ?_)
  · have i5 : v4.toInt ≤ j2_L_3.toInt := kz_le c5
    refine lv_iload_n C.1 C.2.1 dX5_beginForm_18 rfl (lv_at hl 3 rfl) ?_
    refine k_cutA (fun (u : (Int32) × (Int32)) H locs ls => match u with | (j37_L_3, j37_S_0) => 0 ≤ j37_S_0.toInt ∧ -1 ≤ j37_L_3.toInt ∧ j37_L_3.toInt ≤ 2 ∧ j37_S_0.toInt ≤ 64 ∧ j37_S_0.toInt ≤ j37_L_3.toInt + 64 ∧ wX D [(a_h0, .int)] s [(h0, .inl (a_h0, n_h0, .inl j2_C_h0))] H A s.heap locs ∧ lv_has ls 5 [(3, .int j37_L_3), (0, .ref h), (1, .ref h0), (2, .int x1)]) (fun (u : (Int32) × (Int32)) ls => match u with | (j37_L_3, j37_S_0) => F0 m 37 ls [.int j37_S_0]) (fun u H locs ls hi => ?_) (fun J37 => ?_)
    · obtain ⟨j37_L_3, j37_S_0⟩ := u
      obtain ⟨i37_0, i37_1, i37_2, i37_3, i37_4, Wd, hl⟩ := hi
      refine lv_istore (lv' := [(4, .int j37_S_0), (3, .int j37_L_3), (0, .ref h), (1, .ref h0), (2, .int x1)]) C.1 C.2.1 dX5_beginForm_37 hl (by decide) rfl (fun ls hl => ?_)
      refine lv_iload C.1 C.2.1 dX5_beginForm_39 (lv_at hl 0 rfl) ?_
      refine lv_aload_n C.1 C.2.1 dX5_beginForm_41 rfl (lv_at hl 3 rfl) ?_
      obtain ⟨v42, ev42⟩ : ∃ z : Int32, Int32.ofNat n_h0 = z := ⟨_, rfl⟩
      have iv42 : v42.toInt = (n_h0 : Int) := kz_len ev42 (by omega)
      refine k_alen (v := v42) C Wd 0 0 rfl rfl ev42 dX5_beginForm_42 ?_
      refine k_cutA (fun (j63_C_h0 : Nat → Int32) H locs ls => wX D [(a_h0, .int)] s [(h0, .inl (a_h0, n_h0, .inl j63_C_h0))] H A s.heap locs ∧ lv_has ls 5 [(4, .int j37_S_0), (3, .int j37_L_3), (0, .ref h), (1, .ref h0), (2, .int x1)]) (fun (j63_C_h0 : Nat → Int32) ls => F0 m 63 ls []) (fun j63_C_h0 H locs ls hi => ?_) (fun J63 => ?_)
      · obtain ⟨Wd, hl⟩ := hi
        exact k_vret C hr hlk Wd j63_C_h0 trivial [0] rfl (by decide) [] rfl (by decide) (by decide) dX5_beginForm_63
      refine lv_icmp_ge (tgt := 63) C.1 C.2.1 dX5_beginForm_43 (by decide) (fun c43 => ?_) (fun c43 => ?_)
      · have i43 : v42.toInt ≤ j37_S_0.toInt := kz_le c43
        exact J63 j2_C_h0 _ _ _ ⟨Wd, lv_sub hl [0, 1, 2, 3, 4] rfl⟩
      · have i43 : j37_S_0.toInt < v42.toInt := kz_nle c43
        refine lv_aload_n C.1 C.2.1 dX5_beginForm_46 rfl (lv_at hl 3 rfl) ?_
        refine lv_iload C.1 C.2.1 dX5_beginForm_47 (lv_at hl 0 rfl) ?_
        refine lv_iload_n C.1 C.2.1 dX5_beginForm_49 rfl (lv_at hl 1 rfl) ?_
        refine lv_iconst (v := (-1)) C.1 C.2.1 dX5_beginForm_50 (by decide) ?_
        refine k_cutA (fun (j62_S_0 : Int32) H locs ls => wX D [(a_h0, .int)] s [(h0, .inl (a_h0, n_h0, .inl j2_C_h0))] H A s.heap locs ∧ lv_has ls 5 [(4, .int j37_S_0), (3, .int j37_L_3), (0, .ref h), (1, .ref h0), (2, .int x1)]) (fun (j62_S_0 : Int32) ls => F0 m 62 ls [.int j62_S_0, .int j37_S_0, .ref h0]) (fun j62_S_0 H locs ls hi => ?_) (fun J62 => ?_)
        · obtain ⟨Wd, hl⟩ := hi
          obtain ⟨f62, ef62⟩ : ∃ z : Nat → Int32, upd j2_C_h0 j37_S_0.toNatClampNeg j62_S_0 = z := ⟨_, rfl⟩
          refine k_iast C Wd 0 0 [(h0, .inl (a_h0, n_h0, .inl f62))] rfl rfl (vp_in_iff.mpr ⟨by omega, by omega⟩) ef62 rfl dX5_beginForm_62 (fun H locs Wd => ?_)
          exact J63 f62 _ _ _ ⟨Wd, lv_sub hl [0, 1, 2, 3, 4] rfl⟩
        refine lv_icmp_ne (tgt := 61) C.1 C.2.1 dX5_beginForm_51 (by decide) (fun c51 => ?_) (fun c51 => ?_)
        · have i51 : ¬ j37_L_3.toInt = (-1) := kz_ne c51
          refine lv_iconst (v := 1) C.1 C.2.1 dX5_beginForm_61 (by decide) ?_
          exact J62 1 _ _ _ ⟨Wd, lv_sub hl [0, 1, 2, 3, 4] rfl⟩
        · have i51 : j37_L_3.toInt = (-1) := kz_eq c51
          refine lv_iload_n C.1 C.2.1 dX5_beginForm_54 rfl (lv_at hl 4 rfl) ?_
          refine lv_bipush (v := 15) C.1 C.2.1 dX5_beginForm_55 (by decide) ?_
          obtain ⟨v57, ev57⟩ : ∃ z : Int32, x1 &&& 15 = z := ⟨_, rfl⟩
          refine k_iand (v := v57) C ev57 dX5_beginForm_57 ?_
          refine lv_goto (tgt := 62) C.1 C.2.1 dX5_beginForm_58 (by decide) ?_
          exact J62 v57 _ _ _ ⟨Wd, lv_sub hl [0, 1, 2, 3, 4] rfl⟩
    refine k_pi (k_runS (rest := []) C aks Wd cs_X5_109 (sX9_letterOf l D x1 _ ) [] rfl (by decide) [] rfl rfl rfl ⟨(Nat.le_of_ble_eq_true rfl), (Nat.le_of_ble_eq_true rfl)⟩ hl.1 rfl rfl (Nat.le_of_ble_eq_true rfl) ⟨(Nat.le_of_ble_eq_true rfl), (Nat.le_of_ble_eq_true rfl)⟩ dX5_beginForm_19) (fun r19 w19 => ?_)
    rcases w19 with rfl | ⟨g19_1_0, g19_1_1, g19_1_2, g19_1_3⟩
    · refine lv_istore_n (lv' := [(3, .int (-1)), (0, .ref h), (1, .ref h0), (2, .int x1)]) C.1 C.2.1 dX5_beginForm_22 rfl hl (by decide) rfl (fun ls hl => ?_)
      refine lv_iload_n C.1 C.2.1 dX5_beginForm_23 rfl (lv_at hl 0 rfl) ?_
      refine lv_iconst (v := (-1)) C.1 C.2.1 dX5_beginForm_24 (by decide) ?_
      refine lv_icmp_ne (tgt := 32) C.1 C.2.1 dX5_beginForm_25 (by decide) (fun c25 => absurd c25 (by decide)) (fun _ => ?_)
      refine lv_iconst (v := 0) C.1 C.2.1 dX5_beginForm_28 (by decide) ?_
      refine lv_goto (tgt := 37) C.1 C.2.1 dX5_beginForm_29 (by decide) ?_
      exact J37 ((-1), 0) _ _ _ ⟨by have zq0 : (0 : Int32).toInt = 0 := (by decide); omega, by have zqm1 : (-1 : Int32).toInt = -1 := (by decide); omega, by have zqm1 : (-1 : Int32).toInt = -1 := (by decide); omega, by have zq0 : (0 : Int32).toInt = 0 := (by decide); omega, by have zqm1 : (-1 : Int32).toInt = -1 := (by decide); have zq0 : (0 : Int32).toInt = 0 := (by decide); omega, Wd, lv_sub hl [0, 1, 2, 3] rfl⟩
    · have g19_1_0 : 0 ≤ r19.toInt := g19_1_0
      have g19_1_1 : r19.toInt ≤ 2 := g19_1_1
      have g19_1_2 : r19.toInt + 20 ≤ x1.toInt := g19_1_2
      have g19_1_3 : x1.toInt ≤ r19.toInt + 20 := g19_1_3
      refine lv_istore_n (lv' := [(3, .int r19), (0, .ref h), (1, .ref h0), (2, .int x1)]) C.1 C.2.1 dX5_beginForm_22 rfl hl (by decide) rfl (fun ls hl => ?_)
      refine lv_iload_n C.1 C.2.1 dX5_beginForm_23 rfl (lv_at hl 0 rfl) ?_
      refine lv_iconst (v := (-1)) C.1 C.2.1 dX5_beginForm_24 (by decide) ?_
      refine lv_icmp_ne (tgt := 32) C.1 C.2.1 dX5_beginForm_25 (by decide) (fun _ => ?_) (fun c25 => False.elim (by have i25 : r19.toInt = (-1) := kz_eq c25; omega))
      refine lv_iconst (v := 1) C.1 C.2.1 dX5_beginForm_32 (by decide) ?_
      refine lv_iconst (v := 3) C.1 C.2.1 dX5_beginForm_33 (by decide) ?_
      refine lv_iload_n C.1 C.2.1 dX5_beginForm_34 rfl (lv_at hl 0 rfl) ?_
      obtain ⟨v35, ev35⟩ : ∃ z : Int32, 3 * r19 = z := ⟨_, rfl⟩
      refine k_imul (v := v35) C ev35 dX5_beginForm_35 ?_
      obtain ⟨v36, ev36⟩ : ∃ z : Int32, 1 <<< (v35 &&& 31) = z := ⟨_, rfl⟩
      have iv36 : 0 ≤ v36.toInt ∧ v36.toInt ≤ 64 := kz_shl3 (by omega) (by omega) ev35 ev36
      refine k_ishl (v := v36) C ev36 dX5_beginForm_36 ?_
      exact J37 (r19, v36) _ _ _ ⟨by omega, by omega, by omega, by omega, by omega, Wd, lv_sub hl [0, 1, 2, 3] rfl⟩
  · have i5 : j2_L_3.toInt < v4.toInt := kz_nle c5
    refine lv_aload_n C.1 C.2.1 dX5_beginForm_8 rfl (lv_at hl 2 rfl) ?_
    refine lv_iload_n C.1 C.2.1 dX5_beginForm_9 rfl (lv_at hl 0 rfl) ?_
    refine lv_iconst (v := 0) C.1 C.2.1 dX5_beginForm_10 (by decide) ?_
    obtain ⟨f11, ef11⟩ : ∃ z : Nat → Int32, upd j2_C_h0 j2_L_3.toNatClampNeg 0 = z := ⟨_, rfl⟩
    refine k_iast C Wd 0 0 [(h0, .inl (a_h0, n_h0, .inl f11))] rfl rfl (vp_in_iff.mpr ⟨by omega, by omega⟩) ef11 rfl dX5_beginForm_11 (fun H locs Wd => ?_)
    obtain ⟨v12, ev12⟩ : ∃ z : Int32, j2_L_3 + 1 = z := ⟨_, rfl⟩
    have iv12 : v12.toInt = j2_L_3.toInt + 1 := kz_addc ev12 (by decide) (by have zr0 := kz_rng j2_L_3; omega) (by have zr0 := kz_rng j2_L_3; omega)
    refine lv_iinc (v := v12) (lv' := [(3, .int v12), (0, .ref h), (1, .ref h0), (2, .int x1)]) C.1 C.2.1 dX5_beginForm_12 hl (k := 0) rfl ev12 (by decide) rfl (fun ls hl => ?_)
    refine lv_goto (tgt := 2) C.1 C.2.1 dX5_beginForm_15 (by decide) ?_
    exact ih2 (f11, v12) _ _ _ ⟨by omega, by omega, by omega, Wd, lv_sub hl [0, 1, 2, 3] rfl⟩ (by show (100001 - v12.toInt).toNat < (100001 - j2_L_3.toInt).toNat; omega)
set_option maxHeartbeats 4000000 in
set_option maxRecDepth 100000 in
theorem sX5_addUp (l : Launch) (D : va_G) (h : Nat) (h0 : Nat) (h1 : Nat) (x2 : Int32) (n_h0 : Nat) (a_h0 : ClassId) (f_h0 : Nat → Int32) (n_h1 : Nat) (a_h1 : ClassId) (f_h1 : Nat → Int32) (sz : Nat) (k_n_h0 : n_h0 ≤ 100000) (k_p_h0 : 0 ≤ n_h0) (k_n_h1 : n_h1 ≤ 100000) (k_p_h1 : 0 ≤ n_h1)  : Met l yX5_addUp (Cond.code yX5_addUp cX5_addUp 5 none :: gG) { frames := 2, cells := 0, slots := 0, locals := 87 } (cPre D [(a_h0, .int), (a_h1, .int)] [(h0, .inl (a_h0, n_h0, .inl f_h0)), (h1, .inl (a_h1, n_h1, .inl f_h1))] sz [.ref h, .ref h0, .ref h1, .int x2]) (va_Qv (fun (jX_C_h1 : Nat → Int32) => True) (fun u t => cB D (va_A [(h0, .inl (a_h0, n_h0, .inl f_h0)), (h1, .inl (a_h1, n_h1, .inl f_h1))] sz) ((fun (_ : (Nat → Int32)) => ([] : List (ClassId × FieldType))) u) ((fun (jX_C_h1 : Nat → Int32) => ([(h0, .inl (a_h0, n_h0, .inl f_h0)), (h1, .inl (a_h1, n_h1, .inl jX_C_h1))] : va_W)) u) t) (va_A [(h0, .inl (a_h0, n_h0, .inl f_h0)), (h1, .inl (a_h1, n_h1, .inl f_h1))] sz)) 0 0 (va_A [(h0, .inl (a_h0, n_h0, .inl f_h0)), (h1, .inl (a_h1, n_h1, .inl f_h1))] sz) := by
  refine Met.ofW (cc := cX5_addUp) (maxL := 5) (ret := none) (by decide) rfl ?_
  intro p e s m args below meth c s₁ B hml hv
  obtain ⟨rfl, aks, rfl, Wd⟩ := k_enter hv
  have C : CallFix p m c cX5_addUp 5 s _ gG RX5 := ⟨B.exec, B.bytes, hml, findClass_of_methodNamed B.named, fun w h => atoms_spec (ws := Cond.code yX5_addUp cX5_addUp 5 none :: gG) B.pre w (List.mem_cons_of_mem _ h)⟩
  have hr := B.returns
  have hlk := B.notSynchronized
  generalize va_A [(h0, .inl (a_h0, n_h0, .inl f_h0)), (h1, .inl (a_h1, n_h1, .inl f_h1))] s.heap.size = A at Wd ⊢
  refine k_locals (Nat.le_of_ble_eq_true rfl) [(0, .ref h), (1, .ref h0), (2, .ref h1), (3, .int x2)] rfl (fun ls hl => ?_)
  refine lv_iconst (v := 0) C.1 C.2.1 dX5_addUp_0 (by decide) ?_
  refine lv_istore (lv' := [(4, .int 0), (0, .ref h), (1, .ref h0), (2, .ref h1), (3, .int x2)]) C.1 C.2.1 dX5_addUp_1 hl (by decide) rfl (fun ls hl => ?_)
  refine k_loopA (fun (u : (Nat → Int32) × (Int32)) H locs ls => match u with | (j3_C_h1, j3_L_4) => 0 ≤ j3_L_4.toInt ∧ j3_L_4.toInt ≤ 100000 ∧ j3_L_4.toInt ≤ (n_h0 : Int) ∧ j3_L_4.toInt ≤ (n_h1 : Int) ∧ wX D [(a_h0, .int), (a_h1, .int)] s [(h0, .inl (a_h0, n_h0, .inl f_h0)), (h1, .inl (a_h1, n_h1, .inl j3_C_h1))] H A s.heap locs ∧ lv_has ls 5 [(4, .int j3_L_4), (0, .ref h), (1, .ref h0), (2, .ref h1), (3, .int x2)]) (fun (u : (Nat → Int32) × (Int32)) ls => match u with | (j3_C_h1, j3_L_4) => F0 m 3 ls []) (fun (u : (Nat → Int32) × (Int32)) => match u with | (j3_C_h1, j3_L_4) => (100001 - j3_L_4.toInt).toNat) (fun u H locs ls hi ih3 => ?_) (f_h1, 0) _ _ _ ⟨by have zq0 : (0 : Int32).toInt = 0 := (by decide); omega, by have zq0 : (0 : Int32).toInt = 0 := (by decide); omega, by have zq0 : (0 : Int32).toInt = 0 := (by decide); omega, by have zq0 : (0 : Int32).toInt = 0 := (by decide); omega, Wd, lv_sub hl [0, 1, 2, 3, 4] rfl⟩
  obtain ⟨j3_C_h1, j3_L_4⟩ := u
  obtain ⟨i3_0, i3_1, i3_2, i3_3, Wd, hl⟩ := hi
  refine lv_iload C.1 C.2.1 dX5_addUp_3 (lv_at hl 0 rfl) ?_
  refine lv_aload_n C.1 C.2.1 dX5_addUp_5 rfl (lv_at hl 2 rfl) ?_
  obtain ⟨v6, ev6⟩ : ∃ z : Int32, Int32.ofNat n_h0 = z := ⟨_, rfl⟩
  have iv6 : v6.toInt = (n_h0 : Int) := kz_len ev6 (by omega)
  refine k_alen (v := v6) C Wd 0 0 rfl rfl ev6 dX5_addUp_6 ?_
  refine k_cutA (fun (_ : Unit) H locs ls => wX D [(a_h0, .int), (a_h1, .int)] s [(h0, .inl (a_h0, n_h0, .inl f_h0)), (h1, .inl (a_h1, n_h1, .inl j3_C_h1))] H A s.heap locs ∧ lv_has ls 5 [(4, .int j3_L_4), (0, .ref h), (1, .ref h0), (2, .ref h1), (3, .int x2)]) (fun (_ : Unit) ls => F0 m 39 ls []) (fun _ H locs ls hi => ?_) (fun J39 => ?_)
  · obtain ⟨Wd, hl⟩ := hi
    exact k_vret C hr hlk Wd j3_C_h1 trivial [0, 1] rfl (by decide) [] rfl (by decide) (by decide) dX5_addUp_39
  refine lv_icmp_ge (tgt := 39) C.1 C.2.1 dX5_addUp_7 (by decide) (fun c7 => ?_) (fun c7 => ?_)
  · have i7 : v6.toInt ≤ j3_L_4.toInt := kz_le c7
    exact J39 () _ _ _ ⟨Wd, lv_sub hl [0, 1, 2, 3, 4] rfl⟩
  · have i7 : j3_L_4.toInt < v6.toInt := kz_nle c7
    refine lv_iload C.1 C.2.1 dX5_addUp_10 (lv_at hl 0 rfl) ?_
    refine lv_aload_n C.1 C.2.1 dX5_addUp_12 rfl (lv_at hl 3 rfl) ?_
    obtain ⟨v13, ev13⟩ : ∃ z : Int32, Int32.ofNat n_h1 = z := ⟨_, rfl⟩
    have iv13 : v13.toInt = (n_h1 : Int) := kz_len ev13 (by omega)
    refine k_alen (v := v13) C Wd 1 1 rfl rfl ev13 dX5_addUp_13 ?_
    refine lv_icmp_ge (tgt := 39) C.1 C.2.1 dX5_addUp_14 (by decide) (fun c14 => ?_) (fun c14 => ?_)
    · have i14 : v13.toInt ≤ j3_L_4.toInt := kz_le c14
      exact J39 () _ _ _ ⟨Wd, lv_sub hl [0, 1, 2, 3, 4] rfl⟩
    · have i14 : j3_L_4.toInt < v13.toInt := kz_nle c14
      refine lv_aload_n C.1 C.2.1 dX5_addUp_17 rfl (lv_at hl 3 rfl) ?_
      refine lv_iload C.1 C.2.1 dX5_addUp_18 (lv_at hl 0 rfl) ?_
      refine lv_iload_n C.1 C.2.1 dX5_addUp_20 rfl (lv_at hl 4 rfl) ?_
      refine lv_aload_n C.1 C.2.1 dX5_addUp_21 rfl (lv_at hl 2 rfl) ?_
      refine lv_iload C.1 C.2.1 dX5_addUp_22 (lv_at hl 0 rfl) ?_
      obtain ⟨v24, ev24⟩ : ∃ z : Int32, f_h0 j3_L_4.toNatClampNeg = z := ⟨_, rfl⟩
      refine k_iald (v := v24) C Wd 0 0 rfl rfl (vp_in_iff.mpr ⟨by omega, by omega⟩) ev24 dX5_addUp_24 ?_
      refine lv_aload_n C.1 C.2.1 dX5_addUp_25 rfl (lv_at hl 3 rfl) ?_
      refine lv_iload C.1 C.2.1 dX5_addUp_26 (lv_at hl 0 rfl) ?_
      obtain ⟨v28, ev28⟩ : ∃ z : Int32, j3_C_h1 j3_L_4.toNatClampNeg = z := ⟨_, rfl⟩
      refine k_iald (v := v28) C Wd 1 1 rfl rfl (vp_in_iff.mpr ⟨by omega, by omega⟩) ev28 dX5_addUp_28 ?_
      refine k_pi (k_runS (rest := [.int j3_L_4, .ref h1]) C aks Wd cs_X5_112 (sX8_result l D x2 v24 v28 _ ) [] rfl (by decide) [] rfl rfl rfl ⟨(Nat.le_of_ble_eq_true rfl), (Nat.le_of_ble_eq_true rfl)⟩ hl.1 rfl rfl (Nat.le_of_ble_eq_true rfl) ⟨(Nat.le_of_ble_eq_true rfl), (Nat.le_of_ble_eq_true rfl)⟩ dX5_addUp_29) (fun r29 w29 => ?_)
      obtain ⟨f32, ef32⟩ : ∃ z : Nat → Int32, upd j3_C_h1 j3_L_4.toNatClampNeg r29 = z := ⟨_, rfl⟩
      refine k_iast C Wd 1 1 [(h0, .inl (a_h0, n_h0, .inl f_h0)), (h1, .inl (a_h1, n_h1, .inl f32))] rfl rfl (vp_in_iff.mpr ⟨by omega, by omega⟩) ef32 rfl dX5_addUp_32 (fun H locs Wd => ?_)
      obtain ⟨v33, ev33⟩ : ∃ z : Int32, j3_L_4 + 1 = z := ⟨_, rfl⟩
      have iv33 : v33.toInt = j3_L_4.toInt + 1 := kz_addc ev33 (by decide) (by have zr0 := kz_rng j3_L_4; omega) (by have zr0 := kz_rng j3_L_4; omega)
      refine lv_iinc (v := v33) (lv' := [(4, .int v33), (0, .ref h), (1, .ref h0), (2, .ref h1), (3, .int x2)]) C.1 C.2.1 dX5_addUp_33 hl (k := 0) rfl ev33 (by decide) rfl (fun ls hl => ?_)
      refine lv_goto (tgt := 3) C.1 C.2.1 dX5_addUp_36 (by decide) ?_
      exact ih3 (f32, v33) _ _ _ ⟨by omega, by omega, by omega, by omega, Wd, lv_sub hl [0, 1, 2, 3, 4] rfl⟩ (by show (100001 - v33.toInt).toNat < (100001 - j3_L_4.toInt).toNat; omega)
set_option maxHeartbeats 4000000 in
set_option maxRecDepth 100000 in
theorem sX5_addMultiple (l : Launch) (D : va_G) (h : Nat) (x0 : Int32) (x1 : Int32) (h2 : Nat) (n_h2 : Nat) (a_h2 : ClassId) (f_h2 : Nat → Int32) (h_0 : Int32) (h_1 : Int32) (h_2 : Nat) (h_3 : Nat) (h_4 : Nat) (h_5 : Nat) (h_6 : Nat) (a_h_6 : ClassId) (f_h_6 : Nat → Int32) (sz : Nat) (k_x0_lo : 0 ≤ x0.toInt) (k_x0_hi : x0.toInt ≤ 100000) (k_n_h2 : n_h2 ≤ 100000) (k_p_h2 : 0 ≤ n_h2)  : Met l yX5_addMultiple (Cond.code yX5_addMultiple cX5_addMultiple 5 none :: gG) { frames := 1, cells := 0, slots := 0, locals := 64 } (cPre D [(a_h2, .int), (a_h_6, .int)] [(h2, .inl (a_h2, n_h2, .inl f_h2)), (h, .inr (5, [.int h_0, .int h_1, .ref h_2, .ref h_3, .ref h_4, .ref h_5, .ref h_6])), (h_6, .inl (a_h_6, 512, .inl f_h_6))] sz [.ref h, .int x0, .int x1, .ref h2]) (va_Qv (fun (jX_C_h_6 : Nat → Int32) => True) (fun u t => cB D (va_A [(h2, .inl (a_h2, n_h2, .inl f_h2)), (h, .inr (5, [.int h_0, .int h_1, .ref h_2, .ref h_3, .ref h_4, .ref h_5, .ref h_6])), (h_6, .inl (a_h_6, 512, .inl f_h_6))] sz) ((fun (_ : (Nat → Int32)) => ([] : List (ClassId × FieldType))) u) ((fun (jX_C_h_6 : Nat → Int32) => ([(h2, .inl (a_h2, n_h2, .inl f_h2)), (h, .inr (5, [.int h_0, .int h_1, .ref h_2, .ref h_3, .ref h_4, .ref h_5, .ref h_6])), (h_6, .inl (a_h_6, 512, .inl jX_C_h_6))] : va_W)) u) t) (va_A [(h2, .inl (a_h2, n_h2, .inl f_h2)), (h, .inr (5, [.int h_0, .int h_1, .ref h_2, .ref h_3, .ref h_4, .ref h_5, .ref h_6])), (h_6, .inl (a_h_6, 512, .inl f_h_6))] sz)) 0 0 (va_A [(h2, .inl (a_h2, n_h2, .inl f_h2)), (h, .inr (5, [.int h_0, .int h_1, .ref h_2, .ref h_3, .ref h_4, .ref h_5, .ref h_6])), (h_6, .inl (a_h_6, 512, .inl f_h_6))] sz) := by
  refine Met.ofW (cc := cX5_addMultiple) (maxL := 5) (ret := none) (by decide) rfl ?_
  intro p e s m args below meth c s₁ B hml hv
  obtain ⟨rfl, aks, rfl, Wd⟩ := k_enter hv
  have C : CallFix p m c cX5_addMultiple 5 s _ gG RX5 := ⟨B.exec, B.bytes, hml, findClass_of_methodNamed B.named, fun w h => atoms_spec (ws := Cond.code yX5_addMultiple cX5_addMultiple 5 none :: gG) B.pre w (List.mem_cons_of_mem _ h)⟩
  have hr := B.returns
  have hlk := B.notSynchronized
  generalize va_A [(h2, .inl (a_h2, n_h2, .inl f_h2)), (h, .inr (5, [.int h_0, .int h_1, .ref h_2, .ref h_3, .ref h_4, .ref h_5, .ref h_6])), (h_6, .inl (a_h_6, 512, .inl f_h_6))] s.heap.size = A at Wd ⊢
  refine k_locals (Nat.le_of_ble_eq_true rfl) [(0, .ref h), (1, .int x0), (2, .int x1), (3, .ref h2)] rfl (fun ls hl => ?_)
  refine lv_iconst (v := 0) C.1 C.2.1 dX5_addMultiple_0 (by decide) ?_
  refine lv_istore (lv' := [(4, .int 0), (0, .ref h), (1, .int x0), (2, .int x1), (3, .ref h2)]) C.1 C.2.1 dX5_addMultiple_1 hl (by decide) rfl (fun ls hl => ?_)
  refine k_loopA (fun (u : (Nat → Int32) × (Int32)) H locs ls => match u with | (j3_C_h_6, j3_L_4) => 0 ≤ j3_L_4.toInt ∧ j3_L_4.toInt ≤ 512 ∧ j3_L_4.toInt ≤ (n_h2 : Int) ∧ wX D [(a_h2, .int), (a_h_6, .int)] s [(h2, .inl (a_h2, n_h2, .inl f_h2)), (h, .inr (5, [.int h_0, .int h_1, .ref h_2, .ref h_3, .ref h_4, .ref h_5, .ref h_6])), (h_6, .inl (a_h_6, 512, .inl j3_C_h_6))] H A s.heap locs ∧ lv_has ls 5 [(4, .int j3_L_4), (0, .ref h), (1, .int x0), (2, .int x1), (3, .ref h2)]) (fun (u : (Nat → Int32) × (Int32)) ls => match u with | (j3_C_h_6, j3_L_4) => F0 m 3 ls []) (fun (u : (Nat → Int32) × (Int32)) => match u with | (j3_C_h_6, j3_L_4) => (513 - j3_L_4.toInt).toNat) (fun u H locs ls hi ih3 => ?_) (f_h_6, 0) _ _ _ ⟨by have zq0 : (0 : Int32).toInt = 0 := (by decide); omega, by have zq0 : (0 : Int32).toInt = 0 := (by decide); omega, by have zq0 : (0 : Int32).toInt = 0 := (by decide); omega, Wd, lv_sub hl [0, 1, 2, 3, 4] rfl⟩
  obtain ⟨j3_C_h_6, j3_L_4⟩ := u
  obtain ⟨i3_0, i3_1, i3_2, Wd, hl⟩ := hi
  refine lv_iload C.1 C.2.1 dX5_addMultiple_3 (lv_at hl 0 rfl) ?_
  refine lv_aload_n C.1 C.2.1 dX5_addMultiple_5 rfl (lv_at hl 4 rfl) ?_
  obtain ⟨v6, ev6⟩ : ∃ z : Int32, Int32.ofNat n_h2 = z := ⟨_, rfl⟩
  have iv6 : v6.toInt = (n_h2 : Int) := kz_len ev6 (by omega)
  refine k_alen (v := v6) C Wd 0 0 rfl rfl ev6 dX5_addMultiple_6 ?_
  refine k_cutA (fun (_ : Unit) H locs ls => wX D [(a_h2, .int), (a_h_6, .int)] s [(h2, .inl (a_h2, n_h2, .inl f_h2)), (h, .inr (5, [.int h_0, .int h_1, .ref h_2, .ref h_3, .ref h_4, .ref h_5, .ref h_6])), (h_6, .inl (a_h_6, 512, .inl j3_C_h_6))] H A s.heap locs ∧ lv_has ls 5 [(4, .int j3_L_4), (0, .ref h), (1, .int x0), (2, .int x1), (3, .ref h2)]) (fun (_ : Unit) ls => F0 m 54 ls []) (fun _ H locs ls hi => ?_) (fun J54 => ?_)
  · obtain ⟨Wd, hl⟩ := hi
    exact k_vret C hr hlk Wd j3_C_h_6 trivial [0, 1, 2] rfl (by decide) [] rfl (by decide) (by decide) dX5_addMultiple_54
  refine lv_icmp_ge (tgt := 54) C.1 C.2.1 dX5_addMultiple_7 (by decide) (fun c7 => ?_) (fun c7 => ?_)
  · have i7 : v6.toInt ≤ j3_L_4.toInt := kz_le c7
    exact J54 () _ _ _ ⟨Wd, lv_sub hl [0, 1, 2, 3, 4] rfl⟩
  · have i7 : j3_L_4.toInt < v6.toInt := kz_nle c7
    refine lv_iload_n C.1 C.2.1 dX5_addMultiple_10 rfl (lv_at hl 2 rfl) ?_
    refine lv_iload C.1 C.2.1 dX5_addMultiple_11 (lv_at hl 0 rfl) ?_
    obtain ⟨v13, ev13⟩ : ∃ z : Int32, x0 + j3_L_4 = z := ⟨_, rfl⟩
    have iv13 : v13.toInt = x0.toInt + j3_L_4.toInt := kz_addv ev13 (by have zr0 := kz_rng x0; have zr1 := kz_rng j3_L_4; omega) (by have zr0 := kz_rng x0; have zr1 := kz_rng j3_L_4; omega)
    refine k_iadd (v := v13) C ev13 dX5_addMultiple_13 ?_
    refine lv_sipush (v := 512) C.1 C.2.1 dX5_addMultiple_14 (by decide) ?_
    refine lv_icmp_ge (tgt := 54) C.1 C.2.1 dX5_addMultiple_17 (by decide) (fun c17 => ?_) (fun c17 => ?_)
    · have i17 : 512 ≤ v13.toInt := kz_le c17
      exact J54 () _ _ _ ⟨Wd, lv_sub hl [0, 1, 2, 3, 4] rfl⟩
    · have i17 : v13.toInt < 512 := kz_nle c17
      refine lv_aload_n C.1 C.2.1 dX5_addMultiple_20 rfl (lv_at hl 1 rfl) ?_
      refine k_get C Wd KX5 1 6 rfl (by decide) fl_X5_26 rfl dX5_addMultiple_21 ?_
      refine lv_iload_n C.1 C.2.1 dX5_addMultiple_24 rfl (lv_at hl 2 rfl) ?_
      refine lv_iload C.1 C.2.1 dX5_addMultiple_25 (lv_at hl 0 rfl) ?_
      obtain ⟨v27, ev27⟩ : ∃ z : Int32, x0 + j3_L_4 = z := ⟨_, rfl⟩
      have iv27 : v27.toInt = x0.toInt + j3_L_4.toInt := kz_addv ev27 (by have zr0 := kz_rng x0; have zr1 := kz_rng j3_L_4; omega) (by have zr0 := kz_rng x0; have zr1 := kz_rng j3_L_4; omega)
      refine k_iadd (v := v27) C ev27 dX5_addMultiple_27 ?_
      refine lv_aload_n C.1 C.2.1 dX5_addMultiple_28 rfl (lv_at hl 1 rfl) ?_
      refine k_get C Wd KX5 1 6 rfl (by decide) fl_X5_26 rfl dX5_addMultiple_29 ?_
      refine lv_iload_n C.1 C.2.1 dX5_addMultiple_32 rfl (lv_at hl 2 rfl) ?_
      refine lv_iload C.1 C.2.1 dX5_addMultiple_33 (lv_at hl 0 rfl) ?_
      obtain ⟨v35, ev35⟩ : ∃ z : Int32, x0 + j3_L_4 = z := ⟨_, rfl⟩
      have iv35 : v35.toInt = x0.toInt + j3_L_4.toInt := kz_addv ev35 (by have zr0 := kz_rng x0; have zr1 := kz_rng j3_L_4; omega) (by have zr0 := kz_rng x0; have zr1 := kz_rng j3_L_4; omega)
      refine k_iadd (v := v35) C ev35 dX5_addMultiple_35 ?_
      obtain ⟨v36, ev36⟩ : ∃ z : Int32, j3_C_h_6 v35.toNatClampNeg = z := ⟨_, rfl⟩
      refine k_iald (v := v36) C Wd 2 1 rfl rfl (vp_in_iff.mpr ⟨by omega, by omega⟩) ev36 dX5_addMultiple_36 ?_
      refine lv_iload_n C.1 C.2.1 dX5_addMultiple_37 rfl (lv_at hl 3 rfl) ?_
      refine lv_aload_n C.1 C.2.1 dX5_addMultiple_38 rfl (lv_at hl 4 rfl) ?_
      refine lv_iload C.1 C.2.1 dX5_addMultiple_39 (lv_at hl 0 rfl) ?_
      obtain ⟨v41, ev41⟩ : ∃ z : Int32, f_h2 j3_L_4.toNatClampNeg = z := ⟨_, rfl⟩
      refine k_iald (v := v41) C Wd 0 0 rfl rfl (vp_in_iff.mpr ⟨by omega, by omega⟩) ev41 dX5_addMultiple_41 ?_
      obtain ⟨v42, ev42⟩ : ∃ z : Int32, x1 * v41 = z := ⟨_, rfl⟩
      refine k_imul (v := v42) C ev42 dX5_addMultiple_42 ?_
      obtain ⟨v43, ev43⟩ : ∃ z : Int32, v36 + v42 = z := ⟨_, rfl⟩
      refine k_iadd (v := v43) C ev43 dX5_addMultiple_43 ?_
      refine lv_bipush (v := 15) C.1 C.2.1 dX5_addMultiple_44 (by decide) ?_
      obtain ⟨v46, ev46⟩ : ∃ z : Int32, v43 &&& 15 = z := ⟨_, rfl⟩
      refine k_iand (v := v46) C ev46 dX5_addMultiple_46 ?_
      obtain ⟨f47, ef47⟩ : ∃ z : Nat → Int32, upd j3_C_h_6 v27.toNatClampNeg v46 = z := ⟨_, rfl⟩
      refine k_iast C Wd 2 1 [(h2, .inl (a_h2, n_h2, .inl f_h2)), (h, .inr (5, [.int h_0, .int h_1, .ref h_2, .ref h_3, .ref h_4, .ref h_5, .ref h_6])), (h_6, .inl (a_h_6, 512, .inl f47))] rfl rfl (vp_in_iff.mpr ⟨by omega, by omega⟩) ef47 rfl dX5_addMultiple_47 (fun H locs Wd => ?_)
      obtain ⟨v48, ev48⟩ : ∃ z : Int32, j3_L_4 + 1 = z := ⟨_, rfl⟩
      have iv48 : v48.toInt = j3_L_4.toInt + 1 := kz_addc ev48 (by decide) (by have zr0 := kz_rng j3_L_4; omega) (by have zr0 := kz_rng j3_L_4; omega)
      refine lv_iinc (v := v48) (lv' := [(4, .int v48), (0, .ref h), (1, .int x0), (2, .int x1), (3, .ref h2)]) C.1 C.2.1 dX5_addMultiple_48 hl (k := 0) rfl ev48 (by decide) rfl (fun ls hl => ?_)
      refine lv_goto (tgt := 3) C.1 C.2.1 dX5_addMultiple_51 (by decide) ?_
      exact ih3 (f47, v48) _ _ _ ⟨by omega, by omega, by omega, Wd, lv_sub hl [0, 1, 2, 3, 4] rfl⟩ (by show (513 - v48.toInt).toNat < (513 - j3_L_4.toInt).toNat; omega)
set_option maxHeartbeats 4000000 in
set_option maxRecDepth 100000 in
theorem sX5_multiply (l : Launch) (D : va_G) (h : Nat) (h0 : Nat) (h1 : Nat) (h_0 : Int32) (h_1 : Int32) (h_2 : Nat) (h_3 : Nat) (h_4 : Nat) (h_5 : Nat) (h_6 : Nat) (a_h_6 : ClassId) (f_h_6 : Nat → Int32) (n_h0 : Nat) (a_h0 : ClassId) (f_h0 : Nat → Int32) (n_h1 : Nat) (a_h1 : ClassId) (f_h1 : Nat → Int32) (sz : Nat) (k_n_h0 : n_h0 ≤ 100000) (k_p_h0 : 0 ≤ n_h0) (k_n_h1 : n_h1 ≤ 100000) (k_p_h1 : 0 ≤ n_h1)  : Met l yX5_multiply (Cond.code yX5_multiply cX5_multiply 4 none :: gG) { frames := 2, cells := 0, slots := 0, locals := 96 } (cPre D [(a_h_6, .int), (a_h0, .int), (a_h1, .int)] [(h, .inr (5, [.int h_0, .int h_1, .ref h_2, .ref h_3, .ref h_4, .ref h_5, .ref h_6])), (h_6, .inl (a_h_6, 512, .inl f_h_6)), (h0, .inl (a_h0, n_h0, .inl f_h0)), (h1, .inl (a_h1, n_h1, .inl f_h1))] sz [.ref h, .ref h0, .ref h1]) (va_Qv (fun (u : (Nat → Int32) × (Nat → Int32)) => match u with | (jX_C_h_6, jX_C_h1) => True) (fun u t => cB D (va_A [(h, .inr (5, [.int h_0, .int h_1, .ref h_2, .ref h_3, .ref h_4, .ref h_5, .ref h_6])), (h_6, .inl (a_h_6, 512, .inl f_h_6)), (h0, .inl (a_h0, n_h0, .inl f_h0)), (h1, .inl (a_h1, n_h1, .inl f_h1))] sz) ((fun (_ : (Nat → Int32) × (Nat → Int32)) => ([] : List (ClassId × FieldType))) u) ((fun (u : (Nat → Int32) × (Nat → Int32)) => match u with | (jX_C_h_6, jX_C_h1) => ([(h, .inr (5, [.int h_0, .int h_1, .ref h_2, .ref h_3, .ref h_4, .ref h_5, .ref h_6])), (h_6, .inl (a_h_6, 512, .inl jX_C_h_6)), (h0, .inl (a_h0, n_h0, .inl f_h0)), (h1, .inl (a_h1, n_h1, .inl jX_C_h1))] : va_W)) u) t) (va_A [(h, .inr (5, [.int h_0, .int h_1, .ref h_2, .ref h_3, .ref h_4, .ref h_5, .ref h_6])), (h_6, .inl (a_h_6, 512, .inl f_h_6)), (h0, .inl (a_h0, n_h0, .inl f_h0)), (h1, .inl (a_h1, n_h1, .inl f_h1))] sz)) 0 0 (va_A [(h, .inr (5, [.int h_0, .int h_1, .ref h_2, .ref h_3, .ref h_4, .ref h_5, .ref h_6])), (h_6, .inl (a_h_6, 512, .inl f_h_6)), (h0, .inl (a_h0, n_h0, .inl f_h0)), (h1, .inl (a_h1, n_h1, .inl f_h1))] sz) := by
  refine Met.ofW (cc := cX5_multiply) (maxL := 4) (ret := none) (by decide) rfl ?_
  intro p e s m args below meth c s₁ B hml hv
  obtain ⟨rfl, aks, rfl, Wd⟩ := k_enter hv
  have C : CallFix p m c cX5_multiply 4 s _ gG RX5 := ⟨B.exec, B.bytes, hml, findClass_of_methodNamed B.named, fun w h => atoms_spec (ws := Cond.code yX5_multiply cX5_multiply 4 none :: gG) B.pre w (List.mem_cons_of_mem _ h)⟩
  have hr := B.returns
  have hlk := B.notSynchronized
  generalize va_A [(h, .inr (5, [.int h_0, .int h_1, .ref h_2, .ref h_3, .ref h_4, .ref h_5, .ref h_6])), (h_6, .inl (a_h_6, 512, .inl f_h_6)), (h0, .inl (a_h0, n_h0, .inl f_h0)), (h1, .inl (a_h1, n_h1, .inl f_h1))] s.heap.size = A at Wd ⊢
  refine k_locals (Nat.le_of_ble_eq_true rfl) [(0, .ref h), (1, .ref h0), (2, .ref h1)] rfl (fun ls hl => ?_)
  refine lv_iconst (v := 0) C.1 C.2.1 dX5_multiply_0 (by decide) ?_
  refine lv_istore_n (lv' := [(3, .int 0), (0, .ref h), (1, .ref h0), (2, .ref h1)]) C.1 C.2.1 dX5_multiply_1 rfl hl (by decide) rfl (fun ls hl => ?_)
  refine k_loopA (fun (u : (Nat → Int32) × (Int32)) H locs ls => match u with | (j2_C_h_6, j2_L_3) => 0 ≤ j2_L_3.toInt ∧ j2_L_3.toInt ≤ 512 ∧ wX D [(a_h_6, .int), (a_h0, .int), (a_h1, .int)] s [(h, .inr (5, [.int h_0, .int h_1, .ref h_2, .ref h_3, .ref h_4, .ref h_5, .ref h_6])), (h_6, .inl (a_h_6, 512, .inl j2_C_h_6)), (h0, .inl (a_h0, n_h0, .inl f_h0)), (h1, .inl (a_h1, n_h1, .inl f_h1))] H A s.heap locs ∧ lv_has ls 4 [(3, .int j2_L_3), (0, .ref h), (1, .ref h0), (2, .ref h1)]) (fun (u : (Nat → Int32) × (Int32)) ls => match u with | (j2_C_h_6, j2_L_3) => F0 m 2 ls []) (fun (u : (Nat → Int32) × (Int32)) => match u with | (j2_C_h_6, j2_L_3) => (513 - j2_L_3.toInt).toNat) (fun u H locs ls hi ih2 => ?_) (f_h_6, 0) _ _ _ ⟨by have zq0 : (0 : Int32).toInt = 0 := (by decide); omega, by have zq0 : (0 : Int32).toInt = 0 := (by decide); omega, Wd, lv_sub hl [0, 1, 2, 3] rfl⟩
  obtain ⟨j2_C_h_6, j2_L_3⟩ := u
  obtain ⟨i2_0, i2_1, Wd, hl⟩ := hi
  refine lv_iload_n C.1 C.2.1 dX5_multiply_2 rfl (lv_at hl 0 rfl) ?_
  refine lv_sipush (v := 512) C.1 C.2.1 dX5_multiply_3 (by decide) ?_
  refine lv_icmp_ge (tgt := 22) C.1 C.2.1 dX5_multiply_6 (by decide) (fun c6 => ?_) (fun c6 => ?_)
  · have i6 : 512 ≤ j2_L_3.toInt := kz_le c6
    refine lv_iconst (v := 0) C.1 C.2.1 dX5_multiply_22 (by decide) ?_
    refine lv_istore_n (lv' := [(3, .int 0), (0, .ref h), (1, .ref h0), (2, .ref h1)]) C.1 C.2.1 dX5_multiply_23 rfl hl (by decide) rfl (fun ls hl => ?_)
    refine k_loopA (fun (u : (Nat → Int32) × (Int32)) H locs ls => match u with | (j24_C_h_6, j24_L_3) => 0 ≤ j24_L_3.toInt ∧ j24_L_3.toInt ≤ 100000 ∧ j24_L_3.toInt ≤ (n_h0 : Int) ∧ wX D [(a_h_6, .int), (a_h0, .int), (a_h1, .int)] s [(h, .inr (5, [.int h_0, .int h_1, .ref h_2, .ref h_3, .ref h_4, .ref h_5, .ref h_6])), (h_6, .inl (a_h_6, 512, .inl j24_C_h_6)), (h0, .inl (a_h0, n_h0, .inl f_h0)), (h1, .inl (a_h1, n_h1, .inl f_h1))] H A s.heap locs ∧ lv_has ls 4 [(3, .int j24_L_3), (0, .ref h), (1, .ref h0), (2, .ref h1)]) (fun (u : (Nat → Int32) × (Int32)) ls => match u with | (j24_C_h_6, j24_L_3) => F0 m 24 ls []) (fun (u : (Nat → Int32) × (Int32)) => match u with | (j24_C_h_6, j24_L_3) => (100001 - j24_L_3.toInt).toNat) (fun u H locs ls hi ih24 => ?_) (j2_C_h_6, 0) _ _ _ ⟨by have zq0 : (0 : Int32).toInt = 0 := (by decide); omega, by have zq0 : (0 : Int32).toInt = 0 := (by decide); omega, by have zq0 : (0 : Int32).toInt = 0 := (by decide); omega, Wd, lv_sub hl [0, 1, 2, 3] rfl⟩
    obtain ⟨j24_C_h_6, j24_L_3⟩ := u
    obtain ⟨i24_0, i24_1, i24_2, Wd, hl⟩ := hi
    refine lv_iload_n C.1 C.2.1 dX5_multiply_24 rfl (lv_at hl 0 rfl) ?_
    refine lv_aload_n C.1 C.2.1 dX5_multiply_25 rfl (lv_at hl 2 rfl) ?_
    obtain ⟨v26, ev26⟩ : ∃ z : Int32, Int32.ofNat n_h0 = z := ⟨_, rfl⟩
    have iv26 : v26.toInt = (n_h0 : Int) := kz_len ev26 (by omega)
    refine k_alen (v := v26) C Wd 2 1 rfl rfl ev26 dX5_multiply_26 ?_
    refine lv_icmp_ge (tgt := 51) C.1 C.2.1 dX5_multiply_27 (by decide) (fun c27 => ?_) (fun c27 => ?_)
    · have i27 : v26.toInt ≤ j24_L_3.toInt := kz_le c27
      refine lv_aload_n C.1 C.2.1 dX5_multiply_51 rfl (lv_at hl 1 rfl) ?_
      refine k_get C Wd KX5 0 6 rfl (by decide) fl_X5_26 rfl dX5_multiply_52 ?_
      refine lv_iconst (v := 0) C.1 C.2.1 dX5_multiply_55 (by decide) ?_
      refine lv_aload_n C.1 C.2.1 dX5_multiply_56 rfl (lv_at hl 3 rfl) ?_
      refine lv_iconst (v := 0) C.1 C.2.1 dX5_multiply_57 (by decide) ?_
      refine lv_sipush (v := 512) C.1 C.2.1 dX5_multiply_58 (by decide) ?_
      refine lv_aload_n C.1 C.2.1 dX5_multiply_61 rfl (lv_at hl 3 rfl) ?_
      obtain ⟨v62, ev62⟩ : ∃ z : Int32, Int32.ofNat n_h1 = z := ⟨_, rfl⟩
      have iv62 : v62.toInt = (n_h1 : Int) := kz_len ev62 (by omega)
      refine k_alen (v := v62) C Wd 3 2 rfl rfl ev62 dX5_multiply_62 ?_
      obtain ⟨v63, ev63⟩ : ∃ z : Int32, (if v62 < 512 then v62 else 512) = z := ⟨_, rfl⟩
      have iv63 : v63.toInt ≤ 512 ∧ v63.toInt ≤ v62.toInt ∧ (v63.toInt = 512 ∨ v63.toInt = v62.toInt) := kz_min ev63
      refine k_mmin (v := v63) C hl.1 ml_X5_120 st_Lib_Math_min_name in_J9 cd_min (Nat.le_of_ble_eq_true rfl) (Nat.le_of_ble_eq_true rfl) (Nat.le_of_ble_eq_true rfl) (Nat.le_of_ble_eq_true rfl) ev63 dX5_multiply_63 ?_
      obtain ⟨f66, ef66⟩ : ∃ z : Nat → Int32, va_cpy j24_C_h_6 f_h1 (0 : Int32).toNatClampNeg (0 : Int32).toNatClampNeg v63.toNatClampNeg = z := ⟨_, rfl⟩
      refine k_copy C hl.1 Wd mlac_X5_74 nat_ac sta_ac ini_sys 1 3 0 2 [(h, .inr (5, [.int h_0, .int h_1, .ref h_2, .ref h_3, .ref h_4, .ref h_5, .ref h_6])), (h_6, .inl (a_h_6, 512, .inl j24_C_h_6)), (h0, .inl (a_h0, n_h0, .inl f_h0)), (h1, .inl (a_h1, n_h1, .inl f66))] rfl rfl rfl rfl (by decide) (by decide) (kz_nn (by omega)) (kz_cp (by decide) (by omega) (by have za : (0 : Int32).toInt = 0 := (by first | decide | rfl); omega)) (kz_cp (by decide) (by omega) (by have za : (0 : Int32).toInt = 0 := (by first | decide | rfl); omega)) ef66 rfl (Nat.le_of_ble_eq_true rfl) (Nat.le_of_ble_eq_true rfl) dX5_multiply_66 (fun H locs Wd => ?_)
      exact k_vret C hr hlk Wd (j24_C_h_6, f66) trivial [0, 1, 2, 3] rfl (by decide) [] rfl (by decide) (by decide) dX5_multiply_69
    · have i27 : j24_L_3.toInt < v26.toInt := kz_nle c27
      refine lv_aload_n C.1 C.2.1 dX5_multiply_30 rfl (lv_at hl 2 rfl) ?_
      refine lv_iload_n C.1 C.2.1 dX5_multiply_31 rfl (lv_at hl 0 rfl) ?_
      obtain ⟨v32, ev32⟩ : ∃ z : Int32, f_h0 j24_L_3.toNatClampNeg = z := ⟨_, rfl⟩
      refine k_iald (v := v32) C Wd 2 1 rfl rfl (vp_in_iff.mpr ⟨by omega, by omega⟩) ev32 dX5_multiply_32 ?_
      refine k_cutA (fun (j45_C_h_6 : Nat → Int32) H locs ls => wX D [(a_h_6, .int), (a_h0, .int), (a_h1, .int)] s [(h, .inr (5, [.int h_0, .int h_1, .ref h_2, .ref h_3, .ref h_4, .ref h_5, .ref h_6])), (h_6, .inl (a_h_6, 512, .inl j45_C_h_6)), (h0, .inl (a_h0, n_h0, .inl f_h0)), (h1, .inl (a_h1, n_h1, .inl f_h1))] H A s.heap locs ∧ lv_has ls 4 [(3, .int j24_L_3), (0, .ref h), (1, .ref h0), (2, .ref h1)]) (fun (j45_C_h_6 : Nat → Int32) ls => F0 m 45 ls []) (fun j45_C_h_6 H locs ls hi => ?_) (fun J45 => ?_)
      · obtain ⟨Wd, hl⟩ := hi
        obtain ⟨v45, ev45⟩ : ∃ z : Int32, j24_L_3 + 1 = z := ⟨_, rfl⟩
        have iv45 : v45.toInt = j24_L_3.toInt + 1 := kz_addc ev45 (by decide) (by have zr0 := kz_rng j24_L_3; omega) (by have zr0 := kz_rng j24_L_3; omega)
        refine lv_iinc (v := v45) (lv' := [(3, .int v45), (0, .ref h), (1, .ref h0), (2, .ref h1)]) C.1 C.2.1 dX5_multiply_45 hl (k := 0) rfl ev45 (by decide) rfl (fun ls hl => ?_)
        refine lv_goto (tgt := 24) C.1 C.2.1 dX5_multiply_48 (by decide) ?_
        exact ih24 (j45_C_h_6, v45) _ _ _ ⟨by omega, by omega, by omega, Wd, lv_sub hl [0, 1, 2, 3] rfl⟩ (by show (100001 - v45.toInt).toNat < (100001 - j24_L_3.toInt).toNat; omega)
      refine lv_if_eq (tgt := 45) C.1 C.2.1 dX5_multiply_33 (by decide) (fun c33 => ?_) (fun c33 => ?_)
      · have i33 : v32.toInt = 0 := kz_eq c33
        exact J45 j24_C_h_6 _ _ _ ⟨Wd, lv_sub hl [0, 1, 2, 3] rfl⟩
      · have i33 : ¬ v32.toInt = 0 := kz_ne c33
        refine lv_aload_n C.1 C.2.1 dX5_multiply_36 rfl (lv_at hl 1 rfl) ?_
        refine lv_iload_n C.1 C.2.1 dX5_multiply_37 rfl (lv_at hl 0 rfl) ?_
        refine lv_aload_n C.1 C.2.1 dX5_multiply_38 rfl (lv_at hl 2 rfl) ?_
        refine lv_iload_n C.1 C.2.1 dX5_multiply_39 rfl (lv_at hl 0 rfl) ?_
        obtain ⟨v40, ev40⟩ : ∃ z : Int32, f_h0 j24_L_3.toNatClampNeg = z := ⟨_, rfl⟩
        refine k_iald (v := v40) C Wd 2 1 rfl rfl (vp_in_iff.mpr ⟨by omega, by omega⟩) ev40 dX5_multiply_40 ?_
        refine lv_aload_n C.1 C.2.1 dX5_multiply_41 rfl (lv_at hl 3 rfl) ?_
        refine k_cv Wd [3, 0, 1] [2] rfl (wr := [(h0, .inl (a_h0, n_h0, .inl f_h0))]) rfl (by decide) (by decide) (cells' := 0) (slots' := 0) (by decide) (by decide) (k_runV (rest := []) C aks Wd cs_X5_116 (sX5_addMultiple l D h j24_L_3 v40 h1 n_h1 a_h1 f_h1 h_0 h_1 h_2 h_3 h_4 h_5 h_6 a_h_6 j24_C_h_6 _ (by omega) (by omega) (by omega) (by omega)) [3, 0, 1] rfl (by decide) [2, 0] rfl 0 5 rfl rfl rfl rfl rfl ⟨(Nat.le_of_ble_eq_true rfl), (Nat.le_of_ble_eq_true rfl)⟩ hl.1 rfl rfl (Nat.le_of_ble_eq_true rfl) ⟨(Nat.le_of_ble_eq_true rfl), (Nat.le_of_ble_eq_true rfl)⟩ dX5_multiply_42) (fun s42_0 H locs w42 Wd => ?_)
        have Wd : wX D [(a_h_6, .int), (a_h0, .int), (a_h1, .int)] s [(h, .inr (5, [.int h_0, .int h_1, .ref h_2, .ref h_3, .ref h_4, .ref h_5, .ref h_6])), (h_6, .inl (a_h_6, 512, .inl s42_0)), (h0, .inl (a_h0, n_h0, .inl f_h0)), (h1, .inl (a_h1, n_h1, .inl f_h1))] _ A s.heap _ := k_sub Wd [2, 3, 0, 1] rfl (by decide) [0, 1, 2] rfl
        exact J45 s42_0 _ _ _ ⟨Wd, lv_sub hl [0, 1, 2, 3] rfl⟩
  · have i6 : j2_L_3.toInt < 512 := kz_nle c6
    refine lv_aload_n C.1 C.2.1 dX5_multiply_9 rfl (lv_at hl 1 rfl) ?_
    refine k_get C Wd KX5 0 6 rfl (by decide) fl_X5_26 rfl dX5_multiply_10 ?_
    refine lv_iload_n C.1 C.2.1 dX5_multiply_13 rfl (lv_at hl 0 rfl) ?_
    refine lv_iconst (v := 0) C.1 C.2.1 dX5_multiply_14 (by decide) ?_
    obtain ⟨f15, ef15⟩ : ∃ z : Nat → Int32, upd j2_C_h_6 j2_L_3.toNatClampNeg 0 = z := ⟨_, rfl⟩
    refine k_iast C Wd 1 0 [(h, .inr (5, [.int h_0, .int h_1, .ref h_2, .ref h_3, .ref h_4, .ref h_5, .ref h_6])), (h_6, .inl (a_h_6, 512, .inl f15)), (h0, .inl (a_h0, n_h0, .inl f_h0)), (h1, .inl (a_h1, n_h1, .inl f_h1))] rfl rfl (vp_in_iff.mpr ⟨by omega, by omega⟩) ef15 rfl dX5_multiply_15 (fun H locs Wd => ?_)
    obtain ⟨v16, ev16⟩ : ∃ z : Int32, j2_L_3 + 1 = z := ⟨_, rfl⟩
    have iv16 : v16.toInt = j2_L_3.toInt + 1 := kz_addc ev16 (by decide) (by have zr0 := kz_rng j2_L_3; omega) (by have zr0 := kz_rng j2_L_3; omega)
    refine lv_iinc (v := v16) (lv' := [(3, .int v16), (0, .ref h), (1, .ref h0), (2, .ref h1)]) C.1 C.2.1 dX5_multiply_16 hl (k := 0) rfl ev16 (by decide) rfl (fun ls hl => ?_)
    refine lv_goto (tgt := 2) C.1 C.2.1 dX5_multiply_19 (by decide) ?_
    exact ih2 (f15, v16) _ _ _ ⟨by omega, by omega, Wd, lv_sub hl [0, 1, 2, 3] rfl⟩ (by show (513 - v16.toInt).toNat < (513 - j2_L_3.toInt).toNat; omega)
set_option maxHeartbeats 4000000 in
set_option maxRecDepth 100000 in
theorem sX6_drop (l : Launch) (D : va_G) (h : Nat) (h_0 : Nat) (h_1 : Int32) (h_2 : Int32) (h_3 : Nat) (h_4 : Nat) (h_5 : Int32) (h_6 : Int32) (h_7 : Int32) (h_8 : Int32) (h_9 : Int32) (h_10 : Int32) (h_11 : Int32) (h_12 : Int32) (h_13 : Int32) (h_14 : Nat) (h_15 : Nat) (h_16 : Nat) (h_0_0 : Nat) (h_0_1 : Int32) (h_0_2 : Int32) (h_0_3 : Int32) (h_0_4 : Int32) (h_0_5 : Int32) (sz : Nat) (k_h_7_lo : 0 ≤ h_7.toInt) (k_h_7_hi : h_7.toInt ≤ 40) (k_h_9_lo : 0 ≤ h_9.toInt) (k_h_9_hi : h_9.toInt ≤ 1000) (k_h_13_lo : 0 ≤ h_13.toInt) (k_h_13_hi : h_13.toInt ≤ 8) (k_h_0_1_lo : 0 ≤ h_0_1.toInt) (k_h_0_1_hi : h_0_1.toInt ≤ 800)  : Met l yX6_drop (Cond.code yX6_drop cX6_drop 1 none :: gG) { frames := 2, cells := 0, slots := 0, locals := 85 } (cPre D [] [(h, .inr (6, [.ref h_0, .int h_1, .int h_2, .ref h_3, .ref h_4, .int h_5, .int h_6, .int h_7, .int h_8, .int h_9, .int h_10, .int h_11, .int h_12, .int h_13, .ref h_14, .ref h_15, .ref h_16])), (h_0, .inr (10, [.ref h_0_0, .int h_0_1, .int h_0_2, .int h_0_3, .int h_0_4, .int h_0_5]))] sz [.ref h]) (va_Qv (fun (jX_F_h_0_1 : Int32) => 0 ≤ jX_F_h_0_1.toInt ∧ jX_F_h_0_1.toInt ≤ 800 ∧ jX_F_h_0_1.toInt ≤ h_0_1.toInt) (fun u t => cB D (va_A [(h, .inr (6, [.ref h_0, .int h_1, .int h_2, .ref h_3, .ref h_4, .int h_5, .int h_6, .int h_7, .int h_8, .int h_9, .int h_10, .int h_11, .int h_12, .int h_13, .ref h_14, .ref h_15, .ref h_16])), (h_0, .inr (10, [.ref h_0_0, .int h_0_1, .int h_0_2, .int h_0_3, .int h_0_4, .int h_0_5]))] sz) ((fun (_ : (Int32)) => ([] : List (ClassId × FieldType))) u) ((fun (jX_F_h_0_1 : Int32) => ([(h, .inr (6, [.ref h_0, .int 0, .int (-1), .ref h_3, .ref h_4, .int h_5, .int h_6, .int h_7, .int h_8, .int h_9, .int h_10, .int h_11, .int h_12, .int h_13, .ref h_14, .ref h_15, .ref h_16])), (h_0, .inr (10, [.ref h_0_0, .int jX_F_h_0_1, .int h_0_2, .int h_0_3, .int h_0_4, .int h_0_5]))] : va_W)) u) t) (va_A [(h, .inr (6, [.ref h_0, .int h_1, .int h_2, .ref h_3, .ref h_4, .int h_5, .int h_6, .int h_7, .int h_8, .int h_9, .int h_10, .int h_11, .int h_12, .int h_13, .ref h_14, .ref h_15, .ref h_16])), (h_0, .inr (10, [.ref h_0_0, .int h_0_1, .int h_0_2, .int h_0_3, .int h_0_4, .int h_0_5]))] sz)) 0 0 (va_A [(h, .inr (6, [.ref h_0, .int h_1, .int h_2, .ref h_3, .ref h_4, .int h_5, .int h_6, .int h_7, .int h_8, .int h_9, .int h_10, .int h_11, .int h_12, .int h_13, .ref h_14, .ref h_15, .ref h_16])), (h_0, .inr (10, [.ref h_0_0, .int h_0_1, .int h_0_2, .int h_0_3, .int h_0_4, .int h_0_5]))] sz) := by
  refine Met.ofW (cc := cX6_drop) (maxL := 1) (ret := none) (by decide) rfl ?_
  intro p e s m args below meth c s₁ B hml hv
  obtain ⟨rfl, aks, rfl, Wd⟩ := k_enter hv
  have C : CallFix p m c cX6_drop 1 s _ gG RX6 := ⟨B.exec, B.bytes, hml, findClass_of_methodNamed B.named, fun w h => atoms_spec (ws := Cond.code yX6_drop cX6_drop 1 none :: gG) B.pre w (List.mem_cons_of_mem _ h)⟩
  have hr := B.returns
  have hlk := B.notSynchronized
  generalize va_A [(h, .inr (6, [.ref h_0, .int h_1, .int h_2, .ref h_3, .ref h_4, .int h_5, .int h_6, .int h_7, .int h_8, .int h_9, .int h_10, .int h_11, .int h_12, .int h_13, .ref h_14, .ref h_15, .ref h_16])), (h_0, .inr (10, [.ref h_0_0, .int h_0_1, .int h_0_2, .int h_0_3, .int h_0_4, .int h_0_5]))] s.heap.size = A at Wd ⊢
  refine k_locals (Nat.le_of_ble_eq_true rfl) [(0, .ref h)] rfl (fun ls hl => ?_)
  refine lv_aload_n C.1 C.2.1 dX6_drop_0 rfl (lv_at hl 0 rfl) ?_
  refine lv_iconst (v := 0) C.1 C.2.1 dX6_drop_1 (by decide) ?_
  refine k_put C Wd KX6 0 1 [(h, .inr (6, [.ref h_0, .int 0, .int h_2, .ref h_3, .ref h_4, .int h_5, .int h_6, .int h_7, .int h_8, .int h_9, .int h_10, .int h_11, .int h_12, .int h_13, .ref h_14, .ref h_15, .ref h_16])), (h_0, .inr (10, [.ref h_0_0, .int h_0_1, .int h_0_2, .int h_0_3, .int h_0_4, .int h_0_5]))] rfl (by decide) fl_X6_37 rfl rfl rfl (Nat.le_of_ble_eq_true rfl) rfl dX6_drop_2 (fun H locs Wd => ?_)
  refine lv_aload_n C.1 C.2.1 dX6_drop_5 rfl (lv_at hl 0 rfl) ?_
  refine lv_iconst (v := (-1)) C.1 C.2.1 dX6_drop_6 (by decide) ?_
  refine k_put C Wd KX6 0 2 [(h, .inr (6, [.ref h_0, .int 0, .int (-1), .ref h_3, .ref h_4, .int h_5, .int h_6, .int h_7, .int h_8, .int h_9, .int h_10, .int h_11, .int h_12, .int h_13, .ref h_14, .ref h_15, .ref h_16])), (h_0, .inr (10, [.ref h_0_0, .int h_0_1, .int h_0_2, .int h_0_3, .int h_0_4, .int h_0_5]))] rfl (by decide) fl_X6_41 rfl rfl rfl (Nat.le_of_ble_eq_true rfl) rfl dX6_drop_7 (fun H locs Wd => ?_)
  refine lv_aload_n C.1 C.2.1 dX6_drop_10 rfl (lv_at hl 0 rfl) ?_
  refine k_get C Wd KX6 0 0 rfl (by decide) fl_X6_12 rfl dX6_drop_11 ?_
  refine lv_iconst (v := 0) C.1 C.2.1 dX6_drop_14 (by decide) ?_
  refine k_ci Wd [1] [0] rfl (wr := [(h, .inr (6, [.ref h_0, .int 0, .int (-1), .ref h_3, .ref h_4, .int h_5, .int h_6, .int h_7, .int h_8, .int h_9, .int h_10, .int h_11, .int h_12, .int h_13, .ref h_14, .ref h_15, .ref h_16]))]) rfl (by decide) (by decide) (cells' := 0) (slots' := 0) (by decide) (by decide) (k_runV (rest := []) C aks Wd cs_X6_44 (sX10_shorten l D h_0 0 h_0_0 h_0_1 h_0_2 h_0_3 h_0_4 h_0_5 _ (by omega) (by omega)) [1] rfl (by decide) [] rfl 1 10 rfl rfl rfl rfl rfl ⟨(Nat.le_of_ble_eq_true rfl), (Nat.le_of_ble_eq_true rfl)⟩ hl.1 rfl rfl (Nat.le_of_ble_eq_true rfl) ⟨(Nat.le_of_ble_eq_true rfl), (Nat.le_of_ble_eq_true rfl)⟩ dX6_drop_15) (fun r15 s15_0 H locs w15 Wd => ?_)
  have Wd : wX D [] s [(h, .inr (6, [.ref h_0, .int 0, .int (-1), .ref h_3, .ref h_4, .int h_5, .int h_6, .int h_7, .int h_8, .int h_9, .int h_10, .int h_11, .int h_12, .int h_13, .ref h_14, .ref h_15, .ref h_16])), (h_0, .inr (10, [.ref h_0_0, .int s15_0, .int h_0_2, .int h_0_3, .int h_0_4, .int h_0_5]))] _ A s.heap _ := k_sub Wd [0, 1] rfl (by decide) [] rfl
  obtain ⟨g15_0, g15_1, g15_2, g15_3, g15_4⟩ := w15
  have g15_0 : 0 ≤ s15_0.toInt := g15_0
  have g15_1 : 0 ≤ r15.toInt := g15_1
  have g15_2 : r15.toInt ≤ 1 := g15_2
  have g15_3 : s15_0.toInt ≤ 800 := g15_3
  have g15_4 : s15_0.toInt ≤ h_0_1.toInt := g15_4
  refine lv_pop C.1 C.2.1 dX6_drop_18 rfl ?_
  exact k_vret C hr hlk Wd s15_0 (by exact ⟨by omega, by omega, by omega⟩) [0, 1] rfl (by decide) [] rfl (by decide) (by decide) dX6_drop_19
set_option maxHeartbeats 4000000 in
set_option maxRecDepth 100000 in
theorem sX6_begin (l : Launch) (D : va_G) (h : Nat) (h0 : Nat) (h1 : Nat) (x2 : Int32) (h_0 : Nat) (h_1 : Int32) (h_2 : Int32) (h_3 : Nat) (h_4 : Nat) (h_5 : Int32) (h_6 : Int32) (h_7 : Int32) (h_8 : Int32) (h_9 : Int32) (h_10 : Int32) (h_11 : Int32) (h_12 : Int32) (h_13 : Int32) (h_14 : Nat) (h_15 : Nat) (h_16 : Nat) (h0_0 : Nat) (h0_1 : Int32) (n_h0_0 : Nat) (a_h0_0 : ClassId) (f_h0_0 : Nat → Int32) (h_0_0 : Nat) (h_0_1 : Int32) (h_0_2 : Int32) (h_0_3 : Int32) (h_0_4 : Int32) (h_0_5 : Int32) (sz : Nat) (k_h_7_lo : 0 ≤ h_7.toInt) (k_h_7_hi : h_7.toInt ≤ 40) (k_h_9_lo : 0 ≤ h_9.toInt) (k_h_9_hi : h_9.toInt ≤ 1000) (k_h_13_lo : 0 ≤ h_13.toInt) (k_h_13_hi : h_13.toInt ≤ 8) (k_h0_1_lo : 0 ≤ h0_1.toInt) (k_n_h0_0 : n_h0_0 ≤ 1000) (k_p_h0_0 : 1 ≤ n_h0_0) (k_h0_1_hi : h0_1.toInt ≤ (n_h0_0 : Int)) (k_h_0_1_lo : 0 ≤ h_0_1.toInt) (k_h_0_1_hi : h_0_1.toInt ≤ 800)  : Met l yX6_begin (Cond.code yX6_begin cX6_begin 4 none :: gG) { frames := 2, cells := 0, slots := 0, locals := 84 } (cPre D [(a_h0_0, .int)] [(h, .inr (6, [.ref h_0, .int h_1, .int h_2, .ref h_3, .ref h_4, .int h_5, .int h_6, .int h_7, .int h_8, .int h_9, .int h_10, .int h_11, .int h_12, .int h_13, .ref h_14, .ref h_15, .ref h_16])), (h0, .inr (8, [.ref h0_0, .int h0_1])), (h0_0, .inl (a_h0_0, n_h0_0, .inl f_h0_0)), (h_0, .inr (10, [.ref h_0_0, .int h_0_1, .int h_0_2, .int h_0_3, .int h_0_4, .int h_0_5]))] sz [.ref h, .ref h0, .ref h1, .int x2]) (va_Qv (fun (_ : Unit) => True) (fun u t => cB D (va_A [(h, .inr (6, [.ref h_0, .int h_1, .int h_2, .ref h_3, .ref h_4, .int h_5, .int h_6, .int h_7, .int h_8, .int h_9, .int h_10, .int h_11, .int h_12, .int h_13, .ref h_14, .ref h_15, .ref h_16])), (h0, .inr (8, [.ref h0_0, .int h0_1])), (h0_0, .inl (a_h0_0, n_h0_0, .inl f_h0_0)), (h_0, .inr (10, [.ref h_0_0, .int h_0_1, .int h_0_2, .int h_0_3, .int h_0_4, .int h_0_5]))] sz) ((fun (_ : Unit) => ([] : List (ClassId × FieldType))) u) ((fun (_ : Unit) => ([(h, .inr (6, [.ref h_0, .int 0, .int (-1), .ref h0, .ref h1, .int h_5, .int h_6, .int 0, .int 0, .int x2, .int h_10, .int h_11, .int h_12, .int 0, .ref h_14, .ref h_15, .ref h_16])), (h0, .inr (8, [.ref h0_0, .int 0])), (h0_0, .inl (a_h0_0, n_h0_0, .inl f_h0_0)), (h_0, .inr (10, [.ref h_0_0, .int h_0_1, .int 0, .int 0, .int 0, .int 0]))] : va_W)) u) t) (va_A [(h, .inr (6, [.ref h_0, .int h_1, .int h_2, .ref h_3, .ref h_4, .int h_5, .int h_6, .int h_7, .int h_8, .int h_9, .int h_10, .int h_11, .int h_12, .int h_13, .ref h_14, .ref h_15, .ref h_16])), (h0, .inr (8, [.ref h0_0, .int h0_1])), (h0_0, .inl (a_h0_0, n_h0_0, .inl f_h0_0)), (h_0, .inr (10, [.ref h_0_0, .int h_0_1, .int h_0_2, .int h_0_3, .int h_0_4, .int h_0_5]))] sz)) 0 0 (va_A [(h, .inr (6, [.ref h_0, .int h_1, .int h_2, .ref h_3, .ref h_4, .int h_5, .int h_6, .int h_7, .int h_8, .int h_9, .int h_10, .int h_11, .int h_12, .int h_13, .ref h_14, .ref h_15, .ref h_16])), (h0, .inr (8, [.ref h0_0, .int h0_1])), (h0_0, .inl (a_h0_0, n_h0_0, .inl f_h0_0)), (h_0, .inr (10, [.ref h_0_0, .int h_0_1, .int h_0_2, .int h_0_3, .int h_0_4, .int h_0_5]))] sz) := by
  refine Met.ofW (cc := cX6_begin) (maxL := 4) (ret := none) (by decide) rfl ?_
  intro p e s m args below meth c s₁ B hml hv
  obtain ⟨rfl, aks, rfl, Wd⟩ := k_enter hv
  have C : CallFix p m c cX6_begin 4 s _ gG RX6 := ⟨B.exec, B.bytes, hml, findClass_of_methodNamed B.named, fun w h => atoms_spec (ws := Cond.code yX6_begin cX6_begin 4 none :: gG) B.pre w (List.mem_cons_of_mem _ h)⟩
  have hr := B.returns
  have hlk := B.notSynchronized
  generalize va_A [(h, .inr (6, [.ref h_0, .int h_1, .int h_2, .ref h_3, .ref h_4, .int h_5, .int h_6, .int h_7, .int h_8, .int h_9, .int h_10, .int h_11, .int h_12, .int h_13, .ref h_14, .ref h_15, .ref h_16])), (h0, .inr (8, [.ref h0_0, .int h0_1])), (h0_0, .inl (a_h0_0, n_h0_0, .inl f_h0_0)), (h_0, .inr (10, [.ref h_0_0, .int h_0_1, .int h_0_2, .int h_0_3, .int h_0_4, .int h_0_5]))] s.heap.size = A at Wd ⊢
  refine k_locals (Nat.le_of_ble_eq_true rfl) [(0, .ref h), (1, .ref h0), (2, .ref h1), (3, .int x2)] rfl (fun ls hl => ?_)
  refine lv_aload_n C.1 C.2.1 dX6_begin_0 rfl (lv_at hl 0 rfl) ?_
  refine lv_iconst (v := 0) C.1 C.2.1 dX6_begin_1 (by decide) ?_
  refine k_put C Wd KX6 0 1 [(h, .inr (6, [.ref h_0, .int 0, .int h_2, .ref h_3, .ref h_4, .int h_5, .int h_6, .int h_7, .int h_8, .int h_9, .int h_10, .int h_11, .int h_12, .int h_13, .ref h_14, .ref h_15, .ref h_16])), (h0, .inr (8, [.ref h0_0, .int h0_1])), (h0_0, .inl (a_h0_0, n_h0_0, .inl f_h0_0)), (h_0, .inr (10, [.ref h_0_0, .int h_0_1, .int h_0_2, .int h_0_3, .int h_0_4, .int h_0_5]))] rfl (by decide) fl_X6_37 rfl rfl rfl (Nat.le_of_ble_eq_true rfl) rfl dX6_begin_2 (fun H locs Wd => ?_)
  refine lv_aload_n C.1 C.2.1 dX6_begin_5 rfl (lv_at hl 0 rfl) ?_
  refine lv_iconst (v := (-1)) C.1 C.2.1 dX6_begin_6 (by decide) ?_
  refine k_put C Wd KX6 0 2 [(h, .inr (6, [.ref h_0, .int 0, .int (-1), .ref h_3, .ref h_4, .int h_5, .int h_6, .int h_7, .int h_8, .int h_9, .int h_10, .int h_11, .int h_12, .int h_13, .ref h_14, .ref h_15, .ref h_16])), (h0, .inr (8, [.ref h0_0, .int h0_1])), (h0_0, .inl (a_h0_0, n_h0_0, .inl f_h0_0)), (h_0, .inr (10, [.ref h_0_0, .int h_0_1, .int h_0_2, .int h_0_3, .int h_0_4, .int h_0_5]))] rfl (by decide) fl_X6_41 rfl rfl rfl (Nat.le_of_ble_eq_true rfl) rfl dX6_begin_7 (fun H locs Wd => ?_)
  refine lv_aload_n C.1 C.2.1 dX6_begin_10 rfl (lv_at hl 0 rfl) ?_
  refine lv_aload_n C.1 C.2.1 dX6_begin_11 rfl (lv_at hl 1 rfl) ?_
  refine k_put C Wd KX6 0 3 [(h, .inr (6, [.ref h_0, .int 0, .int (-1), .ref h0, .ref h_4, .int h_5, .int h_6, .int h_7, .int h_8, .int h_9, .int h_10, .int h_11, .int h_12, .int h_13, .ref h_14, .ref h_15, .ref h_16])), (h0, .inr (8, [.ref h0_0, .int h0_1])), (h0_0, .inl (a_h0_0, n_h0_0, .inl f_h0_0)), (h_0, .inr (10, [.ref h_0_0, .int h_0_1, .int h_0_2, .int h_0_3, .int h_0_4, .int h_0_5]))] rfl (by decide) fl_X6_23 rfl rfl rfl (Nat.le_of_ble_eq_true rfl) rfl dX6_begin_12 (fun H locs Wd => ?_)
  refine lv_aload_n C.1 C.2.1 dX6_begin_15 rfl (lv_at hl 0 rfl) ?_
  refine k_get C Wd KX6 0 3 rfl (by decide) fl_X6_23 rfl dX6_begin_16 ?_
  refine lv_iconst (v := 0) C.1 C.2.1 dX6_begin_19 (by decide) ?_
  refine k_put C Wd KX8 1 1 [(h, .inr (6, [.ref h_0, .int 0, .int (-1), .ref h0, .ref h_4, .int h_5, .int h_6, .int h_7, .int h_8, .int h_9, .int h_10, .int h_11, .int h_12, .int h_13, .ref h_14, .ref h_15, .ref h_16])), (h0, .inr (8, [.ref h0_0, .int 0])), (h0_0, .inl (a_h0_0, n_h0_0, .inl f_h0_0)), (h_0, .inr (10, [.ref h_0_0, .int h_0_1, .int h_0_2, .int h_0_3, .int h_0_4, .int h_0_5]))] rfl (by decide) fl_X6_66 rfl rfl rfl (Nat.le_of_ble_eq_true rfl) rfl dX6_begin_20 (fun H locs Wd => ?_)
  refine lv_aload_n C.1 C.2.1 dX6_begin_23 rfl (lv_at hl 0 rfl) ?_
  refine lv_aload_n C.1 C.2.1 dX6_begin_24 rfl (lv_at hl 2 rfl) ?_
  refine k_put C Wd KX6 0 4 [(h, .inr (6, [.ref h_0, .int 0, .int (-1), .ref h0, .ref h1, .int h_5, .int h_6, .int h_7, .int h_8, .int h_9, .int h_10, .int h_11, .int h_12, .int h_13, .ref h_14, .ref h_15, .ref h_16])), (h0, .inr (8, [.ref h0_0, .int 0])), (h0_0, .inl (a_h0_0, n_h0_0, .inl f_h0_0)), (h_0, .inr (10, [.ref h_0_0, .int h_0_1, .int h_0_2, .int h_0_3, .int h_0_4, .int h_0_5]))] rfl (by decide) fl_X6_69 rfl rfl rfl (Nat.le_of_ble_eq_true rfl) rfl dX6_begin_25 (fun H locs Wd => ?_)
  refine lv_aload_n C.1 C.2.1 dX6_begin_28 rfl (lv_at hl 0 rfl) ?_
  refine lv_iconst (v := 0) C.1 C.2.1 dX6_begin_29 (by decide) ?_
  refine k_put C Wd KX6 0 7 [(h, .inr (6, [.ref h_0, .int 0, .int (-1), .ref h0, .ref h1, .int h_5, .int h_6, .int 0, .int h_8, .int h_9, .int h_10, .int h_11, .int h_12, .int h_13, .ref h_14, .ref h_15, .ref h_16])), (h0, .inr (8, [.ref h0_0, .int 0])), (h0_0, .inl (a_h0_0, n_h0_0, .inl f_h0_0)), (h_0, .inr (10, [.ref h_0_0, .int h_0_1, .int h_0_2, .int h_0_3, .int h_0_4, .int h_0_5]))] rfl (by decide) fl_X6_73 rfl rfl rfl (Nat.le_of_ble_eq_true rfl) rfl dX6_begin_30 (fun H locs Wd => ?_)
  refine lv_aload_n C.1 C.2.1 dX6_begin_33 rfl (lv_at hl 0 rfl) ?_
  refine lv_iconst (v := 0) C.1 C.2.1 dX6_begin_34 (by decide) ?_
  refine k_put C Wd KX6 0 8 [(h, .inr (6, [.ref h_0, .int 0, .int (-1), .ref h0, .ref h1, .int h_5, .int h_6, .int 0, .int 0, .int h_9, .int h_10, .int h_11, .int h_12, .int h_13, .ref h_14, .ref h_15, .ref h_16])), (h0, .inr (8, [.ref h0_0, .int 0])), (h0_0, .inl (a_h0_0, n_h0_0, .inl f_h0_0)), (h_0, .inr (10, [.ref h_0_0, .int h_0_1, .int h_0_2, .int h_0_3, .int h_0_4, .int h_0_5]))] rfl (by decide) fl_X6_76 rfl rfl rfl (Nat.le_of_ble_eq_true rfl) rfl dX6_begin_35 (fun H locs Wd => ?_)
  refine lv_aload_n C.1 C.2.1 dX6_begin_38 rfl (lv_at hl 0 rfl) ?_
  refine lv_iload_n C.1 C.2.1 dX6_begin_39 rfl (lv_at hl 3 rfl) ?_
  refine k_put C Wd KX6 0 9 [(h, .inr (6, [.ref h_0, .int 0, .int (-1), .ref h0, .ref h1, .int h_5, .int h_6, .int 0, .int 0, .int x2, .int h_10, .int h_11, .int h_12, .int h_13, .ref h_14, .ref h_15, .ref h_16])), (h0, .inr (8, [.ref h0_0, .int 0])), (h0_0, .inl (a_h0_0, n_h0_0, .inl f_h0_0)), (h_0, .inr (10, [.ref h_0_0, .int h_0_1, .int h_0_2, .int h_0_3, .int h_0_4, .int h_0_5]))] rfl (by decide) fl_X6_79 rfl rfl rfl (Nat.le_of_ble_eq_true rfl) rfl dX6_begin_40 (fun H locs Wd => ?_)
  refine lv_aload_n C.1 C.2.1 dX6_begin_43 rfl (lv_at hl 0 rfl) ?_
  refine lv_iconst (v := 0) C.1 C.2.1 dX6_begin_44 (by decide) ?_
  refine k_put C Wd KX6 0 13 [(h, .inr (6, [.ref h_0, .int 0, .int (-1), .ref h0, .ref h1, .int h_5, .int h_6, .int 0, .int 0, .int x2, .int h_10, .int h_11, .int h_12, .int 0, .ref h_14, .ref h_15, .ref h_16])), (h0, .inr (8, [.ref h0_0, .int 0])), (h0_0, .inl (a_h0_0, n_h0_0, .inl f_h0_0)), (h_0, .inr (10, [.ref h_0_0, .int h_0_1, .int h_0_2, .int h_0_3, .int h_0_4, .int h_0_5]))] rfl (by decide) fl_X6_82 rfl rfl rfl (Nat.le_of_ble_eq_true rfl) rfl dX6_begin_45 (fun H locs Wd => ?_)
  refine lv_aload_n C.1 C.2.1 dX6_begin_48 rfl (lv_at hl 0 rfl) ?_
  refine k_get C Wd KX6 0 0 rfl (by decide) fl_X6_12 rfl dX6_begin_49 ?_
  refine k_cv Wd [3] [0, 1, 2] rfl (wr := [(h, .inr (6, [.ref h_0, .int 0, .int (-1), .ref h0, .ref h1, .int h_5, .int h_6, .int 0, .int 0, .int x2, .int h_10, .int h_11, .int h_12, .int 0, .ref h_14, .ref h_15, .ref h_16])), (h0, .inr (8, [.ref h0_0, .int 0])), (h0_0, .inl (a_h0_0, n_h0_0, .inl f_h0_0))]) rfl (by decide) (by decide) (cells' := 0) (slots' := 0) (by decide) (by decide) (k_runV (rest := []) C aks Wd cs_X6_85 (sX10_rewind l D h_0 h_0_0 h_0_1 h_0_2 h_0_3 h_0_4 h_0_5 _ (by omega) (by omega)) [3] rfl (by decide) [] rfl 3 10 rfl rfl rfl rfl rfl ⟨(Nat.le_of_ble_eq_true rfl), (Nat.le_of_ble_eq_true rfl)⟩ hl.1 rfl rfl (Nat.le_of_ble_eq_true rfl) ⟨(Nat.le_of_ble_eq_true rfl), (Nat.le_of_ble_eq_true rfl)⟩ dX6_begin_52) (fun _ H locs w52 Wd => ?_)
  have Wd : wX D [(a_h0_0, .int)] s [(h, .inr (6, [.ref h_0, .int 0, .int (-1), .ref h0, .ref h1, .int h_5, .int h_6, .int 0, .int 0, .int x2, .int h_10, .int h_11, .int h_12, .int 0, .ref h_14, .ref h_15, .ref h_16])), (h0, .inr (8, [.ref h0_0, .int 0])), (h0_0, .inl (a_h0_0, n_h0_0, .inl f_h0_0)), (h_0, .inr (10, [.ref h_0_0, .int h_0_1, .int 0, .int 0, .int 0, .int 0]))] _ A s.heap _ := k_sub Wd [0, 1, 2, 3] rfl (by decide) [0] rfl
  exact k_vret C hr hlk Wd () trivial [0, 1, 2, 3] rfl (by decide) [] rfl (by decide) (by decide) dX6_begin_55
set_option maxHeartbeats 4000000 in
set_option maxRecDepth 100000 in
theorem sX6_beginExpression (l : Launch) (D : va_G) (h : Nat) (x0 : Int32) (h_0 : Nat) (h_1 : Int32) (h_2 : Int32) (h_3 : Nat) (h_4 : Nat) (h_5 : Int32) (h_6 : Int32) (h_7 : Int32) (h_8 : Int32) (h_9 : Int32) (h_10 : Int32) (h_11 : Int32) (h_12 : Int32) (h_13 : Int32) (h_14 : Nat) (h_15 : Nat) (h_16 : Nat) (h_3_0 : Nat) (h_3_1 : Int32) (n_h_3_0 : Nat) (a_h_3_0 : ClassId) (f_h_3_0 : Nat → Int32) (sz : Nat) (k_h_7_lo : 0 ≤ h_7.toInt) (k_h_7_hi : h_7.toInt ≤ 40) (k_h_9_lo : 0 ≤ h_9.toInt) (k_h_9_hi : h_9.toInt ≤ 1000) (k_h_13_lo : 0 ≤ h_13.toInt) (k_h_13_hi : h_13.toInt ≤ 8) (k_h_3_1_lo : 0 ≤ h_3_1.toInt) (k_n_h_3_0 : n_h_3_0 ≤ 1000) (k_p_h_3_0 : 1 ≤ n_h_3_0) (k_h_3_1_hi : h_3_1.toInt ≤ (n_h_3_0 : Int))  : Met l yX6_beginExpression (Cond.code yX6_beginExpression cX6_beginExpression 2 none :: gG) { frames := 1, cells := 0, slots := 0, locals := 64 } (cPre D [(a_h_3_0, .int)] [(h, .inr (6, [.ref h_0, .int h_1, .int h_2, .ref h_3, .ref h_4, .int h_5, .int h_6, .int h_7, .int h_8, .int h_9, .int h_10, .int h_11, .int h_12, .int h_13, .ref h_14, .ref h_15, .ref h_16])), (h_3, .inr (8, [.ref h_3_0, .int h_3_1])), (h_3_0, .inl (a_h_3_0, n_h_3_0, .inl f_h_3_0))] sz [.ref h, .int x0]) (va_Qv (fun (_ : Unit) => True) (fun u t => cB D (va_A [(h, .inr (6, [.ref h_0, .int h_1, .int h_2, .ref h_3, .ref h_4, .int h_5, .int h_6, .int h_7, .int h_8, .int h_9, .int h_10, .int h_11, .int h_12, .int h_13, .ref h_14, .ref h_15, .ref h_16])), (h_3, .inr (8, [.ref h_3_0, .int h_3_1])), (h_3_0, .inl (a_h_3_0, n_h_3_0, .inl f_h_3_0))] sz) ((fun (_ : Unit) => ([] : List (ClassId × FieldType))) u) ((fun (_ : Unit) => ([(h, .inr (6, [.ref h_0, .int h_1, .int h_2, .ref h_3, .ref h_4, .int 5, .int x0, .int h_7, .int h_8, .int h_9, .int h_3_1, .int h_3_1, .int h_12, .int h_13, .ref h_14, .ref h_15, .ref h_16])), (h_3, .inr (8, [.ref h_3_0, .int h_3_1])), (h_3_0, .inl (a_h_3_0, n_h_3_0, .inl f_h_3_0))] : va_W)) u) t) (va_A [(h, .inr (6, [.ref h_0, .int h_1, .int h_2, .ref h_3, .ref h_4, .int h_5, .int h_6, .int h_7, .int h_8, .int h_9, .int h_10, .int h_11, .int h_12, .int h_13, .ref h_14, .ref h_15, .ref h_16])), (h_3, .inr (8, [.ref h_3_0, .int h_3_1])), (h_3_0, .inl (a_h_3_0, n_h_3_0, .inl f_h_3_0))] sz)) 0 0 (va_A [(h, .inr (6, [.ref h_0, .int h_1, .int h_2, .ref h_3, .ref h_4, .int h_5, .int h_6, .int h_7, .int h_8, .int h_9, .int h_10, .int h_11, .int h_12, .int h_13, .ref h_14, .ref h_15, .ref h_16])), (h_3, .inr (8, [.ref h_3_0, .int h_3_1])), (h_3_0, .inl (a_h_3_0, n_h_3_0, .inl f_h_3_0))] sz) := by
  refine Met.ofW (cc := cX6_beginExpression) (maxL := 2) (ret := none) (by decide) rfl ?_
  intro p e s m args below meth c s₁ B hml hv
  obtain ⟨rfl, aks, rfl, Wd⟩ := k_enter hv
  have C : CallFix p m c cX6_beginExpression 2 s _ gG RX6 := ⟨B.exec, B.bytes, hml, findClass_of_methodNamed B.named, fun w h => atoms_spec (ws := Cond.code yX6_beginExpression cX6_beginExpression 2 none :: gG) B.pre w (List.mem_cons_of_mem _ h)⟩
  have hr := B.returns
  have hlk := B.notSynchronized
  generalize va_A [(h, .inr (6, [.ref h_0, .int h_1, .int h_2, .ref h_3, .ref h_4, .int h_5, .int h_6, .int h_7, .int h_8, .int h_9, .int h_10, .int h_11, .int h_12, .int h_13, .ref h_14, .ref h_15, .ref h_16])), (h_3, .inr (8, [.ref h_3_0, .int h_3_1])), (h_3_0, .inl (a_h_3_0, n_h_3_0, .inl f_h_3_0))] s.heap.size = A at Wd ⊢
  refine k_locals (Nat.le_of_ble_eq_true rfl) [(0, .ref h), (1, .int x0)] rfl (fun ls hl => ?_)
  refine lv_aload_n C.1 C.2.1 dX6_beginExpression_0 rfl (lv_at hl 0 rfl) ?_
  refine lv_iload_n C.1 C.2.1 dX6_beginExpression_1 rfl (lv_at hl 1 rfl) ?_
  refine k_put C Wd KX6 0 6 [(h, .inr (6, [.ref h_0, .int h_1, .int h_2, .ref h_3, .ref h_4, .int h_5, .int x0, .int h_7, .int h_8, .int h_9, .int h_10, .int h_11, .int h_12, .int h_13, .ref h_14, .ref h_15, .ref h_16])), (h_3, .inr (8, [.ref h_3_0, .int h_3_1])), (h_3_0, .inl (a_h_3_0, n_h_3_0, .inl f_h_3_0))] rfl (by decide) fl_X6_140 rfl rfl rfl (Nat.le_of_ble_eq_true rfl) rfl dX6_beginExpression_2 (fun H locs Wd => ?_)
  refine lv_aload_n C.1 C.2.1 dX6_beginExpression_5 rfl (lv_at hl 0 rfl) ?_
  refine lv_aload_n C.1 C.2.1 dX6_beginExpression_6 rfl (lv_at hl 0 rfl) ?_
  refine k_get C Wd KX6 0 3 rfl (by decide) fl_X6_23 rfl dX6_beginExpression_7 ?_
  refine k_get C Wd KX8 1 1 rfl (by decide) fl_X6_66 rfl dX6_beginExpression_10 ?_
  refine k_put C Wd KX6 0 10 [(h, .inr (6, [.ref h_0, .int h_1, .int h_2, .ref h_3, .ref h_4, .int h_5, .int x0, .int h_7, .int h_8, .int h_9, .int h_3_1, .int h_11, .int h_12, .int h_13, .ref h_14, .ref h_15, .ref h_16])), (h_3, .inr (8, [.ref h_3_0, .int h_3_1])), (h_3_0, .inl (a_h_3_0, n_h_3_0, .inl f_h_3_0))] rfl (by decide) fl_X6_143 rfl rfl rfl (Nat.le_of_ble_eq_true rfl) rfl dX6_beginExpression_13 (fun H locs Wd => ?_)
  refine lv_aload_n C.1 C.2.1 dX6_beginExpression_16 rfl (lv_at hl 0 rfl) ?_
  refine lv_aload_n C.1 C.2.1 dX6_beginExpression_17 rfl (lv_at hl 0 rfl) ?_
  refine k_get C Wd KX6 0 3 rfl (by decide) fl_X6_23 rfl dX6_beginExpression_18 ?_
  refine k_get C Wd KX8 1 1 rfl (by decide) fl_X6_66 rfl dX6_beginExpression_21 ?_
  refine k_put C Wd KX6 0 11 [(h, .inr (6, [.ref h_0, .int h_1, .int h_2, .ref h_3, .ref h_4, .int h_5, .int x0, .int h_7, .int h_8, .int h_9, .int h_3_1, .int h_3_1, .int h_12, .int h_13, .ref h_14, .ref h_15, .ref h_16])), (h_3, .inr (8, [.ref h_3_0, .int h_3_1])), (h_3_0, .inl (a_h_3_0, n_h_3_0, .inl f_h_3_0))] rfl (by decide) fl_X6_146 rfl rfl rfl (Nat.le_of_ble_eq_true rfl) rfl dX6_beginExpression_24 (fun H locs Wd => ?_)
  refine lv_aload_n C.1 C.2.1 dX6_beginExpression_27 rfl (lv_at hl 0 rfl) ?_
  refine lv_iconst (v := 5) C.1 C.2.1 dX6_beginExpression_28 (by decide) ?_
  refine k_put C Wd KX6 0 5 [(h, .inr (6, [.ref h_0, .int h_1, .int h_2, .ref h_3, .ref h_4, .int 5, .int x0, .int h_7, .int h_8, .int h_9, .int h_3_1, .int h_3_1, .int h_12, .int h_13, .ref h_14, .ref h_15, .ref h_16])), (h_3, .inr (8, [.ref h_3_0, .int h_3_1])), (h_3_0, .inl (a_h_3_0, n_h_3_0, .inl f_h_3_0))] rfl (by decide) fl_X6_52 rfl rfl rfl (Nat.le_of_ble_eq_true rfl) rfl dX6_beginExpression_29 (fun H locs Wd => ?_)
  exact k_vret C hr hlk Wd () trivial [0, 1, 2] rfl (by decide) [] rfl (by decide) (by decide) dX6_beginExpression_32
set_option maxHeartbeats 4000000 in
set_option maxRecDepth 100000 in
theorem sX6_beginRule (l : Launch) (D : va_G) (h : Nat) (h0 : Nat) (h0_0 : Nat) (h0_1 : Nat) (h0_2 : Int32) (h0_3 : Nat) (h0_4 : Nat) (h0_0_0 : Nat) (h0_0_1 : Int32) (n_h0_0_0 : Nat) (a_h0_0_0 : ClassId) (f_h0_0_0 : Nat → Int32) (h0_1_0 : Nat) (h0_1_1 : Int32) (n_h0_1_0 : Nat) (a_h0_1_0 : ClassId) (f_h0_1_0 : Nat → Int32) (h_0 : Nat) (h_1 : Int32) (h_2 : Int32) (h_3 : Nat) (h_4 : Nat) (h_5 : Int32) (h_6 : Int32) (h_7 : Int32) (h_8 : Int32) (h_9 : Int32) (h_10 : Int32) (h_11 : Int32) (h_12 : Int32) (h_13 : Int32) (h_14 : Nat) (h_15 : Nat) (h_16 : Nat) (h_0_0 : Nat) (h_0_1 : Int32) (h_0_2 : Int32) (h_0_3 : Int32) (h_0_4 : Int32) (h_0_5 : Int32) (sz : Nat) (k_h0_0_1_lo : 0 ≤ h0_0_1.toInt) (k_n_h0_0_0 : n_h0_0_0 ≤ 1000) (k_p_h0_0_0 : 1 ≤ n_h0_0_0) (k_h0_0_1_hi : h0_0_1.toInt ≤ (n_h0_0_0 : Int)) (k_h0_1_1_lo : 0 ≤ h0_1_1.toInt) (k_n_h0_1_0 : n_h0_1_0 ≤ 1000) (k_p_h0_1_0 : 1 ≤ n_h0_1_0) (k_h0_1_1_hi : h0_1_1.toInt ≤ (n_h0_1_0 : Int)) (k_h_7_lo : 0 ≤ h_7.toInt) (k_h_7_hi : h_7.toInt ≤ 40) (k_h_9_lo : 0 ≤ h_9.toInt) (k_h_9_hi : h_9.toInt ≤ 1000) (k_h_13_lo : 0 ≤ h_13.toInt) (k_h_13_hi : h_13.toInt ≤ 8) (k_h_0_1_lo : 0 ≤ h_0_1.toInt) (k_h_0_1_hi : h_0_1.toInt ≤ 800)  : Met l yX6_beginRule (Cond.code yX6_beginRule cX6_beginRule 2 none :: gG) { frames := 3, cells := 0, slots := 0, locals := 107 } (cPre D [(a_h0_0_0, .int), (a_h0_1_0, .int)] [(h0, .inr (9, [.ref h0_0, .ref h0_1, .int h0_2, .ref h0_3, .ref h0_4])), (h0_0, .inr (8, [.ref h0_0_0, .int h0_0_1])), (h0_0_0, .inl (a_h0_0_0, n_h0_0_0, .inl f_h0_0_0)), (h0_1, .inr (8, [.ref h0_1_0, .int h0_1_1])), (h0_1_0, .inl (a_h0_1_0, n_h0_1_0, .inl f_h0_1_0)), (h, .inr (6, [.ref h_0, .int h_1, .int h_2, .ref h_3, .ref h_4, .int h_5, .int h_6, .int h_7, .int h_8, .int h_9, .int h_10, .int h_11, .int h_12, .int h_13, .ref h_14, .ref h_15, .ref h_16])), (h_0, .inr (10, [.ref h_0_0, .int h_0_1, .int h_0_2, .int h_0_3, .int h_0_4, .int h_0_5]))] sz [.ref h, .ref h0]) (va_Qv (fun (_ : Unit) => True) (fun u t => cB D (va_A [(h0, .inr (9, [.ref h0_0, .ref h0_1, .int h0_2, .ref h0_3, .ref h0_4])), (h0_0, .inr (8, [.ref h0_0_0, .int h0_0_1])), (h0_0_0, .inl (a_h0_0_0, n_h0_0_0, .inl f_h0_0_0)), (h0_1, .inr (8, [.ref h0_1_0, .int h0_1_1])), (h0_1_0, .inl (a_h0_1_0, n_h0_1_0, .inl f_h0_1_0)), (h, .inr (6, [.ref h_0, .int h_1, .int h_2, .ref h_3, .ref h_4, .int h_5, .int h_6, .int h_7, .int h_8, .int h_9, .int h_10, .int h_11, .int h_12, .int h_13, .ref h_14, .ref h_15, .ref h_16])), (h_0, .inr (10, [.ref h_0_0, .int h_0_1, .int h_0_2, .int h_0_3, .int h_0_4, .int h_0_5]))] sz) ((fun (_ : Unit) => ([] : List (ClassId × FieldType))) u) ((fun (_ : Unit) => ([(h0, .inr (9, [.ref h0_0, .ref h0_1, .int 0, .ref h0_3, .ref h0_4])), (h0_0, .inr (8, [.ref h0_0_0, .int 0])), (h0_0_0, .inl (a_h0_0_0, n_h0_0_0, .inl f_h0_0_0)), (h0_1, .inr (8, [.ref h0_1_0, .int 0])), (h0_1_0, .inl (a_h0_1_0, n_h0_1_0, .inl f_h0_1_0)), (h, .inr (6, [.ref h_0, .int 0, .int (-1), .ref h0_0, .ref h0, .int 5, .int 3, .int 0, .int 0, .int 40, .int 0, .int 0, .int h_12, .int 0, .ref h_14, .ref h_15, .ref h_16])), (h_0, .inr (10, [.ref h_0_0, .int h_0_1, .int 0, .int 0, .int 0, .int 0]))] : va_W)) u) t) (va_A [(h0, .inr (9, [.ref h0_0, .ref h0_1, .int h0_2, .ref h0_3, .ref h0_4])), (h0_0, .inr (8, [.ref h0_0_0, .int h0_0_1])), (h0_0_0, .inl (a_h0_0_0, n_h0_0_0, .inl f_h0_0_0)), (h0_1, .inr (8, [.ref h0_1_0, .int h0_1_1])), (h0_1_0, .inl (a_h0_1_0, n_h0_1_0, .inl f_h0_1_0)), (h, .inr (6, [.ref h_0, .int h_1, .int h_2, .ref h_3, .ref h_4, .int h_5, .int h_6, .int h_7, .int h_8, .int h_9, .int h_10, .int h_11, .int h_12, .int h_13, .ref h_14, .ref h_15, .ref h_16])), (h_0, .inr (10, [.ref h_0_0, .int h_0_1, .int h_0_2, .int h_0_3, .int h_0_4, .int h_0_5]))] sz)) 0 0 (va_A [(h0, .inr (9, [.ref h0_0, .ref h0_1, .int h0_2, .ref h0_3, .ref h0_4])), (h0_0, .inr (8, [.ref h0_0_0, .int h0_0_1])), (h0_0_0, .inl (a_h0_0_0, n_h0_0_0, .inl f_h0_0_0)), (h0_1, .inr (8, [.ref h0_1_0, .int h0_1_1])), (h0_1_0, .inl (a_h0_1_0, n_h0_1_0, .inl f_h0_1_0)), (h, .inr (6, [.ref h_0, .int h_1, .int h_2, .ref h_3, .ref h_4, .int h_5, .int h_6, .int h_7, .int h_8, .int h_9, .int h_10, .int h_11, .int h_12, .int h_13, .ref h_14, .ref h_15, .ref h_16])), (h_0, .inr (10, [.ref h_0_0, .int h_0_1, .int h_0_2, .int h_0_3, .int h_0_4, .int h_0_5]))] sz) := by
  refine Met.ofW (cc := cX6_beginRule) (maxL := 2) (ret := none) (by decide) rfl ?_
  intro p e s m args below meth c s₁ B hml hv
  obtain ⟨rfl, aks, rfl, Wd⟩ := k_enter hv
  have C : CallFix p m c cX6_beginRule 2 s _ gG RX6 := ⟨B.exec, B.bytes, hml, findClass_of_methodNamed B.named, fun w h => atoms_spec (ws := Cond.code yX6_beginRule cX6_beginRule 2 none :: gG) B.pre w (List.mem_cons_of_mem _ h)⟩
  have hr := B.returns
  have hlk := B.notSynchronized
  generalize va_A [(h0, .inr (9, [.ref h0_0, .ref h0_1, .int h0_2, .ref h0_3, .ref h0_4])), (h0_0, .inr (8, [.ref h0_0_0, .int h0_0_1])), (h0_0_0, .inl (a_h0_0_0, n_h0_0_0, .inl f_h0_0_0)), (h0_1, .inr (8, [.ref h0_1_0, .int h0_1_1])), (h0_1_0, .inl (a_h0_1_0, n_h0_1_0, .inl f_h0_1_0)), (h, .inr (6, [.ref h_0, .int h_1, .int h_2, .ref h_3, .ref h_4, .int h_5, .int h_6, .int h_7, .int h_8, .int h_9, .int h_10, .int h_11, .int h_12, .int h_13, .ref h_14, .ref h_15, .ref h_16])), (h_0, .inr (10, [.ref h_0_0, .int h_0_1, .int h_0_2, .int h_0_3, .int h_0_4, .int h_0_5]))] s.heap.size = A at Wd ⊢
  refine k_locals (Nat.le_of_ble_eq_true rfl) [(0, .ref h), (1, .ref h0)] rfl (fun ls hl => ?_)
  refine lv_aload_n C.1 C.2.1 dX6_beginRule_0 rfl (lv_at hl 1 rfl) ?_
  refine k_cv Wd [0, 1, 2, 3, 4] [5, 6] rfl (wr := [(h, .inr (6, [.ref h_0, .int h_1, .int h_2, .ref h_3, .ref h_4, .int h_5, .int h_6, .int h_7, .int h_8, .int h_9, .int h_10, .int h_11, .int h_12, .int h_13, .ref h_14, .ref h_15, .ref h_16])), (h_0, .inr (10, [.ref h_0_0, .int h_0_1, .int h_0_2, .int h_0_3, .int h_0_4, .int h_0_5]))]) rfl (by decide) (by decide) (cells' := 0) (slots' := 0) (by decide) (by decide) (k_runV (rest := []) C aks Wd cs_X6_55 (sX9_forget l D h0 h0_0 h0_1 h0_2 h0_3 h0_4 h0_0_0 h0_0_1 n_h0_0_0 a_h0_0_0 f_h0_0_0 h0_1_0 h0_1_1 n_h0_1_0 a_h0_1_0 f_h0_1_0 _ (by omega) (by omega) (by omega) (by omega) (by omega) (by omega) (by omega) (by omega)) [0, 1, 2, 3, 4] rfl (by decide) [0, 1] rfl 0 9 rfl rfl rfl rfl rfl ⟨(Nat.le_of_ble_eq_true rfl), (Nat.le_of_ble_eq_true rfl)⟩ hl.1 rfl rfl (Nat.le_of_ble_eq_true rfl) ⟨(Nat.le_of_ble_eq_true rfl), (Nat.le_of_ble_eq_true rfl)⟩ dX6_beginRule_1) (fun _ H locs w1 Wd => ?_)
  have Wd : wX D [(a_h0_0_0, .int), (a_h0_1_0, .int)] s [(h0, .inr (9, [.ref h0_0, .ref h0_1, .int 0, .ref h0_3, .ref h0_4])), (h0_0, .inr (8, [.ref h0_0_0, .int 0])), (h0_0_0, .inl (a_h0_0_0, n_h0_0_0, .inl f_h0_0_0)), (h0_1, .inr (8, [.ref h0_1_0, .int 0])), (h0_1_0, .inl (a_h0_1_0, n_h0_1_0, .inl f_h0_1_0)), (h, .inr (6, [.ref h_0, .int h_1, .int h_2, .ref h_3, .ref h_4, .int h_5, .int h_6, .int h_7, .int h_8, .int h_9, .int h_10, .int h_11, .int h_12, .int h_13, .ref h_14, .ref h_15, .ref h_16])), (h_0, .inr (10, [.ref h_0_0, .int h_0_1, .int h_0_2, .int h_0_3, .int h_0_4, .int h_0_5]))] _ A s.heap _ := k_sub Wd [2, 3, 4, 5, 6, 0, 1] rfl (by decide) [0, 1] rfl
  refine lv_aload_n C.1 C.2.1 dX6_beginRule_4 rfl (lv_at hl 0 rfl) ?_
  refine lv_aload_n C.1 C.2.1 dX6_beginRule_5 rfl (lv_at hl 1 rfl) ?_
  refine k_get C Wd KX9 0 0 rfl (by decide) fl_X6_60 rfl dX6_beginRule_6 ?_
  refine lv_aload_n C.1 C.2.1 dX6_beginRule_9 rfl (lv_at hl 1 rfl) ?_
  refine lv_bipush (v := 40) C.1 C.2.1 dX6_beginRule_10 (by decide) ?_
  refine k_cv Wd [5, 1, 2, 6] [0, 3, 4] rfl (wr := [(h0, .inr (9, [.ref h0_0, .ref h0_1, .int 0, .ref h0_3, .ref h0_4])), (h0_1, .inr (8, [.ref h0_1_0, .int 0])), (h0_1_0, .inl (a_h0_1_0, n_h0_1_0, .inl f_h0_1_0))]) rfl (by decide) (by decide) (cells' := 0) (slots' := 0) (by decide) (by decide) (k_runV (rest := []) C aks Wd cs_X6_48 (sX6_begin l D h h0_0 h0 40 h_0 h_1 h_2 h_3 h_4 h_5 h_6 h_7 h_8 h_9 h_10 h_11 h_12 h_13 h_14 h_15 h_16 h0_0_0 0 n_h0_0_0 a_h0_0_0 f_h0_0_0 h_0_0 h_0_1 h_0_2 h_0_3 h_0_4 h_0_5 _ (by omega) (by omega) (by omega) (by omega) (by omega) (by omega) (by have zq0 : (0 : Int32).toInt = 0 := (by decide); omega) (by omega) (by omega) (by have zq0 : (0 : Int32).toInt = 0 := (by decide); omega) (by omega) (by omega)) [5, 1, 2, 6] rfl (by decide) [0] rfl 5 6 rfl rfl rfl rfl rfl ⟨(Nat.le_of_ble_eq_true rfl), (Nat.le_of_ble_eq_true rfl)⟩ hl.1 rfl rfl (Nat.le_of_ble_eq_true rfl) ⟨(Nat.le_of_ble_eq_true rfl), (Nat.le_of_ble_eq_true rfl)⟩ dX6_beginRule_12) (fun _ H locs w12 Wd => ?_)
  have Wd : wX D [(a_h0_0_0, .int), (a_h0_1_0, .int)] s [(h0, .inr (9, [.ref h0_0, .ref h0_1, .int 0, .ref h0_3, .ref h0_4])), (h0_0, .inr (8, [.ref h0_0_0, .int 0])), (h0_0_0, .inl (a_h0_0_0, n_h0_0_0, .inl f_h0_0_0)), (h0_1, .inr (8, [.ref h0_1_0, .int 0])), (h0_1_0, .inl (a_h0_1_0, n_h0_1_0, .inl f_h0_1_0)), (h, .inr (6, [.ref h_0, .int 0, .int (-1), .ref h0_0, .ref h0, .int h_5, .int h_6, .int 0, .int 0, .int 40, .int h_10, .int h_11, .int h_12, .int 0, .ref h_14, .ref h_15, .ref h_16])), (h_0, .inr (10, [.ref h_0_0, .int h_0_1, .int 0, .int 0, .int 0, .int 0]))] _ A s.heap _ := k_sub Wd [0, 4, 5, 1, 2, 3, 6] rfl (by decide) [0, 1] rfl
  refine lv_aload_n C.1 C.2.1 dX6_beginRule_15 rfl (lv_at hl 0 rfl) ?_
  refine lv_iconst (v := 3) C.1 C.2.1 dX6_beginRule_16 (by decide) ?_
  refine k_cv Wd [5, 1, 2] [0, 3, 4, 6] rfl (wr := [(h0, .inr (9, [.ref h0_0, .ref h0_1, .int 0, .ref h0_3, .ref h0_4])), (h0_1, .inr (8, [.ref h0_1_0, .int 0])), (h0_1_0, .inl (a_h0_1_0, n_h0_1_0, .inl f_h0_1_0)), (h_0, .inr (10, [.ref h_0_0, .int h_0_1, .int 0, .int 0, .int 0, .int 0]))]) rfl (by decide) (by decide) (cells' := 0) (slots' := 0) (by decide) (by decide) (k_runV (rest := []) C aks Wd cs_X6_63 (sX6_beginExpression l D h 3 h_0 0 (-1) h0_0 h0 h_5 h_6 0 0 40 h_10 h_11 h_12 0 h_14 h_15 h_16 h0_0_0 0 n_h0_0_0 a_h0_0_0 f_h0_0_0 _ (by have zq0 : (0 : Int32).toInt = 0 := (by decide); omega) (by have zq0 : (0 : Int32).toInt = 0 := (by decide); omega) (by have zq0 : (40 : Int32).toInt = 40 := (by decide); omega) (by have zq0 : (40 : Int32).toInt = 40 := (by decide); omega) (by have zq0 : (0 : Int32).toInt = 0 := (by decide); omega) (by have zq0 : (0 : Int32).toInt = 0 := (by decide); omega) (by have zq0 : (0 : Int32).toInt = 0 := (by decide); omega) (by omega) (by omega) (by have zq0 : (0 : Int32).toInt = 0 := (by decide); omega)) [5, 1, 2] rfl (by decide) [0] rfl 5 6 rfl rfl rfl rfl rfl ⟨(Nat.le_of_ble_eq_true rfl), (Nat.le_of_ble_eq_true rfl)⟩ hl.1 rfl rfl (Nat.le_of_ble_eq_true rfl) ⟨(Nat.le_of_ble_eq_true rfl), (Nat.le_of_ble_eq_true rfl)⟩ dX6_beginRule_17) (fun _ H locs w17 Wd => ?_)
  have Wd : wX D [(a_h0_0_0, .int), (a_h0_1_0, .int)] s [(h0, .inr (9, [.ref h0_0, .ref h0_1, .int 0, .ref h0_3, .ref h0_4])), (h0_0, .inr (8, [.ref h0_0_0, .int 0])), (h0_0_0, .inl (a_h0_0_0, n_h0_0_0, .inl f_h0_0_0)), (h0_1, .inr (8, [.ref h0_1_0, .int 0])), (h0_1_0, .inl (a_h0_1_0, n_h0_1_0, .inl f_h0_1_0)), (h, .inr (6, [.ref h_0, .int 0, .int (-1), .ref h0_0, .ref h0, .int 5, .int 3, .int 0, .int 0, .int 40, .int 0, .int 0, .int h_12, .int 0, .ref h_14, .ref h_15, .ref h_16])), (h_0, .inr (10, [.ref h_0_0, .int h_0_1, .int 0, .int 0, .int 0, .int 0]))] _ A s.heap _ := k_sub Wd [0, 5, 6, 1, 2, 4, 3] rfl (by decide) [0, 1] rfl
  exact k_vret C hr hlk Wd () trivial [0, 1, 2, 3, 4, 5, 6] rfl (by decide) [] rfl (by decide) (by decide) dX6_beginRule_20
