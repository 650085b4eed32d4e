set_option maxHeartbeats 4000000 in
set_option maxRecDepth 100000 in
theorem sX8_copy (l : Launch) (D : va_G) (h : Nat) (h0 : Nat) (h0_0 : Nat) (h0_1 : Int32) (n_h0_0 : Nat) (a_h0_0 : ClassId) (f_h0_0 : Nat → Int32) (h_0 : Nat) (h_1 : Int32) (n_h_0 : Nat) (a_h_0 : ClassId) (f_h_0 : Nat → Int32) (sz : Nat) (k_h0_1_lo : 0 ≤ h0_1.toInt) (k_n_h0_0 : n_h0_0 ≤ 1000) (k_p_h0_0 : 1 ≤ n_h0_0) (k_h0_1_hi : h0_1.toInt ≤ (n_h0_0 : Int)) (k_h_1_lo : 0 ≤ h_1.toInt) (k_n_h_0 : n_h_0 ≤ 1000) (k_p_h_0 : 1 ≤ n_h_0) (k_h_1_hi : h_1.toInt ≤ (n_h_0 : Int))  : Met l yX8_copy (Cond.code yX8_copy cX8_copy 2 none :: gG) { frames := 2, cells := 0, slots := 0, locals := 120 } (cPre D [(a_h0_0, .int), (a_h_0, .int)] [(h0, .inr (8, [.ref h0_0, .int h0_1])), (h0_0, .inl (a_h0_0, n_h0_0, .inl f_h0_0)), (h, .inr (8, [.ref h_0, .int h_1])), (h_0, .inl (a_h_0, n_h_0, .inl f_h_0))] sz [.ref h, .ref h0]) (va_Qv (fun (u : (Int32) × (Nat → Int32)) => match u with | (jX_F_h_1, jX_C_h_0) => 0 ≤ jX_F_h_1.toInt ∧ jX_F_h_1.toInt ≤ 1000 ∧ jX_F_h_1.toInt ≤ (n_h_0 : Int)) (fun u t => cB D (va_A [(h0, .inr (8, [.ref h0_0, .int h0_1])), (h0_0, .inl (a_h0_0, n_h0_0, .inl f_h0_0)), (h, .inr (8, [.ref h_0, .int h_1])), (h_0, .inl (a_h_0, n_h_0, .inl f_h_0))] sz) ((fun (_ : (Int32) × (Nat → Int32)) => ([] : List (ClassId × FieldType))) u) ((fun (u : (Int32) × (Nat → Int32)) => match u with | (jX_F_h_1, jX_C_h_0) => ([(h0, .inr (8, [.ref h0_0, .int h0_1])), (h0_0, .inl (a_h0_0, n_h0_0, .inl f_h0_0)), (h, .inr (8, [.ref h_0, .int jX_F_h_1])), (h_0, .inl (a_h_0, n_h_0, .inl jX_C_h_0))] : va_W)) u) t) (va_A [(h0, .inr (8, [.ref h0_0, .int h0_1])), (h0_0, .inl (a_h0_0, n_h0_0, .inl f_h0_0)), (h, .inr (8, [.ref h_0, .int h_1])), (h_0, .inl (a_h_0, n_h_0, .inl f_h_0))] sz)) 0 0 (va_A [(h0, .inr (8, [.ref h0_0, .int h0_1])), (h0_0, .inl (a_h0_0, n_h0_0, .inl f_h0_0)), (h, .inr (8, [.ref h_0, .int h_1])), (h_0, .inl (a_h_0, n_h_0, .inl f_h_0))] sz) := by
  refine Met.ofW (cc := cX8_copy) (maxL := 2) (ret := none) (by decide) rfl ?_
  intro p e s m args below meth c s₁ B hml hv
  obtain ⟨rfl, aks, rfl, Wd⟩ := k_enter hv
  have C : CallFix p m c cX8_copy 2 s _ gG RX8 := ⟨B.exec, B.bytes, hml, findClass_of_methodNamed B.named, fun w h => atoms_spec (ws := Cond.code yX8_copy cX8_copy 2 none :: gG) B.pre w (List.mem_cons_of_mem _ h)⟩
  have hr := B.returns
  have hlk := B.notSynchronized
  generalize va_A [(h0, .inr (8, [.ref h0_0, .int h0_1])), (h0_0, .inl (a_h0_0, n_h0_0, .inl f_h0_0)), (h, .inr (8, [.ref h_0, .int h_1])), (h_0, .inl (a_h_0, n_h_0, .inl f_h_0))] s.heap.size = A at Wd ⊢
  refine k_locals (Nat.le_of_ble_eq_true rfl) [(0, .ref h), (1, .ref h0)] rfl (fun ls hl => ?_)
  refine lv_aload_n C.1 C.2.1 dX8_copy_0 rfl (lv_at hl 1 rfl) ?_
  refine lv_aload_n C.1 C.2.1 dX8_copy_1 rfl (lv_at hl 0 rfl) ?_
  refine lv_acmp_eq (rx := some h0) (ry := some h) (tgt := 20) C.1 C.2.1 dX8_copy_2 (by decide) (fun c => False.elim (by have z := Wd.2.2.1.1 0 2 _ _ rfl rfl (Option.some.inj c); exact absurd z (by decide))) (fun _ => ?_)
  refine lv_aload_n C.1 C.2.1 dX8_copy_5 rfl (lv_at hl 0 rfl) ?_
  refine lv_iconst (v := 0) C.1 C.2.1 dX8_copy_6 (by decide) ?_
  refine k_put C Wd KX8 2 1 [(h0, .inr (8, [.ref h0_0, .int h0_1])), (h0_0, .inl (a_h0_0, n_h0_0, .inl f_h0_0)), (h, .inr (8, [.ref h_0, .int 0])), (h_0, .inl (a_h_0, n_h_0, .inl f_h_0))] rfl (by decide) fl_X8_21 rfl rfl rfl (Nat.le_of_ble_eq_true rfl) rfl dX8_copy_7 (fun H locs Wd => ?_)
  refine lv_aload_n C.1 C.2.1 dX8_copy_10 rfl (lv_at hl 0 rfl) ?_
  refine lv_aload_n C.1 C.2.1 dX8_copy_11 rfl (lv_at hl 1 rfl) ?_
  refine lv_iconst (v := 0) C.1 C.2.1 dX8_copy_12 (by decide) ?_
  refine lv_aload_n C.1 C.2.1 dX8_copy_13 rfl (lv_at hl 1 rfl) ?_
  refine k_get C Wd KX8 0 1 rfl (by decide) fl_X8_21 rfl dX8_copy_14 ?_
  refine k_cv Wd [0, 1, 2, 3] [] rfl (wr := []) rfl (by decide) (by decide) (cells' := 0) (slots' := 0) (by decide) (by decide) (k_runV (rest := []) C aks Wd cs_X8_31 (sX8_addPart l D h h0 0 h0_1 h0_0 h0_1 n_h0_0 a_h0_0 f_h0_0 h_0 0 n_h_0 a_h_0 f_h_0 _ (by have zq0 : (0 : Int32).toInt = 0 := (by decide); omega) (by have zq0 : (0 : Int32).toInt = 0 := (by decide); omega) (by omega) (by omega) (by omega) (by omega) (by omega) (by omega) (by have zq0 : (0 : Int32).toInt = 0 := (by decide); omega) (by omega) (by omega) (by have zq0 : (0 : Int32).toInt = 0 := (by decide); omega)) [0, 1, 2, 3] rfl (by decide) [0, 1] rfl 2 8 rfl rfl rfl rfl rfl ⟨(Nat.le_of_ble_eq_true rfl), (Nat.le_of_ble_eq_true rfl)⟩ hl.1 rfl rfl (Nat.le_of_ble_eq_true rfl) ⟨(Nat.le_of_ble_eq_true rfl), (Nat.le_of_ble_eq_true rfl)⟩ dX8_copy_17) (fun u H locs w17 Wd => ?_)
  obtain ⟨s17_0, s17_1⟩ := u
  have Wd : wX D [(a_h0_0, .int), (a_h_0, .int)] s [(h0, .inr (8, [.ref h0_0, .int h0_1])), (h0_0, .inl (a_h0_0, n_h0_0, .inl f_h0_0)), (h, .inr (8, [.ref h_0, .int s17_0])), (h_0, .inl (a_h_0, n_h_0, .inl s17_1))] _ A s.heap _ := k_sub Wd [0, 1, 2, 3] rfl (by decide) [0, 1] rfl
  obtain ⟨g17_0, g17_1, g17_2, g17_3⟩ := w17
  have g17_0 : 0 ≤ s17_0.toInt := g17_0
  have g17_1 : s17_0.toInt ≤ 1000 := g17_1
  have g17_2 : 0 ≤ s17_0.toInt := g17_2
  have g17_3 : s17_0.toInt ≤ (n_h_0 : Int) := g17_3
  exact k_vret C hr hlk Wd (s17_0, s17_1) (by exact ⟨by omega, by omega, by omega⟩) [0, 1, 2, 3] rfl (by decide) [] rfl (by decide) (by decide) dX8_copy_20
set_option maxHeartbeats 4000000 in
set_option maxRecDepth 100000 in
theorem sX8_statements (l : Launch) (D : va_G) (h : Nat) (h_0 : Nat) (h_1 : Int32) (n_h_0 : Nat) (a_h_0 : ClassId) (f_h_0 : Nat → Int32) (sz : Nat) (k_h_1_lo : 0 ≤ h_1.toInt) (k_n_h_0 : n_h_0 ≤ 1000) (k_p_h_0 : 1 ≤ n_h_0) (k_h_1_hi : h_1.toInt ≤ (n_h_0 : Int))  : Met l yX8_statements (Cond.code yX8_statements cX8_statements 3 (some .int) :: gG) { frames := 2, cells := 0, slots := 0, locals := 84 } (cPre D [(a_h_0, .int)] [(h, .inr (8, [.ref h_0, .int h_1])), (h_0, .inl (a_h_0, n_h_0, .inl f_h_0))] sz [.ref h]) (vp_Si (fun r => 0 ≤ r.toInt ∧ r.toInt ≤ 1000 ∧ r.toInt ≤ (n_h_0 : Int) ∧ r.toInt ≤ h_1.toInt)) 0 0 (fun _ => False) := by
  refine Met.ofW (cc := cX8_statements) (maxL := 3) (ret := (some .int)) (by decide) rfl ?_
  intro p e s m args below meth c s₁ B hml hv
  obtain ⟨rfl, aks, rfl, Wd⟩ := k_enter hv
  have C : CallFix p m c cX8_statements 3 s _ gG RX8 := ⟨B.exec, B.bytes, hml, findClass_of_methodNamed B.named, fun w h => atoms_spec (ws := Cond.code yX8_statements cX8_statements 3 (some .int) :: gG) B.pre w (List.mem_cons_of_mem _ h)⟩
  have hr := B.returns
  have hlk := B.notSynchronized
  obtain ⟨A, Wd⟩ : ∃ A, wX D [(a_h_0, .int)] s [(h, .inr (8, [.ref h_0, .int h_1])), (h_0, .inl (a_h_0, n_h_0, .inl f_h_0))] s.heap A s.heap [] := ⟨_, Wd⟩
  refine k_locals (Nat.le_of_ble_eq_true rfl) [(0, .ref h)] rfl (fun ls hl => ?_)
  refine lv_iconst (v := 0) C.1 C.2.1 dX8_statements_0 (by decide) ?_
  refine lv_istore_n (lv' := [(1, .int 0), (0, .ref h)]) C.1 C.2.1 dX8_statements_1 rfl hl (by decide) rfl (fun ls hl => ?_)
  refine lv_iconst (v := 0) C.1 C.2.1 dX8_statements_2 (by decide) ?_
  refine lv_istore_n (lv' := [(2, .int 0), (1, .int 0), (0, .ref h)]) C.1 C.2.1 dX8_statements_3 rfl hl (by decide) rfl (fun ls hl => ?_)
  refine k_loopA (fun (u : (Int32) × (Int32)) H locs ls => match u with | (j4_L_1, j4_L_2) => 0 ≤ j4_L_1.toInt ∧ 0 ≤ j4_L_2.toInt ∧ j4_L_1.toInt ≤ 1000 ∧ j4_L_2.toInt ≤ 1000 ∧ j4_L_1.toInt ≤ (n_h_0 : Int) ∧ j4_L_1.toInt ≤ h_1.toInt ∧ j4_L_1.toInt ≤ j4_L_2.toInt ∧ j4_L_2.toInt ≤ (n_h_0 : Int) ∧ j4_L_2.toInt ≤ h_1.toInt ∧ H = s.heap ∧ locs = [] ∧ wX D [(a_h_0, .int)] s [(h, .inr (8, [.ref h_0, .int h_1])), (h_0, .inl (a_h_0, n_h_0, .inl f_h_0))] H A s.heap locs ∧ lv_has ls 3 [(2, .int j4_L_2), (1, .int j4_L_1), (0, .ref h)]) (fun (u : (Int32) × (Int32)) ls => match u with | (j4_L_1, j4_L_2) => F0 m 4 ls []) (fun (u : (Int32) × (Int32)) => match u with | (j4_L_1, j4_L_2) => (1001 - j4_L_2.toInt).toNat) (fun u H locs ls hi ih4 => ?_) (0, 0) _ _ _ ⟨by have zq0 : (0 : Int32).toInt = 0 := (by decide); omega, by have zq0 : (0 : Int32).toInt = 0 := (by decide); omega, by have zq0 : (0 : Int32).toInt = 0 := (by decide); omega, by have zq0 : (0 : Int32).toInt = 0 := (by decide); omega, by have zq0 : (0 : Int32).toInt = 0 := (by decide); omega, by have zq0 : (0 : Int32).toInt = 0 := (by decide); omega, by have zq0 : (0 : Int32).toInt = 0 := (by decide); omega, by have zq0 : (0 : Int32).toInt = 0 := (by decide); omega, by have zq0 : (0 : Int32).toInt = 0 := (by decide); omega, rfl, rfl, Wd, lv_sub hl [0, 1, 2] rfl⟩
  obtain ⟨j4_L_1, j4_L_2⟩ := u
  obtain ⟨i4_0, i4_1, i4_2, i4_3, i4_4, i4_5, i4_6, i4_7, i4_8, rfl, rfl, Wd, hl⟩ := hi
  refine lv_iload_n C.1 C.2.1 dX8_statements_4 rfl (lv_at hl 0 rfl) ?_
  refine lv_aload_n C.1 C.2.1 dX8_statements_5 rfl (lv_at hl 2 rfl) ?_
  refine k_get C Wd KX8 0 1 rfl (by decide) fl_X8_21 rfl dX8_statements_6 ?_
  refine lv_icmp_ge (tgt := 33) C.1 C.2.1 dX8_statements_9 (by decide) (fun c9 => ?_) (fun c9 => ?_)
  · have i9 : h_1.toInt ≤ j4_L_2.toInt := kz_le c9
    refine lv_iload_n C.1 C.2.1 dX8_statements_33 rfl (lv_at hl 1 rfl) ?_
    exact k_zretP C hr hlk rfl (by exact ⟨by omega, by omega, by omega, by omega⟩) dX8_statements_34
  · have i9 : j4_L_2.toInt < h_1.toInt := kz_nle c9
    refine lv_aload_n C.1 C.2.1 dX8_statements_12 rfl (lv_at hl 2 rfl) ?_
    refine k_get C Wd KX8 0 0 rfl (by decide) fl_X8_15 rfl dX8_statements_13 ?_
    refine lv_iload_n C.1 C.2.1 dX8_statements_16 rfl (lv_at hl 0 rfl) ?_
    obtain ⟨v17, ev17⟩ : ∃ z : Int32, f_h_0 j4_L_2.toNatClampNeg = z := ⟨_, rfl⟩
    refine k_iald (v := v17) C Wd 1 0 rfl rfl (vp_in_iff.mpr ⟨by omega, by omega⟩) ev17 dX8_statements_17 ?_
    refine k_pi (k_runS (rest := []) C aks Wd cs_X8_35 (sX8_isStatement l D v17 _ ) [] rfl (by decide) [] rfl rfl rfl ⟨(Nat.le_of_ble_eq_true rfl), (Nat.le_of_ble_eq_true rfl)⟩ hl.1 rfl rfl (Nat.le_of_ble_eq_true rfl) ⟨(Nat.le_of_ble_eq_true rfl), (Nat.le_of_ble_eq_true rfl)⟩ dX8_statements_18) (fun r18 w18 => ?_)
    obtain ⟨g18_0, g18_1⟩ := w18
    have g18_0 : 0 ≤ r18.toInt := g18_0
    have g18_1 : r18.toInt ≤ 1 := g18_1
    refine k_cutA (fun (j27_L_1 : Int32) H locs ls => 0 ≤ j27_L_1.toInt ∧ j27_L_1.toInt ≤ 1000 ∧ j27_L_1.toInt ≤ (n_h_0 : Int) ∧ j27_L_1.toInt ≤ h_1.toInt ∧ j4_L_1.toInt ≤ j27_L_1.toInt ∧ r18.toInt ≤ j27_L_1.toInt ∧ j27_L_1.toInt ≤ j4_L_1.toInt + 1 ∧ j27_L_1.toInt ≤ r18.toInt + 999 ∧ H = s.heap ∧ locs = [] ∧ wX D [(a_h_0, .int)] s [(h, .inr (8, [.ref h_0, .int h_1])), (h_0, .inl (a_h_0, n_h_0, .inl f_h_0))] H A s.heap locs ∧ lv_has ls 3 [(2, .int j4_L_2), (1, .int j27_L_1), (0, .ref h)]) (fun (j27_L_1 : Int32) ls => F0 m 27 ls []) (fun j27_L_1 H locs ls hi => ?_) (fun J27 => ?_)
    · obtain ⟨i27_0, i27_1, i27_2, i27_3, i27_4, i27_5, i27_6, i27_7, rfl, rfl, Wd, hl⟩ := hi
      obtain ⟨v27, ev27⟩ : ∃ z : Int32, j4_L_2 + 1 = z := ⟨_, rfl⟩
      have iv27 : v27.toInt = j4_L_2.toInt + 1 := kz_addc ev27 (by decide) (by have zr0 := kz_rng j4_L_2; omega) (by have zr0 := kz_rng j4_L_2; omega)
      refine lv_iinc (v := v27) (lv' := [(2, .int v27), (1, .int j27_L_1), (0, .ref h)]) C.1 C.2.1 dX8_statements_27 hl (k := 0) rfl ev27 (by decide) rfl (fun ls hl => ?_)
      refine lv_goto (tgt := 4) C.1 C.2.1 dX8_statements_30 (by decide) ?_
      exact ih4 (j27_L_1, v27) _ _ _ ⟨by omega, by omega, by omega, by omega, by omega, by omega, by omega, by omega, by omega, rfl, rfl, Wd, lv_sub hl [0, 1, 2] rfl⟩ (by show (1001 - v27.toInt).toNat < (1001 - j4_L_2.toInt).toNat; omega)
    refine lv_if_eq (tgt := 27) C.1 C.2.1 dX8_statements_21 (by decide) (fun c21 => ?_) (fun c21 => ?_)
    · have i21 : r18.toInt = 0 := kz_eq c21
      exact J27 j4_L_1 _ _ _ ⟨by omega, by omega, by omega, by omega, by omega, by omega, by omega, by omega, rfl, rfl, Wd, lv_sub hl [0, 1, 2] rfl⟩
    · have i21 : ¬ r18.toInt = 0 := kz_ne c21
      obtain ⟨v24, ev24⟩ : ∃ z : Int32, j4_L_1 + 1 = z := ⟨_, rfl⟩
      have iv24 : v24.toInt = j4_L_1.toInt + 1 := kz_addc ev24 (by decide) (by have zr0 := kz_rng j4_L_1; omega) (by have zr0 := kz_rng j4_L_1; omega)
      refine lv_iinc (v := v24) (lv' := [(1, .int v24), (2, .int j4_L_2), (0, .ref h)]) C.1 C.2.1 dX8_statements_24 hl (k := 1) rfl ev24 (by decide) rfl (fun ls hl => ?_)
      exact J27 v24 _ _ _ ⟨by omega, by omega, by omega, by omega, by omega, by omega, by omega, by omega, rfl, rfl, Wd, lv_sub hl [1, 0, 2] rfl⟩
set_option maxHeartbeats 4000000 in
set_option maxRecDepth 100000 in
theorem sX8_expressions (l : Launch) (D : va_G) (h : Nat) (h_0 : Nat) (h_1 : Int32) (n_h_0 : Nat) (a_h_0 : ClassId) (f_h_0 : Nat → Int32) (sz : Nat) (k_h_1_lo : 0 ≤ h_1.toInt) (k_n_h_0 : n_h_0 ≤ 1000) (k_p_h_0 : 1 ≤ n_h_0) (k_h_1_hi : h_1.toInt ≤ (n_h_0 : Int))  : Met l yX8_expressions (Cond.code yX8_expressions cX8_expressions 3 (some .int) :: gG) { frames := 2, cells := 0, slots := 0, locals := 84 } (cPre D [(a_h_0, .int)] [(h, .inr (8, [.ref h_0, .int h_1])), (h_0, .inl (a_h_0, n_h_0, .inl f_h_0))] sz [.ref h]) (vp_Si (fun r => 0 ≤ r.toInt ∧ r.toInt ≤ 1000 ∧ r.toInt ≤ (n_h_0 : Int) ∧ r.toInt ≤ h_1.toInt)) 0 0 (fun _ => False) := by
  refine Met.ofW (cc := cX8_expressions) (maxL := 3) (ret := (some .int)) (by decide) rfl ?_
  intro p e s m args below meth c s₁ B hml hv
  obtain ⟨rfl, aks, rfl, Wd⟩ := k_enter hv
  have C : CallFix p m c cX8_expressions 3 s _ gG RX8 := ⟨B.exec, B.bytes, hml, findClass_of_methodNamed B.named, fun w h => atoms_spec (ws := Cond.code yX8_expressions cX8_expressions 3 (some .int) :: gG) B.pre w (List.mem_cons_of_mem _ h)⟩
  have hr := B.returns
  have hlk := B.notSynchronized
  obtain ⟨A, Wd⟩ : ∃ A, wX D [(a_h_0, .int)] s [(h, .inr (8, [.ref h_0, .int h_1])), (h_0, .inl (a_h_0, n_h_0, .inl f_h_0))] s.heap A s.heap [] := ⟨_, Wd⟩
  refine k_locals (Nat.le_of_ble_eq_true rfl) [(0, .ref h)] rfl (fun ls hl => ?_)
  refine lv_iconst (v := 0) C.1 C.2.1 dX8_expressions_0 (by decide) ?_
  refine lv_istore_n (lv' := [(1, .int 0), (0, .ref h)]) C.1 C.2.1 dX8_expressions_1 rfl hl (by decide) rfl (fun ls hl => ?_)
  refine lv_iconst (v := 0) C.1 C.2.1 dX8_expressions_2 (by decide) ?_
  refine lv_istore_n (lv' := [(2, .int 0), (1, .int 0), (0, .ref h)]) C.1 C.2.1 dX8_expressions_3 rfl hl (by decide) rfl (fun ls hl => ?_)
  refine k_loopA (fun (u : (Int32) × (Int32)) H locs ls => match u with | (j4_L_1, j4_L_2) => 0 ≤ j4_L_1.toInt ∧ 0 ≤ j4_L_2.toInt ∧ j4_L_1.toInt ≤ 1000 ∧ j4_L_2.toInt ≤ 1000 ∧ j4_L_1.toInt ≤ (n_h_0 : Int) ∧ j4_L_1.toInt ≤ h_1.toInt ∧ j4_L_1.toInt ≤ j4_L_2.toInt ∧ j4_L_2.toInt ≤ (n_h_0 : Int) ∧ j4_L_2.toInt ≤ h_1.toInt ∧ H = s.heap ∧ locs = [] ∧ wX D [(a_h_0, .int)] s [(h, .inr (8, [.ref h_0, .int h_1])), (h_0, .inl (a_h_0, n_h_0, .inl f_h_0))] H A s.heap locs ∧ lv_has ls 3 [(2, .int j4_L_2), (1, .int j4_L_1), (0, .ref h)]) (fun (u : (Int32) × (Int32)) ls => match u with | (j4_L_1, j4_L_2) => F0 m 4 ls []) (fun (u : (Int32) × (Int32)) => match u with | (j4_L_1, j4_L_2) => (1001 - j4_L_2.toInt).toNat) (fun u H locs ls hi ih4 => ?_) (0, 0) _ _ _ ⟨by have zq0 : (0 : Int32).toInt = 0 := (by decide); omega, by have zq0 : (0 : Int32).toInt = 0 := (by decide); omega, by have zq0 : (0 : Int32).toInt = 0 := (by decide); omega, by have zq0 : (0 : Int32).toInt = 0 := (by decide); omega, by have zq0 : (0 : Int32).toInt = 0 := (by decide); omega, by have zq0 : (0 : Int32).toInt = 0 := (by decide); omega, by have zq0 : (0 : Int32).toInt = 0 := (by decide); omega, by have zq0 : (0 : Int32).toInt = 0 := (by decide); omega, by have zq0 : (0 : Int32).toInt = 0 := (by decide); omega, rfl, rfl, Wd, lv_sub hl [0, 1, 2] rfl⟩
  obtain ⟨j4_L_1, j4_L_2⟩ := u
  obtain ⟨i4_0, i4_1, i4_2, i4_3, i4_4, i4_5, i4_6, i4_7, i4_8, rfl, rfl, Wd, hl⟩ := hi
  refine lv_iload_n C.1 C.2.1 dX8_expressions_4 rfl (lv_at hl 0 rfl) ?_
  refine lv_aload_n C.1 C.2.1 dX8_expressions_5 rfl (lv_at hl 2 rfl) ?_
  refine k_get C Wd KX8 0 1 rfl (by decide) fl_X8_21 rfl dX8_expressions_6 ?_
  refine lv_icmp_ge (tgt := 33) C.1 C.2.1 dX8_expressions_9 (by decide) (fun c9 => ?_) (fun c9 => ?_)
  · have i9 : h_1.toInt ≤ j4_L_2.toInt := kz_le c9
    refine lv_iload_n C.1 C.2.1 dX8_expressions_33 rfl (lv_at hl 1 rfl) ?_
    exact k_zretP C hr hlk rfl (by exact ⟨by omega, by omega, by omega, by omega⟩) dX8_expressions_34
  · have i9 : j4_L_2.toInt < h_1.toInt := kz_nle c9
    refine lv_aload_n C.1 C.2.1 dX8_expressions_12 rfl (lv_at hl 2 rfl) ?_
    refine k_get C Wd KX8 0 0 rfl (by decide) fl_X8_15 rfl dX8_expressions_13 ?_
    refine lv_iload_n C.1 C.2.1 dX8_expressions_16 rfl (lv_at hl 0 rfl) ?_
    obtain ⟨v17, ev17⟩ : ∃ z : Int32, f_h_0 j4_L_2.toNatClampNeg = z := ⟨_, rfl⟩
    refine k_iald (v := v17) C Wd 1 0 rfl rfl (vp_in_iff.mpr ⟨by omega, by omega⟩) ev17 dX8_expressions_17 ?_
    refine k_pi (k_runS (rest := []) C aks Wd cs_X8_39 (sX8_isExpression l D v17 _ ) [] rfl (by decide) [] rfl rfl rfl ⟨(Nat.le_of_ble_eq_true rfl), (Nat.le_of_ble_eq_true rfl)⟩ hl.1 rfl rfl (Nat.le_of_ble_eq_true rfl) ⟨(Nat.le_of_ble_eq_true rfl), (Nat.le_of_ble_eq_true rfl)⟩ dX8_expressions_18) (fun r18 w18 => ?_)
    obtain ⟨g18_0, g18_1⟩ := w18
    have g18_0 : 0 ≤ r18.toInt := g18_0
    have g18_1 : r18.toInt ≤ 1 := g18_1
    refine k_cutA (fun (j27_L_1 : Int32) H locs ls => 0 ≤ j27_L_1.toInt ∧ j27_L_1.toInt ≤ 1000 ∧ j27_L_1.toInt ≤ (n_h_0 : Int) ∧ j27_L_1.toInt ≤ h_1.toInt ∧ j4_L_1.toInt ≤ j27_L_1.toInt ∧ r18.toInt ≤ j27_L_1.toInt ∧ j27_L_1.toInt ≤ j4_L_1.toInt + 1 ∧ j27_L_1.toInt ≤ r18.toInt + 999 ∧ H = s.heap ∧ locs = [] ∧ wX D [(a_h_0, .int)] s [(h, .inr (8, [.ref h_0, .int h_1])), (h_0, .inl (a_h_0, n_h_0, .inl f_h_0))] H A s.heap locs ∧ lv_has ls 3 [(2, .int j4_L_2), (1, .int j27_L_1), (0, .ref h)]) (fun (j27_L_1 : Int32) ls => F0 m 27 ls []) (fun j27_L_1 H locs ls hi => ?_) (fun J27 => ?_)
    · obtain ⟨i27_0, i27_1, i27_2, i27_3, i27_4, i27_5, i27_6, i27_7, rfl, rfl, Wd, hl⟩ := hi
      obtain ⟨v27, ev27⟩ : ∃ z : Int32, j4_L_2 + 1 = z := ⟨_, rfl⟩
      have iv27 : v27.toInt = j4_L_2.toInt + 1 := kz_addc ev27 (by decide) (by have zr0 := kz_rng j4_L_2; omega) (by have zr0 := kz_rng j4_L_2; omega)
      refine lv_iinc (v := v27) (lv' := [(2, .int v27), (1, .int j27_L_1), (0, .ref h)]) C.1 C.2.1 dX8_expressions_27 hl (k := 0) rfl ev27 (by decide) rfl (fun ls hl => ?_)
      refine lv_goto (tgt := 4) C.1 C.2.1 dX8_expressions_30 (by decide) ?_
      exact ih4 (j27_L_1, v27) _ _ _ ⟨by omega, by omega, by omega, by omega, by omega, by omega, by omega, by omega, by omega, rfl, rfl, Wd, lv_sub hl [0, 1, 2] rfl⟩ (by show (1001 - v27.toInt).toNat < (1001 - j4_L_2.toInt).toNat; omega)
    refine lv_if_eq (tgt := 27) C.1 C.2.1 dX8_expressions_21 (by decide) (fun c21 => ?_) (fun c21 => ?_)
    · have i21 : r18.toInt = 0 := kz_eq c21
      exact J27 j4_L_1 _ _ _ ⟨by omega, by omega, by omega, by omega, by omega, by omega, by omega, by omega, rfl, rfl, Wd, lv_sub hl [0, 1, 2] rfl⟩
    · have i21 : ¬ r18.toInt = 0 := kz_ne c21
      obtain ⟨v24, ev24⟩ : ∃ z : Int32, j4_L_1 + 1 = z := ⟨_, rfl⟩
      have iv24 : v24.toInt = j4_L_1.toInt + 1 := kz_addc ev24 (by decide) (by have zr0 := kz_rng j4_L_1; omega) (by have zr0 := kz_rng j4_L_1; omega)
      refine lv_iinc (v := v24) (lv' := [(1, .int v24), (2, .int j4_L_2), (0, .ref h)]) C.1 C.2.1 dX8_expressions_24 hl (k := 1) rfl ev24 (by decide) rfl (fun ls hl => ?_)
      exact J27 v24 _ _ _ ⟨by omega, by omega, by omega, by omega, by omega, by omega, by omega, by omega, rfl, rfl, Wd, lv_sub hl [1, 0, 2] rfl⟩
set_option maxHeartbeats 4000000 in
set_option maxRecDepth 100000 in
theorem sX8_isTooLarge (l : Launch) (D : va_G) (h : Nat) (h_0 : Nat) (h_1 : Int32) (n_h_0 : Nat) (a_h_0 : ClassId) (f_h_0 : Nat → Int32) (sz : Nat) (k_h_1_lo : 0 ≤ h_1.toInt) (k_n_h_0 : n_h_0 ≤ 1000) (k_p_h_0 : 1 ≤ n_h_0) (k_h_1_hi : h_1.toInt ≤ (n_h_0 : Int))  : Met l yX8_isTooLarge (Cond.code yX8_isTooLarge cX8_isTooLarge 1 (some .boolean) :: gG) { frames := 3, cells := 0, slots := 0, locals := 106 } (cPre D [(a_h_0, .int)] [(h, .inr (8, [.ref h_0, .int h_1])), (h_0, .inl (a_h_0, n_h_0, .inl f_h_0))] sz [.ref h]) (vp_Si (fun r => 0 ≤ r.toInt ∧ r.toInt ≤ 1 ∧ r.toInt ≤ h_1.toInt ∧ r.toInt + 1 ≤ (n_h_0 : Int))) 0 0 (fun _ => False) := by
  refine Met.ofW (cc := cX8_isTooLarge) (maxL := 1) (ret := (some .boolean)) (by decide) rfl ?_
  intro p e s m args below meth c s₁ B hml hv
  obtain ⟨rfl, aks, rfl, Wd⟩ := k_enter hv
  have C : CallFix p m c cX8_isTooLarge 1 s _ gG RX8 := ⟨B.exec, B.bytes, hml, findClass_of_methodNamed B.named, fun w h => atoms_spec (ws := Cond.code yX8_isTooLarge cX8_isTooLarge 1 (some .boolean) :: gG) B.pre w (List.mem_cons_of_mem _ h)⟩
  have hr := B.returns
  have hlk := B.notSynchronized
  obtain ⟨A, Wd⟩ : ∃ A, wX D [(a_h_0, .int)] s [(h, .inr (8, [.ref h_0, .int h_1])), (h_0, .inl (a_h_0, n_h_0, .inl f_h_0))] s.heap A s.heap [] := ⟨_, Wd⟩
  refine k_locals (Nat.le_of_ble_eq_true rfl) [(0, .ref h)] rfl (fun ls hl => ?_)
  refine lv_aload_n C.1 C.2.1 dX8_isTooLarge_0 rfl (lv_at hl 0 rfl) ?_
  refine k_pi (k_runV (rest := []) C aks Wd cs_X8_42 (sX8_statements l D h h_0 h_1 n_h_0 a_h_0 f_h_0 _ (by omega) (by omega) (by omega) (by omega)) [0, 1] rfl (by decide) [0] rfl 0 8 rfl rfl rfl rfl rfl ⟨(Nat.le_of_ble_eq_true rfl), (Nat.le_of_ble_eq_true rfl)⟩ hl.1 rfl rfl (Nat.le_of_ble_eq_true rfl) ⟨(Nat.le_of_ble_eq_true rfl), (Nat.le_of_ble_eq_true rfl)⟩ dX8_isTooLarge_1) (fun r1 w1 => ?_)
  obtain ⟨g1_0, g1_1, g1_2, g1_3⟩ := w1
  have g1_0 : 0 ≤ r1.toInt := g1_0
  have g1_1 : r1.toInt ≤ 1000 := g1_1
  have g1_2 : r1.toInt ≤ (n_h_0 : Int) := g1_2
  have g1_3 : r1.toInt ≤ h_1.toInt := g1_3
  refine lv_bipush (v := 40) C.1 C.2.1 dX8_isTooLarge_4 (by decide) ?_
  refine k_cutA (fun (j24_S_0 : Int32) H locs ls => 0 ≤ j24_S_0.toInt ∧ j24_S_0.toInt ≤ 1 ∧ j24_S_0.toInt ≤ h_1.toInt ∧ j24_S_0.toInt + 1 ≤ (n_h_0 : Int) ∧ r1.toInt ≤ j24_S_0.toInt + 999 ∧ H = s.heap ∧ locs = [] ∧ wX D [(a_h_0, .int)] s [(h, .inr (8, [.ref h_0, .int h_1])), (h_0, .inl (a_h_0, n_h_0, .inl f_h_0))] H A s.heap locs ∧ lv_has ls 1 [(0, .ref h)]) (fun (j24_S_0 : Int32) ls => F0 m 24 ls [.int j24_S_0]) (fun j24_S_0 H locs ls hi => ?_) (fun J24 => ?_)
  · obtain ⟨i24_0, i24_1, i24_2, i24_3, i24_4, rfl, rfl, Wd, hl⟩ := hi
    exact k_zretP C hr hlk (k_nb (by omega) (by omega)) (by exact ⟨by omega, by omega, by omega, by omega⟩) dX8_isTooLarge_24
  refine k_cutA (fun (_ : Unit) H locs ls => 41 ≤ (n_h_0 : Int) ∧ 41 ≤ h_1.toInt ∧ H = s.heap ∧ locs = [] ∧ wX D [(a_h_0, .int)] s [(h, .inr (8, [.ref h_0, .int h_1])), (h_0, .inl (a_h_0, n_h_0, .inl f_h_0))] H A s.heap locs ∧ lv_has ls 1 [(0, .ref h)]) (fun (_ : Unit) ls => F0 m 19 ls []) (fun _ H locs ls hi => ?_) (fun J19 => ?_)
  · obtain ⟨i19_0, i19_1, rfl, rfl, Wd, hl⟩ := hi
    refine lv_iconst (v := 1) C.1 C.2.1 dX8_isTooLarge_19 (by decide) ?_
    refine lv_goto (tgt := 24) C.1 C.2.1 dX8_isTooLarge_20 (by decide) ?_
    exact J24 1 _ _ _ ⟨by have zq1 : (1 : Int32).toInt = 1 := (by decide); omega, by have zq1 : (1 : Int32).toInt = 1 := (by decide); omega, by have zq1 : (1 : Int32).toInt = 1 := (by decide); omega, by have zq1 : (1 : Int32).toInt = 1 := (by decide); omega, by have zq1 : (1 : Int32).toInt = 1 := (by decide); omega, rfl, rfl, Wd, lv_sub hl [0] rfl⟩
  refine lv_icmp_gt (tgt := 19) C.1 C.2.1 dX8_isTooLarge_6 (by decide) (fun c6 => ?_) (fun c6 => ?_)
  · have i6 : 40 < r1.toInt := kz_lt c6
    exact J19 () _ _ _ ⟨by omega, by omega, rfl, rfl, Wd, lv_sub hl [0] rfl⟩
  · have i6 : r1.toInt ≤ 40 := kz_nlt c6
    refine lv_aload_n C.1 C.2.1 dX8_isTooLarge_9 rfl (lv_at hl 0 rfl) ?_
    refine k_pi (k_runV (rest := []) C aks Wd cs_X8_46 (sX8_expressions l D h h_0 h_1 n_h_0 a_h_0 f_h_0 _ (by omega) (by omega) (by omega) (by omega)) [0, 1] rfl (by decide) [0] rfl 0 8 rfl rfl rfl rfl rfl ⟨(Nat.le_of_ble_eq_true rfl), (Nat.le_of_ble_eq_true rfl)⟩ hl.1 rfl rfl (Nat.le_of_ble_eq_true rfl) ⟨(Nat.le_of_ble_eq_true rfl), (Nat.le_of_ble_eq_true rfl)⟩ dX8_isTooLarge_10) (fun r10 w10 => ?_)
    obtain ⟨g10_0, g10_1, g10_2, g10_3⟩ := w10
    have g10_0 : 0 ≤ r10.toInt := g10_0
    have g10_1 : r10.toInt ≤ 1000 := g10_1
    have g10_2 : r10.toInt ≤ (n_h_0 : Int) := g10_2
    have g10_3 : r10.toInt ≤ h_1.toInt := g10_3
    refine lv_sipush (v := 300) C.1 C.2.1 dX8_isTooLarge_13 (by decide) ?_
    refine lv_icmp_le (tgt := 23) C.1 C.2.1 dX8_isTooLarge_16 (by decide) (fun c16 => ?_) (fun c16 => ?_)
    · have i16 : r10.toInt ≤ 300 := kz_le c16
      refine lv_iconst (v := 0) C.1 C.2.1 dX8_isTooLarge_23 (by decide) ?_
      exact J24 0 _ _ _ ⟨by have zq0 : (0 : Int32).toInt = 0 := (by decide); omega, by have zq0 : (0 : Int32).toInt = 0 := (by decide); omega, by have zq0 : (0 : Int32).toInt = 0 := (by decide); omega, by have zq0 : (0 : Int32).toInt = 0 := (by decide); omega, by have zq0 : (0 : Int32).toInt = 0 := (by decide); omega, rfl, rfl, Wd, lv_sub hl [0] rfl⟩
    · have i16 : 300 < r10.toInt := kz_nle c16
      exact J19 () _ _ _ ⟨by omega, by omega, rfl, rfl, Wd, lv_sub hl [0] rfl⟩
set_option maxHeartbeats 4000000 in
set_option maxRecDepth 100000 in
theorem sX8_isLike (l : Launch) (D : va_G) (h : Nat) (h0 : Nat) (h_0 : Nat) (h_1 : Int32) (n_h_0 : Nat) (a_h_0 : ClassId) (f_h_0 : Nat → Int32) (h0_0 : Nat) (h0_1 : Int32) (n_h0_0 : Nat) (a_h0_0 : ClassId) (f_h0_0 : Nat → Int32) (sz : Nat) (k_h_1_lo : 0 ≤ h_1.toInt) (k_n_h_0 : n_h_0 ≤ 1000) (k_p_h_0 : 1 ≤ n_h_0) (k_h_1_hi : h_1.toInt ≤ (n_h_0 : Int)) (k_h0_1_lo : 0 ≤ h0_1.toInt) (k_n_h0_0 : n_h0_0 ≤ 1000) (k_p_h0_0 : 1 ≤ n_h0_0) (k_h0_1_hi : h0_1.toInt ≤ (n_h0_0 : Int))  : Met l yX8_isLike (Cond.code yX8_isLike cX8_isLike 3 (some .boolean) :: gG) { frames := 1, cells := 0, slots := 0, locals := 64 } (cPre D [(a_h_0, .int), (a_h0_0, .int)] [(h, .inr (8, [.ref h_0, .int h_1])), (h_0, .inl (a_h_0, n_h_0, .inl f_h_0)), (h0, .inr (8, [.ref h0_0, .int h0_1])), (h0_0, .inl (a_h0_0, n_h0_0, .inl f_h0_0))] sz [.ref h, .ref h0]) (vp_Si (fun r => 0 ≤ r.toInt ∧ r.toInt ≤ 1)) 0 0 (fun _ => False) := by
  refine Met.ofW (cc := cX8_isLike) (maxL := 3) (ret := (some .boolean)) (by decide) rfl ?_
  intro p e s m args below meth c s₁ B hml hv
  obtain ⟨rfl, aks, rfl, Wd⟩ := k_enter hv
  have C : CallFix p m c cX8_isLike 3 s _ gG RX8 := ⟨B.exec, B.bytes, hml, findClass_of_methodNamed B.named, fun w h => atoms_spec (ws := Cond.code yX8_isLike cX8_isLike 3 (some .boolean) :: gG) B.pre w (List.mem_cons_of_mem _ h)⟩
  have hr := B.returns
  have hlk := B.notSynchronized
  obtain ⟨A, Wd⟩ : ∃ A, wX D [(a_h_0, .int), (a_h0_0, .int)] s [(h, .inr (8, [.ref h_0, .int h_1])), (h_0, .inl (a_h_0, n_h_0, .inl f_h_0)), (h0, .inr (8, [.ref h0_0, .int h0_1])), (h0_0, .inl (a_h0_0, n_h0_0, .inl f_h0_0))] s.heap A s.heap [] := ⟨_, Wd⟩
  refine k_locals (Nat.le_of_ble_eq_true rfl) [(0, .ref h), (1, .ref h0)] rfl (fun ls hl => ?_)
  refine lv_aload_n C.1 C.2.1 dX8_isLike_0 rfl (lv_at hl 0 rfl) ?_
  refine k_get C Wd KX8 0 1 rfl (by decide) fl_X8_21 rfl dX8_isLike_1 ?_
  refine lv_aload_n C.1 C.2.1 dX8_isLike_4 rfl (lv_at hl 1 rfl) ?_
  refine k_get C Wd KX8 2 1 rfl (by decide) fl_X8_21 rfl dX8_isLike_5 ?_
  refine lv_icmp_eq (tgt := 13) C.1 C.2.1 dX8_isLike_8 (by decide) (fun c8 => ?_) (fun c8 => ?_)
  · have i8 : h_1.toInt = h0_1.toInt := kz_eq c8
    refine lv_iconst (v := 0) C.1 C.2.1 dX8_isLike_13 (by decide) ?_
    refine lv_istore_n (lv' := [(2, .int 0), (0, .ref h), (1, .ref h0)]) C.1 C.2.1 dX8_isLike_14 rfl hl (by decide) rfl (fun ls hl => ?_)
    refine k_loopA (fun (j15_L_2 : Int32) H locs ls => 0 ≤ j15_L_2.toInt ∧ j15_L_2.toInt ≤ 1000 ∧ j15_L_2.toInt ≤ (n_h0_0 : Int) ∧ j15_L_2.toInt ≤ (n_h_0 : Int) ∧ j15_L_2.toInt ≤ h0_1.toInt ∧ H = s.heap ∧ locs = [] ∧ wX D [(a_h_0, .int), (a_h0_0, .int)] s [(h, .inr (8, [.ref h_0, .int h_1])), (h_0, .inl (a_h_0, n_h_0, .inl f_h_0)), (h0, .inr (8, [.ref h0_0, .int h0_1])), (h0_0, .inl (a_h0_0, n_h0_0, .inl f_h0_0))] H A s.heap locs ∧ lv_has ls 3 [(2, .int j15_L_2), (0, .ref h), (1, .ref h0)]) (fun (j15_L_2 : Int32) ls => F0 m 15 ls []) (fun (j15_L_2 : Int32) => (1001 - j15_L_2.toInt).toNat) (fun j15_L_2 H locs ls hi ih15 => ?_) 0 _ _ _ ⟨by have zq0 : (0 : Int32).toInt = 0 := (by decide); omega, by have zq0 : (0 : Int32).toInt = 0 := (by decide); omega, by have zq0 : (0 : Int32).toInt = 0 := (by decide); omega, by have zq0 : (0 : Int32).toInt = 0 := (by decide); omega, by have zq0 : (0 : Int32).toInt = 0 := (by decide); omega, rfl, rfl, Wd, lv_sub hl [0, 1, 2] rfl⟩
    obtain ⟨i15_0, i15_1, i15_2, i15_3, i15_4, rfl, rfl, Wd, hl⟩ := hi
    refine lv_iload_n C.1 C.2.1 dX8_isLike_15 rfl (lv_at hl 0 rfl) ?_
    refine lv_aload_n C.1 C.2.1 dX8_isLike_16 rfl (lv_at hl 1 rfl) ?_
    refine k_get C Wd KX8 0 1 rfl (by decide) fl_X8_21 rfl dX8_isLike_17 ?_
    refine lv_icmp_ge (tgt := 46) C.1 C.2.1 dX8_isLike_20 (by decide) (fun c20 => ?_) (fun c20 => ?_)
    · have i20 : h_1.toInt ≤ j15_L_2.toInt := kz_le c20
      refine lv_iconst (v := 1) C.1 C.2.1 dX8_isLike_46 (by decide) ?_
      exact k_zretP C hr hlk rfl (by exact ⟨by have zq1 : (1 : Int32).toInt = 1 := (by decide); omega, by have zq1 : (1 : Int32).toInt = 1 := (by decide); omega⟩) dX8_isLike_47
    · have i20 : j15_L_2.toInt < h_1.toInt := kz_nle c20
      refine lv_aload_n C.1 C.2.1 dX8_isLike_23 rfl (lv_at hl 1 rfl) ?_
      refine k_get C Wd KX8 0 0 rfl (by decide) fl_X8_15 rfl dX8_isLike_24 ?_
      refine lv_iload_n C.1 C.2.1 dX8_isLike_27 rfl (lv_at hl 0 rfl) ?_
      obtain ⟨v28, ev28⟩ : ∃ z : Int32, f_h_0 j15_L_2.toNatClampNeg = z := ⟨_, rfl⟩
      refine k_iald (v := v28) C Wd 1 0 rfl rfl (vp_in_iff.mpr ⟨by omega, by omega⟩) ev28 dX8_isLike_28 ?_
      refine lv_aload_n C.1 C.2.1 dX8_isLike_29 rfl (lv_at hl 2 rfl) ?_
      refine k_get C Wd KX8 2 0 rfl (by decide) fl_X8_15 rfl dX8_isLike_30 ?_
      refine lv_iload_n C.1 C.2.1 dX8_isLike_33 rfl (lv_at hl 0 rfl) ?_
      obtain ⟨v34, ev34⟩ : ∃ z : Int32, f_h0_0 j15_L_2.toNatClampNeg = z := ⟨_, rfl⟩
      refine k_iald (v := v34) C Wd 3 1 rfl rfl (vp_in_iff.mpr ⟨by omega, by omega⟩) ev34 dX8_isLike_34 ?_
      refine lv_icmp_eq (tgt := 40) C.1 C.2.1 dX8_isLike_35 (by decide) (fun c35 => ?_) (fun c35 => ?_)
      · have i35 : v28.toInt = v34.toInt := kz_eq c35
        obtain ⟨v40, ev40⟩ : ∃ z : Int32, j15_L_2 + 1 = z := ⟨_, rfl⟩
        have iv40 : v40.toInt = j15_L_2.toInt + 1 := kz_addc ev40 (by decide) (by have zr0 := kz_rng j15_L_2; omega) (by have zr0 := kz_rng j15_L_2; omega)
        refine lv_iinc (v := v40) (lv' := [(2, .int v40), (0, .ref h), (1, .ref h0)]) C.1 C.2.1 dX8_isLike_40 hl (k := 0) rfl ev40 (by decide) rfl (fun ls hl => ?_)
        refine lv_goto (tgt := 15) C.1 C.2.1 dX8_isLike_43 (by decide) ?_
        exact ih15 v40 _ _ _ ⟨by omega, by omega, by omega, by omega, by omega, rfl, rfl, Wd, lv_sub hl [0, 1, 2] rfl⟩ (by show (1001 - v40.toInt).toNat < (1001 - j15_L_2.toInt).toNat; omega)
      · have i35 : ¬ v28.toInt = v34.toInt := kz_ne c35
        refine lv_iconst (v := 0) C.1 C.2.1 dX8_isLike_38 (by decide) ?_
        exact k_zretP C hr hlk rfl (by exact ⟨by have zq0 : (0 : Int32).toInt = 0 := (by decide); omega, by have zq0 : (0 : Int32).toInt = 0 := (by decide); omega⟩) dX8_isLike_39
  · have i8 : ¬ h_1.toInt = h0_1.toInt := kz_ne c8
    refine lv_iconst (v := 0) C.1 C.2.1 dX8_isLike_11 (by decide) ?_
    exact k_zretP C hr hlk rfl (by exact ⟨by have zq0 : (0 : Int32).toInt = 0 := (by decide); omega, by have zq0 : (0 : Int32).toInt = 0 := (by decide); omega⟩) dX8_isLike_12
set_option maxHeartbeats 4000000 in
set_option maxRecDepth 100000 in
theorem sX8_repeats (l : Launch) (D : va_G) (h : Nat) (x0 : Int32) (x1 : Int32) (x2 : Int32) (h_0 : Nat) (h_1 : Int32) (n_h_0 : Nat) (a_h_0 : ClassId) (f_h_0 : Nat → Int32) (sz : Nat) (k_h_1_lo : 0 ≤ h_1.toInt) (k_n_h_0 : n_h_0 ≤ 1000) (k_p_h_0 : 1 ≤ n_h_0) (k_h_1_hi : h_1.toInt ≤ (n_h_0 : Int))  : Met l yX8_repeats (Cond.code yX8_repeats cX8_repeats 5 (some .boolean) :: gG) { frames := 1, cells := 0, slots := 0, locals := 64 } (cPre D [(a_h_0, .int)] [(h, .inr (8, [.ref h_0, .int h_1])), (h_0, .inl (a_h_0, n_h_0, .inl f_h_0))] sz [.ref h, .int x0, .int x1, .int x2]) (vp_Si (fun r => 0 ≤ r.toInt ∧ r.toInt ≤ 1)) 0 0 (fun _ => False) := by
  refine Met.ofW (cc := cX8_repeats) (maxL := 5) (ret := (some .boolean)) (by decide) rfl ?_
  intro p e s m args below meth c s₁ B hml hv
  obtain ⟨rfl, aks, rfl, Wd⟩ := k_enter hv
  have C : CallFix p m c cX8_repeats 5 s _ gG RX8 := ⟨B.exec, B.bytes, hml, findClass_of_methodNamed B.named, fun w h => atoms_spec (ws := Cond.code yX8_repeats cX8_repeats 5 (some .boolean) :: gG) B.pre w (List.mem_cons_of_mem _ h)⟩
  have hr := B.returns
  have hlk := B.notSynchronized
  obtain ⟨A, Wd⟩ : ∃ A, wX D [(a_h_0, .int)] s [(h, .inr (8, [.ref h_0, .int h_1])), (h_0, .inl (a_h_0, n_h_0, .inl f_h_0))] s.heap A s.heap [] := ⟨_, Wd⟩
  refine k_locals (Nat.le_of_ble_eq_true rfl) [(0, .ref h), (1, .int x0), (2, .int x1), (3, .int x2)] rfl (fun ls hl => ?_)
  refine lv_iload_n C.1 C.2.1 dX8_repeats_0 rfl (lv_at hl 1 rfl) ?_
  refine k_cutA (fun (_ : Unit) H locs ls => H = s.heap ∧ locs = [] ∧ wX D [(a_h_0, .int)] s [(h, .inr (8, [.ref h_0, .int h_1])), (h_0, .inl (a_h_0, n_h_0, .inl f_h_0))] H A s.heap locs ∧ lv_has ls 5 [(0, .ref h), (1, .int x0), (2, .int x1), (3, .int x2)]) (fun (_ : Unit) ls => F0 m 28 ls []) (fun _ H locs ls hi => ?_) (fun J28 => ?_)
  · obtain ⟨rfl, rfl, Wd, hl⟩ := hi
    refine lv_iconst (v := 0) C.1 C.2.1 dX8_repeats_28 (by decide) ?_
    exact k_zretP C hr hlk rfl (by exact ⟨by have zq0 : (0 : Int32).toInt = 0 := (by decide); omega, by have zq0 : (0 : Int32).toInt = 0 := (by decide); omega⟩) dX8_repeats_29
  refine lv_if_lt (tgt := 28) C.1 C.2.1 dX8_repeats_1 (by decide) (fun c1 => ?_) (fun c1 => ?_)
  · have i1 : x0.toInt < 0 := kz_lt c1
    exact J28 () _ _ _ ⟨rfl, rfl, Wd, lv_sub hl [0, 1, 2, 3] rfl⟩
  · have i1 : 0 ≤ x0.toInt := kz_nlt c1
    refine lv_iload_n C.1 C.2.1 dX8_repeats_4 rfl (lv_at hl 2 rfl) ?_
    refine lv_if_lt (tgt := 28) C.1 C.2.1 dX8_repeats_5 (by decide) (fun c5 => ?_) (fun c5 => ?_)
    · have i5 : x1.toInt < 0 := kz_lt c5
      exact J28 () _ _ _ ⟨rfl, rfl, Wd, lv_sub hl [0, 1, 2, 3] rfl⟩
    · have i5 : 0 ≤ x1.toInt := kz_nlt c5
      refine lv_iload_n C.1 C.2.1 dX8_repeats_8 rfl (lv_at hl 3 rfl) ?_
      refine lv_aload_n C.1 C.2.1 dX8_repeats_9 rfl (lv_at hl 0 rfl) ?_
      refine k_get C Wd KX8 0 1 rfl (by decide) fl_X8_21 rfl dX8_repeats_10 ?_
      refine lv_iload_n C.1 C.2.1 dX8_repeats_13 rfl (lv_at hl 1 rfl) ?_
      obtain ⟨v14, ev14⟩ : ∃ z : Int32, h_1 - x0 = z := ⟨_, rfl⟩
      have iv14 : v14.toInt = h_1.toInt - x0.toInt := kz_subv ev14 (by have zr0 := kz_rng h_1; have zr1 := kz_rng x0; omega) (by have zr0 := kz_rng h_1; have zr1 := kz_rng x0; omega)
      refine k_isub (v := v14) C ev14 dX8_repeats_14 ?_
      refine lv_icmp_gt (tgt := 28) C.1 C.2.1 dX8_repeats_15 (by decide) (fun c15 => ?_) (fun c15 => ?_)
      · have i15 : v14.toInt < x2.toInt := kz_lt c15
        exact J28 () _ _ _ ⟨rfl, rfl, Wd, lv_sub hl [0, 1, 2, 3] rfl⟩
      · have i15 : x2.toInt ≤ v14.toInt := kz_nlt c15
        refine lv_iload_n C.1 C.2.1 dX8_repeats_18 rfl (lv_at hl 3 rfl) ?_
        refine lv_aload_n C.1 C.2.1 dX8_repeats_19 rfl (lv_at hl 0 rfl) ?_
        refine k_get C Wd KX8 0 1 rfl (by decide) fl_X8_21 rfl dX8_repeats_20 ?_
        refine lv_iload_n C.1 C.2.1 dX8_repeats_23 rfl (lv_at hl 2 rfl) ?_
        obtain ⟨v24, ev24⟩ : ∃ z : Int32, h_1 - x1 = z := ⟨_, rfl⟩
        have iv24 : v24.toInt = h_1.toInt - x1.toInt := kz_subv ev24 (by have zr0 := kz_rng h_1; have zr1 := kz_rng x1; omega) (by have zr0 := kz_rng h_1; have zr1 := kz_rng x1; omega)
        refine k_isub (v := v24) C ev24 dX8_repeats_24 ?_
        refine lv_icmp_le (tgt := 30) C.1 C.2.1 dX8_repeats_25 (by decide) (fun c25 => ?_) (fun c25 => ?_)
        · have i25 : x2.toInt ≤ v24.toInt := kz_le c25
          refine lv_iconst (v := 0) C.1 C.2.1 dX8_repeats_30 (by decide) ?_
          refine lv_istore (lv' := [(4, .int 0), (0, .ref h), (1, .int x0), (2, .int x1), (3, .int x2)]) C.1 C.2.1 dX8_repeats_31 hl (by decide) rfl (fun ls hl => ?_)
          refine k_loopA (fun (j33_L_4 : Int32) H locs ls => 0 ≤ j33_L_4.toInt ∧ j33_L_4.toInt ≤ 1000 ∧ j33_L_4.toInt ≤ (n_h_0 : Int) ∧ j33_L_4.toInt ≤ h_1.toInt ∧ H = s.heap ∧ locs = [] ∧ wX D [(a_h_0, .int)] s [(h, .inr (8, [.ref h_0, .int h_1])), (h_0, .inl (a_h_0, n_h_0, .inl f_h_0))] H A s.heap locs ∧ lv_has ls 5 [(4, .int j33_L_4), (0, .ref h), (1, .int x0), (2, .int x1), (3, .int x2)]) (fun (j33_L_4 : Int32) ls => F0 m 33 ls []) (fun (j33_L_4 : Int32) => (1001 - j33_L_4.toInt).toNat) (fun j33_L_4 H locs ls hi ih33 => ?_) 0 _ _ _ ⟨by have zq0 : (0 : Int32).toInt = 0 := (by decide); omega, by have zq0 : (0 : Int32).toInt = 0 := (by decide); omega, by have zq0 : (0 : Int32).toInt = 0 := (by decide); omega, by have zq0 : (0 : Int32).toInt = 0 := (by decide); omega, rfl, rfl, Wd, lv_sub hl [0, 1, 2, 3, 4] rfl⟩
          obtain ⟨i33_0, i33_1, i33_2, i33_3, rfl, rfl, Wd, hl⟩ := hi
          refine lv_iload C.1 C.2.1 dX8_repeats_33 (lv_at hl 0 rfl) ?_
          refine lv_iload_n C.1 C.2.1 dX8_repeats_35 rfl (lv_at hl 4 rfl) ?_
          refine lv_icmp_ge (tgt := 68) C.1 C.2.1 dX8_repeats_36 (by decide) (fun c36 => ?_) (fun c36 => ?_)
          · have i36 : x2.toInt ≤ j33_L_4.toInt := kz_le c36
            refine lv_iconst (v := 1) C.1 C.2.1 dX8_repeats_68 (by decide) ?_
            exact k_zretP C hr hlk rfl (by exact ⟨by have zq1 : (1 : Int32).toInt = 1 := (by decide); omega, by have zq1 : (1 : Int32).toInt = 1 := (by decide); omega⟩) dX8_repeats_69
          · have i36 : j33_L_4.toInt < x2.toInt := kz_nle c36
            refine lv_aload_n C.1 C.2.1 dX8_repeats_39 rfl (lv_at hl 1 rfl) ?_
            refine k_get C Wd KX8 0 0 rfl (by decide) fl_X8_15 rfl dX8_repeats_40 ?_
            refine lv_iload_n C.1 C.2.1 dX8_repeats_43 rfl (lv_at hl 2 rfl) ?_
            refine lv_iload C.1 C.2.1 dX8_repeats_44 (lv_at hl 0 rfl) ?_
            obtain ⟨v46, ev46⟩ : ∃ z : Int32, x0 + j33_L_4 = z := ⟨_, rfl⟩
            have iv46 : v46.toInt = x0.toInt + j33_L_4.toInt := kz_addv ev46 (by have zr0 := kz_rng x0; have zr1 := kz_rng j33_L_4; omega) (by have zr0 := kz_rng x0; have zr1 := kz_rng j33_L_4; omega)
            refine k_iadd (v := v46) C ev46 dX8_repeats_46 ?_
            obtain ⟨v47, ev47⟩ : ∃ z : Int32, f_h_0 v46.toNatClampNeg = z := ⟨_, rfl⟩
            refine k_iald (v := v47) C Wd 1 0 rfl rfl (vp_in_iff.mpr ⟨by omega, by omega⟩) ev47 dX8_repeats_47 ?_
            refine lv_aload_n C.1 C.2.1 dX8_repeats_48 rfl (lv_at hl 1 rfl) ?_
            refine k_get C Wd KX8 0 0 rfl (by decide) fl_X8_15 rfl dX8_repeats_49 ?_
            refine lv_iload_n C.1 C.2.1 dX8_repeats_52 rfl (lv_at hl 3 rfl) ?_
            refine lv_iload C.1 C.2.1 dX8_repeats_53 (lv_at hl 0 rfl) ?_
            obtain ⟨v55, ev55⟩ : ∃ z : Int32, x1 + j33_L_4 = z := ⟨_, rfl⟩
            have iv55 : v55.toInt = x1.toInt + j33_L_4.toInt := kz_addv ev55 (by have zr0 := kz_rng x1; have zr1 := kz_rng j33_L_4; omega) (by have zr0 := kz_rng x1; have zr1 := kz_rng j33_L_4; omega)
            refine k_iadd (v := v55) C ev55 dX8_repeats_55 ?_
            obtain ⟨v56, ev56⟩ : ∃ z : Int32, f_h_0 v55.toNatClampNeg = z := ⟨_, rfl⟩
            refine k_iald (v := v56) C Wd 1 0 rfl rfl (vp_in_iff.mpr ⟨by omega, by omega⟩) ev56 dX8_repeats_56 ?_
            refine lv_icmp_eq (tgt := 62) C.1 C.2.1 dX8_repeats_57 (by decide) (fun c57 => ?_) (fun c57 => ?_)
            · have i57 : v47.toInt = v56.toInt := kz_eq c57
              obtain ⟨v62, ev62⟩ : ∃ z : Int32, j33_L_4 + 1 = z := ⟨_, rfl⟩
              have iv62 : v62.toInt = j33_L_4.toInt + 1 := kz_addc ev62 (by decide) (by have zr0 := kz_rng j33_L_4; omega) (by have zr0 := kz_rng j33_L_4; omega)
              refine lv_iinc (v := v62) (lv' := [(4, .int v62), (0, .ref h), (1, .int x0), (2, .int x1), (3, .int x2)]) C.1 C.2.1 dX8_repeats_62 hl (k := 0) rfl ev62 (by decide) rfl (fun ls hl => ?_)
              refine lv_goto (tgt := 33) C.1 C.2.1 dX8_repeats_65 (by decide) ?_
              exact ih33 v62 _ _ _ ⟨by omega, by omega, by omega, by omega, rfl, rfl, Wd, lv_sub hl [0, 1, 2, 3, 4] rfl⟩ (by show (1001 - v62.toInt).toNat < (1001 - j33_L_4.toInt).toNat; omega)
            · have i57 : ¬ v47.toInt = v56.toInt := kz_ne c57
              refine lv_iconst (v := 0) C.1 C.2.1 dX8_repeats_60 (by decide) ?_
              exact k_zretP C hr hlk rfl (by exact ⟨by have zq0 : (0 : Int32).toInt = 0 := (by decide); omega, by have zq0 : (0 : Int32).toInt = 0 := (by decide); omega⟩) dX8_repeats_61
        · have i25 : v24.toInt < x2.toInt := kz_nle c25
          exact J28 () _ _ _ ⟨rfl, rfl, Wd, lv_sub hl [0, 1, 2, 3] rfl⟩
set_option maxHeartbeats 4000000 in
set_option maxRecDepth 100000 in
theorem sX8_has (l : Launch) (D : va_G) (h : Nat) (x0 : Int32) (x1 : Int32) (x2 : Int32) (h_0 : Nat) (h_1 : Int32) (n_h_0 : Nat) (a_h_0 : ClassId) (f_h_0 : Nat → Int32) (sz : Nat) (k_h_1_lo : 0 ≤ h_1.toInt) (k_n_h_0 : n_h_0 ≤ 1000) (k_p_h_0 : 1 ≤ n_h_0) (k_h_1_hi : h_1.toInt ≤ (n_h_0 : Int))  : Met l yX8_has (Cond.code yX8_has cX8_has 5 (some .boolean) :: gG) { frames := 1, cells := 0, slots := 0, locals := 64 } (cPre D [(a_h_0, .int)] [(h, .inr (8, [.ref h_0, .int h_1])), (h_0, .inl (a_h_0, n_h_0, .inl f_h_0))] sz [.ref h, .int x0, .int x1, .int x2]) (vp_Si (fun r => 0 ≤ r.toInt ∧ r.toInt ≤ 1 ∧ r.toInt ≤ h_1.toInt)) 0 0 (fun _ => False) := by
  refine Met.ofW (cc := cX8_has) (maxL := 5) (ret := (some .boolean)) (by decide) rfl ?_
  intro p e s m args below meth c s₁ B hml hv
  obtain ⟨rfl, aks, rfl, Wd⟩ := k_enter hv
  have C : CallFix p m c cX8_has 5 s _ gG RX8 := ⟨B.exec, B.bytes, hml, findClass_of_methodNamed B.named, fun w h => atoms_spec (ws := Cond.code yX8_has cX8_has 5 (some .boolean) :: gG) B.pre w (List.mem_cons_of_mem _ h)⟩
  have hr := B.returns
  have hlk := B.notSynchronized
  obtain ⟨A, Wd⟩ : ∃ A, wX D [(a_h_0, .int)] s [(h, .inr (8, [.ref h_0, .int h_1])), (h_0, .inl (a_h_0, n_h_0, .inl f_h_0))] s.heap A s.heap [] := ⟨_, Wd⟩
  refine k_locals (Nat.le_of_ble_eq_true rfl) [(0, .ref h), (1, .int x0), (2, .int x1), (3, .int x2)] rfl (fun ls hl => ?_)
  refine lv_iload_n C.1 C.2.1 dX8_has_0 rfl (lv_at hl 2 rfl) ?_
  refine lv_iconst (v := 0) C.1 C.2.1 dX8_has_1 (by decide) ?_
  obtain ⟨v2, ev2⟩ : ∃ z : Int32, (if x1 < 0 then 0 else x1) = z := ⟨_, rfl⟩
  have iv2 : x1.toInt ≤ v2.toInt ∧ 0 ≤ v2.toInt ∧ (v2.toInt = x1.toInt ∨ v2.toInt = 0) := kz_max ev2
  refine k_mmax (v := v2) C hl.1 ml_X8_9 st_Lib_Math_max_name in_J9 cd_max (Nat.le_of_ble_eq_true rfl) (Nat.le_of_ble_eq_true rfl) (Nat.le_of_ble_eq_true rfl) (Nat.le_of_ble_eq_true rfl) ev2 dX8_has_2 ?_
  refine lv_istore (lv' := [(4, .int v2), (0, .ref h), (1, .int x0), (2, .int x1), (3, .int x2)]) C.1 C.2.1 dX8_has_5 hl (by decide) rfl (fun ls hl => ?_)
  refine k_loopA (fun (j7_L_4 : Int32) H locs ls => 0 ≤ j7_L_4.toInt ∧ v2.toInt ≤ j7_L_4.toInt ∧ j7_L_4.toInt ≤ v2.toInt + 1000 ∧ H = s.heap ∧ locs = [] ∧ wX D [(a_h_0, .int)] s [(h, .inr (8, [.ref h_0, .int h_1])), (h_0, .inl (a_h_0, n_h_0, .inl f_h_0))] H A s.heap locs ∧ lv_has ls 5 [(4, .int j7_L_4), (0, .ref h), (1, .int x0), (2, .int x1), (3, .int x2)]) (fun (j7_L_4 : Int32) ls => F0 m 7 ls []) (fun (j7_L_4 : Int32) => (1001 - j7_L_4.toInt).toNat) (fun j7_L_4 H locs ls hi ih7 => ?_) v2 _ _ _ ⟨by omega, by omega, by omega, rfl, rfl, Wd, lv_sub hl [0, 1, 2, 3, 4] rfl⟩
  obtain ⟨i7_0, i7_1, i7_2, rfl, rfl, Wd, hl⟩ := hi
  refine lv_iload C.1 C.2.1 dX8_has_7 (lv_at hl 0 rfl) ?_
  refine lv_iload_n C.1 C.2.1 dX8_has_9 rfl (lv_at hl 4 rfl) ?_
  refine k_cutA (fun (_ : Unit) H locs ls => H = s.heap ∧ locs = [] ∧ wX D [(a_h_0, .int)] s [(h, .inr (8, [.ref h_0, .int h_1])), (h_0, .inl (a_h_0, n_h_0, .inl f_h_0))] H A s.heap locs ∧ lv_has ls 5 [(4, .int j7_L_4), (0, .ref h), (1, .int x0), (2, .int x1), (3, .int x2)]) (fun (_ : Unit) ls => F0 m 41 ls []) (fun _ H locs ls hi => ?_) (fun J41 => ?_)
  · obtain ⟨rfl, rfl, Wd, hl⟩ := hi
    refine lv_iconst (v := 0) C.1 C.2.1 dX8_has_41 (by decide) ?_
    exact k_zretP C hr hlk rfl (by exact ⟨by have zq0 : (0 : Int32).toInt = 0 := (by decide); omega, by have zq0 : (0 : Int32).toInt = 0 := (by decide); omega, by have zq0 : (0 : Int32).toInt = 0 := (by decide); omega⟩) dX8_has_42
  refine lv_icmp_ge (tgt := 41) C.1 C.2.1 dX8_has_10 (by decide) (fun c10 => ?_) (fun c10 => ?_)
  · have i10 : x2.toInt ≤ j7_L_4.toInt := kz_le c10
    exact J41 () _ _ _ ⟨rfl, rfl, Wd, lv_sub hl [0, 1, 2, 3, 4] rfl⟩
  · have i10 : j7_L_4.toInt < x2.toInt := kz_nle c10
    refine lv_iload C.1 C.2.1 dX8_has_13 (lv_at hl 0 rfl) ?_
    refine lv_aload_n C.1 C.2.1 dX8_has_15 rfl (lv_at hl 1 rfl) ?_
    refine k_get C Wd KX8 0 1 rfl (by decide) fl_X8_21 rfl dX8_has_16 ?_
    refine lv_icmp_ge (tgt := 41) C.1 C.2.1 dX8_has_19 (by decide) (fun c19 => ?_) (fun c19 => ?_)
    · have i19 : h_1.toInt ≤ j7_L_4.toInt := kz_le c19
      exact J41 () _ _ _ ⟨rfl, rfl, Wd, lv_sub hl [0, 1, 2, 3, 4] rfl⟩
    · have i19 : j7_L_4.toInt < h_1.toInt := kz_nle c19
      refine lv_aload_n C.1 C.2.1 dX8_has_22 rfl (lv_at hl 1 rfl) ?_
      refine k_get C Wd KX8 0 0 rfl (by decide) fl_X8_15 rfl dX8_has_23 ?_
      refine lv_iload C.1 C.2.1 dX8_has_26 (lv_at hl 0 rfl) ?_
      obtain ⟨v28, ev28⟩ : ∃ z : Int32, f_h_0 j7_L_4.toNatClampNeg = z := ⟨_, rfl⟩
      refine k_iald (v := v28) C Wd 1 0 rfl rfl (vp_in_iff.mpr ⟨by omega, by omega⟩) ev28 dX8_has_28 ?_
      refine lv_iload_n C.1 C.2.1 dX8_has_29 rfl (lv_at hl 2 rfl) ?_
      refine lv_icmp_ne (tgt := 35) C.1 C.2.1 dX8_has_30 (by decide) (fun c30 => ?_) (fun c30 => ?_)
      · have i30 : ¬ v28.toInt = x0.toInt := kz_ne c30
        obtain ⟨v35, ev35⟩ : ∃ z : Int32, j7_L_4 + 1 = z := ⟨_, rfl⟩
        have iv35 : v35.toInt = j7_L_4.toInt + 1 := kz_addc ev35 (by decide) (by have zr0 := kz_rng j7_L_4; omega) (by have zr0 := kz_rng j7_L_4; omega)
        refine lv_iinc (v := v35) (lv' := [(4, .int v35), (0, .ref h), (1, .int x0), (2, .int x1), (3, .int x2)]) C.1 C.2.1 dX8_has_35 hl (k := 0) rfl ev35 (by decide) rfl (fun ls hl => ?_)
        refine lv_goto (tgt := 7) C.1 C.2.1 dX8_has_38 (by decide) ?_
        exact ih7 v35 _ _ _ ⟨by omega, by omega, by omega, rfl, rfl, Wd, lv_sub hl [0, 1, 2, 3, 4] rfl⟩ (by show (1001 - v35.toInt).toNat < (1001 - j7_L_4.toInt).toNat; omega)
      · have i30 : v28.toInt = x0.toInt := kz_eq c30
        refine lv_iconst (v := 1) C.1 C.2.1 dX8_has_33 (by decide) ?_
        exact k_zretP C hr hlk rfl (by exact ⟨by have zq1 : (1 : Int32).toInt = 1 := (by decide); omega, by have zq1 : (1 : Int32).toInt = 1 := (by decide); omega, by have zq1 : (1 : Int32).toInt = 1 := (by decide); omega⟩) dX8_has_34
set_option maxHeartbeats 4000000 in
set_option maxRecDepth 100000 in
theorem sX8_replace (l : Launch) (D : va_G) (h : Nat) (x0 : Int32) (x1 : Int32) (x2 : Int32) (x3 : Int32) (h_0 : Nat) (h_1 : Int32) (n_h_0 : Nat) (a_h_0 : ClassId) (f_h_0 : Nat → Int32) (sz : Nat) (k_h_1_lo : 0 ≤ h_1.toInt) (k_n_h_0 : n_h_0 ≤ 1000) (k_p_h_0 : 1 ≤ n_h_0) (k_h_1_hi : h_1.toInt ≤ (n_h_0 : Int))  : Met l yX8_replace (Cond.code yX8_replace cX8_replace 6 none :: gG) { frames := 1, cells := 0, slots := 0, locals := 64 } (cPre D [(a_h_0, .int)] [(h, .inr (8, [.ref h_0, .int h_1])), (h_0, .inl (a_h_0, n_h_0, .inl f_h_0))] sz [.ref h, .int x0, .int x1, .int x2, .int x3]) (va_Qv (fun (jX_C_h_0 : Nat → Int32) => True) (fun u t => cB D (va_A [(h, .inr (8, [.ref h_0, .int h_1])), (h_0, .inl (a_h_0, n_h_0, .inl f_h_0))] sz) ((fun (_ : (Nat → Int32)) => ([] : List (ClassId × FieldType))) u) ((fun (jX_C_h_0 : Nat → Int32) => ([(h, .inr (8, [.ref h_0, .int h_1])), (h_0, .inl (a_h_0, n_h_0, .inl jX_C_h_0))] : va_W)) u) t) (va_A [(h, .inr (8, [.ref h_0, .int h_1])), (h_0, .inl (a_h_0, n_h_0, .inl f_h_0))] sz)) 0 0 (va_A [(h, .inr (8, [.ref h_0, .int h_1])), (h_0, .inl (a_h_0, n_h_0, .inl f_h_0))] sz) := by
  refine Met.ofW (cc := cX8_replace) (maxL := 6) (ret := none) (by decide) rfl ?_
  intro p e s m args below meth c s₁ B hml hv
  obtain ⟨rfl, aks, rfl, Wd⟩ := k_enter hv
  have C : CallFix p m c cX8_replace 6 s _ gG RX8 := ⟨B.exec, B.bytes, hml, findClass_of_methodNamed B.named, fun w h => atoms_spec (ws := Cond.code yX8_replace cX8_replace 6 none :: gG) B.pre w (List.mem_cons_of_mem _ h)⟩
  have hr := B.returns
  have hlk := B.notSynchronized
  generalize va_A [(h, .inr (8, [.ref h_0, .int h_1])), (h_0, .inl (a_h_0, n_h_0, .inl f_h_0))] s.heap.size = A at Wd ⊢
  refine k_locals (Nat.le_of_ble_eq_true rfl) [(0, .ref h), (1, .int x0), (2, .int x1), (3, .int x2), (4, .int x3)] rfl (fun ls hl => ?_)
  refine lv_iload_n C.1 C.2.1 dX8_replace_0 rfl (lv_at hl 3 rfl) ?_
  refine lv_iconst (v := 0) C.1 C.2.1 dX8_replace_1 (by decide) ?_
  obtain ⟨v2, ev2⟩ : ∃ z : Int32, (if x2 < 0 then 0 else x2) = z := ⟨_, rfl⟩
  have iv2 : x2.toInt ≤ v2.toInt ∧ 0 ≤ v2.toInt ∧ (v2.toInt = x2.toInt ∨ v2.toInt = 0) := kz_max ev2
  refine k_mmax (v := v2) C hl.1 ml_X8_9 st_Lib_Math_max_name in_J9 cd_max (Nat.le_of_ble_eq_true rfl) (Nat.le_of_ble_eq_true rfl) (Nat.le_of_ble_eq_true rfl) (Nat.le_of_ble_eq_true rfl) ev2 dX8_replace_2 ?_
  refine lv_istore (lv' := [(5, .int v2), (0, .ref h), (1, .int x0), (2, .int x1), (3, .int x2), (4, .int x3)]) C.1 C.2.1 dX8_replace_5 hl (by decide) rfl (fun ls hl => ?_)
  refine k_loopA (fun (u : (Nat → Int32) × (Int32)) H locs ls => match u with | (j7_C_h_0, j7_L_5) => 0 ≤ j7_L_5.toInt ∧ v2.toInt ≤ j7_L_5.toInt ∧ j7_L_5.toInt ≤ v2.toInt + 1000 ∧ wX D [(a_h_0, .int)] s [(h, .inr (8, [.ref h_0, .int h_1])), (h_0, .inl (a_h_0, n_h_0, .inl j7_C_h_0))] H A s.heap locs ∧ lv_has ls 6 [(5, .int j7_L_5), (0, .ref h), (1, .int x0), (2, .int x1), (3, .int x2), (4, .int x3)]) (fun (u : (Nat → Int32) × (Int32)) ls => match u with | (j7_C_h_0, j7_L_5) => F0 m 7 ls []) (fun (u : (Nat → Int32) × (Int32)) => match u with | (j7_C_h_0, j7_L_5) => (1001 - j7_L_5.toInt).toNat) (fun u H locs ls hi ih7 => ?_) (f_h_0, v2) _ _ _ ⟨by omega, by omega, by omega, Wd, lv_sub hl [0, 1, 2, 3, 4, 5] rfl⟩
  obtain ⟨j7_C_h_0, j7_L_5⟩ := u
  obtain ⟨i7_0, i7_1, i7_2, Wd, hl⟩ := hi
  refine lv_iload C.1 C.2.1 dX8_replace_7 (lv_at hl 0 rfl) ?_
  refine lv_iload C.1 C.2.1 dX8_replace_9 (lv_at hl 5 rfl) ?_
  refine k_cutA (fun (_ : Unit) H locs ls => wX D [(a_h_0, .int)] s [(h, .inr (8, [.ref h_0, .int h_1])), (h_0, .inl (a_h_0, n_h_0, .inl j7_C_h_0))] H A s.heap locs ∧ lv_has ls 6 [(5, .int j7_L_5), (0, .ref h), (1, .int x0), (2, .int x1), (3, .int x2), (4, .int x3)]) (fun (_ : Unit) ls => F0 m 48 ls []) (fun _ H locs ls hi => ?_) (fun J48 => ?_)
  · obtain ⟨Wd, hl⟩ := hi
    exact k_vret C hr hlk Wd j7_C_h_0 trivial [0, 1] rfl (by decide) [] rfl (by decide) (by decide) dX8_replace_48
  refine lv_icmp_ge (tgt := 48) C.1 C.2.1 dX8_replace_11 (by decide) (fun c11 => ?_) (fun c11 => ?_)
  · have i11 : x3.toInt ≤ j7_L_5.toInt := kz_le c11
    exact J48 () _ _ _ ⟨Wd, lv_sub hl [0, 1, 2, 3, 4, 5] rfl⟩
  · have i11 : j7_L_5.toInt < x3.toInt := kz_nle c11
    refine lv_iload C.1 C.2.1 dX8_replace_14 (lv_at hl 0 rfl) ?_
    refine lv_aload_n C.1 C.2.1 dX8_replace_16 rfl (lv_at hl 1 rfl) ?_
    refine k_get C Wd KX8 0 1 rfl (by decide) fl_X8_21 rfl dX8_replace_17 ?_
    refine lv_icmp_ge (tgt := 48) C.1 C.2.1 dX8_replace_20 (by decide) (fun c20 => ?_) (fun c20 => ?_)
    · have i20 : h_1.toInt ≤ j7_L_5.toInt := kz_le c20
      exact J48 () _ _ _ ⟨Wd, lv_sub hl [0, 1, 2, 3, 4, 5] rfl⟩
    · have i20 : j7_L_5.toInt < h_1.toInt := kz_nle c20
      refine lv_aload_n C.1 C.2.1 dX8_replace_23 rfl (lv_at hl 1 rfl) ?_
      refine k_get C Wd KX8 0 0 rfl (by decide) fl_X8_15 rfl dX8_replace_24 ?_
      refine lv_iload C.1 C.2.1 dX8_replace_27 (lv_at hl 0 rfl) ?_
      obtain ⟨v29, ev29⟩ : ∃ z : Int32, j7_C_h_0 j7_L_5.toNatClampNeg = z := ⟨_, rfl⟩
      refine k_iald (v := v29) C Wd 1 0 rfl rfl (vp_in_iff.mpr ⟨by omega, by omega⟩) ev29 dX8_replace_29 ?_
      refine lv_iload_n C.1 C.2.1 dX8_replace_30 rfl (lv_at hl 2 rfl) ?_
      refine k_cutA (fun (j42_C_h_0 : Nat → Int32) H locs ls => wX D [(a_h_0, .int)] s [(h, .inr (8, [.ref h_0, .int h_1])), (h_0, .inl (a_h_0, n_h_0, .inl j42_C_h_0))] H A s.heap locs ∧ lv_has ls 6 [(5, .int j7_L_5), (0, .ref h), (1, .int x0), (2, .int x1), (3, .int x2), (4, .int x3)]) (fun (j42_C_h_0 : Nat → Int32) ls => F0 m 42 ls []) (fun j42_C_h_0 H locs ls hi => ?_) (fun J42 => ?_)
      · obtain ⟨Wd, hl⟩ := hi
        obtain ⟨v42, ev42⟩ : ∃ z : Int32, j7_L_5 + 1 = z := ⟨_, rfl⟩
        have iv42 : v42.toInt = j7_L_5.toInt + 1 := kz_addc ev42 (by decide) (by have zr0 := kz_rng j7_L_5; omega) (by have zr0 := kz_rng j7_L_5; omega)
        refine lv_iinc (v := v42) (lv' := [(5, .int v42), (0, .ref h), (1, .int x0), (2, .int x1), (3, .int x2), (4, .int x3)]) C.1 C.2.1 dX8_replace_42 hl (k := 0) rfl ev42 (by decide) rfl (fun ls hl => ?_)
        refine lv_goto (tgt := 7) C.1 C.2.1 dX8_replace_45 (by decide) ?_
        exact ih7 (j42_C_h_0, v42) _ _ _ ⟨by omega, by omega, by omega, Wd, lv_sub hl [0, 1, 2, 3, 4, 5] rfl⟩ (by show (1001 - v42.toInt).toNat < (1001 - j7_L_5.toInt).toNat; omega)
      refine lv_icmp_ne (tgt := 42) C.1 C.2.1 dX8_replace_31 (by decide) (fun c31 => ?_) (fun c31 => ?_)
      · have i31 : ¬ v29.toInt = x0.toInt := kz_ne c31
        exact J42 j7_C_h_0 _ _ _ ⟨Wd, lv_sub hl [0, 1, 2, 3, 4, 5] rfl⟩
      · have i31 : v29.toInt = x0.toInt := kz_eq c31
        refine lv_aload_n C.1 C.2.1 dX8_replace_34 rfl (lv_at hl 1 rfl) ?_
        refine k_get C Wd KX8 0 0 rfl (by decide) fl_X8_15 rfl dX8_replace_35 ?_
        refine lv_iload C.1 C.2.1 dX8_replace_38 (lv_at hl 0 rfl) ?_
        refine lv_iload_n C.1 C.2.1 dX8_replace_40 rfl (lv_at hl 3 rfl) ?_
        obtain ⟨f41, ef41⟩ : ∃ z : Nat → Int32, upd j7_C_h_0 j7_L_5.toNatClampNeg x1 = z := ⟨_, rfl⟩
        refine k_iast C Wd 1 0 [(h, .inr (8, [.ref h_0, .int h_1])), (h_0, .inl (a_h_0, n_h_0, .inl f41))] rfl rfl (vp_in_iff.mpr ⟨by omega, by omega⟩) ef41 rfl dX8_replace_41 (fun H locs Wd => ?_)
        exact J42 f41 _ _ _ ⟨Wd, lv_sub hl [0, 1, 2, 3, 4, 5] rfl⟩
set_option maxHeartbeats 4000000 in
set_option maxRecDepth 100000 in
theorem sX8_expressionEnd (l : Launch) (D : va_G) (h : Nat) (x0 : Int32) (h_0 : Nat) (h_1 : Int32) (n_h_0 : Nat) (a_h_0 : ClassId) (f_h_0 : Nat → Int32) (sz : Nat) (k_h_1_lo : 0 ≤ h_1.toInt) (k_n_h_0 : n_h_0 ≤ 1000) (k_p_h_0 : 1 ≤ n_h_0) (k_h_1_hi : h_1.toInt ≤ (n_h_0 : Int))  : Met l yX8_expressionEnd (Cond.code yX8_expressionEnd cX8_expressionEnd 4 (some .int) :: gG) { frames := 2, cells := 0, slots := 0, locals := 84 } (cPre D [(a_h_0, .int)] [(h, .inr (8, [.ref h_0, .int h_1])), (h_0, .inl (a_h_0, n_h_0, .inl f_h_0))] sz [.ref h, .int x0]) (vp_Si (fun r => 0 ≤ r.toInt ∧ x0.toInt ≤ r.toInt ∧ (r.toInt ≤ x0.toInt ∨ r.toInt ≤ h_1.toInt ∨ r.toInt ≤ 0))) 0 0 (fun _ => False) := by
  refine Met.ofW (cc := cX8_expressionEnd) (maxL := 4) (ret := (some .int)) (by decide) rfl ?_
  intro p e s m args below meth c s₁ B hml hv
  obtain ⟨rfl, aks, rfl, Wd⟩ := k_enter hv
  have C : CallFix p m c cX8_expressionEnd 4 s _ gG RX8 := ⟨B.exec, B.bytes, hml, findClass_of_methodNamed B.named, fun w h => atoms_spec (ws := Cond.code yX8_expressionEnd cX8_expressionEnd 4 (some .int) :: gG) B.pre w (List.mem_cons_of_mem _ h)⟩
  have hr := B.returns
  have hlk := B.notSynchronized
  obtain ⟨A, Wd⟩ : ∃ A, wX D [(a_h_0, .int)] s [(h, .inr (8, [.ref h_0, .int h_1])), (h_0, .inl (a_h_0, n_h_0, .inl f_h_0))] s.heap A s.heap [] := ⟨_, Wd⟩
  refine k_locals (Nat.le_of_ble_eq_true rfl) [(0, .ref h), (1, .int x0)] rfl (fun ls hl => ?_)
  refine lv_iload_n C.1 C.2.1 dX8_expressionEnd_0 rfl (lv_at hl 1 rfl) ?_
  refine lv_iconst (v := 0) C.1 C.2.1 dX8_expressionEnd_1 (by decide) ?_
  obtain ⟨v2, ev2⟩ : ∃ z : Int32, (if x0 < 0 then 0 else x0) = z := ⟨_, rfl⟩
  have iv2 : x0.toInt ≤ v2.toInt ∧ 0 ≤ v2.toInt ∧ (v2.toInt = x0.toInt ∨ v2.toInt = 0) := kz_max ev2
  refine k_mmax (v := v2) C hl.1 ml_X8_9 st_Lib_Math_max_name in_J9 cd_max (Nat.le_of_ble_eq_true rfl) (Nat.le_of_ble_eq_true rfl) (Nat.le_of_ble_eq_true rfl) (Nat.le_of_ble_eq_true rfl) ev2 dX8_expressionEnd_2 ?_
  refine lv_istore_n (lv' := [(2, .int v2), (0, .ref h), (1, .int x0)]) C.1 C.2.1 dX8_expressionEnd_5 rfl hl (by decide) rfl (fun ls hl => ?_)
  refine lv_iconst (v := 1) C.1 C.2.1 dX8_expressionEnd_6 (by decide) ?_
  refine lv_istore_n (lv' := [(3, .int 1), (2, .int v2), (0, .ref h), (1, .int x0)]) C.1 C.2.1 dX8_expressionEnd_7 rfl hl (by decide) rfl (fun ls hl => ?_)
  refine k_loopA (fun (u : (Int32) × (Int32)) H locs ls => match u with | (j8_L_2, j8_L_3) => 0 ≤ j8_L_2.toInt ∧ 0 ≤ j8_L_3.toInt ∧ j8_L_3.toInt ≤ 1001 ∧ v2.toInt ≤ j8_L_2.toInt ∧ j8_L_3.toInt ≤ (n_h_0 : Int) + 1 ∧ j8_L_3.toInt ≤ h_1.toInt + 1 ∧ j8_L_3.toInt ≤ j8_L_2.toInt + 1 ∧ j8_L_2.toInt ≤ v2.toInt + 1000 ∧ (j8_L_2.toInt ≤ x0.toInt ∨ j8_L_2.toInt ≤ h_1.toInt ∨ j8_L_2.toInt ≤ 0) ∧ H = s.heap ∧ locs = [] ∧ wX D [(a_h_0, .int)] s [(h, .inr (8, [.ref h_0, .int h_1])), (h_0, .inl (a_h_0, n_h_0, .inl f_h_0))] H A s.heap locs ∧ lv_has ls 4 [(3, .int j8_L_3), (2, .int j8_L_2), (0, .ref h), (1, .int x0)]) (fun (u : (Int32) × (Int32)) ls => match u with | (j8_L_2, j8_L_3) => F0 m 8 ls []) (fun (u : (Int32) × (Int32)) => match u with | (j8_L_2, j8_L_3) => (1001 - j8_L_2.toInt).toNat) (fun u H locs ls hi ih8 => ?_) (v2, 1) _ _ _ ⟨by omega, by have zq1 : (1 : Int32).toInt = 1 := (by decide); omega, by have zq1 : (1 : Int32).toInt = 1 := (by decide); omega, by omega, by have zq1 : (1 : Int32).toInt = 1 := (by decide); omega, by have zq1 : (1 : Int32).toInt = 1 := (by decide); omega, by have zq1 : (1 : Int32).toInt = 1 := (by decide); omega, by omega, by have zq1 : (1 : Int32).toInt = 1 := (by decide); omega, rfl, rfl, Wd, lv_sub hl [0, 1, 2, 3] rfl⟩
  obtain ⟨j8_L_2, j8_L_3⟩ := u
  obtain ⟨i8_0, i8_1, i8_2, i8_3, i8_4, i8_5, i8_6, i8_7, x8_0, rfl, rfl, Wd, hl⟩ := hi
  refine lv_iload_n C.1 C.2.1 dX8_expressionEnd_8 rfl (lv_at hl 0 rfl) ?_
  refine k_cutA (fun (_ : Unit) H locs ls => H = s.heap ∧ locs = [] ∧ wX D [(a_h_0, .int)] s [(h, .inr (8, [.ref h_0, .int h_1])), (h_0, .inl (a_h_0, n_h_0, .inl f_h_0))] H A s.heap locs ∧ lv_has ls 4 [(3, .int j8_L_3), (2, .int j8_L_2), (0, .ref h), (1, .int x0)]) (fun (_ : Unit) ls => F0 m 46 ls []) (fun _ H locs ls hi => ?_) (fun J46 => ?_)
  · obtain ⟨rfl, rfl, Wd, hl⟩ := hi
    refine lv_iload_n C.1 C.2.1 dX8_expressionEnd_46 rfl (lv_at hl 1 rfl) ?_
    exact k_zretP C hr hlk rfl (by exact ⟨by omega, by omega, by omega⟩) dX8_expressionEnd_47
  refine lv_if_le (tgt := 46) C.1 C.2.1 dX8_expressionEnd_9 (by decide) (fun c9 => ?_) (fun c9 => ?_)
  · have i9 : j8_L_3.toInt ≤ 0 := kz_le c9
    exact J46 () _ _ _ ⟨rfl, rfl, Wd, lv_sub hl [0, 1, 2, 3] rfl⟩
  · have i9 : 0 < j8_L_3.toInt := kz_nle c9
    refine lv_iload_n C.1 C.2.1 dX8_expressionEnd_12 rfl (lv_at hl 1 rfl) ?_
    refine lv_aload_n C.1 C.2.1 dX8_expressionEnd_13 rfl (lv_at hl 2 rfl) ?_
    refine k_get C Wd KX8 0 1 rfl (by decide) fl_X8_21 rfl dX8_expressionEnd_14 ?_
    refine lv_icmp_ge (tgt := 46) C.1 C.2.1 dX8_expressionEnd_17 (by decide) (fun c17 => ?_) (fun c17 => ?_)
    · have i17 : h_1.toInt ≤ j8_L_2.toInt := kz_le c17
      exact J46 () _ _ _ ⟨rfl, rfl, Wd, lv_sub hl [0, 1, 2, 3] rfl⟩
    · have i17 : j8_L_2.toInt < h_1.toInt := kz_nle c17
      refine lv_iload_n C.1 C.2.1 dX8_expressionEnd_20 rfl (lv_at hl 0 rfl) ?_
      refine lv_aload_n C.1 C.2.1 dX8_expressionEnd_21 rfl (lv_at hl 2 rfl) ?_
      refine k_get C Wd KX8 0 0 rfl (by decide) fl_X8_15 rfl dX8_expressionEnd_22 ?_
      refine lv_iload_n C.1 C.2.1 dX8_expressionEnd_25 rfl (lv_at hl 1 rfl) ?_
      obtain ⟨v26, ev26⟩ : ∃ z : Int32, f_h_0 j8_L_2.toNatClampNeg = z := ⟨_, rfl⟩
      refine k_iald (v := v26) C Wd 1 0 rfl rfl (vp_in_iff.mpr ⟨by omega, by omega⟩) ev26 dX8_expressionEnd_26 ?_
      refine k_pi (k_runS (rest := [.int j8_L_3]) C aks Wd cs_X8_49 (sX8_isOperation l D v26 _ ) [] rfl (by decide) [] rfl rfl rfl ⟨(Nat.le_of_ble_eq_true rfl), (Nat.le_of_ble_eq_true rfl)⟩ hl.1 rfl rfl (Nat.le_of_ble_eq_true rfl) ⟨(Nat.le_of_ble_eq_true rfl), (Nat.le_of_ble_eq_true rfl)⟩ dX8_expressionEnd_27) (fun r27 w27 => ?_)
      obtain ⟨g27_0, g27_1⟩ := w27
      have g27_0 : 0 ≤ r27.toInt := g27_0
      have g27_1 : r27.toInt ≤ 1 := g27_1
      refine k_cutA (fun (j38_S_0 : Int32) H locs ls => -1 ≤ j38_S_0.toInt ∧ j38_S_0.toInt ≤ 1 ∧ j38_S_0.toInt ≤ r27.toInt ∧ r27.toInt ≤ j38_S_0.toInt + 1 ∧ H = s.heap ∧ locs = [] ∧ wX D [(a_h_0, .int)] s [(h, .inr (8, [.ref h_0, .int h_1])), (h_0, .inl (a_h_0, n_h_0, .inl f_h_0))] H A s.heap locs ∧ lv_has ls 4 [(3, .int j8_L_3), (2, .int j8_L_2), (0, .ref h), (1, .int x0)]) (fun (j38_S_0 : Int32) ls => F0 m 38 ls [.int j38_S_0, .int j8_L_3]) (fun j38_S_0 H locs ls hi => ?_) (fun J38 => ?_)
      · obtain ⟨i38_0, i38_1, i38_2, i38_3, rfl, rfl, Wd, hl⟩ := hi
        obtain ⟨v38, ev38⟩ : ∃ z : Int32, j8_L_3 + j38_S_0 = z := ⟨_, rfl⟩
        have iv38 : v38.toInt = j8_L_3.toInt + j38_S_0.toInt := kz_addv ev38 (by have zr0 := kz_rng j8_L_3; have zr1 := kz_rng j38_S_0; omega) (by have zr0 := kz_rng j8_L_3; have zr1 := kz_rng j38_S_0; omega)
        refine k_iadd (v := v38) C ev38 dX8_expressionEnd_38 ?_
        refine lv_istore_n (lv' := [(3, .int v38), (2, .int j8_L_2), (0, .ref h), (1, .int x0)]) C.1 C.2.1 dX8_expressionEnd_39 rfl hl (by decide) rfl (fun ls hl => ?_)
        obtain ⟨v40, ev40⟩ : ∃ z : Int32, j8_L_2 + 1 = z := ⟨_, rfl⟩
        have iv40 : v40.toInt = j8_L_2.toInt + 1 := kz_addc ev40 (by decide) (by have zr0 := kz_rng j8_L_2; omega) (by have zr0 := kz_rng j8_L_2; omega)
        refine lv_iinc (v := v40) (lv' := [(2, .int v40), (3, .int v38), (0, .ref h), (1, .int x0)]) C.1 C.2.1 dX8_expressionEnd_40 hl (k := 1) rfl ev40 (by decide) rfl (fun ls hl => ?_)
        refine lv_goto (tgt := 8) C.1 C.2.1 dX8_expressionEnd_43 (by decide) ?_
        exact ih8 (v40, v38) _ _ _ ⟨by omega, by omega, by omega, by omega, by omega, by omega, by omega, by omega, by omega, rfl, rfl, Wd, lv_sub hl [1, 0, 2, 3] rfl⟩ (by show (1001 - v40.toInt).toNat < (1001 - j8_L_2.toInt).toNat; omega)
      refine lv_if_eq (tgt := 37) C.1 C.2.1 dX8_expressionEnd_30 (by decide) (fun c30 => ?_) (fun c30 => ?_)
      · have i30 : r27.toInt = 0 := kz_eq c30
        refine lv_iconst (v := (-1)) C.1 C.2.1 dX8_expressionEnd_37 (by decide) ?_
        exact J38 (-1) _ _ _ ⟨by have zqm1 : (-1 : Int32).toInt = -1 := (by decide); omega, by have zqm1 : (-1 : Int32).toInt = -1 := (by decide); omega, by have zqm1 : (-1 : Int32).toInt = -1 := (by decide); omega, by have zqm1 : (-1 : Int32).toInt = -1 := (by decide); omega, rfl, rfl, Wd, lv_sub hl [0, 1, 2, 3] rfl⟩
      · have i30 : ¬ r27.toInt = 0 := kz_ne c30
        refine lv_iconst (v := 1) C.1 C.2.1 dX8_expressionEnd_33 (by decide) ?_
        refine lv_goto (tgt := 38) C.1 C.2.1 dX8_expressionEnd_34 (by decide) ?_
        exact J38 1 _ _ _ ⟨by have zq1 : (1 : Int32).toInt = 1 := (by decide); omega, by have zq1 : (1 : Int32).toInt = 1 := (by decide); omega, by have zq1 : (1 : Int32).toInt = 1 := (by decide); omega, by have zq1 : (1 : Int32).toInt = 1 := (by decide); omega, rfl, rfl, Wd, lv_sub hl [0, 1, 2, 3] rfl⟩
set_option maxHeartbeats 4000000 in
set_option maxRecDepth 100000 in
theorem sX8_closeOf (l : Launch) (D : va_G) (h : Nat) (x0 : Int32) (h_0 : Nat) (h_1 : Int32) (n_h_0 : Nat) (a_h_0 : ClassId) (f_h_0 : Nat → Int32) (sz : Nat) (k_h_1_lo : 0 ≤ h_1.toInt) (k_n_h_0 : n_h_0 ≤ 1000) (k_p_h_0 : 1 ≤ n_h_0) (k_h_1_hi : h_1.toInt ≤ (n_h_0 : Int))  : Met l yX8_closeOf (Cond.code yX8_closeOf cX8_closeOf 4 (some .int) :: gG) { frames := 2, cells := 0, slots := 0, locals := 84 } (cPre D [(a_h_0, .int)] [(h, .inr (8, [.ref h_0, .int h_1])), (h_0, .inl (a_h_0, n_h_0, .inl f_h_0))] sz [.ref h, .int x0]) (vp_Si (fun r => 0 ≤ r.toInt ∧ r.toInt ≤ 1000 ∧ r.toInt ≤ (n_h_0 : Int) ∧ r.toInt ≤ h_1.toInt)) 0 0 (fun _ => False) := by
  refine Met.ofW (cc := cX8_closeOf) (maxL := 4) (ret := (some .int)) (by decide) rfl ?_
  intro p e s m args below meth c s₁ B hml hv
  obtain ⟨rfl, aks, rfl, Wd⟩ := k_enter hv
  have C : CallFix p m c cX8_closeOf 4 s _ gG RX8 := ⟨B.exec, B.bytes, hml, findClass_of_methodNamed B.named, fun w h => atoms_spec (ws := Cond.code yX8_closeOf cX8_closeOf 4 (some .int) :: gG) B.pre w (List.mem_cons_of_mem _ h)⟩
  have hr := B.returns
  have hlk := B.notSynchronized
  obtain ⟨A, Wd⟩ : ∃ A, wX D [(a_h_0, .int)] s [(h, .inr (8, [.ref h_0, .int h_1])), (h_0, .inl (a_h_0, n_h_0, .inl f_h_0))] s.heap A s.heap [] := ⟨_, Wd⟩
  refine k_locals (Nat.le_of_ble_eq_true rfl) [(0, .ref h), (1, .int x0)] rfl (fun ls hl => ?_)
  refine lv_iconst (v := 0) C.1 C.2.1 dX8_closeOf_0 (by decide) ?_
  refine lv_istore_n (lv' := [(2, .int 0), (0, .ref h), (1, .int x0)]) C.1 C.2.1 dX8_closeOf_1 rfl hl (by decide) rfl (fun ls hl => ?_)
  refine lv_iload_n C.1 C.2.1 dX8_closeOf_2 rfl (lv_at hl 2 rfl) ?_
  refine lv_iconst (v := 0) C.1 C.2.1 dX8_closeOf_3 (by decide) ?_
  obtain ⟨v4, ev4⟩ : ∃ z : Int32, (if x0 < 0 then 0 else x0) = z := ⟨_, rfl⟩
  have iv4 : x0.toInt ≤ v4.toInt ∧ 0 ≤ v4.toInt ∧ (v4.toInt = x0.toInt ∨ v4.toInt = 0) := kz_max ev4
  refine k_mmax (v := v4) C hl.1 ml_X8_9 st_Lib_Math_max_name in_J9 cd_max (Nat.le_of_ble_eq_true rfl) (Nat.le_of_ble_eq_true rfl) (Nat.le_of_ble_eq_true rfl) (Nat.le_of_ble_eq_true rfl) ev4 dX8_closeOf_4 ?_
  refine lv_istore_n (lv' := [(3, .int v4), (2, .int 0), (0, .ref h), (1, .int x0)]) C.1 C.2.1 dX8_closeOf_7 rfl hl (by decide) rfl (fun ls hl => ?_)
  refine k_loopA (fun (u : (Int32) × (Int32)) H locs ls => match u with | (j8_L_2, j8_L_3) => 0 ≤ j8_L_3.toInt ∧ v4.toInt ≤ j8_L_3.toInt ∧ j8_L_3.toInt ≤ v4.toInt + 1000 ∧ H = s.heap ∧ locs = [] ∧ wX D [(a_h_0, .int)] s [(h, .inr (8, [.ref h_0, .int h_1])), (h_0, .inl (a_h_0, n_h_0, .inl f_h_0))] H A s.heap locs ∧ lv_has ls 4 [(3, .int j8_L_3), (2, .int j8_L_2), (0, .ref h), (1, .int x0)]) (fun (u : (Int32) × (Int32)) ls => match u with | (j8_L_2, j8_L_3) => F0 m 8 ls []) (fun (u : (Int32) × (Int32)) => match u with | (j8_L_2, j8_L_3) => (1001 - j8_L_3.toInt).toNat) (fun u H locs ls hi ih8 => ?_) (0, v4) _ _ _ ⟨by omega, by omega, by omega, rfl, rfl, Wd, lv_sub hl [0, 1, 2, 3] rfl⟩
  obtain ⟨j8_L_2, j8_L_3⟩ := u
  obtain ⟨i8_0, i8_1, i8_2, rfl, rfl, Wd, hl⟩ := hi
  refine lv_iload_n C.1 C.2.1 dX8_closeOf_8 rfl (lv_at hl 0 rfl) ?_
  refine lv_aload_n C.1 C.2.1 dX8_closeOf_9 rfl (lv_at hl 2 rfl) ?_
  refine k_get C Wd KX8 0 1 rfl (by decide) fl_X8_21 rfl dX8_closeOf_10 ?_
  refine lv_icmp_ge (tgt := 60) C.1 C.2.1 dX8_closeOf_13 (by decide) (fun c13 => ?_) (fun c13 => ?_)
  · have i13 : h_1.toInt ≤ j8_L_3.toInt := kz_le c13
    refine lv_aload_n C.1 C.2.1 dX8_closeOf_60 rfl (lv_at hl 2 rfl) ?_
    refine k_get C Wd KX8 0 1 rfl (by decide) fl_X8_21 rfl dX8_closeOf_61 ?_
    exact k_zretP C hr hlk rfl (by exact ⟨by omega, by omega, by omega, by omega⟩) dX8_closeOf_64
  · have i13 : j8_L_3.toInt < h_1.toInt := kz_nle c13
    refine lv_aload_n C.1 C.2.1 dX8_closeOf_16 rfl (lv_at hl 2 rfl) ?_
    refine k_get C Wd KX8 0 0 rfl (by decide) fl_X8_15 rfl dX8_closeOf_17 ?_
    refine lv_iload_n C.1 C.2.1 dX8_closeOf_20 rfl (lv_at hl 0 rfl) ?_
    obtain ⟨v21, ev21⟩ : ∃ z : Int32, f_h_0 j8_L_3.toNatClampNeg = z := ⟨_, rfl⟩
    refine k_iald (v := v21) C Wd 1 0 rfl rfl (vp_in_iff.mpr ⟨by omega, by omega⟩) ev21 dX8_closeOf_21 ?_
    refine k_pi (k_runS (rest := []) C aks Wd cs_X8_52 (sX8_isBranch l D v21 _ ) [] rfl (by decide) [] rfl rfl rfl ⟨(Nat.le_of_ble_eq_true rfl), (Nat.le_of_ble_eq_true rfl)⟩ hl.1 rfl rfl (Nat.le_of_ble_eq_true rfl) ⟨(Nat.le_of_ble_eq_true rfl), (Nat.le_of_ble_eq_true rfl)⟩ dX8_closeOf_22) (fun r22 w22 => ?_)
    obtain ⟨g22_0, g22_1⟩ := w22
    have g22_0 : 0 ≤ r22.toInt := g22_0
    have g22_1 : r22.toInt ≤ 1 := g22_1
    refine k_cutA (fun (j54_L_2 : Int32) H locs ls => H = s.heap ∧ locs = [] ∧ wX D [(a_h_0, .int)] s [(h, .inr (8, [.ref h_0, .int h_1])), (h_0, .inl (a_h_0, n_h_0, .inl f_h_0))] H A s.heap locs ∧ lv_has ls 4 [(3, .int j8_L_3), (2, .int j54_L_2), (0, .ref h), (1, .int x0)]) (fun (j54_L_2 : Int32) ls => F0 m 54 ls []) (fun j54_L_2 H locs ls hi => ?_) (fun J54 => ?_)
    · obtain ⟨rfl, rfl, Wd, hl⟩ := hi
      obtain ⟨v54, ev54⟩ : ∃ z : Int32, j8_L_3 + 1 = z := ⟨_, rfl⟩
      have iv54 : v54.toInt = j8_L_3.toInt + 1 := kz_addc ev54 (by decide) (by have zr0 := kz_rng j8_L_3; omega) (by have zr0 := kz_rng j8_L_3; omega)
      refine lv_iinc (v := v54) (lv' := [(3, .int v54), (2, .int j54_L_2), (0, .ref h), (1, .int x0)]) C.1 C.2.1 dX8_closeOf_54 hl (k := 0) rfl ev54 (by decide) rfl (fun ls hl => ?_)
      refine lv_goto (tgt := 8) C.1 C.2.1 dX8_closeOf_57 (by decide) ?_
      exact ih8 (j54_L_2, v54) _ _ _ ⟨by omega, by omega, by omega, rfl, rfl, Wd, lv_sub hl [0, 1, 2, 3] rfl⟩ (by show (1001 - v54.toInt).toNat < (1001 - j8_L_3.toInt).toNat; omega)
    refine lv_if_eq (tgt := 34) C.1 C.2.1 dX8_closeOf_25 (by decide) (fun c25 => ?_) (fun c25 => ?_)
    · have i25 : r22.toInt = 0 := kz_eq c25
      refine lv_aload_n C.1 C.2.1 dX8_closeOf_34 rfl (lv_at hl 2 rfl) ?_
      refine k_get C Wd KX8 0 0 rfl (by decide) fl_X8_15 rfl dX8_closeOf_35 ?_
      refine lv_iload_n C.1 C.2.1 dX8_closeOf_38 rfl (lv_at hl 0 rfl) ?_
      obtain ⟨v39, ev39⟩ : ∃ z : Int32, f_h_0 j8_L_3.toNatClampNeg = z := ⟨_, rfl⟩
      refine k_iald (v := v39) C Wd 1 0 rfl rfl (vp_in_iff.mpr ⟨by omega, by omega⟩) ev39 dX8_closeOf_39 ?_
      refine lv_bipush (v := 114) C.1 C.2.1 dX8_closeOf_40 (by decide) ?_
      refine lv_icmp_ne (tgt := 54) C.1 C.2.1 dX8_closeOf_42 (by decide) (fun c42 => ?_) (fun c42 => ?_)
      · have i42 : ¬ v39.toInt = 114 := kz_ne c42
        exact J54 j8_L_2 _ _ _ ⟨rfl, rfl, Wd, lv_sub hl [0, 1, 2, 3] rfl⟩
      · have i42 : v39.toInt = 114 := kz_eq c42
        obtain ⟨v45, ev45⟩ : ∃ z : Int32, j8_L_2 + (-1) = z := ⟨_, rfl⟩
        refine lv_iinc (v := v45) (lv' := [(2, .int v45), (3, .int j8_L_3), (0, .ref h), (1, .int x0)]) C.1 C.2.1 dX8_closeOf_45 hl (k := 1) rfl ev45 (by decide) rfl (fun ls hl => ?_)
        refine lv_iload_n C.1 C.2.1 dX8_closeOf_48 rfl (lv_at hl 0 rfl) ?_
        refine lv_if_ne (tgt := 54) C.1 C.2.1 dX8_closeOf_49 (by decide) (fun c49 => ?_) (fun c49 => ?_)
        · have i49 : ¬ v45.toInt = 0 := kz_ne c49
          exact J54 v45 _ _ _ ⟨rfl, rfl, Wd, lv_sub hl [1, 0, 2, 3] rfl⟩
        · have i49 : v45.toInt = 0 := kz_eq c49
          refine lv_iload_n C.1 C.2.1 dX8_closeOf_52 rfl (lv_at hl 1 rfl) ?_
          exact k_zretP C hr hlk rfl (by exact ⟨by omega, by omega, by omega, by omega⟩) dX8_closeOf_53
    · have i25 : ¬ r22.toInt = 0 := kz_ne c25
      obtain ⟨v28, ev28⟩ : ∃ z : Int32, j8_L_2 + 1 = z := ⟨_, rfl⟩
      refine lv_iinc (v := v28) (lv' := [(2, .int v28), (3, .int j8_L_3), (0, .ref h), (1, .int x0)]) C.1 C.2.1 dX8_closeOf_28 hl (k := 1) rfl ev28 (by decide) rfl (fun ls hl => ?_)
      refine lv_goto (tgt := 54) C.1 C.2.1 dX8_closeOf_31 (by decide) ?_
      exact J54 v28 _ _ _ ⟨rfl, rfl, Wd, lv_sub hl [1, 0, 2, 3] rfl⟩
set_option maxHeartbeats 4000000 in
set_option maxRecDepth 100000 in
theorem sX8_elseOf (l : Launch) (D : va_G) (h : Nat) (x0 : Int32) (h_0 : Nat) (h_1 : Int32) (n_h_0 : Nat) (a_h_0 : ClassId) (f_h_0 : Nat → Int32) (sz : Nat) (k_h_1_lo : 0 ≤ h_1.toInt) (k_n_h_0 : n_h_0 ≤ 1000) (k_p_h_0 : 1 ≤ n_h_0) (k_h_1_hi : h_1.toInt ≤ (n_h_0 : Int))  : Met l yX8_elseOf (Cond.code yX8_elseOf cX8_elseOf 4 (some .int) :: gG) { frames := 2, cells := 0, slots := 0, locals := 84 } (cPre D [(a_h_0, .int)] [(h, .inr (8, [.ref h_0, .int h_1])), (h_0, .inl (a_h_0, n_h_0, .inl f_h_0))] sz [.ref h, .int x0]) (vp_Si (fun r => 0 ≤ r.toInt ∧ r.toInt ≤ 1000 ∧ r.toInt ≤ (n_h_0 : Int) ∧ r.toInt ≤ h_1.toInt)) 0 0 (fun _ => False) := by
  refine Met.ofW (cc := cX8_elseOf) (maxL := 4) (ret := (some .int)) (by decide) rfl ?_
  intro p e s m args below meth c s₁ B hml hv
  obtain ⟨rfl, aks, rfl, Wd⟩ := k_enter hv
  have C : CallFix p m c cX8_elseOf 4 s _ gG RX8 := ⟨B.exec, B.bytes, hml, findClass_of_methodNamed B.named, fun w h => atoms_spec (ws := Cond.code yX8_elseOf cX8_elseOf 4 (some .int) :: gG) B.pre w (List.mem_cons_of_mem _ h)⟩
  have hr := B.returns
  have hlk := B.notSynchronized
  obtain ⟨A, Wd⟩ : ∃ A, wX D [(a_h_0, .int)] s [(h, .inr (8, [.ref h_0, .int h_1])), (h_0, .inl (a_h_0, n_h_0, .inl f_h_0))] s.heap A s.heap [] := ⟨_, Wd⟩
  refine k_locals (Nat.le_of_ble_eq_true rfl) [(0, .ref h), (1, .int x0)] rfl (fun ls hl => ?_)
  refine lv_iconst (v := 0) C.1 C.2.1 dX8_elseOf_0 (by decide) ?_
  refine lv_istore_n (lv' := [(2, .int 0), (0, .ref h), (1, .int x0)]) C.1 C.2.1 dX8_elseOf_1 rfl hl (by decide) rfl (fun ls hl => ?_)
  refine lv_iload_n C.1 C.2.1 dX8_elseOf_2 rfl (lv_at hl 2 rfl) ?_
  refine lv_iconst (v := 0) C.1 C.2.1 dX8_elseOf_3 (by decide) ?_
  obtain ⟨v4, ev4⟩ : ∃ z : Int32, (if x0 < 0 then 0 else x0) = z := ⟨_, rfl⟩
  have iv4 : x0.toInt ≤ v4.toInt ∧ 0 ≤ v4.toInt ∧ (v4.toInt = x0.toInt ∨ v4.toInt = 0) := kz_max ev4
  refine k_mmax (v := v4) C hl.1 ml_X8_9 st_Lib_Math_max_name in_J9 cd_max (Nat.le_of_ble_eq_true rfl) (Nat.le_of_ble_eq_true rfl) (Nat.le_of_ble_eq_true rfl) (Nat.le_of_ble_eq_true rfl) ev4 dX8_elseOf_4 ?_
  refine lv_istore_n (lv' := [(3, .int v4), (2, .int 0), (0, .ref h), (1, .int x0)]) C.1 C.2.1 dX8_elseOf_7 rfl hl (by decide) rfl (fun ls hl => ?_)
  refine k_loopA (fun (u : (Int32) × (Int32)) H locs ls => match u with | (j8_L_2, j8_L_3) => 0 ≤ j8_L_3.toInt ∧ v4.toInt ≤ j8_L_3.toInt ∧ j8_L_3.toInt ≤ v4.toInt + 1000 ∧ H = s.heap ∧ locs = [] ∧ wX D [(a_h_0, .int)] s [(h, .inr (8, [.ref h_0, .int h_1])), (h_0, .inl (a_h_0, n_h_0, .inl f_h_0))] H A s.heap locs ∧ lv_has ls 4 [(3, .int j8_L_3), (2, .int j8_L_2), (0, .ref h), (1, .int x0)]) (fun (u : (Int32) × (Int32)) ls => match u with | (j8_L_2, j8_L_3) => F0 m 8 ls []) (fun (u : (Int32) × (Int32)) => match u with | (j8_L_2, j8_L_3) => (1001 - j8_L_3.toInt).toNat) (fun u H locs ls hi ih8 => ?_) (0, v4) _ _ _ ⟨by omega, by omega, by omega, rfl, rfl, Wd, lv_sub hl [0, 1, 2, 3] rfl⟩
  obtain ⟨j8_L_2, j8_L_3⟩ := u
  obtain ⟨i8_0, i8_1, i8_2, rfl, rfl, Wd, hl⟩ := hi
  refine lv_iload_n C.1 C.2.1 dX8_elseOf_8 rfl (lv_at hl 0 rfl) ?_
  refine lv_aload_n C.1 C.2.1 dX8_elseOf_9 rfl (lv_at hl 2 rfl) ?_
  refine k_get C Wd KX8 0 1 rfl (by decide) fl_X8_21 rfl dX8_elseOf_10 ?_
  refine lv_icmp_ge (tgt := 75) C.1 C.2.1 dX8_elseOf_13 (by decide) (fun c13 => ?_) (fun c13 => ?_)
  · have i13 : h_1.toInt ≤ j8_L_3.toInt := kz_le c13
    refine lv_aload_n C.1 C.2.1 dX8_elseOf_75 rfl (lv_at hl 2 rfl) ?_
    refine k_get C Wd KX8 0 1 rfl (by decide) fl_X8_21 rfl dX8_elseOf_76 ?_
    exact k_zretP C hr hlk rfl (by exact ⟨by omega, by omega, by omega, by omega⟩) dX8_elseOf_79
  · have i13 : j8_L_3.toInt < h_1.toInt := kz_nle c13
    refine lv_aload_n C.1 C.2.1 dX8_elseOf_16 rfl (lv_at hl 2 rfl) ?_
    refine k_get C Wd KX8 0 0 rfl (by decide) fl_X8_15 rfl dX8_elseOf_17 ?_
    refine lv_iload_n C.1 C.2.1 dX8_elseOf_20 rfl (lv_at hl 0 rfl) ?_
    obtain ⟨v21, ev21⟩ : ∃ z : Int32, f_h_0 j8_L_3.toNatClampNeg = z := ⟨_, rfl⟩
    refine k_iald (v := v21) C Wd 1 0 rfl rfl (vp_in_iff.mpr ⟨by omega, by omega⟩) ev21 dX8_elseOf_21 ?_
    refine k_pi (k_runS (rest := []) C aks Wd cs_X8_52 (sX8_isBranch l D v21 _ ) [] rfl (by decide) [] rfl rfl rfl ⟨(Nat.le_of_ble_eq_true rfl), (Nat.le_of_ble_eq_true rfl)⟩ hl.1 rfl rfl (Nat.le_of_ble_eq_true rfl) ⟨(Nat.le_of_ble_eq_true rfl), (Nat.le_of_ble_eq_true rfl)⟩ dX8_elseOf_22) (fun r22 w22 => ?_)
    obtain ⟨g22_0, g22_1⟩ := w22
    have g22_0 : 0 ≤ r22.toInt := g22_0
    have g22_1 : r22.toInt ≤ 1 := g22_1
    refine k_cutA (fun (j69_L_2 : Int32) H locs ls => H = s.heap ∧ locs = [] ∧ wX D [(a_h_0, .int)] s [(h, .inr (8, [.ref h_0, .int h_1])), (h_0, .inl (a_h_0, n_h_0, .inl f_h_0))] H A s.heap locs ∧ lv_has ls 4 [(3, .int j8_L_3), (2, .int j69_L_2), (0, .ref h), (1, .int x0)]) (fun (j69_L_2 : Int32) ls => F0 m 69 ls []) (fun j69_L_2 H locs ls hi => ?_) (fun J69 => ?_)
    · obtain ⟨rfl, rfl, Wd, hl⟩ := hi
      obtain ⟨v69, ev69⟩ : ∃ z : Int32, j8_L_3 + 1 = z := ⟨_, rfl⟩
      have iv69 : v69.toInt = j8_L_3.toInt + 1 := kz_addc ev69 (by decide) (by have zr0 := kz_rng j8_L_3; omega) (by have zr0 := kz_rng j8_L_3; omega)
      refine lv_iinc (v := v69) (lv' := [(3, .int v69), (2, .int j69_L_2), (0, .ref h), (1, .int x0)]) C.1 C.2.1 dX8_elseOf_69 hl (k := 0) rfl ev69 (by decide) rfl (fun ls hl => ?_)
      refine lv_goto (tgt := 8) C.1 C.2.1 dX8_elseOf_72 (by decide) ?_
      exact ih8 (j69_L_2, v69) _ _ _ ⟨by omega, by omega, by omega, rfl, rfl, Wd, lv_sub hl [0, 1, 2, 3] rfl⟩ (by show (1001 - v69.toInt).toNat < (1001 - j8_L_3.toInt).toNat; omega)
    refine lv_if_eq (tgt := 34) C.1 C.2.1 dX8_elseOf_25 (by decide) (fun c25 => ?_) (fun c25 => ?_)
    · have i25 : r22.toInt = 0 := kz_eq c25
      refine lv_aload_n C.1 C.2.1 dX8_elseOf_34 rfl (lv_at hl 2 rfl) ?_
      refine k_get C Wd KX8 0 0 rfl (by decide) fl_X8_15 rfl dX8_elseOf_35 ?_
      refine lv_iload_n C.1 C.2.1 dX8_elseOf_38 rfl (lv_at hl 0 rfl) ?_
      obtain ⟨v39, ev39⟩ : ∃ z : Int32, f_h_0 j8_L_3.toNatClampNeg = z := ⟨_, rfl⟩
      refine k_iald (v := v39) C Wd 1 0 rfl rfl (vp_in_iff.mpr ⟨by omega, by omega⟩) ev39 dX8_elseOf_39 ?_
      refine lv_bipush (v := 114) C.1 C.2.1 dX8_elseOf_40 (by decide) ?_
      refine lv_icmp_ne (tgt := 51) C.1 C.2.1 dX8_elseOf_42 (by decide) (fun c42 => ?_) (fun c42 => ?_)
      · have i42 : ¬ v39.toInt = 114 := kz_ne c42
        refine lv_aload_n C.1 C.2.1 dX8_elseOf_51 rfl (lv_at hl 2 rfl) ?_
        refine k_get C Wd KX8 0 0 rfl (by decide) fl_X8_15 rfl dX8_elseOf_52 ?_
        refine lv_iload_n C.1 C.2.1 dX8_elseOf_55 rfl (lv_at hl 0 rfl) ?_
        obtain ⟨v56, ev56⟩ : ∃ z : Int32, f_h_0 j8_L_3.toNatClampNeg = z := ⟨_, rfl⟩
        refine k_iald (v := v56) C Wd 1 0 rfl rfl (vp_in_iff.mpr ⟨by omega, by omega⟩) ev56 dX8_elseOf_56 ?_
        refine lv_bipush (v := 113) C.1 C.2.1 dX8_elseOf_57 (by decide) ?_
        refine lv_icmp_ne (tgt := 69) C.1 C.2.1 dX8_elseOf_59 (by decide) (fun c59 => ?_) (fun c59 => ?_)
        · have i59 : ¬ v56.toInt = 113 := kz_ne c59
          exact J69 j8_L_2 _ _ _ ⟨rfl, rfl, Wd, lv_sub hl [0, 1, 2, 3] rfl⟩
        · have i59 : v56.toInt = 113 := kz_eq c59
          refine lv_iload_n C.1 C.2.1 dX8_elseOf_62 rfl (lv_at hl 1 rfl) ?_
          refine lv_iconst (v := 1) C.1 C.2.1 dX8_elseOf_63 (by decide) ?_
          refine lv_icmp_ne (tgt := 69) C.1 C.2.1 dX8_elseOf_64 (by decide) (fun c64 => ?_) (fun c64 => ?_)
          · have i64 : ¬ j8_L_2.toInt = 1 := kz_ne c64
            exact J69 j8_L_2 _ _ _ ⟨rfl, rfl, Wd, lv_sub hl [0, 1, 2, 3] rfl⟩
          · have i64 : j8_L_2.toInt = 1 := kz_eq c64
            refine lv_iload_n C.1 C.2.1 dX8_elseOf_67 rfl (lv_at hl 0 rfl) ?_
            exact k_zretP C hr hlk rfl (by exact ⟨by omega, by omega, by omega, by omega⟩) dX8_elseOf_68
      · have i42 : v39.toInt = 114 := kz_eq c42
        obtain ⟨v45, ev45⟩ : ∃ z : Int32, j8_L_2 + (-1) = z := ⟨_, rfl⟩
        refine lv_iinc (v := v45) (lv' := [(2, .int v45), (3, .int j8_L_3), (0, .ref h), (1, .int x0)]) C.1 C.2.1 dX8_elseOf_45 hl (k := 1) rfl ev45 (by decide) rfl (fun ls hl => ?_)
        refine lv_goto (tgt := 69) C.1 C.2.1 dX8_elseOf_48 (by decide) ?_
        exact J69 v45 _ _ _ ⟨rfl, rfl, Wd, lv_sub hl [1, 0, 2, 3] rfl⟩
    · have i25 : ¬ r22.toInt = 0 := kz_ne c25
      obtain ⟨v28, ev28⟩ : ∃ z : Int32, j8_L_2 + 1 = z := ⟨_, rfl⟩
      refine lv_iinc (v := v28) (lv' := [(2, .int v28), (3, .int j8_L_3), (0, .ref h), (1, .int x0)]) C.1 C.2.1 dX8_elseOf_28 hl (k := 1) rfl ev28 (by decide) rfl (fun ls hl => ?_)
      refine lv_goto (tgt := 69) C.1 C.2.1 dX8_elseOf_31 (by decide) ?_
      exact J69 v28 _ _ _ ⟨rfl, rfl, Wd, lv_sub hl [1, 0, 2, 3] rfl⟩
set_option maxHeartbeats 4000000 in
set_option maxRecDepth 100000 in
theorem sX8_statementEnd (l : Launch) (D : va_G) (h : Nat) (x0 : Int32) (h_0 : Nat) (h_1 : Int32) (n_h_0 : Nat) (a_h_0 : ClassId) (f_h_0 : Nat → Int32) (sz : Nat) (k_h_1_lo : 0 ≤ h_1.toInt) (k_n_h_0 : n_h_0 ≤ 1000) (k_p_h_0 : 1 ≤ n_h_0) (k_h_1_hi : h_1.toInt ≤ (n_h_0 : Int))  : Met l yX8_statementEnd (Cond.code yX8_statementEnd cX8_statementEnd 3 (some .int) :: gG) { frames := 3, cells := 0, slots := 0, locals := 107 } (cPre D [(a_h_0, .int)] [(h, .inr (8, [.ref h_0, .int h_1])), (h_0, .inl (a_h_0, n_h_0, .inl f_h_0))] sz [.ref h, .int x0]) (vp_Si (fun r => True)) 0 0 (fun _ => False) := by
  refine Met.ofW (cc := cX8_statementEnd) (maxL := 3) (ret := (some .int)) (by decide) rfl ?_
  intro p e s m args below meth c s₁ B hml hv
  obtain ⟨rfl, aks, rfl, Wd⟩ := k_enter hv
  have C : CallFix p m c cX8_statementEnd 3 s _ gG RX8 := ⟨B.exec, B.bytes, hml, findClass_of_methodNamed B.named, fun w h => atoms_spec (ws := Cond.code yX8_statementEnd cX8_statementEnd 3 (some .int) :: gG) B.pre w (List.mem_cons_of_mem _ h)⟩
  have hr := B.returns
  have hlk := B.notSynchronized
  obtain ⟨A, Wd⟩ : ∃ A, wX D [(a_h_0, .int)] s [(h, .inr (8, [.ref h_0, .int h_1])), (h_0, .inl (a_h_0, n_h_0, .inl f_h_0))] s.heap A s.heap [] := ⟨_, Wd⟩
  refine k_locals (Nat.le_of_ble_eq_true rfl) [(0, .ref h), (1, .int x0)] rfl (fun ls hl => ?_)
  refine lv_aload_n C.1 C.2.1 dX8_statementEnd_0 rfl (lv_at hl 0 rfl) ?_
  refine lv_iload_n C.1 C.2.1 dX8_statementEnd_1 rfl (lv_at hl 1 rfl) ?_
  refine k_pi (k_runV (rest := []) C aks Wd cs_X8_55 (sX8_cell l D h x0 h_0 h_1 n_h_0 a_h_0 f_h_0 _ (by omega) (by omega) (by omega) (by omega)) [0, 1] rfl (by decide) [0] rfl 0 8 rfl rfl rfl rfl rfl ⟨(Nat.le_of_ble_eq_true rfl), (Nat.le_of_ble_eq_true rfl)⟩ hl.1 rfl rfl (Nat.le_of_ble_eq_true rfl) ⟨(Nat.le_of_ble_eq_true rfl), (Nat.le_of_ble_eq_true rfl)⟩ dX8_statementEnd_2) (fun r2 w2 => ?_)
  refine lv_istore_n (lv' := [(2, .int r2), (0, .ref h), (1, .int x0)]) C.1 C.2.1 dX8_statementEnd_5 rfl hl (by decide) rfl (fun ls hl => ?_)
  refine lv_iload_n C.1 C.2.1 dX8_statementEnd_6 rfl (lv_at hl 0 rfl) ?_
  refine k_pi (k_runS (rest := []) C aks Wd cs_X8_52 (sX8_isBranch l D r2 _ ) [] rfl (by decide) [] rfl rfl rfl ⟨(Nat.le_of_ble_eq_true rfl), (Nat.le_of_ble_eq_true rfl)⟩ hl.1 rfl rfl (Nat.le_of_ble_eq_true rfl) ⟨(Nat.le_of_ble_eq_true rfl), (Nat.le_of_ble_eq_true rfl)⟩ dX8_statementEnd_7) (fun r7 w7 => ?_)
  obtain ⟨g7_0, g7_1⟩ := w7
  have g7_0 : 0 ≤ r7.toInt := g7_0
  have g7_1 : r7.toInt ≤ 1 := g7_1
  refine lv_if_eq (tgt := 21) C.1 C.2.1 dX8_statementEnd_10 (by decide) (fun c10 => ?_) (fun c10 => ?_)
  · have i10 : r7.toInt = 0 := kz_eq c10
    refine lv_iload_n C.1 C.2.1 dX8_statementEnd_21 rfl (lv_at hl 0 rfl) ?_
    refine lv_bipush (v := 111) C.1 C.2.1 dX8_statementEnd_22 (by decide) ?_
    refine k_cutA (fun (j40_S_0 : Int32) H locs ls => H = s.heap ∧ locs = [] ∧ wX D [(a_h_0, .int)] s [(h, .inr (8, [.ref h_0, .int h_1])), (h_0, .inl (a_h_0, n_h_0, .inl f_h_0))] H A s.heap locs ∧ lv_has ls 3 [(2, .int r2), (0, .ref h), (1, .int x0)]) (fun (j40_S_0 : Int32) ls => F0 m 40 ls [.int j40_S_0]) (fun j40_S_0 H locs ls hi => ?_) (fun J40 => ?_)
    · obtain ⟨rfl, rfl, Wd, hl⟩ := hi
      exact k_zretP C hr hlk rfl trivial dX8_statementEnd_40
    refine lv_icmp_ne (tgt := 33) C.1 C.2.1 dX8_statementEnd_24 (by decide) (fun c24 => ?_) (fun c24 => ?_)
    · have i24 : ¬ r2.toInt = 111 := kz_ne c24
      refine lv_aload_n C.1 C.2.1 dX8_statementEnd_33 rfl (lv_at hl 1 rfl) ?_
      refine lv_iload_n C.1 C.2.1 dX8_statementEnd_34 rfl (lv_at hl 2 rfl) ?_
      refine lv_iconst (v := 1) C.1 C.2.1 dX8_statementEnd_35 (by decide) ?_
      obtain ⟨v36, ev36⟩ : ∃ z : Int32, x0 + 1 = z := ⟨_, rfl⟩
      refine k_iadd (v := v36) C ev36 dX8_statementEnd_36 ?_
      refine k_pi (k_runV (rest := []) C aks Wd cs_X8_62 (sX8_expressionEnd l D h v36 h_0 h_1 n_h_0 a_h_0 f_h_0 _ (by omega) (by omega) (by omega) (by omega)) [0, 1] rfl (by decide) [0] rfl 0 8 rfl rfl rfl rfl rfl ⟨(Nat.le_of_ble_eq_true rfl), (Nat.le_of_ble_eq_true rfl)⟩ hl.1 rfl rfl (Nat.le_of_ble_eq_true rfl) ⟨(Nat.le_of_ble_eq_true rfl), (Nat.le_of_ble_eq_true rfl)⟩ dX8_statementEnd_37) (fun r37 w37 => ?_)
      obtain ⟨g37_0, g37_1, gx37_0⟩ := w37
      have g37_0 : 0 ≤ r37.toInt := g37_0
      have g37_1 : v36.toInt ≤ r37.toInt := g37_1
      have gx37_0 : r37.toInt ≤ v36.toInt ∨ r37.toInt ≤ h_1.toInt ∨ r37.toInt ≤ 0 := gx37_0
      exact J40 r37 _ _ _ ⟨rfl, rfl, Wd, lv_sub hl [0, 1, 2] rfl⟩
    · have i24 : r2.toInt = 111 := kz_eq c24
      refine lv_iload_n C.1 C.2.1 dX8_statementEnd_27 rfl (lv_at hl 2 rfl) ?_
      refine lv_iconst (v := 1) C.1 C.2.1 dX8_statementEnd_28 (by decide) ?_
      obtain ⟨v29, ev29⟩ : ∃ z : Int32, x0 + 1 = z := ⟨_, rfl⟩
      refine k_iadd (v := v29) C ev29 dX8_statementEnd_29 ?_
      refine lv_goto (tgt := 40) C.1 C.2.1 dX8_statementEnd_30 (by decide) ?_
      exact J40 v29 _ _ _ ⟨rfl, rfl, Wd, lv_sub hl [0, 1, 2] rfl⟩
  · have i10 : ¬ r7.toInt = 0 := kz_ne c10
    refine lv_aload_n C.1 C.2.1 dX8_statementEnd_13 rfl (lv_at hl 1 rfl) ?_
    refine lv_iload_n C.1 C.2.1 dX8_statementEnd_14 rfl (lv_at hl 2 rfl) ?_
    refine k_pi (k_runV (rest := []) C aks Wd cs_X8_59 (sX8_closeOf l D h x0 h_0 h_1 n_h_0 a_h_0 f_h_0 _ (by omega) (by omega) (by omega) (by omega)) [0, 1] rfl (by decide) [0] rfl 0 8 rfl rfl rfl rfl rfl ⟨(Nat.le_of_ble_eq_true rfl), (Nat.le_of_ble_eq_true rfl)⟩ hl.1 rfl rfl (Nat.le_of_ble_eq_true rfl) ⟨(Nat.le_of_ble_eq_true rfl), (Nat.le_of_ble_eq_true rfl)⟩ dX8_statementEnd_15) (fun r15 w15 => ?_)
    obtain ⟨g15_0, g15_1, g15_2, g15_3⟩ := w15
    have g15_0 : 0 ≤ r15.toInt := g15_0
    have g15_1 : r15.toInt ≤ 1000 := g15_1
    have g15_2 : r15.toInt ≤ (n_h_0 : Int) := g15_2
    have g15_3 : r15.toInt ≤ h_1.toInt := g15_3
    refine lv_iconst (v := 1) C.1 C.2.1 dX8_statementEnd_18 (by decide) ?_
    obtain ⟨v19, ev19⟩ : ∃ z : Int32, r15 + 1 = z := ⟨_, rfl⟩
    have iv19 : v19.toInt = r15.toInt + 1 := kz_addc ev19 (by decide) (by have zr0 := kz_rng r15; omega) (by have zr0 := kz_rng r15; omega)
    refine k_iadd (v := v19) C ev19 dX8_statementEnd_19 ?_
    exact k_zretP C hr hlk rfl trivial dX8_statementEnd_20
set_option maxHeartbeats 4000000 in
set_option maxRecDepth 100000 in
theorem sX8_reckon (l : Launch) (D : va_G) (h : Nat) (x0 : Int32) (x1 : Int32) (h2 : Nat) (h3 : Nat) (h_0 : Nat) (h_1 : Int32) (n_h_0 : Nat) (a_h_0 : ClassId) (f_h_0 : Nat → Int32) (n_h3 : Nat) (a_h3 : ClassId) (f_h3 : Nat → Int32) (n_h2 : Nat) (a_h2 : ClassId) (f_h2 : Nat → Int32) (sz : Nat) (k_x1_lo : -1000 ≤ x1.toInt) (k_x1_hi : x1.toInt ≤ 100000) (k_h_1_lo : 0 ≤ h_1.toInt) (k_n_h_0 : n_h_0 ≤ 1000) (k_p_h_0 : 1 ≤ n_h_0) (k_h_1_hi : h_1.toInt ≤ (n_h_0 : Int)) (k_n_h3 : n_h3 ≤ 100000) (k_p_h3 : 0 ≤ n_h3) (k_n_h2 : n_h2 ≤ 100000) (k_p_h2 : 0 ≤ n_h2)  : Met l yX8_reckon (Cond.code yX8_reckon cX8_reckon 9 none :: gG) { frames := 2, cells := 0, slots := 0, locals := 87 } (cPre D [(a_h_0, .int), (a_h3, .int), (a_h2, .int)] [(h, .inr (8, [.ref h_0, .int h_1])), (h_0, .inl (a_h_0, n_h_0, .inl f_h_0)), (h3, .inl (a_h3, n_h3, .inl f_h3)), (h2, .inl (a_h2, n_h2, .inl f_h2))] sz [.ref h, .int x0, .int x1, .ref h2, .ref h3]) (va_Qv (fun (jX_C_h3 : Nat → Int32) => True) (fun u t => cB D (va_A [(h, .inr (8, [.ref h_0, .int h_1])), (h_0, .inl (a_h_0, n_h_0, .inl f_h_0)), (h3, .inl (a_h3, n_h3, .inl f_h3)), (h2, .inl (a_h2, n_h2, .inl f_h2))] sz) ((fun (_ : (Nat → Int32)) => ([] : List (ClassId × FieldType))) u) ((fun (jX_C_h3 : Nat → Int32) => ([(h, .inr (8, [.ref h_0, .int h_1])), (h_0, .inl (a_h_0, n_h_0, .inl f_h_0)), (h3, .inl (a_h3, n_h3, .inl jX_C_h3)), (h2, .inl (a_h2, n_h2, .inl f_h2))] : va_W)) u) t) (va_A [(h, .inr (8, [.ref h_0, .int h_1])), (h_0, .inl (a_h_0, n_h_0, .inl f_h_0)), (h3, .inl (a_h3, n_h3, .inl f_h3)), (h2, .inl (a_h2, n_h2, .inl f_h2))] sz)) 0 0 (va_A [(h, .inr (8, [.ref h_0, .int h_1])), (h_0, .inl (a_h_0, n_h_0, .inl f_h_0)), (h3, .inl (a_h3, n_h3, .inl f_h3)), (h2, .inl (a_h2, n_h2, .inl f_h2))] sz) := by
  refine Met.ofW (cc := cX8_reckon) (maxL := 9) (ret := none) (by decide) rfl ?_
  intro p e s m args below meth c s₁ B hml hv
  obtain ⟨rfl, aks, rfl, Wd⟩ := k_enter hv
  have C : CallFix p m c cX8_reckon 9 s _ gG RX8 := ⟨B.exec, B.bytes, hml, findClass_of_methodNamed B.named, fun w h => atoms_spec (ws := Cond.code yX8_reckon cX8_reckon 9 none :: gG) B.pre w (List.mem_cons_of_mem _ h)⟩
  have hr := B.returns
  have hlk := B.notSynchronized
  generalize va_A [(h, .inr (8, [.ref h_0, .int h_1])), (h_0, .inl (a_h_0, n_h_0, .inl f_h_0)), (h3, .inl (a_h3, n_h3, .inl f_h3)), (h2, .inl (a_h2, n_h2, .inl f_h2))] s.heap.size = A at Wd ⊢
  refine k_locals (Nat.le_of_ble_eq_true rfl) [(0, .ref h), (1, .int x0), (2, .int x1), (3, .ref h2), (4, .ref h3)] rfl (fun ls hl => ?_)
  refine lv_iconst (v := 0) C.1 C.2.1 dX8_reckon_0 (by decide) ?_
  refine lv_istore (lv' := [(5, .int 0), (0, .ref h), (1, .int x0), (2, .int x1), (3, .ref h2), (4, .ref h3)]) C.1 C.2.1 dX8_reckon_1 hl (by decide) rfl (fun ls hl => ?_)
  refine lv_iload_n C.1 C.2.1 dX8_reckon_3 rfl (lv_at hl 3 rfl) ?_
  refine lv_aload_n C.1 C.2.1 dX8_reckon_4 rfl (lv_at hl 1 rfl) ?_
  refine k_get C Wd KX8 0 1 rfl (by decide) fl_X8_21 rfl dX8_reckon_5 ?_
  obtain ⟨v8, ev8⟩ : ∃ z : Int32, (if h_1 < x1 then h_1 else x1) = z := ⟨_, rfl⟩
  have iv8 : v8.toInt ≤ x1.toInt ∧ v8.toInt ≤ h_1.toInt ∧ (v8.toInt = x1.toInt ∨ v8.toInt = h_1.toInt) := kz_min ev8
  refine k_mmin (v := v8) C hl.1 ml_X8_65 st_Lib_Math_min_name in_J9 cd_min (Nat.le_of_ble_eq_true rfl) (Nat.le_of_ble_eq_true rfl) (Nat.le_of_ble_eq_true rfl) (Nat.le_of_ble_eq_true rfl) ev8 dX8_reckon_8 ?_
  refine lv_iconst (v := 1) C.1 C.2.1 dX8_reckon_11 (by decide) ?_
  obtain ⟨v12, ev12⟩ : ∃ z : Int32, v8 - 1 = z := ⟨_, rfl⟩
  have iv12 : v12.toInt = v8.toInt - 1 := kz_subc ev12 (by decide) (by have zr0 := kz_rng v8; omega) (by have zr0 := kz_rng v8; omega)
  refine k_isub (v := v12) C ev12 dX8_reckon_12 ?_
  refine lv_istore (lv' := [(6, .int v12), (5, .int 0), (0, .ref h), (1, .int x0), (2, .int x1), (3, .ref h2), (4, .ref h3)]) C.1 C.2.1 dX8_reckon_13 hl (by decide) rfl (fun ls hl => ?_)
  refine k_loopA (fun (u : (Nat → Int32) × (Int32) × (Int32)) H locs ls => match u with | (j15_C_h3, j15_L_5, j15_L_6) => 0 ≤ j15_L_5.toInt ∧ j15_L_6.toInt ≤ 999 ∧ -1001 ≤ j15_L_6.toInt ∧ j15_L_5.toInt ≤ 100000 ∧ j15_L_5.toInt ≤ (n_h3 : Int) ∧ j15_L_6.toInt ≤ v12.toInt ∧ j15_L_5.toInt ≤ h_1.toInt + 99999 ∧ j15_L_5.toInt ≤ v8.toInt + 99999 ∧ x1.toInt ≤ j15_L_6.toInt + 100001 ∧ j15_L_5.toInt ≤ j15_L_6.toInt + 100255 ∧ wX D [(a_h_0, .int), (a_h3, .int), (a_h2, .int)] s [(h, .inr (8, [.ref h_0, .int h_1])), (h_0, .inl (a_h_0, n_h_0, .inl f_h_0)), (h3, .inl (a_h3, n_h3, .inl j15_C_h3)), (h2, .inl (a_h2, n_h2, .inl f_h2))] H A s.heap locs ∧ lv_has ls 9 [(6, .int j15_L_6), (5, .int j15_L_5), (0, .ref h), (1, .int x0), (2, .int x1), (3, .ref h2), (4, .ref h3)]) (fun (u : (Nat → Int32) × (Int32) × (Int32)) ls => match u with | (j15_C_h3, j15_L_5, j15_L_6) => F0 m 15 ls []) (fun (u : (Nat → Int32) × (Int32) × (Int32)) => match u with | (j15_C_h3, j15_L_5, j15_L_6) => (j15_L_6.toInt + 2).toNat) (fun u H locs ls hi ih15 => ?_) (f_h3, 0, v12) _ _ _ ⟨by have zq0 : (0 : Int32).toInt = 0 := (by decide); omega, by omega, by omega, by have zq0 : (0 : Int32).toInt = 0 := (by decide); omega, by have zq0 : (0 : Int32).toInt = 0 := (by decide); omega, by omega, by have zq0 : (0 : Int32).toInt = 0 := (by decide); omega, by have zq0 : (0 : Int32).toInt = 0 := (by decide); omega, by omega, by have zq0 : (0 : Int32).toInt = 0 := (by decide); omega, Wd, lv_sub hl [0, 1, 2, 3, 4, 5, 6] rfl⟩
  obtain ⟨j15_C_h3, j15_L_5, j15_L_6⟩ := u
  obtain ⟨i15_0, i15_1, i15_2, i15_3, i15_4, i15_5, i15_6, i15_7, i15_8, i15_9, Wd, hl⟩ := hi
  refine lv_iload C.1 C.2.1 dX8_reckon_15 (lv_at hl 0 rfl) ?_
  refine lv_iload_n C.1 C.2.1 dX8_reckon_17 rfl (lv_at hl 3 rfl) ?_
  refine k_cutA (fun (_ : Unit) H locs ls => wX D [(a_h_0, .int), (a_h3, .int), (a_h2, .int)] s [(h, .inr (8, [.ref h_0, .int h_1])), (h_0, .inl (a_h_0, n_h_0, .inl f_h_0)), (h3, .inl (a_h3, n_h3, .inl j15_C_h3)), (h2, .inl (a_h2, n_h2, .inl f_h2))] H A s.heap locs ∧ lv_has ls 9 [(6, .int j15_L_6), (5, .int j15_L_5), (0, .ref h), (1, .int x0), (2, .int x1), (3, .ref h2), (4, .ref h3)]) (fun (_ : Unit) ls => F0 m 143 ls []) (fun _ H locs ls hi => ?_) (fun J143 => ?_)
  · obtain ⟨Wd, hl⟩ := hi
    exact k_vret C hr hlk Wd j15_C_h3 trivial [0, 1, 2, 3] rfl (by decide) [] rfl (by decide) (by decide) dX8_reckon_143
  refine lv_icmp_lt (tgt := 143) C.1 C.2.1 dX8_reckon_18 (by decide) (fun c18 => ?_) (fun c18 => ?_)
  · have i18 : j15_L_6.toInt < x0.toInt := kz_lt c18
    exact J143 () _ _ _ ⟨Wd, lv_sub hl [0, 1, 2, 3, 4, 5, 6] rfl⟩
  · have i18 : x0.toInt ≤ j15_L_6.toInt := kz_nlt c18
    refine lv_iload C.1 C.2.1 dX8_reckon_21 (lv_at hl 0 rfl) ?_
    refine lv_if_lt (tgt := 143) C.1 C.2.1 dX8_reckon_23 (by decide) (fun c23 => ?_) (fun c23 => ?_)
    · have i23 : j15_L_6.toInt < 0 := kz_lt c23
      exact J143 () _ _ _ ⟨Wd, lv_sub hl [0, 1, 2, 3, 4, 5, 6] rfl⟩
    · have i23 : 0 ≤ j15_L_6.toInt := kz_nlt c23
      refine lv_aload_n C.1 C.2.1 dX8_reckon_26 rfl (lv_at hl 2 rfl) ?_
      refine k_get C Wd KX8 0 0 rfl (by decide) fl_X8_15 rfl dX8_reckon_27 ?_
      refine lv_iload C.1 C.2.1 dX8_reckon_30 (lv_at hl 0 rfl) ?_
      obtain ⟨v32, ev32⟩ : ∃ z : Int32, f_h_0 j15_L_6.toNatClampNeg = z := ⟨_, rfl⟩
      refine k_iald (v := v32) C Wd 1 0 rfl rfl (vp_in_iff.mpr ⟨by omega, by omega⟩) ev32 dX8_reckon_32 ?_
      refine lv_istore (lv' := [(7, .int v32), (6, .int j15_L_6), (5, .int j15_L_5), (0, .ref h), (1, .int x0), (2, .int x1), (3, .ref h2), (4, .ref h3)]) C.1 C.2.1 dX8_reckon_33 hl (by decide) rfl (fun ls hl => ?_)
      refine lv_iload C.1 C.2.1 dX8_reckon_35 (lv_at hl 0 rfl) ?_
      refine k_pi (k_runS (rest := []) C aks Wd cs_X8_49 (sX8_isOperation l D v32 _ ) [] rfl (by decide) [] rfl rfl rfl ⟨(Nat.le_of_ble_eq_true rfl), (Nat.le_of_ble_eq_true rfl)⟩ hl.1 rfl rfl (Nat.le_of_ble_eq_true rfl) ⟨(Nat.le_of_ble_eq_true rfl), (Nat.le_of_ble_eq_true rfl)⟩ dX8_reckon_37) (fun r37 w37 => ?_)
      obtain ⟨g37_0, g37_1⟩ := w37
      have g37_0 : 0 ≤ r37.toInt := g37_0
      have g37_1 : r37.toInt ≤ 1 := g37_1
      refine k_cutA (fun (u : (Int32) × (Nat → Int32)) H locs ls => match u with | (j137_L_5, j137_C_h3) => 0 ≤ j137_L_5.toInt ∧ j137_L_5.toInt ≤ 100000 ∧ j137_L_5.toInt ≤ (n_h3 : Int) ∧ j137_L_5.toInt ≤ j15_L_5.toInt + 1 ∧ j15_L_5.toInt ≤ j137_L_5.toInt + 1 ∧ wX D [(a_h_0, .int), (a_h3, .int), (a_h2, .int)] s [(h, .inr (8, [.ref h_0, .int h_1])), (h_0, .inl (a_h_0, n_h_0, .inl f_h_0)), (h3, .inl (a_h3, n_h3, .inl j137_C_h3)), (h2, .inl (a_h2, n_h2, .inl f_h2))] H A s.heap locs ∧ lv_has ls 9 [(7, .int v32), (6, .int j15_L_6), (5, .int j137_L_5), (0, .ref h), (1, .int x0), (2, .int x1), (3, .ref h2), (4, .ref h3)]) (fun (u : (Int32) × (Nat → Int32)) ls => match u with | (j137_L_5, j137_C_h3) => F0 m 137 ls []) (fun u H locs ls hi => ?_) (fun J137 => ?_)
      · obtain ⟨j137_L_5, j137_C_h3⟩ := u
        obtain ⟨i137_0, i137_1, i137_2, i137_3, i137_4, Wd, hl⟩ := hi
        obtain ⟨v137, ev137⟩ : ∃ z : Int32, j15_L_6 + (-1) = z := ⟨_, rfl⟩
        have iv137 : v137.toInt = j15_L_6.toInt + (-1) := kz_addc ev137 (by decide) (by have zr0 := kz_rng j15_L_6; omega) (by have zr0 := kz_rng j15_L_6; omega)
        refine lv_iinc (v := v137) (lv' := [(6, .int v137), (7, .int v32), (5, .int j137_L_5), (0, .ref h), (1, .int x0), (2, .int x1), (3, .ref h2), (4, .ref h3)]) C.1 C.2.1 dX8_reckon_137 hl (k := 1) rfl ev137 (by decide) rfl (fun ls hl => ?_)
        refine lv_goto (tgt := 15) C.1 C.2.1 dX8_reckon_140 (by decide) ?_
        exact ih15 (j137_C_h3, j137_L_5, v137) _ _ _ ⟨by omega, by omega, by omega, by omega, by omega, by omega, by omega, by omega, by omega, by omega, Wd, lv_sub hl [0, 2, 3, 4, 5, 6, 7] rfl⟩ (by show (v137.toInt + 2).toNat < (j15_L_6.toInt + 2).toNat; omega)
      refine lv_if_eq (tgt := 89) C.1 C.2.1 dX8_reckon_40 (by decide) (fun c40 => ?_) (fun c40 => ?_)
      · have i40 : r37.toInt = 0 := kz_eq c40
        refine lv_iload C.1 C.2.1 dX8_reckon_89 (lv_at hl 2 rfl) ?_
        refine lv_aload C.1 C.2.1 dX8_reckon_91 (lv_at hl 7 rfl) ?_
        obtain ⟨v93, ev93⟩ : ∃ z : Int32, Int32.ofNat n_h3 = z := ⟨_, rfl⟩
        have iv93 : v93.toInt = (n_h3 : Int) := kz_len ev93 (by omega)
        refine k_alen (v := v93) C Wd 2 1 rfl rfl ev93 dX8_reckon_93 ?_
        refine lv_icmp_ge (tgt := 137) C.1 C.2.1 dX8_reckon_94 (by decide) (fun c94 => ?_) (fun c94 => ?_)
        · have i94 : v93.toInt ≤ j15_L_5.toInt := kz_le c94
          exact J137 (j15_L_5, j15_C_h3) _ _ _ ⟨by omega, by omega, by omega, by omega, by omega, Wd, lv_sub hl [0, 1, 2, 3, 4, 5, 6, 7] rfl⟩
        · have i94 : j15_L_5.toInt < v93.toInt := kz_nle c94
          refine lv_iload C.1 C.2.1 dX8_reckon_97 (lv_at hl 0 rfl) ?_
          refine lv_bipush (v := 20) C.1 C.2.1 dX8_reckon_99 (by decide) ?_
          obtain ⟨v101, ev101⟩ : ∃ z : Int32, v32 - 20 = z := ⟨_, rfl⟩
          refine k_isub (v := v101) C ev101 dX8_reckon_101 ?_
          refine lv_istore (lv' := [(8, .int v101), (7, .int v32), (6, .int j15_L_6), (5, .int j15_L_5), (0, .ref h), (1, .int x0), (2, .int x1), (3, .ref h2), (4, .ref h3)]) C.1 C.2.1 dX8_reckon_102 hl (by decide) rfl (fun ls hl => ?_)
          refine lv_aload C.1 C.2.1 dX8_reckon_104 (lv_at hl 8 rfl) ?_
          refine lv_iload C.1 C.2.1 dX8_reckon_106 (lv_at hl 3 rfl) ?_
          refine lv_iload C.1 C.2.1 dX8_reckon_108 (lv_at hl 0 rfl) ?_
          refine k_cutA (fun (j133_S_0 : Int32) H locs ls => wX D [(a_h_0, .int), (a_h3, .int), (a_h2, .int)] s [(h, .inr (8, [.ref h_0, .int h_1])), (h_0, .inl (a_h_0, n_h_0, .inl f_h_0)), (h3, .inl (a_h3, n_h3, .inl j15_C_h3)), (h2, .inl (a_h2, n_h2, .inl f_h2))] H A s.heap locs ∧ lv_has ls 9 [(8, .int v101), (7, .int v32), (6, .int j15_L_6), (5, .int j15_L_5), (0, .ref h), (1, .int x0), (2, .int x1), (3, .ref h2), (4, .ref h3)]) (fun (j133_S_0 : Int32) ls => F0 m 133 ls [.int j133_S_0, .int j15_L_5, .ref h3]) (fun j133_S_0 H locs ls hi => ?_) (fun J133 => ?_)
          · obtain ⟨Wd, hl⟩ := hi
            obtain ⟨f133, ef133⟩ : ∃ z : Nat → Int32, upd j15_C_h3 j15_L_5.toNatClampNeg j133_S_0 = z := ⟨_, rfl⟩
            refine k_iast C Wd 2 1 [(h, .inr (8, [.ref h_0, .int h_1])), (h_0, .inl (a_h_0, n_h_0, .inl f_h_0)), (h3, .inl (a_h3, n_h3, .inl f133)), (h2, .inl (a_h2, n_h2, .inl f_h2))] rfl rfl (vp_in_iff.mpr ⟨by omega, by omega⟩) ef133 rfl dX8_reckon_133 (fun H locs Wd => ?_)
            obtain ⟨v134, ev134⟩ : ∃ z : Int32, j15_L_5 + 1 = z := ⟨_, rfl⟩
            have iv134 : v134.toInt = j15_L_5.toInt + 1 := kz_addc ev134 (by decide) (by have zr0 := kz_rng j15_L_5; omega) (by have zr0 := kz_rng j15_L_5; omega)
            refine lv_iinc (v := v134) (lv' := [(5, .int v134), (8, .int v101), (7, .int v32), (6, .int j15_L_6), (0, .ref h), (1, .int x0), (2, .int x1), (3, .ref h2), (4, .ref h3)]) C.1 C.2.1 dX8_reckon_134 hl (k := 3) rfl ev134 (by decide) rfl (fun ls hl => ?_)
            exact J137 (v134, f133) _ _ _ ⟨by omega, by omega, by omega, by omega, by omega, Wd, lv_sub hl [2, 3, 0, 4, 5, 6, 7, 8] rfl⟩
          refine lv_if_ge (tgt := 118) C.1 C.2.1 dX8_reckon_110 (by decide) (fun c110 => ?_) (fun c110 => ?_)
          · have i110 : 0 ≤ v101.toInt := kz_le c110
            refine lv_iload C.1 C.2.1 dX8_reckon_118 (lv_at hl 0 rfl) ?_
            refine lv_aload_n C.1 C.2.1 dX8_reckon_120 rfl (lv_at hl 7 rfl) ?_
            obtain ⟨v121, ev121⟩ : ∃ z : Int32, Int32.ofNat n_h2 = z := ⟨_, rfl⟩
            have iv121 : v121.toInt = (n_h2 : Int) := kz_len ev121 (by omega)
            refine k_alen (v := v121) C Wd 3 2 rfl rfl ev121 dX8_reckon_121 ?_
            refine lv_icmp_ge (tgt := 132) C.1 C.2.1 dX8_reckon_122 (by decide) (fun c122 => ?_) (fun c122 => ?_)
            · have i122 : v121.toInt ≤ v101.toInt := kz_le c122
              refine lv_iconst (v := 0) C.1 C.2.1 dX8_reckon_132 (by decide) ?_
              exact J133 0 _ _ _ ⟨Wd, lv_sub hl [0, 1, 2, 3, 4, 5, 6, 7, 8] rfl⟩
            · have i122 : v101.toInt < v121.toInt := kz_nle c122
              refine lv_aload_n C.1 C.2.1 dX8_reckon_125 rfl (lv_at hl 7 rfl) ?_
              refine lv_iload C.1 C.2.1 dX8_reckon_126 (lv_at hl 0 rfl) ?_
              obtain ⟨v128, ev128⟩ : ∃ z : Int32, f_h2 v101.toNatClampNeg = z := ⟨_, rfl⟩
              refine k_iald (v := v128) C Wd 3 2 rfl rfl (vp_in_iff.mpr ⟨by omega, by omega⟩) ev128 dX8_reckon_128 ?_
              refine lv_goto (tgt := 133) C.1 C.2.1 dX8_reckon_129 (by decide) ?_
              exact J133 v128 _ _ _ ⟨Wd, lv_sub hl [0, 1, 2, 3, 4, 5, 6, 7, 8] rfl⟩
          · have i110 : v101.toInt < 0 := kz_nle c110
            refine lv_iload C.1 C.2.1 dX8_reckon_113 (lv_at hl 1 rfl) ?_
            refine lv_goto (tgt := 133) C.1 C.2.1 dX8_reckon_115 (by decide) ?_
            exact J133 v32 _ _ _ ⟨Wd, lv_sub hl [0, 1, 2, 3, 4, 5, 6, 7, 8] rfl⟩
      · have i40 : ¬ r37.toInt = 0 := kz_ne c40
        refine lv_iload C.1 C.2.1 dX8_reckon_43 (lv_at hl 2 rfl) ?_
        refine lv_iconst (v := 2) C.1 C.2.1 dX8_reckon_45 (by decide) ?_
        refine lv_icmp_lt (tgt := 137) C.1 C.2.1 dX8_reckon_46 (by decide) (fun c46 => ?_) (fun c46 => ?_)
        · have i46 : j15_L_5.toInt < 2 := kz_lt c46
          exact J137 (j15_L_5, j15_C_h3) _ _ _ ⟨by omega, by omega, by omega, by omega, by omega, Wd, lv_sub hl [0, 1, 2, 3, 4, 5, 6, 7] rfl⟩
        · have i46 : 2 ≤ j15_L_5.toInt := kz_nlt c46
          refine lv_iload C.1 C.2.1 dX8_reckon_49 (lv_at hl 2 rfl) ?_
          refine lv_aload C.1 C.2.1 dX8_reckon_51 (lv_at hl 7 rfl) ?_
          obtain ⟨v53, ev53⟩ : ∃ z : Int32, Int32.ofNat n_h3 = z := ⟨_, rfl⟩
          have iv53 : v53.toInt = (n_h3 : Int) := kz_len ev53 (by omega)
          refine k_alen (v := v53) C Wd 2 1 rfl rfl ev53 dX8_reckon_53 ?_
          refine lv_icmp_gt (tgt := 137) C.1 C.2.1 dX8_reckon_54 (by decide) (fun c54 => False.elim (by have i54 : v53.toInt < j15_L_5.toInt := kz_lt c54; omega)) (fun _ => ?_)
          refine lv_aload C.1 C.2.1 dX8_reckon_57 (lv_at hl 7 rfl) ?_
          refine lv_iload C.1 C.2.1 dX8_reckon_59 (lv_at hl 2 rfl) ?_
          refine lv_iconst (v := 2) C.1 C.2.1 dX8_reckon_61 (by decide) ?_
          obtain ⟨v62, ev62⟩ : ∃ z : Int32, j15_L_5 - 2 = z := ⟨_, rfl⟩
          have iv62 : v62.toInt = j15_L_5.toInt - 2 := kz_subc ev62 (by decide) (by have zr0 := kz_rng j15_L_5; omega) (by have zr0 := kz_rng j15_L_5; omega)
          refine k_isub (v := v62) C ev62 dX8_reckon_62 ?_
          refine lv_iload C.1 C.2.1 dX8_reckon_63 (lv_at hl 0 rfl) ?_
          refine lv_aload C.1 C.2.1 dX8_reckon_65 (lv_at hl 7 rfl) ?_
          refine lv_iload C.1 C.2.1 dX8_reckon_67 (lv_at hl 2 rfl) ?_
          refine lv_iconst (v := 1) C.1 C.2.1 dX8_reckon_69 (by decide) ?_
          obtain ⟨v70, ev70⟩ : ∃ z : Int32, j15_L_5 - 1 = z := ⟨_, rfl⟩
          have iv70 : v70.toInt = j15_L_5.toInt - 1 := kz_subc ev70 (by decide) (by have zr0 := kz_rng j15_L_5; omega) (by have zr0 := kz_rng j15_L_5; omega)
          refine k_isub (v := v70) C ev70 dX8_reckon_70 ?_
          obtain ⟨v71, ev71⟩ : ∃ z : Int32, j15_C_h3 v70.toNatClampNeg = z := ⟨_, rfl⟩
          refine k_iald (v := v71) C Wd 2 1 rfl rfl (vp_in_iff.mpr ⟨by omega, by omega⟩) ev71 dX8_reckon_71 ?_
          refine lv_aload C.1 C.2.1 dX8_reckon_72 (lv_at hl 7 rfl) ?_
          refine lv_iload C.1 C.2.1 dX8_reckon_74 (lv_at hl 2 rfl) ?_
          refine lv_iconst (v := 2) C.1 C.2.1 dX8_reckon_76 (by decide) ?_
          obtain ⟨v77, ev77⟩ : ∃ z : Int32, j15_L_5 - 2 = z := ⟨_, rfl⟩
          have iv77 : v77.toInt = j15_L_5.toInt - 2 := kz_subc ev77 (by decide) (by have zr0 := kz_rng j15_L_5; omega) (by have zr0 := kz_rng j15_L_5; omega)
          refine k_isub (v := v77) C ev77 dX8_reckon_77 ?_
          obtain ⟨v78, ev78⟩ : ∃ z : Int32, j15_C_h3 v77.toNatClampNeg = z := ⟨_, rfl⟩
          refine k_iald (v := v78) C Wd 2 1 rfl rfl (vp_in_iff.mpr ⟨by omega, by omega⟩) ev78 dX8_reckon_78 ?_
          refine k_pi (k_runS (rest := [.int v62, .ref h3]) C aks Wd cs_X8_68 (sX8_result l D v32 v71 v78 _ ) [] rfl (by decide) [] rfl rfl rfl ⟨(Nat.le_of_ble_eq_true rfl), (Nat.le_of_ble_eq_true rfl)⟩ hl.1 rfl rfl (Nat.le_of_ble_eq_true rfl) ⟨(Nat.le_of_ble_eq_true rfl), (Nat.le_of_ble_eq_true rfl)⟩ dX8_reckon_79) (fun r79 w79 => ?_)
          obtain ⟨f82, ef82⟩ : ∃ z : Nat → Int32, upd j15_C_h3 v62.toNatClampNeg r79 = z := ⟨_, rfl⟩
          refine k_iast C Wd 2 1 [(h, .inr (8, [.ref h_0, .int h_1])), (h_0, .inl (a_h_0, n_h_0, .inl f_h_0)), (h3, .inl (a_h3, n_h3, .inl f82)), (h2, .inl (a_h2, n_h2, .inl f_h2))] rfl rfl (vp_in_iff.mpr ⟨by omega, by omega⟩) ef82 rfl dX8_reckon_82 (fun H locs Wd => ?_)
          obtain ⟨v83, ev83⟩ : ∃ z : Int32, j15_L_5 + (-1) = z := ⟨_, rfl⟩
          have iv83 : v83.toInt = j15_L_5.toInt + (-1) := kz_addc ev83 (by decide) (by have zr0 := kz_rng j15_L_5; omega) (by have zr0 := kz_rng j15_L_5; omega)
          refine lv_iinc (v := v83) (lv' := [(5, .int v83), (7, .int v32), (6, .int j15_L_6), (0, .ref h), (1, .int x0), (2, .int x1), (3, .ref h2), (4, .ref h3)]) C.1 C.2.1 dX8_reckon_83 hl (k := 2) rfl ev83 (by decide) rfl (fun ls hl => ?_)
          refine lv_goto (tgt := 137) C.1 C.2.1 dX8_reckon_86 (by decide) ?_
          exact J137 (v83, f82) _ _ _ ⟨by omega, by omega, by omega, by omega, by omega, Wd, lv_sub hl [1, 2, 0, 3, 4, 5, 6, 7] rfl⟩
set_option maxHeartbeats 4000000 in
set_option maxRecDepth 100000 in
theorem sX10_put (l : Launch) (D : va_G) (h : Nat) (x0 : Int32) (h_0 : Nat) (h_1 : Int32) (h_2 : Int32) (h_3 : Int32) (h_4 : Int32) (h_5 : Int32) (a_h_0 : ClassId) (f_h_0 : Nat → Int32) (sz : Nat) (k_h_1_lo : 0 ≤ h_1.toInt) (k_h_1_hi : h_1.toInt ≤ 800)  : Met l yX10_put (Cond.code yX10_put cX10_put 3 none :: gG) { frames := 1, cells := 0, slots := 0, locals := 64 } (cPre D [(a_h_0, .int)] [(h, .inr (10, [.ref h_0, .int h_1, .int h_2, .int h_3, .int h_4, .int h_5])), (h_0, .inl (a_h_0, 800, .inl f_h_0))] sz [.ref h, .int x0]) (va_Qv (fun (u : (Int32) × (Nat → Int32)) => match u with | (jX_F_h_1, jX_C_h_0) => 0 ≤ jX_F_h_1.toInt ∧ jX_F_h_1.toInt ≤ 800 ∧ h_1.toInt ≤ jX_F_h_1.toInt) (fun u t => cB D (va_A [(h, .inr (10, [.ref h_0, .int h_1, .int h_2, .int h_3, .int h_4, .int h_5])), (h_0, .inl (a_h_0, 800, .inl f_h_0))] sz) ((fun (_ : (Int32) × (Nat → Int32)) => ([] : List (ClassId × FieldType))) u) ((fun (u : (Int32) × (Nat → Int32)) => match u with | (jX_F_h_1, jX_C_h_0) => ([(h, .inr (10, [.ref h_0, .int jX_F_h_1, .int h_2, .int h_3, .int h_4, .int h_5])), (h_0, .inl (a_h_0, 800, .inl jX_C_h_0))] : va_W)) u) t) (va_A [(h, .inr (10, [.ref h_0, .int h_1, .int h_2, .int h_3, .int h_4, .int h_5])), (h_0, .inl (a_h_0, 800, .inl f_h_0))] sz)) 0 0 (va_A [(h, .inr (10, [.ref h_0, .int h_1, .int h_2, .int h_3, .int h_4, .int h_5])), (h_0, .inl (a_h_0, 800, .inl f_h_0))] sz) := by
  refine Met.ofW (cc := cX10_put) (maxL := 3) (ret := none) (by decide) rfl ?_
  intro p e s m args below meth c s₁ B hml hv
  obtain ⟨rfl, aks, rfl, Wd⟩ := k_enter hv
  have C : CallFix p m c cX10_put 3 s _ gG RX10 := ⟨B.exec, B.bytes, hml, findClass_of_methodNamed B.named, fun w h => atoms_spec (ws := Cond.code yX10_put cX10_put 3 none :: gG) B.pre w (List.mem_cons_of_mem _ h)⟩
  have hr := B.returns
  have hlk := B.notSynchronized
  generalize va_A [(h, .inr (10, [.ref h_0, .int h_1, .int h_2, .int h_3, .int h_4, .int h_5])), (h_0, .inl (a_h_0, 800, .inl f_h_0))] s.heap.size = A at Wd ⊢
  refine k_locals (Nat.le_of_ble_eq_true rfl) [(0, .ref h), (1, .int x0)] rfl (fun ls hl => ?_)
  refine lv_bipush (v := 24) C.1 C.2.1 dX10_put_0 (by decide) ?_
  refine lv_istore_n (lv' := [(2, .int 24), (0, .ref h), (1, .int x0)]) C.1 C.2.1 dX10_put_2 rfl hl (by decide) rfl (fun ls hl => ?_)
  refine k_loopA (fun (u : (Nat → Int32) × (Int32) × (Int32)) H locs ls => match u with | (j3_C_h_0, j3_F_h_1, j3_L_2) => 0 ≤ j3_F_h_1.toInt ∧ -8 ≤ j3_L_2.toInt ∧ j3_L_2.toInt ≤ 24 ∧ j3_F_h_1.toInt ≤ 800 ∧ h_1.toInt ≤ j3_F_h_1.toInt ∧ wX D [(a_h_0, .int)] s [(h, .inr (10, [.ref h_0, .int j3_F_h_1, .int h_2, .int h_3, .int h_4, .int h_5])), (h_0, .inl (a_h_0, 800, .inl j3_C_h_0))] H A s.heap locs ∧ lv_has ls 3 [(2, .int j3_L_2), (0, .ref h), (1, .int x0)]) (fun (u : (Nat → Int32) × (Int32) × (Int32)) ls => match u with | (j3_C_h_0, j3_F_h_1, j3_L_2) => F0 m 3 ls []) (fun (u : (Nat → Int32) × (Int32) × (Int32)) => match u with | (j3_C_h_0, j3_F_h_1, j3_L_2) => (801 - j3_F_h_1.toInt).toNat) (fun u H locs ls hi ih3 => ?_) (f_h_0, h_1, 24) _ _ _ ⟨by omega, by have zq24 : (24 : Int32).toInt = 24 := (by decide); omega, by have zq24 : (24 : Int32).toInt = 24 := (by decide); omega, by omega, by omega, Wd, lv_sub hl [0, 1, 2] rfl⟩
  obtain ⟨j3_C_h_0, j3_F_h_1, j3_L_2⟩ := u
  obtain ⟨i3_0, i3_1, i3_2, i3_3, i3_4, Wd, hl⟩ := hi
  refine lv_iload_n C.1 C.2.1 dX10_put_3 rfl (lv_at hl 0 rfl) ?_
  refine k_cutA (fun (_ : Unit) H locs ls => j3_L_2.toInt + 1 ≤ j3_F_h_1.toInt ∧ wX D [(a_h_0, .int)] s [(h, .inr (10, [.ref h_0, .int j3_F_h_1, .int h_2, .int h_3, .int h_4, .int h_5])), (h_0, .inl (a_h_0, 800, .inl j3_C_h_0))] H A s.heap locs ∧ lv_has ls 3 [(2, .int j3_L_2), (0, .ref h), (1, .int x0)]) (fun (_ : Unit) ls => F0 m 51 ls []) (fun _ H locs ls hi => ?_) (fun J51 => ?_)
  · obtain ⟨i51_0, Wd, hl⟩ := hi
    exact k_vret C hr hlk Wd (j3_F_h_1, j3_C_h_0) (by exact ⟨by omega, by omega, by omega⟩) [0, 1] rfl (by decide) [] rfl (by decide) (by decide) dX10_put_51
  refine lv_if_lt (tgt := 51) C.1 C.2.1 dX10_put_4 (by decide) (fun c4 => ?_) (fun c4 => ?_)
  · have i4 : j3_L_2.toInt < 0 := kz_lt c4
    exact J51 () _ _ _ ⟨by omega, Wd, lv_sub hl [0, 1, 2] rfl⟩
  · have i4 : 0 ≤ j3_L_2.toInt := kz_nlt c4
    refine lv_aload_n C.1 C.2.1 dX10_put_7 rfl (lv_at hl 1 rfl) ?_
    refine k_get C Wd KX10 0 1 rfl (by decide) fl_X10_15 rfl dX10_put_8 ?_
    refine lv_aload_n C.1 C.2.1 dX10_put_11 rfl (lv_at hl 1 rfl) ?_
    refine k_get C Wd KX10 0 0 rfl (by decide) fl_X10_11 rfl dX10_put_12 ?_
    refine k_alen (v := 800) C Wd 1 0 rfl rfl rfl dX10_put_15 ?_
    refine lv_icmp_ge (tgt := 51) C.1 C.2.1 dX10_put_16 (by decide) (fun c16 => ?_) (fun c16 => ?_)
    · have i16 : 800 ≤ j3_F_h_1.toInt := kz_le c16
      exact J51 () _ _ _ ⟨by omega, Wd, lv_sub hl [0, 1, 2] rfl⟩
    · have i16 : j3_F_h_1.toInt < 800 := kz_nle c16
      refine lv_aload_n C.1 C.2.1 dX10_put_19 rfl (lv_at hl 1 rfl) ?_
      refine k_get C Wd KX10 0 0 rfl (by decide) fl_X10_11 rfl dX10_put_20 ?_
      refine lv_aload_n C.1 C.2.1 dX10_put_23 rfl (lv_at hl 1 rfl) ?_
      refine k_get C Wd KX10 0 1 rfl (by decide) fl_X10_15 rfl dX10_put_24 ?_
      refine lv_iload_n C.1 C.2.1 dX10_put_27 rfl (lv_at hl 2 rfl) ?_
      refine lv_iload_n C.1 C.2.1 dX10_put_28 rfl (lv_at hl 0 rfl) ?_
      obtain ⟨v29, ev29⟩ : ∃ z : Int32, (x0.toUInt32 >>> (Int32.toUInt32 j3_L_2 &&& Int32.toUInt32 31)).toInt32 = z := ⟨_, rfl⟩
      refine lv_iushr (v := v29) C.1 C.2.1 dX10_put_29 ev29 ?_
      refine lv_sipush (v := 255) C.1 C.2.1 dX10_put_30 (by decide) ?_
      obtain ⟨v33, ev33⟩ : ∃ z : Int32, v29 &&& 255 = z := ⟨_, rfl⟩
      refine k_iand (v := v33) C ev33 dX10_put_33 ?_
      obtain ⟨f34, ef34⟩ : ∃ z : Nat → Int32, upd j3_C_h_0 j3_F_h_1.toNatClampNeg v33 = z := ⟨_, rfl⟩
      refine k_iast C Wd 1 0 [(h, .inr (10, [.ref h_0, .int j3_F_h_1, .int h_2, .int h_3, .int h_4, .int h_5])), (h_0, .inl (a_h_0, 800, .inl f34))] rfl rfl (vp_in_iff.mpr ⟨by omega, by omega⟩) ef34 rfl dX10_put_34 (fun H locs Wd => ?_)
      refine lv_aload_n C.1 C.2.1 dX10_put_35 rfl (lv_at hl 1 rfl) ?_
      refine lv_dup C.1 C.2.1 dX10_put_36 rfl ?_
      refine k_get C Wd KX10 0 1 rfl (by decide) fl_X10_15 rfl dX10_put_37 ?_
      refine lv_iconst (v := 1) C.1 C.2.1 dX10_put_40 (by decide) ?_
      obtain ⟨v41, ev41⟩ : ∃ z : Int32, j3_F_h_1 + 1 = z := ⟨_, rfl⟩
      have iv41 : v41.toInt = j3_F_h_1.toInt + 1 := kz_addc ev41 (by decide) (by have zr0 := kz_rng j3_F_h_1; omega) (by have zr0 := kz_rng j3_F_h_1; omega)
      refine k_iadd (v := v41) C ev41 dX10_put_41 ?_
      refine k_put C Wd KX10 0 1 [(h, .inr (10, [.ref h_0, .int v41, .int h_2, .int h_3, .int h_4, .int h_5])), (h_0, .inl (a_h_0, 800, .inl f34))] rfl (by decide) fl_X10_15 rfl rfl rfl (Nat.le_of_ble_eq_true rfl) rfl dX10_put_42 (fun H locs Wd => ?_)
      obtain ⟨v45, ev45⟩ : ∃ z : Int32, j3_L_2 + (-8) = z := ⟨_, rfl⟩
      have iv45 : v45.toInt = j3_L_2.toInt + (-8) := kz_addc ev45 (by decide) (by have zr0 := kz_rng j3_L_2; omega) (by have zr0 := kz_rng j3_L_2; omega)
      refine lv_iinc (v := v45) (lv' := [(2, .int v45), (0, .ref h), (1, .int x0)]) C.1 C.2.1 dX10_put_45 hl (k := 0) rfl ev45 (by decide) rfl (fun ls hl => ?_)
      refine lv_goto (tgt := 3) C.1 C.2.1 dX10_put_48 (by decide) ?_
      exact ih3 (f34, v41, v45) _ _ _ ⟨by omega, by omega, by omega, by omega, by omega, Wd, lv_sub hl [0, 1, 2] rfl⟩ (by show (801 - v41.toInt).toNat < (801 - j3_F_h_1.toInt).toNat; omega)
set_option maxHeartbeats 4000000 in
set_option maxRecDepth 100000 in
theorem sX10_shorten (l : Launch) (D : va_G) (h : Nat) (x0 : Int32) (h_0 : Nat) (h_1 : Int32) (h_2 : Int32) (h_3 : Int32) (h_4 : Int32) (h_5 : Int32) (sz : Nat) (k_h_1_lo : 0 ≤ h_1.toInt) (k_h_1_hi : h_1.toInt ≤ 800)  : Met l yX10_shorten (Cond.code yX10_shorten cX10_shorten 2 (some .boolean) :: gG) { frames := 1, cells := 0, slots := 0, locals := 64 } (cPre D [] [(h, .inr (10, [.ref h_0, .int h_1, .int h_2, .int h_3, .int h_4, .int h_5]))] sz [.ref h, .int x0]) (va_Qi (fun (r : Int32) (jX_F_h_1 : Int32) => 0 ≤ jX_F_h_1.toInt ∧ 0 ≤ r.toInt ∧ r.toInt ≤ 1 ∧ jX_F_h_1.toInt ≤ 800 ∧ jX_F_h_1.toInt ≤ h_1.toInt) (fun u t => cB D (va_A [(h, .inr (10, [.ref h_0, .int h_1, .int h_2, .int h_3, .int h_4, .int h_5]))] sz) ((fun (_ : (Int32)) => ([] : List (ClassId × FieldType))) u) ((fun (jX_F_h_1 : Int32) => ([(h, .inr (10, [.ref h_0, .int jX_F_h_1, .int h_2, .int h_3, .int h_4, .int h_5]))] : va_W)) u) t) (va_A [(h, .inr (10, [.ref h_0, .int h_1, .int h_2, .int h_3, .int h_4, .int h_5]))] sz)) 0 0 (va_A [(h, .inr (10, [.ref h_0, .int h_1, .int h_2, .int h_3, .int h_4, .int h_5]))] sz) := by
  refine Met.ofW (cc := cX10_shorten) (maxL := 2) (ret := (some .boolean)) (by decide) rfl ?_
  intro p e s m args below meth c s₁ B hml hv
  obtain ⟨rfl, aks, rfl, Wd⟩ := k_enter hv
  have C : CallFix p m c cX10_shorten 2 s _ gG RX10 := ⟨B.exec, B.bytes, hml, findClass_of_methodNamed B.named, fun w h => atoms_spec (ws := Cond.code yX10_shorten cX10_shorten 2 (some .boolean) :: gG) B.pre w (List.mem_cons_of_mem _ h)⟩
  have hr := B.returns
  have hlk := B.notSynchronized
  generalize va_A [(h, .inr (10, [.ref h_0, .int h_1, .int h_2, .int h_3, .int h_4, .int h_5]))] s.heap.size = A at Wd ⊢
  refine k_locals (Nat.le_of_ble_eq_true rfl) [(0, .ref h), (1, .int x0)] rfl (fun ls hl => ?_)
  refine lv_iload_n C.1 C.2.1 dX10_shorten_0 rfl (lv_at hl 1 rfl) ?_
  refine k_cutA (fun (_ : Unit) H locs ls => wX D [] s [(h, .inr (10, [.ref h_0, .int h_1, .int h_2, .int h_3, .int h_4, .int h_5]))] H A s.heap locs ∧ lv_has ls 2 [(0, .ref h), (1, .int x0)]) (fun (_ : Unit) ls => F0 m 12 ls []) (fun _ H locs ls hi => ?_) (fun J12 => ?_)
  · obtain ⟨Wd, hl⟩ := hi
    refine lv_iconst (v := 0) C.1 C.2.1 dX10_shorten_12 (by decide) ?_
    exact k_zret C hr hlk rfl Wd h_1 (by exact ⟨by omega, by have zq0 : (0 : Int32).toInt = 0 := (by decide); omega, by have zq0 : (0 : Int32).toInt = 0 := (by decide); omega, by omega, by omega⟩) [0] rfl (by decide) [] rfl (by decide) (by decide) dX10_shorten_13
  refine lv_if_lt (tgt := 12) C.1 C.2.1 dX10_shorten_1 (by decide) (fun c1 => ?_) (fun c1 => ?_)
  · have i1 : x0.toInt < 0 := kz_lt c1
    exact J12 () _ _ _ ⟨Wd, lv_sub hl [0, 1] rfl⟩
  · have i1 : 0 ≤ x0.toInt := kz_nlt c1
    refine lv_iload_n C.1 C.2.1 dX10_shorten_4 rfl (lv_at hl 1 rfl) ?_
    refine lv_aload_n C.1 C.2.1 dX10_shorten_5 rfl (lv_at hl 0 rfl) ?_
    refine k_get C Wd KX10 0 1 rfl (by decide) fl_X10_15 rfl dX10_shorten_6 ?_
    refine lv_icmp_le (tgt := 14) C.1 C.2.1 dX10_shorten_9 (by decide) (fun c9 => ?_) (fun c9 => ?_)
    · have i9 : x0.toInt ≤ h_1.toInt := kz_le c9
      refine lv_aload_n C.1 C.2.1 dX10_shorten_14 rfl (lv_at hl 0 rfl) ?_
      refine lv_iload_n C.1 C.2.1 dX10_shorten_15 rfl (lv_at hl 1 rfl) ?_
      refine k_put C Wd KX10 0 1 [(h, .inr (10, [.ref h_0, .int x0, .int h_2, .int h_3, .int h_4, .int h_5]))] rfl (by decide) fl_X10_15 rfl rfl rfl (Nat.le_of_ble_eq_true rfl) rfl dX10_shorten_16 (fun H locs Wd => ?_)
      refine lv_iconst (v := 1) C.1 C.2.1 dX10_shorten_19 (by decide) ?_
      exact k_zret C hr hlk rfl Wd x0 (by exact ⟨by omega, by have zq1 : (1 : Int32).toInt = 1 := (by decide); omega, by have zq1 : (1 : Int32).toInt = 1 := (by decide); omega, by omega, by omega⟩) [0] rfl (by decide) [] rfl (by decide) (by decide) dX10_shorten_20
    · have i9 : h_1.toInt < x0.toInt := kz_nle c9
      exact J12 () _ _ _ ⟨Wd, lv_sub hl [0, 1] rfl⟩
