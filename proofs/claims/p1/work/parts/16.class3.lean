set_option maxHeartbeats 4000000 in
set_option maxRecDepth 100000 in
theorem kcX11_clash (l : Launch) (D : va_G) (h0 h1 h2 h3 h4 h5 h6 h7 : Nat) (x0 x1 x2 : Int32) (g0 : Nat → Option Nat) (a0 : ClassId) (sz : Nat)  (as0 : x0 < (0 : Int32)): Met l yX11_clash (Cond.code yX11_clash cX11_clash 5 (some .int) :: gG) { frames := 2, cells := 0, slots := 0, locals := 85 } (cPre D [(a0, .object RX8)] [(h0, .inr (11, [.ref h1, .int 0, .ref h2, .ref h3, .ref h4, .ref h5, .ref h6, .ref h7])), (h1, .inl (a0, 6, .inr (.inr (.inr (.inr g0)))))] sz [.ref h0, .int x0, .int x1, .int x2]) (vp_Si (fun r => x0 < (0 : Int32) ∧ r = (-1))) 0 0 (fun _ => False) := by
  refine Met.ofW (cc := cX11_clash) (maxL := 5) (ret := (some .int)) (by decide) rfl ?_
  intro p e s m args below meth c s₁ B hml hv
  obtain ⟨rfl, aks, rfl, Wd⟩ := k_enter hv
  have C : CallFix p m c cX11_clash 5 s _ gG RX11 := ⟨B.exec, B.bytes, hml, findClass_of_methodNamed B.named, fun w h => atoms_spec (ws := Cond.code yX11_clash cX11_clash 5 (some .int) :: gG) B.pre w (List.mem_cons_of_mem _ h)⟩
  have hr := B.returns
  have hlk := B.notSynchronized
  obtain ⟨A, Wd⟩ : ∃ A, wX D [(a0, .object RX8)] s [(h0, .inr (11, [.ref h1, .int 0, .ref h2, .ref h3, .ref h4, .ref h5, .ref h6, .ref h7])), (h1, .inl (a0, 6, .inr (.inr (.inr (.inr g0)))))] s.heap A s.heap [] := ⟨_, Wd⟩
  refine k_locals (Nat.le_of_ble_eq_true rfl) [(0, .ref h0), (1, .int x0), (2, .int x1), (3, .int x2)] rfl (fun ls hl => ?_)
  refine lv_aload_n C.1 C.2.1 dX11_clash_0 rfl (lv_at hl 0 rfl) ?_
  refine lv_iload_n C.1 C.2.1 dX11_clash_1 rfl (lv_at hl 1 rfl) ?_
  refine k_pq (k_runV (rest := []) C aks Wd cs_X11_77 (kcX11_slotAt l D h0 h1 h2 h3 h4 h5 h6 h7 x0 g0 a0 _ ) [0, 1] rfl (by decide) [0] rfl 0 11 rfl rfl rfl rfl rfl ⟨(Nat.le_of_ble_eq_true rfl), (Nat.le_of_ble_eq_true rfl)⟩ hl.1 rfl rfl (Nat.le_of_ble_eq_true rfl) ⟨(Nat.le_of_ble_eq_true rfl), (Nat.le_of_ble_eq_true rfl)⟩ dX11_clash_2) (fun r w2735 => ?_)
  rcases w2735 with ⟨c2736, rfl⟩ | ⟨c2737, c2738, rfl⟩ | ⟨c2739, c2740, rfl⟩
  · refine W.eq (g2 := F0 m 5 ls [.null]) rfl ?_
    refine lv_astoreN (lv' := [(4, .null), (0, .ref h0), (1, .int x0), (2, .int x1), (3, .int x2)]) C.1 C.2.1 dX11_clash_5 hl (by decide) rfl (fun ls hl => ?_)
    refine lv_aloadN C.1 C.2.1 dX11_clash_7 (lv_at hl 0 rfl) ?_
    refine lv_ifnullN (tgt := 31) C.1 C.2.1 dX11_clash_9 (by decide) ?_
    refine lv_iconst (v := (-1)) C.1 C.2.1 dX11_clash_31 (by decide) ?_
    exact k_zretP C hr hlk rfl ⟨c2736, rfl⟩ dX11_clash_32
  · exact absurd as0 c2737
  · exact absurd as0 c2739
set_option maxHeartbeats 4000000 in
set_option maxRecDepth 100000 in
theorem kcX11_clash_v1 (l : Launch) (D : va_G) (h0 h1 h2 h3 h4 h5 h6 h7 : Nat) (x0 x1 x2 : Int32) (g0 : Nat → Option Nat) (a0 : ClassId) (sz : Nat)  (as0 : ¬ x0 < (6 : Int32)): Met l yX11_clash (Cond.code yX11_clash cX11_clash 5 (some .int) :: gG) { frames := 2, cells := 0, slots := 0, locals := 85 } (cPre D [(a0, .object RX8)] [(h0, .inr (11, [.ref h1, .int 0, .ref h2, .ref h3, .ref h4, .ref h5, .ref h6, .ref h7])), (h1, .inl (a0, 6, .inr (.inr (.inr (.inr g0)))))] sz [.ref h0, .int x0, .int x1, .int x2]) (vp_Si (fun r => ¬ x0 < (0 : Int32) ∧ (6 : Int32) ≤ x0 ∧ r = (-1))) 0 0 (fun _ => False) := by
  refine Met.ofW (cc := cX11_clash) (maxL := 5) (ret := (some .int)) (by decide) rfl ?_
  intro p e s m args below meth c s₁ B hml hv
  obtain ⟨rfl, aks, rfl, Wd⟩ := k_enter hv
  have C : CallFix p m c cX11_clash 5 s _ gG RX11 := ⟨B.exec, B.bytes, hml, findClass_of_methodNamed B.named, fun w h => atoms_spec (ws := Cond.code yX11_clash cX11_clash 5 (some .int) :: gG) B.pre w (List.mem_cons_of_mem _ h)⟩
  have hr := B.returns
  have hlk := B.notSynchronized
  obtain ⟨A, Wd⟩ : ∃ A, wX D [(a0, .object RX8)] s [(h0, .inr (11, [.ref h1, .int 0, .ref h2, .ref h3, .ref h4, .ref h5, .ref h6, .ref h7])), (h1, .inl (a0, 6, .inr (.inr (.inr (.inr g0)))))] s.heap A s.heap [] := ⟨_, Wd⟩
  refine k_locals (Nat.le_of_ble_eq_true rfl) [(0, .ref h0), (1, .int x0), (2, .int x1), (3, .int x2)] rfl (fun ls hl => ?_)
  refine lv_aload_n C.1 C.2.1 dX11_clash_0 rfl (lv_at hl 0 rfl) ?_
  refine lv_iload_n C.1 C.2.1 dX11_clash_1 rfl (lv_at hl 1 rfl) ?_
  refine k_pq (k_runV (rest := []) C aks Wd cs_X11_77 (kcX11_slotAt l D h0 h1 h2 h3 h4 h5 h6 h7 x0 g0 a0 _ ) [0, 1] rfl (by decide) [0] rfl 0 11 rfl rfl rfl rfl rfl ⟨(Nat.le_of_ble_eq_true rfl), (Nat.le_of_ble_eq_true rfl)⟩ hl.1 rfl rfl (Nat.le_of_ble_eq_true rfl) ⟨(Nat.le_of_ble_eq_true rfl), (Nat.le_of_ble_eq_true rfl)⟩ dX11_clash_2) (fun r w2747 => ?_)
  rcases w2747 with ⟨c2748, rfl⟩ | ⟨c2749, c2750, rfl⟩ | ⟨c2751, c2752, rfl⟩
  · exact False.elim (by have z0 := kz_nlt as0; have z1 := kz_lt c2748; have t6 : (6 : Int32).toInt = 6 := (by decide); have t0 : (0 : Int32).toInt = 0 := (by decide); omega)
  · refine W.eq (g2 := F0 m 5 ls [.null]) rfl ?_
    refine lv_astoreN (lv' := [(4, .null), (0, .ref h0), (1, .int x0), (2, .int x1), (3, .int x2)]) C.1 C.2.1 dX11_clash_5 hl (by decide) rfl (fun ls hl => ?_)
    refine lv_aloadN C.1 C.2.1 dX11_clash_7 (lv_at hl 0 rfl) ?_
    refine lv_ifnullN (tgt := 31) C.1 C.2.1 dX11_clash_9 (by decide) ?_
    refine lv_iconst (v := (-1)) C.1 C.2.1 dX11_clash_31 (by decide) ?_
    exact k_zretP C hr hlk rfl ⟨c2749, c2750, rfl⟩ dX11_clash_32
  · exact False.elim (by have z0 := kz_nlt as0; have z1 := kz_nlt c2751; have z2 := kz_nle c2752; have t6 : (6 : Int32).toInt = 6 := (by decide); have t0 : (0 : Int32).toInt = 0 := (by decide); omega)
set_option maxHeartbeats 4000000 in
set_option maxRecDepth 100000 in
theorem kcX7_clashing (l : Launch) (D : va_G) (h0 h1 h2 h3 h4 : Nat) (x0 x1 : Int32) (a0 : ClassId) (sz : Nat)  : Met l yX7_clashing (Cond.code yX7_clashing cX7_clashing 3 (some .boolean) :: gG) { frames := 2, cells := 0, slots := 0, locals := 84 } (cPre D [(a0, .int)] [(h0, .inr (7, [.ref h1, .ref h2, .ref h3, .ref h4, .int 0])), (h2, .inl (a0, 6, .inl (fun _ => 0)))] sz [.ref h0, .int x0, .int x1]) (vp_Si (fun r => (x0 < (0 : Int32) ∧ r = 0) ∨ (¬ x0 < (0 : Int32) ∧ (6 : Int32) ≤ x0 ∧ r = 0) ∨ (¬ x0 < (0 : Int32) ∧ ¬ (6 : Int32) ≤ x0 ∧ x1 < (0 : Int32) ∧ r = 0) ∨ (¬ x0 < (0 : Int32) ∧ ¬ (6 : Int32) ≤ x0 ∧ ¬ x1 < (0 : Int32) ∧ (6 : Int32) ≤ x1 ∧ r = 0) ∨ (¬ x0 < (0 : Int32) ∧ ¬ (6 : Int32) ≤ x0 ∧ ¬ x1 < (0 : Int32) ∧ ¬ (6 : Int32) ≤ x1 ∧ r = 0))) 0 0 (fun _ => False) := by
  refine Met.ofW (cc := cX7_clashing) (maxL := 3) (ret := (some .boolean)) (by decide) rfl ?_
  intro p e s m args below meth c s₁ B hml hv
  obtain ⟨rfl, aks, rfl, Wd⟩ := k_enter hv
  have C : CallFix p m c cX7_clashing 3 s _ gG RX7 := ⟨B.exec, B.bytes, hml, findClass_of_methodNamed B.named, fun w h => atoms_spec (ws := Cond.code yX7_clashing cX7_clashing 3 (some .boolean) :: gG) B.pre w (List.mem_cons_of_mem _ h)⟩
  have hr := B.returns
  have hlk := B.notSynchronized
  obtain ⟨A, Wd⟩ : ∃ A, wX D [(a0, .int)] s [(h0, .inr (7, [.ref h1, .ref h2, .ref h3, .ref h4, .int 0])), (h2, .inl (a0, 6, .inl (fun _ => 0)))] s.heap A s.heap [] := ⟨_, Wd⟩
  refine k_locals (Nat.le_of_ble_eq_true rfl) [(0, .ref h0), (1, .int x0), (2, .int x1)] rfl (fun ls hl => ?_)
  refine lv_iload_n C.1 C.2.1 dX7_clashing_0 rfl (lv_at hl 1 rfl) ?_
  refine k_pi (k_runN (rest := []) C aks Wd aks.2.2.2 cs_X7_71 (kcX11_isVariable l D x0 _ ) [] rfl (by decide) [] rfl rfl rfl ⟨(Nat.le_of_ble_eq_true rfl), (Nat.le_of_ble_eq_true rfl)⟩ hl.1 rfl rfl (Nat.le_of_ble_eq_true rfl) ⟨(Nat.le_of_ble_eq_true rfl), (Nat.le_of_ble_eq_true rfl)⟩ dX7_clashing_1) (fun r w2798 => ?_)
  rcases w2798 with ⟨c2799, rfl⟩ | ⟨c2800, c2801, rfl⟩ | ⟨c2802, c2803, rfl⟩
  · refine lv_if_eq (tgt := 31) C.1 C.2.1 dX7_clashing_4 (by decide) (fun _ => ?_) (fun c2804 => absurd c2804 (by decide))
    refine lv_iconst (v := 0) C.1 C.2.1 dX7_clashing_31 (by decide) ?_
    exact k_zretP C hr hlk rfl (Or.inl (⟨c2799, rfl⟩)) dX7_clashing_32
  · refine lv_if_eq (tgt := 31) C.1 C.2.1 dX7_clashing_4 (by decide) (fun _ => ?_) (fun c2805 => absurd c2805 (by decide))
    refine lv_iconst (v := 0) C.1 C.2.1 dX7_clashing_31 (by decide) ?_
    exact k_zretP C hr hlk rfl (Or.inr (Or.inl (⟨c2800, c2801, rfl⟩))) dX7_clashing_32
  · refine lv_if_eq (tgt := 31) C.1 C.2.1 dX7_clashing_4 (by decide) (fun c2806 => absurd c2806 (by decide)) (fun _ => ?_)
    refine lv_iload_n C.1 C.2.1 dX7_clashing_7 rfl (lv_at hl 2 rfl) ?_
    refine k_pi (k_runN (rest := []) C aks Wd aks.2.2.2 cs_X7_71 (kcX11_isVariable l D x1 _ ) [] rfl (by decide) [] rfl rfl rfl ⟨(Nat.le_of_ble_eq_true rfl), (Nat.le_of_ble_eq_true rfl)⟩ hl.1 rfl rfl (Nat.le_of_ble_eq_true rfl) ⟨(Nat.le_of_ble_eq_true rfl), (Nat.le_of_ble_eq_true rfl)⟩ dX7_clashing_8) (fun r w2807 => ?_)
    rcases w2807 with ⟨c2808, rfl⟩ | ⟨c2809, c2810, rfl⟩ | ⟨c2811, c2812, rfl⟩
    · refine lv_if_eq (tgt := 31) C.1 C.2.1 dX7_clashing_11 (by decide) (fun _ => ?_) (fun c2813 => absurd c2813 (by decide))
      refine lv_iconst (v := 0) C.1 C.2.1 dX7_clashing_31 (by decide) ?_
      exact k_zretP C hr hlk rfl (Or.inr (Or.inr (Or.inl (⟨c2802, c2803, c2808, rfl⟩)))) dX7_clashing_32
    · refine lv_if_eq (tgt := 31) C.1 C.2.1 dX7_clashing_11 (by decide) (fun _ => ?_) (fun c2814 => absurd c2814 (by decide))
      refine lv_iconst (v := 0) C.1 C.2.1 dX7_clashing_31 (by decide) ?_
      exact k_zretP C hr hlk rfl (Or.inr (Or.inr (Or.inr (Or.inl (⟨c2802, c2803, c2809, c2810, rfl⟩))))) dX7_clashing_32
    · refine lv_if_eq (tgt := 31) C.1 C.2.1 dX7_clashing_11 (by decide) (fun c2815 => absurd c2815 (by decide)) (fun _ => ?_)
      refine lv_aload_n C.1 C.2.1 dX7_clashing_14 rfl (lv_at hl 0 rfl) ?_
      refine k_get C Wd KX7 0 1 rfl (by decide) fl_X7_18 rfl dX7_clashing_15 ?_
      refine lv_iload_n C.1 C.2.1 dX7_clashing_18 rfl (lv_at hl 1 rfl) ?_
      refine k_iald (v := 0) C Wd 1 0 rfl rfl (vp_in_iff.mpr ⟨by have z0 := kz_nlt c2802; have z1 := kz_nle c2803; have t0 : (0 : Int32).toInt = 0 := (by decide); have t6 : (6 : Int32).toInt = 6 := (by decide); omega, by have z0 := kz_nlt c2802; have z1 := kz_nle c2803; have t0 : (0 : Int32).toInt = 0 := (by decide); have t6 : (6 : Int32).toInt = 6 := (by decide); omega⟩) rfl dX7_clashing_19 ?_
      refine lv_iload_n C.1 C.2.1 dX7_clashing_20 rfl (lv_at hl 2 rfl) ?_
      refine k_ishr (v := 0) C (k_shr0 _) dX7_clashing_21 ?_
      refine lv_iconst (v := 1) C.1 C.2.1 dX7_clashing_22 (by decide) ?_
      refine k_iand (v := 0) C (by decide) dX7_clashing_23 ?_
      refine lv_if_eq (tgt := 31) C.1 C.2.1 dX7_clashing_24 (by decide) (fun _ => ?_) (fun c2816 => absurd c2816 (by decide))
      refine lv_iconst (v := 0) C.1 C.2.1 dX7_clashing_31 (by decide) ?_
      exact k_zretP C hr hlk rfl (Or.inr (Or.inr (Or.inr (Or.inr (⟨c2802, c2803, c2811, c2812, rfl⟩))))) dX7_clashing_32
set_option maxHeartbeats 4000000 in
set_option maxRecDepth 100000 in
theorem kcX11_clash_v2 (l : Launch) (D : va_G) (h0 h1 h2 h3 h4 h5 h6 h7 h8 h27 h28 h29 h30 h31 h68 h69 h70 h71 h72 h73 h74 h75 h76 h77 h78 h79 h80 : Nat) (x0 x1 x2 : Int32) (g0 : Nat → Option Nat) (a0 a6 a7 a13 : ClassId) (sz : Nat) (k_g0_x0 : g0 x0.toNatClampNeg = some h8) (as0 : ¬ x0 < (0 : Int32)) (as1 : x0 < (6 : Int32)): Met l yX11_clash (Cond.code yX11_clash cX11_clash 5 (some .int) :: gG) { frames := 4, cells := 0, slots := 0, locals := 131 } (cPre D [(a0, .object RX8), (a6, .int), (a7, .int), (a13, .int)] [(h0, .inr (11, [.ref h1, .int 0, .ref h2, .ref h3, .ref h4, .ref h5, .ref h6, .ref h7])), (h1, .inl (a0, 6, .inr (.inr (.inr (.inr g0))))), (h7, .inr (7, [.ref h27, .ref h28, .ref h29, .ref h30, .int 0])), (h27, .inr (1, [.ref h68, .int 0, .ref h69, .ref h70, .ref h71, .ref h72, .ref h73, .ref h74, .ref h75, .ref h76, .ref h77, .ref h78, .ref h79, .ref h80])), (h8, .inr (8, [.ref h31, .int 0])), (h80, .inl (a13, 480, .inl (fun _ => 0))), (h28, .inl (a6, 6, .inl (fun _ => 0))), (h29, .inl (a7, 6, .inl (fun _ => 0)))] sz [.ref h0, .int x0, .int x1, .int x2]) (va_Qi (fun (r : Int32) (_ : Unit) => (¬ x0 < (0 : Int32) ∧ ¬ (6 : Int32) ≤ x0 ∧ x1 < (0 : Int32) ∧ r = (-1)) ∨ (¬ x0 < (0 : Int32) ∧ ¬ (6 : Int32) ≤ x0 ∧ ¬ x1 < (0 : Int32) ∧ (6 : Int32) ≤ x1 ∧ r = (-1)) ∨ (¬ x0 < (0 : Int32) ∧ ¬ (6 : Int32) ≤ x0 ∧ ¬ x1 < (0 : Int32) ∧ ¬ (6 : Int32) ≤ x1 ∧ x2 < (0 : Int32) ∧ r = (-1)) ∨ (¬ x0 < (0 : Int32) ∧ ¬ (6 : Int32) ≤ x0 ∧ ¬ x1 < (0 : Int32) ∧ ¬ (6 : Int32) ≤ x1 ∧ ¬ x2 < (0 : Int32) ∧ (6 : Int32) ≤ x2 ∧ r = (-1)) ∨ (¬ x0 < (0 : Int32) ∧ ¬ (6 : Int32) ≤ x0 ∧ ¬ x1 < (0 : Int32) ∧ ¬ (6 : Int32) ≤ x1 ∧ ¬ x2 < (0 : Int32) ∧ ¬ (6 : Int32) ≤ x2 ∧ ¬ x1 = x2 ∧ ¬ x1 < (0 : Int32) ∧ ¬ (6 : Int32) ≤ x1 ∧ ¬ x2 < (0 : Int32) ∧ ¬ (6 : Int32) ≤ x2 ∧ r = 0) ∨ (¬ x0 < (0 : Int32) ∧ ¬ (6 : Int32) ≤ x0 ∧ ¬ x1 < (0 : Int32) ∧ ¬ (6 : Int32) ≤ x1 ∧ ¬ x2 < (0 : Int32) ∧ ¬ (6 : Int32) ≤ x2 ∧ x1 = x2 ∧ r = (-1))) (fun u t => cB D (va_A [(h0, .inr (11, [.ref h1, .int 0, .ref h2, .ref h3, .ref h4, .ref h5, .ref h6, .ref h7])), (h1, .inl (a0, 6, .inr (.inr (.inr (.inr g0))))), (h7, .inr (7, [.ref h27, .ref h28, .ref h29, .ref h30, .int 0])), (h27, .inr (1, [.ref h68, .int 0, .ref h69, .ref h70, .ref h71, .ref h72, .ref h73, .ref h74, .ref h75, .ref h76, .ref h77, .ref h78, .ref h79, .ref h80])), (h8, .inr (8, [.ref h31, .int 0])), (h80, .inl (a13, 480, .inl (fun _ => 0))), (h28, .inl (a6, 6, .inl (fun _ => 0))), (h29, .inl (a7, 6, .inl (fun _ => 0)))] sz) ((fun (_ : Unit) => ([] : List (ClassId × FieldType))) u) ((fun (_ : Unit) => ([] : va_W)) u) t) (va_A [(h0, .inr (11, [.ref h1, .int 0, .ref h2, .ref h3, .ref h4, .ref h5, .ref h6, .ref h7])), (h1, .inl (a0, 6, .inr (.inr (.inr (.inr g0))))), (h7, .inr (7, [.ref h27, .ref h28, .ref h29, .ref h30, .int 0])), (h27, .inr (1, [.ref h68, .int 0, .ref h69, .ref h70, .ref h71, .ref h72, .ref h73, .ref h74, .ref h75, .ref h76, .ref h77, .ref h78, .ref h79, .ref h80])), (h8, .inr (8, [.ref h31, .int 0])), (h80, .inl (a13, 480, .inl (fun _ => 0))), (h28, .inl (a6, 6, .inl (fun _ => 0))), (h29, .inl (a7, 6, .inl (fun _ => 0)))] sz)) 0 0 (va_A [(h0, .inr (11, [.ref h1, .int 0, .ref h2, .ref h3, .ref h4, .ref h5, .ref h6, .ref h7])), (h1, .inl (a0, 6, .inr (.inr (.inr (.inr g0))))), (h7, .inr (7, [.ref h27, .ref h28, .ref h29, .ref h30, .int 0])), (h27, .inr (1, [.ref h68, .int 0, .ref h69, .ref h70, .ref h71, .ref h72, .ref h73, .ref h74, .ref h75, .ref h76, .ref h77, .ref h78, .ref h79, .ref h80])), (h8, .inr (8, [.ref h31, .int 0])), (h80, .inl (a13, 480, .inl (fun _ => 0))), (h28, .inl (a6, 6, .inl (fun _ => 0))), (h29, .inl (a7, 6, .inl (fun _ => 0)))] sz) := by
  refine Met.ofW (cc := cX11_clash) (maxL := 5) (ret := (some .int)) (by decide) rfl ?_
  intro p e s m args below meth c s₁ B hml hv
  obtain ⟨rfl, aks, rfl, Wd⟩ := k_enter hv
  have C : CallFix p m c cX11_clash 5 s _ gG RX11 := ⟨B.exec, B.bytes, hml, findClass_of_methodNamed B.named, fun w h => atoms_spec (ws := Cond.code yX11_clash cX11_clash 5 (some .int) :: gG) B.pre w (List.mem_cons_of_mem _ h)⟩
  have hr := B.returns
  have hlk := B.notSynchronized
  generalize va_A [(h0, .inr (11, [.ref h1, .int 0, .ref h2, .ref h3, .ref h4, .ref h5, .ref h6, .ref h7])), (h1, .inl (a0, 6, .inr (.inr (.inr (.inr g0))))), (h7, .inr (7, [.ref h27, .ref h28, .ref h29, .ref h30, .int 0])), (h27, .inr (1, [.ref h68, .int 0, .ref h69, .ref h70, .ref h71, .ref h72, .ref h73, .ref h74, .ref h75, .ref h76, .ref h77, .ref h78, .ref h79, .ref h80])), (h8, .inr (8, [.ref h31, .int 0])), (h80, .inl (a13, 480, .inl (fun _ => 0))), (h28, .inl (a6, 6, .inl (fun _ => 0))), (h29, .inl (a7, 6, .inl (fun _ => 0)))] s.heap.size = A at Wd ⊢
  refine k_locals (Nat.le_of_ble_eq_true rfl) [(0, .ref h0), (1, .int x0), (2, .int x1), (3, .int x2)] rfl (fun ls hl => ?_)
  refine lv_aload_n C.1 C.2.1 dX11_clash_0 rfl (lv_at hl 0 rfl) ?_
  refine lv_iload_n C.1 C.2.1 dX11_clash_1 rfl (lv_at hl 1 rfl) ?_
  refine k_pq (k_runV (rest := []) C aks Wd cs_X11_77 (kcX11_slotAt l D h0 h1 h2 h3 h4 h5 h6 h7 x0 g0 a0 _ ) [0, 1] rfl (by decide) [0] rfl 0 11 rfl rfl rfl rfl rfl ⟨(Nat.le_of_ble_eq_true rfl), (Nat.le_of_ble_eq_true rfl)⟩ hl.1 rfl rfl (Nat.le_of_ble_eq_true rfl) ⟨(Nat.le_of_ble_eq_true rfl), (Nat.le_of_ble_eq_true rfl)⟩ dX11_clash_2) (fun r w2833 => ?_)
  rcases w2833 with ⟨c2834, rfl⟩ | ⟨c2835, c2836, rfl⟩ | ⟨c2837, c2838, rfl⟩
  · exact absurd c2834 as0
  · exact False.elim (by have z0 := kz_nlt as0; have z1 := kz_lt as1; have z2 := kz_nlt c2835; have z3 := kz_le c2836; have t0 : (0 : Int32).toInt = 0 := (by decide); have t6 : (6 : Int32).toInt = 6 := (by decide); omega)
  · refine W.eq (g2 := F0 m 5 ls [.ref h8]) (by rw [show (g0 x0.toNatClampNeg) = some h8 from k_g0_x0]; rfl) ?_
    refine lv_astore (lv' := [(4, .ref h8), (0, .ref h0), (1, .int x0), (2, .int x1), (3, .int x2)]) C.1 C.2.1 dX11_clash_5 hl (by decide) rfl (fun ls hl => ?_)
    refine lv_aload C.1 C.2.1 dX11_clash_7 (lv_at hl 0 rfl) ?_
    refine lv_ifnull C.1 C.2.1 dX11_clash_9 ?_
    refine lv_iload_n C.1 C.2.1 dX11_clash_12 rfl (lv_at hl 3 rfl) ?_
    refine k_pi (k_runS (rest := []) C aks Wd cs_X11_232 (kcX11_isVariable l D x1 _ ) [] rfl (by decide) [] rfl rfl rfl ⟨(Nat.le_of_ble_eq_true rfl), (Nat.le_of_ble_eq_true rfl)⟩ hl.1 rfl rfl (Nat.le_of_ble_eq_true rfl) ⟨(Nat.le_of_ble_eq_true rfl), (Nat.le_of_ble_eq_true rfl)⟩ dX11_clash_13) (fun r w2839 => ?_)
    rcases w2839 with ⟨c2840, rfl⟩ | ⟨c2841, c2842, rfl⟩ | ⟨c2843, c2844, rfl⟩
    · refine lv_if_eq (tgt := 31) C.1 C.2.1 dX11_clash_16 (by decide) (fun _ => ?_) (fun c2845 => absurd c2845 (by decide))
      refine lv_iconst (v := (-1)) C.1 C.2.1 dX11_clash_31 (by decide) ?_
      exact k_zret C hr hlk rfl Wd () (Or.inl (⟨c2837, c2838, c2840, rfl⟩)) [] rfl (by decide) [] rfl (by decide) (by decide) dX11_clash_32
    · refine lv_if_eq (tgt := 31) C.1 C.2.1 dX11_clash_16 (by decide) (fun _ => ?_) (fun c2846 => absurd c2846 (by decide))
      refine lv_iconst (v := (-1)) C.1 C.2.1 dX11_clash_31 (by decide) ?_
      exact k_zret C hr hlk rfl Wd () (Or.inr (Or.inl (⟨c2837, c2838, c2841, c2842, rfl⟩))) [] rfl (by decide) [] rfl (by decide) (by decide) dX11_clash_32
    · refine lv_if_eq (tgt := 31) C.1 C.2.1 dX11_clash_16 (by decide) (fun c2847 => absurd c2847 (by decide)) (fun _ => ?_)
      refine lv_iload_n C.1 C.2.1 dX11_clash_19 rfl (lv_at hl 4 rfl) ?_
      refine k_pi (k_runS (rest := []) C aks Wd cs_X11_232 (kcX11_isVariable l D x2 _ ) [] rfl (by decide) [] rfl rfl rfl ⟨(Nat.le_of_ble_eq_true rfl), (Nat.le_of_ble_eq_true rfl)⟩ hl.1 rfl rfl (Nat.le_of_ble_eq_true rfl) ⟨(Nat.le_of_ble_eq_true rfl), (Nat.le_of_ble_eq_true rfl)⟩ dX11_clash_20) (fun r w2848 => ?_)
      rcases w2848 with ⟨c2849, rfl⟩ | ⟨c2850, c2851, rfl⟩ | ⟨c2852, c2853, rfl⟩
      · refine lv_if_eq (tgt := 31) C.1 C.2.1 dX11_clash_23 (by decide) (fun _ => ?_) (fun c2854 => absurd c2854 (by decide))
        refine lv_iconst (v := (-1)) C.1 C.2.1 dX11_clash_31 (by decide) ?_
        exact k_zret C hr hlk rfl Wd () (Or.inr (Or.inr (Or.inl (⟨c2837, c2838, c2843, c2844, c2849, rfl⟩)))) [] rfl (by decide) [] rfl (by decide) (by decide) dX11_clash_32
      · refine lv_if_eq (tgt := 31) C.1 C.2.1 dX11_clash_23 (by decide) (fun _ => ?_) (fun c2855 => absurd c2855 (by decide))
        refine lv_iconst (v := (-1)) C.1 C.2.1 dX11_clash_31 (by decide) ?_
        exact k_zret C hr hlk rfl Wd () (Or.inr (Or.inr (Or.inr (Or.inl (⟨c2837, c2838, c2843, c2844, c2850, c2851, rfl⟩))))) [] rfl (by decide) [] rfl (by decide) (by decide) dX11_clash_32
      · refine lv_if_eq (tgt := 31) C.1 C.2.1 dX11_clash_23 (by decide) (fun c2856 => absurd c2856 (by decide)) (fun _ => ?_)
        refine lv_iload_n C.1 C.2.1 dX11_clash_26 rfl (lv_at hl 3 rfl) ?_
        refine lv_iload_n C.1 C.2.1 dX11_clash_27 rfl (lv_at hl 4 rfl) ?_
        refine lv_icmp_ne (tgt := 33) C.1 C.2.1 dX11_clash_28 (by decide) (fun c2857 => ?_) (fun c2857 => ?_)
        · refine lv_aload_n C.1 C.2.1 dX11_clash_33 rfl (lv_at hl 1 rfl) ?_
          refine k_get C Wd KX11 0 7 rfl (by decide) fl_X11_57 rfl dX11_clash_34 ?_
          refine lv_aload C.1 C.2.1 dX11_clash_37 (lv_at hl 0 rfl) ?_
          refine k_cv Wd [2, 3, 4, 5, 6, 7] [0, 1] rfl (wr := [(h0, .inr (11, [.ref h1, .int 0, .ref h2, .ref h3, .ref h4, .ref h5, .ref h6, .ref h7])), (h1, .inl (a0, 6, .inr (.inr (.inr (.inr g0)))))]) rfl (by decide) (by decide) (cells' := 0) (slots' := 0) (by decide) (by decide) (k_runV (rest := []) C aks Wd cs_X11_220 (kcX7_study l D h7 h8 h27 h28 h29 h30 h31 h68 h69 h70 h71 h72 h73 h74 h75 h76 h77 h78 h79 h80 a6 a7 a13 _ ) [2, 3, 4, 5, 6, 7] rfl (by decide) [1, 2, 3] rfl 2 7 rfl rfl rfl rfl rfl ⟨(Nat.le_of_ble_eq_true rfl), (Nat.le_of_ble_eq_true rfl)⟩ hl.1 rfl rfl (Nat.le_of_ble_eq_true rfl) ⟨(Nat.le_of_ble_eq_true rfl), (Nat.le_of_ble_eq_true rfl)⟩ dX11_clash_39) (fun _ H locs w2858 Wd => ?_)
          have Wd : wX D [(a0, .object RX8), (a6, .int), (a7, .int), (a13, .int)] s [(h0, .inr (11, [.ref h1, .int 0, .ref h2, .ref h3, .ref h4, .ref h5, .ref h6, .ref h7])), (h1, .inl (a0, 6, .inr (.inr (.inr (.inr g0))))), (h7, .inr (7, [.ref h27, .ref h28, .ref h29, .ref h30, .int 0])), (h27, .inr (1, [.ref h8, .int 0, .ref h69, .ref h70, .ref h71, .ref h72, .ref h73, .ref h74, .ref h75, .ref h76, .ref h77, .ref h78, .ref h79, .ref h80])), (h8, .inr (8, [.ref h31, .int 0])), (h80, .inl (a13, 480, .inl (fun _ => 0))), (h28, .inl (a6, 6, .inl (fun _ => 0))), (h29, .inl (a7, 6, .inl (fun _ => 0)))] _ A s.heap _ := Wd
          refine lv_aload_n C.1 C.2.1 dX11_clash_42 rfl (lv_at hl 1 rfl) ?_
          refine k_get C Wd KX11 0 7 rfl (by decide) fl_X11_57 rfl dX11_clash_43 ?_
          refine lv_iload_n C.1 C.2.1 dX11_clash_46 rfl (lv_at hl 3 rfl) ?_
          refine lv_iload_n C.1 C.2.1 dX11_clash_47 rfl (lv_at hl 4 rfl) ?_
          refine k_pi (k_runV (rest := []) C aks Wd cs_X11_235 (kcX7_clashing l D h7 h27 h28 h29 h30 x1 x2 a6 _ ) [2, 6] rfl (by decide) [1] rfl 2 7 rfl rfl rfl rfl rfl ⟨(Nat.le_of_ble_eq_true rfl), (Nat.le_of_ble_eq_true rfl)⟩ hl.1 rfl rfl (Nat.le_of_ble_eq_true rfl) ⟨(Nat.le_of_ble_eq_true rfl), (Nat.le_of_ble_eq_true rfl)⟩ dX11_clash_48) (fun r w2859 => ?_)
          rcases w2859 with ⟨c2860, rfl⟩ | ⟨c2861, c2862, rfl⟩ | ⟨c2863, c2864, c2865, rfl⟩ | ⟨c2866, c2867, c2868, c2869, rfl⟩ | ⟨c2870, c2871, c2872, c2873, rfl⟩
          · exact absurd c2860 c2843
          · exact absurd c2862 c2844
          · exact absurd c2865 c2852
          · exact absurd c2869 c2853
          · refine lv_if_eq (tgt := 58) C.1 C.2.1 dX11_clash_51 (by decide) (fun _ => ?_) (fun c2874 => absurd c2874 (by decide))
            refine lv_iconst (v := 0) C.1 C.2.1 dX11_clash_58 (by decide) ?_
            exact k_zret C hr hlk rfl Wd () (Or.inr (Or.inr (Or.inr (Or.inr (Or.inl (⟨c2837, c2838, c2843, c2844, c2852, c2853, c2857, c2870, c2871, c2872, c2873, rfl⟩)))))) [] rfl (by decide) [] rfl (by decide) (by decide) dX11_clash_59
        · refine lv_iconst (v := (-1)) C.1 C.2.1 dX11_clash_31 (by decide) ?_
          exact k_zret C hr hlk rfl Wd () (Or.inr (Or.inr (Or.inr (Or.inr (Or.inr (⟨c2837, c2838, c2843, c2844, c2852, c2853, c2857, rfl⟩)))))) [] rfl (by decide) [] rfl (by decide) (by decide) dX11_clash_32
set_option maxHeartbeats 4000000 in
set_option maxRecDepth 100000 in
theorem kcX11_judge (l : Launch) (D : va_G) (h0 h1 h2 h3 h4 h5 h6 h7 : Nat) (x0 x1 x2 : Int32) (g0 : Nat → Option Nat) (a0 : ClassId) (sz : Nat)  (as0 : x0 < (0 : Int32)): Met l yX11_judge (Cond.code yX11_judge cX11_judge 7 (some .int) :: gG) { frames := 2, cells := 0, slots := 0, locals := 85 } (cPre D [(a0, .object RX8)] [(h0, .inr (11, [.ref h1, .int 0, .ref h2, .ref h3, .ref h4, .ref h5, .ref h6, .ref h7])), (h1, .inl (a0, 6, .inr (.inr (.inr (.inr g0)))))] sz [.ref h0, .int x0, .int x1, .int x2]) (vp_Si (fun r => (x0 < (0 : Int32) ∧ x1 < (0 : Int32) ∧ r = (-1)) ∨ (x0 < (0 : Int32) ∧ ¬ x1 < (0 : Int32) ∧ (6 : Int32) ≤ x1 ∧ r = (-1)) ∨ (x0 < (0 : Int32) ∧ ¬ x1 < (0 : Int32) ∧ ¬ (6 : Int32) ≤ x1 ∧ r = (-1)) ∨ (x0 < (0 : Int32) ∧ ¬ x1 < (0 : Int32) ∧ ¬ (6 : Int32) ≤ x1 ∧ r = (-1)))) 0 0 (fun _ => False) := by
  refine Met.ofW (cc := cX11_judge) (maxL := 7) (ret := (some .int)) (by decide) rfl ?_
  intro p e s m args below meth c s₁ B hml hv
  obtain ⟨rfl, aks, rfl, Wd⟩ := k_enter hv
  have C : CallFix p m c cX11_judge 7 s _ gG RX11 := ⟨B.exec, B.bytes, hml, findClass_of_methodNamed B.named, fun w h => atoms_spec (ws := Cond.code yX11_judge cX11_judge 7 (some .int) :: gG) B.pre w (List.mem_cons_of_mem _ h)⟩
  have hr := B.returns
  have hlk := B.notSynchronized
  obtain ⟨A, Wd⟩ : ∃ A, wX D [(a0, .object RX8)] s [(h0, .inr (11, [.ref h1, .int 0, .ref h2, .ref h3, .ref h4, .ref h5, .ref h6, .ref h7])), (h1, .inl (a0, 6, .inr (.inr (.inr (.inr g0)))))] s.heap A s.heap [] := ⟨_, Wd⟩
  refine k_locals (Nat.le_of_ble_eq_true rfl) [(0, .ref h0), (1, .int x0), (2, .int x1), (3, .int x2)] rfl (fun ls hl => ?_)
  refine lv_aload_n C.1 C.2.1 dX11_judge_0 rfl (lv_at hl 0 rfl) ?_
  refine lv_iload_n C.1 C.2.1 dX11_judge_1 rfl (lv_at hl 1 rfl) ?_
  refine k_pq (k_runV (rest := []) C aks Wd cs_X11_77 (kcX11_slotAt l D h0 h1 h2 h3 h4 h5 h6 h7 x0 g0 a0 _ ) [0, 1] rfl (by decide) [0] rfl 0 11 rfl rfl rfl rfl rfl ⟨(Nat.le_of_ble_eq_true rfl), (Nat.le_of_ble_eq_true rfl)⟩ hl.1 rfl rfl (Nat.le_of_ble_eq_true rfl) ⟨(Nat.le_of_ble_eq_true rfl), (Nat.le_of_ble_eq_true rfl)⟩ dX11_judge_2) (fun r w2889 => ?_)
  rcases w2889 with ⟨c2890, rfl⟩ | ⟨c2891, c2892, rfl⟩ | ⟨c2893, c2894, rfl⟩
  · refine W.eq (g2 := F0 m 5 ls [.null]) rfl ?_
    refine lv_astoreN (lv' := [(4, .null), (0, .ref h0), (1, .int x0), (2, .int x1), (3, .int x2)]) C.1 C.2.1 dX11_judge_5 hl (by decide) rfl (fun ls hl => ?_)
    refine lv_aload_n C.1 C.2.1 dX11_judge_7 rfl (lv_at hl 1 rfl) ?_
    refine lv_iload_n C.1 C.2.1 dX11_judge_8 rfl (lv_at hl 3 rfl) ?_
    refine k_pq (k_runV (rest := []) C aks Wd cs_X11_77 (kcX11_slotAt l D h0 h1 h2 h3 h4 h5 h6 h7 x1 g0 a0 _ ) [0, 1] rfl (by decide) [0] rfl 0 11 rfl rfl rfl rfl rfl ⟨(Nat.le_of_ble_eq_true rfl), (Nat.le_of_ble_eq_true rfl)⟩ hl.1 rfl rfl (Nat.le_of_ble_eq_true rfl) ⟨(Nat.le_of_ble_eq_true rfl), (Nat.le_of_ble_eq_true rfl)⟩ dX11_judge_9) (fun r w2895 => ?_)
    rcases w2895 with ⟨c2896, rfl⟩ | ⟨c2897, c2898, rfl⟩ | ⟨c2899, c2900, rfl⟩
    · refine W.eq (g2 := F0 m 12 ls [.null]) rfl ?_
      refine lv_astoreN (lv' := [(5, .null), (4, .null), (0, .ref h0), (1, .int x0), (2, .int x1), (3, .int x2)]) C.1 C.2.1 dX11_judge_12 hl (by decide) rfl (fun ls hl => ?_)
      refine lv_aloadN C.1 C.2.1 dX11_judge_14 (lv_at hl 1 rfl) ?_
      refine lv_ifnullN (tgt := 33) C.1 C.2.1 dX11_judge_16 (by decide) ?_
      refine lv_iconst (v := (-1)) C.1 C.2.1 dX11_judge_33 (by decide) ?_
      exact k_zretP C hr hlk rfl (Or.inl (⟨c2890, c2896, rfl⟩)) dX11_judge_34
    · refine W.eq (g2 := F0 m 12 ls [.null]) rfl ?_
      refine lv_astoreN (lv' := [(5, .null), (4, .null), (0, .ref h0), (1, .int x0), (2, .int x1), (3, .int x2)]) C.1 C.2.1 dX11_judge_12 hl (by decide) rfl (fun ls hl => ?_)
      refine lv_aloadN C.1 C.2.1 dX11_judge_14 (lv_at hl 1 rfl) ?_
      refine lv_ifnullN (tgt := 33) C.1 C.2.1 dX11_judge_16 (by decide) ?_
      refine lv_iconst (v := (-1)) C.1 C.2.1 dX11_judge_33 (by decide) ?_
      exact k_zretP C hr hlk rfl (Or.inr (Or.inl (⟨c2890, c2897, c2898, rfl⟩))) dX11_judge_34
    · cases hq2901 : (g0 x1.toNatClampNeg) with
      | none =>
        refine W.eq (g2 := F0 m 12 ls [.null]) rfl ?_
        refine lv_astoreN (lv' := [(5, .null), (4, .null), (0, .ref h0), (1, .int x0), (2, .int x1), (3, .int x2)]) C.1 C.2.1 dX11_judge_12 hl (by decide) rfl (fun ls hl => ?_)
        refine lv_aloadN C.1 C.2.1 dX11_judge_14 (lv_at hl 1 rfl) ?_
        refine lv_ifnullN (tgt := 33) C.1 C.2.1 dX11_judge_16 (by decide) ?_
        refine lv_iconst (v := (-1)) C.1 C.2.1 dX11_judge_33 (by decide) ?_
        exact k_zretP C hr hlk rfl (Or.inr (Or.inr (Or.inl (⟨c2890, c2899, c2900, rfl⟩)))) dX11_judge_34
      | some q2902 =>
        refine W.eq (g2 := F0 m 12 ls [.ref q2902]) rfl ?_
        refine lv_astore (lv' := [(5, .ref q2902), (4, .null), (0, .ref h0), (1, .int x0), (2, .int x1), (3, .int x2)]) C.1 C.2.1 dX11_judge_12 hl (by decide) rfl (fun ls hl => ?_)
        refine lv_aloadN C.1 C.2.1 dX11_judge_14 (lv_at hl 1 rfl) ?_
        refine lv_ifnullN (tgt := 33) C.1 C.2.1 dX11_judge_16 (by decide) ?_
        refine lv_iconst (v := (-1)) C.1 C.2.1 dX11_judge_33 (by decide) ?_
        exact k_zretP C hr hlk rfl (Or.inr (Or.inr (Or.inr (⟨c2890, c2899, c2900, rfl⟩)))) dX11_judge_34
  · exact absurd as0 c2891
  · exact absurd as0 c2893
set_option maxHeartbeats 4000000 in
set_option maxRecDepth 100000 in
theorem kcX11_judge_v1 (l : Launch) (D : va_G) (h0 h1 h2 h3 h4 h5 h6 h7 : Nat) (x0 x1 x2 : Int32) (g0 : Nat → Option Nat) (a0 : ClassId) (sz : Nat)  (as0 : ¬ x0 < (6 : Int32)): Met l yX11_judge (Cond.code yX11_judge cX11_judge 7 (some .int) :: gG) { frames := 2, cells := 0, slots := 0, locals := 85 } (cPre D [(a0, .object RX8)] [(h0, .inr (11, [.ref h1, .int 0, .ref h2, .ref h3, .ref h4, .ref h5, .ref h6, .ref h7])), (h1, .inl (a0, 6, .inr (.inr (.inr (.inr g0)))))] sz [.ref h0, .int x0, .int x1, .int x2]) (vp_Si (fun r => (¬ x0 < (0 : Int32) ∧ (6 : Int32) ≤ x0 ∧ x1 < (0 : Int32) ∧ r = (-1)) ∨ (¬ x0 < (0 : Int32) ∧ (6 : Int32) ≤ x0 ∧ ¬ x1 < (0 : Int32) ∧ (6 : Int32) ≤ x1 ∧ r = (-1)) ∨ (¬ x0 < (0 : Int32) ∧ (6 : Int32) ≤ x0 ∧ ¬ x1 < (0 : Int32) ∧ ¬ (6 : Int32) ≤ x1 ∧ r = (-1)) ∨ (¬ x0 < (0 : Int32) ∧ (6 : Int32) ≤ x0 ∧ ¬ x1 < (0 : Int32) ∧ ¬ (6 : Int32) ≤ x1 ∧ r = (-1)))) 0 0 (fun _ => False) := by
  refine Met.ofW (cc := cX11_judge) (maxL := 7) (ret := (some .int)) (by decide) rfl ?_
  intro p e s m args below meth c s₁ B hml hv
  obtain ⟨rfl, aks, rfl, Wd⟩ := k_enter hv
  have C : CallFix p m c cX11_judge 7 s _ gG RX11 := ⟨B.exec, B.bytes, hml, findClass_of_methodNamed B.named, fun w h => atoms_spec (ws := Cond.code yX11_judge cX11_judge 7 (some .int) :: gG) B.pre w (List.mem_cons_of_mem _ h)⟩
  have hr := B.returns
  have hlk := B.notSynchronized
  obtain ⟨A, Wd⟩ : ∃ A, wX D [(a0, .object RX8)] s [(h0, .inr (11, [.ref h1, .int 0, .ref h2, .ref h3, .ref h4, .ref h5, .ref h6, .ref h7])), (h1, .inl (a0, 6, .inr (.inr (.inr (.inr g0)))))] s.heap A s.heap [] := ⟨_, Wd⟩
  refine k_locals (Nat.le_of_ble_eq_true rfl) [(0, .ref h0), (1, .int x0), (2, .int x1), (3, .int x2)] rfl (fun ls hl => ?_)
  refine lv_aload_n C.1 C.2.1 dX11_judge_0 rfl (lv_at hl 0 rfl) ?_
  refine lv_iload_n C.1 C.2.1 dX11_judge_1 rfl (lv_at hl 1 rfl) ?_
  refine k_pq (k_runV (rest := []) C aks Wd cs_X11_77 (kcX11_slotAt l D h0 h1 h2 h3 h4 h5 h6 h7 x0 g0 a0 _ ) [0, 1] rfl (by decide) [0] rfl 0 11 rfl rfl rfl rfl rfl ⟨(Nat.le_of_ble_eq_true rfl), (Nat.le_of_ble_eq_true rfl)⟩ hl.1 rfl rfl (Nat.le_of_ble_eq_true rfl) ⟨(Nat.le_of_ble_eq_true rfl), (Nat.le_of_ble_eq_true rfl)⟩ dX11_judge_2) (fun r w2917 => ?_)
  rcases w2917 with ⟨c2918, rfl⟩ | ⟨c2919, c2920, rfl⟩ | ⟨c2921, c2922, rfl⟩
  · exact False.elim (by have z0 := kz_nlt as0; have z1 := kz_lt c2918; have t6 : (6 : Int32).toInt = 6 := (by decide); have t0 : (0 : Int32).toInt = 0 := (by decide); omega)
  · refine W.eq (g2 := F0 m 5 ls [.null]) rfl ?_
    refine lv_astoreN (lv' := [(4, .null), (0, .ref h0), (1, .int x0), (2, .int x1), (3, .int x2)]) C.1 C.2.1 dX11_judge_5 hl (by decide) rfl (fun ls hl => ?_)
    refine lv_aload_n C.1 C.2.1 dX11_judge_7 rfl (lv_at hl 1 rfl) ?_
    refine lv_iload_n C.1 C.2.1 dX11_judge_8 rfl (lv_at hl 3 rfl) ?_
    refine k_pq (k_runV (rest := []) C aks Wd cs_X11_77 (kcX11_slotAt l D h0 h1 h2 h3 h4 h5 h6 h7 x1 g0 a0 _ ) [0, 1] rfl (by decide) [0] rfl 0 11 rfl rfl rfl rfl rfl ⟨(Nat.le_of_ble_eq_true rfl), (Nat.le_of_ble_eq_true rfl)⟩ hl.1 rfl rfl (Nat.le_of_ble_eq_true rfl) ⟨(Nat.le_of_ble_eq_true rfl), (Nat.le_of_ble_eq_true rfl)⟩ dX11_judge_9) (fun r w2923 => ?_)
    rcases w2923 with ⟨c2924, rfl⟩ | ⟨c2925, c2926, rfl⟩ | ⟨c2927, c2928, rfl⟩
    · refine W.eq (g2 := F0 m 12 ls [.null]) rfl ?_
      refine lv_astoreN (lv' := [(5, .null), (4, .null), (0, .ref h0), (1, .int x0), (2, .int x1), (3, .int x2)]) C.1 C.2.1 dX11_judge_12 hl (by decide) rfl (fun ls hl => ?_)
      refine lv_aloadN C.1 C.2.1 dX11_judge_14 (lv_at hl 1 rfl) ?_
      refine lv_ifnullN (tgt := 33) C.1 C.2.1 dX11_judge_16 (by decide) ?_
      refine lv_iconst (v := (-1)) C.1 C.2.1 dX11_judge_33 (by decide) ?_
      exact k_zretP C hr hlk rfl (Or.inl (⟨c2919, c2920, c2924, rfl⟩)) dX11_judge_34
    · refine W.eq (g2 := F0 m 12 ls [.null]) rfl ?_
      refine lv_astoreN (lv' := [(5, .null), (4, .null), (0, .ref h0), (1, .int x0), (2, .int x1), (3, .int x2)]) C.1 C.2.1 dX11_judge_12 hl (by decide) rfl (fun ls hl => ?_)
      refine lv_aloadN C.1 C.2.1 dX11_judge_14 (lv_at hl 1 rfl) ?_
      refine lv_ifnullN (tgt := 33) C.1 C.2.1 dX11_judge_16 (by decide) ?_
      refine lv_iconst (v := (-1)) C.1 C.2.1 dX11_judge_33 (by decide) ?_
      exact k_zretP C hr hlk rfl (Or.inr (Or.inl (⟨c2919, c2920, c2925, c2926, rfl⟩))) dX11_judge_34
    · cases hq2929 : (g0 x1.toNatClampNeg) with
      | none =>
        refine W.eq (g2 := F0 m 12 ls [.null]) rfl ?_
        refine lv_astoreN (lv' := [(5, .null), (4, .null), (0, .ref h0), (1, .int x0), (2, .int x1), (3, .int x2)]) C.1 C.2.1 dX11_judge_12 hl (by decide) rfl (fun ls hl => ?_)
        refine lv_aloadN C.1 C.2.1 dX11_judge_14 (lv_at hl 1 rfl) ?_
        refine lv_ifnullN (tgt := 33) C.1 C.2.1 dX11_judge_16 (by decide) ?_
        refine lv_iconst (v := (-1)) C.1 C.2.1 dX11_judge_33 (by decide) ?_
        exact k_zretP C hr hlk rfl (Or.inr (Or.inr (Or.inl (⟨c2919, c2920, c2927, c2928, rfl⟩)))) dX11_judge_34
      | some q2930 =>
        refine W.eq (g2 := F0 m 12 ls [.ref q2930]) rfl ?_
        refine lv_astore (lv' := [(5, .ref q2930), (4, .null), (0, .ref h0), (1, .int x0), (2, .int x1), (3, .int x2)]) C.1 C.2.1 dX11_judge_12 hl (by decide) rfl (fun ls hl => ?_)
        refine lv_aloadN C.1 C.2.1 dX11_judge_14 (lv_at hl 1 rfl) ?_
        refine lv_ifnullN (tgt := 33) C.1 C.2.1 dX11_judge_16 (by decide) ?_
        refine lv_iconst (v := (-1)) C.1 C.2.1 dX11_judge_33 (by decide) ?_
        exact k_zretP C hr hlk rfl (Or.inr (Or.inr (Or.inr (⟨c2919, c2920, c2927, c2928, rfl⟩)))) dX11_judge_34
  · exact False.elim (by have z0 := kz_nlt as0; have z1 := kz_nlt c2921; have z2 := kz_nle c2922; have t6 : (6 : Int32).toInt = 6 := (by decide); have t0 : (0 : Int32).toInt = 0 := (by decide); omega)
set_option maxHeartbeats 4000000 in
set_option maxRecDepth 100000 in
theorem kcX11_judge_v2 (l : Launch) (D : va_G) (h0 h1 h2 h3 h4 h5 h6 h7 h8 : Nat) (x0 x1 x2 : Int32) (g0 : Nat → Option Nat) (a0 : ClassId) (sz : Nat) (k_g0_x0 : g0 x0.toNatClampNeg = some h8) (as0 : ¬ x0 < (0 : Int32)) (as1 : x0 < (6 : Int32)) (as2 : x1 < (0 : Int32)): Met l yX11_judge (Cond.code yX11_judge cX11_judge 7 (some .int) :: gG) { frames := 2, cells := 0, slots := 0, locals := 85 } (cPre D [(a0, .object RX8)] [(h0, .inr (11, [.ref h1, .int 0, .ref h2, .ref h3, .ref h4, .ref h5, .ref h6, .ref h7])), (h1, .inl (a0, 6, .inr (.inr (.inr (.inr g0)))))] sz [.ref h0, .int x0, .int x1, .int x2]) (vp_Si (fun r => ¬ x0 < (0 : Int32) ∧ ¬ (6 : Int32) ≤ x0 ∧ x1 < (0 : Int32) ∧ r = (-1))) 0 0 (fun _ => False) := by
  refine Met.ofW (cc := cX11_judge) (maxL := 7) (ret := (some .int)) (by decide) rfl ?_
  intro p e s m args below meth c s₁ B hml hv
  obtain ⟨rfl, aks, rfl, Wd⟩ := k_enter hv
  have C : CallFix p m c cX11_judge 7 s _ gG RX11 := ⟨B.exec, B.bytes, hml, findClass_of_methodNamed B.named, fun w h => atoms_spec (ws := Cond.code yX11_judge cX11_judge 7 (some .int) :: gG) B.pre w (List.mem_cons_of_mem _ h)⟩
  have hr := B.returns
  have hlk := B.notSynchronized
  obtain ⟨A, Wd⟩ : ∃ A, wX D [(a0, .object RX8)] s [(h0, .inr (11, [.ref h1, .int 0, .ref h2, .ref h3, .ref h4, .ref h5, .ref h6, .ref h7])), (h1, .inl (a0, 6, .inr (.inr (.inr (.inr g0)))))] s.heap A s.heap [] := ⟨_, Wd⟩
  refine k_locals (Nat.le_of_ble_eq_true rfl) [(0, .ref h0), (1, .int x0), (2, .int x1), (3, .int x2)] rfl (fun ls hl => ?_)
  refine lv_aload_n C.1 C.2.1 dX11_judge_0 rfl (lv_at hl 0 rfl) ?_
  refine lv_iload_n C.1 C.2.1 dX11_judge_1 rfl (lv_at hl 1 rfl) ?_
  refine k_pq (k_runV (rest := []) C aks Wd cs_X11_77 (kcX11_slotAt l D h0 h1 h2 h3 h4 h5 h6 h7 x0 g0 a0 _ ) [0, 1] rfl (by decide) [0] rfl 0 11 rfl rfl rfl rfl rfl ⟨(Nat.le_of_ble_eq_true rfl), (Nat.le_of_ble_eq_true rfl)⟩ hl.1 rfl rfl (Nat.le_of_ble_eq_true rfl) ⟨(Nat.le_of_ble_eq_true rfl), (Nat.le_of_ble_eq_true rfl)⟩ dX11_judge_2) (fun r w2943 => ?_)
  rcases w2943 with ⟨c2944, rfl⟩ | ⟨c2945, c2946, rfl⟩ | ⟨c2947, c2948, rfl⟩
  · exact absurd c2944 as0
  · exact False.elim (by have z0 := kz_nlt as0; have z1 := kz_lt as1; have z2 := kz_nlt c2945; have z3 := kz_le c2946; have t0 : (0 : Int32).toInt = 0 := (by decide); have t6 : (6 : Int32).toInt = 6 := (by decide); omega)
  · refine W.eq (g2 := F0 m 5 ls [.ref h8]) (by rw [show (g0 x0.toNatClampNeg) = some h8 from k_g0_x0]; rfl) ?_
    refine lv_astore (lv' := [(4, .ref h8), (0, .ref h0), (1, .int x0), (2, .int x1), (3, .int x2)]) C.1 C.2.1 dX11_judge_5 hl (by decide) rfl (fun ls hl => ?_)
    refine lv_aload_n C.1 C.2.1 dX11_judge_7 rfl (lv_at hl 1 rfl) ?_
    refine lv_iload_n C.1 C.2.1 dX11_judge_8 rfl (lv_at hl 3 rfl) ?_
    refine k_pq (k_runV (rest := []) C aks Wd cs_X11_77 (kcX11_slotAt l D h0 h1 h2 h3 h4 h5 h6 h7 x1 g0 a0 _ ) [0, 1] rfl (by decide) [0] rfl 0 11 rfl rfl rfl rfl rfl ⟨(Nat.le_of_ble_eq_true rfl), (Nat.le_of_ble_eq_true rfl)⟩ hl.1 rfl rfl (Nat.le_of_ble_eq_true rfl) ⟨(Nat.le_of_ble_eq_true rfl), (Nat.le_of_ble_eq_true rfl)⟩ dX11_judge_9) (fun r w2949 => ?_)
    rcases w2949 with ⟨c2950, rfl⟩ | ⟨c2951, c2952, rfl⟩ | ⟨c2953, c2954, rfl⟩
    · refine W.eq (g2 := F0 m 12 ls [.null]) rfl ?_
      refine lv_astoreN (lv' := [(5, .null), (4, .ref h8), (0, .ref h0), (1, .int x0), (2, .int x1), (3, .int x2)]) C.1 C.2.1 dX11_judge_12 hl (by decide) rfl (fun ls hl => ?_)
      refine lv_aload C.1 C.2.1 dX11_judge_14 (lv_at hl 1 rfl) ?_
      refine lv_ifnull C.1 C.2.1 dX11_judge_16 ?_
      refine lv_aloadN C.1 C.2.1 dX11_judge_19 (lv_at hl 0 rfl) ?_
      refine lv_ifnullN (tgt := 33) C.1 C.2.1 dX11_judge_21 (by decide) ?_
      refine lv_iconst (v := (-1)) C.1 C.2.1 dX11_judge_33 (by decide) ?_
      exact k_zretP C hr hlk rfl ⟨c2947, c2948, c2950, rfl⟩ dX11_judge_34
    · exact absurd as2 c2951
    · exact absurd as2 c2953
set_option maxHeartbeats 4000000 in
set_option maxRecDepth 100000 in
theorem kcX11_judge_v3 (l : Launch) (D : va_G) (h0 h1 h2 h3 h4 h5 h6 h7 h8 : Nat) (x0 x1 x2 : Int32) (g0 : Nat → Option Nat) (a0 : ClassId) (sz : Nat) (k_g0_x0 : g0 x0.toNatClampNeg = some h8) (as0 : ¬ x0 < (0 : Int32)) (as1 : x0 < (6 : Int32)) (as2 : ¬ x1 < (6 : Int32)): Met l yX11_judge (Cond.code yX11_judge cX11_judge 7 (some .int) :: gG) { frames := 2, cells := 0, slots := 0, locals := 85 } (cPre D [(a0, .object RX8)] [(h0, .inr (11, [.ref h1, .int 0, .ref h2, .ref h3, .ref h4, .ref h5, .ref h6, .ref h7])), (h1, .inl (a0, 6, .inr (.inr (.inr (.inr g0)))))] sz [.ref h0, .int x0, .int x1, .int x2]) (vp_Si (fun r => ¬ x0 < (0 : Int32) ∧ ¬ (6 : Int32) ≤ x0 ∧ ¬ x1 < (0 : Int32) ∧ (6 : Int32) ≤ x1 ∧ r = (-1))) 0 0 (fun _ => False) := by
  refine Met.ofW (cc := cX11_judge) (maxL := 7) (ret := (some .int)) (by decide) rfl ?_
  intro p e s m args below meth c s₁ B hml hv
  obtain ⟨rfl, aks, rfl, Wd⟩ := k_enter hv
  have C : CallFix p m c cX11_judge 7 s _ gG RX11 := ⟨B.exec, B.bytes, hml, findClass_of_methodNamed B.named, fun w h => atoms_spec (ws := Cond.code yX11_judge cX11_judge 7 (some .int) :: gG) B.pre w (List.mem_cons_of_mem _ h)⟩
  have hr := B.returns
  have hlk := B.notSynchronized
  obtain ⟨A, Wd⟩ : ∃ A, wX D [(a0, .object RX8)] s [(h0, .inr (11, [.ref h1, .int 0, .ref h2, .ref h3, .ref h4, .ref h5, .ref h6, .ref h7])), (h1, .inl (a0, 6, .inr (.inr (.inr (.inr g0)))))] s.heap A s.heap [] := ⟨_, Wd⟩
  refine k_locals (Nat.le_of_ble_eq_true rfl) [(0, .ref h0), (1, .int x0), (2, .int x1), (3, .int x2)] rfl (fun ls hl => ?_)
  refine lv_aload_n C.1 C.2.1 dX11_judge_0 rfl (lv_at hl 0 rfl) ?_
  refine lv_iload_n C.1 C.2.1 dX11_judge_1 rfl (lv_at hl 1 rfl) ?_
  refine k_pq (k_runV (rest := []) C aks Wd cs_X11_77 (kcX11_slotAt l D h0 h1 h2 h3 h4 h5 h6 h7 x0 g0 a0 _ ) [0, 1] rfl (by decide) [0] rfl 0 11 rfl rfl rfl rfl rfl ⟨(Nat.le_of_ble_eq_true rfl), (Nat.le_of_ble_eq_true rfl)⟩ hl.1 rfl rfl (Nat.le_of_ble_eq_true rfl) ⟨(Nat.le_of_ble_eq_true rfl), (Nat.le_of_ble_eq_true rfl)⟩ dX11_judge_2) (fun r w2967 => ?_)
  rcases w2967 with ⟨c2968, rfl⟩ | ⟨c2969, c2970, rfl⟩ | ⟨c2971, c2972, rfl⟩
  · exact absurd c2968 as0
  · exact False.elim (by have z0 := kz_nlt as0; have z1 := kz_lt as1; have z2 := kz_nlt c2969; have z3 := kz_le c2970; have t0 : (0 : Int32).toInt = 0 := (by decide); have t6 : (6 : Int32).toInt = 6 := (by decide); omega)
  · refine W.eq (g2 := F0 m 5 ls [.ref h8]) (by rw [show (g0 x0.toNatClampNeg) = some h8 from k_g0_x0]; rfl) ?_
    refine lv_astore (lv' := [(4, .ref h8), (0, .ref h0), (1, .int x0), (2, .int x1), (3, .int x2)]) C.1 C.2.1 dX11_judge_5 hl (by decide) rfl (fun ls hl => ?_)
    refine lv_aload_n C.1 C.2.1 dX11_judge_7 rfl (lv_at hl 1 rfl) ?_
    refine lv_iload_n C.1 C.2.1 dX11_judge_8 rfl (lv_at hl 3 rfl) ?_
    refine k_pq (k_runV (rest := []) C aks Wd cs_X11_77 (kcX11_slotAt l D h0 h1 h2 h3 h4 h5 h6 h7 x1 g0 a0 _ ) [0, 1] rfl (by decide) [0] rfl 0 11 rfl rfl rfl rfl rfl ⟨(Nat.le_of_ble_eq_true rfl), (Nat.le_of_ble_eq_true rfl)⟩ hl.1 rfl rfl (Nat.le_of_ble_eq_true rfl) ⟨(Nat.le_of_ble_eq_true rfl), (Nat.le_of_ble_eq_true rfl)⟩ dX11_judge_9) (fun r w2973 => ?_)
    rcases w2973 with ⟨c2974, rfl⟩ | ⟨c2975, c2976, rfl⟩ | ⟨c2977, c2978, rfl⟩
    · exact False.elim (by have z0 := kz_nlt as2; have z1 := kz_lt c2974; have t6 : (6 : Int32).toInt = 6 := (by decide); have t0 : (0 : Int32).toInt = 0 := (by decide); omega)
    · refine W.eq (g2 := F0 m 12 ls [.null]) rfl ?_
      refine lv_astoreN (lv' := [(5, .null), (4, .ref h8), (0, .ref h0), (1, .int x0), (2, .int x1), (3, .int x2)]) C.1 C.2.1 dX11_judge_12 hl (by decide) rfl (fun ls hl => ?_)
      refine lv_aload C.1 C.2.1 dX11_judge_14 (lv_at hl 1 rfl) ?_
      refine lv_ifnull C.1 C.2.1 dX11_judge_16 ?_
      refine lv_aloadN C.1 C.2.1 dX11_judge_19 (lv_at hl 0 rfl) ?_
      refine lv_ifnullN (tgt := 33) C.1 C.2.1 dX11_judge_21 (by decide) ?_
      refine lv_iconst (v := (-1)) C.1 C.2.1 dX11_judge_33 (by decide) ?_
      exact k_zretP C hr hlk rfl ⟨c2971, c2972, c2975, c2976, rfl⟩ dX11_judge_34
    · exact False.elim (by have z0 := kz_nlt as2; have z1 := kz_nlt c2977; have z2 := kz_nle c2978; have t6 : (6 : Int32).toInt = 6 := (by decide); have t0 : (0 : Int32).toInt = 0 := (by decide); omega)
set_option maxHeartbeats 4000000 in
set_option maxRecDepth 100000 in
theorem kcX2_placeThatDiffers (l : Launch) (D : va_G) (h0 h1 h2 h3 h4 h5 h6 h7 h8 h9 h10 : Nat) (sz : Nat)  : Met l yX2_placeThatDiffers (Cond.code yX2_placeThatDiffers cX2_placeThatDiffers 3 (some .int) :: gG) { frames := 1, cells := 0, slots := 0, locals := 64 } (cPre D [] [(h0, .inr (2, [.int (-1), .int (-1), .int 0, .int 0, .ref h1, .ref h2])), (h1, .inr (3, [.ref h3, .ref h4, .int 0, .int 0, .int 0, .ref h5, .ref h6])), (h2, .inr (3, [.ref h7, .ref h8, .int 0, .int 0, .int 0, .ref h9, .ref h10]))] sz [.ref h0]) (vp_Si (fun r => r = (-1))) 0 0 (fun _ => False) := by
  refine Met.ofW (cc := cX2_placeThatDiffers) (maxL := 3) (ret := (some .int)) (by decide) rfl ?_
  intro p e s m args below meth c s₁ B hml hv
  obtain ⟨rfl, aks, rfl, Wd⟩ := k_enter hv
  have C : CallFix p m c cX2_placeThatDiffers 3 s _ gG RX2 := ⟨B.exec, B.bytes, hml, findClass_of_methodNamed B.named, fun w h => atoms_spec (ws := Cond.code yX2_placeThatDiffers cX2_placeThatDiffers 3 (some .int) :: gG) B.pre w (List.mem_cons_of_mem _ h)⟩
  have hr := B.returns
  have hlk := B.notSynchronized
  obtain ⟨A, Wd⟩ : ∃ A, wX D [] s [(h0, .inr (2, [.int (-1), .int (-1), .int 0, .int 0, .ref h1, .ref h2])), (h1, .inr (3, [.ref h3, .ref h4, .int 0, .int 0, .int 0, .ref h5, .ref h6])), (h2, .inr (3, [.ref h7, .ref h8, .int 0, .int 0, .int 0, .ref h9, .ref h10]))] s.heap A s.heap [] := ⟨_, Wd⟩
  refine k_locals (Nat.le_of_ble_eq_true rfl) [(0, .ref h0)] rfl (fun ls hl => ?_)
  refine lv_aload_n C.1 C.2.1 dX2_placeThatDiffers_0 rfl (lv_at hl 0 rfl) ?_
  refine k_get C Wd KX2 0 4 rfl (by decide) fl_X2_12 rfl dX2_placeThatDiffers_1 ?_
  refine k_get C Wd KX3 1 2 rfl (by decide) fl_X2_64 rfl dX2_placeThatDiffers_4 ?_
  refine lv_aload_n C.1 C.2.1 dX2_placeThatDiffers_7 rfl (lv_at hl 0 rfl) ?_
  refine k_get C Wd KX2 0 5 rfl (by decide) fl_X2_18 rfl dX2_placeThatDiffers_8 ?_
  refine k_get C Wd KX3 2 2 rfl (by decide) fl_X2_64 rfl dX2_placeThatDiffers_11 ?_
  refine k_mmin (v := 0) C hl.1 ml_X2_70 st_Lib_Math_min_name in_J9 cd_min (Nat.le_of_ble_eq_true rfl) (Nat.le_of_ble_eq_true rfl) (Nat.le_of_ble_eq_true rfl) (Nat.le_of_ble_eq_true rfl) (by decide) dX2_placeThatDiffers_14 ?_
  refine lv_istore_n (lv' := [(1, .int 0), (0, .ref h0)]) C.1 C.2.1 dX2_placeThatDiffers_17 rfl hl (by decide) rfl (fun ls hl => ?_)
  refine lv_iconst (v := 0) C.1 C.2.1 dX2_placeThatDiffers_18 (by decide) ?_
  refine lv_istore_n (lv' := [(2, .int 0), (1, .int 0), (0, .ref h0)]) C.1 C.2.1 dX2_placeThatDiffers_19 rfl hl (by decide) rfl (fun ls hl => ?_)
  refine lv_iload_n C.1 C.2.1 dX2_placeThatDiffers_20 rfl (lv_at hl 0 rfl) ?_
  refine lv_iload_n C.1 C.2.1 dX2_placeThatDiffers_21 rfl (lv_at hl 1 rfl) ?_
  refine lv_icmp_ge (tgt := 52) C.1 C.2.1 dX2_placeThatDiffers_22 (by decide) (fun _ => ?_) (fun c3008 => absurd c3008 (by decide))
  refine lv_iconst (v := (-1)) C.1 C.2.1 dX2_placeThatDiffers_52 (by decide) ?_
  exact k_zretP C hr hlk rfl rfl dX2_placeThatDiffers_53
set_option maxHeartbeats 4000000 in
set_option maxRecDepth 100000 in
theorem kcX3_isTired (l : Launch) (D : va_G) (h0 h1 h2 h3 h4 : Nat) (sz : Nat)  : Met l yX3_isTired (Cond.code yX3_isTired cX3_isTired 1 (some .boolean) :: gG) { frames := 1, cells := 0, slots := 0, locals := 64 } (cPre D [] [(h0, .inr (3, [.ref h1, .ref h2, .int 0, .int 0, .int 0, .ref h3, .ref h4]))] sz [.ref h0]) (vp_Si (fun r => r = 0)) 0 0 (fun _ => False) := by
  refine Met.ofW (cc := cX3_isTired) (maxL := 1) (ret := (some .boolean)) (by decide) rfl ?_
  intro p e s m args below meth c s₁ B hml hv
  obtain ⟨rfl, aks, rfl, Wd⟩ := k_enter hv
  have C : CallFix p m c cX3_isTired 1 s _ gG RX3 := ⟨B.exec, B.bytes, hml, findClass_of_methodNamed B.named, fun w h => atoms_spec (ws := Cond.code yX3_isTired cX3_isTired 1 (some .boolean) :: gG) B.pre w (List.mem_cons_of_mem _ h)⟩
  have hr := B.returns
  have hlk := B.notSynchronized
  obtain ⟨A, Wd⟩ : ∃ A, wX D [] s [(h0, .inr (3, [.ref h1, .ref h2, .int 0, .int 0, .int 0, .ref h3, .ref h4]))] s.heap A s.heap [] := ⟨_, Wd⟩
  refine k_locals (Nat.le_of_ble_eq_true rfl) [(0, .ref h0)] rfl (fun ls hl => ?_)
  refine lv_aload_n C.1 C.2.1 dX3_isTired_0 rfl (lv_at hl 0 rfl) ?_
  refine k_get C Wd KX3 0 4 rfl (by decide) fl_X3_42 rfl dX3_isTired_1 ?_
  refine lv_iconst (v := 2) C.1 C.2.1 dX3_isTired_4 (by decide) ?_
  refine lv_icmp_ne (tgt := 12) C.1 C.2.1 dX3_isTired_5 (by decide) (fun _ => ?_) (fun c3011 => absurd c3011 (by decide))
  refine lv_iconst (v := 0) C.1 C.2.1 dX3_isTired_12 (by decide) ?_
  exact k_zretP C hr hlk rfl rfl dX3_isTired_13
set_option maxHeartbeats 4000000 in
set_option maxRecDepth 100000 in
theorem kcX2_note (l : Launch) (D : va_G) (h0 h1 h2 h3 h4 h5 h6 h7 h8 h9 h10 : Nat) (sz : Nat)  : Met l yX2_note (Cond.code yX2_note cX2_note 6 none :: gG) { frames := 2, cells := 0, slots := 0, locals := 86 } (cPre D [] [(h0, .inr (2, [.int (-1), .int (-1), .int 0, .int 0, .ref h1, .ref h2])), (h1, .inr (3, [.ref h3, .ref h4, .int 0, .int 0, .int 0, .ref h5, .ref h6])), (h2, .inr (3, [.ref h7, .ref h8, .int 0, .int 0, .int 0, .ref h9, .ref h10]))] sz [.ref h0, .int 0, .int 256]) (va_Qv (fun (_ : Unit) => True) (fun u t => cB D (va_A [(h0, .inr (2, [.int (-1), .int (-1), .int 0, .int 0, .ref h1, .ref h2])), (h1, .inr (3, [.ref h3, .ref h4, .int 0, .int 0, .int 0, .ref h5, .ref h6])), (h2, .inr (3, [.ref h7, .ref h8, .int 0, .int 0, .int 0, .ref h9, .ref h10]))] sz) ((fun (_ : Unit) => ([] : List (ClassId × FieldType))) u) ((fun (_ : Unit) => ([(h0, .inr (2, [.int (-1), .int (-1), .int 0, .int 0, .ref h1, .ref h2])), (h1, .inr (3, [.ref h3, .ref h4, .int 0, .int 0, .int 0, .ref h5, .ref h6])), (h2, .inr (3, [.ref h7, .ref h8, .int 0, .int 0, .int 0, .ref h9, .ref h10]))] : va_W)) u) t) (va_A [(h0, .inr (2, [.int (-1), .int (-1), .int 0, .int 0, .ref h1, .ref h2])), (h1, .inr (3, [.ref h3, .ref h4, .int 0, .int 0, .int 0, .ref h5, .ref h6])), (h2, .inr (3, [.ref h7, .ref h8, .int 0, .int 0, .int 0, .ref h9, .ref h10]))] sz)) 0 0 (va_A [(h0, .inr (2, [.int (-1), .int (-1), .int 0, .int 0, .ref h1, .ref h2])), (h1, .inr (3, [.ref h3, .ref h4, .int 0, .int 0, .int 0, .ref h5, .ref h6])), (h2, .inr (3, [.ref h7, .ref h8, .int 0, .int 0, .int 0, .ref h9, .ref h10]))] sz) := by
  refine Met.ofW (cc := cX2_note) (maxL := 6) (ret := none) (by decide) rfl ?_
  intro p e s m args below meth c s₁ B hml hv
  obtain ⟨rfl, aks, rfl, Wd⟩ := k_enter hv
  have C : CallFix p m c cX2_note 6 s _ gG RX2 := ⟨B.exec, B.bytes, hml, findClass_of_methodNamed B.named, fun w h => atoms_spec (ws := Cond.code yX2_note cX2_note 6 none :: gG) B.pre w (List.mem_cons_of_mem _ h)⟩
  have hr := B.returns
  have hlk := B.notSynchronized
  generalize va_A [(h0, .inr (2, [.int (-1), .int (-1), .int 0, .int 0, .ref h1, .ref h2])), (h1, .inr (3, [.ref h3, .ref h4, .int 0, .int 0, .int 0, .ref h5, .ref h6])), (h2, .inr (3, [.ref h7, .ref h8, .int 0, .int 0, .int 0, .ref h9, .ref h10]))] s.heap.size = A at Wd ⊢
  refine k_locals (Nat.le_of_ble_eq_true rfl) [(0, .ref h0), (1, .int 0), (2, .int 256)] rfl (fun ls hl => ?_)
  refine lv_aload_n C.1 C.2.1 dX2_note_0 rfl (lv_at hl 0 rfl) ?_
  refine k_pi (k_runV (rest := []) C aks Wd cs_X2_56 (kcX2_placeThatDiffers l D h0 h1 h2 h3 h4 h5 h6 h7 h8 h9 h10 _ ) [0, 1, 2] rfl (by decide) [] rfl 0 2 rfl rfl rfl rfl rfl ⟨(Nat.le_of_ble_eq_true rfl), (Nat.le_of_ble_eq_true rfl)⟩ hl.1 rfl rfl (Nat.le_of_ble_eq_true rfl) ⟨(Nat.le_of_ble_eq_true rfl), (Nat.le_of_ble_eq_true rfl)⟩ dX2_note_1) (fun r w3023 => ?_)
  obtain rfl := w3023
  refine lv_istore_n (lv' := [(3, .int (-1)), (0, .ref h0), (1, .int 0), (2, .int 256)]) C.1 C.2.1 dX2_note_4 rfl hl (by decide) rfl (fun ls hl => ?_)
  refine lv_aload_n C.1 C.2.1 dX2_note_5 rfl (lv_at hl 1 rfl) ?_
  refine k_get C Wd KX2 0 4 rfl (by decide) fl_X2_12 rfl dX2_note_6 ?_
  refine k_pi (k_runV (rest := []) C aks Wd cs_X2_60 (kcX3_isTired l D h1 h3 h4 h5 h6 _ ) [1] rfl (by decide) [] rfl 1 3 rfl rfl rfl rfl rfl ⟨(Nat.le_of_ble_eq_true rfl), (Nat.le_of_ble_eq_true rfl)⟩ hl.1 rfl rfl (Nat.le_of_ble_eq_true rfl) ⟨(Nat.le_of_ble_eq_true rfl), (Nat.le_of_ble_eq_true rfl)⟩ dX2_note_9) (fun r w3024 => ?_)
  obtain rfl := w3024
  refine lv_if_ne (tgt := 25) C.1 C.2.1 dX2_note_12 (by decide) (fun c3025 => absurd c3025 (by decide)) (fun _ => ?_)
  refine lv_aload_n C.1 C.2.1 dX2_note_15 rfl (lv_at hl 1 rfl) ?_
  refine k_get C Wd KX2 0 5 rfl (by decide) fl_X2_18 rfl dX2_note_16 ?_
  refine k_pi (k_runV (rest := []) C aks Wd cs_X2_60 (kcX3_isTired l D h2 h7 h8 h9 h10 _ ) [2] rfl (by decide) [] rfl 2 3 rfl rfl rfl rfl rfl ⟨(Nat.le_of_ble_eq_true rfl), (Nat.le_of_ble_eq_true rfl)⟩ hl.1 rfl rfl (Nat.le_of_ble_eq_true rfl) ⟨(Nat.le_of_ble_eq_true rfl), (Nat.le_of_ble_eq_true rfl)⟩ dX2_note_19) (fun r w3026 => ?_)
  obtain rfl := w3026
  refine lv_if_eq (tgt := 29) C.1 C.2.1 dX2_note_22 (by decide) (fun _ => ?_) (fun c3027 => absurd c3027 (by decide))
  refine lv_iconst (v := 0) C.1 C.2.1 dX2_note_29 (by decide) ?_
  refine lv_istore (lv' := [(4, .int 0), (3, .int (-1)), (0, .ref h0), (1, .int 0), (2, .int 256)]) C.1 C.2.1 dX2_note_30 hl (by decide) rfl (fun ls hl => ?_)
  refine lv_aload_n C.1 C.2.1 dX2_note_32 rfl (lv_at hl 2 rfl) ?_
  refine k_get C Wd KX2 0 4 rfl (by decide) fl_X2_12 rfl dX2_note_33 ?_
  refine k_get C Wd KX3 1 2 rfl (by decide) fl_X2_64 rfl dX2_note_36 ?_
  refine lv_aload_n C.1 C.2.1 dX2_note_39 rfl (lv_at hl 2 rfl) ?_
  refine k_get C Wd KX2 0 5 rfl (by decide) fl_X2_18 rfl dX2_note_40 ?_
  refine k_get C Wd KX3 2 2 rfl (by decide) fl_X2_64 rfl dX2_note_43 ?_
  refine lv_icmp_ne (tgt := 66) C.1 C.2.1 dX2_note_46 (by decide) (fun c3028 => absurd c3028 (by decide)) (fun _ => ?_)
  refine lv_aload_n C.1 C.2.1 dX2_note_49 rfl (lv_at hl 2 rfl) ?_
  refine k_get C Wd KX2 0 4 rfl (by decide) fl_X2_12 rfl dX2_note_50 ?_
  refine k_get C Wd KX3 1 4 rfl (by decide) fl_X2_67 rfl dX2_note_53 ?_
  refine lv_aload_n C.1 C.2.1 dX2_note_56 rfl (lv_at hl 2 rfl) ?_
  refine k_get C Wd KX2 0 5 rfl (by decide) fl_X2_18 rfl dX2_note_57 ?_
  refine k_get C Wd KX3 2 4 rfl (by decide) fl_X2_67 rfl dX2_note_60 ?_
  refine lv_icmp_eq (tgt := 70) C.1 C.2.1 dX2_note_63 (by decide) (fun _ => ?_) (fun c3029 => absurd c3029 (by decide))
  refine lv_iconst (v := 0) C.1 C.2.1 dX2_note_70 (by decide) ?_
  refine lv_istore (lv' := [(5, .int 0), (4, .int 0), (3, .int (-1)), (0, .ref h0), (1, .int 0), (2, .int 256)]) C.1 C.2.1 dX2_note_71 hl (by decide) rfl (fun ls hl => ?_)
  refine lv_aload_n C.1 C.2.1 dX2_note_73 rfl (lv_at hl 3 rfl) ?_
  refine lv_aload_n C.1 C.2.1 dX2_note_74 rfl (lv_at hl 3 rfl) ?_
  refine k_get C Wd KX2 0 3 rfl (by decide) fl_X2_31 rfl dX2_note_75 ?_
  refine lv_if_ne (tgt := 86) C.1 C.2.1 dX2_note_78 (by decide) (fun c3030 => absurd c3030 (by decide)) (fun _ => ?_)
  refine lv_iload C.1 C.2.1 dX2_note_81 (lv_at hl 1 rfl) ?_
  refine lv_if_eq (tgt := 90) C.1 C.2.1 dX2_note_83 (by decide) (fun _ => ?_) (fun c3031 => absurd c3031 (by decide))
  refine lv_iconst (v := 0) C.1 C.2.1 dX2_note_90 (by decide) ?_
  refine k_put C Wd KX2 0 3 [(h0, .inr (2, [.int (-1), .int (-1), .int 0, .int 0, .ref h1, .ref h2])), (h1, .inr (3, [.ref h3, .ref h4, .int 0, .int 0, .int 0, .ref h5, .ref h6])), (h2, .inr (3, [.ref h7, .ref h8, .int 0, .int 0, .int 0, .ref h9, .ref h10]))] rfl (by decide) fl_X2_31 rfl rfl rfl (Nat.le_of_ble_eq_true rfl) rfl dX2_note_91 (fun H locs Wd => ?_)
  refine lv_iload_n C.1 C.2.1 dX2_note_94 rfl (lv_at hl 2 rfl) ?_
  refine lv_iconst (v := (-1)) C.1 C.2.1 dX2_note_95 (by decide) ?_
  refine lv_icmp_ne (tgt := 110) C.1 C.2.1 dX2_note_96 (by decide) (fun c3032 => absurd c3032 (by decide)) (fun _ => ?_)
  refine lv_iload C.1 C.2.1 dX2_note_99 (lv_at hl 1 rfl) ?_
  refine lv_if_ne (tgt := 109) C.1 C.2.1 dX2_note_101 (by decide) (fun c3033 => absurd c3033 (by decide)) (fun _ => ?_)
  refine lv_iload C.1 C.2.1 dX2_note_104 (lv_at hl 0 rfl) ?_
  refine lv_if_ne (tgt := 110) C.1 C.2.1 dX2_note_106 (by decide) (fun c3034 => absurd c3034 (by decide)) (fun _ => ?_)
  exact k_vret C hr hlk Wd () trivial [0, 1, 2] rfl (by decide) [] rfl (by decide) (by decide) dX2_note_109
set_option maxHeartbeats 4000000 in
set_option maxRecDepth 100000 in
theorem kcX2_compare (l : Launch) (D : va_G) (h0 h1 h2 h3 h4 h5 h6 h7 h8 h9 h10 h11 h12 h13 h14 h15 h16 h17 h18 h19 h20 h21 h22 h23 h24 h25 h26 h27 h28 h29 h30 h31 h32 h33 h34 h35 h36 h37 h38 h39 h40 : Nat) (a2 a3 a4 a5 : ClassId) (sz : Nat)  : Met l yX2_compare (Cond.code yX2_compare cX2_compare 9 (some .boolean) :: gG) { frames := 3, cells := 0, slots := 0, locals := 111 } (cPre D [(a2, .int), (a3, .int), (a4, .int), (a5, .int)] [(h0, .inr (2, [.int (-1), .int (-1), .int 0, .int 0, .ref h3, .ref h4])), (h3, .inr (3, [.ref h7, .ref h8, .int 0, .int 0, .int 0, .ref h9, .ref h10])), (h7, .inr (1, [.ref h15, .int 0, .ref h16, .ref h17, .ref h18, .ref h19, .ref h20, .ref h21, .ref h22, .ref h23, .ref h24, .ref h25, .ref h26, .ref h27])), (h1, .inr (8, [.ref h5, .int 0])), (h27, .inl (a4, 480, .inl (fun _ => 0))), (h4, .inr (3, [.ref h11, .ref h12, .int 0, .int 0, .int 0, .ref h13, .ref h14])), (h11, .inr (1, [.ref h28, .int 0, .ref h29, .ref h30, .ref h31, .ref h32, .ref h33, .ref h34, .ref h35, .ref h36, .ref h37, .ref h38, .ref h39, .ref h40])), (h2, .inr (8, [.ref h6, .int 0])), (h40, .inl (a5, 480, .inl (fun _ => 0))), (h9, .inl (a2, 6, .inl (fun _ => 0))), (h13, .inl (a3, 6, .inl (fun _ => 0)))] sz [.ref h0, .ref h1, .ref h2, .int 0]) (va_Qi (fun (r : Int32) (_ : Unit) => r = 0) (fun u t => cB D (va_A [(h0, .inr (2, [.int (-1), .int (-1), .int 0, .int 0, .ref h3, .ref h4])), (h3, .inr (3, [.ref h7, .ref h8, .int 0, .int 0, .int 0, .ref h9, .ref h10])), (h7, .inr (1, [.ref h15, .int 0, .ref h16, .ref h17, .ref h18, .ref h19, .ref h20, .ref h21, .ref h22, .ref h23, .ref h24, .ref h25, .ref h26, .ref h27])), (h1, .inr (8, [.ref h5, .int 0])), (h27, .inl (a4, 480, .inl (fun _ => 0))), (h4, .inr (3, [.ref h11, .ref h12, .int 0, .int 0, .int 0, .ref h13, .ref h14])), (h11, .inr (1, [.ref h28, .int 0, .ref h29, .ref h30, .ref h31, .ref h32, .ref h33, .ref h34, .ref h35, .ref h36, .ref h37, .ref h38, .ref h39, .ref h40])), (h2, .inr (8, [.ref h6, .int 0])), (h40, .inl (a5, 480, .inl (fun _ => 0))), (h9, .inl (a2, 6, .inl (fun _ => 0))), (h13, .inl (a3, 6, .inl (fun _ => 0)))] sz) ((fun (_ : Unit) => ([] : List (ClassId × FieldType))) u) ((fun (_ : Unit) => ([(h0, .inr (2, [.int (-1), .int (-1), .int 0, .int 0, .ref h3, .ref h4])), (h3, .inr (3, [.ref h7, .ref h8, .int 0, .int 0, .int 0, .ref h9, .ref h10])), (h7, .inr (1, [.ref h1, .int 0, .ref h16, .ref h17, .ref h18, .ref h19, .ref h20, .ref h21, .ref h22, .ref h23, .ref h24, .ref h25, .ref h26, .ref h27])), (h1, .inr (8, [.ref h5, .int 0])), (h27, .inl (a4, 480, .inl (fun _ => 0))), (h4, .inr (3, [.ref h11, .ref h12, .int 0, .int 0, .int 0, .ref h13, .ref h14])), (h11, .inr (1, [.ref h2, .int 0, .ref h29, .ref h30, .ref h31, .ref h32, .ref h33, .ref h34, .ref h35, .ref h36, .ref h37, .ref h38, .ref h39, .ref h40])), (h2, .inr (8, [.ref h6, .int 0])), (h40, .inl (a5, 480, .inl (fun _ => 0))), (h9, .inl (a2, 6, .inl (upd (upd (upd (upd (upd (upd (fun _ => 0) 0 0) 1 0) 2 0) 3 0) 4 0) 5 0))), (h13, .inl (a3, 6, .inl (upd (upd (upd (upd (upd (upd (fun _ => 0) 0 0) 1 0) 2 0) 3 0) 4 0) 5 0)))] : va_W)) u) t) (va_A [(h0, .inr (2, [.int (-1), .int (-1), .int 0, .int 0, .ref h3, .ref h4])), (h3, .inr (3, [.ref h7, .ref h8, .int 0, .int 0, .int 0, .ref h9, .ref h10])), (h7, .inr (1, [.ref h15, .int 0, .ref h16, .ref h17, .ref h18, .ref h19, .ref h20, .ref h21, .ref h22, .ref h23, .ref h24, .ref h25, .ref h26, .ref h27])), (h1, .inr (8, [.ref h5, .int 0])), (h27, .inl (a4, 480, .inl (fun _ => 0))), (h4, .inr (3, [.ref h11, .ref h12, .int 0, .int 0, .int 0, .ref h13, .ref h14])), (h11, .inr (1, [.ref h28, .int 0, .ref h29, .ref h30, .ref h31, .ref h32, .ref h33, .ref h34, .ref h35, .ref h36, .ref h37, .ref h38, .ref h39, .ref h40])), (h2, .inr (8, [.ref h6, .int 0])), (h40, .inl (a5, 480, .inl (fun _ => 0))), (h9, .inl (a2, 6, .inl (fun _ => 0))), (h13, .inl (a3, 6, .inl (fun _ => 0)))] sz)) 0 0 (va_A [(h0, .inr (2, [.int (-1), .int (-1), .int 0, .int 0, .ref h3, .ref h4])), (h3, .inr (3, [.ref h7, .ref h8, .int 0, .int 0, .int 0, .ref h9, .ref h10])), (h7, .inr (1, [.ref h15, .int 0, .ref h16, .ref h17, .ref h18, .ref h19, .ref h20, .ref h21, .ref h22, .ref h23, .ref h24, .ref h25, .ref h26, .ref h27])), (h1, .inr (8, [.ref h5, .int 0])), (h27, .inl (a4, 480, .inl (fun _ => 0))), (h4, .inr (3, [.ref h11, .ref h12, .int 0, .int 0, .int 0, .ref h13, .ref h14])), (h11, .inr (1, [.ref h28, .int 0, .ref h29, .ref h30, .ref h31, .ref h32, .ref h33, .ref h34, .ref h35, .ref h36, .ref h37, .ref h38, .ref h39, .ref h40])), (h2, .inr (8, [.ref h6, .int 0])), (h40, .inl (a5, 480, .inl (fun _ => 0))), (h9, .inl (a2, 6, .inl (fun _ => 0))), (h13, .inl (a3, 6, .inl (fun _ => 0)))] sz) := by
  refine Met.ofW (cc := cX2_compare) (maxL := 9) (ret := (some .boolean)) (by decide) rfl ?_
  intro p e s m args below meth c s₁ B hml hv
  obtain ⟨rfl, aks, rfl, Wd⟩ := k_enter hv
  have C : CallFix p m c cX2_compare 9 s _ gG RX2 := ⟨B.exec, B.bytes, hml, findClass_of_methodNamed B.named, fun w h => atoms_spec (ws := Cond.code yX2_compare cX2_compare 9 (some .boolean) :: gG) B.pre w (List.mem_cons_of_mem _ h)⟩
  have hr := B.returns
  have hlk := B.notSynchronized
  generalize va_A [(h0, .inr (2, [.int (-1), .int (-1), .int 0, .int 0, .ref h3, .ref h4])), (h3, .inr (3, [.ref h7, .ref h8, .int 0, .int 0, .int 0, .ref h9, .ref h10])), (h7, .inr (1, [.ref h15, .int 0, .ref h16, .ref h17, .ref h18, .ref h19, .ref h20, .ref h21, .ref h22, .ref h23, .ref h24, .ref h25, .ref h26, .ref h27])), (h1, .inr (8, [.ref h5, .int 0])), (h27, .inl (a4, 480, .inl (fun _ => 0))), (h4, .inr (3, [.ref h11, .ref h12, .int 0, .int 0, .int 0, .ref h13, .ref h14])), (h11, .inr (1, [.ref h28, .int 0, .ref h29, .ref h30, .ref h31, .ref h32, .ref h33, .ref h34, .ref h35, .ref h36, .ref h37, .ref h38, .ref h39, .ref h40])), (h2, .inr (8, [.ref h6, .int 0])), (h40, .inl (a5, 480, .inl (fun _ => 0))), (h9, .inl (a2, 6, .inl (fun _ => 0))), (h13, .inl (a3, 6, .inl (fun _ => 0)))] s.heap.size = A at Wd ⊢
  refine k_locals (Nat.le_of_ble_eq_true rfl) [(0, .ref h0), (1, .ref h1), (2, .ref h2), (3, .int 0)] rfl (fun ls hl => ?_)
  refine lv_aload_n C.1 C.2.1 dX2_compare_0 rfl (lv_at hl 0 rfl) ?_
  refine lv_iconst (v := (-1)) C.1 C.2.1 dX2_compare_1 (by decide) ?_
  refine k_put C Wd KX2 0 0 [(h0, .inr (2, [.int (-1), .int (-1), .int 0, .int 0, .ref h3, .ref h4])), (h3, .inr (3, [.ref h7, .ref h8, .int 0, .int 0, .int 0, .ref h9, .ref h10])), (h7, .inr (1, [.ref h15, .int 0, .ref h16, .ref h17, .ref h18, .ref h19, .ref h20, .ref h21, .ref h22, .ref h23, .ref h24, .ref h25, .ref h26, .ref h27])), (h1, .inr (8, [.ref h5, .int 0])), (h27, .inl (a4, 480, .inl (fun _ => 0))), (h4, .inr (3, [.ref h11, .ref h12, .int 0, .int 0, .int 0, .ref h13, .ref h14])), (h11, .inr (1, [.ref h28, .int 0, .ref h29, .ref h30, .ref h31, .ref h32, .ref h33, .ref h34, .ref h35, .ref h36, .ref h37, .ref h38, .ref h39, .ref h40])), (h2, .inr (8, [.ref h6, .int 0])), (h40, .inl (a5, 480, .inl (fun _ => 0))), (h9, .inl (a2, 6, .inl (fun _ => 0))), (h13, .inl (a3, 6, .inl (fun _ => 0)))] rfl (by decide) fl_X2_21 rfl rfl rfl (Nat.le_of_ble_eq_true rfl) rfl dX2_compare_2 (fun H locs Wd => ?_)
  refine lv_aload_n C.1 C.2.1 dX2_compare_5 rfl (lv_at hl 0 rfl) ?_
  refine lv_iconst (v := (-1)) C.1 C.2.1 dX2_compare_6 (by decide) ?_
  refine k_put C Wd KX2 0 1 [(h0, .inr (2, [.int (-1), .int (-1), .int 0, .int 0, .ref h3, .ref h4])), (h3, .inr (3, [.ref h7, .ref h8, .int 0, .int 0, .int 0, .ref h9, .ref h10])), (h7, .inr (1, [.ref h15, .int 0, .ref h16, .ref h17, .ref h18, .ref h19, .ref h20, .ref h21, .ref h22, .ref h23, .ref h24, .ref h25, .ref h26, .ref h27])), (h1, .inr (8, [.ref h5, .int 0])), (h27, .inl (a4, 480, .inl (fun _ => 0))), (h4, .inr (3, [.ref h11, .ref h12, .int 0, .int 0, .int 0, .ref h13, .ref h14])), (h11, .inr (1, [.ref h28, .int 0, .ref h29, .ref h30, .ref h31, .ref h32, .ref h33, .ref h34, .ref h35, .ref h36, .ref h37, .ref h38, .ref h39, .ref h40])), (h2, .inr (8, [.ref h6, .int 0])), (h40, .inl (a5, 480, .inl (fun _ => 0))), (h9, .inl (a2, 6, .inl (fun _ => 0))), (h13, .inl (a3, 6, .inl (fun _ => 0)))] rfl (by decide) fl_X2_25 rfl rfl rfl (Nat.le_of_ble_eq_true rfl) rfl dX2_compare_7 (fun H locs Wd => ?_)
  refine lv_aload_n C.1 C.2.1 dX2_compare_10 rfl (lv_at hl 0 rfl) ?_
  refine lv_iconst (v := 0) C.1 C.2.1 dX2_compare_11 (by decide) ?_
  refine k_put C Wd KX2 0 2 [(h0, .inr (2, [.int (-1), .int (-1), .int 0, .int 0, .ref h3, .ref h4])), (h3, .inr (3, [.ref h7, .ref h8, .int 0, .int 0, .int 0, .ref h9, .ref h10])), (h7, .inr (1, [.ref h15, .int 0, .ref h16, .ref h17, .ref h18, .ref h19, .ref h20, .ref h21, .ref h22, .ref h23, .ref h24, .ref h25, .ref h26, .ref h27])), (h1, .inr (8, [.ref h5, .int 0])), (h27, .inl (a4, 480, .inl (fun _ => 0))), (h4, .inr (3, [.ref h11, .ref h12, .int 0, .int 0, .int 0, .ref h13, .ref h14])), (h11, .inr (1, [.ref h28, .int 0, .ref h29, .ref h30, .ref h31, .ref h32, .ref h33, .ref h34, .ref h35, .ref h36, .ref h37, .ref h38, .ref h39, .ref h40])), (h2, .inr (8, [.ref h6, .int 0])), (h40, .inl (a5, 480, .inl (fun _ => 0))), (h9, .inl (a2, 6, .inl (fun _ => 0))), (h13, .inl (a3, 6, .inl (fun _ => 0)))] rfl (by decide) fl_X2_28 rfl rfl rfl (Nat.le_of_ble_eq_true rfl) rfl dX2_compare_12 (fun H locs Wd => ?_)
  refine lv_aload_n C.1 C.2.1 dX2_compare_15 rfl (lv_at hl 0 rfl) ?_
  refine lv_iconst (v := 0) C.1 C.2.1 dX2_compare_16 (by decide) ?_
  refine k_put C Wd KX2 0 3 [(h0, .inr (2, [.int (-1), .int (-1), .int 0, .int 0, .ref h3, .ref h4])), (h3, .inr (3, [.ref h7, .ref h8, .int 0, .int 0, .int 0, .ref h9, .ref h10])), (h7, .inr (1, [.ref h15, .int 0, .ref h16, .ref h17, .ref h18, .ref h19, .ref h20, .ref h21, .ref h22, .ref h23, .ref h24, .ref h25, .ref h26, .ref h27])), (h1, .inr (8, [.ref h5, .int 0])), (h27, .inl (a4, 480, .inl (fun _ => 0))), (h4, .inr (3, [.ref h11, .ref h12, .int 0, .int 0, .int 0, .ref h13, .ref h14])), (h11, .inr (1, [.ref h28, .int 0, .ref h29, .ref h30, .ref h31, .ref h32, .ref h33, .ref h34, .ref h35, .ref h36, .ref h37, .ref h38, .ref h39, .ref h40])), (h2, .inr (8, [.ref h6, .int 0])), (h40, .inl (a5, 480, .inl (fun _ => 0))), (h9, .inl (a2, 6, .inl (fun _ => 0))), (h13, .inl (a3, 6, .inl (fun _ => 0)))] rfl (by decide) fl_X2_31 rfl rfl rfl (Nat.le_of_ble_eq_true rfl) rfl dX2_compare_17 (fun H locs Wd => ?_)
  refine lv_aload_n C.1 C.2.1 dX2_compare_20 rfl (lv_at hl 0 rfl) ?_
  refine k_get C Wd KX2 0 4 rfl (by decide) fl_X2_12 rfl dX2_compare_21 ?_
  refine k_get C Wd KX3 1 0 rfl (by decide) fl_X2_35 rfl dX2_compare_24 ?_
  refine lv_aload_n C.1 C.2.1 dX2_compare_27 rfl (lv_at hl 1 rfl) ?_
  refine k_cv Wd [2, 3, 4] [0, 1, 5, 6, 7, 8, 9, 10] rfl (wr := [(h0, .inr (2, [.int (-1), .int (-1), .int 0, .int 0, .ref h3, .ref h4])), (h3, .inr (3, [.ref h7, .ref h8, .int 0, .int 0, .int 0, .ref h9, .ref h10])), (h4, .inr (3, [.ref h11, .ref h12, .int 0, .int 0, .int 0, .ref h13, .ref h14])), (h11, .inr (1, [.ref h28, .int 0, .ref h29, .ref h30, .ref h31, .ref h32, .ref h33, .ref h34, .ref h35, .ref h36, .ref h37, .ref h38, .ref h39, .ref h40])), (h2, .inr (8, [.ref h6, .int 0])), (h40, .inl (a5, 480, .inl (fun _ => 0))), (h9, .inl (a2, 6, .inl (fun _ => 0))), (h13, .inl (a3, 6, .inl (fun _ => 0)))]) rfl (by decide) (by decide) (cells' := 0) (slots' := 0) (by decide) (by decide) (k_runV (rest := []) C aks Wd cs_X2_39 (kcX1_trace l D h7 h1 h15 h16 h17 h18 h19 h20 h21 h22 h23 h24 h25 h26 h27 h5 a4 _ ) [2, 3, 4] rfl (by decide) [2] rfl 2 1 rfl rfl rfl rfl rfl ⟨(Nat.le_of_ble_eq_true rfl), (Nat.le_of_ble_eq_true rfl)⟩ hl.1 rfl rfl (Nat.le_of_ble_eq_true rfl) ⟨(Nat.le_of_ble_eq_true rfl), (Nat.le_of_ble_eq_true rfl)⟩ dX2_compare_28) (fun _ H locs w3040 Wd => ?_)
  have Wd : wX D [(a2, .int), (a3, .int), (a4, .int), (a5, .int)] s [(h0, .inr (2, [.int (-1), .int (-1), .int 0, .int 0, .ref h3, .ref h4])), (h3, .inr (3, [.ref h7, .ref h8, .int 0, .int 0, .int 0, .ref h9, .ref h10])), (h4, .inr (3, [.ref h11, .ref h12, .int 0, .int 0, .int 0, .ref h13, .ref h14])), (h11, .inr (1, [.ref h28, .int 0, .ref h29, .ref h30, .ref h31, .ref h32, .ref h33, .ref h34, .ref h35, .ref h36, .ref h37, .ref h38, .ref h39, .ref h40])), (h2, .inr (8, [.ref h6, .int 0])), (h40, .inl (a5, 480, .inl (fun _ => 0))), (h9, .inl (a2, 6, .inl (fun _ => 0))), (h13, .inl (a3, 6, .inl (fun _ => 0))), (h7, .inr (1, [.ref h1, .int 0, .ref h16, .ref h17, .ref h18, .ref h19, .ref h20, .ref h21, .ref h22, .ref h23, .ref h24, .ref h25, .ref h26, .ref h27])), (h1, .inr (8, [.ref h5, .int 0])), (h27, .inl (a4, 480, .inl (fun _ => 0)))] _ A s.heap _ := Wd
  refine lv_aload_n C.1 C.2.1 dX2_compare_31 rfl (lv_at hl 0 rfl) ?_
  refine k_get C Wd KX2 0 5 rfl (by decide) fl_X2_18 rfl dX2_compare_32 ?_
  refine k_get C Wd KX3 2 0 rfl (by decide) fl_X2_35 rfl dX2_compare_35 ?_
  refine lv_aload_n C.1 C.2.1 dX2_compare_38 rfl (lv_at hl 2 rfl) ?_
  refine k_cv Wd [3, 4, 5] [0, 1, 2, 6, 7, 8, 9, 10] rfl (wr := [(h0, .inr (2, [.int (-1), .int (-1), .int 0, .int 0, .ref h3, .ref h4])), (h3, .inr (3, [.ref h7, .ref h8, .int 0, .int 0, .int 0, .ref h9, .ref h10])), (h4, .inr (3, [.ref h11, .ref h12, .int 0, .int 0, .int 0, .ref h13, .ref h14])), (h9, .inl (a2, 6, .inl (fun _ => 0))), (h13, .inl (a3, 6, .inl (fun _ => 0))), (h7, .inr (1, [.ref h1, .int 0, .ref h16, .ref h17, .ref h18, .ref h19, .ref h20, .ref h21, .ref h22, .ref h23, .ref h24, .ref h25, .ref h26, .ref h27])), (h1, .inr (8, [.ref h5, .int 0])), (h27, .inl (a4, 480, .inl (fun _ => 0)))]) rfl (by decide) (by decide) (cells' := 0) (slots' := 0) (by decide) (by decide) (k_runV (rest := []) C aks Wd cs_X2_39 (kcX1_trace l D h11 h2 h28 h29 h30 h31 h32 h33 h34 h35 h36 h37 h38 h39 h40 h6 a5 _ ) [3, 4, 5] rfl (by decide) [3] rfl 3 1 rfl rfl rfl rfl rfl ⟨(Nat.le_of_ble_eq_true rfl), (Nat.le_of_ble_eq_true rfl)⟩ hl.1 rfl rfl (Nat.le_of_ble_eq_true rfl) ⟨(Nat.le_of_ble_eq_true rfl), (Nat.le_of_ble_eq_true rfl)⟩ dX2_compare_39) (fun _ H locs w3041 Wd => ?_)
  have Wd : wX D [(a2, .int), (a3, .int), (a4, .int), (a5, .int)] s [(h0, .inr (2, [.int (-1), .int (-1), .int 0, .int 0, .ref h3, .ref h4])), (h3, .inr (3, [.ref h7, .ref h8, .int 0, .int 0, .int 0, .ref h9, .ref h10])), (h4, .inr (3, [.ref h11, .ref h12, .int 0, .int 0, .int 0, .ref h13, .ref h14])), (h9, .inl (a2, 6, .inl (fun _ => 0))), (h13, .inl (a3, 6, .inl (fun _ => 0))), (h7, .inr (1, [.ref h1, .int 0, .ref h16, .ref h17, .ref h18, .ref h19, .ref h20, .ref h21, .ref h22, .ref h23, .ref h24, .ref h25, .ref h26, .ref h27])), (h1, .inr (8, [.ref h5, .int 0])), (h27, .inl (a4, 480, .inl (fun _ => 0))), (h11, .inr (1, [.ref h2, .int 0, .ref h29, .ref h30, .ref h31, .ref h32, .ref h33, .ref h34, .ref h35, .ref h36, .ref h37, .ref h38, .ref h39, .ref h40])), (h2, .inr (8, [.ref h6, .int 0])), (h40, .inl (a5, 480, .inl (fun _ => 0)))] _ A s.heap _ := Wd
  refine lv_aload_n C.1 C.2.1 dX2_compare_42 rfl (lv_at hl 0 rfl) ?_
  refine k_get C Wd KX2 0 4 rfl (by decide) fl_X2_12 rfl dX2_compare_43 ?_
  refine k_get C Wd KX3 1 0 rfl (by decide) fl_X2_35 rfl dX2_compare_46 ?_
  refine lv_iconst (v := 0) C.1 C.2.1 dX2_compare_49 (by decide) ?_
  refine k_pi (k_runV (rest := []) C aks Wd cs_X2_45 (kcX1_aheadOf l D h7 h1 h16 h17 h18 h19 h20 h21 h22 h23 h24 h25 h26 h27 0 _ ) [5] rfl (by decide) [] rfl 5 1 rfl rfl rfl rfl rfl ⟨(Nat.le_of_ble_eq_true rfl), (Nat.le_of_ble_eq_true rfl)⟩ hl.1 rfl rfl (Nat.le_of_ble_eq_true rfl) ⟨(Nat.le_of_ble_eq_true rfl), (Nat.le_of_ble_eq_true rfl)⟩ dX2_compare_50) (fun r w3042 => ?_)
  rcases w3042 with ⟨c3043, rfl⟩ | ⟨c3044, rfl⟩
  · exact absurd c3043 (by decide)
  · refine lv_aload_n C.1 C.2.1 dX2_compare_53 rfl (lv_at hl 0 rfl) ?_
    refine k_get C Wd KX2 0 5 rfl (by decide) fl_X2_18 rfl dX2_compare_54 ?_
    refine k_get C Wd KX3 2 0 rfl (by decide) fl_X2_35 rfl dX2_compare_57 ?_
    refine lv_iconst (v := 0) C.1 C.2.1 dX2_compare_60 (by decide) ?_
    refine k_pi (k_runV (rest := [.int 0]) C aks Wd cs_X2_45 (kcX1_aheadOf l D h11 h2 h29 h30 h31 h32 h33 h34 h35 h36 h37 h38 h39 h40 0 _ ) [8] rfl (by decide) [] rfl 8 1 rfl rfl rfl rfl rfl ⟨(Nat.le_of_ble_eq_true rfl), (Nat.le_of_ble_eq_true rfl)⟩ hl.1 rfl rfl (Nat.le_of_ble_eq_true rfl) ⟨(Nat.le_of_ble_eq_true rfl), (Nat.le_of_ble_eq_true rfl)⟩ dX2_compare_61) (fun r w3045 => ?_)
    rcases w3045 with ⟨c3046, rfl⟩ | ⟨c3047, rfl⟩
    · exact absurd c3046 (by decide)
    · refine k_ior (v := 0) C (by decide) dX2_compare_64 ?_
      refine lv_istore (lv' := [(4, .int 0), (0, .ref h0), (1, .ref h1), (2, .ref h2), (3, .int 0)]) C.1 C.2.1 dX2_compare_65 hl (by decide) rfl (fun ls hl => ?_)
      refine lv_iload C.1 C.2.1 dX2_compare_67 (lv_at hl 0 rfl) ?_
      refine lv_iconst (v := 1) C.1 C.2.1 dX2_compare_69 (by decide) ?_
      refine k_iand (v := 0) C (by decide) dX2_compare_70 ?_
      refine lv_if_eq (tgt := 78) C.1 C.2.1 dX2_compare_71 (by decide) (fun _ => ?_) (fun c3048 => absurd c3048 (by decide))
      refine lv_bipush (v := 16) C.1 C.2.1 dX2_compare_78 (by decide) ?_
      refine lv_istore (lv' := [(5, .int 16), (4, .int 0), (0, .ref h0), (1, .ref h1), (2, .ref h2), (3, .int 0)]) C.1 C.2.1 dX2_compare_80 hl (by decide) rfl (fun ls hl => ?_)
      refine lv_iload C.1 C.2.1 dX2_compare_82 (lv_at hl 1 rfl) ?_
      refine lv_iconst (v := 2) C.1 C.2.1 dX2_compare_84 (by decide) ?_
      refine k_iand (v := 0) C (by decide) dX2_compare_85 ?_
      refine lv_if_eq (tgt := 93) C.1 C.2.1 dX2_compare_86 (by decide) (fun _ => ?_) (fun c3049 => absurd c3049 (by decide))
      refine lv_bipush (v := 16) C.1 C.2.1 dX2_compare_93 (by decide) ?_
      refine lv_istore (lv' := [(6, .int 16), (5, .int 16), (4, .int 0), (0, .ref h0), (1, .ref h1), (2, .ref h2), (3, .int 0)]) C.1 C.2.1 dX2_compare_95 hl (by decide) rfl (fun ls hl => ?_)
      refine lv_iconst (v := 0) C.1 C.2.1 dX2_compare_97 (by decide) ?_
      refine lv_istore (lv' := [(7, .int 0), (6, .int 16), (5, .int 16), (4, .int 0), (0, .ref h0), (1, .ref h1), (2, .ref h2), (3, .int 0)]) C.1 C.2.1 dX2_compare_98 hl (by decide) rfl (fun ls hl => ?_)
      refine lv_iload C.1 C.2.1 dX2_compare_100 (lv_at hl 0 rfl) ?_
      refine lv_bipush (v := 16) C.1 C.2.1 dX2_compare_102 (by decide) ?_
      refine lv_icmp_ge (tgt := 189) C.1 C.2.1 dX2_compare_104 (by decide) (fun c3050 => absurd c3050 (by decide)) (fun _ => ?_)
      refine lv_iconst (v := 0) C.1 C.2.1 dX2_compare_107 (by decide) ?_
      refine lv_istore (lv' := [(8, .int 0), (7, .int 0), (6, .int 16), (5, .int 16), (4, .int 0), (0, .ref h0), (1, .ref h1), (2, .ref h2), (3, .int 0)]) C.1 C.2.1 dX2_compare_108 hl (by decide) rfl (fun ls hl => ?_)
      refine lv_iload C.1 C.2.1 dX2_compare_110 (lv_at hl 0 rfl) ?_
      refine lv_bipush (v := 16) C.1 C.2.1 dX2_compare_112 (by decide) ?_
      refine lv_icmp_ge (tgt := 179) C.1 C.2.1 dX2_compare_114 (by decide) (fun c3051 => absurd c3051 (by decide)) (fun _ => ?_)
      refine lv_aload_n C.1 C.2.1 dX2_compare_117 rfl (lv_at hl 5 rfl) ?_
      refine k_get C Wd KX2 0 4 rfl (by decide) fl_X2_12 rfl dX2_compare_118 ?_
      refine lv_iload C.1 C.2.1 dX2_compare_121 (lv_at hl 1 rfl) ?_
      refine lv_iload C.1 C.2.1 dX2_compare_123 (lv_at hl 0 rfl) ?_
      refine k_cv Wd [1, 3, 5] [0, 2, 4, 6, 7, 8, 9, 10] rfl (wr := [(h0, .inr (2, [.int (-1), .int (-1), .int 0, .int 0, .ref h3, .ref h4])), (h4, .inr (3, [.ref h11, .ref h12, .int 0, .int 0, .int 0, .ref h13, .ref h14])), (h13, .inl (a3, 6, .inl (fun _ => 0))), (h1, .inr (8, [.ref h5, .int 0])), (h27, .inl (a4, 480, .inl (fun _ => 0))), (h11, .inr (1, [.ref h2, .int 0, .ref h29, .ref h30, .ref h31, .ref h32, .ref h33, .ref h34, .ref h35, .ref h36, .ref h37, .ref h38, .ref h39, .ref h40])), (h2, .inr (8, [.ref h6, .int 0])), (h40, .inl (a5, 480, .inl (fun _ => 0)))]) rfl (by decide) (by decide) (cells' := 0) (slots' := 0) (by decide) (by decide) (k_runV (rest := []) C aks Wd cs_X2_49 (kcX3_go l D h3 h7 h8 h9 h10 h1 h16 h17 h18 h19 h20 h21 h22 h23 h24 h25 h26 h27 0 0 a2 _ ) [1, 3, 5] rfl (by decide) [0] rfl 1 3 rfl rfl rfl rfl rfl ⟨(Nat.le_of_ble_eq_true rfl), (Nat.le_of_ble_eq_true rfl)⟩ hl.1 rfl rfl (Nat.le_of_ble_eq_true rfl) ⟨(Nat.le_of_ble_eq_true rfl), (Nat.le_of_ble_eq_true rfl)⟩ dX2_compare_125) (fun _ H locs w3052 Wd => ?_)
      have Wd : wX D [(a2, .int), (a3, .int), (a4, .int), (a5, .int)] s [(h0, .inr (2, [.int (-1), .int (-1), .int 0, .int 0, .ref h3, .ref h4])), (h4, .inr (3, [.ref h11, .ref h12, .int 0, .int 0, .int 0, .ref h13, .ref h14])), (h13, .inl (a3, 6, .inl (fun _ => 0))), (h1, .inr (8, [.ref h5, .int 0])), (h27, .inl (a4, 480, .inl (fun _ => 0))), (h11, .inr (1, [.ref h2, .int 0, .ref h29, .ref h30, .ref h31, .ref h32, .ref h33, .ref h34, .ref h35, .ref h36, .ref h37, .ref h38, .ref h39, .ref h40])), (h2, .inr (8, [.ref h6, .int 0])), (h40, .inl (a5, 480, .inl (fun _ => 0))), (h3, .inr (3, [.ref h7, .ref h8, .int 0, .int 0, .int 0, .ref h9, .ref h10])), (h9, .inl (a2, 6, .inl (upd (upd (upd (upd (upd (upd (fun _ => 0) 0 0) 1 0) 2 0) 3 0) 4 0) 5 0))), (h7, .inr (1, [.ref h1, .int 0, .ref h16, .ref h17, .ref h18, .ref h19, .ref h20, .ref h21, .ref h22, .ref h23, .ref h24, .ref h25, .ref h26, .ref h27]))] _ A s.heap _ := Wd
      refine lv_aload_n C.1 C.2.1 dX2_compare_128 rfl (lv_at hl 5 rfl) ?_
      refine k_get C Wd KX2 0 5 rfl (by decide) fl_X2_18 rfl dX2_compare_129 ?_
      refine lv_iload C.1 C.2.1 dX2_compare_132 (lv_at hl 1 rfl) ?_
      refine lv_iload C.1 C.2.1 dX2_compare_134 (lv_at hl 0 rfl) ?_
      refine k_cv Wd [1, 2, 5] [0, 3, 4, 6, 7, 8, 9, 10] rfl (wr := [(h0, .inr (2, [.int (-1), .int (-1), .int 0, .int 0, .ref h3, .ref h4])), (h1, .inr (8, [.ref h5, .int 0])), (h27, .inl (a4, 480, .inl (fun _ => 0))), (h2, .inr (8, [.ref h6, .int 0])), (h40, .inl (a5, 480, .inl (fun _ => 0))), (h3, .inr (3, [.ref h7, .ref h8, .int 0, .int 0, .int 0, .ref h9, .ref h10])), (h9, .inl (a2, 6, .inl (upd (upd (upd (upd (upd (upd (fun _ => 0) 0 0) 1 0) 2 0) 3 0) 4 0) 5 0))), (h7, .inr (1, [.ref h1, .int 0, .ref h16, .ref h17, .ref h18, .ref h19, .ref h20, .ref h21, .ref h22, .ref h23, .ref h24, .ref h25, .ref h26, .ref h27]))]) rfl (by decide) (by decide) (cells' := 0) (slots' := 0) (by decide) (by decide) (k_runV (rest := []) C aks Wd cs_X2_49 (kcX3_go l D h4 h11 h12 h13 h14 h2 h29 h30 h31 h32 h33 h34 h35 h36 h37 h38 h39 h40 0 0 a3 _ ) [1, 2, 5] rfl (by decide) [1] rfl 1 3 rfl rfl rfl rfl rfl ⟨(Nat.le_of_ble_eq_true rfl), (Nat.le_of_ble_eq_true rfl)⟩ hl.1 rfl rfl (Nat.le_of_ble_eq_true rfl) ⟨(Nat.le_of_ble_eq_true rfl), (Nat.le_of_ble_eq_true rfl)⟩ dX2_compare_136) (fun _ H locs w3053 Wd => ?_)
      have Wd : wX D [(a2, .int), (a3, .int), (a4, .int), (a5, .int)] s [(h0, .inr (2, [.int (-1), .int (-1), .int 0, .int 0, .ref h3, .ref h4])), (h1, .inr (8, [.ref h5, .int 0])), (h27, .inl (a4, 480, .inl (fun _ => 0))), (h2, .inr (8, [.ref h6, .int 0])), (h40, .inl (a5, 480, .inl (fun _ => 0))), (h3, .inr (3, [.ref h7, .ref h8, .int 0, .int 0, .int 0, .ref h9, .ref h10])), (h9, .inl (a2, 6, .inl (upd (upd (upd (upd (upd (upd (fun _ => 0) 0 0) 1 0) 2 0) 3 0) 4 0) 5 0))), (h7, .inr (1, [.ref h1, .int 0, .ref h16, .ref h17, .ref h18, .ref h19, .ref h20, .ref h21, .ref h22, .ref h23, .ref h24, .ref h25, .ref h26, .ref h27])), (h4, .inr (3, [.ref h11, .ref h12, .int 0, .int 0, .int 0, .ref h13, .ref h14])), (h13, .inl (a3, 6, .inl (upd (upd (upd (upd (upd (upd (fun _ => 0) 0 0) 1 0) 2 0) 3 0) 4 0) 5 0))), (h11, .inr (1, [.ref h2, .int 0, .ref h29, .ref h30, .ref h31, .ref h32, .ref h33, .ref h34, .ref h35, .ref h36, .ref h37, .ref h38, .ref h39, .ref h40]))] _ A s.heap _ := Wd
      refine lv_aload_n C.1 C.2.1 dX2_compare_139 rfl (lv_at hl 5 rfl) ?_
      refine lv_bipush (v := 16) C.1 C.2.1 dX2_compare_140 (by decide) ?_
      refine lv_iload C.1 C.2.1 dX2_compare_142 (lv_at hl 1 rfl) ?_
      refine k_imul (v := 0) C (by decide) dX2_compare_144 ?_
      refine lv_iload C.1 C.2.1 dX2_compare_145 (lv_at hl 0 rfl) ?_
      refine k_iadd (v := 0) C (by decide) dX2_compare_147 ?_
      refine lv_iload C.1 C.2.1 dX2_compare_148 (lv_at hl 3 rfl) ?_
      refine lv_iload C.1 C.2.1 dX2_compare_150 (lv_at hl 2 rfl) ?_
      refine k_imul (v := 256) C (by decide) dX2_compare_152 ?_
      refine k_cv Wd [0, 5, 8] [1, 2, 3, 4, 6, 7, 9, 10] rfl (wr := [(h1, .inr (8, [.ref h5, .int 0])), (h27, .inl (a4, 480, .inl (fun _ => 0))), (h2, .inr (8, [.ref h6, .int 0])), (h40, .inl (a5, 480, .inl (fun _ => 0))), (h9, .inl (a2, 6, .inl (upd (upd (upd (upd (upd (upd (fun _ => 0) 0 0) 1 0) 2 0) 3 0) 4 0) 5 0))), (h7, .inr (1, [.ref h1, .int 0, .ref h16, .ref h17, .ref h18, .ref h19, .ref h20, .ref h21, .ref h22, .ref h23, .ref h24, .ref h25, .ref h26, .ref h27])), (h13, .inl (a3, 6, .inl (upd (upd (upd (upd (upd (upd (fun _ => 0) 0 0) 1 0) 2 0) 3 0) 4 0) 5 0))), (h11, .inr (1, [.ref h2, .int 0, .ref h29, .ref h30, .ref h31, .ref h32, .ref h33, .ref h34, .ref h35, .ref h36, .ref h37, .ref h38, .ref h39, .ref h40]))]) rfl (by decide) (by decide) (cells' := 0) (slots' := 0) (by decide) (by decide) (k_runV (rest := []) C aks Wd cs_X2_53 (kcX2_note l D h0 h3 h4 h7 h8 h9 h10 h11 h12 h13 h14 _ ) [0, 5, 8] rfl (by decide) [] rfl 0 2 rfl rfl rfl rfl rfl ⟨(Nat.le_of_ble_eq_true rfl), (Nat.le_of_ble_eq_true rfl)⟩ hl.1 rfl rfl (Nat.le_of_ble_eq_true rfl) ⟨(Nat.le_of_ble_eq_true rfl), (Nat.le_of_ble_eq_true rfl)⟩ dX2_compare_153) (fun _ H locs w3054 Wd => ?_)
      have Wd : wX D [(a2, .int), (a3, .int), (a4, .int), (a5, .int)] s [(h1, .inr (8, [.ref h5, .int 0])), (h27, .inl (a4, 480, .inl (fun _ => 0))), (h2, .inr (8, [.ref h6, .int 0])), (h40, .inl (a5, 480, .inl (fun _ => 0))), (h9, .inl (a2, 6, .inl (upd (upd (upd (upd (upd (upd (fun _ => 0) 0 0) 1 0) 2 0) 3 0) 4 0) 5 0))), (h7, .inr (1, [.ref h1, .int 0, .ref h16, .ref h17, .ref h18, .ref h19, .ref h20, .ref h21, .ref h22, .ref h23, .ref h24, .ref h25, .ref h26, .ref h27])), (h13, .inl (a3, 6, .inl (upd (upd (upd (upd (upd (upd (fun _ => 0) 0 0) 1 0) 2 0) 3 0) 4 0) 5 0))), (h11, .inr (1, [.ref h2, .int 0, .ref h29, .ref h30, .ref h31, .ref h32, .ref h33, .ref h34, .ref h35, .ref h36, .ref h37, .ref h38, .ref h39, .ref h40])), (h0, .inr (2, [.int (-1), .int (-1), .int 0, .int 0, .ref h3, .ref h4])), (h3, .inr (3, [.ref h7, .ref h8, .int 0, .int 0, .int 0, .ref h9, .ref h10])), (h4, .inr (3, [.ref h11, .ref h12, .int 0, .int 0, .int 0, .ref h13, .ref h14]))] _ A s.heap _ := Wd
      refine lv_iload_n C.1 C.2.1 dX2_compare_156 rfl (lv_at hl 8 rfl) ?_
      refine lv_if_eq (tgt := 169) C.1 C.2.1 dX2_compare_157 (by decide) (fun _ => ?_) (fun c3055 => absurd c3055 (by decide))
      refine lv_iload C.1 C.2.1 dX2_compare_169 (lv_at hl 0 rfl) ?_
      refine lv_iload C.1 C.2.1 dX2_compare_171 (lv_at hl 2 rfl) ?_
      refine k_iadd (v := 16) C (by decide) dX2_compare_173 ?_
      refine lv_istore (lv' := [(8, .int 16), (7, .int 0), (6, .int 16), (5, .int 16), (4, .int 0), (0, .ref h0), (1, .ref h1), (2, .ref h2), (3, .int 0)]) C.1 C.2.1 dX2_compare_174 hl (by decide) rfl (fun ls hl => ?_)
      refine lv_goto (tgt := 110) C.1 C.2.1 dX2_compare_176 (by decide) ?_
      refine lv_iload C.1 C.2.1 dX2_compare_110 (lv_at hl 0 rfl) ?_
      refine lv_bipush (v := 16) C.1 C.2.1 dX2_compare_112 (by decide) ?_
      refine lv_icmp_ge (tgt := 179) C.1 C.2.1 dX2_compare_114 (by decide) (fun _ => ?_) (fun c3056 => absurd c3056 (by decide))
      refine lv_iload C.1 C.2.1 dX2_compare_179 (lv_at hl 1 rfl) ?_
      refine lv_iload C.1 C.2.1 dX2_compare_181 (lv_at hl 3 rfl) ?_
      refine k_iadd (v := 16) C (by decide) dX2_compare_183 ?_
      refine lv_istore (lv' := [(7, .int 16), (8, .int 16), (6, .int 16), (5, .int 16), (4, .int 0), (0, .ref h0), (1, .ref h1), (2, .ref h2), (3, .int 0)]) C.1 C.2.1 dX2_compare_184 hl (by decide) rfl (fun ls hl => ?_)
      refine lv_goto (tgt := 100) C.1 C.2.1 dX2_compare_186 (by decide) ?_
      refine lv_iload C.1 C.2.1 dX2_compare_100 (lv_at hl 0 rfl) ?_
      refine lv_bipush (v := 16) C.1 C.2.1 dX2_compare_102 (by decide) ?_
      refine lv_icmp_ge (tgt := 189) C.1 C.2.1 dX2_compare_104 (by decide) (fun _ => ?_) (fun c3057 => absurd c3057 (by decide))
      refine lv_aload_n C.1 C.2.1 dX2_compare_189 rfl (lv_at hl 5 rfl) ?_
      refine k_get C Wd KX2 8 2 rfl (by decide) fl_X2_28 rfl dX2_compare_190 ?_
      refine lv_if_le (tgt := 200) C.1 C.2.1 dX2_compare_193 (by decide) (fun _ => ?_) (fun c3058 => absurd c3058 (by decide))
      refine lv_iconst (v := 0) C.1 C.2.1 dX2_compare_200 (by decide) ?_
      exact k_zret C hr hlk rfl Wd () rfl [8, 9, 5, 0, 1, 10, 7, 2, 3, 4, 6] rfl (by decide) [] rfl (by decide) (by decide) dX2_compare_201
set_option maxHeartbeats 4000000 in
set_option maxRecDepth 100000 in
theorem kcX2_verdict (l : Launch) (D : va_G) (h0 h1 h2 : Nat) (sz : Nat)  : Met l yX2_verdict (Cond.code yX2_verdict cX2_verdict 1 (some .int) :: gG) { frames := 1, cells := 0, slots := 0, locals := 64 } (cPre D [] [(h0, .inr (2, [.int (-1), .int (-1), .int 0, .int 0, .ref h1, .ref h2]))] sz [.ref h0]) (vp_Si (fun r => r = 0)) 0 0 (fun _ => False) := by
  refine Met.ofW (cc := cX2_verdict) (maxL := 1) (ret := (some .int)) (by decide) rfl ?_
  intro p e s m args below meth c s₁ B hml hv
  obtain ⟨rfl, aks, rfl, Wd⟩ := k_enter hv
  have C : CallFix p m c cX2_verdict 1 s _ gG RX2 := ⟨B.exec, B.bytes, hml, findClass_of_methodNamed B.named, fun w h => atoms_spec (ws := Cond.code yX2_verdict cX2_verdict 1 (some .int) :: gG) B.pre w (List.mem_cons_of_mem _ h)⟩
  have hr := B.returns
  have hlk := B.notSynchronized
  obtain ⟨A, Wd⟩ : ∃ A, wX D [] s [(h0, .inr (2, [.int (-1), .int (-1), .int 0, .int 0, .ref h1, .ref h2]))] s.heap A s.heap [] := ⟨_, Wd⟩
  refine k_locals (Nat.le_of_ble_eq_true rfl) [(0, .ref h0)] rfl (fun ls hl => ?_)
  refine lv_aload_n C.1 C.2.1 dX2_verdict_0 rfl (lv_at hl 0 rfl) ?_
  refine k_get C Wd KX2 0 2 rfl (by decide) fl_X2_28 rfl dX2_verdict_1 ?_
  refine lv_if_le (tgt := 11) C.1 C.2.1 dX2_verdict_4 (by decide) (fun _ => ?_) (fun c3063 => absurd c3063 (by decide))
  refine lv_aload_n C.1 C.2.1 dX2_verdict_11 rfl (lv_at hl 0 rfl) ?_
  refine k_get C Wd KX2 0 3 rfl (by decide) fl_X2_31 rfl dX2_verdict_12 ?_
  refine lv_if_eq (tgt := 22) C.1 C.2.1 dX2_verdict_15 (by decide) (fun _ => ?_) (fun c3064 => absurd c3064 (by decide))
  refine lv_iconst (v := 0) C.1 C.2.1 dX2_verdict_22 (by decide) ?_
  exact k_zretP C hr hlk rfl rfl dX2_verdict_23
set_option maxHeartbeats 4000000 in
set_option maxRecDepth 100000 in
theorem kcX11_judge_v4 (l : Launch) (D : va_G) (h0 h1 h2 h3 h4 h5 h6 h7 h8 h9 h20 h21 h22 h23 h24 h25 h26 h27 h32 h33 h48 h49 h83 h84 h85 h86 h87 h88 h89 h90 h95 h96 h97 h98 h99 h100 h101 h102 h103 h104 h105 h106 h107 h108 h109 h110 h111 h112 h113 h114 h115 h116 h117 h118 h119 h120 : Nat) (x0 x1 x2 : Int32) (g0 : Nat → Option Nat) (a0 a15 a16 a17 a18 : ClassId) (sz : Nat) (k_g0_x0 : g0 x0.toNatClampNeg = some h8) (k_g0_x1 : g0 x1.toNatClampNeg = some h9) (as0 : ¬ x0 < (0 : Int32)) (as1 : x0 < (6 : Int32)) (as2 : ¬ x1 < (0 : Int32)) (as3 : x1 < (6 : Int32)): Met l yX11_judge (Cond.code yX11_judge cX11_judge 7 (some .int) :: gG) { frames := 4, cells := 0, slots := 0, locals := 139 } (cPre D [(a0, .object RX8), (a15, .int), (a16, .int), (a17, .int), (a18, .int)] [(h0, .inr (11, [.ref h1, .int 0, .ref h2, .ref h3, .ref h4, .ref h5, .ref h6, .ref h7])), (h1, .inl (a0, 6, .inr (.inr (.inr (.inr g0))))), (h6, .inr (4, [.ref h20, .ref h21, .ref h22, .int (-1), .int (-1), .ref h23, .ref h24, .ref h25, .ref h26, .ref h27])), (h20, .inr (2, [.int (-1), .int (-1), .int 0, .int 0, .ref h48, .ref h49])), (h48, .inr (3, [.ref h83, .ref h84, .int 0, .int 0, .int 0, .ref h85, .ref h86])), (h83, .inr (1, [.ref h95, .int 0, .ref h96, .ref h97, .ref h98, .ref h99, .ref h100, .ref h101, .ref h102, .ref h103, .ref h104, .ref h105, .ref h106, .ref h107])), (h8, .inr (8, [.ref h32, .int 0])), (h107, .inl (a17, 480, .inl (fun _ => 0))), (h49, .inr (3, [.ref h87, .ref h88, .int 0, .int 0, .int 0, .ref h89, .ref h90])), (h87, .inr (1, [.ref h108, .int 0, .ref h109, .ref h110, .ref h111, .ref h112, .ref h113, .ref h114, .ref h115, .ref h116, .ref h117, .ref h118, .ref h119, .ref h120])), (h9, .inr (8, [.ref h33, .int 0])), (h120, .inl (a18, 480, .inl (fun _ => 0))), (h85, .inl (a15, 6, .inl (fun _ => 0))), (h89, .inl (a16, 6, .inl (fun _ => 0)))] sz [.ref h0, .int x0, .int x1, .int x2]) (va_Qi (fun (r : Int32) (_ : Unit) => (¬ x0 < (0 : Int32) ∧ ¬ (6 : Int32) ≤ x0 ∧ ¬ x1 < (0 : Int32) ∧ ¬ (6 : Int32) ≤ x1 ∧ x2 < (0 : Int32) ∧ r = (-1)) ∨ (¬ x0 < (0 : Int32) ∧ ¬ (6 : Int32) ≤ x0 ∧ ¬ x1 < (0 : Int32) ∧ ¬ (6 : Int32) ≤ x1 ∧ ¬ x2 < (0 : Int32) ∧ x2 ≤ (3 : Int32) ∧ x2 = (0 : Int32) ∧ r = 0) ∨ (¬ x0 < (0 : Int32) ∧ ¬ (6 : Int32) ≤ x0 ∧ ¬ x1 < (0 : Int32) ∧ ¬ (6 : Int32) ≤ x1 ∧ ¬ x2 < (0 : Int32) ∧ x2 ≤ (3 : Int32) ∧ ¬ x2 = (0 : Int32) ∧ x2 = (1 : Int32) ∧ r = (-1)) ∨ (¬ x0 < (0 : Int32) ∧ ¬ (6 : Int32) ≤ x0 ∧ ¬ x1 < (0 : Int32) ∧ ¬ (6 : Int32) ≤ x1 ∧ ¬ x2 < (0 : Int32) ∧ x2 ≤ (3 : Int32) ∧ ¬ x2 = (0 : Int32) ∧ ¬ x2 = (1 : Int32) ∧ x2 = (2 : Int32) ∧ r = (-1)) ∨ (¬ x0 < (0 : Int32) ∧ ¬ (6 : Int32) ≤ x0 ∧ ¬ x1 < (0 : Int32) ∧ ¬ (6 : Int32) ≤ x1 ∧ ¬ x2 < (0 : Int32) ∧ x2 ≤ (3 : Int32) ∧ ¬ x2 = (0 : Int32) ∧ ¬ x2 = (1 : Int32) ∧ ¬ x2 = (2 : Int32) ∧ r = 0) ∨ (¬ x0 < (0 : Int32) ∧ ¬ (6 : Int32) ≤ x0 ∧ ¬ x1 < (0 : Int32) ∧ ¬ (6 : Int32) ≤ x1 ∧ ¬ x2 < (0 : Int32) ∧ ¬ x2 ≤ (3 : Int32) ∧ r = (-1))) (fun u t => cB D (va_A [(h0, .inr (11, [.ref h1, .int 0, .ref h2, .ref h3, .ref h4, .ref h5, .ref h6, .ref h7])), (h1, .inl (a0, 6, .inr (.inr (.inr (.inr g0))))), (h6, .inr (4, [.ref h20, .ref h21, .ref h22, .int (-1), .int (-1), .ref h23, .ref h24, .ref h25, .ref h26, .ref h27])), (h20, .inr (2, [.int (-1), .int (-1), .int 0, .int 0, .ref h48, .ref h49])), (h48, .inr (3, [.ref h83, .ref h84, .int 0, .int 0, .int 0, .ref h85, .ref h86])), (h83, .inr (1, [.ref h95, .int 0, .ref h96, .ref h97, .ref h98, .ref h99, .ref h100, .ref h101, .ref h102, .ref h103, .ref h104, .ref h105, .ref h106, .ref h107])), (h8, .inr (8, [.ref h32, .int 0])), (h107, .inl (a17, 480, .inl (fun _ => 0))), (h49, .inr (3, [.ref h87, .ref h88, .int 0, .int 0, .int 0, .ref h89, .ref h90])), (h87, .inr (1, [.ref h108, .int 0, .ref h109, .ref h110, .ref h111, .ref h112, .ref h113, .ref h114, .ref h115, .ref h116, .ref h117, .ref h118, .ref h119, .ref h120])), (h9, .inr (8, [.ref h33, .int 0])), (h120, .inl (a18, 480, .inl (fun _ => 0))), (h85, .inl (a15, 6, .inl (fun _ => 0))), (h89, .inl (a16, 6, .inl (fun _ => 0)))] sz) ((fun (_ : Unit) => ([] : List (ClassId × FieldType))) u) ((fun (_ : Unit) => ([] : va_W)) u) t) (va_A [(h0, .inr (11, [.ref h1, .int 0, .ref h2, .ref h3, .ref h4, .ref h5, .ref h6, .ref h7])), (h1, .inl (a0, 6, .inr (.inr (.inr (.inr g0))))), (h6, .inr (4, [.ref h20, .ref h21, .ref h22, .int (-1), .int (-1), .ref h23, .ref h24, .ref h25, .ref h26, .ref h27])), (h20, .inr (2, [.int (-1), .int (-1), .int 0, .int 0, .ref h48, .ref h49])), (h48, .inr (3, [.ref h83, .ref h84, .int 0, .int 0, .int 0, .ref h85, .ref h86])), (h83, .inr (1, [.ref h95, .int 0, .ref h96, .ref h97, .ref h98, .ref h99, .ref h100, .ref h101, .ref h102, .ref h103, .ref h104, .ref h105, .ref h106, .ref h107])), (h8, .inr (8, [.ref h32, .int 0])), (h107, .inl (a17, 480, .inl (fun _ => 0))), (h49, .inr (3, [.ref h87, .ref h88, .int 0, .int 0, .int 0, .ref h89, .ref h90])), (h87, .inr (1, [.ref h108, .int 0, .ref h109, .ref h110, .ref h111, .ref h112, .ref h113, .ref h114, .ref h115, .ref h116, .ref h117, .ref h118, .ref h119, .ref h120])), (h9, .inr (8, [.ref h33, .int 0])), (h120, .inl (a18, 480, .inl (fun _ => 0))), (h85, .inl (a15, 6, .inl (fun _ => 0))), (h89, .inl (a16, 6, .inl (fun _ => 0)))] sz)) 0 0 (va_A [(h0, .inr (11, [.ref h1, .int 0, .ref h2, .ref h3, .ref h4, .ref h5, .ref h6, .ref h7])), (h1, .inl (a0, 6, .inr (.inr (.inr (.inr g0))))), (h6, .inr (4, [.ref h20, .ref h21, .ref h22, .int (-1), .int (-1), .ref h23, .ref h24, .ref h25, .ref h26, .ref h27])), (h20, .inr (2, [.int (-1), .int (-1), .int 0, .int 0, .ref h48, .ref h49])), (h48, .inr (3, [.ref h83, .ref h84, .int 0, .int 0, .int 0, .ref h85, .ref h86])), (h83, .inr (1, [.ref h95, .int 0, .ref h96, .ref h97, .ref h98, .ref h99, .ref h100, .ref h101, .ref h102, .ref h103, .ref h104, .ref h105, .ref h106, .ref h107])), (h8, .inr (8, [.ref h32, .int 0])), (h107, .inl (a17, 480, .inl (fun _ => 0))), (h49, .inr (3, [.ref h87, .ref h88, .int 0, .int 0, .int 0, .ref h89, .ref h90])), (h87, .inr (1, [.ref h108, .int 0, .ref h109, .ref h110, .ref h111, .ref h112, .ref h113, .ref h114, .ref h115, .ref h116, .ref h117, .ref h118, .ref h119, .ref h120])), (h9, .inr (8, [.ref h33, .int 0])), (h120, .inl (a18, 480, .inl (fun _ => 0))), (h85, .inl (a15, 6, .inl (fun _ => 0))), (h89, .inl (a16, 6, .inl (fun _ => 0)))] sz) := by
  refine Met.ofW (cc := cX11_judge) (maxL := 7) (ret := (some .int)) (by decide) rfl ?_
  intro p e s m args below meth c s₁ B hml hv
  obtain ⟨rfl, aks, rfl, Wd⟩ := k_enter hv
  have C : CallFix p m c cX11_judge 7 s _ gG RX11 := ⟨B.exec, B.bytes, hml, findClass_of_methodNamed B.named, fun w h => atoms_spec (ws := Cond.code yX11_judge cX11_judge 7 (some .int) :: gG) B.pre w (List.mem_cons_of_mem _ h)⟩
  have hr := B.returns
  have hlk := B.notSynchronized
  generalize va_A [(h0, .inr (11, [.ref h1, .int 0, .ref h2, .ref h3, .ref h4, .ref h5, .ref h6, .ref h7])), (h1, .inl (a0, 6, .inr (.inr (.inr (.inr g0))))), (h6, .inr (4, [.ref h20, .ref h21, .ref h22, .int (-1), .int (-1), .ref h23, .ref h24, .ref h25, .ref h26, .ref h27])), (h20, .inr (2, [.int (-1), .int (-1), .int 0, .int 0, .ref h48, .ref h49])), (h48, .inr (3, [.ref h83, .ref h84, .int 0, .int 0, .int 0, .ref h85, .ref h86])), (h83, .inr (1, [.ref h95, .int 0, .ref h96, .ref h97, .ref h98, .ref h99, .ref h100, .ref h101, .ref h102, .ref h103, .ref h104, .ref h105, .ref h106, .ref h107])), (h8, .inr (8, [.ref h32, .int 0])), (h107, .inl (a17, 480, .inl (fun _ => 0))), (h49, .inr (3, [.ref h87, .ref h88, .int 0, .int 0, .int 0, .ref h89, .ref h90])), (h87, .inr (1, [.ref h108, .int 0, .ref h109, .ref h110, .ref h111, .ref h112, .ref h113, .ref h114, .ref h115, .ref h116, .ref h117, .ref h118, .ref h119, .ref h120])), (h9, .inr (8, [.ref h33, .int 0])), (h120, .inl (a18, 480, .inl (fun _ => 0))), (h85, .inl (a15, 6, .inl (fun _ => 0))), (h89, .inl (a16, 6, .inl (fun _ => 0)))] s.heap.size = A at Wd ⊢
  refine k_locals (Nat.le_of_ble_eq_true rfl) [(0, .ref h0), (1, .int x0), (2, .int x1), (3, .int x2)] rfl (fun ls hl => ?_)
  refine lv_aload_n C.1 C.2.1 dX11_judge_0 rfl (lv_at hl 0 rfl) ?_
  refine lv_iload_n C.1 C.2.1 dX11_judge_1 rfl (lv_at hl 1 rfl) ?_
  refine k_pq (k_runV (rest := []) C aks Wd cs_X11_77 (kcX11_slotAt l D h0 h1 h2 h3 h4 h5 h6 h7 x0 g0 a0 _ ) [0, 1] rfl (by decide) [0] rfl 0 11 rfl rfl rfl rfl rfl ⟨(Nat.le_of_ble_eq_true rfl), (Nat.le_of_ble_eq_true rfl)⟩ hl.1 rfl rfl (Nat.le_of_ble_eq_true rfl) ⟨(Nat.le_of_ble_eq_true rfl), (Nat.le_of_ble_eq_true rfl)⟩ dX11_judge_2) (fun r w3068 => ?_)
  rcases w3068 with ⟨c3069, rfl⟩ | ⟨c3070, c3071, rfl⟩ | ⟨c3072, c3073, rfl⟩
  · exact absurd c3069 as0
  · exact False.elim (by have z0 := kz_nlt as0; have z1 := kz_lt as1; have z2 := kz_nlt c3070; have z3 := kz_le c3071; have t0 : (0 : Int32).toInt = 0 := (by decide); have t6 : (6 : Int32).toInt = 6 := (by decide); omega)
  · refine W.eq (g2 := F0 m 5 ls [.ref h8]) (by rw [show (g0 x0.toNatClampNeg) = some h8 from k_g0_x0]; rfl) ?_
    refine lv_astore (lv' := [(4, .ref h8), (0, .ref h0), (1, .int x0), (2, .int x1), (3, .int x2)]) C.1 C.2.1 dX11_judge_5 hl (by decide) rfl (fun ls hl => ?_)
    refine lv_aload_n C.1 C.2.1 dX11_judge_7 rfl (lv_at hl 1 rfl) ?_
    refine lv_iload_n C.1 C.2.1 dX11_judge_8 rfl (lv_at hl 3 rfl) ?_
    refine k_pq (k_runV (rest := []) C aks Wd cs_X11_77 (kcX11_slotAt l D h0 h1 h2 h3 h4 h5 h6 h7 x1 g0 a0 _ ) [0, 1] rfl (by decide) [0] rfl 0 11 rfl rfl rfl rfl rfl ⟨(Nat.le_of_ble_eq_true rfl), (Nat.le_of_ble_eq_true rfl)⟩ hl.1 rfl rfl (Nat.le_of_ble_eq_true rfl) ⟨(Nat.le_of_ble_eq_true rfl), (Nat.le_of_ble_eq_true rfl)⟩ dX11_judge_9) (fun r w3074 => ?_)
    rcases w3074 with ⟨c3075, rfl⟩ | ⟨c3076, c3077, rfl⟩ | ⟨c3078, c3079, rfl⟩
    · exact absurd c3075 as2
    · exact False.elim (by have z0 := kz_nlt as2; have z1 := kz_lt as3; have z2 := kz_nlt c3076; have z3 := kz_le c3077; have t0 : (0 : Int32).toInt = 0 := (by decide); have t6 : (6 : Int32).toInt = 6 := (by decide); omega)
    · refine W.eq (g2 := F0 m 12 ls [.ref h9]) (by rw [show (g0 x1.toNatClampNeg) = some h9 from k_g0_x1]; rfl) ?_
      refine lv_astore (lv' := [(5, .ref h9), (4, .ref h8), (0, .ref h0), (1, .int x0), (2, .int x1), (3, .int x2)]) C.1 C.2.1 dX11_judge_12 hl (by decide) rfl (fun ls hl => ?_)
      refine lv_aload C.1 C.2.1 dX11_judge_14 (lv_at hl 1 rfl) ?_
      refine lv_ifnull C.1 C.2.1 dX11_judge_16 ?_
      refine lv_aload C.1 C.2.1 dX11_judge_19 (lv_at hl 0 rfl) ?_
      refine lv_ifnull C.1 C.2.1 dX11_judge_21 ?_
      refine lv_iload_n C.1 C.2.1 dX11_judge_24 rfl (lv_at hl 5 rfl) ?_
      refine lv_if_lt (tgt := 33) C.1 C.2.1 dX11_judge_25 (by decide) (fun c3080 => ?_) (fun c3080 => ?_)
      · refine lv_iconst (v := (-1)) C.1 C.2.1 dX11_judge_33 (by decide) ?_
        exact k_zret C hr hlk rfl Wd () (Or.inl (⟨c3072, c3073, c3078, c3079, c3080, rfl⟩)) [] rfl (by decide) [] rfl (by decide) (by decide) dX11_judge_34
      · refine lv_iload_n C.1 C.2.1 dX11_judge_28 rfl (lv_at hl 5 rfl) ?_
        refine lv_iconst (v := 3) C.1 C.2.1 dX11_judge_29 (by decide) ?_
        refine lv_icmp_le (tgt := 35) C.1 C.2.1 dX11_judge_30 (by decide) (fun c3081 => ?_) (fun c3081 => ?_)
        · refine lv_aload_n C.1 C.2.1 dX11_judge_35 rfl (lv_at hl 2 rfl) ?_
          refine k_get C Wd KX11 0 6 rfl (by decide) fl_X11_50 rfl dX11_judge_36 ?_
          refine k_get C Wd KX4 2 0 rfl (by decide) fl_X11_143 rfl dX11_judge_39 ?_
          refine lv_astore (lv' := [(6, .ref h20), (5, .ref h9), (4, .ref h8), (0, .ref h0), (1, .int x0), (2, .int x1), (3, .int x2)]) C.1 C.2.1 dX11_judge_42 hl (by decide) rfl (fun ls hl => ?_)
          refine lv_aload C.1 C.2.1 dX11_judge_44 (lv_at hl 0 rfl) ?_
          refine lv_aload C.1 C.2.1 dX11_judge_46 (lv_at hl 2 rfl) ?_
          refine lv_aload C.1 C.2.1 dX11_judge_48 (lv_at hl 1 rfl) ?_
          refine lv_iconst (v := 0) C.1 C.2.1 dX11_judge_50 (by decide) ?_
          refine k_ci Wd [3, 4, 5, 6, 7, 8, 9, 10, 11, 12, 13] [0, 1, 2] rfl (wr := [(h0, .inr (11, [.ref h1, .int 0, .ref h2, .ref h3, .ref h4, .ref h5, .ref h6, .ref h7])), (h1, .inl (a0, 6, .inr (.inr (.inr (.inr g0))))), (h6, .inr (4, [.ref h20, .ref h21, .ref h22, .int (-1), .int (-1), .ref h23, .ref h24, .ref h25, .ref h26, .ref h27]))]) rfl (by decide) (by decide) (cells' := 0) (slots' := 0) (by decide) (by decide) (k_runV (rest := []) C aks Wd cs_X11_147 (kcX2_compare l D h20 h8 h9 h48 h49 h32 h33 h83 h84 h85 h86 h87 h88 h89 h90 h95 h96 h97 h98 h99 h100 h101 h102 h103 h104 h105 h106 h107 h108 h109 h110 h111 h112 h113 h114 h115 h116 h117 h118 h119 h120 a15 a16 a17 a18 _ ) [3, 4, 5, 6, 7, 8, 9, 10, 11, 12, 13] rfl (by decide) [1, 2, 3, 4] rfl 3 2 rfl rfl rfl rfl rfl ⟨(Nat.le_of_ble_eq_true rfl), (Nat.le_of_ble_eq_true rfl)⟩ hl.1 rfl rfl (Nat.le_of_ble_eq_true rfl) ⟨(Nat.le_of_ble_eq_true rfl), (Nat.le_of_ble_eq_true rfl)⟩ dX11_judge_51) (fun r _ H locs w3082 Wd => ?_)
          have Wd : wX D [(a0, .object RX8), (a15, .int), (a16, .int), (a17, .int), (a18, .int)] s [(h0, .inr (11, [.ref h1, .int 0, .ref h2, .ref h3, .ref h4, .ref h5, .ref h6, .ref h7])), (h1, .inl (a0, 6, .inr (.inr (.inr (.inr g0))))), (h6, .inr (4, [.ref h20, .ref h21, .ref h22, .int (-1), .int (-1), .ref h23, .ref h24, .ref h25, .ref h26, .ref h27])), (h20, .inr (2, [.int (-1), .int (-1), .int 0, .int 0, .ref h48, .ref h49])), (h48, .inr (3, [.ref h83, .ref h84, .int 0, .int 0, .int 0, .ref h85, .ref h86])), (h83, .inr (1, [.ref h8, .int 0, .ref h96, .ref h97, .ref h98, .ref h99, .ref h100, .ref h101, .ref h102, .ref h103, .ref h104, .ref h105, .ref h106, .ref h107])), (h8, .inr (8, [.ref h32, .int 0])), (h107, .inl (a17, 480, .inl (fun _ => 0))), (h49, .inr (3, [.ref h87, .ref h88, .int 0, .int 0, .int 0, .ref h89, .ref h90])), (h87, .inr (1, [.ref h9, .int 0, .ref h109, .ref h110, .ref h111, .ref h112, .ref h113, .ref h114, .ref h115, .ref h116, .ref h117, .ref h118, .ref h119, .ref h120])), (h9, .inr (8, [.ref h33, .int 0])), (h120, .inl (a18, 480, .inl (fun _ => 0))), (h85, .inl (a15, 6, .inl (upd (upd (upd (upd (upd (upd (fun _ => 0) 0 0) 1 0) 2 0) 3 0) 4 0) 5 0))), (h89, .inl (a16, 6, .inl (upd (upd (upd (upd (upd (upd (fun _ => 0) 0 0) 1 0) 2 0) 3 0) 4 0) 5 0)))] _ A s.heap _ := Wd
          obtain rfl := w3082
          refine lv_pop C.1 C.2.1 dX11_judge_54 rfl ?_
          refine lv_iload_n C.1 C.2.1 dX11_judge_55 rfl (lv_at hl 6 rfl) ?_
          by_cases c3083 : x2 = (0 : Int32)
          · subst c3083
            refine lv_tableIn (off := 28) (tgt := 84) C.1 C.2.1 dX11_judge_56 (by decide) (by decide) (by decide) (by decide) ?_
            refine lv_aload C.1 C.2.1 dX11_judge_84 (lv_at hl 0 rfl) ?_
            refine k_pi (k_runV (rest := []) C aks Wd cs_X11_153 (kcX2_verdict l D h20 h48 h49 _ ) [3] rfl (by decide) [] rfl 3 2 rfl rfl rfl rfl rfl ⟨(Nat.le_of_ble_eq_true rfl), (Nat.le_of_ble_eq_true rfl)⟩ hl.1 rfl rfl (Nat.le_of_ble_eq_true rfl) ⟨(Nat.le_of_ble_eq_true rfl), (Nat.le_of_ble_eq_true rfl)⟩ dX11_judge_86) (fun r w3084 => ?_)
            obtain rfl := w3084
            exact k_zret C hr hlk rfl Wd () (Or.inr (Or.inl (⟨c3072, c3073, c3078, c3079, c3080, c3081, rfl, rfl⟩))) [] rfl (by decide) [] rfl (by decide) (by decide) dX11_judge_89
          by_cases c3085 : x2 = (1 : Int32)
          · subst c3085
            refine lv_tableIn (off := 34) (tgt := 90) C.1 C.2.1 dX11_judge_56 (by decide) (by decide) (by decide) (by decide) ?_
            refine lv_aload C.1 C.2.1 dX11_judge_90 (lv_at hl 0 rfl) ?_
            refine k_get C Wd KX2 3 0 rfl (by decide) fl_X11_156 rfl dX11_judge_92 ?_
            exact k_zret C hr hlk rfl Wd () (Or.inr (Or.inr (Or.inl (⟨c3072, c3073, c3078, c3079, c3080, c3081, c3083, rfl, rfl⟩)))) [] rfl (by decide) [] rfl (by decide) (by decide) dX11_judge_95
          by_cases c3086 : x2 = (2 : Int32)
          · subst c3086
            refine lv_tableIn (off := 40) (tgt := 96) C.1 C.2.1 dX11_judge_56 (by decide) (by decide) (by decide) (by decide) ?_
            refine lv_aload C.1 C.2.1 dX11_judge_96 (lv_at hl 0 rfl) ?_
            refine k_get C Wd KX2 3 1 rfl (by decide) fl_X11_159 rfl dX11_judge_98 ?_
            exact k_zret C hr hlk rfl Wd () (Or.inr (Or.inr (Or.inr (Or.inl (⟨c3072, c3073, c3078, c3079, c3080, c3081, c3083, c3085, rfl, rfl⟩))))) [] rfl (by decide) [] rfl (by decide) (by decide) dX11_judge_101
          refine lv_tableOut (tgt := 102) C.1 C.2.1 dX11_judge_56 (by have z0 := kz_nlt c3080; have z1 := kz_le c3081; have z2 := kz_ne c3083; have z3 := kz_ne c3085; have z4 := kz_ne c3086; have t0 : (0 : Int32).toInt = 0 := (by decide); have t3 : (3 : Int32).toInt = 3 := (by decide); have t1 : (1 : Int32).toInt = 1 := (by decide); have t2 : (2 : Int32).toInt = 2 := (by decide); omega) (by decide) ?_
          refine lv_aload C.1 C.2.1 dX11_judge_102 (lv_at hl 0 rfl) ?_
          refine k_get C Wd KX2 3 2 rfl (by decide) fl_X11_162 rfl dX11_judge_104 ?_
          exact k_zret C hr hlk rfl Wd () (Or.inr (Or.inr (Or.inr (Or.inr (Or.inl (⟨c3072, c3073, c3078, c3079, c3080, c3081, c3083, c3085, c3086, rfl⟩)))))) [] rfl (by decide) [] rfl (by decide) (by decide) dX11_judge_107
        · refine lv_iconst (v := (-1)) C.1 C.2.1 dX11_judge_33 (by decide) ?_
          exact k_zret C hr hlk rfl Wd () (Or.inr (Or.inr (Or.inr (Or.inr (Or.inr (⟨c3072, c3073, c3078, c3079, c3080, c3081, rfl⟩)))))) [] rfl (by decide) [] rfl (by decide) (by decide) dX11_judge_34
set_option maxHeartbeats 4000000 in
set_option maxRecDepth 100000 in
theorem kcX2_compare_v1 (l : Launch) (D : va_G) (h0 h1 h2 h3 h4 h5 h6 h7 h8 h9 h10 h11 h12 h13 h14 h15 h16 h17 h18 h19 h20 h21 h22 h23 h24 h25 h26 h27 h28 h29 h30 h31 h32 h33 h34 h35 h36 h37 h38 : Nat) (a1 a2 a3 a4 : ClassId) (sz : Nat)  : Met l yX2_compare (Cond.code yX2_compare cX2_compare 9 (some .boolean) :: gG) { frames := 3, cells := 0, slots := 0, locals := 111 } (cPre D [(a1, .int), (a2, .int), (a3, .int), (a4, .int)] [(h0, .inr (2, [.int (-1), .int (-1), .int 0, .int 0, .ref h2, .ref h3])), (h2, .inr (3, [.ref h5, .ref h6, .int 0, .int 0, .int 0, .ref h7, .ref h8])), (h5, .inr (1, [.ref h13, .int 0, .ref h14, .ref h15, .ref h16, .ref h17, .ref h18, .ref h19, .ref h20, .ref h21, .ref h22, .ref h23, .ref h24, .ref h25])), (h1, .inr (8, [.ref h4, .int 0])), (h25, .inl (a3, 480, .inl (fun _ => 0))), (h3, .inr (3, [.ref h9, .ref h10, .int 0, .int 0, .int 0, .ref h11, .ref h12])), (h9, .inr (1, [.ref h26, .int 0, .ref h27, .ref h28, .ref h29, .ref h30, .ref h31, .ref h32, .ref h33, .ref h34, .ref h35, .ref h36, .ref h37, .ref h38])), (h38, .inl (a4, 480, .inl (fun _ => 0))), (h7, .inl (a1, 6, .inl (fun _ => 0))), (h11, .inl (a2, 6, .inl (fun _ => 0)))] sz [.ref h0, .ref h1, .ref h1, .int 0]) (va_Qi (fun (r : Int32) (_ : Unit) => r = 0) (fun u t => cB D (va_A [(h0, .inr (2, [.int (-1), .int (-1), .int 0, .int 0, .ref h2, .ref h3])), (h2, .inr (3, [.ref h5, .ref h6, .int 0, .int 0, .int 0, .ref h7, .ref h8])), (h5, .inr (1, [.ref h13, .int 0, .ref h14, .ref h15, .ref h16, .ref h17, .ref h18, .ref h19, .ref h20, .ref h21, .ref h22, .ref h23, .ref h24, .ref h25])), (h1, .inr (8, [.ref h4, .int 0])), (h25, .inl (a3, 480, .inl (fun _ => 0))), (h3, .inr (3, [.ref h9, .ref h10, .int 0, .int 0, .int 0, .ref h11, .ref h12])), (h9, .inr (1, [.ref h26, .int 0, .ref h27, .ref h28, .ref h29, .ref h30, .ref h31, .ref h32, .ref h33, .ref h34, .ref h35, .ref h36, .ref h37, .ref h38])), (h38, .inl (a4, 480, .inl (fun _ => 0))), (h7, .inl (a1, 6, .inl (fun _ => 0))), (h11, .inl (a2, 6, .inl (fun _ => 0)))] sz) ((fun (_ : Unit) => ([] : List (ClassId × FieldType))) u) ((fun (_ : Unit) => ([(h0, .inr (2, [.int (-1), .int (-1), .int 0, .int 0, .ref h2, .ref h3])), (h2, .inr (3, [.ref h5, .ref h6, .int 0, .int 0, .int 0, .ref h7, .ref h8])), (h5, .inr (1, [.ref h1, .int 0, .ref h14, .ref h15, .ref h16, .ref h17, .ref h18, .ref h19, .ref h20, .ref h21, .ref h22, .ref h23, .ref h24, .ref h25])), (h1, .inr (8, [.ref h4, .int 0])), (h25, .inl (a3, 480, .inl (fun _ => 0))), (h3, .inr (3, [.ref h9, .ref h10, .int 0, .int 0, .int 0, .ref h11, .ref h12])), (h9, .inr (1, [.ref h1, .int 0, .ref h27, .ref h28, .ref h29, .ref h30, .ref h31, .ref h32, .ref h33, .ref h34, .ref h35, .ref h36, .ref h37, .ref h38])), (h38, .inl (a4, 480, .inl (fun _ => 0))), (h7, .inl (a1, 6, .inl (upd (upd (upd (upd (upd (upd (fun _ => 0) 0 0) 1 0) 2 0) 3 0) 4 0) 5 0))), (h11, .inl (a2, 6, .inl (upd (upd (upd (upd (upd (upd (fun _ => 0) 0 0) 1 0) 2 0) 3 0) 4 0) 5 0)))] : va_W)) u) t) (va_A [(h0, .inr (2, [.int (-1), .int (-1), .int 0, .int 0, .ref h2, .ref h3])), (h2, .inr (3, [.ref h5, .ref h6, .int 0, .int 0, .int 0, .ref h7, .ref h8])), (h5, .inr (1, [.ref h13, .int 0, .ref h14, .ref h15, .ref h16, .ref h17, .ref h18, .ref h19, .ref h20, .ref h21, .ref h22, .ref h23, .ref h24, .ref h25])), (h1, .inr (8, [.ref h4, .int 0])), (h25, .inl (a3, 480, .inl (fun _ => 0))), (h3, .inr (3, [.ref h9, .ref h10, .int 0, .int 0, .int 0, .ref h11, .ref h12])), (h9, .inr (1, [.ref h26, .int 0, .ref h27, .ref h28, .ref h29, .ref h30, .ref h31, .ref h32, .ref h33, .ref h34, .ref h35, .ref h36, .ref h37, .ref h38])), (h38, .inl (a4, 480, .inl (fun _ => 0))), (h7, .inl (a1, 6, .inl (fun _ => 0))), (h11, .inl (a2, 6, .inl (fun _ => 0)))] sz)) 0 0 (va_A [(h0, .inr (2, [.int (-1), .int (-1), .int 0, .int 0, .ref h2, .ref h3])), (h2, .inr (3, [.ref h5, .ref h6, .int 0, .int 0, .int 0, .ref h7, .ref h8])), (h5, .inr (1, [.ref h13, .int 0, .ref h14, .ref h15, .ref h16, .ref h17, .ref h18, .ref h19, .ref h20, .ref h21, .ref h22, .ref h23, .ref h24, .ref h25])), (h1, .inr (8, [.ref h4, .int 0])), (h25, .inl (a3, 480, .inl (fun _ => 0))), (h3, .inr (3, [.ref h9, .ref h10, .int 0, .int 0, .int 0, .ref h11, .ref h12])), (h9, .inr (1, [.ref h26, .int 0, .ref h27, .ref h28, .ref h29, .ref h30, .ref h31, .ref h32, .ref h33, .ref h34, .ref h35, .ref h36, .ref h37, .ref h38])), (h38, .inl (a4, 480, .inl (fun _ => 0))), (h7, .inl (a1, 6, .inl (fun _ => 0))), (h11, .inl (a2, 6, .inl (fun _ => 0)))] sz) := by
  refine Met.ofW (cc := cX2_compare) (maxL := 9) (ret := (some .boolean)) (by decide) rfl ?_
  intro p e s m args below meth c s₁ B hml hv
  obtain ⟨rfl, aks, rfl, Wd⟩ := k_enter hv
  have C : CallFix p m c cX2_compare 9 s _ gG RX2 := ⟨B.exec, B.bytes, hml, findClass_of_methodNamed B.named, fun w h => atoms_spec (ws := Cond.code yX2_compare cX2_compare 9 (some .boolean) :: gG) B.pre w (List.mem_cons_of_mem _ h)⟩
  have hr := B.returns
  have hlk := B.notSynchronized
  generalize va_A [(h0, .inr (2, [.int (-1), .int (-1), .int 0, .int 0, .ref h2, .ref h3])), (h2, .inr (3, [.ref h5, .ref h6, .int 0, .int 0, .int 0, .ref h7, .ref h8])), (h5, .inr (1, [.ref h13, .int 0, .ref h14, .ref h15, .ref h16, .ref h17, .ref h18, .ref h19, .ref h20, .ref h21, .ref h22, .ref h23, .ref h24, .ref h25])), (h1, .inr (8, [.ref h4, .int 0])), (h25, .inl (a3, 480, .inl (fun _ => 0))), (h3, .inr (3, [.ref h9, .ref h10, .int 0, .int 0, .int 0, .ref h11, .ref h12])), (h9, .inr (1, [.ref h26, .int 0, .ref h27, .ref h28, .ref h29, .ref h30, .ref h31, .ref h32, .ref h33, .ref h34, .ref h35, .ref h36, .ref h37, .ref h38])), (h38, .inl (a4, 480, .inl (fun _ => 0))), (h7, .inl (a1, 6, .inl (fun _ => 0))), (h11, .inl (a2, 6, .inl (fun _ => 0)))] s.heap.size = A at Wd ⊢
  refine k_locals (Nat.le_of_ble_eq_true rfl) [(0, .ref h0), (1, .ref h1), (2, .ref h1), (3, .int 0)] rfl (fun ls hl => ?_)
  refine lv_aload_n C.1 C.2.1 dX2_compare_0 rfl (lv_at hl 0 rfl) ?_
  refine lv_iconst (v := (-1)) C.1 C.2.1 dX2_compare_1 (by decide) ?_
  refine k_put C Wd KX2 0 0 [(h0, .inr (2, [.int (-1), .int (-1), .int 0, .int 0, .ref h2, .ref h3])), (h2, .inr (3, [.ref h5, .ref h6, .int 0, .int 0, .int 0, .ref h7, .ref h8])), (h5, .inr (1, [.ref h13, .int 0, .ref h14, .ref h15, .ref h16, .ref h17, .ref h18, .ref h19, .ref h20, .ref h21, .ref h22, .ref h23, .ref h24, .ref h25])), (h1, .inr (8, [.ref h4, .int 0])), (h25, .inl (a3, 480, .inl (fun _ => 0))), (h3, .inr (3, [.ref h9, .ref h10, .int 0, .int 0, .int 0, .ref h11, .ref h12])), (h9, .inr (1, [.ref h26, .int 0, .ref h27, .ref h28, .ref h29, .ref h30, .ref h31, .ref h32, .ref h33, .ref h34, .ref h35, .ref h36, .ref h37, .ref h38])), (h38, .inl (a4, 480, .inl (fun _ => 0))), (h7, .inl (a1, 6, .inl (fun _ => 0))), (h11, .inl (a2, 6, .inl (fun _ => 0)))] rfl (by decide) fl_X2_21 rfl rfl rfl (Nat.le_of_ble_eq_true rfl) rfl dX2_compare_2 (fun H locs Wd => ?_)
  refine lv_aload_n C.1 C.2.1 dX2_compare_5 rfl (lv_at hl 0 rfl) ?_
  refine lv_iconst (v := (-1)) C.1 C.2.1 dX2_compare_6 (by decide) ?_
  refine k_put C Wd KX2 0 1 [(h0, .inr (2, [.int (-1), .int (-1), .int 0, .int 0, .ref h2, .ref h3])), (h2, .inr (3, [.ref h5, .ref h6, .int 0, .int 0, .int 0, .ref h7, .ref h8])), (h5, .inr (1, [.ref h13, .int 0, .ref h14, .ref h15, .ref h16, .ref h17, .ref h18, .ref h19, .ref h20, .ref h21, .ref h22, .ref h23, .ref h24, .ref h25])), (h1, .inr (8, [.ref h4, .int 0])), (h25, .inl (a3, 480, .inl (fun _ => 0))), (h3, .inr (3, [.ref h9, .ref h10, .int 0, .int 0, .int 0, .ref h11, .ref h12])), (h9, .inr (1, [.ref h26, .int 0, .ref h27, .ref h28, .ref h29, .ref h30, .ref h31, .ref h32, .ref h33, .ref h34, .ref h35, .ref h36, .ref h37, .ref h38])), (h38, .inl (a4, 480, .inl (fun _ => 0))), (h7, .inl (a1, 6, .inl (fun _ => 0))), (h11, .inl (a2, 6, .inl (fun _ => 0)))] rfl (by decide) fl_X2_25 rfl rfl rfl (Nat.le_of_ble_eq_true rfl) rfl dX2_compare_7 (fun H locs Wd => ?_)
  refine lv_aload_n C.1 C.2.1 dX2_compare_10 rfl (lv_at hl 0 rfl) ?_
  refine lv_iconst (v := 0) C.1 C.2.1 dX2_compare_11 (by decide) ?_
  refine k_put C Wd KX2 0 2 [(h0, .inr (2, [.int (-1), .int (-1), .int 0, .int 0, .ref h2, .ref h3])), (h2, .inr (3, [.ref h5, .ref h6, .int 0, .int 0, .int 0, .ref h7, .ref h8])), (h5, .inr (1, [.ref h13, .int 0, .ref h14, .ref h15, .ref h16, .ref h17, .ref h18, .ref h19, .ref h20, .ref h21, .ref h22, .ref h23, .ref h24, .ref h25])), (h1, .inr (8, [.ref h4, .int 0])), (h25, .inl (a3, 480, .inl (fun _ => 0))), (h3, .inr (3, [.ref h9, .ref h10, .int 0, .int 0, .int 0, .ref h11, .ref h12])), (h9, .inr (1, [.ref h26, .int 0, .ref h27, .ref h28, .ref h29, .ref h30, .ref h31, .ref h32, .ref h33, .ref h34, .ref h35, .ref h36, .ref h37, .ref h38])), (h38, .inl (a4, 480, .inl (fun _ => 0))), (h7, .inl (a1, 6, .inl (fun _ => 0))), (h11, .inl (a2, 6, .inl (fun _ => 0)))] rfl (by decide) fl_X2_28 rfl rfl rfl (Nat.le_of_ble_eq_true rfl) rfl dX2_compare_12 (fun H locs Wd => ?_)
  refine lv_aload_n C.1 C.2.1 dX2_compare_15 rfl (lv_at hl 0 rfl) ?_
  refine lv_iconst (v := 0) C.1 C.2.1 dX2_compare_16 (by decide) ?_
  refine k_put C Wd KX2 0 3 [(h0, .inr (2, [.int (-1), .int (-1), .int 0, .int 0, .ref h2, .ref h3])), (h2, .inr (3, [.ref h5, .ref h6, .int 0, .int 0, .int 0, .ref h7, .ref h8])), (h5, .inr (1, [.ref h13, .int 0, .ref h14, .ref h15, .ref h16, .ref h17, .ref h18, .ref h19, .ref h20, .ref h21, .ref h22, .ref h23, .ref h24, .ref h25])), (h1, .inr (8, [.ref h4, .int 0])), (h25, .inl (a3, 480, .inl (fun _ => 0))), (h3, .inr (3, [.ref h9, .ref h10, .int 0, .int 0, .int 0, .ref h11, .ref h12])), (h9, .inr (1, [.ref h26, .int 0, .ref h27, .ref h28, .ref h29, .ref h30, .ref h31, .ref h32, .ref h33, .ref h34, .ref h35, .ref h36, .ref h37, .ref h38])), (h38, .inl (a4, 480, .inl (fun _ => 0))), (h7, .inl (a1, 6, .inl (fun _ => 0))), (h11, .inl (a2, 6, .inl (fun _ => 0)))] rfl (by decide) fl_X2_31 rfl rfl rfl (Nat.le_of_ble_eq_true rfl) rfl dX2_compare_17 (fun H locs Wd => ?_)
  refine lv_aload_n C.1 C.2.1 dX2_compare_20 rfl (lv_at hl 0 rfl) ?_
  refine k_get C Wd KX2 0 4 rfl (by decide) fl_X2_12 rfl dX2_compare_21 ?_
  refine k_get C Wd KX3 1 0 rfl (by decide) fl_X2_35 rfl dX2_compare_24 ?_
  refine lv_aload_n C.1 C.2.1 dX2_compare_27 rfl (lv_at hl 1 rfl) ?_
  refine k_cv Wd [2, 3, 4] [0, 1, 5, 6, 7, 8, 9] rfl (wr := [(h0, .inr (2, [.int (-1), .int (-1), .int 0, .int 0, .ref h2, .ref h3])), (h2, .inr (3, [.ref h5, .ref h6, .int 0, .int 0, .int 0, .ref h7, .ref h8])), (h3, .inr (3, [.ref h9, .ref h10, .int 0, .int 0, .int 0, .ref h11, .ref h12])), (h9, .inr (1, [.ref h26, .int 0, .ref h27, .ref h28, .ref h29, .ref h30, .ref h31, .ref h32, .ref h33, .ref h34, .ref h35, .ref h36, .ref h37, .ref h38])), (h38, .inl (a4, 480, .inl (fun _ => 0))), (h7, .inl (a1, 6, .inl (fun _ => 0))), (h11, .inl (a2, 6, .inl (fun _ => 0)))]) rfl (by decide) (by decide) (cells' := 0) (slots' := 0) (by decide) (by decide) (k_runV (rest := []) C aks Wd cs_X2_39 (kcX1_trace l D h5 h1 h13 h14 h15 h16 h17 h18 h19 h20 h21 h22 h23 h24 h25 h4 a3 _ ) [2, 3, 4] rfl (by decide) [2] rfl 2 1 rfl rfl rfl rfl rfl ⟨(Nat.le_of_ble_eq_true rfl), (Nat.le_of_ble_eq_true rfl)⟩ hl.1 rfl rfl (Nat.le_of_ble_eq_true rfl) ⟨(Nat.le_of_ble_eq_true rfl), (Nat.le_of_ble_eq_true rfl)⟩ dX2_compare_28) (fun _ H locs w3120 Wd => ?_)
  have Wd : wX D [(a1, .int), (a2, .int), (a3, .int), (a4, .int)] s [(h0, .inr (2, [.int (-1), .int (-1), .int 0, .int 0, .ref h2, .ref h3])), (h2, .inr (3, [.ref h5, .ref h6, .int 0, .int 0, .int 0, .ref h7, .ref h8])), (h3, .inr (3, [.ref h9, .ref h10, .int 0, .int 0, .int 0, .ref h11, .ref h12])), (h9, .inr (1, [.ref h26, .int 0, .ref h27, .ref h28, .ref h29, .ref h30, .ref h31, .ref h32, .ref h33, .ref h34, .ref h35, .ref h36, .ref h37, .ref h38])), (h38, .inl (a4, 480, .inl (fun _ => 0))), (h7, .inl (a1, 6, .inl (fun _ => 0))), (h11, .inl (a2, 6, .inl (fun _ => 0))), (h5, .inr (1, [.ref h1, .int 0, .ref h14, .ref h15, .ref h16, .ref h17, .ref h18, .ref h19, .ref h20, .ref h21, .ref h22, .ref h23, .ref h24, .ref h25])), (h1, .inr (8, [.ref h4, .int 0])), (h25, .inl (a3, 480, .inl (fun _ => 0)))] _ A s.heap _ := Wd
  refine lv_aload_n C.1 C.2.1 dX2_compare_31 rfl (lv_at hl 0 rfl) ?_
  refine k_get C Wd KX2 0 5 rfl (by decide) fl_X2_18 rfl dX2_compare_32 ?_
  refine k_get C Wd KX3 2 0 rfl (by decide) fl_X2_35 rfl dX2_compare_35 ?_
  refine lv_aload_n C.1 C.2.1 dX2_compare_38 rfl (lv_at hl 2 rfl) ?_
  refine k_cv Wd [3, 8, 4] [0, 1, 2, 5, 6, 7, 9] rfl (wr := [(h0, .inr (2, [.int (-1), .int (-1), .int 0, .int 0, .ref h2, .ref h3])), (h2, .inr (3, [.ref h5, .ref h6, .int 0, .int 0, .int 0, .ref h7, .ref h8])), (h3, .inr (3, [.ref h9, .ref h10, .int 0, .int 0, .int 0, .ref h11, .ref h12])), (h7, .inl (a1, 6, .inl (fun _ => 0))), (h11, .inl (a2, 6, .inl (fun _ => 0))), (h5, .inr (1, [.ref h1, .int 0, .ref h14, .ref h15, .ref h16, .ref h17, .ref h18, .ref h19, .ref h20, .ref h21, .ref h22, .ref h23, .ref h24, .ref h25])), (h25, .inl (a3, 480, .inl (fun _ => 0)))]) rfl (by decide) (by decide) (cells' := 0) (slots' := 0) (by decide) (by decide) (k_runV (rest := []) C aks Wd cs_X2_39 (kcX1_trace l D h9 h1 h26 h27 h28 h29 h30 h31 h32 h33 h34 h35 h36 h37 h38 h4 a4 _ ) [3, 8, 4] rfl (by decide) [3] rfl 3 1 rfl rfl rfl rfl rfl ⟨(Nat.le_of_ble_eq_true rfl), (Nat.le_of_ble_eq_true rfl)⟩ hl.1 rfl rfl (Nat.le_of_ble_eq_true rfl) ⟨(Nat.le_of_ble_eq_true rfl), (Nat.le_of_ble_eq_true rfl)⟩ dX2_compare_39) (fun _ H locs w3121 Wd => ?_)
  have Wd : wX D [(a1, .int), (a2, .int), (a3, .int), (a4, .int)] s [(h0, .inr (2, [.int (-1), .int (-1), .int 0, .int 0, .ref h2, .ref h3])), (h2, .inr (3, [.ref h5, .ref h6, .int 0, .int 0, .int 0, .ref h7, .ref h8])), (h3, .inr (3, [.ref h9, .ref h10, .int 0, .int 0, .int 0, .ref h11, .ref h12])), (h7, .inl (a1, 6, .inl (fun _ => 0))), (h11, .inl (a2, 6, .inl (fun _ => 0))), (h5, .inr (1, [.ref h1, .int 0, .ref h14, .ref h15, .ref h16, .ref h17, .ref h18, .ref h19, .ref h20, .ref h21, .ref h22, .ref h23, .ref h24, .ref h25])), (h25, .inl (a3, 480, .inl (fun _ => 0))), (h9, .inr (1, [.ref h1, .int 0, .ref h27, .ref h28, .ref h29, .ref h30, .ref h31, .ref h32, .ref h33, .ref h34, .ref h35, .ref h36, .ref h37, .ref h38])), (h1, .inr (8, [.ref h4, .int 0])), (h38, .inl (a4, 480, .inl (fun _ => 0)))] _ A s.heap _ := Wd
  refine lv_aload_n C.1 C.2.1 dX2_compare_42 rfl (lv_at hl 0 rfl) ?_
  refine k_get C Wd KX2 0 4 rfl (by decide) fl_X2_12 rfl dX2_compare_43 ?_
  refine k_get C Wd KX3 1 0 rfl (by decide) fl_X2_35 rfl dX2_compare_46 ?_
  refine lv_iconst (v := 0) C.1 C.2.1 dX2_compare_49 (by decide) ?_
  refine k_pi (k_runV (rest := []) C aks Wd cs_X2_45 (kcX1_aheadOf l D h5 h1 h14 h15 h16 h17 h18 h19 h20 h21 h22 h23 h24 h25 0 _ ) [5] rfl (by decide) [] rfl 5 1 rfl rfl rfl rfl rfl ⟨(Nat.le_of_ble_eq_true rfl), (Nat.le_of_ble_eq_true rfl)⟩ hl.1 rfl rfl (Nat.le_of_ble_eq_true rfl) ⟨(Nat.le_of_ble_eq_true rfl), (Nat.le_of_ble_eq_true rfl)⟩ dX2_compare_50) (fun r w3122 => ?_)
  rcases w3122 with ⟨c3123, rfl⟩ | ⟨c3124, rfl⟩
  · exact absurd c3123 (by decide)
  · refine lv_aload_n C.1 C.2.1 dX2_compare_53 rfl (lv_at hl 0 rfl) ?_
    refine k_get C Wd KX2 0 5 rfl (by decide) fl_X2_18 rfl dX2_compare_54 ?_
    refine k_get C Wd KX3 2 0 rfl (by decide) fl_X2_35 rfl dX2_compare_57 ?_
    refine lv_iconst (v := 0) C.1 C.2.1 dX2_compare_60 (by decide) ?_
    refine k_pi (k_runV (rest := [.int 0]) C aks Wd cs_X2_45 (kcX1_aheadOf l D h9 h1 h27 h28 h29 h30 h31 h32 h33 h34 h35 h36 h37 h38 0 _ ) [7] rfl (by decide) [] rfl 7 1 rfl rfl rfl rfl rfl ⟨(Nat.le_of_ble_eq_true rfl), (Nat.le_of_ble_eq_true rfl)⟩ hl.1 rfl rfl (Nat.le_of_ble_eq_true rfl) ⟨(Nat.le_of_ble_eq_true rfl), (Nat.le_of_ble_eq_true rfl)⟩ dX2_compare_61) (fun r w3125 => ?_)
    rcases w3125 with ⟨c3126, rfl⟩ | ⟨c3127, rfl⟩
    · exact absurd c3126 (by decide)
    · refine k_ior (v := 0) C (by decide) dX2_compare_64 ?_
      refine lv_istore (lv' := [(4, .int 0), (0, .ref h0), (1, .ref h1), (2, .ref h1), (3, .int 0)]) C.1 C.2.1 dX2_compare_65 hl (by decide) rfl (fun ls hl => ?_)
      refine lv_iload C.1 C.2.1 dX2_compare_67 (lv_at hl 0 rfl) ?_
      refine lv_iconst (v := 1) C.1 C.2.1 dX2_compare_69 (by decide) ?_
      refine k_iand (v := 0) C (by decide) dX2_compare_70 ?_
      refine lv_if_eq (tgt := 78) C.1 C.2.1 dX2_compare_71 (by decide) (fun _ => ?_) (fun c3128 => absurd c3128 (by decide))
      refine lv_bipush (v := 16) C.1 C.2.1 dX2_compare_78 (by decide) ?_
      refine lv_istore (lv' := [(5, .int 16), (4, .int 0), (0, .ref h0), (1, .ref h1), (2, .ref h1), (3, .int 0)]) C.1 C.2.1 dX2_compare_80 hl (by decide) rfl (fun ls hl => ?_)
      refine lv_iload C.1 C.2.1 dX2_compare_82 (lv_at hl 1 rfl) ?_
      refine lv_iconst (v := 2) C.1 C.2.1 dX2_compare_84 (by decide) ?_
      refine k_iand (v := 0) C (by decide) dX2_compare_85 ?_
      refine lv_if_eq (tgt := 93) C.1 C.2.1 dX2_compare_86 (by decide) (fun _ => ?_) (fun c3129 => absurd c3129 (by decide))
      refine lv_bipush (v := 16) C.1 C.2.1 dX2_compare_93 (by decide) ?_
      refine lv_istore (lv' := [(6, .int 16), (5, .int 16), (4, .int 0), (0, .ref h0), (1, .ref h1), (2, .ref h1), (3, .int 0)]) C.1 C.2.1 dX2_compare_95 hl (by decide) rfl (fun ls hl => ?_)
      refine lv_iconst (v := 0) C.1 C.2.1 dX2_compare_97 (by decide) ?_
      refine lv_istore (lv' := [(7, .int 0), (6, .int 16), (5, .int 16), (4, .int 0), (0, .ref h0), (1, .ref h1), (2, .ref h1), (3, .int 0)]) C.1 C.2.1 dX2_compare_98 hl (by decide) rfl (fun ls hl => ?_)
      refine lv_iload C.1 C.2.1 dX2_compare_100 (lv_at hl 0 rfl) ?_
      refine lv_bipush (v := 16) C.1 C.2.1 dX2_compare_102 (by decide) ?_
      refine lv_icmp_ge (tgt := 189) C.1 C.2.1 dX2_compare_104 (by decide) (fun c3130 => absurd c3130 (by decide)) (fun _ => ?_)
      refine lv_iconst (v := 0) C.1 C.2.1 dX2_compare_107 (by decide) ?_
      refine lv_istore (lv' := [(8, .int 0), (7, .int 0), (6, .int 16), (5, .int 16), (4, .int 0), (0, .ref h0), (1, .ref h1), (2, .ref h1), (3, .int 0)]) C.1 C.2.1 dX2_compare_108 hl (by decide) rfl (fun ls hl => ?_)
      refine lv_iload C.1 C.2.1 dX2_compare_110 (lv_at hl 0 rfl) ?_
      refine lv_bipush (v := 16) C.1 C.2.1 dX2_compare_112 (by decide) ?_
      refine lv_icmp_ge (tgt := 179) C.1 C.2.1 dX2_compare_114 (by decide) (fun c3131 => absurd c3131 (by decide)) (fun _ => ?_)
      refine lv_aload_n C.1 C.2.1 dX2_compare_117 rfl (lv_at hl 5 rfl) ?_
      refine k_get C Wd KX2 0 4 rfl (by decide) fl_X2_12 rfl dX2_compare_118 ?_
      refine lv_iload C.1 C.2.1 dX2_compare_121 (lv_at hl 1 rfl) ?_
      refine lv_iload C.1 C.2.1 dX2_compare_123 (lv_at hl 0 rfl) ?_
      refine k_cv Wd [1, 3, 5] [0, 2, 4, 6, 7, 8, 9] rfl (wr := [(h0, .inr (2, [.int (-1), .int (-1), .int 0, .int 0, .ref h2, .ref h3])), (h3, .inr (3, [.ref h9, .ref h10, .int 0, .int 0, .int 0, .ref h11, .ref h12])), (h11, .inl (a2, 6, .inl (fun _ => 0))), (h25, .inl (a3, 480, .inl (fun _ => 0))), (h9, .inr (1, [.ref h1, .int 0, .ref h27, .ref h28, .ref h29, .ref h30, .ref h31, .ref h32, .ref h33, .ref h34, .ref h35, .ref h36, .ref h37, .ref h38])), (h1, .inr (8, [.ref h4, .int 0])), (h38, .inl (a4, 480, .inl (fun _ => 0)))]) rfl (by decide) (by decide) (cells' := 0) (slots' := 0) (by decide) (by decide) (k_runV (rest := []) C aks Wd cs_X2_49 (kcX3_go l D h2 h5 h6 h7 h8 h1 h14 h15 h16 h17 h18 h19 h20 h21 h22 h23 h24 h25 0 0 a1 _ ) [1, 3, 5] rfl (by decide) [0] rfl 1 3 rfl rfl rfl rfl rfl ⟨(Nat.le_of_ble_eq_true rfl), (Nat.le_of_ble_eq_true rfl)⟩ hl.1 rfl rfl (Nat.le_of_ble_eq_true rfl) ⟨(Nat.le_of_ble_eq_true rfl), (Nat.le_of_ble_eq_true rfl)⟩ dX2_compare_125) (fun _ H locs w3132 Wd => ?_)
      have Wd : wX D [(a1, .int), (a2, .int), (a3, .int), (a4, .int)] s [(h0, .inr (2, [.int (-1), .int (-1), .int 0, .int 0, .ref h2, .ref h3])), (h3, .inr (3, [.ref h9, .ref h10, .int 0, .int 0, .int 0, .ref h11, .ref h12])), (h11, .inl (a2, 6, .inl (fun _ => 0))), (h25, .inl (a3, 480, .inl (fun _ => 0))), (h9, .inr (1, [.ref h1, .int 0, .ref h27, .ref h28, .ref h29, .ref h30, .ref h31, .ref h32, .ref h33, .ref h34, .ref h35, .ref h36, .ref h37, .ref h38])), (h1, .inr (8, [.ref h4, .int 0])), (h38, .inl (a4, 480, .inl (fun _ => 0))), (h2, .inr (3, [.ref h5, .ref h6, .int 0, .int 0, .int 0, .ref h7, .ref h8])), (h7, .inl (a1, 6, .inl (upd (upd (upd (upd (upd (upd (fun _ => 0) 0 0) 1 0) 2 0) 3 0) 4 0) 5 0))), (h5, .inr (1, [.ref h1, .int 0, .ref h14, .ref h15, .ref h16, .ref h17, .ref h18, .ref h19, .ref h20, .ref h21, .ref h22, .ref h23, .ref h24, .ref h25]))] _ A s.heap _ := Wd
      refine lv_aload_n C.1 C.2.1 dX2_compare_128 rfl (lv_at hl 5 rfl) ?_
      refine k_get C Wd KX2 0 5 rfl (by decide) fl_X2_18 rfl dX2_compare_129 ?_
      refine lv_iload C.1 C.2.1 dX2_compare_132 (lv_at hl 1 rfl) ?_
      refine lv_iload C.1 C.2.1 dX2_compare_134 (lv_at hl 0 rfl) ?_
      refine k_cv Wd [1, 2, 4] [0, 3, 5, 6, 7, 8, 9] rfl (wr := [(h0, .inr (2, [.int (-1), .int (-1), .int 0, .int 0, .ref h2, .ref h3])), (h25, .inl (a3, 480, .inl (fun _ => 0))), (h1, .inr (8, [.ref h4, .int 0])), (h38, .inl (a4, 480, .inl (fun _ => 0))), (h2, .inr (3, [.ref h5, .ref h6, .int 0, .int 0, .int 0, .ref h7, .ref h8])), (h7, .inl (a1, 6, .inl (upd (upd (upd (upd (upd (upd (fun _ => 0) 0 0) 1 0) 2 0) 3 0) 4 0) 5 0))), (h5, .inr (1, [.ref h1, .int 0, .ref h14, .ref h15, .ref h16, .ref h17, .ref h18, .ref h19, .ref h20, .ref h21, .ref h22, .ref h23, .ref h24, .ref h25]))]) rfl (by decide) (by decide) (cells' := 0) (slots' := 0) (by decide) (by decide) (k_runV (rest := []) C aks Wd cs_X2_49 (kcX3_go l D h3 h9 h10 h11 h12 h1 h27 h28 h29 h30 h31 h32 h33 h34 h35 h36 h37 h38 0 0 a2 _ ) [1, 2, 4] rfl (by decide) [1] rfl 1 3 rfl rfl rfl rfl rfl ⟨(Nat.le_of_ble_eq_true rfl), (Nat.le_of_ble_eq_true rfl)⟩ hl.1 rfl rfl (Nat.le_of_ble_eq_true rfl) ⟨(Nat.le_of_ble_eq_true rfl), (Nat.le_of_ble_eq_true rfl)⟩ dX2_compare_136) (fun _ H locs w3133 Wd => ?_)
      have Wd : wX D [(a1, .int), (a2, .int), (a3, .int), (a4, .int)] s [(h0, .inr (2, [.int (-1), .int (-1), .int 0, .int 0, .ref h2, .ref h3])), (h25, .inl (a3, 480, .inl (fun _ => 0))), (h1, .inr (8, [.ref h4, .int 0])), (h38, .inl (a4, 480, .inl (fun _ => 0))), (h2, .inr (3, [.ref h5, .ref h6, .int 0, .int 0, .int 0, .ref h7, .ref h8])), (h7, .inl (a1, 6, .inl (upd (upd (upd (upd (upd (upd (fun _ => 0) 0 0) 1 0) 2 0) 3 0) 4 0) 5 0))), (h5, .inr (1, [.ref h1, .int 0, .ref h14, .ref h15, .ref h16, .ref h17, .ref h18, .ref h19, .ref h20, .ref h21, .ref h22, .ref h23, .ref h24, .ref h25])), (h3, .inr (3, [.ref h9, .ref h10, .int 0, .int 0, .int 0, .ref h11, .ref h12])), (h11, .inl (a2, 6, .inl (upd (upd (upd (upd (upd (upd (fun _ => 0) 0 0) 1 0) 2 0) 3 0) 4 0) 5 0))), (h9, .inr (1, [.ref h1, .int 0, .ref h27, .ref h28, .ref h29, .ref h30, .ref h31, .ref h32, .ref h33, .ref h34, .ref h35, .ref h36, .ref h37, .ref h38]))] _ A s.heap _ := Wd
      refine lv_aload_n C.1 C.2.1 dX2_compare_139 rfl (lv_at hl 5 rfl) ?_
      refine lv_bipush (v := 16) C.1 C.2.1 dX2_compare_140 (by decide) ?_
      refine lv_iload C.1 C.2.1 dX2_compare_142 (lv_at hl 1 rfl) ?_
      refine k_imul (v := 0) C (by decide) dX2_compare_144 ?_
      refine lv_iload C.1 C.2.1 dX2_compare_145 (lv_at hl 0 rfl) ?_
      refine k_iadd (v := 0) C (by decide) dX2_compare_147 ?_
      refine lv_iload C.1 C.2.1 dX2_compare_148 (lv_at hl 3 rfl) ?_
      refine lv_iload C.1 C.2.1 dX2_compare_150 (lv_at hl 2 rfl) ?_
      refine k_imul (v := 256) C (by decide) dX2_compare_152 ?_
      refine k_cv Wd [0, 4, 7] [1, 2, 3, 5, 6, 8, 9] rfl (wr := [(h25, .inl (a3, 480, .inl (fun _ => 0))), (h1, .inr (8, [.ref h4, .int 0])), (h38, .inl (a4, 480, .inl (fun _ => 0))), (h7, .inl (a1, 6, .inl (upd (upd (upd (upd (upd (upd (fun _ => 0) 0 0) 1 0) 2 0) 3 0) 4 0) 5 0))), (h5, .inr (1, [.ref h1, .int 0, .ref h14, .ref h15, .ref h16, .ref h17, .ref h18, .ref h19, .ref h20, .ref h21, .ref h22, .ref h23, .ref h24, .ref h25])), (h11, .inl (a2, 6, .inl (upd (upd (upd (upd (upd (upd (fun _ => 0) 0 0) 1 0) 2 0) 3 0) 4 0) 5 0))), (h9, .inr (1, [.ref h1, .int 0, .ref h27, .ref h28, .ref h29, .ref h30, .ref h31, .ref h32, .ref h33, .ref h34, .ref h35, .ref h36, .ref h37, .ref h38]))]) rfl (by decide) (by decide) (cells' := 0) (slots' := 0) (by decide) (by decide) (k_runV (rest := []) C aks Wd cs_X2_53 (kcX2_note l D h0 h2 h3 h5 h6 h7 h8 h9 h10 h11 h12 _ ) [0, 4, 7] rfl (by decide) [] rfl 0 2 rfl rfl rfl rfl rfl ⟨(Nat.le_of_ble_eq_true rfl), (Nat.le_of_ble_eq_true rfl)⟩ hl.1 rfl rfl (Nat.le_of_ble_eq_true rfl) ⟨(Nat.le_of_ble_eq_true rfl), (Nat.le_of_ble_eq_true rfl)⟩ dX2_compare_153) (fun _ H locs w3134 Wd => ?_)
      have Wd : wX D [(a1, .int), (a2, .int), (a3, .int), (a4, .int)] s [(h25, .inl (a3, 480, .inl (fun _ => 0))), (h1, .inr (8, [.ref h4, .int 0])), (h38, .inl (a4, 480, .inl (fun _ => 0))), (h7, .inl (a1, 6, .inl (upd (upd (upd (upd (upd (upd (fun _ => 0) 0 0) 1 0) 2 0) 3 0) 4 0) 5 0))), (h5, .inr (1, [.ref h1, .int 0, .ref h14, .ref h15, .ref h16, .ref h17, .ref h18, .ref h19, .ref h20, .ref h21, .ref h22, .ref h23, .ref h24, .ref h25])), (h11, .inl (a2, 6, .inl (upd (upd (upd (upd (upd (upd (fun _ => 0) 0 0) 1 0) 2 0) 3 0) 4 0) 5 0))), (h9, .inr (1, [.ref h1, .int 0, .ref h27, .ref h28, .ref h29, .ref h30, .ref h31, .ref h32, .ref h33, .ref h34, .ref h35, .ref h36, .ref h37, .ref h38])), (h0, .inr (2, [.int (-1), .int (-1), .int 0, .int 0, .ref h2, .ref h3])), (h2, .inr (3, [.ref h5, .ref h6, .int 0, .int 0, .int 0, .ref h7, .ref h8])), (h3, .inr (3, [.ref h9, .ref h10, .int 0, .int 0, .int 0, .ref h11, .ref h12]))] _ A s.heap _ := Wd
      refine lv_iload_n C.1 C.2.1 dX2_compare_156 rfl (lv_at hl 8 rfl) ?_
      refine lv_if_eq (tgt := 169) C.1 C.2.1 dX2_compare_157 (by decide) (fun _ => ?_) (fun c3135 => absurd c3135 (by decide))
      refine lv_iload C.1 C.2.1 dX2_compare_169 (lv_at hl 0 rfl) ?_
      refine lv_iload C.1 C.2.1 dX2_compare_171 (lv_at hl 2 rfl) ?_
      refine k_iadd (v := 16) C (by decide) dX2_compare_173 ?_
      refine lv_istore (lv' := [(8, .int 16), (7, .int 0), (6, .int 16), (5, .int 16), (4, .int 0), (0, .ref h0), (1, .ref h1), (2, .ref h1), (3, .int 0)]) C.1 C.2.1 dX2_compare_174 hl (by decide) rfl (fun ls hl => ?_)
      refine lv_goto (tgt := 110) C.1 C.2.1 dX2_compare_176 (by decide) ?_
      refine lv_iload C.1 C.2.1 dX2_compare_110 (lv_at hl 0 rfl) ?_
      refine lv_bipush (v := 16) C.1 C.2.1 dX2_compare_112 (by decide) ?_
      refine lv_icmp_ge (tgt := 179) C.1 C.2.1 dX2_compare_114 (by decide) (fun _ => ?_) (fun c3136 => absurd c3136 (by decide))
      refine lv_iload C.1 C.2.1 dX2_compare_179 (lv_at hl 1 rfl) ?_
      refine lv_iload C.1 C.2.1 dX2_compare_181 (lv_at hl 3 rfl) ?_
      refine k_iadd (v := 16) C (by decide) dX2_compare_183 ?_
      refine lv_istore (lv' := [(7, .int 16), (8, .int 16), (6, .int 16), (5, .int 16), (4, .int 0), (0, .ref h0), (1, .ref h1), (2, .ref h1), (3, .int 0)]) C.1 C.2.1 dX2_compare_184 hl (by decide) rfl (fun ls hl => ?_)
      refine lv_goto (tgt := 100) C.1 C.2.1 dX2_compare_186 (by decide) ?_
      refine lv_iload C.1 C.2.1 dX2_compare_100 (lv_at hl 0 rfl) ?_
      refine lv_bipush (v := 16) C.1 C.2.1 dX2_compare_102 (by decide) ?_
      refine lv_icmp_ge (tgt := 189) C.1 C.2.1 dX2_compare_104 (by decide) (fun _ => ?_) (fun c3137 => absurd c3137 (by decide))
      refine lv_aload_n C.1 C.2.1 dX2_compare_189 rfl (lv_at hl 5 rfl) ?_
      refine k_get C Wd KX2 7 2 rfl (by decide) fl_X2_28 rfl dX2_compare_190 ?_
      refine lv_if_le (tgt := 200) C.1 C.2.1 dX2_compare_193 (by decide) (fun _ => ?_) (fun c3138 => absurd c3138 (by decide))
      refine lv_iconst (v := 0) C.1 C.2.1 dX2_compare_200 (by decide) ?_
      exact k_zret C hr hlk rfl Wd () rfl [7, 8, 4, 1, 0, 9, 6, 2, 3, 5] rfl (by decide) [] rfl (by decide) (by decide) dX2_compare_201
set_option maxHeartbeats 4000000 in
set_option maxRecDepth 100000 in
theorem kcX11_judge_v5 (l : Launch) (D : va_G) (h0 h1 h2 h3 h4 h5 h6 h7 h8 h19 h20 h21 h22 h23 h24 h25 h26 h31 h46 h47 h81 h82 h83 h84 h85 h86 h87 h88 h93 h94 h95 h96 h97 h98 h99 h100 h101 h102 h103 h104 h105 h106 h107 h108 h109 h110 h111 h112 h113 h114 h115 h116 h117 h118 : Nat) (x0 x1 x2 : Int32) (g0 : Nat → Option Nat) (a0 a14 a15 a16 a17 : ClassId) (sz : Nat) (k_g0_x0 : g0 x0.toNatClampNeg = some h8) (k_g0_x1 : g0 x1.toNatClampNeg = some h8) (as0 : ¬ x0 < (0 : Int32)) (as1 : x0 < (6 : Int32)) (as2 : ¬ x1 < (0 : Int32)) (as3 : x1 < (6 : Int32)): Met l yX11_judge (Cond.code yX11_judge cX11_judge 7 (some .int) :: gG) { frames := 4, cells := 0, slots := 0, locals := 139 } (cPre D [(a0, .object RX8), (a14, .int), (a15, .int), (a16, .int), (a17, .int)] [(h0, .inr (11, [.ref h1, .int 0, .ref h2, .ref h3, .ref h4, .ref h5, .ref h6, .ref h7])), (h1, .inl (a0, 6, .inr (.inr (.inr (.inr g0))))), (h6, .inr (4, [.ref h19, .ref h20, .ref h21, .int (-1), .int (-1), .ref h22, .ref h23, .ref h24, .ref h25, .ref h26])), (h19, .inr (2, [.int (-1), .int (-1), .int 0, .int 0, .ref h46, .ref h47])), (h46, .inr (3, [.ref h81, .ref h82, .int 0, .int 0, .int 0, .ref h83, .ref h84])), (h81, .inr (1, [.ref h93, .int 0, .ref h94, .ref h95, .ref h96, .ref h97, .ref h98, .ref h99, .ref h100, .ref h101, .ref h102, .ref h103, .ref h104, .ref h105])), (h8, .inr (8, [.ref h31, .int 0])), (h105, .inl (a16, 480, .inl (fun _ => 0))), (h47, .inr (3, [.ref h85, .ref h86, .int 0, .int 0, .int 0, .ref h87, .ref h88])), (h85, .inr (1, [.ref h106, .int 0, .ref h107, .ref h108, .ref h109, .ref h110, .ref h111, .ref h112, .ref h113, .ref h114, .ref h115, .ref h116, .ref h117, .ref h118])), (h118, .inl (a17, 480, .inl (fun _ => 0))), (h83, .inl (a14, 6, .inl (fun _ => 0))), (h87, .inl (a15, 6, .inl (fun _ => 0)))] sz [.ref h0, .int x0, .int x1, .int x2]) (va_Qi (fun (r : Int32) (_ : Unit) => (¬ x0 < (0 : Int32) ∧ ¬ (6 : Int32) ≤ x0 ∧ ¬ x1 < (0 : Int32) ∧ ¬ (6 : Int32) ≤ x1 ∧ x2 < (0 : Int32) ∧ r = (-1)) ∨ (¬ x0 < (0 : Int32) ∧ ¬ (6 : Int32) ≤ x0 ∧ ¬ x1 < (0 : Int32) ∧ ¬ (6 : Int32) ≤ x1 ∧ ¬ x2 < (0 : Int32) ∧ x2 ≤ (3 : Int32) ∧ x2 = (0 : Int32) ∧ r = 0) ∨ (¬ x0 < (0 : Int32) ∧ ¬ (6 : Int32) ≤ x0 ∧ ¬ x1 < (0 : Int32) ∧ ¬ (6 : Int32) ≤ x1 ∧ ¬ x2 < (0 : Int32) ∧ x2 ≤ (3 : Int32) ∧ ¬ x2 = (0 : Int32) ∧ x2 = (1 : Int32) ∧ r = (-1)) ∨ (¬ x0 < (0 : Int32) ∧ ¬ (6 : Int32) ≤ x0 ∧ ¬ x1 < (0 : Int32) ∧ ¬ (6 : Int32) ≤ x1 ∧ ¬ x2 < (0 : Int32) ∧ x2 ≤ (3 : Int32) ∧ ¬ x2 = (0 : Int32) ∧ ¬ x2 = (1 : Int32) ∧ x2 = (2 : Int32) ∧ r = (-1)) ∨ (¬ x0 < (0 : Int32) ∧ ¬ (6 : Int32) ≤ x0 ∧ ¬ x1 < (0 : Int32) ∧ ¬ (6 : Int32) ≤ x1 ∧ ¬ x2 < (0 : Int32) ∧ x2 ≤ (3 : Int32) ∧ ¬ x2 = (0 : Int32) ∧ ¬ x2 = (1 : Int32) ∧ ¬ x2 = (2 : Int32) ∧ r = 0) ∨ (¬ x0 < (0 : Int32) ∧ ¬ (6 : Int32) ≤ x0 ∧ ¬ x1 < (0 : Int32) ∧ ¬ (6 : Int32) ≤ x1 ∧ ¬ x2 < (0 : Int32) ∧ ¬ x2 ≤ (3 : Int32) ∧ r = (-1))) (fun u t => cB D (va_A [(h0, .inr (11, [.ref h1, .int 0, .ref h2, .ref h3, .ref h4, .ref h5, .ref h6, .ref h7])), (h1, .inl (a0, 6, .inr (.inr (.inr (.inr g0))))), (h6, .inr (4, [.ref h19, .ref h20, .ref h21, .int (-1), .int (-1), .ref h22, .ref h23, .ref h24, .ref h25, .ref h26])), (h19, .inr (2, [.int (-1), .int (-1), .int 0, .int 0, .ref h46, .ref h47])), (h46, .inr (3, [.ref h81, .ref h82, .int 0, .int 0, .int 0, .ref h83, .ref h84])), (h81, .inr (1, [.ref h93, .int 0, .ref h94, .ref h95, .ref h96, .ref h97, .ref h98, .ref h99, .ref h100, .ref h101, .ref h102, .ref h103, .ref h104, .ref h105])), (h8, .inr (8, [.ref h31, .int 0])), (h105, .inl (a16, 480, .inl (fun _ => 0))), (h47, .inr (3, [.ref h85, .ref h86, .int 0, .int 0, .int 0, .ref h87, .ref h88])), (h85, .inr (1, [.ref h106, .int 0, .ref h107, .ref h108, .ref h109, .ref h110, .ref h111, .ref h112, .ref h113, .ref h114, .ref h115, .ref h116, .ref h117, .ref h118])), (h118, .inl (a17, 480, .inl (fun _ => 0))), (h83, .inl (a14, 6, .inl (fun _ => 0))), (h87, .inl (a15, 6, .inl (fun _ => 0)))] sz) ((fun (_ : Unit) => ([] : List (ClassId × FieldType))) u) ((fun (_ : Unit) => ([] : va_W)) u) t) (va_A [(h0, .inr (11, [.ref h1, .int 0, .ref h2, .ref h3, .ref h4, .ref h5, .ref h6, .ref h7])), (h1, .inl (a0, 6, .inr (.inr (.inr (.inr g0))))), (h6, .inr (4, [.ref h19, .ref h20, .ref h21, .int (-1), .int (-1), .ref h22, .ref h23, .ref h24, .ref h25, .ref h26])), (h19, .inr (2, [.int (-1), .int (-1), .int 0, .int 0, .ref h46, .ref h47])), (h46, .inr (3, [.ref h81, .ref h82, .int 0, .int 0, .int 0, .ref h83, .ref h84])), (h81, .inr (1, [.ref h93, .int 0, .ref h94, .ref h95, .ref h96, .ref h97, .ref h98, .ref h99, .ref h100, .ref h101, .ref h102, .ref h103, .ref h104, .ref h105])), (h8, .inr (8, [.ref h31, .int 0])), (h105, .inl (a16, 480, .inl (fun _ => 0))), (h47, .inr (3, [.ref h85, .ref h86, .int 0, .int 0, .int 0, .ref h87, .ref h88])), (h85, .inr (1, [.ref h106, .int 0, .ref h107, .ref h108, .ref h109, .ref h110, .ref h111, .ref h112, .ref h113, .ref h114, .ref h115, .ref h116, .ref h117, .ref h118])), (h118, .inl (a17, 480, .inl (fun _ => 0))), (h83, .inl (a14, 6, .inl (fun _ => 0))), (h87, .inl (a15, 6, .inl (fun _ => 0)))] sz)) 0 0 (va_A [(h0, .inr (11, [.ref h1, .int 0, .ref h2, .ref h3, .ref h4, .ref h5, .ref h6, .ref h7])), (h1, .inl (a0, 6, .inr (.inr (.inr (.inr g0))))), (h6, .inr (4, [.ref h19, .ref h20, .ref h21, .int (-1), .int (-1), .ref h22, .ref h23, .ref h24, .ref h25, .ref h26])), (h19, .inr (2, [.int (-1), .int (-1), .int 0, .int 0, .ref h46, .ref h47])), (h46, .inr (3, [.ref h81, .ref h82, .int 0, .int 0, .int 0, .ref h83, .ref h84])), (h81, .inr (1, [.ref h93, .int 0, .ref h94, .ref h95, .ref h96, .ref h97, .ref h98, .ref h99, .ref h100, .ref h101, .ref h102, .ref h103, .ref h104, .ref h105])), (h8, .inr (8, [.ref h31, .int 0])), (h105, .inl (a16, 480, .inl (fun _ => 0))), (h47, .inr (3, [.ref h85, .ref h86, .int 0, .int 0, .int 0, .ref h87, .ref h88])), (h85, .inr (1, [.ref h106, .int 0, .ref h107, .ref h108, .ref h109, .ref h110, .ref h111, .ref h112, .ref h113, .ref h114, .ref h115, .ref h116, .ref h117, .ref h118])), (h118, .inl (a17, 480, .inl (fun _ => 0))), (h83, .inl (a14, 6, .inl (fun _ => 0))), (h87, .inl (a15, 6, .inl (fun _ => 0)))] sz) := by
  refine Met.ofW (cc := cX11_judge) (maxL := 7) (ret := (some .int)) (by decide) rfl ?_
  intro p e s m args below meth c s₁ B hml hv
  obtain ⟨rfl, aks, rfl, Wd⟩ := k_enter hv
  have C : CallFix p m c cX11_judge 7 s _ gG RX11 := ⟨B.exec, B.bytes, hml, findClass_of_methodNamed B.named, fun w h => atoms_spec (ws := Cond.code yX11_judge cX11_judge 7 (some .int) :: gG) B.pre w (List.mem_cons_of_mem _ h)⟩
  have hr := B.returns
  have hlk := B.notSynchronized
  generalize va_A [(h0, .inr (11, [.ref h1, .int 0, .ref h2, .ref h3, .ref h4, .ref h5, .ref h6, .ref h7])), (h1, .inl (a0, 6, .inr (.inr (.inr (.inr g0))))), (h6, .inr (4, [.ref h19, .ref h20, .ref h21, .int (-1), .int (-1), .ref h22, .ref h23, .ref h24, .ref h25, .ref h26])), (h19, .inr (2, [.int (-1), .int (-1), .int 0, .int 0, .ref h46, .ref h47])), (h46, .inr (3, [.ref h81, .ref h82, .int 0, .int 0, .int 0, .ref h83, .ref h84])), (h81, .inr (1, [.ref h93, .int 0, .ref h94, .ref h95, .ref h96, .ref h97, .ref h98, .ref h99, .ref h100, .ref h101, .ref h102, .ref h103, .ref h104, .ref h105])), (h8, .inr (8, [.ref h31, .int 0])), (h105, .inl (a16, 480, .inl (fun _ => 0))), (h47, .inr (3, [.ref h85, .ref h86, .int 0, .int 0, .int 0, .ref h87, .ref h88])), (h85, .inr (1, [.ref h106, .int 0, .ref h107, .ref h108, .ref h109, .ref h110, .ref h111, .ref h112, .ref h113, .ref h114, .ref h115, .ref h116, .ref h117, .ref h118])), (h118, .inl (a17, 480, .inl (fun _ => 0))), (h83, .inl (a14, 6, .inl (fun _ => 0))), (h87, .inl (a15, 6, .inl (fun _ => 0)))] s.heap.size = A at Wd ⊢
  refine k_locals (Nat.le_of_ble_eq_true rfl) [(0, .ref h0), (1, .int x0), (2, .int x1), (3, .int x2)] rfl (fun ls hl => ?_)
  refine lv_aload_n C.1 C.2.1 dX11_judge_0 rfl (lv_at hl 0 rfl) ?_
  refine lv_iload_n C.1 C.2.1 dX11_judge_1 rfl (lv_at hl 1 rfl) ?_
  refine k_pq (k_runV (rest := []) C aks Wd cs_X11_77 (kcX11_slotAt l D h0 h1 h2 h3 h4 h5 h6 h7 x0 g0 a0 _ ) [0, 1] rfl (by decide) [0] rfl 0 11 rfl rfl rfl rfl rfl ⟨(Nat.le_of_ble_eq_true rfl), (Nat.le_of_ble_eq_true rfl)⟩ hl.1 rfl rfl (Nat.le_of_ble_eq_true rfl) ⟨(Nat.le_of_ble_eq_true rfl), (Nat.le_of_ble_eq_true rfl)⟩ dX11_judge_2) (fun r w3144 => ?_)
  rcases w3144 with ⟨c3145, rfl⟩ | ⟨c3146, c3147, rfl⟩ | ⟨c3148, c3149, rfl⟩
  · exact absurd c3145 as0
  · exact False.elim (by have z0 := kz_nlt as0; have z1 := kz_lt as1; have z2 := kz_nlt c3146; have z3 := kz_le c3147; have t0 : (0 : Int32).toInt = 0 := (by decide); have t6 : (6 : Int32).toInt = 6 := (by decide); omega)
  · refine W.eq (g2 := F0 m 5 ls [.ref h8]) (by rw [show (g0 x0.toNatClampNeg) = some h8 from k_g0_x0]; rfl) ?_
    refine lv_astore (lv' := [(4, .ref h8), (0, .ref h0), (1, .int x0), (2, .int x1), (3, .int x2)]) C.1 C.2.1 dX11_judge_5 hl (by decide) rfl (fun ls hl => ?_)
    refine lv_aload_n C.1 C.2.1 dX11_judge_7 rfl (lv_at hl 1 rfl) ?_
    refine lv_iload_n C.1 C.2.1 dX11_judge_8 rfl (lv_at hl 3 rfl) ?_
    refine k_pq (k_runV (rest := []) C aks Wd cs_X11_77 (kcX11_slotAt l D h0 h1 h2 h3 h4 h5 h6 h7 x1 g0 a0 _ ) [0, 1] rfl (by decide) [0] rfl 0 11 rfl rfl rfl rfl rfl ⟨(Nat.le_of_ble_eq_true rfl), (Nat.le_of_ble_eq_true rfl)⟩ hl.1 rfl rfl (Nat.le_of_ble_eq_true rfl) ⟨(Nat.le_of_ble_eq_true rfl), (Nat.le_of_ble_eq_true rfl)⟩ dX11_judge_9) (fun r w3150 => ?_)
    rcases w3150 with ⟨c3151, rfl⟩ | ⟨c3152, c3153, rfl⟩ | ⟨c3154, c3155, rfl⟩
    · exact absurd c3151 as2
    · exact False.elim (by have z0 := kz_nlt as2; have z1 := kz_lt as3; have z2 := kz_nlt c3152; have z3 := kz_le c3153; have t0 : (0 : Int32).toInt = 0 := (by decide); have t6 : (6 : Int32).toInt = 6 := (by decide); omega)
    · refine W.eq (g2 := F0 m 12 ls [.ref h8]) (by rw [show (g0 x1.toNatClampNeg) = some h8 from k_g0_x1]; rfl) ?_
      refine lv_astore (lv' := [(5, .ref h8), (4, .ref h8), (0, .ref h0), (1, .int x0), (2, .int x1), (3, .int x2)]) C.1 C.2.1 dX11_judge_12 hl (by decide) rfl (fun ls hl => ?_)
      refine lv_aload C.1 C.2.1 dX11_judge_14 (lv_at hl 1 rfl) ?_
      refine lv_ifnull C.1 C.2.1 dX11_judge_16 ?_
      refine lv_aload C.1 C.2.1 dX11_judge_19 (lv_at hl 0 rfl) ?_
      refine lv_ifnull C.1 C.2.1 dX11_judge_21 ?_
      refine lv_iload_n C.1 C.2.1 dX11_judge_24 rfl (lv_at hl 5 rfl) ?_
      refine lv_if_lt (tgt := 33) C.1 C.2.1 dX11_judge_25 (by decide) (fun c3156 => ?_) (fun c3156 => ?_)
      · refine lv_iconst (v := (-1)) C.1 C.2.1 dX11_judge_33 (by decide) ?_
        exact k_zret C hr hlk rfl Wd () (Or.inl (⟨c3148, c3149, c3154, c3155, c3156, rfl⟩)) [] rfl (by decide) [] rfl (by decide) (by decide) dX11_judge_34
      · refine lv_iload_n C.1 C.2.1 dX11_judge_28 rfl (lv_at hl 5 rfl) ?_
        refine lv_iconst (v := 3) C.1 C.2.1 dX11_judge_29 (by decide) ?_
        refine lv_icmp_le (tgt := 35) C.1 C.2.1 dX11_judge_30 (by decide) (fun c3157 => ?_) (fun c3157 => ?_)
        · refine lv_aload_n C.1 C.2.1 dX11_judge_35 rfl (lv_at hl 2 rfl) ?_
          refine k_get C Wd KX11 0 6 rfl (by decide) fl_X11_50 rfl dX11_judge_36 ?_
          refine k_get C Wd KX4 2 0 rfl (by decide) fl_X11_143 rfl dX11_judge_39 ?_
          refine lv_astore (lv' := [(6, .ref h19), (5, .ref h8), (4, .ref h8), (0, .ref h0), (1, .int x0), (2, .int x1), (3, .int x2)]) C.1 C.2.1 dX11_judge_42 hl (by decide) rfl (fun ls hl => ?_)
          refine lv_aload C.1 C.2.1 dX11_judge_44 (lv_at hl 0 rfl) ?_
          refine lv_aload C.1 C.2.1 dX11_judge_46 (lv_at hl 2 rfl) ?_
          refine lv_aload C.1 C.2.1 dX11_judge_48 (lv_at hl 1 rfl) ?_
          refine lv_iconst (v := 0) C.1 C.2.1 dX11_judge_50 (by decide) ?_
          refine k_ci Wd [3, 4, 5, 6, 7, 8, 9, 10, 11, 12] [0, 1, 2] rfl (wr := [(h0, .inr (11, [.ref h1, .int 0, .ref h2, .ref h3, .ref h4, .ref h5, .ref h6, .ref h7])), (h1, .inl (a0, 6, .inr (.inr (.inr (.inr g0))))), (h6, .inr (4, [.ref h19, .ref h20, .ref h21, .int (-1), .int (-1), .ref h22, .ref h23, .ref h24, .ref h25, .ref h26]))]) rfl (by decide) (by decide) (cells' := 0) (slots' := 0) (by decide) (by decide) (k_runV (rest := []) C aks Wd cs_X11_147 (kcX2_compare_v1 l D h19 h8 h46 h47 h31 h81 h82 h83 h84 h85 h86 h87 h88 h93 h94 h95 h96 h97 h98 h99 h100 h101 h102 h103 h104 h105 h106 h107 h108 h109 h110 h111 h112 h113 h114 h115 h116 h117 h118 a14 a15 a16 a17 _ ) [3, 4, 5, 6, 7, 8, 9, 10, 11, 12] rfl (by decide) [1, 2, 3, 4] rfl 3 2 rfl rfl rfl rfl rfl ⟨(Nat.le_of_ble_eq_true rfl), (Nat.le_of_ble_eq_true rfl)⟩ hl.1 rfl rfl (Nat.le_of_ble_eq_true rfl) ⟨(Nat.le_of_ble_eq_true rfl), (Nat.le_of_ble_eq_true rfl)⟩ dX11_judge_51) (fun r _ H locs w3158 Wd => ?_)
          have Wd : wX D [(a0, .object RX8), (a14, .int), (a15, .int), (a16, .int), (a17, .int)] s [(h0, .inr (11, [.ref h1, .int 0, .ref h2, .ref h3, .ref h4, .ref h5, .ref h6, .ref h7])), (h1, .inl (a0, 6, .inr (.inr (.inr (.inr g0))))), (h6, .inr (4, [.ref h19, .ref h20, .ref h21, .int (-1), .int (-1), .ref h22, .ref h23, .ref h24, .ref h25, .ref h26])), (h19, .inr (2, [.int (-1), .int (-1), .int 0, .int 0, .ref h46, .ref h47])), (h46, .inr (3, [.ref h81, .ref h82, .int 0, .int 0, .int 0, .ref h83, .ref h84])), (h81, .inr (1, [.ref h8, .int 0, .ref h94, .ref h95, .ref h96, .ref h97, .ref h98, .ref h99, .ref h100, .ref h101, .ref h102, .ref h103, .ref h104, .ref h105])), (h8, .inr (8, [.ref h31, .int 0])), (h105, .inl (a16, 480, .inl (fun _ => 0))), (h47, .inr (3, [.ref h85, .ref h86, .int 0, .int 0, .int 0, .ref h87, .ref h88])), (h85, .inr (1, [.ref h8, .int 0, .ref h107, .ref h108, .ref h109, .ref h110, .ref h111, .ref h112, .ref h113, .ref h114, .ref h115, .ref h116, .ref h117, .ref h118])), (h118, .inl (a17, 480, .inl (fun _ => 0))), (h83, .inl (a14, 6, .inl (upd (upd (upd (upd (upd (upd (fun _ => 0) 0 0) 1 0) 2 0) 3 0) 4 0) 5 0))), (h87, .inl (a15, 6, .inl (upd (upd (upd (upd (upd (upd (fun _ => 0) 0 0) 1 0) 2 0) 3 0) 4 0) 5 0)))] _ A s.heap _ := Wd
          obtain rfl := w3158
          refine lv_pop C.1 C.2.1 dX11_judge_54 rfl ?_
          refine lv_iload_n C.1 C.2.1 dX11_judge_55 rfl (lv_at hl 6 rfl) ?_
          by_cases c3159 : x2 = (0 : Int32)
          · subst c3159
            refine lv_tableIn (off := 28) (tgt := 84) C.1 C.2.1 dX11_judge_56 (by decide) (by decide) (by decide) (by decide) ?_
            refine lv_aload C.1 C.2.1 dX11_judge_84 (lv_at hl 0 rfl) ?_
            refine k_pi (k_runV (rest := []) C aks Wd cs_X11_153 (kcX2_verdict l D h19 h46 h47 _ ) [3] rfl (by decide) [] rfl 3 2 rfl rfl rfl rfl rfl ⟨(Nat.le_of_ble_eq_true rfl), (Nat.le_of_ble_eq_true rfl)⟩ hl.1 rfl rfl (Nat.le_of_ble_eq_true rfl) ⟨(Nat.le_of_ble_eq_true rfl), (Nat.le_of_ble_eq_true rfl)⟩ dX11_judge_86) (fun r w3160 => ?_)
            obtain rfl := w3160
            exact k_zret C hr hlk rfl Wd () (Or.inr (Or.inl (⟨c3148, c3149, c3154, c3155, c3156, c3157, rfl, rfl⟩))) [] rfl (by decide) [] rfl (by decide) (by decide) dX11_judge_89
          by_cases c3161 : x2 = (1 : Int32)
          · subst c3161
            refine lv_tableIn (off := 34) (tgt := 90) C.1 C.2.1 dX11_judge_56 (by decide) (by decide) (by decide) (by decide) ?_
            refine lv_aload C.1 C.2.1 dX11_judge_90 (lv_at hl 0 rfl) ?_
            refine k_get C Wd KX2 3 0 rfl (by decide) fl_X11_156 rfl dX11_judge_92 ?_
            exact k_zret C hr hlk rfl Wd () (Or.inr (Or.inr (Or.inl (⟨c3148, c3149, c3154, c3155, c3156, c3157, c3159, rfl, rfl⟩)))) [] rfl (by decide) [] rfl (by decide) (by decide) dX11_judge_95
          by_cases c3162 : x2 = (2 : Int32)
          · subst c3162
            refine lv_tableIn (off := 40) (tgt := 96) C.1 C.2.1 dX11_judge_56 (by decide) (by decide) (by decide) (by decide) ?_
            refine lv_aload C.1 C.2.1 dX11_judge_96 (lv_at hl 0 rfl) ?_
            refine k_get C Wd KX2 3 1 rfl (by decide) fl_X11_159 rfl dX11_judge_98 ?_
            exact k_zret C hr hlk rfl Wd () (Or.inr (Or.inr (Or.inr (Or.inl (⟨c3148, c3149, c3154, c3155, c3156, c3157, c3159, c3161, rfl, rfl⟩))))) [] rfl (by decide) [] rfl (by decide) (by decide) dX11_judge_101
          refine lv_tableOut (tgt := 102) C.1 C.2.1 dX11_judge_56 (by have z0 := kz_nlt c3156; have z1 := kz_le c3157; have z2 := kz_ne c3159; have z3 := kz_ne c3161; have z4 := kz_ne c3162; have t0 : (0 : Int32).toInt = 0 := (by decide); have t3 : (3 : Int32).toInt = 3 := (by decide); have t1 : (1 : Int32).toInt = 1 := (by decide); have t2 : (2 : Int32).toInt = 2 := (by decide); omega) (by decide) ?_
          refine lv_aload C.1 C.2.1 dX11_judge_102 (lv_at hl 0 rfl) ?_
          refine k_get C Wd KX2 3 2 rfl (by decide) fl_X11_162 rfl dX11_judge_104 ?_
          exact k_zret C hr hlk rfl Wd () (Or.inr (Or.inr (Or.inr (Or.inr (Or.inl (⟨c3148, c3149, c3154, c3155, c3156, c3157, c3159, c3161, c3162, rfl⟩)))))) [] rfl (by decide) [] rfl (by decide) (by decide) dX11_judge_107
        · refine lv_iconst (v := (-1)) C.1 C.2.1 dX11_judge_33 (by decide) ?_
          exact k_zret C hr hlk rfl Wd () (Or.inr (Or.inr (Or.inr (Or.inr (Or.inr (⟨c3148, c3149, c3154, c3155, c3156, c3157, rfl⟩)))))) [] rfl (by decide) [] rfl (by decide) (by decide) dX11_judge_34
set_option maxHeartbeats 4000000 in
set_option maxRecDepth 100000 in
theorem kcX4_ruleAt_v1 (l : Launch) (D : va_G) (h0 h1 h2 h3 h4 h5 h6 h7 h8 : Nat) (x0 : Int32) (g0 : Nat → Option Nat) (a0 : ClassId) (sz : Nat)  : Met l yX4_ruleAt (Cond.code yX4_ruleAt cX4_ruleAt 2 (some (.object "SameAfter$Rule")) :: gG) { frames := 1, cells := 0, slots := 0, locals := 64 } (cPre D [(a0, .object RX9)] [(h0, .inr (4, [.ref h1, .ref h2, .ref h3, .int (-1), .int (-1), .ref h4, .ref h5, .ref h6, .ref h7, .ref h8])), (h4, .inl (a0, 12, .inr (.inr (.inr (.inr g0)))))] sz [.ref h0, .int x0]) (va_Sq (fun r => (x0 < (0 : Int32) ∧ r = none) ∨ (¬ x0 < (0 : Int32) ∧ (12 : Int32) ≤ x0 ∧ r = none) ∨ (¬ x0 < (0 : Int32) ∧ ¬ (12 : Int32) ≤ x0 ∧ r = (g0 x0.toNatClampNeg)))) 0 0 (fun _ => False) := by
  refine Met.ofW (cc := cX4_ruleAt) (maxL := 2) (ret := (some (.object "SameAfter$Rule"))) (by decide) rfl ?_
  intro p e s m args below meth c s₁ B hml hv
  obtain ⟨rfl, aks, rfl, Wd⟩ := k_enter hv
  have C : CallFix p m c cX4_ruleAt 2 s _ gG RX4 := ⟨B.exec, B.bytes, hml, findClass_of_methodNamed B.named, fun w h => atoms_spec (ws := Cond.code yX4_ruleAt cX4_ruleAt 2 (some (.object "SameAfter$Rule")) :: gG) B.pre w (List.mem_cons_of_mem _ h)⟩
  have hr := B.returns
  have hlk := B.notSynchronized
  obtain ⟨A, Wd⟩ : ∃ A, wX D [(a0, .object RX9)] s [(h0, .inr (4, [.ref h1, .ref h2, .ref h3, .int (-1), .int (-1), .ref h4, .ref h5, .ref h6, .ref h7, .ref h8])), (h4, .inl (a0, 12, .inr (.inr (.inr (.inr g0)))))] s.heap A s.heap [] := ⟨_, Wd⟩
  refine k_locals (Nat.le_of_ble_eq_true rfl) [(0, .ref h0), (1, .int x0)] rfl (fun ls hl => ?_)
  refine lv_iload_n C.1 C.2.1 dX4_ruleAt_0 rfl (lv_at hl 1 rfl) ?_
  refine lv_if_lt (tgt := 22) C.1 C.2.1 dX4_ruleAt_1 (by decide) (fun c3166 => ?_) (fun c3166 => ?_)
  · refine lv_null C.1 C.2.1 dX4_ruleAt_22 ?_
    exact k_aretP (none) rfl C hr hlk (Or.inl (⟨c3166, rfl⟩)) dX4_ruleAt_23
  · refine lv_iload_n C.1 C.2.1 dX4_ruleAt_4 rfl (lv_at hl 1 rfl) ?_
    refine lv_aload_n C.1 C.2.1 dX4_ruleAt_5 rfl (lv_at hl 0 rfl) ?_
    refine k_get C Wd KX4 0 5 rfl (by decide) fl_X4_11 rfl dX4_ruleAt_6 ?_
    refine k_alen (v := 12) C Wd 1 0 rfl rfl rfl dX4_ruleAt_9 ?_
    refine lv_icmp_ge (tgt := 22) C.1 C.2.1 dX4_ruleAt_10 (by decide) (fun c3167 => ?_) (fun c3167 => ?_)
    · refine lv_null C.1 C.2.1 dX4_ruleAt_22 ?_
      exact k_aretP (none) rfl C hr hlk (Or.inr (Or.inl (⟨c3166, c3167, rfl⟩))) dX4_ruleAt_23
    · refine lv_aload_n C.1 C.2.1 dX4_ruleAt_13 rfl (lv_at hl 0 rfl) ?_
      refine k_get C Wd KX4 0 5 rfl (by decide) fl_X4_11 rfl dX4_ruleAt_14 ?_
      refine lv_iload_n C.1 C.2.1 dX4_ruleAt_17 rfl (lv_at hl 1 rfl) ?_
      refine k_aldq (v := va_rf (g0 x0.toNatClampNeg)) C Wd 1 0 rfl rfl (vp_in_iff.mpr ⟨by have z0 := kz_nlt c3166; have z1 := kz_nle c3167; have t0 : (0 : Int32).toInt = 0 := (by decide); have t12 : (12 : Int32).toInt = 12 := (by decide); omega, by have z0 := kz_nlt c3166; have z1 := kz_nle c3167; have t0 : (0 : Int32).toInt = 0 := (by decide); have t12 : (12 : Int32).toInt = 12 := (by decide); omega⟩) rfl dX4_ruleAt_18 ?_
      refine lv_goto (tgt := 23) C.1 C.2.1 dX4_ruleAt_19 (by decide) ?_
      exact k_aretP ((g0 x0.toNatClampNeg)) rfl C hr hlk (Or.inr (Or.inr (⟨c3166, c3167, rfl⟩))) dX4_ruleAt_23
set_option maxHeartbeats 4000000 in
set_option maxRecDepth 100000 in
theorem kcX11_ruleAt (l : Launch) (D : va_G) (h0 h1 h2 h3 h4 h5 h6 h7 h18 h19 h20 h21 h22 h23 h24 h25 : Nat) (x0 : Int32) (g1 : Nat → Option Nat) (a3 : ClassId) (sz : Nat)  : Met l yX11_ruleAt (Cond.code yX11_ruleAt cX11_ruleAt 2 (some (.object "SameAfter$Rule")) :: gG) { frames := 2, cells := 0, slots := 0, locals := 85 } (cPre D [(a3, .object RX9)] [(h0, .inr (11, [.ref h1, .int 0, .ref h2, .ref h3, .ref h4, .ref h5, .ref h6, .ref h7])), (h6, .inr (4, [.ref h18, .ref h19, .ref h20, .int (-1), .int (-1), .ref h21, .ref h22, .ref h23, .ref h24, .ref h25])), (h21, .inl (a3, 12, .inr (.inr (.inr (.inr g1)))))] sz [.ref h0, .int x0]) (va_Sq (fun r => ((0 : Int32) ≤ x0 ∧ r = none) ∨ (¬ (0 : Int32) ≤ x0 ∧ x0 < (0 : Int32) ∧ r = none))) 0 0 (fun _ => False) := by
  refine Met.ofW (cc := cX11_ruleAt) (maxL := 2) (ret := (some (.object "SameAfter$Rule"))) (by decide) rfl ?_
  intro p e s m args below meth c s₁ B hml hv
  obtain ⟨rfl, aks, rfl, Wd⟩ := k_enter hv
  have C : CallFix p m c cX11_ruleAt 2 s _ gG RX11 := ⟨B.exec, B.bytes, hml, findClass_of_methodNamed B.named, fun w h => atoms_spec (ws := Cond.code yX11_ruleAt cX11_ruleAt 2 (some (.object "SameAfter$Rule")) :: gG) B.pre w (List.mem_cons_of_mem _ h)⟩
  have hr := B.returns
  have hlk := B.notSynchronized
  obtain ⟨A, Wd⟩ : ∃ A, wX D [(a3, .object RX9)] s [(h0, .inr (11, [.ref h1, .int 0, .ref h2, .ref h3, .ref h4, .ref h5, .ref h6, .ref h7])), (h6, .inr (4, [.ref h18, .ref h19, .ref h20, .int (-1), .int (-1), .ref h21, .ref h22, .ref h23, .ref h24, .ref h25])), (h21, .inl (a3, 12, .inr (.inr (.inr (.inr g1)))))] s.heap A s.heap [] := ⟨_, Wd⟩
  refine k_locals (Nat.le_of_ble_eq_true rfl) [(0, .ref h0), (1, .int x0)] rfl (fun ls hl => ?_)
  refine lv_iload_n C.1 C.2.1 dX11_ruleAt_0 rfl (lv_at hl 1 rfl) ?_
  refine lv_aload_n C.1 C.2.1 dX11_ruleAt_1 rfl (lv_at hl 0 rfl) ?_
  refine k_get C Wd KX11 0 1 rfl (by decide) fl_X11_18 rfl dX11_ruleAt_2 ?_
  refine lv_icmp_ge (tgt := 19) C.1 C.2.1 dX11_ruleAt_5 (by decide) (fun c3174 => ?_) (fun c3174 => ?_)
  · refine lv_null C.1 C.2.1 dX11_ruleAt_19 ?_
    exact k_aretP (none) rfl C hr hlk (Or.inl (⟨c3174, rfl⟩)) dX11_ruleAt_20
  · refine lv_aload_n C.1 C.2.1 dX11_ruleAt_8 rfl (lv_at hl 0 rfl) ?_
    refine k_get C Wd KX11 0 6 rfl (by decide) fl_X11_50 rfl dX11_ruleAt_9 ?_
    refine lv_iload_n C.1 C.2.1 dX11_ruleAt_12 rfl (lv_at hl 1 rfl) ?_
    refine k_pq (k_runV (rest := []) C aks Wd cs_X11_99 (kcX4_ruleAt_v1 l D h6 h18 h19 h20 h21 h22 h23 h24 h25 x0 g1 a3 _ ) [1, 2] rfl (by decide) [0] rfl 1 4 rfl rfl rfl rfl rfl ⟨(Nat.le_of_ble_eq_true rfl), (Nat.le_of_ble_eq_true rfl)⟩ hl.1 rfl rfl (Nat.le_of_ble_eq_true rfl) ⟨(Nat.le_of_ble_eq_true rfl), (Nat.le_of_ble_eq_true rfl)⟩ dX11_ruleAt_13) (fun r w3175 => ?_)
    rcases w3175 with ⟨c3176, rfl⟩ | ⟨c3177, c3178, rfl⟩ | ⟨c3179, c3180, rfl⟩
    · refine W.eq (g2 := F0 m 16 ls [.null]) rfl ?_
      refine lv_goto (tgt := 20) C.1 C.2.1 dX11_ruleAt_16 (by decide) ?_
      exact k_aretP (none) rfl C hr hlk (Or.inr (⟨c3174, c3176, rfl⟩)) dX11_ruleAt_20
    · exact False.elim (by have z0 := kz_nle c3174; have z1 := kz_nlt c3177; have t0 : (0 : Int32).toInt = 0 := (by decide); omega)
    · exact False.elim (by have z0 := kz_nle c3174; have z1 := kz_nlt c3179; have t0 : (0 : Int32).toInt = 0 := (by decide); omega)
set_option maxHeartbeats 4000000 in
set_option maxRecDepth 100000 in
theorem kcX11_ruleOf (l : Launch) (D : va_G) (h0 h1 h2 h3 h4 h5 h6 h7 h18 h19 h20 h21 h22 h23 h24 h25 : Nat) (x0 x1 : Int32) (g1 : Nat → Option Nat) (a3 : ClassId) (sz : Nat)  : Met l yX11_ruleOf (Cond.code yX11_ruleOf cX11_ruleOf 4 (some .int) :: gG) { frames := 3, cells := 0, slots := 0, locals := 106 } (cPre D [(a3, .object RX9)] [(h0, .inr (11, [.ref h1, .int 0, .ref h2, .ref h3, .ref h4, .ref h5, .ref h6, .ref h7])), (h6, .inr (4, [.ref h18, .ref h19, .ref h20, .int (-1), .int (-1), .ref h21, .ref h22, .ref h23, .ref h24, .ref h25])), (h21, .inl (a3, 12, .inr (.inr (.inr (.inr g1)))))] sz [.ref h0, .int x0, .int x1]) (vp_Si (fun r => ((0 : Int32) ≤ x0 ∧ r = (-2)) ∨ (¬ (0 : Int32) ≤ x0 ∧ x0 < (0 : Int32) ∧ r = (-2)))) 0 0 (fun _ => False) := by
  refine Met.ofW (cc := cX11_ruleOf) (maxL := 4) (ret := (some .int)) (by decide) rfl ?_
  intro p e s m args below meth c s₁ B hml hv
  obtain ⟨rfl, aks, rfl, Wd⟩ := k_enter hv
  have C : CallFix p m c cX11_ruleOf 4 s _ gG RX11 := ⟨B.exec, B.bytes, hml, findClass_of_methodNamed B.named, fun w h => atoms_spec (ws := Cond.code yX11_ruleOf cX11_ruleOf 4 (some .int) :: gG) B.pre w (List.mem_cons_of_mem _ h)⟩
  have hr := B.returns
  have hlk := B.notSynchronized
  obtain ⟨A, Wd⟩ : ∃ A, wX D [(a3, .object RX9)] s [(h0, .inr (11, [.ref h1, .int 0, .ref h2, .ref h3, .ref h4, .ref h5, .ref h6, .ref h7])), (h6, .inr (4, [.ref h18, .ref h19, .ref h20, .int (-1), .int (-1), .ref h21, .ref h22, .ref h23, .ref h24, .ref h25])), (h21, .inl (a3, 12, .inr (.inr (.inr (.inr g1)))))] s.heap A s.heap [] := ⟨_, Wd⟩
  refine k_locals (Nat.le_of_ble_eq_true rfl) [(0, .ref h0), (1, .int x0), (2, .int x1)] rfl (fun ls hl => ?_)
  refine lv_aload_n C.1 C.2.1 dX11_ruleOf_0 rfl (lv_at hl 0 rfl) ?_
  refine lv_iload_n C.1 C.2.1 dX11_ruleOf_1 rfl (lv_at hl 1 rfl) ?_
  refine k_pq (k_runV (rest := []) C aks Wd cs_X11_165 (kcX11_ruleAt l D h0 h1 h2 h3 h4 h5 h6 h7 h18 h19 h20 h21 h22 h23 h24 h25 x0 g1 a3 _ ) [0, 1, 2] rfl (by decide) [0] rfl 0 11 rfl rfl rfl rfl rfl ⟨(Nat.le_of_ble_eq_true rfl), (Nat.le_of_ble_eq_true rfl)⟩ hl.1 rfl rfl (Nat.le_of_ble_eq_true rfl) ⟨(Nat.le_of_ble_eq_true rfl), (Nat.le_of_ble_eq_true rfl)⟩ dX11_ruleOf_2) (fun r w3185 => ?_)
  rcases w3185 with ⟨c3186, rfl⟩ | ⟨c3187, c3188, rfl⟩
  · refine W.eq (g2 := F0 m 5 ls [.null]) rfl ?_
    refine lv_astore_nN (lv' := [(3, .null), (0, .ref h0), (1, .int x0), (2, .int x1)]) C.1 C.2.1 dX11_ruleOf_5 rfl hl (by decide) rfl (fun ls hl => ?_)
    refine lv_aload_nN C.1 C.2.1 dX11_ruleOf_6 rfl (lv_at hl 0 rfl) ?_
    refine lv_ifnonnullN C.1 C.2.1 dX11_ruleOf_7 ?_
    refine lv_bipush (v := (-2)) C.1 C.2.1 dX11_ruleOf_10 (by decide) ?_
    exact k_zretP C hr hlk rfl (Or.inl (⟨c3186, rfl⟩)) dX11_ruleOf_12
  · refine W.eq (g2 := F0 m 5 ls [.null]) rfl ?_
    refine lv_astore_nN (lv' := [(3, .null), (0, .ref h0), (1, .int x0), (2, .int x1)]) C.1 C.2.1 dX11_ruleOf_5 rfl hl (by decide) rfl (fun ls hl => ?_)
    refine lv_aload_nN C.1 C.2.1 dX11_ruleOf_6 rfl (lv_at hl 0 rfl) ?_
    refine lv_ifnonnullN C.1 C.2.1 dX11_ruleOf_7 ?_
    refine lv_bipush (v := (-2)) C.1 C.2.1 dX11_ruleOf_10 (by decide) ?_
    exact k_zretP C hr hlk rfl (Or.inr (⟨c3187, c3188, rfl⟩)) dX11_ruleOf_12
set_option maxHeartbeats 4000000 in
set_option maxRecDepth 100000 in
theorem kcX11_places (l : Launch) (D : va_G) (h0 h1 h2 h3 h4 h5 h6 h7 h18 h19 h20 h21 h22 h23 h24 h25 : Nat) (x0 x1 : Int32) (g0 g1 : Nat → Option Nat) (a0 a3 : ClassId) (sz : Nat)  : Met l yX11_places (Cond.code yX11_places cX11_places 5 (some .int) :: gG) { frames := 3, cells := 0, slots := 0, locals := 106 } (cPre D [(a0, .object RX8), (a3, .object RX9)] [(h0, .inr (11, [.ref h1, .int 0, .ref h2, .ref h3, .ref h4, .ref h5, .ref h6, .ref h7])), (h6, .inr (4, [.ref h18, .ref h19, .ref h20, .int (-1), .int (-1), .ref h21, .ref h22, .ref h23, .ref h24, .ref h25])), (h21, .inl (a3, 12, .inr (.inr (.inr (.inr g1))))), (h1, .inl (a0, 6, .inr (.inr (.inr (.inr g0)))))] sz [.ref h0, .int x0, .int x1]) (vp_Si (fun r => ((0 : Int32) ≤ x0 ∧ x1 < (0 : Int32) ∧ r = (-1)) ∨ ((0 : Int32) ≤ x0 ∧ ¬ x1 < (0 : Int32) ∧ (6 : Int32) ≤ x1 ∧ r = (-1)) ∨ ((0 : Int32) ≤ x0 ∧ ¬ x1 < (0 : Int32) ∧ ¬ (6 : Int32) ≤ x1 ∧ r = (-1)) ∨ ((0 : Int32) ≤ x0 ∧ ¬ x1 < (0 : Int32) ∧ ¬ (6 : Int32) ≤ x1 ∧ r = (-1)) ∨ (¬ (0 : Int32) ≤ x0 ∧ x0 < (0 : Int32) ∧ x1 < (0 : Int32) ∧ r = (-1)) ∨ (¬ (0 : Int32) ≤ x0 ∧ x0 < (0 : Int32) ∧ ¬ x1 < (0 : Int32) ∧ (6 : Int32) ≤ x1 ∧ r = (-1)) ∨ (¬ (0 : Int32) ≤ x0 ∧ x0 < (0 : Int32) ∧ ¬ x1 < (0 : Int32) ∧ ¬ (6 : Int32) ≤ x1 ∧ r = (-1)) ∨ (¬ (0 : Int32) ≤ x0 ∧ x0 < (0 : Int32) ∧ ¬ x1 < (0 : Int32) ∧ ¬ (6 : Int32) ≤ x1 ∧ r = (-1)))) 0 0 (fun _ => False) := by
  refine Met.ofW (cc := cX11_places) (maxL := 5) (ret := (some .int)) (by decide) rfl ?_
  intro p e s m args below meth c s₁ B hml hv
  obtain ⟨rfl, aks, rfl, Wd⟩ := k_enter hv
  have C : CallFix p m c cX11_places 5 s _ gG RX11 := ⟨B.exec, B.bytes, hml, findClass_of_methodNamed B.named, fun w h => atoms_spec (ws := Cond.code yX11_places cX11_places 5 (some .int) :: gG) B.pre w (List.mem_cons_of_mem _ h)⟩
  have hr := B.returns
  have hlk := B.notSynchronized
  obtain ⟨A, Wd⟩ : ∃ A, wX D [(a0, .object RX8), (a3, .object RX9)] s [(h0, .inr (11, [.ref h1, .int 0, .ref h2, .ref h3, .ref h4, .ref h5, .ref h6, .ref h7])), (h6, .inr (4, [.ref h18, .ref h19, .ref h20, .int (-1), .int (-1), .ref h21, .ref h22, .ref h23, .ref h24, .ref h25])), (h21, .inl (a3, 12, .inr (.inr (.inr (.inr g1))))), (h1, .inl (a0, 6, .inr (.inr (.inr (.inr g0)))))] s.heap A s.heap [] := ⟨_, Wd⟩
  refine k_locals (Nat.le_of_ble_eq_true rfl) [(0, .ref h0), (1, .int x0), (2, .int x1)] rfl (fun ls hl => ?_)
  refine lv_aload_n C.1 C.2.1 dX11_places_0 rfl (lv_at hl 0 rfl) ?_
  refine lv_iload_n C.1 C.2.1 dX11_places_1 rfl (lv_at hl 1 rfl) ?_
  refine k_pq (k_runV (rest := []) C aks Wd cs_X11_165 (kcX11_ruleAt l D h0 h1 h2 h3 h4 h5 h6 h7 h18 h19 h20 h21 h22 h23 h24 h25 x0 g1 a3 _ ) [0, 1, 2] rfl (by decide) [1] rfl 0 11 rfl rfl rfl rfl rfl ⟨(Nat.le_of_ble_eq_true rfl), (Nat.le_of_ble_eq_true rfl)⟩ hl.1 rfl rfl (Nat.le_of_ble_eq_true rfl) ⟨(Nat.le_of_ble_eq_true rfl), (Nat.le_of_ble_eq_true rfl)⟩ dX11_places_2) (fun r w3209 => ?_)
  rcases w3209 with ⟨c3210, rfl⟩ | ⟨c3211, c3212, rfl⟩
  · refine W.eq (g2 := F0 m 5 ls [.null]) rfl ?_
    refine lv_astore_nN (lv' := [(3, .null), (0, .ref h0), (1, .int x0), (2, .int x1)]) C.1 C.2.1 dX11_places_5 rfl hl (by decide) rfl (fun ls hl => ?_)
    refine lv_aload_n C.1 C.2.1 dX11_places_6 rfl (lv_at hl 1 rfl) ?_
    refine lv_iload_n C.1 C.2.1 dX11_places_7 rfl (lv_at hl 3 rfl) ?_
    refine k_pq (k_runV (rest := []) C aks Wd cs_X11_77 (kcX11_slotAt l D h0 h1 h2 h3 h4 h5 h6 h7 x1 g0 a0 _ ) [0, 3] rfl (by decide) [0] rfl 0 11 rfl rfl rfl rfl rfl ⟨(Nat.le_of_ble_eq_true rfl), (Nat.le_of_ble_eq_true rfl)⟩ hl.1 rfl rfl (Nat.le_of_ble_eq_true rfl) ⟨(Nat.le_of_ble_eq_true rfl), (Nat.le_of_ble_eq_true rfl)⟩ dX11_places_8) (fun r w3213 => ?_)
    rcases w3213 with ⟨c3214, rfl⟩ | ⟨c3215, c3216, rfl⟩ | ⟨c3217, c3218, rfl⟩
    · refine W.eq (g2 := F0 m 11 ls [.null]) rfl ?_
      refine lv_astoreN (lv' := [(4, .null), (3, .null), (0, .ref h0), (1, .int x0), (2, .int x1)]) C.1 C.2.1 dX11_places_11 hl (by decide) rfl (fun ls hl => ?_)
      refine lv_aload_nN C.1 C.2.1 dX11_places_13 rfl (lv_at hl 1 rfl) ?_
      refine lv_ifnullN (tgt := 22) C.1 C.2.1 dX11_places_14 (by decide) ?_
      refine lv_iconst (v := (-1)) C.1 C.2.1 dX11_places_22 (by decide) ?_
      refine lv_goto (tgt := 32) C.1 C.2.1 dX11_places_23 (by decide) ?_
      exact k_zretP C hr hlk rfl (Or.inl (⟨c3210, c3214, rfl⟩)) dX11_places_32
    · refine W.eq (g2 := F0 m 11 ls [.null]) rfl ?_
      refine lv_astoreN (lv' := [(4, .null), (3, .null), (0, .ref h0), (1, .int x0), (2, .int x1)]) C.1 C.2.1 dX11_places_11 hl (by decide) rfl (fun ls hl => ?_)
      refine lv_aload_nN C.1 C.2.1 dX11_places_13 rfl (lv_at hl 1 rfl) ?_
      refine lv_ifnullN (tgt := 22) C.1 C.2.1 dX11_places_14 (by decide) ?_
      refine lv_iconst (v := (-1)) C.1 C.2.1 dX11_places_22 (by decide) ?_
      refine lv_goto (tgt := 32) C.1 C.2.1 dX11_places_23 (by decide) ?_
      exact k_zretP C hr hlk rfl (Or.inr (Or.inl (⟨c3210, c3215, c3216, rfl⟩))) dX11_places_32
    · cases hq3219 : (g0 x1.toNatClampNeg) with
      | none =>
        refine W.eq (g2 := F0 m 11 ls [.null]) rfl ?_
        refine lv_astoreN (lv' := [(4, .null), (3, .null), (0, .ref h0), (1, .int x0), (2, .int x1)]) C.1 C.2.1 dX11_places_11 hl (by decide) rfl (fun ls hl => ?_)
        refine lv_aload_nN C.1 C.2.1 dX11_places_13 rfl (lv_at hl 1 rfl) ?_
        refine lv_ifnullN (tgt := 22) C.1 C.2.1 dX11_places_14 (by decide) ?_
        refine lv_iconst (v := (-1)) C.1 C.2.1 dX11_places_22 (by decide) ?_
        refine lv_goto (tgt := 32) C.1 C.2.1 dX11_places_23 (by decide) ?_
        exact k_zretP C hr hlk rfl (Or.inr (Or.inr (Or.inl (⟨c3210, c3217, c3218, rfl⟩)))) dX11_places_32
      | some q3220 =>
        refine W.eq (g2 := F0 m 11 ls [.ref q3220]) rfl ?_
        refine lv_astore (lv' := [(4, .ref q3220), (3, .null), (0, .ref h0), (1, .int x0), (2, .int x1)]) C.1 C.2.1 dX11_places_11 hl (by decide) rfl (fun ls hl => ?_)
        refine lv_aload_nN C.1 C.2.1 dX11_places_13 rfl (lv_at hl 1 rfl) ?_
        refine lv_ifnullN (tgt := 22) C.1 C.2.1 dX11_places_14 (by decide) ?_
        refine lv_iconst (v := (-1)) C.1 C.2.1 dX11_places_22 (by decide) ?_
        refine lv_goto (tgt := 32) C.1 C.2.1 dX11_places_23 (by decide) ?_
        exact k_zretP C hr hlk rfl (Or.inr (Or.inr (Or.inr (Or.inl (⟨c3210, c3217, c3218, rfl⟩))))) dX11_places_32
  · refine W.eq (g2 := F0 m 5 ls [.null]) rfl ?_
    refine lv_astore_nN (lv' := [(3, .null), (0, .ref h0), (1, .int x0), (2, .int x1)]) C.1 C.2.1 dX11_places_5 rfl hl (by decide) rfl (fun ls hl => ?_)
    refine lv_aload_n C.1 C.2.1 dX11_places_6 rfl (lv_at hl 1 rfl) ?_
    refine lv_iload_n C.1 C.2.1 dX11_places_7 rfl (lv_at hl 3 rfl) ?_
    refine k_pq (k_runV (rest := []) C aks Wd cs_X11_77 (kcX11_slotAt l D h0 h1 h2 h3 h4 h5 h6 h7 x1 g0 a0 _ ) [0, 3] rfl (by decide) [0] rfl 0 11 rfl rfl rfl rfl rfl ⟨(Nat.le_of_ble_eq_true rfl), (Nat.le_of_ble_eq_true rfl)⟩ hl.1 rfl rfl (Nat.le_of_ble_eq_true rfl) ⟨(Nat.le_of_ble_eq_true rfl), (Nat.le_of_ble_eq_true rfl)⟩ dX11_places_8) (fun r w3221 => ?_)
    rcases w3221 with ⟨c3222, rfl⟩ | ⟨c3223, c3224, rfl⟩ | ⟨c3225, c3226, rfl⟩
    · refine W.eq (g2 := F0 m 11 ls [.null]) rfl ?_
      refine lv_astoreN (lv' := [(4, .null), (3, .null), (0, .ref h0), (1, .int x0), (2, .int x1)]) C.1 C.2.1 dX11_places_11 hl (by decide) rfl (fun ls hl => ?_)
      refine lv_aload_nN C.1 C.2.1 dX11_places_13 rfl (lv_at hl 1 rfl) ?_
      refine lv_ifnullN (tgt := 22) C.1 C.2.1 dX11_places_14 (by decide) ?_
      refine lv_iconst (v := (-1)) C.1 C.2.1 dX11_places_22 (by decide) ?_
      refine lv_goto (tgt := 32) C.1 C.2.1 dX11_places_23 (by decide) ?_
      exact k_zretP C hr hlk rfl (Or.inr (Or.inr (Or.inr (Or.inr (Or.inl (⟨c3211, c3212, c3222, rfl⟩)))))) dX11_places_32
    · refine W.eq (g2 := F0 m 11 ls [.null]) rfl ?_
      refine lv_astoreN (lv' := [(4, .null), (3, .null), (0, .ref h0), (1, .int x0), (2, .int x1)]) C.1 C.2.1 dX11_places_11 hl (by decide) rfl (fun ls hl => ?_)
      refine lv_aload_nN C.1 C.2.1 dX11_places_13 rfl (lv_at hl 1 rfl) ?_
      refine lv_ifnullN (tgt := 22) C.1 C.2.1 dX11_places_14 (by decide) ?_
      refine lv_iconst (v := (-1)) C.1 C.2.1 dX11_places_22 (by decide) ?_
      refine lv_goto (tgt := 32) C.1 C.2.1 dX11_places_23 (by decide) ?_
      exact k_zretP C hr hlk rfl (Or.inr (Or.inr (Or.inr (Or.inr (Or.inr (Or.inl (⟨c3211, c3212, c3223, c3224, rfl⟩))))))) dX11_places_32
    · cases hq3227 : (g0 x1.toNatClampNeg) with
      | none =>
        refine W.eq (g2 := F0 m 11 ls [.null]) rfl ?_
        refine lv_astoreN (lv' := [(4, .null), (3, .null), (0, .ref h0), (1, .int x0), (2, .int x1)]) C.1 C.2.1 dX11_places_11 hl (by decide) rfl (fun ls hl => ?_)
        refine lv_aload_nN C.1 C.2.1 dX11_places_13 rfl (lv_at hl 1 rfl) ?_
        refine lv_ifnullN (tgt := 22) C.1 C.2.1 dX11_places_14 (by decide) ?_
        refine lv_iconst (v := (-1)) C.1 C.2.1 dX11_places_22 (by decide) ?_
        refine lv_goto (tgt := 32) C.1 C.2.1 dX11_places_23 (by decide) ?_
        exact k_zretP C hr hlk rfl (Or.inr (Or.inr (Or.inr (Or.inr (Or.inr (Or.inr (Or.inl (⟨c3211, c3212, c3225, c3226, rfl⟩)))))))) dX11_places_32
      | some q3228 =>
        refine W.eq (g2 := F0 m 11 ls [.ref q3228]) rfl ?_
        refine lv_astore (lv' := [(4, .ref q3228), (3, .null), (0, .ref h0), (1, .int x0), (2, .int x1)]) C.1 C.2.1 dX11_places_11 hl (by decide) rfl (fun ls hl => ?_)
        refine lv_aload_nN C.1 C.2.1 dX11_places_13 rfl (lv_at hl 1 rfl) ?_
        refine lv_ifnullN (tgt := 22) C.1 C.2.1 dX11_places_14 (by decide) ?_
        refine lv_iconst (v := (-1)) C.1 C.2.1 dX11_places_22 (by decide) ?_
        refine lv_goto (tgt := 32) C.1 C.2.1 dX11_places_23 (by decide) ?_
        exact k_zretP C hr hlk rfl (Or.inr (Or.inr (Or.inr (Or.inr (Or.inr (Or.inr (Or.inr (⟨c3211, c3212, c3225, c3226, rfl⟩)))))))) dX11_places_32
set_option maxHeartbeats 4000000 in
set_option maxRecDepth 100000 in
theorem kcX11_apply (l : Launch) (D : va_G) (h0 h1 h2 h3 h4 h5 h6 h7 h18 h19 h20 h21 h22 h23 h24 h25 : Nat) (x0 x1 x2 x3 : Int32) (g0 g1 : Nat → Option Nat) (a0 a3 : ClassId) (sz : Nat)  : Met l yX11_apply (Cond.code yX11_apply cX11_apply 9 (some .boolean) :: gG) { frames := 3, cells := 0, slots := 0, locals := 106 } (cPre D [(a0, .object RX8), (a3, .object RX9)] [(h0, .inr (11, [.ref h1, .int 0, .ref h2, .ref h3, .ref h4, .ref h5, .ref h6, .ref h7])), (h6, .inr (4, [.ref h18, .ref h19, .ref h20, .int (-1), .int (-1), .ref h21, .ref h22, .ref h23, .ref h24, .ref h25])), (h21, .inl (a3, 12, .inr (.inr (.inr (.inr g1))))), (h1, .inl (a0, 6, .inr (.inr (.inr (.inr g0)))))] sz [.ref h0, .int x0, .int x1, .int x2, .int x3]) (vp_Si (fun r => ((0 : Int32) ≤ x0 ∧ x1 < (0 : Int32) ∧ x3 < (0 : Int32) ∧ r = 0) ∨ ((0 : Int32) ≤ x0 ∧ x1 < (0 : Int32) ∧ ¬ x3 < (0 : Int32) ∧ (6 : Int32) ≤ x3 ∧ r = 0) ∨ ((0 : Int32) ≤ x0 ∧ x1 < (0 : Int32) ∧ ¬ x3 < (0 : Int32) ∧ ¬ (6 : Int32) ≤ x3 ∧ r = 0) ∨ ((0 : Int32) ≤ x0 ∧ x1 < (0 : Int32) ∧ ¬ x3 < (0 : Int32) ∧ ¬ (6 : Int32) ≤ x3 ∧ r = 0) ∨ ((0 : Int32) ≤ x0 ∧ ¬ x1 < (0 : Int32) ∧ (6 : Int32) ≤ x1 ∧ x3 < (0 : Int32) ∧ r = 0) ∨ ((0 : Int32) ≤ x0 ∧ ¬ x1 < (0 : Int32) ∧ (6 : Int32) ≤ x1 ∧ ¬ x3 < (0 : Int32) ∧ (6 : Int32) ≤ x3 ∧ r = 0) ∨ ((0 : Int32) ≤ x0 ∧ ¬ x1 < (0 : Int32) ∧ (6 : Int32) ≤ x1 ∧ ¬ x3 < (0 : Int32) ∧ ¬ (6 : Int32) ≤ x3 ∧ r = 0) ∨ ((0 : Int32) ≤ x0 ∧ ¬ x1 < (0 : Int32) ∧ (6 : Int32) ≤ x1 ∧ ¬ x3 < (0 : Int32) ∧ ¬ (6 : Int32) ≤ x3 ∧ r = 0) ∨ ((0 : Int32) ≤ x0 ∧ ¬ x1 < (0 : Int32) ∧ ¬ (6 : Int32) ≤ x1 ∧ x3 < (0 : Int32) ∧ r = 0) ∨ ((0 : Int32) ≤ x0 ∧ ¬ x1 < (0 : Int32) ∧ ¬ (6 : Int32) ≤ x1 ∧ ¬ x3 < (0 : Int32) ∧ (6 : Int32) ≤ x3 ∧ r = 0) ∨ ((0 : Int32) ≤ x0 ∧ ¬ x1 < (0 : Int32) ∧ ¬ (6 : Int32) ≤ x1 ∧ ¬ x3 < (0 : Int32) ∧ ¬ (6 : Int32) ≤ x3 ∧ r = 0) ∨ ((0 : Int32) ≤ x0 ∧ ¬ x1 < (0 : Int32) ∧ ¬ (6 : Int32) ≤ x1 ∧ ¬ x3 < (0 : Int32) ∧ ¬ (6 : Int32) ≤ x3 ∧ r = 0) ∨ ((0 : Int32) ≤ x0 ∧ ¬ x1 < (0 : Int32) ∧ ¬ (6 : Int32) ≤ x1 ∧ x3 < (0 : Int32) ∧ r = 0) ∨ ((0 : Int32) ≤ x0 ∧ ¬ x1 < (0 : Int32) ∧ ¬ (6 : Int32) ≤ x1 ∧ ¬ x3 < (0 : Int32) ∧ (6 : Int32) ≤ x3 ∧ r = 0) ∨ ((0 : Int32) ≤ x0 ∧ ¬ x1 < (0 : Int32) ∧ ¬ (6 : Int32) ≤ x1 ∧ ¬ x3 < (0 : Int32) ∧ ¬ (6 : Int32) ≤ x3 ∧ r = 0) ∨ ((0 : Int32) ≤ x0 ∧ ¬ x1 < (0 : Int32) ∧ ¬ (6 : Int32) ≤ x1 ∧ ¬ x3 < (0 : Int32) ∧ ¬ (6 : Int32) ≤ x3 ∧ r = 0) ∨ (¬ (0 : Int32) ≤ x0 ∧ x0 < (0 : Int32) ∧ x1 < (0 : Int32) ∧ x3 < (0 : Int32) ∧ r = 0) ∨ (¬ (0 : Int32) ≤ x0 ∧ x0 < (0 : Int32) ∧ x1 < (0 : Int32) ∧ ¬ x3 < (0 : Int32) ∧ (6 : Int32) ≤ x3 ∧ r = 0) ∨ (¬ (0 : Int32) ≤ x0 ∧ x0 < (0 : Int32) ∧ x1 < (0 : Int32) ∧ ¬ x3 < (0 : Int32) ∧ ¬ (6 : Int32) ≤ x3 ∧ r = 0) ∨ (¬ (0 : Int32) ≤ x0 ∧ x0 < (0 : Int32) ∧ x1 < (0 : Int32) ∧ ¬ x3 < (0 : Int32) ∧ ¬ (6 : Int32) ≤ x3 ∧ r = 0) ∨ (¬ (0 : Int32) ≤ x0 ∧ x0 < (0 : Int32) ∧ ¬ x1 < (0 : Int32) ∧ (6 : Int32) ≤ x1 ∧ x3 < (0 : Int32) ∧ r = 0) ∨ (¬ (0 : Int32) ≤ x0 ∧ x0 < (0 : Int32) ∧ ¬ x1 < (0 : Int32) ∧ (6 : Int32) ≤ x1 ∧ ¬ x3 < (0 : Int32) ∧ (6 : Int32) ≤ x3 ∧ r = 0) ∨ (¬ (0 : Int32) ≤ x0 ∧ x0 < (0 : Int32) ∧ ¬ x1 < (0 : Int32) ∧ (6 : Int32) ≤ x1 ∧ ¬ x3 < (0 : Int32) ∧ ¬ (6 : Int32) ≤ x3 ∧ r = 0) ∨ (¬ (0 : Int32) ≤ x0 ∧ x0 < (0 : Int32) ∧ ¬ x1 < (0 : Int32) ∧ (6 : Int32) ≤ x1 ∧ ¬ x3 < (0 : Int32) ∧ ¬ (6 : Int32) ≤ x3 ∧ r = 0) ∨ (¬ (0 : Int32) ≤ x0 ∧ x0 < (0 : Int32) ∧ ¬ x1 < (0 : Int32) ∧ ¬ (6 : Int32) ≤ x1 ∧ x3 < (0 : Int32) ∧ r = 0) ∨ (¬ (0 : Int32) ≤ x0 ∧ x0 < (0 : Int32) ∧ ¬ x1 < (0 : Int32) ∧ ¬ (6 : Int32) ≤ x1 ∧ ¬ x3 < (0 : Int32) ∧ (6 : Int32) ≤ x3 ∧ r = 0) ∨ (¬ (0 : Int32) ≤ x0 ∧ x0 < (0 : Int32) ∧ ¬ x1 < (0 : Int32) ∧ ¬ (6 : Int32) ≤ x1 ∧ ¬ x3 < (0 : Int32) ∧ ¬ (6 : Int32) ≤ x3 ∧ r = 0) ∨ (¬ (0 : Int32) ≤ x0 ∧ x0 < (0 : Int32) ∧ ¬ x1 < (0 : Int32) ∧ ¬ (6 : Int32) ≤ x1 ∧ ¬ x3 < (0 : Int32) ∧ ¬ (6 : Int32) ≤ x3 ∧ r = 0) ∨ (¬ (0 : Int32) ≤ x0 ∧ x0 < (0 : Int32) ∧ ¬ x1 < (0 : Int32) ∧ ¬ (6 : Int32) ≤ x1 ∧ x3 < (0 : Int32) ∧ r = 0) ∨ (¬ (0 : Int32) ≤ x0 ∧ x0 < (0 : Int32) ∧ ¬ x1 < (0 : Int32) ∧ ¬ (6 : Int32) ≤ x1 ∧ ¬ x3 < (0 : Int32) ∧ (6 : Int32) ≤ x3 ∧ r = 0) ∨ (¬ (0 : Int32) ≤ x0 ∧ x0 < (0 : Int32) ∧ ¬ x1 < (0 : Int32) ∧ ¬ (6 : Int32) ≤ x1 ∧ ¬ x3 < (0 : Int32) ∧ ¬ (6 : Int32) ≤ x3 ∧ r = 0) ∨ (¬ (0 : Int32) ≤ x0 ∧ x0 < (0 : Int32) ∧ ¬ x1 < (0 : Int32) ∧ ¬ (6 : Int32) ≤ x1 ∧ ¬ x3 < (0 : Int32) ∧ ¬ (6 : Int32) ≤ x3 ∧ r = 0))) 0 0 (fun _ => False) := by
  refine Met.ofW (cc := cX11_apply) (maxL := 9) (ret := (some .boolean)) (by decide) rfl ?_
  intro p e s m args below meth c s₁ B hml hv
  obtain ⟨rfl, aks, rfl, Wd⟩ := k_enter hv
  have C : CallFix p m c cX11_apply 9 s _ gG RX11 := ⟨B.exec, B.bytes, hml, findClass_of_methodNamed B.named, fun w h => atoms_spec (ws := Cond.code yX11_apply cX11_apply 9 (some .boolean) :: gG) B.pre w (List.mem_cons_of_mem _ h)⟩
  have hr := B.returns
  have hlk := B.notSynchronized
  obtain ⟨A, Wd⟩ : ∃ A, wX D [(a0, .object RX8), (a3, .object RX9)] s [(h0, .inr (11, [.ref h1, .int 0, .ref h2, .ref h3, .ref h4, .ref h5, .ref h6, .ref h7])), (h6, .inr (4, [.ref h18, .ref h19, .ref h20, .int (-1), .int (-1), .ref h21, .ref h22, .ref h23, .ref h24, .ref h25])), (h21, .inl (a3, 12, .inr (.inr (.inr (.inr g1))))), (h1, .inl (a0, 6, .inr (.inr (.inr (.inr g0)))))] s.heap A s.heap [] := ⟨_, Wd⟩
  refine k_locals (Nat.le_of_ble_eq_true rfl) [(0, .ref h0), (1, .int x0), (2, .int x1), (3, .int x2), (4, .int x3)] rfl (fun ls hl => ?_)
  refine lv_aload_n C.1 C.2.1 dX11_apply_0 rfl (lv_at hl 0 rfl) ?_
  refine lv_iload_n C.1 C.2.1 dX11_apply_1 rfl (lv_at hl 1 rfl) ?_
  refine k_pq (k_runV (rest := []) C aks Wd cs_X11_165 (kcX11_ruleAt l D h0 h1 h2 h3 h4 h5 h6 h7 h18 h19 h20 h21 h22 h23 h24 h25 x0 g1 a3 _ ) [0, 1, 2] rfl (by decide) [1] rfl 0 11 rfl rfl rfl rfl rfl ⟨(Nat.le_of_ble_eq_true rfl), (Nat.le_of_ble_eq_true rfl)⟩ hl.1 rfl rfl (Nat.le_of_ble_eq_true rfl) ⟨(Nat.le_of_ble_eq_true rfl), (Nat.le_of_ble_eq_true rfl)⟩ dX11_apply_2) (fun r w3313 => ?_)
  rcases w3313 with ⟨c3314, rfl⟩ | ⟨c3315, c3316, rfl⟩
  · refine W.eq (g2 := F0 m 5 ls [.null]) rfl ?_
    refine lv_astoreN (lv' := [(5, .null), (0, .ref h0), (1, .int x0), (2, .int x1), (3, .int x2), (4, .int x3)]) C.1 C.2.1 dX11_apply_5 hl (by decide) rfl (fun ls hl => ?_)
    refine lv_aload_n C.1 C.2.1 dX11_apply_7 rfl (lv_at hl 1 rfl) ?_
    refine lv_iload_n C.1 C.2.1 dX11_apply_8 rfl (lv_at hl 3 rfl) ?_
    refine k_pq (k_runV (rest := []) C aks Wd cs_X11_77 (kcX11_slotAt l D h0 h1 h2 h3 h4 h5 h6 h7 x1 g0 a0 _ ) [0, 3] rfl (by decide) [0] rfl 0 11 rfl rfl rfl rfl rfl ⟨(Nat.le_of_ble_eq_true rfl), (Nat.le_of_ble_eq_true rfl)⟩ hl.1 rfl rfl (Nat.le_of_ble_eq_true rfl) ⟨(Nat.le_of_ble_eq_true rfl), (Nat.le_of_ble_eq_true rfl)⟩ dX11_apply_9) (fun r w3317 => ?_)
    rcases w3317 with ⟨c3318, rfl⟩ | ⟨c3319, c3320, rfl⟩ | ⟨c3321, c3322, rfl⟩
    · refine W.eq (g2 := F0 m 12 ls [.null]) rfl ?_
      refine lv_astoreN (lv' := [(6, .null), (5, .null), (0, .ref h0), (1, .int x0), (2, .int x1), (3, .int x2), (4, .int x3)]) C.1 C.2.1 dX11_apply_12 hl (by decide) rfl (fun ls hl => ?_)
      refine lv_aload_n C.1 C.2.1 dX11_apply_14 rfl (lv_at hl 2 rfl) ?_
      refine lv_iload C.1 C.2.1 dX11_apply_15 (lv_at hl 6 rfl) ?_
      refine k_pq (k_runV (rest := []) C aks Wd cs_X11_77 (kcX11_slotAt l D h0 h1 h2 h3 h4 h5 h6 h7 x3 g0 a0 _ ) [0, 3] rfl (by decide) [0] rfl 0 11 rfl rfl rfl rfl rfl ⟨(Nat.le_of_ble_eq_true rfl), (Nat.le_of_ble_eq_true rfl)⟩ hl.1 rfl rfl (Nat.le_of_ble_eq_true rfl) ⟨(Nat.le_of_ble_eq_true rfl), (Nat.le_of_ble_eq_true rfl)⟩ dX11_apply_17) (fun r w3323 => ?_)
      rcases w3323 with ⟨c3324, rfl⟩ | ⟨c3325, c3326, rfl⟩ | ⟨c3327, c3328, rfl⟩
      · refine W.eq (g2 := F0 m 20 ls [.null]) rfl ?_
        refine lv_astoreN (lv' := [(7, .null), (6, .null), (5, .null), (0, .ref h0), (1, .int x0), (2, .int x1), (3, .int x2), (4, .int x3)]) C.1 C.2.1 dX11_apply_20 hl (by decide) rfl (fun ls hl => ?_)
        refine lv_aloadN C.1 C.2.1 dX11_apply_22 (lv_at hl 2 rfl) ?_
        refine lv_ifnullN (tgt := 37) C.1 C.2.1 dX11_apply_24 (by decide) ?_
        refine lv_iconst (v := 0) C.1 C.2.1 dX11_apply_37 (by decide) ?_
        exact k_zretP C hr hlk rfl (Or.inl (⟨c3314, c3318, c3324, rfl⟩)) dX11_apply_38
      · refine W.eq (g2 := F0 m 20 ls [.null]) rfl ?_
        refine lv_astoreN (lv' := [(7, .null), (6, .null), (5, .null), (0, .ref h0), (1, .int x0), (2, .int x1), (3, .int x2), (4, .int x3)]) C.1 C.2.1 dX11_apply_20 hl (by decide) rfl (fun ls hl => ?_)
        refine lv_aloadN C.1 C.2.1 dX11_apply_22 (lv_at hl 2 rfl) ?_
        refine lv_ifnullN (tgt := 37) C.1 C.2.1 dX11_apply_24 (by decide) ?_
        refine lv_iconst (v := 0) C.1 C.2.1 dX11_apply_37 (by decide) ?_
        exact k_zretP C hr hlk rfl (Or.inr (Or.inl (⟨c3314, c3318, c3325, c3326, rfl⟩))) dX11_apply_38
      · cases hq3329 : (g0 x3.toNatClampNeg) with
        | none =>
          refine W.eq (g2 := F0 m 20 ls [.null]) rfl ?_
          refine lv_astoreN (lv' := [(7, .null), (6, .null), (5, .null), (0, .ref h0), (1, .int x0), (2, .int x1), (3, .int x2), (4, .int x3)]) C.1 C.2.1 dX11_apply_20 hl (by decide) rfl (fun ls hl => ?_)
          refine lv_aloadN C.1 C.2.1 dX11_apply_22 (lv_at hl 2 rfl) ?_
          refine lv_ifnullN (tgt := 37) C.1 C.2.1 dX11_apply_24 (by decide) ?_
          refine lv_iconst (v := 0) C.1 C.2.1 dX11_apply_37 (by decide) ?_
          exact k_zretP C hr hlk rfl (Or.inr (Or.inr (Or.inl (⟨c3314, c3318, c3327, c3328, rfl⟩)))) dX11_apply_38
        | some q3330 =>
          refine W.eq (g2 := F0 m 20 ls [.ref q3330]) rfl ?_
          refine lv_astore (lv' := [(7, .ref q3330), (6, .null), (5, .null), (0, .ref h0), (1, .int x0), (2, .int x1), (3, .int x2), (4, .int x3)]) C.1 C.2.1 dX11_apply_20 hl (by decide) rfl (fun ls hl => ?_)
          refine lv_aloadN C.1 C.2.1 dX11_apply_22 (lv_at hl 2 rfl) ?_
          refine lv_ifnullN (tgt := 37) C.1 C.2.1 dX11_apply_24 (by decide) ?_
          refine lv_iconst (v := 0) C.1 C.2.1 dX11_apply_37 (by decide) ?_
          exact k_zretP C hr hlk rfl (Or.inr (Or.inr (Or.inr (Or.inl (⟨c3314, c3318, c3327, c3328, rfl⟩))))) dX11_apply_38
    · refine W.eq (g2 := F0 m 12 ls [.null]) rfl ?_
      refine lv_astoreN (lv' := [(6, .null), (5, .null), (0, .ref h0), (1, .int x0), (2, .int x1), (3, .int x2), (4, .int x3)]) C.1 C.2.1 dX11_apply_12 hl (by decide) rfl (fun ls hl => ?_)
      refine lv_aload_n C.1 C.2.1 dX11_apply_14 rfl (lv_at hl 2 rfl) ?_
      refine lv_iload C.1 C.2.1 dX11_apply_15 (lv_at hl 6 rfl) ?_
      refine k_pq (k_runV (rest := []) C aks Wd cs_X11_77 (kcX11_slotAt l D h0 h1 h2 h3 h4 h5 h6 h7 x3 g0 a0 _ ) [0, 3] rfl (by decide) [0] rfl 0 11 rfl rfl rfl rfl rfl ⟨(Nat.le_of_ble_eq_true rfl), (Nat.le_of_ble_eq_true rfl)⟩ hl.1 rfl rfl (Nat.le_of_ble_eq_true rfl) ⟨(Nat.le_of_ble_eq_true rfl), (Nat.le_of_ble_eq_true rfl)⟩ dX11_apply_17) (fun r w3331 => ?_)
      rcases w3331 with ⟨c3332, rfl⟩ | ⟨c3333, c3334, rfl⟩ | ⟨c3335, c3336, rfl⟩
      · refine W.eq (g2 := F0 m 20 ls [.null]) rfl ?_
        refine lv_astoreN (lv' := [(7, .null), (6, .null), (5, .null), (0, .ref h0), (1, .int x0), (2, .int x1), (3, .int x2), (4, .int x3)]) C.1 C.2.1 dX11_apply_20 hl (by decide) rfl (fun ls hl => ?_)
        refine lv_aloadN C.1 C.2.1 dX11_apply_22 (lv_at hl 2 rfl) ?_
        refine lv_ifnullN (tgt := 37) C.1 C.2.1 dX11_apply_24 (by decide) ?_
        refine lv_iconst (v := 0) C.1 C.2.1 dX11_apply_37 (by decide) ?_
        exact k_zretP C hr hlk rfl (Or.inr (Or.inr (Or.inr (Or.inr (Or.inl (⟨c3314, c3319, c3320, c3332, rfl⟩)))))) dX11_apply_38
      · refine W.eq (g2 := F0 m 20 ls [.null]) rfl ?_
        refine lv_astoreN (lv' := [(7, .null), (6, .null), (5, .null), (0, .ref h0), (1, .int x0), (2, .int x1), (3, .int x2), (4, .int x3)]) C.1 C.2.1 dX11_apply_20 hl (by decide) rfl (fun ls hl => ?_)
        refine lv_aloadN C.1 C.2.1 dX11_apply_22 (lv_at hl 2 rfl) ?_
        refine lv_ifnullN (tgt := 37) C.1 C.2.1 dX11_apply_24 (by decide) ?_
        refine lv_iconst (v := 0) C.1 C.2.1 dX11_apply_37 (by decide) ?_
        exact k_zretP C hr hlk rfl (Or.inr (Or.inr (Or.inr (Or.inr (Or.inr (Or.inl (⟨c3314, c3319, c3320, c3333, c3334, rfl⟩))))))) dX11_apply_38
      · cases hq3337 : (g0 x3.toNatClampNeg) with
        | none =>
          refine W.eq (g2 := F0 m 20 ls [.null]) rfl ?_
          refine lv_astoreN (lv' := [(7, .null), (6, .null), (5, .null), (0, .ref h0), (1, .int x0), (2, .int x1), (3, .int x2), (4, .int x3)]) C.1 C.2.1 dX11_apply_20 hl (by decide) rfl (fun ls hl => ?_)
          refine lv_aloadN C.1 C.2.1 dX11_apply_22 (lv_at hl 2 rfl) ?_
          refine lv_ifnullN (tgt := 37) C.1 C.2.1 dX11_apply_24 (by decide) ?_
          refine lv_iconst (v := 0) C.1 C.2.1 dX11_apply_37 (by decide) ?_
          exact k_zretP C hr hlk rfl (Or.inr (Or.inr (Or.inr (Or.inr (Or.inr (Or.inr (Or.inl (⟨c3314, c3319, c3320, c3335, c3336, rfl⟩)))))))) dX11_apply_38
        | some q3338 =>
          refine W.eq (g2 := F0 m 20 ls [.ref q3338]) rfl ?_
          refine lv_astore (lv' := [(7, .ref q3338), (6, .null), (5, .null), (0, .ref h0), (1, .int x0), (2, .int x1), (3, .int x2), (4, .int x3)]) C.1 C.2.1 dX11_apply_20 hl (by decide) rfl (fun ls hl => ?_)
          refine lv_aloadN C.1 C.2.1 dX11_apply_22 (lv_at hl 2 rfl) ?_
          refine lv_ifnullN (tgt := 37) C.1 C.2.1 dX11_apply_24 (by decide) ?_
          refine lv_iconst (v := 0) C.1 C.2.1 dX11_apply_37 (by decide) ?_
          exact k_zretP C hr hlk rfl (Or.inr (Or.inr (Or.inr (Or.inr (Or.inr (Or.inr (Or.inr (Or.inl (⟨c3314, c3319, c3320, c3335, c3336, rfl⟩))))))))) dX11_apply_38
    · cases hq3339 : (g0 x1.toNatClampNeg) with
      | none =>
        refine W.eq (g2 := F0 m 12 ls [.null]) rfl ?_
        refine lv_astoreN (lv' := [(6, .null), (5, .null), (0, .ref h0), (1, .int x0), (2, .int x1), (3, .int x2), (4, .int x3)]) C.1 C.2.1 dX11_apply_12 hl (by decide) rfl (fun ls hl => ?_)
        refine lv_aload_n C.1 C.2.1 dX11_apply_14 rfl (lv_at hl 2 rfl) ?_
        refine lv_iload C.1 C.2.1 dX11_apply_15 (lv_at hl 6 rfl) ?_
        refine k_pq (k_runV (rest := []) C aks Wd cs_X11_77 (kcX11_slotAt l D h0 h1 h2 h3 h4 h5 h6 h7 x3 g0 a0 _ ) [0, 3] rfl (by decide) [0] rfl 0 11 rfl rfl rfl rfl rfl ⟨(Nat.le_of_ble_eq_true rfl), (Nat.le_of_ble_eq_true rfl)⟩ hl.1 rfl rfl (Nat.le_of_ble_eq_true rfl) ⟨(Nat.le_of_ble_eq_true rfl), (Nat.le_of_ble_eq_true rfl)⟩ dX11_apply_17) (fun r w3341 => ?_)
        rcases w3341 with ⟨c3342, rfl⟩ | ⟨c3343, c3344, rfl⟩ | ⟨c3345, c3346, rfl⟩
        · refine W.eq (g2 := F0 m 20 ls [.null]) rfl ?_
          refine lv_astoreN (lv' := [(7, .null), (6, .null), (5, .null), (0, .ref h0), (1, .int x0), (2, .int x1), (3, .int x2), (4, .int x3)]) C.1 C.2.1 dX11_apply_20 hl (by decide) rfl (fun ls hl => ?_)
          refine lv_aloadN C.1 C.2.1 dX11_apply_22 (lv_at hl 2 rfl) ?_
          refine lv_ifnullN (tgt := 37) C.1 C.2.1 dX11_apply_24 (by decide) ?_
          refine lv_iconst (v := 0) C.1 C.2.1 dX11_apply_37 (by decide) ?_
          exact k_zretP C hr hlk rfl (Or.inr (Or.inr (Or.inr (Or.inr (Or.inr (Or.inr (Or.inr (Or.inr (Or.inl (⟨c3314, c3321, c3322, c3342, rfl⟩)))))))))) dX11_apply_38
        · refine W.eq (g2 := F0 m 20 ls [.null]) rfl ?_
          refine lv_astoreN (lv' := [(7, .null), (6, .null), (5, .null), (0, .ref h0), (1, .int x0), (2, .int x1), (3, .int x2), (4, .int x3)]) C.1 C.2.1 dX11_apply_20 hl (by decide) rfl (fun ls hl => ?_)
          refine lv_aloadN C.1 C.2.1 dX11_apply_22 (lv_at hl 2 rfl) ?_
          refine lv_ifnullN (tgt := 37) C.1 C.2.1 dX11_apply_24 (by decide) ?_
          refine lv_iconst (v := 0) C.1 C.2.1 dX11_apply_37 (by decide) ?_
          exact k_zretP C hr hlk rfl (Or.inr (Or.inr (Or.inr (Or.inr (Or.inr (Or.inr (Or.inr (Or.inr (Or.inr (Or.inl (⟨c3314, c3321, c3322, c3343, c3344, rfl⟩))))))))))) dX11_apply_38
        · cases hq3347 : (g0 x3.toNatClampNeg) with
          | none =>
            refine W.eq (g2 := F0 m 20 ls [.null]) rfl ?_
            refine lv_astoreN (lv' := [(7, .null), (6, .null), (5, .null), (0, .ref h0), (1, .int x0), (2, .int x1), (3, .int x2), (4, .int x3)]) C.1 C.2.1 dX11_apply_20 hl (by decide) rfl (fun ls hl => ?_)
            refine lv_aloadN C.1 C.2.1 dX11_apply_22 (lv_at hl 2 rfl) ?_
            refine lv_ifnullN (tgt := 37) C.1 C.2.1 dX11_apply_24 (by decide) ?_
            refine lv_iconst (v := 0) C.1 C.2.1 dX11_apply_37 (by decide) ?_
            exact k_zretP C hr hlk rfl (Or.inr (Or.inr (Or.inr (Or.inr (Or.inr (Or.inr (Or.inr (Or.inr (Or.inr (Or.inr (Or.inl (⟨c3314, c3321, c3322, c3345, c3346, rfl⟩)))))))))))) dX11_apply_38
          | some q3348 =>
            refine W.eq (g2 := F0 m 20 ls [.ref q3348]) rfl ?_
            refine lv_astore (lv' := [(7, .ref q3348), (6, .null), (5, .null), (0, .ref h0), (1, .int x0), (2, .int x1), (3, .int x2), (4, .int x3)]) C.1 C.2.1 dX11_apply_20 hl (by decide) rfl (fun ls hl => ?_)
            refine lv_aloadN C.1 C.2.1 dX11_apply_22 (lv_at hl 2 rfl) ?_
            refine lv_ifnullN (tgt := 37) C.1 C.2.1 dX11_apply_24 (by decide) ?_
            refine lv_iconst (v := 0) C.1 C.2.1 dX11_apply_37 (by decide) ?_
            exact k_zretP C hr hlk rfl (Or.inr (Or.inr (Or.inr (Or.inr (Or.inr (Or.inr (Or.inr (Or.inr (Or.inr (Or.inr (Or.inr (Or.inl (⟨c3314, c3321, c3322, c3345, c3346, rfl⟩))))))))))))) dX11_apply_38
      | some q3340 =>
        refine W.eq (g2 := F0 m 12 ls [.ref q3340]) rfl ?_
        refine lv_astore (lv' := [(6, .ref q3340), (5, .null), (0, .ref h0), (1, .int x0), (2, .int x1), (3, .int x2), (4, .int x3)]) C.1 C.2.1 dX11_apply_12 hl (by decide) rfl (fun ls hl => ?_)
        refine lv_aload_n C.1 C.2.1 dX11_apply_14 rfl (lv_at hl 2 rfl) ?_
        refine lv_iload C.1 C.2.1 dX11_apply_15 (lv_at hl 6 rfl) ?_
        refine k_pq (k_runV (rest := []) C aks Wd cs_X11_77 (kcX11_slotAt l D h0 h1 h2 h3 h4 h5 h6 h7 x3 g0 a0 _ ) [0, 3] rfl (by decide) [0] rfl 0 11 rfl rfl rfl rfl rfl ⟨(Nat.le_of_ble_eq_true rfl), (Nat.le_of_ble_eq_true rfl)⟩ hl.1 rfl rfl (Nat.le_of_ble_eq_true rfl) ⟨(Nat.le_of_ble_eq_true rfl), (Nat.le_of_ble_eq_true rfl)⟩ dX11_apply_17) (fun r w3349 => ?_)
        rcases w3349 with ⟨c3350, rfl⟩ | ⟨c3351, c3352, rfl⟩ | ⟨c3353, c3354, rfl⟩
        · refine W.eq (g2 := F0 m 20 ls [.null]) rfl ?_
          refine lv_astoreN (lv' := [(7, .null), (6, .ref q3340), (5, .null), (0, .ref h0), (1, .int x0), (2, .int x1), (3, .int x2), (4, .int x3)]) C.1 C.2.1 dX11_apply_20 hl (by decide) rfl (fun ls hl => ?_)
          refine lv_aloadN C.1 C.2.1 dX11_apply_22 (lv_at hl 2 rfl) ?_
          refine lv_ifnullN (tgt := 37) C.1 C.2.1 dX11_apply_24 (by decide) ?_
          refine lv_iconst (v := 0) C.1 C.2.1 dX11_apply_37 (by decide) ?_
          exact k_zretP C hr hlk rfl (Or.inr (Or.inr (Or.inr (Or.inr (Or.inr (Or.inr (Or.inr (Or.inr (Or.inr (Or.inr (Or.inr (Or.inr (Or.inl (⟨c3314, c3321, c3322, c3350, rfl⟩)))))))))))))) dX11_apply_38
        · refine W.eq (g2 := F0 m 20 ls [.null]) rfl ?_
          refine lv_astoreN (lv' := [(7, .null), (6, .ref q3340), (5, .null), (0, .ref h0), (1, .int x0), (2, .int x1), (3, .int x2), (4, .int x3)]) C.1 C.2.1 dX11_apply_20 hl (by decide) rfl (fun ls hl => ?_)
          refine lv_aloadN C.1 C.2.1 dX11_apply_22 (lv_at hl 2 rfl) ?_
          refine lv_ifnullN (tgt := 37) C.1 C.2.1 dX11_apply_24 (by decide) ?_
          refine lv_iconst (v := 0) C.1 C.2.1 dX11_apply_37 (by decide) ?_
          exact k_zretP C hr hlk rfl (Or.inr (Or.inr (Or.inr (Or.inr (Or.inr (Or.inr (Or.inr (Or.inr (Or.inr (Or.inr (Or.inr (Or.inr (Or.inr (Or.inl (⟨c3314, c3321, c3322, c3351, c3352, rfl⟩))))))))))))))) dX11_apply_38
        · cases hq3355 : (g0 x3.toNatClampNeg) with
          | none =>
            refine W.eq (g2 := F0 m 20 ls [.null]) rfl ?_
            refine lv_astoreN (lv' := [(7, .null), (6, .ref q3340), (5, .null), (0, .ref h0), (1, .int x0), (2, .int x1), (3, .int x2), (4, .int x3)]) C.1 C.2.1 dX11_apply_20 hl (by decide) rfl (fun ls hl => ?_)
            refine lv_aloadN C.1 C.2.1 dX11_apply_22 (lv_at hl 2 rfl) ?_
            refine lv_ifnullN (tgt := 37) C.1 C.2.1 dX11_apply_24 (by decide) ?_
            refine lv_iconst (v := 0) C.1 C.2.1 dX11_apply_37 (by decide) ?_
            exact k_zretP C hr hlk rfl (Or.inr (Or.inr (Or.inr (Or.inr (Or.inr (Or.inr (Or.inr (Or.inr (Or.inr (Or.inr (Or.inr (Or.inr (Or.inr (Or.inr (Or.inl (⟨c3314, c3321, c3322, c3353, c3354, rfl⟩)))))))))))))))) dX11_apply_38
          | some q3356 =>
            refine W.eq (g2 := F0 m 20 ls [.ref q3356]) rfl ?_
            refine lv_astore (lv' := [(7, .ref q3356), (6, .ref q3340), (5, .null), (0, .ref h0), (1, .int x0), (2, .int x1), (3, .int x2), (4, .int x3)]) C.1 C.2.1 dX11_apply_20 hl (by decide) rfl (fun ls hl => ?_)
            refine lv_aloadN C.1 C.2.1 dX11_apply_22 (lv_at hl 2 rfl) ?_
            refine lv_ifnullN (tgt := 37) C.1 C.2.1 dX11_apply_24 (by decide) ?_
            refine lv_iconst (v := 0) C.1 C.2.1 dX11_apply_37 (by decide) ?_
            exact k_zretP C hr hlk rfl (Or.inr (Or.inr (Or.inr (Or.inr (Or.inr (Or.inr (Or.inr (Or.inr (Or.inr (Or.inr (Or.inr (Or.inr (Or.inr (Or.inr (Or.inr (Or.inl (⟨c3314, c3321, c3322, c3353, c3354, rfl⟩))))))))))))))))) dX11_apply_38
  · refine W.eq (g2 := F0 m 5 ls [.null]) rfl ?_
    refine lv_astoreN (lv' := [(5, .null), (0, .ref h0), (1, .int x0), (2, .int x1), (3, .int x2), (4, .int x3)]) C.1 C.2.1 dX11_apply_5 hl (by decide) rfl (fun ls hl => ?_)
    refine lv_aload_n C.1 C.2.1 dX11_apply_7 rfl (lv_at hl 1 rfl) ?_
    refine lv_iload_n C.1 C.2.1 dX11_apply_8 rfl (lv_at hl 3 rfl) ?_
    refine k_pq (k_runV (rest := []) C aks Wd cs_X11_77 (kcX11_slotAt l D h0 h1 h2 h3 h4 h5 h6 h7 x1 g0 a0 _ ) [0, 3] rfl (by decide) [0] rfl 0 11 rfl rfl rfl rfl rfl ⟨(Nat.le_of_ble_eq_true rfl), (Nat.le_of_ble_eq_true rfl)⟩ hl.1 rfl rfl (Nat.le_of_ble_eq_true rfl) ⟨(Nat.le_of_ble_eq_true rfl), (Nat.le_of_ble_eq_true rfl)⟩ dX11_apply_9) (fun r w3357 => ?_)
    rcases w3357 with ⟨c3358, rfl⟩ | ⟨c3359, c3360, rfl⟩ | ⟨c3361, c3362, rfl⟩
    · refine W.eq (g2 := F0 m 12 ls [.null]) rfl ?_
      refine lv_astoreN (lv' := [(6, .null), (5, .null), (0, .ref h0), (1, .int x0), (2, .int x1), (3, .int x2), (4, .int x3)]) C.1 C.2.1 dX11_apply_12 hl (by decide) rfl (fun ls hl => ?_)
      refine lv_aload_n C.1 C.2.1 dX11_apply_14 rfl (lv_at hl 2 rfl) ?_
      refine lv_iload C.1 C.2.1 dX11_apply_15 (lv_at hl 6 rfl) ?_
      refine k_pq (k_runV (rest := []) C aks Wd cs_X11_77 (kcX11_slotAt l D h0 h1 h2 h3 h4 h5 h6 h7 x3 g0 a0 _ ) [0, 3] rfl (by decide) [0] rfl 0 11 rfl rfl rfl rfl rfl ⟨(Nat.le_of_ble_eq_true rfl), (Nat.le_of_ble_eq_true rfl)⟩ hl.1 rfl rfl (Nat.le_of_ble_eq_true rfl) ⟨(Nat.le_of_ble_eq_true rfl), (Nat.le_of_ble_eq_true rfl)⟩ dX11_apply_17) (fun r w3363 => ?_)
      rcases w3363 with ⟨c3364, rfl⟩ | ⟨c3365, c3366, rfl⟩ | ⟨c3367, c3368, rfl⟩
      · refine W.eq (g2 := F0 m 20 ls [.null]) rfl ?_
        refine lv_astoreN (lv' := [(7, .null), (6, .null), (5, .null), (0, .ref h0), (1, .int x0), (2, .int x1), (3, .int x2), (4, .int x3)]) C.1 C.2.1 dX11_apply_20 hl (by decide) rfl (fun ls hl => ?_)
        refine lv_aloadN C.1 C.2.1 dX11_apply_22 (lv_at hl 2 rfl) ?_
        refine lv_ifnullN (tgt := 37) C.1 C.2.1 dX11_apply_24 (by decide) ?_
        refine lv_iconst (v := 0) C.1 C.2.1 dX11_apply_37 (by decide) ?_
        exact k_zretP C hr hlk rfl (Or.inr (Or.inr (Or.inr (Or.inr (Or.inr (Or.inr (Or.inr (Or.inr (Or.inr (Or.inr (Or.inr (Or.inr (Or.inr (Or.inr (Or.inr (Or.inr (Or.inl (⟨c3315, c3316, c3358, c3364, rfl⟩)))))))))))))))))) dX11_apply_38
      · refine W.eq (g2 := F0 m 20 ls [.null]) rfl ?_
        refine lv_astoreN (lv' := [(7, .null), (6, .null), (5, .null), (0, .ref h0), (1, .int x0), (2, .int x1), (3, .int x2), (4, .int x3)]) C.1 C.2.1 dX11_apply_20 hl (by decide) rfl (fun ls hl => ?_)
        refine lv_aloadN C.1 C.2.1 dX11_apply_22 (lv_at hl 2 rfl) ?_
        refine lv_ifnullN (tgt := 37) C.1 C.2.1 dX11_apply_24 (by decide) ?_
        refine lv_iconst (v := 0) C.1 C.2.1 dX11_apply_37 (by decide) ?_
        exact k_zretP C hr hlk rfl (Or.inr (Or.inr (Or.inr (Or.inr (Or.inr (Or.inr (Or.inr (Or.inr (Or.inr (Or.inr (Or.inr (Or.inr (Or.inr (Or.inr (Or.inr (Or.inr (Or.inr (Or.inl (⟨c3315, c3316, c3358, c3365, c3366, rfl⟩))))))))))))))))))) dX11_apply_38
      · cases hq3369 : (g0 x3.toNatClampNeg) with
        | none =>
          refine W.eq (g2 := F0 m 20 ls [.null]) rfl ?_
          refine lv_astoreN (lv' := [(7, .null), (6, .null), (5, .null), (0, .ref h0), (1, .int x0), (2, .int x1), (3, .int x2), (4, .int x3)]) C.1 C.2.1 dX11_apply_20 hl (by decide) rfl (fun ls hl => ?_)
          refine lv_aloadN C.1 C.2.1 dX11_apply_22 (lv_at hl 2 rfl) ?_
          refine lv_ifnullN (tgt := 37) C.1 C.2.1 dX11_apply_24 (by decide) ?_
          refine lv_iconst (v := 0) C.1 C.2.1 dX11_apply_37 (by decide) ?_
          exact k_zretP C hr hlk rfl (Or.inr (Or.inr (Or.inr (Or.inr (Or.inr (Or.inr (Or.inr (Or.inr (Or.inr (Or.inr (Or.inr (Or.inr (Or.inr (Or.inr (Or.inr (Or.inr (Or.inr (Or.inr (Or.inl (⟨c3315, c3316, c3358, c3367, c3368, rfl⟩)))))))))))))))))))) dX11_apply_38
        | some q3370 =>
          refine W.eq (g2 := F0 m 20 ls [.ref q3370]) rfl ?_
          refine lv_astore (lv' := [(7, .ref q3370), (6, .null), (5, .null), (0, .ref h0), (1, .int x0), (2, .int x1), (3, .int x2), (4, .int x3)]) C.1 C.2.1 dX11_apply_20 hl (by decide) rfl (fun ls hl => ?_)
          refine lv_aloadN C.1 C.2.1 dX11_apply_22 (lv_at hl 2 rfl) ?_
          refine lv_ifnullN (tgt := 37) C.1 C.2.1 dX11_apply_24 (by decide) ?_
          refine lv_iconst (v := 0) C.1 C.2.1 dX11_apply_37 (by decide) ?_
          exact k_zretP C hr hlk rfl (Or.inr (Or.inr (Or.inr (Or.inr (Or.inr (Or.inr (Or.inr (Or.inr (Or.inr (Or.inr (Or.inr (Or.inr (Or.inr (Or.inr (Or.inr (Or.inr (Or.inr (Or.inr (Or.inr (Or.inl (⟨c3315, c3316, c3358, c3367, c3368, rfl⟩))))))))))))))))))))) dX11_apply_38
    · refine W.eq (g2 := F0 m 12 ls [.null]) rfl ?_
      refine lv_astoreN (lv' := [(6, .null), (5, .null), (0, .ref h0), (1, .int x0), (2, .int x1), (3, .int x2), (4, .int x3)]) C.1 C.2.1 dX11_apply_12 hl (by decide) rfl (fun ls hl => ?_)
      refine lv_aload_n C.1 C.2.1 dX11_apply_14 rfl (lv_at hl 2 rfl) ?_
      refine lv_iload C.1 C.2.1 dX11_apply_15 (lv_at hl 6 rfl) ?_
      refine k_pq (k_runV (rest := []) C aks Wd cs_X11_77 (kcX11_slotAt l D h0 h1 h2 h3 h4 h5 h6 h7 x3 g0 a0 _ ) [0, 3] rfl (by decide) [0] rfl 0 11 rfl rfl rfl rfl rfl ⟨(Nat.le_of_ble_eq_true rfl), (Nat.le_of_ble_eq_true rfl)⟩ hl.1 rfl rfl (Nat.le_of_ble_eq_true rfl) ⟨(Nat.le_of_ble_eq_true rfl), (Nat.le_of_ble_eq_true rfl)⟩ dX11_apply_17) (fun r w3371 => ?_)
      rcases w3371 with ⟨c3372, rfl⟩ | ⟨c3373, c3374, rfl⟩ | ⟨c3375, c3376, rfl⟩
      · refine W.eq (g2 := F0 m 20 ls [.null]) rfl ?_
        refine lv_astoreN (lv' := [(7, .null), (6, .null), (5, .null), (0, .ref h0), (1, .int x0), (2, .int x1), (3, .int x2), (4, .int x3)]) C.1 C.2.1 dX11_apply_20 hl (by decide) rfl (fun ls hl => ?_)
        refine lv_aloadN C.1 C.2.1 dX11_apply_22 (lv_at hl 2 rfl) ?_
        refine lv_ifnullN (tgt := 37) C.1 C.2.1 dX11_apply_24 (by decide) ?_
        refine lv_iconst (v := 0) C.1 C.2.1 dX11_apply_37 (by decide) ?_
        exact k_zretP C hr hlk rfl (Or.inr (Or.inr (Or.inr (Or.inr (Or.inr (Or.inr (Or.inr (Or.inr (Or.inr (Or.inr (Or.inr (Or.inr (Or.inr (Or.inr (Or.inr (Or.inr (Or.inr (Or.inr (Or.inr (Or.inr (Or.inl (⟨c3315, c3316, c3359, c3360, c3372, rfl⟩)))))))))))))))))))))) dX11_apply_38
      · refine W.eq (g2 := F0 m 20 ls [.null]) rfl ?_
        refine lv_astoreN (lv' := [(7, .null), (6, .null), (5, .null), (0, .ref h0), (1, .int x0), (2, .int x1), (3, .int x2), (4, .int x3)]) C.1 C.2.1 dX11_apply_20 hl (by decide) rfl (fun ls hl => ?_)
        refine lv_aloadN C.1 C.2.1 dX11_apply_22 (lv_at hl 2 rfl) ?_
        refine lv_ifnullN (tgt := 37) C.1 C.2.1 dX11_apply_24 (by decide) ?_
        refine lv_iconst (v := 0) C.1 C.2.1 dX11_apply_37 (by decide) ?_
        exact k_zretP C hr hlk rfl (Or.inr (Or.inr (Or.inr (Or.inr (Or.inr (Or.inr (Or.inr (Or.inr (Or.inr (Or.inr (Or.inr (Or.inr (Or.inr (Or.inr (Or.inr (Or.inr (Or.inr (Or.inr (Or.inr (Or.inr (Or.inr (Or.inl (⟨c3315, c3316, c3359, c3360, c3373, c3374, rfl⟩))))))))))))))))))))))) dX11_apply_38
      · cases hq3377 : (g0 x3.toNatClampNeg) with
        | none =>
          refine W.eq (g2 := F0 m 20 ls [.null]) rfl ?_
          refine lv_astoreN (lv' := [(7, .null), (6, .null), (5, .null), (0, .ref h0), (1, .int x0), (2, .int x1), (3, .int x2), (4, .int x3)]) C.1 C.2.1 dX11_apply_20 hl (by decide) rfl (fun ls hl => ?_)
          refine lv_aloadN C.1 C.2.1 dX11_apply_22 (lv_at hl 2 rfl) ?_
          refine lv_ifnullN (tgt := 37) C.1 C.2.1 dX11_apply_24 (by decide) ?_
          refine lv_iconst (v := 0) C.1 C.2.1 dX11_apply_37 (by decide) ?_
          exact k_zretP C hr hlk rfl (Or.inr (Or.inr (Or.inr (Or.inr (Or.inr (Or.inr (Or.inr (Or.inr (Or.inr (Or.inr (Or.inr (Or.inr (Or.inr (Or.inr (Or.inr (Or.inr (Or.inr (Or.inr (Or.inr (Or.inr (Or.inr (Or.inr (Or.inl (⟨c3315, c3316, c3359, c3360, c3375, c3376, rfl⟩)))))))))))))))))))))))) dX11_apply_38
        | some q3378 =>
          refine W.eq (g2 := F0 m 20 ls [.ref q3378]) rfl ?_
          refine lv_astore (lv' := [(7, .ref q3378), (6, .null), (5, .null), (0, .ref h0), (1, .int x0), (2, .int x1), (3, .int x2), (4, .int x3)]) C.1 C.2.1 dX11_apply_20 hl (by decide) rfl (fun ls hl => ?_)
          refine lv_aloadN C.1 C.2.1 dX11_apply_22 (lv_at hl 2 rfl) ?_
          refine lv_ifnullN (tgt := 37) C.1 C.2.1 dX11_apply_24 (by decide) ?_
          refine lv_iconst (v := 0) C.1 C.2.1 dX11_apply_37 (by decide) ?_
          exact k_zretP C hr hlk rfl (Or.inr (Or.inr (Or.inr (Or.inr (Or.inr (Or.inr (Or.inr (Or.inr (Or.inr (Or.inr (Or.inr (Or.inr (Or.inr (Or.inr (Or.inr (Or.inr (Or.inr (Or.inr (Or.inr (Or.inr (Or.inr (Or.inr (Or.inr (Or.inl (⟨c3315, c3316, c3359, c3360, c3375, c3376, rfl⟩))))))))))))))))))))))))) dX11_apply_38
    · cases hq3379 : (g0 x1.toNatClampNeg) with
      | none =>
        refine W.eq (g2 := F0 m 12 ls [.null]) rfl ?_
        refine lv_astoreN (lv' := [(6, .null), (5, .null), (0, .ref h0), (1, .int x0), (2, .int x1), (3, .int x2), (4, .int x3)]) C.1 C.2.1 dX11_apply_12 hl (by decide) rfl (fun ls hl => ?_)
        refine lv_aload_n C.1 C.2.1 dX11_apply_14 rfl (lv_at hl 2 rfl) ?_
        refine lv_iload C.1 C.2.1 dX11_apply_15 (lv_at hl 6 rfl) ?_
        refine k_pq (k_runV (rest := []) C aks Wd cs_X11_77 (kcX11_slotAt l D h0 h1 h2 h3 h4 h5 h6 h7 x3 g0 a0 _ ) [0, 3] rfl (by decide) [0] rfl 0 11 rfl rfl rfl rfl rfl ⟨(Nat.le_of_ble_eq_true rfl), (Nat.le_of_ble_eq_true rfl)⟩ hl.1 rfl rfl (Nat.le_of_ble_eq_true rfl) ⟨(Nat.le_of_ble_eq_true rfl), (Nat.le_of_ble_eq_true rfl)⟩ dX11_apply_17) (fun r w3381 => ?_)
        rcases w3381 with ⟨c3382, rfl⟩ | ⟨c3383, c3384, rfl⟩ | ⟨c3385, c3386, rfl⟩
        · refine W.eq (g2 := F0 m 20 ls [.null]) rfl ?_
          refine lv_astoreN (lv' := [(7, .null), (6, .null), (5, .null), (0, .ref h0), (1, .int x0), (2, .int x1), (3, .int x2), (4, .int x3)]) C.1 C.2.1 dX11_apply_20 hl (by decide) rfl (fun ls hl => ?_)
          refine lv_aloadN C.1 C.2.1 dX11_apply_22 (lv_at hl 2 rfl) ?_
          refine lv_ifnullN (tgt := 37) C.1 C.2.1 dX11_apply_24 (by decide) ?_
          refine lv_iconst (v := 0) C.1 C.2.1 dX11_apply_37 (by decide) ?_
          exact k_zretP C hr hlk rfl (Or.inr (Or.inr (Or.inr (Or.inr (Or.inr (Or.inr (Or.inr (Or.inr (Or.inr (Or.inr (Or.inr (Or.inr (Or.inr (Or.inr (Or.inr (Or.inr (Or.inr (Or.inr (Or.inr (Or.inr (Or.inr (Or.inr (Or.inr (Or.inr (Or.inl (⟨c3315, c3316, c3361, c3362, c3382, rfl⟩)))))))))))))))))))))))))) dX11_apply_38
        · refine W.eq (g2 := F0 m 20 ls [.null]) rfl ?_
          refine lv_astoreN (lv' := [(7, .null), (6, .null), (5, .null), (0, .ref h0), (1, .int x0), (2, .int x1), (3, .int x2), (4, .int x3)]) C.1 C.2.1 dX11_apply_20 hl (by decide) rfl (fun ls hl => ?_)
          refine lv_aloadN C.1 C.2.1 dX11_apply_22 (lv_at hl 2 rfl) ?_
          refine lv_ifnullN (tgt := 37) C.1 C.2.1 dX11_apply_24 (by decide) ?_
          refine lv_iconst (v := 0) C.1 C.2.1 dX11_apply_37 (by decide) ?_
          exact k_zretP C hr hlk rfl (Or.inr (Or.inr (Or.inr (Or.inr (Or.inr (Or.inr (Or.inr (Or.inr (Or.inr (Or.inr (Or.inr (Or.inr (Or.inr (Or.inr (Or.inr (Or.inr (Or.inr (Or.inr (Or.inr (Or.inr (Or.inr (Or.inr (Or.inr (Or.inr (Or.inr (Or.inl (⟨c3315, c3316, c3361, c3362, c3383, c3384, rfl⟩))))))))))))))))))))))))))) dX11_apply_38
        · cases hq3387 : (g0 x3.toNatClampNeg) with
          | none =>
            refine W.eq (g2 := F0 m 20 ls [.null]) rfl ?_
            refine lv_astoreN (lv' := [(7, .null), (6, .null), (5, .null), (0, .ref h0), (1, .int x0), (2, .int x1), (3, .int x2), (4, .int x3)]) C.1 C.2.1 dX11_apply_20 hl (by decide) rfl (fun ls hl => ?_)
            refine lv_aloadN C.1 C.2.1 dX11_apply_22 (lv_at hl 2 rfl) ?_
            refine lv_ifnullN (tgt := 37) C.1 C.2.1 dX11_apply_24 (by decide) ?_
            refine lv_iconst (v := 0) C.1 C.2.1 dX11_apply_37 (by decide) ?_
            exact k_zretP C hr hlk rfl (Or.inr (Or.inr (Or.inr (Or.inr (Or.inr (Or.inr (Or.inr (Or.inr (Or.inr (Or.inr (Or.inr (Or.inr (Or.inr (Or.inr (Or.inr (Or.inr (Or.inr (Or.inr (Or.inr (Or.inr (Or.inr (Or.inr (Or.inr (Or.inr (Or.inr (Or.inr (Or.inl (⟨c3315, c3316, c3361, c3362, c3385, c3386, rfl⟩)))))))))))))))))))))))))))) dX11_apply_38
          | some q3388 =>
            refine W.eq (g2 := F0 m 20 ls [.ref q3388]) rfl ?_
            refine lv_astore (lv' := [(7, .ref q3388), (6, .null), (5, .null), (0, .ref h0), (1, .int x0), (2, .int x1), (3, .int x2), (4, .int x3)]) C.1 C.2.1 dX11_apply_20 hl (by decide) rfl (fun ls hl => ?_)
            refine lv_aloadN C.1 C.2.1 dX11_apply_22 (lv_at hl 2 rfl) ?_
            refine lv_ifnullN (tgt := 37) C.1 C.2.1 dX11_apply_24 (by decide) ?_
            refine lv_iconst (v := 0) C.1 C.2.1 dX11_apply_37 (by decide) ?_
            exact k_zretP C hr hlk rfl (Or.inr (Or.inr (Or.inr (Or.inr (Or.inr (Or.inr (Or.inr (Or.inr (Or.inr (Or.inr (Or.inr (Or.inr (Or.inr (Or.inr (Or.inr (Or.inr (Or.inr (Or.inr (Or.inr (Or.inr (Or.inr (Or.inr (Or.inr (Or.inr (Or.inr (Or.inr (Or.inr (Or.inl (⟨c3315, c3316, c3361, c3362, c3385, c3386, rfl⟩))))))))))))))))))))))))))))) dX11_apply_38
      | some q3380 =>
        refine W.eq (g2 := F0 m 12 ls [.ref q3380]) rfl ?_
        refine lv_astore (lv' := [(6, .ref q3380), (5, .null), (0, .ref h0), (1, .int x0), (2, .int x1), (3, .int x2), (4, .int x3)]) C.1 C.2.1 dX11_apply_12 hl (by decide) rfl (fun ls hl => ?_)
        refine lv_aload_n C.1 C.2.1 dX11_apply_14 rfl (lv_at hl 2 rfl) ?_
        refine lv_iload C.1 C.2.1 dX11_apply_15 (lv_at hl 6 rfl) ?_
        refine k_pq (k_runV (rest := []) C aks Wd cs_X11_77 (kcX11_slotAt l D h0 h1 h2 h3 h4 h5 h6 h7 x3 g0 a0 _ ) [0, 3] rfl (by decide) [0] rfl 0 11 rfl rfl rfl rfl rfl ⟨(Nat.le_of_ble_eq_true rfl), (Nat.le_of_ble_eq_true rfl)⟩ hl.1 rfl rfl (Nat.le_of_ble_eq_true rfl) ⟨(Nat.le_of_ble_eq_true rfl), (Nat.le_of_ble_eq_true rfl)⟩ dX11_apply_17) (fun r w3389 => ?_)
        rcases w3389 with ⟨c3390, rfl⟩ | ⟨c3391, c3392, rfl⟩ | ⟨c3393, c3394, rfl⟩
        · refine W.eq (g2 := F0 m 20 ls [.null]) rfl ?_
          refine lv_astoreN (lv' := [(7, .null), (6, .ref q3380), (5, .null), (0, .ref h0), (1, .int x0), (2, .int x1), (3, .int x2), (4, .int x3)]) C.1 C.2.1 dX11_apply_20 hl (by decide) rfl (fun ls hl => ?_)
          refine lv_aloadN C.1 C.2.1 dX11_apply_22 (lv_at hl 2 rfl) ?_
          refine lv_ifnullN (tgt := 37) C.1 C.2.1 dX11_apply_24 (by decide) ?_
          refine lv_iconst (v := 0) C.1 C.2.1 dX11_apply_37 (by decide) ?_
          exact k_zretP C hr hlk rfl (Or.inr (Or.inr (Or.inr (Or.inr (Or.inr (Or.inr (Or.inr (Or.inr (Or.inr (Or.inr (Or.inr (Or.inr (Or.inr (Or.inr (Or.inr (Or.inr (Or.inr (Or.inr (Or.inr (Or.inr (Or.inr (Or.inr (Or.inr (Or.inr (Or.inr (Or.inr (Or.inr (Or.inr (Or.inl (⟨c3315, c3316, c3361, c3362, c3390, rfl⟩)))))))))))))))))))))))))))))) dX11_apply_38
        · refine W.eq (g2 := F0 m 20 ls [.null]) rfl ?_
          refine lv_astoreN (lv' := [(7, .null), (6, .ref q3380), (5, .null), (0, .ref h0), (1, .int x0), (2, .int x1), (3, .int x2), (4, .int x3)]) C.1 C.2.1 dX11_apply_20 hl (by decide) rfl (fun ls hl => ?_)
          refine lv_aloadN C.1 C.2.1 dX11_apply_22 (lv_at hl 2 rfl) ?_
          refine lv_ifnullN (tgt := 37) C.1 C.2.1 dX11_apply_24 (by decide) ?_
          refine lv_iconst (v := 0) C.1 C.2.1 dX11_apply_37 (by decide) ?_
          exact k_zretP C hr hlk rfl (Or.inr (Or.inr (Or.inr (Or.inr (Or.inr (Or.inr (Or.inr (Or.inr (Or.inr (Or.inr (Or.inr (Or.inr (Or.inr (Or.inr (Or.inr (Or.inr (Or.inr (Or.inr (Or.inr (Or.inr (Or.inr (Or.inr (Or.inr (Or.inr (Or.inr (Or.inr (Or.inr (Or.inr (Or.inr (Or.inl (⟨c3315, c3316, c3361, c3362, c3391, c3392, rfl⟩))))))))))))))))))))))))))))))) dX11_apply_38
        · cases hq3395 : (g0 x3.toNatClampNeg) with
          | none =>
            refine W.eq (g2 := F0 m 20 ls [.null]) rfl ?_
            refine lv_astoreN (lv' := [(7, .null), (6, .ref q3380), (5, .null), (0, .ref h0), (1, .int x0), (2, .int x1), (3, .int x2), (4, .int x3)]) C.1 C.2.1 dX11_apply_20 hl (by decide) rfl (fun ls hl => ?_)
            refine lv_aloadN C.1 C.2.1 dX11_apply_22 (lv_at hl 2 rfl) ?_
            refine lv_ifnullN (tgt := 37) C.1 C.2.1 dX11_apply_24 (by decide) ?_
            refine lv_iconst (v := 0) C.1 C.2.1 dX11_apply_37 (by decide) ?_
            exact k_zretP C hr hlk rfl (Or.inr (Or.inr (Or.inr (Or.inr (Or.inr (Or.inr (Or.inr (Or.inr (Or.inr (Or.inr (Or.inr (Or.inr (Or.inr (Or.inr (Or.inr (Or.inr (Or.inr (Or.inr (Or.inr (Or.inr (Or.inr (Or.inr (Or.inr (Or.inr (Or.inr (Or.inr (Or.inr (Or.inr (Or.inr (Or.inr (Or.inl (⟨c3315, c3316, c3361, c3362, c3393, c3394, rfl⟩)))))))))))))))))))))))))))))))) dX11_apply_38
          | some q3396 =>
            refine W.eq (g2 := F0 m 20 ls [.ref q3396]) rfl ?_
            refine lv_astore (lv' := [(7, .ref q3396), (6, .ref q3380), (5, .null), (0, .ref h0), (1, .int x0), (2, .int x1), (3, .int x2), (4, .int x3)]) C.1 C.2.1 dX11_apply_20 hl (by decide) rfl (fun ls hl => ?_)
            refine lv_aloadN C.1 C.2.1 dX11_apply_22 (lv_at hl 2 rfl) ?_
            refine lv_ifnullN (tgt := 37) C.1 C.2.1 dX11_apply_24 (by decide) ?_
            refine lv_iconst (v := 0) C.1 C.2.1 dX11_apply_37 (by decide) ?_
            exact k_zretP C hr hlk rfl (Or.inr (Or.inr (Or.inr (Or.inr (Or.inr (Or.inr (Or.inr (Or.inr (Or.inr (Or.inr (Or.inr (Or.inr (Or.inr (Or.inr (Or.inr (Or.inr (Or.inr (Or.inr (Or.inr (Or.inr (Or.inr (Or.inr (Or.inr (Or.inr (Or.inr (Or.inr (Or.inr (Or.inr (Or.inr (Or.inr (Or.inr (⟨c3315, c3316, c3361, c3362, c3393, c3394, rfl⟩)))))))))))))))))))))))))))))))) dX11_apply_38
set_option maxHeartbeats 4000000 in
set_option maxRecDepth 100000 in
theorem kcX4_addItem (l : Launch) (D : va_G) (h0 : Nat) (x0 x1 : Int32) (sz : Nat)  (as0 : x0 < (0 : Int32)) (as1 : ¬ x1 < (0 : Int32)) (as2 : ¬ x1 < (20 : Int32)) (as3 : ¬ (24 : Int32) < x1): Met l yX4_addItem (Cond.code yX4_addItem cX4_addItem 3 (some .int) :: gG) { frames := 2, cells := 0, slots := 0, locals := 84 } (cPre D [] [] sz [.ref h0, .int x0, .int x1]) (vp_Si (fun r => x0 < (0 : Int32) ∧ r = (-1))) 0 0 (fun _ => False) := by
  refine Met.ofW (cc := cX4_addItem) (maxL := 3) (ret := (some .int)) (by decide) rfl ?_
  intro p e s m args below meth c s₁ B hml hv
  obtain ⟨rfl, aks, rfl, Wd⟩ := k_enter hv
  have C : CallFix p m c cX4_addItem 3 s _ gG RX4 := ⟨B.exec, B.bytes, hml, findClass_of_methodNamed B.named, fun w h => atoms_spec (ws := Cond.code yX4_addItem cX4_addItem 3 (some .int) :: gG) B.pre w (List.mem_cons_of_mem _ h)⟩
  have hr := B.returns
  have hlk := B.notSynchronized
  obtain ⟨A, Wd⟩ : ∃ A, wX D [] s [] s.heap A s.heap [] := ⟨_, Wd⟩
  refine k_locals (Nat.le_of_ble_eq_true rfl) [(0, .ref h0), (1, .int x0), (2, .int x1)] rfl (fun ls hl => ?_)
  refine lv_iload_n C.1 C.2.1 dX4_addItem_0 rfl (lv_at hl 1 rfl) ?_
  refine k_pi (k_runS (rest := []) C aks Wd cs_X4_63 (kcX4_isPass l D x0 _ ) [] rfl (by decide) [] rfl rfl rfl ⟨(Nat.le_of_ble_eq_true rfl), (Nat.le_of_ble_eq_true rfl)⟩ hl.1 rfl rfl (Nat.le_of_ble_eq_true rfl) ⟨(Nat.le_of_ble_eq_true rfl), (Nat.le_of_ble_eq_true rfl)⟩ dX4_addItem_1) (fun r w3417 => ?_)
  rcases w3417 with ⟨c3418, rfl⟩ | ⟨c3419, c3420, rfl⟩ | ⟨c3421, c3422, rfl⟩
  · refine lv_if_eq (tgt := 18) C.1 C.2.1 dX4_addItem_4 (by decide) (fun _ => ?_) (fun c3423 => absurd c3423 (by decide))
    refine lv_iconst (v := (-1)) C.1 C.2.1 dX4_addItem_18 (by decide) ?_
    exact k_zretP C hr hlk rfl ⟨c3418, rfl⟩ dX4_addItem_19
  · exact absurd as0 c3419
  · exact absurd as0 c3421
set_option maxHeartbeats 4000000 in
set_option maxRecDepth 100000 in
theorem kcX11_item (l : Launch) (D : va_G) (h0 h1 h2 h3 h4 h5 h6 h7 h24 h25 h26 h27 h28 h29 h30 h31 : Nat) (x0 x1 : Int32) (sz : Nat)  (as0 : x0 < (0 : Int32)): Met l yX11_item (Cond.code yX11_item cX11_item 5 (some .int) :: gG) { frames := 3, cells := 0, slots := 0, locals := 106 } (cPre D [] [(h0, .inr (11, [.ref h1, .int 0, .ref h2, .ref h3, .ref h4, .ref h5, .ref h6, .ref h7])), (h6, .inr (4, [.ref h24, .ref h25, .ref h26, .int (-1), .int (-1), .ref h27, .ref h28, .ref h29, .ref h30, .ref h31]))] sz [.ref h0, .int x0, .int x1]) (vp_Si (fun r => (x1 < (0 : Int32) ∧ r = (-1)) ∨ (¬ x1 < (0 : Int32) ∧ x1 < (20 : Int32) ∧ r = (-1)) ∨ (¬ x1 < (0 : Int32) ∧ ¬ x1 < (20 : Int32) ∧ (24 : Int32) < x1 ∧ r = (-1)) ∨ (¬ x1 < (0 : Int32) ∧ ¬ x1 < (20 : Int32) ∧ ¬ (24 : Int32) < x1 ∧ x0 < (0 : Int32) ∧ r = (-1)))) 0 0 (fun _ => False) := by
  refine Met.ofW (cc := cX11_item) (maxL := 5) (ret := (some .int)) (by decide) rfl ?_
  intro p e s m args below meth c s₁ B hml hv
  obtain ⟨rfl, aks, rfl, Wd⟩ := k_enter hv
  have C : CallFix p m c cX11_item 5 s _ gG RX11 := ⟨B.exec, B.bytes, hml, findClass_of_methodNamed B.named, fun w h => atoms_spec (ws := Cond.code yX11_item cX11_item 5 (some .int) :: gG) B.pre w (List.mem_cons_of_mem _ h)⟩
  have hr := B.returns
  have hlk := B.notSynchronized
  obtain ⟨A, Wd⟩ : ∃ A, wX D [] s [(h0, .inr (11, [.ref h1, .int 0, .ref h2, .ref h3, .ref h4, .ref h5, .ref h6, .ref h7])), (h6, .inr (4, [.ref h24, .ref h25, .ref h26, .int (-1), .int (-1), .ref h27, .ref h28, .ref h29, .ref h30, .ref h31]))] s.heap A s.heap [] := ⟨_, Wd⟩
  refine k_locals (Nat.le_of_ble_eq_true rfl) [(0, .ref h0), (1, .int x0), (2, .int x1)] rfl (fun ls hl => ?_)
  refine lv_iload_n C.1 C.2.1 dX11_item_0 rfl (lv_at hl 2 rfl) ?_
  refine lv_if_lt (tgt := 16) C.1 C.2.1 dX11_item_1 (by decide) (fun c3426 => ?_) (fun c3426 => ?_)
  · refine lv_iconst (v := 0) C.1 C.2.1 dX11_item_16 (by decide) ?_
    refine lv_istore_n (lv' := [(3, .int 0), (0, .ref h0), (1, .int x0), (2, .int x1)]) C.1 C.2.1 dX11_item_17 rfl hl (by decide) rfl (fun ls hl => ?_)
    refine lv_iload_n C.1 C.2.1 dX11_item_18 rfl (lv_at hl 3 rfl) ?_
    refine lv_bipush (v := 20) C.1 C.2.1 dX11_item_19 (by decide) ?_
    refine lv_icmp_lt (tgt := 34) C.1 C.2.1 dX11_item_21 (by decide) (fun _ => ?_) (fun c3427 => False.elim (by have z0 := kz_lt c3426; have z1 := kz_nlt c3427; have t0 : (0 : Int32).toInt = 0 := (by decide); have t20 : (20 : Int32).toInt = 20 := (by decide); omega))
    refine lv_iconst (v := 0) C.1 C.2.1 dX11_item_34 (by decide) ?_
    refine lv_istore (lv' := [(4, .int 0), (3, .int 0), (0, .ref h0), (1, .int x0), (2, .int x1)]) C.1 C.2.1 dX11_item_35 hl (by decide) rfl (fun ls hl => ?_)
    refine lv_iload_n C.1 C.2.1 dX11_item_37 rfl (lv_at hl 1 rfl) ?_
    refine lv_if_ne (tgt := 48) C.1 C.2.1 dX11_item_38 (by decide) (fun c3428 => absurd c3428 (by decide)) (fun _ => ?_)
    refine lv_iload C.1 C.2.1 dX11_item_41 (lv_at hl 0 rfl) ?_
    refine lv_if_ne (tgt := 48) C.1 C.2.1 dX11_item_43 (by decide) (fun c3429 => absurd c3429 (by decide)) (fun _ => ?_)
    refine lv_iconst (v := (-1)) C.1 C.2.1 dX11_item_46 (by decide) ?_
    exact k_zretP C hr hlk rfl (Or.inl (⟨c3426, rfl⟩)) dX11_item_47
  · refine lv_iload_n C.1 C.2.1 dX11_item_4 rfl (lv_at hl 2 rfl) ?_
    refine lv_aload_n C.1 C.2.1 dX11_item_5 rfl (lv_at hl 0 rfl) ?_
    refine k_get C Wd KX11 0 1 rfl (by decide) fl_X11_18 rfl dX11_item_6 ?_
    refine lv_icmp_ge (tgt := 16) C.1 C.2.1 dX11_item_9 (by decide) (fun _ => ?_) (fun c3430 => False.elim (by have z0 := kz_nlt c3426; have z1 := kz_nle c3430; have t0 : (0 : Int32).toInt = 0 := (by decide); omega))
    refine lv_iconst (v := 0) C.1 C.2.1 dX11_item_16 (by decide) ?_
    refine lv_istore_n (lv' := [(3, .int 0), (0, .ref h0), (1, .int x0), (2, .int x1)]) C.1 C.2.1 dX11_item_17 rfl hl (by decide) rfl (fun ls hl => ?_)
    refine lv_iload_n C.1 C.2.1 dX11_item_18 rfl (lv_at hl 3 rfl) ?_
    refine lv_bipush (v := 20) C.1 C.2.1 dX11_item_19 (by decide) ?_
    refine lv_icmp_lt (tgt := 34) C.1 C.2.1 dX11_item_21 (by decide) (fun c3431 => ?_) (fun c3431 => ?_)
    · refine lv_iconst (v := 0) C.1 C.2.1 dX11_item_34 (by decide) ?_
      refine lv_istore (lv' := [(4, .int 0), (3, .int 0), (0, .ref h0), (1, .int x0), (2, .int x1)]) C.1 C.2.1 dX11_item_35 hl (by decide) rfl (fun ls hl => ?_)
      refine lv_iload_n C.1 C.2.1 dX11_item_37 rfl (lv_at hl 1 rfl) ?_
      refine lv_if_ne (tgt := 48) C.1 C.2.1 dX11_item_38 (by decide) (fun c3432 => absurd c3432 (by decide)) (fun _ => ?_)
      refine lv_iload C.1 C.2.1 dX11_item_41 (lv_at hl 0 rfl) ?_
      refine lv_if_ne (tgt := 48) C.1 C.2.1 dX11_item_43 (by decide) (fun c3433 => absurd c3433 (by decide)) (fun _ => ?_)
      refine lv_iconst (v := (-1)) C.1 C.2.1 dX11_item_46 (by decide) ?_
      exact k_zretP C hr hlk rfl (Or.inr (Or.inl (⟨c3426, c3431, rfl⟩))) dX11_item_47
    · refine lv_iload_n C.1 C.2.1 dX11_item_24 rfl (lv_at hl 3 rfl) ?_
      refine lv_bipush (v := 24) C.1 C.2.1 dX11_item_25 (by decide) ?_
      refine lv_icmp_gt (tgt := 34) C.1 C.2.1 dX11_item_27 (by decide) (fun c3434 => ?_) (fun c3434 => ?_)
      · refine lv_iconst (v := 0) C.1 C.2.1 dX11_item_34 (by decide) ?_
        refine lv_istore (lv' := [(4, .int 0), (3, .int 0), (0, .ref h0), (1, .int x0), (2, .int x1)]) C.1 C.2.1 dX11_item_35 hl (by decide) rfl (fun ls hl => ?_)
        refine lv_iload_n C.1 C.2.1 dX11_item_37 rfl (lv_at hl 1 rfl) ?_
        refine lv_if_ne (tgt := 48) C.1 C.2.1 dX11_item_38 (by decide) (fun c3435 => absurd c3435 (by decide)) (fun _ => ?_)
        refine lv_iload C.1 C.2.1 dX11_item_41 (lv_at hl 0 rfl) ?_
        refine lv_if_ne (tgt := 48) C.1 C.2.1 dX11_item_43 (by decide) (fun c3436 => absurd c3436 (by decide)) (fun _ => ?_)
        refine lv_iconst (v := (-1)) C.1 C.2.1 dX11_item_46 (by decide) ?_
        exact k_zretP C hr hlk rfl (Or.inr (Or.inr (Or.inl (⟨c3426, c3431, c3434, rfl⟩)))) dX11_item_47
      · refine lv_iconst (v := 1) C.1 C.2.1 dX11_item_30 (by decide) ?_
        refine lv_goto (tgt := 35) C.1 C.2.1 dX11_item_31 (by decide) ?_
        refine lv_istore (lv' := [(4, .int 1), (3, .int 0), (0, .ref h0), (1, .int x0), (2, .int x1)]) C.1 C.2.1 dX11_item_35 hl (by decide) rfl (fun ls hl => ?_)
        refine lv_iload_n C.1 C.2.1 dX11_item_37 rfl (lv_at hl 1 rfl) ?_
        refine lv_if_ne (tgt := 48) C.1 C.2.1 dX11_item_38 (by decide) (fun c3437 => absurd c3437 (by decide)) (fun _ => ?_)
        refine lv_iload C.1 C.2.1 dX11_item_41 (lv_at hl 0 rfl) ?_
        refine lv_if_ne (tgt := 48) C.1 C.2.1 dX11_item_43 (by decide) (fun _ => ?_) (fun c3438 => absurd c3438 (by decide))
        refine lv_aload_n C.1 C.2.1 dX11_item_48 rfl (lv_at hl 2 rfl) ?_
        refine k_get C Wd KX11 0 6 rfl (by decide) fl_X11_50 rfl dX11_item_49 ?_
        refine lv_iload_n C.1 C.2.1 dX11_item_52 rfl (lv_at hl 3 rfl) ?_
        refine lv_iload_n C.1 C.2.1 dX11_item_53 rfl (lv_at hl 4 rfl) ?_
        refine k_pi (k_runV (rest := []) C aks Wd cs_X11_191 (kcX4_addItem l D h6 x0 x1 _ as0 c3426 c3431 c3434) [] rfl (by decide) [] rfl 1 4 rfl rfl rfl rfl rfl ⟨(Nat.le_of_ble_eq_true rfl), (Nat.le_of_ble_eq_true rfl)⟩ hl.1 rfl rfl (Nat.le_of_ble_eq_true rfl) ⟨(Nat.le_of_ble_eq_true rfl), (Nat.le_of_ble_eq_true rfl)⟩ dX11_item_54) (fun r w3439 => ?_)
        obtain ⟨c3440, rfl⟩ := w3439
        exact k_zretP C hr hlk rfl (Or.inr (Or.inr (Or.inr (⟨c3426, c3431, c3434, c3440, rfl⟩)))) dX11_item_57
set_option maxHeartbeats 4000000 in
set_option maxRecDepth 100000 in
theorem kcX4_addItem_v1 (l : Launch) (D : va_G) (h0 : Nat) (x0 x1 : Int32) (sz : Nat)  (as0 : ¬ x0 < (6 : Int32)) (as1 : ¬ x1 < (0 : Int32)) (as2 : ¬ x1 < (20 : Int32)) (as3 : ¬ (24 : Int32) < x1): Met l yX4_addItem (Cond.code yX4_addItem cX4_addItem 3 (some .int) :: gG) { frames := 2, cells := 0, slots := 0, locals := 84 } (cPre D [] [] sz [.ref h0, .int x0, .int x1]) (vp_Si (fun r => ¬ x0 < (0 : Int32) ∧ (6 : Int32) ≤ x0 ∧ r = (-1))) 0 0 (fun _ => False) := by
  refine Met.ofW (cc := cX4_addItem) (maxL := 3) (ret := (some .int)) (by decide) rfl ?_
  intro p e s m args below meth c s₁ B hml hv
  obtain ⟨rfl, aks, rfl, Wd⟩ := k_enter hv
  have C : CallFix p m c cX4_addItem 3 s _ gG RX4 := ⟨B.exec, B.bytes, hml, findClass_of_methodNamed B.named, fun w h => atoms_spec (ws := Cond.code yX4_addItem cX4_addItem 3 (some .int) :: gG) B.pre w (List.mem_cons_of_mem _ h)⟩
  have hr := B.returns
  have hlk := B.notSynchronized
  obtain ⟨A, Wd⟩ : ∃ A, wX D [] s [] s.heap A s.heap [] := ⟨_, Wd⟩
  refine k_locals (Nat.le_of_ble_eq_true rfl) [(0, .ref h0), (1, .int x0), (2, .int x1)] rfl (fun ls hl => ?_)
  refine lv_iload_n C.1 C.2.1 dX4_addItem_0 rfl (lv_at hl 1 rfl) ?_
  refine k_pi (k_runS (rest := []) C aks Wd cs_X4_63 (kcX4_isPass l D x0 _ ) [] rfl (by decide) [] rfl rfl rfl ⟨(Nat.le_of_ble_eq_true rfl), (Nat.le_of_ble_eq_true rfl)⟩ hl.1 rfl rfl (Nat.le_of_ble_eq_true rfl) ⟨(Nat.le_of_ble_eq_true rfl), (Nat.le_of_ble_eq_true rfl)⟩ dX4_addItem_1) (fun r w3461 => ?_)
  rcases w3461 with ⟨c3462, rfl⟩ | ⟨c3463, c3464, rfl⟩ | ⟨c3465, c3466, rfl⟩
  · exact False.elim (by have z0 := kz_nlt as0; have z1 := kz_lt c3462; have t6 : (6 : Int32).toInt = 6 := (by decide); have t0 : (0 : Int32).toInt = 0 := (by decide); omega)
  · refine lv_if_eq (tgt := 18) C.1 C.2.1 dX4_addItem_4 (by decide) (fun _ => ?_) (fun c3467 => absurd c3467 (by decide))
    refine lv_iconst (v := (-1)) C.1 C.2.1 dX4_addItem_18 (by decide) ?_
    exact k_zretP C hr hlk rfl ⟨c3463, c3464, rfl⟩ dX4_addItem_19
  · exact False.elim (by have z0 := kz_nlt as0; have z1 := kz_nlt c3465; have z2 := kz_nle c3466; have t6 : (6 : Int32).toInt = 6 := (by decide); have t0 : (0 : Int32).toInt = 0 := (by decide); omega)
set_option maxHeartbeats 4000000 in
set_option maxRecDepth 100000 in
theorem kcX11_item_v1 (l : Launch) (D : va_G) (h0 h1 h2 h3 h4 h5 h6 h7 h24 h25 h26 h27 h28 h29 h30 h31 : Nat) (x0 x1 : Int32) (sz : Nat)  (as0 : ¬ x0 < (6 : Int32)): Met l yX11_item (Cond.code yX11_item cX11_item 5 (some .int) :: gG) { frames := 3, cells := 0, slots := 0, locals := 106 } (cPre D [] [(h0, .inr (11, [.ref h1, .int 0, .ref h2, .ref h3, .ref h4, .ref h5, .ref h6, .ref h7])), (h6, .inr (4, [.ref h24, .ref h25, .ref h26, .int (-1), .int (-1), .ref h27, .ref h28, .ref h29, .ref h30, .ref h31]))] sz [.ref h0, .int x0, .int x1]) (vp_Si (fun r => (x1 < (0 : Int32) ∧ r = (-1)) ∨ (¬ x1 < (0 : Int32) ∧ x1 < (20 : Int32) ∧ r = (-1)) ∨ (¬ x1 < (0 : Int32) ∧ ¬ x1 < (20 : Int32) ∧ (24 : Int32) < x1 ∧ r = (-1)) ∨ (¬ x1 < (0 : Int32) ∧ ¬ x1 < (20 : Int32) ∧ ¬ (24 : Int32) < x1 ∧ ¬ x0 < (0 : Int32) ∧ (6 : Int32) ≤ x0 ∧ r = (-1)))) 0 0 (fun _ => False) := by
  refine Met.ofW (cc := cX11_item) (maxL := 5) (ret := (some .int)) (by decide) rfl ?_
  intro p e s m args below meth c s₁ B hml hv
  obtain ⟨rfl, aks, rfl, Wd⟩ := k_enter hv
  have C : CallFix p m c cX11_item 5 s _ gG RX11 := ⟨B.exec, B.bytes, hml, findClass_of_methodNamed B.named, fun w h => atoms_spec (ws := Cond.code yX11_item cX11_item 5 (some .int) :: gG) B.pre w (List.mem_cons_of_mem _ h)⟩
  have hr := B.returns
  have hlk := B.notSynchronized
  obtain ⟨A, Wd⟩ : ∃ A, wX D [] s [(h0, .inr (11, [.ref h1, .int 0, .ref h2, .ref h3, .ref h4, .ref h5, .ref h6, .ref h7])), (h6, .inr (4, [.ref h24, .ref h25, .ref h26, .int (-1), .int (-1), .ref h27, .ref h28, .ref h29, .ref h30, .ref h31]))] s.heap A s.heap [] := ⟨_, Wd⟩
  refine k_locals (Nat.le_of_ble_eq_true rfl) [(0, .ref h0), (1, .int x0), (2, .int x1)] rfl (fun ls hl => ?_)
  refine lv_iload_n C.1 C.2.1 dX11_item_0 rfl (lv_at hl 2 rfl) ?_
  refine lv_if_lt (tgt := 16) C.1 C.2.1 dX11_item_1 (by decide) (fun c3471 => ?_) (fun c3471 => ?_)
  · refine lv_iconst (v := 0) C.1 C.2.1 dX11_item_16 (by decide) ?_
    refine lv_istore_n (lv' := [(3, .int 0), (0, .ref h0), (1, .int x0), (2, .int x1)]) C.1 C.2.1 dX11_item_17 rfl hl (by decide) rfl (fun ls hl => ?_)
    refine lv_iload_n C.1 C.2.1 dX11_item_18 rfl (lv_at hl 3 rfl) ?_
    refine lv_bipush (v := 20) C.1 C.2.1 dX11_item_19 (by decide) ?_
    refine lv_icmp_lt (tgt := 34) C.1 C.2.1 dX11_item_21 (by decide) (fun _ => ?_) (fun c3472 => False.elim (by have z0 := kz_lt c3471; have z1 := kz_nlt c3472; have t0 : (0 : Int32).toInt = 0 := (by decide); have t20 : (20 : Int32).toInt = 20 := (by decide); omega))
    refine lv_iconst (v := 0) C.1 C.2.1 dX11_item_34 (by decide) ?_
    refine lv_istore (lv' := [(4, .int 0), (3, .int 0), (0, .ref h0), (1, .int x0), (2, .int x1)]) C.1 C.2.1 dX11_item_35 hl (by decide) rfl (fun ls hl => ?_)
    refine lv_iload_n C.1 C.2.1 dX11_item_37 rfl (lv_at hl 1 rfl) ?_
    refine lv_if_ne (tgt := 48) C.1 C.2.1 dX11_item_38 (by decide) (fun c3473 => absurd c3473 (by decide)) (fun _ => ?_)
    refine lv_iload C.1 C.2.1 dX11_item_41 (lv_at hl 0 rfl) ?_
    refine lv_if_ne (tgt := 48) C.1 C.2.1 dX11_item_43 (by decide) (fun c3474 => absurd c3474 (by decide)) (fun _ => ?_)
    refine lv_iconst (v := (-1)) C.1 C.2.1 dX11_item_46 (by decide) ?_
    exact k_zretP C hr hlk rfl (Or.inl (⟨c3471, rfl⟩)) dX11_item_47
  · refine lv_iload_n C.1 C.2.1 dX11_item_4 rfl (lv_at hl 2 rfl) ?_
    refine lv_aload_n C.1 C.2.1 dX11_item_5 rfl (lv_at hl 0 rfl) ?_
    refine k_get C Wd KX11 0 1 rfl (by decide) fl_X11_18 rfl dX11_item_6 ?_
    refine lv_icmp_ge (tgt := 16) C.1 C.2.1 dX11_item_9 (by decide) (fun _ => ?_) (fun c3475 => False.elim (by have z0 := kz_nlt c3471; have z1 := kz_nle c3475; have t0 : (0 : Int32).toInt = 0 := (by decide); omega))
    refine lv_iconst (v := 0) C.1 C.2.1 dX11_item_16 (by decide) ?_
    refine lv_istore_n (lv' := [(3, .int 0), (0, .ref h0), (1, .int x0), (2, .int x1)]) C.1 C.2.1 dX11_item_17 rfl hl (by decide) rfl (fun ls hl => ?_)
    refine lv_iload_n C.1 C.2.1 dX11_item_18 rfl (lv_at hl 3 rfl) ?_
    refine lv_bipush (v := 20) C.1 C.2.1 dX11_item_19 (by decide) ?_
    refine lv_icmp_lt (tgt := 34) C.1 C.2.1 dX11_item_21 (by decide) (fun c3476 => ?_) (fun c3476 => ?_)
    · refine lv_iconst (v := 0) C.1 C.2.1 dX11_item_34 (by decide) ?_
      refine lv_istore (lv' := [(4, .int 0), (3, .int 0), (0, .ref h0), (1, .int x0), (2, .int x1)]) C.1 C.2.1 dX11_item_35 hl (by decide) rfl (fun ls hl => ?_)
      refine lv_iload_n C.1 C.2.1 dX11_item_37 rfl (lv_at hl 1 rfl) ?_
      refine lv_if_ne (tgt := 48) C.1 C.2.1 dX11_item_38 (by decide) (fun c3477 => absurd c3477 (by decide)) (fun _ => ?_)
      refine lv_iload C.1 C.2.1 dX11_item_41 (lv_at hl 0 rfl) ?_
      refine lv_if_ne (tgt := 48) C.1 C.2.1 dX11_item_43 (by decide) (fun c3478 => absurd c3478 (by decide)) (fun _ => ?_)
      refine lv_iconst (v := (-1)) C.1 C.2.1 dX11_item_46 (by decide) ?_
      exact k_zretP C hr hlk rfl (Or.inr (Or.inl (⟨c3471, c3476, rfl⟩))) dX11_item_47
    · refine lv_iload_n C.1 C.2.1 dX11_item_24 rfl (lv_at hl 3 rfl) ?_
      refine lv_bipush (v := 24) C.1 C.2.1 dX11_item_25 (by decide) ?_
      refine lv_icmp_gt (tgt := 34) C.1 C.2.1 dX11_item_27 (by decide) (fun c3479 => ?_) (fun c3479 => ?_)
      · refine lv_iconst (v := 0) C.1 C.2.1 dX11_item_34 (by decide) ?_
        refine lv_istore (lv' := [(4, .int 0), (3, .int 0), (0, .ref h0), (1, .int x0), (2, .int x1)]) C.1 C.2.1 dX11_item_35 hl (by decide) rfl (fun ls hl => ?_)
        refine lv_iload_n C.1 C.2.1 dX11_item_37 rfl (lv_at hl 1 rfl) ?_
        refine lv_if_ne (tgt := 48) C.1 C.2.1 dX11_item_38 (by decide) (fun c3480 => absurd c3480 (by decide)) (fun _ => ?_)
        refine lv_iload C.1 C.2.1 dX11_item_41 (lv_at hl 0 rfl) ?_
        refine lv_if_ne (tgt := 48) C.1 C.2.1 dX11_item_43 (by decide) (fun c3481 => absurd c3481 (by decide)) (fun _ => ?_)
        refine lv_iconst (v := (-1)) C.1 C.2.1 dX11_item_46 (by decide) ?_
        exact k_zretP C hr hlk rfl (Or.inr (Or.inr (Or.inl (⟨c3471, c3476, c3479, rfl⟩)))) dX11_item_47
      · refine lv_iconst (v := 1) C.1 C.2.1 dX11_item_30 (by decide) ?_
        refine lv_goto (tgt := 35) C.1 C.2.1 dX11_item_31 (by decide) ?_
        refine lv_istore (lv' := [(4, .int 1), (3, .int 0), (0, .ref h0), (1, .int x0), (2, .int x1)]) C.1 C.2.1 dX11_item_35 hl (by decide) rfl (fun ls hl => ?_)
        refine lv_iload_n C.1 C.2.1 dX11_item_37 rfl (lv_at hl 1 rfl) ?_
        refine lv_if_ne (tgt := 48) C.1 C.2.1 dX11_item_38 (by decide) (fun c3482 => absurd c3482 (by decide)) (fun _ => ?_)
        refine lv_iload C.1 C.2.1 dX11_item_41 (lv_at hl 0 rfl) ?_
        refine lv_if_ne (tgt := 48) C.1 C.2.1 dX11_item_43 (by decide) (fun _ => ?_) (fun c3483 => absurd c3483 (by decide))
        refine lv_aload_n C.1 C.2.1 dX11_item_48 rfl (lv_at hl 2 rfl) ?_
        refine k_get C Wd KX11 0 6 rfl (by decide) fl_X11_50 rfl dX11_item_49 ?_
        refine lv_iload_n C.1 C.2.1 dX11_item_52 rfl (lv_at hl 3 rfl) ?_
        refine lv_iload_n C.1 C.2.1 dX11_item_53 rfl (lv_at hl 4 rfl) ?_
        refine k_pi (k_runV (rest := []) C aks Wd cs_X11_191 (kcX4_addItem_v1 l D h6 x0 x1 _ as0 c3471 c3476 c3479) [] rfl (by decide) [] rfl 1 4 rfl rfl rfl rfl rfl ⟨(Nat.le_of_ble_eq_true rfl), (Nat.le_of_ble_eq_true rfl)⟩ hl.1 rfl rfl (Nat.le_of_ble_eq_true rfl) ⟨(Nat.le_of_ble_eq_true rfl), (Nat.le_of_ble_eq_true rfl)⟩ dX11_item_54) (fun r w3484 => ?_)
        obtain ⟨c3485, c3486, rfl⟩ := w3484
        exact k_zretP C hr hlk rfl (Or.inr (Or.inr (Or.inr (⟨c3471, c3476, c3479, c3485, c3486, rfl⟩)))) dX11_item_57
set_option maxHeartbeats 4000000 in
set_option maxRecDepth 100000 in
theorem kcX4_addItem_v2 (l : Launch) (D : va_G) (h0 h1 h2 h3 h4 h5 h6 h7 h8 h25 : Nat) (x0 x1 : Int32) (g1 : Nat → Option Nat) (a1 a2 a3 : ClassId) (sz : Nat) (k_g1_x0 : g1 x0.toNatClampNeg = some h25) (as0 : ¬ x0 < (0 : Int32)) (as1 : x0 < (6 : Int32)) (as2 : ¬ x1 < (0 : Int32)) (as3 : ¬ x1 < (20 : Int32)) (as4 : ¬ (24 : Int32) < x1): Met l yX4_addItem (Cond.code yX4_addItem cX4_addItem 3 (some .int) :: gG) { frames := 2, cells := 0, slots := 0, locals := 84 } (cPre D [(a1, .array .int), (a2, .int), (a3, .int)] [(h0, .inr (4, [.ref h1, .ref h2, .ref h3, .int (-1), .int (-1), .ref h4, .ref h5, .ref h6, .ref h7, .ref h8])), (h6, .inl (a2, 6, .inl (fun _ => 0))), (h5, .inl (a1, 6, .inr (.inr (.inr (.inr g1))))), (h25, .inl (a3, 8, .inl (fun _ => 0)))] sz [.ref h0, .int x0, .int x1]) (va_Qi (fun (r : Int32) (_ : Unit) => ¬ x0 < (0 : Int32) ∧ ¬ (6 : Int32) ≤ x0 ∧ r = 1) (fun u t => cB D (va_A [(h0, .inr (4, [.ref h1, .ref h2, .ref h3, .int (-1), .int (-1), .ref h4, .ref h5, .ref h6, .ref h7, .ref h8])), (h6, .inl (a2, 6, .inl (fun _ => 0))), (h5, .inl (a1, 6, .inr (.inr (.inr (.inr g1))))), (h25, .inl (a3, 8, .inl (fun _ => 0)))] sz) ((fun (_ : Unit) => ([] : List (ClassId × FieldType))) u) ((fun (_ : Unit) => ([(h0, .inr (4, [.ref h1, .ref h2, .ref h3, .int (-1), .int (-1), .ref h4, .ref h5, .ref h6, .ref h7, .ref h8])), (h6, .inl (a2, 6, .inl (upd (fun _ => 0) x0.toNatClampNeg 1))), (h5, .inl (a1, 6, .inr (.inr (.inr (.inr g1))))), (h25, .inl (a3, 8, .inl (upd (fun _ => 0) 0 x1)))] : va_W)) u) t) (va_A [(h0, .inr (4, [.ref h1, .ref h2, .ref h3, .int (-1), .int (-1), .ref h4, .ref h5, .ref h6, .ref h7, .ref h8])), (h6, .inl (a2, 6, .inl (fun _ => 0))), (h5, .inl (a1, 6, .inr (.inr (.inr (.inr g1))))), (h25, .inl (a3, 8, .inl (fun _ => 0)))] sz)) 0 0 (va_A [(h0, .inr (4, [.ref h1, .ref h2, .ref h3, .int (-1), .int (-1), .ref h4, .ref h5, .ref h6, .ref h7, .ref h8])), (h6, .inl (a2, 6, .inl (fun _ => 0))), (h5, .inl (a1, 6, .inr (.inr (.inr (.inr g1))))), (h25, .inl (a3, 8, .inl (fun _ => 0)))] sz) := by
  refine Met.ofW (cc := cX4_addItem) (maxL := 3) (ret := (some .int)) (by decide) rfl ?_
  intro p e s m args below meth c s₁ B hml hv
  obtain ⟨rfl, aks, rfl, Wd⟩ := k_enter hv
  have C : CallFix p m c cX4_addItem 3 s _ gG RX4 := ⟨B.exec, B.bytes, hml, findClass_of_methodNamed B.named, fun w h => atoms_spec (ws := Cond.code yX4_addItem cX4_addItem 3 (some .int) :: gG) B.pre w (List.mem_cons_of_mem _ h)⟩
  have hr := B.returns
  have hlk := B.notSynchronized
  generalize va_A [(h0, .inr (4, [.ref h1, .ref h2, .ref h3, .int (-1), .int (-1), .ref h4, .ref h5, .ref h6, .ref h7, .ref h8])), (h6, .inl (a2, 6, .inl (fun _ => 0))), (h5, .inl (a1, 6, .inr (.inr (.inr (.inr g1))))), (h25, .inl (a3, 8, .inl (fun _ => 0)))] s.heap.size = A at Wd ⊢
  refine k_locals (Nat.le_of_ble_eq_true rfl) [(0, .ref h0), (1, .int x0), (2, .int x1)] rfl (fun ls hl => ?_)
  refine lv_iload_n C.1 C.2.1 dX4_addItem_0 rfl (lv_at hl 1 rfl) ?_
  refine k_pi (k_runS (rest := []) C aks Wd cs_X4_63 (kcX4_isPass l D x0 _ ) [] rfl (by decide) [] rfl rfl rfl ⟨(Nat.le_of_ble_eq_true rfl), (Nat.le_of_ble_eq_true rfl)⟩ hl.1 rfl rfl (Nat.le_of_ble_eq_true rfl) ⟨(Nat.le_of_ble_eq_true rfl), (Nat.le_of_ble_eq_true rfl)⟩ dX4_addItem_1) (fun r w3508 => ?_)
  rcases w3508 with ⟨c3509, rfl⟩ | ⟨c3510, c3511, rfl⟩ | ⟨c3512, c3513, rfl⟩
  · exact absurd c3509 as0
  · exact False.elim (by have z0 := kz_nlt as0; have z1 := kz_lt as1; have z2 := kz_nlt c3510; have z3 := kz_le c3511; have t0 : (0 : Int32).toInt = 0 := (by decide); have t6 : (6 : Int32).toInt = 6 := (by decide); omega)
  · refine lv_if_eq (tgt := 18) C.1 C.2.1 dX4_addItem_4 (by decide) (fun c3514 => absurd c3514 (by decide)) (fun _ => ?_)
    refine lv_aload_n C.1 C.2.1 dX4_addItem_7 rfl (lv_at hl 0 rfl) ?_
    refine k_get C Wd KX4 0 7 rfl (by decide) fl_X4_23 rfl dX4_addItem_8 ?_
    refine lv_iload_n C.1 C.2.1 dX4_addItem_11 rfl (lv_at hl 1 rfl) ?_
    refine k_iald (v := 0) C Wd 1 1 rfl rfl (vp_in_iff.mpr ⟨by have z0 := kz_nlt as0; have z1 := kz_lt as1; have z2 := kz_nlt c3512; have z3 := kz_nle c3513; have t0 : (0 : Int32).toInt = 0 := (by decide); have t6 : (6 : Int32).toInt = 6 := (by decide); omega, by have z0 := kz_nlt as0; have z1 := kz_lt as1; have z2 := kz_nlt c3512; have z3 := kz_nle c3513; have t0 : (0 : Int32).toInt = 0 := (by decide); have t6 : (6 : Int32).toInt = 6 := (by decide); omega⟩) rfl dX4_addItem_12 ?_
    refine lv_bipush (v := 8) C.1 C.2.1 dX4_addItem_13 (by decide) ?_
    refine lv_icmp_lt (tgt := 20) C.1 C.2.1 dX4_addItem_15 (by decide) (fun _ => ?_) (fun c3515 => absurd c3515 (by decide))
    refine lv_aload_n C.1 C.2.1 dX4_addItem_20 rfl (lv_at hl 0 rfl) ?_
    refine k_get C Wd KX4 0 6 rfl (by decide) fl_X4_20 rfl dX4_addItem_21 ?_
    refine lv_iload_n C.1 C.2.1 dX4_addItem_24 rfl (lv_at hl 1 rfl) ?_
    refine k_aldg (v := .ref h25) C Wd 2 0 rfl rfl (vp_in_iff.mpr ⟨by have z0 := kz_nlt as0; have z1 := kz_lt as1; have z2 := kz_nlt c3512; have z3 := kz_nle c3513; have t0 : (0 : Int32).toInt = 0 := (by decide); have t6 : (6 : Int32).toInt = 6 := (by decide); omega, by have z0 := kz_nlt as0; have z1 := kz_lt as1; have z2 := kz_nlt c3512; have z3 := kz_nle c3513; have t0 : (0 : Int32).toInt = 0 := (by decide); have t6 : (6 : Int32).toInt = 6 := (by decide); omega⟩) (congrArg va_rf k_g1_x0) dX4_addItem_25 ?_
    refine lv_aload_n C.1 C.2.1 dX4_addItem_26 rfl (lv_at hl 0 rfl) ?_
    refine k_get C Wd KX4 0 7 rfl (by decide) fl_X4_23 rfl dX4_addItem_27 ?_
    refine lv_iload_n C.1 C.2.1 dX4_addItem_30 rfl (lv_at hl 1 rfl) ?_
    refine k_iald (v := 0) C Wd 1 1 rfl rfl (vp_in_iff.mpr ⟨by have z0 := kz_nlt as0; have z1 := kz_lt as1; have z2 := kz_nlt c3512; have z3 := kz_nle c3513; have t0 : (0 : Int32).toInt = 0 := (by decide); have t6 : (6 : Int32).toInt = 6 := (by decide); omega, by have z0 := kz_nlt as0; have z1 := kz_lt as1; have z2 := kz_nlt c3512; have z3 := kz_nle c3513; have t0 : (0 : Int32).toInt = 0 := (by decide); have t6 : (6 : Int32).toInt = 6 := (by decide); omega⟩) rfl dX4_addItem_31 ?_
    refine lv_iload_n C.1 C.2.1 dX4_addItem_32 rfl (lv_at hl 2 rfl) ?_
    refine k_iast C Wd 3 2 [(h0, .inr (4, [.ref h1, .ref h2, .ref h3, .int (-1), .int (-1), .ref h4, .ref h5, .ref h6, .ref h7, .ref h8])), (h6, .inl (a2, 6, .inl (fun _ => 0))), (h5, .inl (a1, 6, .inr (.inr (.inr (.inr g1))))), (h25, .inl (a3, 8, .inl (upd (fun _ => 0) 0 x1)))] rfl rfl (vp_in_iff.mpr (by decide)) rfl rfl dX4_addItem_33 (fun H locs Wd => ?_)
    refine lv_aload_n C.1 C.2.1 dX4_addItem_34 rfl (lv_at hl 0 rfl) ?_
    refine k_get C Wd KX4 0 7 rfl (by decide) fl_X4_23 rfl dX4_addItem_35 ?_
    refine lv_iload_n C.1 C.2.1 dX4_addItem_38 rfl (lv_at hl 1 rfl) ?_
    refine lv_dup2_11 C.1 C.2.1 dX4_addItem_39 rfl rfl ?_
    refine k_iald (v := 0) C Wd 1 1 rfl rfl (vp_in_iff.mpr ⟨by have z0 := kz_nlt as0; have z1 := kz_lt as1; have z2 := kz_nlt c3512; have z3 := kz_nle c3513; have t0 : (0 : Int32).toInt = 0 := (by decide); have t6 : (6 : Int32).toInt = 6 := (by decide); omega, by have z0 := kz_nlt as0; have z1 := kz_lt as1; have z2 := kz_nlt c3512; have z3 := kz_nle c3513; have t0 : (0 : Int32).toInt = 0 := (by decide); have t6 : (6 : Int32).toInt = 6 := (by decide); omega⟩) rfl dX4_addItem_40 ?_
    refine lv_iconst (v := 1) C.1 C.2.1 dX4_addItem_41 (by decide) ?_
    refine k_iadd (v := 1) C (by decide) dX4_addItem_42 ?_
    refine k_iast C Wd 1 1 [(h0, .inr (4, [.ref h1, .ref h2, .ref h3, .int (-1), .int (-1), .ref h4, .ref h5, .ref h6, .ref h7, .ref h8])), (h6, .inl (a2, 6, .inl (upd (fun _ => 0) x0.toNatClampNeg 1))), (h5, .inl (a1, 6, .inr (.inr (.inr (.inr g1))))), (h25, .inl (a3, 8, .inl (upd (fun _ => 0) 0 x1)))] rfl rfl (vp_in_iff.mpr ⟨by have z0 := kz_nlt as0; have z1 := kz_lt as1; have z2 := kz_nlt c3512; have z3 := kz_nle c3513; have t0 : (0 : Int32).toInt = 0 := (by decide); have t6 : (6 : Int32).toInt = 6 := (by decide); omega, by have z0 := kz_nlt as0; have z1 := kz_lt as1; have z2 := kz_nlt c3512; have z3 := kz_nle c3513; have t0 : (0 : Int32).toInt = 0 := (by decide); have t6 : (6 : Int32).toInt = 6 := (by decide); omega⟩) rfl rfl dX4_addItem_43 (fun H locs Wd => ?_)
    refine lv_aload_n C.1 C.2.1 dX4_addItem_44 rfl (lv_at hl 0 rfl) ?_
    refine k_get C Wd KX4 0 7 rfl (by decide) fl_X4_23 rfl dX4_addItem_45 ?_
    refine lv_iload_n C.1 C.2.1 dX4_addItem_48 rfl (lv_at hl 1 rfl) ?_
    refine k_iald (v := 1) C Wd 1 1 rfl rfl (vp_in_iff.mpr ⟨by have z0 := kz_nlt as0; have z1 := kz_lt as1; have z2 := kz_nlt c3512; have z3 := kz_nle c3513; have t0 : (0 : Int32).toInt = 0 := (by decide); have t6 : (6 : Int32).toInt = 6 := (by decide); omega, by have z0 := kz_nlt as0; have z1 := kz_lt as1; have z2 := kz_nlt c3512; have z3 := kz_nle c3513; have t0 : (0 : Int32).toInt = 0 := (by decide); have t6 : (6 : Int32).toInt = 6 := (by decide); omega⟩) pk_us dX4_addItem_49 ?_
    exact k_zret C hr hlk rfl Wd () ⟨c3512, c3513, rfl⟩ [0, 1, 2, 3] rfl (by decide) [] rfl (by decide) (by decide) dX4_addItem_50
set_option maxHeartbeats 4000000 in
set_option maxRecDepth 100000 in
theorem kcX11_item_v2 (l : Launch) (D : va_G) (h0 h1 h2 h3 h4 h5 h6 h7 h24 h25 h26 h27 h28 h29 h30 h31 h72 : Nat) (x0 x1 : Int32) (g2 : Nat → Option Nat) (a4 a5 a17 : ClassId) (sz : Nat) (k_g2_x0 : g2 x0.toNatClampNeg = some h72) (as0 : ¬ x0 < (0 : Int32)) (as1 : x0 < (6 : Int32)): Met l yX11_item (Cond.code yX11_item cX11_item 5 (some .int) :: gG) { frames := 3, cells := 0, slots := 0, locals := 106 } (cPre D [(a4, .array .int), (a5, .int), (a17, .int)] [(h0, .inr (11, [.ref h1, .int 0, .ref h2, .ref h3, .ref h4, .ref h5, .ref h6, .ref h7])), (h6, .inr (4, [.ref h24, .ref h25, .ref h26, .int (-1), .int (-1), .ref h27, .ref h28, .ref h29, .ref h30, .ref h31])), (h29, .inl (a5, 6, .inl (fun _ => 0))), (h28, .inl (a4, 6, .inr (.inr (.inr (.inr g2))))), (h72, .inl (a17, 8, .inl (fun _ => 0)))] sz [.ref h0, .int x0, .int x1]) (va_Qi (fun (r : Int32) (_ : Unit) => (x1 < (0 : Int32) ∧ r = (-1)) ∨ (¬ x1 < (0 : Int32) ∧ x1 < (20 : Int32) ∧ r = (-1)) ∨ (¬ x1 < (0 : Int32) ∧ ¬ x1 < (20 : Int32) ∧ (24 : Int32) < x1 ∧ r = (-1)) ∨ (¬ x1 < (0 : Int32) ∧ ¬ x1 < (20 : Int32) ∧ ¬ (24 : Int32) < x1 ∧ ¬ x0 < (0 : Int32) ∧ ¬ (6 : Int32) ≤ x0 ∧ r = 1)) (fun u t => cB D (va_A [(h0, .inr (11, [.ref h1, .int 0, .ref h2, .ref h3, .ref h4, .ref h5, .ref h6, .ref h7])), (h6, .inr (4, [.ref h24, .ref h25, .ref h26, .int (-1), .int (-1), .ref h27, .ref h28, .ref h29, .ref h30, .ref h31])), (h29, .inl (a5, 6, .inl (fun _ => 0))), (h28, .inl (a4, 6, .inr (.inr (.inr (.inr g2))))), (h72, .inl (a17, 8, .inl (fun _ => 0)))] sz) ((fun (_ : Unit) => ([] : List (ClassId × FieldType))) u) ((fun (_ : Unit) => ([] : va_W)) u) t) (va_A [(h0, .inr (11, [.ref h1, .int 0, .ref h2, .ref h3, .ref h4, .ref h5, .ref h6, .ref h7])), (h6, .inr (4, [.ref h24, .ref h25, .ref h26, .int (-1), .int (-1), .ref h27, .ref h28, .ref h29, .ref h30, .ref h31])), (h29, .inl (a5, 6, .inl (fun _ => 0))), (h28, .inl (a4, 6, .inr (.inr (.inr (.inr g2))))), (h72, .inl (a17, 8, .inl (fun _ => 0)))] sz)) 0 0 (va_A [(h0, .inr (11, [.ref h1, .int 0, .ref h2, .ref h3, .ref h4, .ref h5, .ref h6, .ref h7])), (h6, .inr (4, [.ref h24, .ref h25, .ref h26, .int (-1), .int (-1), .ref h27, .ref h28, .ref h29, .ref h30, .ref h31])), (h29, .inl (a5, 6, .inl (fun _ => 0))), (h28, .inl (a4, 6, .inr (.inr (.inr (.inr g2))))), (h72, .inl (a17, 8, .inl (fun _ => 0)))] sz) := by
  refine Met.ofW (cc := cX11_item) (maxL := 5) (ret := (some .int)) (by decide) rfl ?_
  intro p e s m args below meth c s₁ B hml hv
  obtain ⟨rfl, aks, rfl, Wd⟩ := k_enter hv
  have C : CallFix p m c cX11_item 5 s _ gG RX11 := ⟨B.exec, B.bytes, hml, findClass_of_methodNamed B.named, fun w h => atoms_spec (ws := Cond.code yX11_item cX11_item 5 (some .int) :: gG) B.pre w (List.mem_cons_of_mem _ h)⟩
  have hr := B.returns
  have hlk := B.notSynchronized
  generalize va_A [(h0, .inr (11, [.ref h1, .int 0, .ref h2, .ref h3, .ref h4, .ref h5, .ref h6, .ref h7])), (h6, .inr (4, [.ref h24, .ref h25, .ref h26, .int (-1), .int (-1), .ref h27, .ref h28, .ref h29, .ref h30, .ref h31])), (h29, .inl (a5, 6, .inl (fun _ => 0))), (h28, .inl (a4, 6, .inr (.inr (.inr (.inr g2))))), (h72, .inl (a17, 8, .inl (fun _ => 0)))] s.heap.size = A at Wd ⊢
  refine k_locals (Nat.le_of_ble_eq_true rfl) [(0, .ref h0), (1, .int x0), (2, .int x1)] rfl (fun ls hl => ?_)
  refine lv_iload_n C.1 C.2.1 dX11_item_0 rfl (lv_at hl 2 rfl) ?_
  refine lv_if_lt (tgt := 16) C.1 C.2.1 dX11_item_1 (by decide) (fun c3519 => ?_) (fun c3519 => ?_)
  · refine lv_iconst (v := 0) C.1 C.2.1 dX11_item_16 (by decide) ?_
    refine lv_istore_n (lv' := [(3, .int 0), (0, .ref h0), (1, .int x0), (2, .int x1)]) C.1 C.2.1 dX11_item_17 rfl hl (by decide) rfl (fun ls hl => ?_)
    refine lv_iload_n C.1 C.2.1 dX11_item_18 rfl (lv_at hl 3 rfl) ?_
    refine lv_bipush (v := 20) C.1 C.2.1 dX11_item_19 (by decide) ?_
    refine lv_icmp_lt (tgt := 34) C.1 C.2.1 dX11_item_21 (by decide) (fun _ => ?_) (fun c3520 => False.elim (by have z0 := kz_lt c3519; have z1 := kz_nlt c3520; have t0 : (0 : Int32).toInt = 0 := (by decide); have t20 : (20 : Int32).toInt = 20 := (by decide); omega))
    refine lv_iconst (v := 0) C.1 C.2.1 dX11_item_34 (by decide) ?_
    refine lv_istore (lv' := [(4, .int 0), (3, .int 0), (0, .ref h0), (1, .int x0), (2, .int x1)]) C.1 C.2.1 dX11_item_35 hl (by decide) rfl (fun ls hl => ?_)
    refine lv_iload_n C.1 C.2.1 dX11_item_37 rfl (lv_at hl 1 rfl) ?_
    refine lv_if_ne (tgt := 48) C.1 C.2.1 dX11_item_38 (by decide) (fun c3521 => absurd c3521 (by decide)) (fun _ => ?_)
    refine lv_iload C.1 C.2.1 dX11_item_41 (lv_at hl 0 rfl) ?_
    refine lv_if_ne (tgt := 48) C.1 C.2.1 dX11_item_43 (by decide) (fun c3522 => absurd c3522 (by decide)) (fun _ => ?_)
    refine lv_iconst (v := (-1)) C.1 C.2.1 dX11_item_46 (by decide) ?_
    exact k_zret C hr hlk rfl Wd () (Or.inl (⟨c3519, rfl⟩)) [] rfl (by decide) [] rfl (by decide) (by decide) dX11_item_47
  · refine lv_iload_n C.1 C.2.1 dX11_item_4 rfl (lv_at hl 2 rfl) ?_
    refine lv_aload_n C.1 C.2.1 dX11_item_5 rfl (lv_at hl 0 rfl) ?_
    refine k_get C Wd KX11 0 1 rfl (by decide) fl_X11_18 rfl dX11_item_6 ?_
    refine lv_icmp_ge (tgt := 16) C.1 C.2.1 dX11_item_9 (by decide) (fun _ => ?_) (fun c3523 => False.elim (by have z0 := kz_nlt c3519; have z1 := kz_nle c3523; have t0 : (0 : Int32).toInt = 0 := (by decide); omega))
    refine lv_iconst (v := 0) C.1 C.2.1 dX11_item_16 (by decide) ?_
    refine lv_istore_n (lv' := [(3, .int 0), (0, .ref h0), (1, .int x0), (2, .int x1)]) C.1 C.2.1 dX11_item_17 rfl hl (by decide) rfl (fun ls hl => ?_)
    refine lv_iload_n C.1 C.2.1 dX11_item_18 rfl (lv_at hl 3 rfl) ?_
    refine lv_bipush (v := 20) C.1 C.2.1 dX11_item_19 (by decide) ?_
    refine lv_icmp_lt (tgt := 34) C.1 C.2.1 dX11_item_21 (by decide) (fun c3524 => ?_) (fun c3524 => ?_)
    · refine lv_iconst (v := 0) C.1 C.2.1 dX11_item_34 (by decide) ?_
      refine lv_istore (lv' := [(4, .int 0), (3, .int 0), (0, .ref h0), (1, .int x0), (2, .int x1)]) C.1 C.2.1 dX11_item_35 hl (by decide) rfl (fun ls hl => ?_)
      refine lv_iload_n C.1 C.2.1 dX11_item_37 rfl (lv_at hl 1 rfl) ?_
      refine lv_if_ne (tgt := 48) C.1 C.2.1 dX11_item_38 (by decide) (fun c3525 => absurd c3525 (by decide)) (fun _ => ?_)
      refine lv_iload C.1 C.2.1 dX11_item_41 (lv_at hl 0 rfl) ?_
      refine lv_if_ne (tgt := 48) C.1 C.2.1 dX11_item_43 (by decide) (fun c3526 => absurd c3526 (by decide)) (fun _ => ?_)
      refine lv_iconst (v := (-1)) C.1 C.2.1 dX11_item_46 (by decide) ?_
      exact k_zret C hr hlk rfl Wd () (Or.inr (Or.inl (⟨c3519, c3524, rfl⟩))) [] rfl (by decide) [] rfl (by decide) (by decide) dX11_item_47
    · refine lv_iload_n C.1 C.2.1 dX11_item_24 rfl (lv_at hl 3 rfl) ?_
      refine lv_bipush (v := 24) C.1 C.2.1 dX11_item_25 (by decide) ?_
      refine lv_icmp_gt (tgt := 34) C.1 C.2.1 dX11_item_27 (by decide) (fun c3527 => ?_) (fun c3527 => ?_)
      · refine lv_iconst (v := 0) C.1 C.2.1 dX11_item_34 (by decide) ?_
        refine lv_istore (lv' := [(4, .int 0), (3, .int 0), (0, .ref h0), (1, .int x0), (2, .int x1)]) C.1 C.2.1 dX11_item_35 hl (by decide) rfl (fun ls hl => ?_)
        refine lv_iload_n C.1 C.2.1 dX11_item_37 rfl (lv_at hl 1 rfl) ?_
        refine lv_if_ne (tgt := 48) C.1 C.2.1 dX11_item_38 (by decide) (fun c3528 => absurd c3528 (by decide)) (fun _ => ?_)
        refine lv_iload C.1 C.2.1 dX11_item_41 (lv_at hl 0 rfl) ?_
        refine lv_if_ne (tgt := 48) C.1 C.2.1 dX11_item_43 (by decide) (fun c3529 => absurd c3529 (by decide)) (fun _ => ?_)
        refine lv_iconst (v := (-1)) C.1 C.2.1 dX11_item_46 (by decide) ?_
        exact k_zret C hr hlk rfl Wd () (Or.inr (Or.inr (Or.inl (⟨c3519, c3524, c3527, rfl⟩)))) [] rfl (by decide) [] rfl (by decide) (by decide) dX11_item_47
      · refine lv_iconst (v := 1) C.1 C.2.1 dX11_item_30 (by decide) ?_
        refine lv_goto (tgt := 35) C.1 C.2.1 dX11_item_31 (by decide) ?_
        refine lv_istore (lv' := [(4, .int 1), (3, .int 0), (0, .ref h0), (1, .int x0), (2, .int x1)]) C.1 C.2.1 dX11_item_35 hl (by decide) rfl (fun ls hl => ?_)
        refine lv_iload_n C.1 C.2.1 dX11_item_37 rfl (lv_at hl 1 rfl) ?_
        refine lv_if_ne (tgt := 48) C.1 C.2.1 dX11_item_38 (by decide) (fun c3530 => absurd c3530 (by decide)) (fun _ => ?_)
        refine lv_iload C.1 C.2.1 dX11_item_41 (lv_at hl 0 rfl) ?_
        refine lv_if_ne (tgt := 48) C.1 C.2.1 dX11_item_43 (by decide) (fun _ => ?_) (fun c3531 => absurd c3531 (by decide))
        refine lv_aload_n C.1 C.2.1 dX11_item_48 rfl (lv_at hl 2 rfl) ?_
        refine k_get C Wd KX11 0 6 rfl (by decide) fl_X11_50 rfl dX11_item_49 ?_
        refine lv_iload_n C.1 C.2.1 dX11_item_52 rfl (lv_at hl 3 rfl) ?_
        refine lv_iload_n C.1 C.2.1 dX11_item_53 rfl (lv_at hl 4 rfl) ?_
        refine k_ci Wd [1, 2, 3, 4] [0] rfl (wr := [(h0, .inr (11, [.ref h1, .int 0, .ref h2, .ref h3, .ref h4, .ref h5, .ref h6, .ref h7]))]) rfl (by decide) (by decide) (cells' := 0) (slots' := 0) (by decide) (by decide) (k_runV (rest := []) C aks Wd cs_X11_191 (kcX4_addItem_v2 l D h6 h24 h25 h26 h27 h28 h29 h30 h31 h72 x0 x1 g2 a4 a5 a17 _ k_g2_x0 as0 as1 c3519 c3524 c3527) [1, 2, 3, 4] rfl (by decide) [0, 1, 2] rfl 1 4 rfl rfl rfl rfl rfl ⟨(Nat.le_of_ble_eq_true rfl), (Nat.le_of_ble_eq_true rfl)⟩ hl.1 rfl rfl (Nat.le_of_ble_eq_true rfl) ⟨(Nat.le_of_ble_eq_true rfl), (Nat.le_of_ble_eq_true rfl)⟩ dX11_item_54) (fun r _ H locs w3532 Wd => ?_)
        have Wd : wX D [(a4, .array .int), (a5, .int), (a17, .int)] s [(h0, .inr (11, [.ref h1, .int 0, .ref h2, .ref h3, .ref h4, .ref h5, .ref h6, .ref h7])), (h6, .inr (4, [.ref h24, .ref h25, .ref h26, .int (-1), .int (-1), .ref h27, .ref h28, .ref h29, .ref h30, .ref h31])), (h29, .inl (a5, 6, .inl (upd (fun _ => 0) x0.toNatClampNeg 1))), (h28, .inl (a4, 6, .inr (.inr (.inr (.inr g2))))), (h72, .inl (a17, 8, .inl (upd (fun _ => 0) 0 x1)))] _ A s.heap _ := Wd
        obtain ⟨c3533, c3534, rfl⟩ := w3532
        exact k_zret C hr hlk rfl Wd () (Or.inr (Or.inr (Or.inr (⟨c3519, c3524, c3527, c3533, c3534, rfl⟩)))) [] rfl (by decide) [] rfl (by decide) (by decide) dX11_item_57
set_option maxHeartbeats 4000000 in
set_option maxRecDepth 100000 in
theorem kcX4_dropItems (l : Launch) (D : va_G) (h0 h1 h2 h3 h4 h5 h6 h7 h8 : Nat) (x0 : Int32) (a2 : ClassId) (sz : Nat)  : Met l yX4_dropItems (Cond.code yX4_dropItems cX4_dropItems 2 (some .boolean) :: gG) { frames := 2, cells := 0, slots := 0, locals := 84 } (cPre D [(a2, .int)] [(h0, .inr (4, [.ref h1, .ref h2, .ref h3, .int (-1), .int (-1), .ref h4, .ref h5, .ref h6, .ref h7, .ref h8])), (h6, .inl (a2, 6, .inl (fun _ => 0)))] sz [.ref h0, .int x0]) (va_Qi (fun (r : Int32) (_ : Unit) => (x0 < (0 : Int32) ∧ r = 0) ∨ (¬ x0 < (0 : Int32) ∧ (6 : Int32) ≤ x0 ∧ r = 0) ∨ (¬ x0 < (0 : Int32) ∧ ¬ (6 : Int32) ≤ x0 ∧ r = 1)) (fun u t => cB D (va_A [(h0, .inr (4, [.ref h1, .ref h2, .ref h3, .int (-1), .int (-1), .ref h4, .ref h5, .ref h6, .ref h7, .ref h8])), (h6, .inl (a2, 6, .inl (fun _ => 0)))] sz) ((fun (_ : Unit) => ([] : List (ClassId × FieldType))) u) ((fun (_ : Unit) => ([(h0, .inr (4, [.ref h1, .ref h2, .ref h3, .int (-1), .int (-1), .ref h4, .ref h5, .ref h6, .ref h7, .ref h8])), (h6, .inl (a2, 6, .inl (fun _ => 0)))] : va_W)) u) t) (va_A [(h0, .inr (4, [.ref h1, .ref h2, .ref h3, .int (-1), .int (-1), .ref h4, .ref h5, .ref h6, .ref h7, .ref h8])), (h6, .inl (a2, 6, .inl (fun _ => 0)))] sz)) 0 0 (va_A [(h0, .inr (4, [.ref h1, .ref h2, .ref h3, .int (-1), .int (-1), .ref h4, .ref h5, .ref h6, .ref h7, .ref h8])), (h6, .inl (a2, 6, .inl (fun _ => 0)))] sz) := by
  refine Met.ofW (cc := cX4_dropItems) (maxL := 2) (ret := (some .boolean)) (by decide) rfl ?_
  intro p e s m args below meth c s₁ B hml hv
  obtain ⟨rfl, aks, rfl, Wd⟩ := k_enter hv
  have C : CallFix p m c cX4_dropItems 2 s _ gG RX4 := ⟨B.exec, B.bytes, hml, findClass_of_methodNamed B.named, fun w h => atoms_spec (ws := Cond.code yX4_dropItems cX4_dropItems 2 (some .boolean) :: gG) B.pre w (List.mem_cons_of_mem _ h)⟩
  have hr := B.returns
  have hlk := B.notSynchronized
  generalize va_A [(h0, .inr (4, [.ref h1, .ref h2, .ref h3, .int (-1), .int (-1), .ref h4, .ref h5, .ref h6, .ref h7, .ref h8])), (h6, .inl (a2, 6, .inl (fun _ => 0)))] s.heap.size = A at Wd ⊢
  refine k_locals (Nat.le_of_ble_eq_true rfl) [(0, .ref h0), (1, .int x0)] rfl (fun ls hl => ?_)
  refine lv_iload_n C.1 C.2.1 dX4_dropItems_0 rfl (lv_at hl 1 rfl) ?_
  refine k_pi (k_runS (rest := []) C aks Wd cs_X4_63 (kcX4_isPass l D x0 _ ) [] rfl (by decide) [] rfl rfl rfl ⟨(Nat.le_of_ble_eq_true rfl), (Nat.le_of_ble_eq_true rfl)⟩ hl.1 rfl rfl (Nat.le_of_ble_eq_true rfl) ⟨(Nat.le_of_ble_eq_true rfl), (Nat.le_of_ble_eq_true rfl)⟩ dX4_dropItems_1) (fun r w3544 => ?_)
  rcases w3544 with ⟨c3545, rfl⟩ | ⟨c3546, c3547, rfl⟩ | ⟨c3548, c3549, rfl⟩
  · refine lv_if_ne (tgt := 9) C.1 C.2.1 dX4_dropItems_4 (by decide) (fun c3550 => absurd c3550 (by decide)) (fun _ => ?_)
    refine lv_iconst (v := 0) C.1 C.2.1 dX4_dropItems_7 (by decide) ?_
    exact k_zret C hr hlk rfl Wd () (Or.inl (⟨c3545, rfl⟩)) [0, 1] rfl (by decide) [] rfl (by decide) (by decide) dX4_dropItems_8
  · refine lv_if_ne (tgt := 9) C.1 C.2.1 dX4_dropItems_4 (by decide) (fun c3551 => absurd c3551 (by decide)) (fun _ => ?_)
    refine lv_iconst (v := 0) C.1 C.2.1 dX4_dropItems_7 (by decide) ?_
    exact k_zret C hr hlk rfl Wd () (Or.inr (Or.inl (⟨c3546, c3547, rfl⟩))) [0, 1] rfl (by decide) [] rfl (by decide) (by decide) dX4_dropItems_8
  · refine lv_if_ne (tgt := 9) C.1 C.2.1 dX4_dropItems_4 (by decide) (fun _ => ?_) (fun c3552 => absurd c3552 (by decide))
    refine lv_aload_n C.1 C.2.1 dX4_dropItems_9 rfl (lv_at hl 0 rfl) ?_
    refine k_get C Wd KX4 0 7 rfl (by decide) fl_X4_23 rfl dX4_dropItems_10 ?_
    refine lv_iload_n C.1 C.2.1 dX4_dropItems_13 rfl (lv_at hl 1 rfl) ?_
    refine lv_iconst (v := 0) C.1 C.2.1 dX4_dropItems_14 (by decide) ?_
    refine k_iast C Wd 1 0 [(h0, .inr (4, [.ref h1, .ref h2, .ref h3, .int (-1), .int (-1), .ref h4, .ref h5, .ref h6, .ref h7, .ref h8])), (h6, .inl (a2, 6, .inl (fun _ => 0)))] rfl rfl (vp_in_iff.mpr ⟨by have z0 := kz_nlt c3548; have z1 := kz_nle c3549; have t0 : (0 : Int32).toInt = 0 := (by decide); have t6 : (6 : Int32).toInt = 6 := (by decide); omega, by have z0 := kz_nlt c3548; have z1 := kz_nle c3549; have t0 : (0 : Int32).toInt = 0 := (by decide); have t6 : (6 : Int32).toInt = 6 := (by decide); omega⟩) (upd0 _) rfl dX4_dropItems_15 (fun H locs Wd => ?_)
    refine lv_iconst (v := 1) C.1 C.2.1 dX4_dropItems_16 (by decide) ?_
    exact k_zret C hr hlk rfl Wd () (Or.inr (Or.inr (⟨c3548, c3549, rfl⟩))) [0, 1] rfl (by decide) [] rfl (by decide) (by decide) dX4_dropItems_17
set_option maxHeartbeats 4000000 in
set_option maxRecDepth 100000 in
theorem kcX11_clear (l : Launch) (D : va_G) (h0 h1 h2 h3 h4 h5 h6 h7 h18 h19 h20 h21 h22 h23 h24 h25 : Nat) (x0 : Int32) (a5 : ClassId) (sz : Nat)  : Met l yX11_clear (Cond.code yX11_clear cX11_clear 2 (some .boolean) :: gG) { frames := 3, cells := 0, slots := 0, locals := 105 } (cPre D [(a5, .int)] [(h0, .inr (11, [.ref h1, .int 0, .ref h2, .ref h3, .ref h4, .ref h5, .ref h6, .ref h7])), (h6, .inr (4, [.ref h18, .ref h19, .ref h20, .int (-1), .int (-1), .ref h21, .ref h22, .ref h23, .ref h24, .ref h25])), (h23, .inl (a5, 6, .inl (fun _ => 0)))] sz [.ref h0, .int x0]) (va_Qi (fun (r : Int32) (_ : Unit) => (x0 < (0 : Int32) ∧ r = 0) ∨ (¬ x0 < (0 : Int32) ∧ (6 : Int32) ≤ x0 ∧ r = 0) ∨ (¬ x0 < (0 : Int32) ∧ ¬ (6 : Int32) ≤ x0 ∧ r = 1)) (fun u t => cB D (va_A [(h0, .inr (11, [.ref h1, .int 0, .ref h2, .ref h3, .ref h4, .ref h5, .ref h6, .ref h7])), (h6, .inr (4, [.ref h18, .ref h19, .ref h20, .int (-1), .int (-1), .ref h21, .ref h22, .ref h23, .ref h24, .ref h25])), (h23, .inl (a5, 6, .inl (fun _ => 0)))] sz) ((fun (_ : Unit) => ([] : List (ClassId × FieldType))) u) ((fun (_ : Unit) => ([] : va_W)) u) t) (va_A [(h0, .inr (11, [.ref h1, .int 0, .ref h2, .ref h3, .ref h4, .ref h5, .ref h6, .ref h7])), (h6, .inr (4, [.ref h18, .ref h19, .ref h20, .int (-1), .int (-1), .ref h21, .ref h22, .ref h23, .ref h24, .ref h25])), (h23, .inl (a5, 6, .inl (fun _ => 0)))] sz)) 0 0 (va_A [(h0, .inr (11, [.ref h1, .int 0, .ref h2, .ref h3, .ref h4, .ref h5, .ref h6, .ref h7])), (h6, .inr (4, [.ref h18, .ref h19, .ref h20, .int (-1), .int (-1), .ref h21, .ref h22, .ref h23, .ref h24, .ref h25])), (h23, .inl (a5, 6, .inl (fun _ => 0)))] sz) := by
  refine Met.ofW (cc := cX11_clear) (maxL := 2) (ret := (some .boolean)) (by decide) rfl ?_
  intro p e s m args below meth c s₁ B hml hv
  obtain ⟨rfl, aks, rfl, Wd⟩ := k_enter hv
  have C : CallFix p m c cX11_clear 2 s _ gG RX11 := ⟨B.exec, B.bytes, hml, findClass_of_methodNamed B.named, fun w h => atoms_spec (ws := Cond.code yX11_clear cX11_clear 2 (some .boolean) :: gG) B.pre w (List.mem_cons_of_mem _ h)⟩
  have hr := B.returns
  have hlk := B.notSynchronized
  generalize va_A [(h0, .inr (11, [.ref h1, .int 0, .ref h2, .ref h3, .ref h4, .ref h5, .ref h6, .ref h7])), (h6, .inr (4, [.ref h18, .ref h19, .ref h20, .int (-1), .int (-1), .ref h21, .ref h22, .ref h23, .ref h24, .ref h25])), (h23, .inl (a5, 6, .inl (fun _ => 0)))] s.heap.size = A at Wd ⊢
  refine k_locals (Nat.le_of_ble_eq_true rfl) [(0, .ref h0), (1, .int x0)] rfl (fun ls hl => ?_)
  refine lv_aload_n C.1 C.2.1 dX11_clear_0 rfl (lv_at hl 0 rfl) ?_
  refine k_get C Wd KX11 0 6 rfl (by decide) fl_X11_50 rfl dX11_clear_1 ?_
  refine lv_iload_n C.1 C.2.1 dX11_clear_4 rfl (lv_at hl 1 rfl) ?_
  refine k_ci Wd [1, 2] [0] rfl (wr := [(h0, .inr (11, [.ref h1, .int 0, .ref h2, .ref h3, .ref h4, .ref h5, .ref h6, .ref h7]))]) rfl (by decide) (by decide) (cells' := 0) (slots' := 0) (by decide) (by decide) (k_runV (rest := []) C aks Wd cs_X11_195 (kcX4_dropItems l D h6 h18 h19 h20 h21 h22 h23 h24 h25 x0 a5 _ ) [1, 2] rfl (by decide) [0] rfl 1 4 rfl rfl rfl rfl rfl ⟨(Nat.le_of_ble_eq_true rfl), (Nat.le_of_ble_eq_true rfl)⟩ hl.1 rfl rfl (Nat.le_of_ble_eq_true rfl) ⟨(Nat.le_of_ble_eq_true rfl), (Nat.le_of_ble_eq_true rfl)⟩ dX11_clear_5) (fun r _ H locs w3559 Wd => ?_)
  have Wd : wX D [(a5, .int)] s [(h0, .inr (11, [.ref h1, .int 0, .ref h2, .ref h3, .ref h4, .ref h5, .ref h6, .ref h7])), (h6, .inr (4, [.ref h18, .ref h19, .ref h20, .int (-1), .int (-1), .ref h21, .ref h22, .ref h23, .ref h24, .ref h25])), (h23, .inl (a5, 6, .inl (fun _ => 0)))] _ A s.heap _ := Wd
  rcases w3559 with ⟨c3560, rfl⟩ | ⟨c3561, c3562, rfl⟩ | ⟨c3563, c3564, rfl⟩
  · exact k_zret C hr hlk rfl Wd () (Or.inl (⟨c3560, rfl⟩)) [] rfl (by decide) [] rfl (by decide) (by decide) dX11_clear_8
  · exact k_zret C hr hlk rfl Wd () (Or.inr (Or.inl (⟨c3561, c3562, rfl⟩))) [] rfl (by decide) [] rfl (by decide) (by decide) dX11_clear_8
  · exact k_zret C hr hlk rfl Wd () (Or.inr (Or.inr (⟨c3563, c3564, rfl⟩))) [] rfl (by decide) [] rfl (by decide) (by decide) dX11_clear_8
set_option maxHeartbeats 4000000 in
set_option maxRecDepth 100000 in
theorem kcX11_make (l : Launch) (D : va_G) (h0 h1 h2 h3 h4 h5 h6 h7 : Nat) (x0 x1 x2 : Int32) (g0 : Nat → Option Nat) (a0 : ClassId) (sz : Nat)  (as0 : x1 < (0 : Int32)): Met l yX11_make (Cond.code yX11_make cX11_make 6 (some .int) :: gG) { frames := 2, cells := 0, slots := 0, locals := 85 } (cPre D [(a0, .object RX8)] [(h0, .inr (11, [.ref h1, .int 0, .ref h2, .ref h3, .ref h4, .ref h5, .ref h6, .ref h7])), (h1, .inl (a0, 6, .inr (.inr (.inr (.inr g0)))))] sz [.ref h0, .int x0, .int x1, .int x2]) (vp_Si (fun r => (x1 < (0 : Int32) ∧ x2 < (0 : Int32) ∧ r = (-1)) ∨ (x1 < (0 : Int32) ∧ ¬ x2 < (0 : Int32) ∧ (6 : Int32) ≤ x2 ∧ r = (-1)) ∨ (x1 < (0 : Int32) ∧ ¬ x2 < (0 : Int32) ∧ ¬ (6 : Int32) ≤ x2 ∧ r = (-1)) ∨ (x1 < (0 : Int32) ∧ ¬ x2 < (0 : Int32) ∧ ¬ (6 : Int32) ≤ x2 ∧ r = (-1)))) 0 0 (fun _ => False) := by
  refine Met.ofW (cc := cX11_make) (maxL := 6) (ret := (some .int)) (by decide) rfl ?_
  intro p e s m args below meth c s₁ B hml hv
  obtain ⟨rfl, aks, rfl, Wd⟩ := k_enter hv
  have C : CallFix p m c cX11_make 6 s _ gG RX11 := ⟨B.exec, B.bytes, hml, findClass_of_methodNamed B.named, fun w h => atoms_spec (ws := Cond.code yX11_make cX11_make 6 (some .int) :: gG) B.pre w (List.mem_cons_of_mem _ h)⟩
  have hr := B.returns
  have hlk := B.notSynchronized
  obtain ⟨A, Wd⟩ : ∃ A, wX D [(a0, .object RX8)] s [(h0, .inr (11, [.ref h1, .int 0, .ref h2, .ref h3, .ref h4, .ref h5, .ref h6, .ref h7])), (h1, .inl (a0, 6, .inr (.inr (.inr (.inr g0)))))] s.heap A s.heap [] := ⟨_, Wd⟩
  refine k_locals (Nat.le_of_ble_eq_true rfl) [(0, .ref h0), (1, .int x0), (2, .int x1), (3, .int x2)] rfl (fun ls hl => ?_)
  refine lv_aload_n C.1 C.2.1 dX11_make_0 rfl (lv_at hl 0 rfl) ?_
  refine lv_iload_n C.1 C.2.1 dX11_make_1 rfl (lv_at hl 2 rfl) ?_
  refine k_pq (k_runV (rest := []) C aks Wd cs_X11_77 (kcX11_slotAt l D h0 h1 h2 h3 h4 h5 h6 h7 x1 g0 a0 _ ) [0, 1] rfl (by decide) [0] rfl 0 11 rfl rfl rfl rfl rfl ⟨(Nat.le_of_ble_eq_true rfl), (Nat.le_of_ble_eq_true rfl)⟩ hl.1 rfl rfl (Nat.le_of_ble_eq_true rfl) ⟨(Nat.le_of_ble_eq_true rfl), (Nat.le_of_ble_eq_true rfl)⟩ dX11_make_2) (fun r w3579 => ?_)
  rcases w3579 with ⟨c3580, rfl⟩ | ⟨c3581, c3582, rfl⟩ | ⟨c3583, c3584, rfl⟩
  · refine W.eq (g2 := F0 m 5 ls [.null]) rfl ?_
    refine lv_astoreN (lv' := [(4, .null), (0, .ref h0), (1, .int x0), (2, .int x1), (3, .int x2)]) C.1 C.2.1 dX11_make_5 hl (by decide) rfl (fun ls hl => ?_)
    refine lv_aload_n C.1 C.2.1 dX11_make_7 rfl (lv_at hl 1 rfl) ?_
    refine lv_iload_n C.1 C.2.1 dX11_make_8 rfl (lv_at hl 4 rfl) ?_
    refine k_pq (k_runV (rest := []) C aks Wd cs_X11_77 (kcX11_slotAt l D h0 h1 h2 h3 h4 h5 h6 h7 x2 g0 a0 _ ) [0, 1] rfl (by decide) [0] rfl 0 11 rfl rfl rfl rfl rfl ⟨(Nat.le_of_ble_eq_true rfl), (Nat.le_of_ble_eq_true rfl)⟩ hl.1 rfl rfl (Nat.le_of_ble_eq_true rfl) ⟨(Nat.le_of_ble_eq_true rfl), (Nat.le_of_ble_eq_true rfl)⟩ dX11_make_9) (fun r w3585 => ?_)
    rcases w3585 with ⟨c3586, rfl⟩ | ⟨c3587, c3588, rfl⟩ | ⟨c3589, c3590, rfl⟩
    · refine W.eq (g2 := F0 m 12 ls [.null]) rfl ?_
      refine lv_astoreN (lv' := [(5, .null), (4, .null), (0, .ref h0), (1, .int x0), (2, .int x1), (3, .int x2)]) C.1 C.2.1 dX11_make_12 hl (by decide) rfl (fun ls hl => ?_)
      refine lv_aloadN C.1 C.2.1 dX11_make_14 (lv_at hl 1 rfl) ?_
      refine lv_ifnullN (tgt := 37) C.1 C.2.1 dX11_make_16 (by decide) ?_
      refine lv_iconst (v := (-1)) C.1 C.2.1 dX11_make_37 (by decide) ?_
      exact k_zretP C hr hlk rfl (Or.inl (⟨c3580, c3586, rfl⟩)) dX11_make_38
    · refine W.eq (g2 := F0 m 12 ls [.null]) rfl ?_
      refine lv_astoreN (lv' := [(5, .null), (4, .null), (0, .ref h0), (1, .int x0), (2, .int x1), (3, .int x2)]) C.1 C.2.1 dX11_make_12 hl (by decide) rfl (fun ls hl => ?_)
      refine lv_aloadN C.1 C.2.1 dX11_make_14 (lv_at hl 1 rfl) ?_
      refine lv_ifnullN (tgt := 37) C.1 C.2.1 dX11_make_16 (by decide) ?_
      refine lv_iconst (v := (-1)) C.1 C.2.1 dX11_make_37 (by decide) ?_
      exact k_zretP C hr hlk rfl (Or.inr (Or.inl (⟨c3580, c3587, c3588, rfl⟩))) dX11_make_38
    · cases hq3591 : (g0 x2.toNatClampNeg) with
      | none =>
        refine W.eq (g2 := F0 m 12 ls [.null]) rfl ?_
        refine lv_astoreN (lv' := [(5, .null), (4, .null), (0, .ref h0), (1, .int x0), (2, .int x1), (3, .int x2)]) C.1 C.2.1 dX11_make_12 hl (by decide) rfl (fun ls hl => ?_)
        refine lv_aloadN C.1 C.2.1 dX11_make_14 (lv_at hl 1 rfl) ?_
        refine lv_ifnullN (tgt := 37) C.1 C.2.1 dX11_make_16 (by decide) ?_
        refine lv_iconst (v := (-1)) C.1 C.2.1 dX11_make_37 (by decide) ?_
        exact k_zretP C hr hlk rfl (Or.inr (Or.inr (Or.inl (⟨c3580, c3589, c3590, rfl⟩)))) dX11_make_38
      | some q3592 =>
        refine W.eq (g2 := F0 m 12 ls [.ref q3592]) rfl ?_
        refine lv_astore (lv' := [(5, .ref q3592), (4, .null), (0, .ref h0), (1, .int x0), (2, .int x1), (3, .int x2)]) C.1 C.2.1 dX11_make_12 hl (by decide) rfl (fun ls hl => ?_)
        refine lv_aloadN C.1 C.2.1 dX11_make_14 (lv_at hl 1 rfl) ?_
        refine lv_ifnullN (tgt := 37) C.1 C.2.1 dX11_make_16 (by decide) ?_
        refine lv_iconst (v := (-1)) C.1 C.2.1 dX11_make_37 (by decide) ?_
        exact k_zretP C hr hlk rfl (Or.inr (Or.inr (Or.inr (⟨c3580, c3589, c3590, rfl⟩)))) dX11_make_38
  · exact absurd as0 c3581
  · exact absurd as0 c3583
