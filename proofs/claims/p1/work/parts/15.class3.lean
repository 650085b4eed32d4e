set_option maxHeartbeats 4000000 in
set_option maxRecDepth 100000 in
theorem kcX11_clash (l : Launch) (D : va_G) (h0 h1 h2 h3 h4 h5 h6 h7 : Nat) (x0 x1 x2 : Int32) (g0 : Nat → Option Nat) (a0 : ClassId) (sz : Nat)  (as0 : x0 < (0 : Int32)): Met l yX11_clash (Cond.code yX11_clash cX11_clash 5 (some .int) :: gG) { frames := 2, cells := 0, slots := 0, locals := 85 } (cPre D [(a0, .object RX8)] [(h0, .inr (11, [.ref h1, .int 0, .ref h2, .ref h3, .ref h4, .ref h5, .ref h6, .ref h7])), (h1, .inl (a0, 6, .inr (.inr (.inr (.inr g0)))))] sz [.ref h0, .int x0, .int x1, .int x2]) (vp_Si (fun r => x0 < (0 : Int32) ∧ r = (-1))) 0 0 (fun _ => False) := by
  refine Met.ofW (cc := cX11_clash) (maxL := 5) (ret := (some .int)) (by decide) rfl ?_
  intro p e s m args below meth c s₁ B hml hv
  obtain ⟨rfl, aks, rfl, Wd⟩ := k_enter hv
  have C : CallFix p m c cX11_clash 5 s _ gG RX11 := ⟨B.exec, B.bytes, hml, findClass_of_methodNamed B.named, fun w h => atoms_spec (ws := Cond.code yX11_clash cX11_clash 5 (some .int) :: gG) B.pre w (List.mem_cons_of_mem _ h)⟩
  have hr := B.returns
  have hlk := B.notSynchronized
  obtain ⟨A, Wd⟩ : ∃ A, wX D [(a0, .object RX8)] s [(h0, .inr (11, [.ref h1, .int 0, .ref h2, .ref h3, .ref h4, .ref h5, .ref h6, .ref h7])), (h1, .inl (a0, 6, .inr (.inr (.inr (.inr g0)))))] s.heap A s.heap [] := ⟨_, Wd⟩
  refine k_locals (Nat.le_of_ble_eq_true rfl) [(0, .ref h0), (1, .int x0), (2, .int x1), (3, .int x2)] rfl (fun ls hl => ?_)
  refine lv_aload_n C.1 C.2.1 dX11_clash_0 rfl (lv_at hl 0 rfl) ?_
  refine lv_iload_n C.1 C.2.1 dX11_clash_1 rfl (lv_at hl 1 rfl) ?_
  refine k_pq (k_runV (rest := []) C aks Wd cs_X11_77 (kcX11_slotAt l D h0 h1 h2 h3 h4 h5 h6 h7 x0 g0 a0 _ ) [0, 1] rfl (by decide) [0] rfl 0 11 rfl rfl rfl rfl rfl ⟨(Nat.le_of_ble_eq_true rfl), (Nat.le_of_ble_eq_true rfl)⟩ hl.1 rfl rfl (Nat.le_of_ble_eq_true rfl) ⟨(Nat.le_of_ble_eq_true rfl), (Nat.le_of_ble_eq_true rfl)⟩ dX11_clash_2) (fun r w2735 => ?_)
  rcases w2735 with ⟨c2736, rfl⟩ | ⟨c2737, c2738, rfl⟩ | ⟨c2739, c2740, rfl⟩
  · refine W.eq (g2 := F0 m 5 ls [.null]) rfl ?_
    refine lv_astoreN (lv' := [(4, .null), (0, .ref h0), (1, .int x0), (2, .int x1), (3, .int x2)]) C.1 C.2.1 dX11_clash_5 hl (by decide) rfl (fun ls hl => ?_)
    refine lv_aloadN C.1 C.2.1 dX11_clash_7 (lv_at hl 0 rfl) ?_
    refine lv_ifnullN (tgt := 31) C.1 C.2.1 dX11_clash_9 (by decide) ?_
    refine lv_iconst (v := (-1)) C.1 C.2.1 dX11_clash_31 (by decide) ?_
    exact k_zretP C hr hlk rfl ⟨c2736, rfl⟩ dX11_clash_32
  · exact False.elim (by have z0 := kz_lt as0; have z1 := kz_nlt c2737; have t0 : (0 : Int32).toInt = 0 := (by decide); omega)
  · exact False.elim (by have z0 := kz_lt as0; have z1 := kz_nlt c2739; have t0 : (0 : Int32).toInt = 0 := (by decide); omega)
set_option maxHeartbeats 4000000 in
set_option maxRecDepth 100000 in
theorem kcX11_clash_v1 (l : Launch) (D : va_G) (h0 h1 h2 h3 h4 h5 h6 h7 : Nat) (x0 x1 x2 : Int32) (g0 : Nat → Option Nat) (a0 : ClassId) (sz : Nat)  (as0 : ¬ x0 < (6 : Int32)): Met l yX11_clash (Cond.code yX11_clash cX11_clash 5 (some .int) :: gG) { frames := 2, cells := 0, slots := 0, locals := 85 } (cPre D [(a0, .object RX8)] [(h0, .inr (11, [.ref h1, .int 0, .ref h2, .ref h3, .ref h4, .ref h5, .ref h6, .ref h7])), (h1, .inl (a0, 6, .inr (.inr (.inr (.inr g0)))))] sz [.ref h0, .int x0, .int x1, .int x2]) (vp_Si (fun r => ¬ x0 < (0 : Int32) ∧ (6 : Int32) ≤ x0 ∧ r = (-1))) 0 0 (fun _ => False) := by
  refine Met.ofW (cc := cX11_clash) (maxL := 5) (ret := (some .int)) (by decide) rfl ?_
  intro p e s m args below meth c s₁ B hml hv
  obtain ⟨rfl, aks, rfl, Wd⟩ := k_enter hv
  have C : CallFix p m c cX11_clash 5 s _ gG RX11 := ⟨B.exec, B.bytes, hml, findClass_of_methodNamed B.named, fun w h => atoms_spec (ws := Cond.code yX11_clash cX11_clash 5 (some .int) :: gG) B.pre w (List.mem_cons_of_mem _ h)⟩
  have hr := B.returns
  have hlk := B.notSynchronized
  obtain ⟨A, Wd⟩ : ∃ A, wX D [(a0, .object RX8)] s [(h0, .inr (11, [.ref h1, .int 0, .ref h2, .ref h3, .ref h4, .ref h5, .ref h6, .ref h7])), (h1, .inl (a0, 6, .inr (.inr (.inr (.inr g0)))))] s.heap A s.heap [] := ⟨_, Wd⟩
  refine k_locals (Nat.le_of_ble_eq_true rfl) [(0, .ref h0), (1, .int x0), (2, .int x1), (3, .int x2)] rfl (fun ls hl => ?_)
  refine lv_aload_n C.1 C.2.1 dX11_clash_0 rfl (lv_at hl 0 rfl) ?_
  refine lv_iload_n C.1 C.2.1 dX11_clash_1 rfl (lv_at hl 1 rfl) ?_
  refine k_pq (k_runV (rest := []) C aks Wd cs_X11_77 (kcX11_slotAt l D h0 h1 h2 h3 h4 h5 h6 h7 x0 g0 a0 _ ) [0, 1] rfl (by decide) [0] rfl 0 11 rfl rfl rfl rfl rfl ⟨(Nat.le_of_ble_eq_true rfl), (Nat.le_of_ble_eq_true rfl)⟩ hl.1 rfl rfl (Nat.le_of_ble_eq_true rfl) ⟨(Nat.le_of_ble_eq_true rfl), (Nat.le_of_ble_eq_true rfl)⟩ dX11_clash_2) (fun r w2747 => ?_)
  rcases w2747 with ⟨c2748, rfl⟩ | ⟨c2749, c2750, rfl⟩ | ⟨c2751, c2752, rfl⟩
  · exact False.elim (by have z0 := kz_nlt as0; have z1 := kz_lt c2748; have t6 : (6 : Int32).toInt = 6 := (by decide); have t0 : (0 : Int32).toInt = 0 := (by decide); omega)
  · refine W.eq (g2 := F0 m 5 ls [.null]) rfl ?_
    refine lv_astoreN (lv' := [(4, .null), (0, .ref h0), (1, .int x0), (2, .int x1), (3, .int x2)]) C.1 C.2.1 dX11_clash_5 hl (by decide) rfl (fun ls hl => ?_)
    refine lv_aloadN C.1 C.2.1 dX11_clash_7 (lv_at hl 0 rfl) ?_
    refine lv_ifnullN (tgt := 31) C.1 C.2.1 dX11_clash_9 (by decide) ?_
    refine lv_iconst (v := (-1)) C.1 C.2.1 dX11_clash_31 (by decide) ?_
    exact k_zretP C hr hlk rfl ⟨c2749, c2750, rfl⟩ dX11_clash_32
  · exact False.elim (by have z0 := kz_nlt as0; have z1 := kz_nlt c2751; have z2 := kz_nle c2752; have t6 : (6 : Int32).toInt = 6 := (by decide); have t0 : (0 : Int32).toInt = 0 := (by decide); omega)
set_option maxHeartbeats 4000000 in
set_option maxRecDepth 100000 in
theorem kcX7_clashing (l : Launch) (D : va_G) (h0 h1 h2 h3 h4 : Nat) (x0 x1 : Int32) (a0 : ClassId) (sz : Nat)  : Met l yX7_clashing (Cond.code yX7_clashing cX7_clashing 3 (some .boolean) :: gG) { frames := 2, cells := 0, slots := 0, locals := 84 } (cPre D [(a0, .int)] [(h0, .inr (7, [.ref h1, .ref h2, .ref h3, .ref h4, .int 0])), (h2, .inl (a0, 6, .inl (fun _ => 0)))] sz [.ref h0, .int x0, .int x1]) (vp_Si (fun r => (x0 < (0 : Int32) ∧ r = 0) ∨ (¬ x0 < (0 : Int32) ∧ (6 : Int32) ≤ x0 ∧ r = 0) ∨ (¬ x0 < (0 : Int32) ∧ ¬ (6 : Int32) ≤ x0 ∧ x1 < (0 : Int32) ∧ r = 0) ∨ (¬ x0 < (0 : Int32) ∧ ¬ (6 : Int32) ≤ x0 ∧ ¬ x1 < (0 : Int32) ∧ (6 : Int32) ≤ x1 ∧ r = 0) ∨ (¬ x0 < (0 : Int32) ∧ ¬ (6 : Int32) ≤ x0 ∧ ¬ x1 < (0 : Int32) ∧ ¬ (6 : Int32) ≤ x1 ∧ ((0 >>> (x1 &&& 31)) &&& 1) = (0 : Int32) ∧ r = 0) ∨ (¬ x0 < (0 : Int32) ∧ ¬ (6 : Int32) ≤ x0 ∧ ¬ x1 < (0 : Int32) ∧ ¬ (6 : Int32) ≤ x1 ∧ ¬ ((0 >>> (x1 &&& 31)) &&& 1) = (0 : Int32) ∧ r = 1))) 0 0 (fun _ => False) := by
  refine Met.ofW (cc := cX7_clashing) (maxL := 3) (ret := (some .boolean)) (by decide) rfl ?_
  intro p e s m args below meth c s₁ B hml hv
  obtain ⟨rfl, aks, rfl, Wd⟩ := k_enter hv
  have C : CallFix p m c cX7_clashing 3 s _ gG RX7 := ⟨B.exec, B.bytes, hml, findClass_of_methodNamed B.named, fun w h => atoms_spec (ws := Cond.code yX7_clashing cX7_clashing 3 (some .boolean) :: gG) B.pre w (List.mem_cons_of_mem _ h)⟩
  have hr := B.returns
  have hlk := B.notSynchronized
  obtain ⟨A, Wd⟩ : ∃ A, wX D [(a0, .int)] s [(h0, .inr (7, [.ref h1, .ref h2, .ref h3, .ref h4, .int 0])), (h2, .inl (a0, 6, .inl (fun _ => 0)))] s.heap A s.heap [] := ⟨_, Wd⟩
  refine k_locals (Nat.le_of_ble_eq_true rfl) [(0, .ref h0), (1, .int x0), (2, .int x1)] rfl (fun ls hl => ?_)
  refine lv_iload_n C.1 C.2.1 dX7_clashing_0 rfl (lv_at hl 1 rfl) ?_
  refine k_pi (k_runN (rest := []) C aks Wd aks.2.2.2 cs_X7_71 (kcX11_isVariable l D x0 _ ) [] rfl (by decide) [] rfl rfl rfl ⟨(Nat.le_of_ble_eq_true rfl), (Nat.le_of_ble_eq_true rfl)⟩ hl.1 rfl rfl (Nat.le_of_ble_eq_true rfl) ⟨(Nat.le_of_ble_eq_true rfl), (Nat.le_of_ble_eq_true rfl)⟩ dX7_clashing_1) (fun r w2798 => ?_)
  rcases w2798 with ⟨c2799, rfl⟩ | ⟨c2800, c2801, rfl⟩ | ⟨c2802, c2803, rfl⟩
  · refine lv_if_eq (tgt := 31) C.1 C.2.1 dX7_clashing_4 (by decide) (fun _ => ?_) (fun c2804 => absurd c2804 (by decide))
    refine lv_iconst (v := 0) C.1 C.2.1 dX7_clashing_31 (by decide) ?_
    exact k_zretP C hr hlk rfl (Or.inl (⟨c2799, rfl⟩)) dX7_clashing_32
  · refine lv_if_eq (tgt := 31) C.1 C.2.1 dX7_clashing_4 (by decide) (fun _ => ?_) (fun c2805 => absurd c2805 (by decide))
    refine lv_iconst (v := 0) C.1 C.2.1 dX7_clashing_31 (by decide) ?_
    exact k_zretP C hr hlk rfl (Or.inr (Or.inl (⟨c2800, c2801, rfl⟩))) dX7_clashing_32
  · refine lv_if_eq (tgt := 31) C.1 C.2.1 dX7_clashing_4 (by decide) (fun c2806 => absurd c2806 (by decide)) (fun _ => ?_)
    refine lv_iload_n C.1 C.2.1 dX7_clashing_7 rfl (lv_at hl 2 rfl) ?_
    refine k_pi (k_runN (rest := []) C aks Wd aks.2.2.2 cs_X7_71 (kcX11_isVariable l D x1 _ ) [] rfl (by decide) [] rfl rfl rfl ⟨(Nat.le_of_ble_eq_true rfl), (Nat.le_of_ble_eq_true rfl)⟩ hl.1 rfl rfl (Nat.le_of_ble_eq_true rfl) ⟨(Nat.le_of_ble_eq_true rfl), (Nat.le_of_ble_eq_true rfl)⟩ dX7_clashing_8) (fun r w2807 => ?_)
    rcases w2807 with ⟨c2808, rfl⟩ | ⟨c2809, c2810, rfl⟩ | ⟨c2811, c2812, rfl⟩
    · refine lv_if_eq (tgt := 31) C.1 C.2.1 dX7_clashing_11 (by decide) (fun _ => ?_) (fun c2813 => absurd c2813 (by decide))
      refine lv_iconst (v := 0) C.1 C.2.1 dX7_clashing_31 (by decide) ?_
      exact k_zretP C hr hlk rfl (Or.inr (Or.inr (Or.inl (⟨c2802, c2803, c2808, rfl⟩)))) dX7_clashing_32
    · refine lv_if_eq (tgt := 31) C.1 C.2.1 dX7_clashing_11 (by decide) (fun _ => ?_) (fun c2814 => absurd c2814 (by decide))
      refine lv_iconst (v := 0) C.1 C.2.1 dX7_clashing_31 (by decide) ?_
      exact k_zretP C hr hlk rfl (Or.inr (Or.inr (Or.inr (Or.inl (⟨c2802, c2803, c2809, c2810, rfl⟩))))) dX7_clashing_32
    · refine lv_if_eq (tgt := 31) C.1 C.2.1 dX7_clashing_11 (by decide) (fun c2815 => absurd c2815 (by decide)) (fun _ => ?_)
      refine lv_aload_n C.1 C.2.1 dX7_clashing_14 rfl (lv_at hl 0 rfl) ?_
      refine k_get C Wd KX7 0 1 rfl (by decide) fl_X7_18 rfl dX7_clashing_15 ?_
      refine lv_iload_n C.1 C.2.1 dX7_clashing_18 rfl (lv_at hl 1 rfl) ?_
      refine k_iald (v := 0) C Wd 1 0 rfl rfl (vp_in_iff.mpr ⟨by have z0 := kz_nlt c2802; have z1 := kz_nle c2803; have t0 : (0 : Int32).toInt = 0 := (by decide); have t6 : (6 : Int32).toInt = 6 := (by decide); omega, by have z0 := kz_nlt c2802; have z1 := kz_nle c2803; have t0 : (0 : Int32).toInt = 0 := (by decide); have t6 : (6 : Int32).toInt = 6 := (by decide); omega⟩) rfl dX7_clashing_19 ?_
      refine lv_iload_n C.1 C.2.1 dX7_clashing_20 rfl (lv_at hl 2 rfl) ?_
      refine k_ishr (v := (0 >>> (x1 &&& 31))) C rfl dX7_clashing_21 ?_
      refine lv_iconst (v := 1) C.1 C.2.1 dX7_clashing_22 (by decide) ?_
      refine k_iand (v := ((0 >>> (x1 &&& 31)) &&& 1)) C rfl dX7_clashing_23 ?_
      refine lv_if_eq (tgt := 31) C.1 C.2.1 dX7_clashing_24 (by decide) (fun c2816 => ?_) (fun c2816 => ?_)
      · refine lv_iconst (v := 0) C.1 C.2.1 dX7_clashing_31 (by decide) ?_
        exact k_zretP C hr hlk rfl (Or.inr (Or.inr (Or.inr (Or.inr (Or.inl (⟨c2802, c2803, c2811, c2812, c2816, rfl⟩)))))) dX7_clashing_32
      · refine lv_iconst (v := 1) C.1 C.2.1 dX7_clashing_27 (by decide) ?_
        refine lv_goto (tgt := 32) C.1 C.2.1 dX7_clashing_28 (by decide) ?_
        exact k_zretP C hr hlk rfl (Or.inr (Or.inr (Or.inr (Or.inr (Or.inr (⟨c2802, c2803, c2811, c2812, c2816, rfl⟩)))))) dX7_clashing_32
set_option maxHeartbeats 4000000 in
set_option maxRecDepth 100000 in
theorem kcX11_clash_v2 (l : Launch) (D : va_G) (h0 h1 h2 h3 h4 h5 h6 h7 h8 h27 h28 h29 h30 h31 h68 h69 h70 h71 h72 h73 h74 h75 h76 h77 h78 h79 h80 : Nat) (x0 x1 x2 : Int32) (g0 : Nat → Option Nat) (a0 a6 a7 a13 : ClassId) (sz : Nat) (k_g0_x0 : g0 x0.toNatClampNeg = some h8) (as0 : ¬ x0 < (0 : Int32)) (as1 : x0 < (6 : Int32)): Met l yX11_clash (Cond.code yX11_clash cX11_clash 5 (some .int) :: gG) { frames := 4, cells := 0, slots := 0, locals := 131 } (cPre D [(a0, .object RX8), (a6, .int), (a7, .int), (a13, .int)] [(h0, .inr (11, [.ref h1, .int 0, .ref h2, .ref h3, .ref h4, .ref h5, .ref h6, .ref h7])), (h1, .inl (a0, 6, .inr (.inr (.inr (.inr g0))))), (h7, .inr (7, [.ref h27, .ref h28, .ref h29, .ref h30, .int 0])), (h27, .inr (1, [.ref h68, .int 0, .ref h69, .ref h70, .ref h71, .ref h72, .ref h73, .ref h74, .ref h75, .ref h76, .ref h77, .ref h78, .ref h79, .ref h80])), (h8, .inr (8, [.ref h31, .int 0])), (h80, .inl (a13, 480, .inl (fun _ => 0))), (h28, .inl (a6, 6, .inl (fun _ => 0))), (h29, .inl (a7, 6, .inl (fun _ => 0)))] sz [.ref h0, .int x0, .int x1, .int x2]) (va_Qi (fun (r : Int32) (_ : Unit) => (¬ x0 < (0 : Int32) ∧ ¬ (6 : Int32) ≤ x0 ∧ x1 < (0 : Int32) ∧ r = (-1)) ∨ (¬ x0 < (0 : Int32) ∧ ¬ (6 : Int32) ≤ x0 ∧ ¬ x1 < (0 : Int32) ∧ (6 : Int32) ≤ x1 ∧ r = (-1)) ∨ (¬ x0 < (0 : Int32) ∧ ¬ (6 : Int32) ≤ x0 ∧ ¬ x1 < (0 : Int32) ∧ ¬ (6 : Int32) ≤ x1 ∧ x2 < (0 : Int32) ∧ r = (-1)) ∨ (¬ x0 < (0 : Int32) ∧ ¬ (6 : Int32) ≤ x0 ∧ ¬ x1 < (0 : Int32) ∧ ¬ (6 : Int32) ≤ x1 ∧ ¬ x2 < (0 : Int32) ∧ (6 : Int32) ≤ x2 ∧ r = (-1)) ∨ (¬ x0 < (0 : Int32) ∧ ¬ (6 : Int32) ≤ x0 ∧ ¬ x1 < (0 : Int32) ∧ ¬ (6 : Int32) ≤ x1 ∧ ¬ x2 < (0 : Int32) ∧ ¬ (6 : Int32) ≤ x2 ∧ ¬ x1 = x2 ∧ ¬ x1 < (0 : Int32) ∧ ¬ (6 : Int32) ≤ x1 ∧ ¬ x2 < (0 : Int32) ∧ ¬ (6 : Int32) ≤ x2 ∧ ((0 >>> (x2 &&& 31)) &&& 1) = (0 : Int32) ∧ r = 0) ∨ (¬ x0 < (0 : Int32) ∧ ¬ (6 : Int32) ≤ x0 ∧ ¬ x1 < (0 : Int32) ∧ ¬ (6 : Int32) ≤ x1 ∧ ¬ x2 < (0 : Int32) ∧ ¬ (6 : Int32) ≤ x2 ∧ ¬ x1 = x2 ∧ ¬ x1 < (0 : Int32) ∧ ¬ (6 : Int32) ≤ x1 ∧ ¬ x2 < (0 : Int32) ∧ ¬ (6 : Int32) ≤ x2 ∧ ¬ ((0 >>> (x2 &&& 31)) &&& 1) = (0 : Int32) ∧ r = 1) ∨ (¬ x0 < (0 : Int32) ∧ ¬ (6 : Int32) ≤ x0 ∧ ¬ x1 < (0 : Int32) ∧ ¬ (6 : Int32) ≤ x1 ∧ ¬ x2 < (0 : Int32) ∧ ¬ (6 : Int32) ≤ x2 ∧ x1 = x2 ∧ r = (-1))) (fun u t => cB D (va_A [(h0, .inr (11, [.ref h1, .int 0, .ref h2, .ref h3, .ref h4, .ref h5, .ref h6, .ref h7])), (h1, .inl (a0, 6, .inr (.inr (.inr (.inr g0))))), (h7, .inr (7, [.ref h27, .ref h28, .ref h29, .ref h30, .int 0])), (h27, .inr (1, [.ref h68, .int 0, .ref h69, .ref h70, .ref h71, .ref h72, .ref h73, .ref h74, .ref h75, .ref h76, .ref h77, .ref h78, .ref h79, .ref h80])), (h8, .inr (8, [.ref h31, .int 0])), (h80, .inl (a13, 480, .inl (fun _ => 0))), (h28, .inl (a6, 6, .inl (fun _ => 0))), (h29, .inl (a7, 6, .inl (fun _ => 0)))] sz) ((fun (_ : Unit) => ([] : List (ClassId × FieldType))) u) ((fun (_ : Unit) => ([] : va_W)) u) t) (va_A [(h0, .inr (11, [.ref h1, .int 0, .ref h2, .ref h3, .ref h4, .ref h5, .ref h6, .ref h7])), (h1, .inl (a0, 6, .inr (.inr (.inr (.inr g0))))), (h7, .inr (7, [.ref h27, .ref h28, .ref h29, .ref h30, .int 0])), (h27, .inr (1, [.ref h68, .int 0, .ref h69, .ref h70, .ref h71, .ref h72, .ref h73, .ref h74, .ref h75, .ref h76, .ref h77, .ref h78, .ref h79, .ref h80])), (h8, .inr (8, [.ref h31, .int 0])), (h80, .inl (a13, 480, .inl (fun _ => 0))), (h28, .inl (a6, 6, .inl (fun _ => 0))), (h29, .inl (a7, 6, .inl (fun _ => 0)))] sz)) 0 0 (va_A [(h0, .inr (11, [.ref h1, .int 0, .ref h2, .ref h3, .ref h4, .ref h5, .ref h6, .ref h7])), (h1, .inl (a0, 6, .inr (.inr (.inr (.inr g0))))), (h7, .inr (7, [.ref h27, .ref h28, .ref h29, .ref h30, .int 0])), (h27, .inr (1, [.ref h68, .int 0, .ref h69, .ref h70, .ref h71, .ref h72, .ref h73, .ref h74, .ref h75, .ref h76, .ref h77, .ref h78, .ref h79, .ref h80])), (h8, .inr (8, [.ref h31, .int 0])), (h80, .inl (a13, 480, .inl (fun _ => 0))), (h28, .inl (a6, 6, .inl (fun _ => 0))), (h29, .inl (a7, 6, .inl (fun _ => 0)))] sz) := by
  refine Met.ofW (cc := cX11_clash) (maxL := 5) (ret := (some .int)) (by decide) rfl ?_
  intro p e s m args below meth c s₁ B hml hv
  obtain ⟨rfl, aks, rfl, Wd⟩ := k_enter hv
  have C : CallFix p m c cX11_clash 5 s _ gG RX11 := ⟨B.exec, B.bytes, hml, findClass_of_methodNamed B.named, fun w h => atoms_spec (ws := Cond.code yX11_clash cX11_clash 5 (some .int) :: gG) B.pre w (List.mem_cons_of_mem _ h)⟩
  have hr := B.returns
  have hlk := B.notSynchronized
  generalize va_A [(h0, .inr (11, [.ref h1, .int 0, .ref h2, .ref h3, .ref h4, .ref h5, .ref h6, .ref h7])), (h1, .inl (a0, 6, .inr (.inr (.inr (.inr g0))))), (h7, .inr (7, [.ref h27, .ref h28, .ref h29, .ref h30, .int 0])), (h27, .inr (1, [.ref h68, .int 0, .ref h69, .ref h70, .ref h71, .ref h72, .ref h73, .ref h74, .ref h75, .ref h76, .ref h77, .ref h78, .ref h79, .ref h80])), (h8, .inr (8, [.ref h31, .int 0])), (h80, .inl (a13, 480, .inl (fun _ => 0))), (h28, .inl (a6, 6, .inl (fun _ => 0))), (h29, .inl (a7, 6, .inl (fun _ => 0)))] s.heap.size = A at Wd ⊢
  refine k_locals (Nat.le_of_ble_eq_true rfl) [(0, .ref h0), (1, .int x0), (2, .int x1), (3, .int x2)] rfl (fun ls hl => ?_)
  refine lv_aload_n C.1 C.2.1 dX11_clash_0 rfl (lv_at hl 0 rfl) ?_
  refine lv_iload_n C.1 C.2.1 dX11_clash_1 rfl (lv_at hl 1 rfl) ?_
  refine k_pq (k_runV (rest := []) C aks Wd cs_X11_77 (kcX11_slotAt l D h0 h1 h2 h3 h4 h5 h6 h7 x0 g0 a0 _ ) [0, 1] rfl (by decide) [0] rfl 0 11 rfl rfl rfl rfl rfl ⟨(Nat.le_of_ble_eq_true rfl), (Nat.le_of_ble_eq_true rfl)⟩ hl.1 rfl rfl (Nat.le_of_ble_eq_true rfl) ⟨(Nat.le_of_ble_eq_true rfl), (Nat.le_of_ble_eq_true rfl)⟩ dX11_clash_2) (fun r w2840 => ?_)
  rcases w2840 with ⟨c2841, rfl⟩ | ⟨c2842, c2843, rfl⟩ | ⟨c2844, c2845, rfl⟩
  · exact False.elim (by have z0 := kz_nlt as0; have z1 := kz_lt as1; have z2 := kz_lt c2841; have t0 : (0 : Int32).toInt = 0 := (by decide); have t6 : (6 : Int32).toInt = 6 := (by decide); omega)
  · exact False.elim (by have z0 := kz_nlt as0; have z1 := kz_lt as1; have z2 := kz_nlt c2842; have z3 := kz_le c2843; have t0 : (0 : Int32).toInt = 0 := (by decide); have t6 : (6 : Int32).toInt = 6 := (by decide); omega)
  · refine W.eq (g2 := F0 m 5 ls [.ref h8]) (by rw [show (g0 x0.toNatClampNeg) = some h8 from k_g0_x0]; rfl) ?_
    refine lv_astore (lv' := [(4, .ref h8), (0, .ref h0), (1, .int x0), (2, .int x1), (3, .int x2)]) C.1 C.2.1 dX11_clash_5 hl (by decide) rfl (fun ls hl => ?_)
    refine lv_aload C.1 C.2.1 dX11_clash_7 (lv_at hl 0 rfl) ?_
    refine lv_ifnull C.1 C.2.1 dX11_clash_9 ?_
    refine lv_iload_n C.1 C.2.1 dX11_clash_12 rfl (lv_at hl 3 rfl) ?_
    refine k_pi (k_runS (rest := []) C aks Wd cs_X11_232 (kcX11_isVariable l D x1 _ ) [] rfl (by decide) [] rfl rfl rfl ⟨(Nat.le_of_ble_eq_true rfl), (Nat.le_of_ble_eq_true rfl)⟩ hl.1 rfl rfl (Nat.le_of_ble_eq_true rfl) ⟨(Nat.le_of_ble_eq_true rfl), (Nat.le_of_ble_eq_true rfl)⟩ dX11_clash_13) (fun r w2846 => ?_)
    rcases w2846 with ⟨c2847, rfl⟩ | ⟨c2848, c2849, rfl⟩ | ⟨c2850, c2851, rfl⟩
    · refine lv_if_eq (tgt := 31) C.1 C.2.1 dX11_clash_16 (by decide) (fun _ => ?_) (fun c2852 => absurd c2852 (by decide))
      refine lv_iconst (v := (-1)) C.1 C.2.1 dX11_clash_31 (by decide) ?_
      exact k_zret C hr hlk rfl Wd () (Or.inl (⟨c2844, c2845, c2847, rfl⟩)) [] rfl (by decide) [] rfl (by decide) (by decide) dX11_clash_32
    · refine lv_if_eq (tgt := 31) C.1 C.2.1 dX11_clash_16 (by decide) (fun _ => ?_) (fun c2853 => absurd c2853 (by decide))
      refine lv_iconst (v := (-1)) C.1 C.2.1 dX11_clash_31 (by decide) ?_
      exact k_zret C hr hlk rfl Wd () (Or.inr (Or.inl (⟨c2844, c2845, c2848, c2849, rfl⟩))) [] rfl (by decide) [] rfl (by decide) (by decide) dX11_clash_32
    · refine lv_if_eq (tgt := 31) C.1 C.2.1 dX11_clash_16 (by decide) (fun c2854 => absurd c2854 (by decide)) (fun _ => ?_)
      refine lv_iload_n C.1 C.2.1 dX11_clash_19 rfl (lv_at hl 4 rfl) ?_
      refine k_pi (k_runS (rest := []) C aks Wd cs_X11_232 (kcX11_isVariable l D x2 _ ) [] rfl (by decide) [] rfl rfl rfl ⟨(Nat.le_of_ble_eq_true rfl), (Nat.le_of_ble_eq_true rfl)⟩ hl.1 rfl rfl (Nat.le_of_ble_eq_true rfl) ⟨(Nat.le_of_ble_eq_true rfl), (Nat.le_of_ble_eq_true rfl)⟩ dX11_clash_20) (fun r w2855 => ?_)
      rcases w2855 with ⟨c2856, rfl⟩ | ⟨c2857, c2858, rfl⟩ | ⟨c2859, c2860, rfl⟩
      · refine lv_if_eq (tgt := 31) C.1 C.2.1 dX11_clash_23 (by decide) (fun _ => ?_) (fun c2861 => absurd c2861 (by decide))
        refine lv_iconst (v := (-1)) C.1 C.2.1 dX11_clash_31 (by decide) ?_
        exact k_zret C hr hlk rfl Wd () (Or.inr (Or.inr (Or.inl (⟨c2844, c2845, c2850, c2851, c2856, rfl⟩)))) [] rfl (by decide) [] rfl (by decide) (by decide) dX11_clash_32
      · refine lv_if_eq (tgt := 31) C.1 C.2.1 dX11_clash_23 (by decide) (fun _ => ?_) (fun c2862 => absurd c2862 (by decide))
        refine lv_iconst (v := (-1)) C.1 C.2.1 dX11_clash_31 (by decide) ?_
        exact k_zret C hr hlk rfl Wd () (Or.inr (Or.inr (Or.inr (Or.inl (⟨c2844, c2845, c2850, c2851, c2857, c2858, rfl⟩))))) [] rfl (by decide) [] rfl (by decide) (by decide) dX11_clash_32
      · refine lv_if_eq (tgt := 31) C.1 C.2.1 dX11_clash_23 (by decide) (fun c2863 => absurd c2863 (by decide)) (fun _ => ?_)
        refine lv_iload_n C.1 C.2.1 dX11_clash_26 rfl (lv_at hl 3 rfl) ?_
        refine lv_iload_n C.1 C.2.1 dX11_clash_27 rfl (lv_at hl 4 rfl) ?_
        refine lv_icmp_ne (tgt := 33) C.1 C.2.1 dX11_clash_28 (by decide) (fun c2864 => ?_) (fun c2864 => ?_)
        · refine lv_aload_n C.1 C.2.1 dX11_clash_33 rfl (lv_at hl 1 rfl) ?_
          refine k_get C Wd KX11 0 7 rfl (by decide) fl_X11_57 rfl dX11_clash_34 ?_
          refine lv_aload C.1 C.2.1 dX11_clash_37 (lv_at hl 0 rfl) ?_
          refine k_cv Wd [2, 3, 4, 5, 6, 7] [0, 1] rfl (wr := [(h0, .inr (11, [.ref h1, .int 0, .ref h2, .ref h3, .ref h4, .ref h5, .ref h6, .ref h7])), (h1, .inl (a0, 6, .inr (.inr (.inr (.inr g0)))))]) rfl (by decide) (by decide) (cells' := 0) (slots' := 0) (by decide) (by decide) (k_runV (rest := []) C aks Wd cs_X11_220 (kcX7_study l D h7 h8 h27 h28 h29 h30 h31 h68 h69 h70 h71 h72 h73 h74 h75 h76 h77 h78 h79 h80 a6 a7 a13 _ ) [2, 3, 4, 5, 6, 7] rfl (by decide) [1, 2, 3] rfl 2 7 rfl rfl rfl rfl rfl ⟨(Nat.le_of_ble_eq_true rfl), (Nat.le_of_ble_eq_true rfl)⟩ hl.1 rfl rfl (Nat.le_of_ble_eq_true rfl) ⟨(Nat.le_of_ble_eq_true rfl), (Nat.le_of_ble_eq_true rfl)⟩ dX11_clash_39) (fun _ H locs w2865 Wd => ?_)
          have Wd : wX D [(a0, .object RX8), (a6, .int), (a7, .int), (a13, .int)] s [(h0, .inr (11, [.ref h1, .int 0, .ref h2, .ref h3, .ref h4, .ref h5, .ref h6, .ref h7])), (h1, .inl (a0, 6, .inr (.inr (.inr (.inr g0))))), (h7, .inr (7, [.ref h27, .ref h28, .ref h29, .ref h30, .int 0])), (h27, .inr (1, [.ref h8, .int 0, .ref h69, .ref h70, .ref h71, .ref h72, .ref h73, .ref h74, .ref h75, .ref h76, .ref h77, .ref h78, .ref h79, .ref h80])), (h8, .inr (8, [.ref h31, .int 0])), (h80, .inl (a13, 480, .inl (fun _ => 0))), (h28, .inl (a6, 6, .inl (fun _ => 0))), (h29, .inl (a7, 6, .inl (fun _ => 0)))] _ A s.heap _ := Wd
          refine lv_aload_n C.1 C.2.1 dX11_clash_42 rfl (lv_at hl 1 rfl) ?_
          refine k_get C Wd KX11 0 7 rfl (by decide) fl_X11_57 rfl dX11_clash_43 ?_
          refine lv_iload_n C.1 C.2.1 dX11_clash_46 rfl (lv_at hl 3 rfl) ?_
          refine lv_iload_n C.1 C.2.1 dX11_clash_47 rfl (lv_at hl 4 rfl) ?_
          refine k_pi (k_runV (rest := []) C aks Wd cs_X11_235 (kcX7_clashing l D h7 h27 h28 h29 h30 x1 x2 a6 _ ) [2, 6] rfl (by decide) [1] rfl 2 7 rfl rfl rfl rfl rfl ⟨(Nat.le_of_ble_eq_true rfl), (Nat.le_of_ble_eq_true rfl)⟩ hl.1 rfl rfl (Nat.le_of_ble_eq_true rfl) ⟨(Nat.le_of_ble_eq_true rfl), (Nat.le_of_ble_eq_true rfl)⟩ dX11_clash_48) (fun r w2866 => ?_)
          rcases w2866 with ⟨c2867, rfl⟩ | ⟨c2868, c2869, rfl⟩ | ⟨c2870, c2871, c2872, rfl⟩ | ⟨c2873, c2874, c2875, c2876, rfl⟩ | ⟨c2877, c2878, c2879, c2880, c2881, rfl⟩ | ⟨c2882, c2883, c2884, c2885, c2886, rfl⟩
          · exact False.elim (by have z0 := kz_nlt c2850; have z1 := kz_nle c2851; have z2 := kz_ne c2864; have z3 := kz_lt c2867; have t0 : (0 : Int32).toInt = 0 := (by decide); have t6 : (6 : Int32).toInt = 6 := (by decide); omega)
          · exact False.elim (by have z0 := kz_nlt c2850; have z1 := kz_nle c2851; have z2 := kz_ne c2864; have z3 := kz_nlt c2868; have z4 := kz_le c2869; have t0 : (0 : Int32).toInt = 0 := (by decide); have t6 : (6 : Int32).toInt = 6 := (by decide); omega)
          · exact False.elim (by have z0 := kz_nlt c2859; have z1 := kz_nle c2860; have z2 := kz_ne c2864; have z3 := kz_lt c2872; have t0 : (0 : Int32).toInt = 0 := (by decide); have t6 : (6 : Int32).toInt = 6 := (by decide); omega)
          · exact False.elim (by have z0 := kz_nlt c2859; have z1 := kz_nle c2860; have z2 := kz_ne c2864; have z3 := kz_nlt c2875; have z4 := kz_le c2876; have t0 : (0 : Int32).toInt = 0 := (by decide); have t6 : (6 : Int32).toInt = 6 := (by decide); omega)
          · refine lv_if_eq (tgt := 58) C.1 C.2.1 dX11_clash_51 (by decide) (fun _ => ?_) (fun c2887 => absurd c2887 (by decide))
            refine lv_iconst (v := 0) C.1 C.2.1 dX11_clash_58 (by decide) ?_
            exact k_zret C hr hlk rfl Wd () (Or.inr (Or.inr (Or.inr (Or.inr (Or.inl (⟨c2844, c2845, c2850, c2851, c2859, c2860, c2864, c2877, c2878, c2879, c2880, c2881, rfl⟩)))))) [] rfl (by decide) [] rfl (by decide) (by decide) dX11_clash_59
          · refine lv_if_eq (tgt := 58) C.1 C.2.1 dX11_clash_51 (by decide) (fun c2888 => absurd c2888 (by decide)) (fun _ => ?_)
            refine lv_iconst (v := 1) C.1 C.2.1 dX11_clash_54 (by decide) ?_
            refine lv_goto (tgt := 59) C.1 C.2.1 dX11_clash_55 (by decide) ?_
            exact k_zret C hr hlk rfl Wd () (Or.inr (Or.inr (Or.inr (Or.inr (Or.inr (Or.inl (⟨c2844, c2845, c2850, c2851, c2859, c2860, c2864, c2882, c2883, c2884, c2885, c2886, rfl⟩))))))) [] rfl (by decide) [] rfl (by decide) (by decide) dX11_clash_59
        · refine lv_iconst (v := (-1)) C.1 C.2.1 dX11_clash_31 (by decide) ?_
          exact k_zret C hr hlk rfl Wd () (Or.inr (Or.inr (Or.inr (Or.inr (Or.inr (Or.inr (⟨c2844, c2845, c2850, c2851, c2859, c2860, c2864, rfl⟩))))))) [] rfl (by decide) [] rfl (by decide) (by decide) dX11_clash_32
set_option maxHeartbeats 4000000 in
set_option maxRecDepth 100000 in
theorem kcX11_judge (l : Launch) (D : va_G) (h0 h1 h2 h3 h4 h5 h6 h7 : Nat) (x0 x1 x2 : Int32) (g0 : Nat → Option Nat) (a0 : ClassId) (sz : Nat)  (as0 : x0 < (0 : Int32)): Met l yX11_judge (Cond.code yX11_judge cX11_judge 7 (some .int) :: gG) { frames := 2, cells := 0, slots := 0, locals := 85 } (cPre D [(a0, .object RX8)] [(h0, .inr (11, [.ref h1, .int 0, .ref h2, .ref h3, .ref h4, .ref h5, .ref h6, .ref h7])), (h1, .inl (a0, 6, .inr (.inr (.inr (.inr g0)))))] sz [.ref h0, .int x0, .int x1, .int x2]) (vp_Si (fun r => (x0 < (0 : Int32) ∧ x1 < (0 : Int32) ∧ r = (-1)) ∨ (x0 < (0 : Int32) ∧ ¬ x1 < (0 : Int32) ∧ (6 : Int32) ≤ x1 ∧ r = (-1)) ∨ (x0 < (0 : Int32) ∧ ¬ x1 < (0 : Int32) ∧ ¬ (6 : Int32) ≤ x1 ∧ r = (-1)) ∨ (x0 < (0 : Int32) ∧ ¬ x1 < (0 : Int32) ∧ ¬ (6 : Int32) ≤ x1 ∧ r = (-1)))) 0 0 (fun _ => False) := by
  refine Met.ofW (cc := cX11_judge) (maxL := 7) (ret := (some .int)) (by decide) rfl ?_
  intro p e s m args below meth c s₁ B hml hv
  obtain ⟨rfl, aks, rfl, Wd⟩ := k_enter hv
  have C : CallFix p m c cX11_judge 7 s _ gG RX11 := ⟨B.exec, B.bytes, hml, findClass_of_methodNamed B.named, fun w h => atoms_spec (ws := Cond.code yX11_judge cX11_judge 7 (some .int) :: gG) B.pre w (List.mem_cons_of_mem _ h)⟩
  have hr := B.returns
  have hlk := B.notSynchronized
  obtain ⟨A, Wd⟩ : ∃ A, wX D [(a0, .object RX8)] s [(h0, .inr (11, [.ref h1, .int 0, .ref h2, .ref h3, .ref h4, .ref h5, .ref h6, .ref h7])), (h1, .inl (a0, 6, .inr (.inr (.inr (.inr g0)))))] s.heap A s.heap [] := ⟨_, Wd⟩
  refine k_locals (Nat.le_of_ble_eq_true rfl) [(0, .ref h0), (1, .int x0), (2, .int x1), (3, .int x2)] rfl (fun ls hl => ?_)
  refine lv_aload_n C.1 C.2.1 dX11_judge_0 rfl (lv_at hl 0 rfl) ?_
  refine lv_iload_n C.1 C.2.1 dX11_judge_1 rfl (lv_at hl 1 rfl) ?_
  refine k_pq (k_runV (rest := []) C aks Wd cs_X11_77 (kcX11_slotAt l D h0 h1 h2 h3 h4 h5 h6 h7 x0 g0 a0 _ ) [0, 1] rfl (by decide) [0] rfl 0 11 rfl rfl rfl rfl rfl ⟨(Nat.le_of_ble_eq_true rfl), (Nat.le_of_ble_eq_true rfl)⟩ hl.1 rfl rfl (Nat.le_of_ble_eq_true rfl) ⟨(Nat.le_of_ble_eq_true rfl), (Nat.le_of_ble_eq_true rfl)⟩ dX11_judge_2) (fun r w2903 => ?_)
  rcases w2903 with ⟨c2904, rfl⟩ | ⟨c2905, c2906, rfl⟩ | ⟨c2907, c2908, rfl⟩
  · refine W.eq (g2 := F0 m 5 ls [.null]) rfl ?_
    refine lv_astoreN (lv' := [(4, .null), (0, .ref h0), (1, .int x0), (2, .int x1), (3, .int x2)]) C.1 C.2.1 dX11_judge_5 hl (by decide) rfl (fun ls hl => ?_)
    refine lv_aload_n C.1 C.2.1 dX11_judge_7 rfl (lv_at hl 1 rfl) ?_
    refine lv_iload_n C.1 C.2.1 dX11_judge_8 rfl (lv_at hl 3 rfl) ?_
    refine k_pq (k_runV (rest := []) C aks Wd cs_X11_77 (kcX11_slotAt l D h0 h1 h2 h3 h4 h5 h6 h7 x1 g0 a0 _ ) [0, 1] rfl (by decide) [0] rfl 0 11 rfl rfl rfl rfl rfl ⟨(Nat.le_of_ble_eq_true rfl), (Nat.le_of_ble_eq_true rfl)⟩ hl.1 rfl rfl (Nat.le_of_ble_eq_true rfl) ⟨(Nat.le_of_ble_eq_true rfl), (Nat.le_of_ble_eq_true rfl)⟩ dX11_judge_9) (fun r w2909 => ?_)
    rcases w2909 with ⟨c2910, rfl⟩ | ⟨c2911, c2912, rfl⟩ | ⟨c2913, c2914, rfl⟩
    · refine W.eq (g2 := F0 m 12 ls [.null]) rfl ?_
      refine lv_astoreN (lv' := [(5, .null), (4, .null), (0, .ref h0), (1, .int x0), (2, .int x1), (3, .int x2)]) C.1 C.2.1 dX11_judge_12 hl (by decide) rfl (fun ls hl => ?_)
      refine lv_aloadN C.1 C.2.1 dX11_judge_14 (lv_at hl 1 rfl) ?_
      refine lv_ifnullN (tgt := 33) C.1 C.2.1 dX11_judge_16 (by decide) ?_
      refine lv_iconst (v := (-1)) C.1 C.2.1 dX11_judge_33 (by decide) ?_
      exact k_zretP C hr hlk rfl (Or.inl (⟨c2904, c2910, rfl⟩)) dX11_judge_34
    · refine W.eq (g2 := F0 m 12 ls [.null]) rfl ?_
      refine lv_astoreN (lv' := [(5, .null), (4, .null), (0, .ref h0), (1, .int x0), (2, .int x1), (3, .int x2)]) C.1 C.2.1 dX11_judge_12 hl (by decide) rfl (fun ls hl => ?_)
      refine lv_aloadN C.1 C.2.1 dX11_judge_14 (lv_at hl 1 rfl) ?_
      refine lv_ifnullN (tgt := 33) C.1 C.2.1 dX11_judge_16 (by decide) ?_
      refine lv_iconst (v := (-1)) C.1 C.2.1 dX11_judge_33 (by decide) ?_
      exact k_zretP C hr hlk rfl (Or.inr (Or.inl (⟨c2904, c2911, c2912, rfl⟩))) dX11_judge_34
    · cases hq2915 : (g0 x1.toNatClampNeg) with
      | none =>
        refine W.eq (g2 := F0 m 12 ls [.null]) rfl ?_
        refine lv_astoreN (lv' := [(5, .null), (4, .null), (0, .ref h0), (1, .int x0), (2, .int x1), (3, .int x2)]) C.1 C.2.1 dX11_judge_12 hl (by decide) rfl (fun ls hl => ?_)
        refine lv_aloadN C.1 C.2.1 dX11_judge_14 (lv_at hl 1 rfl) ?_
        refine lv_ifnullN (tgt := 33) C.1 C.2.1 dX11_judge_16 (by decide) ?_
        refine lv_iconst (v := (-1)) C.1 C.2.1 dX11_judge_33 (by decide) ?_
        exact k_zretP C hr hlk rfl (Or.inr (Or.inr (Or.inl (⟨c2904, c2913, c2914, rfl⟩)))) dX11_judge_34
      | some q2916 =>
        refine W.eq (g2 := F0 m 12 ls [.ref q2916]) rfl ?_
        refine lv_astore (lv' := [(5, .ref q2916), (4, .null), (0, .ref h0), (1, .int x0), (2, .int x1), (3, .int x2)]) C.1 C.2.1 dX11_judge_12 hl (by decide) rfl (fun ls hl => ?_)
        refine lv_aloadN C.1 C.2.1 dX11_judge_14 (lv_at hl 1 rfl) ?_
        refine lv_ifnullN (tgt := 33) C.1 C.2.1 dX11_judge_16 (by decide) ?_
        refine lv_iconst (v := (-1)) C.1 C.2.1 dX11_judge_33 (by decide) ?_
        exact k_zretP C hr hlk rfl (Or.inr (Or.inr (Or.inr (⟨c2904, c2913, c2914, rfl⟩)))) dX11_judge_34
  · exact False.elim (by have z0 := kz_lt as0; have z1 := kz_nlt c2905; have t0 : (0 : Int32).toInt = 0 := (by decide); omega)
  · exact False.elim (by have z0 := kz_lt as0; have z1 := kz_nlt c2907; have t0 : (0 : Int32).toInt = 0 := (by decide); omega)
set_option maxHeartbeats 4000000 in
set_option maxRecDepth 100000 in
theorem kcX11_judge_v1 (l : Launch) (D : va_G) (h0 h1 h2 h3 h4 h5 h6 h7 : Nat) (x0 x1 x2 : Int32) (g0 : Nat → Option Nat) (a0 : ClassId) (sz : Nat)  (as0 : ¬ x0 < (6 : Int32)): Met l yX11_judge (Cond.code yX11_judge cX11_judge 7 (some .int) :: gG) { frames := 2, cells := 0, slots := 0, locals := 85 } (cPre D [(a0, .object RX8)] [(h0, .inr (11, [.ref h1, .int 0, .ref h2, .ref h3, .ref h4, .ref h5, .ref h6, .ref h7])), (h1, .inl (a0, 6, .inr (.inr (.inr (.inr g0)))))] sz [.ref h0, .int x0, .int x1, .int x2]) (vp_Si (fun r => (¬ x0 < (0 : Int32) ∧ (6 : Int32) ≤ x0 ∧ x1 < (0 : Int32) ∧ r = (-1)) ∨ (¬ x0 < (0 : Int32) ∧ (6 : Int32) ≤ x0 ∧ ¬ x1 < (0 : Int32) ∧ (6 : Int32) ≤ x1 ∧ r = (-1)) ∨ (¬ x0 < (0 : Int32) ∧ (6 : Int32) ≤ x0 ∧ ¬ x1 < (0 : Int32) ∧ ¬ (6 : Int32) ≤ x1 ∧ r = (-1)) ∨ (¬ x0 < (0 : Int32) ∧ (6 : Int32) ≤ x0 ∧ ¬ x1 < (0 : Int32) ∧ ¬ (6 : Int32) ≤ x1 ∧ r = (-1)))) 0 0 (fun _ => False) := by
  refine Met.ofW (cc := cX11_judge) (maxL := 7) (ret := (some .int)) (by decide) rfl ?_
  intro p e s m args below meth c s₁ B hml hv
  obtain ⟨rfl, aks, rfl, Wd⟩ := k_enter hv
  have C : CallFix p m c cX11_judge 7 s _ gG RX11 := ⟨B.exec, B.bytes, hml, findClass_of_methodNamed B.named, fun w h => atoms_spec (ws := Cond.code yX11_judge cX11_judge 7 (some .int) :: gG) B.pre w (List.mem_cons_of_mem _ h)⟩
  have hr := B.returns
  have hlk := B.notSynchronized
  obtain ⟨A, Wd⟩ : ∃ A, wX D [(a0, .object RX8)] s [(h0, .inr (11, [.ref h1, .int 0, .ref h2, .ref h3, .ref h4, .ref h5, .ref h6, .ref h7])), (h1, .inl (a0, 6, .inr (.inr (.inr (.inr g0)))))] s.heap A s.heap [] := ⟨_, Wd⟩
  refine k_locals (Nat.le_of_ble_eq_true rfl) [(0, .ref h0), (1, .int x0), (2, .int x1), (3, .int x2)] rfl (fun ls hl => ?_)
  refine lv_aload_n C.1 C.2.1 dX11_judge_0 rfl (lv_at hl 0 rfl) ?_
  refine lv_iload_n C.1 C.2.1 dX11_judge_1 rfl (lv_at hl 1 rfl) ?_
  refine k_pq (k_runV (rest := []) C aks Wd cs_X11_77 (kcX11_slotAt l D h0 h1 h2 h3 h4 h5 h6 h7 x0 g0 a0 _ ) [0, 1] rfl (by decide) [0] rfl 0 11 rfl rfl rfl rfl rfl ⟨(Nat.le_of_ble_eq_true rfl), (Nat.le_of_ble_eq_true rfl)⟩ hl.1 rfl rfl (Nat.le_of_ble_eq_true rfl) ⟨(Nat.le_of_ble_eq_true rfl), (Nat.le_of_ble_eq_true rfl)⟩ dX11_judge_2) (fun r w2931 => ?_)
  rcases w2931 with ⟨c2932, rfl⟩ | ⟨c2933, c2934, rfl⟩ | ⟨c2935, c2936, rfl⟩
  · exact False.elim (by have z0 := kz_nlt as0; have z1 := kz_lt c2932; have t6 : (6 : Int32).toInt = 6 := (by decide); have t0 : (0 : Int32).toInt = 0 := (by decide); omega)
  · refine W.eq (g2 := F0 m 5 ls [.null]) rfl ?_
    refine lv_astoreN (lv' := [(4, .null), (0, .ref h0), (1, .int x0), (2, .int x1), (3, .int x2)]) C.1 C.2.1 dX11_judge_5 hl (by decide) rfl (fun ls hl => ?_)
    refine lv_aload_n C.1 C.2.1 dX11_judge_7 rfl (lv_at hl 1 rfl) ?_
    refine lv_iload_n C.1 C.2.1 dX11_judge_8 rfl (lv_at hl 3 rfl) ?_
    refine k_pq (k_runV (rest := []) C aks Wd cs_X11_77 (kcX11_slotAt l D h0 h1 h2 h3 h4 h5 h6 h7 x1 g0 a0 _ ) [0, 1] rfl (by decide) [0] rfl 0 11 rfl rfl rfl rfl rfl ⟨(Nat.le_of_ble_eq_true rfl), (Nat.le_of_ble_eq_true rfl)⟩ hl.1 rfl rfl (Nat.le_of_ble_eq_true rfl) ⟨(Nat.le_of_ble_eq_true rfl), (Nat.le_of_ble_eq_true rfl)⟩ dX11_judge_9) (fun r w2937 => ?_)
    rcases w2937 with ⟨c2938, rfl⟩ | ⟨c2939, c2940, rfl⟩ | ⟨c2941, c2942, rfl⟩
    · refine W.eq (g2 := F0 m 12 ls [.null]) rfl ?_
      refine lv_astoreN (lv' := [(5, .null), (4, .null), (0, .ref h0), (1, .int x0), (2, .int x1), (3, .int x2)]) C.1 C.2.1 dX11_judge_12 hl (by decide) rfl (fun ls hl => ?_)
      refine lv_aloadN C.1 C.2.1 dX11_judge_14 (lv_at hl 1 rfl) ?_
      refine lv_ifnullN (tgt := 33) C.1 C.2.1 dX11_judge_16 (by decide) ?_
      refine lv_iconst (v := (-1)) C.1 C.2.1 dX11_judge_33 (by decide) ?_
      exact k_zretP C hr hlk rfl (Or.inl (⟨c2933, c2934, c2938, rfl⟩)) dX11_judge_34
    · refine W.eq (g2 := F0 m 12 ls [.null]) rfl ?_
      refine lv_astoreN (lv' := [(5, .null), (4, .null), (0, .ref h0), (1, .int x0), (2, .int x1), (3, .int x2)]) C.1 C.2.1 dX11_judge_12 hl (by decide) rfl (fun ls hl => ?_)
      refine lv_aloadN C.1 C.2.1 dX11_judge_14 (lv_at hl 1 rfl) ?_
      refine lv_ifnullN (tgt := 33) C.1 C.2.1 dX11_judge_16 (by decide) ?_
      refine lv_iconst (v := (-1)) C.1 C.2.1 dX11_judge_33 (by decide) ?_
      exact k_zretP C hr hlk rfl (Or.inr (Or.inl (⟨c2933, c2934, c2939, c2940, rfl⟩))) dX11_judge_34
    · cases hq2943 : (g0 x1.toNatClampNeg) with
      | none =>
        refine W.eq (g2 := F0 m 12 ls [.null]) rfl ?_
        refine lv_astoreN (lv' := [(5, .null), (4, .null), (0, .ref h0), (1, .int x0), (2, .int x1), (3, .int x2)]) C.1 C.2.1 dX11_judge_12 hl (by decide) rfl (fun ls hl => ?_)
        refine lv_aloadN C.1 C.2.1 dX11_judge_14 (lv_at hl 1 rfl) ?_
        refine lv_ifnullN (tgt := 33) C.1 C.2.1 dX11_judge_16 (by decide) ?_
        refine lv_iconst (v := (-1)) C.1 C.2.1 dX11_judge_33 (by decide) ?_
        exact k_zretP C hr hlk rfl (Or.inr (Or.inr (Or.inl (⟨c2933, c2934, c2941, c2942, rfl⟩)))) dX11_judge_34
      | some q2944 =>
        refine W.eq (g2 := F0 m 12 ls [.ref q2944]) rfl ?_
        refine lv_astore (lv' := [(5, .ref q2944), (4, .null), (0, .ref h0), (1, .int x0), (2, .int x1), (3, .int x2)]) C.1 C.2.1 dX11_judge_12 hl (by decide) rfl (fun ls hl => ?_)
        refine lv_aloadN C.1 C.2.1 dX11_judge_14 (lv_at hl 1 rfl) ?_
        refine lv_ifnullN (tgt := 33) C.1 C.2.1 dX11_judge_16 (by decide) ?_
        refine lv_iconst (v := (-1)) C.1 C.2.1 dX11_judge_33 (by decide) ?_
        exact k_zretP C hr hlk rfl (Or.inr (Or.inr (Or.inr (⟨c2933, c2934, c2941, c2942, rfl⟩)))) dX11_judge_34
  · exact False.elim (by have z0 := kz_nlt as0; have z1 := kz_nlt c2935; have z2 := kz_nle c2936; have t6 : (6 : Int32).toInt = 6 := (by decide); have t0 : (0 : Int32).toInt = 0 := (by decide); omega)
set_option maxHeartbeats 4000000 in
set_option maxRecDepth 100000 in
theorem kcX11_judge_v2 (l : Launch) (D : va_G) (h0 h1 h2 h3 h4 h5 h6 h7 h8 : Nat) (x0 x1 x2 : Int32) (g0 : Nat → Option Nat) (a0 : ClassId) (sz : Nat) (k_g0_x0 : g0 x0.toNatClampNeg = some h8) (as0 : ¬ x0 < (0 : Int32)) (as1 : x0 < (6 : Int32)) (as2 : x1 < (0 : Int32)): Met l yX11_judge (Cond.code yX11_judge cX11_judge 7 (some .int) :: gG) { frames := 2, cells := 0, slots := 0, locals := 85 } (cPre D [(a0, .object RX8)] [(h0, .inr (11, [.ref h1, .int 0, .ref h2, .ref h3, .ref h4, .ref h5, .ref h6, .ref h7])), (h1, .inl (a0, 6, .inr (.inr (.inr (.inr g0)))))] sz [.ref h0, .int x0, .int x1, .int x2]) (vp_Si (fun r => ¬ x0 < (0 : Int32) ∧ ¬ (6 : Int32) ≤ x0 ∧ x1 < (0 : Int32) ∧ r = (-1))) 0 0 (fun _ => False) := by
  refine Met.ofW (cc := cX11_judge) (maxL := 7) (ret := (some .int)) (by decide) rfl ?_
  intro p e s m args below meth c s₁ B hml hv
  obtain ⟨rfl, aks, rfl, Wd⟩ := k_enter hv
  have C : CallFix p m c cX11_judge 7 s _ gG RX11 := ⟨B.exec, B.bytes, hml, findClass_of_methodNamed B.named, fun w h => atoms_spec (ws := Cond.code yX11_judge cX11_judge 7 (some .int) :: gG) B.pre w (List.mem_cons_of_mem _ h)⟩
  have hr := B.returns
  have hlk := B.notSynchronized
  obtain ⟨A, Wd⟩ : ∃ A, wX D [(a0, .object RX8)] s [(h0, .inr (11, [.ref h1, .int 0, .ref h2, .ref h3, .ref h4, .ref h5, .ref h6, .ref h7])), (h1, .inl (a0, 6, .inr (.inr (.inr (.inr g0)))))] s.heap A s.heap [] := ⟨_, Wd⟩
  refine k_locals (Nat.le_of_ble_eq_true rfl) [(0, .ref h0), (1, .int x0), (2, .int x1), (3, .int x2)] rfl (fun ls hl => ?_)
  refine lv_aload_n C.1 C.2.1 dX11_judge_0 rfl (lv_at hl 0 rfl) ?_
  refine lv_iload_n C.1 C.2.1 dX11_judge_1 rfl (lv_at hl 1 rfl) ?_
  refine k_pq (k_runV (rest := []) C aks Wd cs_X11_77 (kcX11_slotAt l D h0 h1 h2 h3 h4 h5 h6 h7 x0 g0 a0 _ ) [0, 1] rfl (by decide) [0] rfl 0 11 rfl rfl rfl rfl rfl ⟨(Nat.le_of_ble_eq_true rfl), (Nat.le_of_ble_eq_true rfl)⟩ hl.1 rfl rfl (Nat.le_of_ble_eq_true rfl) ⟨(Nat.le_of_ble_eq_true rfl), (Nat.le_of_ble_eq_true rfl)⟩ dX11_judge_2) (fun r w2957 => ?_)
  rcases w2957 with ⟨c2958, rfl⟩ | ⟨c2959, c2960, rfl⟩ | ⟨c2961, c2962, rfl⟩
  · exact False.elim (by have z0 := kz_nlt as0; have z1 := kz_lt as1; have z2 := kz_lt c2958; have t0 : (0 : Int32).toInt = 0 := (by decide); have t6 : (6 : Int32).toInt = 6 := (by decide); omega)
  · exact False.elim (by have z0 := kz_nlt as0; have z1 := kz_lt as1; have z2 := kz_nlt c2959; have z3 := kz_le c2960; have t0 : (0 : Int32).toInt = 0 := (by decide); have t6 : (6 : Int32).toInt = 6 := (by decide); omega)
  · refine W.eq (g2 := F0 m 5 ls [.ref h8]) (by rw [show (g0 x0.toNatClampNeg) = some h8 from k_g0_x0]; rfl) ?_
    refine lv_astore (lv' := [(4, .ref h8), (0, .ref h0), (1, .int x0), (2, .int x1), (3, .int x2)]) C.1 C.2.1 dX11_judge_5 hl (by decide) rfl (fun ls hl => ?_)
    refine lv_aload_n C.1 C.2.1 dX11_judge_7 rfl (lv_at hl 1 rfl) ?_
    refine lv_iload_n C.1 C.2.1 dX11_judge_8 rfl (lv_at hl 3 rfl) ?_
    refine k_pq (k_runV (rest := []) C aks Wd cs_X11_77 (kcX11_slotAt l D h0 h1 h2 h3 h4 h5 h6 h7 x1 g0 a0 _ ) [0, 1] rfl (by decide) [0] rfl 0 11 rfl rfl rfl rfl rfl ⟨(Nat.le_of_ble_eq_true rfl), (Nat.le_of_ble_eq_true rfl)⟩ hl.1 rfl rfl (Nat.le_of_ble_eq_true rfl) ⟨(Nat.le_of_ble_eq_true rfl), (Nat.le_of_ble_eq_true rfl)⟩ dX11_judge_9) (fun r w2963 => ?_)
    rcases w2963 with ⟨c2964, rfl⟩ | ⟨c2965, c2966, rfl⟩ | ⟨c2967, c2968, rfl⟩
    · refine W.eq (g2 := F0 m 12 ls [.null]) rfl ?_
      refine lv_astoreN (lv' := [(5, .null), (4, .ref h8), (0, .ref h0), (1, .int x0), (2, .int x1), (3, .int x2)]) C.1 C.2.1 dX11_judge_12 hl (by decide) rfl (fun ls hl => ?_)
      refine lv_aload C.1 C.2.1 dX11_judge_14 (lv_at hl 1 rfl) ?_
      refine lv_ifnull C.1 C.2.1 dX11_judge_16 ?_
      refine lv_aloadN C.1 C.2.1 dX11_judge_19 (lv_at hl 0 rfl) ?_
      refine lv_ifnullN (tgt := 33) C.1 C.2.1 dX11_judge_21 (by decide) ?_
      refine lv_iconst (v := (-1)) C.1 C.2.1 dX11_judge_33 (by decide) ?_
      exact k_zretP C hr hlk rfl ⟨c2961, c2962, c2964, rfl⟩ dX11_judge_34
    · exact False.elim (by have z0 := kz_lt as2; have z1 := kz_nlt c2965; have t0 : (0 : Int32).toInt = 0 := (by decide); omega)
    · exact False.elim (by have z0 := kz_lt as2; have z1 := kz_nlt c2967; have t0 : (0 : Int32).toInt = 0 := (by decide); omega)
set_option maxHeartbeats 4000000 in
set_option maxRecDepth 100000 in
theorem kcX11_judge_v3 (l : Launch) (D : va_G) (h0 h1 h2 h3 h4 h5 h6 h7 h8 : Nat) (x0 x1 x2 : Int32) (g0 : Nat → Option Nat) (a0 : ClassId) (sz : Nat) (k_g0_x0 : g0 x0.toNatClampNeg = some h8) (as0 : ¬ x0 < (0 : Int32)) (as1 : x0 < (6 : Int32)) (as2 : ¬ x1 < (6 : Int32)): Met l yX11_judge (Cond.code yX11_judge cX11_judge 7 (some .int) :: gG) { frames := 2, cells := 0, slots := 0, locals := 85 } (cPre D [(a0, .object RX8)] [(h0, .inr (11, [.ref h1, .int 0, .ref h2, .ref h3, .ref h4, .ref h5, .ref h6, .ref h7])), (h1, .inl (a0, 6, .inr (.inr (.inr (.inr g0)))))] sz [.ref h0, .int x0, .int x1, .int x2]) (vp_Si (fun r => ¬ x0 < (0 : Int32) ∧ ¬ (6 : Int32) ≤ x0 ∧ ¬ x1 < (0 : Int32) ∧ (6 : Int32) ≤ x1 ∧ r = (-1))) 0 0 (fun _ => False) := by
  refine Met.ofW (cc := cX11_judge) (maxL := 7) (ret := (some .int)) (by decide) rfl ?_
  intro p e s m args below meth c s₁ B hml hv
  obtain ⟨rfl, aks, rfl, Wd⟩ := k_enter hv
  have C : CallFix p m c cX11_judge 7 s _ gG RX11 := ⟨B.exec, B.bytes, hml, findClass_of_methodNamed B.named, fun w h => atoms_spec (ws := Cond.code yX11_judge cX11_judge 7 (some .int) :: gG) B.pre w (List.mem_cons_of_mem _ h)⟩
  have hr := B.returns
  have hlk := B.notSynchronized
  obtain ⟨A, Wd⟩ : ∃ A, wX D [(a0, .object RX8)] s [(h0, .inr (11, [.ref h1, .int 0, .ref h2, .ref h3, .ref h4, .ref h5, .ref h6, .ref h7])), (h1, .inl (a0, 6, .inr (.inr (.inr (.inr g0)))))] s.heap A s.heap [] := ⟨_, Wd⟩
  refine k_locals (Nat.le_of_ble_eq_true rfl) [(0, .ref h0), (1, .int x0), (2, .int x1), (3, .int x2)] rfl (fun ls hl => ?_)
  refine lv_aload_n C.1 C.2.1 dX11_judge_0 rfl (lv_at hl 0 rfl) ?_
  refine lv_iload_n C.1 C.2.1 dX11_judge_1 rfl (lv_at hl 1 rfl) ?_
  refine k_pq (k_runV (rest := []) C aks Wd cs_X11_77 (kcX11_slotAt l D h0 h1 h2 h3 h4 h5 h6 h7 x0 g0 a0 _ ) [0, 1] rfl (by decide) [0] rfl 0 11 rfl rfl rfl rfl rfl ⟨(Nat.le_of_ble_eq_true rfl), (Nat.le_of_ble_eq_true rfl)⟩ hl.1 rfl rfl (Nat.le_of_ble_eq_true rfl) ⟨(Nat.le_of_ble_eq_true rfl), (Nat.le_of_ble_eq_true rfl)⟩ dX11_judge_2) (fun r w2981 => ?_)
  rcases w2981 with ⟨c2982, rfl⟩ | ⟨c2983, c2984, rfl⟩ | ⟨c2985, c2986, rfl⟩
  · exact False.elim (by have z0 := kz_nlt as0; have z1 := kz_lt as1; have z2 := kz_lt c2982; have t0 : (0 : Int32).toInt = 0 := (by decide); have t6 : (6 : Int32).toInt = 6 := (by decide); omega)
  · exact False.elim (by have z0 := kz_nlt as0; have z1 := kz_lt as1; have z2 := kz_nlt c2983; have z3 := kz_le c2984; have t0 : (0 : Int32).toInt = 0 := (by decide); have t6 : (6 : Int32).toInt = 6 := (by decide); omega)
  · refine W.eq (g2 := F0 m 5 ls [.ref h8]) (by rw [show (g0 x0.toNatClampNeg) = some h8 from k_g0_x0]; rfl) ?_
    refine lv_astore (lv' := [(4, .ref h8), (0, .ref h0), (1, .int x0), (2, .int x1), (3, .int x2)]) C.1 C.2.1 dX11_judge_5 hl (by decide) rfl (fun ls hl => ?_)
    refine lv_aload_n C.1 C.2.1 dX11_judge_7 rfl (lv_at hl 1 rfl) ?_
    refine lv_iload_n C.1 C.2.1 dX11_judge_8 rfl (lv_at hl 3 rfl) ?_
    refine k_pq (k_runV (rest := []) C aks Wd cs_X11_77 (kcX11_slotAt l D h0 h1 h2 h3 h4 h5 h6 h7 x1 g0 a0 _ ) [0, 1] rfl (by decide) [0] rfl 0 11 rfl rfl rfl rfl rfl ⟨(Nat.le_of_ble_eq_true rfl), (Nat.le_of_ble_eq_true rfl)⟩ hl.1 rfl rfl (Nat.le_of_ble_eq_true rfl) ⟨(Nat.le_of_ble_eq_true rfl), (Nat.le_of_ble_eq_true rfl)⟩ dX11_judge_9) (fun r w2987 => ?_)
    rcases w2987 with ⟨c2988, rfl⟩ | ⟨c2989, c2990, rfl⟩ | ⟨c2991, c2992, rfl⟩
    · exact False.elim (by have z0 := kz_nlt as2; have z1 := kz_lt c2988; have t6 : (6 : Int32).toInt = 6 := (by decide); have t0 : (0 : Int32).toInt = 0 := (by decide); omega)
    · refine W.eq (g2 := F0 m 12 ls [.null]) rfl ?_
      refine lv_astoreN (lv' := [(5, .null), (4, .ref h8), (0, .ref h0), (1, .int x0), (2, .int x1), (3, .int x2)]) C.1 C.2.1 dX11_judge_12 hl (by decide) rfl (fun ls hl => ?_)
      refine lv_aload C.1 C.2.1 dX11_judge_14 (lv_at hl 1 rfl) ?_
      refine lv_ifnull C.1 C.2.1 dX11_judge_16 ?_
      refine lv_aloadN C.1 C.2.1 dX11_judge_19 (lv_at hl 0 rfl) ?_
      refine lv_ifnullN (tgt := 33) C.1 C.2.1 dX11_judge_21 (by decide) ?_
      refine lv_iconst (v := (-1)) C.1 C.2.1 dX11_judge_33 (by decide) ?_
      exact k_zretP C hr hlk rfl ⟨c2985, c2986, c2989, c2990, rfl⟩ dX11_judge_34
    · exact False.elim (by have z0 := kz_nlt as2; have z1 := kz_nlt c2991; have z2 := kz_nle c2992; have t6 : (6 : Int32).toInt = 6 := (by decide); have t0 : (0 : Int32).toInt = 0 := (by decide); omega)
set_option maxHeartbeats 4000000 in
set_option maxRecDepth 100000 in
theorem kcX2_placeThatDiffers (l : Launch) (D : va_G) (h0 h1 h2 h3 h4 h5 h6 h7 h8 h9 h10 : Nat) (sz : Nat)  : Met l yX2_placeThatDiffers (Cond.code yX2_placeThatDiffers cX2_placeThatDiffers 3 (some .int) :: gG) { frames := 1, cells := 0, slots := 0, locals := 64 } (cPre D [] [(h0, .inr (2, [.int (-1), .int (-1), .int 0, .int 0, .ref h1, .ref h2])), (h1, .inr (3, [.ref h3, .ref h4, .int 0, .int 0, .int 0, .ref h5, .ref h6])), (h2, .inr (3, [.ref h7, .ref h8, .int 0, .int 0, .int 0, .ref h9, .ref h10]))] sz [.ref h0]) (vp_Si (fun r => r = (-1))) 0 0 (fun _ => False) := by
  refine Met.ofW (cc := cX2_placeThatDiffers) (maxL := 3) (ret := (some .int)) (by decide) rfl ?_
  intro p e s m args below meth c s₁ B hml hv
  obtain ⟨rfl, aks, rfl, Wd⟩ := k_enter hv
  have C : CallFix p m c cX2_placeThatDiffers 3 s _ gG RX2 := ⟨B.exec, B.bytes, hml, findClass_of_methodNamed B.named, fun w h => atoms_spec (ws := Cond.code yX2_placeThatDiffers cX2_placeThatDiffers 3 (some .int) :: gG) B.pre w (List.mem_cons_of_mem _ h)⟩
  have hr := B.returns
  have hlk := B.notSynchronized
  obtain ⟨A, Wd⟩ : ∃ A, wX D [] s [(h0, .inr (2, [.int (-1), .int (-1), .int 0, .int 0, .ref h1, .ref h2])), (h1, .inr (3, [.ref h3, .ref h4, .int 0, .int 0, .int 0, .ref h5, .ref h6])), (h2, .inr (3, [.ref h7, .ref h8, .int 0, .int 0, .int 0, .ref h9, .ref h10]))] s.heap A s.heap [] := ⟨_, Wd⟩
  refine k_locals (Nat.le_of_ble_eq_true rfl) [(0, .ref h0)] rfl (fun ls hl => ?_)
  refine lv_aload_n C.1 C.2.1 dX2_placeThatDiffers_0 rfl (lv_at hl 0 rfl) ?_
  refine k_get C Wd KX2 0 4 rfl (by decide) fl_X2_12 rfl dX2_placeThatDiffers_1 ?_
  refine k_get C Wd KX3 1 2 rfl (by decide) fl_X2_64 rfl dX2_placeThatDiffers_4 ?_
  refine lv_aload_n C.1 C.2.1 dX2_placeThatDiffers_7 rfl (lv_at hl 0 rfl) ?_
  refine k_get C Wd KX2 0 5 rfl (by decide) fl_X2_18 rfl dX2_placeThatDiffers_8 ?_
  refine k_get C Wd KX3 2 2 rfl (by decide) fl_X2_64 rfl dX2_placeThatDiffers_11 ?_
  refine k_mmin (v := 0) C hl.1 ml_X2_70 st_Lib_Math_min_name in_J9 cd_min (Nat.le_of_ble_eq_true rfl) (Nat.le_of_ble_eq_true rfl) (Nat.le_of_ble_eq_true rfl) (Nat.le_of_ble_eq_true rfl) (by decide) dX2_placeThatDiffers_14 ?_
  refine lv_istore_n (lv' := [(1, .int 0), (0, .ref h0)]) C.1 C.2.1 dX2_placeThatDiffers_17 rfl hl (by decide) rfl (fun ls hl => ?_)
  refine lv_iconst (v := 0) C.1 C.2.1 dX2_placeThatDiffers_18 (by decide) ?_
  refine lv_istore_n (lv' := [(2, .int 0), (1, .int 0), (0, .ref h0)]) C.1 C.2.1 dX2_placeThatDiffers_19 rfl hl (by decide) rfl (fun ls hl => ?_)
  refine lv_iload_n C.1 C.2.1 dX2_placeThatDiffers_20 rfl (lv_at hl 0 rfl) ?_
  refine lv_iload_n C.1 C.2.1 dX2_placeThatDiffers_21 rfl (lv_at hl 1 rfl) ?_
  refine lv_icmp_ge (tgt := 52) C.1 C.2.1 dX2_placeThatDiffers_22 (by decide) (fun _ => ?_) (fun c3022 => absurd c3022 (by decide))
  refine lv_iconst (v := (-1)) C.1 C.2.1 dX2_placeThatDiffers_52 (by decide) ?_
  exact k_zretP C hr hlk rfl rfl dX2_placeThatDiffers_53
set_option maxHeartbeats 4000000 in
set_option maxRecDepth 100000 in
theorem kcX3_isTired (l : Launch) (D : va_G) (h0 h1 h2 h3 h4 : Nat) (sz : Nat)  : Met l yX3_isTired (Cond.code yX3_isTired cX3_isTired 1 (some .boolean) :: gG) { frames := 1, cells := 0, slots := 0, locals := 64 } (cPre D [] [(h0, .inr (3, [.ref h1, .ref h2, .int 0, .int 0, .int 0, .ref h3, .ref h4]))] sz [.ref h0]) (vp_Si (fun r => r = 0)) 0 0 (fun _ => False) := by
  refine Met.ofW (cc := cX3_isTired) (maxL := 1) (ret := (some .boolean)) (by decide) rfl ?_
  intro p e s m args below meth c s₁ B hml hv
  obtain ⟨rfl, aks, rfl, Wd⟩ := k_enter hv
  have C : CallFix p m c cX3_isTired 1 s _ gG RX3 := ⟨B.exec, B.bytes, hml, findClass_of_methodNamed B.named, fun w h => atoms_spec (ws := Cond.code yX3_isTired cX3_isTired 1 (some .boolean) :: gG) B.pre w (List.mem_cons_of_mem _ h)⟩
  have hr := B.returns
  have hlk := B.notSynchronized
  obtain ⟨A, Wd⟩ : ∃ A, wX D [] s [(h0, .inr (3, [.ref h1, .ref h2, .int 0, .int 0, .int 0, .ref h3, .ref h4]))] s.heap A s.heap [] := ⟨_, Wd⟩
  refine k_locals (Nat.le_of_ble_eq_true rfl) [(0, .ref h0)] rfl (fun ls hl => ?_)
  refine lv_aload_n C.1 C.2.1 dX3_isTired_0 rfl (lv_at hl 0 rfl) ?_
  refine k_get C Wd KX3 0 4 rfl (by decide) fl_X3_42 rfl dX3_isTired_1 ?_
  refine lv_iconst (v := 2) C.1 C.2.1 dX3_isTired_4 (by decide) ?_
  refine lv_icmp_ne (tgt := 12) C.1 C.2.1 dX3_isTired_5 (by decide) (fun _ => ?_) (fun c3025 => absurd c3025 (by decide))
  refine lv_iconst (v := 0) C.1 C.2.1 dX3_isTired_12 (by decide) ?_
  exact k_zretP C hr hlk rfl rfl dX3_isTired_13
set_option maxHeartbeats 4000000 in
set_option maxRecDepth 100000 in
theorem kcX2_note (l : Launch) (D : va_G) (h0 h1 h2 h3 h4 h5 h6 h7 h8 h9 h10 : Nat) (sz : Nat)  : Met l yX2_note (Cond.code yX2_note cX2_note 6 none :: gG) { frames := 2, cells := 0, slots := 0, locals := 86 } (cPre D [] [(h0, .inr (2, [.int (-1), .int (-1), .int 0, .int 0, .ref h1, .ref h2])), (h1, .inr (3, [.ref h3, .ref h4, .int 0, .int 0, .int 0, .ref h5, .ref h6])), (h2, .inr (3, [.ref h7, .ref h8, .int 0, .int 0, .int 0, .ref h9, .ref h10]))] sz [.ref h0, .int 0, .int 256]) (va_Qv (fun (_ : Unit) => True) (fun u t => cB D (va_A [(h0, .inr (2, [.int (-1), .int (-1), .int 0, .int 0, .ref h1, .ref h2])), (h1, .inr (3, [.ref h3, .ref h4, .int 0, .int 0, .int 0, .ref h5, .ref h6])), (h2, .inr (3, [.ref h7, .ref h8, .int 0, .int 0, .int 0, .ref h9, .ref h10]))] sz) ((fun (_ : Unit) => ([] : List (ClassId × FieldType))) u) ((fun (_ : Unit) => ([(h0, .inr (2, [.int (-1), .int (-1), .int 0, .int 0, .ref h1, .ref h2])), (h1, .inr (3, [.ref h3, .ref h4, .int 0, .int 0, .int 0, .ref h5, .ref h6])), (h2, .inr (3, [.ref h7, .ref h8, .int 0, .int 0, .int 0, .ref h9, .ref h10]))] : va_W)) u) t) (va_A [(h0, .inr (2, [.int (-1), .int (-1), .int 0, .int 0, .ref h1, .ref h2])), (h1, .inr (3, [.ref h3, .ref h4, .int 0, .int 0, .int 0, .ref h5, .ref h6])), (h2, .inr (3, [.ref h7, .ref h8, .int 0, .int 0, .int 0, .ref h9, .ref h10]))] sz)) 0 0 (va_A [(h0, .inr (2, [.int (-1), .int (-1), .int 0, .int 0, .ref h1, .ref h2])), (h1, .inr (3, [.ref h3, .ref h4, .int 0, .int 0, .int 0, .ref h5, .ref h6])), (h2, .inr (3, [.ref h7, .ref h8, .int 0, .int 0, .int 0, .ref h9, .ref h10]))] sz) := by
  refine Met.ofW (cc := cX2_note) (maxL := 6) (ret := none) (by decide) rfl ?_
  intro p e s m args below meth c s₁ B hml hv
  obtain ⟨rfl, aks, rfl, Wd⟩ := k_enter hv
  have C : CallFix p m c cX2_note 6 s _ gG RX2 := ⟨B.exec, B.bytes, hml, findClass_of_methodNamed B.named, fun w h => atoms_spec (ws := Cond.code yX2_note cX2_note 6 none :: gG) B.pre w (List.mem_cons_of_mem _ h)⟩
  have hr := B.returns
  have hlk := B.notSynchronized
  generalize va_A [(h0, .inr (2, [.int (-1), .int (-1), .int 0, .int 0, .ref h1, .ref h2])), (h1, .inr (3, [.ref h3, .ref h4, .int 0, .int 0, .int 0, .ref h5, .ref h6])), (h2, .inr (3, [.ref h7, .ref h8, .int 0, .int 0, .int 0, .ref h9, .ref h10]))] s.heap.size = A at Wd ⊢
  refine k_locals (Nat.le_of_ble_eq_true rfl) [(0, .ref h0), (1, .int 0), (2, .int 256)] rfl (fun ls hl => ?_)
  refine lv_aload_n C.1 C.2.1 dX2_note_0 rfl (lv_at hl 0 rfl) ?_
  refine k_pi (k_runV (rest := []) C aks Wd cs_X2_56 (kcX2_placeThatDiffers l D h0 h1 h2 h3 h4 h5 h6 h7 h8 h9 h10 _ ) [0, 1, 2] rfl (by decide) [] rfl 0 2 rfl rfl rfl rfl rfl ⟨(Nat.le_of_ble_eq_true rfl), (Nat.le_of_ble_eq_true rfl)⟩ hl.1 rfl rfl (Nat.le_of_ble_eq_true rfl) ⟨(Nat.le_of_ble_eq_true rfl), (Nat.le_of_ble_eq_true rfl)⟩ dX2_note_1) (fun r w3037 => ?_)
  obtain rfl := w3037
  refine lv_istore_n (lv' := [(3, .int (-1)), (0, .ref h0), (1, .int 0), (2, .int 256)]) C.1 C.2.1 dX2_note_4 rfl hl (by decide) rfl (fun ls hl => ?_)
  refine lv_aload_n C.1 C.2.1 dX2_note_5 rfl (lv_at hl 1 rfl) ?_
  refine k_get C Wd KX2 0 4 rfl (by decide) fl_X2_12 rfl dX2_note_6 ?_
  refine k_pi (k_runV (rest := []) C aks Wd cs_X2_60 (kcX3_isTired l D h1 h3 h4 h5 h6 _ ) [1] rfl (by decide) [] rfl 1 3 rfl rfl rfl rfl rfl ⟨(Nat.le_of_ble_eq_true rfl), (Nat.le_of_ble_eq_true rfl)⟩ hl.1 rfl rfl (Nat.le_of_ble_eq_true rfl) ⟨(Nat.le_of_ble_eq_true rfl), (Nat.le_of_ble_eq_true rfl)⟩ dX2_note_9) (fun r w3038 => ?_)
  obtain rfl := w3038
  refine lv_if_ne (tgt := 25) C.1 C.2.1 dX2_note_12 (by decide) (fun c3039 => absurd c3039 (by decide)) (fun _ => ?_)
  refine lv_aload_n C.1 C.2.1 dX2_note_15 rfl (lv_at hl 1 rfl) ?_
  refine k_get C Wd KX2 0 5 rfl (by decide) fl_X2_18 rfl dX2_note_16 ?_
  refine k_pi (k_runV (rest := []) C aks Wd cs_X2_60 (kcX3_isTired l D h2 h7 h8 h9 h10 _ ) [2] rfl (by decide) [] rfl 2 3 rfl rfl rfl rfl rfl ⟨(Nat.le_of_ble_eq_true rfl), (Nat.le_of_ble_eq_true rfl)⟩ hl.1 rfl rfl (Nat.le_of_ble_eq_true rfl) ⟨(Nat.le_of_ble_eq_true rfl), (Nat.le_of_ble_eq_true rfl)⟩ dX2_note_19) (fun r w3040 => ?_)
  obtain rfl := w3040
  refine lv_if_eq (tgt := 29) C.1 C.2.1 dX2_note_22 (by decide) (fun _ => ?_) (fun c3041 => absurd c3041 (by decide))
  refine lv_iconst (v := 0) C.1 C.2.1 dX2_note_29 (by decide) ?_
  refine lv_istore (lv' := [(4, .int 0), (3, .int (-1)), (0, .ref h0), (1, .int 0), (2, .int 256)]) C.1 C.2.1 dX2_note_30 hl (by decide) rfl (fun ls hl => ?_)
  refine lv_aload_n C.1 C.2.1 dX2_note_32 rfl (lv_at hl 2 rfl) ?_
  refine k_get C Wd KX2 0 4 rfl (by decide) fl_X2_12 rfl dX2_note_33 ?_
  refine k_get C Wd KX3 1 2 rfl (by decide) fl_X2_64 rfl dX2_note_36 ?_
  refine lv_aload_n C.1 C.2.1 dX2_note_39 rfl (lv_at hl 2 rfl) ?_
  refine k_get C Wd KX2 0 5 rfl (by decide) fl_X2_18 rfl dX2_note_40 ?_
  refine k_get C Wd KX3 2 2 rfl (by decide) fl_X2_64 rfl dX2_note_43 ?_
  refine lv_icmp_ne (tgt := 66) C.1 C.2.1 dX2_note_46 (by decide) (fun c3042 => absurd c3042 (by decide)) (fun _ => ?_)
  refine lv_aload_n C.1 C.2.1 dX2_note_49 rfl (lv_at hl 2 rfl) ?_
  refine k_get C Wd KX2 0 4 rfl (by decide) fl_X2_12 rfl dX2_note_50 ?_
  refine k_get C Wd KX3 1 4 rfl (by decide) fl_X2_67 rfl dX2_note_53 ?_
  refine lv_aload_n C.1 C.2.1 dX2_note_56 rfl (lv_at hl 2 rfl) ?_
  refine k_get C Wd KX2 0 5 rfl (by decide) fl_X2_18 rfl dX2_note_57 ?_
  refine k_get C Wd KX3 2 4 rfl (by decide) fl_X2_67 rfl dX2_note_60 ?_
  refine lv_icmp_eq (tgt := 70) C.1 C.2.1 dX2_note_63 (by decide) (fun _ => ?_) (fun c3043 => absurd c3043 (by decide))
  refine lv_iconst (v := 0) C.1 C.2.1 dX2_note_70 (by decide) ?_
  refine lv_istore (lv' := [(5, .int 0), (4, .int 0), (3, .int (-1)), (0, .ref h0), (1, .int 0), (2, .int 256)]) C.1 C.2.1 dX2_note_71 hl (by decide) rfl (fun ls hl => ?_)
  refine lv_aload_n C.1 C.2.1 dX2_note_73 rfl (lv_at hl 3 rfl) ?_
  refine lv_aload_n C.1 C.2.1 dX2_note_74 rfl (lv_at hl 3 rfl) ?_
  refine k_get C Wd KX2 0 3 rfl (by decide) fl_X2_31 rfl dX2_note_75 ?_
  refine lv_if_ne (tgt := 86) C.1 C.2.1 dX2_note_78 (by decide) (fun c3044 => absurd c3044 (by decide)) (fun _ => ?_)
  refine lv_iload C.1 C.2.1 dX2_note_81 (lv_at hl 1 rfl) ?_
  refine lv_if_eq (tgt := 90) C.1 C.2.1 dX2_note_83 (by decide) (fun _ => ?_) (fun c3045 => absurd c3045 (by decide))
  refine lv_iconst (v := 0) C.1 C.2.1 dX2_note_90 (by decide) ?_
  refine k_put C Wd KX2 0 3 [(h0, .inr (2, [.int (-1), .int (-1), .int 0, .int 0, .ref h1, .ref h2])), (h1, .inr (3, [.ref h3, .ref h4, .int 0, .int 0, .int 0, .ref h5, .ref h6])), (h2, .inr (3, [.ref h7, .ref h8, .int 0, .int 0, .int 0, .ref h9, .ref h10]))] rfl (by decide) fl_X2_31 rfl rfl rfl (Nat.le_of_ble_eq_true rfl) rfl dX2_note_91 (fun H locs Wd => ?_)
  refine lv_iload_n C.1 C.2.1 dX2_note_94 rfl (lv_at hl 2 rfl) ?_
  refine lv_iconst (v := (-1)) C.1 C.2.1 dX2_note_95 (by decide) ?_
  refine lv_icmp_ne (tgt := 110) C.1 C.2.1 dX2_note_96 (by decide) (fun c3046 => absurd c3046 (by decide)) (fun _ => ?_)
  refine lv_iload C.1 C.2.1 dX2_note_99 (lv_at hl 1 rfl) ?_
  refine lv_if_ne (tgt := 109) C.1 C.2.1 dX2_note_101 (by decide) (fun c3047 => absurd c3047 (by decide)) (fun _ => ?_)
  refine lv_iload C.1 C.2.1 dX2_note_104 (lv_at hl 0 rfl) ?_
  refine lv_if_ne (tgt := 110) C.1 C.2.1 dX2_note_106 (by decide) (fun c3048 => absurd c3048 (by decide)) (fun _ => ?_)
  exact k_vret C hr hlk Wd () trivial [0, 1, 2] rfl (by decide) [] rfl (by decide) (by decide) dX2_note_109
set_option maxHeartbeats 4000000 in
set_option maxRecDepth 100000 in
theorem kcX2_compare (l : Launch) (D : va_G) (h0 h1 h2 h3 h4 h5 h6 h7 h8 h9 h10 h11 h12 h13 h14 h15 h16 h17 h18 h19 h20 h21 h22 h23 h24 h25 h26 h27 h28 h29 h30 h31 h32 h33 h34 h35 h36 h37 h38 h39 h40 : Nat) (a2 a3 a4 a5 : ClassId) (sz : Nat)  : Met l yX2_compare (Cond.code yX2_compare cX2_compare 9 (some .boolean) :: gG) { frames := 3, cells := 0, slots := 0, locals := 111 } (cPre D [(a2, .int), (a3, .int), (a4, .int), (a5, .int)] [(h0, .inr (2, [.int (-1), .int (-1), .int 0, .int 0, .ref h3, .ref h4])), (h3, .inr (3, [.ref h7, .ref h8, .int 0, .int 0, .int 0, .ref h9, .ref h10])), (h7, .inr (1, [.ref h15, .int 0, .ref h16, .ref h17, .ref h18, .ref h19, .ref h20, .ref h21, .ref h22, .ref h23, .ref h24, .ref h25, .ref h26, .ref h27])), (h1, .inr (8, [.ref h5, .int 0])), (h27, .inl (a4, 480, .inl (fun _ => 0))), (h4, .inr (3, [.ref h11, .ref h12, .int 0, .int 0, .int 0, .ref h13, .ref h14])), (h11, .inr (1, [.ref h28, .int 0, .ref h29, .ref h30, .ref h31, .ref h32, .ref h33, .ref h34, .ref h35, .ref h36, .ref h37, .ref h38, .ref h39, .ref h40])), (h2, .inr (8, [.ref h6, .int 0])), (h40, .inl (a5, 480, .inl (fun _ => 0))), (h9, .inl (a2, 6, .inl (fun _ => 0))), (h13, .inl (a3, 6, .inl (fun _ => 0)))] sz [.ref h0, .ref h1, .ref h2, .int 0]) (va_Qi (fun (r : Int32) (_ : Unit) => r = 0) (fun u t => cB D (va_A [(h0, .inr (2, [.int (-1), .int (-1), .int 0, .int 0, .ref h3, .ref h4])), (h3, .inr (3, [.ref h7, .ref h8, .int 0, .int 0, .int 0, .ref h9, .ref h10])), (h7, .inr (1, [.ref h15, .int 0, .ref h16, .ref h17, .ref h18, .ref h19, .ref h20, .ref h21, .ref h22, .ref h23, .ref h24, .ref h25, .ref h26, .ref h27])), (h1, .inr (8, [.ref h5, .int 0])), (h27, .inl (a4, 480, .inl (fun _ => 0))), (h4, .inr (3, [.ref h11, .ref h12, .int 0, .int 0, .int 0, .ref h13, .ref h14])), (h11, .inr (1, [.ref h28, .int 0, .ref h29, .ref h30, .ref h31, .ref h32, .ref h33, .ref h34, .ref h35, .ref h36, .ref h37, .ref h38, .ref h39, .ref h40])), (h2, .inr (8, [.ref h6, .int 0])), (h40, .inl (a5, 480, .inl (fun _ => 0))), (h9, .inl (a2, 6, .inl (fun _ => 0))), (h13, .inl (a3, 6, .inl (fun _ => 0)))] sz) ((fun (_ : Unit) => ([] : List (ClassId × FieldType))) u) ((fun (_ : Unit) => ([(h0, .inr (2, [.int (-1), .int (-1), .int 0, .int 0, .ref h3, .ref h4])), (h3, .inr (3, [.ref h7, .ref h8, .int 0, .int 0, .int 0, .ref h9, .ref h10])), (h7, .inr (1, [.ref h1, .int 0, .ref h16, .ref h17, .ref h18, .ref h19, .ref h20, .ref h21, .ref h22, .ref h23, .ref h24, .ref h25, .ref h26, .ref h27])), (h1, .inr (8, [.ref h5, .int 0])), (h27, .inl (a4, 480, .inl (fun _ => 0))), (h4, .inr (3, [.ref h11, .ref h12, .int 0, .int 0, .int 0, .ref h13, .ref h14])), (h11, .inr (1, [.ref h2, .int 0, .ref h29, .ref h30, .ref h31, .ref h32, .ref h33, .ref h34, .ref h35, .ref h36, .ref h37, .ref h38, .ref h39, .ref h40])), (h2, .inr (8, [.ref h6, .int 0])), (h40, .inl (a5, 480, .inl (fun _ => 0))), (h9, .inl (a2, 6, .inl (upd (upd (upd (upd (upd (upd (fun _ => 0) 0 0) 1 0) 2 0) 3 0) 4 0) 5 0))), (h13, .inl (a3, 6, .inl (upd (upd (upd (upd (upd (upd (fun _ => 0) 0 0) 1 0) 2 0) 3 0) 4 0) 5 0)))] : va_W)) u) t) (va_A [(h0, .inr (2, [.int (-1), .int (-1), .int 0, .int 0, .ref h3, .ref h4])), (h3, .inr (3, [.ref h7, .ref h8, .int 0, .int 0, .int 0, .ref h9, .ref h10])), (h7, .inr (1, [.ref h15, .int 0, .ref h16, .ref h17, .ref h18, .ref h19, .ref h20, .ref h21, .ref h22, .ref h23, .ref h24, .ref h25, .ref h26, .ref h27])), (h1, .inr (8, [.ref h5, .int 0])), (h27, .inl (a4, 480, .inl (fun _ => 0))), (h4, .inr (3, [.ref h11, .ref h12, .int 0, .int 0, .int 0, .ref h13, .ref h14])), (h11, .inr (1, [.ref h28, .int 0, .ref h29, .ref h30, .ref h31, .ref h32, .ref h33, .ref h34, .ref h35, .ref h36, .ref h37, .ref h38, .ref h39, .ref h40])), (h2, .inr (8, [.ref h6, .int 0])), (h40, .inl (a5, 480, .inl (fun _ => 0))), (h9, .inl (a2, 6, .inl (fun _ => 0))), (h13, .inl (a3, 6, .inl (fun _ => 0)))] sz)) 0 0 (va_A [(h0, .inr (2, [.int (-1), .int (-1), .int 0, .int 0, .ref h3, .ref h4])), (h3, .inr (3, [.ref h7, .ref h8, .int 0, .int 0, .int 0, .ref h9, .ref h10])), (h7, .inr (1, [.ref h15, .int 0, .ref h16, .ref h17, .ref h18, .ref h19, .ref h20, .ref h21, .ref h22, .ref h23, .ref h24, .ref h25, .ref h26, .ref h27])), (h1, .inr (8, [.ref h5, .int 0])), (h27, .inl (a4, 480, .inl (fun _ => 0))), (h4, .inr (3, [.ref h11, .ref h12, .int 0, .int 0, .int 0, .ref h13, .ref h14])), (h11, .inr (1, [.ref h28, .int 0, .ref h29, .ref h30, .ref h31, .ref h32, .ref h33, .ref h34, .ref h35, .ref h36, .ref h37, .ref h38, .ref h39, .ref h40])), (h2, .inr (8, [.ref h6, .int 0])), (h40, .inl (a5, 480, .inl (fun _ => 0))), (h9, .inl (a2, 6, .inl (fun _ => 0))), (h13, .inl (a3, 6, .inl (fun _ => 0)))] sz) := by
  refine Met.ofW (cc := cX2_compare) (maxL := 9) (ret := (some .boolean)) (by decide) rfl ?_
  intro p e s m args below meth c s₁ B hml hv
  obtain ⟨rfl, aks, rfl, Wd⟩ := k_enter hv
  have C : CallFix p m c cX2_compare 9 s _ gG RX2 := ⟨B.exec, B.bytes, hml, findClass_of_methodNamed B.named, fun w h => atoms_spec (ws := Cond.code yX2_compare cX2_compare 9 (some .boolean) :: gG) B.pre w (List.mem_cons_of_mem _ h)⟩
  have hr := B.returns
  have hlk := B.notSynchronized
  generalize va_A [(h0, .inr (2, [.int (-1), .int (-1), .int 0, .int 0, .ref h3, .ref h4])), (h3, .inr (3, [.ref h7, .ref h8, .int 0, .int 0, .int 0, .ref h9, .ref h10])), (h7, .inr (1, [.ref h15, .int 0, .ref h16, .ref h17, .ref h18, .ref h19, .ref h20, .ref h21, .ref h22, .ref h23, .ref h24, .ref h25, .ref h26, .ref h27])), (h1, .inr (8, [.ref h5, .int 0])), (h27, .inl (a4, 480, .inl (fun _ => 0))), (h4, .inr (3, [.ref h11, .ref h12, .int 0, .int 0, .int 0, .ref h13, .ref h14])), (h11, .inr (1, [.ref h28, .int 0, .ref h29, .ref h30, .ref h31, .ref h32, .ref h33, .ref h34, .ref h35, .ref h36, .ref h37, .ref h38, .ref h39, .ref h40])), (h2, .inr (8, [.ref h6, .int 0])), (h40, .inl (a5, 480, .inl (fun _ => 0))), (h9, .inl (a2, 6, .inl (fun _ => 0))), (h13, .inl (a3, 6, .inl (fun _ => 0)))] s.heap.size = A at Wd ⊢
  refine k_locals (Nat.le_of_ble_eq_true rfl) [(0, .ref h0), (1, .ref h1), (2, .ref h2), (3, .int 0)] rfl (fun ls hl => ?_)
  refine lv_aload_n C.1 C.2.1 dX2_compare_0 rfl (lv_at hl 0 rfl) ?_
  refine lv_iconst (v := (-1)) C.1 C.2.1 dX2_compare_1 (by decide) ?_
  refine k_put C Wd KX2 0 0 [(h0, .inr (2, [.int (-1), .int (-1), .int 0, .int 0, .ref h3, .ref h4])), (h3, .inr (3, [.ref h7, .ref h8, .int 0, .int 0, .int 0, .ref h9, .ref h10])), (h7, .inr (1, [.ref h15, .int 0, .ref h16, .ref h17, .ref h18, .ref h19, .ref h20, .ref h21, .ref h22, .ref h23, .ref h24, .ref h25, .ref h26, .ref h27])), (h1, .inr (8, [.ref h5, .int 0])), (h27, .inl (a4, 480, .inl (fun _ => 0))), (h4, .inr (3, [.ref h11, .ref h12, .int 0, .int 0, .int 0, .ref h13, .ref h14])), (h11, .inr (1, [.ref h28, .int 0, .ref h29, .ref h30, .ref h31, .ref h32, .ref h33, .ref h34, .ref h35, .ref h36, .ref h37, .ref h38, .ref h39, .ref h40])), (h2, .inr (8, [.ref h6, .int 0])), (h40, .inl (a5, 480, .inl (fun _ => 0))), (h9, .inl (a2, 6, .inl (fun _ => 0))), (h13, .inl (a3, 6, .inl (fun _ => 0)))] rfl (by decide) fl_X2_21 rfl rfl rfl (Nat.le_of_ble_eq_true rfl) rfl dX2_compare_2 (fun H locs Wd => ?_)
  refine lv_aload_n C.1 C.2.1 dX2_compare_5 rfl (lv_at hl 0 rfl) ?_
  refine lv_iconst (v := (-1)) C.1 C.2.1 dX2_compare_6 (by decide) ?_
  refine k_put C Wd KX2 0 1 [(h0, .inr (2, [.int (-1), .int (-1), .int 0, .int 0, .ref h3, .ref h4])), (h3, .inr (3, [.ref h7, .ref h8, .int 0, .int 0, .int 0, .ref h9, .ref h10])), (h7, .inr (1, [.ref h15, .int 0, .ref h16, .ref h17, .ref h18, .ref h19, .ref h20, .ref h21, .ref h22, .ref h23, .ref h24, .ref h25, .ref h26, .ref h27])), (h1, .inr (8, [.ref h5, .int 0])), (h27, .inl (a4, 480, .inl (fun _ => 0))), (h4, .inr (3, [.ref h11, .ref h12, .int 0, .int 0, .int 0, .ref h13, .ref h14])), (h11, .inr (1, [.ref h28, .int 0, .ref h29, .ref h30, .ref h31, .ref h32, .ref h33, .ref h34, .ref h35, .ref h36, .ref h37, .ref h38, .ref h39, .ref h40])), (h2, .inr (8, [.ref h6, .int 0])), (h40, .inl (a5, 480, .inl (fun _ => 0))), (h9, .inl (a2, 6, .inl (fun _ => 0))), (h13, .inl (a3, 6, .inl (fun _ => 0)))] rfl (by decide) fl_X2_25 rfl rfl rfl (Nat.le_of_ble_eq_true rfl) rfl dX2_compare_7 (fun H locs Wd => ?_)
  refine lv_aload_n C.1 C.2.1 dX2_compare_10 rfl (lv_at hl 0 rfl) ?_
  refine lv_iconst (v := 0) C.1 C.2.1 dX2_compare_11 (by decide) ?_
  refine k_put C Wd KX2 0 2 [(h0, .inr (2, [.int (-1), .int (-1), .int 0, .int 0, .ref h3, .ref h4])), (h3, .inr (3, [.ref h7, .ref h8, .int 0, .int 0, .int 0, .ref h9, .ref h10])), (h7, .inr (1, [.ref h15, .int 0, .ref h16, .ref h17, .ref h18, .ref h19, .ref h20, .ref h21, .ref h22, .ref h23, .ref h24, .ref h25, .ref h26, .ref h27])), (h1, .inr (8, [.ref h5, .int 0])), (h27, .inl (a4, 480, .inl (fun _ => 0))), (h4, .inr (3, [.ref h11, .ref h12, .int 0, .int 0, .int 0, .ref h13, .ref h14])), (h11, .inr (1, [.ref h28, .int 0, .ref h29, .ref h30, .ref h31, .ref h32, .ref h33, .ref h34, .ref h35, .ref h36, .ref h37, .ref h38, .ref h39, .ref h40])), (h2, .inr (8, [.ref h6, .int 0])), (h40, .inl (a5, 480, .inl (fun _ => 0))), (h9, .inl (a2, 6, .inl (fun _ => 0))), (h13, .inl (a3, 6, .inl (fun _ => 0)))] rfl (by decide) fl_X2_28 rfl rfl rfl (Nat.le_of_ble_eq_true rfl) rfl dX2_compare_12 (fun H locs Wd => ?_)
  refine lv_aload_n C.1 C.2.1 dX2_compare_15 rfl (lv_at hl 0 rfl) ?_
  refine lv_iconst (v := 0) C.1 C.2.1 dX2_compare_16 (by decide) ?_
  refine k_put C Wd KX2 0 3 [(h0, .inr (2, [.int (-1), .int (-1), .int 0, .int 0, .ref h3, .ref h4])), (h3, .inr (3, [.ref h7, .ref h8, .int 0, .int 0, .int 0, .ref h9, .ref h10])), (h7, .inr (1, [.ref h15, .int 0, .ref h16, .ref h17, .ref h18, .ref h19, .ref h20, .ref h21, .ref h22, .ref h23, .ref h24, .ref h25, .ref h26, .ref h27])), (h1, .inr (8, [.ref h5, .int 0])), (h27, .inl (a4, 480, .inl (fun _ => 0))), (h4, .inr (3, [.ref h11, .ref h12, .int 0, .int 0, .int 0, .ref h13, .ref h14])), (h11, .inr (1, [.ref h28, .int 0, .ref h29, .ref h30, .ref h31, .ref h32, .ref h33, .ref h34, .ref h35, .ref h36, .ref h37, .ref h38, .ref h39, .ref h40])), (h2, .inr (8, [.ref h6, .int 0])), (h40, .inl (a5, 480, .inl (fun _ => 0))), (h9, .inl (a2, 6, .inl (fun _ => 0))), (h13, .inl (a3, 6, .inl (fun _ => 0)))] rfl (by decide) fl_X2_31 rfl rfl rfl (Nat.le_of_ble_eq_true rfl) rfl dX2_compare_17 (fun H locs Wd => ?_)
  refine lv_aload_n C.1 C.2.1 dX2_compare_20 rfl (lv_at hl 0 rfl) ?_
  refine k_get C Wd KX2 0 4 rfl (by decide) fl_X2_12 rfl dX2_compare_21 ?_
  refine k_get C Wd KX3 1 0 rfl (by decide) fl_X2_35 rfl dX2_compare_24 ?_
  refine lv_aload_n C.1 C.2.1 dX2_compare_27 rfl (lv_at hl 1 rfl) ?_
  refine k_cv Wd [2, 3, 4] [0, 1, 5, 6, 7, 8, 9, 10] rfl (wr := [(h0, .inr (2, [.int (-1), .int (-1), .int 0, .int 0, .ref h3, .ref h4])), (h3, .inr (3, [.ref h7, .ref h8, .int 0, .int 0, .int 0, .ref h9, .ref h10])), (h4, .inr (3, [.ref h11, .ref h12, .int 0, .int 0, .int 0, .ref h13, .ref h14])), (h11, .inr (1, [.ref h28, .int 0, .ref h29, .ref h30, .ref h31, .ref h32, .ref h33, .ref h34, .ref h35, .ref h36, .ref h37, .ref h38, .ref h39, .ref h40])), (h2, .inr (8, [.ref h6, .int 0])), (h40, .inl (a5, 480, .inl (fun _ => 0))), (h9, .inl (a2, 6, .inl (fun _ => 0))), (h13, .inl (a3, 6, .inl (fun _ => 0)))]) rfl (by decide) (by decide) (cells' := 0) (slots' := 0) (by decide) (by decide) (k_runV (rest := []) C aks Wd cs_X2_39 (kcX1_trace l D h7 h1 h15 h16 h17 h18 h19 h20 h21 h22 h23 h24 h25 h26 h27 h5 a4 _ ) [2, 3, 4] rfl (by decide) [2] rfl 2 1 rfl rfl rfl rfl rfl ⟨(Nat.le_of_ble_eq_true rfl), (Nat.le_of_ble_eq_true rfl)⟩ hl.1 rfl rfl (Nat.le_of_ble_eq_true rfl) ⟨(Nat.le_of_ble_eq_true rfl), (Nat.le_of_ble_eq_true rfl)⟩ dX2_compare_28) (fun _ H locs w3054 Wd => ?_)
  have Wd : wX D [(a2, .int), (a3, .int), (a4, .int), (a5, .int)] s [(h0, .inr (2, [.int (-1), .int (-1), .int 0, .int 0, .ref h3, .ref h4])), (h3, .inr (3, [.ref h7, .ref h8, .int 0, .int 0, .int 0, .ref h9, .ref h10])), (h4, .inr (3, [.ref h11, .ref h12, .int 0, .int 0, .int 0, .ref h13, .ref h14])), (h11, .inr (1, [.ref h28, .int 0, .ref h29, .ref h30, .ref h31, .ref h32, .ref h33, .ref h34, .ref h35, .ref h36, .ref h37, .ref h38, .ref h39, .ref h40])), (h2, .inr (8, [.ref h6, .int 0])), (h40, .inl (a5, 480, .inl (fun _ => 0))), (h9, .inl (a2, 6, .inl (fun _ => 0))), (h13, .inl (a3, 6, .inl (fun _ => 0))), (h7, .inr (1, [.ref h1, .int 0, .ref h16, .ref h17, .ref h18, .ref h19, .ref h20, .ref h21, .ref h22, .ref h23, .ref h24, .ref h25, .ref h26, .ref h27])), (h1, .inr (8, [.ref h5, .int 0])), (h27, .inl (a4, 480, .inl (fun _ => 0)))] _ A s.heap _ := Wd
  refine lv_aload_n C.1 C.2.1 dX2_compare_31 rfl (lv_at hl 0 rfl) ?_
  refine k_get C Wd KX2 0 5 rfl (by decide) fl_X2_18 rfl dX2_compare_32 ?_
  refine k_get C Wd KX3 2 0 rfl (by decide) fl_X2_35 rfl dX2_compare_35 ?_
  refine lv_aload_n C.1 C.2.1 dX2_compare_38 rfl (lv_at hl 2 rfl) ?_
  refine k_cv Wd [3, 4, 5] [0, 1, 2, 6, 7, 8, 9, 10] rfl (wr := [(h0, .inr (2, [.int (-1), .int (-1), .int 0, .int 0, .ref h3, .ref h4])), (h3, .inr (3, [.ref h7, .ref h8, .int 0, .int 0, .int 0, .ref h9, .ref h10])), (h4, .inr (3, [.ref h11, .ref h12, .int 0, .int 0, .int 0, .ref h13, .ref h14])), (h9, .inl (a2, 6, .inl (fun _ => 0))), (h13, .inl (a3, 6, .inl (fun _ => 0))), (h7, .inr (1, [.ref h1, .int 0, .ref h16, .ref h17, .ref h18, .ref h19, .ref h20, .ref h21, .ref h22, .ref h23, .ref h24, .ref h25, .ref h26, .ref h27])), (h1, .inr (8, [.ref h5, .int 0])), (h27, .inl (a4, 480, .inl (fun _ => 0)))]) rfl (by decide) (by decide) (cells' := 0) (slots' := 0) (by decide) (by decide) (k_runV (rest := []) C aks Wd cs_X2_39 (kcX1_trace l D h11 h2 h28 h29 h30 h31 h32 h33 h34 h35 h36 h37 h38 h39 h40 h6 a5 _ ) [3, 4, 5] rfl (by decide) [3] rfl 3 1 rfl rfl rfl rfl rfl ⟨(Nat.le_of_ble_eq_true rfl), (Nat.le_of_ble_eq_true rfl)⟩ hl.1 rfl rfl (Nat.le_of_ble_eq_true rfl) ⟨(Nat.le_of_ble_eq_true rfl), (Nat.le_of_ble_eq_true rfl)⟩ dX2_compare_39) (fun _ H locs w3055 Wd => ?_)
  have Wd : wX D [(a2, .int), (a3, .int), (a4, .int), (a5, .int)] s [(h0, .inr (2, [.int (-1), .int (-1), .int 0, .int 0, .ref h3, .ref h4])), (h3, .inr (3, [.ref h7, .ref h8, .int 0, .int 0, .int 0, .ref h9, .ref h10])), (h4, .inr (3, [.ref h11, .ref h12, .int 0, .int 0, .int 0, .ref h13, .ref h14])), (h9, .inl (a2, 6, .inl (fun _ => 0))), (h13, .inl (a3, 6, .inl (fun _ => 0))), (h7, .inr (1, [.ref h1, .int 0, .ref h16, .ref h17, .ref h18, .ref h19, .ref h20, .ref h21, .ref h22, .ref h23, .ref h24, .ref h25, .ref h26, .ref h27])), (h1, .inr (8, [.ref h5, .int 0])), (h27, .inl (a4, 480, .inl (fun _ => 0))), (h11, .inr (1, [.ref h2, .int 0, .ref h29, .ref h30, .ref h31, .ref h32, .ref h33, .ref h34, .ref h35, .ref h36, .ref h37, .ref h38, .ref h39, .ref h40])), (h2, .inr (8, [.ref h6, .int 0])), (h40, .inl (a5, 480, .inl (fun _ => 0)))] _ A s.heap _ := Wd
  refine lv_aload_n C.1 C.2.1 dX2_compare_42 rfl (lv_at hl 0 rfl) ?_
  refine k_get C Wd KX2 0 4 rfl (by decide) fl_X2_12 rfl dX2_compare_43 ?_
  refine k_get C Wd KX3 1 0 rfl (by decide) fl_X2_35 rfl dX2_compare_46 ?_
  refine lv_iconst (v := 0) C.1 C.2.1 dX2_compare_49 (by decide) ?_
  refine k_pi (k_runV (rest := []) C aks Wd cs_X2_45 (kcX1_aheadOf l D h7 h1 h16 h17 h18 h19 h20 h21 h22 h23 h24 h25 h26 h27 0 _ ) [5] rfl (by decide) [] rfl 5 1 rfl rfl rfl rfl rfl ⟨(Nat.le_of_ble_eq_true rfl), (Nat.le_of_ble_eq_true rfl)⟩ hl.1 rfl rfl (Nat.le_of_ble_eq_true rfl) ⟨(Nat.le_of_ble_eq_true rfl), (Nat.le_of_ble_eq_true rfl)⟩ dX2_compare_50) (fun r w3056 => ?_)
  rcases w3056 with ⟨c3057, rfl⟩ | ⟨c3058, rfl⟩
  · exact absurd c3057 (by decide)
  · refine lv_aload_n C.1 C.2.1 dX2_compare_53 rfl (lv_at hl 0 rfl) ?_
    refine k_get C Wd KX2 0 5 rfl (by decide) fl_X2_18 rfl dX2_compare_54 ?_
    refine k_get C Wd KX3 2 0 rfl (by decide) fl_X2_35 rfl dX2_compare_57 ?_
    refine lv_iconst (v := 0) C.1 C.2.1 dX2_compare_60 (by decide) ?_
    refine k_pi (k_runV (rest := [.int 0]) C aks Wd cs_X2_45 (kcX1_aheadOf l D h11 h2 h29 h30 h31 h32 h33 h34 h35 h36 h37 h38 h39 h40 0 _ ) [8] rfl (by decide) [] rfl 8 1 rfl rfl rfl rfl rfl ⟨(Nat.le_of_ble_eq_true rfl), (Nat.le_of_ble_eq_true rfl)⟩ hl.1 rfl rfl (Nat.le_of_ble_eq_true rfl) ⟨(Nat.le_of_ble_eq_true rfl), (Nat.le_of_ble_eq_true rfl)⟩ dX2_compare_61) (fun r w3059 => ?_)
    rcases w3059 with ⟨c3060, rfl⟩ | ⟨c3061, rfl⟩
    · exact absurd c3060 (by decide)
    · refine k_ior (v := 0) C (by decide) dX2_compare_64 ?_
      refine lv_istore (lv' := [(4, .int 0), (0, .ref h0), (1, .ref h1), (2, .ref h2), (3, .int 0)]) C.1 C.2.1 dX2_compare_65 hl (by decide) rfl (fun ls hl => ?_)
      refine lv_iload C.1 C.2.1 dX2_compare_67 (lv_at hl 0 rfl) ?_
      refine lv_iconst (v := 1) C.1 C.2.1 dX2_compare_69 (by decide) ?_
      refine k_iand (v := 0) C (by decide) dX2_compare_70 ?_
      refine lv_if_eq (tgt := 78) C.1 C.2.1 dX2_compare_71 (by decide) (fun _ => ?_) (fun c3062 => absurd c3062 (by decide))
      refine lv_bipush (v := 16) C.1 C.2.1 dX2_compare_78 (by decide) ?_
      refine lv_istore (lv' := [(5, .int 16), (4, .int 0), (0, .ref h0), (1, .ref h1), (2, .ref h2), (3, .int 0)]) C.1 C.2.1 dX2_compare_80 hl (by decide) rfl (fun ls hl => ?_)
      refine lv_iload C.1 C.2.1 dX2_compare_82 (lv_at hl 1 rfl) ?_
      refine lv_iconst (v := 2) C.1 C.2.1 dX2_compare_84 (by decide) ?_
      refine k_iand (v := 0) C (by decide) dX2_compare_85 ?_
      refine lv_if_eq (tgt := 93) C.1 C.2.1 dX2_compare_86 (by decide) (fun _ => ?_) (fun c3063 => absurd c3063 (by decide))
      refine lv_bipush (v := 16) C.1 C.2.1 dX2_compare_93 (by decide) ?_
      refine lv_istore (lv' := [(6, .int 16), (5, .int 16), (4, .int 0), (0, .ref h0), (1, .ref h1), (2, .ref h2), (3, .int 0)]) C.1 C.2.1 dX2_compare_95 hl (by decide) rfl (fun ls hl => ?_)
      refine lv_iconst (v := 0) C.1 C.2.1 dX2_compare_97 (by decide) ?_
      refine lv_istore (lv' := [(7, .int 0), (6, .int 16), (5, .int 16), (4, .int 0), (0, .ref h0), (1, .ref h1), (2, .ref h2), (3, .int 0)]) C.1 C.2.1 dX2_compare_98 hl (by decide) rfl (fun ls hl => ?_)
      refine lv_iload C.1 C.2.1 dX2_compare_100 (lv_at hl 0 rfl) ?_
      refine lv_bipush (v := 16) C.1 C.2.1 dX2_compare_102 (by decide) ?_
      refine lv_icmp_ge (tgt := 189) C.1 C.2.1 dX2_compare_104 (by decide) (fun c3064 => absurd c3064 (by decide)) (fun _ => ?_)
      refine lv_iconst (v := 0) C.1 C.2.1 dX2_compare_107 (by decide) ?_
      refine lv_istore (lv' := [(8, .int 0), (7, .int 0), (6, .int 16), (5, .int 16), (4, .int 0), (0, .ref h0), (1, .ref h1), (2, .ref h2), (3, .int 0)]) C.1 C.2.1 dX2_compare_108 hl (by decide) rfl (fun ls hl => ?_)
      refine lv_iload C.1 C.2.1 dX2_compare_110 (lv_at hl 0 rfl) ?_
      refine lv_bipush (v := 16) C.1 C.2.1 dX2_compare_112 (by decide) ?_
      refine lv_icmp_ge (tgt := 179) C.1 C.2.1 dX2_compare_114 (by decide) (fun c3065 => absurd c3065 (by decide)) (fun _ => ?_)
      refine lv_aload_n C.1 C.2.1 dX2_compare_117 rfl (lv_at hl 5 rfl) ?_
      refine k_get C Wd KX2 0 4 rfl (by decide) fl_X2_12 rfl dX2_compare_118 ?_
      refine lv_iload C.1 C.2.1 dX2_compare_121 (lv_at hl 1 rfl) ?_
      refine lv_iload C.1 C.2.1 dX2_compare_123 (lv_at hl 0 rfl) ?_
      refine k_cv Wd [1, 3, 5] [0, 2, 4, 6, 7, 8, 9, 10] rfl (wr := [(h0, .inr (2, [.int (-1), .int (-1), .int 0, .int 0, .ref h3, .ref h4])), (h4, .inr (3, [.ref h11, .ref h12, .int 0, .int 0, .int 0, .ref h13, .ref h14])), (h13, .inl (a3, 6, .inl (fun _ => 0))), (h1, .inr (8, [.ref h5, .int 0])), (h27, .inl (a4, 480, .inl (fun _ => 0))), (h11, .inr (1, [.ref h2, .int 0, .ref h29, .ref h30, .ref h31, .ref h32, .ref h33, .ref h34, .ref h35, .ref h36, .ref h37, .ref h38, .ref h39, .ref h40])), (h2, .inr (8, [.ref h6, .int 0])), (h40, .inl (a5, 480, .inl (fun _ => 0)))]) rfl (by decide) (by decide) (cells' := 0) (slots' := 0) (by decide) (by decide) (k_runV (rest := []) C aks Wd cs_X2_49 (kcX3_go l D h3 h7 h8 h9 h10 h1 h16 h17 h18 h19 h20 h21 h22 h23 h24 h25 h26 h27 0 0 a2 _ ) [1, 3, 5] rfl (by decide) [0] rfl 1 3 rfl rfl rfl rfl rfl ⟨(Nat.le_of_ble_eq_true rfl), (Nat.le_of_ble_eq_true rfl)⟩ hl.1 rfl rfl (Nat.le_of_ble_eq_true rfl) ⟨(Nat.le_of_ble_eq_true rfl), (Nat.le_of_ble_eq_true rfl)⟩ dX2_compare_125) (fun _ H locs w3066 Wd => ?_)
      have Wd : wX D [(a2, .int), (a3, .int), (a4, .int), (a5, .int)] s [(h0, .inr (2, [.int (-1), .int (-1), .int 0, .int 0, .ref h3, .ref h4])), (h4, .inr (3, [.ref h11, .ref h12, .int 0, .int 0, .int 0, .ref h13, .ref h14])), (h13, .inl (a3, 6, .inl (fun _ => 0))), (h1, .inr (8, [.ref h5, .int 0])), (h27, .inl (a4, 480, .inl (fun _ => 0))), (h11, .inr (1, [.ref h2, .int 0, .ref h29, .ref h30, .ref h31, .ref h32, .ref h33, .ref h34, .ref h35, .ref h36, .ref h37, .ref h38, .ref h39, .ref h40])), (h2, .inr (8, [.ref h6, .int 0])), (h40, .inl (a5, 480, .inl (fun _ => 0))), (h3, .inr (3, [.ref h7, .ref h8, .int 0, .int 0, .int 0, .ref h9, .ref h10])), (h9, .inl (a2, 6, .inl (upd (upd (upd (upd (upd (upd (fun _ => 0) 0 0) 1 0) 2 0) 3 0) 4 0) 5 0))), (h7, .inr (1, [.ref h1, .int 0, .ref h16, .ref h17, .ref h18, .ref h19, .ref h20, .ref h21, .ref h22, .ref h23, .ref h24, .ref h25, .ref h26, .ref h27]))] _ A s.heap _ := Wd
      refine lv_aload_n C.1 C.2.1 dX2_compare_128 rfl (lv_at hl 5 rfl) ?_
      refine k_get C Wd KX2 0 5 rfl (by decide) fl_X2_18 rfl dX2_compare_129 ?_
      refine lv_iload C.1 C.2.1 dX2_compare_132 (lv_at hl 1 rfl) ?_
      refine lv_iload C.1 C.2.1 dX2_compare_134 (lv_at hl 0 rfl) ?_
      refine k_cv Wd [1, 2, 5] [0, 3, 4, 6, 7, 8, 9, 10] rfl (wr := [(h0, .inr (2, [.int (-1), .int (-1), .int 0, .int 0, .ref h3, .ref h4])), (h1, .inr (8, [.ref h5, .int 0])), (h27, .inl (a4, 480, .inl (fun _ => 0))), (h2, .inr (8, [.ref h6, .int 0])), (h40, .inl (a5, 480, .inl (fun _ => 0))), (h3, .inr (3, [.ref h7, .ref h8, .int 0, .int 0, .int 0, .ref h9, .ref h10])), (h9, .inl (a2, 6, .inl (upd (upd (upd (upd (upd (upd (fun _ => 0) 0 0) 1 0) 2 0) 3 0) 4 0) 5 0))), (h7, .inr (1, [.ref h1, .int 0, .ref h16, .ref h17, .ref h18, .ref h19, .ref h20, .ref h21, .ref h22, .ref h23, .ref h24, .ref h25, .ref h26, .ref h27]))]) rfl (by decide) (by decide) (cells' := 0) (slots' := 0) (by decide) (by decide) (k_runV (rest := []) C aks Wd cs_X2_49 (kcX3_go l D h4 h11 h12 h13 h14 h2 h29 h30 h31 h32 h33 h34 h35 h36 h37 h38 h39 h40 0 0 a3 _ ) [1, 2, 5] rfl (by decide) [1] rfl 1 3 rfl rfl rfl rfl rfl ⟨(Nat.le_of_ble_eq_true rfl), (Nat.le_of_ble_eq_true rfl)⟩ hl.1 rfl rfl (Nat.le_of_ble_eq_true rfl) ⟨(Nat.le_of_ble_eq_true rfl), (Nat.le_of_ble_eq_true rfl)⟩ dX2_compare_136) (fun _ H locs w3067 Wd => ?_)
      have Wd : wX D [(a2, .int), (a3, .int), (a4, .int), (a5, .int)] s [(h0, .inr (2, [.int (-1), .int (-1), .int 0, .int 0, .ref h3, .ref h4])), (h1, .inr (8, [.ref h5, .int 0])), (h27, .inl (a4, 480, .inl (fun _ => 0))), (h2, .inr (8, [.ref h6, .int 0])), (h40, .inl (a5, 480, .inl (fun _ => 0))), (h3, .inr (3, [.ref h7, .ref h8, .int 0, .int 0, .int 0, .ref h9, .ref h10])), (h9, .inl (a2, 6, .inl (upd (upd (upd (upd (upd (upd (fun _ => 0) 0 0) 1 0) 2 0) 3 0) 4 0) 5 0))), (h7, .inr (1, [.ref h1, .int 0, .ref h16, .ref h17, .ref h18, .ref h19, .ref h20, .ref h21, .ref h22, .ref h23, .ref h24, .ref h25, .ref h26, .ref h27])), (h4, .inr (3, [.ref h11, .ref h12, .int 0, .int 0, .int 0, .ref h13, .ref h14])), (h13, .inl (a3, 6, .inl (upd (upd (upd (upd (upd (upd (fun _ => 0) 0 0) 1 0) 2 0) 3 0) 4 0) 5 0))), (h11, .inr (1, [.ref h2, .int 0, .ref h29, .ref h30, .ref h31, .ref h32, .ref h33, .ref h34, .ref h35, .ref h36, .ref h37, .ref h38, .ref h39, .ref h40]))] _ A s.heap _ := Wd
      refine lv_aload_n C.1 C.2.1 dX2_compare_139 rfl (lv_at hl 5 rfl) ?_
      refine lv_bipush (v := 16) C.1 C.2.1 dX2_compare_140 (by decide) ?_
      refine lv_iload C.1 C.2.1 dX2_compare_142 (lv_at hl 1 rfl) ?_
      refine k_imul (v := 0) C (by decide) dX2_compare_144 ?_
      refine lv_iload C.1 C.2.1 dX2_compare_145 (lv_at hl 0 rfl) ?_
      refine k_iadd (v := 0) C (by decide) dX2_compare_147 ?_
      refine lv_iload C.1 C.2.1 dX2_compare_148 (lv_at hl 3 rfl) ?_
      refine lv_iload C.1 C.2.1 dX2_compare_150 (lv_at hl 2 rfl) ?_
      refine k_imul (v := 256) C (by decide) dX2_compare_152 ?_
      refine k_cv Wd [0, 5, 8] [1, 2, 3, 4, 6, 7, 9, 10] rfl (wr := [(h1, .inr (8, [.ref h5, .int 0])), (h27, .inl (a4, 480, .inl (fun _ => 0))), (h2, .inr (8, [.ref h6, .int 0])), (h40, .inl (a5, 480, .inl (fun _ => 0))), (h9, .inl (a2, 6, .inl (upd (upd (upd (upd (upd (upd (fun _ => 0) 0 0) 1 0) 2 0) 3 0) 4 0) 5 0))), (h7, .inr (1, [.ref h1, .int 0, .ref h16, .ref h17, .ref h18, .ref h19, .ref h20, .ref h21, .ref h22, .ref h23, .ref h24, .ref h25, .ref h26, .ref h27])), (h13, .inl (a3, 6, .inl (upd (upd (upd (upd (upd (upd (fun _ => 0) 0 0) 1 0) 2 0) 3 0) 4 0) 5 0))), (h11, .inr (1, [.ref h2, .int 0, .ref h29, .ref h30, .ref h31, .ref h32, .ref h33, .ref h34, .ref h35, .ref h36, .ref h37, .ref h38, .ref h39, .ref h40]))]) rfl (by decide) (by decide) (cells' := 0) (slots' := 0) (by decide) (by decide) (k_runV (rest := []) C aks Wd cs_X2_53 (kcX2_note l D h0 h3 h4 h7 h8 h9 h10 h11 h12 h13 h14 _ ) [0, 5, 8] rfl (by decide) [] rfl 0 2 rfl rfl rfl rfl rfl ⟨(Nat.le_of_ble_eq_true rfl), (Nat.le_of_ble_eq_true rfl)⟩ hl.1 rfl rfl (Nat.le_of_ble_eq_true rfl) ⟨(Nat.le_of_ble_eq_true rfl), (Nat.le_of_ble_eq_true rfl)⟩ dX2_compare_153) (fun _ H locs w3068 Wd => ?_)
      have Wd : wX D [(a2, .int), (a3, .int), (a4, .int), (a5, .int)] s [(h1, .inr (8, [.ref h5, .int 0])), (h27, .inl (a4, 480, .inl (fun _ => 0))), (h2, .inr (8, [.ref h6, .int 0])), (h40, .inl (a5, 480, .inl (fun _ => 0))), (h9, .inl (a2, 6, .inl (upd (upd (upd (upd (upd (upd (fun _ => 0) 0 0) 1 0) 2 0) 3 0) 4 0) 5 0))), (h7, .inr (1, [.ref h1, .int 0, .ref h16, .ref h17, .ref h18, .ref h19, .ref h20, .ref h21, .ref h22, .ref h23, .ref h24, .ref h25, .ref h26, .ref h27])), (h13, .inl (a3, 6, .inl (upd (upd (upd (upd (upd (upd (fun _ => 0) 0 0) 1 0) 2 0) 3 0) 4 0) 5 0))), (h11, .inr (1, [.ref h2, .int 0, .ref h29, .ref h30, .ref h31, .ref h32, .ref h33, .ref h34, .ref h35, .ref h36, .ref h37, .ref h38, .ref h39, .ref h40])), (h0, .inr (2, [.int (-1), .int (-1), .int 0, .int 0, .ref h3, .ref h4])), (h3, .inr (3, [.ref h7, .ref h8, .int 0, .int 0, .int 0, .ref h9, .ref h10])), (h4, .inr (3, [.ref h11, .ref h12, .int 0, .int 0, .int 0, .ref h13, .ref h14]))] _ A s.heap _ := Wd
      refine lv_iload_n C.1 C.2.1 dX2_compare_156 rfl (lv_at hl 8 rfl) ?_
      refine lv_if_eq (tgt := 169) C.1 C.2.1 dX2_compare_157 (by decide) (fun _ => ?_) (fun c3069 => absurd c3069 (by decide))
      refine lv_iload C.1 C.2.1 dX2_compare_169 (lv_at hl 0 rfl) ?_
      refine lv_iload C.1 C.2.1 dX2_compare_171 (lv_at hl 2 rfl) ?_
      refine k_iadd (v := 16) C (by decide) dX2_compare_173 ?_
      refine lv_istore (lv' := [(8, .int 16), (7, .int 0), (6, .int 16), (5, .int 16), (4, .int 0), (0, .ref h0), (1, .ref h1), (2, .ref h2), (3, .int 0)]) C.1 C.2.1 dX2_compare_174 hl (by decide) rfl (fun ls hl => ?_)
      refine lv_goto (tgt := 110) C.1 C.2.1 dX2_compare_176 (by decide) ?_
      refine lv_iload C.1 C.2.1 dX2_compare_110 (lv_at hl 0 rfl) ?_
      refine lv_bipush (v := 16) C.1 C.2.1 dX2_compare_112 (by decide) ?_
      refine lv_icmp_ge (tgt := 179) C.1 C.2.1 dX2_compare_114 (by decide) (fun _ => ?_) (fun c3070 => absurd c3070 (by decide))
      refine lv_iload C.1 C.2.1 dX2_compare_179 (lv_at hl 1 rfl) ?_
      refine lv_iload C.1 C.2.1 dX2_compare_181 (lv_at hl 3 rfl) ?_
      refine k_iadd (v := 16) C (by decide) dX2_compare_183 ?_
      refine lv_istore (lv' := [(7, .int 16), (8, .int 16), (6, .int 16), (5, .int 16), (4, .int 0), (0, .ref h0), (1, .ref h1), (2, .ref h2), (3, .int 0)]) C.1 C.2.1 dX2_compare_184 hl (by decide) rfl (fun ls hl => ?_)
      refine lv_goto (tgt := 100) C.1 C.2.1 dX2_compare_186 (by decide) ?_
      refine lv_iload C.1 C.2.1 dX2_compare_100 (lv_at hl 0 rfl) ?_
      refine lv_bipush (v := 16) C.1 C.2.1 dX2_compare_102 (by decide) ?_
      refine lv_icmp_ge (tgt := 189) C.1 C.2.1 dX2_compare_104 (by decide) (fun _ => ?_) (fun c3071 => absurd c3071 (by decide))
      refine lv_aload_n C.1 C.2.1 dX2_compare_189 rfl (lv_at hl 5 rfl) ?_
      refine k_get C Wd KX2 8 2 rfl (by decide) fl_X2_28 rfl dX2_compare_190 ?_
      refine lv_if_le (tgt := 200) C.1 C.2.1 dX2_compare_193 (by decide) (fun _ => ?_) (fun c3072 => absurd c3072 (by decide))
      refine lv_iconst (v := 0) C.1 C.2.1 dX2_compare_200 (by decide) ?_
      exact k_zret C hr hlk rfl Wd () rfl [8, 9, 5, 0, 1, 10, 7, 2, 3, 4, 6] rfl (by decide) [] rfl (by decide) (by decide) dX2_compare_201
set_option maxHeartbeats 4000000 in
set_option maxRecDepth 100000 in
theorem kcX2_verdict (l : Launch) (D : va_G) (h0 h1 h2 : Nat) (sz : Nat)  : Met l yX2_verdict (Cond.code yX2_verdict cX2_verdict 1 (some .int) :: gG) { frames := 1, cells := 0, slots := 0, locals := 64 } (cPre D [] [(h0, .inr (2, [.int (-1), .int (-1), .int 0, .int 0, .ref h1, .ref h2]))] sz [.ref h0]) (vp_Si (fun r => r = 0)) 0 0 (fun _ => False) := by
  refine Met.ofW (cc := cX2_verdict) (maxL := 1) (ret := (some .int)) (by decide) rfl ?_
  intro p e s m args below meth c s₁ B hml hv
  obtain ⟨rfl, aks, rfl, Wd⟩ := k_enter hv
  have C : CallFix p m c cX2_verdict 1 s _ gG RX2 := ⟨B.exec, B.bytes, hml, findClass_of_methodNamed B.named, fun w h => atoms_spec (ws := Cond.code yX2_verdict cX2_verdict 1 (some .int) :: gG) B.pre w (List.mem_cons_of_mem _ h)⟩
  have hr := B.returns
  have hlk := B.notSynchronized
  obtain ⟨A, Wd⟩ : ∃ A, wX D [] s [(h0, .inr (2, [.int (-1), .int (-1), .int 0, .int 0, .ref h1, .ref h2]))] s.heap A s.heap [] := ⟨_, Wd⟩
  refine k_locals (Nat.le_of_ble_eq_true rfl) [(0, .ref h0)] rfl (fun ls hl => ?_)
  refine lv_aload_n C.1 C.2.1 dX2_verdict_0 rfl (lv_at hl 0 rfl) ?_
  refine k_get C Wd KX2 0 2 rfl (by decide) fl_X2_28 rfl dX2_verdict_1 ?_
  refine lv_if_le (tgt := 11) C.1 C.2.1 dX2_verdict_4 (by decide) (fun _ => ?_) (fun c3077 => absurd c3077 (by decide))
  refine lv_aload_n C.1 C.2.1 dX2_verdict_11 rfl (lv_at hl 0 rfl) ?_
  refine k_get C Wd KX2 0 3 rfl (by decide) fl_X2_31 rfl dX2_verdict_12 ?_
  refine lv_if_eq (tgt := 22) C.1 C.2.1 dX2_verdict_15 (by decide) (fun _ => ?_) (fun c3078 => absurd c3078 (by decide))
  refine lv_iconst (v := 0) C.1 C.2.1 dX2_verdict_22 (by decide) ?_
  exact k_zretP C hr hlk rfl rfl dX2_verdict_23
set_option maxHeartbeats 4000000 in
set_option maxRecDepth 100000 in
theorem kcX11_judge_v4 (l : Launch) (D : va_G) (h0 h1 h2 h3 h4 h5 h6 h7 h8 h9 h20 h21 h22 h23 h24 h25 h26 h27 h32 h33 h48 h49 h83 h84 h85 h86 h87 h88 h89 h90 h95 h96 h97 h98 h99 h100 h101 h102 h103 h104 h105 h106 h107 h108 h109 h110 h111 h112 h113 h114 h115 h116 h117 h118 h119 h120 : Nat) (x0 x1 x2 : Int32) (g0 : Nat → Option Nat) (a0 a15 a16 a17 a18 : ClassId) (sz : Nat) (k_g0_x0 : g0 x0.toNatClampNeg = some h8) (k_g0_x1 : g0 x1.toNatClampNeg = some h9) (as0 : ¬ x0 < (0 : Int32)) (as1 : x0 < (6 : Int32)) (as2 : ¬ x1 < (0 : Int32)) (as3 : x1 < (6 : Int32)): Met l yX11_judge (Cond.code yX11_judge cX11_judge 7 (some .int) :: gG) { frames := 4, cells := 0, slots := 0, locals := 139 } (cPre D [(a0, .object RX8), (a15, .int), (a16, .int), (a17, .int), (a18, .int)] [(h0, .inr (11, [.ref h1, .int 0, .ref h2, .ref h3, .ref h4, .ref h5, .ref h6, .ref h7])), (h1, .inl (a0, 6, .inr (.inr (.inr (.inr g0))))), (h6, .inr (4, [.ref h20, .ref h21, .ref h22, .int (-1), .int (-1), .ref h23, .ref h24, .ref h25, .ref h26, .ref h27])), (h20, .inr (2, [.int (-1), .int (-1), .int 0, .int 0, .ref h48, .ref h49])), (h48, .inr (3, [.ref h83, .ref h84, .int 0, .int 0, .int 0, .ref h85, .ref h86])), (h83, .inr (1, [.ref h95, .int 0, .ref h96, .ref h97, .ref h98, .ref h99, .ref h100, .ref h101, .ref h102, .ref h103, .ref h104, .ref h105, .ref h106, .ref h107])), (h8, .inr (8, [.ref h32, .int 0])), (h107, .inl (a17, 480, .inl (fun _ => 0))), (h49, .inr (3, [.ref h87, .ref h88, .int 0, .int 0, .int 0, .ref h89, .ref h90])), (h87, .inr (1, [.ref h108, .int 0, .ref h109, .ref h110, .ref h111, .ref h112, .ref h113, .ref h114, .ref h115, .ref h116, .ref h117, .ref h118, .ref h119, .ref h120])), (h9, .inr (8, [.ref h33, .int 0])), (h120, .inl (a18, 480, .inl (fun _ => 0))), (h85, .inl (a15, 6, .inl (fun _ => 0))), (h89, .inl (a16, 6, .inl (fun _ => 0)))] sz [.ref h0, .int x0, .int x1, .int x2]) (va_Qi (fun (r : Int32) (_ : Unit) => (¬ x0 < (0 : Int32) ∧ ¬ (6 : Int32) ≤ x0 ∧ ¬ x1 < (0 : Int32) ∧ ¬ (6 : Int32) ≤ x1 ∧ x2 < (0 : Int32) ∧ r = (-1)) ∨ (¬ x0 < (0 : Int32) ∧ ¬ (6 : Int32) ≤ x0 ∧ ¬ x1 < (0 : Int32) ∧ ¬ (6 : Int32) ≤ x1 ∧ ¬ x2 < (0 : Int32) ∧ x2 ≤ (3 : Int32) ∧ x2 = (0 : Int32) ∧ r = 0) ∨ (¬ x0 < (0 : Int32) ∧ ¬ (6 : Int32) ≤ x0 ∧ ¬ x1 < (0 : Int32) ∧ ¬ (6 : Int32) ≤ x1 ∧ ¬ x2 < (0 : Int32) ∧ x2 ≤ (3 : Int32) ∧ ¬ x2 = (0 : Int32) ∧ x2 = (1 : Int32) ∧ r = (-1)) ∨ (¬ x0 < (0 : Int32) ∧ ¬ (6 : Int32) ≤ x0 ∧ ¬ x1 < (0 : Int32) ∧ ¬ (6 : Int32) ≤ x1 ∧ ¬ x2 < (0 : Int32) ∧ x2 ≤ (3 : Int32) ∧ ¬ x2 = (0 : Int32) ∧ ¬ x2 = (1 : Int32) ∧ x2 = (2 : Int32) ∧ r = (-1)) ∨ (¬ x0 < (0 : Int32) ∧ ¬ (6 : Int32) ≤ x0 ∧ ¬ x1 < (0 : Int32) ∧ ¬ (6 : Int32) ≤ x1 ∧ ¬ x2 < (0 : Int32) ∧ x2 ≤ (3 : Int32) ∧ ¬ x2 = (0 : Int32) ∧ ¬ x2 = (1 : Int32) ∧ ¬ x2 = (2 : Int32) ∧ r = 0) ∨ (¬ x0 < (0 : Int32) ∧ ¬ (6 : Int32) ≤ x0 ∧ ¬ x1 < (0 : Int32) ∧ ¬ (6 : Int32) ≤ x1 ∧ ¬ x2 < (0 : Int32) ∧ ¬ x2 ≤ (3 : Int32) ∧ r = (-1))) (fun u t => cB D (va_A [(h0, .inr (11, [.ref h1, .int 0, .ref h2, .ref h3, .ref h4, .ref h5, .ref h6, .ref h7])), (h1, .inl (a0, 6, .inr (.inr (.inr (.inr g0))))), (h6, .inr (4, [.ref h20, .ref h21, .ref h22, .int (-1), .int (-1), .ref h23, .ref h24, .ref h25, .ref h26, .ref h27])), (h20, .inr (2, [.int (-1), .int (-1), .int 0, .int 0, .ref h48, .ref h49])), (h48, .inr (3, [.ref h83, .ref h84, .int 0, .int 0, .int 0, .ref h85, .ref h86])), (h83, .inr (1, [.ref h95, .int 0, .ref h96, .ref h97, .ref h98, .ref h99, .ref h100, .ref h101, .ref h102, .ref h103, .ref h104, .ref h105, .ref h106, .ref h107])), (h8, .inr (8, [.ref h32, .int 0])), (h107, .inl (a17, 480, .inl (fun _ => 0))), (h49, .inr (3, [.ref h87, .ref h88, .int 0, .int 0, .int 0, .ref h89, .ref h90])), (h87, .inr (1, [.ref h108, .int 0, .ref h109, .ref h110, .ref h111, .ref h112, .ref h113, .ref h114, .ref h115, .ref h116, .ref h117, .ref h118, .ref h119, .ref h120])), (h9, .inr (8, [.ref h33, .int 0])), (h120, .inl (a18, 480, .inl (fun _ => 0))), (h85, .inl (a15, 6, .inl (fun _ => 0))), (h89, .inl (a16, 6, .inl (fun _ => 0)))] sz) ((fun (_ : Unit) => ([] : List (ClassId × FieldType))) u) ((fun (_ : Unit) => ([] : va_W)) u) t) (va_A [(h0, .inr (11, [.ref h1, .int 0, .ref h2, .ref h3, .ref h4, .ref h5, .ref h6, .ref h7])), (h1, .inl (a0, 6, .inr (.inr (.inr (.inr g0))))), (h6, .inr (4, [.ref h20, .ref h21, .ref h22, .int (-1), .int (-1), .ref h23, .ref h24, .ref h25, .ref h26, .ref h27])), (h20, .inr (2, [.int (-1), .int (-1), .int 0, .int 0, .ref h48, .ref h49])), (h48, .inr (3, [.ref h83, .ref h84, .int 0, .int 0, .int 0, .ref h85, .ref h86])), (h83, .inr (1, [.ref h95, .int 0, .ref h96, .ref h97, .ref h98, .ref h99, .ref h100, .ref h101, .ref h102, .ref h103, .ref h104, .ref h105, .ref h106, .ref h107])), (h8, .inr (8, [.ref h32, .int 0])), (h107, .inl (a17, 480, .inl (fun _ => 0))), (h49, .inr (3, [.ref h87, .ref h88, .int 0, .int 0, .int 0, .ref h89, .ref h90])), (h87, .inr (1, [.ref h108, .int 0, .ref h109, .ref h110, .ref h111, .ref h112, .ref h113, .ref h114, .ref h115, .ref h116, .ref h117, .ref h118, .ref h119, .ref h120])), (h9, .inr (8, [.ref h33, .int 0])), (h120, .inl (a18, 480, .inl (fun _ => 0))), (h85, .inl (a15, 6, .inl (fun _ => 0))), (h89, .inl (a16, 6, .inl (fun _ => 0)))] sz)) 0 0 (va_A [(h0, .inr (11, [.ref h1, .int 0, .ref h2, .ref h3, .ref h4, .ref h5, .ref h6, .ref h7])), (h1, .inl (a0, 6, .inr (.inr (.inr (.inr g0))))), (h6, .inr (4, [.ref h20, .ref h21, .ref h22, .int (-1), .int (-1), .ref h23, .ref h24, .ref h25, .ref h26, .ref h27])), (h20, .inr (2, [.int (-1), .int (-1), .int 0, .int 0, .ref h48, .ref h49])), (h48, .inr (3, [.ref h83, .ref h84, .int 0, .int 0, .int 0, .ref h85, .ref h86])), (h83, .inr (1, [.ref h95, .int 0, .ref h96, .ref h97, .ref h98, .ref h99, .ref h100, .ref h101, .ref h102, .ref h103, .ref h104, .ref h105, .ref h106, .ref h107])), (h8, .inr (8, [.ref h32, .int 0])), (h107, .inl (a17, 480, .inl (fun _ => 0))), (h49, .inr (3, [.ref h87, .ref h88, .int 0, .int 0, .int 0, .ref h89, .ref h90])), (h87, .inr (1, [.ref h108, .int 0, .ref h109, .ref h110, .ref h111, .ref h112, .ref h113, .ref h114, .ref h115, .ref h116, .ref h117, .ref h118, .ref h119, .ref h120])), (h9, .inr (8, [.ref h33, .int 0])), (h120, .inl (a18, 480, .inl (fun _ => 0))), (h85, .inl (a15, 6, .inl (fun _ => 0))), (h89, .inl (a16, 6, .inl (fun _ => 0)))] sz) := by
  refine Met.ofW (cc := cX11_judge) (maxL := 7) (ret := (some .int)) (by decide) rfl ?_
  intro p e s m args below meth c s₁ B hml hv
  obtain ⟨rfl, aks, rfl, Wd⟩ := k_enter hv
  have C : CallFix p m c cX11_judge 7 s _ gG RX11 := ⟨B.exec, B.bytes, hml, findClass_of_methodNamed B.named, fun w h => atoms_spec (ws := Cond.code yX11_judge cX11_judge 7 (some .int) :: gG) B.pre w (List.mem_cons_of_mem _ h)⟩
  have hr := B.returns
  have hlk := B.notSynchronized
  generalize va_A [(h0, .inr (11, [.ref h1, .int 0, .ref h2, .ref h3, .ref h4, .ref h5, .ref h6, .ref h7])), (h1, .inl (a0, 6, .inr (.inr (.inr (.inr g0))))), (h6, .inr (4, [.ref h20, .ref h21, .ref h22, .int (-1), .int (-1), .ref h23, .ref h24, .ref h25, .ref h26, .ref h27])), (h20, .inr (2, [.int (-1), .int (-1), .int 0, .int 0, .ref h48, .ref h49])), (h48, .inr (3, [.ref h83, .ref h84, .int 0, .int 0, .int 0, .ref h85, .ref h86])), (h83, .inr (1, [.ref h95, .int 0, .ref h96, .ref h97, .ref h98, .ref h99, .ref h100, .ref h101, .ref h102, .ref h103, .ref h104, .ref h105, .ref h106, .ref h107])), (h8, .inr (8, [.ref h32, .int 0])), (h107, .inl (a17, 480, .inl (fun _ => 0))), (h49, .inr (3, [.ref h87, .ref h88, .int 0, .int 0, .int 0, .ref h89, .ref h90])), (h87, .inr (1, [.ref h108, .int 0, .ref h109, .ref h110, .ref h111, .ref h112, .ref h113, .ref h114, .ref h115, .ref h116, .ref h117, .ref h118, .ref h119, .ref h120])), (h9, .inr (8, [.ref h33, .int 0])), (h120, .inl (a18, 480, .inl (fun _ => 0))), (h85, .inl (a15, 6, .inl (fun _ => 0))), (h89, .inl (a16, 6, .inl (fun _ => 0)))] s.heap.size = A at Wd ⊢
  refine k_locals (Nat.le_of_ble_eq_true rfl) [(0, .ref h0), (1, .int x0), (2, .int x1), (3, .int x2)] rfl (fun ls hl => ?_)
  refine lv_aload_n C.1 C.2.1 dX11_judge_0 rfl (lv_at hl 0 rfl) ?_
  refine lv_iload_n C.1 C.2.1 dX11_judge_1 rfl (lv_at hl 1 rfl) ?_
  refine k_pq (k_runV (rest := []) C aks Wd cs_X11_77 (kcX11_slotAt l D h0 h1 h2 h3 h4 h5 h6 h7 x0 g0 a0 _ ) [0, 1] rfl (by decide) [0] rfl 0 11 rfl rfl rfl rfl rfl ⟨(Nat.le_of_ble_eq_true rfl), (Nat.le_of_ble_eq_true rfl)⟩ hl.1 rfl rfl (Nat.le_of_ble_eq_true rfl) ⟨(Nat.le_of_ble_eq_true rfl), (Nat.le_of_ble_eq_true rfl)⟩ dX11_judge_2) (fun r w3082 => ?_)
  rcases w3082 with ⟨c3083, rfl⟩ | ⟨c3084, c3085, rfl⟩ | ⟨c3086, c3087, rfl⟩
  · exact False.elim (by have z0 := kz_nlt as0; have z1 := kz_lt as1; have z2 := kz_lt c3083; have t0 : (0 : Int32).toInt = 0 := (by decide); have t6 : (6 : Int32).toInt = 6 := (by decide); omega)
  · exact False.elim (by have z0 := kz_nlt as0; have z1 := kz_lt as1; have z2 := kz_nlt c3084; have z3 := kz_le c3085; have t0 : (0 : Int32).toInt = 0 := (by decide); have t6 : (6 : Int32).toInt = 6 := (by decide); omega)
  · refine W.eq (g2 := F0 m 5 ls [.ref h8]) (by rw [show (g0 x0.toNatClampNeg) = some h8 from k_g0_x0]; rfl) ?_
    refine lv_astore (lv' := [(4, .ref h8), (0, .ref h0), (1, .int x0), (2, .int x1), (3, .int x2)]) C.1 C.2.1 dX11_judge_5 hl (by decide) rfl (fun ls hl => ?_)
    refine lv_aload_n C.1 C.2.1 dX11_judge_7 rfl (lv_at hl 1 rfl) ?_
    refine lv_iload_n C.1 C.2.1 dX11_judge_8 rfl (lv_at hl 3 rfl) ?_
    refine k_pq (k_runV (rest := []) C aks Wd cs_X11_77 (kcX11_slotAt l D h0 h1 h2 h3 h4 h5 h6 h7 x1 g0 a0 _ ) [0, 1] rfl (by decide) [0] rfl 0 11 rfl rfl rfl rfl rfl ⟨(Nat.le_of_ble_eq_true rfl), (Nat.le_of_ble_eq_true rfl)⟩ hl.1 rfl rfl (Nat.le_of_ble_eq_true rfl) ⟨(Nat.le_of_ble_eq_true rfl), (Nat.le_of_ble_eq_true rfl)⟩ dX11_judge_9) (fun r w3088 => ?_)
    rcases w3088 with ⟨c3089, rfl⟩ | ⟨c3090, c3091, rfl⟩ | ⟨c3092, c3093, rfl⟩
    · exact False.elim (by have z0 := kz_nlt as2; have z1 := kz_lt as3; have z2 := kz_lt c3089; have t0 : (0 : Int32).toInt = 0 := (by decide); have t6 : (6 : Int32).toInt = 6 := (by decide); omega)
    · exact False.elim (by have z0 := kz_nlt as2; have z1 := kz_lt as3; have z2 := kz_nlt c3090; have z3 := kz_le c3091; have t0 : (0 : Int32).toInt = 0 := (by decide); have t6 : (6 : Int32).toInt = 6 := (by decide); omega)
    · refine W.eq (g2 := F0 m 12 ls [.ref h9]) (by rw [show (g0 x1.toNatClampNeg) = some h9 from k_g0_x1]; rfl) ?_
      refine lv_astore (lv' := [(5, .ref h9), (4, .ref h8), (0, .ref h0), (1, .int x0), (2, .int x1), (3, .int x2)]) C.1 C.2.1 dX11_judge_12 hl (by decide) rfl (fun ls hl => ?_)
      refine lv_aload C.1 C.2.1 dX11_judge_14 (lv_at hl 1 rfl) ?_
      refine lv_ifnull C.1 C.2.1 dX11_judge_16 ?_
      refine lv_aload C.1 C.2.1 dX11_judge_19 (lv_at hl 0 rfl) ?_
      refine lv_ifnull C.1 C.2.1 dX11_judge_21 ?_
      refine lv_iload_n C.1 C.2.1 dX11_judge_24 rfl (lv_at hl 5 rfl) ?_
      refine lv_if_lt (tgt := 33) C.1 C.2.1 dX11_judge_25 (by decide) (fun c3094 => ?_) (fun c3094 => ?_)
      · refine lv_iconst (v := (-1)) C.1 C.2.1 dX11_judge_33 (by decide) ?_
        exact k_zret C hr hlk rfl Wd () (Or.inl (⟨c3086, c3087, c3092, c3093, c3094, rfl⟩)) [] rfl (by decide) [] rfl (by decide) (by decide) dX11_judge_34
      · refine lv_iload_n C.1 C.2.1 dX11_judge_28 rfl (lv_at hl 5 rfl) ?_
        refine lv_iconst (v := 3) C.1 C.2.1 dX11_judge_29 (by decide) ?_
        refine lv_icmp_le (tgt := 35) C.1 C.2.1 dX11_judge_30 (by decide) (fun c3095 => ?_) (fun c3095 => ?_)
        · refine lv_aload_n C.1 C.2.1 dX11_judge_35 rfl (lv_at hl 2 rfl) ?_
          refine k_get C Wd KX11 0 6 rfl (by decide) fl_X11_50 rfl dX11_judge_36 ?_
          refine k_get C Wd KX4 2 0 rfl (by decide) fl_X11_143 rfl dX11_judge_39 ?_
          refine lv_astore (lv' := [(6, .ref h20), (5, .ref h9), (4, .ref h8), (0, .ref h0), (1, .int x0), (2, .int x1), (3, .int x2)]) C.1 C.2.1 dX11_judge_42 hl (by decide) rfl (fun ls hl => ?_)
          refine lv_aload C.1 C.2.1 dX11_judge_44 (lv_at hl 0 rfl) ?_
          refine lv_aload C.1 C.2.1 dX11_judge_46 (lv_at hl 2 rfl) ?_
          refine lv_aload C.1 C.2.1 dX11_judge_48 (lv_at hl 1 rfl) ?_
          refine lv_iconst (v := 0) C.1 C.2.1 dX11_judge_50 (by decide) ?_
          refine k_ci Wd [3, 4, 5, 6, 7, 8, 9, 10, 11, 12, 13] [0, 1, 2] rfl (wr := [(h0, .inr (11, [.ref h1, .int 0, .ref h2, .ref h3, .ref h4, .ref h5, .ref h6, .ref h7])), (h1, .inl (a0, 6, .inr (.inr (.inr (.inr g0))))), (h6, .inr (4, [.ref h20, .ref h21, .ref h22, .int (-1), .int (-1), .ref h23, .ref h24, .ref h25, .ref h26, .ref h27]))]) rfl (by decide) (by decide) (cells' := 0) (slots' := 0) (by decide) (by decide) (k_runV (rest := []) C aks Wd cs_X11_147 (kcX2_compare l D h20 h8 h9 h48 h49 h32 h33 h83 h84 h85 h86 h87 h88 h89 h90 h95 h96 h97 h98 h99 h100 h101 h102 h103 h104 h105 h106 h107 h108 h109 h110 h111 h112 h113 h114 h115 h116 h117 h118 h119 h120 a15 a16 a17 a18 _ ) [3, 4, 5, 6, 7, 8, 9, 10, 11, 12, 13] rfl (by decide) [1, 2, 3, 4] rfl 3 2 rfl rfl rfl rfl rfl ⟨(Nat.le_of_ble_eq_true rfl), (Nat.le_of_ble_eq_true rfl)⟩ hl.1 rfl rfl (Nat.le_of_ble_eq_true rfl) ⟨(Nat.le_of_ble_eq_true rfl), (Nat.le_of_ble_eq_true rfl)⟩ dX11_judge_51) (fun r _ H locs w3096 Wd => ?_)
          have Wd : wX D [(a0, .object RX8), (a15, .int), (a16, .int), (a17, .int), (a18, .int)] s [(h0, .inr (11, [.ref h1, .int 0, .ref h2, .ref h3, .ref h4, .ref h5, .ref h6, .ref h7])), (h1, .inl (a0, 6, .inr (.inr (.inr (.inr g0))))), (h6, .inr (4, [.ref h20, .ref h21, .ref h22, .int (-1), .int (-1), .ref h23, .ref h24, .ref h25, .ref h26, .ref h27])), (h20, .inr (2, [.int (-1), .int (-1), .int 0, .int 0, .ref h48, .ref h49])), (h48, .inr (3, [.ref h83, .ref h84, .int 0, .int 0, .int 0, .ref h85, .ref h86])), (h83, .inr (1, [.ref h8, .int 0, .ref h96, .ref h97, .ref h98, .ref h99, .ref h100, .ref h101, .ref h102, .ref h103, .ref h104, .ref h105, .ref h106, .ref h107])), (h8, .inr (8, [.ref h32, .int 0])), (h107, .inl (a17, 480, .inl (fun _ => 0))), (h49, .inr (3, [.ref h87, .ref h88, .int 0, .int 0, .int 0, .ref h89, .ref h90])), (h87, .inr (1, [.ref h9, .int 0, .ref h109, .ref h110, .ref h111, .ref h112, .ref h113, .ref h114, .ref h115, .ref h116, .ref h117, .ref h118, .ref h119, .ref h120])), (h9, .inr (8, [.ref h33, .int 0])), (h120, .inl (a18, 480, .inl (fun _ => 0))), (h85, .inl (a15, 6, .inl (upd (upd (upd (upd (upd (upd (fun _ => 0) 0 0) 1 0) 2 0) 3 0) 4 0) 5 0))), (h89, .inl (a16, 6, .inl (upd (upd (upd (upd (upd (upd (fun _ => 0) 0 0) 1 0) 2 0) 3 0) 4 0) 5 0)))] _ A s.heap _ := Wd
          obtain rfl := w3096
          refine lv_pop C.1 C.2.1 dX11_judge_54 rfl ?_
          refine lv_iload_n C.1 C.2.1 dX11_judge_55 rfl (lv_at hl 6 rfl) ?_
          by_cases c3097 : x2 = (0 : Int32)
          · subst c3097
            refine lv_tableIn (off := 28) (tgt := 84) C.1 C.2.1 dX11_judge_56 (by decide) (by decide) (by decide) (by decide) ?_
            refine lv_aload C.1 C.2.1 dX11_judge_84 (lv_at hl 0 rfl) ?_
            refine k_pi (k_runV (rest := []) C aks Wd cs_X11_153 (kcX2_verdict l D h20 h48 h49 _ ) [3] rfl (by decide) [] rfl 3 2 rfl rfl rfl rfl rfl ⟨(Nat.le_of_ble_eq_true rfl), (Nat.le_of_ble_eq_true rfl)⟩ hl.1 rfl rfl (Nat.le_of_ble_eq_true rfl) ⟨(Nat.le_of_ble_eq_true rfl), (Nat.le_of_ble_eq_true rfl)⟩ dX11_judge_86) (fun r w3098 => ?_)
            obtain rfl := w3098
            exact k_zret C hr hlk rfl Wd () (Or.inr (Or.inl (⟨c3086, c3087, c3092, c3093, c3094, c3095, rfl, rfl⟩))) [] rfl (by decide) [] rfl (by decide) (by decide) dX11_judge_89
          by_cases c3099 : x2 = (1 : Int32)
          · subst c3099
            refine lv_tableIn (off := 34) (tgt := 90) C.1 C.2.1 dX11_judge_56 (by decide) (by decide) (by decide) (by decide) ?_
            refine lv_aload C.1 C.2.1 dX11_judge_90 (lv_at hl 0 rfl) ?_
            refine k_get C Wd KX2 3 0 rfl (by decide) fl_X11_156 rfl dX11_judge_92 ?_
            exact k_zret C hr hlk rfl Wd () (Or.inr (Or.inr (Or.inl (⟨c3086, c3087, c3092, c3093, c3094, c3095, c3097, rfl, rfl⟩)))) [] rfl (by decide) [] rfl (by decide) (by decide) dX11_judge_95
          by_cases c3100 : x2 = (2 : Int32)
          · subst c3100
            refine lv_tableIn (off := 40) (tgt := 96) C.1 C.2.1 dX11_judge_56 (by decide) (by decide) (by decide) (by decide) ?_
            refine lv_aload C.1 C.2.1 dX11_judge_96 (lv_at hl 0 rfl) ?_
            refine k_get C Wd KX2 3 1 rfl (by decide) fl_X11_159 rfl dX11_judge_98 ?_
            exact k_zret C hr hlk rfl Wd () (Or.inr (Or.inr (Or.inr (Or.inl (⟨c3086, c3087, c3092, c3093, c3094, c3095, c3097, c3099, rfl, rfl⟩))))) [] rfl (by decide) [] rfl (by decide) (by decide) dX11_judge_101
          refine lv_tableOut (tgt := 102) C.1 C.2.1 dX11_judge_56 (by have z0 := kz_nlt c3094; have z1 := kz_le c3095; have z2 := kz_ne c3097; have z3 := kz_ne c3099; have z4 := kz_ne c3100; have t0 : (0 : Int32).toInt = 0 := (by decide); have t3 : (3 : Int32).toInt = 3 := (by decide); have t1 : (1 : Int32).toInt = 1 := (by decide); have t2 : (2 : Int32).toInt = 2 := (by decide); omega) (by decide) ?_
          refine lv_aload C.1 C.2.1 dX11_judge_102 (lv_at hl 0 rfl) ?_
          refine k_get C Wd KX2 3 2 rfl (by decide) fl_X11_162 rfl dX11_judge_104 ?_
          exact k_zret C hr hlk rfl Wd () (Or.inr (Or.inr (Or.inr (Or.inr (Or.inl (⟨c3086, c3087, c3092, c3093, c3094, c3095, c3097, c3099, c3100, rfl⟩)))))) [] rfl (by decide) [] rfl (by decide) (by decide) dX11_judge_107
        · refine lv_iconst (v := (-1)) C.1 C.2.1 dX11_judge_33 (by decide) ?_
          exact k_zret C hr hlk rfl Wd () (Or.inr (Or.inr (Or.inr (Or.inr (Or.inr (⟨c3086, c3087, c3092, c3093, c3094, c3095, rfl⟩)))))) [] rfl (by decide) [] rfl (by decide) (by decide) dX11_judge_34
set_option maxHeartbeats 4000000 in
set_option maxRecDepth 100000 in
theorem kcX2_compare_v1 (l : Launch) (D : va_G) (h0 h1 h2 h3 h4 h5 h6 h7 h8 h9 h10 h11 h12 h13 h14 h15 h16 h17 h18 h19 h20 h21 h22 h23 h24 h25 h26 h27 h28 h29 h30 h31 h32 h33 h34 h35 h36 h37 h38 : Nat) (a1 a2 a3 a4 : ClassId) (sz : Nat)  : Met l yX2_compare (Cond.code yX2_compare cX2_compare 9 (some .boolean) :: gG) { frames := 3, cells := 0, slots := 0, locals := 111 } (cPre D [(a1, .int), (a2, .int), (a3, .int), (a4, .int)] [(h0, .inr (2, [.int (-1), .int (-1), .int 0, .int 0, .ref h2, .ref h3])), (h2, .inr (3, [.ref h5, .ref h6, .int 0, .int 0, .int 0, .ref h7, .ref h8])), (h5, .inr (1, [.ref h13, .int 0, .ref h14, .ref h15, .ref h16, .ref h17, .ref h18, .ref h19, .ref h20, .ref h21, .ref h22, .ref h23, .ref h24, .ref h25])), (h1, .inr (8, [.ref h4, .int 0])), (h25, .inl (a3, 480, .inl (fun _ => 0))), (h3, .inr (3, [.ref h9, .ref h10, .int 0, .int 0, .int 0, .ref h11, .ref h12])), (h9, .inr (1, [.ref h26, .int 0, .ref h27, .ref h28, .ref h29, .ref h30, .ref h31, .ref h32, .ref h33, .ref h34, .ref h35, .ref h36, .ref h37, .ref h38])), (h38, .inl (a4, 480, .inl (fun _ => 0))), (h7, .inl (a1, 6, .inl (fun _ => 0))), (h11, .inl (a2, 6, .inl (fun _ => 0)))] sz [.ref h0, .ref h1, .ref h1, .int 0]) (va_Qi (fun (r : Int32) (_ : Unit) => r = 0) (fun u t => cB D (va_A [(h0, .inr (2, [.int (-1), .int (-1), .int 0, .int 0, .ref h2, .ref h3])), (h2, .inr (3, [.ref h5, .ref h6, .int 0, .int 0, .int 0, .ref h7, .ref h8])), (h5, .inr (1, [.ref h13, .int 0, .ref h14, .ref h15, .ref h16, .ref h17, .ref h18, .ref h19, .ref h20, .ref h21, .ref h22, .ref h23, .ref h24, .ref h25])), (h1, .inr (8, [.ref h4, .int 0])), (h25, .inl (a3, 480, .inl (fun _ => 0))), (h3, .inr (3, [.ref h9, .ref h10, .int 0, .int 0, .int 0, .ref h11, .ref h12])), (h9, .inr (1, [.ref h26, .int 0, .ref h27, .ref h28, .ref h29, .ref h30, .ref h31, .ref h32, .ref h33, .ref h34, .ref h35, .ref h36, .ref h37, .ref h38])), (h38, .inl (a4, 480, .inl (fun _ => 0))), (h7, .inl (a1, 6, .inl (fun _ => 0))), (h11, .inl (a2, 6, .inl (fun _ => 0)))] sz) ((fun (_ : Unit) => ([] : List (ClassId × FieldType))) u) ((fun (_ : Unit) => ([(h0, .inr (2, [.int (-1), .int (-1), .int 0, .int 0, .ref h2, .ref h3])), (h2, .inr (3, [.ref h5, .ref h6, .int 0, .int 0, .int 0, .ref h7, .ref h8])), (h5, .inr (1, [.ref h1, .int 0, .ref h14, .ref h15, .ref h16, .ref h17, .ref h18, .ref h19, .ref h20, .ref h21, .ref h22, .ref h23, .ref h24, .ref h25])), (h1, .inr (8, [.ref h4, .int 0])), (h25, .inl (a3, 480, .inl (fun _ => 0))), (h3, .inr (3, [.ref h9, .ref h10, .int 0, .int 0, .int 0, .ref h11, .ref h12])), (h9, .inr (1, [.ref h1, .int 0, .ref h27, .ref h28, .ref h29, .ref h30, .ref h31, .ref h32, .ref h33, .ref h34, .ref h35, .ref h36, .ref h37, .ref h38])), (h38, .inl (a4, 480, .inl (fun _ => 0))), (h7, .inl (a1, 6, .inl (upd (upd (upd (upd (upd (upd (fun _ => 0) 0 0) 1 0) 2 0) 3 0) 4 0) 5 0))), (h11, .inl (a2, 6, .inl (upd (upd (upd (upd (upd (upd (fun _ => 0) 0 0) 1 0) 2 0) 3 0) 4 0) 5 0)))] : va_W)) u) t) (va_A [(h0, .inr (2, [.int (-1), .int (-1), .int 0, .int 0, .ref h2, .ref h3])), (h2, .inr (3, [.ref h5, .ref h6, .int 0, .int 0, .int 0, .ref h7, .ref h8])), (h5, .inr (1, [.ref h13, .int 0, .ref h14, .ref h15, .ref h16, .ref h17, .ref h18, .ref h19, .ref h20, .ref h21, .ref h22, .ref h23, .ref h24, .ref h25])), (h1, .inr (8, [.ref h4, .int 0])), (h25, .inl (a3, 480, .inl (fun _ => 0))), (h3, .inr (3, [.ref h9, .ref h10, .int 0, .int 0, .int 0, .ref h11, .ref h12])), (h9, .inr (1, [.ref h26, .int 0, .ref h27, .ref h28, .ref h29, .ref h30, .ref h31, .ref h32, .ref h33, .ref h34, .ref h35, .ref h36, .ref h37, .ref h38])), (h38, .inl (a4, 480, .inl (fun _ => 0))), (h7, .inl (a1, 6, .inl (fun _ => 0))), (h11, .inl (a2, 6, .inl (fun _ => 0)))] sz)) 0 0 (va_A [(h0, .inr (2, [.int (-1), .int (-1), .int 0, .int 0, .ref h2, .ref h3])), (h2, .inr (3, [.ref h5, .ref h6, .int 0, .int 0, .int 0, .ref h7, .ref h8])), (h5, .inr (1, [.ref h13, .int 0, .ref h14, .ref h15, .ref h16, .ref h17, .ref h18, .ref h19, .ref h20, .ref h21, .ref h22, .ref h23, .ref h24, .ref h25])), (h1, .inr (8, [.ref h4, .int 0])), (h25, .inl (a3, 480, .inl (fun _ => 0))), (h3, .inr (3, [.ref h9, .ref h10, .int 0, .int 0, .int 0, .ref h11, .ref h12])), (h9, .inr (1, [.ref h26, .int 0, .ref h27, .ref h28, .ref h29, .ref h30, .ref h31, .ref h32, .ref h33, .ref h34, .ref h35, .ref h36, .ref h37, .ref h38])), (h38, .inl (a4, 480, .inl (fun _ => 0))), (h7, .inl (a1, 6, .inl (fun _ => 0))), (h11, .inl (a2, 6, .inl (fun _ => 0)))] sz) := by
  refine Met.ofW (cc := cX2_compare) (maxL := 9) (ret := (some .boolean)) (by decide) rfl ?_
  intro p e s m args below meth c s₁ B hml hv
  obtain ⟨rfl, aks, rfl, Wd⟩ := k_enter hv
  have C : CallFix p m c cX2_compare 9 s _ gG RX2 := ⟨B.exec, B.bytes, hml, findClass_of_methodNamed B.named, fun w h => atoms_spec (ws := Cond.code yX2_compare cX2_compare 9 (some .boolean) :: gG) B.pre w (List.mem_cons_of_mem _ h)⟩
  have hr := B.returns
  have hlk := B.notSynchronized
  generalize va_A [(h0, .inr (2, [.int (-1), .int (-1), .int 0, .int 0, .ref h2, .ref h3])), (h2, .inr (3, [.ref h5, .ref h6, .int 0, .int 0, .int 0, .ref h7, .ref h8])), (h5, .inr (1, [.ref h13, .int 0, .ref h14, .ref h15, .ref h16, .ref h17, .ref h18, .ref h19, .ref h20, .ref h21, .ref h22, .ref h23, .ref h24, .ref h25])), (h1, .inr (8, [.ref h4, .int 0])), (h25, .inl (a3, 480, .inl (fun _ => 0))), (h3, .inr (3, [.ref h9, .ref h10, .int 0, .int 0, .int 0, .ref h11, .ref h12])), (h9, .inr (1, [.ref h26, .int 0, .ref h27, .ref h28, .ref h29, .ref h30, .ref h31, .ref h32, .ref h33, .ref h34, .ref h35, .ref h36, .ref h37, .ref h38])), (h38, .inl (a4, 480, .inl (fun _ => 0))), (h7, .inl (a1, 6, .inl (fun _ => 0))), (h11, .inl (a2, 6, .inl (fun _ => 0)))] s.heap.size = A at Wd ⊢
  refine k_locals (Nat.le_of_ble_eq_true rfl) [(0, .ref h0), (1, .ref h1), (2, .ref h1), (3, .int 0)] rfl (fun ls hl => ?_)
  refine lv_aload_n C.1 C.2.1 dX2_compare_0 rfl (lv_at hl 0 rfl) ?_
  refine lv_iconst (v := (-1)) C.1 C.2.1 dX2_compare_1 (by decide) ?_
  refine k_put C Wd KX2 0 0 [(h0, .inr (2, [.int (-1), .int (-1), .int 0, .int 0, .ref h2, .ref h3])), (h2, .inr (3, [.ref h5, .ref h6, .int 0, .int 0, .int 0, .ref h7, .ref h8])), (h5, .inr (1, [.ref h13, .int 0, .ref h14, .ref h15, .ref h16, .ref h17, .ref h18, .ref h19, .ref h20, .ref h21, .ref h22, .ref h23, .ref h24, .ref h25])), (h1, .inr (8, [.ref h4, .int 0])), (h25, .inl (a3, 480, .inl (fun _ => 0))), (h3, .inr (3, [.ref h9, .ref h10, .int 0, .int 0, .int 0, .ref h11, .ref h12])), (h9, .inr (1, [.ref h26, .int 0, .ref h27, .ref h28, .ref h29, .ref h30, .ref h31, .ref h32, .ref h33, .ref h34, .ref h35, .ref h36, .ref h37, .ref h38])), (h38, .inl (a4, 480, .inl (fun _ => 0))), (h7, .inl (a1, 6, .inl (fun _ => 0))), (h11, .inl (a2, 6, .inl (fun _ => 0)))] rfl (by decide) fl_X2_21 rfl rfl rfl (Nat.le_of_ble_eq_true rfl) rfl dX2_compare_2 (fun H locs Wd => ?_)
  refine lv_aload_n C.1 C.2.1 dX2_compare_5 rfl (lv_at hl 0 rfl) ?_
  refine lv_iconst (v := (-1)) C.1 C.2.1 dX2_compare_6 (by decide) ?_
  refine k_put C Wd KX2 0 1 [(h0, .inr (2, [.int (-1), .int (-1), .int 0, .int 0, .ref h2, .ref h3])), (h2, .inr (3, [.ref h5, .ref h6, .int 0, .int 0, .int 0, .ref h7, .ref h8])), (h5, .inr (1, [.ref h13, .int 0, .ref h14, .ref h15, .ref h16, .ref h17, .ref h18, .ref h19, .ref h20, .ref h21, .ref h22, .ref h23, .ref h24, .ref h25])), (h1, .inr (8, [.ref h4, .int 0])), (h25, .inl (a3, 480, .inl (fun _ => 0))), (h3, .inr (3, [.ref h9, .ref h10, .int 0, .int 0, .int 0, .ref h11, .ref h12])), (h9, .inr (1, [.ref h26, .int 0, .ref h27, .ref h28, .ref h29, .ref h30, .ref h31, .ref h32, .ref h33, .ref h34, .ref h35, .ref h36, .ref h37, .ref h38])), (h38, .inl (a4, 480, .inl (fun _ => 0))), (h7, .inl (a1, 6, .inl (fun _ => 0))), (h11, .inl (a2, 6, .inl (fun _ => 0)))] rfl (by decide) fl_X2_25 rfl rfl rfl (Nat.le_of_ble_eq_true rfl) rfl dX2_compare_7 (fun H locs Wd => ?_)
  refine lv_aload_n C.1 C.2.1 dX2_compare_10 rfl (lv_at hl 0 rfl) ?_
  refine lv_iconst (v := 0) C.1 C.2.1 dX2_compare_11 (by decide) ?_
  refine k_put C Wd KX2 0 2 [(h0, .inr (2, [.int (-1), .int (-1), .int 0, .int 0, .ref h2, .ref h3])), (h2, .inr (3, [.ref h5, .ref h6, .int 0, .int 0, .int 0, .ref h7, .ref h8])), (h5, .inr (1, [.ref h13, .int 0, .ref h14, .ref h15, .ref h16, .ref h17, .ref h18, .ref h19, .ref h20, .ref h21, .ref h22, .ref h23, .ref h24, .ref h25])), (h1, .inr (8, [.ref h4, .int 0])), (h25, .inl (a3, 480, .inl (fun _ => 0))), (h3, .inr (3, [.ref h9, .ref h10, .int 0, .int 0, .int 0, .ref h11, .ref h12])), (h9, .inr (1, [.ref h26, .int 0, .ref h27, .ref h28, .ref h29, .ref h30, .ref h31, .ref h32, .ref h33, .ref h34, .ref h35, .ref h36, .ref h37, .ref h38])), (h38, .inl (a4, 480, .inl (fun _ => 0))), (h7, .inl (a1, 6, .inl (fun _ => 0))), (h11, .inl (a2, 6, .inl (fun _ => 0)))] rfl (by decide) fl_X2_28 rfl rfl rfl (Nat.le_of_ble_eq_true rfl) rfl dX2_compare_12 (fun H locs Wd => ?_)
  refine lv_aload_n C.1 C.2.1 dX2_compare_15 rfl (lv_at hl 0 rfl) ?_
  refine lv_iconst (v := 0) C.1 C.2.1 dX2_compare_16 (by decide) ?_
  refine k_put C Wd KX2 0 3 [(h0, .inr (2, [.int (-1), .int (-1), .int 0, .int 0, .ref h2, .ref h3])), (h2, .inr (3, [.ref h5, .ref h6, .int 0, .int 0, .int 0, .ref h7, .ref h8])), (h5, .inr (1, [.ref h13, .int 0, .ref h14, .ref h15, .ref h16, .ref h17, .ref h18, .ref h19, .ref h20, .ref h21, .ref h22, .ref h23, .ref h24, .ref h25])), (h1, .inr (8, [.ref h4, .int 0])), (h25, .inl (a3, 480, .inl (fun _ => 0))), (h3, .inr (3, [.ref h9, .ref h10, .int 0, .int 0, .int 0, .ref h11, .ref h12])), (h9, .inr (1, [.ref h26, .int 0, .ref h27, .ref h28, .ref h29, .ref h30, .ref h31, .ref h32, .ref h33, .ref h34, .ref h35, .ref h36, .ref h37, .ref h38])), (h38, .inl (a4, 480, .inl (fun _ => 0))), (h7, .inl (a1, 6, .inl (fun _ => 0))), (h11, .inl (a2, 6, .inl (fun _ => 0)))] rfl (by decide) fl_X2_31 rfl rfl rfl (Nat.le_of_ble_eq_true rfl) rfl dX2_compare_17 (fun H locs Wd => ?_)
  refine lv_aload_n C.1 C.2.1 dX2_compare_20 rfl (lv_at hl 0 rfl) ?_
  refine k_get C Wd KX2 0 4 rfl (by decide) fl_X2_12 rfl dX2_compare_21 ?_
  refine k_get C Wd KX3 1 0 rfl (by decide) fl_X2_35 rfl dX2_compare_24 ?_
  refine lv_aload_n C.1 C.2.1 dX2_compare_27 rfl (lv_at hl 1 rfl) ?_
  refine k_cv Wd [2, 3, 4] [0, 1, 5, 6, 7, 8, 9] rfl (wr := [(h0, .inr (2, [.int (-1), .int (-1), .int 0, .int 0, .ref h2, .ref h3])), (h2, .inr (3, [.ref h5, .ref h6, .int 0, .int 0, .int 0, .ref h7, .ref h8])), (h3, .inr (3, [.ref h9, .ref h10, .int 0, .int 0, .int 0, .ref h11, .ref h12])), (h9, .inr (1, [.ref h26, .int 0, .ref h27, .ref h28, .ref h29, .ref h30, .ref h31, .ref h32, .ref h33, .ref h34, .ref h35, .ref h36, .ref h37, .ref h38])), (h38, .inl (a4, 480, .inl (fun _ => 0))), (h7, .inl (a1, 6, .inl (fun _ => 0))), (h11, .inl (a2, 6, .inl (fun _ => 0)))]) rfl (by decide) (by decide) (cells' := 0) (slots' := 0) (by decide) (by decide) (k_runV (rest := []) C aks Wd cs_X2_39 (kcX1_trace l D h5 h1 h13 h14 h15 h16 h17 h18 h19 h20 h21 h22 h23 h24 h25 h4 a3 _ ) [2, 3, 4] rfl (by decide) [2] rfl 2 1 rfl rfl rfl rfl rfl ⟨(Nat.le_of_ble_eq_true rfl), (Nat.le_of_ble_eq_true rfl)⟩ hl.1 rfl rfl (Nat.le_of_ble_eq_true rfl) ⟨(Nat.le_of_ble_eq_true rfl), (Nat.le_of_ble_eq_true rfl)⟩ dX2_compare_28) (fun _ H locs w3134 Wd => ?_)
  have Wd : wX D [(a1, .int), (a2, .int), (a3, .int), (a4, .int)] s [(h0, .inr (2, [.int (-1), .int (-1), .int 0, .int 0, .ref h2, .ref h3])), (h2, .inr (3, [.ref h5, .ref h6, .int 0, .int 0, .int 0, .ref h7, .ref h8])), (h3, .inr (3, [.ref h9, .ref h10, .int 0, .int 0, .int 0, .ref h11, .ref h12])), (h9, .inr (1, [.ref h26, .int 0, .ref h27, .ref h28, .ref h29, .ref h30, .ref h31, .ref h32, .ref h33, .ref h34, .ref h35, .ref h36, .ref h37, .ref h38])), (h38, .inl (a4, 480, .inl (fun _ => 0))), (h7, .inl (a1, 6, .inl (fun _ => 0))), (h11, .inl (a2, 6, .inl (fun _ => 0))), (h5, .inr (1, [.ref h1, .int 0, .ref h14, .ref h15, .ref h16, .ref h17, .ref h18, .ref h19, .ref h20, .ref h21, .ref h22, .ref h23, .ref h24, .ref h25])), (h1, .inr (8, [.ref h4, .int 0])), (h25, .inl (a3, 480, .inl (fun _ => 0)))] _ A s.heap _ := Wd
  refine lv_aload_n C.1 C.2.1 dX2_compare_31 rfl (lv_at hl 0 rfl) ?_
  refine k_get C Wd KX2 0 5 rfl (by decide) fl_X2_18 rfl dX2_compare_32 ?_
  refine k_get C Wd KX3 2 0 rfl (by decide) fl_X2_35 rfl dX2_compare_35 ?_
  refine lv_aload_n C.1 C.2.1 dX2_compare_38 rfl (lv_at hl 2 rfl) ?_
  refine k_cv Wd [3, 8, 4] [0, 1, 2, 5, 6, 7, 9] rfl (wr := [(h0, .inr (2, [.int (-1), .int (-1), .int 0, .int 0, .ref h2, .ref h3])), (h2, .inr (3, [.ref h5, .ref h6, .int 0, .int 0, .int 0, .ref h7, .ref h8])), (h3, .inr (3, [.ref h9, .ref h10, .int 0, .int 0, .int 0, .ref h11, .ref h12])), (h7, .inl (a1, 6, .inl (fun _ => 0))), (h11, .inl (a2, 6, .inl (fun _ => 0))), (h5, .inr (1, [.ref h1, .int 0, .ref h14, .ref h15, .ref h16, .ref h17, .ref h18, .ref h19, .ref h20, .ref h21, .ref h22, .ref h23, .ref h24, .ref h25])), (h25, .inl (a3, 480, .inl (fun _ => 0)))]) rfl (by decide) (by decide) (cells' := 0) (slots' := 0) (by decide) (by decide) (k_runV (rest := []) C aks Wd cs_X2_39 (kcX1_trace l D h9 h1 h26 h27 h28 h29 h30 h31 h32 h33 h34 h35 h36 h37 h38 h4 a4 _ ) [3, 8, 4] rfl (by decide) [3] rfl 3 1 rfl rfl rfl rfl rfl ⟨(Nat.le_of_ble_eq_true rfl), (Nat.le_of_ble_eq_true rfl)⟩ hl.1 rfl rfl (Nat.le_of_ble_eq_true rfl) ⟨(Nat.le_of_ble_eq_true rfl), (Nat.le_of_ble_eq_true rfl)⟩ dX2_compare_39) (fun _ H locs w3135 Wd => ?_)
  have Wd : wX D [(a1, .int), (a2, .int), (a3, .int), (a4, .int)] s [(h0, .inr (2, [.int (-1), .int (-1), .int 0, .int 0, .ref h2, .ref h3])), (h2, .inr (3, [.ref h5, .ref h6, .int 0, .int 0, .int 0, .ref h7, .ref h8])), (h3, .inr (3, [.ref h9, .ref h10, .int 0, .int 0, .int 0, .ref h11, .ref h12])), (h7, .inl (a1, 6, .inl (fun _ => 0))), (h11, .inl (a2, 6, .inl (fun _ => 0))), (h5, .inr (1, [.ref h1, .int 0, .ref h14, .ref h15, .ref h16, .ref h17, .ref h18, .ref h19, .ref h20, .ref h21, .ref h22, .ref h23, .ref h24, .ref h25])), (h25, .inl (a3, 480, .inl (fun _ => 0))), (h9, .inr (1, [.ref h1, .int 0, .ref h27, .ref h28, .ref h29, .ref h30, .ref h31, .ref h32, .ref h33, .ref h34, .ref h35, .ref h36, .ref h37, .ref h38])), (h1, .inr (8, [.ref h4, .int 0])), (h38, .inl (a4, 480, .inl (fun _ => 0)))] _ A s.heap _ := Wd
  refine lv_aload_n C.1 C.2.1 dX2_compare_42 rfl (lv_at hl 0 rfl) ?_
  refine k_get C Wd KX2 0 4 rfl (by decide) fl_X2_12 rfl dX2_compare_43 ?_
  refine k_get C Wd KX3 1 0 rfl (by decide) fl_X2_35 rfl dX2_compare_46 ?_
  refine lv_iconst (v := 0) C.1 C.2.1 dX2_compare_49 (by decide) ?_
  refine k_pi (k_runV (rest := []) C aks Wd cs_X2_45 (kcX1_aheadOf l D h5 h1 h14 h15 h16 h17 h18 h19 h20 h21 h22 h23 h24 h25 0 _ ) [5] rfl (by decide) [] rfl 5 1 rfl rfl rfl rfl rfl ⟨(Nat.le_of_ble_eq_true rfl), (Nat.le_of_ble_eq_true rfl)⟩ hl.1 rfl rfl (Nat.le_of_ble_eq_true rfl) ⟨(Nat.le_of_ble_eq_true rfl), (Nat.le_of_ble_eq_true rfl)⟩ dX2_compare_50) (fun r w3136 => ?_)
  rcases w3136 with ⟨c3137, rfl⟩ | ⟨c3138, rfl⟩
  · exact absurd c3137 (by decide)
  · refine lv_aload_n C.1 C.2.1 dX2_compare_53 rfl (lv_at hl 0 rfl) ?_
    refine k_get C Wd KX2 0 5 rfl (by decide) fl_X2_18 rfl dX2_compare_54 ?_
    refine k_get C Wd KX3 2 0 rfl (by decide) fl_X2_35 rfl dX2_compare_57 ?_
    refine lv_iconst (v := 0) C.1 C.2.1 dX2_compare_60 (by decide) ?_
    refine k_pi (k_runV (rest := [.int 0]) C aks Wd cs_X2_45 (kcX1_aheadOf l D h9 h1 h27 h28 h29 h30 h31 h32 h33 h34 h35 h36 h37 h38 0 _ ) [7] rfl (by decide) [] rfl 7 1 rfl rfl rfl rfl rfl ⟨(Nat.le_of_ble_eq_true rfl), (Nat.le_of_ble_eq_true rfl)⟩ hl.1 rfl rfl (Nat.le_of_ble_eq_true rfl) ⟨(Nat.le_of_ble_eq_true rfl), (Nat.le_of_ble_eq_true rfl)⟩ dX2_compare_61) (fun r w3139 => ?_)
    rcases w3139 with ⟨c3140, rfl⟩ | ⟨c3141, rfl⟩
    · exact absurd c3140 (by decide)
    · refine k_ior (v := 0) C (by decide) dX2_compare_64 ?_
      refine lv_istore (lv' := [(4, .int 0), (0, .ref h0), (1, .ref h1), (2, .ref h1), (3, .int 0)]) C.1 C.2.1 dX2_compare_65 hl (by decide) rfl (fun ls hl => ?_)
      refine lv_iload C.1 C.2.1 dX2_compare_67 (lv_at hl 0 rfl) ?_
      refine lv_iconst (v := 1) C.1 C.2.1 dX2_compare_69 (by decide) ?_
      refine k_iand (v := 0) C (by decide) dX2_compare_70 ?_
      refine lv_if_eq (tgt := 78) C.1 C.2.1 dX2_compare_71 (by decide) (fun _ => ?_) (fun c3142 => absurd c3142 (by decide))
      refine lv_bipush (v := 16) C.1 C.2.1 dX2_compare_78 (by decide) ?_
      refine lv_istore (lv' := [(5, .int 16), (4, .int 0), (0, .ref h0), (1, .ref h1), (2, .ref h1), (3, .int 0)]) C.1 C.2.1 dX2_compare_80 hl (by decide) rfl (fun ls hl => ?_)
      refine lv_iload C.1 C.2.1 dX2_compare_82 (lv_at hl 1 rfl) ?_
      refine lv_iconst (v := 2) C.1 C.2.1 dX2_compare_84 (by decide) ?_
      refine k_iand (v := 0) C (by decide) dX2_compare_85 ?_
      refine lv_if_eq (tgt := 93) C.1 C.2.1 dX2_compare_86 (by decide) (fun _ => ?_) (fun c3143 => absurd c3143 (by decide))
      refine lv_bipush (v := 16) C.1 C.2.1 dX2_compare_93 (by decide) ?_
      refine lv_istore (lv' := [(6, .int 16), (5, .int 16), (4, .int 0), (0, .ref h0), (1, .ref h1), (2, .ref h1), (3, .int 0)]) C.1 C.2.1 dX2_compare_95 hl (by decide) rfl (fun ls hl => ?_)
      refine lv_iconst (v := 0) C.1 C.2.1 dX2_compare_97 (by decide) ?_
      refine lv_istore (lv' := [(7, .int 0), (6, .int 16), (5, .int 16), (4, .int 0), (0, .ref h0), (1, .ref h1), (2, .ref h1), (3, .int 0)]) C.1 C.2.1 dX2_compare_98 hl (by decide) rfl (fun ls hl => ?_)
      refine lv_iload C.1 C.2.1 dX2_compare_100 (lv_at hl 0 rfl) ?_
      refine lv_bipush (v := 16) C.1 C.2.1 dX2_compare_102 (by decide) ?_
      refine lv_icmp_ge (tgt := 189) C.1 C.2.1 dX2_compare_104 (by decide) (fun c3144 => absurd c3144 (by decide)) (fun _ => ?_)
      refine lv_iconst (v := 0) C.1 C.2.1 dX2_compare_107 (by decide) ?_
      refine lv_istore (lv' := [(8, .int 0), (7, .int 0), (6, .int 16), (5, .int 16), (4, .int 0), (0, .ref h0), (1, .ref h1), (2, .ref h1), (3, .int 0)]) C.1 C.2.1 dX2_compare_108 hl (by decide) rfl (fun ls hl => ?_)
      refine lv_iload C.1 C.2.1 dX2_compare_110 (lv_at hl 0 rfl) ?_
      refine lv_bipush (v := 16) C.1 C.2.1 dX2_compare_112 (by decide) ?_
      refine lv_icmp_ge (tgt := 179) C.1 C.2.1 dX2_compare_114 (by decide) (fun c3145 => absurd c3145 (by decide)) (fun _ => ?_)
      refine lv_aload_n C.1 C.2.1 dX2_compare_117 rfl (lv_at hl 5 rfl) ?_
      refine k_get C Wd KX2 0 4 rfl (by decide) fl_X2_12 rfl dX2_compare_118 ?_
      refine lv_iload C.1 C.2.1 dX2_compare_121 (lv_at hl 1 rfl) ?_
      refine lv_iload C.1 C.2.1 dX2_compare_123 (lv_at hl 0 rfl) ?_
      refine k_cv Wd [1, 3, 5] [0, 2, 4, 6, 7, 8, 9] rfl (wr := [(h0, .inr (2, [.int (-1), .int (-1), .int 0, .int 0, .ref h2, .ref h3])), (h3, .inr (3, [.ref h9, .ref h10, .int 0, .int 0, .int 0, .ref h11, .ref h12])), (h11, .inl (a2, 6, .inl (fun _ => 0))), (h25, .inl (a3, 480, .inl (fun _ => 0))), (h9, .inr (1, [.ref h1, .int 0, .ref h27, .ref h28, .ref h29, .ref h30, .ref h31, .ref h32, .ref h33, .ref h34, .ref h35, .ref h36, .ref h37, .ref h38])), (h1, .inr (8, [.ref h4, .int 0])), (h38, .inl (a4, 480, .inl (fun _ => 0)))]) rfl (by decide) (by decide) (cells' := 0) (slots' := 0) (by decide) (by decide) (k_runV (rest := []) C aks Wd cs_X2_49 (kcX3_go l D h2 h5 h6 h7 h8 h1 h14 h15 h16 h17 h18 h19 h20 h21 h22 h23 h24 h25 0 0 a1 _ ) [1, 3, 5] rfl (by decide) [0] rfl 1 3 rfl rfl rfl rfl rfl ⟨(Nat.le_of_ble_eq_true rfl), (Nat.le_of_ble_eq_true rfl)⟩ hl.1 rfl rfl (Nat.le_of_ble_eq_true rfl) ⟨(Nat.le_of_ble_eq_true rfl), (Nat.le_of_ble_eq_true rfl)⟩ dX2_compare_125) (fun _ H locs w3146 Wd => ?_)
      have Wd : wX D [(a1, .int), (a2, .int), (a3, .int), (a4, .int)] s [(h0, .inr (2, [.int (-1), .int (-1), .int 0, .int 0, .ref h2, .ref h3])), (h3, .inr (3, [.ref h9, .ref h10, .int 0, .int 0, .int 0, .ref h11, .ref h12])), (h11, .inl (a2, 6, .inl (fun _ => 0))), (h25, .inl (a3, 480, .inl (fun _ => 0))), (h9, .inr (1, [.ref h1, .int 0, .ref h27, .ref h28, .ref h29, .ref h30, .ref h31, .ref h32, .ref h33, .ref h34, .ref h35, .ref h36, .ref h37, .ref h38])), (h1, .inr (8, [.ref h4, .int 0])), (h38, .inl (a4, 480, .inl (fun _ => 0))), (h2, .inr (3, [.ref h5, .ref h6, .int 0, .int 0, .int 0, .ref h7, .ref h8])), (h7, .inl (a1, 6, .inl (upd (upd (upd (upd (upd (upd (fun _ => 0) 0 0) 1 0) 2 0) 3 0) 4 0) 5 0))), (h5, .inr (1, [.ref h1, .int 0, .ref h14, .ref h15, .ref h16, .ref h17, .ref h18, .ref h19, .ref h20, .ref h21, .ref h22, .ref h23, .ref h24, .ref h25]))] _ A s.heap _ := Wd
      refine lv_aload_n C.1 C.2.1 dX2_compare_128 rfl (lv_at hl 5 rfl) ?_
      refine k_get C Wd KX2 0 5 rfl (by decide) fl_X2_18 rfl dX2_compare_129 ?_
      refine lv_iload C.1 C.2.1 dX2_compare_132 (lv_at hl 1 rfl) ?_
      refine lv_iload C.1 C.2.1 dX2_compare_134 (lv_at hl 0 rfl) ?_
      refine k_cv Wd [1, 2, 4] [0, 3, 5, 6, 7, 8, 9] rfl (wr := [(h0, .inr (2, [.int (-1), .int (-1), .int 0, .int 0, .ref h2, .ref h3])), (h25, .inl (a3, 480, .inl (fun _ => 0))), (h1, .inr (8, [.ref h4, .int 0])), (h38, .inl (a4, 480, .inl (fun _ => 0))), (h2, .inr (3, [.ref h5, .ref h6, .int 0, .int 0, .int 0, .ref h7, .ref h8])), (h7, .inl (a1, 6, .inl (upd (upd (upd (upd (upd (upd (fun _ => 0) 0 0) 1 0) 2 0) 3 0) 4 0) 5 0))), (h5, .inr (1, [.ref h1, .int 0, .ref h14, .ref h15, .ref h16, .ref h17, .ref h18, .ref h19, .ref h20, .ref h21, .ref h22, .ref h23, .ref h24, .ref h25]))]) rfl (by decide) (by decide) (cells' := 0) (slots' := 0) (by decide) (by decide) (k_runV (rest := []) C aks Wd cs_X2_49 (kcX3_go l D h3 h9 h10 h11 h12 h1 h27 h28 h29 h30 h31 h32 h33 h34 h35 h36 h37 h38 0 0 a2 _ ) [1, 2, 4] rfl (by decide) [1] rfl 1 3 rfl rfl rfl rfl rfl ⟨(Nat.le_of_ble_eq_true rfl), (Nat.le_of_ble_eq_true rfl)⟩ hl.1 rfl rfl (Nat.le_of_ble_eq_true rfl) ⟨(Nat.le_of_ble_eq_true rfl), (Nat.le_of_ble_eq_true rfl)⟩ dX2_compare_136) (fun _ H locs w3147 Wd => ?_)
      have Wd : wX D [(a1, .int), (a2, .int), (a3, .int), (a4, .int)] s [(h0, .inr (2, [.int (-1), .int (-1), .int 0, .int 0, .ref h2, .ref h3])), (h25, .inl (a3, 480, .inl (fun _ => 0))), (h1, .inr (8, [.ref h4, .int 0])), (h38, .inl (a4, 480, .inl (fun _ => 0))), (h2, .inr (3, [.ref h5, .ref h6, .int 0, .int 0, .int 0, .ref h7, .ref h8])), (h7, .inl (a1, 6, .inl (upd (upd (upd (upd (upd (upd (fun _ => 0) 0 0) 1 0) 2 0) 3 0) 4 0) 5 0))), (h5, .inr (1, [.ref h1, .int 0, .ref h14, .ref h15, .ref h16, .ref h17, .ref h18, .ref h19, .ref h20, .ref h21, .ref h22, .ref h23, .ref h24, .ref h25])), (h3, .inr (3, [.ref h9, .ref h10, .int 0, .int 0, .int 0, .ref h11, .ref h12])), (h11, .inl (a2, 6, .inl (upd (upd (upd (upd (upd (upd (fun _ => 0) 0 0) 1 0) 2 0) 3 0) 4 0) 5 0))), (h9, .inr (1, [.ref h1, .int 0, .ref h27, .ref h28, .ref h29, .ref h30, .ref h31, .ref h32, .ref h33, .ref h34, .ref h35, .ref h36, .ref h37, .ref h38]))] _ A s.heap _ := Wd
      refine lv_aload_n C.1 C.2.1 dX2_compare_139 rfl (lv_at hl 5 rfl) ?_
      refine lv_bipush (v := 16) C.1 C.2.1 dX2_compare_140 (by decide) ?_
      refine lv_iload C.1 C.2.1 dX2_compare_142 (lv_at hl 1 rfl) ?_
      refine k_imul (v := 0) C (by decide) dX2_compare_144 ?_
      refine lv_iload C.1 C.2.1 dX2_compare_145 (lv_at hl 0 rfl) ?_
      refine k_iadd (v := 0) C (by decide) dX2_compare_147 ?_
      refine lv_iload C.1 C.2.1 dX2_compare_148 (lv_at hl 3 rfl) ?_
      refine lv_iload C.1 C.2.1 dX2_compare_150 (lv_at hl 2 rfl) ?_
      refine k_imul (v := 256) C (by decide) dX2_compare_152 ?_
      refine k_cv Wd [0, 4, 7] [1, 2, 3, 5, 6, 8, 9] rfl (wr := [(h25, .inl (a3, 480, .inl (fun _ => 0))), (h1, .inr (8, [.ref h4, .int 0])), (h38, .inl (a4, 480, .inl (fun _ => 0))), (h7, .inl (a1, 6, .inl (upd (upd (upd (upd (upd (upd (fun _ => 0) 0 0) 1 0) 2 0) 3 0) 4 0) 5 0))), (h5, .inr (1, [.ref h1, .int 0, .ref h14, .ref h15, .ref h16, .ref h17, .ref h18, .ref h19, .ref h20, .ref h21, .ref h22, .ref h23, .ref h24, .ref h25])), (h11, .inl (a2, 6, .inl (upd (upd (upd (upd (upd (upd (fun _ => 0) 0 0) 1 0) 2 0) 3 0) 4 0) 5 0))), (h9, .inr (1, [.ref h1, .int 0, .ref h27, .ref h28, .ref h29, .ref h30, .ref h31, .ref h32, .ref h33, .ref h34, .ref h35, .ref h36, .ref h37, .ref h38]))]) rfl (by decide) (by decide) (cells' := 0) (slots' := 0) (by decide) (by decide) (k_runV (rest := []) C aks Wd cs_X2_53 (kcX2_note l D h0 h2 h3 h5 h6 h7 h8 h9 h10 h11 h12 _ ) [0, 4, 7] rfl (by decide) [] rfl 0 2 rfl rfl rfl rfl rfl ⟨(Nat.le_of_ble_eq_true rfl), (Nat.le_of_ble_eq_true rfl)⟩ hl.1 rfl rfl (Nat.le_of_ble_eq_true rfl) ⟨(Nat.le_of_ble_eq_true rfl), (Nat.le_of_ble_eq_true rfl)⟩ dX2_compare_153) (fun _ H locs w3148 Wd => ?_)
      have Wd : wX D [(a1, .int), (a2, .int), (a3, .int), (a4, .int)] s [(h25, .inl (a3, 480, .inl (fun _ => 0))), (h1, .inr (8, [.ref h4, .int 0])), (h38, .inl (a4, 480, .inl (fun _ => 0))), (h7, .inl (a1, 6, .inl (upd (upd (upd (upd (upd (upd (fun _ => 0) 0 0) 1 0) 2 0) 3 0) 4 0) 5 0))), (h5, .inr (1, [.ref h1, .int 0, .ref h14, .ref h15, .ref h16, .ref h17, .ref h18, .ref h19, .ref h20, .ref h21, .ref h22, .ref h23, .ref h24, .ref h25])), (h11, .inl (a2, 6, .inl (upd (upd (upd (upd (upd (upd (fun _ => 0) 0 0) 1 0) 2 0) 3 0) 4 0) 5 0))), (h9, .inr (1, [.ref h1, .int 0, .ref h27, .ref h28, .ref h29, .ref h30, .ref h31, .ref h32, .ref h33, .ref h34, .ref h35, .ref h36, .ref h37, .ref h38])), (h0, .inr (2, [.int (-1), .int (-1), .int 0, .int 0, .ref h2, .ref h3])), (h2, .inr (3, [.ref h5, .ref h6, .int 0, .int 0, .int 0, .ref h7, .ref h8])), (h3, .inr (3, [.ref h9, .ref h10, .int 0, .int 0, .int 0, .ref h11, .ref h12]))] _ A s.heap _ := Wd
      refine lv_iload_n C.1 C.2.1 dX2_compare_156 rfl (lv_at hl 8 rfl) ?_
      refine lv_if_eq (tgt := 169) C.1 C.2.1 dX2_compare_157 (by decide) (fun _ => ?_) (fun c3149 => absurd c3149 (by decide))
      refine lv_iload C.1 C.2.1 dX2_compare_169 (lv_at hl 0 rfl) ?_
      refine lv_iload C.1 C.2.1 dX2_compare_171 (lv_at hl 2 rfl) ?_
      refine k_iadd (v := 16) C (by decide) dX2_compare_173 ?_
      refine lv_istore (lv' := [(8, .int 16), (7, .int 0), (6, .int 16), (5, .int 16), (4, .int 0), (0, .ref h0), (1, .ref h1), (2, .ref h1), (3, .int 0)]) C.1 C.2.1 dX2_compare_174 hl (by decide) rfl (fun ls hl => ?_)
      refine lv_goto (tgt := 110) C.1 C.2.1 dX2_compare_176 (by decide) ?_
      refine lv_iload C.1 C.2.1 dX2_compare_110 (lv_at hl 0 rfl) ?_
      refine lv_bipush (v := 16) C.1 C.2.1 dX2_compare_112 (by decide) ?_
      refine lv_icmp_ge (tgt := 179) C.1 C.2.1 dX2_compare_114 (by decide) (fun _ => ?_) (fun c3150 => absurd c3150 (by decide))
      refine lv_iload C.1 C.2.1 dX2_compare_179 (lv_at hl 1 rfl) ?_
      refine lv_iload C.1 C.2.1 dX2_compare_181 (lv_at hl 3 rfl) ?_
      refine k_iadd (v := 16) C (by decide) dX2_compare_183 ?_
      refine lv_istore (lv' := [(7, .int 16), (8, .int 16), (6, .int 16), (5, .int 16), (4, .int 0), (0, .ref h0), (1, .ref h1), (2, .ref h1), (3, .int 0)]) C.1 C.2.1 dX2_compare_184 hl (by decide) rfl (fun ls hl => ?_)
      refine lv_goto (tgt := 100) C.1 C.2.1 dX2_compare_186 (by decide) ?_
      refine lv_iload C.1 C.2.1 dX2_compare_100 (lv_at hl 0 rfl) ?_
      refine lv_bipush (v := 16) C.1 C.2.1 dX2_compare_102 (by decide) ?_
      refine lv_icmp_ge (tgt := 189) C.1 C.2.1 dX2_compare_104 (by decide) (fun _ => ?_) (fun c3151 => absurd c3151 (by decide))
      refine lv_aload_n C.1 C.2.1 dX2_compare_189 rfl (lv_at hl 5 rfl) ?_
      refine k_get C Wd KX2 7 2 rfl (by decide) fl_X2_28 rfl dX2_compare_190 ?_
      refine lv_if_le (tgt := 200) C.1 C.2.1 dX2_compare_193 (by decide) (fun _ => ?_) (fun c3152 => absurd c3152 (by decide))
      refine lv_iconst (v := 0) C.1 C.2.1 dX2_compare_200 (by decide) ?_
      exact k_zret C hr hlk rfl Wd () rfl [7, 8, 4, 1, 0, 9, 6, 2, 3, 5] rfl (by decide) [] rfl (by decide) (by decide) dX2_compare_201
set_option maxHeartbeats 4000000 in
set_option maxRecDepth 100000 in
theorem kcX11_judge_v5 (l : Launch) (D : va_G) (h0 h1 h2 h3 h4 h5 h6 h7 h8 h19 h20 h21 h22 h23 h24 h25 h26 h31 h46 h47 h81 h82 h83 h84 h85 h86 h87 h88 h93 h94 h95 h96 h97 h98 h99 h100 h101 h102 h103 h104 h105 h106 h107 h108 h109 h110 h111 h112 h113 h114 h115 h116 h117 h118 : Nat) (x0 x1 x2 : Int32) (g0 : Nat → Option Nat) (a0 a14 a15 a16 a17 : ClassId) (sz : Nat) (k_g0_x0 : g0 x0.toNatClampNeg = some h8) (k_g0_x1 : g0 x1.toNatClampNeg = some h8) (as0 : ¬ x0 < (0 : Int32)) (as1 : x0 < (6 : Int32)) (as2 : ¬ x1 < (0 : Int32)) (as3 : x1 < (6 : Int32)): Met l yX11_judge (Cond.code yX11_judge cX11_judge 7 (some .int) :: gG) { frames := 4, cells := 0, slots := 0, locals := 139 } (cPre D [(a0, .object RX8), (a14, .int), (a15, .int), (a16, .int), (a17, .int)] [(h0, .inr (11, [.ref h1, .int 0, .ref h2, .ref h3, .ref h4, .ref h5, .ref h6, .ref h7])), (h1, .inl (a0, 6, .inr (.inr (.inr (.inr g0))))), (h6, .inr (4, [.ref h19, .ref h20, .ref h21, .int (-1), .int (-1), .ref h22, .ref h23, .ref h24, .ref h25, .ref h26])), (h19, .inr (2, [.int (-1), .int (-1), .int 0, .int 0, .ref h46, .ref h47])), (h46, .inr (3, [.ref h81, .ref h82, .int 0, .int 0, .int 0, .ref h83, .ref h84])), (h81, .inr (1, [.ref h93, .int 0, .ref h94, .ref h95, .ref h96, .ref h97, .ref h98, .ref h99, .ref h100, .ref h101, .ref h102, .ref h103, .ref h104, .ref h105])), (h8, .inr (8, [.ref h31, .int 0])), (h105, .inl (a16, 480, .inl (fun _ => 0))), (h47, .inr (3, [.ref h85, .ref h86, .int 0, .int 0, .int 0, .ref h87, .ref h88])), (h85, .inr (1, [.ref h106, .int 0, .ref h107, .ref h108, .ref h109, .ref h110, .ref h111, .ref h112, .ref h113, .ref h114, .ref h115, .ref h116, .ref h117, .ref h118])), (h118, .inl (a17, 480, .inl (fun _ => 0))), (h83, .inl (a14, 6, .inl (fun _ => 0))), (h87, .inl (a15, 6, .inl (fun _ => 0)))] sz [.ref h0, .int x0, .int x1, .int x2]) (va_Qi (fun (r : Int32) (_ : Unit) => (¬ x0 < (0 : Int32) ∧ ¬ (6 : Int32) ≤ x0 ∧ ¬ x1 < (0 : Int32) ∧ ¬ (6 : Int32) ≤ x1 ∧ x2 < (0 : Int32) ∧ r = (-1)) ∨ (¬ x0 < (0 : Int32) ∧ ¬ (6 : Int32) ≤ x0 ∧ ¬ x1 < (0 : Int32) ∧ ¬ (6 : Int32) ≤ x1 ∧ ¬ x2 < (0 : Int32) ∧ x2 ≤ (3 : Int32) ∧ x2 = (0 : Int32) ∧ r = 0) ∨ (¬ x0 < (0 : Int32) ∧ ¬ (6 : Int32) ≤ x0 ∧ ¬ x1 < (0 : Int32) ∧ ¬ (6 : Int32) ≤ x1 ∧ ¬ x2 < (0 : Int32) ∧ x2 ≤ (3 : Int32) ∧ ¬ x2 = (0 : Int32) ∧ x2 = (1 : Int32) ∧ r = (-1)) ∨ (¬ x0 < (0 : Int32) ∧ ¬ (6 : Int32) ≤ x0 ∧ ¬ x1 < (0 : Int32) ∧ ¬ (6 : Int32) ≤ x1 ∧ ¬ x2 < (0 : Int32) ∧ x2 ≤ (3 : Int32) ∧ ¬ x2 = (0 : Int32) ∧ ¬ x2 = (1 : Int32) ∧ x2 = (2 : Int32) ∧ r = (-1)) ∨ (¬ x0 < (0 : Int32) ∧ ¬ (6 : Int32) ≤ x0 ∧ ¬ x1 < (0 : Int32) ∧ ¬ (6 : Int32) ≤ x1 ∧ ¬ x2 < (0 : Int32) ∧ x2 ≤ (3 : Int32) ∧ ¬ x2 = (0 : Int32) ∧ ¬ x2 = (1 : Int32) ∧ ¬ x2 = (2 : Int32) ∧ r = 0) ∨ (¬ x0 < (0 : Int32) ∧ ¬ (6 : Int32) ≤ x0 ∧ ¬ x1 < (0 : Int32) ∧ ¬ (6 : Int32) ≤ x1 ∧ ¬ x2 < (0 : Int32) ∧ ¬ x2 ≤ (3 : Int32) ∧ r = (-1))) (fun u t => cB D (va_A [(h0, .inr (11, [.ref h1, .int 0, .ref h2, .ref h3, .ref h4, .ref h5, .ref h6, .ref h7])), (h1, .inl (a0, 6, .inr (.inr (.inr (.inr g0))))), (h6, .inr (4, [.ref h19, .ref h20, .ref h21, .int (-1), .int (-1), .ref h22, .ref h23, .ref h24, .ref h25, .ref h26])), (h19, .inr (2, [.int (-1), .int (-1), .int 0, .int 0, .ref h46, .ref h47])), (h46, .inr (3, [.ref h81, .ref h82, .int 0, .int 0, .int 0, .ref h83, .ref h84])), (h81, .inr (1, [.ref h93, .int 0, .ref h94, .ref h95, .ref h96, .ref h97, .ref h98, .ref h99, .ref h100, .ref h101, .ref h102, .ref h103, .ref h104, .ref h105])), (h8, .inr (8, [.ref h31, .int 0])), (h105, .inl (a16, 480, .inl (fun _ => 0))), (h47, .inr (3, [.ref h85, .ref h86, .int 0, .int 0, .int 0, .ref h87, .ref h88])), (h85, .inr (1, [.ref h106, .int 0, .ref h107, .ref h108, .ref h109, .ref h110, .ref h111, .ref h112, .ref h113, .ref h114, .ref h115, .ref h116, .ref h117, .ref h118])), (h118, .inl (a17, 480, .inl (fun _ => 0))), (h83, .inl (a14, 6, .inl (fun _ => 0))), (h87, .inl (a15, 6, .inl (fun _ => 0)))] sz) ((fun (_ : Unit) => ([] : List (ClassId × FieldType))) u) ((fun (_ : Unit) => ([] : va_W)) u) t) (va_A [(h0, .inr (11, [.ref h1, .int 0, .ref h2, .ref h3, .ref h4, .ref h5, .ref h6, .ref h7])), (h1, .inl (a0, 6, .inr (.inr (.inr (.inr g0))))), (h6, .inr (4, [.ref h19, .ref h20, .ref h21, .int (-1), .int (-1), .ref h22, .ref h23, .ref h24, .ref h25, .ref h26])), (h19, .inr (2, [.int (-1), .int (-1), .int 0, .int 0, .ref h46, .ref h47])), (h46, .inr (3, [.ref h81, .ref h82, .int 0, .int 0, .int 0, .ref h83, .ref h84])), (h81, .inr (1, [.ref h93, .int 0, .ref h94, .ref h95, .ref h96, .ref h97, .ref h98, .ref h99, .ref h100, .ref h101, .ref h102, .ref h103, .ref h104, .ref h105])), (h8, .inr (8, [.ref h31, .int 0])), (h105, .inl (a16, 480, .inl (fun _ => 0))), (h47, .inr (3, [.ref h85, .ref h86, .int 0, .int 0, .int 0, .ref h87, .ref h88])), (h85, .inr (1, [.ref h106, .int 0, .ref h107, .ref h108, .ref h109, .ref h110, .ref h111, .ref h112, .ref h113, .ref h114, .ref h115, .ref h116, .ref h117, .ref h118])), (h118, .inl (a17, 480, .inl (fun _ => 0))), (h83, .inl (a14, 6, .inl (fun _ => 0))), (h87, .inl (a15, 6, .inl (fun _ => 0)))] sz)) 0 0 (va_A [(h0, .inr (11, [.ref h1, .int 0, .ref h2, .ref h3, .ref h4, .ref h5, .ref h6, .ref h7])), (h1, .inl (a0, 6, .inr (.inr (.inr (.inr g0))))), (h6, .inr (4, [.ref h19, .ref h20, .ref h21, .int (-1), .int (-1), .ref h22, .ref h23, .ref h24, .ref h25, .ref h26])), (h19, .inr (2, [.int (-1), .int (-1), .int 0, .int 0, .ref h46, .ref h47])), (h46, .inr (3, [.ref h81, .ref h82, .int 0, .int 0, .int 0, .ref h83, .ref h84])), (h81, .inr (1, [.ref h93, .int 0, .ref h94, .ref h95, .ref h96, .ref h97, .ref h98, .ref h99, .ref h100, .ref h101, .ref h102, .ref h103, .ref h104, .ref h105])), (h8, .inr (8, [.ref h31, .int 0])), (h105, .inl (a16, 480, .inl (fun _ => 0))), (h47, .inr (3, [.ref h85, .ref h86, .int 0, .int 0, .int 0, .ref h87, .ref h88])), (h85, .inr (1, [.ref h106, .int 0, .ref h107, .ref h108, .ref h109, .ref h110, .ref h111, .ref h112, .ref h113, .ref h114, .ref h115, .ref h116, .ref h117, .ref h118])), (h118, .inl (a17, 480, .inl (fun _ => 0))), (h83, .inl (a14, 6, .inl (fun _ => 0))), (h87, .inl (a15, 6, .inl (fun _ => 0)))] sz) := by
  refine Met.ofW (cc := cX11_judge) (maxL := 7) (ret := (some .int)) (by decide) rfl ?_
  intro p e s m args below meth c s₁ B hml hv
  obtain ⟨rfl, aks, rfl, Wd⟩ := k_enter hv
  have C : CallFix p m c cX11_judge 7 s _ gG RX11 := ⟨B.exec, B.bytes, hml, findClass_of_methodNamed B.named, fun w h => atoms_spec (ws := Cond.code yX11_judge cX11_judge 7 (some .int) :: gG) B.pre w (List.mem_cons_of_mem _ h)⟩
  have hr := B.returns
  have hlk := B.notSynchronized
  generalize va_A [(h0, .inr (11, [.ref h1, .int 0, .ref h2, .ref h3, .ref h4, .ref h5, .ref h6, .ref h7])), (h1, .inl (a0, 6, .inr (.inr (.inr (.inr g0))))), (h6, .inr (4, [.ref h19, .ref h20, .ref h21, .int (-1), .int (-1), .ref h22, .ref h23, .ref h24, .ref h25, .ref h26])), (h19, .inr (2, [.int (-1), .int (-1), .int 0, .int 0, .ref h46, .ref h47])), (h46, .inr (3, [.ref h81, .ref h82, .int 0, .int 0, .int 0, .ref h83, .ref h84])), (h81, .inr (1, [.ref h93, .int 0, .ref h94, .ref h95, .ref h96, .ref h97, .ref h98, .ref h99, .ref h100, .ref h101, .ref h102, .ref h103, .ref h104, .ref h105])), (h8, .inr (8, [.ref h31, .int 0])), (h105, .inl (a16, 480, .inl (fun _ => 0))), (h47, .inr (3, [.ref h85, .ref h86, .int 0, .int 0, .int 0, .ref h87, .ref h88])), (h85, .inr (1, [.ref h106, .int 0, .ref h107, .ref h108, .ref h109, .ref h110, .ref h111, .ref h112, .ref h113, .ref h114, .ref h115, .ref h116, .ref h117, .ref h118])), (h118, .inl (a17, 480, .inl (fun _ => 0))), (h83, .inl (a14, 6, .inl (fun _ => 0))), (h87, .inl (a15, 6, .inl (fun _ => 0)))] s.heap.size = A at Wd ⊢
  refine k_locals (Nat.le_of_ble_eq_true rfl) [(0, .ref h0), (1, .int x0), (2, .int x1), (3, .int x2)] rfl (fun ls hl => ?_)
  refine lv_aload_n C.1 C.2.1 dX11_judge_0 rfl (lv_at hl 0 rfl) ?_
  refine lv_iload_n C.1 C.2.1 dX11_judge_1 rfl (lv_at hl 1 rfl) ?_
  refine k_pq (k_runV (rest := []) C aks Wd cs_X11_77 (kcX11_slotAt l D h0 h1 h2 h3 h4 h5 h6 h7 x0 g0 a0 _ ) [0, 1] rfl (by decide) [0] rfl 0 11 rfl rfl rfl rfl rfl ⟨(Nat.le_of_ble_eq_true rfl), (Nat.le_of_ble_eq_true rfl)⟩ hl.1 rfl rfl (Nat.le_of_ble_eq_true rfl) ⟨(Nat.le_of_ble_eq_true rfl), (Nat.le_of_ble_eq_true rfl)⟩ dX11_judge_2) (fun r w3158 => ?_)
  rcases w3158 with ⟨c3159, rfl⟩ | ⟨c3160, c3161, rfl⟩ | ⟨c3162, c3163, rfl⟩
  · exact False.elim (by have z0 := kz_nlt as0; have z1 := kz_lt as1; have z2 := kz_lt c3159; have t0 : (0 : Int32).toInt = 0 := (by decide); have t6 : (6 : Int32).toInt = 6 := (by decide); omega)
  · exact False.elim (by have z0 := kz_nlt as0; have z1 := kz_lt as1; have z2 := kz_nlt c3160; have z3 := kz_le c3161; have t0 : (0 : Int32).toInt = 0 := (by decide); have t6 : (6 : Int32).toInt = 6 := (by decide); omega)
  · refine W.eq (g2 := F0 m 5 ls [.ref h8]) (by rw [show (g0 x0.toNatClampNeg) = some h8 from k_g0_x0]; rfl) ?_
    refine lv_astore (lv' := [(4, .ref h8), (0, .ref h0), (1, .int x0), (2, .int x1), (3, .int x2)]) C.1 C.2.1 dX11_judge_5 hl (by decide) rfl (fun ls hl => ?_)
    refine lv_aload_n C.1 C.2.1 dX11_judge_7 rfl (lv_at hl 1 rfl) ?_
    refine lv_iload_n C.1 C.2.1 dX11_judge_8 rfl (lv_at hl 3 rfl) ?_
    refine k_pq (k_runV (rest := []) C aks Wd cs_X11_77 (kcX11_slotAt l D h0 h1 h2 h3 h4 h5 h6 h7 x1 g0 a0 _ ) [0, 1] rfl (by decide) [0] rfl 0 11 rfl rfl rfl rfl rfl ⟨(Nat.le_of_ble_eq_true rfl), (Nat.le_of_ble_eq_true rfl)⟩ hl.1 rfl rfl (Nat.le_of_ble_eq_true rfl) ⟨(Nat.le_of_ble_eq_true rfl), (Nat.le_of_ble_eq_true rfl)⟩ dX11_judge_9) (fun r w3164 => ?_)
    rcases w3164 with ⟨c3165, rfl⟩ | ⟨c3166, c3167, rfl⟩ | ⟨c3168, c3169, rfl⟩
    · exact False.elim (by have z0 := kz_nlt as2; have z1 := kz_lt as3; have z2 := kz_lt c3165; have t0 : (0 : Int32).toInt = 0 := (by decide); have t6 : (6 : Int32).toInt = 6 := (by decide); omega)
    · exact False.elim (by have z0 := kz_nlt as2; have z1 := kz_lt as3; have z2 := kz_nlt c3166; have z3 := kz_le c3167; have t0 : (0 : Int32).toInt = 0 := (by decide); have t6 : (6 : Int32).toInt = 6 := (by decide); omega)
    · refine W.eq (g2 := F0 m 12 ls [.ref h8]) (by rw [show (g0 x1.toNatClampNeg) = some h8 from k_g0_x1]; rfl) ?_
      refine lv_astore (lv' := [(5, .ref h8), (4, .ref h8), (0, .ref h0), (1, .int x0), (2, .int x1), (3, .int x2)]) C.1 C.2.1 dX11_judge_12 hl (by decide) rfl (fun ls hl => ?_)
      refine lv_aload C.1 C.2.1 dX11_judge_14 (lv_at hl 1 rfl) ?_
      refine lv_ifnull C.1 C.2.1 dX11_judge_16 ?_
      refine lv_aload C.1 C.2.1 dX11_judge_19 (lv_at hl 0 rfl) ?_
      refine lv_ifnull C.1 C.2.1 dX11_judge_21 ?_
      refine lv_iload_n C.1 C.2.1 dX11_judge_24 rfl (lv_at hl 5 rfl) ?_
      refine lv_if_lt (tgt := 33) C.1 C.2.1 dX11_judge_25 (by decide) (fun c3170 => ?_) (fun c3170 => ?_)
      · refine lv_iconst (v := (-1)) C.1 C.2.1 dX11_judge_33 (by decide) ?_
        exact k_zret C hr hlk rfl Wd () (Or.inl (⟨c3162, c3163, c3168, c3169, c3170, rfl⟩)) [] rfl (by decide) [] rfl (by decide) (by decide) dX11_judge_34
      · refine lv_iload_n C.1 C.2.1 dX11_judge_28 rfl (lv_at hl 5 rfl) ?_
        refine lv_iconst (v := 3) C.1 C.2.1 dX11_judge_29 (by decide) ?_
        refine lv_icmp_le (tgt := 35) C.1 C.2.1 dX11_judge_30 (by decide) (fun c3171 => ?_) (fun c3171 => ?_)
        · refine lv_aload_n C.1 C.2.1 dX11_judge_35 rfl (lv_at hl 2 rfl) ?_
          refine k_get C Wd KX11 0 6 rfl (by decide) fl_X11_50 rfl dX11_judge_36 ?_
          refine k_get C Wd KX4 2 0 rfl (by decide) fl_X11_143 rfl dX11_judge_39 ?_
          refine lv_astore (lv' := [(6, .ref h19), (5, .ref h8), (4, .ref h8), (0, .ref h0), (1, .int x0), (2, .int x1), (3, .int x2)]) C.1 C.2.1 dX11_judge_42 hl (by decide) rfl (fun ls hl => ?_)
          refine lv_aload C.1 C.2.1 dX11_judge_44 (lv_at hl 0 rfl) ?_
          refine lv_aload C.1 C.2.1 dX11_judge_46 (lv_at hl 2 rfl) ?_
          refine lv_aload C.1 C.2.1 dX11_judge_48 (lv_at hl 1 rfl) ?_
          refine lv_iconst (v := 0) C.1 C.2.1 dX11_judge_50 (by decide) ?_
          refine k_ci Wd [3, 4, 5, 6, 7, 8, 9, 10, 11, 12] [0, 1, 2] rfl (wr := [(h0, .inr (11, [.ref h1, .int 0, .ref h2, .ref h3, .ref h4, .ref h5, .ref h6, .ref h7])), (h1, .inl (a0, 6, .inr (.inr (.inr (.inr g0))))), (h6, .inr (4, [.ref h19, .ref h20, .ref h21, .int (-1), .int (-1), .ref h22, .ref h23, .ref h24, .ref h25, .ref h26]))]) rfl (by decide) (by decide) (cells' := 0) (slots' := 0) (by decide) (by decide) (k_runV (rest := []) C aks Wd cs_X11_147 (kcX2_compare_v1 l D h19 h8 h46 h47 h31 h81 h82 h83 h84 h85 h86 h87 h88 h93 h94 h95 h96 h97 h98 h99 h100 h101 h102 h103 h104 h105 h106 h107 h108 h109 h110 h111 h112 h113 h114 h115 h116 h117 h118 a14 a15 a16 a17 _ ) [3, 4, 5, 6, 7, 8, 9, 10, 11, 12] rfl (by decide) [1, 2, 3, 4] rfl 3 2 rfl rfl rfl rfl rfl ⟨(Nat.le_of_ble_eq_true rfl), (Nat.le_of_ble_eq_true rfl)⟩ hl.1 rfl rfl (Nat.le_of_ble_eq_true rfl) ⟨(Nat.le_of_ble_eq_true rfl), (Nat.le_of_ble_eq_true rfl)⟩ dX11_judge_51) (fun r _ H locs w3172 Wd => ?_)
          have Wd : wX D [(a0, .object RX8), (a14, .int), (a15, .int), (a16, .int), (a17, .int)] s [(h0, .inr (11, [.ref h1, .int 0, .ref h2, .ref h3, .ref h4, .ref h5, .ref h6, .ref h7])), (h1, .inl (a0, 6, .inr (.inr (.inr (.inr g0))))), (h6, .inr (4, [.ref h19, .ref h20, .ref h21, .int (-1), .int (-1), .ref h22, .ref h23, .ref h24, .ref h25, .ref h26])), (h19, .inr (2, [.int (-1), .int (-1), .int 0, .int 0, .ref h46, .ref h47])), (h46, .inr (3, [.ref h81, .ref h82, .int 0, .int 0, .int 0, .ref h83, .ref h84])), (h81, .inr (1, [.ref h8, .int 0, .ref h94, .ref h95, .ref h96, .ref h97, .ref h98, .ref h99, .ref h100, .ref h101, .ref h102, .ref h103, .ref h104, .ref h105])), (h8, .inr (8, [.ref h31, .int 0])), (h105, .inl (a16, 480, .inl (fun _ => 0))), (h47, .inr (3, [.ref h85, .ref h86, .int 0, .int 0, .int 0, .ref h87, .ref h88])), (h85, .inr (1, [.ref h8, .int 0, .ref h107, .ref h108, .ref h109, .ref h110, .ref h111, .ref h112, .ref h113, .ref h114, .ref h115, .ref h116, .ref h117, .ref h118])), (h118, .inl (a17, 480, .inl (fun _ => 0))), (h83, .inl (a14, 6, .inl (upd (upd (upd (upd (upd (upd (fun _ => 0) 0 0) 1 0) 2 0) 3 0) 4 0) 5 0))), (h87, .inl (a15, 6, .inl (upd (upd (upd (upd (upd (upd (fun _ => 0) 0 0) 1 0) 2 0) 3 0) 4 0) 5 0)))] _ A s.heap _ := Wd
          obtain rfl := w3172
          refine lv_pop C.1 C.2.1 dX11_judge_54 rfl ?_
          refine lv_iload_n C.1 C.2.1 dX11_judge_55 rfl (lv_at hl 6 rfl) ?_
          by_cases c3173 : x2 = (0 : Int32)
          · subst c3173
            refine lv_tableIn (off := 28) (tgt := 84) C.1 C.2.1 dX11_judge_56 (by decide) (by decide) (by decide) (by decide) ?_
            refine lv_aload C.1 C.2.1 dX11_judge_84 (lv_at hl 0 rfl) ?_
            refine k_pi (k_runV (rest := []) C aks Wd cs_X11_153 (kcX2_verdict l D h19 h46 h47 _ ) [3] rfl (by decide) [] rfl 3 2 rfl rfl rfl rfl rfl ⟨(Nat.le_of_ble_eq_true rfl), (Nat.le_of_ble_eq_true rfl)⟩ hl.1 rfl rfl (Nat.le_of_ble_eq_true rfl) ⟨(Nat.le_of_ble_eq_true rfl), (Nat.le_of_ble_eq_true rfl)⟩ dX11_judge_86) (fun r w3174 => ?_)
            obtain rfl := w3174
            exact k_zret C hr hlk rfl Wd () (Or.inr (Or.inl (⟨c3162, c3163, c3168, c3169, c3170, c3171, rfl, rfl⟩))) [] rfl (by decide) [] rfl (by decide) (by decide) dX11_judge_89
          by_cases c3175 : x2 = (1 : Int32)
          · subst c3175
            refine lv_tableIn (off := 34) (tgt := 90) C.1 C.2.1 dX11_judge_56 (by decide) (by decide) (by decide) (by decide) ?_
            refine lv_aload C.1 C.2.1 dX11_judge_90 (lv_at hl 0 rfl) ?_
            refine k_get C Wd KX2 3 0 rfl (by decide) fl_X11_156 rfl dX11_judge_92 ?_
            exact k_zret C hr hlk rfl Wd () (Or.inr (Or.inr (Or.inl (⟨c3162, c3163, c3168, c3169, c3170, c3171, c3173, rfl, rfl⟩)))) [] rfl (by decide) [] rfl (by decide) (by decide) dX11_judge_95
          by_cases c3176 : x2 = (2 : Int32)
          · subst c3176
            refine lv_tableIn (off := 40) (tgt := 96) C.1 C.2.1 dX11_judge_56 (by decide) (by decide) (by decide) (by decide) ?_
            refine lv_aload C.1 C.2.1 dX11_judge_96 (lv_at hl 0 rfl) ?_
            refine k_get C Wd KX2 3 1 rfl (by decide) fl_X11_159 rfl dX11_judge_98 ?_
            exact k_zret C hr hlk rfl Wd () (Or.inr (Or.inr (Or.inr (Or.inl (⟨c3162, c3163, c3168, c3169, c3170, c3171, c3173, c3175, rfl, rfl⟩))))) [] rfl (by decide) [] rfl (by decide) (by decide) dX11_judge_101
          refine lv_tableOut (tgt := 102) C.1 C.2.1 dX11_judge_56 (by have z0 := kz_nlt c3170; have z1 := kz_le c3171; have z2 := kz_ne c3173; have z3 := kz_ne c3175; have z4 := kz_ne c3176; have t0 : (0 : Int32).toInt = 0 := (by decide); have t3 : (3 : Int32).toInt = 3 := (by decide); have t1 : (1 : Int32).toInt = 1 := (by decide); have t2 : (2 : Int32).toInt = 2 := (by decide); omega) (by decide) ?_
          refine lv_aload C.1 C.2.1 dX11_judge_102 (lv_at hl 0 rfl) ?_
          refine k_get C Wd KX2 3 2 rfl (by decide) fl_X11_162 rfl dX11_judge_104 ?_
          exact k_zret C hr hlk rfl Wd () (Or.inr (Or.inr (Or.inr (Or.inr (Or.inl (⟨c3162, c3163, c3168, c3169, c3170, c3171, c3173, c3175, c3176, rfl⟩)))))) [] rfl (by decide) [] rfl (by decide) (by decide) dX11_judge_107
        · refine lv_iconst (v := (-1)) C.1 C.2.1 dX11_judge_33 (by decide) ?_
          exact k_zret C hr hlk rfl Wd () (Or.inr (Or.inr (Or.inr (Or.inr (Or.inr (⟨c3162, c3163, c3168, c3169, c3170, c3171, rfl⟩)))))) [] rfl (by decide) [] rfl (by decide) (by decide) dX11_judge_34
set_option maxHeartbeats 4000000 in
set_option maxRecDepth 100000 in
theorem kcX4_ruleAt_v1 (l : Launch) (D : va_G) (h0 h1 h2 h3 h4 h5 h6 h7 h8 : Nat) (x0 : Int32) (g0 : Nat → Option Nat) (a0 : ClassId) (sz : Nat)  : Met l yX4_ruleAt (Cond.code yX4_ruleAt cX4_ruleAt 2 (some (.object "SameAfter$Rule")) :: gG) { frames := 1, cells := 0, slots := 0, locals := 64 } (cPre D [(a0, .object RX9)] [(h0, .inr (4, [.ref h1, .ref h2, .ref h3, .int (-1), .int (-1), .ref h4, .ref h5, .ref h6, .ref h7, .ref h8])), (h4, .inl (a0, 12, .inr (.inr (.inr (.inr g0)))))] sz [.ref h0, .int x0]) (va_Sq (fun r => (x0 < (0 : Int32) ∧ r = none) ∨ (¬ x0 < (0 : Int32) ∧ (12 : Int32) ≤ x0 ∧ r = none) ∨ (¬ x0 < (0 : Int32) ∧ ¬ (12 : Int32) ≤ x0 ∧ r = (g0 x0.toNatClampNeg)))) 0 0 (fun _ => False) := by
  refine Met.ofW (cc := cX4_ruleAt) (maxL := 2) (ret := (some (.object "SameAfter$Rule"))) (by decide) rfl ?_
  intro p e s m args below meth c s₁ B hml hv
  obtain ⟨rfl, aks, rfl, Wd⟩ := k_enter hv
  have C : CallFix p m c cX4_ruleAt 2 s _ gG RX4 := ⟨B.exec, B.bytes, hml, findClass_of_methodNamed B.named, fun w h => atoms_spec (ws := Cond.code yX4_ruleAt cX4_ruleAt 2 (some (.object "SameAfter$Rule")) :: gG) B.pre w (List.mem_cons_of_mem _ h)⟩
  have hr := B.returns
  have hlk := B.notSynchronized
  obtain ⟨A, Wd⟩ : ∃ A, wX D [(a0, .object RX9)] s [(h0, .inr (4, [.ref h1, .ref h2, .ref h3, .int (-1), .int (-1), .ref h4, .ref h5, .ref h6, .ref h7, .ref h8])), (h4, .inl (a0, 12, .inr (.inr (.inr (.inr g0)))))] s.heap A s.heap [] := ⟨_, Wd⟩
  refine k_locals (Nat.le_of_ble_eq_true rfl) [(0, .ref h0), (1, .int x0)] rfl (fun ls hl => ?_)
  refine lv_iload_n C.1 C.2.1 dX4_ruleAt_0 rfl (lv_at hl 1 rfl) ?_
  refine lv_if_lt (tgt := 22) C.1 C.2.1 dX4_ruleAt_1 (by decide) (fun c3180 => ?_) (fun c3180 => ?_)
  · refine lv_null C.1 C.2.1 dX4_ruleAt_22 ?_
    exact k_aretP (none) rfl C hr hlk (Or.inl (⟨c3180, rfl⟩)) dX4_ruleAt_23
  · refine lv_iload_n C.1 C.2.1 dX4_ruleAt_4 rfl (lv_at hl 1 rfl) ?_
    refine lv_aload_n C.1 C.2.1 dX4_ruleAt_5 rfl (lv_at hl 0 rfl) ?_
    refine k_get C Wd KX4 0 5 rfl (by decide) fl_X4_11 rfl dX4_ruleAt_6 ?_
    refine k_alen (v := 12) C Wd 1 0 rfl rfl rfl dX4_ruleAt_9 ?_
    refine lv_icmp_ge (tgt := 22) C.1 C.2.1 dX4_ruleAt_10 (by decide) (fun c3181 => ?_) (fun c3181 => ?_)
    · refine lv_null C.1 C.2.1 dX4_ruleAt_22 ?_
      exact k_aretP (none) rfl C hr hlk (Or.inr (Or.inl (⟨c3180, c3181, rfl⟩))) dX4_ruleAt_23
    · refine lv_aload_n C.1 C.2.1 dX4_ruleAt_13 rfl (lv_at hl 0 rfl) ?_
      refine k_get C Wd KX4 0 5 rfl (by decide) fl_X4_11 rfl dX4_ruleAt_14 ?_
      refine lv_iload_n C.1 C.2.1 dX4_ruleAt_17 rfl (lv_at hl 1 rfl) ?_
      refine k_aldq (v := va_rf (g0 x0.toNatClampNeg)) C Wd 1 0 rfl rfl (vp_in_iff.mpr ⟨by have z0 := kz_nlt c3180; have z1 := kz_nle c3181; have t0 : (0 : Int32).toInt = 0 := (by decide); have t12 : (12 : Int32).toInt = 12 := (by decide); omega, by have z0 := kz_nlt c3180; have z1 := kz_nle c3181; have t0 : (0 : Int32).toInt = 0 := (by decide); have t12 : (12 : Int32).toInt = 12 := (by decide); omega⟩) rfl dX4_ruleAt_18 ?_
      refine lv_goto (tgt := 23) C.1 C.2.1 dX4_ruleAt_19 (by decide) ?_
      exact k_aretP ((g0 x0.toNatClampNeg)) rfl C hr hlk (Or.inr (Or.inr (⟨c3180, c3181, rfl⟩))) dX4_ruleAt_23
set_option maxHeartbeats 4000000 in
set_option maxRecDepth 100000 in
theorem kcX11_ruleAt (l : Launch) (D : va_G) (h0 h1 h2 h3 h4 h5 h6 h7 h18 h19 h20 h21 h22 h23 h24 h25 : Nat) (x0 : Int32) (g1 : Nat → Option Nat) (a3 : ClassId) (sz : Nat)  : Met l yX11_ruleAt (Cond.code yX11_ruleAt cX11_ruleAt 2 (some (.object "SameAfter$Rule")) :: gG) { frames := 2, cells := 0, slots := 0, locals := 85 } (cPre D [(a3, .object RX9)] [(h0, .inr (11, [.ref h1, .int 0, .ref h2, .ref h3, .ref h4, .ref h5, .ref h6, .ref h7])), (h6, .inr (4, [.ref h18, .ref h19, .ref h20, .int (-1), .int (-1), .ref h21, .ref h22, .ref h23, .ref h24, .ref h25])), (h21, .inl (a3, 12, .inr (.inr (.inr (.inr g1)))))] sz [.ref h0, .int x0]) (va_Sq (fun r => ((0 : Int32) ≤ x0 ∧ r = none) ∨ (¬ (0 : Int32) ≤ x0 ∧ x0 < (0 : Int32) ∧ r = none))) 0 0 (fun _ => False) := by
  refine Met.ofW (cc := cX11_ruleAt) (maxL := 2) (ret := (some (.object "SameAfter$Rule"))) (by decide) rfl ?_
  intro p e s m args below meth c s₁ B hml hv
  obtain ⟨rfl, aks, rfl, Wd⟩ := k_enter hv
  have C : CallFix p m c cX11_ruleAt 2 s _ gG RX11 := ⟨B.exec, B.bytes, hml, findClass_of_methodNamed B.named, fun w h => atoms_spec (ws := Cond.code yX11_ruleAt cX11_ruleAt 2 (some (.object "SameAfter$Rule")) :: gG) B.pre w (List.mem_cons_of_mem _ h)⟩
  have hr := B.returns
  have hlk := B.notSynchronized
  obtain ⟨A, Wd⟩ : ∃ A, wX D [(a3, .object RX9)] s [(h0, .inr (11, [.ref h1, .int 0, .ref h2, .ref h3, .ref h4, .ref h5, .ref h6, .ref h7])), (h6, .inr (4, [.ref h18, .ref h19, .ref h20, .int (-1), .int (-1), .ref h21, .ref h22, .ref h23, .ref h24, .ref h25])), (h21, .inl (a3, 12, .inr (.inr (.inr (.inr g1)))))] s.heap A s.heap [] := ⟨_, Wd⟩
  refine k_locals (Nat.le_of_ble_eq_true rfl) [(0, .ref h0), (1, .int x0)] rfl (fun ls hl => ?_)
  refine lv_iload_n C.1 C.2.1 dX11_ruleAt_0 rfl (lv_at hl 1 rfl) ?_
  refine lv_aload_n C.1 C.2.1 dX11_ruleAt_1 rfl (lv_at hl 0 rfl) ?_
  refine k_get C Wd KX11 0 1 rfl (by decide) fl_X11_18 rfl dX11_ruleAt_2 ?_
  refine lv_icmp_ge (tgt := 19) C.1 C.2.1 dX11_ruleAt_5 (by decide) (fun c3188 => ?_) (fun c3188 => ?_)
  · refine lv_null C.1 C.2.1 dX11_ruleAt_19 ?_
    exact k_aretP (none) rfl C hr hlk (Or.inl (⟨c3188, rfl⟩)) dX11_ruleAt_20
  · refine lv_aload_n C.1 C.2.1 dX11_ruleAt_8 rfl (lv_at hl 0 rfl) ?_
    refine k_get C Wd KX11 0 6 rfl (by decide) fl_X11_50 rfl dX11_ruleAt_9 ?_
    refine lv_iload_n C.1 C.2.1 dX11_ruleAt_12 rfl (lv_at hl 1 rfl) ?_
    refine k_pq (k_runV (rest := []) C aks Wd cs_X11_99 (kcX4_ruleAt_v1 l D h6 h18 h19 h20 h21 h22 h23 h24 h25 x0 g1 a3 _ ) [1, 2] rfl (by decide) [0] rfl 1 4 rfl rfl rfl rfl rfl ⟨(Nat.le_of_ble_eq_true rfl), (Nat.le_of_ble_eq_true rfl)⟩ hl.1 rfl rfl (Nat.le_of_ble_eq_true rfl) ⟨(Nat.le_of_ble_eq_true rfl), (Nat.le_of_ble_eq_true rfl)⟩ dX11_ruleAt_13) (fun r w3189 => ?_)
    rcases w3189 with ⟨c3190, rfl⟩ | ⟨c3191, c3192, rfl⟩ | ⟨c3193, c3194, rfl⟩
    · refine W.eq (g2 := F0 m 16 ls [.null]) rfl ?_
      refine lv_goto (tgt := 20) C.1 C.2.1 dX11_ruleAt_16 (by decide) ?_
      exact k_aretP (none) rfl C hr hlk (Or.inr (⟨c3188, c3190, rfl⟩)) dX11_ruleAt_20
    · exact False.elim (by have z0 := kz_nle c3188; have z1 := kz_nlt c3191; have t0 : (0 : Int32).toInt = 0 := (by decide); omega)
    · exact False.elim (by have z0 := kz_nle c3188; have z1 := kz_nlt c3193; have t0 : (0 : Int32).toInt = 0 := (by decide); omega)
set_option maxHeartbeats 4000000 in
set_option maxRecDepth 100000 in
theorem kcX11_ruleOf (l : Launch) (D : va_G) (h0 h1 h2 h3 h4 h5 h6 h7 h18 h19 h20 h21 h22 h23 h24 h25 : Nat) (x0 x1 : Int32) (g1 : Nat → Option Nat) (a3 : ClassId) (sz : Nat)  : Met l yX11_ruleOf (Cond.code yX11_ruleOf cX11_ruleOf 4 (some .int) :: gG) { frames := 3, cells := 0, slots := 0, locals := 106 } (cPre D [(a3, .object RX9)] [(h0, .inr (11, [.ref h1, .int 0, .ref h2, .ref h3, .ref h4, .ref h5, .ref h6, .ref h7])), (h6, .inr (4, [.ref h18, .ref h19, .ref h20, .int (-1), .int (-1), .ref h21, .ref h22, .ref h23, .ref h24, .ref h25])), (h21, .inl (a3, 12, .inr (.inr (.inr (.inr g1)))))] sz [.ref h0, .int x0, .int x1]) (vp_Si (fun r => ((0 : Int32) ≤ x0 ∧ r = (-2)) ∨ (¬ (0 : Int32) ≤ x0 ∧ x0 < (0 : Int32) ∧ r = (-2)))) 0 0 (fun _ => False) := by
  refine Met.ofW (cc := cX11_ruleOf) (maxL := 4) (ret := (some .int)) (by decide) rfl ?_
  intro p e s m args below meth c s₁ B hml hv
  obtain ⟨rfl, aks, rfl, Wd⟩ := k_enter hv
  have C : CallFix p m c cX11_ruleOf 4 s _ gG RX11 := ⟨B.exec, B.bytes, hml, findClass_of_methodNamed B.named, fun w h => atoms_spec (ws := Cond.code yX11_ruleOf cX11_ruleOf 4 (some .int) :: gG) B.pre w (List.mem_cons_of_mem _ h)⟩
  have hr := B.returns
  have hlk := B.notSynchronized
  obtain ⟨A, Wd⟩ : ∃ A, wX D [(a3, .object RX9)] s [(h0, .inr (11, [.ref h1, .int 0, .ref h2, .ref h3, .ref h4, .ref h5, .ref h6, .ref h7])), (h6, .inr (4, [.ref h18, .ref h19, .ref h20, .int (-1), .int (-1), .ref h21, .ref h22, .ref h23, .ref h24, .ref h25])), (h21, .inl (a3, 12, .inr (.inr (.inr (.inr g1)))))] s.heap A s.heap [] := ⟨_, Wd⟩
  refine k_locals (Nat.le_of_ble_eq_true rfl) [(0, .ref h0), (1, .int x0), (2, .int x1)] rfl (fun ls hl => ?_)
  refine lv_aload_n C.1 C.2.1 dX11_ruleOf_0 rfl (lv_at hl 0 rfl) ?_
  refine lv_iload_n C.1 C.2.1 dX11_ruleOf_1 rfl (lv_at hl 1 rfl) ?_
  refine k_pq (k_runV (rest := []) C aks Wd cs_X11_165 (kcX11_ruleAt l D h0 h1 h2 h3 h4 h5 h6 h7 h18 h19 h20 h21 h22 h23 h24 h25 x0 g1 a3 _ ) [0, 1, 2] rfl (by decide) [0] rfl 0 11 rfl rfl rfl rfl rfl ⟨(Nat.le_of_ble_eq_true rfl), (Nat.le_of_ble_eq_true rfl)⟩ hl.1 rfl rfl (Nat.le_of_ble_eq_true rfl) ⟨(Nat.le_of_ble_eq_true rfl), (Nat.le_of_ble_eq_true rfl)⟩ dX11_ruleOf_2) (fun r w3199 => ?_)
  rcases w3199 with ⟨c3200, rfl⟩ | ⟨c3201, c3202, rfl⟩
  · refine W.eq (g2 := F0 m 5 ls [.null]) rfl ?_
    refine lv_astore_nN (lv' := [(3, .null), (0, .ref h0), (1, .int x0), (2, .int x1)]) C.1 C.2.1 dX11_ruleOf_5 rfl hl (by decide) rfl (fun ls hl => ?_)
    refine lv_aload_nN C.1 C.2.1 dX11_ruleOf_6 rfl (lv_at hl 0 rfl) ?_
    refine lv_ifnonnullN C.1 C.2.1 dX11_ruleOf_7 ?_
    refine lv_bipush (v := (-2)) C.1 C.2.1 dX11_ruleOf_10 (by decide) ?_
    exact k_zretP C hr hlk rfl (Or.inl (⟨c3200, rfl⟩)) dX11_ruleOf_12
  · refine W.eq (g2 := F0 m 5 ls [.null]) rfl ?_
    refine lv_astore_nN (lv' := [(3, .null), (0, .ref h0), (1, .int x0), (2, .int x1)]) C.1 C.2.1 dX11_ruleOf_5 rfl hl (by decide) rfl (fun ls hl => ?_)
    refine lv_aload_nN C.1 C.2.1 dX11_ruleOf_6 rfl (lv_at hl 0 rfl) ?_
    refine lv_ifnonnullN C.1 C.2.1 dX11_ruleOf_7 ?_
    refine lv_bipush (v := (-2)) C.1 C.2.1 dX11_ruleOf_10 (by decide) ?_
    exact k_zretP C hr hlk rfl (Or.inr (⟨c3201, c3202, rfl⟩)) dX11_ruleOf_12
set_option maxHeartbeats 4000000 in
set_option maxRecDepth 100000 in
theorem kcX11_places (l : Launch) (D : va_G) (h0 h1 h2 h3 h4 h5 h6 h7 h18 h19 h20 h21 h22 h23 h24 h25 : Nat) (x0 x1 : Int32) (g0 g1 : Nat → Option Nat) (a0 a3 : ClassId) (sz : Nat)  : Met l yX11_places (Cond.code yX11_places cX11_places 5 (some .int) :: gG) { frames := 3, cells := 0, slots := 0, locals := 106 } (cPre D [(a0, .object RX8), (a3, .object RX9)] [(h0, .inr (11, [.ref h1, .int 0, .ref h2, .ref h3, .ref h4, .ref h5, .ref h6, .ref h7])), (h6, .inr (4, [.ref h18, .ref h19, .ref h20, .int (-1), .int (-1), .ref h21, .ref h22, .ref h23, .ref h24, .ref h25])), (h21, .inl (a3, 12, .inr (.inr (.inr (.inr g1))))), (h1, .inl (a0, 6, .inr (.inr (.inr (.inr g0)))))] sz [.ref h0, .int x0, .int x1]) (vp_Si (fun r => ((0 : Int32) ≤ x0 ∧ x1 < (0 : Int32) ∧ r = (-1)) ∨ ((0 : Int32) ≤ x0 ∧ ¬ x1 < (0 : Int32) ∧ (6 : Int32) ≤ x1 ∧ r = (-1)) ∨ ((0 : Int32) ≤ x0 ∧ ¬ x1 < (0 : Int32) ∧ ¬ (6 : Int32) ≤ x1 ∧ r = (-1)) ∨ ((0 : Int32) ≤ x0 ∧ ¬ x1 < (0 : Int32) ∧ ¬ (6 : Int32) ≤ x1 ∧ r = (-1)) ∨ (¬ (0 : Int32) ≤ x0 ∧ x0 < (0 : Int32) ∧ x1 < (0 : Int32) ∧ r = (-1)) ∨ (¬ (0 : Int32) ≤ x0 ∧ x0 < (0 : Int32) ∧ ¬ x1 < (0 : Int32) ∧ (6 : Int32) ≤ x1 ∧ r = (-1)) ∨ (¬ (0 : Int32) ≤ x0 ∧ x0 < (0 : Int32) ∧ ¬ x1 < (0 : Int32) ∧ ¬ (6 : Int32) ≤ x1 ∧ r = (-1)) ∨ (¬ (0 : Int32) ≤ x0 ∧ x0 < (0 : Int32) ∧ ¬ x1 < (0 : Int32) ∧ ¬ (6 : Int32) ≤ x1 ∧ r = (-1)))) 0 0 (fun _ => False) := by
  refine Met.ofW (cc := cX11_places) (maxL := 5) (ret := (some .int)) (by decide) rfl ?_
  intro p e s m args below meth c s₁ B hml hv
  obtain ⟨rfl, aks, rfl, Wd⟩ := k_enter hv
  have C : CallFix p m c cX11_places 5 s _ gG RX11 := ⟨B.exec, B.bytes, hml, findClass_of_methodNamed B.named, fun w h => atoms_spec (ws := Cond.code yX11_places cX11_places 5 (some .int) :: gG) B.pre w (List.mem_cons_of_mem _ h)⟩
  have hr := B.returns
  have hlk := B.notSynchronized
  obtain ⟨A, Wd⟩ : ∃ A, wX D [(a0, .object RX8), (a3, .object RX9)] s [(h0, .inr (11, [.ref h1, .int 0, .ref h2, .ref h3, .ref h4, .ref h5, .ref h6, .ref h7])), (h6, .inr (4, [.ref h18, .ref h19, .ref h20, .int (-1), .int (-1), .ref h21, .ref h22, .ref h23, .ref h24, .ref h25])), (h21, .inl (a3, 12, .inr (.inr (.inr (.inr g1))))), (h1, .inl (a0, 6, .inr (.inr (.inr (.inr g0)))))] s.heap A s.heap [] := ⟨_, Wd⟩
  refine k_locals (Nat.le_of_ble_eq_true rfl) [(0, .ref h0), (1, .int x0), (2, .int x1)] rfl (fun ls hl => ?_)
  refine lv_aload_n C.1 C.2.1 dX11_places_0 rfl (lv_at hl 0 rfl) ?_
  refine lv_iload_n C.1 C.2.1 dX11_places_1 rfl (lv_at hl 1 rfl) ?_
  refine k_pq (k_runV (rest := []) C aks Wd cs_X11_165 (kcX11_ruleAt l D h0 h1 h2 h3 h4 h5 h6 h7 h18 h19 h20 h21 h22 h23 h24 h25 x0 g1 a3 _ ) [0, 1, 2] rfl (by decide) [1] rfl 0 11 rfl rfl rfl rfl rfl ⟨(Nat.le_of_ble_eq_true rfl), (Nat.le_of_ble_eq_true rfl)⟩ hl.1 rfl rfl (Nat.le_of_ble_eq_true rfl) ⟨(Nat.le_of_ble_eq_true rfl), (Nat.le_of_ble_eq_true rfl)⟩ dX11_places_2) (fun r w3223 => ?_)
  rcases w3223 with ⟨c3224, rfl⟩ | ⟨c3225, c3226, rfl⟩
  · refine W.eq (g2 := F0 m 5 ls [.null]) rfl ?_
    refine lv_astore_nN (lv' := [(3, .null), (0, .ref h0), (1, .int x0), (2, .int x1)]) C.1 C.2.1 dX11_places_5 rfl hl (by decide) rfl (fun ls hl => ?_)
    refine lv_aload_n C.1 C.2.1 dX11_places_6 rfl (lv_at hl 1 rfl) ?_
    refine lv_iload_n C.1 C.2.1 dX11_places_7 rfl (lv_at hl 3 rfl) ?_
    refine k_pq (k_runV (rest := []) C aks Wd cs_X11_77 (kcX11_slotAt l D h0 h1 h2 h3 h4 h5 h6 h7 x1 g0 a0 _ ) [0, 3] rfl (by decide) [0] rfl 0 11 rfl rfl rfl rfl rfl ⟨(Nat.le_of_ble_eq_true rfl), (Nat.le_of_ble_eq_true rfl)⟩ hl.1 rfl rfl (Nat.le_of_ble_eq_true rfl) ⟨(Nat.le_of_ble_eq_true rfl), (Nat.le_of_ble_eq_true rfl)⟩ dX11_places_8) (fun r w3227 => ?_)
    rcases w3227 with ⟨c3228, rfl⟩ | ⟨c3229, c3230, rfl⟩ | ⟨c3231, c3232, rfl⟩
    · refine W.eq (g2 := F0 m 11 ls [.null]) rfl ?_
      refine lv_astoreN (lv' := [(4, .null), (3, .null), (0, .ref h0), (1, .int x0), (2, .int x1)]) C.1 C.2.1 dX11_places_11 hl (by decide) rfl (fun ls hl => ?_)
      refine lv_aload_nN C.1 C.2.1 dX11_places_13 rfl (lv_at hl 1 rfl) ?_
      refine lv_ifnullN (tgt := 22) C.1 C.2.1 dX11_places_14 (by decide) ?_
      refine lv_iconst (v := (-1)) C.1 C.2.1 dX11_places_22 (by decide) ?_
      refine lv_goto (tgt := 32) C.1 C.2.1 dX11_places_23 (by decide) ?_
      exact k_zretP C hr hlk rfl (Or.inl (⟨c3224, c3228, rfl⟩)) dX11_places_32
    · refine W.eq (g2 := F0 m 11 ls [.null]) rfl ?_
      refine lv_astoreN (lv' := [(4, .null), (3, .null), (0, .ref h0), (1, .int x0), (2, .int x1)]) C.1 C.2.1 dX11_places_11 hl (by decide) rfl (fun ls hl => ?_)
      refine lv_aload_nN C.1 C.2.1 dX11_places_13 rfl (lv_at hl 1 rfl) ?_
      refine lv_ifnullN (tgt := 22) C.1 C.2.1 dX11_places_14 (by decide) ?_
      refine lv_iconst (v := (-1)) C.1 C.2.1 dX11_places_22 (by decide) ?_
      refine lv_goto (tgt := 32) C.1 C.2.1 dX11_places_23 (by decide) ?_
      exact k_zretP C hr hlk rfl (Or.inr (Or.inl (⟨c3224, c3229, c3230, rfl⟩))) dX11_places_32
    · cases hq3233 : (g0 x1.toNatClampNeg) with
      | none =>
        refine W.eq (g2 := F0 m 11 ls [.null]) rfl ?_
        refine lv_astoreN (lv' := [(4, .null), (3, .null), (0, .ref h0), (1, .int x0), (2, .int x1)]) C.1 C.2.1 dX11_places_11 hl (by decide) rfl (fun ls hl => ?_)
        refine lv_aload_nN C.1 C.2.1 dX11_places_13 rfl (lv_at hl 1 rfl) ?_
        refine lv_ifnullN (tgt := 22) C.1 C.2.1 dX11_places_14 (by decide) ?_
        refine lv_iconst (v := (-1)) C.1 C.2.1 dX11_places_22 (by decide) ?_
        refine lv_goto (tgt := 32) C.1 C.2.1 dX11_places_23 (by decide) ?_
        exact k_zretP C hr hlk rfl (Or.inr (Or.inr (Or.inl (⟨c3224, c3231, c3232, rfl⟩)))) dX11_places_32
      | some q3234 =>
        refine W.eq (g2 := F0 m 11 ls [.ref q3234]) rfl ?_
        refine lv_astore (lv' := [(4, .ref q3234), (3, .null), (0, .ref h0), (1, .int x0), (2, .int x1)]) C.1 C.2.1 dX11_places_11 hl (by decide) rfl (fun ls hl => ?_)
        refine lv_aload_nN C.1 C.2.1 dX11_places_13 rfl (lv_at hl 1 rfl) ?_
        refine lv_ifnullN (tgt := 22) C.1 C.2.1 dX11_places_14 (by decide) ?_
        refine lv_iconst (v := (-1)) C.1 C.2.1 dX11_places_22 (by decide) ?_
        refine lv_goto (tgt := 32) C.1 C.2.1 dX11_places_23 (by decide) ?_
        exact k_zretP C hr hlk rfl (Or.inr (Or.inr (Or.inr (Or.inl (⟨c3224, c3231, c3232, rfl⟩))))) dX11_places_32
  · refine W.eq (g2 := F0 m 5 ls [.null]) rfl ?_
    refine lv_astore_nN (lv' := [(3, .null), (0, .ref h0), (1, .int x0), (2, .int x1)]) C.1 C.2.1 dX11_places_5 rfl hl (by decide) rfl (fun ls hl => ?_)
    refine lv_aload_n C.1 C.2.1 dX11_places_6 rfl (lv_at hl 1 rfl) ?_
    refine lv_iload_n C.1 C.2.1 dX11_places_7 rfl (lv_at hl 3 rfl) ?_
    refine k_pq (k_runV (rest := []) C aks Wd cs_X11_77 (kcX11_slotAt l D h0 h1 h2 h3 h4 h5 h6 h7 x1 g0 a0 _ ) [0, 3] rfl (by decide) [0] rfl 0 11 rfl rfl rfl rfl rfl ⟨(Nat.le_of_ble_eq_true rfl), (Nat.le_of_ble_eq_true rfl)⟩ hl.1 rfl rfl (Nat.le_of_ble_eq_true rfl) ⟨(Nat.le_of_ble_eq_true rfl), (Nat.le_of_ble_eq_true rfl)⟩ dX11_places_8) (fun r w3235 => ?_)
    rcases w3235 with ⟨c3236, rfl⟩ | ⟨c3237, c3238, rfl⟩ | ⟨c3239, c3240, rfl⟩
    · refine W.eq (g2 := F0 m 11 ls [.null]) rfl ?_
      refine lv_astoreN (lv' := [(4, .null), (3, .null), (0, .ref h0), (1, .int x0), (2, .int x1)]) C.1 C.2.1 dX11_places_11 hl (by decide) rfl (fun ls hl => ?_)
      refine lv_aload_nN C.1 C.2.1 dX11_places_13 rfl (lv_at hl 1 rfl) ?_
      refine lv_ifnullN (tgt := 22) C.1 C.2.1 dX11_places_14 (by decide) ?_
      refine lv_iconst (v := (-1)) C.1 C.2.1 dX11_places_22 (by decide) ?_
      refine lv_goto (tgt := 32) C.1 C.2.1 dX11_places_23 (by decide) ?_
      exact k_zretP C hr hlk rfl (Or.inr (Or.inr (Or.inr (Or.inr (Or.inl (⟨c3225, c3226, c3236, rfl⟩)))))) dX11_places_32
    · refine W.eq (g2 := F0 m 11 ls [.null]) rfl ?_
      refine lv_astoreN (lv' := [(4, .null), (3, .null), (0, .ref h0), (1, .int x0), (2, .int x1)]) C.1 C.2.1 dX11_places_11 hl (by decide) rfl (fun ls hl => ?_)
      refine lv_aload_nN C.1 C.2.1 dX11_places_13 rfl (lv_at hl 1 rfl) ?_
      refine lv_ifnullN (tgt := 22) C.1 C.2.1 dX11_places_14 (by decide) ?_
      refine lv_iconst (v := (-1)) C.1 C.2.1 dX11_places_22 (by decide) ?_
      refine lv_goto (tgt := 32) C.1 C.2.1 dX11_places_23 (by decide) ?_
      exact k_zretP C hr hlk rfl (Or.inr (Or.inr (Or.inr (Or.inr (Or.inr (Or.inl (⟨c3225, c3226, c3237, c3238, rfl⟩))))))) dX11_places_32
    · cases hq3241 : (g0 x1.toNatClampNeg) with
      | none =>
        refine W.eq (g2 := F0 m 11 ls [.null]) rfl ?_
        refine lv_astoreN (lv' := [(4, .null), (3, .null), (0, .ref h0), (1, .int x0), (2, .int x1)]) C.1 C.2.1 dX11_places_11 hl (by decide) rfl (fun ls hl => ?_)
        refine lv_aload_nN C.1 C.2.1 dX11_places_13 rfl (lv_at hl 1 rfl) ?_
        refine lv_ifnullN (tgt := 22) C.1 C.2.1 dX11_places_14 (by decide) ?_
        refine lv_iconst (v := (-1)) C.1 C.2.1 dX11_places_22 (by decide) ?_
        refine lv_goto (tgt := 32) C.1 C.2.1 dX11_places_23 (by decide) ?_
        exact k_zretP C hr hlk rfl (Or.inr (Or.inr (Or.inr (Or.inr (Or.inr (Or.inr (Or.inl (⟨c3225, c3226, c3239, c3240, rfl⟩)))))))) dX11_places_32
      | some q3242 =>
        refine W.eq (g2 := F0 m 11 ls [.ref q3242]) rfl ?_
        refine lv_astore (lv' := [(4, .ref q3242), (3, .null), (0, .ref h0), (1, .int x0), (2, .int x1)]) C.1 C.2.1 dX11_places_11 hl (by decide) rfl (fun ls hl => ?_)
        refine lv_aload_nN C.1 C.2.1 dX11_places_13 rfl (lv_at hl 1 rfl) ?_
        refine lv_ifnullN (tgt := 22) C.1 C.2.1 dX11_places_14 (by decide) ?_
        refine lv_iconst (v := (-1)) C.1 C.2.1 dX11_places_22 (by decide) ?_
        refine lv_goto (tgt := 32) C.1 C.2.1 dX11_places_23 (by decide) ?_
        exact k_zretP C hr hlk rfl (Or.inr (Or.inr (Or.inr (Or.inr (Or.inr (Or.inr (Or.inr (⟨c3225, c3226, c3239, c3240, rfl⟩)))))))) dX11_places_32
set_option maxHeartbeats 4000000 in
set_option maxRecDepth 100000 in
theorem kcX11_apply (l : Launch) (D : va_G) (h0 h1 h2 h3 h4 h5 h6 h7 h18 h19 h20 h21 h22 h23 h24 h25 : Nat) (x0 x1 x2 x3 : Int32) (g0 g1 : Nat → Option Nat) (a0 a3 : ClassId) (sz : Nat)  : Met l yX11_apply (Cond.code yX11_apply cX11_apply 9 (some .boolean) :: gG) { frames := 3, cells := 0, slots := 0, locals := 106 } (cPre D [(a0, .object RX8), (a3, .object RX9)] [(h0, .inr (11, [.ref h1, .int 0, .ref h2, .ref h3, .ref h4, .ref h5, .ref h6, .ref h7])), (h6, .inr (4, [.ref h18, .ref h19, .ref h20, .int (-1), .int (-1), .ref h21, .ref h22, .ref h23, .ref h24, .ref h25])), (h21, .inl (a3, 12, .inr (.inr (.inr (.inr g1))))), (h1, .inl (a0, 6, .inr (.inr (.inr (.inr g0)))))] sz [.ref h0, .int x0, .int x1, .int x2, .int x3]) (vp_Si (fun r => ((0 : Int32) ≤ x0 ∧ x1 < (0 : Int32) ∧ x3 < (0 : Int32) ∧ r = 0) ∨ ((0 : Int32) ≤ x0 ∧ x1 < (0 : Int32) ∧ ¬ x3 < (0 : Int32) ∧ (6 : Int32) ≤ x3 ∧ r = 0) ∨ ((0 : Int32) ≤ x0 ∧ x1 < (0 : Int32) ∧ ¬ x3 < (0 : Int32) ∧ ¬ (6 : Int32) ≤ x3 ∧ r = 0) ∨ ((0 : Int32) ≤ x0 ∧ x1 < (0 : Int32) ∧ ¬ x3 < (0 : Int32) ∧ ¬ (6 : Int32) ≤ x3 ∧ r = 0) ∨ ((0 : Int32) ≤ x0 ∧ ¬ x1 < (0 : Int32) ∧ (6 : Int32) ≤ x1 ∧ x3 < (0 : Int32) ∧ r = 0) ∨ ((0 : Int32) ≤ x0 ∧ ¬ x1 < (0 : Int32) ∧ (6 : Int32) ≤ x1 ∧ ¬ x3 < (0 : Int32) ∧ (6 : Int32) ≤ x3 ∧ r = 0) ∨ ((0 : Int32) ≤ x0 ∧ ¬ x1 < (0 : Int32) ∧ (6 : Int32) ≤ x1 ∧ ¬ x3 < (0 : Int32) ∧ ¬ (6 : Int32) ≤ x3 ∧ r = 0) ∨ ((0 : Int32) ≤ x0 ∧ ¬ x1 < (0 : Int32) ∧ (6 : Int32) ≤ x1 ∧ ¬ x3 < (0 : Int32) ∧ ¬ (6 : Int32) ≤ x3 ∧ r = 0) ∨ ((0 : Int32) ≤ x0 ∧ ¬ x1 < (0 : Int32) ∧ ¬ (6 : Int32) ≤ x1 ∧ x3 < (0 : Int32) ∧ r = 0) ∨ ((0 : Int32) ≤ x0 ∧ ¬ x1 < (0 : Int32) ∧ ¬ (6 : Int32) ≤ x1 ∧ ¬ x3 < (0 : Int32) ∧ (6 : Int32) ≤ x3 ∧ r = 0) ∨ ((0 : Int32) ≤ x0 ∧ ¬ x1 < (0 : Int32) ∧ ¬ (6 : Int32) ≤ x1 ∧ ¬ x3 < (0 : Int32) ∧ ¬ (6 : Int32) ≤ x3 ∧ r = 0) ∨ ((0 : Int32) ≤ x0 ∧ ¬ x1 < (0 : Int32) ∧ ¬ (6 : Int32) ≤ x1 ∧ ¬ x3 < (0 : Int32) ∧ ¬ (6 : Int32) ≤ x3 ∧ r = 0) ∨ ((0 : Int32) ≤ x0 ∧ ¬ x1 < (0 : Int32) ∧ ¬ (6 : Int32) ≤ x1 ∧ x3 < (0 : Int32) ∧ r = 0) ∨ ((0 : Int32) ≤ x0 ∧ ¬ x1 < (0 : Int32) ∧ ¬ (6 : Int32) ≤ x1 ∧ ¬ x3 < (0 : Int32) ∧ (6 : Int32) ≤ x3 ∧ r = 0) ∨ ((0 : Int32) ≤ x0 ∧ ¬ x1 < (0 : Int32) ∧ ¬ (6 : Int32) ≤ x1 ∧ ¬ x3 < (0 : Int32) ∧ ¬ (6 : Int32) ≤ x3 ∧ r = 0) ∨ ((0 : Int32) ≤ x0 ∧ ¬ x1 < (0 : Int32) ∧ ¬ (6 : Int32) ≤ x1 ∧ ¬ x3 < (0 : Int32) ∧ ¬ (6 : Int32) ≤ x3 ∧ r = 0) ∨ (¬ (0 : Int32) ≤ x0 ∧ x0 < (0 : Int32) ∧ x1 < (0 : Int32) ∧ x3 < (0 : Int32) ∧ r = 0) ∨ (¬ (0 : Int32) ≤ x0 ∧ x0 < (0 : Int32) ∧ x1 < (0 : Int32) ∧ ¬ x3 < (0 : Int32) ∧ (6 : Int32) ≤ x3 ∧ r = 0) ∨ (¬ (0 : Int32) ≤ x0 ∧ x0 < (0 : Int32) ∧ x1 < (0 : Int32) ∧ ¬ x3 < (0 : Int32) ∧ ¬ (6 : Int32) ≤ x3 ∧ r = 0) ∨ (¬ (0 : Int32) ≤ x0 ∧ x0 < (0 : Int32) ∧ x1 < (0 : Int32) ∧ ¬ x3 < (0 : Int32) ∧ ¬ (6 : Int32) ≤ x3 ∧ r = 0) ∨ (¬ (0 : Int32) ≤ x0 ∧ x0 < (0 : Int32) ∧ ¬ x1 < (0 : Int32) ∧ (6 : Int32) ≤ x1 ∧ x3 < (0 : Int32) ∧ r = 0) ∨ (¬ (0 : Int32) ≤ x0 ∧ x0 < (0 : Int32) ∧ ¬ x1 < (0 : Int32) ∧ (6 : Int32) ≤ x1 ∧ ¬ x3 < (0 : Int32) ∧ (6 : Int32) ≤ x3 ∧ r = 0) ∨ (¬ (0 : Int32) ≤ x0 ∧ x0 < (0 : Int32) ∧ ¬ x1 < (0 : Int32) ∧ (6 : Int32) ≤ x1 ∧ ¬ x3 < (0 : Int32) ∧ ¬ (6 : Int32) ≤ x3 ∧ r = 0) ∨ (¬ (0 : Int32) ≤ x0 ∧ x0 < (0 : Int32) ∧ ¬ x1 < (0 : Int32) ∧ (6 : Int32) ≤ x1 ∧ ¬ x3 < (0 : Int32) ∧ ¬ (6 : Int32) ≤ x3 ∧ r = 0) ∨ (¬ (0 : Int32) ≤ x0 ∧ x0 < (0 : Int32) ∧ ¬ x1 < (0 : Int32) ∧ ¬ (6 : Int32) ≤ x1 ∧ x3 < (0 : Int32) ∧ r = 0) ∨ (¬ (0 : Int32) ≤ x0 ∧ x0 < (0 : Int32) ∧ ¬ x1 < (0 : Int32) ∧ ¬ (6 : Int32) ≤ x1 ∧ ¬ x3 < (0 : Int32) ∧ (6 : Int32) ≤ x3 ∧ r = 0) ∨ (¬ (0 : Int32) ≤ x0 ∧ x0 < (0 : Int32) ∧ ¬ x1 < (0 : Int32) ∧ ¬ (6 : Int32) ≤ x1 ∧ ¬ x3 < (0 : Int32) ∧ ¬ (6 : Int32) ≤ x3 ∧ r = 0) ∨ (¬ (0 : Int32) ≤ x0 ∧ x0 < (0 : Int32) ∧ ¬ x1 < (0 : Int32) ∧ ¬ (6 : Int32) ≤ x1 ∧ ¬ x3 < (0 : Int32) ∧ ¬ (6 : Int32) ≤ x3 ∧ r = 0) ∨ (¬ (0 : Int32) ≤ x0 ∧ x0 < (0 : Int32) ∧ ¬ x1 < (0 : Int32) ∧ ¬ (6 : Int32) ≤ x1 ∧ x3 < (0 : Int32) ∧ r = 0) ∨ (¬ (0 : Int32) ≤ x0 ∧ x0 < (0 : Int32) ∧ ¬ x1 < (0 : Int32) ∧ ¬ (6 : Int32) ≤ x1 ∧ ¬ x3 < (0 : Int32) ∧ (6 : Int32) ≤ x3 ∧ r = 0) ∨ (¬ (0 : Int32) ≤ x0 ∧ x0 < (0 : Int32) ∧ ¬ x1 < (0 : Int32) ∧ ¬ (6 : Int32) ≤ x1 ∧ ¬ x3 < (0 : Int32) ∧ ¬ (6 : Int32) ≤ x3 ∧ r = 0) ∨ (¬ (0 : Int32) ≤ x0 ∧ x0 < (0 : Int32) ∧ ¬ x1 < (0 : Int32) ∧ ¬ (6 : Int32) ≤ x1 ∧ ¬ x3 < (0 : Int32) ∧ ¬ (6 : Int32) ≤ x3 ∧ r = 0))) 0 0 (fun _ => False) := by
  refine Met.ofW (cc := cX11_apply) (maxL := 9) (ret := (some .boolean)) (by decide) rfl ?_
  intro p e s m args below meth c s₁ B hml hv
  obtain ⟨rfl, aks, rfl, Wd⟩ := k_enter hv
  have C : CallFix p m c cX11_apply 9 s _ gG RX11 := ⟨B.exec, B.bytes, hml, findClass_of_methodNamed B.named, fun w h => atoms_spec (ws := Cond.code yX11_apply cX11_apply 9 (some .boolean) :: gG) B.pre w (List.mem_cons_of_mem _ h)⟩
  have hr := B.returns
  have hlk := B.notSynchronized
  obtain ⟨A, Wd⟩ : ∃ A, wX D [(a0, .object RX8), (a3, .object RX9)] s [(h0, .inr (11, [.ref h1, .int 0, .ref h2, .ref h3, .ref h4, .ref h5, .ref h6, .ref h7])), (h6, .inr (4, [.ref h18, .ref h19, .ref h20, .int (-1), .int (-1), .ref h21, .ref h22, .ref h23, .ref h24, .ref h25])), (h21, .inl (a3, 12, .inr (.inr (.inr (.inr g1))))), (h1, .inl (a0, 6, .inr (.inr (.inr (.inr g0)))))] s.heap A s.heap [] := ⟨_, Wd⟩
  refine k_locals (Nat.le_of_ble_eq_true rfl) [(0, .ref h0), (1, .int x0), (2, .int x1), (3, .int x2), (4, .int x3)] rfl (fun ls hl => ?_)
  refine lv_aload_n C.1 C.2.1 dX11_apply_0 rfl (lv_at hl 0 rfl) ?_
  refine lv_iload_n C.1 C.2.1 dX11_apply_1 rfl (lv_at hl 1 rfl) ?_
  refine k_pq (k_runV (rest := []) C aks Wd cs_X11_165 (kcX11_ruleAt l D h0 h1 h2 h3 h4 h5 h6 h7 h18 h19 h20 h21 h22 h23 h24 h25 x0 g1 a3 _ ) [0, 1, 2] rfl (by decide) [1] rfl 0 11 rfl rfl rfl rfl rfl ⟨(Nat.le_of_ble_eq_true rfl), (Nat.le_of_ble_eq_true rfl)⟩ hl.1 rfl rfl (Nat.le_of_ble_eq_true rfl) ⟨(Nat.le_of_ble_eq_true rfl), (Nat.le_of_ble_eq_true rfl)⟩ dX11_apply_2) (fun r w3327 => ?_)
  rcases w3327 with ⟨c3328, rfl⟩ | ⟨c3329, c3330, rfl⟩
  · refine W.eq (g2 := F0 m 5 ls [.null]) rfl ?_
    refine lv_astoreN (lv' := [(5, .null), (0, .ref h0), (1, .int x0), (2, .int x1), (3, .int x2), (4, .int x3)]) C.1 C.2.1 dX11_apply_5 hl (by decide) rfl (fun ls hl => ?_)
    refine lv_aload_n C.1 C.2.1 dX11_apply_7 rfl (lv_at hl 1 rfl) ?_
    refine lv_iload_n C.1 C.2.1 dX11_apply_8 rfl (lv_at hl 3 rfl) ?_
    refine k_pq (k_runV (rest := []) C aks Wd cs_X11_77 (kcX11_slotAt l D h0 h1 h2 h3 h4 h5 h6 h7 x1 g0 a0 _ ) [0, 3] rfl (by decide) [0] rfl 0 11 rfl rfl rfl rfl rfl ⟨(Nat.le_of_ble_eq_true rfl), (Nat.le_of_ble_eq_true rfl)⟩ hl.1 rfl rfl (Nat.le_of_ble_eq_true rfl) ⟨(Nat.le_of_ble_eq_true rfl), (Nat.le_of_ble_eq_true rfl)⟩ dX11_apply_9) (fun r w3331 => ?_)
    rcases w3331 with ⟨c3332, rfl⟩ | ⟨c3333, c3334, rfl⟩ | ⟨c3335, c3336, rfl⟩
    · refine W.eq (g2 := F0 m 12 ls [.null]) rfl ?_
      refine lv_astoreN (lv' := [(6, .null), (5, .null), (0, .ref h0), (1, .int x0), (2, .int x1), (3, .int x2), (4, .int x3)]) C.1 C.2.1 dX11_apply_12 hl (by decide) rfl (fun ls hl => ?_)
      refine lv_aload_n C.1 C.2.1 dX11_apply_14 rfl (lv_at hl 2 rfl) ?_
      refine lv_iload C.1 C.2.1 dX11_apply_15 (lv_at hl 6 rfl) ?_
      refine k_pq (k_runV (rest := []) C aks Wd cs_X11_77 (kcX11_slotAt l D h0 h1 h2 h3 h4 h5 h6 h7 x3 g0 a0 _ ) [0, 3] rfl (by decide) [0] rfl 0 11 rfl rfl rfl rfl rfl ⟨(Nat.le_of_ble_eq_true rfl), (Nat.le_of_ble_eq_true rfl)⟩ hl.1 rfl rfl (Nat.le_of_ble_eq_true rfl) ⟨(Nat.le_of_ble_eq_true rfl), (Nat.le_of_ble_eq_true rfl)⟩ dX11_apply_17) (fun r w3337 => ?_)
      rcases w3337 with ⟨c3338, rfl⟩ | ⟨c3339, c3340, rfl⟩ | ⟨c3341, c3342, rfl⟩
      · refine W.eq (g2 := F0 m 20 ls [.null]) rfl ?_
        refine lv_astoreN (lv' := [(7, .null), (6, .null), (5, .null), (0, .ref h0), (1, .int x0), (2, .int x1), (3, .int x2), (4, .int x3)]) C.1 C.2.1 dX11_apply_20 hl (by decide) rfl (fun ls hl => ?_)
        refine lv_aloadN C.1 C.2.1 dX11_apply_22 (lv_at hl 2 rfl) ?_
        refine lv_ifnullN (tgt := 37) C.1 C.2.1 dX11_apply_24 (by decide) ?_
        refine lv_iconst (v := 0) C.1 C.2.1 dX11_apply_37 (by decide) ?_
        exact k_zretP C hr hlk rfl (Or.inl (⟨c3328, c3332, c3338, rfl⟩)) dX11_apply_38
      · refine W.eq (g2 := F0 m 20 ls [.null]) rfl ?_
        refine lv_astoreN (lv' := [(7, .null), (6, .null), (5, .null), (0, .ref h0), (1, .int x0), (2, .int x1), (3, .int x2), (4, .int x3)]) C.1 C.2.1 dX11_apply_20 hl (by decide) rfl (fun ls hl => ?_)
        refine lv_aloadN C.1 C.2.1 dX11_apply_22 (lv_at hl 2 rfl) ?_
        refine lv_ifnullN (tgt := 37) C.1 C.2.1 dX11_apply_24 (by decide) ?_
        refine lv_iconst (v := 0) C.1 C.2.1 dX11_apply_37 (by decide) ?_
        exact k_zretP C hr hlk rfl (Or.inr (Or.inl (⟨c3328, c3332, c3339, c3340, rfl⟩))) dX11_apply_38
      · cases hq3343 : (g0 x3.toNatClampNeg) with
        | none =>
          refine W.eq (g2 := F0 m 20 ls [.null]) rfl ?_
          refine lv_astoreN (lv' := [(7, .null), (6, .null), (5, .null), (0, .ref h0), (1, .int x0), (2, .int x1), (3, .int x2), (4, .int x3)]) C.1 C.2.1 dX11_apply_20 hl (by decide) rfl (fun ls hl => ?_)
          refine lv_aloadN C.1 C.2.1 dX11_apply_22 (lv_at hl 2 rfl) ?_
          refine lv_ifnullN (tgt := 37) C.1 C.2.1 dX11_apply_24 (by decide) ?_
          refine lv_iconst (v := 0) C.1 C.2.1 dX11_apply_37 (by decide) ?_
          exact k_zretP C hr hlk rfl (Or.inr (Or.inr (Or.inl (⟨c3328, c3332, c3341, c3342, rfl⟩)))) dX11_apply_38
        | some q3344 =>
          refine W.eq (g2 := F0 m 20 ls [.ref q3344]) rfl ?_
          refine lv_astore (lv' := [(7, .ref q3344), (6, .null), (5, .null), (0, .ref h0), (1, .int x0), (2, .int x1), (3, .int x2), (4, .int x3)]) C.1 C.2.1 dX11_apply_20 hl (by decide) rfl (fun ls hl => ?_)
          refine lv_aloadN C.1 C.2.1 dX11_apply_22 (lv_at hl 2 rfl) ?_
          refine lv_ifnullN (tgt := 37) C.1 C.2.1 dX11_apply_24 (by decide) ?_
          refine lv_iconst (v := 0) C.1 C.2.1 dX11_apply_37 (by decide) ?_
          exact k_zretP C hr hlk rfl (Or.inr (Or.inr (Or.inr (Or.inl (⟨c3328, c3332, c3341, c3342, rfl⟩))))) dX11_apply_38
    · refine W.eq (g2 := F0 m 12 ls [.null]) rfl ?_
      refine lv_astoreN (lv' := [(6, .null), (5, .null), (0, .ref h0), (1, .int x0), (2, .int x1), (3, .int x2), (4, .int x3)]) C.1 C.2.1 dX11_apply_12 hl (by decide) rfl (fun ls hl => ?_)
      refine lv_aload_n C.1 C.2.1 dX11_apply_14 rfl (lv_at hl 2 rfl) ?_
      refine lv_iload C.1 C.2.1 dX11_apply_15 (lv_at hl 6 rfl) ?_
      refine k_pq (k_runV (rest := []) C aks Wd cs_X11_77 (kcX11_slotAt l D h0 h1 h2 h3 h4 h5 h6 h7 x3 g0 a0 _ ) [0, 3] rfl (by decide) [0] rfl 0 11 rfl rfl rfl rfl rfl ⟨(Nat.le_of_ble_eq_true rfl), (Nat.le_of_ble_eq_true rfl)⟩ hl.1 rfl rfl (Nat.le_of_ble_eq_true rfl) ⟨(Nat.le_of_ble_eq_true rfl), (Nat.le_of_ble_eq_true rfl)⟩ dX11_apply_17) (fun r w3345 => ?_)
      rcases w3345 with ⟨c3346, rfl⟩ | ⟨c3347, c3348, rfl⟩ | ⟨c3349, c3350, rfl⟩
      · refine W.eq (g2 := F0 m 20 ls [.null]) rfl ?_
        refine lv_astoreN (lv' := [(7, .null), (6, .null), (5, .null), (0, .ref h0), (1, .int x0), (2, .int x1), (3, .int x2), (4, .int x3)]) C.1 C.2.1 dX11_apply_20 hl (by decide) rfl (fun ls hl => ?_)
        refine lv_aloadN C.1 C.2.1 dX11_apply_22 (lv_at hl 2 rfl) ?_
        refine lv_ifnullN (tgt := 37) C.1 C.2.1 dX11_apply_24 (by decide) ?_
        refine lv_iconst (v := 0) C.1 C.2.1 dX11_apply_37 (by decide) ?_
        exact k_zretP C hr hlk rfl (Or.inr (Or.inr (Or.inr (Or.inr (Or.inl (⟨c3328, c3333, c3334, c3346, rfl⟩)))))) dX11_apply_38
      · refine W.eq (g2 := F0 m 20 ls [.null]) rfl ?_
        refine lv_astoreN (lv' := [(7, .null), (6, .null), (5, .null), (0, .ref h0), (1, .int x0), (2, .int x1), (3, .int x2), (4, .int x3)]) C.1 C.2.1 dX11_apply_20 hl (by decide) rfl (fun ls hl => ?_)
        refine lv_aloadN C.1 C.2.1 dX11_apply_22 (lv_at hl 2 rfl) ?_
        refine lv_ifnullN (tgt := 37) C.1 C.2.1 dX11_apply_24 (by decide) ?_
        refine lv_iconst (v := 0) C.1 C.2.1 dX11_apply_37 (by decide) ?_
        exact k_zretP C hr hlk rfl (Or.inr (Or.inr (Or.inr (Or.inr (Or.inr (Or.inl (⟨c3328, c3333, c3334, c3347, c3348, rfl⟩))))))) dX11_apply_38
      · cases hq3351 : (g0 x3.toNatClampNeg) with
        | none =>
          refine W.eq (g2 := F0 m 20 ls [.null]) rfl ?_
          refine lv_astoreN (lv' := [(7, .null), (6, .null), (5, .null), (0, .ref h0), (1, .int x0), (2, .int x1), (3, .int x2), (4, .int x3)]) C.1 C.2.1 dX11_apply_20 hl (by decide) rfl (fun ls hl => ?_)
          refine lv_aloadN C.1 C.2.1 dX11_apply_22 (lv_at hl 2 rfl) ?_
          refine lv_ifnullN (tgt := 37) C.1 C.2.1 dX11_apply_24 (by decide) ?_
          refine lv_iconst (v := 0) C.1 C.2.1 dX11_apply_37 (by decide) ?_
          exact k_zretP C hr hlk rfl (Or.inr (Or.inr (Or.inr (Or.inr (Or.inr (Or.inr (Or.inl (⟨c3328, c3333, c3334, c3349, c3350, rfl⟩)))))))) dX11_apply_38
        | some q3352 =>
          refine W.eq (g2 := F0 m 20 ls [.ref q3352]) rfl ?_
          refine lv_astore (lv' := [(7, .ref q3352), (6, .null), (5, .null), (0, .ref h0), (1, .int x0), (2, .int x1), (3, .int x2), (4, .int x3)]) C.1 C.2.1 dX11_apply_20 hl (by decide) rfl (fun ls hl => ?_)
          refine lv_aloadN C.1 C.2.1 dX11_apply_22 (lv_at hl 2 rfl) ?_
          refine lv_ifnullN (tgt := 37) C.1 C.2.1 dX11_apply_24 (by decide) ?_
          refine lv_iconst (v := 0) C.1 C.2.1 dX11_apply_37 (by decide) ?_
          exact k_zretP C hr hlk rfl (Or.inr (Or.inr (Or.inr (Or.inr (Or.inr (Or.inr (Or.inr (Or.inl (⟨c3328, c3333, c3334, c3349, c3350, rfl⟩))))))))) dX11_apply_38
    · cases hq3353 : (g0 x1.toNatClampNeg) with
      | none =>
        refine W.eq (g2 := F0 m 12 ls [.null]) rfl ?_
        refine lv_astoreN (lv' := [(6, .null), (5, .null), (0, .ref h0), (1, .int x0), (2, .int x1), (3, .int x2), (4, .int x3)]) C.1 C.2.1 dX11_apply_12 hl (by decide) rfl (fun ls hl => ?_)
        refine lv_aload_n C.1 C.2.1 dX11_apply_14 rfl (lv_at hl 2 rfl) ?_
        refine lv_iload C.1 C.2.1 dX11_apply_15 (lv_at hl 6 rfl) ?_
        refine k_pq (k_runV (rest := []) C aks Wd cs_X11_77 (kcX11_slotAt l D h0 h1 h2 h3 h4 h5 h6 h7 x3 g0 a0 _ ) [0, 3] rfl (by decide) [0] rfl 0 11 rfl rfl rfl rfl rfl ⟨(Nat.le_of_ble_eq_true rfl), (Nat.le_of_ble_eq_true rfl)⟩ hl.1 rfl rfl (Nat.le_of_ble_eq_true rfl) ⟨(Nat.le_of_ble_eq_true rfl), (Nat.le_of_ble_eq_true rfl)⟩ dX11_apply_17) (fun r w3355 => ?_)
        rcases w3355 with ⟨c3356, rfl⟩ | ⟨c3357, c3358, rfl⟩ | ⟨c3359, c3360, rfl⟩
        · refine W.eq (g2 := F0 m 20 ls [.null]) rfl ?_
          refine lv_astoreN (lv' := [(7, .null), (6, .null), (5, .null), (0, .ref h0), (1, .int x0), (2, .int x1), (3, .int x2), (4, .int x3)]) C.1 C.2.1 dX11_apply_20 hl (by decide) rfl (fun ls hl => ?_)
          refine lv_aloadN C.1 C.2.1 dX11_apply_22 (lv_at hl 2 rfl) ?_
          refine lv_ifnullN (tgt := 37) C.1 C.2.1 dX11_apply_24 (by decide) ?_
          refine lv_iconst (v := 0) C.1 C.2.1 dX11_apply_37 (by decide) ?_
          exact k_zretP C hr hlk rfl (Or.inr (Or.inr (Or.inr (Or.inr (Or.inr (Or.inr (Or.inr (Or.inr (Or.inl (⟨c3328, c3335, c3336, c3356, rfl⟩)))))))))) dX11_apply_38
        · refine W.eq (g2 := F0 m 20 ls [.null]) rfl ?_
          refine lv_astoreN (lv' := [(7, .null), (6, .null), (5, .null), (0, .ref h0), (1, .int x0), (2, .int x1), (3, .int x2), (4, .int x3)]) C.1 C.2.1 dX11_apply_20 hl (by decide) rfl (fun ls hl => ?_)
          refine lv_aloadN C.1 C.2.1 dX11_apply_22 (lv_at hl 2 rfl) ?_
          refine lv_ifnullN (tgt := 37) C.1 C.2.1 dX11_apply_24 (by decide) ?_
          refine lv_iconst (v := 0) C.1 C.2.1 dX11_apply_37 (by decide) ?_
          exact k_zretP C hr hlk rfl (Or.inr (Or.inr (Or.inr (Or.inr (Or.inr (Or.inr (Or.inr (Or.inr (Or.inr (Or.inl (⟨c3328, c3335, c3336, c3357, c3358, rfl⟩))))))))))) dX11_apply_38
        · cases hq3361 : (g0 x3.toNatClampNeg) with
          | none =>
            refine W.eq (g2 := F0 m 20 ls [.null]) rfl ?_
            refine lv_astoreN (lv' := [(7, .null), (6, .null), (5, .null), (0, .ref h0), (1, .int x0), (2, .int x1), (3, .int x2), (4, .int x3)]) C.1 C.2.1 dX11_apply_20 hl (by decide) rfl (fun ls hl => ?_)
            refine lv_aloadN C.1 C.2.1 dX11_apply_22 (lv_at hl 2 rfl) ?_
            refine lv_ifnullN (tgt := 37) C.1 C.2.1 dX11_apply_24 (by decide) ?_
            refine lv_iconst (v := 0) C.1 C.2.1 dX11_apply_37 (by decide) ?_
            exact k_zretP C hr hlk rfl (Or.inr (Or.inr (Or.inr (Or.inr (Or.inr (Or.inr (Or.inr (Or.inr (Or.inr (Or.inr (Or.inl (⟨c3328, c3335, c3336, c3359, c3360, rfl⟩)))))))))))) dX11_apply_38
          | some q3362 =>
            refine W.eq (g2 := F0 m 20 ls [.ref q3362]) rfl ?_
            refine lv_astore (lv' := [(7, .ref q3362), (6, .null), (5, .null), (0, .ref h0), (1, .int x0), (2, .int x1), (3, .int x2), (4, .int x3)]) C.1 C.2.1 dX11_apply_20 hl (by decide) rfl (fun ls hl => ?_)
            refine lv_aloadN C.1 C.2.1 dX11_apply_22 (lv_at hl 2 rfl) ?_
            refine lv_ifnullN (tgt := 37) C.1 C.2.1 dX11_apply_24 (by decide) ?_
            refine lv_iconst (v := 0) C.1 C.2.1 dX11_apply_37 (by decide) ?_
            exact k_zretP C hr hlk rfl (Or.inr (Or.inr (Or.inr (Or.inr (Or.inr (Or.inr (Or.inr (Or.inr (Or.inr (Or.inr (Or.inr (Or.inl (⟨c3328, c3335, c3336, c3359, c3360, rfl⟩))))))))))))) dX11_apply_38
      | some q3354 =>
        refine W.eq (g2 := F0 m 12 ls [.ref q3354]) rfl ?_
        refine lv_astore (lv' := [(6, .ref q3354), (5, .null), (0, .ref h0), (1, .int x0), (2, .int x1), (3, .int x2), (4, .int x3)]) C.1 C.2.1 dX11_apply_12 hl (by decide) rfl (fun ls hl => ?_)
        refine lv_aload_n C.1 C.2.1 dX11_apply_14 rfl (lv_at hl 2 rfl) ?_
        refine lv_iload C.1 C.2.1 dX11_apply_15 (lv_at hl 6 rfl) ?_
        refine k_pq (k_runV (rest := []) C aks Wd cs_X11_77 (kcX11_slotAt l D h0 h1 h2 h3 h4 h5 h6 h7 x3 g0 a0 _ ) [0, 3] rfl (by decide) [0] rfl 0 11 rfl rfl rfl rfl rfl ⟨(Nat.le_of_ble_eq_true rfl), (Nat.le_of_ble_eq_true rfl)⟩ hl.1 rfl rfl (Nat.le_of_ble_eq_true rfl) ⟨(Nat.le_of_ble_eq_true rfl), (Nat.le_of_ble_eq_true rfl)⟩ dX11_apply_17) (fun r w3363 => ?_)
        rcases w3363 with ⟨c3364, rfl⟩ | ⟨c3365, c3366, rfl⟩ | ⟨c3367, c3368, rfl⟩
        · refine W.eq (g2 := F0 m 20 ls [.null]) rfl ?_
          refine lv_astoreN (lv' := [(7, .null), (6, .ref q3354), (5, .null), (0, .ref h0), (1, .int x0), (2, .int x1), (3, .int x2), (4, .int x3)]) C.1 C.2.1 dX11_apply_20 hl (by decide) rfl (fun ls hl => ?_)
          refine lv_aloadN C.1 C.2.1 dX11_apply_22 (lv_at hl 2 rfl) ?_
          refine lv_ifnullN (tgt := 37) C.1 C.2.1 dX11_apply_24 (by decide) ?_
          refine lv_iconst (v := 0) C.1 C.2.1 dX11_apply_37 (by decide) ?_
          exact k_zretP C hr hlk rfl (Or.inr (Or.inr (Or.inr (Or.inr (Or.inr (Or.inr (Or.inr (Or.inr (Or.inr (Or.inr (Or.inr (Or.inr (Or.inl (⟨c3328, c3335, c3336, c3364, rfl⟩)))))))))))))) dX11_apply_38
        · refine W.eq (g2 := F0 m 20 ls [.null]) rfl ?_
          refine lv_astoreN (lv' := [(7, .null), (6, .ref q3354), (5, .null), (0, .ref h0), (1, .int x0), (2, .int x1), (3, .int x2), (4, .int x3)]) C.1 C.2.1 dX11_apply_20 hl (by decide) rfl (fun ls hl => ?_)
          refine lv_aloadN C.1 C.2.1 dX11_apply_22 (lv_at hl 2 rfl) ?_
          refine lv_ifnullN (tgt := 37) C.1 C.2.1 dX11_apply_24 (by decide) ?_
          refine lv_iconst (v := 0) C.1 C.2.1 dX11_apply_37 (by decide) ?_
          exact k_zretP C hr hlk rfl (Or.inr (Or.inr (Or.inr (Or.inr (Or.inr (Or.inr (Or.inr (Or.inr (Or.inr (Or.inr (Or.inr (Or.inr (Or.inr (Or.inl (⟨c3328, c3335, c3336, c3365, c3366, rfl⟩))))))))))))))) dX11_apply_38
        · cases hq3369 : (g0 x3.toNatClampNeg) with
          | none =>
            refine W.eq (g2 := F0 m 20 ls [.null]) rfl ?_
            refine lv_astoreN (lv' := [(7, .null), (6, .ref q3354), (5, .null), (0, .ref h0), (1, .int x0), (2, .int x1), (3, .int x2), (4, .int x3)]) C.1 C.2.1 dX11_apply_20 hl (by decide) rfl (fun ls hl => ?_)
            refine lv_aloadN C.1 C.2.1 dX11_apply_22 (lv_at hl 2 rfl) ?_
            refine lv_ifnullN (tgt := 37) C.1 C.2.1 dX11_apply_24 (by decide) ?_
            refine lv_iconst (v := 0) C.1 C.2.1 dX11_apply_37 (by decide) ?_
            exact k_zretP C hr hlk rfl (Or.inr (Or.inr (Or.inr (Or.inr (Or.inr (Or.inr (Or.inr (Or.inr (Or.inr (Or.inr (Or.inr (Or.inr (Or.inr (Or.inr (Or.inl (⟨c3328, c3335, c3336, c3367, c3368, rfl⟩)))))))))))))))) dX11_apply_38
          | some q3370 =>
            refine W.eq (g2 := F0 m 20 ls [.ref q3370]) rfl ?_
            refine lv_astore (lv' := [(7, .ref q3370), (6, .ref q3354), (5, .null), (0, .ref h0), (1, .int x0), (2, .int x1), (3, .int x2), (4, .int x3)]) C.1 C.2.1 dX11_apply_20 hl (by decide) rfl (fun ls hl => ?_)
            refine lv_aloadN C.1 C.2.1 dX11_apply_22 (lv_at hl 2 rfl) ?_
            refine lv_ifnullN (tgt := 37) C.1 C.2.1 dX11_apply_24 (by decide) ?_
            refine lv_iconst (v := 0) C.1 C.2.1 dX11_apply_37 (by decide) ?_
            exact k_zretP C hr hlk rfl (Or.inr (Or.inr (Or.inr (Or.inr (Or.inr (Or.inr (Or.inr (Or.inr (Or.inr (Or.inr (Or.inr (Or.inr (Or.inr (Or.inr (Or.inr (Or.inl (⟨c3328, c3335, c3336, c3367, c3368, rfl⟩))))))))))))))))) dX11_apply_38
  · refine W.eq (g2 := F0 m 5 ls [.null]) rfl ?_
    refine lv_astoreN (lv' := [(5, .null), (0, .ref h0), (1, .int x0), (2, .int x1), (3, .int x2), (4, .int x3)]) C.1 C.2.1 dX11_apply_5 hl (by decide) rfl (fun ls hl => ?_)
    refine lv_aload_n C.1 C.2.1 dX11_apply_7 rfl (lv_at hl 1 rfl) ?_
    refine lv_iload_n C.1 C.2.1 dX11_apply_8 rfl (lv_at hl 3 rfl) ?_
    refine k_pq (k_runV (rest := []) C aks Wd cs_X11_77 (kcX11_slotAt l D h0 h1 h2 h3 h4 h5 h6 h7 x1 g0 a0 _ ) [0, 3] rfl (by decide) [0] rfl 0 11 rfl rfl rfl rfl rfl ⟨(Nat.le_of_ble_eq_true rfl), (Nat.le_of_ble_eq_true rfl)⟩ hl.1 rfl rfl (Nat.le_of_ble_eq_true rfl) ⟨(Nat.le_of_ble_eq_true rfl), (Nat.le_of_ble_eq_true rfl)⟩ dX11_apply_9) (fun r w3371 => ?_)
    rcases w3371 with ⟨c3372, rfl⟩ | ⟨c3373, c3374, rfl⟩ | ⟨c3375, c3376, rfl⟩
    · refine W.eq (g2 := F0 m 12 ls [.null]) rfl ?_
      refine lv_astoreN (lv' := [(6, .null), (5, .null), (0, .ref h0), (1, .int x0), (2, .int x1), (3, .int x2), (4, .int x3)]) C.1 C.2.1 dX11_apply_12 hl (by decide) rfl (fun ls hl => ?_)
      refine lv_aload_n C.1 C.2.1 dX11_apply_14 rfl (lv_at hl 2 rfl) ?_
      refine lv_iload C.1 C.2.1 dX11_apply_15 (lv_at hl 6 rfl) ?_
      refine k_pq (k_runV (rest := []) C aks Wd cs_X11_77 (kcX11_slotAt l D h0 h1 h2 h3 h4 h5 h6 h7 x3 g0 a0 _ ) [0, 3] rfl (by decide) [0] rfl 0 11 rfl rfl rfl rfl rfl ⟨(Nat.le_of_ble_eq_true rfl), (Nat.le_of_ble_eq_true rfl)⟩ hl.1 rfl rfl (Nat.le_of_ble_eq_true rfl) ⟨(Nat.le_of_ble_eq_true rfl), (Nat.le_of_ble_eq_true rfl)⟩ dX11_apply_17) (fun r w3377 => ?_)
      rcases w3377 with ⟨c3378, rfl⟩ | ⟨c3379, c3380, rfl⟩ | ⟨c3381, c3382, rfl⟩
      · refine W.eq (g2 := F0 m 20 ls [.null]) rfl ?_
        refine lv_astoreN (lv' := [(7, .null), (6, .null), (5, .null), (0, .ref h0), (1, .int x0), (2, .int x1), (3, .int x2), (4, .int x3)]) C.1 C.2.1 dX11_apply_20 hl (by decide) rfl (fun ls hl => ?_)
        refine lv_aloadN C.1 C.2.1 dX11_apply_22 (lv_at hl 2 rfl) ?_
        refine lv_ifnullN (tgt := 37) C.1 C.2.1 dX11_apply_24 (by decide) ?_
        refine lv_iconst (v := 0) C.1 C.2.1 dX11_apply_37 (by decide) ?_
        exact k_zretP C hr hlk rfl (Or.inr (Or.inr (Or.inr (Or.inr (Or.inr (Or.inr (Or.inr (Or.inr (Or.inr (Or.inr (Or.inr (Or.inr (Or.inr (Or.inr (Or.inr (Or.inr (Or.inl (⟨c3329, c3330, c3372, c3378, rfl⟩)))))))))))))))))) dX11_apply_38
      · refine W.eq (g2 := F0 m 20 ls [.null]) rfl ?_
        refine lv_astoreN (lv' := [(7, .null), (6, .null), (5, .null), (0, .ref h0), (1, .int x0), (2, .int x1), (3, .int x2), (4, .int x3)]) C.1 C.2.1 dX11_apply_20 hl (by decide) rfl (fun ls hl => ?_)
        refine lv_aloadN C.1 C.2.1 dX11_apply_22 (lv_at hl 2 rfl) ?_
        refine lv_ifnullN (tgt := 37) C.1 C.2.1 dX11_apply_24 (by decide) ?_
        refine lv_iconst (v := 0) C.1 C.2.1 dX11_apply_37 (by decide) ?_
        exact k_zretP C hr hlk rfl (Or.inr (Or.inr (Or.inr (Or.inr (Or.inr (Or.inr (Or.inr (Or.inr (Or.inr (Or.inr (Or.inr (Or.inr (Or.inr (Or.inr (Or.inr (Or.inr (Or.inr (Or.inl (⟨c3329, c3330, c3372, c3379, c3380, rfl⟩))))))))))))))))))) dX11_apply_38
      · cases hq3383 : (g0 x3.toNatClampNeg) with
        | none =>
          refine W.eq (g2 := F0 m 20 ls [.null]) rfl ?_
          refine lv_astoreN (lv' := [(7, .null), (6, .null), (5, .null), (0, .ref h0), (1, .int x0), (2, .int x1), (3, .int x2), (4, .int x3)]) C.1 C.2.1 dX11_apply_20 hl (by decide) rfl (fun ls hl => ?_)
          refine lv_aloadN C.1 C.2.1 dX11_apply_22 (lv_at hl 2 rfl) ?_
          refine lv_ifnullN (tgt := 37) C.1 C.2.1 dX11_apply_24 (by decide) ?_
          refine lv_iconst (v := 0) C.1 C.2.1 dX11_apply_37 (by decide) ?_
          exact k_zretP C hr hlk rfl (Or.inr (Or.inr (Or.inr (Or.inr (Or.inr (Or.inr (Or.inr (Or.inr (Or.inr (Or.inr (Or.inr (Or.inr (Or.inr (Or.inr (Or.inr (Or.inr (Or.inr (Or.inr (Or.inl (⟨c3329, c3330, c3372, c3381, c3382, rfl⟩)))))))))))))))))))) dX11_apply_38
        | some q3384 =>
          refine W.eq (g2 := F0 m 20 ls [.ref q3384]) rfl ?_
          refine lv_astore (lv' := [(7, .ref q3384), (6, .null), (5, .null), (0, .ref h0), (1, .int x0), (2, .int x1), (3, .int x2), (4, .int x3)]) C.1 C.2.1 dX11_apply_20 hl (by decide) rfl (fun ls hl => ?_)
          refine lv_aloadN C.1 C.2.1 dX11_apply_22 (lv_at hl 2 rfl) ?_
          refine lv_ifnullN (tgt := 37) C.1 C.2.1 dX11_apply_24 (by decide) ?_
          refine lv_iconst (v := 0) C.1 C.2.1 dX11_apply_37 (by decide) ?_
          exact k_zretP C hr hlk rfl (Or.inr (Or.inr (Or.inr (Or.inr (Or.inr (Or.inr (Or.inr (Or.inr (Or.inr (Or.inr (Or.inr (Or.inr (Or.inr (Or.inr (Or.inr (Or.inr (Or.inr (Or.inr (Or.inr (Or.inl (⟨c3329, c3330, c3372, c3381, c3382, rfl⟩))))))))))))))))))))) dX11_apply_38
    · refine W.eq (g2 := F0 m 12 ls [.null]) rfl ?_
      refine lv_astoreN (lv' := [(6, .null), (5, .null), (0, .ref h0), (1, .int x0), (2, .int x1), (3, .int x2), (4, .int x3)]) C.1 C.2.1 dX11_apply_12 hl (by decide) rfl (fun ls hl => ?_)
      refine lv_aload_n C.1 C.2.1 dX11_apply_14 rfl (lv_at hl 2 rfl) ?_
      refine lv_iload C.1 C.2.1 dX11_apply_15 (lv_at hl 6 rfl) ?_
      refine k_pq (k_runV (rest := []) C aks Wd cs_X11_77 (kcX11_slotAt l D h0 h1 h2 h3 h4 h5 h6 h7 x3 g0 a0 _ ) [0, 3] rfl (by decide) [0] rfl 0 11 rfl rfl rfl rfl rfl ⟨(Nat.le_of_ble_eq_true rfl), (Nat.le_of_ble_eq_true rfl)⟩ hl.1 rfl rfl (Nat.le_of_ble_eq_true rfl) ⟨(Nat.le_of_ble_eq_true rfl), (Nat.le_of_ble_eq_true rfl)⟩ dX11_apply_17) (fun r w3385 => ?_)
      rcases w3385 with ⟨c3386, rfl⟩ | ⟨c3387, c3388, rfl⟩ | ⟨c3389, c3390, rfl⟩
      · refine W.eq (g2 := F0 m 20 ls [.null]) rfl ?_
        refine lv_astoreN (lv' := [(7, .null), (6, .null), (5, .null), (0, .ref h0), (1, .int x0), (2, .int x1), (3, .int x2), (4, .int x3)]) C.1 C.2.1 dX11_apply_20 hl (by decide) rfl (fun ls hl => ?_)
        refine lv_aloadN C.1 C.2.1 dX11_apply_22 (lv_at hl 2 rfl) ?_
        refine lv_ifnullN (tgt := 37) C.1 C.2.1 dX11_apply_24 (by decide) ?_
        refine lv_iconst (v := 0) C.1 C.2.1 dX11_apply_37 (by decide) ?_
        exact k_zretP C hr hlk rfl (Or.inr (Or.inr (Or.inr (Or.inr (Or.inr (Or.inr (Or.inr (Or.inr (Or.inr (Or.inr (Or.inr (Or.inr (Or.inr (Or.inr (Or.inr (Or.inr (Or.inr (Or.inr (Or.inr (Or.inr (Or.inl (⟨c3329, c3330, c3373, c3374, c3386, rfl⟩)))))))))))))))))))))) dX11_apply_38
      · refine W.eq (g2 := F0 m 20 ls [.null]) rfl ?_
        refine lv_astoreN (lv' := [(7, .null), (6, .null), (5, .null), (0, .ref h0), (1, .int x0), (2, .int x1), (3, .int x2), (4, .int x3)]) C.1 C.2.1 dX11_apply_20 hl (by decide) rfl (fun ls hl => ?_)
        refine lv_aloadN C.1 C.2.1 dX11_apply_22 (lv_at hl 2 rfl) ?_
        refine lv_ifnullN (tgt := 37) C.1 C.2.1 dX11_apply_24 (by decide) ?_
        refine lv_iconst (v := 0) C.1 C.2.1 dX11_apply_37 (by decide) ?_
        exact k_zretP C hr hlk rfl (Or.inr (Or.inr (Or.inr (Or.inr (Or.inr (Or.inr (Or.inr (Or.inr (Or.inr (Or.inr (Or.inr (Or.inr (Or.inr (Or.inr (Or.inr (Or.inr (Or.inr (Or.inr (Or.inr (Or.inr (Or.inr (Or.inl (⟨c3329, c3330, c3373, c3374, c3387, c3388, rfl⟩))))))))))))))))))))))) dX11_apply_38
      · cases hq3391 : (g0 x3.toNatClampNeg) with
        | none =>
          refine W.eq (g2 := F0 m 20 ls [.null]) rfl ?_
          refine lv_astoreN (lv' := [(7, .null), (6, .null), (5, .null), (0, .ref h0), (1, .int x0), (2, .int x1), (3, .int x2), (4, .int x3)]) C.1 C.2.1 dX11_apply_20 hl (by decide) rfl (fun ls hl => ?_)
          refine lv_aloadN C.1 C.2.1 dX11_apply_22 (lv_at hl 2 rfl) ?_
          refine lv_ifnullN (tgt := 37) C.1 C.2.1 dX11_apply_24 (by decide) ?_
          refine lv_iconst (v := 0) C.1 C.2.1 dX11_apply_37 (by decide) ?_
          exact k_zretP C hr hlk rfl (Or.inr (Or.inr (Or.inr (Or.inr (Or.inr (Or.inr (Or.inr (Or.inr (Or.inr (Or.inr (Or.inr (Or.inr (Or.inr (Or.inr (Or.inr (Or.inr (Or.inr (Or.inr (Or.inr (Or.inr (Or.inr (Or.inr (Or.inl (⟨c3329, c3330, c3373, c3374, c3389, c3390, rfl⟩)))))))))))))))))))))))) dX11_apply_38
        | some q3392 =>
          refine W.eq (g2 := F0 m 20 ls [.ref q3392]) rfl ?_
          refine lv_astore (lv' := [(7, .ref q3392), (6, .null), (5, .null), (0, .ref h0), (1, .int x0), (2, .int x1), (3, .int x2), (4, .int x3)]) C.1 C.2.1 dX11_apply_20 hl (by decide) rfl (fun ls hl => ?_)
          refine lv_aloadN C.1 C.2.1 dX11_apply_22 (lv_at hl 2 rfl) ?_
          refine lv_ifnullN (tgt := 37) C.1 C.2.1 dX11_apply_24 (by decide) ?_
          refine lv_iconst (v := 0) C.1 C.2.1 dX11_apply_37 (by decide) ?_
          exact k_zretP C hr hlk rfl (Or.inr (Or.inr (Or.inr (Or.inr (Or.inr (Or.inr (Or.inr (Or.inr (Or.inr (Or.inr (Or.inr (Or.inr (Or.inr (Or.inr (Or.inr (Or.inr (Or.inr (Or.inr (Or.inr (Or.inr (Or.inr (Or.inr (Or.inr (Or.inl (⟨c3329, c3330, c3373, c3374, c3389, c3390, rfl⟩))))))))))))))))))))))))) dX11_apply_38
    · cases hq3393 : (g0 x1.toNatClampNeg) with
      | none =>
        refine W.eq (g2 := F0 m 12 ls [.null]) rfl ?_
        refine lv_astoreN (lv' := [(6, .null), (5, .null), (0, .ref h0), (1, .int x0), (2, .int x1), (3, .int x2), (4, .int x3)]) C.1 C.2.1 dX11_apply_12 hl (by decide) rfl (fun ls hl => ?_)
        refine lv_aload_n C.1 C.2.1 dX11_apply_14 rfl (lv_at hl 2 rfl) ?_
        refine lv_iload C.1 C.2.1 dX11_apply_15 (lv_at hl 6 rfl) ?_
        refine k_pq (k_runV (rest := []) C aks Wd cs_X11_77 (kcX11_slotAt l D h0 h1 h2 h3 h4 h5 h6 h7 x3 g0 a0 _ ) [0, 3] rfl (by decide) [0] rfl 0 11 rfl rfl rfl rfl rfl ⟨(Nat.le_of_ble_eq_true rfl), (Nat.le_of_ble_eq_true rfl)⟩ hl.1 rfl rfl (Nat.le_of_ble_eq_true rfl) ⟨(Nat.le_of_ble_eq_true rfl), (Nat.le_of_ble_eq_true rfl)⟩ dX11_apply_17) (fun r w3395 => ?_)
        rcases w3395 with ⟨c3396, rfl⟩ | ⟨c3397, c3398, rfl⟩ | ⟨c3399, c3400, rfl⟩
        · refine W.eq (g2 := F0 m 20 ls [.null]) rfl ?_
          refine lv_astoreN (lv' := [(7, .null), (6, .null), (5, .null), (0, .ref h0), (1, .int x0), (2, .int x1), (3, .int x2), (4, .int x3)]) C.1 C.2.1 dX11_apply_20 hl (by decide) rfl (fun ls hl => ?_)
          refine lv_aloadN C.1 C.2.1 dX11_apply_22 (lv_at hl 2 rfl) ?_
          refine lv_ifnullN (tgt := 37) C.1 C.2.1 dX11_apply_24 (by decide) ?_
          refine lv_iconst (v := 0) C.1 C.2.1 dX11_apply_37 (by decide) ?_
          exact k_zretP C hr hlk rfl (Or.inr (Or.inr (Or.inr (Or.inr (Or.inr (Or.inr (Or.inr (Or.inr (Or.inr (Or.inr (Or.inr (Or.inr (Or.inr (Or.inr (Or.inr (Or.inr (Or.inr (Or.inr (Or.inr (Or.inr (Or.inr (Or.inr (Or.inr (Or.inr (Or.inl (⟨c3329, c3330, c3375, c3376, c3396, rfl⟩)))))))))))))))))))))))))) dX11_apply_38
        · refine W.eq (g2 := F0 m 20 ls [.null]) rfl ?_
          refine lv_astoreN (lv' := [(7, .null), (6, .null), (5, .null), (0, .ref h0), (1, .int x0), (2, .int x1), (3, .int x2), (4, .int x3)]) C.1 C.2.1 dX11_apply_20 hl (by decide) rfl (fun ls hl => ?_)
          refine lv_aloadN C.1 C.2.1 dX11_apply_22 (lv_at hl 2 rfl) ?_
          refine lv_ifnullN (tgt := 37) C.1 C.2.1 dX11_apply_24 (by decide) ?_
          refine lv_iconst (v := 0) C.1 C.2.1 dX11_apply_37 (by decide) ?_
          exact k_zretP C hr hlk rfl (Or.inr (Or.inr (Or.inr (Or.inr (Or.inr (Or.inr (Or.inr (Or.inr (Or.inr (Or.inr (Or.inr (Or.inr (Or.inr (Or.inr (Or.inr (Or.inr (Or.inr (Or.inr (Or.inr (Or.inr (Or.inr (Or.inr (Or.inr (Or.inr (Or.inr (Or.inl (⟨c3329, c3330, c3375, c3376, c3397, c3398, rfl⟩))))))))))))))))))))))))))) dX11_apply_38
        · cases hq3401 : (g0 x3.toNatClampNeg) with
          | none =>
            refine W.eq (g2 := F0 m 20 ls [.null]) rfl ?_
            refine lv_astoreN (lv' := [(7, .null), (6, .null), (5, .null), (0, .ref h0), (1, .int x0), (2, .int x1), (3, .int x2), (4, .int x3)]) C.1 C.2.1 dX11_apply_20 hl (by decide) rfl (fun ls hl => ?_)
            refine lv_aloadN C.1 C.2.1 dX11_apply_22 (lv_at hl 2 rfl) ?_
            refine lv_ifnullN (tgt := 37) C.1 C.2.1 dX11_apply_24 (by decide) ?_
            refine lv_iconst (v := 0) C.1 C.2.1 dX11_apply_37 (by decide) ?_
            exact k_zretP C hr hlk rfl (Or.inr (Or.inr (Or.inr (Or.inr (Or.inr (Or.inr (Or.inr (Or.inr (Or.inr (Or.inr (Or.inr (Or.inr (Or.inr (Or.inr (Or.inr (Or.inr (Or.inr (Or.inr (Or.inr (Or.inr (Or.inr (Or.inr (Or.inr (Or.inr (Or.inr (Or.inr (Or.inl (⟨c3329, c3330, c3375, c3376, c3399, c3400, rfl⟩)))))))))))))))))))))))))))) dX11_apply_38
          | some q3402 =>
            refine W.eq (g2 := F0 m 20 ls [.ref q3402]) rfl ?_
            refine lv_astore (lv' := [(7, .ref q3402), (6, .null), (5, .null), (0, .ref h0), (1, .int x0), (2, .int x1), (3, .int x2), (4, .int x3)]) C.1 C.2.1 dX11_apply_20 hl (by decide) rfl (fun ls hl => ?_)
            refine lv_aloadN C.1 C.2.1 dX11_apply_22 (lv_at hl 2 rfl) ?_
            refine lv_ifnullN (tgt := 37) C.1 C.2.1 dX11_apply_24 (by decide) ?_
            refine lv_iconst (v := 0) C.1 C.2.1 dX11_apply_37 (by decide) ?_
            exact k_zretP C hr hlk rfl (Or.inr (Or.inr (Or.inr (Or.inr (Or.inr (Or.inr (Or.inr (Or.inr (Or.inr (Or.inr (Or.inr (Or.inr (Or.inr (Or.inr (Or.inr (Or.inr (Or.inr (Or.inr (Or.inr (Or.inr (Or.inr (Or.inr (Or.inr (Or.inr (Or.inr (Or.inr (Or.inr (Or.inl (⟨c3329, c3330, c3375, c3376, c3399, c3400, rfl⟩))))))))))))))))))))))))))))) dX11_apply_38
      | some q3394 =>
        refine W.eq (g2 := F0 m 12 ls [.ref q3394]) rfl ?_
        refine lv_astore (lv' := [(6, .ref q3394), (5, .null), (0, .ref h0), (1, .int x0), (2, .int x1), (3, .int x2), (4, .int x3)]) C.1 C.2.1 dX11_apply_12 hl (by decide) rfl (fun ls hl => ?_)
        refine lv_aload_n C.1 C.2.1 dX11_apply_14 rfl (lv_at hl 2 rfl) ?_
        refine lv_iload C.1 C.2.1 dX11_apply_15 (lv_at hl 6 rfl) ?_
        refine k_pq (k_runV (rest := []) C aks Wd cs_X11_77 (kcX11_slotAt l D h0 h1 h2 h3 h4 h5 h6 h7 x3 g0 a0 _ ) [0, 3] rfl (by decide) [0] rfl 0 11 rfl rfl rfl rfl rfl ⟨(Nat.le_of_ble_eq_true rfl), (Nat.le_of_ble_eq_true rfl)⟩ hl.1 rfl rfl (Nat.le_of_ble_eq_true rfl) ⟨(Nat.le_of_ble_eq_true rfl), (Nat.le_of_ble_eq_true rfl)⟩ dX11_apply_17) (fun r w3403 => ?_)
        rcases w3403 with ⟨c3404, rfl⟩ | ⟨c3405, c3406, rfl⟩ | ⟨c3407, c3408, rfl⟩
        · refine W.eq (g2 := F0 m 20 ls [.null]) rfl ?_
          refine lv_astoreN (lv' := [(7, .null), (6, .ref q3394), (5, .null), (0, .ref h0), (1, .int x0), (2, .int x1), (3, .int x2), (4, .int x3)]) C.1 C.2.1 dX11_apply_20 hl (by decide) rfl (fun ls hl => ?_)
          refine lv_aloadN C.1 C.2.1 dX11_apply_22 (lv_at hl 2 rfl) ?_
          refine lv_ifnullN (tgt := 37) C.1 C.2.1 dX11_apply_24 (by decide) ?_
          refine lv_iconst (v := 0) C.1 C.2.1 dX11_apply_37 (by decide) ?_
          exact k_zretP C hr hlk rfl (Or.inr (Or.inr (Or.inr (Or.inr (Or.inr (Or.inr (Or.inr (Or.inr (Or.inr (Or.inr (Or.inr (Or.inr (Or.inr (Or.inr (Or.inr (Or.inr (Or.inr (Or.inr (Or.inr (Or.inr (Or.inr (Or.inr (Or.inr (Or.inr (Or.inr (Or.inr (Or.inr (Or.inr (Or.inl (⟨c3329, c3330, c3375, c3376, c3404, rfl⟩)))))))))))))))))))))))))))))) dX11_apply_38
        · refine W.eq (g2 := F0 m 20 ls [.null]) rfl ?_
          refine lv_astoreN (lv' := [(7, .null), (6, .ref q3394), (5, .null), (0, .ref h0), (1, .int x0), (2, .int x1), (3, .int x2), (4, .int x3)]) C.1 C.2.1 dX11_apply_20 hl (by decide) rfl (fun ls hl => ?_)
          refine lv_aloadN C.1 C.2.1 dX11_apply_22 (lv_at hl 2 rfl) ?_
          refine lv_ifnullN (tgt := 37) C.1 C.2.1 dX11_apply_24 (by decide) ?_
          refine lv_iconst (v := 0) C.1 C.2.1 dX11_apply_37 (by decide) ?_
          exact k_zretP C hr hlk rfl (Or.inr (Or.inr (Or.inr (Or.inr (Or.inr (Or.inr (Or.inr (Or.inr (Or.inr (Or.inr (Or.inr (Or.inr (Or.inr (Or.inr (Or.inr (Or.inr (Or.inr (Or.inr (Or.inr (Or.inr (Or.inr (Or.inr (Or.inr (Or.inr (Or.inr (Or.inr (Or.inr (Or.inr (Or.inr (Or.inl (⟨c3329, c3330, c3375, c3376, c3405, c3406, rfl⟩))))))))))))))))))))))))))))))) dX11_apply_38
        · cases hq3409 : (g0 x3.toNatClampNeg) with
          | none =>
            refine W.eq (g2 := F0 m 20 ls [.null]) rfl ?_
            refine lv_astoreN (lv' := [(7, .null), (6, .ref q3394), (5, .null), (0, .ref h0), (1, .int x0), (2, .int x1), (3, .int x2), (4, .int x3)]) C.1 C.2.1 dX11_apply_20 hl (by decide) rfl (fun ls hl => ?_)
            refine lv_aloadN C.1 C.2.1 dX11_apply_22 (lv_at hl 2 rfl) ?_
            refine lv_ifnullN (tgt := 37) C.1 C.2.1 dX11_apply_24 (by decide) ?_
            refine lv_iconst (v := 0) C.1 C.2.1 dX11_apply_37 (by decide) ?_
            exact k_zretP C hr hlk rfl (Or.inr (Or.inr (Or.inr (Or.inr (Or.inr (Or.inr (Or.inr (Or.inr (Or.inr (Or.inr (Or.inr (Or.inr (Or.inr (Or.inr (Or.inr (Or.inr (Or.inr (Or.inr (Or.inr (Or.inr (Or.inr (Or.inr (Or.inr (Or.inr (Or.inr (Or.inr (Or.inr (Or.inr (Or.inr (Or.inr (Or.inl (⟨c3329, c3330, c3375, c3376, c3407, c3408, rfl⟩)))))))))))))))))))))))))))))))) dX11_apply_38
          | some q3410 =>
            refine W.eq (g2 := F0 m 20 ls [.ref q3410]) rfl ?_
            refine lv_astore (lv' := [(7, .ref q3410), (6, .ref q3394), (5, .null), (0, .ref h0), (1, .int x0), (2, .int x1), (3, .int x2), (4, .int x3)]) C.1 C.2.1 dX11_apply_20 hl (by decide) rfl (fun ls hl => ?_)
            refine lv_aloadN C.1 C.2.1 dX11_apply_22 (lv_at hl 2 rfl) ?_
            refine lv_ifnullN (tgt := 37) C.1 C.2.1 dX11_apply_24 (by decide) ?_
            refine lv_iconst (v := 0) C.1 C.2.1 dX11_apply_37 (by decide) ?_
            exact k_zretP C hr hlk rfl (Or.inr (Or.inr (Or.inr (Or.inr (Or.inr (Or.inr (Or.inr (Or.inr (Or.inr (Or.inr (Or.inr (Or.inr (Or.inr (Or.inr (Or.inr (Or.inr (Or.inr (Or.inr (Or.inr (Or.inr (Or.inr (Or.inr (Or.inr (Or.inr (Or.inr (Or.inr (Or.inr (Or.inr (Or.inr (Or.inr (Or.inr (⟨c3329, c3330, c3375, c3376, c3407, c3408, rfl⟩)))))))))))))))))))))))))))))))) dX11_apply_38
set_option maxHeartbeats 4000000 in
set_option maxRecDepth 100000 in
theorem kcX4_addItem (l : Launch) (D : va_G) (h0 : Nat) (x0 x1 : Int32) (sz : Nat)  (as0 : x0 < (0 : Int32)) (as1 : ¬ x1 < (0 : Int32)) (as2 : ¬ x1 < (20 : Int32)) (as3 : ¬ (24 : Int32) < x1): Met l yX4_addItem (Cond.code yX4_addItem cX4_addItem 3 (some .int) :: gG) { frames := 2, cells := 0, slots := 0, locals := 84 } (cPre D [] [] sz [.ref h0, .int x0, .int x1]) (vp_Si (fun r => x0 < (0 : Int32) ∧ r = (-1))) 0 0 (fun _ => False) := by
  refine Met.ofW (cc := cX4_addItem) (maxL := 3) (ret := (some .int)) (by decide) rfl ?_
  intro p e s m args below meth c s₁ B hml hv
  obtain ⟨rfl, aks, rfl, Wd⟩ := k_enter hv
  have C : CallFix p m c cX4_addItem 3 s _ gG RX4 := ⟨B.exec, B.bytes, hml, findClass_of_methodNamed B.named, fun w h => atoms_spec (ws := Cond.code yX4_addItem cX4_addItem 3 (some .int) :: gG) B.pre w (List.mem_cons_of_mem _ h)⟩
  have hr := B.returns
  have hlk := B.notSynchronized
  obtain ⟨A, Wd⟩ : ∃ A, wX D [] s [] s.heap A s.heap [] := ⟨_, Wd⟩
  refine k_locals (Nat.le_of_ble_eq_true rfl) [(0, .ref h0), (1, .int x0), (2, .int x1)] rfl (fun ls hl => ?_)
  refine lv_iload_n C.1 C.2.1 dX4_addItem_0 rfl (lv_at hl 1 rfl) ?_
  refine k_pi (k_runS (rest := []) C aks Wd cs_X4_63 (kcX4_isPass l D x0 _ ) [] rfl (by decide) [] rfl rfl rfl ⟨(Nat.le_of_ble_eq_true rfl), (Nat.le_of_ble_eq_true rfl)⟩ hl.1 rfl rfl (Nat.le_of_ble_eq_true rfl) ⟨(Nat.le_of_ble_eq_true rfl), (Nat.le_of_ble_eq_true rfl)⟩ dX4_addItem_1) (fun r w3431 => ?_)
  rcases w3431 with ⟨c3432, rfl⟩ | ⟨c3433, c3434, rfl⟩ | ⟨c3435, c3436, rfl⟩
  · refine lv_if_eq (tgt := 18) C.1 C.2.1 dX4_addItem_4 (by decide) (fun _ => ?_) (fun c3437 => absurd c3437 (by decide))
    refine lv_iconst (v := (-1)) C.1 C.2.1 dX4_addItem_18 (by decide) ?_
    exact k_zretP C hr hlk rfl ⟨c3432, rfl⟩ dX4_addItem_19
  · exact False.elim (by have z0 := kz_lt as0; have z1 := kz_nlt c3433; have t0 : (0 : Int32).toInt = 0 := (by decide); omega)
  · exact False.elim (by have z0 := kz_lt as0; have z1 := kz_nlt c3435; have t0 : (0 : Int32).toInt = 0 := (by decide); omega)
set_option maxHeartbeats 4000000 in
set_option maxRecDepth 100000 in
theorem kcX11_item (l : Launch) (D : va_G) (h0 h1 h2 h3 h4 h5 h6 h7 h24 h25 h26 h27 h28 h29 h30 h31 : Nat) (x0 x1 : Int32) (sz : Nat)  (as0 : x0 < (0 : Int32)): Met l yX11_item (Cond.code yX11_item cX11_item 5 (some .int) :: gG) { frames := 3, cells := 0, slots := 0, locals := 106 } (cPre D [] [(h0, .inr (11, [.ref h1, .int 0, .ref h2, .ref h3, .ref h4, .ref h5, .ref h6, .ref h7])), (h6, .inr (4, [.ref h24, .ref h25, .ref h26, .int (-1), .int (-1), .ref h27, .ref h28, .ref h29, .ref h30, .ref h31]))] sz [.ref h0, .int x0, .int x1]) (vp_Si (fun r => (x1 < (0 : Int32) ∧ r = (-1)) ∨ (¬ x1 < (0 : Int32) ∧ x1 < (20 : Int32) ∧ r = (-1)) ∨ (¬ x1 < (0 : Int32) ∧ ¬ x1 < (20 : Int32) ∧ (24 : Int32) < x1 ∧ r = (-1)) ∨ (¬ x1 < (0 : Int32) ∧ ¬ x1 < (20 : Int32) ∧ ¬ (24 : Int32) < x1 ∧ x0 < (0 : Int32) ∧ r = (-1)))) 0 0 (fun _ => False) := by
  refine Met.ofW (cc := cX11_item) (maxL := 5) (ret := (some .int)) (by decide) rfl ?_
  intro p e s m args below meth c s₁ B hml hv
  obtain ⟨rfl, aks, rfl, Wd⟩ := k_enter hv
  have C : CallFix p m c cX11_item 5 s _ gG RX11 := ⟨B.exec, B.bytes, hml, findClass_of_methodNamed B.named, fun w h => atoms_spec (ws := Cond.code yX11_item cX11_item 5 (some .int) :: gG) B.pre w (List.mem_cons_of_mem _ h)⟩
  have hr := B.returns
  have hlk := B.notSynchronized
  obtain ⟨A, Wd⟩ : ∃ A, wX D [] s [(h0, .inr (11, [.ref h1, .int 0, .ref h2, .ref h3, .ref h4, .ref h5, .ref h6, .ref h7])), (h6, .inr (4, [.ref h24, .ref h25, .ref h26, .int (-1), .int (-1), .ref h27, .ref h28, .ref h29, .ref h30, .ref h31]))] s.heap A s.heap [] := ⟨_, Wd⟩
  refine k_locals (Nat.le_of_ble_eq_true rfl) [(0, .ref h0), (1, .int x0), (2, .int x1)] rfl (fun ls hl => ?_)
  refine lv_iload_n C.1 C.2.1 dX11_item_0 rfl (lv_at hl 2 rfl) ?_
  refine lv_if_lt (tgt := 16) C.1 C.2.1 dX11_item_1 (by decide) (fun c3440 => ?_) (fun c3440 => ?_)
  · refine lv_iconst (v := 0) C.1 C.2.1 dX11_item_16 (by decide) ?_
    refine lv_istore_n (lv' := [(3, .int 0), (0, .ref h0), (1, .int x0), (2, .int x1)]) C.1 C.2.1 dX11_item_17 rfl hl (by decide) rfl (fun ls hl => ?_)
    refine lv_iload_n C.1 C.2.1 dX11_item_18 rfl (lv_at hl 3 rfl) ?_
    refine lv_bipush (v := 20) C.1 C.2.1 dX11_item_19 (by decide) ?_
    refine lv_icmp_lt (tgt := 34) C.1 C.2.1 dX11_item_21 (by decide) (fun _ => ?_) (fun c3441 => False.elim (by have z0 := kz_lt c3440; have z1 := kz_nlt c3441; have t0 : (0 : Int32).toInt = 0 := (by decide); have t20 : (20 : Int32).toInt = 20 := (by decide); omega))
    refine lv_iconst (v := 0) C.1 C.2.1 dX11_item_34 (by decide) ?_
    refine lv_istore (lv' := [(4, .int 0), (3, .int 0), (0, .ref h0), (1, .int x0), (2, .int x1)]) C.1 C.2.1 dX11_item_35 hl (by decide) rfl (fun ls hl => ?_)
    refine lv_iload_n C.1 C.2.1 dX11_item_37 rfl (lv_at hl 1 rfl) ?_
    refine lv_if_ne (tgt := 48) C.1 C.2.1 dX11_item_38 (by decide) (fun c3442 => absurd c3442 (by decide)) (fun _ => ?_)
    refine lv_iload C.1 C.2.1 dX11_item_41 (lv_at hl 0 rfl) ?_
    refine lv_if_ne (tgt := 48) C.1 C.2.1 dX11_item_43 (by decide) (fun c3443 => absurd c3443 (by decide)) (fun _ => ?_)
    refine lv_iconst (v := (-1)) C.1 C.2.1 dX11_item_46 (by decide) ?_
    exact k_zretP C hr hlk rfl (Or.inl (⟨c3440, rfl⟩)) dX11_item_47
  · refine lv_iload_n C.1 C.2.1 dX11_item_4 rfl (lv_at hl 2 rfl) ?_
    refine lv_aload_n C.1 C.2.1 dX11_item_5 rfl (lv_at hl 0 rfl) ?_
    refine k_get C Wd KX11 0 1 rfl (by decide) fl_X11_18 rfl dX11_item_6 ?_
    refine lv_icmp_ge (tgt := 16) C.1 C.2.1 dX11_item_9 (by decide) (fun _ => ?_) (fun c3444 => False.elim (by have z0 := kz_nlt c3440; have z1 := kz_nle c3444; have t0 : (0 : Int32).toInt = 0 := (by decide); omega))
    refine lv_iconst (v := 0) C.1 C.2.1 dX11_item_16 (by decide) ?_
    refine lv_istore_n (lv' := [(3, .int 0), (0, .ref h0), (1, .int x0), (2, .int x1)]) C.1 C.2.1 dX11_item_17 rfl hl (by decide) rfl (fun ls hl => ?_)
    refine lv_iload_n C.1 C.2.1 dX11_item_18 rfl (lv_at hl 3 rfl) ?_
    refine lv_bipush (v := 20) C.1 C.2.1 dX11_item_19 (by decide) ?_
    refine lv_icmp_lt (tgt := 34) C.1 C.2.1 dX11_item_21 (by decide) (fun c3445 => ?_) (fun c3445 => ?_)
    · refine lv_iconst (v := 0) C.1 C.2.1 dX11_item_34 (by decide) ?_
      refine lv_istore (lv' := [(4, .int 0), (3, .int 0), (0, .ref h0), (1, .int x0), (2, .int x1)]) C.1 C.2.1 dX11_item_35 hl (by decide) rfl (fun ls hl => ?_)
      refine lv_iload_n C.1 C.2.1 dX11_item_37 rfl (lv_at hl 1 rfl) ?_
      refine lv_if_ne (tgt := 48) C.1 C.2.1 dX11_item_38 (by decide) (fun c3446 => absurd c3446 (by decide)) (fun _ => ?_)
      refine lv_iload C.1 C.2.1 dX11_item_41 (lv_at hl 0 rfl) ?_
      refine lv_if_ne (tgt := 48) C.1 C.2.1 dX11_item_43 (by decide) (fun c3447 => absurd c3447 (by decide)) (fun _ => ?_)
      refine lv_iconst (v := (-1)) C.1 C.2.1 dX11_item_46 (by decide) ?_
      exact k_zretP C hr hlk rfl (Or.inr (Or.inl (⟨c3440, c3445, rfl⟩))) dX11_item_47
    · refine lv_iload_n C.1 C.2.1 dX11_item_24 rfl (lv_at hl 3 rfl) ?_
      refine lv_bipush (v := 24) C.1 C.2.1 dX11_item_25 (by decide) ?_
      refine lv_icmp_gt (tgt := 34) C.1 C.2.1 dX11_item_27 (by decide) (fun c3448 => ?_) (fun c3448 => ?_)
      · refine lv_iconst (v := 0) C.1 C.2.1 dX11_item_34 (by decide) ?_
        refine lv_istore (lv' := [(4, .int 0), (3, .int 0), (0, .ref h0), (1, .int x0), (2, .int x1)]) C.1 C.2.1 dX11_item_35 hl (by decide) rfl (fun ls hl => ?_)
        refine lv_iload_n C.1 C.2.1 dX11_item_37 rfl (lv_at hl 1 rfl) ?_
        refine lv_if_ne (tgt := 48) C.1 C.2.1 dX11_item_38 (by decide) (fun c3449 => absurd c3449 (by decide)) (fun _ => ?_)
        refine lv_iload C.1 C.2.1 dX11_item_41 (lv_at hl 0 rfl) ?_
        refine lv_if_ne (tgt := 48) C.1 C.2.1 dX11_item_43 (by decide) (fun c3450 => absurd c3450 (by decide)) (fun _ => ?_)
        refine lv_iconst (v := (-1)) C.1 C.2.1 dX11_item_46 (by decide) ?_
        exact k_zretP C hr hlk rfl (Or.inr (Or.inr (Or.inl (⟨c3440, c3445, c3448, rfl⟩)))) dX11_item_47
      · refine lv_iconst (v := 1) C.1 C.2.1 dX11_item_30 (by decide) ?_
        refine lv_goto (tgt := 35) C.1 C.2.1 dX11_item_31 (by decide) ?_
        refine lv_istore (lv' := [(4, .int 1), (3, .int 0), (0, .ref h0), (1, .int x0), (2, .int x1)]) C.1 C.2.1 dX11_item_35 hl (by decide) rfl (fun ls hl => ?_)
        refine lv_iload_n C.1 C.2.1 dX11_item_37 rfl (lv_at hl 1 rfl) ?_
        refine lv_if_ne (tgt := 48) C.1 C.2.1 dX11_item_38 (by decide) (fun c3451 => absurd c3451 (by decide)) (fun _ => ?_)
        refine lv_iload C.1 C.2.1 dX11_item_41 (lv_at hl 0 rfl) ?_
        refine lv_if_ne (tgt := 48) C.1 C.2.1 dX11_item_43 (by decide) (fun _ => ?_) (fun c3452 => absurd c3452 (by decide))
        refine lv_aload_n C.1 C.2.1 dX11_item_48 rfl (lv_at hl 2 rfl) ?_
        refine k_get C Wd KX11 0 6 rfl (by decide) fl_X11_50 rfl dX11_item_49 ?_
        refine lv_iload_n C.1 C.2.1 dX11_item_52 rfl (lv_at hl 3 rfl) ?_
        refine lv_iload_n C.1 C.2.1 dX11_item_53 rfl (lv_at hl 4 rfl) ?_
        refine k_pi (k_runV (rest := []) C aks Wd cs_X11_191 (kcX4_addItem l D h6 x0 x1 _ as0 c3440 c3445 c3448) [] rfl (by decide) [] rfl 1 4 rfl rfl rfl rfl rfl ⟨(Nat.le_of_ble_eq_true rfl), (Nat.le_of_ble_eq_true rfl)⟩ hl.1 rfl rfl (Nat.le_of_ble_eq_true rfl) ⟨(Nat.le_of_ble_eq_true rfl), (Nat.le_of_ble_eq_true rfl)⟩ dX11_item_54) (fun r w3453 => ?_)
        obtain ⟨c3454, rfl⟩ := w3453
        exact k_zretP C hr hlk rfl (Or.inr (Or.inr (Or.inr (⟨c3440, c3445, c3448, c3454, rfl⟩)))) dX11_item_57
set_option maxHeartbeats 4000000 in
set_option maxRecDepth 100000 in
theorem kcX4_addItem_v1 (l : Launch) (D : va_G) (h0 : Nat) (x0 x1 : Int32) (sz : Nat)  (as0 : ¬ x0 < (6 : Int32)) (as1 : ¬ x1 < (0 : Int32)) (as2 : ¬ x1 < (20 : Int32)) (as3 : ¬ (24 : Int32) < x1): Met l yX4_addItem (Cond.code yX4_addItem cX4_addItem 3 (some .int) :: gG) { frames := 2, cells := 0, slots := 0, locals := 84 } (cPre D [] [] sz [.ref h0, .int x0, .int x1]) (vp_Si (fun r => ¬ x0 < (0 : Int32) ∧ (6 : Int32) ≤ x0 ∧ r = (-1))) 0 0 (fun _ => False) := by
  refine Met.ofW (cc := cX4_addItem) (maxL := 3) (ret := (some .int)) (by decide) rfl ?_
  intro p e s m args below meth c s₁ B hml hv
  obtain ⟨rfl, aks, rfl, Wd⟩ := k_enter hv
  have C : CallFix p m c cX4_addItem 3 s _ gG RX4 := ⟨B.exec, B.bytes, hml, findClass_of_methodNamed B.named, fun w h => atoms_spec (ws := Cond.code yX4_addItem cX4_addItem 3 (some .int) :: gG) B.pre w (List.mem_cons_of_mem _ h)⟩
  have hr := B.returns
  have hlk := B.notSynchronized
  obtain ⟨A, Wd⟩ : ∃ A, wX D [] s [] s.heap A s.heap [] := ⟨_, Wd⟩
  refine k_locals (Nat.le_of_ble_eq_true rfl) [(0, .ref h0), (1, .int x0), (2, .int x1)] rfl (fun ls hl => ?_)
  refine lv_iload_n C.1 C.2.1 dX4_addItem_0 rfl (lv_at hl 1 rfl) ?_
  refine k_pi (k_runS (rest := []) C aks Wd cs_X4_63 (kcX4_isPass l D x0 _ ) [] rfl (by decide) [] rfl rfl rfl ⟨(Nat.le_of_ble_eq_true rfl), (Nat.le_of_ble_eq_true rfl)⟩ hl.1 rfl rfl (Nat.le_of_ble_eq_true rfl) ⟨(Nat.le_of_ble_eq_true rfl), (Nat.le_of_ble_eq_true rfl)⟩ dX4_addItem_1) (fun r w3475 => ?_)
  rcases w3475 with ⟨c3476, rfl⟩ | ⟨c3477, c3478, rfl⟩ | ⟨c3479, c3480, rfl⟩
  · exact False.elim (by have z0 := kz_nlt as0; have z1 := kz_lt c3476; have t6 : (6 : Int32).toInt = 6 := (by decide); have t0 : (0 : Int32).toInt = 0 := (by decide); omega)
  · refine lv_if_eq (tgt := 18) C.1 C.2.1 dX4_addItem_4 (by decide) (fun _ => ?_) (fun c3481 => absurd c3481 (by decide))
    refine lv_iconst (v := (-1)) C.1 C.2.1 dX4_addItem_18 (by decide) ?_
    exact k_zretP C hr hlk rfl ⟨c3477, c3478, rfl⟩ dX4_addItem_19
  · exact False.elim (by have z0 := kz_nlt as0; have z1 := kz_nlt c3479; have z2 := kz_nle c3480; have t6 : (6 : Int32).toInt = 6 := (by decide); have t0 : (0 : Int32).toInt = 0 := (by decide); omega)
set_option maxHeartbeats 4000000 in
set_option maxRecDepth 100000 in
theorem kcX11_item_v1 (l : Launch) (D : va_G) (h0 h1 h2 h3 h4 h5 h6 h7 h24 h25 h26 h27 h28 h29 h30 h31 : Nat) (x0 x1 : Int32) (sz : Nat)  (as0 : ¬ x0 < (6 : Int32)): Met l yX11_item (Cond.code yX11_item cX11_item 5 (some .int) :: gG) { frames := 3, cells := 0, slots := 0, locals := 106 } (cPre D [] [(h0, .inr (11, [.ref h1, .int 0, .ref h2, .ref h3, .ref h4, .ref h5, .ref h6, .ref h7])), (h6, .inr (4, [.ref h24, .ref h25, .ref h26, .int (-1), .int (-1), .ref h27, .ref h28, .ref h29, .ref h30, .ref h31]))] sz [.ref h0, .int x0, .int x1]) (vp_Si (fun r => (x1 < (0 : Int32) ∧ r = (-1)) ∨ (¬ x1 < (0 : Int32) ∧ x1 < (20 : Int32) ∧ r = (-1)) ∨ (¬ x1 < (0 : Int32) ∧ ¬ x1 < (20 : Int32) ∧ (24 : Int32) < x1 ∧ r = (-1)) ∨ (¬ x1 < (0 : Int32) ∧ ¬ x1 < (20 : Int32) ∧ ¬ (24 : Int32) < x1 ∧ ¬ x0 < (0 : Int32) ∧ (6 : Int32) ≤ x0 ∧ r = (-1)))) 0 0 (fun _ => False) := by
  refine Met.ofW (cc := cX11_item) (maxL := 5) (ret := (some .int)) (by decide) rfl ?_
  intro p e s m args below meth c s₁ B hml hv
  obtain ⟨rfl, aks, rfl, Wd⟩ := k_enter hv
  have C : CallFix p m c cX11_item 5 s _ gG RX11 := ⟨B.exec, B.bytes, hml, findClass_of_methodNamed B.named, fun w h => atoms_spec (ws := Cond.code yX11_item cX11_item 5 (some .int) :: gG) B.pre w (List.mem_cons_of_mem _ h)⟩
  have hr := B.returns
  have hlk := B.notSynchronized
  obtain ⟨A, Wd⟩ : ∃ A, wX D [] s [(h0, .inr (11, [.ref h1, .int 0, .ref h2, .ref h3, .ref h4, .ref h5, .ref h6, .ref h7])), (h6, .inr (4, [.ref h24, .ref h25, .ref h26, .int (-1), .int (-1), .ref h27, .ref h28, .ref h29, .ref h30, .ref h31]))] s.heap A s.heap [] := ⟨_, Wd⟩
  refine k_locals (Nat.le_of_ble_eq_true rfl) [(0, .ref h0), (1, .int x0), (2, .int x1)] rfl (fun ls hl => ?_)
  refine lv_iload_n C.1 C.2.1 dX11_item_0 rfl (lv_at hl 2 rfl) ?_
  refine lv_if_lt (tgt := 16) C.1 C.2.1 dX11_item_1 (by decide) (fun c3485 => ?_) (fun c3485 => ?_)
  · refine lv_iconst (v := 0) C.1 C.2.1 dX11_item_16 (by decide) ?_
    refine lv_istore_n (lv' := [(3, .int 0), (0, .ref h0), (1, .int x0), (2, .int x1)]) C.1 C.2.1 dX11_item_17 rfl hl (by decide) rfl (fun ls hl => ?_)
    refine lv_iload_n C.1 C.2.1 dX11_item_18 rfl (lv_at hl 3 rfl) ?_
    refine lv_bipush (v := 20) C.1 C.2.1 dX11_item_19 (by decide) ?_
    refine lv_icmp_lt (tgt := 34) C.1 C.2.1 dX11_item_21 (by decide) (fun _ => ?_) (fun c3486 => False.elim (by have z0 := kz_lt c3485; have z1 := kz_nlt c3486; have t0 : (0 : Int32).toInt = 0 := (by decide); have t20 : (20 : Int32).toInt = 20 := (by decide); omega))
    refine lv_iconst (v := 0) C.1 C.2.1 dX11_item_34 (by decide) ?_
    refine lv_istore (lv' := [(4, .int 0), (3, .int 0), (0, .ref h0), (1, .int x0), (2, .int x1)]) C.1 C.2.1 dX11_item_35 hl (by decide) rfl (fun ls hl => ?_)
    refine lv_iload_n C.1 C.2.1 dX11_item_37 rfl (lv_at hl 1 rfl) ?_
    refine lv_if_ne (tgt := 48) C.1 C.2.1 dX11_item_38 (by decide) (fun c3487 => absurd c3487 (by decide)) (fun _ => ?_)
    refine lv_iload C.1 C.2.1 dX11_item_41 (lv_at hl 0 rfl) ?_
    refine lv_if_ne (tgt := 48) C.1 C.2.1 dX11_item_43 (by decide) (fun c3488 => absurd c3488 (by decide)) (fun _ => ?_)
    refine lv_iconst (v := (-1)) C.1 C.2.1 dX11_item_46 (by decide) ?_
    exact k_zretP C hr hlk rfl (Or.inl (⟨c3485, rfl⟩)) dX11_item_47
  · refine lv_iload_n C.1 C.2.1 dX11_item_4 rfl (lv_at hl 2 rfl) ?_
    refine lv_aload_n C.1 C.2.1 dX11_item_5 rfl (lv_at hl 0 rfl) ?_
    refine k_get C Wd KX11 0 1 rfl (by decide) fl_X11_18 rfl dX11_item_6 ?_
    refine lv_icmp_ge (tgt := 16) C.1 C.2.1 dX11_item_9 (by decide) (fun _ => ?_) (fun c3489 => False.elim (by have z0 := kz_nlt c3485; have z1 := kz_nle c3489; have t0 : (0 : Int32).toInt = 0 := (by decide); omega))
    refine lv_iconst (v := 0) C.1 C.2.1 dX11_item_16 (by decide) ?_
    refine lv_istore_n (lv' := [(3, .int 0), (0, .ref h0), (1, .int x0), (2, .int x1)]) C.1 C.2.1 dX11_item_17 rfl hl (by decide) rfl (fun ls hl => ?_)
    refine lv_iload_n C.1 C.2.1 dX11_item_18 rfl (lv_at hl 3 rfl) ?_
    refine lv_bipush (v := 20) C.1 C.2.1 dX11_item_19 (by decide) ?_
    refine lv_icmp_lt (tgt := 34) C.1 C.2.1 dX11_item_21 (by decide) (fun c3490 => ?_) (fun c3490 => ?_)
    · refine lv_iconst (v := 0) C.1 C.2.1 dX11_item_34 (by decide) ?_
      refine lv_istore (lv' := [(4, .int 0), (3, .int 0), (0, .ref h0), (1, .int x0), (2, .int x1)]) C.1 C.2.1 dX11_item_35 hl (by decide) rfl (fun ls hl => ?_)
      refine lv_iload_n C.1 C.2.1 dX11_item_37 rfl (lv_at hl 1 rfl) ?_
      refine lv_if_ne (tgt := 48) C.1 C.2.1 dX11_item_38 (by decide) (fun c3491 => absurd c3491 (by decide)) (fun _ => ?_)
      refine lv_iload C.1 C.2.1 dX11_item_41 (lv_at hl 0 rfl) ?_
      refine lv_if_ne (tgt := 48) C.1 C.2.1 dX11_item_43 (by decide) (fun c3492 => absurd c3492 (by decide)) (fun _ => ?_)
      refine lv_iconst (v := (-1)) C.1 C.2.1 dX11_item_46 (by decide) ?_
      exact k_zretP C hr hlk rfl (Or.inr (Or.inl (⟨c3485, c3490, rfl⟩))) dX11_item_47
    · refine lv_iload_n C.1 C.2.1 dX11_item_24 rfl (lv_at hl 3 rfl) ?_
      refine lv_bipush (v := 24) C.1 C.2.1 dX11_item_25 (by decide) ?_
      refine lv_icmp_gt (tgt := 34) C.1 C.2.1 dX11_item_27 (by decide) (fun c3493 => ?_) (fun c3493 => ?_)
      · refine lv_iconst (v := 0) C.1 C.2.1 dX11_item_34 (by decide) ?_
        refine lv_istore (lv' := [(4, .int 0), (3, .int 0), (0, .ref h0), (1, .int x0), (2, .int x1)]) C.1 C.2.1 dX11_item_35 hl (by decide) rfl (fun ls hl => ?_)
        refine lv_iload_n C.1 C.2.1 dX11_item_37 rfl (lv_at hl 1 rfl) ?_
        refine lv_if_ne (tgt := 48) C.1 C.2.1 dX11_item_38 (by decide) (fun c3494 => absurd c3494 (by decide)) (fun _ => ?_)
        refine lv_iload C.1 C.2.1 dX11_item_41 (lv_at hl 0 rfl) ?_
        refine lv_if_ne (tgt := 48) C.1 C.2.1 dX11_item_43 (by decide) (fun c3495 => absurd c3495 (by decide)) (fun _ => ?_)
        refine lv_iconst (v := (-1)) C.1 C.2.1 dX11_item_46 (by decide) ?_
        exact k_zretP C hr hlk rfl (Or.inr (Or.inr (Or.inl (⟨c3485, c3490, c3493, rfl⟩)))) dX11_item_47
      · refine lv_iconst (v := 1) C.1 C.2.1 dX11_item_30 (by decide) ?_
        refine lv_goto (tgt := 35) C.1 C.2.1 dX11_item_31 (by decide) ?_
        refine lv_istore (lv' := [(4, .int 1), (3, .int 0), (0, .ref h0), (1, .int x0), (2, .int x1)]) C.1 C.2.1 dX11_item_35 hl (by decide) rfl (fun ls hl => ?_)
        refine lv_iload_n C.1 C.2.1 dX11_item_37 rfl (lv_at hl 1 rfl) ?_
        refine lv_if_ne (tgt := 48) C.1 C.2.1 dX11_item_38 (by decide) (fun c3496 => absurd c3496 (by decide)) (fun _ => ?_)
        refine lv_iload C.1 C.2.1 dX11_item_41 (lv_at hl 0 rfl) ?_
        refine lv_if_ne (tgt := 48) C.1 C.2.1 dX11_item_43 (by decide) (fun _ => ?_) (fun c3497 => absurd c3497 (by decide))
        refine lv_aload_n C.1 C.2.1 dX11_item_48 rfl (lv_at hl 2 rfl) ?_
        refine k_get C Wd KX11 0 6 rfl (by decide) fl_X11_50 rfl dX11_item_49 ?_
        refine lv_iload_n C.1 C.2.1 dX11_item_52 rfl (lv_at hl 3 rfl) ?_
        refine lv_iload_n C.1 C.2.1 dX11_item_53 rfl (lv_at hl 4 rfl) ?_
        refine k_pi (k_runV (rest := []) C aks Wd cs_X11_191 (kcX4_addItem_v1 l D h6 x0 x1 _ as0 c3485 c3490 c3493) [] rfl (by decide) [] rfl 1 4 rfl rfl rfl rfl rfl ⟨(Nat.le_of_ble_eq_true rfl), (Nat.le_of_ble_eq_true rfl)⟩ hl.1 rfl rfl (Nat.le_of_ble_eq_true rfl) ⟨(Nat.le_of_ble_eq_true rfl), (Nat.le_of_ble_eq_true rfl)⟩ dX11_item_54) (fun r w3498 => ?_)
        obtain ⟨c3499, c3500, rfl⟩ := w3498
        exact k_zretP C hr hlk rfl (Or.inr (Or.inr (Or.inr (⟨c3485, c3490, c3493, c3499, c3500, rfl⟩)))) dX11_item_57
set_option maxHeartbeats 4000000 in
set_option maxRecDepth 100000 in
theorem kcX4_addItem_v2 (l : Launch) (D : va_G) (h0 h1 h2 h3 h4 h5 h6 h7 h8 h25 : Nat) (x0 x1 : Int32) (g1 : Nat → Option Nat) (a1 a2 a3 : ClassId) (sz : Nat) (k_g1_x0 : g1 x0.toNatClampNeg = some h25) (as0 : ¬ x0 < (0 : Int32)) (as1 : x0 < (6 : Int32)) (as2 : ¬ x1 < (0 : Int32)) (as3 : ¬ x1 < (20 : Int32)) (as4 : ¬ (24 : Int32) < x1): Met l yX4_addItem (Cond.code yX4_addItem cX4_addItem 3 (some .int) :: gG) { frames := 2, cells := 0, slots := 0, locals := 84 } (cPre D [(a1, .array .int), (a2, .int), (a3, .int)] [(h0, .inr (4, [.ref h1, .ref h2, .ref h3, .int (-1), .int (-1), .ref h4, .ref h5, .ref h6, .ref h7, .ref h8])), (h6, .inl (a2, 6, .inl (fun _ => 0))), (h5, .inl (a1, 6, .inr (.inr (.inr (.inr g1))))), (h25, .inl (a3, 8, .inl (fun _ => 0)))] sz [.ref h0, .int x0, .int x1]) (va_Qi (fun (r : Int32) (_ : Unit) => ¬ x0 < (0 : Int32) ∧ ¬ (6 : Int32) ≤ x0 ∧ r = ((upd (fun _ => 0) x0.toNatClampNeg 1) x0.toNatClampNeg)) (fun u t => cB D (va_A [(h0, .inr (4, [.ref h1, .ref h2, .ref h3, .int (-1), .int (-1), .ref h4, .ref h5, .ref h6, .ref h7, .ref h8])), (h6, .inl (a2, 6, .inl (fun _ => 0))), (h5, .inl (a1, 6, .inr (.inr (.inr (.inr g1))))), (h25, .inl (a3, 8, .inl (fun _ => 0)))] sz) ((fun (_ : Unit) => ([] : List (ClassId × FieldType))) u) ((fun (_ : Unit) => ([(h0, .inr (4, [.ref h1, .ref h2, .ref h3, .int (-1), .int (-1), .ref h4, .ref h5, .ref h6, .ref h7, .ref h8])), (h6, .inl (a2, 6, .inl (upd (fun _ => 0) x0.toNatClampNeg 1))), (h5, .inl (a1, 6, .inr (.inr (.inr (.inr g1))))), (h25, .inl (a3, 8, .inl (upd (fun _ => 0) 0 x1)))] : va_W)) u) t) (va_A [(h0, .inr (4, [.ref h1, .ref h2, .ref h3, .int (-1), .int (-1), .ref h4, .ref h5, .ref h6, .ref h7, .ref h8])), (h6, .inl (a2, 6, .inl (fun _ => 0))), (h5, .inl (a1, 6, .inr (.inr (.inr (.inr g1))))), (h25, .inl (a3, 8, .inl (fun _ => 0)))] sz)) 0 0 (va_A [(h0, .inr (4, [.ref h1, .ref h2, .ref h3, .int (-1), .int (-1), .ref h4, .ref h5, .ref h6, .ref h7, .ref h8])), (h6, .inl (a2, 6, .inl (fun _ => 0))), (h5, .inl (a1, 6, .inr (.inr (.inr (.inr g1))))), (h25, .inl (a3, 8, .inl (fun _ => 0)))] sz) := by
  refine Met.ofW (cc := cX4_addItem) (maxL := 3) (ret := (some .int)) (by decide) rfl ?_
  intro p e s m args below meth c s₁ B hml hv
  obtain ⟨rfl, aks, rfl, Wd⟩ := k_enter hv
  have C : CallFix p m c cX4_addItem 3 s _ gG RX4 := ⟨B.exec, B.bytes, hml, findClass_of_methodNamed B.named, fun w h => atoms_spec (ws := Cond.code yX4_addItem cX4_addItem 3 (some .int) :: gG) B.pre w (List.mem_cons_of_mem _ h)⟩
  have hr := B.returns
  have hlk := B.notSynchronized
  generalize va_A [(h0, .inr (4, [.ref h1, .ref h2, .ref h3, .int (-1), .int (-1), .ref h4, .ref h5, .ref h6, .ref h7, .ref h8])), (h6, .inl (a2, 6, .inl (fun _ => 0))), (h5, .inl (a1, 6, .inr (.inr (.inr (.inr g1))))), (h25, .inl (a3, 8, .inl (fun _ => 0)))] s.heap.size = A at Wd ⊢
  refine k_locals (Nat.le_of_ble_eq_true rfl) [(0, .ref h0), (1, .int x0), (2, .int x1)] rfl (fun ls hl => ?_)
  refine lv_iload_n C.1 C.2.1 dX4_addItem_0 rfl (lv_at hl 1 rfl) ?_
  refine k_pi (k_runS (rest := []) C aks Wd cs_X4_63 (kcX4_isPass l D x0 _ ) [] rfl (by decide) [] rfl rfl rfl ⟨(Nat.le_of_ble_eq_true rfl), (Nat.le_of_ble_eq_true rfl)⟩ hl.1 rfl rfl (Nat.le_of_ble_eq_true rfl) ⟨(Nat.le_of_ble_eq_true rfl), (Nat.le_of_ble_eq_true rfl)⟩ dX4_addItem_1) (fun r w3522 => ?_)
  rcases w3522 with ⟨c3523, rfl⟩ | ⟨c3524, c3525, rfl⟩ | ⟨c3526, c3527, rfl⟩
  · exact False.elim (by have z0 := kz_nlt as0; have z1 := kz_lt as1; have z2 := kz_lt c3523; have t0 : (0 : Int32).toInt = 0 := (by decide); have t6 : (6 : Int32).toInt = 6 := (by decide); omega)
  · exact False.elim (by have z0 := kz_nlt as0; have z1 := kz_lt as1; have z2 := kz_nlt c3524; have z3 := kz_le c3525; have t0 : (0 : Int32).toInt = 0 := (by decide); have t6 : (6 : Int32).toInt = 6 := (by decide); omega)
  · refine lv_if_eq (tgt := 18) C.1 C.2.1 dX4_addItem_4 (by decide) (fun c3528 => absurd c3528 (by decide)) (fun _ => ?_)
    refine lv_aload_n C.1 C.2.1 dX4_addItem_7 rfl (lv_at hl 0 rfl) ?_
    refine k_get C Wd KX4 0 7 rfl (by decide) fl_X4_23 rfl dX4_addItem_8 ?_
    refine lv_iload_n C.1 C.2.1 dX4_addItem_11 rfl (lv_at hl 1 rfl) ?_
    refine k_iald (v := 0) C Wd 1 1 rfl rfl (vp_in_iff.mpr ⟨by have z0 := kz_nlt as0; have z1 := kz_lt as1; have z2 := kz_nlt c3526; have z3 := kz_nle c3527; have t0 : (0 : Int32).toInt = 0 := (by decide); have t6 : (6 : Int32).toInt = 6 := (by decide); omega, by have z0 := kz_nlt as0; have z1 := kz_lt as1; have z2 := kz_nlt c3526; have z3 := kz_nle c3527; have t0 : (0 : Int32).toInt = 0 := (by decide); have t6 : (6 : Int32).toInt = 6 := (by decide); omega⟩) rfl dX4_addItem_12 ?_
    refine lv_bipush (v := 8) C.1 C.2.1 dX4_addItem_13 (by decide) ?_
    refine lv_icmp_lt (tgt := 20) C.1 C.2.1 dX4_addItem_15 (by decide) (fun _ => ?_) (fun c3529 => absurd c3529 (by decide))
    refine lv_aload_n C.1 C.2.1 dX4_addItem_20 rfl (lv_at hl 0 rfl) ?_
    refine k_get C Wd KX4 0 6 rfl (by decide) fl_X4_20 rfl dX4_addItem_21 ?_
    refine lv_iload_n C.1 C.2.1 dX4_addItem_24 rfl (lv_at hl 1 rfl) ?_
    refine k_aldg (v := .ref h25) C Wd 2 0 rfl rfl (vp_in_iff.mpr ⟨by have z0 := kz_nlt as0; have z1 := kz_lt as1; have z2 := kz_nlt c3526; have z3 := kz_nle c3527; have t0 : (0 : Int32).toInt = 0 := (by decide); have t6 : (6 : Int32).toInt = 6 := (by decide); omega, by have z0 := kz_nlt as0; have z1 := kz_lt as1; have z2 := kz_nlt c3526; have z3 := kz_nle c3527; have t0 : (0 : Int32).toInt = 0 := (by decide); have t6 : (6 : Int32).toInt = 6 := (by decide); omega⟩) (congrArg va_rf k_g1_x0) dX4_addItem_25 ?_
    refine lv_aload_n C.1 C.2.1 dX4_addItem_26 rfl (lv_at hl 0 rfl) ?_
    refine k_get C Wd KX4 0 7 rfl (by decide) fl_X4_23 rfl dX4_addItem_27 ?_
    refine lv_iload_n C.1 C.2.1 dX4_addItem_30 rfl (lv_at hl 1 rfl) ?_
    refine k_iald (v := 0) C Wd 1 1 rfl rfl (vp_in_iff.mpr ⟨by have z0 := kz_nlt as0; have z1 := kz_lt as1; have z2 := kz_nlt c3526; have z3 := kz_nle c3527; have t0 : (0 : Int32).toInt = 0 := (by decide); have t6 : (6 : Int32).toInt = 6 := (by decide); omega, by have z0 := kz_nlt as0; have z1 := kz_lt as1; have z2 := kz_nlt c3526; have z3 := kz_nle c3527; have t0 : (0 : Int32).toInt = 0 := (by decide); have t6 : (6 : Int32).toInt = 6 := (by decide); omega⟩) rfl dX4_addItem_31 ?_
    refine lv_iload_n C.1 C.2.1 dX4_addItem_32 rfl (lv_at hl 2 rfl) ?_
    refine k_iast C Wd 3 2 [(h0, .inr (4, [.ref h1, .ref h2, .ref h3, .int (-1), .int (-1), .ref h4, .ref h5, .ref h6, .ref h7, .ref h8])), (h6, .inl (a2, 6, .inl (fun _ => 0))), (h5, .inl (a1, 6, .inr (.inr (.inr (.inr g1))))), (h25, .inl (a3, 8, .inl (upd (fun _ => 0) 0 x1)))] rfl rfl (vp_in_iff.mpr (by decide)) rfl rfl dX4_addItem_33 (fun H locs Wd => ?_)
    refine lv_aload_n C.1 C.2.1 dX4_addItem_34 rfl (lv_at hl 0 rfl) ?_
    refine k_get C Wd KX4 0 7 rfl (by decide) fl_X4_23 rfl dX4_addItem_35 ?_
    refine lv_iload_n C.1 C.2.1 dX4_addItem_38 rfl (lv_at hl 1 rfl) ?_
    refine lv_dup2_11 C.1 C.2.1 dX4_addItem_39 rfl rfl ?_
    refine k_iald (v := 0) C Wd 1 1 rfl rfl (vp_in_iff.mpr ⟨by have z0 := kz_nlt as0; have z1 := kz_lt as1; have z2 := kz_nlt c3526; have z3 := kz_nle c3527; have t0 : (0 : Int32).toInt = 0 := (by decide); have t6 : (6 : Int32).toInt = 6 := (by decide); omega, by have z0 := kz_nlt as0; have z1 := kz_lt as1; have z2 := kz_nlt c3526; have z3 := kz_nle c3527; have t0 : (0 : Int32).toInt = 0 := (by decide); have t6 : (6 : Int32).toInt = 6 := (by decide); omega⟩) rfl dX4_addItem_40 ?_
    refine lv_iconst (v := 1) C.1 C.2.1 dX4_addItem_41 (by decide) ?_
    refine k_iadd (v := 1) C (by decide) dX4_addItem_42 ?_
    refine k_iast C Wd 1 1 [(h0, .inr (4, [.ref h1, .ref h2, .ref h3, .int (-1), .int (-1), .ref h4, .ref h5, .ref h6, .ref h7, .ref h8])), (h6, .inl (a2, 6, .inl (upd (fun _ => 0) x0.toNatClampNeg 1))), (h5, .inl (a1, 6, .inr (.inr (.inr (.inr g1))))), (h25, .inl (a3, 8, .inl (upd (fun _ => 0) 0 x1)))] rfl rfl (vp_in_iff.mpr ⟨by have z0 := kz_nlt as0; have z1 := kz_lt as1; have z2 := kz_nlt c3526; have z3 := kz_nle c3527; have t0 : (0 : Int32).toInt = 0 := (by decide); have t6 : (6 : Int32).toInt = 6 := (by decide); omega, by have z0 := kz_nlt as0; have z1 := kz_lt as1; have z2 := kz_nlt c3526; have z3 := kz_nle c3527; have t0 : (0 : Int32).toInt = 0 := (by decide); have t6 : (6 : Int32).toInt = 6 := (by decide); omega⟩) rfl rfl dX4_addItem_43 (fun H locs Wd => ?_)
    refine lv_aload_n C.1 C.2.1 dX4_addItem_44 rfl (lv_at hl 0 rfl) ?_
    refine k_get C Wd KX4 0 7 rfl (by decide) fl_X4_23 rfl dX4_addItem_45 ?_
    refine lv_iload_n C.1 C.2.1 dX4_addItem_48 rfl (lv_at hl 1 rfl) ?_
    refine k_iald (v := ((upd (fun _ => 0) x0.toNatClampNeg 1) x0.toNatClampNeg)) C Wd 1 1 rfl rfl (vp_in_iff.mpr ⟨by have z0 := kz_nlt as0; have z1 := kz_lt as1; have z2 := kz_nlt c3526; have z3 := kz_nle c3527; have t0 : (0 : Int32).toInt = 0 := (by decide); have t6 : (6 : Int32).toInt = 6 := (by decide); omega, by have z0 := kz_nlt as0; have z1 := kz_lt as1; have z2 := kz_nlt c3526; have z3 := kz_nle c3527; have t0 : (0 : Int32).toInt = 0 := (by decide); have t6 : (6 : Int32).toInt = 6 := (by decide); omega⟩) rfl dX4_addItem_49 ?_
    exact k_zret C hr hlk rfl Wd () ⟨c3526, c3527, rfl⟩ [0, 1, 2, 3] rfl (by decide) [] rfl (by decide) (by decide) dX4_addItem_50
set_option maxHeartbeats 4000000 in
set_option maxRecDepth 100000 in
theorem kcX11_item_v2 (l : Launch) (D : va_G) (h0 h1 h2 h3 h4 h5 h6 h7 h24 h25 h26 h27 h28 h29 h30 h31 h72 : Nat) (x0 x1 : Int32) (g2 : Nat → Option Nat) (a4 a5 a17 : ClassId) (sz : Nat) (k_g2_x0 : g2 x0.toNatClampNeg = some h72) (as0 : ¬ x0 < (0 : Int32)) (as1 : x0 < (6 : Int32)): Met l yX11_item (Cond.code yX11_item cX11_item 5 (some .int) :: gG) { frames := 3, cells := 0, slots := 0, locals := 106 } (cPre D [(a4, .array .int), (a5, .int), (a17, .int)] [(h0, .inr (11, [.ref h1, .int 0, .ref h2, .ref h3, .ref h4, .ref h5, .ref h6, .ref h7])), (h6, .inr (4, [.ref h24, .ref h25, .ref h26, .int (-1), .int (-1), .ref h27, .ref h28, .ref h29, .ref h30, .ref h31])), (h29, .inl (a5, 6, .inl (fun _ => 0))), (h28, .inl (a4, 6, .inr (.inr (.inr (.inr g2))))), (h72, .inl (a17, 8, .inl (fun _ => 0)))] sz [.ref h0, .int x0, .int x1]) (va_Qi (fun (r : Int32) (_ : Unit) => (x1 < (0 : Int32) ∧ r = (-1)) ∨ (¬ x1 < (0 : Int32) ∧ x1 < (20 : Int32) ∧ r = (-1)) ∨ (¬ x1 < (0 : Int32) ∧ ¬ x1 < (20 : Int32) ∧ (24 : Int32) < x1 ∧ r = (-1)) ∨ (¬ x1 < (0 : Int32) ∧ ¬ x1 < (20 : Int32) ∧ ¬ (24 : Int32) < x1 ∧ ¬ x0 < (0 : Int32) ∧ ¬ (6 : Int32) ≤ x0 ∧ r = ((upd (fun _ => 0) x0.toNatClampNeg 1) x0.toNatClampNeg))) (fun u t => cB D (va_A [(h0, .inr (11, [.ref h1, .int 0, .ref h2, .ref h3, .ref h4, .ref h5, .ref h6, .ref h7])), (h6, .inr (4, [.ref h24, .ref h25, .ref h26, .int (-1), .int (-1), .ref h27, .ref h28, .ref h29, .ref h30, .ref h31])), (h29, .inl (a5, 6, .inl (fun _ => 0))), (h28, .inl (a4, 6, .inr (.inr (.inr (.inr g2))))), (h72, .inl (a17, 8, .inl (fun _ => 0)))] sz) ((fun (_ : Unit) => ([] : List (ClassId × FieldType))) u) ((fun (_ : Unit) => ([] : va_W)) u) t) (va_A [(h0, .inr (11, [.ref h1, .int 0, .ref h2, .ref h3, .ref h4, .ref h5, .ref h6, .ref h7])), (h6, .inr (4, [.ref h24, .ref h25, .ref h26, .int (-1), .int (-1), .ref h27, .ref h28, .ref h29, .ref h30, .ref h31])), (h29, .inl (a5, 6, .inl (fun _ => 0))), (h28, .inl (a4, 6, .inr (.inr (.inr (.inr g2))))), (h72, .inl (a17, 8, .inl (fun _ => 0)))] sz)) 0 0 (va_A [(h0, .inr (11, [.ref h1, .int 0, .ref h2, .ref h3, .ref h4, .ref h5, .ref h6, .ref h7])), (h6, .inr (4, [.ref h24, .ref h25, .ref h26, .int (-1), .int (-1), .ref h27, .ref h28, .ref h29, .ref h30, .ref h31])), (h29, .inl (a5, 6, .inl (fun _ => 0))), (h28, .inl (a4, 6, .inr (.inr (.inr (.inr g2))))), (h72, .inl (a17, 8, .inl (fun _ => 0)))] sz) := by
  refine Met.ofW (cc := cX11_item) (maxL := 5) (ret := (some .int)) (by decide) rfl ?_
  intro p e s m args below meth c s₁ B hml hv
  obtain ⟨rfl, aks, rfl, Wd⟩ := k_enter hv
  have C : CallFix p m c cX11_item 5 s _ gG RX11 := ⟨B.exec, B.bytes, hml, findClass_of_methodNamed B.named, fun w h => atoms_spec (ws := Cond.code yX11_item cX11_item 5 (some .int) :: gG) B.pre w (List.mem_cons_of_mem _ h)⟩
  have hr := B.returns
  have hlk := B.notSynchronized
  generalize va_A [(h0, .inr (11, [.ref h1, .int 0, .ref h2, .ref h3, .ref h4, .ref h5, .ref h6, .ref h7])), (h6, .inr (4, [.ref h24, .ref h25, .ref h26, .int (-1), .int (-1), .ref h27, .ref h28, .ref h29, .ref h30, .ref h31])), (h29, .inl (a5, 6, .inl (fun _ => 0))), (h28, .inl (a4, 6, .inr (.inr (.inr (.inr g2))))), (h72, .inl (a17, 8, .inl (fun _ => 0)))] s.heap.size = A at Wd ⊢
  refine k_locals (Nat.le_of_ble_eq_true rfl) [(0, .ref h0), (1, .int x0), (2, .int x1)] rfl (fun ls hl => ?_)
  refine lv_iload_n C.1 C.2.1 dX11_item_0 rfl (lv_at hl 2 rfl) ?_
  refine lv_if_lt (tgt := 16) C.1 C.2.1 dX11_item_1 (by decide) (fun c3533 => ?_) (fun c3533 => ?_)
  · refine lv_iconst (v := 0) C.1 C.2.1 dX11_item_16 (by decide) ?_
    refine lv_istore_n (lv' := [(3, .int 0), (0, .ref h0), (1, .int x0), (2, .int x1)]) C.1 C.2.1 dX11_item_17 rfl hl (by decide) rfl (fun ls hl => ?_)
    refine lv_iload_n C.1 C.2.1 dX11_item_18 rfl (lv_at hl 3 rfl) ?_
    refine lv_bipush (v := 20) C.1 C.2.1 dX11_item_19 (by decide) ?_
    refine lv_icmp_lt (tgt := 34) C.1 C.2.1 dX11_item_21 (by decide) (fun _ => ?_) (fun c3534 => False.elim (by have z0 := kz_lt c3533; have z1 := kz_nlt c3534; have t0 : (0 : Int32).toInt = 0 := (by decide); have t20 : (20 : Int32).toInt = 20 := (by decide); omega))
    refine lv_iconst (v := 0) C.1 C.2.1 dX11_item_34 (by decide) ?_
    refine lv_istore (lv' := [(4, .int 0), (3, .int 0), (0, .ref h0), (1, .int x0), (2, .int x1)]) C.1 C.2.1 dX11_item_35 hl (by decide) rfl (fun ls hl => ?_)
    refine lv_iload_n C.1 C.2.1 dX11_item_37 rfl (lv_at hl 1 rfl) ?_
    refine lv_if_ne (tgt := 48) C.1 C.2.1 dX11_item_38 (by decide) (fun c3535 => absurd c3535 (by decide)) (fun _ => ?_)
    refine lv_iload C.1 C.2.1 dX11_item_41 (lv_at hl 0 rfl) ?_
    refine lv_if_ne (tgt := 48) C.1 C.2.1 dX11_item_43 (by decide) (fun c3536 => absurd c3536 (by decide)) (fun _ => ?_)
    refine lv_iconst (v := (-1)) C.1 C.2.1 dX11_item_46 (by decide) ?_
    exact k_zret C hr hlk rfl Wd () (Or.inl (⟨c3533, rfl⟩)) [] rfl (by decide) [] rfl (by decide) (by decide) dX11_item_47
  · refine lv_iload_n C.1 C.2.1 dX11_item_4 rfl (lv_at hl 2 rfl) ?_
    refine lv_aload_n C.1 C.2.1 dX11_item_5 rfl (lv_at hl 0 rfl) ?_
    refine k_get C Wd KX11 0 1 rfl (by decide) fl_X11_18 rfl dX11_item_6 ?_
    refine lv_icmp_ge (tgt := 16) C.1 C.2.1 dX11_item_9 (by decide) (fun _ => ?_) (fun c3537 => False.elim (by have z0 := kz_nlt c3533; have z1 := kz_nle c3537; have t0 : (0 : Int32).toInt = 0 := (by decide); omega))
    refine lv_iconst (v := 0) C.1 C.2.1 dX11_item_16 (by decide) ?_
    refine lv_istore_n (lv' := [(3, .int 0), (0, .ref h0), (1, .int x0), (2, .int x1)]) C.1 C.2.1 dX11_item_17 rfl hl (by decide) rfl (fun ls hl => ?_)
    refine lv_iload_n C.1 C.2.1 dX11_item_18 rfl (lv_at hl 3 rfl) ?_
    refine lv_bipush (v := 20) C.1 C.2.1 dX11_item_19 (by decide) ?_
    refine lv_icmp_lt (tgt := 34) C.1 C.2.1 dX11_item_21 (by decide) (fun c3538 => ?_) (fun c3538 => ?_)
    · refine lv_iconst (v := 0) C.1 C.2.1 dX11_item_34 (by decide) ?_
      refine lv_istore (lv' := [(4, .int 0), (3, .int 0), (0, .ref h0), (1, .int x0), (2, .int x1)]) C.1 C.2.1 dX11_item_35 hl (by decide) rfl (fun ls hl => ?_)
      refine lv_iload_n C.1 C.2.1 dX11_item_37 rfl (lv_at hl 1 rfl) ?_
      refine lv_if_ne (tgt := 48) C.1 C.2.1 dX11_item_38 (by decide) (fun c3539 => absurd c3539 (by decide)) (fun _ => ?_)
      refine lv_iload C.1 C.2.1 dX11_item_41 (lv_at hl 0 rfl) ?_
      refine lv_if_ne (tgt := 48) C.1 C.2.1 dX11_item_43 (by decide) (fun c3540 => absurd c3540 (by decide)) (fun _ => ?_)
      refine lv_iconst (v := (-1)) C.1 C.2.1 dX11_item_46 (by decide) ?_
      exact k_zret C hr hlk rfl Wd () (Or.inr (Or.inl (⟨c3533, c3538, rfl⟩))) [] rfl (by decide) [] rfl (by decide) (by decide) dX11_item_47
    · refine lv_iload_n C.1 C.2.1 dX11_item_24 rfl (lv_at hl 3 rfl) ?_
      refine lv_bipush (v := 24) C.1 C.2.1 dX11_item_25 (by decide) ?_
      refine lv_icmp_gt (tgt := 34) C.1 C.2.1 dX11_item_27 (by decide) (fun c3541 => ?_) (fun c3541 => ?_)
      · refine lv_iconst (v := 0) C.1 C.2.1 dX11_item_34 (by decide) ?_
        refine lv_istore (lv' := [(4, .int 0), (3, .int 0), (0, .ref h0), (1, .int x0), (2, .int x1)]) C.1 C.2.1 dX11_item_35 hl (by decide) rfl (fun ls hl => ?_)
        refine lv_iload_n C.1 C.2.1 dX11_item_37 rfl (lv_at hl 1 rfl) ?_
        refine lv_if_ne (tgt := 48) C.1 C.2.1 dX11_item_38 (by decide) (fun c3542 => absurd c3542 (by decide)) (fun _ => ?_)
        refine lv_iload C.1 C.2.1 dX11_item_41 (lv_at hl 0 rfl) ?_
        refine lv_if_ne (tgt := 48) C.1 C.2.1 dX11_item_43 (by decide) (fun c3543 => absurd c3543 (by decide)) (fun _ => ?_)
        refine lv_iconst (v := (-1)) C.1 C.2.1 dX11_item_46 (by decide) ?_
        exact k_zret C hr hlk rfl Wd () (Or.inr (Or.inr (Or.inl (⟨c3533, c3538, c3541, rfl⟩)))) [] rfl (by decide) [] rfl (by decide) (by decide) dX11_item_47
      · refine lv_iconst (v := 1) C.1 C.2.1 dX11_item_30 (by decide) ?_
        refine lv_goto (tgt := 35) C.1 C.2.1 dX11_item_31 (by decide) ?_
        refine lv_istore (lv' := [(4, .int 1), (3, .int 0), (0, .ref h0), (1, .int x0), (2, .int x1)]) C.1 C.2.1 dX11_item_35 hl (by decide) rfl (fun ls hl => ?_)
        refine lv_iload_n C.1 C.2.1 dX11_item_37 rfl (lv_at hl 1 rfl) ?_
        refine lv_if_ne (tgt := 48) C.1 C.2.1 dX11_item_38 (by decide) (fun c3544 => absurd c3544 (by decide)) (fun _ => ?_)
        refine lv_iload C.1 C.2.1 dX11_item_41 (lv_at hl 0 rfl) ?_
        refine lv_if_ne (tgt := 48) C.1 C.2.1 dX11_item_43 (by decide) (fun _ => ?_) (fun c3545 => absurd c3545 (by decide))
        refine lv_aload_n C.1 C.2.1 dX11_item_48 rfl (lv_at hl 2 rfl) ?_
        refine k_get C Wd KX11 0 6 rfl (by decide) fl_X11_50 rfl dX11_item_49 ?_
        refine lv_iload_n C.1 C.2.1 dX11_item_52 rfl (lv_at hl 3 rfl) ?_
        refine lv_iload_n C.1 C.2.1 dX11_item_53 rfl (lv_at hl 4 rfl) ?_
        refine k_ci Wd [1, 2, 3, 4] [0] rfl (wr := [(h0, .inr (11, [.ref h1, .int 0, .ref h2, .ref h3, .ref h4, .ref h5, .ref h6, .ref h7]))]) rfl (by decide) (by decide) (cells' := 0) (slots' := 0) (by decide) (by decide) (k_runV (rest := []) C aks Wd cs_X11_191 (kcX4_addItem_v2 l D h6 h24 h25 h26 h27 h28 h29 h30 h31 h72 x0 x1 g2 a4 a5 a17 _ k_g2_x0 as0 as1 c3533 c3538 c3541) [1, 2, 3, 4] rfl (by decide) [0, 1, 2] rfl 1 4 rfl rfl rfl rfl rfl ⟨(Nat.le_of_ble_eq_true rfl), (Nat.le_of_ble_eq_true rfl)⟩ hl.1 rfl rfl (Nat.le_of_ble_eq_true rfl) ⟨(Nat.le_of_ble_eq_true rfl), (Nat.le_of_ble_eq_true rfl)⟩ dX11_item_54) (fun r _ H locs w3546 Wd => ?_)
        have Wd : wX D [(a4, .array .int), (a5, .int), (a17, .int)] s [(h0, .inr (11, [.ref h1, .int 0, .ref h2, .ref h3, .ref h4, .ref h5, .ref h6, .ref h7])), (h6, .inr (4, [.ref h24, .ref h25, .ref h26, .int (-1), .int (-1), .ref h27, .ref h28, .ref h29, .ref h30, .ref h31])), (h29, .inl (a5, 6, .inl (upd (fun _ => 0) x0.toNatClampNeg 1))), (h28, .inl (a4, 6, .inr (.inr (.inr (.inr g2))))), (h72, .inl (a17, 8, .inl (upd (fun _ => 0) 0 x1)))] _ A s.heap _ := Wd
        obtain ⟨c3547, c3548, rfl⟩ := w3546
        exact k_zret C hr hlk rfl Wd () (Or.inr (Or.inr (Or.inr (⟨c3533, c3538, c3541, c3547, c3548, rfl⟩)))) [] rfl (by decide) [] rfl (by decide) (by decide) dX11_item_57
set_option maxHeartbeats 4000000 in
set_option maxRecDepth 100000 in
theorem kcX4_dropItems (l : Launch) (D : va_G) (h0 h1 h2 h3 h4 h5 h6 h7 h8 : Nat) (x0 : Int32) (a2 : ClassId) (sz : Nat)  : Met l yX4_dropItems (Cond.code yX4_dropItems cX4_dropItems 2 (some .boolean) :: gG) { frames := 2, cells := 0, slots := 0, locals := 84 } (cPre D [(a2, .int)] [(h0, .inr (4, [.ref h1, .ref h2, .ref h3, .int (-1), .int (-1), .ref h4, .ref h5, .ref h6, .ref h7, .ref h8])), (h6, .inl (a2, 6, .inl (fun _ => 0)))] sz [.ref h0, .int x0]) (va_Qi (fun (r : Int32) (_ : Unit) => (x0 < (0 : Int32) ∧ r = 0) ∨ (¬ x0 < (0 : Int32) ∧ (6 : Int32) ≤ x0 ∧ r = 0) ∨ (¬ x0 < (0 : Int32) ∧ ¬ (6 : Int32) ≤ x0 ∧ r = 1)) (fun u t => cB D (va_A [(h0, .inr (4, [.ref h1, .ref h2, .ref h3, .int (-1), .int (-1), .ref h4, .ref h5, .ref h6, .ref h7, .ref h8])), (h6, .inl (a2, 6, .inl (fun _ => 0)))] sz) ((fun (_ : Unit) => ([] : List (ClassId × FieldType))) u) ((fun (_ : Unit) => ([(h0, .inr (4, [.ref h1, .ref h2, .ref h3, .int (-1), .int (-1), .ref h4, .ref h5, .ref h6, .ref h7, .ref h8])), (h6, .inl (a2, 6, .inl (fun _ => 0)))] : va_W)) u) t) (va_A [(h0, .inr (4, [.ref h1, .ref h2, .ref h3, .int (-1), .int (-1), .ref h4, .ref h5, .ref h6, .ref h7, .ref h8])), (h6, .inl (a2, 6, .inl (fun _ => 0)))] sz)) 0 0 (va_A [(h0, .inr (4, [.ref h1, .ref h2, .ref h3, .int (-1), .int (-1), .ref h4, .ref h5, .ref h6, .ref h7, .ref h8])), (h6, .inl (a2, 6, .inl (fun _ => 0)))] sz) := by
  refine Met.ofW (cc := cX4_dropItems) (maxL := 2) (ret := (some .boolean)) (by decide) rfl ?_
  intro p e s m args below meth c s₁ B hml hv
  obtain ⟨rfl, aks, rfl, Wd⟩ := k_enter hv
  have C : CallFix p m c cX4_dropItems 2 s _ gG RX4 := ⟨B.exec, B.bytes, hml, findClass_of_methodNamed B.named, fun w h => atoms_spec (ws := Cond.code yX4_dropItems cX4_dropItems 2 (some .boolean) :: gG) B.pre w (List.mem_cons_of_mem _ h)⟩
  have hr := B.returns
  have hlk := B.notSynchronized
  generalize va_A [(h0, .inr (4, [.ref h1, .ref h2, .ref h3, .int (-1), .int (-1), .ref h4, .ref h5, .ref h6, .ref h7, .ref h8])), (h6, .inl (a2, 6, .inl (fun _ => 0)))] s.heap.size = A at Wd ⊢
  refine k_locals (Nat.le_of_ble_eq_true rfl) [(0, .ref h0), (1, .int x0)] rfl (fun ls hl => ?_)
  refine lv_iload_n C.1 C.2.1 dX4_dropItems_0 rfl (lv_at hl 1 rfl) ?_
  refine k_pi (k_runS (rest := []) C aks Wd cs_X4_63 (kcX4_isPass l D x0 _ ) [] rfl (by decide) [] rfl rfl rfl ⟨(Nat.le_of_ble_eq_true rfl), (Nat.le_of_ble_eq_true rfl)⟩ hl.1 rfl rfl (Nat.le_of_ble_eq_true rfl) ⟨(Nat.le_of_ble_eq_true rfl), (Nat.le_of_ble_eq_true rfl)⟩ dX4_dropItems_1) (fun r w3558 => ?_)
  rcases w3558 with ⟨c3559, rfl⟩ | ⟨c3560, c3561, rfl⟩ | ⟨c3562, c3563, rfl⟩
  · refine lv_if_ne (tgt := 9) C.1 C.2.1 dX4_dropItems_4 (by decide) (fun c3564 => absurd c3564 (by decide)) (fun _ => ?_)
    refine lv_iconst (v := 0) C.1 C.2.1 dX4_dropItems_7 (by decide) ?_
    exact k_zret C hr hlk rfl Wd () (Or.inl (⟨c3559, rfl⟩)) [0, 1] rfl (by decide) [] rfl (by decide) (by decide) dX4_dropItems_8
  · refine lv_if_ne (tgt := 9) C.1 C.2.1 dX4_dropItems_4 (by decide) (fun c3565 => absurd c3565 (by decide)) (fun _ => ?_)
    refine lv_iconst (v := 0) C.1 C.2.1 dX4_dropItems_7 (by decide) ?_
    exact k_zret C hr hlk rfl Wd () (Or.inr (Or.inl (⟨c3560, c3561, rfl⟩))) [0, 1] rfl (by decide) [] rfl (by decide) (by decide) dX4_dropItems_8
  · refine lv_if_ne (tgt := 9) C.1 C.2.1 dX4_dropItems_4 (by decide) (fun _ => ?_) (fun c3566 => absurd c3566 (by decide))
    refine lv_aload_n C.1 C.2.1 dX4_dropItems_9 rfl (lv_at hl 0 rfl) ?_
    refine k_get C Wd KX4 0 7 rfl (by decide) fl_X4_23 rfl dX4_dropItems_10 ?_
    refine lv_iload_n C.1 C.2.1 dX4_dropItems_13 rfl (lv_at hl 1 rfl) ?_
    refine lv_iconst (v := 0) C.1 C.2.1 dX4_dropItems_14 (by decide) ?_
    refine k_iast C Wd 1 0 [(h0, .inr (4, [.ref h1, .ref h2, .ref h3, .int (-1), .int (-1), .ref h4, .ref h5, .ref h6, .ref h7, .ref h8])), (h6, .inl (a2, 6, .inl (fun _ => 0)))] rfl rfl (vp_in_iff.mpr ⟨by have z0 := kz_nlt c3562; have z1 := kz_nle c3563; have t0 : (0 : Int32).toInt = 0 := (by decide); have t6 : (6 : Int32).toInt = 6 := (by decide); omega, by have z0 := kz_nlt c3562; have z1 := kz_nle c3563; have t0 : (0 : Int32).toInt = 0 := (by decide); have t6 : (6 : Int32).toInt = 6 := (by decide); omega⟩) (upd0 _) rfl dX4_dropItems_15 (fun H locs Wd => ?_)
    refine lv_iconst (v := 1) C.1 C.2.1 dX4_dropItems_16 (by decide) ?_
    exact k_zret C hr hlk rfl Wd () (Or.inr (Or.inr (⟨c3562, c3563, rfl⟩))) [0, 1] rfl (by decide) [] rfl (by decide) (by decide) dX4_dropItems_17
set_option maxHeartbeats 4000000 in
set_option maxRecDepth 100000 in
theorem kcX11_clear (l : Launch) (D : va_G) (h0 h1 h2 h3 h4 h5 h6 h7 h18 h19 h20 h21 h22 h23 h24 h25 : Nat) (x0 : Int32) (a5 : ClassId) (sz : Nat)  : Met l yX11_clear (Cond.code yX11_clear cX11_clear 2 (some .boolean) :: gG) { frames := 3, cells := 0, slots := 0, locals := 105 } (cPre D [(a5, .int)] [(h0, .inr (11, [.ref h1, .int 0, .ref h2, .ref h3, .ref h4, .ref h5, .ref h6, .ref h7])), (h6, .inr (4, [.ref h18, .ref h19, .ref h20, .int (-1), .int (-1), .ref h21, .ref h22, .ref h23, .ref h24, .ref h25])), (h23, .inl (a5, 6, .inl (fun _ => 0)))] sz [.ref h0, .int x0]) (va_Qi (fun (r : Int32) (_ : Unit) => (x0 < (0 : Int32) ∧ r = 0) ∨ (¬ x0 < (0 : Int32) ∧ (6 : Int32) ≤ x0 ∧ r = 0) ∨ (¬ x0 < (0 : Int32) ∧ ¬ (6 : Int32) ≤ x0 ∧ r = 1)) (fun u t => cB D (va_A [(h0, .inr (11, [.ref h1, .int 0, .ref h2, .ref h3, .ref h4, .ref h5, .ref h6, .ref h7])), (h6, .inr (4, [.ref h18, .ref h19, .ref h20, .int (-1), .int (-1), .ref h21, .ref h22, .ref h23, .ref h24, .ref h25])), (h23, .inl (a5, 6, .inl (fun _ => 0)))] sz) ((fun (_ : Unit) => ([] : List (ClassId × FieldType))) u) ((fun (_ : Unit) => ([] : va_W)) u) t) (va_A [(h0, .inr (11, [.ref h1, .int 0, .ref h2, .ref h3, .ref h4, .ref h5, .ref h6, .ref h7])), (h6, .inr (4, [.ref h18, .ref h19, .ref h20, .int (-1), .int (-1), .ref h21, .ref h22, .ref h23, .ref h24, .ref h25])), (h23, .inl (a5, 6, .inl (fun _ => 0)))] sz)) 0 0 (va_A [(h0, .inr (11, [.ref h1, .int 0, .ref h2, .ref h3, .ref h4, .ref h5, .ref h6, .ref h7])), (h6, .inr (4, [.ref h18, .ref h19, .ref h20, .int (-1), .int (-1), .ref h21, .ref h22, .ref h23, .ref h24, .ref h25])), (h23, .inl (a5, 6, .inl (fun _ => 0)))] sz) := by
  refine Met.ofW (cc := cX11_clear) (maxL := 2) (ret := (some .boolean)) (by decide) rfl ?_
  intro p e s m args below meth c s₁ B hml hv
  obtain ⟨rfl, aks, rfl, Wd⟩ := k_enter hv
  have C : CallFix p m c cX11_clear 2 s _ gG RX11 := ⟨B.exec, B.bytes, hml, findClass_of_methodNamed B.named, fun w h => atoms_spec (ws := Cond.code yX11_clear cX11_clear 2 (some .boolean) :: gG) B.pre w (List.mem_cons_of_mem _ h)⟩
  have hr := B.returns
  have hlk := B.notSynchronized
  generalize va_A [(h0, .inr (11, [.ref h1, .int 0, .ref h2, .ref h3, .ref h4, .ref h5, .ref h6, .ref h7])), (h6, .inr (4, [.ref h18, .ref h19, .ref h20, .int (-1), .int (-1), .ref h21, .ref h22, .ref h23, .ref h24, .ref h25])), (h23, .inl (a5, 6, .inl (fun _ => 0)))] s.heap.size = A at Wd ⊢
  refine k_locals (Nat.le_of_ble_eq_true rfl) [(0, .ref h0), (1, .int x0)] rfl (fun ls hl => ?_)
  refine lv_aload_n C.1 C.2.1 dX11_clear_0 rfl (lv_at hl 0 rfl) ?_
  refine k_get C Wd KX11 0 6 rfl (by decide) fl_X11_50 rfl dX11_clear_1 ?_
  refine lv_iload_n C.1 C.2.1 dX11_clear_4 rfl (lv_at hl 1 rfl) ?_
  refine k_ci Wd [1, 2] [0] rfl (wr := [(h0, .inr (11, [.ref h1, .int 0, .ref h2, .ref h3, .ref h4, .ref h5, .ref h6, .ref h7]))]) rfl (by decide) (by decide) (cells' := 0) (slots' := 0) (by decide) (by decide) (k_runV (rest := []) C aks Wd cs_X11_195 (kcX4_dropItems l D h6 h18 h19 h20 h21 h22 h23 h24 h25 x0 a5 _ ) [1, 2] rfl (by decide) [0] rfl 1 4 rfl rfl rfl rfl rfl ⟨(Nat.le_of_ble_eq_true rfl), (Nat.le_of_ble_eq_true rfl)⟩ hl.1 rfl rfl (Nat.le_of_ble_eq_true rfl) ⟨(Nat.le_of_ble_eq_true rfl), (Nat.le_of_ble_eq_true rfl)⟩ dX11_clear_5) (fun r _ H locs w3573 Wd => ?_)
  have Wd : wX D [(a5, .int)] s [(h0, .inr (11, [.ref h1, .int 0, .ref h2, .ref h3, .ref h4, .ref h5, .ref h6, .ref h7])), (h6, .inr (4, [.ref h18, .ref h19, .ref h20, .int (-1), .int (-1), .ref h21, .ref h22, .ref h23, .ref h24, .ref h25])), (h23, .inl (a5, 6, .inl (fun _ => 0)))] _ A s.heap _ := Wd
  rcases w3573 with ⟨c3574, rfl⟩ | ⟨c3575, c3576, rfl⟩ | ⟨c3577, c3578, rfl⟩
  · exact k_zret C hr hlk rfl Wd () (Or.inl (⟨c3574, rfl⟩)) [] rfl (by decide) [] rfl (by decide) (by decide) dX11_clear_8
  · exact k_zret C hr hlk rfl Wd () (Or.inr (Or.inl (⟨c3575, c3576, rfl⟩))) [] rfl (by decide) [] rfl (by decide) (by decide) dX11_clear_8
  · exact k_zret C hr hlk rfl Wd () (Or.inr (Or.inr (⟨c3577, c3578, rfl⟩))) [] rfl (by decide) [] rfl (by decide) (by decide) dX11_clear_8
set_option maxHeartbeats 4000000 in
set_option maxRecDepth 100000 in
theorem kcX11_make (l : Launch) (D : va_G) (h0 h1 h2 h3 h4 h5 h6 h7 : Nat) (x0 x1 x2 : Int32) (g0 : Nat → Option Nat) (a0 : ClassId) (sz : Nat)  (as0 : x1 < (0 : Int32)): Met l yX11_make (Cond.code yX11_make cX11_make 6 (some .int) :: gG) { frames := 2, cells := 0, slots := 0, locals := 85 } (cPre D [(a0, .object RX8)] [(h0, .inr (11, [.ref h1, .int 0, .ref h2, .ref h3, .ref h4, .ref h5, .ref h6, .ref h7])), (h1, .inl (a0, 6, .inr (.inr (.inr (.inr g0)))))] sz [.ref h0, .int x0, .int x1, .int x2]) (vp_Si (fun r => (x1 < (0 : Int32) ∧ x2 < (0 : Int32) ∧ r = (-1)) ∨ (x1 < (0 : Int32) ∧ ¬ x2 < (0 : Int32) ∧ (6 : Int32) ≤ x2 ∧ r = (-1)) ∨ (x1 < (0 : Int32) ∧ ¬ x2 < (0 : Int32) ∧ ¬ (6 : Int32) ≤ x2 ∧ r = (-1)) ∨ (x1 < (0 : Int32) ∧ ¬ x2 < (0 : Int32) ∧ ¬ (6 : Int32) ≤ x2 ∧ r = (-1)))) 0 0 (fun _ => False) := by
  refine Met.ofW (cc := cX11_make) (maxL := 6) (ret := (some .int)) (by decide) rfl ?_
  intro p e s m args below meth c s₁ B hml hv
  obtain ⟨rfl, aks, rfl, Wd⟩ := k_enter hv
  have C : CallFix p m c cX11_make 6 s _ gG RX11 := ⟨B.exec, B.bytes, hml, findClass_of_methodNamed B.named, fun w h => atoms_spec (ws := Cond.code yX11_make cX11_make 6 (some .int) :: gG) B.pre w (List.mem_cons_of_mem _ h)⟩
  have hr := B.returns
  have hlk := B.notSynchronized
  obtain ⟨A, Wd⟩ : ∃ A, wX D [(a0, .object RX8)] s [(h0, .inr (11, [.ref h1, .int 0, .ref h2, .ref h3, .ref h4, .ref h5, .ref h6, .ref h7])), (h1, .inl (a0, 6, .inr (.inr (.inr (.inr g0)))))] s.heap A s.heap [] := ⟨_, Wd⟩
  refine k_locals (Nat.le_of_ble_eq_true rfl) [(0, .ref h0), (1, .int x0), (2, .int x1), (3, .int x2)] rfl (fun ls hl => ?_)
  refine lv_aload_n C.1 C.2.1 dX11_make_0 rfl (lv_at hl 0 rfl) ?_
  refine lv_iload_n C.1 C.2.1 dX11_make_1 rfl (lv_at hl 2 rfl) ?_
  refine k_pq (k_runV (rest := []) C aks Wd cs_X11_77 (kcX11_slotAt l D h0 h1 h2 h3 h4 h5 h6 h7 x1 g0 a0 _ ) [0, 1] rfl (by decide) [0] rfl 0 11 rfl rfl rfl rfl rfl ⟨(Nat.le_of_ble_eq_true rfl), (Nat.le_of_ble_eq_true rfl)⟩ hl.1 rfl rfl (Nat.le_of_ble_eq_true rfl) ⟨(Nat.le_of_ble_eq_true rfl), (Nat.le_of_ble_eq_true rfl)⟩ dX11_make_2) (fun r w3593 => ?_)
  rcases w3593 with ⟨c3594, rfl⟩ | ⟨c3595, c3596, rfl⟩ | ⟨c3597, c3598, rfl⟩
  · refine W.eq (g2 := F0 m 5 ls [.null]) rfl ?_
    refine lv_astoreN (lv' := [(4, .null), (0, .ref h0), (1, .int x0), (2, .int x1), (3, .int x2)]) C.1 C.2.1 dX11_make_5 hl (by decide) rfl (fun ls hl => ?_)
    refine lv_aload_n C.1 C.2.1 dX11_make_7 rfl (lv_at hl 1 rfl) ?_
    refine lv_iload_n C.1 C.2.1 dX11_make_8 rfl (lv_at hl 4 rfl) ?_
    refine k_pq (k_runV (rest := []) C aks Wd cs_X11_77 (kcX11_slotAt l D h0 h1 h2 h3 h4 h5 h6 h7 x2 g0 a0 _ ) [0, 1] rfl (by decide) [0] rfl 0 11 rfl rfl rfl rfl rfl ⟨(Nat.le_of_ble_eq_true rfl), (Nat.le_of_ble_eq_true rfl)⟩ hl.1 rfl rfl (Nat.le_of_ble_eq_true rfl) ⟨(Nat.le_of_ble_eq_true rfl), (Nat.le_of_ble_eq_true rfl)⟩ dX11_make_9) (fun r w3599 => ?_)
    rcases w3599 with ⟨c3600, rfl⟩ | ⟨c3601, c3602, rfl⟩ | ⟨c3603, c3604, rfl⟩
    · refine W.eq (g2 := F0 m 12 ls [.null]) rfl ?_
      refine lv_astoreN (lv' := [(5, .null), (4, .null), (0, .ref h0), (1, .int x0), (2, .int x1), (3, .int x2)]) C.1 C.2.1 dX11_make_12 hl (by decide) rfl (fun ls hl => ?_)
      refine lv_aloadN C.1 C.2.1 dX11_make_14 (lv_at hl 1 rfl) ?_
      refine lv_ifnullN (tgt := 37) C.1 C.2.1 dX11_make_16 (by decide) ?_
      refine lv_iconst (v := (-1)) C.1 C.2.1 dX11_make_37 (by decide) ?_
      exact k_zretP C hr hlk rfl (Or.inl (⟨c3594, c3600, rfl⟩)) dX11_make_38
    · refine W.eq (g2 := F0 m 12 ls [.null]) rfl ?_
      refine lv_astoreN (lv' := [(5, .null), (4, .null), (0, .ref h0), (1, .int x0), (2, .int x1), (3, .int x2)]) C.1 C.2.1 dX11_make_12 hl (by decide) rfl (fun ls hl => ?_)
      refine lv_aloadN C.1 C.2.1 dX11_make_14 (lv_at hl 1 rfl) ?_
      refine lv_ifnullN (tgt := 37) C.1 C.2.1 dX11_make_16 (by decide) ?_
      refine lv_iconst (v := (-1)) C.1 C.2.1 dX11_make_37 (by decide) ?_
      exact k_zretP C hr hlk rfl (Or.inr (Or.inl (⟨c3594, c3601, c3602, rfl⟩))) dX11_make_38
    · cases hq3605 : (g0 x2.toNatClampNeg) with
      | none =>
        refine W.eq (g2 := F0 m 12 ls [.null]) rfl ?_
        refine lv_astoreN (lv' := [(5, .null), (4, .null), (0, .ref h0), (1, .int x0), (2, .int x1), (3, .int x2)]) C.1 C.2.1 dX11_make_12 hl (by decide) rfl (fun ls hl => ?_)
        refine lv_aloadN C.1 C.2.1 dX11_make_14 (lv_at hl 1 rfl) ?_
        refine lv_ifnullN (tgt := 37) C.1 C.2.1 dX11_make_16 (by decide) ?_
        refine lv_iconst (v := (-1)) C.1 C.2.1 dX11_make_37 (by decide) ?_
        exact k_zretP C hr hlk rfl (Or.inr (Or.inr (Or.inl (⟨c3594, c3603, c3604, rfl⟩)))) dX11_make_38
      | some q3606 =>
        refine W.eq (g2 := F0 m 12 ls [.ref q3606]) rfl ?_
        refine lv_astore (lv' := [(5, .ref q3606), (4, .null), (0, .ref h0), (1, .int x0), (2, .int x1), (3, .int x2)]) C.1 C.2.1 dX11_make_12 hl (by decide) rfl (fun ls hl => ?_)
        refine lv_aloadN C.1 C.2.1 dX11_make_14 (lv_at hl 1 rfl) ?_
        refine lv_ifnullN (tgt := 37) C.1 C.2.1 dX11_make_16 (by decide) ?_
        refine lv_iconst (v := (-1)) C.1 C.2.1 dX11_make_37 (by decide) ?_
        exact k_zretP C hr hlk rfl (Or.inr (Or.inr (Or.inr (⟨c3594, c3603, c3604, rfl⟩)))) dX11_make_38
  · exact False.elim (by have z0 := kz_lt as0; have z1 := kz_nlt c3595; have t0 : (0 : Int32).toInt = 0 := (by decide); omega)
  · exact False.elim (by have z0 := kz_lt as0; have z1 := kz_nlt c3597; have t0 : (0 : Int32).toInt = 0 := (by decide); omega)
