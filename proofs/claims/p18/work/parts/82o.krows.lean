set_option maxHeartbeats 4000000 in
set_option maxRecDepth 100000 in
theorem mk_S_isVariable : ∀ (D : va_G) (x0 : Int) (g_x0 : rng x0) (K : Int → Prop) (hw : wp5_S_isVariable x0 K) (l : Launch) (sz : Nat), Met l yX11_isVariable (Cond.code yX11_isVariable cX11_isVariable 1 (some .boolean) :: gG) { frames := 1, cells := 0, slots := 0, locals := 64 } (cPre D [] [] sz [.int (zI x0)]) (vp_Si (fun r => ∃ x : Int, r = zI x ∧ rng x ∧ K x)) 0 0 (fun _ => False) := by
  intro D x0 g_x0 K hw l sz
  refine Met.ofW (cc := cX11_isVariable) (maxL := 1) (ret := (some .boolean)) (by decide) rfl ?_
  intro p e s m args below meth c s₁ B hml hv
  obtain ⟨rfl, aks, rfl, Wd⟩ := k_enter hv
  have C : CallFix p m c cX11_isVariable 1 s _ gG RX11 := ⟨B.exec, B.bytes, hml, findClass_of_methodNamed B.named, fun w h => atoms_spec (ws := Cond.code yX11_isVariable cX11_isVariable 1 (some .boolean) :: gG) B.pre w (List.mem_cons_of_mem _ h)⟩
  have hr := B.returns
  have hlk := B.notSynchronized
  obtain ⟨A, Wd⟩ : ∃ A, wX D [] s [] s.heap A s.heap [] := ⟨_, Wd⟩
  refine k_locals (Nat.le_of_ble_eq_true rfl) [(0, .int (zI x0))] rfl (fun ls hl => ?_)
  unfold wp5_S_isVariable at hw
  refine lv_iload_n C.1 C.2.1 dX11_isVariable_0 rfl (lv_at hl 0 rfl) ?_
  refine lv_if_lt (tgt := 14) C.1 C.2.1 dX11_isVariable_1 (by decide) (fun c1 => ?_) (fun c1 => ?_)
  · have hw := hw.1 (z0_lt g_x0 c1)
    refine lv_iconst (v := zI 0) C.1 C.2.1 dX11_isVariable_14 (by decide) ?_
    exact k_zretP C hr hlk (by decide) ⟨_, rfl, (show rng 0 from by decide), hw⟩ dX11_isVariable_15
  · have hw := hw.2 (z0_nlt g_x0 c1)
    refine lv_iload_n C.1 C.2.1 dX11_isVariable_4 rfl (lv_at hl 0 rfl) ?_
    refine lv_bipush (v := zI 6) C.1 C.2.1 dX11_isVariable_5 (by decide) ?_
    refine lv_icmp_ge (tgt := 14) C.1 C.2.1 dX11_isVariable_7 (by decide) (fun c7 => ?_) (fun c7 => ?_)
    · have hw := hw.1 (z_le (show rng 6 from by decide) g_x0 c7)
      refine lv_iconst (v := zI 0) C.1 C.2.1 dX11_isVariable_14 (by decide) ?_
      exact k_zretP C hr hlk (by decide) ⟨_, rfl, (show rng 0 from by decide), hw⟩ dX11_isVariable_15
    · have hw := hw.2 (z_nle (show rng 6 from by decide) g_x0 c7)
      refine lv_iconst (v := zI 1) C.1 C.2.1 dX11_isVariable_10 (by decide) ?_
      refine lv_goto (tgt := 15) C.1 C.2.1 dX11_isVariable_11 (by decide) ?_
      exact k_zretP C hr hlk (by decide) ⟨_, rfl, (show rng 1 from by decide), hw⟩ dX11_isVariable_15
set_option maxHeartbeats 4000000 in
set_option maxRecDepth 100000 in
theorem mk_G_count : ∀ (D : va_G) (ad : Nat → Nat) (ca : Nat → ClassId) (rf : Nat → Nat → Option Nat) (σ : Sg) (hS : rngK σ) (hRF : RFok ad rf) (x0 : Int) (g_x0 : rng x0) (K : Sg → Prop) (hw : wp5_G_count σ x0 K) (l : Launch) (sz : Nat), Met l yX7_count (Cond.code yX7_count cX7_count 3 none :: gG) { frames := 2, cells := 0, slots := 0, locals := 84 } (cPre D (tC ca) (wK ad ca rf σ) sz [.ref (ad 84), .int (zI x0)]) (va_Qv (fun (u : Sg) => K u ∧ rngK u) (fun u t => cB D (va_A (wK ad ca rf σ) sz) [] (wK ad ca rf u) t) (va_A (wK ad ca rf σ) sz)) 0 0 (va_A (wK ad ca rf σ) sz) := by
  intro D ad ca rf σ hS hRF x0 g_x0 K hw l sz
  refine Met.ofW (cc := cX7_count) (maxL := 3) (ret := none) (by decide) rfl ?_
  intro p e s m args below meth c s₁ B hml hv
  obtain ⟨rfl, aks, rfl, Wd⟩ := k_enter hv
  have C : CallFix p m c cX7_count 3 s _ gG RX7 := ⟨B.exec, B.bytes, hml, findClass_of_methodNamed B.named, fun w h => atoms_spec (ws := Cond.code yX7_count cX7_count 3 none :: gG) B.pre w (List.mem_cons_of_mem _ h)⟩
  have hr := B.returns
  have hlk := B.notSynchronized
  generalize va_A (wK ad ca rf σ) s.heap.size = A at Wd ⊢
  replace Wd : wXK D ad ca rf s σ s.heap A s.heap [] := ⟨Wd, hS, hRF⟩
  refine k_locals (Nat.le_of_ble_eq_true rfl) [(0, .ref (ad 84)), (1, .int (zI x0))] rfl (fun ls hl => ?_)
  unfold wp5_G_count at hw
  refine lv_iload_n C.1 C.2.1 dX7_count_0 rfl (lv_at hl 1 rfl) ?_
  refine k_pi (k_runS (rest := []) C aks Wd.1 cs_X7_64 (mk_W_isSet D x0 g_x0 _ hw l _) [] rfl (by decide) [] rfl rfl rfl ⟨(Nat.le_of_ble_eq_true rfl), (Nat.le_of_ble_eq_true rfl)⟩ hl.1 rfl rfl (Nat.le_of_ble_eq_true rfl) ⟨(Nat.le_of_ble_eq_true rfl), (Nat.le_of_ble_eq_true rfl)⟩ dX7_count_1) (fun y1 hy => ?_)
  obtain ⟨r1, rfl, g_r1, hw⟩ := hy
  refine k_cut1 (fun (s0_29 : Int) H locs ls => rng s0_29 ∧ wp5_G_count_29 K σ s0_29 ∧ wXK D ad ca rf s σ H A s.heap locs ∧ lv_has ls 3 [(0, .ref (ad 84))]) (fun (s0_29 : Int) ls => F0 m 29 ls [.int (zI s0_29)]) (fun s0_29 H locs ls hi => ?_) (fun J29 => ?_)
  · obtain ⟨g_s0_29, hw, Wd, hl⟩ := hi
    unfold wp5_G_count_29 at hw
    refine lv_istore_n (lv' := [(2, .int (zI s0_29)), (0, .ref (ad 84))]) C.1 C.2.1 dX7_count_29 rfl hl (by decide) rfl (fun ls hl => ?_)
    replace hl := lv_sub hl [1, 0] rfl
    refine lv_iload_n C.1 C.2.1 dX7_count_30 rfl (lv_at hl 1 rfl) ?_
    refine k_pi (k_runN (rest := []) C aks Wd.1 aks.2.2.2 cs_X7_71 (mk_S_isVariable D s0_29 g_s0_29 _ hw l _) [] rfl (by decide) [] rfl rfl rfl ⟨(Nat.le_of_ble_eq_true rfl), (Nat.le_of_ble_eq_true rfl)⟩ hl.1 rfl rfl (Nat.le_of_ble_eq_true rfl) ⟨(Nat.le_of_ble_eq_true rfl), (Nat.le_of_ble_eq_true rfl)⟩ dX7_count_31) (fun y31 hy => ?_)
    obtain ⟨r31, rfl, g_r31, hw⟩ := hy
    refine lv_if_eq (tgt := 59) C.1 C.2.1 dX7_count_34 (by decide) (fun c34 => ?_) (fun c34 => ?_)
    · have hw := hw.1 (z0_eq g_r31 c34)
      exact k_retKv C hr hlk Wd hw dX7_count_59
    · have hw := hw.2 (z0_ne g_r31 c34)
      refine lv_aload_n C.1 C.2.1 dX7_count_37 rfl (lv_at hl 0 rfl) ?_
      refine k_get (v := .ref (ad 86)) C Wd.1 KX7 _ 2 (cx84 _) (by decide) fl_X7_22 rfl dX7_count_38 ?_
      refine lv_iload_n C.1 C.2.1 dX7_count_41 rfl (lv_at hl 1 rfl) ?_
      refine lv_dup2_11 C.1 C.2.1 dX7_count_42 rfl rfl ?_
      obtain ⟨n43_0, hw⟩ := hw
      refine k_ialdK (g := (σ.2.1 86)) C Wd (cx86 _) (tC_at (by decide) rfl) n43_0 (by decide) dX7_count_43 ?_
      have ga43 : rng (σ.2.1 86 s0_29) := rngL (fun j => (Wd.2.1).2.1 86 j) n43_0
      refine lv_iconst (v := zI 1) C.1 C.2.1 dX7_count_44 (by decide) ?_
      refine k_iadd (v := zI ((σ.2.1 86 s0_29) + 1)) C (zI_iadd _ _) dX7_count_45 ?_
      obtain ⟨g46_2, hw⟩ := hw
      refine k_iastF (g := (σ.2.1 86)) (i := s0_29) (v := ((σ.2.1 86 s0_29) + 1)) C Wd 86 (by decide) (cx86 _) (fun f => cx86a _ f) (tC_at (by decide) rfl) n43_0 (by decide) (ruZ (fun j => Wd.2.1.2.1 86 j) g46_2) dX7_count_46 (fun H locs Wd => ?_)
      refine lv_aload_n C.1 C.2.1 dX7_count_47 rfl (lv_at hl 0 rfl) ?_
      refine lv_dup C.1 C.2.1 dX7_count_48 rfl ?_
      refine k_get (v := .int (zI (σ.1 84 4))) C Wd.1 KX7 _ 4 (cx84 _) (by decide) fl_X7_32 rfl dX7_count_49 ?_
      refine lv_iconst (v := zI 1) C.1 C.2.1 dX7_count_52 (by decide) ?_
      refine lv_iload_n C.1 C.2.1 dX7_count_53 rfl (lv_at hl 1 rfl) ?_
      refine k_ishl (v := zI (zishl 1 s0_29)) C (zishl_eq _ _) dX7_count_54 ?_
      refine k_ior (v := zI (zior (σ.1 84 4) (zishl 1 s0_29))) C (zior_eq _ _) dX7_count_55 ?_
      refine k_putK (v := (zior (σ.1 84 4) (zishl 1 s0_29))) C Wd KX7 84 4 (by decide) (cx84 _) rfl (by decide) fl_X7_32 rfl rfl rfl (Nat.le_of_ble_eq_true rfl) (rng_toInt _) dX7_count_56 (fun H locs Wd => ?_)
      exact k_retKv C hr hlk Wd hw dX7_count_59
  refine lv_if_eq (tgt := 14) C.1 C.2.1 dX7_count_4 (by decide) (fun c4 => ?_) (fun c4 => ?_)
  · have hw := hw.1 (z0_eq g_r1 c4)
    refine lv_iload_n C.1 C.2.1 dX7_count_14 rfl (lv_at hl 1 rfl) ?_
    refine k_pi (k_runS (rest := []) C aks Wd.1 cs_X7_68 (mk_W_isRead D x0 g_x0 _ hw l _) [] rfl (by decide) [] rfl rfl rfl ⟨(Nat.le_of_ble_eq_true rfl), (Nat.le_of_ble_eq_true rfl)⟩ hl.1 rfl rfl (Nat.le_of_ble_eq_true rfl) ⟨(Nat.le_of_ble_eq_true rfl), (Nat.le_of_ble_eq_true rfl)⟩ dX7_count_15) (fun y15 hy => ?_)
    obtain ⟨r15, rfl, g_r15, hw⟩ := hy
    refine lv_if_eq (tgt := 28) C.1 C.2.1 dX7_count_18 (by decide) (fun c18 => ?_) (fun c18 => ?_)
    · have hw := hw.1 (z0_eq g_r15 c18)
      refine lv_iconst (v := zI (-1)) C.1 C.2.1 dX7_count_28 (by decide) ?_
      exact J29 (-1) _ _ _ ⟨(show rng (-1) from by decide), hw, Wd, lv_sub hl [0] rfl⟩
    · have hw := hw.2 (z0_ne g_r15 c18)
      refine lv_iload_n C.1 C.2.1 dX7_count_21 rfl (lv_at hl 1 rfl) ?_
      refine lv_bipush (v := zI 20) C.1 C.2.1 dX7_count_22 (by decide) ?_
      refine k_isub (v := zI (x0 - 20)) C (zI_isub _ _) dX7_count_24 ?_
      refine lv_goto (tgt := 29) C.1 C.2.1 dX7_count_25 (by decide) ?_
      obtain ⟨g25_3, hw⟩ := hw
      exact J29 (x0 - 20) _ _ _ ⟨g25_3, hw, Wd, lv_sub hl [0] rfl⟩
  · have hw := hw.2 (z0_ne g_r1 c4)
    refine lv_iload_n C.1 C.2.1 dX7_count_7 rfl (lv_at hl 1 rfl) ?_
    refine lv_bipush (v := zI 100) C.1 C.2.1 dX7_count_8 (by decide) ?_
    refine k_isub (v := zI (x0 - 100)) C (zI_isub _ _) dX7_count_10 ?_
    refine lv_goto (tgt := 29) C.1 C.2.1 dX7_count_11 (by decide) ?_
    obtain ⟨g11_4, hw⟩ := hw
    exact J29 (x0 - 100) _ _ _ ⟨g11_4, hw, Wd, lv_sub hl [0] rfl⟩
set_option maxHeartbeats 4000000 in
set_option maxRecDepth 100000 in
theorem mk_G_noteClashes : ∀ (D : va_G) (ad : Nat → Nat) (ca : Nat → ClassId) (rf : Nat → Nat → Option Nat) (σ : Sg) (hS : rngK σ) (hRF : RFok ad rf) (x0 : Int) (x1 : Int) (g_x0 : rng x0) (g_x1 : rng x1) (K : Sg → Prop) (hw : wp5_G_noteClashes σ x0 x1 K) (l : Launch) (sz : Nat), Met l yX7_noteClashes (Cond.code yX7_noteClashes cX7_noteClashes 5 none :: gG) { frames := 1, cells := 0, slots := 0, locals := 64 } (cPre D (tC ca) (wK ad ca rf σ) sz [.ref (ad 84), .int (zI x0), .int (zI x1)]) (va_Qv (fun (u : Sg) => K u ∧ rngK u) (fun u t => cB D (va_A (wK ad ca rf σ) sz) [] (wK ad ca rf u) t) (va_A (wK ad ca rf σ) sz)) 0 0 (va_A (wK ad ca rf σ) sz) := by
  intro D ad ca rf σ hS hRF x0 x1 g_x0 g_x1 K hw l sz
  refine Met.ofW (cc := cX7_noteClashes) (maxL := 5) (ret := none) (by decide) rfl ?_
  intro p e s m args below meth c s₁ B hml hv
  obtain ⟨rfl, aks, rfl, Wd⟩ := k_enter hv
  have C : CallFix p m c cX7_noteClashes 5 s _ gG RX7 := ⟨B.exec, B.bytes, hml, findClass_of_methodNamed B.named, fun w h => atoms_spec (ws := Cond.code yX7_noteClashes cX7_noteClashes 5 none :: gG) B.pre w (List.mem_cons_of_mem _ h)⟩
  have hr := B.returns
  have hlk := B.notSynchronized
  generalize va_A (wK ad ca rf σ) s.heap.size = A at Wd ⊢
  replace Wd : wXK D ad ca rf s σ s.heap A s.heap [] := ⟨Wd, hS, hRF⟩
  refine k_locals (Nat.le_of_ble_eq_true rfl) [(0, .ref (ad 84)), (1, .int (zI x0)), (2, .int (zI x1))] rfl (fun ls hl => ?_)
  unfold wp5_G_noteClashes at hw
  refine lv_iconst (v := zI 0) C.1 C.2.1 dX7_noteClashes_0 (by decide) ?_
  refine lv_istore_n (lv' := [(3, .int (zI 0)), (0, .ref (ad 84)), (1, .int (zI x0)), (2, .int (zI x1))]) C.1 C.2.1 dX7_noteClashes_1 rfl hl (by decide) rfl (fun ls hl => ?_)
  replace hl := lv_sub hl [1, 2, 3, 0] rfl
  refine k_lp2 hw (fun (l3_2 : Int) (σ2 : Sg) H locs ls => rng l3_2 ∧ wXK D ad ca rf s σ2 H A s.heap locs ∧ lv_has ls 5 [(0, .ref (ad 84)), (1, .int (zI x0)), (2, .int (zI x1)), (3, .int (zI l3_2))]) (fun (l3_2 : Int) (σ2 : Sg) ls => F0 m 2 ls []) (fun L2 hL2 l3_2 σ2 hw H locs ls hi => ?_) _ _ _ ⟨(show rng 0 from by decide), Wd, lv_sub hl [0, 1, 2, 3] rfl⟩
  obtain ⟨g_l3_2, Wd, hl⟩ := hi
  have hS_σ2 := Wd.2.1
  unfold wp5_G_noteClashes_2 at hw
  refine lv_iload_n C.1 C.2.1 dX7_noteClashes_2 rfl (lv_at hl 3 rfl) ?_
  refine lv_bipush (v := zI 6) C.1 C.2.1 dX7_noteClashes_3 (by decide) ?_
  refine lv_icmp_ge (tgt := 63) C.1 C.2.1 dX7_noteClashes_5 (by decide) (fun c5 => ?_) (fun c5 => ?_)
  · have hw := hw.1 (z_le (show rng 6 from by decide) g_l3_2 c5)
    exact k_retKv C hr hlk Wd hw dX7_noteClashes_63
  · have hw := hw.2 (z_nle (show rng 6 from by decide) g_l3_2 c5)
    refine lv_iconst (v := zI 1) C.1 C.2.1 dX7_noteClashes_8 (by decide) ?_
    refine lv_iload_n C.1 C.2.1 dX7_noteClashes_9 rfl (lv_at hl 3 rfl) ?_
    refine k_ishl (v := zI (zishl 1 l3_2)) C (zishl_eq _ _) dX7_noteClashes_10 ?_
    refine lv_istore (lv' := [(4, .int (zI (zishl 1 l3_2))), (0, .ref (ad 84)), (1, .int (zI x0)), (2, .int (zI x1)), (3, .int (zI l3_2))]) C.1 C.2.1 dX7_noteClashes_11 hl (by decide) rfl (fun ls hl => ?_)
    replace hl := lv_sub hl [1, 2, 3, 4, 0] rfl
    refine lv_iload_n C.1 C.2.1 dX7_noteClashes_13 rfl (lv_at hl 1 rfl) ?_
    refine lv_iload C.1 C.2.1 dX7_noteClashes_14 (lv_at hl 4 rfl) ?_
    refine k_iand (v := zI (ziand x0 (zishl 1 l3_2))) C (ziand_eq _ _) dX7_noteClashes_16 ?_
    refine k_cut1 (fun (σ35 : Sg) H locs ls => wp5_G_noteClashes_35 x0 x1 l3_2 L2 σ35 ∧ wXK D ad ca rf s σ35 H A s.heap locs ∧ lv_has ls 5 [(0, .ref (ad 84)), (1, .int (zI x0)), (2, .int (zI x1)), (3, .int (zI l3_2)), (4, .int (zI (zishl 1 l3_2)))]) (fun (σ35 : Sg) ls => F0 m 35 ls []) (fun σ35 H locs ls hi => ?_) (fun J35 => ?_)
    · obtain ⟨hw, Wd, hl⟩ := hi
      have hS_σ35 := Wd.2.1
      unfold wp5_G_noteClashes_35 at hw
      refine lv_iload_n C.1 C.2.1 dX7_noteClashes_35 rfl (lv_at hl 2 rfl) ?_
      refine lv_iload C.1 C.2.1 dX7_noteClashes_36 (lv_at hl 4 rfl) ?_
      refine k_iand (v := zI (ziand x1 (zishl 1 l3_2))) C (ziand_eq _ _) dX7_noteClashes_38 ?_
      refine lv_if_eq (tgt := 57) C.1 C.2.1 dX7_noteClashes_39 (by decide) (fun c39 => ?_) (fun c39 => ?_)
      · have hw := hw.1 (z0_eq (rng_toInt _) c39)
        refine lv_iinc (v := zI (l3_2 + 1)) (lv' := [(3, .int (zI (l3_2 + 1))), (0, .ref (ad 84)), (1, .int (zI x0)), (2, .int (zI x1)), (4, .int (zI (zishl 1 l3_2)))]) C.1 C.2.1 dX7_noteClashes_57 hl (k := 3) rfl (zI_inc _ _ (by decide)) (by decide) rfl (fun ls hl => ?_)
        replace hl := lv_sub hl [1, 2, 3, 0, 4] rfl
        refine lv_goto (tgt := 2) C.1 C.2.1 dX7_noteClashes_60 (by decide) ?_
        obtain ⟨g60_2, hw⟩ := hw
        exact hL2 _ _ hw _ _ _ ⟨g60_2, Wd, lv_sub hl [0, 1, 2, 3] rfl⟩
      · have hw := hw.2 (z0_ne (rng_toInt _) c39)
        refine lv_aload_n C.1 C.2.1 dX7_noteClashes_42 rfl (lv_at hl 0 rfl) ?_
        refine k_get (v := .ref (ad 85)) C Wd.1 KX7 _ 1 (cx84 _) (by decide) fl_X7_18 rfl dX7_noteClashes_43 ?_
        refine lv_iload_n C.1 C.2.1 dX7_noteClashes_46 rfl (lv_at hl 3 rfl) ?_
        refine lv_dup2_11 C.1 C.2.1 dX7_noteClashes_47 rfl rfl ?_
        obtain ⟨n48_0, hw⟩ := hw
        refine k_ialdK (g := (σ35.2.1 85)) C Wd (cx85 _) (tC_at (by decide) rfl) n48_0 (by decide) dX7_noteClashes_48 ?_
        have ga48 : rng (σ35.2.1 85 l3_2) := rngL (fun j => (Wd.2.1).2.1 85 j) n48_0
        refine lv_iload_n C.1 C.2.1 dX7_noteClashes_49 rfl (lv_at hl 1 rfl) ?_
        refine lv_iload C.1 C.2.1 dX7_noteClashes_50 (lv_at hl 4 rfl) ?_
        refine lv_iconst (v := zI (-1)) C.1 C.2.1 dX7_noteClashes_52 (by decide) ?_
        refine k_ixor (v := zI (zixor (zishl 1 l3_2) (-1))) C (zixor_eq _ _) dX7_noteClashes_53 ?_
        refine k_iand (v := zI (ziand x0 (zixor (zishl 1 l3_2) (-1)))) C (ziand_eq _ _) dX7_noteClashes_54 ?_
        refine k_ior (v := zI (zior (σ35.2.1 85 l3_2) (ziand x0 (zixor (zishl 1 l3_2) (-1))))) C (zior_eq _ _) dX7_noteClashes_55 ?_
        refine k_iastF (g := (σ35.2.1 85)) (i := l3_2) (v := (zior (σ35.2.1 85 l3_2) (ziand x0 (zixor (zishl 1 l3_2) (-1))))) C Wd 85 (by decide) (cx85 _) (fun f => cx85a _ f) (tC_at (by decide) rfl) n48_0 (by decide) (ruZ (fun j => Wd.2.1.2.1 85 j) (rng_toInt _)) dX7_noteClashes_56 (fun H locs Wd => ?_)
        refine lv_iinc (v := zI (l3_2 + 1)) (lv' := [(3, .int (zI (l3_2 + 1))), (0, .ref (ad 84)), (1, .int (zI x0)), (2, .int (zI x1)), (4, .int (zI (zishl 1 l3_2)))]) C.1 C.2.1 dX7_noteClashes_57 hl (k := 3) rfl (zI_inc _ _ (by decide)) (by decide) rfl (fun ls hl => ?_)
        replace hl := lv_sub hl [1, 2, 3, 0, 4] rfl
        refine lv_goto (tgt := 2) C.1 C.2.1 dX7_noteClashes_60 (by decide) ?_
        obtain ⟨g60_3, hw⟩ := hw
        exact hL2 _ _ hw _ _ _ ⟨g60_3, Wd, lv_sub hl [0, 1, 2, 3] rfl⟩
    refine lv_if_eq (tgt := 35) C.1 C.2.1 dX7_noteClashes_17 (by decide) (fun c17 => ?_) (fun c17 => ?_)
    · have hw := hw.1 (z0_eq (rng_toInt _) c17)
      exact J35 σ2 _ _ _ ⟨hw, Wd, lv_sub hl [0, 1, 2, 3, 4] rfl⟩
    · have hw := hw.2 (z0_ne (rng_toInt _) c17)
      refine lv_aload_n C.1 C.2.1 dX7_noteClashes_20 rfl (lv_at hl 0 rfl) ?_
      refine k_get (v := .ref (ad 85)) C Wd.1 KX7 _ 1 (cx84 _) (by decide) fl_X7_18 rfl dX7_noteClashes_21 ?_
      refine lv_iload_n C.1 C.2.1 dX7_noteClashes_24 rfl (lv_at hl 3 rfl) ?_
      refine lv_dup2_11 C.1 C.2.1 dX7_noteClashes_25 rfl rfl ?_
      obtain ⟨n26_0, hw⟩ := hw
      refine k_ialdK (g := (σ2.2.1 85)) C Wd (cx85 _) (tC_at (by decide) rfl) n26_0 (by decide) dX7_noteClashes_26 ?_
      have ga26 : rng (σ2.2.1 85 l3_2) := rngL (fun j => (Wd.2.1).2.1 85 j) n26_0
      refine lv_iload_n C.1 C.2.1 dX7_noteClashes_27 rfl (lv_at hl 2 rfl) ?_
      refine lv_iload C.1 C.2.1 dX7_noteClashes_28 (lv_at hl 4 rfl) ?_
      refine lv_iconst (v := zI (-1)) C.1 C.2.1 dX7_noteClashes_30 (by decide) ?_
      refine k_ixor (v := zI (zixor (zishl 1 l3_2) (-1))) C (zixor_eq _ _) dX7_noteClashes_31 ?_
      refine k_iand (v := zI (ziand x1 (zixor (zishl 1 l3_2) (-1)))) C (ziand_eq _ _) dX7_noteClashes_32 ?_
      refine k_ior (v := zI (zior (σ2.2.1 85 l3_2) (ziand x1 (zixor (zishl 1 l3_2) (-1))))) C (zior_eq _ _) dX7_noteClashes_33 ?_
      refine k_iastF (g := (σ2.2.1 85)) (i := l3_2) (v := (zior (σ2.2.1 85 l3_2) (ziand x1 (zixor (zishl 1 l3_2) (-1))))) C Wd 85 (by decide) (cx85 _) (fun f => cx85a _ f) (tC_at (by decide) rfl) n26_0 (by decide) (ruZ (fun j => Wd.2.1.2.1 85 j) (rng_toInt _)) dX7_noteClashes_34 (fun H locs Wd => ?_)
      exact J35 (pF σ2 85 (uZ (σ2.2.1 85) l3_2 (zior (σ2.2.1 85 l3_2) (ziand x1 (zixor (zishl 1 l3_2) (-1)))))) _ _ _ ⟨hw, Wd, lv_sub hl [0, 1, 2, 3, 4] rfl⟩
set_option maxHeartbeats 4000000 in
set_option maxRecDepth 100000 in
theorem mk_F_setBy_88 : ∀ (D : va_G) (ad : Nat → Nat) (ca : Nat → ClassId) (rf : Nat → Nat → Option Nat) (σ : Sg) (hS : rngK σ) (hRF : RFok ad rf) (x0 : Int) (g_x0 : rng x0) (K : Int → Prop) (hw : wp5_F_setBy σ 88 x0 K) (l : Launch) (sz : Nat), Met l yX1_setBy (Cond.code yX1_setBy cX1_setBy 2 (some .int) :: gG) { frames := 2, cells := 0, slots := 0, locals := 85 } (cPre D (tC ca) (wK ad ca rf σ) sz [.ref (ad 88), .int (zI x0)]) (vp_Si (fun r => ∃ x : Int, r = zI x ∧ rng x ∧ K x)) 0 0 (fun _ => False) := by
  intro D ad ca rf σ hS hRF x0 g_x0 K hw l sz
  refine Met.ofW (cc := cX1_setBy) (maxL := 2) (ret := (some .int)) (by decide) rfl ?_
  intro p e s m args below meth c s₁ B hml hv
  obtain ⟨rfl, aks, rfl, Wd⟩ := k_enter hv
  have C : CallFix p m c cX1_setBy 2 s _ gG RX1 := ⟨B.exec, B.bytes, hml, findClass_of_methodNamed B.named, fun w h => atoms_spec (ws := Cond.code yX1_setBy cX1_setBy 2 (some .int) :: gG) B.pre w (List.mem_cons_of_mem _ h)⟩
  have hr := B.returns
  have hlk := B.notSynchronized
  obtain ⟨A, Wd⟩ : ∃ A, wXK D ad ca rf s σ s.heap A s.heap [] := ⟨_, Wd, hS, hRF⟩
  refine k_locals (Nat.le_of_ble_eq_true rfl) [(0, .ref (ad 88)), (1, .int (zI x0))] rfl (fun ls hl => ?_)
  unfold wp5_F_setBy at hw
  refine lv_aload_n C.1 C.2.1 dX1_setBy_0 rfl (lv_at hl 0 rfl) ?_
  refine lv_iload_n C.1 C.2.1 dX1_setBy_1 rfl (lv_at hl 1 rfl) ?_
  refine k_pi (k_runVK (rest := []) C aks Wd cs_X1_70 (mk_F_isHere_88 D ad ca rf σ Wd.2.1 Wd.2.2 x0 g_x0 _ hw l _) (cx88 _) rfl rfl rfl rfl ⟨(Nat.le_of_ble_eq_true rfl), (Nat.le_of_ble_eq_true rfl)⟩ hl.1 rfl rfl (Nat.le_of_ble_eq_true rfl) ⟨(Nat.le_of_ble_eq_true rfl), (Nat.le_of_ble_eq_true rfl)⟩ dX1_setBy_2) (fun y2 hy => ?_)
  obtain ⟨r2, rfl, g_r2, hw⟩ := hy
  refine lv_if_eq (tgt := 17) C.1 C.2.1 dX1_setBy_5 (by decide) (fun c5 => ?_) (fun c5 => ?_)
  · have hw := hw.1 (z0_eq g_r2 c5)
    refine lv_iconst (v := zI 0) C.1 C.2.1 dX1_setBy_17 (by decide) ?_
    exact k_zretP C hr hlk rfl ⟨_, rfl, (show rng 0 from by decide), hw⟩ dX1_setBy_18
  · have hw := hw.2 (z0_ne g_r2 c5)
    refine lv_aload_n C.1 C.2.1 dX1_setBy_8 rfl (lv_at hl 0 rfl) ?_
    refine k_get (v := .ref (ad 96)) C Wd.1 KX1 _ 9 (cx88 _) (by decide) fl_X1_42 rfl dX1_setBy_9 ?_
    refine lv_iload_n C.1 C.2.1 dX1_setBy_12 rfl (lv_at hl 1 rfl) ?_
    obtain ⟨n13_0, hw⟩ := hw
    refine k_ialdK (g := (σ.2.1 96)) C Wd (cx96 _) (tC_at (by decide) rfl) n13_0 (by decide) dX1_setBy_13 ?_
    have ga13 : rng (σ.2.1 96 x0) := rngL (fun j => (Wd.2.1).2.1 96 j) n13_0
    refine lv_goto (tgt := 18) C.1 C.2.1 dX1_setBy_14 (by decide) ?_
    exact k_zretP C hr hlk rfl ⟨_, rfl, ga13, hw⟩ dX1_setBy_18
set_option maxHeartbeats 4000000 in
set_option maxRecDepth 100000 in
theorem mk_F_behind_88 : ∀ (D : va_G) (ad : Nat → Nat) (ca : Nat → ClassId) (rf : Nat → Nat → Option Nat) (σ : Sg) (hS : rngK σ) (hRF : RFok ad rf) (x0 : Int) (g_x0 : rng x0) (K : Int → Prop) (hw : wp5_F_behind σ 88 x0 K) (l : Launch) (sz : Nat), Met l yX1_behind (Cond.code yX1_behind cX1_behind 2 (some .int) :: gG) { frames := 3, cells := 0, slots := 0, locals := 106 } (cPre D (tC ca) (wK ad ca rf σ) sz [.ref (ad 88), .int (zI x0)]) (vp_Si (fun r => ∃ x : Int, r = zI x ∧ rng x ∧ K x)) 0 0 (fun _ => False) := by
  intro D ad ca rf σ hS hRF x0 g_x0 K hw l sz
  refine Met.ofW (cc := cX1_behind) (maxL := 2) (ret := (some .int)) (by decide) rfl ?_
  intro p e s m args below meth c s₁ B hml hv
  obtain ⟨rfl, aks, rfl, Wd⟩ := k_enter hv
  have C : CallFix p m c cX1_behind 2 s _ gG RX1 := ⟨B.exec, B.bytes, hml, findClass_of_methodNamed B.named, fun w h => atoms_spec (ws := Cond.code yX1_behind cX1_behind 2 (some .int) :: gG) B.pre w (List.mem_cons_of_mem _ h)⟩
  have hr := B.returns
  have hlk := B.notSynchronized
  obtain ⟨A, Wd⟩ : ∃ A, wXK D ad ca rf s σ s.heap A s.heap [] := ⟨_, Wd, hS, hRF⟩
  refine k_locals (Nat.le_of_ble_eq_true rfl) [(0, .ref (ad 88)), (1, .int (zI x0))] rfl (fun ls hl => ?_)
  unfold wp5_F_behind at hw
  refine lv_aload_n C.1 C.2.1 dX1_behind_0 rfl (lv_at hl 0 rfl) ?_
  refine lv_iload_n C.1 C.2.1 dX1_behind_1 rfl (lv_at hl 1 rfl) ?_
  refine k_pi (k_runVK (rest := []) C aks Wd cs_X1_70 (mk_F_isHere_88 D ad ca rf σ Wd.2.1 Wd.2.2 x0 g_x0 _ hw l _) (cx88 _) rfl rfl rfl rfl ⟨(Nat.le_of_ble_eq_true rfl), (Nat.le_of_ble_eq_true rfl)⟩ hl.1 rfl rfl (Nat.le_of_ble_eq_true rfl) ⟨(Nat.le_of_ble_eq_true rfl), (Nat.le_of_ble_eq_true rfl)⟩ dX1_behind_2) (fun y2 hy => ?_)
  obtain ⟨r2, rfl, g_r2, hw⟩ := hy
  refine lv_if_eq (tgt := 32) C.1 C.2.1 dX1_behind_5 (by decide) (fun c5 => ?_) (fun c5 => ?_)
  · have hw := hw.1 (z0_eq g_r2 c5)
    refine lv_iconst (v := zI 0) C.1 C.2.1 dX1_behind_32 (by decide) ?_
    exact k_zretP C hr hlk rfl ⟨_, rfl, (show rng 0 from by decide), hw⟩ dX1_behind_33
  · have hw := hw.2 (z0_ne g_r2 c5)
    refine lv_aload_n C.1 C.2.1 dX1_behind_8 rfl (lv_at hl 0 rfl) ?_
    refine lv_aload_n C.1 C.2.1 dX1_behind_9 rfl (lv_at hl 0 rfl) ?_
    refine k_get (v := .ref (ad 93)) C Wd.1 KX1 _ 6 (cx88 _) (by decide) fl_X1_33 rfl dX1_behind_10 ?_
    refine lv_iload_n C.1 C.2.1 dX1_behind_13 rfl (lv_at hl 1 rfl) ?_
    obtain ⟨n14_0, hw⟩ := hw
    refine k_ialdK (g := (σ.2.1 93)) C Wd (cx93 _) (tC_at (by decide) rfl) n14_0 (by decide) dX1_behind_14 ?_
    have ga14 : rng (σ.2.1 93 x0) := rngL (fun j => (Wd.2.1).2.1 93 j) n14_0
    refine k_pi (k_runVK (rest := []) C aks Wd cs_X1_74 (mk_F_aheadOf_88 D ad ca rf σ Wd.2.1 Wd.2.2 (σ.2.1 93 x0) ga14 _ hw l _) (cx88 _) rfl rfl rfl rfl ⟨(Nat.le_of_ble_eq_true rfl), (Nat.le_of_ble_eq_true rfl)⟩ hl.1 rfl rfl (Nat.le_of_ble_eq_true rfl) ⟨(Nat.le_of_ble_eq_true rfl), (Nat.le_of_ble_eq_true rfl)⟩ dX1_behind_15) (fun y15 hy => ?_)
    obtain ⟨r15, rfl, g_r15, hw⟩ := hy
    refine lv_aload_n C.1 C.2.1 dX1_behind_18 rfl (lv_at hl 0 rfl) ?_
    refine lv_aload_n C.1 C.2.1 dX1_behind_19 rfl (lv_at hl 0 rfl) ?_
    refine k_get (v := .ref (ad 94)) C Wd.1 KX1 _ 7 (cx88 _) (by decide) fl_X1_36 rfl dX1_behind_20 ?_
    refine lv_iload_n C.1 C.2.1 dX1_behind_23 rfl (lv_at hl 1 rfl) ?_
    refine k_ialdK (g := (σ.2.1 94)) C Wd (cx94 _) (tC_at (by decide) rfl) n14_0 (by decide) dX1_behind_24 ?_
    have ga24 : rng (σ.2.1 94 x0) := rngL (fun j => (Wd.2.1).2.1 94 j) n14_0
    refine k_pi (k_runVK (rest := [.int (zI r15)]) C aks Wd cs_X1_74 (mk_F_aheadOf_88 D ad ca rf σ Wd.2.1 Wd.2.2 (σ.2.1 94 x0) ga24 _ hw l _) (cx88 _) rfl rfl rfl rfl ⟨(Nat.le_of_ble_eq_true rfl), (Nat.le_of_ble_eq_true rfl)⟩ hl.1 rfl rfl (Nat.le_of_ble_eq_true rfl) ⟨(Nat.le_of_ble_eq_true rfl), (Nat.le_of_ble_eq_true rfl)⟩ dX1_behind_25) (fun y25 hy => ?_)
    obtain ⟨r25, rfl, g_r25, hw⟩ := hy
    refine k_ior (v := zI (zior r15 r25)) C (zior_eq _ _) dX1_behind_28 ?_
    refine lv_goto (tgt := 33) C.1 C.2.1 dX1_behind_29 (by decide) ?_
    exact k_zretP C hr hlk rfl ⟨_, rfl, (rng_toInt _), hw⟩ dX1_behind_33
set_option maxHeartbeats 4000000 in
set_option maxRecDepth 100000 in
theorem mk_G_study : ∀ (D : va_G) (ad : Nat → Nat) (ca : Nat → ClassId) (rf : Nat → Nat → Option Nat) (σ : Sg) (hS : rngK σ) (hRF : RFok ad rf) (x0 : Int) (g_x0 : 0 ≤ x0 ∧ x0 < 35) (K : Sg → Prop) (hw : wp5_G_study σ x0 K) (l : Launch) (sz : Nat), Met l yX7_study (Cond.code yX7_study cX7_study 3 none :: gG) { frames := 5, cells := 0, slots := 0, locals := 152 } (cPre D (tC ca) (wK ad ca rf σ) sz [.ref (ad 84), .ref (ad (rowC x0.toNat))]) (va_Qv (fun (u : Sg) => K u ∧ rngK u) (fun u t => cB D (va_A (wK ad ca rf σ) sz) [] (wK ad ca rf u) t) (va_A (wK ad ca rf σ) sz)) 0 0 (va_A (wK ad ca rf σ) sz) := by
  intro D ad ca rf σ hS hRF x0 g_x0 K hw l sz
  refine Met.ofW (cc := cX7_study) (maxL := 3) (ret := none) (by decide) rfl ?_
  intro p e s m args below meth c s₁ B hml hv
  obtain ⟨rfl, aks, rfl, Wd⟩ := k_enter hv
  have C : CallFix p m c cX7_study 3 s _ gG RX7 := ⟨B.exec, B.bytes, hml, findClass_of_methodNamed B.named, fun w h => atoms_spec (ws := Cond.code yX7_study cX7_study 3 none :: gG) B.pre w (List.mem_cons_of_mem _ h)⟩
  have hr := B.returns
  have hlk := B.notSynchronized
  generalize va_A (wK ad ca rf σ) s.heap.size = A at Wd ⊢
  replace Wd : wXK D ad ca rf s σ s.heap A s.heap [] := ⟨Wd, hS, hRF⟩
  refine k_locals (Nat.le_of_ble_eq_true rfl) [(0, .ref (ad 84)), (1, .ref (ad (rowC x0.toNat)))] rfl (fun ls hl => ?_)
  unfold wp5_G_study at hw
  refine lv_aload_n C.1 C.2.1 dX7_study_0 rfl (lv_at hl 0 rfl) ?_
  refine k_get (v := .ref (ad 88)) C Wd.1 KX7 _ 0 (cx84 _) (by decide) fl_X7_12 rfl dX7_study_1 ?_
  refine lv_aload_n C.1 C.2.1 dX7_study_4 rfl (lv_at hl 1 rfl) ?_
  refine k_cKv Wd (k_runVK (rest := []) C aks Wd cs_X7_28 (mk_F_trace_88 D ad ca rf σ Wd.2.1 Wd.2.2 x0 g_x0 _ hw l _) (cx88 _) rfl rfl rfl rfl ⟨(Nat.le_of_ble_eq_true rfl), (Nat.le_of_ble_eq_true rfl)⟩ hl.1 rfl rfl (Nat.le_of_ble_eq_true rfl) ⟨(Nat.le_of_ble_eq_true rfl), (Nat.le_of_ble_eq_true rfl)⟩ dX7_study_5) (fun σr5 H locs hw Wd => ?_)
  have hS_σr5 := Wd.2.1
  refine lv_aload_n C.1 C.2.1 dX7_study_8 rfl (lv_at hl 0 rfl) ?_
  refine lv_iconst (v := zI 0) C.1 C.2.1 dX7_study_9 (by decide) ?_
  refine k_putK (v := 0) C Wd KX7 84 4 (by decide) (cx84 _) rfl (by decide) fl_X7_32 rfl rfl rfl (Nat.le_of_ble_eq_true rfl) (show rng 0 from by decide) dX7_study_10 (fun H locs Wd => ?_)
  refine lv_iconst (v := zI 0) C.1 C.2.1 dX7_study_13 (by decide) ?_
  refine lv_istore_n (lv' := [(2, .int (zI 0)), (0, .ref (ad 84)), (1, .ref (ad (rowC x0.toNat)))]) C.1 C.2.1 dX7_study_14 rfl hl (by decide) rfl (fun ls hl => ?_)
  replace hl := lv_sub hl [1, 2, 0] rfl
  refine k_lp2 hw (fun (l2_15 : Int) (σ15 : Sg) H locs ls => rng l2_15 ∧ wXK D ad ca rf s σ15 H A s.heap locs ∧ lv_has ls 3 [(0, .ref (ad 84)), (1, .ref (ad (rowC x0.toNat))), (2, .int (zI l2_15))]) (fun (l2_15 : Int) (σ15 : Sg) ls => F0 m 15 ls []) (fun L15 hL15 l2_15 σ15 hw H locs ls hi => ?_) _ _ _ ⟨(show rng 0 from by decide), Wd, lv_sub hl [0, 1, 2] rfl⟩
  obtain ⟨g_l2_15, Wd, hl⟩ := hi
  have hS_σ15 := Wd.2.1
  unfold wp5_G_study_15 at hw
  refine lv_iload_n C.1 C.2.1 dX7_study_15 rfl (lv_at hl 2 rfl) ?_
  refine lv_bipush (v := zI 6) C.1 C.2.1 dX7_study_16 (by decide) ?_
  refine lv_icmp_ge (tgt := 41) C.1 C.2.1 dX7_study_18 (by decide) (fun c18 => ?_) (fun c18 => ?_)
  · have hw := hw.1 (z_le (show rng 6 from by decide) g_l2_15 c18)
    refine lv_iconst (v := zI 0) C.1 C.2.1 dX7_study_41 (by decide) ?_
    refine lv_istore_n (lv' := [(2, .int (zI 0)), (0, .ref (ad 84)), (1, .ref (ad (rowC x0.toNat)))]) C.1 C.2.1 dX7_study_42 rfl hl (by decide) rfl (fun ls hl => ?_)
    replace hl := lv_sub hl [1, 2, 0] rfl
    refine k_lp2 hw (fun (l2_43 : Int) (σ43 : Sg) H locs ls => rng l2_43 ∧ wXK D ad ca rf s σ43 H A s.heap locs ∧ lv_has ls 3 [(0, .ref (ad 84)), (1, .ref (ad (rowC x0.toNat))), (2, .int (zI l2_43))]) (fun (l2_43 : Int) (σ43 : Sg) ls => F0 m 43 ls []) (fun L43 hL43 l2_43 σ43 hw H locs ls hi => ?_) _ _ _ ⟨(show rng 0 from by decide), Wd, lv_sub hl [0, 1, 2] rfl⟩
    obtain ⟨g_l2_43, Wd, hl⟩ := hi
    have hS_σ43 := Wd.2.1
    unfold wp5_G_study_43 at hw
    refine lv_iload_n C.1 C.2.1 dX7_study_43 rfl (lv_at hl 2 rfl) ?_
    refine lv_aload_n C.1 C.2.1 dX7_study_44 rfl (lv_at hl 1 rfl) ?_
    refine k_get (v := .int (zI (σ43.2.2.1 0 x0))) C Wd.1 KX8 _ 1 (cxRow g_x0) (by decide) fl_X7_36 rfl dX7_study_45 ?_
    refine lv_icmp_ge (tgt := 66) C.1 C.2.1 dX7_study_48 (by decide) (fun c48 => ?_) (fun c48 => ?_)
    · have hw := hw.1 (z_le (rgY hS_σ43 (N := 35) g_x0) g_l2_43 c48)
      refine lv_iconst (v := zI 0) C.1 C.2.1 dX7_study_66 (by decide) ?_
      refine lv_istore_n (lv' := [(2, .int (zI 0)), (0, .ref (ad 84)), (1, .ref (ad (rowC x0.toNat)))]) C.1 C.2.1 dX7_study_67 rfl hl (by decide) rfl (fun ls hl => ?_)
      replace hl := lv_sub hl [1, 2, 0] rfl
      refine k_lp2 hw (fun (l2_68 : Int) (σ68 : Sg) H locs ls => rng l2_68 ∧ wXK D ad ca rf s σ68 H A s.heap locs ∧ lv_has ls 3 [(0, .ref (ad 84)), (2, .int (zI l2_68))]) (fun (l2_68 : Int) (σ68 : Sg) ls => F0 m 68 ls []) (fun L68 hL68 l2_68 σ68 hw H locs ls hi => ?_) _ _ _ ⟨(show rng 0 from by decide), Wd, lv_sub hl [0, 2] rfl⟩
      obtain ⟨g_l2_68, Wd, hl⟩ := hi
      have hS_σ68 := Wd.2.1
      unfold wp5_G_study_68 at hw
      refine lv_iload_n C.1 C.2.1 dX7_study_68 rfl (lv_at hl 1 rfl) ?_
      refine lv_aload_n C.1 C.2.1 dX7_study_69 rfl (lv_at hl 0 rfl) ?_
      refine k_get (v := .ref (ad 88)) C Wd.1 KX7 _ 0 (cx84 _) (by decide) fl_X7_12 rfl dX7_study_70 ?_
      refine k_get (v := .int (zI (σ68.1 88 1))) C Wd.1 KX1 _ 1 (cx88 _) (by decide) fl_X7_49 rfl dX7_study_73 ?_
      refine lv_icmp_ge (tgt := 125) C.1 C.2.1 dX7_study_76 (by decide) (fun c76 => ?_) (fun c76 => ?_)
      · have hw := hw.1 (z_le (hS_σ68.1 88 1) g_l2_68 c76)
        exact k_retKv C hr hlk Wd hw dX7_study_125
      · have hw := hw.2 (z_nle (hS_σ68.1 88 1) g_l2_68 c76)
        refine lv_aload_n C.1 C.2.1 dX7_study_79 rfl (lv_at hl 0 rfl) ?_
        refine lv_aload_n C.1 C.2.1 dX7_study_80 rfl (lv_at hl 0 rfl) ?_
        refine k_get (v := .ref (ad 88)) C Wd.1 KX7 _ 0 (cx84 _) (by decide) fl_X7_12 rfl dX7_study_81 ?_
        refine lv_iload_n C.1 C.2.1 dX7_study_84 rfl (lv_at hl 1 rfl) ?_
        refine k_pi (k_runVK (rest := [.ref (ad 84)]) C aks Wd cs_X7_51 (mk_F_aheadOf_88 D ad ca rf σ68 Wd.2.1 Wd.2.2 l2_68 g_l2_68 _ hw l _) (cx88 _) rfl rfl rfl rfl ⟨(Nat.le_of_ble_eq_true rfl), (Nat.le_of_ble_eq_true rfl)⟩ hl.1 rfl rfl (Nat.le_of_ble_eq_true rfl) ⟨(Nat.le_of_ble_eq_true rfl), (Nat.le_of_ble_eq_true rfl)⟩ dX7_study_85) (fun y85 hy => ?_)
        obtain ⟨r85, rfl, g_r85, hw⟩ := hy
        refine lv_aload_n C.1 C.2.1 dX7_study_88 rfl (lv_at hl 0 rfl) ?_
        refine k_get (v := .ref (ad 88)) C Wd.1 KX7 _ 0 (cx84 _) (by decide) fl_X7_12 rfl dX7_study_89 ?_
        refine lv_iload_n C.1 C.2.1 dX7_study_92 rfl (lv_at hl 1 rfl) ?_
        refine k_pi (k_runVK (rest := [.int (zI r85), .ref (ad 84)]) C aks Wd cs_X7_51 (mk_F_aheadOf_88 D ad ca rf σ68 Wd.2.1 Wd.2.2 l2_68 g_l2_68 _ hw l _) (cx88 _) rfl rfl rfl rfl ⟨(Nat.le_of_ble_eq_true rfl), (Nat.le_of_ble_eq_true rfl)⟩ hl.1 rfl rfl (Nat.le_of_ble_eq_true rfl) ⟨(Nat.le_of_ble_eq_true rfl), (Nat.le_of_ble_eq_true rfl)⟩ dX7_study_93) (fun y93 hy => ?_)
        obtain ⟨r93, rfl, g_r93, hw⟩ := hy
        refine k_cKv Wd (k_runVK (rest := []) C aks Wd cs_X7_54 (mk_G_noteClashes D ad ca rf σ68 Wd.2.1 Wd.2.2 r85 r93 g_r85 g_r93 _ hw l _) (cx84 _) rfl rfl rfl rfl ⟨(Nat.le_of_ble_eq_true rfl), (Nat.le_of_ble_eq_true rfl)⟩ hl.1 rfl rfl (Nat.le_of_ble_eq_true rfl) ⟨(Nat.le_of_ble_eq_true rfl), (Nat.le_of_ble_eq_true rfl)⟩ dX7_study_96) (fun σr96 H locs hw Wd => ?_)
        have hS_σr96 := Wd.2.1
        refine lv_aload_n C.1 C.2.1 dX7_study_99 rfl (lv_at hl 0 rfl) ?_
        refine lv_aload_n C.1 C.2.1 dX7_study_100 rfl (lv_at hl 0 rfl) ?_
        refine k_get (v := .ref (ad 88)) C Wd.1 KX7 _ 0 (cx84 _) (by decide) fl_X7_12 rfl dX7_study_101 ?_
        refine lv_iload_n C.1 C.2.1 dX7_study_104 rfl (lv_at hl 1 rfl) ?_
        refine k_pi (k_runVK (rest := [.ref (ad 84)]) C aks Wd cs_X7_58 (mk_F_setBy_88 D ad ca rf σr96 Wd.2.1 Wd.2.2 l2_68 g_l2_68 _ hw l _) (cx88 _) rfl rfl rfl rfl ⟨(Nat.le_of_ble_eq_true rfl), (Nat.le_of_ble_eq_true rfl)⟩ hl.1 rfl rfl (Nat.le_of_ble_eq_true rfl) ⟨(Nat.le_of_ble_eq_true rfl), (Nat.le_of_ble_eq_true rfl)⟩ dX7_study_105) (fun y105 hy => ?_)
        obtain ⟨r105, rfl, g_r105, hw⟩ := hy
        refine lv_aload_n C.1 C.2.1 dX7_study_108 rfl (lv_at hl 0 rfl) ?_
        refine k_get (v := .ref (ad 88)) C Wd.1 KX7 _ 0 (cx84 _) (by decide) fl_X7_12 rfl dX7_study_109 ?_
        refine lv_iload_n C.1 C.2.1 dX7_study_112 rfl (lv_at hl 1 rfl) ?_
        refine k_pi (k_runVK (rest := [.int (zI r105), .ref (ad 84)]) C aks Wd cs_X7_61 (mk_F_behind_88 D ad ca rf σr96 Wd.2.1 Wd.2.2 l2_68 g_l2_68 _ hw l _) (cx88 _) rfl rfl rfl rfl ⟨(Nat.le_of_ble_eq_true rfl), (Nat.le_of_ble_eq_true rfl)⟩ hl.1 rfl rfl (Nat.le_of_ble_eq_true rfl) ⟨(Nat.le_of_ble_eq_true rfl), (Nat.le_of_ble_eq_true rfl)⟩ dX7_study_113) (fun y113 hy => ?_)
        obtain ⟨r113, rfl, g_r113, hw⟩ := hy
        refine k_cKv Wd (k_runVK (rest := []) C aks Wd cs_X7_54 (mk_G_noteClashes D ad ca rf σr96 Wd.2.1 Wd.2.2 r105 r113 g_r105 g_r113 _ hw l _) (cx84 _) rfl rfl rfl rfl ⟨(Nat.le_of_ble_eq_true rfl), (Nat.le_of_ble_eq_true rfl)⟩ hl.1 rfl rfl (Nat.le_of_ble_eq_true rfl) ⟨(Nat.le_of_ble_eq_true rfl), (Nat.le_of_ble_eq_true rfl)⟩ dX7_study_116) (fun σr116 H locs hw Wd => ?_)
        have hS_σr116 := Wd.2.1
        refine lv_iinc (v := zI (l2_68 + 1)) (lv' := [(2, .int (zI (l2_68 + 1))), (0, .ref (ad 84))]) C.1 C.2.1 dX7_study_119 hl (k := 1) rfl (zI_inc _ _ (by decide)) (by decide) rfl (fun ls hl => ?_)
        replace hl := lv_sub hl [1, 0] rfl
        refine lv_goto (tgt := 68) C.1 C.2.1 dX7_study_122 (by decide) ?_
        obtain ⟨g122_6, hw⟩ := hw
        exact hL68 _ _ hw _ _ _ ⟨g122_6, Wd, lv_sub hl [0, 1] rfl⟩
    · have hw := hw.2 (z_nle (rgY hS_σ43 (N := 35) g_x0) g_l2_43 c48)
      refine lv_aload_n C.1 C.2.1 dX7_study_51 rfl (lv_at hl 0 rfl) ?_
      refine lv_aload_n C.1 C.2.1 dX7_study_52 rfl (lv_at hl 1 rfl) ?_
      refine lv_iload_n C.1 C.2.1 dX7_study_53 rfl (lv_at hl 2 rfl) ?_
      refine k_pi (k_runVK (rest := [.ref (ad 84)]) C aks Wd cs_X7_41 (mk_W_cell D ad ca rf σ43 Wd.2.1 Wd.2.2 x0 l2_43 g_x0 g_l2_43 _ hw l _) (cxRow g_x0) rfl rfl rfl rfl ⟨(Nat.le_of_ble_eq_true rfl), (Nat.le_of_ble_eq_true rfl)⟩ hl.1 rfl rfl (Nat.le_of_ble_eq_true rfl) ⟨(Nat.le_of_ble_eq_true rfl), (Nat.le_of_ble_eq_true rfl)⟩ dX7_study_54) (fun y54 hy => ?_)
      obtain ⟨r54, rfl, g_r54, hw⟩ := hy
      refine k_cKv Wd (k_runVK (rest := []) C aks Wd cs_X7_45 (mk_G_count D ad ca rf σ43 Wd.2.1 Wd.2.2 r54 g_r54 _ hw l _) (cx84 _) rfl rfl rfl rfl ⟨(Nat.le_of_ble_eq_true rfl), (Nat.le_of_ble_eq_true rfl)⟩ hl.1 rfl rfl (Nat.le_of_ble_eq_true rfl) ⟨(Nat.le_of_ble_eq_true rfl), (Nat.le_of_ble_eq_true rfl)⟩ dX7_study_57) (fun σr57 H locs hw Wd => ?_)
      have hS_σr57 := Wd.2.1
      refine lv_iinc (v := zI (l2_43 + 1)) (lv' := [(2, .int (zI (l2_43 + 1))), (0, .ref (ad 84)), (1, .ref (ad (rowC x0.toNat)))]) C.1 C.2.1 dX7_study_60 hl (k := 2) rfl (zI_inc _ _ (by decide)) (by decide) rfl (fun ls hl => ?_)
      replace hl := lv_sub hl [1, 2, 0] rfl
      refine lv_goto (tgt := 43) C.1 C.2.1 dX7_study_63 (by decide) ?_
      obtain ⟨g63_7, hw⟩ := hw
      exact hL43 _ _ hw _ _ _ ⟨g63_7, Wd, lv_sub hl [0, 1, 2] rfl⟩
  · have hw := hw.2 (z_nle (show rng 6 from by decide) g_l2_15 c18)
    refine lv_aload_n C.1 C.2.1 dX7_study_21 rfl (lv_at hl 0 rfl) ?_
    refine k_get (v := .ref (ad 85)) C Wd.1 KX7 _ 1 (cx84 _) (by decide) fl_X7_18 rfl dX7_study_22 ?_
    refine lv_iload_n C.1 C.2.1 dX7_study_25 rfl (lv_at hl 2 rfl) ?_
    refine lv_iconst (v := zI 0) C.1 C.2.1 dX7_study_26 (by decide) ?_
    obtain ⟨n27_0, hw⟩ := hw
    refine k_iastF (g := (σ15.2.1 85)) (i := l2_15) (v := 0) C Wd 85 (by decide) (cx85 _) (fun f => cx85a _ f) (tC_at (by decide) rfl) n27_0 (by decide) (ruZ (fun j => Wd.2.1.2.1 85 j) (show rng 0 from by decide)) dX7_study_27 (fun H locs Wd => ?_)
    refine lv_aload_n C.1 C.2.1 dX7_study_28 rfl (lv_at hl 0 rfl) ?_
    refine k_get (v := .ref (ad 86)) C Wd.1 KX7 _ 2 (cx84 _) (by decide) fl_X7_22 rfl dX7_study_29 ?_
    refine lv_iload_n C.1 C.2.1 dX7_study_32 rfl (lv_at hl 2 rfl) ?_
    refine lv_iconst (v := zI 0) C.1 C.2.1 dX7_study_33 (by decide) ?_
    refine k_iastF (g := (σ15.2.1 86)) (i := l2_15) (v := 0) C Wd 86 (by decide) (cx86 _) (fun f => cx86a _ f) (tC_at (by decide) rfl) n27_0 (by decide) (ruZ (fun j => Wd.2.1.2.1 86 j) (show rng 0 from by decide)) dX7_study_34 (fun H locs Wd => ?_)
    refine lv_iinc (v := zI (l2_15 + 1)) (lv' := [(2, .int (zI (l2_15 + 1))), (0, .ref (ad 84)), (1, .ref (ad (rowC x0.toNat)))]) C.1 C.2.1 dX7_study_35 hl (k := 2) rfl (zI_inc _ _ (by decide)) (by decide) rfl (fun ls hl => ?_)
    replace hl := lv_sub hl [1, 2, 0] rfl
    refine lv_goto (tgt := 15) C.1 C.2.1 dX7_study_38 (by decide) ?_
    obtain ⟨g38_8, hw⟩ := hw
    exact hL15 _ _ hw _ _ _ ⟨g38_8, Wd, lv_sub hl [0, 1, 2] rfl⟩
set_option maxHeartbeats 4000000 in
set_option maxRecDepth 100000 in
theorem mk_G_clashing : ∀ (D : va_G) (ad : Nat → Nat) (ca : Nat → ClassId) (rf : Nat → Nat → Option Nat) (σ : Sg) (hS : rngK σ) (hRF : RFok ad rf) (x0 : Int) (x1 : Int) (g_x0 : rng x0) (g_x1 : rng x1) (K : Int → Prop) (hw : wp5_G_clashing σ x0 x1 K) (l : Launch) (sz : Nat), Met l yX7_clashing (Cond.code yX7_clashing cX7_clashing 3 (some .boolean) :: gG) { frames := 2, cells := 0, slots := 0, locals := 84 } (cPre D (tC ca) (wK ad ca rf σ) sz [.ref (ad 84), .int (zI x0), .int (zI x1)]) (vp_Si (fun r => ∃ x : Int, r = zI x ∧ rng x ∧ K x)) 0 0 (fun _ => False) := by
  intro D ad ca rf σ hS hRF x0 x1 g_x0 g_x1 K hw l sz
  refine Met.ofW (cc := cX7_clashing) (maxL := 3) (ret := (some .boolean)) (by decide) rfl ?_
  intro p e s m args below meth c s₁ B hml hv
  obtain ⟨rfl, aks, rfl, Wd⟩ := k_enter hv
  have C : CallFix p m c cX7_clashing 3 s _ gG RX7 := ⟨B.exec, B.bytes, hml, findClass_of_methodNamed B.named, fun w h => atoms_spec (ws := Cond.code yX7_clashing cX7_clashing 3 (some .boolean) :: gG) B.pre w (List.mem_cons_of_mem _ h)⟩
  have hr := B.returns
  have hlk := B.notSynchronized
  obtain ⟨A, Wd⟩ : ∃ A, wXK D ad ca rf s σ s.heap A s.heap [] := ⟨_, Wd, hS, hRF⟩
  refine k_locals (Nat.le_of_ble_eq_true rfl) [(0, .ref (ad 84)), (1, .int (zI x0)), (2, .int (zI x1))] rfl (fun ls hl => ?_)
  unfold wp5_G_clashing at hw
  refine lv_iload_n C.1 C.2.1 dX7_clashing_0 rfl (lv_at hl 1 rfl) ?_
  refine k_pi (k_runN (rest := []) C aks Wd.1 aks.2.2.2 cs_X7_71 (mk_S_isVariable D x0 g_x0 _ hw l _) [] rfl (by decide) [] rfl rfl rfl ⟨(Nat.le_of_ble_eq_true rfl), (Nat.le_of_ble_eq_true rfl)⟩ hl.1 rfl rfl (Nat.le_of_ble_eq_true rfl) ⟨(Nat.le_of_ble_eq_true rfl), (Nat.le_of_ble_eq_true rfl)⟩ dX7_clashing_1) (fun y1 hy => ?_)
  obtain ⟨r1, rfl, g_r1, hw⟩ := hy
  refine lv_if_eq (tgt := 31) C.1 C.2.1 dX7_clashing_4 (by decide) (fun c4 => ?_) (fun c4 => ?_)
  · have hw := hw.1 (z0_eq g_r1 c4)
    refine lv_iconst (v := zI 0) C.1 C.2.1 dX7_clashing_31 (by decide) ?_
    exact k_zretP C hr hlk (by decide) ⟨_, rfl, (show rng 0 from by decide), hw⟩ dX7_clashing_32
  · have hw := hw.2 (z0_ne g_r1 c4)
    refine lv_iload_n C.1 C.2.1 dX7_clashing_7 rfl (lv_at hl 2 rfl) ?_
    refine k_pi (k_runN (rest := []) C aks Wd.1 aks.2.2.2 cs_X7_71 (mk_S_isVariable D x1 g_x1 _ hw l _) [] rfl (by decide) [] rfl rfl rfl ⟨(Nat.le_of_ble_eq_true rfl), (Nat.le_of_ble_eq_true rfl)⟩ hl.1 rfl rfl (Nat.le_of_ble_eq_true rfl) ⟨(Nat.le_of_ble_eq_true rfl), (Nat.le_of_ble_eq_true rfl)⟩ dX7_clashing_8) (fun y8 hy => ?_)
    obtain ⟨r8, rfl, g_r8, hw⟩ := hy
    refine lv_if_eq (tgt := 31) C.1 C.2.1 dX7_clashing_11 (by decide) (fun c11 => ?_) (fun c11 => ?_)
    · have hw := hw.1 (z0_eq g_r8 c11)
      refine lv_iconst (v := zI 0) C.1 C.2.1 dX7_clashing_31 (by decide) ?_
      exact k_zretP C hr hlk (by decide) ⟨_, rfl, (show rng 0 from by decide), hw⟩ dX7_clashing_32
    · have hw := hw.2 (z0_ne g_r8 c11)
      refine lv_aload_n C.1 C.2.1 dX7_clashing_14 rfl (lv_at hl 0 rfl) ?_
      refine k_get (v := .ref (ad 85)) C Wd.1 KX7 _ 1 (cx84 _) (by decide) fl_X7_18 rfl dX7_clashing_15 ?_
      refine lv_iload_n C.1 C.2.1 dX7_clashing_18 rfl (lv_at hl 1 rfl) ?_
      obtain ⟨n19_0, hw⟩ := hw
      refine k_ialdK (g := (σ.2.1 85)) C Wd (cx85 _) (tC_at (by decide) rfl) n19_0 (by decide) dX7_clashing_19 ?_
      have ga19 : rng (σ.2.1 85 x0) := rngL (fun j => (Wd.2.1).2.1 85 j) n19_0
      refine lv_iload_n C.1 C.2.1 dX7_clashing_20 rfl (lv_at hl 2 rfl) ?_
      refine k_ishr (v := zI (zishr (σ.2.1 85 x0) x1)) C (zishr_eq _ _) dX7_clashing_21 ?_
      refine lv_iconst (v := zI 1) C.1 C.2.1 dX7_clashing_22 (by decide) ?_
      refine k_iand (v := zI (ziand (zishr (σ.2.1 85 x0) x1) 1)) C (ziand_eq _ _) dX7_clashing_23 ?_
      refine lv_if_eq (tgt := 31) C.1 C.2.1 dX7_clashing_24 (by decide) (fun c24 => ?_) (fun c24 => ?_)
      · have hw := hw.1 (z0_eq (rng_toInt _) c24)
        refine lv_iconst (v := zI 0) C.1 C.2.1 dX7_clashing_31 (by decide) ?_
        exact k_zretP C hr hlk (by decide) ⟨_, rfl, (show rng 0 from by decide), hw⟩ dX7_clashing_32
      · have hw := hw.2 (z0_ne (rng_toInt _) c24)
        refine lv_iconst (v := zI 1) C.1 C.2.1 dX7_clashing_27 (by decide) ?_
        refine lv_goto (tgt := 32) C.1 C.2.1 dX7_clashing_28 (by decide) ?_
        exact k_zretP C hr hlk (by decide) ⟨_, rfl, (show rng 1 from by decide), hw⟩ dX7_clashing_32
set_option maxHeartbeats 4000000 in
set_option maxRecDepth 100000 in
theorem mk_G_isFree : ∀ (D : va_G) (ad : Nat → Nat) (ca : Nat → ClassId) (rf : Nat → Nat → Option Nat) (σ : Sg) (hS : rngK σ) (hRF : RFok ad rf) (x0 : Int) (x1 : Int) (g_x0 : rng x0) (g_x1 : rng x1) (K : Int → Prop) (hw : wp5_G_isFree σ x0 x1 K) (l : Launch) (sz : Nat), Met l yX7_isFree (Cond.code yX7_isFree cX7_isFree 4 (some .boolean) :: gG) { frames := 3, cells := 0, slots := 0, locals := 106 } (cPre D (tC ca) (wK ad ca rf σ) sz [.ref (ad 84), .int (zI x0), .int (zI x1)]) (vp_Si (fun r => ∃ x : Int, r = zI x ∧ rng x ∧ K x)) 0 0 (fun _ => False) := by
  intro D ad ca rf σ hS hRF x0 x1 g_x0 g_x1 K hw l sz
  refine Met.ofW (cc := cX7_isFree) (maxL := 4) (ret := (some .boolean)) (by decide) rfl ?_
  intro p e s m args below meth c s₁ B hml hv
  obtain ⟨rfl, aks, rfl, Wd⟩ := k_enter hv
  have C : CallFix p m c cX7_isFree 4 s _ gG RX7 := ⟨B.exec, B.bytes, hml, findClass_of_methodNamed B.named, fun w h => atoms_spec (ws := Cond.code yX7_isFree cX7_isFree 4 (some .boolean) :: gG) B.pre w (List.mem_cons_of_mem _ h)⟩
  have hr := B.returns
  have hlk := B.notSynchronized
  obtain ⟨A, Wd⟩ : ∃ A, wXK D ad ca rf s σ s.heap A s.heap [] := ⟨_, Wd, hS, hRF⟩
  refine k_locals (Nat.le_of_ble_eq_true rfl) [(0, .ref (ad 84)), (1, .int (zI x0)), (2, .int (zI x1))] rfl (fun ls hl => ?_)
  unfold wp5_G_isFree at hw
  refine lv_iconst (v := zI 0) C.1 C.2.1 dX7_isFree_0 (by decide) ?_
  refine lv_istore_n (lv' := [(3, .int (zI 0)), (0, .ref (ad 84)), (1, .int (zI x0)), (2, .int (zI x1))]) C.1 C.2.1 dX7_isFree_1 rfl hl (by decide) rfl (fun ls hl => ?_)
  replace hl := lv_sub hl [1, 2, 3, 0] rfl
  refine k_lp1 hw (fun (l3_2 : Int) H locs ls => rng l3_2 ∧ wXK D ad ca rf s σ H A s.heap locs ∧ H = s.heap ∧ locs = [] ∧ lv_has ls 4 [(0, .ref (ad 84)), (1, .int (zI x0)), (2, .int (zI x1)), (3, .int (zI l3_2))]) (fun (l3_2 : Int) ls => F0 m 2 ls []) (fun L2 hL2 l3_2 hw H locs ls hi => ?_) _ _ _ ⟨(show rng 0 from by decide), Wd, rfl, rfl, lv_sub hl [0, 1, 2, 3] rfl⟩
  obtain ⟨g_l3_2, Wd, rfl, rfl, hl⟩ := hi
  unfold wp5_G_isFree_2 at hw
  refine lv_iload_n C.1 C.2.1 dX7_isFree_2 rfl (lv_at hl 3 rfl) ?_
  refine lv_iload_n C.1 C.2.1 dX7_isFree_3 rfl (lv_at hl 1 rfl) ?_
  refine lv_icmp_ge (tgt := 40) C.1 C.2.1 dX7_isFree_4 (by decide) (fun c4 => ?_) (fun c4 => ?_)
  · have hw := hw.1 (z_le g_x0 g_l3_2 c4)
    refine lv_iconst (v := zI 1) C.1 C.2.1 dX7_isFree_40 (by decide) ?_
    exact k_zretP C hr hlk (by decide) ⟨_, rfl, (show rng 1 from by decide), hw⟩ dX7_isFree_41
  · have hw := hw.2 (z_nle g_x0 g_l3_2 c4)
    refine lv_iload_n C.1 C.2.1 dX7_isFree_7 rfl (lv_at hl 3 rfl) ?_
    refine lv_bipush (v := zI 6) C.1 C.2.1 dX7_isFree_8 (by decide) ?_
    refine lv_icmp_ge (tgt := 40) C.1 C.2.1 dX7_isFree_10 (by decide) (fun c10 => ?_) (fun c10 => ?_)
    · have hw := hw.1 (z_le (show rng 6 from by decide) g_l3_2 c10)
      refine lv_iconst (v := zI 1) C.1 C.2.1 dX7_isFree_40 (by decide) ?_
      exact k_zretP C hr hlk (by decide) ⟨_, rfl, (show rng 1 from by decide), hw⟩ dX7_isFree_41
    · have hw := hw.2 (z_nle (show rng 6 from by decide) g_l3_2 c10)
      refine lv_aload_n C.1 C.2.1 dX7_isFree_13 rfl (lv_at hl 0 rfl) ?_
      refine k_get (v := .ref (ad 87)) C Wd.1 KX7 _ 3 (cx84 _) (by decide) fl_X7_25 rfl dX7_isFree_14 ?_
      refine lv_iload_n C.1 C.2.1 dX7_isFree_17 rfl (lv_at hl 3 rfl) ?_
      obtain ⟨n18_0, hw⟩ := hw
      refine k_ialdK (g := (σ.2.1 87)) C Wd (cx87 _) (tC_at (by decide) rfl) n18_0 (by decide) dX7_isFree_18 ?_
      have ga18 : rng (σ.2.1 87 l3_2) := rngL (fun j => (Wd.2.1).2.1 87 j) n18_0
      refine lv_iload_n C.1 C.2.1 dX7_isFree_19 rfl (lv_at hl 2 rfl) ?_
      refine lv_icmp_ne (tgt := 34) C.1 C.2.1 dX7_isFree_20 (by decide) (fun c20 => ?_) (fun c20 => ?_)
      · have hw := hw.1 (z_ne ga18 g_x1 c20)
        refine lv_iinc (v := zI (l3_2 + 1)) (lv' := [(3, .int (zI (l3_2 + 1))), (0, .ref (ad 84)), (1, .int (zI x0)), (2, .int (zI x1))]) C.1 C.2.1 dX7_isFree_34 hl (k := 3) rfl (zI_inc _ _ (by decide)) (by decide) rfl (fun ls hl => ?_)
        replace hl := lv_sub hl [1, 2, 3, 0] rfl
        refine lv_goto (tgt := 2) C.1 C.2.1 dX7_isFree_37 (by decide) ?_
        obtain ⟨g37_2, hw⟩ := hw
        exact hL2 _ hw _ _ _ ⟨g37_2, Wd, rfl, rfl, lv_sub hl [0, 1, 2, 3] rfl⟩
      · have hw := hw.2 (z_eq ga18 g_x1 c20)
        refine lv_aload_n C.1 C.2.1 dX7_isFree_23 rfl (lv_at hl 0 rfl) ?_
        refine lv_iload_n C.1 C.2.1 dX7_isFree_24 rfl (lv_at hl 1 rfl) ?_
        refine lv_iload_n C.1 C.2.1 dX7_isFree_25 rfl (lv_at hl 3 rfl) ?_
        refine k_pi (k_runVK (rest := []) C aks Wd cs_X7_89 (mk_G_clashing D ad ca rf σ Wd.2.1 Wd.2.2 x0 l3_2 g_x0 g_l3_2 _ hw l _) (cx84 _) rfl rfl rfl rfl ⟨(Nat.le_of_ble_eq_true rfl), (Nat.le_of_ble_eq_true rfl)⟩ hl.1 rfl rfl (Nat.le_of_ble_eq_true rfl) ⟨(Nat.le_of_ble_eq_true rfl), (Nat.le_of_ble_eq_true rfl)⟩ dX7_isFree_26) (fun y26 hy => ?_)
        obtain ⟨r26, rfl, g_r26, hw⟩ := hy
        refine lv_if_eq (tgt := 34) C.1 C.2.1 dX7_isFree_29 (by decide) (fun c29 => ?_) (fun c29 => ?_)
        · have hw := hw.1 (z0_eq g_r26 c29)
          refine lv_iinc (v := zI (l3_2 + 1)) (lv' := [(3, .int (zI (l3_2 + 1))), (0, .ref (ad 84)), (1, .int (zI x0)), (2, .int (zI x1))]) C.1 C.2.1 dX7_isFree_34 hl (k := 3) rfl (zI_inc _ _ (by decide)) (by decide) rfl (fun ls hl => ?_)
          replace hl := lv_sub hl [1, 2, 3, 0] rfl
          refine lv_goto (tgt := 2) C.1 C.2.1 dX7_isFree_37 (by decide) ?_
          obtain ⟨g37_3, hw⟩ := hw
          exact hL2 _ hw _ _ _ ⟨g37_3, Wd, rfl, rfl, lv_sub hl [0, 1, 2, 3] rfl⟩
        · have hw := hw.2 (z0_ne g_r26 c29)
          refine lv_iconst (v := zI 0) C.1 C.2.1 dX7_isFree_32 (by decide) ?_
          exact k_zretP C hr hlk (by decide) ⟨_, rfl, (show rng 0 from by decide), hw⟩ dX7_isFree_33
set_option maxHeartbeats 4000000 in
set_option maxRecDepth 100000 in
theorem mk_G_deal6 : ∀ (D : va_G) (ad : Nat → Nat) (ca : Nat → ClassId) (rf : Nat → Nat → Option Nat) (σ : Sg) (hS : rngK σ) (hRF : RFok ad rf) (x1 : Int) (x2 : Int) (g_x1 : rng x1) (g_x2 : rng x2) (K : Int → Sg → Prop) (hw : wp5_G_deal6 σ x1 x2 K) (l : Launch) (sz : Nat), Met l yX7_deal (Cond.code yX7_deal cX7_deal 5 (some .boolean) :: gG) { frames := 4, cells := 0, slots := 0, locals := 129 } (cPre D (tC ca) (wK ad ca rf σ) sz [.ref (ad 84), .int (zI 6), .int (zI x1), .int (zI x2)]) (va_Qi (fun (r : Int32) (u : Sg) => (∃ x : Int, r = zI x ∧ rng x ∧ K x u) ∧ rngK u) (fun u t => cB D (va_A (wK ad ca rf σ) sz) [] (wK ad ca rf u) t) (va_A (wK ad ca rf σ) sz)) 0 0 (va_A (wK ad ca rf σ) sz) := by
  intro D ad ca rf σ hS hRF x1 x2 g_x1 g_x2 K hw l sz
  refine Met.ofW (cc := cX7_deal) (maxL := 5) (ret := (some .boolean)) (by decide) rfl ?_
  intro p e s m args below meth c s₁ B hml hv
  obtain ⟨rfl, aks, rfl, Wd⟩ := k_enter hv
  have C : CallFix p m c cX7_deal 5 s _ gG RX7 := ⟨B.exec, B.bytes, hml, findClass_of_methodNamed B.named, fun w h => atoms_spec (ws := Cond.code yX7_deal cX7_deal 5 (some .boolean) :: gG) B.pre w (List.mem_cons_of_mem _ h)⟩
  have hr := B.returns
  have hlk := B.notSynchronized
  generalize va_A (wK ad ca rf σ) s.heap.size = A at Wd ⊢
  replace Wd : wXK D ad ca rf s σ s.heap A s.heap [] := ⟨Wd, hS, hRF⟩
  refine k_locals (Nat.le_of_ble_eq_true rfl) [(0, .ref (ad 84)), (1, .int (zI 6)), (2, .int (zI x1)), (3, .int (zI x2))] rfl (fun ls hl => ?_)
  unfold wp5_G_deal6 at hw
  refine lv_iload_n C.1 C.2.1 dX7_deal_0 rfl (lv_at hl 1 rfl) ?_
  refine k_pi (k_runN (rest := []) C aks Wd.1 aks.2.2.2 cs_X7_71 (mk_S_isVariable D 6 (show rng 6 from by decide) _ hw l _) [] rfl (by decide) [] rfl rfl rfl ⟨(Nat.le_of_ble_eq_true rfl), (Nat.le_of_ble_eq_true rfl)⟩ hl.1 rfl rfl (Nat.le_of_ble_eq_true rfl) ⟨(Nat.le_of_ble_eq_true rfl), (Nat.le_of_ble_eq_true rfl)⟩ dX7_deal_1) (fun y1 hy => ?_)
  obtain ⟨r1, rfl, g_r1, hw⟩ := hy
  refine lv_if_ne (tgt := 9) C.1 C.2.1 dX7_deal_4 (by decide) (fun c4 => ?_) (fun c4 => ?_)
  · have hw := hw.1 (z0_ne g_r1 c4)
    refine lv_aload_n C.1 C.2.1 dX7_deal_9 rfl (lv_at hl 0 rfl) ?_
    refine k_get (v := .ref (ad 87)) C Wd.1 KX7 _ 3 (cx84 _) (by decide) fl_X7_25 rfl dX7_deal_10 ?_
    refine lv_iload_n C.1 C.2.1 dX7_deal_13 rfl (lv_at hl 1 rfl) ?_
    refine lv_iconst (v := zI (-1)) C.1 C.2.1 dX7_deal_14 (by decide) ?_
    obtain ⟨n15_0, hw⟩ := hw
    refine k_iastF (g := (σ.2.1 87)) (i := 6) (v := (-1)) C Wd 87 (by decide) (cx87 _) (fun f => cx87a _ f) (tC_at (by decide) rfl) n15_0 (by decide) (ruZ (fun j => Wd.2.1.2.1 87 j) (show rng (-1) from by decide)) dX7_deal_15 (fun H locs Wd => ?_)
    refine lv_iload_n C.1 C.2.1 dX7_deal_16 rfl (lv_at hl 2 rfl) ?_
    refine lv_iload_n C.1 C.2.1 dX7_deal_17 rfl (lv_at hl 1 rfl) ?_
    refine k_ishr (v := zI (zishr x1 6)) C (zishr_eq _ _) dX7_deal_18 ?_
    refine lv_iconst (v := zI 1) C.1 C.2.1 dX7_deal_19 (by decide) ?_
    refine k_iand (v := zI (ziand (zishr x1 6) 1)) C (ziand_eq _ _) dX7_deal_20 ?_
    refine lv_if_ne (tgt := 34) C.1 C.2.1 dX7_deal_21 (by decide) (fun c21 => ?_) (fun c21 => ?_)
    · have hw := hw.1 (z0_ne (rng_toInt _) c21)
      refine lv_iconst (v := zI 0) C.1 C.2.1 dX7_deal_34 (by decide) ?_
      refine lv_istore (lv' := [(4, .int (zI 0)), (0, .ref (ad 84)), (1, .int (zI 6)), (2, .int (zI x1)), (3, .int (zI x2))]) C.1 C.2.1 dX7_deal_35 hl (by decide) rfl (fun ls hl => ?_)
      replace hl := lv_sub hl [1, 2, 3, 4, 0] rfl
      refine k_lp1 hw (fun (l4_37 : Int) H locs ls => rng l4_37 ∧ wXK D ad ca rf s (pF σ 87 (uZ (σ.2.1 87) 6 (-1))) H A s.heap locs ∧ lv_has ls 5 [(0, .ref (ad 84)), (1, .int (zI 6)), (2, .int (zI x1)), (3, .int (zI x2)), (4, .int (zI l4_37))]) (fun (l4_37 : Int) ls => F0 m 37 ls []) (fun L37 hL37 l4_37 hw H locs ls hi => ?_) _ _ _ ⟨(show rng 0 from by decide), Wd, lv_sub hl [0, 1, 2, 3, 4] rfl⟩
      obtain ⟨g_l4_37, Wd, hl⟩ := hi
      unfold wp5_G_deal6_37 at hw
      refine lv_iload C.1 C.2.1 dX7_deal_37 (lv_at hl 4 rfl) ?_
      refine lv_iload_n C.1 C.2.1 dX7_deal_39 rfl (lv_at hl 3 rfl) ?_
      refine lv_icmp_ge (tgt := 81) C.1 C.2.1 dX7_deal_40 (by decide) (fun c40 => ?_) (fun c40 => ?_)
      · have hw := hw.1 (z_le g_x2 g_l4_37 c40)
        refine lv_aload_n C.1 C.2.1 dX7_deal_81 rfl (lv_at hl 0 rfl) ?_
        refine k_get (v := .ref (ad 87)) C Wd.1 KX7 _ 3 (cx84 _) (by decide) fl_X7_25 rfl dX7_deal_82 ?_
        refine lv_iload_n C.1 C.2.1 dX7_deal_85 rfl (lv_at hl 1 rfl) ?_
        refine lv_iconst (v := zI (-1)) C.1 C.2.1 dX7_deal_86 (by decide) ?_
        refine k_iastF (g := (uZ (σ.2.1 87) 6 (-1))) (i := 6) (v := (-1)) C Wd 87 (by decide) (cx87 _) (fun f => cx87a _ f) (tC_at (by decide) rfl) n15_0 (by decide) (ruZ (fun j => Wd.2.1.2.1 87 j) (show rng (-1) from by decide)) dX7_deal_87 (fun H locs Wd => ?_)
        refine lv_iconst (v := zI 0) C.1 C.2.1 dX7_deal_88 (by decide) ?_
        exact k_retKi C hr hlk (by decide) Wd ⟨_, rfl, (show rng 0 from by decide), hw⟩ dX7_deal_89
      · have hw := hw.2 (z_nle g_x2 g_l4_37 c40)
        refine lv_aload_n C.1 C.2.1 dX7_deal_43 rfl (lv_at hl 0 rfl) ?_
        refine lv_iload_n C.1 C.2.1 dX7_deal_44 rfl (lv_at hl 1 rfl) ?_
        refine lv_iload C.1 C.2.1 dX7_deal_45 (lv_at hl 4 rfl) ?_
        refine k_pi (k_runVK (rest := []) C aks Wd cs_X7_85 (mk_G_isFree D ad ca rf (pF σ 87 (uZ (σ.2.1 87) 6 (-1))) Wd.2.1 Wd.2.2 6 l4_37 (show rng 6 from by decide) g_l4_37 _ hw l _) (cx84 _) rfl rfl rfl rfl ⟨(Nat.le_of_ble_eq_true rfl), (Nat.le_of_ble_eq_true rfl)⟩ hl.1 rfl rfl (Nat.le_of_ble_eq_true rfl) ⟨(Nat.le_of_ble_eq_true rfl), (Nat.le_of_ble_eq_true rfl)⟩ dX7_deal_47) (fun y47 hy => ?_)
        obtain ⟨r47, rfl, g_r47, hw⟩ := hy
        refine lv_if_eq (tgt := 75) C.1 C.2.1 dX7_deal_50 (by decide) (fun c50 => ?_) (fun c50 => ?_)
        · have hw := hw.1 (z0_eq g_r47 c50)
          refine lv_iinc (v := zI (l4_37 + 1)) (lv' := [(4, .int (zI (l4_37 + 1))), (0, .ref (ad 84)), (1, .int (zI 6)), (2, .int (zI x1)), (3, .int (zI x2))]) C.1 C.2.1 dX7_deal_75 hl (k := 4) rfl (zI_inc _ _ (by decide)) (by decide) rfl (fun ls hl => ?_)
          replace hl := lv_sub hl [1, 2, 3, 4, 0] rfl
          refine lv_goto (tgt := 37) C.1 C.2.1 dX7_deal_78 (by decide) ?_
          obtain ⟨g78_2, hw⟩ := hw
          exact hL37 _ hw _ _ _ ⟨g78_2, Wd, lv_sub hl [0, 1, 2, 3, 4] rfl⟩
        · have hw := hw.2 (z0_ne g_r47 c50)
          refine lv_aload_n C.1 C.2.1 dX7_deal_53 rfl (lv_at hl 0 rfl) ?_
          refine k_get (v := .ref (ad 87)) C Wd.1 KX7 _ 3 (cx84 _) (by decide) fl_X7_25 rfl dX7_deal_54 ?_
          refine lv_iload_n C.1 C.2.1 dX7_deal_57 rfl (lv_at hl 1 rfl) ?_
          refine lv_iload C.1 C.2.1 dX7_deal_58 (lv_at hl 4 rfl) ?_
          refine k_iastF (g := (uZ (σ.2.1 87) 6 (-1))) (i := 6) (v := l4_37) C Wd 87 (by decide) (cx87 _) (fun f => cx87a _ f) (tC_at (by decide) rfl) n15_0 (by decide) (ruZ (fun j => Wd.2.1.2.1 87 j) g_l4_37) dX7_deal_60 (fun H locs Wd => ?_)
          refine lv_aload_n C.1 C.2.1 dX7_deal_61 rfl (lv_at hl 0 rfl) ?_
          refine lv_iload_n C.1 C.2.1 dX7_deal_62 rfl (lv_at hl 1 rfl) ?_
          refine lv_iconst (v := zI 1) C.1 C.2.1 dX7_deal_63 (by decide) ?_
          refine k_iadd (v := zI 7) C (by decide) dX7_deal_64 ?_
          refine lv_iload_n C.1 C.2.1 dX7_deal_65 rfl (lv_at hl 2 rfl) ?_
          refine lv_iload_n C.1 C.2.1 dX7_deal_66 rfl (lv_at hl 3 rfl) ?_
          exact hw.elim
    · have hw := hw.2 (z0_eq (rng_toInt _) c21)
      refine lv_aload_n C.1 C.2.1 dX7_deal_24 rfl (lv_at hl 0 rfl) ?_
      refine lv_iload_n C.1 C.2.1 dX7_deal_25 rfl (lv_at hl 1 rfl) ?_
      refine lv_iconst (v := zI 1) C.1 C.2.1 dX7_deal_26 (by decide) ?_
      refine k_iadd (v := zI 7) C (by decide) dX7_deal_27 ?_
      refine lv_iload_n C.1 C.2.1 dX7_deal_28 rfl (lv_at hl 2 rfl) ?_
      refine lv_iload_n C.1 C.2.1 dX7_deal_29 rfl (lv_at hl 3 rfl) ?_
      exact hw.elim
  · have hw := hw.2 (z0_eq g_r1 c4)
    refine lv_iconst (v := zI 1) C.1 C.2.1 dX7_deal_7 (by decide) ?_
    exact k_retKi C hr hlk (by decide) Wd ⟨_, rfl, (show rng 1 from by decide), hw⟩ dX7_deal_8
set_option maxHeartbeats 4000000 in
set_option maxRecDepth 100000 in
theorem mk_G_deal5 : ∀ (D : va_G) (ad : Nat → Nat) (ca : Nat → ClassId) (rf : Nat → Nat → Option Nat) (σ : Sg) (hS : rngK σ) (hRF : RFok ad rf) (x1 : Int) (x2 : Int) (g_x1 : rng x1) (g_x2 : rng x2) (K : Int → Sg → Prop) (hw : wp5_G_deal5 σ x1 x2 K) (l : Launch) (sz : Nat), Met l yX7_deal (Cond.code yX7_deal cX7_deal 5 (some .boolean) :: gG) { frames := 5, cells := 0, slots := 0, locals := 153 } (cPre D (tC ca) (wK ad ca rf σ) sz [.ref (ad 84), .int (zI 5), .int (zI x1), .int (zI x2)]) (va_Qi (fun (r : Int32) (u : Sg) => (∃ x : Int, r = zI x ∧ rng x ∧ K x u) ∧ rngK u) (fun u t => cB D (va_A (wK ad ca rf σ) sz) [] (wK ad ca rf u) t) (va_A (wK ad ca rf σ) sz)) 0 0 (va_A (wK ad ca rf σ) sz) := by
  intro D ad ca rf σ hS hRF x1 x2 g_x1 g_x2 K hw l sz
  refine Met.ofW (cc := cX7_deal) (maxL := 5) (ret := (some .boolean)) (by decide) rfl ?_
  intro p e s m args below meth c s₁ B hml hv
  obtain ⟨rfl, aks, rfl, Wd⟩ := k_enter hv
  have C : CallFix p m c cX7_deal 5 s _ gG RX7 := ⟨B.exec, B.bytes, hml, findClass_of_methodNamed B.named, fun w h => atoms_spec (ws := Cond.code yX7_deal cX7_deal 5 (some .boolean) :: gG) B.pre w (List.mem_cons_of_mem _ h)⟩
  have hr := B.returns
  have hlk := B.notSynchronized
  generalize va_A (wK ad ca rf σ) s.heap.size = A at Wd ⊢
  replace Wd : wXK D ad ca rf s σ s.heap A s.heap [] := ⟨Wd, hS, hRF⟩
  refine k_locals (Nat.le_of_ble_eq_true rfl) [(0, .ref (ad 84)), (1, .int (zI 5)), (2, .int (zI x1)), (3, .int (zI x2))] rfl (fun ls hl => ?_)
  unfold wp5_G_deal5 at hw
  refine lv_iload_n C.1 C.2.1 dX7_deal_0 rfl (lv_at hl 1 rfl) ?_
  refine k_pi (k_runN (rest := []) C aks Wd.1 aks.2.2.2 cs_X7_71 (mk_S_isVariable D 5 (show rng 5 from by decide) _ hw l _) [] rfl (by decide) [] rfl rfl rfl ⟨(Nat.le_of_ble_eq_true rfl), (Nat.le_of_ble_eq_true rfl)⟩ hl.1 rfl rfl (Nat.le_of_ble_eq_true rfl) ⟨(Nat.le_of_ble_eq_true rfl), (Nat.le_of_ble_eq_true rfl)⟩ dX7_deal_1) (fun y1 hy => ?_)
  obtain ⟨r1, rfl, g_r1, hw⟩ := hy
  refine lv_if_ne (tgt := 9) C.1 C.2.1 dX7_deal_4 (by decide) (fun c4 => ?_) (fun c4 => ?_)
  · have hw := hw.1 (z0_ne g_r1 c4)
    refine lv_aload_n C.1 C.2.1 dX7_deal_9 rfl (lv_at hl 0 rfl) ?_
    refine k_get (v := .ref (ad 87)) C Wd.1 KX7 _ 3 (cx84 _) (by decide) fl_X7_25 rfl dX7_deal_10 ?_
    refine lv_iload_n C.1 C.2.1 dX7_deal_13 rfl (lv_at hl 1 rfl) ?_
    refine lv_iconst (v := zI (-1)) C.1 C.2.1 dX7_deal_14 (by decide) ?_
    refine k_iastF (g := (σ.2.1 87)) (i := 5) (v := (-1)) C Wd 87 (by decide) (cx87 _) (fun f => cx87a _ f) (tC_at (by decide) rfl) (show (0 : Int) ≤ 5 ∧ (5 : Int) < 6 from by decide) (by decide) (ruZ (fun j => Wd.2.1.2.1 87 j) (show rng (-1) from by decide)) dX7_deal_15 (fun H locs Wd => ?_)
    refine lv_iload_n C.1 C.2.1 dX7_deal_16 rfl (lv_at hl 2 rfl) ?_
    refine lv_iload_n C.1 C.2.1 dX7_deal_17 rfl (lv_at hl 1 rfl) ?_
    refine k_ishr (v := zI (zishr x1 5)) C (zishr_eq _ _) dX7_deal_18 ?_
    refine lv_iconst (v := zI 1) C.1 C.2.1 dX7_deal_19 (by decide) ?_
    refine k_iand (v := zI (ziand (zishr x1 5) 1)) C (ziand_eq _ _) dX7_deal_20 ?_
    refine lv_if_ne (tgt := 34) C.1 C.2.1 dX7_deal_21 (by decide) (fun c21 => ?_) (fun c21 => ?_)
    · have hw := hw.1 (z0_ne (rng_toInt _) c21)
      refine lv_iconst (v := zI 0) C.1 C.2.1 dX7_deal_34 (by decide) ?_
      refine lv_istore (lv' := [(4, .int (zI 0)), (0, .ref (ad 84)), (1, .int (zI 5)), (2, .int (zI x1)), (3, .int (zI x2))]) C.1 C.2.1 dX7_deal_35 hl (by decide) rfl (fun ls hl => ?_)
      replace hl := lv_sub hl [1, 2, 3, 4, 0] rfl
      refine k_lp2 hw (fun (l4_37 : Int) (σ37 : Sg) H locs ls => rng l4_37 ∧ wXK D ad ca rf s σ37 H A s.heap locs ∧ lv_has ls 5 [(0, .ref (ad 84)), (1, .int (zI 5)), (2, .int (zI x1)), (3, .int (zI x2)), (4, .int (zI l4_37))]) (fun (l4_37 : Int) (σ37 : Sg) ls => F0 m 37 ls []) (fun L37 hL37 l4_37 σ37 hw H locs ls hi => ?_) _ _ _ ⟨(show rng 0 from by decide), Wd, lv_sub hl [0, 1, 2, 3, 4] rfl⟩
      obtain ⟨g_l4_37, Wd, hl⟩ := hi
      have hS_σ37 := Wd.2.1
      unfold wp5_G_deal5_37 at hw
      refine lv_iload C.1 C.2.1 dX7_deal_37 (lv_at hl 4 rfl) ?_
      refine lv_iload_n C.1 C.2.1 dX7_deal_39 rfl (lv_at hl 3 rfl) ?_
      refine lv_icmp_ge (tgt := 81) C.1 C.2.1 dX7_deal_40 (by decide) (fun c40 => ?_) (fun c40 => ?_)
      · have hw := hw.1 (z_le g_x2 g_l4_37 c40)
        refine lv_aload_n C.1 C.2.1 dX7_deal_81 rfl (lv_at hl 0 rfl) ?_
        refine k_get (v := .ref (ad 87)) C Wd.1 KX7 _ 3 (cx84 _) (by decide) fl_X7_25 rfl dX7_deal_82 ?_
        refine lv_iload_n C.1 C.2.1 dX7_deal_85 rfl (lv_at hl 1 rfl) ?_
        refine lv_iconst (v := zI (-1)) C.1 C.2.1 dX7_deal_86 (by decide) ?_
        refine k_iastF (g := (σ37.2.1 87)) (i := 5) (v := (-1)) C Wd 87 (by decide) (cx87 _) (fun f => cx87a _ f) (tC_at (by decide) rfl) (show (0 : Int) ≤ 5 ∧ (5 : Int) < 6 from by decide) (by decide) (ruZ (fun j => Wd.2.1.2.1 87 j) (show rng (-1) from by decide)) dX7_deal_87 (fun H locs Wd => ?_)
        refine lv_iconst (v := zI 0) C.1 C.2.1 dX7_deal_88 (by decide) ?_
        exact k_retKi C hr hlk (by decide) Wd ⟨_, rfl, (show rng 0 from by decide), hw⟩ dX7_deal_89
      · have hw := hw.2 (z_nle g_x2 g_l4_37 c40)
        refine lv_aload_n C.1 C.2.1 dX7_deal_43 rfl (lv_at hl 0 rfl) ?_
        refine lv_iload_n C.1 C.2.1 dX7_deal_44 rfl (lv_at hl 1 rfl) ?_
        refine lv_iload C.1 C.2.1 dX7_deal_45 (lv_at hl 4 rfl) ?_
        refine k_pi (k_runVK (rest := []) C aks Wd cs_X7_85 (mk_G_isFree D ad ca rf σ37 Wd.2.1 Wd.2.2 5 l4_37 (show rng 5 from by decide) g_l4_37 _ hw l _) (cx84 _) rfl rfl rfl rfl ⟨(Nat.le_of_ble_eq_true rfl), (Nat.le_of_ble_eq_true rfl)⟩ hl.1 rfl rfl (Nat.le_of_ble_eq_true rfl) ⟨(Nat.le_of_ble_eq_true rfl), (Nat.le_of_ble_eq_true rfl)⟩ dX7_deal_47) (fun y47 hy => ?_)
        obtain ⟨r47, rfl, g_r47, hw⟩ := hy
        refine lv_if_eq (tgt := 75) C.1 C.2.1 dX7_deal_50 (by decide) (fun c50 => ?_) (fun c50 => ?_)
        · have hw := hw.1 (z0_eq g_r47 c50)
          refine lv_iinc (v := zI (l4_37 + 1)) (lv' := [(4, .int (zI (l4_37 + 1))), (0, .ref (ad 84)), (1, .int (zI 5)), (2, .int (zI x1)), (3, .int (zI x2))]) C.1 C.2.1 dX7_deal_75 hl (k := 4) rfl (zI_inc _ _ (by decide)) (by decide) rfl (fun ls hl => ?_)
          replace hl := lv_sub hl [1, 2, 3, 4, 0] rfl
          refine lv_goto (tgt := 37) C.1 C.2.1 dX7_deal_78 (by decide) ?_
          obtain ⟨g78_2, hw⟩ := hw
          exact hL37 _ _ hw _ _ _ ⟨g78_2, Wd, lv_sub hl [0, 1, 2, 3, 4] rfl⟩
        · have hw := hw.2 (z0_ne g_r47 c50)
          refine lv_aload_n C.1 C.2.1 dX7_deal_53 rfl (lv_at hl 0 rfl) ?_
          refine k_get (v := .ref (ad 87)) C Wd.1 KX7 _ 3 (cx84 _) (by decide) fl_X7_25 rfl dX7_deal_54 ?_
          refine lv_iload_n C.1 C.2.1 dX7_deal_57 rfl (lv_at hl 1 rfl) ?_
          refine lv_iload C.1 C.2.1 dX7_deal_58 (lv_at hl 4 rfl) ?_
          refine k_iastF (g := (σ37.2.1 87)) (i := 5) (v := l4_37) C Wd 87 (by decide) (cx87 _) (fun f => cx87a _ f) (tC_at (by decide) rfl) (show (0 : Int) ≤ 5 ∧ (5 : Int) < 6 from by decide) (by decide) (ruZ (fun j => Wd.2.1.2.1 87 j) g_l4_37) dX7_deal_60 (fun H locs Wd => ?_)
          refine lv_aload_n C.1 C.2.1 dX7_deal_61 rfl (lv_at hl 0 rfl) ?_
          refine lv_iload_n C.1 C.2.1 dX7_deal_62 rfl (lv_at hl 1 rfl) ?_
          refine lv_iconst (v := zI 1) C.1 C.2.1 dX7_deal_63 (by decide) ?_
          refine k_iadd (v := zI 6) C (by decide) dX7_deal_64 ?_
          refine lv_iload_n C.1 C.2.1 dX7_deal_65 rfl (lv_at hl 2 rfl) ?_
          refine lv_iload_n C.1 C.2.1 dX7_deal_66 rfl (lv_at hl 3 rfl) ?_
          refine k_cKi Wd (k_runVK (rest := []) C aks Wd cs_X7_74 (mk_G_deal6 D ad ca rf (pF σ37 87 (uZ (σ37.2.1 87) 5 l4_37)) Wd.2.1 Wd.2.2 x1 x2 g_x1 g_x2 _ hw l _) (cx84 _) rfl rfl rfl rfl ⟨(Nat.le_of_ble_eq_true rfl), (Nat.le_of_ble_eq_true rfl)⟩ hl.1 rfl rfl (Nat.le_of_ble_eq_true rfl) ⟨(Nat.le_of_ble_eq_true rfl), (Nat.le_of_ble_eq_true rfl)⟩ dX7_deal_67) (fun r67 σr67 H locs g_r67 hw Wd => ?_)
          have hS_σr67 := Wd.2.1
          refine lv_if_eq (tgt := 75) C.1 C.2.1 dX7_deal_70 (by decide) (fun c70 => ?_) (fun c70 => ?_)
          · have hw := hw.1 (z0_eq g_r67 c70)
            refine lv_iinc (v := zI (l4_37 + 1)) (lv' := [(4, .int (zI (l4_37 + 1))), (0, .ref (ad 84)), (1, .int (zI 5)), (2, .int (zI x1)), (3, .int (zI x2))]) C.1 C.2.1 dX7_deal_75 hl (k := 4) rfl (zI_inc _ _ (by decide)) (by decide) rfl (fun ls hl => ?_)
            replace hl := lv_sub hl [1, 2, 3, 4, 0] rfl
            refine lv_goto (tgt := 37) C.1 C.2.1 dX7_deal_78 (by decide) ?_
            obtain ⟨g78_3, hw⟩ := hw
            exact hL37 _ _ hw _ _ _ ⟨g78_3, Wd, lv_sub hl [0, 1, 2, 3, 4] rfl⟩
          · have hw := hw.2 (z0_ne g_r67 c70)
            refine lv_iconst (v := zI 1) C.1 C.2.1 dX7_deal_73 (by decide) ?_
            exact k_retKi C hr hlk (by decide) Wd ⟨_, rfl, (show rng 1 from by decide), hw⟩ dX7_deal_74
    · have hw := hw.2 (z0_eq (rng_toInt _) c21)
      refine lv_aload_n C.1 C.2.1 dX7_deal_24 rfl (lv_at hl 0 rfl) ?_
      refine lv_iload_n C.1 C.2.1 dX7_deal_25 rfl (lv_at hl 1 rfl) ?_
      refine lv_iconst (v := zI 1) C.1 C.2.1 dX7_deal_26 (by decide) ?_
      refine k_iadd (v := zI 6) C (by decide) dX7_deal_27 ?_
      refine lv_iload_n C.1 C.2.1 dX7_deal_28 rfl (lv_at hl 2 rfl) ?_
      refine lv_iload_n C.1 C.2.1 dX7_deal_29 rfl (lv_at hl 3 rfl) ?_
      refine k_cKi Wd (k_runVK (rest := []) C aks Wd cs_X7_74 (mk_G_deal6 D ad ca rf (pF σ 87 (uZ (σ.2.1 87) 5 (-1))) Wd.2.1 Wd.2.2 x1 x2 g_x1 g_x2 _ hw l _) (cx84 _) rfl rfl rfl rfl ⟨(Nat.le_of_ble_eq_true rfl), (Nat.le_of_ble_eq_true rfl)⟩ hl.1 rfl rfl (Nat.le_of_ble_eq_true rfl) ⟨(Nat.le_of_ble_eq_true rfl), (Nat.le_of_ble_eq_true rfl)⟩ dX7_deal_30) (fun r30 σr30 H locs g_r30 hw Wd => ?_)
      have hS_σr30 := Wd.2.1
      obtain ⟨b33_0, hw⟩ := hw
      exact k_retKi C hr hlk (zI_nb b33_0) Wd ⟨_, rfl, g_r30, hw⟩ dX7_deal_33
  · have hw := hw.2 (z0_eq g_r1 c4)
    refine lv_iconst (v := zI 1) C.1 C.2.1 dX7_deal_7 (by decide) ?_
    exact k_retKi C hr hlk (by decide) Wd ⟨_, rfl, (show rng 1 from by decide), hw⟩ dX7_deal_8
set_option maxHeartbeats 4000000 in
set_option maxRecDepth 100000 in
theorem mk_G_deal4 : ∀ (D : va_G) (ad : Nat → Nat) (ca : Nat → ClassId) (rf : Nat → Nat → Option Nat) (σ : Sg) (hS : rngK σ) (hRF : RFok ad rf) (x1 : Int) (x2 : Int) (g_x1 : rng x1) (g_x2 : rng x2) (K : Int → Sg → Prop) (hw : wp5_G_deal4 σ x1 x2 K) (l : Launch) (sz : Nat), Met l yX7_deal (Cond.code yX7_deal cX7_deal 5 (some .boolean) :: gG) { frames := 6, cells := 0, slots := 0, locals := 177 } (cPre D (tC ca) (wK ad ca rf σ) sz [.ref (ad 84), .int (zI 4), .int (zI x1), .int (zI x2)]) (va_Qi (fun (r : Int32) (u : Sg) => (∃ x : Int, r = zI x ∧ rng x ∧ K x u) ∧ rngK u) (fun u t => cB D (va_A (wK ad ca rf σ) sz) [] (wK ad ca rf u) t) (va_A (wK ad ca rf σ) sz)) 0 0 (va_A (wK ad ca rf σ) sz) := by
  intro D ad ca rf σ hS hRF x1 x2 g_x1 g_x2 K hw l sz
  refine Met.ofW (cc := cX7_deal) (maxL := 5) (ret := (some .boolean)) (by decide) rfl ?_
  intro p e s m args below meth c s₁ B hml hv
  obtain ⟨rfl, aks, rfl, Wd⟩ := k_enter hv
  have C : CallFix p m c cX7_deal 5 s _ gG RX7 := ⟨B.exec, B.bytes, hml, findClass_of_methodNamed B.named, fun w h => atoms_spec (ws := Cond.code yX7_deal cX7_deal 5 (some .boolean) :: gG) B.pre w (List.mem_cons_of_mem _ h)⟩
  have hr := B.returns
  have hlk := B.notSynchronized
  generalize va_A (wK ad ca rf σ) s.heap.size = A at Wd ⊢
  replace Wd : wXK D ad ca rf s σ s.heap A s.heap [] := ⟨Wd, hS, hRF⟩
  refine k_locals (Nat.le_of_ble_eq_true rfl) [(0, .ref (ad 84)), (1, .int (zI 4)), (2, .int (zI x1)), (3, .int (zI x2))] rfl (fun ls hl => ?_)
  unfold wp5_G_deal4 at hw
  refine lv_iload_n C.1 C.2.1 dX7_deal_0 rfl (lv_at hl 1 rfl) ?_
  refine k_pi (k_runN (rest := []) C aks Wd.1 aks.2.2.2 cs_X7_71 (mk_S_isVariable D 4 (show rng 4 from by decide) _ hw l _) [] rfl (by decide) [] rfl rfl rfl ⟨(Nat.le_of_ble_eq_true rfl), (Nat.le_of_ble_eq_true rfl)⟩ hl.1 rfl rfl (Nat.le_of_ble_eq_true rfl) ⟨(Nat.le_of_ble_eq_true rfl), (Nat.le_of_ble_eq_true rfl)⟩ dX7_deal_1) (fun y1 hy => ?_)
  obtain ⟨r1, rfl, g_r1, hw⟩ := hy
  refine lv_if_ne (tgt := 9) C.1 C.2.1 dX7_deal_4 (by decide) (fun c4 => ?_) (fun c4 => ?_)
  · have hw := hw.1 (z0_ne g_r1 c4)
    refine lv_aload_n C.1 C.2.1 dX7_deal_9 rfl (lv_at hl 0 rfl) ?_
    refine k_get (v := .ref (ad 87)) C Wd.1 KX7 _ 3 (cx84 _) (by decide) fl_X7_25 rfl dX7_deal_10 ?_
    refine lv_iload_n C.1 C.2.1 dX7_deal_13 rfl (lv_at hl 1 rfl) ?_
    refine lv_iconst (v := zI (-1)) C.1 C.2.1 dX7_deal_14 (by decide) ?_
    refine k_iastF (g := (σ.2.1 87)) (i := 4) (v := (-1)) C Wd 87 (by decide) (cx87 _) (fun f => cx87a _ f) (tC_at (by decide) rfl) (show (0 : Int) ≤ 4 ∧ (4 : Int) < 6 from by decide) (by decide) (ruZ (fun j => Wd.2.1.2.1 87 j) (show rng (-1) from by decide)) dX7_deal_15 (fun H locs Wd => ?_)
    refine lv_iload_n C.1 C.2.1 dX7_deal_16 rfl (lv_at hl 2 rfl) ?_
    refine lv_iload_n C.1 C.2.1 dX7_deal_17 rfl (lv_at hl 1 rfl) ?_
    refine k_ishr (v := zI (zishr x1 4)) C (zishr_eq _ _) dX7_deal_18 ?_
    refine lv_iconst (v := zI 1) C.1 C.2.1 dX7_deal_19 (by decide) ?_
    refine k_iand (v := zI (ziand (zishr x1 4) 1)) C (ziand_eq _ _) dX7_deal_20 ?_
    refine lv_if_ne (tgt := 34) C.1 C.2.1 dX7_deal_21 (by decide) (fun c21 => ?_) (fun c21 => ?_)
    · have hw := hw.1 (z0_ne (rng_toInt _) c21)
      refine lv_iconst (v := zI 0) C.1 C.2.1 dX7_deal_34 (by decide) ?_
      refine lv_istore (lv' := [(4, .int (zI 0)), (0, .ref (ad 84)), (1, .int (zI 4)), (2, .int (zI x1)), (3, .int (zI x2))]) C.1 C.2.1 dX7_deal_35 hl (by decide) rfl (fun ls hl => ?_)
      replace hl := lv_sub hl [1, 2, 3, 4, 0] rfl
      refine k_lp2 hw (fun (l4_37 : Int) (σ37 : Sg) H locs ls => rng l4_37 ∧ wXK D ad ca rf s σ37 H A s.heap locs ∧ lv_has ls 5 [(0, .ref (ad 84)), (1, .int (zI 4)), (2, .int (zI x1)), (3, .int (zI x2)), (4, .int (zI l4_37))]) (fun (l4_37 : Int) (σ37 : Sg) ls => F0 m 37 ls []) (fun L37 hL37 l4_37 σ37 hw H locs ls hi => ?_) _ _ _ ⟨(show rng 0 from by decide), Wd, lv_sub hl [0, 1, 2, 3, 4] rfl⟩
      obtain ⟨g_l4_37, Wd, hl⟩ := hi
      have hS_σ37 := Wd.2.1
      unfold wp5_G_deal4_37 at hw
      refine lv_iload C.1 C.2.1 dX7_deal_37 (lv_at hl 4 rfl) ?_
      refine lv_iload_n C.1 C.2.1 dX7_deal_39 rfl (lv_at hl 3 rfl) ?_
      refine lv_icmp_ge (tgt := 81) C.1 C.2.1 dX7_deal_40 (by decide) (fun c40 => ?_) (fun c40 => ?_)
      · have hw := hw.1 (z_le g_x2 g_l4_37 c40)
        refine lv_aload_n C.1 C.2.1 dX7_deal_81 rfl (lv_at hl 0 rfl) ?_
        refine k_get (v := .ref (ad 87)) C Wd.1 KX7 _ 3 (cx84 _) (by decide) fl_X7_25 rfl dX7_deal_82 ?_
        refine lv_iload_n C.1 C.2.1 dX7_deal_85 rfl (lv_at hl 1 rfl) ?_
        refine lv_iconst (v := zI (-1)) C.1 C.2.1 dX7_deal_86 (by decide) ?_
        refine k_iastF (g := (σ37.2.1 87)) (i := 4) (v := (-1)) C Wd 87 (by decide) (cx87 _) (fun f => cx87a _ f) (tC_at (by decide) rfl) (show (0 : Int) ≤ 4 ∧ (4 : Int) < 6 from by decide) (by decide) (ruZ (fun j => Wd.2.1.2.1 87 j) (show rng (-1) from by decide)) dX7_deal_87 (fun H locs Wd => ?_)
        refine lv_iconst (v := zI 0) C.1 C.2.1 dX7_deal_88 (by decide) ?_
        exact k_retKi C hr hlk (by decide) Wd ⟨_, rfl, (show rng 0 from by decide), hw⟩ dX7_deal_89
      · have hw := hw.2 (z_nle g_x2 g_l4_37 c40)
        refine lv_aload_n C.1 C.2.1 dX7_deal_43 rfl (lv_at hl 0 rfl) ?_
        refine lv_iload_n C.1 C.2.1 dX7_deal_44 rfl (lv_at hl 1 rfl) ?_
        refine lv_iload C.1 C.2.1 dX7_deal_45 (lv_at hl 4 rfl) ?_
        refine k_pi (k_runVK (rest := []) C aks Wd cs_X7_85 (mk_G_isFree D ad ca rf σ37 Wd.2.1 Wd.2.2 4 l4_37 (show rng 4 from by decide) g_l4_37 _ hw l _) (cx84 _) rfl rfl rfl rfl ⟨(Nat.le_of_ble_eq_true rfl), (Nat.le_of_ble_eq_true rfl)⟩ hl.1 rfl rfl (Nat.le_of_ble_eq_true rfl) ⟨(Nat.le_of_ble_eq_true rfl), (Nat.le_of_ble_eq_true rfl)⟩ dX7_deal_47) (fun y47 hy => ?_)
        obtain ⟨r47, rfl, g_r47, hw⟩ := hy
        refine lv_if_eq (tgt := 75) C.1 C.2.1 dX7_deal_50 (by decide) (fun c50 => ?_) (fun c50 => ?_)
        · have hw := hw.1 (z0_eq g_r47 c50)
          refine lv_iinc (v := zI (l4_37 + 1)) (lv' := [(4, .int (zI (l4_37 + 1))), (0, .ref (ad 84)), (1, .int (zI 4)), (2, .int (zI x1)), (3, .int (zI x2))]) C.1 C.2.1 dX7_deal_75 hl (k := 4) rfl (zI_inc _ _ (by decide)) (by decide) rfl (fun ls hl => ?_)
          replace hl := lv_sub hl [1, 2, 3, 4, 0] rfl
          refine lv_goto (tgt := 37) C.1 C.2.1 dX7_deal_78 (by decide) ?_
          obtain ⟨g78_2, hw⟩ := hw
          exact hL37 _ _ hw _ _ _ ⟨g78_2, Wd, lv_sub hl [0, 1, 2, 3, 4] rfl⟩
        · have hw := hw.2 (z0_ne g_r47 c50)
          refine lv_aload_n C.1 C.2.1 dX7_deal_53 rfl (lv_at hl 0 rfl) ?_
          refine k_get (v := .ref (ad 87)) C Wd.1 KX7 _ 3 (cx84 _) (by decide) fl_X7_25 rfl dX7_deal_54 ?_
          refine lv_iload_n C.1 C.2.1 dX7_deal_57 rfl (lv_at hl 1 rfl) ?_
          refine lv_iload C.1 C.2.1 dX7_deal_58 (lv_at hl 4 rfl) ?_
          refine k_iastF (g := (σ37.2.1 87)) (i := 4) (v := l4_37) C Wd 87 (by decide) (cx87 _) (fun f => cx87a _ f) (tC_at (by decide) rfl) (show (0 : Int) ≤ 4 ∧ (4 : Int) < 6 from by decide) (by decide) (ruZ (fun j => Wd.2.1.2.1 87 j) g_l4_37) dX7_deal_60 (fun H locs Wd => ?_)
          refine lv_aload_n C.1 C.2.1 dX7_deal_61 rfl (lv_at hl 0 rfl) ?_
          refine lv_iload_n C.1 C.2.1 dX7_deal_62 rfl (lv_at hl 1 rfl) ?_
          refine lv_iconst (v := zI 1) C.1 C.2.1 dX7_deal_63 (by decide) ?_
          refine k_iadd (v := zI 5) C (by decide) dX7_deal_64 ?_
          refine lv_iload_n C.1 C.2.1 dX7_deal_65 rfl (lv_at hl 2 rfl) ?_
          refine lv_iload_n C.1 C.2.1 dX7_deal_66 rfl (lv_at hl 3 rfl) ?_
          refine k_cKi Wd (k_runVK (rest := []) C aks Wd cs_X7_74 (mk_G_deal5 D ad ca rf (pF σ37 87 (uZ (σ37.2.1 87) 4 l4_37)) Wd.2.1 Wd.2.2 x1 x2 g_x1 g_x2 _ hw l _) (cx84 _) rfl rfl rfl rfl ⟨(Nat.le_of_ble_eq_true rfl), (Nat.le_of_ble_eq_true rfl)⟩ hl.1 rfl rfl (Nat.le_of_ble_eq_true rfl) ⟨(Nat.le_of_ble_eq_true rfl), (Nat.le_of_ble_eq_true rfl)⟩ dX7_deal_67) (fun r67 σr67 H locs g_r67 hw Wd => ?_)
          have hS_σr67 := Wd.2.1
          refine lv_if_eq (tgt := 75) C.1 C.2.1 dX7_deal_70 (by decide) (fun c70 => ?_) (fun c70 => ?_)
          · have hw := hw.1 (z0_eq g_r67 c70)
            refine lv_iinc (v := zI (l4_37 + 1)) (lv' := [(4, .int (zI (l4_37 + 1))), (0, .ref (ad 84)), (1, .int (zI 4)), (2, .int (zI x1)), (3, .int (zI x2))]) C.1 C.2.1 dX7_deal_75 hl (k := 4) rfl (zI_inc _ _ (by decide)) (by decide) rfl (fun ls hl => ?_)
            replace hl := lv_sub hl [1, 2, 3, 4, 0] rfl
            refine lv_goto (tgt := 37) C.1 C.2.1 dX7_deal_78 (by decide) ?_
            obtain ⟨g78_3, hw⟩ := hw
            exact hL37 _ _ hw _ _ _ ⟨g78_3, Wd, lv_sub hl [0, 1, 2, 3, 4] rfl⟩
          · have hw := hw.2 (z0_ne g_r67 c70)
            refine lv_iconst (v := zI 1) C.1 C.2.1 dX7_deal_73 (by decide) ?_
            exact k_retKi C hr hlk (by decide) Wd ⟨_, rfl, (show rng 1 from by decide), hw⟩ dX7_deal_74
    · have hw := hw.2 (z0_eq (rng_toInt _) c21)
      refine lv_aload_n C.1 C.2.1 dX7_deal_24 rfl (lv_at hl 0 rfl) ?_
      refine lv_iload_n C.1 C.2.1 dX7_deal_25 rfl (lv_at hl 1 rfl) ?_
      refine lv_iconst (v := zI 1) C.1 C.2.1 dX7_deal_26 (by decide) ?_
      refine k_iadd (v := zI 5) C (by decide) dX7_deal_27 ?_
      refine lv_iload_n C.1 C.2.1 dX7_deal_28 rfl (lv_at hl 2 rfl) ?_
      refine lv_iload_n C.1 C.2.1 dX7_deal_29 rfl (lv_at hl 3 rfl) ?_
      refine k_cKi Wd (k_runVK (rest := []) C aks Wd cs_X7_74 (mk_G_deal5 D ad ca rf (pF σ 87 (uZ (σ.2.1 87) 4 (-1))) Wd.2.1 Wd.2.2 x1 x2 g_x1 g_x2 _ hw l _) (cx84 _) rfl rfl rfl rfl ⟨(Nat.le_of_ble_eq_true rfl), (Nat.le_of_ble_eq_true rfl)⟩ hl.1 rfl rfl (Nat.le_of_ble_eq_true rfl) ⟨(Nat.le_of_ble_eq_true rfl), (Nat.le_of_ble_eq_true rfl)⟩ dX7_deal_30) (fun r30 σr30 H locs g_r30 hw Wd => ?_)
      have hS_σr30 := Wd.2.1
      obtain ⟨b33_0, hw⟩ := hw
      exact k_retKi C hr hlk (zI_nb b33_0) Wd ⟨_, rfl, g_r30, hw⟩ dX7_deal_33
  · have hw := hw.2 (z0_eq g_r1 c4)
    refine lv_iconst (v := zI 1) C.1 C.2.1 dX7_deal_7 (by decide) ?_
    exact k_retKi C hr hlk (by decide) Wd ⟨_, rfl, (show rng 1 from by decide), hw⟩ dX7_deal_8
set_option maxHeartbeats 4000000 in
set_option maxRecDepth 100000 in
theorem mk_G_deal3 : ∀ (D : va_G) (ad : Nat → Nat) (ca : Nat → ClassId) (rf : Nat → Nat → Option Nat) (σ : Sg) (hS : rngK σ) (hRF : RFok ad rf) (x1 : Int) (x2 : Int) (g_x1 : rng x1) (g_x2 : rng x2) (K : Int → Sg → Prop) (hw : wp5_G_deal3 σ x1 x2 K) (l : Launch) (sz : Nat), Met l yX7_deal (Cond.code yX7_deal cX7_deal 5 (some .boolean) :: gG) { frames := 7, cells := 0, slots := 0, locals := 201 } (cPre D (tC ca) (wK ad ca rf σ) sz [.ref (ad 84), .int (zI 3), .int (zI x1), .int (zI x2)]) (va_Qi (fun (r : Int32) (u : Sg) => (∃ x : Int, r = zI x ∧ rng x ∧ K x u) ∧ rngK u) (fun u t => cB D (va_A (wK ad ca rf σ) sz) [] (wK ad ca rf u) t) (va_A (wK ad ca rf σ) sz)) 0 0 (va_A (wK ad ca rf σ) sz) := by
  intro D ad ca rf σ hS hRF x1 x2 g_x1 g_x2 K hw l sz
  refine Met.ofW (cc := cX7_deal) (maxL := 5) (ret := (some .boolean)) (by decide) rfl ?_
  intro p e s m args below meth c s₁ B hml hv
  obtain ⟨rfl, aks, rfl, Wd⟩ := k_enter hv
  have C : CallFix p m c cX7_deal 5 s _ gG RX7 := ⟨B.exec, B.bytes, hml, findClass_of_methodNamed B.named, fun w h => atoms_spec (ws := Cond.code yX7_deal cX7_deal 5 (some .boolean) :: gG) B.pre w (List.mem_cons_of_mem _ h)⟩
  have hr := B.returns
  have hlk := B.notSynchronized
  generalize va_A (wK ad ca rf σ) s.heap.size = A at Wd ⊢
  replace Wd : wXK D ad ca rf s σ s.heap A s.heap [] := ⟨Wd, hS, hRF⟩
  refine k_locals (Nat.le_of_ble_eq_true rfl) [(0, .ref (ad 84)), (1, .int (zI 3)), (2, .int (zI x1)), (3, .int (zI x2))] rfl (fun ls hl => ?_)
  unfold wp5_G_deal3 at hw
  refine lv_iload_n C.1 C.2.1 dX7_deal_0 rfl (lv_at hl 1 rfl) ?_
  refine k_pi (k_runN (rest := []) C aks Wd.1 aks.2.2.2 cs_X7_71 (mk_S_isVariable D 3 (show rng 3 from by decide) _ hw l _) [] rfl (by decide) [] rfl rfl rfl ⟨(Nat.le_of_ble_eq_true rfl), (Nat.le_of_ble_eq_true rfl)⟩ hl.1 rfl rfl (Nat.le_of_ble_eq_true rfl) ⟨(Nat.le_of_ble_eq_true rfl), (Nat.le_of_ble_eq_true rfl)⟩ dX7_deal_1) (fun y1 hy => ?_)
  obtain ⟨r1, rfl, g_r1, hw⟩ := hy
  refine lv_if_ne (tgt := 9) C.1 C.2.1 dX7_deal_4 (by decide) (fun c4 => ?_) (fun c4 => ?_)
  · have hw := hw.1 (z0_ne g_r1 c4)
    refine lv_aload_n C.1 C.2.1 dX7_deal_9 rfl (lv_at hl 0 rfl) ?_
    refine k_get (v := .ref (ad 87)) C Wd.1 KX7 _ 3 (cx84 _) (by decide) fl_X7_25 rfl dX7_deal_10 ?_
    refine lv_iload_n C.1 C.2.1 dX7_deal_13 rfl (lv_at hl 1 rfl) ?_
    refine lv_iconst (v := zI (-1)) C.1 C.2.1 dX7_deal_14 (by decide) ?_
    refine k_iastF (g := (σ.2.1 87)) (i := 3) (v := (-1)) C Wd 87 (by decide) (cx87 _) (fun f => cx87a _ f) (tC_at (by decide) rfl) (show (0 : Int) ≤ 3 ∧ (3 : Int) < 6 from by decide) (by decide) (ruZ (fun j => Wd.2.1.2.1 87 j) (show rng (-1) from by decide)) dX7_deal_15 (fun H locs Wd => ?_)
    refine lv_iload_n C.1 C.2.1 dX7_deal_16 rfl (lv_at hl 2 rfl) ?_
    refine lv_iload_n C.1 C.2.1 dX7_deal_17 rfl (lv_at hl 1 rfl) ?_
    refine k_ishr (v := zI (zishr x1 3)) C (zishr_eq _ _) dX7_deal_18 ?_
    refine lv_iconst (v := zI 1) C.1 C.2.1 dX7_deal_19 (by decide) ?_
    refine k_iand (v := zI (ziand (zishr x1 3) 1)) C (ziand_eq _ _) dX7_deal_20 ?_
    refine lv_if_ne (tgt := 34) C.1 C.2.1 dX7_deal_21 (by decide) (fun c21 => ?_) (fun c21 => ?_)
    · have hw := hw.1 (z0_ne (rng_toInt _) c21)
      refine lv_iconst (v := zI 0) C.1 C.2.1 dX7_deal_34 (by decide) ?_
      refine lv_istore (lv' := [(4, .int (zI 0)), (0, .ref (ad 84)), (1, .int (zI 3)), (2, .int (zI x1)), (3, .int (zI x2))]) C.1 C.2.1 dX7_deal_35 hl (by decide) rfl (fun ls hl => ?_)
      replace hl := lv_sub hl [1, 2, 3, 4, 0] rfl
      refine k_lp2 hw (fun (l4_37 : Int) (σ37 : Sg) H locs ls => rng l4_37 ∧ wXK D ad ca rf s σ37 H A s.heap locs ∧ lv_has ls 5 [(0, .ref (ad 84)), (1, .int (zI 3)), (2, .int (zI x1)), (3, .int (zI x2)), (4, .int (zI l4_37))]) (fun (l4_37 : Int) (σ37 : Sg) ls => F0 m 37 ls []) (fun L37 hL37 l4_37 σ37 hw H locs ls hi => ?_) _ _ _ ⟨(show rng 0 from by decide), Wd, lv_sub hl [0, 1, 2, 3, 4] rfl⟩
      obtain ⟨g_l4_37, Wd, hl⟩ := hi
      have hS_σ37 := Wd.2.1
      unfold wp5_G_deal3_37 at hw
      refine lv_iload C.1 C.2.1 dX7_deal_37 (lv_at hl 4 rfl) ?_
      refine lv_iload_n C.1 C.2.1 dX7_deal_39 rfl (lv_at hl 3 rfl) ?_
      refine lv_icmp_ge (tgt := 81) C.1 C.2.1 dX7_deal_40 (by decide) (fun c40 => ?_) (fun c40 => ?_)
      · have hw := hw.1 (z_le g_x2 g_l4_37 c40)
        refine lv_aload_n C.1 C.2.1 dX7_deal_81 rfl (lv_at hl 0 rfl) ?_
        refine k_get (v := .ref (ad 87)) C Wd.1 KX7 _ 3 (cx84 _) (by decide) fl_X7_25 rfl dX7_deal_82 ?_
        refine lv_iload_n C.1 C.2.1 dX7_deal_85 rfl (lv_at hl 1 rfl) ?_
        refine lv_iconst (v := zI (-1)) C.1 C.2.1 dX7_deal_86 (by decide) ?_
        refine k_iastF (g := (σ37.2.1 87)) (i := 3) (v := (-1)) C Wd 87 (by decide) (cx87 _) (fun f => cx87a _ f) (tC_at (by decide) rfl) (show (0 : Int) ≤ 3 ∧ (3 : Int) < 6 from by decide) (by decide) (ruZ (fun j => Wd.2.1.2.1 87 j) (show rng (-1) from by decide)) dX7_deal_87 (fun H locs Wd => ?_)
        refine lv_iconst (v := zI 0) C.1 C.2.1 dX7_deal_88 (by decide) ?_
        exact k_retKi C hr hlk (by decide) Wd ⟨_, rfl, (show rng 0 from by decide), hw⟩ dX7_deal_89
      · have hw := hw.2 (z_nle g_x2 g_l4_37 c40)
        refine lv_aload_n C.1 C.2.1 dX7_deal_43 rfl (lv_at hl 0 rfl) ?_
        refine lv_iload_n C.1 C.2.1 dX7_deal_44 rfl (lv_at hl 1 rfl) ?_
        refine lv_iload C.1 C.2.1 dX7_deal_45 (lv_at hl 4 rfl) ?_
        refine k_pi (k_runVK (rest := []) C aks Wd cs_X7_85 (mk_G_isFree D ad ca rf σ37 Wd.2.1 Wd.2.2 3 l4_37 (show rng 3 from by decide) g_l4_37 _ hw l _) (cx84 _) rfl rfl rfl rfl ⟨(Nat.le_of_ble_eq_true rfl), (Nat.le_of_ble_eq_true rfl)⟩ hl.1 rfl rfl (Nat.le_of_ble_eq_true rfl) ⟨(Nat.le_of_ble_eq_true rfl), (Nat.le_of_ble_eq_true rfl)⟩ dX7_deal_47) (fun y47 hy => ?_)
        obtain ⟨r47, rfl, g_r47, hw⟩ := hy
        refine lv_if_eq (tgt := 75) C.1 C.2.1 dX7_deal_50 (by decide) (fun c50 => ?_) (fun c50 => ?_)
        · have hw := hw.1 (z0_eq g_r47 c50)
          refine lv_iinc (v := zI (l4_37 + 1)) (lv' := [(4, .int (zI (l4_37 + 1))), (0, .ref (ad 84)), (1, .int (zI 3)), (2, .int (zI x1)), (3, .int (zI x2))]) C.1 C.2.1 dX7_deal_75 hl (k := 4) rfl (zI_inc _ _ (by decide)) (by decide) rfl (fun ls hl => ?_)
          replace hl := lv_sub hl [1, 2, 3, 4, 0] rfl
          refine lv_goto (tgt := 37) C.1 C.2.1 dX7_deal_78 (by decide) ?_
          obtain ⟨g78_2, hw⟩ := hw
          exact hL37 _ _ hw _ _ _ ⟨g78_2, Wd, lv_sub hl [0, 1, 2, 3, 4] rfl⟩
        · have hw := hw.2 (z0_ne g_r47 c50)
          refine lv_aload_n C.1 C.2.1 dX7_deal_53 rfl (lv_at hl 0 rfl) ?_
          refine k_get (v := .ref (ad 87)) C Wd.1 KX7 _ 3 (cx84 _) (by decide) fl_X7_25 rfl dX7_deal_54 ?_
          refine lv_iload_n C.1 C.2.1 dX7_deal_57 rfl (lv_at hl 1 rfl) ?_
          refine lv_iload C.1 C.2.1 dX7_deal_58 (lv_at hl 4 rfl) ?_
          refine k_iastF (g := (σ37.2.1 87)) (i := 3) (v := l4_37) C Wd 87 (by decide) (cx87 _) (fun f => cx87a _ f) (tC_at (by decide) rfl) (show (0 : Int) ≤ 3 ∧ (3 : Int) < 6 from by decide) (by decide) (ruZ (fun j => Wd.2.1.2.1 87 j) g_l4_37) dX7_deal_60 (fun H locs Wd => ?_)
          refine lv_aload_n C.1 C.2.1 dX7_deal_61 rfl (lv_at hl 0 rfl) ?_
          refine lv_iload_n C.1 C.2.1 dX7_deal_62 rfl (lv_at hl 1 rfl) ?_
          refine lv_iconst (v := zI 1) C.1 C.2.1 dX7_deal_63 (by decide) ?_
          refine k_iadd (v := zI 4) C (by decide) dX7_deal_64 ?_
          refine lv_iload_n C.1 C.2.1 dX7_deal_65 rfl (lv_at hl 2 rfl) ?_
          refine lv_iload_n C.1 C.2.1 dX7_deal_66 rfl (lv_at hl 3 rfl) ?_
          refine k_cKi Wd (k_runVK (rest := []) C aks Wd cs_X7_74 (mk_G_deal4 D ad ca rf (pF σ37 87 (uZ (σ37.2.1 87) 3 l4_37)) Wd.2.1 Wd.2.2 x1 x2 g_x1 g_x2 _ hw l _) (cx84 _) rfl rfl rfl rfl ⟨(Nat.le_of_ble_eq_true rfl), (Nat.le_of_ble_eq_true rfl)⟩ hl.1 rfl rfl (Nat.le_of_ble_eq_true rfl) ⟨(Nat.le_of_ble_eq_true rfl), (Nat.le_of_ble_eq_true rfl)⟩ dX7_deal_67) (fun r67 σr67 H locs g_r67 hw Wd => ?_)
          have hS_σr67 := Wd.2.1
          refine lv_if_eq (tgt := 75) C.1 C.2.1 dX7_deal_70 (by decide) (fun c70 => ?_) (fun c70 => ?_)
          · have hw := hw.1 (z0_eq g_r67 c70)
            refine lv_iinc (v := zI (l4_37 + 1)) (lv' := [(4, .int (zI (l4_37 + 1))), (0, .ref (ad 84)), (1, .int (zI 3)), (2, .int (zI x1)), (3, .int (zI x2))]) C.1 C.2.1 dX7_deal_75 hl (k := 4) rfl (zI_inc _ _ (by decide)) (by decide) rfl (fun ls hl => ?_)
            replace hl := lv_sub hl [1, 2, 3, 4, 0] rfl
            refine lv_goto (tgt := 37) C.1 C.2.1 dX7_deal_78 (by decide) ?_
            obtain ⟨g78_3, hw⟩ := hw
            exact hL37 _ _ hw _ _ _ ⟨g78_3, Wd, lv_sub hl [0, 1, 2, 3, 4] rfl⟩
          · have hw := hw.2 (z0_ne g_r67 c70)
            refine lv_iconst (v := zI 1) C.1 C.2.1 dX7_deal_73 (by decide) ?_
            exact k_retKi C hr hlk (by decide) Wd ⟨_, rfl, (show rng 1 from by decide), hw⟩ dX7_deal_74
    · have hw := hw.2 (z0_eq (rng_toInt _) c21)
      refine lv_aload_n C.1 C.2.1 dX7_deal_24 rfl (lv_at hl 0 rfl) ?_
      refine lv_iload_n C.1 C.2.1 dX7_deal_25 rfl (lv_at hl 1 rfl) ?_
      refine lv_iconst (v := zI 1) C.1 C.2.1 dX7_deal_26 (by decide) ?_
      refine k_iadd (v := zI 4) C (by decide) dX7_deal_27 ?_
      refine lv_iload_n C.1 C.2.1 dX7_deal_28 rfl (lv_at hl 2 rfl) ?_
      refine lv_iload_n C.1 C.2.1 dX7_deal_29 rfl (lv_at hl 3 rfl) ?_
      refine k_cKi Wd (k_runVK (rest := []) C aks Wd cs_X7_74 (mk_G_deal4 D ad ca rf (pF σ 87 (uZ (σ.2.1 87) 3 (-1))) Wd.2.1 Wd.2.2 x1 x2 g_x1 g_x2 _ hw l _) (cx84 _) rfl rfl rfl rfl ⟨(Nat.le_of_ble_eq_true rfl), (Nat.le_of_ble_eq_true rfl)⟩ hl.1 rfl rfl (Nat.le_of_ble_eq_true rfl) ⟨(Nat.le_of_ble_eq_true rfl), (Nat.le_of_ble_eq_true rfl)⟩ dX7_deal_30) (fun r30 σr30 H locs g_r30 hw Wd => ?_)
      have hS_σr30 := Wd.2.1
      obtain ⟨b33_0, hw⟩ := hw
      exact k_retKi C hr hlk (zI_nb b33_0) Wd ⟨_, rfl, g_r30, hw⟩ dX7_deal_33
  · have hw := hw.2 (z0_eq g_r1 c4)
    refine lv_iconst (v := zI 1) C.1 C.2.1 dX7_deal_7 (by decide) ?_
    exact k_retKi C hr hlk (by decide) Wd ⟨_, rfl, (show rng 1 from by decide), hw⟩ dX7_deal_8
set_option maxHeartbeats 4000000 in
set_option maxRecDepth 100000 in
theorem mk_G_deal2 : ∀ (D : va_G) (ad : Nat → Nat) (ca : Nat → ClassId) (rf : Nat → Nat → Option Nat) (σ : Sg) (hS : rngK σ) (hRF : RFok ad rf) (x1 : Int) (x2 : Int) (g_x1 : rng x1) (g_x2 : rng x2) (K : Int → Sg → Prop) (hw : wp5_G_deal2 σ x1 x2 K) (l : Launch) (sz : Nat), Met l yX7_deal (Cond.code yX7_deal cX7_deal 5 (some .boolean) :: gG) { frames := 8, cells := 0, slots := 0, locals := 225 } (cPre D (tC ca) (wK ad ca rf σ) sz [.ref (ad 84), .int (zI 2), .int (zI x1), .int (zI x2)]) (va_Qi (fun (r : Int32) (u : Sg) => (∃ x : Int, r = zI x ∧ rng x ∧ K x u) ∧ rngK u) (fun u t => cB D (va_A (wK ad ca rf σ) sz) [] (wK ad ca rf u) t) (va_A (wK ad ca rf σ) sz)) 0 0 (va_A (wK ad ca rf σ) sz) := by
  intro D ad ca rf σ hS hRF x1 x2 g_x1 g_x2 K hw l sz
  refine Met.ofW (cc := cX7_deal) (maxL := 5) (ret := (some .boolean)) (by decide) rfl ?_
  intro p e s m args below meth c s₁ B hml hv
  obtain ⟨rfl, aks, rfl, Wd⟩ := k_enter hv
  have C : CallFix p m c cX7_deal 5 s _ gG RX7 := ⟨B.exec, B.bytes, hml, findClass_of_methodNamed B.named, fun w h => atoms_spec (ws := Cond.code yX7_deal cX7_deal 5 (some .boolean) :: gG) B.pre w (List.mem_cons_of_mem _ h)⟩
  have hr := B.returns
  have hlk := B.notSynchronized
  generalize va_A (wK ad ca rf σ) s.heap.size = A at Wd ⊢
  replace Wd : wXK D ad ca rf s σ s.heap A s.heap [] := ⟨Wd, hS, hRF⟩
  refine k_locals (Nat.le_of_ble_eq_true rfl) [(0, .ref (ad 84)), (1, .int (zI 2)), (2, .int (zI x1)), (3, .int (zI x2))] rfl (fun ls hl => ?_)
  unfold wp5_G_deal2 at hw
  refine lv_iload_n C.1 C.2.1 dX7_deal_0 rfl (lv_at hl 1 rfl) ?_
  refine k_pi (k_runN (rest := []) C aks Wd.1 aks.2.2.2 cs_X7_71 (mk_S_isVariable D 2 (show rng 2 from by decide) _ hw l _) [] rfl (by decide) [] rfl rfl rfl ⟨(Nat.le_of_ble_eq_true rfl), (Nat.le_of_ble_eq_true rfl)⟩ hl.1 rfl rfl (Nat.le_of_ble_eq_true rfl) ⟨(Nat.le_of_ble_eq_true rfl), (Nat.le_of_ble_eq_true rfl)⟩ dX7_deal_1) (fun y1 hy => ?_)
  obtain ⟨r1, rfl, g_r1, hw⟩ := hy
  refine lv_if_ne (tgt := 9) C.1 C.2.1 dX7_deal_4 (by decide) (fun c4 => ?_) (fun c4 => ?_)
  · have hw := hw.1 (z0_ne g_r1 c4)
    refine lv_aload_n C.1 C.2.1 dX7_deal_9 rfl (lv_at hl 0 rfl) ?_
    refine k_get (v := .ref (ad 87)) C Wd.1 KX7 _ 3 (cx84 _) (by decide) fl_X7_25 rfl dX7_deal_10 ?_
    refine lv_iload_n C.1 C.2.1 dX7_deal_13 rfl (lv_at hl 1 rfl) ?_
    refine lv_iconst (v := zI (-1)) C.1 C.2.1 dX7_deal_14 (by decide) ?_
    refine k_iastF (g := (σ.2.1 87)) (i := 2) (v := (-1)) C Wd 87 (by decide) (cx87 _) (fun f => cx87a _ f) (tC_at (by decide) rfl) (show (0 : Int) ≤ 2 ∧ (2 : Int) < 6 from by decide) (by decide) (ruZ (fun j => Wd.2.1.2.1 87 j) (show rng (-1) from by decide)) dX7_deal_15 (fun H locs Wd => ?_)
    refine lv_iload_n C.1 C.2.1 dX7_deal_16 rfl (lv_at hl 2 rfl) ?_
    refine lv_iload_n C.1 C.2.1 dX7_deal_17 rfl (lv_at hl 1 rfl) ?_
    refine k_ishr (v := zI (zishr x1 2)) C (zishr_eq _ _) dX7_deal_18 ?_
    refine lv_iconst (v := zI 1) C.1 C.2.1 dX7_deal_19 (by decide) ?_
    refine k_iand (v := zI (ziand (zishr x1 2) 1)) C (ziand_eq _ _) dX7_deal_20 ?_
    refine lv_if_ne (tgt := 34) C.1 C.2.1 dX7_deal_21 (by decide) (fun c21 => ?_) (fun c21 => ?_)
    · have hw := hw.1 (z0_ne (rng_toInt _) c21)
      refine lv_iconst (v := zI 0) C.1 C.2.1 dX7_deal_34 (by decide) ?_
      refine lv_istore (lv' := [(4, .int (zI 0)), (0, .ref (ad 84)), (1, .int (zI 2)), (2, .int (zI x1)), (3, .int (zI x2))]) C.1 C.2.1 dX7_deal_35 hl (by decide) rfl (fun ls hl => ?_)
      replace hl := lv_sub hl [1, 2, 3, 4, 0] rfl
      refine k_lp2 hw (fun (l4_37 : Int) (σ37 : Sg) H locs ls => rng l4_37 ∧ wXK D ad ca rf s σ37 H A s.heap locs ∧ lv_has ls 5 [(0, .ref (ad 84)), (1, .int (zI 2)), (2, .int (zI x1)), (3, .int (zI x2)), (4, .int (zI l4_37))]) (fun (l4_37 : Int) (σ37 : Sg) ls => F0 m 37 ls []) (fun L37 hL37 l4_37 σ37 hw H locs ls hi => ?_) _ _ _ ⟨(show rng 0 from by decide), Wd, lv_sub hl [0, 1, 2, 3, 4] rfl⟩
      obtain ⟨g_l4_37, Wd, hl⟩ := hi
      have hS_σ37 := Wd.2.1
      unfold wp5_G_deal2_37 at hw
      refine lv_iload C.1 C.2.1 dX7_deal_37 (lv_at hl 4 rfl) ?_
      refine lv_iload_n C.1 C.2.1 dX7_deal_39 rfl (lv_at hl 3 rfl) ?_
      refine lv_icmp_ge (tgt := 81) C.1 C.2.1 dX7_deal_40 (by decide) (fun c40 => ?_) (fun c40 => ?_)
      · have hw := hw.1 (z_le g_x2 g_l4_37 c40)
        refine lv_aload_n C.1 C.2.1 dX7_deal_81 rfl (lv_at hl 0 rfl) ?_
        refine k_get (v := .ref (ad 87)) C Wd.1 KX7 _ 3 (cx84 _) (by decide) fl_X7_25 rfl dX7_deal_82 ?_
        refine lv_iload_n C.1 C.2.1 dX7_deal_85 rfl (lv_at hl 1 rfl) ?_
        refine lv_iconst (v := zI (-1)) C.1 C.2.1 dX7_deal_86 (by decide) ?_
        refine k_iastF (g := (σ37.2.1 87)) (i := 2) (v := (-1)) C Wd 87 (by decide) (cx87 _) (fun f => cx87a _ f) (tC_at (by decide) rfl) (show (0 : Int) ≤ 2 ∧ (2 : Int) < 6 from by decide) (by decide) (ruZ (fun j => Wd.2.1.2.1 87 j) (show rng (-1) from by decide)) dX7_deal_87 (fun H locs Wd => ?_)
        refine lv_iconst (v := zI 0) C.1 C.2.1 dX7_deal_88 (by decide) ?_
        exact k_retKi C hr hlk (by decide) Wd ⟨_, rfl, (show rng 0 from by decide), hw⟩ dX7_deal_89
      · have hw := hw.2 (z_nle g_x2 g_l4_37 c40)
        refine lv_aload_n C.1 C.2.1 dX7_deal_43 rfl (lv_at hl 0 rfl) ?_
        refine lv_iload_n C.1 C.2.1 dX7_deal_44 rfl (lv_at hl 1 rfl) ?_
        refine lv_iload C.1 C.2.1 dX7_deal_45 (lv_at hl 4 rfl) ?_
        refine k_pi (k_runVK (rest := []) C aks Wd cs_X7_85 (mk_G_isFree D ad ca rf σ37 Wd.2.1 Wd.2.2 2 l4_37 (show rng 2 from by decide) g_l4_37 _ hw l _) (cx84 _) rfl rfl rfl rfl ⟨(Nat.le_of_ble_eq_true rfl), (Nat.le_of_ble_eq_true rfl)⟩ hl.1 rfl rfl (Nat.le_of_ble_eq_true rfl) ⟨(Nat.le_of_ble_eq_true rfl), (Nat.le_of_ble_eq_true rfl)⟩ dX7_deal_47) (fun y47 hy => ?_)
        obtain ⟨r47, rfl, g_r47, hw⟩ := hy
        refine lv_if_eq (tgt := 75) C.1 C.2.1 dX7_deal_50 (by decide) (fun c50 => ?_) (fun c50 => ?_)
        · have hw := hw.1 (z0_eq g_r47 c50)
          refine lv_iinc (v := zI (l4_37 + 1)) (lv' := [(4, .int (zI (l4_37 + 1))), (0, .ref (ad 84)), (1, .int (zI 2)), (2, .int (zI x1)), (3, .int (zI x2))]) C.1 C.2.1 dX7_deal_75 hl (k := 4) rfl (zI_inc _ _ (by decide)) (by decide) rfl (fun ls hl => ?_)
          replace hl := lv_sub hl [1, 2, 3, 4, 0] rfl
          refine lv_goto (tgt := 37) C.1 C.2.1 dX7_deal_78 (by decide) ?_
          obtain ⟨g78_2, hw⟩ := hw
          exact hL37 _ _ hw _ _ _ ⟨g78_2, Wd, lv_sub hl [0, 1, 2, 3, 4] rfl⟩
        · have hw := hw.2 (z0_ne g_r47 c50)
          refine lv_aload_n C.1 C.2.1 dX7_deal_53 rfl (lv_at hl 0 rfl) ?_
          refine k_get (v := .ref (ad 87)) C Wd.1 KX7 _ 3 (cx84 _) (by decide) fl_X7_25 rfl dX7_deal_54 ?_
          refine lv_iload_n C.1 C.2.1 dX7_deal_57 rfl (lv_at hl 1 rfl) ?_
          refine lv_iload C.1 C.2.1 dX7_deal_58 (lv_at hl 4 rfl) ?_
          refine k_iastF (g := (σ37.2.1 87)) (i := 2) (v := l4_37) C Wd 87 (by decide) (cx87 _) (fun f => cx87a _ f) (tC_at (by decide) rfl) (show (0 : Int) ≤ 2 ∧ (2 : Int) < 6 from by decide) (by decide) (ruZ (fun j => Wd.2.1.2.1 87 j) g_l4_37) dX7_deal_60 (fun H locs Wd => ?_)
          refine lv_aload_n C.1 C.2.1 dX7_deal_61 rfl (lv_at hl 0 rfl) ?_
          refine lv_iload_n C.1 C.2.1 dX7_deal_62 rfl (lv_at hl 1 rfl) ?_
          refine lv_iconst (v := zI 1) C.1 C.2.1 dX7_deal_63 (by decide) ?_
          refine k_iadd (v := zI 3) C (by decide) dX7_deal_64 ?_
          refine lv_iload_n C.1 C.2.1 dX7_deal_65 rfl (lv_at hl 2 rfl) ?_
          refine lv_iload_n C.1 C.2.1 dX7_deal_66 rfl (lv_at hl 3 rfl) ?_
          refine k_cKi Wd (k_runVK (rest := []) C aks Wd cs_X7_74 (mk_G_deal3 D ad ca rf (pF σ37 87 (uZ (σ37.2.1 87) 2 l4_37)) Wd.2.1 Wd.2.2 x1 x2 g_x1 g_x2 _ hw l _) (cx84 _) rfl rfl rfl rfl ⟨(Nat.le_of_ble_eq_true rfl), (Nat.le_of_ble_eq_true rfl)⟩ hl.1 rfl rfl (Nat.le_of_ble_eq_true rfl) ⟨(Nat.le_of_ble_eq_true rfl), (Nat.le_of_ble_eq_true rfl)⟩ dX7_deal_67) (fun r67 σr67 H locs g_r67 hw Wd => ?_)
          have hS_σr67 := Wd.2.1
          refine lv_if_eq (tgt := 75) C.1 C.2.1 dX7_deal_70 (by decide) (fun c70 => ?_) (fun c70 => ?_)
          · have hw := hw.1 (z0_eq g_r67 c70)
            refine lv_iinc (v := zI (l4_37 + 1)) (lv' := [(4, .int (zI (l4_37 + 1))), (0, .ref (ad 84)), (1, .int (zI 2)), (2, .int (zI x1)), (3, .int (zI x2))]) C.1 C.2.1 dX7_deal_75 hl (k := 4) rfl (zI_inc _ _ (by decide)) (by decide) rfl (fun ls hl => ?_)
            replace hl := lv_sub hl [1, 2, 3, 4, 0] rfl
            refine lv_goto (tgt := 37) C.1 C.2.1 dX7_deal_78 (by decide) ?_
            obtain ⟨g78_3, hw⟩ := hw
            exact hL37 _ _ hw _ _ _ ⟨g78_3, Wd, lv_sub hl [0, 1, 2, 3, 4] rfl⟩
          · have hw := hw.2 (z0_ne g_r67 c70)
            refine lv_iconst (v := zI 1) C.1 C.2.1 dX7_deal_73 (by decide) ?_
            exact k_retKi C hr hlk (by decide) Wd ⟨_, rfl, (show rng 1 from by decide), hw⟩ dX7_deal_74
    · have hw := hw.2 (z0_eq (rng_toInt _) c21)
      refine lv_aload_n C.1 C.2.1 dX7_deal_24 rfl (lv_at hl 0 rfl) ?_
      refine lv_iload_n C.1 C.2.1 dX7_deal_25 rfl (lv_at hl 1 rfl) ?_
      refine lv_iconst (v := zI 1) C.1 C.2.1 dX7_deal_26 (by decide) ?_
      refine k_iadd (v := zI 3) C (by decide) dX7_deal_27 ?_
      refine lv_iload_n C.1 C.2.1 dX7_deal_28 rfl (lv_at hl 2 rfl) ?_
      refine lv_iload_n C.1 C.2.1 dX7_deal_29 rfl (lv_at hl 3 rfl) ?_
      refine k_cKi Wd (k_runVK (rest := []) C aks Wd cs_X7_74 (mk_G_deal3 D ad ca rf (pF σ 87 (uZ (σ.2.1 87) 2 (-1))) Wd.2.1 Wd.2.2 x1 x2 g_x1 g_x2 _ hw l _) (cx84 _) rfl rfl rfl rfl ⟨(Nat.le_of_ble_eq_true rfl), (Nat.le_of_ble_eq_true rfl)⟩ hl.1 rfl rfl (Nat.le_of_ble_eq_true rfl) ⟨(Nat.le_of_ble_eq_true rfl), (Nat.le_of_ble_eq_true rfl)⟩ dX7_deal_30) (fun r30 σr30 H locs g_r30 hw Wd => ?_)
      have hS_σr30 := Wd.2.1
      obtain ⟨b33_0, hw⟩ := hw
      exact k_retKi C hr hlk (zI_nb b33_0) Wd ⟨_, rfl, g_r30, hw⟩ dX7_deal_33
  · have hw := hw.2 (z0_eq g_r1 c4)
    refine lv_iconst (v := zI 1) C.1 C.2.1 dX7_deal_7 (by decide) ?_
    exact k_retKi C hr hlk (by decide) Wd ⟨_, rfl, (show rng 1 from by decide), hw⟩ dX7_deal_8
