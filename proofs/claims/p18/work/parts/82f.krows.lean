set_option maxHeartbeats 4000000 in
set_option maxRecDepth 100000 in
theorem mk_W_holds : ∀ (D : va_G) (x0 : Int) (x1 : Int) (x2 : Int) (g_x0 : rng x0) (g_x1 : rng x1) (g_x2 : rng x2) (K : Int → Prop) (hw : wp5_W_holds x0 x1 x2 K) (l : Launch) (sz : Nat), Met l yX8_holds (Cond.code yX8_holds cX8_holds 3 (some .boolean) :: gG) { frames := 1, cells := 0, slots := 0, locals := 64 } (cPre D [] [] sz [.int (zI x0), .int (zI x1), .int (zI x2)]) (vp_Si (fun r => ∃ x : Int, r = zI x ∧ rng x ∧ K x)) 0 0 (fun _ => False) := by
  intro D x0 x1 x2 g_x0 g_x1 g_x2 K hw l sz
  refine Met.ofW (cc := cX8_holds) (maxL := 3) (ret := (some .boolean)) (by decide) rfl ?_
  intro p e s m args below meth c s₁ B hml hv
  obtain ⟨rfl, aks, rfl, Wd⟩ := k_enter hv
  have C : CallFix p m c cX8_holds 3 s _ gG RX8 := ⟨B.exec, B.bytes, hml, findClass_of_methodNamed B.named, fun w h => atoms_spec (ws := Cond.code yX8_holds cX8_holds 3 (some .boolean) :: gG) B.pre w (List.mem_cons_of_mem _ h)⟩
  have hr := B.returns
  have hlk := B.notSynchronized
  obtain ⟨A, Wd⟩ : ∃ A, wX D [] s [] s.heap A s.heap [] := ⟨_, Wd⟩
  refine k_locals (Nat.le_of_ble_eq_true rfl) [(0, .int (zI x0)), (1, .int (zI x1)), (2, .int (zI x2))] rfl (fun ls hl => ?_)
  unfold wp5_W_holds at hw
  refine lv_iload_n C.1 C.2.1 dX8_holds_0 rfl (lv_at hl 0 rfl) ?_
  refine lv_sipush (v := zI 130) C.1 C.2.1 dX8_holds_1 (zS (by decide) (by decide)) ?_
  refine lv_icmp_ne (tgt := 20) C.1 C.2.1 dX8_holds_4 (by decide) (fun c4 => ?_) (fun c4 => ?_)
  · have hw := hw.1 (z_ne g_x0 (show rng 130 from by decide) c4)
    refine lv_iload_n C.1 C.2.1 dX8_holds_20 rfl (lv_at hl 0 rfl) ?_
    refine lv_sipush (v := zI 131) C.1 C.2.1 dX8_holds_21 (zS (by decide) (by decide)) ?_
    refine lv_icmp_ne (tgt := 40) C.1 C.2.1 dX8_holds_24 (by decide) (fun c24 => ?_) (fun c24 => ?_)
    · have hw := hw.1 (z_ne g_x0 (show rng 131 from by decide) c24)
      refine lv_iload_n C.1 C.2.1 dX8_holds_40 rfl (lv_at hl 1 rfl) ?_
      refine lv_iload_n C.1 C.2.1 dX8_holds_41 rfl (lv_at hl 2 rfl) ?_
      refine lv_icmp_le (tgt := 49) C.1 C.2.1 dX8_holds_42 (by decide) (fun c42 => ?_) (fun c42 => ?_)
      · have hw := hw.1 (z_le g_x1 g_x2 c42)
        refine lv_iconst (v := zI 0) C.1 C.2.1 dX8_holds_49 (by decide) ?_
        exact k_zretP C hr hlk (by decide) ⟨_, rfl, (show rng 0 from by decide), hw⟩ dX8_holds_50
      · have hw := hw.2 (z_nle g_x1 g_x2 c42)
        refine lv_iconst (v := zI 1) C.1 C.2.1 dX8_holds_45 (by decide) ?_
        refine lv_goto (tgt := 50) C.1 C.2.1 dX8_holds_46 (by decide) ?_
        exact k_zretP C hr hlk (by decide) ⟨_, rfl, (show rng 1 from by decide), hw⟩ dX8_holds_50
    · have hw := hw.2 (z_eq g_x0 (show rng 131 from by decide) c24)
      refine lv_iload_n C.1 C.2.1 dX8_holds_27 rfl (lv_at hl 1 rfl) ?_
      refine lv_iload_n C.1 C.2.1 dX8_holds_28 rfl (lv_at hl 2 rfl) ?_
      refine lv_icmp_ne (tgt := 36) C.1 C.2.1 dX8_holds_29 (by decide) (fun c29 => ?_) (fun c29 => ?_)
      · have hw := hw.1 (z_ne g_x1 g_x2 c29)
        refine lv_iconst (v := zI 0) C.1 C.2.1 dX8_holds_36 (by decide) ?_
        refine lv_goto (tgt := 50) C.1 C.2.1 dX8_holds_37 (by decide) ?_
        exact k_zretP C hr hlk (by decide) ⟨_, rfl, (show rng 0 from by decide), hw⟩ dX8_holds_50
      · have hw := hw.2 (z_eq g_x1 g_x2 c29)
        refine lv_iconst (v := zI 1) C.1 C.2.1 dX8_holds_32 (by decide) ?_
        refine lv_goto (tgt := 50) C.1 C.2.1 dX8_holds_33 (by decide) ?_
        exact k_zretP C hr hlk (by decide) ⟨_, rfl, (show rng 1 from by decide), hw⟩ dX8_holds_50
  · have hw := hw.2 (z_eq g_x0 (show rng 130 from by decide) c4)
    refine lv_iload_n C.1 C.2.1 dX8_holds_7 rfl (lv_at hl 1 rfl) ?_
    refine lv_iload_n C.1 C.2.1 dX8_holds_8 rfl (lv_at hl 2 rfl) ?_
    refine lv_icmp_ge (tgt := 16) C.1 C.2.1 dX8_holds_9 (by decide) (fun c9 => ?_) (fun c9 => ?_)
    · have hw := hw.1 (z_le g_x2 g_x1 c9)
      refine lv_iconst (v := zI 0) C.1 C.2.1 dX8_holds_16 (by decide) ?_
      refine lv_goto (tgt := 50) C.1 C.2.1 dX8_holds_17 (by decide) ?_
      exact k_zretP C hr hlk (by decide) ⟨_, rfl, (show rng 0 from by decide), hw⟩ dX8_holds_50
    · have hw := hw.2 (z_nle g_x2 g_x1 c9)
      refine lv_iconst (v := zI 1) C.1 C.2.1 dX8_holds_12 (by decide) ?_
      refine lv_goto (tgt := 50) C.1 C.2.1 dX8_holds_13 (by decide) ?_
      exact k_zretP C hr hlk (by decide) ⟨_, rfl, (show rng 1 from by decide), hw⟩ dX8_holds_50
set_option maxHeartbeats 4000000 in
set_option maxRecDepth 100000 in
theorem mk_M_doStatement_8 : ∀ (D : va_G) (ad : Nat → Nat) (ca : Nat → ClassId) (rf : Nat → Nat → Option Nat) (σ : Sg) (hS : rngK σ) (hRF : RFok ad rf) (x0 : Int) (g_x0 : rng x0) (K : Int → Sg → Prop) (hw : wp5_M_doStatement σ 8 x0 K) (l : Launch) (sz : Nat), Met l yX3_doStatement (Cond.code yX3_doStatement cX3_doStatement 4 (some .int) :: gG) { frames := 3, cells := 0, slots := 0, locals := 124 } (cPre D (tC ca) (wK ad ca rf σ) sz [.ref (ad 8), .int (zI x0)]) (va_Qi (fun (r : Int32) (u : Sg) => (∃ x : Int, r = zI x ∧ rng x ∧ K x u) ∧ rngK u) (fun u t => cB D (va_A (wK ad ca rf σ) sz) [] (wK ad ca rf u) t) (va_A (wK ad ca rf σ) sz)) 0 0 (va_A (wK ad ca rf σ) sz) := by
  intro D ad ca rf σ hS hRF x0 g_x0 K hw l sz
  refine Met.ofW (cc := cX3_doStatement) (maxL := 4) (ret := (some .int)) (by decide) rfl ?_
  intro p e s m args below meth c s₁ B hml hv
  obtain ⟨rfl, aks, rfl, Wd⟩ := k_enter hv
  have C : CallFix p m c cX3_doStatement 4 s _ gG RX3 := ⟨B.exec, B.bytes, hml, findClass_of_methodNamed B.named, fun w h => atoms_spec (ws := Cond.code yX3_doStatement cX3_doStatement 4 (some .int) :: gG) B.pre w (List.mem_cons_of_mem _ h)⟩
  have hr := B.returns
  have hlk := B.notSynchronized
  generalize va_A (wK ad ca rf σ) s.heap.size = A at Wd ⊢
  replace Wd : wXK D ad ca rf s σ s.heap A s.heap [] := ⟨Wd, hS, hRF⟩
  refine k_locals (Nat.le_of_ble_eq_true rfl) [(0, .ref (ad 8)), (1, .int (zI x0))] rfl (fun ls hl => ?_)
  unfold wp5_M_doStatement at hw
  refine lv_aload_n C.1 C.2.1 dX3_doStatement_0 rfl (lv_at hl 0 rfl) ?_
  refine k_get (v := .ref (ad 12)) C Wd.1 KX3 _ 0 (cx8 _) (by decide) fl_X3_12 rfl dX3_doStatement_1 ?_
  refine lv_iload_n C.1 C.2.1 dX3_doStatement_4 rfl (lv_at hl 1 rfl) ?_
  refine k_pi (k_runVK (rest := []) C aks Wd cs_X3_48 (mk_F_isHere_12 D ad ca rf σ Wd.2.1 Wd.2.2 x0 g_x0 _ hw l _) (cx12 _) rfl rfl rfl rfl ⟨(Nat.le_of_ble_eq_true rfl), (Nat.le_of_ble_eq_true rfl)⟩ hl.1 rfl rfl (Nat.le_of_ble_eq_true rfl) ⟨(Nat.le_of_ble_eq_true rfl), (Nat.le_of_ble_eq_true rfl)⟩ dX3_doStatement_5) (fun y5 hy => ?_)
  obtain ⟨r5, rfl, g_r5, hw⟩ := hy
  refine lv_if_ne (tgt := 13) C.1 C.2.1 dX3_doStatement_8 (by decide) (fun c8 => ?_) (fun c8 => ?_)
  · have hw := hw.1 (z0_ne g_r5 c8)
    refine lv_aload_n C.1 C.2.1 dX3_doStatement_13 rfl (lv_at hl 0 rfl) ?_
    refine k_get (v := .ref (ad 12)) C Wd.1 KX3 _ 0 (cx8 _) (by decide) fl_X3_12 rfl dX3_doStatement_14 ?_
    refine k_get (v := .ref (ad 14)) C Wd.1 KX1 _ 3 (cx12 _) (by decide) fl_X3_52 rfl dX3_doStatement_17 ?_
    refine lv_iload_n C.1 C.2.1 dX3_doStatement_20 rfl (lv_at hl 1 rfl) ?_
    obtain ⟨n21_0, hw⟩ := hw
    refine k_ialdK (g := (σ.2.1 14)) C Wd (cx14 _) (tC_at (by decide) rfl) n21_0 (by decide) dX3_doStatement_21 ?_
    have ga21 : rng (σ.2.1 14 x0) := rngL (fun j => (Wd.2.1).2.1 14 j) n21_0
    refine lv_istore_n (lv' := [(2, .int (zI (σ.2.1 14 x0))), (0, .ref (ad 8)), (1, .int (zI x0))]) C.1 C.2.1 dX3_doStatement_22 rfl hl (by decide) rfl (fun ls hl => ?_)
    replace hl := lv_sub hl [1, 2, 0] rfl
    refine lv_iload_n C.1 C.2.1 dX3_doStatement_23 rfl (lv_at hl 2 rfl) ?_
    refine lv_bipush (v := zI 111) C.1 C.2.1 dX3_doStatement_24 (by decide) ?_
    refine lv_icmp_ne (tgt := 32) C.1 C.2.1 dX3_doStatement_26 (by decide) (fun c26 => ?_) (fun c26 => ?_)
    · have hw := hw.1 (z_ne ga21 (show rng 111 from by decide) c26)
      refine lv_aload_n C.1 C.2.1 dX3_doStatement_32 rfl (lv_at hl 0 rfl) ?_
      refine k_get (v := .ref (ad 12)) C Wd.1 KX3 _ 0 (cx8 _) (by decide) fl_X3_12 rfl dX3_doStatement_33 ?_
      obtain ⟨n36_0, hw⟩ := hw
      refine k_get (v := .ref (ad (rowC (σ.1 12 0).toNat))) C Wd.1 KX1 _ 0 (cx12 _) (by decide) fl_X3_55 (congrArg some (rvW_ref n36_0)) dX3_doStatement_36 ?_
      refine lv_aload_n C.1 C.2.1 dX3_doStatement_39 rfl (lv_at hl 0 rfl) ?_
      refine k_get (v := .ref (ad 12)) C Wd.1 KX3 _ 0 (cx8 _) (by decide) fl_X3_12 rfl dX3_doStatement_40 ?_
      refine k_get (v := .ref (ad 15)) C Wd.1 KX1 _ 4 (cx12 _) (by decide) fl_X3_59 rfl dX3_doStatement_43 ?_
      refine lv_iload_n C.1 C.2.1 dX3_doStatement_46 rfl (lv_at hl 1 rfl) ?_
      refine k_ialdK (g := (σ.2.1 15)) C Wd (cx15 _) (tC_at (by decide) rfl) n21_0 (by decide) dX3_doStatement_47 ?_
      have ga47 : rng (σ.2.1 15 x0) := rngL (fun j => (Wd.2.1).2.1 15 j) n21_0
      refine lv_aload_n C.1 C.2.1 dX3_doStatement_48 rfl (lv_at hl 0 rfl) ?_
      refine k_get (v := .ref (ad 12)) C Wd.1 KX3 _ 0 (cx8 _) (by decide) fl_X3_12 rfl dX3_doStatement_49 ?_
      refine k_get (v := .ref (ad 16)) C Wd.1 KX1 _ 5 (cx12 _) (by decide) fl_X3_62 rfl dX3_doStatement_52 ?_
      refine lv_iload_n C.1 C.2.1 dX3_doStatement_55 rfl (lv_at hl 1 rfl) ?_
      refine k_ialdK (g := (σ.2.1 16)) C Wd (cx16 _) (tC_at (by decide) rfl) n21_0 (by decide) dX3_doStatement_56 ?_
      have ga56 : rng (σ.2.1 16 x0) := rngL (fun j => (Wd.2.1).2.1 16 j) n21_0
      refine lv_aload_n C.1 C.2.1 dX3_doStatement_57 rfl (lv_at hl 0 rfl) ?_
      refine k_get (v := .ref (ad 10)) C Wd.1 KX3 _ 5 (cx8 _) (by decide) fl_X3_22 rfl dX3_doStatement_58 ?_
      refine lv_aload_n C.1 C.2.1 dX3_doStatement_61 rfl (lv_at hl 0 rfl) ?_
      refine k_get (v := .ref (ad 11)) C Wd.1 KX3 _ 6 (cx8 _) (by decide) fl_X3_25 rfl dX3_doStatement_62 ?_
      refine k_cKv Wd (k_runVK (rest := []) C aks Wd cs_X3_65 (mk_W_reckonM_8 D ad ca rf σ Wd.2.1 Wd.2.2 (σ.1 12 0) (σ.2.1 15 x0) (σ.2.1 16 x0) n36_0 ga47 ga56 _ hw l _) (cxRow n36_0) rfl rfl rfl rfl ⟨(Nat.le_of_ble_eq_true rfl), (Nat.le_of_ble_eq_true rfl)⟩ hl.1 rfl rfl (Nat.le_of_ble_eq_true rfl) ⟨(Nat.le_of_ble_eq_true rfl), (Nat.le_of_ble_eq_true rfl)⟩ dX3_doStatement_65) (fun σr65 H locs hw Wd => ?_)
      have hS_σr65 := Wd.2.1
      refine lv_iload_n C.1 C.2.1 dX3_doStatement_68 rfl (lv_at hl 2 rfl) ?_
      refine k_pi (k_runS (rest := []) C aks Wd.1 cs_X3_71 (mk_W_isBranch D (σ.2.1 14 x0) ga21 _ hw l _) [] rfl (by decide) [] rfl rfl rfl ⟨(Nat.le_of_ble_eq_true rfl), (Nat.le_of_ble_eq_true rfl)⟩ hl.1 rfl rfl (Nat.le_of_ble_eq_true rfl) ⟨(Nat.le_of_ble_eq_true rfl), (Nat.le_of_ble_eq_true rfl)⟩ dX3_doStatement_69) (fun y69 hy => ?_)
      obtain ⟨r69, rfl, g_r69, hw⟩ := hy
      refine lv_if_eq (tgt := 138) C.1 C.2.1 dX3_doStatement_72 (by decide) (fun c72 => ?_) (fun c72 => ?_)
      · have hw := hw.1 (z0_eq g_r69 c72)
        refine lv_iload_n C.1 C.2.1 dX3_doStatement_138 rfl (lv_at hl 2 rfl) ?_
        refine lv_bipush (v := zI 110) C.1 C.2.1 dX3_doStatement_139 (by decide) ?_
        refine k_cut0 (fun H locs ls => wp5_M_doStatement_184 K σ 8 x0 σr65 ∧ wXK D ad ca rf s σr65 H A s.heap locs ∧ lv_has ls 4 [(0, .ref (ad 8)), (1, .int (zI x0)), (2, .int (zI (σ.2.1 14 x0)))]) (fun  ls => F0 m 184 ls []) (fun  H locs ls hi => ?_) (fun J184 => ?_)
        · obtain ⟨hw, Wd, hl⟩ := hi
          unfold wp5_M_doStatement_184 at hw
          refine lv_iload_n C.1 C.2.1 dX3_doStatement_184 rfl (lv_at hl 2 rfl) ?_
          refine k_pi (k_runS (rest := []) C aks Wd.1 cs_X3_90 (mk_W_isSet D (σ.2.1 14 x0) ga21 _ hw l _) [] rfl (by decide) [] rfl rfl rfl ⟨(Nat.le_of_ble_eq_true rfl), (Nat.le_of_ble_eq_true rfl)⟩ hl.1 rfl rfl (Nat.le_of_ble_eq_true rfl) ⟨(Nat.le_of_ble_eq_true rfl), (Nat.le_of_ble_eq_true rfl)⟩ dX3_doStatement_185) (fun y185 hy => ?_)
          obtain ⟨r185, rfl, g_r185, hw⟩ := hy
          refine lv_if_eq (tgt := 206) C.1 C.2.1 dX3_doStatement_188 (by decide) (fun c188 => ?_) (fun c188 => ?_)
          · have hw := hw.1 (z0_eq g_r185 c188)
            refine lv_aload_n C.1 C.2.1 dX3_doStatement_206 rfl (lv_at hl 0 rfl) ?_
            refine k_get (v := .ref (ad 12)) C Wd.1 KX3 _ 0 (cx8 _) (by decide) fl_X3_12 rfl dX3_doStatement_207 ?_
            refine k_get (v := .ref (ad 17)) C Wd.1 KX1 _ 6 (cx12 _) (by decide) fl_X3_84 rfl dX3_doStatement_210 ?_
            refine lv_iload_n C.1 C.2.1 dX3_doStatement_213 rfl (lv_at hl 1 rfl) ?_
            refine k_ialdK (g := (σr65.2.1 17)) C Wd (cx17 _) (tC_at (by decide) rfl) n21_0 (by decide) dX3_doStatement_214 ?_
            have ga214 : rng (σr65.2.1 17 x0) := rngL (fun j => (Wd.2.1).2.1 17 j) n21_0
            exact k_retKi C hr hlk rfl Wd ⟨_, rfl, ga214, hw⟩ dX3_doStatement_215
          · have hw := hw.2 (z0_ne g_r185 c188)
            refine lv_aload_n C.1 C.2.1 dX3_doStatement_191 rfl (lv_at hl 0 rfl) ?_
            refine k_get (v := .ref (ad 10)) C Wd.1 KX3 _ 5 (cx8 _) (by decide) fl_X3_22 rfl dX3_doStatement_192 ?_
            refine lv_iload_n C.1 C.2.1 dX3_doStatement_195 rfl (lv_at hl 2 rfl) ?_
            refine lv_bipush (v := zI 100) C.1 C.2.1 dX3_doStatement_196 (by decide) ?_
            refine k_isub (v := zI ((σ.2.1 14 x0) - 100)) C (zI_isub _ _) dX3_doStatement_198 ?_
            refine lv_aload_n C.1 C.2.1 dX3_doStatement_199 rfl (lv_at hl 0 rfl) ?_
            refine k_get (v := .ref (ad 11)) C Wd.1 KX3 _ 6 (cx8 _) (by decide) fl_X3_25 rfl dX3_doStatement_200 ?_
            refine lv_iconst (v := zI 0) C.1 C.2.1 dX3_doStatement_203 (by decide) ?_
            refine k_ialdK (g := (σr65.2.1 11)) C Wd (cx11 _) (tC_at (by decide) rfl) (show (0 : Int) ≤ 0 ∧ (0 : Int) < 300 from by decide) (by decide) dX3_doStatement_204 ?_
            have ga204 : rng (σr65.2.1 11 0) := rngL (fun j => (Wd.2.1).2.1 11 j) (show (0 : Int) ≤ 0 ∧ (0 : Int) < 300 from by decide)
            obtain ⟨n205_0, hw⟩ := hw
            refine k_iastF (g := (σr65.2.1 10)) (i := ((σ.2.1 14 x0) - 100)) (v := (σr65.2.1 11 0)) C Wd 10 (by decide) (cx10 _) (fun f => cx10a _ f) (tC_at (by decide) rfl) n205_0 (by decide) (ruZ (fun j => Wd.2.1.2.1 10 j) ga204) dX3_doStatement_205 (fun H locs Wd => ?_)
            refine lv_aload_n C.1 C.2.1 dX3_doStatement_206 rfl (lv_at hl 0 rfl) ?_
            refine k_get (v := .ref (ad 12)) C Wd.1 KX3 _ 0 (cx8 _) (by decide) fl_X3_12 rfl dX3_doStatement_207 ?_
            refine k_get (v := .ref (ad 17)) C Wd.1 KX1 _ 6 (cx12 _) (by decide) fl_X3_84 rfl dX3_doStatement_210 ?_
            refine lv_iload_n C.1 C.2.1 dX3_doStatement_213 rfl (lv_at hl 1 rfl) ?_
            refine k_ialdK (g := (σr65.2.1 17)) C Wd (cx17 _) (tC_at (by decide) rfl) n21_0 (by decide) dX3_doStatement_214 ?_
            have ga214 : rng (σr65.2.1 17 x0) := rngL (fun j => (Wd.2.1).2.1 17 j) n21_0
            exact k_retKi C hr hlk rfl Wd ⟨_, rfl, ga214, hw⟩ dX3_doStatement_215
        refine lv_icmp_ne (tgt := 184) C.1 C.2.1 dX3_doStatement_141 (by decide) (fun c141 => ?_) (fun c141 => ?_)
        · have hw := hw.1 (z_ne ga21 (show rng 110 from by decide) c141)
          exact J184  _ _ _ ⟨hw, Wd, lv_sub hl [0, 1, 2] rfl⟩
        · have hw := hw.2 (z_eq ga21 (show rng 110 from by decide) c141)
          refine lv_aload_n C.1 C.2.1 dX3_doStatement_144 rfl (lv_at hl 0 rfl) ?_
          refine k_get (v := .int (zI (σr65.1 8 2))) C Wd.1 KX3 _ 2 (cx8 _) (by decide) fl_X3_28 rfl dX3_doStatement_145 ?_
          refine lv_aload_n C.1 C.2.1 dX3_doStatement_148 rfl (lv_at hl 0 rfl) ?_
          refine k_get (v := .ref (ad 9)) C Wd.1 KX3 _ 1 (cx8 _) (by decide) fl_X3_18 rfl dX3_doStatement_149 ?_
          refine k_alen (v := zI 100) C Wd.1 9 9 (cx9 _) (tC_at (by decide) rfl) rfl dX3_doStatement_152 ?_
          refine lv_icmp_ge (tgt := 184) C.1 C.2.1 dX3_doStatement_153 (by decide) (fun c153 => ?_) (fun c153 => ?_)
          · have hw := hw.1 (z_le (show rng 100 from by decide) (hS_σr65.1 8 2) c153)
            exact J184  _ _ _ ⟨hw, Wd, lv_sub hl [0, 1, 2] rfl⟩
          · have hw := hw.2 (z_nle (show rng 100 from by decide) (hS_σr65.1 8 2) c153)
            refine lv_aload_n C.1 C.2.1 dX3_doStatement_156 rfl (lv_at hl 0 rfl) ?_
            refine k_get (v := .ref (ad 9)) C Wd.1 KX3 _ 1 (cx8 _) (by decide) fl_X3_18 rfl dX3_doStatement_157 ?_
            refine lv_aload_n C.1 C.2.1 dX3_doStatement_160 rfl (lv_at hl 0 rfl) ?_
            refine k_get (v := .int (zI (σr65.1 8 2))) C Wd.1 KX3 _ 2 (cx8 _) (by decide) fl_X3_28 rfl dX3_doStatement_161 ?_
            refine lv_aload_n C.1 C.2.1 dX3_doStatement_164 rfl (lv_at hl 0 rfl) ?_
            refine k_get (v := .ref (ad 11)) C Wd.1 KX3 _ 6 (cx8 _) (by decide) fl_X3_25 rfl dX3_doStatement_165 ?_
            refine lv_iconst (v := zI 0) C.1 C.2.1 dX3_doStatement_168 (by decide) ?_
            refine k_ialdK (g := (σr65.2.1 11)) C Wd (cx11 _) (tC_at (by decide) rfl) (show (0 : Int) ≤ 0 ∧ (0 : Int) < 300 from by decide) (by decide) dX3_doStatement_169 ?_
            have ga169 : rng (σr65.2.1 11 0) := rngL (fun j => (Wd.2.1).2.1 11 j) (show (0 : Int) ≤ 0 ∧ (0 : Int) < 300 from by decide)
            obtain ⟨n170_0, hw⟩ := hw
            refine k_iastF (g := (σr65.2.1 9)) (i := (σr65.1 8 2)) (v := (σr65.2.1 11 0)) C Wd 9 (by decide) (cx9 _) (fun f => cx9a _ f) (tC_at (by decide) rfl) n170_0 (by decide) (ruZ (fun j => Wd.2.1.2.1 9 j) ga169) dX3_doStatement_170 (fun H locs Wd => ?_)
            refine lv_aload_n C.1 C.2.1 dX3_doStatement_171 rfl (lv_at hl 0 rfl) ?_
            refine lv_dup C.1 C.2.1 dX3_doStatement_172 rfl ?_
            refine k_get (v := .int (zI (σr65.1 8 2))) C Wd.1 KX3 _ 2 (cx8 _) (by decide) fl_X3_28 rfl dX3_doStatement_173 ?_
            refine lv_iconst (v := zI 1) C.1 C.2.1 dX3_doStatement_176 (by decide) ?_
            refine k_iadd (v := zI ((σr65.1 8 2) + 1)) C (zI_iadd _ _) dX3_doStatement_177 ?_
            obtain ⟨g178_2, hw⟩ := hw
            refine k_putK (v := ((σr65.1 8 2) + 1)) C Wd KX3 8 2 (by decide) (cx8 _) rfl (by decide) fl_X3_28 rfl rfl rfl (Nat.le_of_ble_eq_true rfl) g178_2 dX3_doStatement_178 (fun H locs Wd => ?_)
            refine lv_goto (tgt := 206) C.1 C.2.1 dX3_doStatement_181 (by decide) ?_
            refine lv_aload_n C.1 C.2.1 dX3_doStatement_206 rfl (lv_at hl 0 rfl) ?_
            refine k_get (v := .ref (ad 12)) C Wd.1 KX3 _ 0 (cx8 _) (by decide) fl_X3_12 rfl dX3_doStatement_207 ?_
            refine k_get (v := .ref (ad 17)) C Wd.1 KX1 _ 6 (cx12 _) (by decide) fl_X3_84 rfl dX3_doStatement_210 ?_
            refine lv_iload_n C.1 C.2.1 dX3_doStatement_213 rfl (lv_at hl 1 rfl) ?_
            refine k_ialdK (g := (σr65.2.1 17)) C Wd (cx17 _) (tC_at (by decide) rfl) n21_0 (by decide) dX3_doStatement_214 ?_
            have ga214 : rng (σr65.2.1 17 x0) := rngL (fun j => (Wd.2.1).2.1 17 j) n21_0
            exact k_retKi C hr hlk rfl Wd ⟨_, rfl, ga214, hw⟩ dX3_doStatement_215
      · have hw := hw.2 (z0_ne g_r69 c72)
        refine lv_aload_n C.1 C.2.1 dX3_doStatement_75 rfl (lv_at hl 0 rfl) ?_
        refine k_get (v := .ref (ad 12)) C Wd.1 KX3 _ 0 (cx8 _) (by decide) fl_X3_12 rfl dX3_doStatement_76 ?_
        obtain ⟨n79_0, hw⟩ := hw
        refine k_get (v := .ref (ad (rowC (σr65.1 12 0).toNat))) C Wd.1 KX1 _ 0 (cx12 _) (by decide) fl_X3_55 (congrArg some (rvW_ref n79_0)) dX3_doStatement_79 ?_
        refine lv_aload_n C.1 C.2.1 dX3_doStatement_82 rfl (lv_at hl 0 rfl) ?_
        refine k_get (v := .ref (ad 12)) C Wd.1 KX3 _ 0 (cx8 _) (by decide) fl_X3_12 rfl dX3_doStatement_83 ?_
        refine k_get (v := .ref (ad 13)) C Wd.1 KX1 _ 2 (cx12 _) (by decide) fl_X3_74 rfl dX3_doStatement_86 ?_
        refine lv_iload_n C.1 C.2.1 dX3_doStatement_89 rfl (lv_at hl 1 rfl) ?_
        refine k_ialdK (g := (σr65.2.1 13)) C Wd (cx13 _) (tC_at (by decide) rfl) n21_0 (by decide) dX3_doStatement_90 ?_
        have ga90 : rng (σr65.2.1 13 x0) := rngL (fun j => (Wd.2.1).2.1 13 j) n21_0
        refine lv_iconst (v := zI 1) C.1 C.2.1 dX3_doStatement_91 (by decide) ?_
        refine k_iadd (v := zI ((σr65.2.1 13 x0) + 1)) C (zI_iadd _ _) dX3_doStatement_92 ?_
        obtain ⟨g93_3, hw⟩ := hw
        refine k_pi (k_runVK (rest := []) C aks Wd cs_X3_77 (mk_W_cell D ad ca rf σr65 Wd.2.1 Wd.2.2 (σr65.1 12 0) ((σr65.2.1 13 x0) + 1) n79_0 g93_3 _ hw l _) (cxRow n79_0) rfl rfl rfl rfl ⟨(Nat.le_of_ble_eq_true rfl), (Nat.le_of_ble_eq_true rfl)⟩ hl.1 rfl rfl (Nat.le_of_ble_eq_true rfl) ⟨(Nat.le_of_ble_eq_true rfl), (Nat.le_of_ble_eq_true rfl)⟩ dX3_doStatement_93) (fun y93 hy => ?_)
        obtain ⟨r93, rfl, g_r93, hw⟩ := hy
        refine lv_aload_n C.1 C.2.1 dX3_doStatement_96 rfl (lv_at hl 0 rfl) ?_
        refine k_get (v := .ref (ad 11)) C Wd.1 KX3 _ 6 (cx8 _) (by decide) fl_X3_25 rfl dX3_doStatement_97 ?_
        refine lv_iconst (v := zI 1) C.1 C.2.1 dX3_doStatement_100 (by decide) ?_
        refine k_ialdK (g := (σr65.2.1 11)) C Wd (cx11 _) (tC_at (by decide) rfl) (show (0 : Int) ≤ 1 ∧ (1 : Int) < 300 from by decide) (by decide) dX3_doStatement_101 ?_
        have ga101 : rng (σr65.2.1 11 1) := rngL (fun j => (Wd.2.1).2.1 11 j) (show (0 : Int) ≤ 1 ∧ (1 : Int) < 300 from by decide)
        refine lv_aload_n C.1 C.2.1 dX3_doStatement_102 rfl (lv_at hl 0 rfl) ?_
        refine k_get (v := .ref (ad 11)) C Wd.1 KX3 _ 6 (cx8 _) (by decide) fl_X3_25 rfl dX3_doStatement_103 ?_
        refine lv_iconst (v := zI 0) C.1 C.2.1 dX3_doStatement_106 (by decide) ?_
        refine k_ialdK (g := (σr65.2.1 11)) C Wd (cx11 _) (tC_at (by decide) rfl) (show (0 : Int) ≤ 0 ∧ (0 : Int) < 300 from by decide) (by decide) dX3_doStatement_107 ?_
        have ga107 : rng (σr65.2.1 11 0) := rngL (fun j => (Wd.2.1).2.1 11 j) (show (0 : Int) ≤ 0 ∧ (0 : Int) < 300 from by decide)
        refine k_pi (k_runS (rest := []) C aks Wd.1 cs_X3_80 (mk_W_holds D r93 (σr65.2.1 11 1) (σr65.2.1 11 0) g_r93 ga101 ga107 _ hw l _) [] rfl (by decide) [] rfl rfl rfl ⟨(Nat.le_of_ble_eq_true rfl), (Nat.le_of_ble_eq_true rfl)⟩ hl.1 rfl rfl (Nat.le_of_ble_eq_true rfl) ⟨(Nat.le_of_ble_eq_true rfl), (Nat.le_of_ble_eq_true rfl)⟩ dX3_doStatement_108) (fun y108 hy => ?_)
        obtain ⟨r108, rfl, g_r108, hw⟩ := hy
        refine lv_istore_n (lv' := [(3, .int (zI r108)), (0, .ref (ad 8)), (1, .int (zI x0)), (2, .int (zI (σ.2.1 14 x0)))]) C.1 C.2.1 dX3_doStatement_111 rfl hl (by decide) rfl (fun ls hl => ?_)
        replace hl := lv_sub hl [1, 2, 3, 0] rfl
        refine lv_iload_n C.1 C.2.1 dX3_doStatement_112 rfl (lv_at hl 3 rfl) ?_
        refine lv_if_eq (tgt := 128) C.1 C.2.1 dX3_doStatement_113 (by decide) (fun c113 => ?_) (fun c113 => ?_)
        · have hw := hw.1 (z0_eq g_r108 c113)
          refine lv_aload_n C.1 C.2.1 dX3_doStatement_128 rfl (lv_at hl 0 rfl) ?_
          refine k_get (v := .ref (ad 12)) C Wd.1 KX3 _ 0 (cx8 _) (by decide) fl_X3_12 rfl dX3_doStatement_129 ?_
          refine k_get (v := .ref (ad 18)) C Wd.1 KX1 _ 7 (cx12 _) (by decide) fl_X3_87 rfl dX3_doStatement_132 ?_
          refine lv_iload_n C.1 C.2.1 dX3_doStatement_135 rfl (lv_at hl 1 rfl) ?_
          refine k_ialdK (g := (σr65.2.1 18)) C Wd (cx18 _) (tC_at (by decide) rfl) n21_0 (by decide) dX3_doStatement_136 ?_
          have ga136 : rng (σr65.2.1 18 x0) := rngL (fun j => (Wd.2.1).2.1 18 j) n21_0
          exact k_retKi C hr hlk rfl Wd ⟨_, rfl, ga136, hw⟩ dX3_doStatement_137
        · have hw := hw.2 (z0_ne g_r108 c113)
          refine lv_aload_n C.1 C.2.1 dX3_doStatement_116 rfl (lv_at hl 0 rfl) ?_
          refine k_get (v := .ref (ad 12)) C Wd.1 KX3 _ 0 (cx8 _) (by decide) fl_X3_12 rfl dX3_doStatement_117 ?_
          refine k_get (v := .ref (ad 17)) C Wd.1 KX1 _ 6 (cx12 _) (by decide) fl_X3_84 rfl dX3_doStatement_120 ?_
          refine lv_iload_n C.1 C.2.1 dX3_doStatement_123 rfl (lv_at hl 1 rfl) ?_
          refine k_ialdK (g := (σr65.2.1 17)) C Wd (cx17 _) (tC_at (by decide) rfl) n21_0 (by decide) dX3_doStatement_124 ?_
          have ga124 : rng (σr65.2.1 17 x0) := rngL (fun j => (Wd.2.1).2.1 17 j) n21_0
          refine lv_goto (tgt := 137) C.1 C.2.1 dX3_doStatement_125 (by decide) ?_
          exact k_retKi C hr hlk rfl Wd ⟨_, rfl, ga124, hw⟩ dX3_doStatement_137
    · have hw := hw.2 (z_eq ga21 (show rng 111 from by decide) c26)
      refine lv_bipush (v := zI (-2)) C.1 C.2.1 dX3_doStatement_29 (by decide) ?_
      exact k_retKi C hr hlk rfl Wd ⟨_, rfl, (show rng (-2) from by decide), hw⟩ dX3_doStatement_31
  · have hw := hw.2 (z0_eq g_r5 c8)
    refine lv_iconst (v := zI (-1)) C.1 C.2.1 dX3_doStatement_11 (by decide) ?_
    exact k_retKi C hr hlk rfl Wd ⟨_, rfl, (show rng (-1) from by decide), hw⟩ dX3_doStatement_12
set_option maxHeartbeats 4000000 in
set_option maxRecDepth 100000 in
theorem mk_M_go_8 : ∀ (D : va_G) (ad : Nat → Nat) (ca : Nat → ClassId) (rf : Nat → Nat → Option Nat) (σ : Sg) (hS : rngK σ) (hRF : RFok ad rf) (x0 : Int) (x1 : Int) (g_x0 : rng x0) (g_x1 : rng x1) (K : Sg → Prop) (hw : wp5_M_go σ 8 x0 x1 K) (l : Launch) (sz : Nat), Met l yX3_go (Cond.code yX3_go cX3_go 4 none :: gG) { frames := 4, cells := 0, slots := 0, locals := 147 } (cPre D (tC ca) (wK ad ca rf σ) sz [.ref (ad 8), .int (zI x0), .int (zI x1)]) (va_Qv (fun (u : Sg) => K u ∧ rngK u) (fun u t => cB D (va_A (wK ad ca rf σ) sz) [] (wK ad ca rf u) t) (va_A (wK ad ca rf σ) sz)) 0 0 (va_A (wK ad ca rf σ) sz) := by
  intro D ad ca rf σ hS hRF x0 x1 g_x0 g_x1 K hw l sz
  refine Met.ofW (cc := cX3_go) (maxL := 4) (ret := none) (by decide) rfl ?_
  intro p e s m args below meth c s₁ B hml hv
  obtain ⟨rfl, aks, rfl, Wd⟩ := k_enter hv
  have C : CallFix p m c cX3_go 4 s _ gG RX3 := ⟨B.exec, B.bytes, hml, findClass_of_methodNamed B.named, fun w h => atoms_spec (ws := Cond.code yX3_go cX3_go 4 none :: gG) B.pre w (List.mem_cons_of_mem _ h)⟩
  have hr := B.returns
  have hlk := B.notSynchronized
  generalize va_A (wK ad ca rf σ) s.heap.size = A at Wd ⊢
  replace Wd : wXK D ad ca rf s σ s.heap A s.heap [] := ⟨Wd, hS, hRF⟩
  refine k_locals (Nat.le_of_ble_eq_true rfl) [(0, .ref (ad 8)), (1, .int (zI x0)), (2, .int (zI x1))] rfl (fun ls hl => ?_)
  unfold wp5_M_go at hw
  refine lv_iconst (v := zI 0) C.1 C.2.1 dX3_go_0 (by decide) ?_
  refine lv_istore_n (lv' := [(3, .int (zI 0)), (0, .ref (ad 8)), (1, .int (zI x0)), (2, .int (zI x1))]) C.1 C.2.1 dX3_go_1 rfl hl (by decide) rfl (fun ls hl => ?_)
  replace hl := lv_sub hl [1, 2, 3, 0] rfl
  refine k_lp2 hw (fun (l3_2 : Int) (σ2 : Sg) H locs ls => rng l3_2 ∧ wXK D ad ca rf s σ2 H A s.heap locs ∧ lv_has ls 4 [(0, .ref (ad 8)), (1, .int (zI x0)), (2, .int (zI x1)), (3, .int (zI l3_2))]) (fun (l3_2 : Int) (σ2 : Sg) ls => F0 m 2 ls []) (fun L2 hL2 l3_2 σ2 hw H locs ls hi => ?_) _ _ _ ⟨(show rng 0 from by decide), Wd, lv_sub hl [0, 1, 2, 3] rfl⟩
  obtain ⟨g_l3_2, Wd, hl⟩ := hi
  have hS_σ2 := Wd.2.1
  unfold wp5_M_go_2 at hw
  refine lv_iload_n C.1 C.2.1 dX3_go_2 rfl (lv_at hl 3 rfl) ?_
  refine lv_aload_n C.1 C.2.1 dX3_go_3 rfl (lv_at hl 0 rfl) ?_
  refine k_get (v := .ref (ad 10)) C Wd.1 KX3 _ 5 (cx8 _) (by decide) fl_X3_22 rfl dX3_go_4 ?_
  refine k_alen (v := zI 6) C Wd.1 10 10 (cx10 _) (tC_at (by decide) rfl) rfl dX3_go_7 ?_
  refine lv_icmp_ge (tgt := 41) C.1 C.2.1 dX3_go_8 (by decide) (fun c8 => ?_) (fun c8 => ?_)
  · have hw := hw.1 (z_le (show rng 6 from by decide) g_l3_2 c8)
    refine lv_aload_n C.1 C.2.1 dX3_go_41 rfl (lv_at hl 0 rfl) ?_
    refine lv_iconst (v := zI 0) C.1 C.2.1 dX3_go_42 (by decide) ?_
    refine k_putK (v := 0) C Wd KX3 8 2 (by decide) (cx8 _) rfl (by decide) fl_X3_28 rfl rfl rfl (Nat.le_of_ble_eq_true rfl) (show rng 0 from by decide) dX3_go_43 (fun H locs Wd => ?_)
    refine lv_aload_n C.1 C.2.1 dX3_go_46 rfl (lv_at hl 0 rfl) ?_
    refine k_get (v := .ref (ad 12)) C Wd.1 KX3 _ 0 (cx8 _) (by decide) fl_X3_12 rfl dX3_go_47 ?_
    refine k_get (v := .int (zI (σ2.1 12 1))) C Wd.1 KX1 _ 1 (cx12 _) (by decide) fl_X3_32 rfl dX3_go_50 ?_
    refine k_cut1 (fun (s0_61 : Int) H locs ls => rng s0_61 ∧ wp5_M_go_61 K 8 σ2 s0_61 ∧ wXK D ad ca rf s (pU σ2 8 2 0) H A s.heap locs ∧ lv_has ls 4 [(0, .ref (ad 8))]) (fun (s0_61 : Int) ls => F0 m 61 ls [.int (zI s0_61)]) (fun s0_61 H locs ls hi => ?_) (fun J61 => ?_)
    · obtain ⟨g_s0_61, hw, Wd, hl⟩ := hi
      unfold wp5_M_go_61 at hw
      refine lv_istore_n (lv' := [(3, .int (zI s0_61)), (0, .ref (ad 8))]) C.1 C.2.1 dX3_go_61 rfl hl (by decide) rfl (fun ls hl => ?_)
      replace hl := lv_sub hl [1, 0] rfl
      refine lv_aload_n C.1 C.2.1 dX3_go_62 rfl (lv_at hl 0 rfl) ?_
      refine lv_iconst (v := zI 0) C.1 C.2.1 dX3_go_63 (by decide) ?_
      refine k_putK (v := 0) C Wd KX3 8 3 (by decide) (cx8 _) rfl (by decide) fl_X3_35 rfl rfl rfl (Nat.le_of_ble_eq_true rfl) (show rng 0 from by decide) dX3_go_64 (fun H locs Wd => ?_)
      refine k_lp2 hw (fun (l3_67 : Int) (σ67 : Sg) H locs ls => rng l3_67 ∧ wXK D ad ca rf s σ67 H A s.heap locs ∧ lv_has ls 4 [(0, .ref (ad 8)), (3, .int (zI l3_67))]) (fun (l3_67 : Int) (σ67 : Sg) ls => F0 m 67 ls []) (fun L67 hL67 l3_67 σ67 hw H locs ls hi => ?_) _ _ _ ⟨g_s0_61, Wd, lv_sub hl [0, 1] rfl⟩
      obtain ⟨g_l3_67, Wd, hl⟩ := hi
      have hS_σ67 := Wd.2.1
      unfold wp5_M_go_67 at hw
      refine lv_aload_n C.1 C.2.1 dX3_go_67 rfl (lv_at hl 0 rfl) ?_
      refine k_get (v := .int (zI (σ67.1 8 3))) C Wd.1 KX3 _ 3 (cx8 _) (by decide) fl_X3_35 rfl dX3_go_68 ?_
      refine lv_bipush (v := zI 100) C.1 C.2.1 dX3_go_71 (by decide) ?_
      refine k_cut0 (fun H locs ls => wp5_M_go_99 K 8 l3_67 σ67 ∧ wXK D ad ca rf s σ67 H A s.heap locs ∧ lv_has ls 4 [(0, .ref (ad 8)), (3, .int (zI l3_67))]) (fun  ls => F0 m 99 ls []) (fun  H locs ls hi => ?_) (fun J99 => ?_)
      · obtain ⟨hw, Wd, hl⟩ := hi
        unfold wp5_M_go_99 at hw
        refine lv_aload_n C.1 C.2.1 dX3_go_99 rfl (lv_at hl 0 rfl) ?_
        refine lv_iload_n C.1 C.2.1 dX3_go_100 rfl (lv_at hl 1 rfl) ?_
        refine lv_bipush (v := zI (-2)) C.1 C.2.1 dX3_go_101 (by decide) ?_
        refine lv_icmp_ne (tgt := 110) C.1 C.2.1 dX3_go_103 (by decide) (fun c103 => ?_) (fun c103 => ?_)
        · have hw := hw.1 (z_ne g_l3_67 (show rng (-2) from by decide) c103)
          refine lv_iload_n C.1 C.2.1 dX3_go_110 rfl (lv_at hl 1 rfl) ?_
          refine lv_if_lt (tgt := 118) C.1 C.2.1 dX3_go_111 (by decide) (fun c111 => ?_) (fun c111 => ?_)
          · have hw := hw.1 (z0_lt g_l3_67 c111)
            refine lv_iconst (v := zI 0) C.1 C.2.1 dX3_go_118 (by decide) ?_
            refine k_putK (v := 0) C Wd KX3 8 4 (by decide) (cx8 _) rfl (by decide) fl_X3_42 rfl rfl rfl (Nat.le_of_ble_eq_true rfl) (show rng 0 from by decide) dX3_go_119 (fun H locs Wd => ?_)
            exact k_retKv C hr hlk Wd hw dX3_go_122
          · have hw := hw.2 (z0_nlt g_l3_67 c111)
            refine lv_iconst (v := zI 2) C.1 C.2.1 dX3_go_114 (by decide) ?_
            refine lv_goto (tgt := 119) C.1 C.2.1 dX3_go_115 (by decide) ?_
            refine k_putK (v := 2) C Wd KX3 8 4 (by decide) (cx8 _) rfl (by decide) fl_X3_42 rfl rfl rfl (Nat.le_of_ble_eq_true rfl) (show rng 2 from by decide) dX3_go_119 (fun H locs Wd => ?_)
            exact k_retKv C hr hlk Wd hw dX3_go_122
        · have hw := hw.2 (z_eq g_l3_67 (show rng (-2) from by decide) c103)
          refine lv_iconst (v := zI 1) C.1 C.2.1 dX3_go_106 (by decide) ?_
          refine lv_goto (tgt := 119) C.1 C.2.1 dX3_go_107 (by decide) ?_
          refine k_putK (v := 1) C Wd KX3 8 4 (by decide) (cx8 _) rfl (by decide) fl_X3_42 rfl rfl rfl (Nat.le_of_ble_eq_true rfl) (show rng 1 from by decide) dX3_go_119 (fun H locs Wd => ?_)
          exact k_retKv C hr hlk Wd hw dX3_go_122
      refine lv_icmp_ge (tgt := 99) C.1 C.2.1 dX3_go_73 (by decide) (fun c73 => ?_) (fun c73 => ?_)
      · have hw := hw.1 (z_le (show rng 100 from by decide) (hS_σ67.1 8 3) c73)
        exact J99  _ _ _ ⟨hw, Wd, lv_sub hl [0, 1] rfl⟩
      · have hw := hw.2 (z_nle (show rng 100 from by decide) (hS_σ67.1 8 3) c73)
        refine lv_iload_n C.1 C.2.1 dX3_go_76 rfl (lv_at hl 1 rfl) ?_
        refine lv_if_lt (tgt := 99) C.1 C.2.1 dX3_go_77 (by decide) (fun c77 => ?_) (fun c77 => ?_)
        · have hw := hw.1 (z0_lt g_l3_67 c77)
          exact J99  _ _ _ ⟨hw, Wd, lv_sub hl [0, 1] rfl⟩
        · have hw := hw.2 (z0_nlt g_l3_67 c77)
          refine lv_aload_n C.1 C.2.1 dX3_go_80 rfl (lv_at hl 0 rfl) ?_
          refine lv_iload_n C.1 C.2.1 dX3_go_81 rfl (lv_at hl 1 rfl) ?_
          refine k_cKi Wd (k_runVK (rest := []) C aks Wd cs_X3_38 (mk_M_doStatement_8 D ad ca rf σ67 Wd.2.1 Wd.2.2 l3_67 g_l3_67 _ hw l _) (cx8 _) rfl rfl rfl rfl ⟨(Nat.le_of_ble_eq_true rfl), (Nat.le_of_ble_eq_true rfl)⟩ hl.1 rfl rfl (Nat.le_of_ble_eq_true rfl) ⟨(Nat.le_of_ble_eq_true rfl), (Nat.le_of_ble_eq_true rfl)⟩ dX3_go_82) (fun r82 σr82 H locs g_r82 hw Wd => ?_)
          have hS_σr82 := Wd.2.1
          refine lv_istore_n (lv' := [(3, .int (zI r82)), (0, .ref (ad 8))]) C.1 C.2.1 dX3_go_85 rfl hl (by decide) rfl (fun ls hl => ?_)
          replace hl := lv_sub hl [1, 0] rfl
          refine lv_aload_n C.1 C.2.1 dX3_go_86 rfl (lv_at hl 0 rfl) ?_
          refine lv_dup C.1 C.2.1 dX3_go_87 rfl ?_
          refine k_get (v := .int (zI (σr82.1 8 3))) C Wd.1 KX3 _ 3 (cx8 _) (by decide) fl_X3_35 rfl dX3_go_88 ?_
          refine lv_iconst (v := zI 1) C.1 C.2.1 dX3_go_91 (by decide) ?_
          refine k_iadd (v := zI ((σr82.1 8 3) + 1)) C (zI_iadd _ _) dX3_go_92 ?_
          obtain ⟨g93_10, hw⟩ := hw
          refine k_putK (v := ((σr82.1 8 3) + 1)) C Wd KX3 8 3 (by decide) (cx8 _) rfl (by decide) fl_X3_35 rfl rfl rfl (Nat.le_of_ble_eq_true rfl) g93_10 dX3_go_93 (fun H locs Wd => ?_)
          refine lv_goto (tgt := 67) C.1 C.2.1 dX3_go_96 (by decide) ?_
          exact hL67 _ _ hw _ _ _ ⟨g_r82, Wd, lv_sub hl [0, 1] rfl⟩
    refine lv_if_le (tgt := 60) C.1 C.2.1 dX3_go_53 (by decide) (fun c53 => ?_) (fun c53 => ?_)
    · have hw := hw.1 (z0_le (hS_σ2.1 12 1) c53)
      refine lv_iconst (v := zI (-1)) C.1 C.2.1 dX3_go_60 (by decide) ?_
      exact J61 (-1) _ _ _ ⟨(show rng (-1) from by decide), hw, Wd, lv_sub hl [0] rfl⟩
    · have hw := hw.2 (z0_nle (hS_σ2.1 12 1) c53)
      refine lv_iconst (v := zI 0) C.1 C.2.1 dX3_go_56 (by decide) ?_
      refine lv_goto (tgt := 61) C.1 C.2.1 dX3_go_57 (by decide) ?_
      exact J61 0 _ _ _ ⟨(show rng 0 from by decide), hw, Wd, lv_sub hl [0] rfl⟩
  · have hw := hw.2 (z_nle (show rng 6 from by decide) g_l3_2 c8)
    refine lv_aload_n C.1 C.2.1 dX3_go_11 rfl (lv_at hl 0 rfl) ?_
    refine k_get (v := .ref (ad 10)) C Wd.1 KX3 _ 5 (cx8 _) (by decide) fl_X3_22 rfl dX3_go_12 ?_
    refine lv_iload_n C.1 C.2.1 dX3_go_15 rfl (lv_at hl 3 rfl) ?_
    refine lv_iload_n C.1 C.2.1 dX3_go_16 rfl (lv_at hl 3 rfl) ?_
    refine lv_if_ne (tgt := 24) C.1 C.2.1 dX3_go_17 (by decide) (fun c17 => ?_) (fun c17 => ?_)
    · have hw := hw.1 (z0_ne g_l3_2 c17)
      refine lv_iload_n C.1 C.2.1 dX3_go_24 rfl (lv_at hl 3 rfl) ?_
      refine lv_iconst (v := zI 1) C.1 C.2.1 dX3_go_25 (by decide) ?_
      refine lv_icmp_ne (tgt := 33) C.1 C.2.1 dX3_go_26 (by decide) (fun c26 => ?_) (fun c26 => ?_)
      · have hw := hw.1 (z_ne g_l3_2 (show rng 1 from by decide) c26)
        refine lv_iconst (v := zI 0) C.1 C.2.1 dX3_go_33 (by decide) ?_
        obtain ⟨n34_0, hw⟩ := hw
        refine k_iastF (g := (σ2.2.1 10)) (i := l3_2) (v := 0) C Wd 10 (by decide) (cx10 _) (fun f => cx10a _ f) (tC_at (by decide) rfl) n34_0 (by decide) (ruZ (fun j => Wd.2.1.2.1 10 j) (show rng 0 from by decide)) dX3_go_34 (fun H locs Wd => ?_)
        refine lv_iinc (v := zI (l3_2 + 1)) (lv' := [(3, .int (zI (l3_2 + 1))), (0, .ref (ad 8)), (1, .int (zI x0)), (2, .int (zI x1))]) C.1 C.2.1 dX3_go_35 hl (k := 3) rfl (zI_inc _ _ (by decide)) (by decide) rfl (fun ls hl => ?_)
        replace hl := lv_sub hl [1, 2, 3, 0] rfl
        refine lv_goto (tgt := 2) C.1 C.2.1 dX3_go_38 (by decide) ?_
        obtain ⟨g38_11, hw⟩ := hw
        exact hL2 _ _ hw _ _ _ ⟨g38_11, Wd, lv_sub hl [0, 1, 2, 3] rfl⟩
      · have hw := hw.2 (z_eq g_l3_2 (show rng 1 from by decide) c26)
        refine lv_iload_n C.1 C.2.1 dX3_go_29 rfl (lv_at hl 2 rfl) ?_
        refine lv_goto (tgt := 34) C.1 C.2.1 dX3_go_30 (by decide) ?_
        obtain ⟨n34_0, hw⟩ := hw
        refine k_iastF (g := (σ2.2.1 10)) (i := l3_2) (v := x1) C Wd 10 (by decide) (cx10 _) (fun f => cx10a _ f) (tC_at (by decide) rfl) n34_0 (by decide) (ruZ (fun j => Wd.2.1.2.1 10 j) g_x1) dX3_go_34 (fun H locs Wd => ?_)
        refine lv_iinc (v := zI (l3_2 + 1)) (lv' := [(3, .int (zI (l3_2 + 1))), (0, .ref (ad 8)), (1, .int (zI x0)), (2, .int (zI x1))]) C.1 C.2.1 dX3_go_35 hl (k := 3) rfl (zI_inc _ _ (by decide)) (by decide) rfl (fun ls hl => ?_)
        replace hl := lv_sub hl [1, 2, 3, 0] rfl
        refine lv_goto (tgt := 2) C.1 C.2.1 dX3_go_38 (by decide) ?_
        obtain ⟨g38_12, hw⟩ := hw
        exact hL2 _ _ hw _ _ _ ⟨g38_12, Wd, lv_sub hl [0, 1, 2, 3] rfl⟩
    · have hw := hw.2 (z0_eq g_l3_2 c17)
      refine lv_iload_n C.1 C.2.1 dX3_go_20 rfl (lv_at hl 1 rfl) ?_
      refine lv_goto (tgt := 34) C.1 C.2.1 dX3_go_21 (by decide) ?_
      obtain ⟨n34_0, hw⟩ := hw
      refine k_iastF (g := (σ2.2.1 10)) (i := l3_2) (v := x0) C Wd 10 (by decide) (cx10 _) (fun f => cx10a _ f) (tC_at (by decide) rfl) n34_0 (by decide) (ruZ (fun j => Wd.2.1.2.1 10 j) g_x0) dX3_go_34 (fun H locs Wd => ?_)
      refine lv_iinc (v := zI (l3_2 + 1)) (lv' := [(3, .int (zI (l3_2 + 1))), (0, .ref (ad 8)), (1, .int (zI x0)), (2, .int (zI x1))]) C.1 C.2.1 dX3_go_35 hl (k := 3) rfl (zI_inc _ _ (by decide)) (by decide) rfl (fun ls hl => ?_)
      replace hl := lv_sub hl [1, 2, 3, 0] rfl
      refine lv_goto (tgt := 2) C.1 C.2.1 dX3_go_38 (by decide) ?_
      obtain ⟨g38_13, hw⟩ := hw
      exact hL2 _ _ hw _ _ _ ⟨g38_13, Wd, lv_sub hl [0, 1, 2, 3] rfl⟩
set_option maxHeartbeats 4000000 in
set_option maxRecDepth 100000 in
theorem mk_M_output_8 : ∀ (D : va_G) (ad : Nat → Nat) (ca : Nat → ClassId) (rf : Nat → Nat → Option Nat) (σ : Sg) (hS : rngK σ) (hRF : RFok ad rf) (x0 : Int) (g_x0 : rng x0) (K : Int → Prop) (hw : wp5_M_output σ 8 x0 K) (l : Launch) (sz : Nat), Met l yX3_output (Cond.code yX3_output cX3_output 2 (some .int) :: gG) { frames := 1, cells := 0, slots := 0, locals := 64 } (cPre D (tC ca) (wK ad ca rf σ) sz [.ref (ad 8), .int (zI x0)]) (vp_Si (fun r => ∃ x : Int, r = zI x ∧ rng x ∧ K x)) 0 0 (fun _ => False) := by
  intro D ad ca rf σ hS hRF x0 g_x0 K hw l sz
  refine Met.ofW (cc := cX3_output) (maxL := 2) (ret := (some .int)) (by decide) rfl ?_
  intro p e s m args below meth c s₁ B hml hv
  obtain ⟨rfl, aks, rfl, Wd⟩ := k_enter hv
  have C : CallFix p m c cX3_output 2 s _ gG RX3 := ⟨B.exec, B.bytes, hml, findClass_of_methodNamed B.named, fun w h => atoms_spec (ws := Cond.code yX3_output cX3_output 2 (some .int) :: gG) B.pre w (List.mem_cons_of_mem _ h)⟩
  have hr := B.returns
  have hlk := B.notSynchronized
  obtain ⟨A, Wd⟩ : ∃ A, wXK D ad ca rf s σ s.heap A s.heap [] := ⟨_, Wd, hS, hRF⟩
  refine k_locals (Nat.le_of_ble_eq_true rfl) [(0, .ref (ad 8)), (1, .int (zI x0))] rfl (fun ls hl => ?_)
  unfold wp5_M_output at hw
  refine lv_iload_n C.1 C.2.1 dX3_output_0 rfl (lv_at hl 1 rfl) ?_
  refine lv_if_lt (tgt := 30) C.1 C.2.1 dX3_output_1 (by decide) (fun c1 => ?_) (fun c1 => ?_)
  · have hw := hw.1 (z0_lt g_x0 c1)
    refine lv_iconst (v := zI (-1)) C.1 C.2.1 dX3_output_30 (by decide) ?_
    exact k_zretP C hr hlk rfl ⟨_, rfl, (show rng (-1) from by decide), hw⟩ dX3_output_31
  · have hw := hw.2 (z0_nlt g_x0 c1)
    refine lv_iload_n C.1 C.2.1 dX3_output_4 rfl (lv_at hl 1 rfl) ?_
    refine lv_aload_n C.1 C.2.1 dX3_output_5 rfl (lv_at hl 0 rfl) ?_
    refine k_get (v := .int (zI (σ.1 8 2))) C Wd.1 KX3 _ 2 (cx8 _) (by decide) fl_X3_28 rfl dX3_output_6 ?_
    refine lv_icmp_ge (tgt := 30) C.1 C.2.1 dX3_output_9 (by decide) (fun c9 => ?_) (fun c9 => ?_)
    · have hw := hw.1 (z_le (hS.1 8 2) g_x0 c9)
      refine lv_iconst (v := zI (-1)) C.1 C.2.1 dX3_output_30 (by decide) ?_
      exact k_zretP C hr hlk rfl ⟨_, rfl, (show rng (-1) from by decide), hw⟩ dX3_output_31
    · have hw := hw.2 (z_nle (hS.1 8 2) g_x0 c9)
      refine lv_iload_n C.1 C.2.1 dX3_output_12 rfl (lv_at hl 1 rfl) ?_
      refine lv_aload_n C.1 C.2.1 dX3_output_13 rfl (lv_at hl 0 rfl) ?_
      refine k_get (v := .ref (ad 9)) C Wd.1 KX3 _ 1 (cx8 _) (by decide) fl_X3_18 rfl dX3_output_14 ?_
      refine k_alen (v := zI 100) C Wd.1 9 9 (cx9 _) (tC_at (by decide) rfl) rfl dX3_output_17 ?_
      refine lv_icmp_ge (tgt := 30) C.1 C.2.1 dX3_output_18 (by decide) (fun c18 => ?_) (fun c18 => ?_)
      · have hw := hw.1 (z_le (show rng 100 from by decide) g_x0 c18)
        refine lv_iconst (v := zI (-1)) C.1 C.2.1 dX3_output_30 (by decide) ?_
        exact k_zretP C hr hlk rfl ⟨_, rfl, (show rng (-1) from by decide), hw⟩ dX3_output_31
      · have hw := hw.2 (z_nle (show rng 100 from by decide) g_x0 c18)
        refine lv_aload_n C.1 C.2.1 dX3_output_21 rfl (lv_at hl 0 rfl) ?_
        refine k_get (v := .ref (ad 9)) C Wd.1 KX3 _ 1 (cx8 _) (by decide) fl_X3_18 rfl dX3_output_22 ?_
        refine lv_iload_n C.1 C.2.1 dX3_output_25 rfl (lv_at hl 1 rfl) ?_
        obtain ⟨n26_0, hw⟩ := hw
        refine k_ialdK (g := (σ.2.1 9)) C Wd (cx9 _) (tC_at (by decide) rfl) n26_0 (by decide) dX3_output_26 ?_
        have ga26 : rng (σ.2.1 9 x0) := rngL (fun j => (Wd.2.1).2.1 9 j) n26_0
        refine lv_goto (tgt := 31) C.1 C.2.1 dX3_output_27 (by decide) ?_
        exact k_zretP C hr hlk rfl ⟨_, rfl, ga26, hw⟩ dX3_output_31
set_option maxHeartbeats 4000000 in
set_option maxRecDepth 100000 in
theorem mk_M_tell_8 : ∀ (D : va_G) (ad : Nat → Nat) (ca : Nat → ClassId) (rf : Nat → Nat → Option Nat) (σ : Sg) (hS : rngK σ) (hRF : RFok ad rf) (x0 : Int) (g_x0 : rng x0) (K : Int → Prop) (hw : wp5_M_tell σ 8 x0 K) (l : Launch) (sz : Nat), Met l yX3_tell (Cond.code yX3_tell cX3_tell 2 (some .int) :: gG) { frames := 2, cells := 0, slots := 0, locals := 85 } (cPre D (tC ca) (wK ad ca rf σ) sz [.ref (ad 8), .int (zI x0)]) (vp_Si (fun r => ∃ x : Int, r = zI x ∧ rng x ∧ K x)) 0 0 (fun _ => False) := by
  intro D ad ca rf σ hS hRF x0 g_x0 K hw l sz
  refine Met.ofW (cc := cX3_tell) (maxL := 2) (ret := (some .int)) (by decide) rfl ?_
  intro p e s m args below meth c s₁ B hml hv
  obtain ⟨rfl, aks, rfl, Wd⟩ := k_enter hv
  have C : CallFix p m c cX3_tell 2 s _ gG RX3 := ⟨B.exec, B.bytes, hml, findClass_of_methodNamed B.named, fun w h => atoms_spec (ws := Cond.code yX3_tell cX3_tell 2 (some .int) :: gG) B.pre w (List.mem_cons_of_mem _ h)⟩
  have hr := B.returns
  have hlk := B.notSynchronized
  obtain ⟨A, Wd⟩ : ∃ A, wXK D ad ca rf s σ s.heap A s.heap [] := ⟨_, Wd, hS, hRF⟩
  refine k_locals (Nat.le_of_ble_eq_true rfl) [(0, .ref (ad 8)), (1, .int (zI x0))] rfl (fun ls hl => ?_)
  unfold wp5_M_tell at hw
  refine lv_iload_n C.1 C.2.1 dX3_tell_0 rfl (lv_at hl 1 rfl) ?_
  refine lv_if_ne (tgt := 9) C.1 C.2.1 dX3_tell_1 (by decide) (fun c1 => ?_) (fun c1 => ?_)
  · have hw := hw.1 (z0_ne g_x0 c1)
    refine lv_iload_n C.1 C.2.1 dX3_tell_9 rfl (lv_at hl 1 rfl) ?_
    refine lv_iconst (v := zI 1) C.1 C.2.1 dX3_tell_10 (by decide) ?_
    refine lv_icmp_ne (tgt := 19) C.1 C.2.1 dX3_tell_11 (by decide) (fun c11 => ?_) (fun c11 => ?_)
    · have hw := hw.1 (z_ne g_x0 (show rng 1 from by decide) c11)
      refine lv_iload_n C.1 C.2.1 dX3_tell_19 rfl (lv_at hl 1 rfl) ?_
      refine lv_iconst (v := zI 2) C.1 C.2.1 dX3_tell_20 (by decide) ?_
      refine lv_icmp_ne (tgt := 29) C.1 C.2.1 dX3_tell_21 (by decide) (fun c21 => ?_) (fun c21 => ?_)
      · have hw := hw.1 (z_ne g_x0 (show rng 2 from by decide) c21)
        refine lv_iload_n C.1 C.2.1 dX3_tell_29 rfl (lv_at hl 1 rfl) ?_
        refine lv_bipush (v := zI 10) C.1 C.2.1 dX3_tell_30 (by decide) ?_
        refine k_cut0 (fun H locs ls => wp5_M_tell_51 K σ 8 x0 ∧ wXK D ad ca rf s σ H A s.heap locs ∧ H = s.heap ∧ locs = [] ∧ lv_has ls 2 [(0, .ref (ad 8)), (1, .int (zI x0))]) (fun  ls => F0 m 51 ls []) (fun  H locs ls hi => ?_) (fun J51 => ?_)
        · obtain ⟨hw, Wd, rfl, rfl, hl⟩ := hi
          unfold wp5_M_tell_51 at hw
          refine lv_iload_n C.1 C.2.1 dX3_tell_51 rfl (lv_at hl 1 rfl) ?_
          refine lv_bipush (v := zI 100) C.1 C.2.1 dX3_tell_52 (by decide) ?_
          refine lv_icmp_lt (tgt := 68) C.1 C.2.1 dX3_tell_54 (by decide) (fun c54 => ?_) (fun c54 => ?_)
          · have hw := hw.1 (z_lt g_x0 (show rng 100 from by decide) c54)
            refine lv_iconst (v := zI (-1)) C.1 C.2.1 dX3_tell_68 (by decide) ?_
            exact k_zretP C hr hlk rfl ⟨_, rfl, (show rng (-1) from by decide), hw⟩ dX3_tell_69
          · have hw := hw.2 (z_nlt g_x0 (show rng 100 from by decide) c54)
            refine lv_aload_n C.1 C.2.1 dX3_tell_57 rfl (lv_at hl 0 rfl) ?_
            refine lv_iload_n C.1 C.2.1 dX3_tell_58 rfl (lv_at hl 1 rfl) ?_
            refine lv_bipush (v := zI 100) C.1 C.2.1 dX3_tell_59 (by decide) ?_
            refine k_isub (v := zI (x0 - 100)) C (zI_isub _ _) dX3_tell_61 ?_
            obtain ⟨g62_1, hw⟩ := hw
            refine k_pi (k_runVK (rest := []) C aks Wd cs_X3_45 (mk_M_output_8 D ad ca rf σ Wd.2.1 Wd.2.2 (x0 - 100) g62_1 _ hw l _) (cx8 _) rfl rfl rfl rfl ⟨(Nat.le_of_ble_eq_true rfl), (Nat.le_of_ble_eq_true rfl)⟩ hl.1 rfl rfl (Nat.le_of_ble_eq_true rfl) ⟨(Nat.le_of_ble_eq_true rfl), (Nat.le_of_ble_eq_true rfl)⟩ dX3_tell_62) (fun y62 hy => ?_)
            obtain ⟨r62, rfl, g_r62, hw⟩ := hy
            refine lv_goto (tgt := 69) C.1 C.2.1 dX3_tell_65 (by decide) ?_
            exact k_zretP C hr hlk rfl ⟨_, rfl, g_r62, hw⟩ dX3_tell_69
        refine lv_icmp_lt (tgt := 51) C.1 C.2.1 dX3_tell_32 (by decide) (fun c32 => ?_) (fun c32 => ?_)
        · have hw := hw.1 (z_lt g_x0 (show rng 10 from by decide) c32)
          exact J51  _ _ _ ⟨hw, Wd, rfl, rfl, lv_sub hl [0, 1] rfl⟩
        · have hw := hw.2 (z_nlt g_x0 (show rng 10 from by decide) c32)
          refine lv_iload_n C.1 C.2.1 dX3_tell_35 rfl (lv_at hl 1 rfl) ?_
          refine lv_bipush (v := zI 16) C.1 C.2.1 dX3_tell_36 (by decide) ?_
          refine lv_icmp_ge (tgt := 51) C.1 C.2.1 dX3_tell_38 (by decide) (fun c38 => ?_) (fun c38 => ?_)
          · have hw := hw.1 (z_le (show rng 16 from by decide) g_x0 c38)
            exact J51  _ _ _ ⟨hw, Wd, rfl, rfl, lv_sub hl [0, 1] rfl⟩
          · have hw := hw.2 (z_nle (show rng 16 from by decide) g_x0 c38)
            refine lv_aload_n C.1 C.2.1 dX3_tell_41 rfl (lv_at hl 0 rfl) ?_
            refine k_get (v := .ref (ad 10)) C Wd.1 KX3 _ 5 (cx8 _) (by decide) fl_X3_22 rfl dX3_tell_42 ?_
            refine lv_iload_n C.1 C.2.1 dX3_tell_45 rfl (lv_at hl 1 rfl) ?_
            refine lv_bipush (v := zI 10) C.1 C.2.1 dX3_tell_46 (by decide) ?_
            refine k_isub (v := zI (x0 - 10)) C (zI_isub _ _) dX3_tell_48 ?_
            obtain ⟨n49_0, hw⟩ := hw
            refine k_ialdK (g := (σ.2.1 10)) C Wd (cx10 _) (tC_at (by decide) rfl) n49_0 (by decide) dX3_tell_49 ?_
            have ga49 : rng (σ.2.1 10 (x0 - 10)) := rngL (fun j => (Wd.2.1).2.1 10 j) n49_0
            exact k_zretP C hr hlk rfl ⟨_, rfl, ga49, hw⟩ dX3_tell_50
      · have hw := hw.2 (z_eq g_x0 (show rng 2 from by decide) c21)
        refine lv_aload_n C.1 C.2.1 dX3_tell_24 rfl (lv_at hl 0 rfl) ?_
        refine k_get (v := .int (zI (σ.1 8 2))) C Wd.1 KX3 _ 2 (cx8 _) (by decide) fl_X3_28 rfl dX3_tell_25 ?_
        exact k_zretP C hr hlk rfl ⟨_, rfl, (hS.1 8 2), hw⟩ dX3_tell_28
    · have hw := hw.2 (z_eq g_x0 (show rng 1 from by decide) c11)
      refine lv_aload_n C.1 C.2.1 dX3_tell_14 rfl (lv_at hl 0 rfl) ?_
      refine k_get (v := .int (zI (σ.1 8 3))) C Wd.1 KX3 _ 3 (cx8 _) (by decide) fl_X3_35 rfl dX3_tell_15 ?_
      exact k_zretP C hr hlk rfl ⟨_, rfl, (hS.1 8 3), hw⟩ dX3_tell_18
  · have hw := hw.2 (z0_eq g_x0 c1)
    refine lv_aload_n C.1 C.2.1 dX3_tell_4 rfl (lv_at hl 0 rfl) ?_
    refine k_get (v := .int (zI (σ.1 8 4))) C Wd.1 KX3 _ 4 (cx8 _) (by decide) fl_X3_42 rfl dX3_tell_5 ?_
    exact k_zretP C hr hlk rfl ⟨_, rfl, (hS.1 8 4), hw⟩ dX3_tell_8
set_option maxHeartbeats 4000000 in
set_option maxRecDepth 100000 in
theorem mk_S_run : ∀ (D : va_G) (ad : Nat → Nat) (ca : Nat → ClassId) (rf : Nat → Nat → Option Nat) (σ : Sg) (hS : rngK σ) (hRF : RFok ad rf) (x0 : Int) (x1 : Int) (x2 : Int) (x3 : Int) (g_x0 : rng x0) (g_x1 : rng x1) (g_x2 : rng x2) (g_x3 : rng x3) (K : Int → Sg → Prop) (hw : wp5_S_run σ x0 x1 x2 x3 K) (l : Launch) (sz : Nat), Met l yX11_run (Cond.code yX11_run cX11_run 6 (some .int) :: gG) { frames := 5, cells := 0, slots := 0, locals := 170 } (cPre D (tC ca) (wK ad ca rf σ) sz [.ref (ad 0), .int (zI x0), .int (zI x1), .int (zI x2), .int (zI x3)]) (va_Qi (fun (r : Int32) (u : Sg) => (∃ x : Int, r = zI x ∧ rng x ∧ K x u) ∧ rngK u) (fun u t => cB D (va_A (wK ad ca rf σ) sz) [] (wK ad ca rf u) t) (va_A (wK ad ca rf σ) sz)) 0 0 (va_A (wK ad ca rf σ) sz) := by
  intro D ad ca rf σ hS hRF x0 x1 x2 x3 g_x0 g_x1 g_x2 g_x3 K hw l sz
  refine Met.ofW (cc := cX11_run) (maxL := 6) (ret := (some .int)) (by decide) rfl ?_
  intro p e s m args below meth c s₁ B hml hv
  obtain ⟨rfl, aks, rfl, Wd⟩ := k_enter hv
  have C : CallFix p m c cX11_run 6 s _ gG RX11 := ⟨B.exec, B.bytes, hml, findClass_of_methodNamed B.named, fun w h => atoms_spec (ws := Cond.code yX11_run cX11_run 6 (some .int) :: gG) B.pre w (List.mem_cons_of_mem _ h)⟩
  have hr := B.returns
  have hlk := B.notSynchronized
  generalize va_A (wK ad ca rf σ) s.heap.size = A at Wd ⊢
  replace Wd : wXK D ad ca rf s σ s.heap A s.heap [] := ⟨Wd, hS, hRF⟩
  refine k_locals (Nat.le_of_ble_eq_true rfl) [(0, .ref (ad 0)), (1, .int (zI x0)), (2, .int (zI x1)), (3, .int (zI x2)), (4, .int (zI x3))] rfl (fun ls hl => ?_)
  unfold wp5_S_run at hw
  refine lv_aload_n C.1 C.2.1 dX11_run_0 rfl (lv_at hl 0 rfl) ?_
  refine lv_iload_n C.1 C.2.1 dX11_run_1 rfl (lv_at hl 1 rfl) ?_
  refine k_pq (k_runVK (rest := []) C aks Wd cs_X11_77 (mk_S_slotAt D ad ca rf σ Wd.2.1 Wd.2.2 x0 g_x0 _ hw l _) (cx0 _) rfl rfl rfl rfl ⟨(Nat.le_of_ble_eq_true rfl), (Nat.le_of_ble_eq_true rfl)⟩ hl.1 rfl rfl (Nat.le_of_ble_eq_true rfl) ⟨(Nat.le_of_ble_eq_true rfl), (Nat.le_of_ble_eq_true rfl)⟩ dX11_run_2) (fun y2 hy => ?_)
  obtain ⟨r2, rfl, hw⟩ := hy
  by_cases c2 : r2 < 0
  · have hw := hw.1 c2
    rw [rfO_null c2]
    show W p l e _ s m _ below meth c _ _ _ _ _ (F0 m _ ls (.null :: []))
    refine lv_astoreN (lv' := [(5, .null), (0, .ref (ad 0)), (1, .int (zI x0)), (2, .int (zI x1)), (3, .int (zI x2)), (4, .int (zI x3))]) C.1 C.2.1 dX11_run_5 hl (by decide) rfl (fun ls hl => ?_)
    replace hl := lv_sub hl [1, 2, 3, 4, 5, 0] rfl
    refine lv_aloadN C.1 C.2.1 dX11_run_7 (lv_at hl 5 rfl) ?_
    refine lv_ifnullN (tgt := 26) C.1 C.2.1 dX11_run_9 (by decide) ?_
    refine lv_iconst (v := zI (-1)) C.1 C.2.1 dX11_run_26 (by decide) ?_
    exact k_retKi C hr hlk rfl Wd ⟨_, rfl, (show rng (-1) from by decide), hw⟩ dX11_run_27
  · have hw := hw.2 (Int.not_lt.mp c2)
    rw [rfO_nn (Int.not_lt.mp c2)]
    obtain ⟨n2_0, hw⟩ := hw
    show W p l e _ s m _ below meth c _ _ _ _ _ (F0 m _ ls (.ref (ad (rowC r2.toNat)) :: []))
    refine lv_astore (lv' := [(5, .ref (ad (rowC r2.toNat))), (0, .ref (ad 0)), (1, .int (zI x0)), (2, .int (zI x1)), (3, .int (zI x2)), (4, .int (zI x3))]) C.1 C.2.1 dX11_run_5 hl (by decide) rfl (fun ls hl => ?_)
    replace hl := lv_sub hl [1, 2, 3, 4, 5, 0] rfl
    refine lv_aload C.1 C.2.1 dX11_run_7 (lv_at hl 5 rfl) ?_
    refine lv_ifnull C.1 C.2.1 dX11_run_9 ?_
    refine lv_iload_n C.1 C.2.1 dX11_run_12 rfl (lv_at hl 2 rfl) ?_
    refine k_pi (k_runS (rest := []) C aks Wd.1 cs_X11_133 (mk_S_isWord D x1 g_x1 _ hw l _) [] rfl (by decide) [] rfl rfl rfl ⟨(Nat.le_of_ble_eq_true rfl), (Nat.le_of_ble_eq_true rfl)⟩ hl.1 rfl rfl (Nat.le_of_ble_eq_true rfl) ⟨(Nat.le_of_ble_eq_true rfl), (Nat.le_of_ble_eq_true rfl)⟩ dX11_run_13) (fun y13 hy => ?_)
    obtain ⟨r13, rfl, g_r13, hw⟩ := hy
    refine lv_if_eq (tgt := 26) C.1 C.2.1 dX11_run_16 (by decide) (fun c16 => ?_) (fun c16 => ?_)
    · have hw := hw.1 (z0_eq g_r13 c16)
      refine lv_iconst (v := zI (-1)) C.1 C.2.1 dX11_run_26 (by decide) ?_
      exact k_retKi C hr hlk rfl Wd ⟨_, rfl, (show rng (-1) from by decide), hw⟩ dX11_run_27
    · have hw := hw.2 (z0_ne g_r13 c16)
      refine lv_iload_n C.1 C.2.1 dX11_run_19 rfl (lv_at hl 3 rfl) ?_
      refine k_pi (k_runS (rest := []) C aks Wd.1 cs_X11_133 (mk_S_isWord D x2 g_x2 _ hw l _) [] rfl (by decide) [] rfl rfl rfl ⟨(Nat.le_of_ble_eq_true rfl), (Nat.le_of_ble_eq_true rfl)⟩ hl.1 rfl rfl (Nat.le_of_ble_eq_true rfl) ⟨(Nat.le_of_ble_eq_true rfl), (Nat.le_of_ble_eq_true rfl)⟩ dX11_run_20) (fun y20 hy => ?_)
      obtain ⟨r20, rfl, g_r20, hw⟩ := hy
      refine lv_if_ne (tgt := 28) C.1 C.2.1 dX11_run_23 (by decide) (fun c23 => ?_) (fun c23 => ?_)
      · have hw := hw.1 (z0_ne g_r20 c23)
        refine lv_aload_n C.1 C.2.1 dX11_run_28 rfl (lv_at hl 0 rfl) ?_
        refine k_get (v := .ref (ad 8)) C Wd.1 KX11 _ 4 (cx0 _) (by decide) fl_X11_36 rfl dX11_run_29 ?_
        refine k_get (v := .ref (ad 12)) C Wd.1 KX3 _ 0 (cx8 _) (by decide) fl_X11_121 rfl dX11_run_32 ?_
        refine lv_aload C.1 C.2.1 dX11_run_35 (lv_at hl 5 rfl) ?_
        refine k_cKv Wd (k_runVK (rest := []) C aks Wd cs_X11_125 (mk_F_trace_12 D ad ca rf σ Wd.2.1 Wd.2.2 r2 n2_0 _ hw l _) (cx12 _) rfl rfl rfl rfl ⟨(Nat.le_of_ble_eq_true rfl), (Nat.le_of_ble_eq_true rfl)⟩ hl.1 rfl rfl (Nat.le_of_ble_eq_true rfl) ⟨(Nat.le_of_ble_eq_true rfl), (Nat.le_of_ble_eq_true rfl)⟩ dX11_run_37) (fun σr37 H locs hw Wd => ?_)
        have hS_σr37 := Wd.2.1
        refine lv_aload_n C.1 C.2.1 dX11_run_40 rfl (lv_at hl 0 rfl) ?_
        refine k_get (v := .ref (ad 8)) C Wd.1 KX11 _ 4 (cx0 _) (by decide) fl_X11_36 rfl dX11_run_41 ?_
        refine lv_iload_n C.1 C.2.1 dX11_run_44 rfl (lv_at hl 2 rfl) ?_
        refine lv_iload_n C.1 C.2.1 dX11_run_45 rfl (lv_at hl 3 rfl) ?_
        refine k_cKv Wd (k_runVK (rest := []) C aks Wd cs_X11_136 (mk_M_go_8 D ad ca rf σr37 Wd.2.1 Wd.2.2 x1 x2 g_x1 g_x2 _ hw l _) (cx8 _) rfl rfl rfl rfl ⟨(Nat.le_of_ble_eq_true rfl), (Nat.le_of_ble_eq_true rfl)⟩ hl.1 rfl rfl (Nat.le_of_ble_eq_true rfl) ⟨(Nat.le_of_ble_eq_true rfl), (Nat.le_of_ble_eq_true rfl)⟩ dX11_run_46) (fun σr46 H locs hw Wd => ?_)
        have hS_σr46 := Wd.2.1
        refine lv_aload_n C.1 C.2.1 dX11_run_49 rfl (lv_at hl 0 rfl) ?_
        refine k_get (v := .ref (ad 8)) C Wd.1 KX11 _ 4 (cx0 _) (by decide) fl_X11_36 rfl dX11_run_50 ?_
        refine lv_iload C.1 C.2.1 dX11_run_53 (lv_at hl 4 rfl) ?_
        refine k_pi (k_runVK (rest := []) C aks Wd cs_X11_140 (mk_M_tell_8 D ad ca rf σr46 Wd.2.1 Wd.2.2 x3 g_x3 _ hw l _) (cx8 _) rfl rfl rfl rfl ⟨(Nat.le_of_ble_eq_true rfl), (Nat.le_of_ble_eq_true rfl)⟩ hl.1 rfl rfl (Nat.le_of_ble_eq_true rfl) ⟨(Nat.le_of_ble_eq_true rfl), (Nat.le_of_ble_eq_true rfl)⟩ dX11_run_55) (fun y55 hy => ?_)
        obtain ⟨r55, rfl, g_r55, hw⟩ := hy
        exact k_retKi C hr hlk rfl Wd ⟨_, rfl, g_r55, hw⟩ dX11_run_58
      · have hw := hw.2 (z0_eq g_r20 c23)
        refine lv_iconst (v := zI (-1)) C.1 C.2.1 dX11_run_26 (by decide) ?_
        exact k_retKi C hr hlk rfl Wd ⟨_, rfl, (show rng (-1) from by decide), hw⟩ dX11_run_27
set_option maxHeartbeats 4000000 in
set_option maxRecDepth 100000 in
theorem mk_F_begin_37 : ∀ (D : va_G) (ad : Nat → Nat) (ca : Nat → ClassId) (rf : Nat → Nat → Option Nat) (σ : Sg) (hS : rngK σ) (hRF : RFok ad rf) (x0 : Int) (x1 : Int) (g_x0 : rng x0) (g_x1 : rng x1) (K : Sg → Prop) (hw : wp5_F_begin σ 37 x0 x1 K) (l : Launch) (sz : Nat), Met l yX1_begin (Cond.code yX1_begin cX1_begin 3 none :: gG) { frames := 2, cells := 0, slots := 0, locals := 84 } (cPre D (tC ca) (wK ad ca rf σ) sz [.ref (ad 37), .int (zI x0), .int (zI x1)]) (va_Qv (fun (u : Sg) => K u ∧ rngK u) (fun u t => cB D (va_A (wK ad ca rf σ) sz) [] (wK ad ca rf u) t) (va_A (wK ad ca rf σ) sz)) 0 0 (va_A (wK ad ca rf σ) sz) := by
  intro D ad ca rf σ hS hRF x0 x1 g_x0 g_x1 K hw l sz
  refine Met.ofW (cc := cX1_begin) (maxL := 3) (ret := none) (by decide) rfl ?_
  intro p e s m args below meth c s₁ B hml hv
  obtain ⟨rfl, aks, rfl, Wd⟩ := k_enter hv
  have C : CallFix p m c cX1_begin 3 s _ gG RX1 := ⟨B.exec, B.bytes, hml, findClass_of_methodNamed B.named, fun w h => atoms_spec (ws := Cond.code yX1_begin cX1_begin 3 none :: gG) B.pre w (List.mem_cons_of_mem _ h)⟩
  have hr := B.returns
  have hlk := B.notSynchronized
  generalize va_A (wK ad ca rf σ) s.heap.size = A at Wd ⊢
  replace Wd : wXK D ad ca rf s σ s.heap A s.heap [] := ⟨Wd, hS, hRF⟩
  refine k_locals (Nat.le_of_ble_eq_true rfl) [(0, .ref (ad 37)), (1, .int (zI x0)), (2, .int (zI x1))] rfl (fun ls hl => ?_)
  unfold wp5_F_begin at hw
  refine lv_aload_n C.1 C.2.1 dX1_begin_0 rfl (lv_at hl 0 rfl) ?_
  refine k_get (v := .int (zI (σ.1 37 1))) C Wd.1 KX1 _ 1 (cx37 _) (by decide) fl_X1_57 rfl dX1_begin_1 ?_
  refine lv_bipush (v := zI 40) C.1 C.2.1 dX1_begin_4 (by decide) ?_
  refine lv_icmp_lt (tgt := 10) C.1 C.2.1 dX1_begin_6 (by decide) (fun c6 => ?_) (fun c6 => ?_)
  · have hw := hw.1 (z_lt (hS.1 37 1) (show rng 40 from by decide) c6)
    refine lv_aload_n C.1 C.2.1 dX1_begin_10 rfl (lv_at hl 0 rfl) ?_
    refine k_get (v := .ref (ad 38)) C Wd.1 KX1 _ 2 (cx37 _) (by decide) fl_X1_20 rfl dX1_begin_11 ?_
    refine lv_aload_n C.1 C.2.1 dX1_begin_14 rfl (lv_at hl 0 rfl) ?_
    refine k_get (v := .int (zI (σ.1 37 1))) C Wd.1 KX1 _ 1 (cx37 _) (by decide) fl_X1_57 rfl dX1_begin_15 ?_
    refine lv_iload_n C.1 C.2.1 dX1_begin_18 rfl (lv_at hl 1 rfl) ?_
    obtain ⟨n19_0, hw⟩ := hw
    refine k_iastF (g := (σ.2.1 38)) (i := (σ.1 37 1)) (v := x0) C Wd 38 (by decide) (cx38 _) (fun f => cx38a _ f) (tC_at (by decide) rfl) n19_0 (by decide) (ruZ (fun j => Wd.2.1.2.1 38 j) g_x0) dX1_begin_19 (fun H locs Wd => ?_)
    refine lv_aload_n C.1 C.2.1 dX1_begin_20 rfl (lv_at hl 0 rfl) ?_
    refine k_get (v := .ref (ad 39)) C Wd.1 KX1 _ 3 (cx37 _) (by decide) fl_X1_24 rfl dX1_begin_21 ?_
    refine lv_aload_n C.1 C.2.1 dX1_begin_24 rfl (lv_at hl 0 rfl) ?_
    refine k_get (v := .int (zI (σ.1 37 1))) C Wd.1 KX1 _ 1 (cx37 _) (by decide) fl_X1_57 rfl dX1_begin_25 ?_
    refine lv_iload_n C.1 C.2.1 dX1_begin_28 rfl (lv_at hl 2 rfl) ?_
    refine k_iastF (g := (σ.2.1 39)) (i := (σ.1 37 1)) (v := x1) C Wd 39 (by decide) (cx39 _) (fun f => cx39a _ f) (tC_at (by decide) rfl) n19_0 (by decide) (ruZ (fun j => Wd.2.1.2.1 39 j) g_x1) dX1_begin_29 (fun H locs Wd => ?_)
    refine lv_aload_n C.1 C.2.1 dX1_begin_30 rfl (lv_at hl 0 rfl) ?_
    refine k_get (v := .ref (ad 45)) C Wd.1 KX1 _ 9 (cx37 _) (by decide) fl_X1_42 rfl dX1_begin_31 ?_
    refine lv_aload_n C.1 C.2.1 dX1_begin_34 rfl (lv_at hl 0 rfl) ?_
    refine k_get (v := .int (zI (σ.1 37 1))) C Wd.1 KX1 _ 1 (cx37 _) (by decide) fl_X1_57 rfl dX1_begin_35 ?_
    refine lv_iload_n C.1 C.2.1 dX1_begin_38 rfl (lv_at hl 2 rfl) ?_
    refine k_pi (k_runS (rest := [.int (zI (σ.1 37 1)), .ref (ad 45)]) C aks Wd.1 cs_X1_100 (mk_W_isSet D x1 g_x1 _ hw l _) [] rfl (by decide) [] rfl rfl rfl ⟨(Nat.le_of_ble_eq_true rfl), (Nat.le_of_ble_eq_true rfl)⟩ hl.1 rfl rfl (Nat.le_of_ble_eq_true rfl) ⟨(Nat.le_of_ble_eq_true rfl), (Nat.le_of_ble_eq_true rfl)⟩ dX1_begin_39) (fun y39 hy => ?_)
    obtain ⟨r39, rfl, g_r39, hw⟩ := hy
    refine k_cut1 (fun (s0_55 : Int) H locs ls => rng s0_55 ∧ wp5_F_begin_55 K σ 37 x0 x1 s0_55 ∧ wXK D ad ca rf s (pF (pF σ 38 (uZ (σ.2.1 38) (σ.1 37 1) x0)) 39 (uZ (σ.2.1 39) (σ.1 37 1) x1)) H A s.heap locs ∧ lv_has ls 3 [(0, .ref (ad 37)), (1, .int (zI x0)), (2, .int (zI x1))]) (fun (s0_55 : Int) ls => F0 m 55 ls [.int (zI s0_55), .int (zI (σ.1 37 1)), .ref (ad 45)]) (fun s0_55 H locs ls hi => ?_) (fun J55 => ?_)
    · obtain ⟨g_s0_55, hw, Wd, hl⟩ := hi
      unfold wp5_F_begin_55 at hw
      refine k_iastF (g := (σ.2.1 45)) (i := (σ.1 37 1)) (v := s0_55) C Wd 45 (by decide) (cx45 _) (fun f => cx45a _ f) (tC_at (by decide) rfl) n19_0 (by decide) (ruZ (fun j => Wd.2.1.2.1 45 j) g_s0_55) dX1_begin_55 (fun H locs Wd => ?_)
      refine lv_aload_n C.1 C.2.1 dX1_begin_56 rfl (lv_at hl 0 rfl) ?_
      refine k_get (v := .ref (ad 40)) C Wd.1 KX1 _ 4 (cx37 _) (by decide) fl_X1_27 rfl dX1_begin_57 ?_
      refine lv_aload_n C.1 C.2.1 dX1_begin_60 rfl (lv_at hl 0 rfl) ?_
      refine k_get (v := .int (zI (σ.1 37 1))) C Wd.1 KX1 _ 1 (cx37 _) (by decide) fl_X1_57 rfl dX1_begin_61 ?_
      refine lv_iload_n C.1 C.2.1 dX1_begin_64 rfl (lv_at hl 2 rfl) ?_
      refine k_pi (k_runS (rest := [.int (zI (σ.1 37 1)), .ref (ad 40)]) C aks Wd.1 cs_X1_87 (mk_W_isBranch D x1 g_x1 _ hw l _) [] rfl (by decide) [] rfl rfl rfl ⟨(Nat.le_of_ble_eq_true rfl), (Nat.le_of_ble_eq_true rfl)⟩ hl.1 rfl rfl (Nat.le_of_ble_eq_true rfl) ⟨(Nat.le_of_ble_eq_true rfl), (Nat.le_of_ble_eq_true rfl)⟩ dX1_begin_65) (fun y65 hy => ?_)
      obtain ⟨r65, rfl, g_r65, hw⟩ := hy
      refine k_cut1 (fun (s0_80 : Int) H locs ls => rng s0_80 ∧ wp5_F_begin_80 K σ 37 x0 x1 s0_55 s0_80 ∧ wXK D ad ca rf s (pF (pF (pF σ 38 (uZ (σ.2.1 38) (σ.1 37 1) x0)) 39 (uZ (σ.2.1 39) (σ.1 37 1) x1)) 45 (uZ (σ.2.1 45) (σ.1 37 1) s0_55)) H A s.heap locs ∧ lv_has ls 3 [(0, .ref (ad 37))]) (fun (s0_80 : Int) ls => F0 m 80 ls [.int (zI s0_80), .int (zI (σ.1 37 1)), .ref (ad 40)]) (fun s0_80 H locs ls hi => ?_) (fun J80 => ?_)
      · obtain ⟨g_s0_80, hw, Wd, hl⟩ := hi
        unfold wp5_F_begin_80 at hw
        refine k_iastF (g := (σ.2.1 40)) (i := (σ.1 37 1)) (v := s0_80) C Wd 40 (by decide) (cx40 _) (fun f => cx40a _ f) (tC_at (by decide) rfl) n19_0 (by decide) (ruZ (fun j => Wd.2.1.2.1 40 j) g_s0_80) dX1_begin_80 (fun H locs Wd => ?_)
        refine lv_aload_n C.1 C.2.1 dX1_begin_81 rfl (lv_at hl 0 rfl) ?_
        refine k_get (v := .ref (ad 41)) C Wd.1 KX1 _ 5 (cx37 _) (by decide) fl_X1_30 rfl dX1_begin_82 ?_
        refine lv_aload_n C.1 C.2.1 dX1_begin_85 rfl (lv_at hl 0 rfl) ?_
        refine k_get (v := .int (zI (σ.1 37 1))) C Wd.1 KX1 _ 1 (cx37 _) (by decide) fl_X1_57 rfl dX1_begin_86 ?_
        refine lv_aload_n C.1 C.2.1 dX1_begin_89 rfl (lv_at hl 0 rfl) ?_
        refine k_get (v := .ref (ad 40)) C Wd.1 KX1 _ 4 (cx37 _) (by decide) fl_X1_27 rfl dX1_begin_90 ?_
        refine lv_aload_n C.1 C.2.1 dX1_begin_93 rfl (lv_at hl 0 rfl) ?_
        refine k_get (v := .int (zI (σ.1 37 1))) C Wd.1 KX1 _ 1 (cx37 _) (by decide) fl_X1_57 rfl dX1_begin_94 ?_
        refine k_ialdK (g := (uZ (σ.2.1 40) (σ.1 37 1) s0_80)) C Wd (cx40 _) (tC_at (by decide) rfl) n19_0 (by decide) dX1_begin_97 ?_
        have ga97 : rng ((uZ (σ.2.1 40) (σ.1 37 1) s0_80) (σ.1 37 1)) := rngL (fun j => (Wd.2.1).2.1 40 j) n19_0
        refine k_iastF (g := (σ.2.1 41)) (i := (σ.1 37 1)) (v := ((uZ (σ.2.1 40) (σ.1 37 1) s0_80) (σ.1 37 1))) C Wd 41 (by decide) (cx41 _) (fun f => cx41a _ f) (tC_at (by decide) rfl) n19_0 (by decide) (ruZ (fun j => Wd.2.1.2.1 41 j) ga97) dX1_begin_98 (fun H locs Wd => ?_)
        refine lv_aload_n C.1 C.2.1 dX1_begin_99 rfl (lv_at hl 0 rfl) ?_
        refine k_get (v := .ref (ad 44)) C Wd.1 KX1 _ 8 (cx37 _) (by decide) fl_X1_39 rfl dX1_begin_100 ?_
        refine lv_aload_n C.1 C.2.1 dX1_begin_103 rfl (lv_at hl 0 rfl) ?_
        refine k_get (v := .int (zI (σ.1 37 1))) C Wd.1 KX1 _ 1 (cx37 _) (by decide) fl_X1_57 rfl dX1_begin_104 ?_
        refine lv_iconst (v := zI 0) C.1 C.2.1 dX1_begin_107 (by decide) ?_
        refine k_iastF (g := (σ.2.1 44)) (i := (σ.1 37 1)) (v := 0) C Wd 44 (by decide) (cx44 _) (fun f => cx44a _ f) (tC_at (by decide) rfl) n19_0 (by decide) (ruZ (fun j => Wd.2.1.2.1 44 j) (show rng 0 from by decide)) dX1_begin_108 (fun H locs Wd => ?_)
        refine lv_aload_n C.1 C.2.1 dX1_begin_109 rfl (lv_at hl 0 rfl) ?_
        refine k_get (v := .ref (ad 42)) C Wd.1 KX1 _ 6 (cx37 _) (by decide) fl_X1_33 rfl dX1_begin_110 ?_
        refine lv_aload_n C.1 C.2.1 dX1_begin_113 rfl (lv_at hl 0 rfl) ?_
        refine k_get (v := .int (zI (σ.1 37 1))) C Wd.1 KX1 _ 1 (cx37 _) (by decide) fl_X1_57 rfl dX1_begin_114 ?_
        refine lv_iconst (v := zI (-1)) C.1 C.2.1 dX1_begin_117 (by decide) ?_
        refine k_iastF (g := (σ.2.1 42)) (i := (σ.1 37 1)) (v := (-1)) C Wd 42 (by decide) (cx42 _) (fun f => cx42a _ f) (tC_at (by decide) rfl) n19_0 (by decide) (ruZ (fun j => Wd.2.1.2.1 42 j) (show rng (-1) from by decide)) dX1_begin_118 (fun H locs Wd => ?_)
        refine lv_aload_n C.1 C.2.1 dX1_begin_119 rfl (lv_at hl 0 rfl) ?_
        refine k_get (v := .ref (ad 43)) C Wd.1 KX1 _ 7 (cx37 _) (by decide) fl_X1_36 rfl dX1_begin_120 ?_
        refine lv_aload_n C.1 C.2.1 dX1_begin_123 rfl (lv_at hl 0 rfl) ?_
        refine k_get (v := .int (zI (σ.1 37 1))) C Wd.1 KX1 _ 1 (cx37 _) (by decide) fl_X1_57 rfl dX1_begin_124 ?_
        refine lv_iconst (v := zI (-1)) C.1 C.2.1 dX1_begin_127 (by decide) ?_
        refine k_iastF (g := (σ.2.1 43)) (i := (σ.1 37 1)) (v := (-1)) C Wd 43 (by decide) (cx43 _) (fun f => cx43a _ f) (tC_at (by decide) rfl) n19_0 (by decide) (ruZ (fun j => Wd.2.1.2.1 43 j) (show rng (-1) from by decide)) dX1_begin_128 (fun H locs Wd => ?_)
        refine lv_aload_n C.1 C.2.1 dX1_begin_129 rfl (lv_at hl 0 rfl) ?_
        refine lv_dup C.1 C.2.1 dX1_begin_130 rfl ?_
        refine k_get (v := .int (zI (σ.1 37 1))) C Wd.1 KX1 _ 1 (cx37 _) (by decide) fl_X1_57 rfl dX1_begin_131 ?_
        refine lv_iconst (v := zI 1) C.1 C.2.1 dX1_begin_134 (by decide) ?_
        refine k_iadd (v := zI ((σ.1 37 1) + 1)) C (zI_iadd _ _) dX1_begin_135 ?_
        obtain ⟨g136_3, hw⟩ := hw
        refine k_putK (v := ((σ.1 37 1) + 1)) C Wd KX1 37 1 (by decide) (cx37 _) rfl (by decide) fl_X1_57 rfl rfl rfl (Nat.le_of_ble_eq_true rfl) g136_3 dX1_begin_136 (fun H locs Wd => ?_)
        exact k_retKv C hr hlk Wd hw dX1_begin_139
      refine lv_if_eq (tgt := 77) C.1 C.2.1 dX1_begin_68 (by decide) (fun c68 => ?_) (fun c68 => ?_)
      · have hw := hw.1 (z0_eq g_r65 c68)
        refine lv_iload_n C.1 C.2.1 dX1_begin_77 rfl (lv_at hl 1 rfl) ?_
        refine lv_iconst (v := zI 1) C.1 C.2.1 dX1_begin_78 (by decide) ?_
        refine k_iadd (v := zI (x0 + 1)) C (zI_iadd _ _) dX1_begin_79 ?_
        obtain ⟨g79_4, hw⟩ := hw
        exact J80 (x0 + 1) _ _ _ ⟨g79_4, hw, Wd, lv_sub hl [0] rfl⟩
      · have hw := hw.2 (z0_ne g_r65 c68)
        refine lv_iload_n C.1 C.2.1 dX1_begin_71 rfl (lv_at hl 1 rfl) ?_
        refine lv_iconst (v := zI 2) C.1 C.2.1 dX1_begin_72 (by decide) ?_
        refine k_iadd (v := zI (x0 + 2)) C (zI_iadd _ _) dX1_begin_73 ?_
        refine lv_goto (tgt := 80) C.1 C.2.1 dX1_begin_74 (by decide) ?_
        obtain ⟨g74_5, hw⟩ := hw
        exact J80 (x0 + 2) _ _ _ ⟨g74_5, hw, Wd, lv_sub hl [0] rfl⟩
    refine lv_if_eq (tgt := 54) C.1 C.2.1 dX1_begin_42 (by decide) (fun c42 => ?_) (fun c42 => ?_)
    · have hw := hw.1 (z0_eq g_r39 c42)
      refine lv_iconst (v := zI 0) C.1 C.2.1 dX1_begin_54 (by decide) ?_
      exact J55 0 _ _ _ ⟨(show rng 0 from by decide), hw, Wd, lv_sub hl [0, 1, 2] rfl⟩
    · have hw := hw.2 (z0_ne g_r39 c42)
      refine lv_iconst (v := zI 1) C.1 C.2.1 dX1_begin_45 (by decide) ?_
      refine lv_iload_n C.1 C.2.1 dX1_begin_46 rfl (lv_at hl 2 rfl) ?_
      refine lv_bipush (v := zI 100) C.1 C.2.1 dX1_begin_47 (by decide) ?_
      refine k_isub (v := zI (x1 - 100)) C (zI_isub _ _) dX1_begin_49 ?_
      refine k_ishl (v := zI (zishl 1 (x1 - 100))) C (zishl_eq _ _) dX1_begin_50 ?_
      refine lv_goto (tgt := 55) C.1 C.2.1 dX1_begin_51 (by decide) ?_
      exact J55 (zishl 1 (x1 - 100)) _ _ _ ⟨(rng_toInt _), hw, Wd, lv_sub hl [0, 1, 2] rfl⟩
  · have hw := hw.2 (z_nlt (hS.1 37 1) (show rng 40 from by decide) c6)
    exact k_retKv C hr hlk Wd hw dX1_begin_9
set_option maxHeartbeats 4000000 in
set_option maxRecDepth 100000 in
theorem mk_F_isHere_37 : ∀ (D : va_G) (ad : Nat → Nat) (ca : Nat → ClassId) (rf : Nat → Nat → Option Nat) (σ : Sg) (hS : rngK σ) (hRF : RFok ad rf) (x0 : Int) (g_x0 : rng x0) (K : Int → Prop) (hw : wp5_F_isHere σ 37 x0 K) (l : Launch) (sz : Nat), Met l yX1_isHere (Cond.code yX1_isHere cX1_isHere 2 (some .boolean) :: gG) { frames := 1, cells := 0, slots := 0, locals := 64 } (cPre D (tC ca) (wK ad ca rf σ) sz [.ref (ad 37), .int (zI x0)]) (vp_Si (fun r => ∃ x : Int, r = zI x ∧ rng x ∧ K x)) 0 0 (fun _ => False) := by
  intro D ad ca rf σ hS hRF x0 g_x0 K hw l sz
  refine Met.ofW (cc := cX1_isHere) (maxL := 2) (ret := (some .boolean)) (by decide) rfl ?_
  intro p e s m args below meth c s₁ B hml hv
  obtain ⟨rfl, aks, rfl, Wd⟩ := k_enter hv
  have C : CallFix p m c cX1_isHere 2 s _ gG RX1 := ⟨B.exec, B.bytes, hml, findClass_of_methodNamed B.named, fun w h => atoms_spec (ws := Cond.code yX1_isHere cX1_isHere 2 (some .boolean) :: gG) B.pre w (List.mem_cons_of_mem _ h)⟩
  have hr := B.returns
  have hlk := B.notSynchronized
  obtain ⟨A, Wd⟩ : ∃ A, wXK D ad ca rf s σ s.heap A s.heap [] := ⟨_, Wd, hS, hRF⟩
  refine k_locals (Nat.le_of_ble_eq_true rfl) [(0, .ref (ad 37)), (1, .int (zI x0))] rfl (fun ls hl => ?_)
  unfold wp5_F_isHere at hw
  refine lv_iload_n C.1 C.2.1 dX1_isHere_0 rfl (lv_at hl 1 rfl) ?_
  refine lv_if_lt (tgt := 22) C.1 C.2.1 dX1_isHere_1 (by decide) (fun c1 => ?_) (fun c1 => ?_)
  · have hw := hw.1 (z0_lt g_x0 c1)
    refine lv_iconst (v := zI 0) C.1 C.2.1 dX1_isHere_22 (by decide) ?_
    exact k_zretP C hr hlk (by decide) ⟨_, rfl, (show rng 0 from by decide), hw⟩ dX1_isHere_23
  · have hw := hw.2 (z0_nlt g_x0 c1)
    refine lv_iload_n C.1 C.2.1 dX1_isHere_4 rfl (lv_at hl 1 rfl) ?_
    refine lv_aload_n C.1 C.2.1 dX1_isHere_5 rfl (lv_at hl 0 rfl) ?_
    refine k_get (v := .int (zI (σ.1 37 1))) C Wd.1 KX1 _ 1 (cx37 _) (by decide) fl_X1_57 rfl dX1_isHere_6 ?_
    refine lv_icmp_ge (tgt := 22) C.1 C.2.1 dX1_isHere_9 (by decide) (fun c9 => ?_) (fun c9 => ?_)
    · have hw := hw.1 (z_le (hS.1 37 1) g_x0 c9)
      refine lv_iconst (v := zI 0) C.1 C.2.1 dX1_isHere_22 (by decide) ?_
      exact k_zretP C hr hlk (by decide) ⟨_, rfl, (show rng 0 from by decide), hw⟩ dX1_isHere_23
    · have hw := hw.2 (z_nle (hS.1 37 1) g_x0 c9)
      refine lv_iload_n C.1 C.2.1 dX1_isHere_12 rfl (lv_at hl 1 rfl) ?_
      refine lv_bipush (v := zI 40) C.1 C.2.1 dX1_isHere_13 (by decide) ?_
      refine lv_icmp_ge (tgt := 22) C.1 C.2.1 dX1_isHere_15 (by decide) (fun c15 => ?_) (fun c15 => ?_)
      · have hw := hw.1 (z_le (show rng 40 from by decide) g_x0 c15)
        refine lv_iconst (v := zI 0) C.1 C.2.1 dX1_isHere_22 (by decide) ?_
        exact k_zretP C hr hlk (by decide) ⟨_, rfl, (show rng 0 from by decide), hw⟩ dX1_isHere_23
      · have hw := hw.2 (z_nle (show rng 40 from by decide) g_x0 c15)
        refine lv_iconst (v := zI 1) C.1 C.2.1 dX1_isHere_18 (by decide) ?_
        refine lv_goto (tgt := 23) C.1 C.2.1 dX1_isHere_19 (by decide) ?_
        exact k_zretP C hr hlk (by decide) ⟨_, rfl, (show rng 1 from by decide), hw⟩ dX1_isHere_23
set_option maxHeartbeats 4000000 in
set_option maxRecDepth 100000 in
theorem mk_F_number_37 : ∀ (D : va_G) (ad : Nat → Nat) (ca : Nat → ClassId) (rf : Nat → Nat → Option Nat) (σ : Sg) (hS : rngK σ) (hRF : RFok ad rf) (K : Sg → Prop) (hw : wp5_F_number σ 37 K) (l : Launch) (sz : Nat), Met l yX1_number (Cond.code yX1_number cX1_number 4 none :: gG) { frames := 3, cells := 0, slots := 0, locals := 106 } (cPre D (tC ca) (wK ad ca rf σ) sz [.ref (ad 37)]) (va_Qv (fun (u : Sg) => K u ∧ rngK u) (fun u t => cB D (va_A (wK ad ca rf σ) sz) [] (wK ad ca rf u) t) (va_A (wK ad ca rf σ) sz)) 0 0 (va_A (wK ad ca rf σ) sz) := by
  intro D ad ca rf σ hS hRF  K hw l sz
  refine Met.ofW (cc := cX1_number) (maxL := 4) (ret := none) (by decide) rfl ?_
  intro p e s m args below meth c s₁ B hml hv
  obtain ⟨rfl, aks, rfl, Wd⟩ := k_enter hv
  have C : CallFix p m c cX1_number 4 s _ gG RX1 := ⟨B.exec, B.bytes, hml, findClass_of_methodNamed B.named, fun w h => atoms_spec (ws := Cond.code yX1_number cX1_number 4 none :: gG) B.pre w (List.mem_cons_of_mem _ h)⟩
  have hr := B.returns
  have hlk := B.notSynchronized
  generalize va_A (wK ad ca rf σ) s.heap.size = A at Wd ⊢
  replace Wd : wXK D ad ca rf s σ s.heap A s.heap [] := ⟨Wd, hS, hRF⟩
  refine k_locals (Nat.le_of_ble_eq_true rfl) [(0, .ref (ad 37))] rfl (fun ls hl => ?_)
  unfold wp5_F_number at hw
  refine lv_iconst (v := zI 0) C.1 C.2.1 dX1_number_0 (by decide) ?_
  refine lv_istore_n (lv' := [(1, .int (zI 0)), (0, .ref (ad 37))]) C.1 C.2.1 dX1_number_1 rfl hl (by decide) rfl (fun ls hl => ?_)
  replace hl := lv_sub hl [1, 0] rfl
  refine lv_aload_n C.1 C.2.1 dX1_number_2 rfl (lv_at hl 0 rfl) ?_
  refine lv_iconst (v := zI 0) C.1 C.2.1 dX1_number_3 (by decide) ?_
  refine k_putK (v := 0) C Wd KX1 37 1 (by decide) (cx37 _) rfl (by decide) fl_X1_57 rfl rfl rfl (Nat.le_of_ble_eq_true rfl) (show rng 0 from by decide) dX1_number_4 (fun H locs Wd => ?_)
  refine lv_iconst (v := zI 0) C.1 C.2.1 dX1_number_7 (by decide) ?_
  refine lv_istore_n (lv' := [(2, .int (zI 0)), (0, .ref (ad 37)), (1, .int (zI 0))]) C.1 C.2.1 dX1_number_8 rfl hl (by decide) rfl (fun ls hl => ?_)
  replace hl := lv_sub hl [1, 2, 0] rfl
  refine k_lp3 hw (fun (l1_9 : Int) (l2_9 : Int) (σ9 : Sg) H locs ls => rng l1_9 ∧ rng l2_9 ∧ wXK D ad ca rf s σ9 H A s.heap locs ∧ lv_has ls 4 [(0, .ref (ad 37)), (1, .int (zI l1_9)), (2, .int (zI l2_9))]) (fun (l1_9 : Int) (l2_9 : Int) (σ9 : Sg) ls => F0 m 9 ls []) (fun L9 hL9 l1_9 l2_9 σ9 hw H locs ls hi => ?_) _ _ _ ⟨(show rng 0 from by decide), (show rng 0 from by decide), Wd, lv_sub hl [0, 1, 2] rfl⟩
  obtain ⟨g_l1_9, g_l2_9, Wd, hl⟩ := hi
  have hS_σ9 := Wd.2.1
  unfold wp5_F_number_9 at hw
  refine lv_iload_n C.1 C.2.1 dX1_number_9 rfl (lv_at hl 2 rfl) ?_
  refine lv_aload_n C.1 C.2.1 dX1_number_10 rfl (lv_at hl 0 rfl) ?_
  obtain ⟨n11_0, hw⟩ := hw
  refine k_get (v := .ref (ad (rowC (σ9.1 37 0).toNat))) C Wd.1 KX1 _ 0 (cx37 _) (by decide) fl_X1_14 (congrArg some (rvW_ref n11_0)) dX1_number_11 ?_
  refine k_get (v := .int (zI (σ9.2.2.1 0 (σ9.1 37 0)))) C Wd.1 KX8 _ 1 (cxRow n11_0) (by decide) fl_X1_78 rfl dX1_number_14 ?_
  refine lv_icmp_ge (tgt := 235) C.1 C.2.1 dX1_number_17 (by decide) (fun c17 => ?_) (fun c17 => ?_)
  · have hw := hw.1 (z_le (rgY hS_σ9 (N := 35) n11_0) g_l2_9 c17)
    exact k_retKv C hr hlk Wd hw dX1_number_235
  · have hw := hw.2 (z_nle (rgY hS_σ9 (N := 35) n11_0) g_l2_9 c17)
    refine lv_iload_n C.1 C.2.1 dX1_number_20 rfl (lv_at hl 2 rfl) ?_
    refine lv_aload_n C.1 C.2.1 dX1_number_21 rfl (lv_at hl 0 rfl) ?_
    refine k_get (v := .ref (ad 49)) C Wd.1 KX1 _ 13 (cx37 _) (by decide) fl_X1_54 rfl dX1_number_22 ?_
    refine k_alen (v := zI 480) C Wd.1 49 49 (cx49 _) (tC_at (by decide) rfl) rfl dX1_number_25 ?_
    refine lv_icmp_ge (tgt := 235) C.1 C.2.1 dX1_number_26 (by decide) (fun c26 => ?_) (fun c26 => ?_)
    · have hw := hw.1 (z_le (show rng 480 from by decide) g_l2_9 c26)
      exact k_retKv C hr hlk Wd hw dX1_number_235
    · have hw := hw.2 (z_nle (show rng 480 from by decide) g_l2_9 c26)
      refine lv_aload_n C.1 C.2.1 dX1_number_29 rfl (lv_at hl 0 rfl) ?_
      refine k_get (v := .ref (ad (rowC (σ9.1 37 0).toNat))) C Wd.1 KX1 _ 0 (cx37 _) (by decide) fl_X1_14 (congrArg some (rvW_ref n11_0)) dX1_number_30 ?_
      refine lv_iload_n C.1 C.2.1 dX1_number_33 rfl (lv_at hl 2 rfl) ?_
      refine k_pi (k_runVK (rest := []) C aks Wd cs_X1_81 (mk_W_cell D ad ca rf σ9 Wd.2.1 Wd.2.2 (σ9.1 37 0) l2_9 n11_0 g_l2_9 _ hw l _) (cxRow n11_0) rfl rfl rfl rfl ⟨(Nat.le_of_ble_eq_true rfl), (Nat.le_of_ble_eq_true rfl)⟩ hl.1 rfl rfl (Nat.le_of_ble_eq_true rfl) ⟨(Nat.le_of_ble_eq_true rfl), (Nat.le_of_ble_eq_true rfl)⟩ dX1_number_34) (fun y34 hy => ?_)
      obtain ⟨r34, rfl, g_r34, hw⟩ := hy
      refine lv_istore_n (lv' := [(3, .int (zI r34)), (0, .ref (ad 37)), (1, .int (zI l1_9)), (2, .int (zI l2_9))]) C.1 C.2.1 dX1_number_37 rfl hl (by decide) rfl (fun ls hl => ?_)
      replace hl := lv_sub hl [1, 2, 3, 0] rfl
      refine lv_aload_n C.1 C.2.1 dX1_number_38 rfl (lv_at hl 0 rfl) ?_
      refine k_get (v := .ref (ad 49)) C Wd.1 KX1 _ 13 (cx37 _) (by decide) fl_X1_54 rfl dX1_number_39 ?_
      refine lv_iload_n C.1 C.2.1 dX1_number_42 rfl (lv_at hl 2 rfl) ?_
      refine lv_iconst (v := zI (-1)) C.1 C.2.1 dX1_number_43 (by decide) ?_
      obtain ⟨n44_0, hw⟩ := hw
      refine k_iastF (g := (σ9.2.1 49)) (i := l2_9) (v := (-1)) C Wd 49 (by decide) (cx49 _) (fun f => cx49a _ f) (tC_at (by decide) rfl) n44_0 (by decide) (ruZ (fun j => Wd.2.1.2.1 49 j) (show rng (-1) from by decide)) dX1_number_44 (fun H locs Wd => ?_)
      refine lv_iload_n C.1 C.2.1 dX1_number_45 rfl (lv_at hl 3 rfl) ?_
      refine k_pi (k_runS (rest := []) C aks Wd.1 cs_X1_84 (mk_W_isStatement D r34 g_r34 _ hw l _) [] rfl (by decide) [] rfl rfl rfl ⟨(Nat.le_of_ble_eq_true rfl), (Nat.le_of_ble_eq_true rfl)⟩ hl.1 rfl rfl (Nat.le_of_ble_eq_true rfl) ⟨(Nat.le_of_ble_eq_true rfl), (Nat.le_of_ble_eq_true rfl)⟩ dX1_number_46) (fun y46 hy => ?_)
      obtain ⟨r46, rfl, g_r46, hw⟩ := hy
      refine k_cut0 (fun H locs ls => wp5_F_number_109 37 l1_9 l2_9 r34 σ9 L9 ∧ wXK D ad ca rf s (pF σ9 49 (uZ (σ9.2.1 49) l2_9 (-1))) H A s.heap locs ∧ lv_has ls 4 [(0, .ref (ad 37)), (1, .int (zI l1_9)), (2, .int (zI l2_9)), (3, .int (zI r34))]) (fun  ls => F0 m 109 ls []) (fun  H locs ls hi => ?_) (fun J109 => ?_)
      · obtain ⟨hw, Wd, hl⟩ := hi
        unfold wp5_F_number_109 at hw
        refine lv_iload_n C.1 C.2.1 dX1_number_109 rfl (lv_at hl 3 rfl) ?_
        refine lv_bipush (v := zI 113) C.1 C.2.1 dX1_number_110 (by decide) ?_
        refine k_cut0 (fun H locs ls => wp5_F_number_136 37 l1_9 l2_9 r34 σ9 L9 ∧ wXK D ad ca rf s (pF σ9 49 (uZ (σ9.2.1 49) l2_9 (-1))) H A s.heap locs ∧ lv_has ls 4 [(0, .ref (ad 37)), (1, .int (zI l1_9)), (2, .int (zI l2_9)), (3, .int (zI r34))]) (fun  ls => F0 m 136 ls []) (fun  H locs ls hi => ?_) (fun J136 => ?_)
        · obtain ⟨hw, Wd, hl⟩ := hi
          unfold wp5_F_number_136 at hw
          refine lv_iload_n C.1 C.2.1 dX1_number_136 rfl (lv_at hl 3 rfl) ?_
          refine lv_bipush (v := zI 114) C.1 C.2.1 dX1_number_137 (by decide) ?_
          refine k_cut0 (fun H locs ls => wp5_F_number_164 37 l1_9 l2_9 r34 σ9 L9 ∧ wXK D ad ca rf s (pF σ9 49 (uZ (σ9.2.1 49) l2_9 (-1))) H A s.heap locs ∧ lv_has ls 4 [(0, .ref (ad 37)), (1, .int (zI l1_9)), (2, .int (zI l2_9)), (3, .int (zI r34))]) (fun  ls => F0 m 164 ls []) (fun  H locs ls hi => ?_) (fun J164 => ?_)
          · obtain ⟨hw, Wd, hl⟩ := hi
            unfold wp5_F_number_164 at hw
            refine lv_iload_n C.1 C.2.1 dX1_number_164 rfl (lv_at hl 3 rfl) ?_
            refine k_pi (k_runS (rest := []) C aks Wd.1 cs_X1_94 (mk_W_isExpression D r34 g_r34 _ hw l _) [] rfl (by decide) [] rfl rfl rfl ⟨(Nat.le_of_ble_eq_true rfl), (Nat.le_of_ble_eq_true rfl)⟩ hl.1 rfl rfl (Nat.le_of_ble_eq_true rfl) ⟨(Nat.le_of_ble_eq_true rfl), (Nat.le_of_ble_eq_true rfl)⟩ dX1_number_165) (fun y165 hy => ?_)
            obtain ⟨r165, rfl, g_r165, hw⟩ := hy
            refine lv_if_eq (tgt := 229) C.1 C.2.1 dX1_number_168 (by decide) (fun c168 => ?_) (fun c168 => ?_)
            · have hw := hw.1 (z0_eq g_r165 c168)
              refine lv_iinc (v := zI (l2_9 + 1)) (lv' := [(2, .int (zI (l2_9 + 1))), (0, .ref (ad 37)), (1, .int (zI l1_9)), (3, .int (zI r34))]) C.1 C.2.1 dX1_number_229 hl (k := 2) rfl (zI_inc _ _ (by decide)) (by decide) rfl (fun ls hl => ?_)
              replace hl := lv_sub hl [1, 2, 0, 3] rfl
              refine lv_goto (tgt := 9) C.1 C.2.1 dX1_number_232 (by decide) ?_
              obtain ⟨g232_13, hw⟩ := hw
              exact hL9 _ _ _ hw _ _ _ ⟨g_l1_9, g232_13, Wd, lv_sub hl [0, 1, 2] rfl⟩
            · have hw := hw.2 (z0_ne g_r165 c168)
              refine lv_aload_n C.1 C.2.1 dX1_number_171 rfl (lv_at hl 0 rfl) ?_
              refine lv_aload_n C.1 C.2.1 dX1_number_172 rfl (lv_at hl 0 rfl) ?_
              refine k_get (v := .int (zI (σ9.1 37 1))) C Wd.1 KX1 _ 1 (cx37 _) (by decide) fl_X1_57 rfl dX1_number_173 ?_
              refine lv_iconst (v := zI 1) C.1 C.2.1 dX1_number_176 (by decide) ?_
              refine k_isub (v := zI ((σ9.1 37 1) - 1)) C (zI_isub _ _) dX1_number_177 ?_
              obtain ⟨g178_14, hw⟩ := hw
              refine k_pi (k_runVK (rest := []) C aks Wd cs_X1_70 (mk_F_isHere_37 D ad ca rf (pF σ9 49 (uZ (σ9.2.1 49) l2_9 (-1))) Wd.2.1 Wd.2.2 ((σ9.1 37 1) - 1) g178_14 _ hw l _) (cx37 _) rfl rfl rfl rfl ⟨(Nat.le_of_ble_eq_true rfl), (Nat.le_of_ble_eq_true rfl)⟩ hl.1 rfl rfl (Nat.le_of_ble_eq_true rfl) ⟨(Nat.le_of_ble_eq_true rfl), (Nat.le_of_ble_eq_true rfl)⟩ dX1_number_178) (fun y178 hy => ?_)
              obtain ⟨r178, rfl, g_r178, hw⟩ := hy
              refine lv_if_eq (tgt := 229) C.1 C.2.1 dX1_number_181 (by decide) (fun c181 => ?_) (fun c181 => ?_)
              · have hw := hw.1 (z0_eq g_r178 c181)
                refine lv_iinc (v := zI (l2_9 + 1)) (lv' := [(2, .int (zI (l2_9 + 1))), (0, .ref (ad 37)), (1, .int (zI l1_9)), (3, .int (zI r34))]) C.1 C.2.1 dX1_number_229 hl (k := 2) rfl (zI_inc _ _ (by decide)) (by decide) rfl (fun ls hl => ?_)
                replace hl := lv_sub hl [1, 2, 0, 3] rfl
                refine lv_goto (tgt := 9) C.1 C.2.1 dX1_number_232 (by decide) ?_
                obtain ⟨g232_15, hw⟩ := hw
                exact hL9 _ _ _ hw _ _ _ ⟨g_l1_9, g232_15, Wd, lv_sub hl [0, 1, 2] rfl⟩
              · have hw := hw.2 (z0_ne g_r178 c181)
                refine lv_aload_n C.1 C.2.1 dX1_number_184 rfl (lv_at hl 0 rfl) ?_
                refine k_get (v := .ref (ad 41)) C Wd.1 KX1 _ 5 (cx37 _) (by decide) fl_X1_30 rfl dX1_number_185 ?_
                refine lv_aload_n C.1 C.2.1 dX1_number_188 rfl (lv_at hl 0 rfl) ?_
                refine k_get (v := .int (zI (σ9.1 37 1))) C Wd.1 KX1 _ 1 (cx37 _) (by decide) fl_X1_57 rfl dX1_number_189 ?_
                refine lv_iconst (v := zI 1) C.1 C.2.1 dX1_number_192 (by decide) ?_
                refine k_isub (v := zI ((σ9.1 37 1) - 1)) C (zI_isub _ _) dX1_number_193 ?_
                refine lv_iload_n C.1 C.2.1 dX1_number_194 rfl (lv_at hl 2 rfl) ?_
                refine lv_iconst (v := zI 1) C.1 C.2.1 dX1_number_195 (by decide) ?_
                refine k_iadd (v := zI (l2_9 + 1)) C (zI_iadd _ _) dX1_number_196 ?_
                obtain ⟨g197_16, hw⟩ := hw
                obtain ⟨n197_1, hw⟩ := hw
                refine k_iastF (g := (σ9.2.1 41)) (i := ((σ9.1 37 1) - 1)) (v := (l2_9 + 1)) C Wd 41 (by decide) (cx41 _) (fun f => cx41a _ f) (tC_at (by decide) rfl) n197_1 (by decide) (ruZ (fun j => Wd.2.1.2.1 41 j) g197_16) dX1_number_197 (fun H locs Wd => ?_)
                refine lv_aload_n C.1 C.2.1 dX1_number_198 rfl (lv_at hl 0 rfl) ?_
                refine k_get (v := .ref (ad 44)) C Wd.1 KX1 _ 8 (cx37 _) (by decide) fl_X1_39 rfl dX1_number_199 ?_
                refine lv_aload_n C.1 C.2.1 dX1_number_202 rfl (lv_at hl 0 rfl) ?_
                refine k_get (v := .int (zI (σ9.1 37 1))) C Wd.1 KX1 _ 1 (cx37 _) (by decide) fl_X1_57 rfl dX1_number_203 ?_
                refine lv_iconst (v := zI 1) C.1 C.2.1 dX1_number_206 (by decide) ?_
                refine k_isub (v := zI ((σ9.1 37 1) - 1)) C (zI_isub _ _) dX1_number_207 ?_
                refine lv_dup2_11 C.1 C.2.1 dX1_number_208 rfl rfl ?_
                refine k_ialdK (g := (σ9.2.1 44)) C Wd (cx44 _) (tC_at (by decide) rfl) n197_1 (by decide) dX1_number_209 ?_
                have ga209 : rng (σ9.2.1 44 ((σ9.1 37 1) - 1)) := rngL (fun j => (Wd.2.1).2.1 44 j) n197_1
                refine lv_iload_n C.1 C.2.1 dX1_number_210 rfl (lv_at hl 3 rfl) ?_
                refine k_pi (k_runS (rest := [.int (zI (σ9.2.1 44 ((σ9.1 37 1) - 1))), .int (zI ((σ9.1 37 1) - 1)), .ref (ad 44)]) C aks Wd.1 cs_X1_97 (mk_W_isRead D r34 g_r34 _ hw l _) [] rfl (by decide) [] rfl rfl rfl ⟨(Nat.le_of_ble_eq_true rfl), (Nat.le_of_ble_eq_true rfl)⟩ hl.1 rfl rfl (Nat.le_of_ble_eq_true rfl) ⟨(Nat.le_of_ble_eq_true rfl), (Nat.le_of_ble_eq_true rfl)⟩ dX1_number_211) (fun y211 hy => ?_)
                obtain ⟨r211, rfl, g_r211, hw⟩ := hy
                refine lv_if_eq (tgt := 226) C.1 C.2.1 dX1_number_214 (by decide) (fun c214 => ?_) (fun c214 => ?_)
                · have hw := hw.1 (z0_eq g_r211 c214)
                  refine lv_iconst (v := zI 0) C.1 C.2.1 dX1_number_226 (by decide) ?_
                  refine k_ior (v := zI (zior (σ9.2.1 44 ((σ9.1 37 1) - 1)) 0)) C (zior_eq _ _) dX1_number_227 ?_
                  refine k_iastF (g := (σ9.2.1 44)) (i := ((σ9.1 37 1) - 1)) (v := (zior (σ9.2.1 44 ((σ9.1 37 1) - 1)) 0)) C Wd 44 (by decide) (cx44 _) (fun f => cx44a _ f) (tC_at (by decide) rfl) n197_1 (by decide) (ruZ (fun j => Wd.2.1.2.1 44 j) (rng_toInt _)) dX1_number_228 (fun H locs Wd => ?_)
                  refine lv_iinc (v := zI (l2_9 + 1)) (lv' := [(2, .int (zI (l2_9 + 1))), (0, .ref (ad 37)), (1, .int (zI l1_9)), (3, .int (zI r34))]) C.1 C.2.1 dX1_number_229 hl (k := 2) rfl (zI_inc _ _ (by decide)) (by decide) rfl (fun ls hl => ?_)
                  replace hl := lv_sub hl [1, 2, 0, 3] rfl
                  refine lv_goto (tgt := 9) C.1 C.2.1 dX1_number_232 (by decide) ?_
                  exact hL9 _ _ _ hw _ _ _ ⟨g_l1_9, g197_16, Wd, lv_sub hl [0, 1, 2] rfl⟩
                · have hw := hw.2 (z0_ne g_r211 c214)
                  refine lv_iconst (v := zI 1) C.1 C.2.1 dX1_number_217 (by decide) ?_
                  refine lv_iload_n C.1 C.2.1 dX1_number_218 rfl (lv_at hl 3 rfl) ?_
                  refine lv_bipush (v := zI 20) C.1 C.2.1 dX1_number_219 (by decide) ?_
                  refine k_isub (v := zI (r34 - 20)) C (zI_isub _ _) dX1_number_221 ?_
                  refine k_ishl (v := zI (zishl 1 (r34 - 20))) C (zishl_eq _ _) dX1_number_222 ?_
                  refine lv_goto (tgt := 227) C.1 C.2.1 dX1_number_223 (by decide) ?_
                  refine k_ior (v := zI (zior (σ9.2.1 44 ((σ9.1 37 1) - 1)) (zishl 1 (r34 - 20)))) C (zior_eq _ _) dX1_number_227 ?_
                  refine k_iastF (g := (σ9.2.1 44)) (i := ((σ9.1 37 1) - 1)) (v := (zior (σ9.2.1 44 ((σ9.1 37 1) - 1)) (zishl 1 (r34 - 20)))) C Wd 44 (by decide) (cx44 _) (fun f => cx44a _ f) (tC_at (by decide) rfl) n197_1 (by decide) (ruZ (fun j => Wd.2.1.2.1 44 j) (rng_toInt _)) dX1_number_228 (fun H locs Wd => ?_)
                  refine lv_iinc (v := zI (l2_9 + 1)) (lv' := [(2, .int (zI (l2_9 + 1))), (0, .ref (ad 37)), (1, .int (zI l1_9)), (3, .int (zI r34))]) C.1 C.2.1 dX1_number_229 hl (k := 2) rfl (zI_inc _ _ (by decide)) (by decide) rfl (fun ls hl => ?_)
                  replace hl := lv_sub hl [1, 2, 0, 3] rfl
                  refine lv_goto (tgt := 9) C.1 C.2.1 dX1_number_232 (by decide) ?_
                  exact hL9 _ _ _ hw _ _ _ ⟨g_l1_9, g197_16, Wd, lv_sub hl [0, 1, 2] rfl⟩
          refine lv_icmp_ne (tgt := 164) C.1 C.2.1 dX1_number_139 (by decide) (fun c139 => ?_) (fun c139 => ?_)
          · have hw := hw.1 (z_ne g_r34 (show rng 114 from by decide) c139)
            exact J164  _ _ _ ⟨hw, Wd, lv_sub hl [0, 1, 2, 3] rfl⟩
          · have hw := hw.2 (z_eq g_r34 (show rng 114 from by decide) c139)
            refine lv_iload_n C.1 C.2.1 dX1_number_142 rfl (lv_at hl 1 rfl) ?_
            refine lv_if_le (tgt := 164) C.1 C.2.1 dX1_number_143 (by decide) (fun c143 => ?_) (fun c143 => ?_)
            · have hw := hw.1 (z0_le g_l1_9 c143)
              exact J164  _ _ _ ⟨hw, Wd, lv_sub hl [0, 1, 2, 3] rfl⟩
            · have hw := hw.2 (z0_nle g_l1_9 c143)
              refine lv_iinc (v := zI (l1_9 - 1)) (lv' := [(1, .int (zI (l1_9 - 1))), (0, .ref (ad 37)), (2, .int (zI l2_9)), (3, .int (zI r34))]) C.1 C.2.1 dX1_number_146 hl (k := 1) rfl (zI_dec _ _ (by decide)) (by decide) rfl (fun ls hl => ?_)
              replace hl := lv_sub hl [1, 0, 2, 3] rfl
              refine lv_aload_n C.1 C.2.1 dX1_number_149 rfl (lv_at hl 0 rfl) ?_
              refine k_get (v := .ref (ad 49)) C Wd.1 KX1 _ 13 (cx37 _) (by decide) fl_X1_54 rfl dX1_number_150 ?_
              refine lv_iload_n C.1 C.2.1 dX1_number_153 rfl (lv_at hl 2 rfl) ?_
              refine lv_aload_n C.1 C.2.1 dX1_number_154 rfl (lv_at hl 0 rfl) ?_
              refine k_get (v := .ref (ad 48)) C Wd.1 KX1 _ 12 (cx37 _) (by decide) fl_X1_51 rfl dX1_number_155 ?_
              refine lv_iload_n C.1 C.2.1 dX1_number_158 rfl (lv_at hl 1 rfl) ?_
              obtain ⟨n159_0, hw⟩ := hw
              refine k_ialdK (g := (σ9.2.1 48)) C Wd (cx48 _) (tC_at (by decide) rfl) n159_0 (by decide) dX1_number_159 ?_
              have ga159 : rng (σ9.2.1 48 (l1_9 - 1)) := rngL (fun j => (Wd.2.1).2.1 48 j) n159_0
              refine k_iastF (g := (uZ (σ9.2.1 49) l2_9 (-1))) (i := l2_9) (v := (σ9.2.1 48 (l1_9 - 1))) C Wd 49 (by decide) (cx49 _) (fun f => cx49a _ f) (tC_at (by decide) rfl) n44_0 (by decide) (ruZ (fun j => Wd.2.1.2.1 49 j) ga159) dX1_number_160 (fun H locs Wd => ?_)
              refine lv_goto (tgt := 229) C.1 C.2.1 dX1_number_161 (by decide) ?_
              refine lv_iinc (v := zI (l2_9 + 1)) (lv' := [(2, .int (zI (l2_9 + 1))), (0, .ref (ad 37)), (1, .int (zI (l1_9 - 1))), (3, .int (zI r34))]) C.1 C.2.1 dX1_number_229 hl (k := 2) rfl (zI_inc _ _ (by decide)) (by decide) rfl (fun ls hl => ?_)
              replace hl := lv_sub hl [1, 2, 0, 3] rfl
              refine lv_goto (tgt := 9) C.1 C.2.1 dX1_number_232 (by decide) ?_
              obtain ⟨g232_17, hw⟩ := hw
              obtain ⟨g232_18, hw⟩ := hw
              exact hL9 _ _ _ hw _ _ _ ⟨g232_17, g232_18, Wd, lv_sub hl [0, 1, 2] rfl⟩
        refine lv_icmp_ne (tgt := 136) C.1 C.2.1 dX1_number_112 (by decide) (fun c112 => ?_) (fun c112 => ?_)
        · have hw := hw.1 (z_ne g_r34 (show rng 113 from by decide) c112)
          exact J136  _ _ _ ⟨hw, Wd, lv_sub hl [0, 1, 2, 3] rfl⟩
        · have hw := hw.2 (z_eq g_r34 (show rng 113 from by decide) c112)
          refine lv_iload_n C.1 C.2.1 dX1_number_115 rfl (lv_at hl 1 rfl) ?_
          refine lv_if_le (tgt := 136) C.1 C.2.1 dX1_number_116 (by decide) (fun c116 => ?_) (fun c116 => ?_)
          · have hw := hw.1 (z0_le g_l1_9 c116)
            exact J136  _ _ _ ⟨hw, Wd, lv_sub hl [0, 1, 2, 3] rfl⟩
          · have hw := hw.2 (z0_nle g_l1_9 c116)
            refine lv_aload_n C.1 C.2.1 dX1_number_119 rfl (lv_at hl 0 rfl) ?_
            refine k_get (v := .ref (ad 49)) C Wd.1 KX1 _ 13 (cx37 _) (by decide) fl_X1_54 rfl dX1_number_120 ?_
            refine lv_iload_n C.1 C.2.1 dX1_number_123 rfl (lv_at hl 2 rfl) ?_
            refine lv_aload_n C.1 C.2.1 dX1_number_124 rfl (lv_at hl 0 rfl) ?_
            refine k_get (v := .ref (ad 48)) C Wd.1 KX1 _ 12 (cx37 _) (by decide) fl_X1_51 rfl dX1_number_125 ?_
            refine lv_iload_n C.1 C.2.1 dX1_number_128 rfl (lv_at hl 1 rfl) ?_
            refine lv_iconst (v := zI 1) C.1 C.2.1 dX1_number_129 (by decide) ?_
            refine k_isub (v := zI (l1_9 - 1)) C (zI_isub _ _) dX1_number_130 ?_
            obtain ⟨n131_0, hw⟩ := hw
            refine k_ialdK (g := (σ9.2.1 48)) C Wd (cx48 _) (tC_at (by decide) rfl) n131_0 (by decide) dX1_number_131 ?_
            have ga131 : rng (σ9.2.1 48 (l1_9 - 1)) := rngL (fun j => (Wd.2.1).2.1 48 j) n131_0
            refine k_iastF (g := (uZ (σ9.2.1 49) l2_9 (-1))) (i := l2_9) (v := (σ9.2.1 48 (l1_9 - 1))) C Wd 49 (by decide) (cx49 _) (fun f => cx49a _ f) (tC_at (by decide) rfl) n44_0 (by decide) (ruZ (fun j => Wd.2.1.2.1 49 j) ga131) dX1_number_132 (fun H locs Wd => ?_)
            refine lv_goto (tgt := 229) C.1 C.2.1 dX1_number_133 (by decide) ?_
            refine lv_iinc (v := zI (l2_9 + 1)) (lv' := [(2, .int (zI (l2_9 + 1))), (0, .ref (ad 37)), (1, .int (zI l1_9)), (3, .int (zI r34))]) C.1 C.2.1 dX1_number_229 hl (k := 2) rfl (zI_inc _ _ (by decide)) (by decide) rfl (fun ls hl => ?_)
            replace hl := lv_sub hl [1, 2, 0, 3] rfl
            refine lv_goto (tgt := 9) C.1 C.2.1 dX1_number_232 (by decide) ?_
            obtain ⟨g232_19, hw⟩ := hw
            exact hL9 _ _ _ hw _ _ _ ⟨g_l1_9, g232_19, Wd, lv_sub hl [0, 1, 2] rfl⟩
      refine lv_if_eq (tgt := 109) C.1 C.2.1 dX1_number_49 (by decide) (fun c49 => ?_) (fun c49 => ?_)
      · have hw := hw.1 (z0_eq g_r46 c49)
        exact J109  _ _ _ ⟨hw, Wd, lv_sub hl [0, 1, 2, 3] rfl⟩
      · have hw := hw.2 (z0_ne g_r46 c49)
        refine lv_aload_n C.1 C.2.1 dX1_number_52 rfl (lv_at hl 0 rfl) ?_
        refine k_get (v := .int (zI (σ9.1 37 1))) C Wd.1 KX1 _ 1 (cx37 _) (by decide) fl_X1_57 rfl dX1_number_53 ?_
        refine lv_bipush (v := zI 40) C.1 C.2.1 dX1_number_56 (by decide) ?_
        refine lv_icmp_ge (tgt := 109) C.1 C.2.1 dX1_number_58 (by decide) (fun c58 => ?_) (fun c58 => ?_)
        · have hw := hw.1 (z_le (show rng 40 from by decide) (hS_σ9.1 37 1) c58)
          exact J109  _ _ _ ⟨hw, Wd, lv_sub hl [0, 1, 2, 3] rfl⟩
        · have hw := hw.2 (z_nle (show rng 40 from by decide) (hS_σ9.1 37 1) c58)
          refine lv_aload_n C.1 C.2.1 dX1_number_61 rfl (lv_at hl 0 rfl) ?_
          refine k_get (v := .ref (ad 49)) C Wd.1 KX1 _ 13 (cx37 _) (by decide) fl_X1_54 rfl dX1_number_62 ?_
          refine lv_iload_n C.1 C.2.1 dX1_number_65 rfl (lv_at hl 2 rfl) ?_
          refine lv_aload_n C.1 C.2.1 dX1_number_66 rfl (lv_at hl 0 rfl) ?_
          refine k_get (v := .int (zI (σ9.1 37 1))) C Wd.1 KX1 _ 1 (cx37 _) (by decide) fl_X1_57 rfl dX1_number_67 ?_
          refine k_iastF (g := (uZ (σ9.2.1 49) l2_9 (-1))) (i := l2_9) (v := (σ9.1 37 1)) C Wd 49 (by decide) (cx49 _) (fun f => cx49a _ f) (tC_at (by decide) rfl) n44_0 (by decide) (ruZ (fun j => Wd.2.1.2.1 49 j) (hS_σ9.1 37 1)) dX1_number_70 (fun H locs Wd => ?_)
          refine lv_iload_n C.1 C.2.1 dX1_number_71 rfl (lv_at hl 3 rfl) ?_
          refine k_pi (k_runS (rest := []) C aks Wd.1 cs_X1_87 (mk_W_isBranch D r34 g_r34 _ hw l _) [] rfl (by decide) [] rfl rfl rfl ⟨(Nat.le_of_ble_eq_true rfl), (Nat.le_of_ble_eq_true rfl)⟩ hl.1 rfl rfl (Nat.le_of_ble_eq_true rfl) ⟨(Nat.le_of_ble_eq_true rfl), (Nat.le_of_ble_eq_true rfl)⟩ dX1_number_72) (fun y72 hy => ?_)
          obtain ⟨r72, rfl, g_r72, hw⟩ := hy
          refine k_cut2 (fun (l1_100 : Int) (σ100 : Sg) H locs ls => rng l1_100 ∧ wp5_F_number_100 37 l2_9 r34 L9 l1_100 σ100 ∧ wXK D ad ca rf s σ100 H A s.heap locs ∧ lv_has ls 4 [(0, .ref (ad 37)), (1, .int (zI l1_100)), (2, .int (zI l2_9)), (3, .int (zI r34))]) (fun (l1_100 : Int) (σ100 : Sg) ls => F0 m 100 ls []) (fun l1_100 σ100 H locs ls hi => ?_) (fun J100 => ?_)
          · obtain ⟨g_l1_100, hw, Wd, hl⟩ := hi
            have hS_σ100 := Wd.2.1
            unfold wp5_F_number_100 at hw
            refine lv_aload_n C.1 C.2.1 dX1_number_100 rfl (lv_at hl 0 rfl) ?_
            refine lv_iload_n C.1 C.2.1 dX1_number_101 rfl (lv_at hl 2 rfl) ?_
            refine lv_iload_n C.1 C.2.1 dX1_number_102 rfl (lv_at hl 3 rfl) ?_
            refine k_cKv Wd (k_runVK (rest := []) C aks Wd cs_X1_90 (mk_F_begin_37 D ad ca rf σ100 Wd.2.1 Wd.2.2 l2_9 r34 g_l2_9 g_r34 _ hw l _) (cx37 _) rfl rfl rfl rfl ⟨(Nat.le_of_ble_eq_true rfl), (Nat.le_of_ble_eq_true rfl)⟩ hl.1 rfl rfl (Nat.le_of_ble_eq_true rfl) ⟨(Nat.le_of_ble_eq_true rfl), (Nat.le_of_ble_eq_true rfl)⟩ dX1_number_103) (fun σr103 H locs hw Wd => ?_)
            have hS_σr103 := Wd.2.1
            refine lv_goto (tgt := 229) C.1 C.2.1 dX1_number_106 (by decide) ?_
            refine lv_iinc (v := zI (l2_9 + 1)) (lv' := [(2, .int (zI (l2_9 + 1))), (0, .ref (ad 37)), (1, .int (zI l1_100)), (3, .int (zI r34))]) C.1 C.2.1 dX1_number_229 hl (k := 2) rfl (zI_inc _ _ (by decide)) (by decide) rfl (fun ls hl => ?_)
            replace hl := lv_sub hl [1, 2, 0, 3] rfl
            refine lv_goto (tgt := 9) C.1 C.2.1 dX1_number_232 (by decide) ?_
            obtain ⟨g232_20, hw⟩ := hw
            exact hL9 _ _ _ hw _ _ _ ⟨g_l1_100, g232_20, Wd, lv_sub hl [0, 1, 2] rfl⟩
          refine lv_if_eq (tgt := 100) C.1 C.2.1 dX1_number_75 (by decide) (fun c75 => ?_) (fun c75 => ?_)
          · have hw := hw.1 (z0_eq g_r72 c75)
            exact J100 l1_9 (pF (pF σ9 49 (uZ (σ9.2.1 49) l2_9 (-1))) 49 (uZ (uZ (σ9.2.1 49) l2_9 (-1)) l2_9 (σ9.1 37 1))) _ _ _ ⟨g_l1_9, hw, Wd, lv_sub hl [0, 1, 2, 3] rfl⟩
          · have hw := hw.2 (z0_ne g_r72 c75)
            refine lv_iload_n C.1 C.2.1 dX1_number_78 rfl (lv_at hl 1 rfl) ?_
            refine lv_aload_n C.1 C.2.1 dX1_number_79 rfl (lv_at hl 0 rfl) ?_
            refine k_get (v := .ref (ad 48)) C Wd.1 KX1 _ 12 (cx37 _) (by decide) fl_X1_51 rfl dX1_number_80 ?_
            refine k_alen (v := zI 40) C Wd.1 48 48 (cx48 _) (tC_at (by decide) rfl) rfl dX1_number_83 ?_
            refine lv_icmp_ge (tgt := 100) C.1 C.2.1 dX1_number_84 (by decide) (fun c84 => ?_) (fun c84 => ?_)
            · have hw := hw.1 (z_le (show rng 40 from by decide) g_l1_9 c84)
              exact J100 l1_9 (pF (pF σ9 49 (uZ (σ9.2.1 49) l2_9 (-1))) 49 (uZ (uZ (σ9.2.1 49) l2_9 (-1)) l2_9 (σ9.1 37 1))) _ _ _ ⟨g_l1_9, hw, Wd, lv_sub hl [0, 1, 2, 3] rfl⟩
            · have hw := hw.2 (z_nle (show rng 40 from by decide) g_l1_9 c84)
              refine lv_aload_n C.1 C.2.1 dX1_number_87 rfl (lv_at hl 0 rfl) ?_
              refine k_get (v := .ref (ad 48)) C Wd.1 KX1 _ 12 (cx37 _) (by decide) fl_X1_51 rfl dX1_number_88 ?_
              refine lv_iload_n C.1 C.2.1 dX1_number_91 rfl (lv_at hl 1 rfl) ?_
              refine lv_aload_n C.1 C.2.1 dX1_number_92 rfl (lv_at hl 0 rfl) ?_
              refine k_get (v := .int (zI (σ9.1 37 1))) C Wd.1 KX1 _ 1 (cx37 _) (by decide) fl_X1_57 rfl dX1_number_93 ?_
              obtain ⟨n96_0, hw⟩ := hw
              refine k_iastF (g := (σ9.2.1 48)) (i := l1_9) (v := (σ9.1 37 1)) C Wd 48 (by decide) (cx48 _) (fun f => cx48a _ f) (tC_at (by decide) rfl) n96_0 (by decide) (ruZ (fun j => Wd.2.1.2.1 48 j) (hS_σ9.1 37 1)) dX1_number_96 (fun H locs Wd => ?_)
              refine lv_iinc (v := zI (l1_9 + 1)) (lv' := [(1, .int (zI (l1_9 + 1))), (0, .ref (ad 37)), (2, .int (zI l2_9)), (3, .int (zI r34))]) C.1 C.2.1 dX1_number_97 hl (k := 1) rfl (zI_inc _ _ (by decide)) (by decide) rfl (fun ls hl => ?_)
              replace hl := lv_sub hl [1, 0, 2, 3] rfl
              obtain ⟨g97_21, hw⟩ := hw
              exact J100 (l1_9 + 1) (pF (pF (pF σ9 49 (uZ (σ9.2.1 49) l2_9 (-1))) 49 (uZ (uZ (σ9.2.1 49) l2_9 (-1)) l2_9 (σ9.1 37 1))) 48 (uZ (σ9.2.1 48) l1_9 (σ9.1 37 1))) _ _ _ ⟨g97_21, hw, Wd, lv_sub hl [0, 1, 2, 3] rfl⟩
