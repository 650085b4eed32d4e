set_option maxHeartbeats 4000000 in
set_option maxRecDepth 100000 in
theorem mk_M_doStatement_50 : ∀ (D : va_G) (ad : Nat → Nat) (ca : Nat → ClassId) (rf : Nat → Nat → Option Nat) (σ : Sg) (hS : rngK σ) (hRF : RFok ad rf) (x0 : Int) (g_x0 : rng x0) (K : Int → Sg → Prop) (hw : wp5_M_doStatement σ 50 x0 K) (l : Launch) (sz : Nat), Met l yX3_doStatement (Cond.code yX3_doStatement cX3_doStatement 4 (some .int) :: gG) { frames := 3, cells := 0, slots := 0, locals := 124 } (cPre D (tC ca) (wK ad ca rf σ) sz [.ref (ad 50), .int (zI x0)]) (va_Qi (fun (r : Int32) (u : Sg) => (∃ x : Int, r = zI x ∧ rng x ∧ K x u) ∧ rngK u) (fun u t => cB D (va_A (wK ad ca rf σ) sz) [] (wK ad ca rf u) t) (va_A (wK ad ca rf σ) sz)) 0 0 (va_A (wK ad ca rf σ) sz) := by
  intro D ad ca rf σ hS hRF x0 g_x0 K hw l sz
  refine Met.ofW (cc := cX3_doStatement) (maxL := 4) (ret := (some .int)) (by decide) rfl ?_
  intro p e s m args below meth c s₁ B hml hv
  obtain ⟨rfl, aks, rfl, Wd⟩ := k_enter hv
  have C : CallFix p m c cX3_doStatement 4 s _ gG RX3 := ⟨B.exec, B.bytes, hml, findClass_of_methodNamed B.named, fun w h => atoms_spec (ws := Cond.code yX3_doStatement cX3_doStatement 4 (some .int) :: gG) B.pre w (List.mem_cons_of_mem _ h)⟩
  have hr := B.returns
  have hlk := B.notSynchronized
  generalize va_A (wK ad ca rf σ) s.heap.size = A at Wd ⊢
  replace Wd : wXK D ad ca rf s σ s.heap A s.heap [] := ⟨Wd, hS, hRF⟩
  refine k_locals (Nat.le_of_ble_eq_true rfl) [(0, .ref (ad 50)), (1, .int (zI x0))] rfl (fun ls hl => ?_)
  unfold wp5_M_doStatement at hw
  refine lv_aload_n C.1 C.2.1 dX3_doStatement_0 rfl (lv_at hl 0 rfl) ?_
  refine k_get (v := .ref (ad 54)) C Wd.1 KX3 _ 0 (cx50 _) (by decide) fl_X3_12 rfl dX3_doStatement_1 ?_
  refine lv_iload_n C.1 C.2.1 dX3_doStatement_4 rfl (lv_at hl 1 rfl) ?_
  refine k_pi (k_runVK (rest := []) C aks Wd cs_X3_48 (mk_F_isHere_54 D ad ca rf σ Wd.2.1 Wd.2.2 x0 g_x0 _ hw l _) (cx54 _) rfl rfl rfl rfl ⟨(Nat.le_of_ble_eq_true rfl), (Nat.le_of_ble_eq_true rfl)⟩ hl.1 rfl rfl (Nat.le_of_ble_eq_true rfl) ⟨(Nat.le_of_ble_eq_true rfl), (Nat.le_of_ble_eq_true rfl)⟩ dX3_doStatement_5) (fun y5 hy => ?_)
  obtain ⟨r5, rfl, g_r5, hw⟩ := hy
  refine lv_if_ne (tgt := 13) C.1 C.2.1 dX3_doStatement_8 (by decide) (fun c8 => ?_) (fun c8 => ?_)
  · have hw := hw.1 (z0_ne g_r5 c8)
    refine lv_aload_n C.1 C.2.1 dX3_doStatement_13 rfl (lv_at hl 0 rfl) ?_
    refine k_get (v := .ref (ad 54)) C Wd.1 KX3 _ 0 (cx50 _) (by decide) fl_X3_12 rfl dX3_doStatement_14 ?_
    refine k_get (v := .ref (ad 56)) C Wd.1 KX1 _ 3 (cx54 _) (by decide) fl_X3_52 rfl dX3_doStatement_17 ?_
    refine lv_iload_n C.1 C.2.1 dX3_doStatement_20 rfl (lv_at hl 1 rfl) ?_
    obtain ⟨n21_0, hw⟩ := hw
    refine k_ialdK (g := (σ.2.1 56)) C Wd (cx56 _) (tC_at (by decide) rfl) n21_0 (by decide) dX3_doStatement_21 ?_
    have ga21 : rng (σ.2.1 56 x0) := rngL (fun j => (Wd.2.1).2.1 56 j) n21_0
    refine lv_istore_n (lv' := [(2, .int (zI (σ.2.1 56 x0))), (0, .ref (ad 50)), (1, .int (zI x0))]) C.1 C.2.1 dX3_doStatement_22 rfl hl (by decide) rfl (fun ls hl => ?_)
    replace hl := lv_sub hl [1, 2, 0] rfl
    refine lv_iload_n C.1 C.2.1 dX3_doStatement_23 rfl (lv_at hl 2 rfl) ?_
    refine lv_bipush (v := zI 111) C.1 C.2.1 dX3_doStatement_24 (by decide) ?_
    refine lv_icmp_ne (tgt := 32) C.1 C.2.1 dX3_doStatement_26 (by decide) (fun c26 => ?_) (fun c26 => ?_)
    · have hw := hw.1 (z_ne ga21 (show rng 111 from by decide) c26)
      refine lv_aload_n C.1 C.2.1 dX3_doStatement_32 rfl (lv_at hl 0 rfl) ?_
      refine k_get (v := .ref (ad 54)) C Wd.1 KX3 _ 0 (cx50 _) (by decide) fl_X3_12 rfl dX3_doStatement_33 ?_
      obtain ⟨n36_0, hw⟩ := hw
      refine k_get (v := .ref (ad (rowC (σ.1 54 0).toNat))) C Wd.1 KX1 _ 0 (cx54 _) (by decide) fl_X3_55 (congrArg some (rvW_ref n36_0)) dX3_doStatement_36 ?_
      refine lv_aload_n C.1 C.2.1 dX3_doStatement_39 rfl (lv_at hl 0 rfl) ?_
      refine k_get (v := .ref (ad 54)) C Wd.1 KX3 _ 0 (cx50 _) (by decide) fl_X3_12 rfl dX3_doStatement_40 ?_
      refine k_get (v := .ref (ad 57)) C Wd.1 KX1 _ 4 (cx54 _) (by decide) fl_X3_59 rfl dX3_doStatement_43 ?_
      refine lv_iload_n C.1 C.2.1 dX3_doStatement_46 rfl (lv_at hl 1 rfl) ?_
      refine k_ialdK (g := (σ.2.1 57)) C Wd (cx57 _) (tC_at (by decide) rfl) n21_0 (by decide) dX3_doStatement_47 ?_
      have ga47 : rng (σ.2.1 57 x0) := rngL (fun j => (Wd.2.1).2.1 57 j) n21_0
      refine lv_aload_n C.1 C.2.1 dX3_doStatement_48 rfl (lv_at hl 0 rfl) ?_
      refine k_get (v := .ref (ad 54)) C Wd.1 KX3 _ 0 (cx50 _) (by decide) fl_X3_12 rfl dX3_doStatement_49 ?_
      refine k_get (v := .ref (ad 58)) C Wd.1 KX1 _ 5 (cx54 _) (by decide) fl_X3_62 rfl dX3_doStatement_52 ?_
      refine lv_iload_n C.1 C.2.1 dX3_doStatement_55 rfl (lv_at hl 1 rfl) ?_
      refine k_ialdK (g := (σ.2.1 58)) C Wd (cx58 _) (tC_at (by decide) rfl) n21_0 (by decide) dX3_doStatement_56 ?_
      have ga56 : rng (σ.2.1 58 x0) := rngL (fun j => (Wd.2.1).2.1 58 j) n21_0
      refine lv_aload_n C.1 C.2.1 dX3_doStatement_57 rfl (lv_at hl 0 rfl) ?_
      refine k_get (v := .ref (ad 52)) C Wd.1 KX3 _ 5 (cx50 _) (by decide) fl_X3_22 rfl dX3_doStatement_58 ?_
      refine lv_aload_n C.1 C.2.1 dX3_doStatement_61 rfl (lv_at hl 0 rfl) ?_
      refine k_get (v := .ref (ad 53)) C Wd.1 KX3 _ 6 (cx50 _) (by decide) fl_X3_25 rfl dX3_doStatement_62 ?_
      refine k_cKv Wd (k_runVK (rest := []) C aks Wd cs_X3_65 (mk_W_reckonM_50 D ad ca rf σ Wd.2.1 Wd.2.2 (σ.1 54 0) (σ.2.1 57 x0) (σ.2.1 58 x0) n36_0 ga47 ga56 _ hw l _) (cxRow n36_0) rfl rfl rfl rfl ⟨(Nat.le_of_ble_eq_true rfl), (Nat.le_of_ble_eq_true rfl)⟩ hl.1 rfl rfl (Nat.le_of_ble_eq_true rfl) ⟨(Nat.le_of_ble_eq_true rfl), (Nat.le_of_ble_eq_true rfl)⟩ dX3_doStatement_65) (fun σr65 H locs hw Wd => ?_)
      have hS_σr65 := Wd.2.1
      refine lv_iload_n C.1 C.2.1 dX3_doStatement_68 rfl (lv_at hl 2 rfl) ?_
      refine k_pi (k_runS (rest := []) C aks Wd.1 cs_X3_71 (mk_W_isBranch D (σ.2.1 56 x0) ga21 _ hw l _) [] rfl (by decide) [] rfl rfl rfl ⟨(Nat.le_of_ble_eq_true rfl), (Nat.le_of_ble_eq_true rfl)⟩ hl.1 rfl rfl (Nat.le_of_ble_eq_true rfl) ⟨(Nat.le_of_ble_eq_true rfl), (Nat.le_of_ble_eq_true rfl)⟩ dX3_doStatement_69) (fun y69 hy => ?_)
      obtain ⟨r69, rfl, g_r69, hw⟩ := hy
      refine lv_if_eq (tgt := 138) C.1 C.2.1 dX3_doStatement_72 (by decide) (fun c72 => ?_) (fun c72 => ?_)
      · have hw := hw.1 (z0_eq g_r69 c72)
        refine lv_iload_n C.1 C.2.1 dX3_doStatement_138 rfl (lv_at hl 2 rfl) ?_
        refine lv_bipush (v := zI 110) C.1 C.2.1 dX3_doStatement_139 (by decide) ?_
        refine k_cut0 (fun H locs ls => wp5_M_doStatement_184 K σ 50 x0 σr65 ∧ wXK D ad ca rf s σr65 H A s.heap locs ∧ lv_has ls 4 [(0, .ref (ad 50)), (1, .int (zI x0)), (2, .int (zI (σ.2.1 56 x0)))]) (fun  ls => F0 m 184 ls []) (fun  H locs ls hi => ?_) (fun J184 => ?_)
        · obtain ⟨hw, Wd, hl⟩ := hi
          unfold wp5_M_doStatement_184 at hw
          refine lv_iload_n C.1 C.2.1 dX3_doStatement_184 rfl (lv_at hl 2 rfl) ?_
          refine k_pi (k_runS (rest := []) C aks Wd.1 cs_X3_90 (mk_W_isSet D (σ.2.1 56 x0) ga21 _ hw l _) [] rfl (by decide) [] rfl rfl rfl ⟨(Nat.le_of_ble_eq_true rfl), (Nat.le_of_ble_eq_true rfl)⟩ hl.1 rfl rfl (Nat.le_of_ble_eq_true rfl) ⟨(Nat.le_of_ble_eq_true rfl), (Nat.le_of_ble_eq_true rfl)⟩ dX3_doStatement_185) (fun y185 hy => ?_)
          obtain ⟨r185, rfl, g_r185, hw⟩ := hy
          refine lv_if_eq (tgt := 206) C.1 C.2.1 dX3_doStatement_188 (by decide) (fun c188 => ?_) (fun c188 => ?_)
          · have hw := hw.1 (z0_eq g_r185 c188)
            refine lv_aload_n C.1 C.2.1 dX3_doStatement_206 rfl (lv_at hl 0 rfl) ?_
            refine k_get (v := .ref (ad 54)) C Wd.1 KX3 _ 0 (cx50 _) (by decide) fl_X3_12 rfl dX3_doStatement_207 ?_
            refine k_get (v := .ref (ad 59)) C Wd.1 KX1 _ 6 (cx54 _) (by decide) fl_X3_84 rfl dX3_doStatement_210 ?_
            refine lv_iload_n C.1 C.2.1 dX3_doStatement_213 rfl (lv_at hl 1 rfl) ?_
            refine k_ialdK (g := (σr65.2.1 59)) C Wd (cx59 _) (tC_at (by decide) rfl) n21_0 (by decide) dX3_doStatement_214 ?_
            have ga214 : rng (σr65.2.1 59 x0) := rngL (fun j => (Wd.2.1).2.1 59 j) n21_0
            exact k_retKi C hr hlk rfl Wd ⟨_, rfl, ga214, hw⟩ dX3_doStatement_215
          · have hw := hw.2 (z0_ne g_r185 c188)
            refine lv_aload_n C.1 C.2.1 dX3_doStatement_191 rfl (lv_at hl 0 rfl) ?_
            refine k_get (v := .ref (ad 52)) C Wd.1 KX3 _ 5 (cx50 _) (by decide) fl_X3_22 rfl dX3_doStatement_192 ?_
            refine lv_iload_n C.1 C.2.1 dX3_doStatement_195 rfl (lv_at hl 2 rfl) ?_
            refine lv_bipush (v := zI 100) C.1 C.2.1 dX3_doStatement_196 (by decide) ?_
            refine k_isub (v := zI ((σ.2.1 56 x0) - 100)) C (zI_isub _ _) dX3_doStatement_198 ?_
            refine lv_aload_n C.1 C.2.1 dX3_doStatement_199 rfl (lv_at hl 0 rfl) ?_
            refine k_get (v := .ref (ad 53)) C Wd.1 KX3 _ 6 (cx50 _) (by decide) fl_X3_25 rfl dX3_doStatement_200 ?_
            refine lv_iconst (v := zI 0) C.1 C.2.1 dX3_doStatement_203 (by decide) ?_
            refine k_ialdK (g := (σr65.2.1 53)) C Wd (cx53 _) (tC_at (by decide) rfl) (show (0 : Int) ≤ 0 ∧ (0 : Int) < 300 from by decide) (by decide) dX3_doStatement_204 ?_
            have ga204 : rng (σr65.2.1 53 0) := rngL (fun j => (Wd.2.1).2.1 53 j) (show (0 : Int) ≤ 0 ∧ (0 : Int) < 300 from by decide)
            obtain ⟨n205_0, hw⟩ := hw
            refine k_iastF (g := (σr65.2.1 52)) (i := ((σ.2.1 56 x0) - 100)) (v := (σr65.2.1 53 0)) C Wd 52 (by decide) (cx52 _) (fun f => cx52a _ f) (tC_at (by decide) rfl) n205_0 (by decide) (ruZ (fun j => Wd.2.1.2.1 52 j) ga204) dX3_doStatement_205 (fun H locs Wd => ?_)
            refine lv_aload_n C.1 C.2.1 dX3_doStatement_206 rfl (lv_at hl 0 rfl) ?_
            refine k_get (v := .ref (ad 54)) C Wd.1 KX3 _ 0 (cx50 _) (by decide) fl_X3_12 rfl dX3_doStatement_207 ?_
            refine k_get (v := .ref (ad 59)) C Wd.1 KX1 _ 6 (cx54 _) (by decide) fl_X3_84 rfl dX3_doStatement_210 ?_
            refine lv_iload_n C.1 C.2.1 dX3_doStatement_213 rfl (lv_at hl 1 rfl) ?_
            refine k_ialdK (g := (σr65.2.1 59)) C Wd (cx59 _) (tC_at (by decide) rfl) n21_0 (by decide) dX3_doStatement_214 ?_
            have ga214 : rng (σr65.2.1 59 x0) := rngL (fun j => (Wd.2.1).2.1 59 j) n21_0
            exact k_retKi C hr hlk rfl Wd ⟨_, rfl, ga214, hw⟩ dX3_doStatement_215
        refine lv_icmp_ne (tgt := 184) C.1 C.2.1 dX3_doStatement_141 (by decide) (fun c141 => ?_) (fun c141 => ?_)
        · have hw := hw.1 (z_ne ga21 (show rng 110 from by decide) c141)
          exact J184  _ _ _ ⟨hw, Wd, lv_sub hl [0, 1, 2] rfl⟩
        · have hw := hw.2 (z_eq ga21 (show rng 110 from by decide) c141)
          refine lv_aload_n C.1 C.2.1 dX3_doStatement_144 rfl (lv_at hl 0 rfl) ?_
          refine k_get (v := .int (zI (σr65.1 50 2))) C Wd.1 KX3 _ 2 (cx50 _) (by decide) fl_X3_28 rfl dX3_doStatement_145 ?_
          refine lv_aload_n C.1 C.2.1 dX3_doStatement_148 rfl (lv_at hl 0 rfl) ?_
          refine k_get (v := .ref (ad 51)) C Wd.1 KX3 _ 1 (cx50 _) (by decide) fl_X3_18 rfl dX3_doStatement_149 ?_
          refine k_alen (v := zI 100) C Wd.1 51 51 (cx51 _) (tC_at (by decide) rfl) rfl dX3_doStatement_152 ?_
          refine lv_icmp_ge (tgt := 184) C.1 C.2.1 dX3_doStatement_153 (by decide) (fun c153 => ?_) (fun c153 => ?_)
          · have hw := hw.1 (z_le (show rng 100 from by decide) (hS_σr65.1 50 2) c153)
            exact J184  _ _ _ ⟨hw, Wd, lv_sub hl [0, 1, 2] rfl⟩
          · have hw := hw.2 (z_nle (show rng 100 from by decide) (hS_σr65.1 50 2) c153)
            refine lv_aload_n C.1 C.2.1 dX3_doStatement_156 rfl (lv_at hl 0 rfl) ?_
            refine k_get (v := .ref (ad 51)) C Wd.1 KX3 _ 1 (cx50 _) (by decide) fl_X3_18 rfl dX3_doStatement_157 ?_
            refine lv_aload_n C.1 C.2.1 dX3_doStatement_160 rfl (lv_at hl 0 rfl) ?_
            refine k_get (v := .int (zI (σr65.1 50 2))) C Wd.1 KX3 _ 2 (cx50 _) (by decide) fl_X3_28 rfl dX3_doStatement_161 ?_
            refine lv_aload_n C.1 C.2.1 dX3_doStatement_164 rfl (lv_at hl 0 rfl) ?_
            refine k_get (v := .ref (ad 53)) C Wd.1 KX3 _ 6 (cx50 _) (by decide) fl_X3_25 rfl dX3_doStatement_165 ?_
            refine lv_iconst (v := zI 0) C.1 C.2.1 dX3_doStatement_168 (by decide) ?_
            refine k_ialdK (g := (σr65.2.1 53)) C Wd (cx53 _) (tC_at (by decide) rfl) (show (0 : Int) ≤ 0 ∧ (0 : Int) < 300 from by decide) (by decide) dX3_doStatement_169 ?_
            have ga169 : rng (σr65.2.1 53 0) := rngL (fun j => (Wd.2.1).2.1 53 j) (show (0 : Int) ≤ 0 ∧ (0 : Int) < 300 from by decide)
            obtain ⟨n170_0, hw⟩ := hw
            refine k_iastF (g := (σr65.2.1 51)) (i := (σr65.1 50 2)) (v := (σr65.2.1 53 0)) C Wd 51 (by decide) (cx51 _) (fun f => cx51a _ f) (tC_at (by decide) rfl) n170_0 (by decide) (ruZ (fun j => Wd.2.1.2.1 51 j) ga169) dX3_doStatement_170 (fun H locs Wd => ?_)
            refine lv_aload_n C.1 C.2.1 dX3_doStatement_171 rfl (lv_at hl 0 rfl) ?_
            refine lv_dup C.1 C.2.1 dX3_doStatement_172 rfl ?_
            refine k_get (v := .int (zI (σr65.1 50 2))) C Wd.1 KX3 _ 2 (cx50 _) (by decide) fl_X3_28 rfl dX3_doStatement_173 ?_
            refine lv_iconst (v := zI 1) C.1 C.2.1 dX3_doStatement_176 (by decide) ?_
            refine k_iadd (v := zI ((σr65.1 50 2) + 1)) C (zI_iadd _ _) dX3_doStatement_177 ?_
            obtain ⟨g178_2, hw⟩ := hw
            refine k_putK (v := ((σr65.1 50 2) + 1)) C Wd KX3 50 2 (by decide) (cx50 _) rfl (by decide) fl_X3_28 rfl rfl rfl (Nat.le_of_ble_eq_true rfl) g178_2 dX3_doStatement_178 (fun H locs Wd => ?_)
            refine lv_goto (tgt := 206) C.1 C.2.1 dX3_doStatement_181 (by decide) ?_
            refine lv_aload_n C.1 C.2.1 dX3_doStatement_206 rfl (lv_at hl 0 rfl) ?_
            refine k_get (v := .ref (ad 54)) C Wd.1 KX3 _ 0 (cx50 _) (by decide) fl_X3_12 rfl dX3_doStatement_207 ?_
            refine k_get (v := .ref (ad 59)) C Wd.1 KX1 _ 6 (cx54 _) (by decide) fl_X3_84 rfl dX3_doStatement_210 ?_
            refine lv_iload_n C.1 C.2.1 dX3_doStatement_213 rfl (lv_at hl 1 rfl) ?_
            refine k_ialdK (g := (σr65.2.1 59)) C Wd (cx59 _) (tC_at (by decide) rfl) n21_0 (by decide) dX3_doStatement_214 ?_
            have ga214 : rng (σr65.2.1 59 x0) := rngL (fun j => (Wd.2.1).2.1 59 j) n21_0
            exact k_retKi C hr hlk rfl Wd ⟨_, rfl, ga214, hw⟩ dX3_doStatement_215
      · have hw := hw.2 (z0_ne g_r69 c72)
        refine lv_aload_n C.1 C.2.1 dX3_doStatement_75 rfl (lv_at hl 0 rfl) ?_
        refine k_get (v := .ref (ad 54)) C Wd.1 KX3 _ 0 (cx50 _) (by decide) fl_X3_12 rfl dX3_doStatement_76 ?_
        obtain ⟨n79_0, hw⟩ := hw
        refine k_get (v := .ref (ad (rowC (σr65.1 54 0).toNat))) C Wd.1 KX1 _ 0 (cx54 _) (by decide) fl_X3_55 (congrArg some (rvW_ref n79_0)) dX3_doStatement_79 ?_
        refine lv_aload_n C.1 C.2.1 dX3_doStatement_82 rfl (lv_at hl 0 rfl) ?_
        refine k_get (v := .ref (ad 54)) C Wd.1 KX3 _ 0 (cx50 _) (by decide) fl_X3_12 rfl dX3_doStatement_83 ?_
        refine k_get (v := .ref (ad 55)) C Wd.1 KX1 _ 2 (cx54 _) (by decide) fl_X3_74 rfl dX3_doStatement_86 ?_
        refine lv_iload_n C.1 C.2.1 dX3_doStatement_89 rfl (lv_at hl 1 rfl) ?_
        refine k_ialdK (g := (σr65.2.1 55)) C Wd (cx55 _) (tC_at (by decide) rfl) n21_0 (by decide) dX3_doStatement_90 ?_
        have ga90 : rng (σr65.2.1 55 x0) := rngL (fun j => (Wd.2.1).2.1 55 j) n21_0
        refine lv_iconst (v := zI 1) C.1 C.2.1 dX3_doStatement_91 (by decide) ?_
        refine k_iadd (v := zI ((σr65.2.1 55 x0) + 1)) C (zI_iadd _ _) dX3_doStatement_92 ?_
        obtain ⟨g93_3, hw⟩ := hw
        refine k_pi (k_runVK (rest := []) C aks Wd cs_X3_77 (mk_W_cell D ad ca rf σr65 Wd.2.1 Wd.2.2 (σr65.1 54 0) ((σr65.2.1 55 x0) + 1) n79_0 g93_3 _ hw l _) (cxRow n79_0) rfl rfl rfl rfl ⟨(Nat.le_of_ble_eq_true rfl), (Nat.le_of_ble_eq_true rfl)⟩ hl.1 rfl rfl (Nat.le_of_ble_eq_true rfl) ⟨(Nat.le_of_ble_eq_true rfl), (Nat.le_of_ble_eq_true rfl)⟩ dX3_doStatement_93) (fun y93 hy => ?_)
        obtain ⟨r93, rfl, g_r93, hw⟩ := hy
        refine lv_aload_n C.1 C.2.1 dX3_doStatement_96 rfl (lv_at hl 0 rfl) ?_
        refine k_get (v := .ref (ad 53)) C Wd.1 KX3 _ 6 (cx50 _) (by decide) fl_X3_25 rfl dX3_doStatement_97 ?_
        refine lv_iconst (v := zI 1) C.1 C.2.1 dX3_doStatement_100 (by decide) ?_
        refine k_ialdK (g := (σr65.2.1 53)) C Wd (cx53 _) (tC_at (by decide) rfl) (show (0 : Int) ≤ 1 ∧ (1 : Int) < 300 from by decide) (by decide) dX3_doStatement_101 ?_
        have ga101 : rng (σr65.2.1 53 1) := rngL (fun j => (Wd.2.1).2.1 53 j) (show (0 : Int) ≤ 1 ∧ (1 : Int) < 300 from by decide)
        refine lv_aload_n C.1 C.2.1 dX3_doStatement_102 rfl (lv_at hl 0 rfl) ?_
        refine k_get (v := .ref (ad 53)) C Wd.1 KX3 _ 6 (cx50 _) (by decide) fl_X3_25 rfl dX3_doStatement_103 ?_
        refine lv_iconst (v := zI 0) C.1 C.2.1 dX3_doStatement_106 (by decide) ?_
        refine k_ialdK (g := (σr65.2.1 53)) C Wd (cx53 _) (tC_at (by decide) rfl) (show (0 : Int) ≤ 0 ∧ (0 : Int) < 300 from by decide) (by decide) dX3_doStatement_107 ?_
        have ga107 : rng (σr65.2.1 53 0) := rngL (fun j => (Wd.2.1).2.1 53 j) (show (0 : Int) ≤ 0 ∧ (0 : Int) < 300 from by decide)
        refine k_pi (k_runS (rest := []) C aks Wd.1 cs_X3_80 (mk_W_holds D r93 (σr65.2.1 53 1) (σr65.2.1 53 0) g_r93 ga101 ga107 _ hw l _) [] rfl (by decide) [] rfl rfl rfl ⟨(Nat.le_of_ble_eq_true rfl), (Nat.le_of_ble_eq_true rfl)⟩ hl.1 rfl rfl (Nat.le_of_ble_eq_true rfl) ⟨(Nat.le_of_ble_eq_true rfl), (Nat.le_of_ble_eq_true rfl)⟩ dX3_doStatement_108) (fun y108 hy => ?_)
        obtain ⟨r108, rfl, g_r108, hw⟩ := hy
        refine lv_istore_n (lv' := [(3, .int (zI r108)), (0, .ref (ad 50)), (1, .int (zI x0)), (2, .int (zI (σ.2.1 56 x0)))]) C.1 C.2.1 dX3_doStatement_111 rfl hl (by decide) rfl (fun ls hl => ?_)
        replace hl := lv_sub hl [1, 2, 3, 0] rfl
        refine lv_iload_n C.1 C.2.1 dX3_doStatement_112 rfl (lv_at hl 3 rfl) ?_
        refine lv_if_eq (tgt := 128) C.1 C.2.1 dX3_doStatement_113 (by decide) (fun c113 => ?_) (fun c113 => ?_)
        · have hw := hw.1 (z0_eq g_r108 c113)
          refine lv_aload_n C.1 C.2.1 dX3_doStatement_128 rfl (lv_at hl 0 rfl) ?_
          refine k_get (v := .ref (ad 54)) C Wd.1 KX3 _ 0 (cx50 _) (by decide) fl_X3_12 rfl dX3_doStatement_129 ?_
          refine k_get (v := .ref (ad 60)) C Wd.1 KX1 _ 7 (cx54 _) (by decide) fl_X3_87 rfl dX3_doStatement_132 ?_
          refine lv_iload_n C.1 C.2.1 dX3_doStatement_135 rfl (lv_at hl 1 rfl) ?_
          refine k_ialdK (g := (σr65.2.1 60)) C Wd (cx60 _) (tC_at (by decide) rfl) n21_0 (by decide) dX3_doStatement_136 ?_
          have ga136 : rng (σr65.2.1 60 x0) := rngL (fun j => (Wd.2.1).2.1 60 j) n21_0
          exact k_retKi C hr hlk rfl Wd ⟨_, rfl, ga136, hw⟩ dX3_doStatement_137
        · have hw := hw.2 (z0_ne g_r108 c113)
          refine lv_aload_n C.1 C.2.1 dX3_doStatement_116 rfl (lv_at hl 0 rfl) ?_
          refine k_get (v := .ref (ad 54)) C Wd.1 KX3 _ 0 (cx50 _) (by decide) fl_X3_12 rfl dX3_doStatement_117 ?_
          refine k_get (v := .ref (ad 59)) C Wd.1 KX1 _ 6 (cx54 _) (by decide) fl_X3_84 rfl dX3_doStatement_120 ?_
          refine lv_iload_n C.1 C.2.1 dX3_doStatement_123 rfl (lv_at hl 1 rfl) ?_
          refine k_ialdK (g := (σr65.2.1 59)) C Wd (cx59 _) (tC_at (by decide) rfl) n21_0 (by decide) dX3_doStatement_124 ?_
          have ga124 : rng (σr65.2.1 59 x0) := rngL (fun j => (Wd.2.1).2.1 59 j) n21_0
          refine lv_goto (tgt := 137) C.1 C.2.1 dX3_doStatement_125 (by decide) ?_
          exact k_retKi C hr hlk rfl Wd ⟨_, rfl, ga124, hw⟩ dX3_doStatement_137
    · have hw := hw.2 (z_eq ga21 (show rng 111 from by decide) c26)
      refine lv_bipush (v := zI (-2)) C.1 C.2.1 dX3_doStatement_29 (by decide) ?_
      exact k_retKi C hr hlk rfl Wd ⟨_, rfl, (show rng (-2) from by decide), hw⟩ dX3_doStatement_31
  · have hw := hw.2 (z0_eq g_r5 c8)
    refine lv_iconst (v := zI (-1)) C.1 C.2.1 dX3_doStatement_11 (by decide) ?_
    exact k_retKi C hr hlk rfl Wd ⟨_, rfl, (show rng (-1) from by decide), hw⟩ dX3_doStatement_12
set_option maxHeartbeats 4000000 in
set_option maxRecDepth 100000 in
theorem mk_M_go_50 : ∀ (D : va_G) (ad : Nat → Nat) (ca : Nat → ClassId) (rf : Nat → Nat → Option Nat) (σ : Sg) (hS : rngK σ) (hRF : RFok ad rf) (x0 : Int) (x1 : Int) (g_x0 : rng x0) (g_x1 : rng x1) (K : Sg → Prop) (hw : wp5_M_go σ 50 x0 x1 K) (l : Launch) (sz : Nat), Met l yX3_go (Cond.code yX3_go cX3_go 4 none :: gG) { frames := 4, cells := 0, slots := 0, locals := 147 } (cPre D (tC ca) (wK ad ca rf σ) sz [.ref (ad 50), .int (zI x0), .int (zI x1)]) (va_Qv (fun (u : Sg) => K u ∧ rngK u) (fun u t => cB D (va_A (wK ad ca rf σ) sz) [] (wK ad ca rf u) t) (va_A (wK ad ca rf σ) sz)) 0 0 (va_A (wK ad ca rf σ) sz) := by
  intro D ad ca rf σ hS hRF x0 x1 g_x0 g_x1 K hw l sz
  refine Met.ofW (cc := cX3_go) (maxL := 4) (ret := none) (by decide) rfl ?_
  intro p e s m args below meth c s₁ B hml hv
  obtain ⟨rfl, aks, rfl, Wd⟩ := k_enter hv
  have C : CallFix p m c cX3_go 4 s _ gG RX3 := ⟨B.exec, B.bytes, hml, findClass_of_methodNamed B.named, fun w h => atoms_spec (ws := Cond.code yX3_go cX3_go 4 none :: gG) B.pre w (List.mem_cons_of_mem _ h)⟩
  have hr := B.returns
  have hlk := B.notSynchronized
  generalize va_A (wK ad ca rf σ) s.heap.size = A at Wd ⊢
  replace Wd : wXK D ad ca rf s σ s.heap A s.heap [] := ⟨Wd, hS, hRF⟩
  refine k_locals (Nat.le_of_ble_eq_true rfl) [(0, .ref (ad 50)), (1, .int (zI x0)), (2, .int (zI x1))] rfl (fun ls hl => ?_)
  unfold wp5_M_go at hw
  refine lv_iconst (v := zI 0) C.1 C.2.1 dX3_go_0 (by decide) ?_
  refine lv_istore_n (lv' := [(3, .int (zI 0)), (0, .ref (ad 50)), (1, .int (zI x0)), (2, .int (zI x1))]) C.1 C.2.1 dX3_go_1 rfl hl (by decide) rfl (fun ls hl => ?_)
  replace hl := lv_sub hl [1, 2, 3, 0] rfl
  refine k_lp2 hw (fun (l3_2 : Int) (σ2 : Sg) H locs ls => rng l3_2 ∧ wXK D ad ca rf s σ2 H A s.heap locs ∧ lv_has ls 4 [(0, .ref (ad 50)), (1, .int (zI x0)), (2, .int (zI x1)), (3, .int (zI l3_2))]) (fun (l3_2 : Int) (σ2 : Sg) ls => F0 m 2 ls []) (fun L2 hL2 l3_2 σ2 hw H locs ls hi => ?_) _ _ _ ⟨(show rng 0 from by decide), Wd, lv_sub hl [0, 1, 2, 3] rfl⟩
  obtain ⟨g_l3_2, Wd, hl⟩ := hi
  have hS_σ2 := Wd.2.1
  unfold wp5_M_go_2 at hw
  refine lv_iload_n C.1 C.2.1 dX3_go_2 rfl (lv_at hl 3 rfl) ?_
  refine lv_aload_n C.1 C.2.1 dX3_go_3 rfl (lv_at hl 0 rfl) ?_
  refine k_get (v := .ref (ad 52)) C Wd.1 KX3 _ 5 (cx50 _) (by decide) fl_X3_22 rfl dX3_go_4 ?_
  refine k_alen (v := zI 6) C Wd.1 52 52 (cx52 _) (tC_at (by decide) rfl) rfl dX3_go_7 ?_
  refine lv_icmp_ge (tgt := 41) C.1 C.2.1 dX3_go_8 (by decide) (fun c8 => ?_) (fun c8 => ?_)
  · have hw := hw.1 (z_le (show rng 6 from by decide) g_l3_2 c8)
    refine lv_aload_n C.1 C.2.1 dX3_go_41 rfl (lv_at hl 0 rfl) ?_
    refine lv_iconst (v := zI 0) C.1 C.2.1 dX3_go_42 (by decide) ?_
    refine k_putK (v := 0) C Wd KX3 50 2 (by decide) (cx50 _) rfl (by decide) fl_X3_28 rfl rfl rfl (Nat.le_of_ble_eq_true rfl) (show rng 0 from by decide) dX3_go_43 (fun H locs Wd => ?_)
    refine lv_aload_n C.1 C.2.1 dX3_go_46 rfl (lv_at hl 0 rfl) ?_
    refine k_get (v := .ref (ad 54)) C Wd.1 KX3 _ 0 (cx50 _) (by decide) fl_X3_12 rfl dX3_go_47 ?_
    refine k_get (v := .int (zI (σ2.1 54 1))) C Wd.1 KX1 _ 1 (cx54 _) (by decide) fl_X3_32 rfl dX3_go_50 ?_
    refine k_cut1 (fun (s0_61 : Int) H locs ls => rng s0_61 ∧ wp5_M_go_61 K 50 σ2 s0_61 ∧ wXK D ad ca rf s (pU σ2 50 2 0) H A s.heap locs ∧ lv_has ls 4 [(0, .ref (ad 50))]) (fun (s0_61 : Int) ls => F0 m 61 ls [.int (zI s0_61)]) (fun s0_61 H locs ls hi => ?_) (fun J61 => ?_)
    · obtain ⟨g_s0_61, hw, Wd, hl⟩ := hi
      unfold wp5_M_go_61 at hw
      refine lv_istore_n (lv' := [(3, .int (zI s0_61)), (0, .ref (ad 50))]) C.1 C.2.1 dX3_go_61 rfl hl (by decide) rfl (fun ls hl => ?_)
      replace hl := lv_sub hl [1, 0] rfl
      refine lv_aload_n C.1 C.2.1 dX3_go_62 rfl (lv_at hl 0 rfl) ?_
      refine lv_iconst (v := zI 0) C.1 C.2.1 dX3_go_63 (by decide) ?_
      refine k_putK (v := 0) C Wd KX3 50 3 (by decide) (cx50 _) rfl (by decide) fl_X3_35 rfl rfl rfl (Nat.le_of_ble_eq_true rfl) (show rng 0 from by decide) dX3_go_64 (fun H locs Wd => ?_)
      refine k_lp2 hw (fun (l3_67 : Int) (σ67 : Sg) H locs ls => rng l3_67 ∧ wXK D ad ca rf s σ67 H A s.heap locs ∧ lv_has ls 4 [(0, .ref (ad 50)), (3, .int (zI l3_67))]) (fun (l3_67 : Int) (σ67 : Sg) ls => F0 m 67 ls []) (fun L67 hL67 l3_67 σ67 hw H locs ls hi => ?_) _ _ _ ⟨g_s0_61, Wd, lv_sub hl [0, 1] rfl⟩
      obtain ⟨g_l3_67, Wd, hl⟩ := hi
      have hS_σ67 := Wd.2.1
      unfold wp5_M_go_67 at hw
      refine lv_aload_n C.1 C.2.1 dX3_go_67 rfl (lv_at hl 0 rfl) ?_
      refine k_get (v := .int (zI (σ67.1 50 3))) C Wd.1 KX3 _ 3 (cx50 _) (by decide) fl_X3_35 rfl dX3_go_68 ?_
      refine lv_bipush (v := zI 100) C.1 C.2.1 dX3_go_71 (by decide) ?_
      refine k_cut0 (fun H locs ls => wp5_M_go_99 K 50 l3_67 σ67 ∧ wXK D ad ca rf s σ67 H A s.heap locs ∧ lv_has ls 4 [(0, .ref (ad 50)), (3, .int (zI l3_67))]) (fun  ls => F0 m 99 ls []) (fun  H locs ls hi => ?_) (fun J99 => ?_)
      · obtain ⟨hw, Wd, hl⟩ := hi
        unfold wp5_M_go_99 at hw
        refine lv_aload_n C.1 C.2.1 dX3_go_99 rfl (lv_at hl 0 rfl) ?_
        refine lv_iload_n C.1 C.2.1 dX3_go_100 rfl (lv_at hl 1 rfl) ?_
        refine lv_bipush (v := zI (-2)) C.1 C.2.1 dX3_go_101 (by decide) ?_
        refine lv_icmp_ne (tgt := 110) C.1 C.2.1 dX3_go_103 (by decide) (fun c103 => ?_) (fun c103 => ?_)
        · have hw := hw.1 (z_ne g_l3_67 (show rng (-2) from by decide) c103)
          refine lv_iload_n C.1 C.2.1 dX3_go_110 rfl (lv_at hl 1 rfl) ?_
          refine lv_if_lt (tgt := 118) C.1 C.2.1 dX3_go_111 (by decide) (fun c111 => ?_) (fun c111 => ?_)
          · have hw := hw.1 (z0_lt g_l3_67 c111)
            refine lv_iconst (v := zI 0) C.1 C.2.1 dX3_go_118 (by decide) ?_
            refine k_putK (v := 0) C Wd KX3 50 4 (by decide) (cx50 _) rfl (by decide) fl_X3_42 rfl rfl rfl (Nat.le_of_ble_eq_true rfl) (show rng 0 from by decide) dX3_go_119 (fun H locs Wd => ?_)
            exact k_retKv C hr hlk Wd hw dX3_go_122
          · have hw := hw.2 (z0_nlt g_l3_67 c111)
            refine lv_iconst (v := zI 2) C.1 C.2.1 dX3_go_114 (by decide) ?_
            refine lv_goto (tgt := 119) C.1 C.2.1 dX3_go_115 (by decide) ?_
            refine k_putK (v := 2) C Wd KX3 50 4 (by decide) (cx50 _) rfl (by decide) fl_X3_42 rfl rfl rfl (Nat.le_of_ble_eq_true rfl) (show rng 2 from by decide) dX3_go_119 (fun H locs Wd => ?_)
            exact k_retKv C hr hlk Wd hw dX3_go_122
        · have hw := hw.2 (z_eq g_l3_67 (show rng (-2) from by decide) c103)
          refine lv_iconst (v := zI 1) C.1 C.2.1 dX3_go_106 (by decide) ?_
          refine lv_goto (tgt := 119) C.1 C.2.1 dX3_go_107 (by decide) ?_
          refine k_putK (v := 1) C Wd KX3 50 4 (by decide) (cx50 _) rfl (by decide) fl_X3_42 rfl rfl rfl (Nat.le_of_ble_eq_true rfl) (show rng 1 from by decide) dX3_go_119 (fun H locs Wd => ?_)
          exact k_retKv C hr hlk Wd hw dX3_go_122
      refine lv_icmp_ge (tgt := 99) C.1 C.2.1 dX3_go_73 (by decide) (fun c73 => ?_) (fun c73 => ?_)
      · have hw := hw.1 (z_le (show rng 100 from by decide) (hS_σ67.1 50 3) c73)
        exact J99  _ _ _ ⟨hw, Wd, lv_sub hl [0, 1] rfl⟩
      · have hw := hw.2 (z_nle (show rng 100 from by decide) (hS_σ67.1 50 3) c73)
        refine lv_iload_n C.1 C.2.1 dX3_go_76 rfl (lv_at hl 1 rfl) ?_
        refine lv_if_lt (tgt := 99) C.1 C.2.1 dX3_go_77 (by decide) (fun c77 => ?_) (fun c77 => ?_)
        · have hw := hw.1 (z0_lt g_l3_67 c77)
          exact J99  _ _ _ ⟨hw, Wd, lv_sub hl [0, 1] rfl⟩
        · have hw := hw.2 (z0_nlt g_l3_67 c77)
          refine lv_aload_n C.1 C.2.1 dX3_go_80 rfl (lv_at hl 0 rfl) ?_
          refine lv_iload_n C.1 C.2.1 dX3_go_81 rfl (lv_at hl 1 rfl) ?_
          refine k_cKi Wd (k_runVK (rest := []) C aks Wd cs_X3_38 (mk_M_doStatement_50 D ad ca rf σ67 Wd.2.1 Wd.2.2 l3_67 g_l3_67 _ hw l _) (cx50 _) rfl rfl rfl rfl ⟨(Nat.le_of_ble_eq_true rfl), (Nat.le_of_ble_eq_true rfl)⟩ hl.1 rfl rfl (Nat.le_of_ble_eq_true rfl) ⟨(Nat.le_of_ble_eq_true rfl), (Nat.le_of_ble_eq_true rfl)⟩ dX3_go_82) (fun r82 σr82 H locs g_r82 hw Wd => ?_)
          have hS_σr82 := Wd.2.1
          refine lv_istore_n (lv' := [(3, .int (zI r82)), (0, .ref (ad 50))]) C.1 C.2.1 dX3_go_85 rfl hl (by decide) rfl (fun ls hl => ?_)
          replace hl := lv_sub hl [1, 0] rfl
          refine lv_aload_n C.1 C.2.1 dX3_go_86 rfl (lv_at hl 0 rfl) ?_
          refine lv_dup C.1 C.2.1 dX3_go_87 rfl ?_
          refine k_get (v := .int (zI (σr82.1 50 3))) C Wd.1 KX3 _ 3 (cx50 _) (by decide) fl_X3_35 rfl dX3_go_88 ?_
          refine lv_iconst (v := zI 1) C.1 C.2.1 dX3_go_91 (by decide) ?_
          refine k_iadd (v := zI ((σr82.1 50 3) + 1)) C (zI_iadd _ _) dX3_go_92 ?_
          obtain ⟨g93_10, hw⟩ := hw
          refine k_putK (v := ((σr82.1 50 3) + 1)) C Wd KX3 50 3 (by decide) (cx50 _) rfl (by decide) fl_X3_35 rfl rfl rfl (Nat.le_of_ble_eq_true rfl) g93_10 dX3_go_93 (fun H locs Wd => ?_)
          refine lv_goto (tgt := 67) C.1 C.2.1 dX3_go_96 (by decide) ?_
          exact hL67 _ _ hw _ _ _ ⟨g_r82, Wd, lv_sub hl [0, 1] rfl⟩
    refine lv_if_le (tgt := 60) C.1 C.2.1 dX3_go_53 (by decide) (fun c53 => ?_) (fun c53 => ?_)
    · have hw := hw.1 (z0_le (hS_σ2.1 54 1) c53)
      refine lv_iconst (v := zI (-1)) C.1 C.2.1 dX3_go_60 (by decide) ?_
      exact J61 (-1) _ _ _ ⟨(show rng (-1) from by decide), hw, Wd, lv_sub hl [0] rfl⟩
    · have hw := hw.2 (z0_nle (hS_σ2.1 54 1) c53)
      refine lv_iconst (v := zI 0) C.1 C.2.1 dX3_go_56 (by decide) ?_
      refine lv_goto (tgt := 61) C.1 C.2.1 dX3_go_57 (by decide) ?_
      exact J61 0 _ _ _ ⟨(show rng 0 from by decide), hw, Wd, lv_sub hl [0] rfl⟩
  · have hw := hw.2 (z_nle (show rng 6 from by decide) g_l3_2 c8)
    refine lv_aload_n C.1 C.2.1 dX3_go_11 rfl (lv_at hl 0 rfl) ?_
    refine k_get (v := .ref (ad 52)) C Wd.1 KX3 _ 5 (cx50 _) (by decide) fl_X3_22 rfl dX3_go_12 ?_
    refine lv_iload_n C.1 C.2.1 dX3_go_15 rfl (lv_at hl 3 rfl) ?_
    refine lv_iload_n C.1 C.2.1 dX3_go_16 rfl (lv_at hl 3 rfl) ?_
    refine lv_if_ne (tgt := 24) C.1 C.2.1 dX3_go_17 (by decide) (fun c17 => ?_) (fun c17 => ?_)
    · have hw := hw.1 (z0_ne g_l3_2 c17)
      refine lv_iload_n C.1 C.2.1 dX3_go_24 rfl (lv_at hl 3 rfl) ?_
      refine lv_iconst (v := zI 1) C.1 C.2.1 dX3_go_25 (by decide) ?_
      refine lv_icmp_ne (tgt := 33) C.1 C.2.1 dX3_go_26 (by decide) (fun c26 => ?_) (fun c26 => ?_)
      · have hw := hw.1 (z_ne g_l3_2 (show rng 1 from by decide) c26)
        refine lv_iconst (v := zI 0) C.1 C.2.1 dX3_go_33 (by decide) ?_
        obtain ⟨n34_0, hw⟩ := hw
        refine k_iastF (g := (σ2.2.1 52)) (i := l3_2) (v := 0) C Wd 52 (by decide) (cx52 _) (fun f => cx52a _ f) (tC_at (by decide) rfl) n34_0 (by decide) (ruZ (fun j => Wd.2.1.2.1 52 j) (show rng 0 from by decide)) dX3_go_34 (fun H locs Wd => ?_)
        refine lv_iinc (v := zI (l3_2 + 1)) (lv' := [(3, .int (zI (l3_2 + 1))), (0, .ref (ad 50)), (1, .int (zI x0)), (2, .int (zI x1))]) C.1 C.2.1 dX3_go_35 hl (k := 3) rfl (zI_inc _ _ (by decide)) (by decide) rfl (fun ls hl => ?_)
        replace hl := lv_sub hl [1, 2, 3, 0] rfl
        refine lv_goto (tgt := 2) C.1 C.2.1 dX3_go_38 (by decide) ?_
        obtain ⟨g38_11, hw⟩ := hw
        exact hL2 _ _ hw _ _ _ ⟨g38_11, Wd, lv_sub hl [0, 1, 2, 3] rfl⟩
      · have hw := hw.2 (z_eq g_l3_2 (show rng 1 from by decide) c26)
        refine lv_iload_n C.1 C.2.1 dX3_go_29 rfl (lv_at hl 2 rfl) ?_
        refine lv_goto (tgt := 34) C.1 C.2.1 dX3_go_30 (by decide) ?_
        obtain ⟨n34_0, hw⟩ := hw
        refine k_iastF (g := (σ2.2.1 52)) (i := l3_2) (v := x1) C Wd 52 (by decide) (cx52 _) (fun f => cx52a _ f) (tC_at (by decide) rfl) n34_0 (by decide) (ruZ (fun j => Wd.2.1.2.1 52 j) g_x1) dX3_go_34 (fun H locs Wd => ?_)
        refine lv_iinc (v := zI (l3_2 + 1)) (lv' := [(3, .int (zI (l3_2 + 1))), (0, .ref (ad 50)), (1, .int (zI x0)), (2, .int (zI x1))]) C.1 C.2.1 dX3_go_35 hl (k := 3) rfl (zI_inc _ _ (by decide)) (by decide) rfl (fun ls hl => ?_)
        replace hl := lv_sub hl [1, 2, 3, 0] rfl
        refine lv_goto (tgt := 2) C.1 C.2.1 dX3_go_38 (by decide) ?_
        obtain ⟨g38_12, hw⟩ := hw
        exact hL2 _ _ hw _ _ _ ⟨g38_12, Wd, lv_sub hl [0, 1, 2, 3] rfl⟩
    · have hw := hw.2 (z0_eq g_l3_2 c17)
      refine lv_iload_n C.1 C.2.1 dX3_go_20 rfl (lv_at hl 1 rfl) ?_
      refine lv_goto (tgt := 34) C.1 C.2.1 dX3_go_21 (by decide) ?_
      obtain ⟨n34_0, hw⟩ := hw
      refine k_iastF (g := (σ2.2.1 52)) (i := l3_2) (v := x0) C Wd 52 (by decide) (cx52 _) (fun f => cx52a _ f) (tC_at (by decide) rfl) n34_0 (by decide) (ruZ (fun j => Wd.2.1.2.1 52 j) g_x0) dX3_go_34 (fun H locs Wd => ?_)
      refine lv_iinc (v := zI (l3_2 + 1)) (lv' := [(3, .int (zI (l3_2 + 1))), (0, .ref (ad 50)), (1, .int (zI x0)), (2, .int (zI x1))]) C.1 C.2.1 dX3_go_35 hl (k := 3) rfl (zI_inc _ _ (by decide)) (by decide) rfl (fun ls hl => ?_)
      replace hl := lv_sub hl [1, 2, 3, 0] rfl
      refine lv_goto (tgt := 2) C.1 C.2.1 dX3_go_38 (by decide) ?_
      obtain ⟨g38_13, hw⟩ := hw
      exact hL2 _ _ hw _ _ _ ⟨g38_13, Wd, lv_sub hl [0, 1, 2, 3] rfl⟩
set_option maxHeartbeats 4000000 in
set_option maxRecDepth 100000 in
theorem mk_M_output_33 : ∀ (D : va_G) (ad : Nat → Nat) (ca : Nat → ClassId) (rf : Nat → Nat → Option Nat) (σ : Sg) (hS : rngK σ) (hRF : RFok ad rf) (x0 : Int) (g_x0 : rng x0) (K : Int → Prop) (hw : wp5_M_output σ 33 x0 K) (l : Launch) (sz : Nat), Met l yX3_output (Cond.code yX3_output cX3_output 2 (some .int) :: gG) { frames := 1, cells := 0, slots := 0, locals := 64 } (cPre D (tC ca) (wK ad ca rf σ) sz [.ref (ad 33), .int (zI x0)]) (vp_Si (fun r => ∃ x : Int, r = zI x ∧ rng x ∧ K x)) 0 0 (fun _ => False) := by
  intro D ad ca rf σ hS hRF x0 g_x0 K hw l sz
  refine Met.ofW (cc := cX3_output) (maxL := 2) (ret := (some .int)) (by decide) rfl ?_
  intro p e s m args below meth c s₁ B hml hv
  obtain ⟨rfl, aks, rfl, Wd⟩ := k_enter hv
  have C : CallFix p m c cX3_output 2 s _ gG RX3 := ⟨B.exec, B.bytes, hml, findClass_of_methodNamed B.named, fun w h => atoms_spec (ws := Cond.code yX3_output cX3_output 2 (some .int) :: gG) B.pre w (List.mem_cons_of_mem _ h)⟩
  have hr := B.returns
  have hlk := B.notSynchronized
  obtain ⟨A, Wd⟩ : ∃ A, wXK D ad ca rf s σ s.heap A s.heap [] := ⟨_, Wd, hS, hRF⟩
  refine k_locals (Nat.le_of_ble_eq_true rfl) [(0, .ref (ad 33)), (1, .int (zI x0))] rfl (fun ls hl => ?_)
  unfold wp5_M_output at hw
  refine lv_iload_n C.1 C.2.1 dX3_output_0 rfl (lv_at hl 1 rfl) ?_
  refine lv_if_lt (tgt := 30) C.1 C.2.1 dX3_output_1 (by decide) (fun c1 => ?_) (fun c1 => ?_)
  · have hw := hw.1 (z0_lt g_x0 c1)
    refine lv_iconst (v := zI (-1)) C.1 C.2.1 dX3_output_30 (by decide) ?_
    exact k_zretP C hr hlk rfl ⟨_, rfl, (show rng (-1) from by decide), hw⟩ dX3_output_31
  · have hw := hw.2 (z0_nlt g_x0 c1)
    refine lv_iload_n C.1 C.2.1 dX3_output_4 rfl (lv_at hl 1 rfl) ?_
    refine lv_aload_n C.1 C.2.1 dX3_output_5 rfl (lv_at hl 0 rfl) ?_
    refine k_get (v := .int (zI (σ.1 33 2))) C Wd.1 KX3 _ 2 (cx33 _) (by decide) fl_X3_28 rfl dX3_output_6 ?_
    refine lv_icmp_ge (tgt := 30) C.1 C.2.1 dX3_output_9 (by decide) (fun c9 => ?_) (fun c9 => ?_)
    · have hw := hw.1 (z_le (hS.1 33 2) g_x0 c9)
      refine lv_iconst (v := zI (-1)) C.1 C.2.1 dX3_output_30 (by decide) ?_
      exact k_zretP C hr hlk rfl ⟨_, rfl, (show rng (-1) from by decide), hw⟩ dX3_output_31
    · have hw := hw.2 (z_nle (hS.1 33 2) g_x0 c9)
      refine lv_iload_n C.1 C.2.1 dX3_output_12 rfl (lv_at hl 1 rfl) ?_
      refine lv_aload_n C.1 C.2.1 dX3_output_13 rfl (lv_at hl 0 rfl) ?_
      refine k_get (v := .ref (ad 34)) C Wd.1 KX3 _ 1 (cx33 _) (by decide) fl_X3_18 rfl dX3_output_14 ?_
      refine k_alen (v := zI 100) C Wd.1 34 34 (cx34 _) (tC_at (by decide) rfl) rfl dX3_output_17 ?_
      refine lv_icmp_ge (tgt := 30) C.1 C.2.1 dX3_output_18 (by decide) (fun c18 => ?_) (fun c18 => ?_)
      · have hw := hw.1 (z_le (show rng 100 from by decide) g_x0 c18)
        refine lv_iconst (v := zI (-1)) C.1 C.2.1 dX3_output_30 (by decide) ?_
        exact k_zretP C hr hlk rfl ⟨_, rfl, (show rng (-1) from by decide), hw⟩ dX3_output_31
      · have hw := hw.2 (z_nle (show rng 100 from by decide) g_x0 c18)
        refine lv_aload_n C.1 C.2.1 dX3_output_21 rfl (lv_at hl 0 rfl) ?_
        refine k_get (v := .ref (ad 34)) C Wd.1 KX3 _ 1 (cx33 _) (by decide) fl_X3_18 rfl dX3_output_22 ?_
        refine lv_iload_n C.1 C.2.1 dX3_output_25 rfl (lv_at hl 1 rfl) ?_
        obtain ⟨n26_0, hw⟩ := hw
        refine k_ialdK (g := (σ.2.1 34)) C Wd (cx34 _) (tC_at (by decide) rfl) n26_0 (by decide) dX3_output_26 ?_
        have ga26 : rng (σ.2.1 34 x0) := rngL (fun j => (Wd.2.1).2.1 34 j) n26_0
        refine lv_goto (tgt := 31) C.1 C.2.1 dX3_output_27 (by decide) ?_
        exact k_zretP C hr hlk rfl ⟨_, rfl, ga26, hw⟩ dX3_output_31
set_option maxHeartbeats 4000000 in
set_option maxRecDepth 100000 in
theorem mk_M_output_50 : ∀ (D : va_G) (ad : Nat → Nat) (ca : Nat → ClassId) (rf : Nat → Nat → Option Nat) (σ : Sg) (hS : rngK σ) (hRF : RFok ad rf) (x0 : Int) (g_x0 : rng x0) (K : Int → Prop) (hw : wp5_M_output σ 50 x0 K) (l : Launch) (sz : Nat), Met l yX3_output (Cond.code yX3_output cX3_output 2 (some .int) :: gG) { frames := 1, cells := 0, slots := 0, locals := 64 } (cPre D (tC ca) (wK ad ca rf σ) sz [.ref (ad 50), .int (zI x0)]) (vp_Si (fun r => ∃ x : Int, r = zI x ∧ rng x ∧ K x)) 0 0 (fun _ => False) := by
  intro D ad ca rf σ hS hRF x0 g_x0 K hw l sz
  refine Met.ofW (cc := cX3_output) (maxL := 2) (ret := (some .int)) (by decide) rfl ?_
  intro p e s m args below meth c s₁ B hml hv
  obtain ⟨rfl, aks, rfl, Wd⟩ := k_enter hv
  have C : CallFix p m c cX3_output 2 s _ gG RX3 := ⟨B.exec, B.bytes, hml, findClass_of_methodNamed B.named, fun w h => atoms_spec (ws := Cond.code yX3_output cX3_output 2 (some .int) :: gG) B.pre w (List.mem_cons_of_mem _ h)⟩
  have hr := B.returns
  have hlk := B.notSynchronized
  obtain ⟨A, Wd⟩ : ∃ A, wXK D ad ca rf s σ s.heap A s.heap [] := ⟨_, Wd, hS, hRF⟩
  refine k_locals (Nat.le_of_ble_eq_true rfl) [(0, .ref (ad 50)), (1, .int (zI x0))] rfl (fun ls hl => ?_)
  unfold wp5_M_output at hw
  refine lv_iload_n C.1 C.2.1 dX3_output_0 rfl (lv_at hl 1 rfl) ?_
  refine lv_if_lt (tgt := 30) C.1 C.2.1 dX3_output_1 (by decide) (fun c1 => ?_) (fun c1 => ?_)
  · have hw := hw.1 (z0_lt g_x0 c1)
    refine lv_iconst (v := zI (-1)) C.1 C.2.1 dX3_output_30 (by decide) ?_
    exact k_zretP C hr hlk rfl ⟨_, rfl, (show rng (-1) from by decide), hw⟩ dX3_output_31
  · have hw := hw.2 (z0_nlt g_x0 c1)
    refine lv_iload_n C.1 C.2.1 dX3_output_4 rfl (lv_at hl 1 rfl) ?_
    refine lv_aload_n C.1 C.2.1 dX3_output_5 rfl (lv_at hl 0 rfl) ?_
    refine k_get (v := .int (zI (σ.1 50 2))) C Wd.1 KX3 _ 2 (cx50 _) (by decide) fl_X3_28 rfl dX3_output_6 ?_
    refine lv_icmp_ge (tgt := 30) C.1 C.2.1 dX3_output_9 (by decide) (fun c9 => ?_) (fun c9 => ?_)
    · have hw := hw.1 (z_le (hS.1 50 2) g_x0 c9)
      refine lv_iconst (v := zI (-1)) C.1 C.2.1 dX3_output_30 (by decide) ?_
      exact k_zretP C hr hlk rfl ⟨_, rfl, (show rng (-1) from by decide), hw⟩ dX3_output_31
    · have hw := hw.2 (z_nle (hS.1 50 2) g_x0 c9)
      refine lv_iload_n C.1 C.2.1 dX3_output_12 rfl (lv_at hl 1 rfl) ?_
      refine lv_aload_n C.1 C.2.1 dX3_output_13 rfl (lv_at hl 0 rfl) ?_
      refine k_get (v := .ref (ad 51)) C Wd.1 KX3 _ 1 (cx50 _) (by decide) fl_X3_18 rfl dX3_output_14 ?_
      refine k_alen (v := zI 100) C Wd.1 51 51 (cx51 _) (tC_at (by decide) rfl) rfl dX3_output_17 ?_
      refine lv_icmp_ge (tgt := 30) C.1 C.2.1 dX3_output_18 (by decide) (fun c18 => ?_) (fun c18 => ?_)
      · have hw := hw.1 (z_le (show rng 100 from by decide) g_x0 c18)
        refine lv_iconst (v := zI (-1)) C.1 C.2.1 dX3_output_30 (by decide) ?_
        exact k_zretP C hr hlk rfl ⟨_, rfl, (show rng (-1) from by decide), hw⟩ dX3_output_31
      · have hw := hw.2 (z_nle (show rng 100 from by decide) g_x0 c18)
        refine lv_aload_n C.1 C.2.1 dX3_output_21 rfl (lv_at hl 0 rfl) ?_
        refine k_get (v := .ref (ad 51)) C Wd.1 KX3 _ 1 (cx50 _) (by decide) fl_X3_18 rfl dX3_output_22 ?_
        refine lv_iload_n C.1 C.2.1 dX3_output_25 rfl (lv_at hl 1 rfl) ?_
        obtain ⟨n26_0, hw⟩ := hw
        refine k_ialdK (g := (σ.2.1 51)) C Wd (cx51 _) (tC_at (by decide) rfl) n26_0 (by decide) dX3_output_26 ?_
        have ga26 : rng (σ.2.1 51 x0) := rngL (fun j => (Wd.2.1).2.1 51 j) n26_0
        refine lv_goto (tgt := 31) C.1 C.2.1 dX3_output_27 (by decide) ?_
        exact k_zretP C hr hlk rfl ⟨_, rfl, ga26, hw⟩ dX3_output_31
set_option maxHeartbeats 4000000 in
set_option maxRecDepth 100000 in
theorem mk_J_placeThatDiffers : ∀ (D : va_G) (ad : Nat → Nat) (ca : Nat → ClassId) (rf : Nat → Nat → Option Nat) (σ : Sg) (hS : rngK σ) (hRF : RFok ad rf) (K : Int → Prop) (hw : wp5_J_placeThatDiffers σ K) (l : Launch) (sz : Nat), Met l yX2_placeThatDiffers (Cond.code yX2_placeThatDiffers cX2_placeThatDiffers 3 (some .int) :: gG) { frames := 2, cells := 0, slots := 0, locals := 96 } (cPre D (tC ca) (wK ad ca rf σ) sz [.ref (ad 32)]) (vp_Si (fun r => ∃ x : Int, r = zI x ∧ rng x ∧ K x)) 0 0 (fun _ => False) := by
  intro D ad ca rf σ hS hRF  K hw l sz
  refine Met.ofW (cc := cX2_placeThatDiffers) (maxL := 3) (ret := (some .int)) (by decide) rfl ?_
  intro p e s m args below meth c s₁ B hml hv
  obtain ⟨rfl, aks, rfl, Wd⟩ := k_enter hv
  have C : CallFix p m c cX2_placeThatDiffers 3 s _ gG RX2 := ⟨B.exec, B.bytes, hml, findClass_of_methodNamed B.named, fun w h => atoms_spec (ws := Cond.code yX2_placeThatDiffers cX2_placeThatDiffers 3 (some .int) :: gG) B.pre w (List.mem_cons_of_mem _ h)⟩
  have hr := B.returns
  have hlk := B.notSynchronized
  obtain ⟨A, Wd⟩ : ∃ A, wXK D ad ca rf s σ s.heap A s.heap [] := ⟨_, Wd, hS, hRF⟩
  refine k_locals (Nat.le_of_ble_eq_true rfl) [(0, .ref (ad 32))] rfl (fun ls hl => ?_)
  unfold wp5_J_placeThatDiffers at hw
  refine lv_aload_n C.1 C.2.1 dX2_placeThatDiffers_0 rfl (lv_at hl 0 rfl) ?_
  refine k_get (v := .ref (ad 33)) C Wd.1 KX2 _ 4 (cx32 _) (by decide) fl_X2_12 rfl dX2_placeThatDiffers_1 ?_
  refine k_get (v := .int (zI (σ.1 33 2))) C Wd.1 KX3 _ 2 (cx33 _) (by decide) fl_X2_64 rfl dX2_placeThatDiffers_4 ?_
  refine lv_aload_n C.1 C.2.1 dX2_placeThatDiffers_7 rfl (lv_at hl 0 rfl) ?_
  refine k_get (v := .ref (ad 50)) C Wd.1 KX2 _ 5 (cx32 _) (by decide) fl_X2_18 rfl dX2_placeThatDiffers_8 ?_
  refine k_get (v := .int (zI (σ.1 50 2))) C Wd.1 KX3 _ 2 (cx50 _) (by decide) fl_X2_64 rfl dX2_placeThatDiffers_11 ?_
  refine k_mmin (v := zI (min (σ.1 33 2) (σ.1 50 2))) C hl.1 ml_X2_70 st_Lib_Math_min_name in_J9 cd_min (Nat.le_of_ble_eq_true rfl) (Nat.le_of_ble_eq_true rfl) (Nat.le_of_ble_eq_true rfl) (Nat.le_of_ble_eq_true rfl) (zmin_eq _ _ (hS.1 33 2) (hS.1 50 2)) dX2_placeThatDiffers_14 ?_
  refine lv_istore_n (lv' := [(1, .int (zI (min (σ.1 33 2) (σ.1 50 2)))), (0, .ref (ad 32))]) C.1 C.2.1 dX2_placeThatDiffers_17 rfl hl (by decide) rfl (fun ls hl => ?_)
  replace hl := lv_sub hl [1, 0] rfl
  refine lv_iconst (v := zI 0) C.1 C.2.1 dX2_placeThatDiffers_18 (by decide) ?_
  refine lv_istore_n (lv' := [(2, .int (zI 0)), (0, .ref (ad 32)), (1, .int (zI (min (σ.1 33 2) (σ.1 50 2))))]) C.1 C.2.1 dX2_placeThatDiffers_19 rfl hl (by decide) rfl (fun ls hl => ?_)
  replace hl := lv_sub hl [1, 2, 0] rfl
  refine k_lp1 hw (fun (l2_20 : Int) H locs ls => rng l2_20 ∧ wXK D ad ca rf s σ H A s.heap locs ∧ H = s.heap ∧ locs = [] ∧ lv_has ls 3 [(0, .ref (ad 32)), (1, .int (zI (min (σ.1 33 2) (σ.1 50 2)))), (2, .int (zI l2_20))]) (fun (l2_20 : Int) ls => F0 m 20 ls []) (fun L20 hL20 l2_20 hw H locs ls hi => ?_) _ _ _ ⟨(show rng 0 from by decide), Wd, rfl, rfl, lv_sub hl [0, 1, 2] rfl⟩
  obtain ⟨g_l2_20, Wd, rfl, rfl, hl⟩ := hi
  unfold wp5_J_placeThatDiffers_20 at hw
  refine lv_iload_n C.1 C.2.1 dX2_placeThatDiffers_20 rfl (lv_at hl 2 rfl) ?_
  refine lv_iload_n C.1 C.2.1 dX2_placeThatDiffers_21 rfl (lv_at hl 1 rfl) ?_
  refine lv_icmp_ge (tgt := 52) C.1 C.2.1 dX2_placeThatDiffers_22 (by decide) (fun c22 => ?_) (fun c22 => ?_)
  · have hw := hw.1 (z_le (rng_min (hS.1 33 2) (hS.1 50 2)) g_l2_20 c22)
    refine lv_iconst (v := zI (-1)) C.1 C.2.1 dX2_placeThatDiffers_52 (by decide) ?_
    exact k_zretP C hr hlk rfl ⟨_, rfl, (show rng (-1) from by decide), hw⟩ dX2_placeThatDiffers_53
  · have hw := hw.2 (z_nle (rng_min (hS.1 33 2) (hS.1 50 2)) g_l2_20 c22)
    refine lv_aload_n C.1 C.2.1 dX2_placeThatDiffers_25 rfl (lv_at hl 0 rfl) ?_
    refine k_get (v := .ref (ad 33)) C Wd.1 KX2 _ 4 (cx32 _) (by decide) fl_X2_12 rfl dX2_placeThatDiffers_26 ?_
    refine lv_iload_n C.1 C.2.1 dX2_placeThatDiffers_29 rfl (lv_at hl 2 rfl) ?_
    refine k_pi (k_runVK (rest := []) C aks Wd cs_X2_76 (mk_M_output_33 D ad ca rf σ Wd.2.1 Wd.2.2 l2_20 g_l2_20 _ hw l _) (cx33 _) rfl rfl rfl rfl ⟨(Nat.le_of_ble_eq_true rfl), (Nat.le_of_ble_eq_true rfl)⟩ hl.1 rfl rfl (Nat.le_of_ble_eq_true rfl) ⟨(Nat.le_of_ble_eq_true rfl), (Nat.le_of_ble_eq_true rfl)⟩ dX2_placeThatDiffers_30) (fun y30 hy => ?_)
    obtain ⟨r30, rfl, g_r30, hw⟩ := hy
    refine lv_aload_n C.1 C.2.1 dX2_placeThatDiffers_33 rfl (lv_at hl 0 rfl) ?_
    refine k_get (v := .ref (ad 50)) C Wd.1 KX2 _ 5 (cx32 _) (by decide) fl_X2_18 rfl dX2_placeThatDiffers_34 ?_
    refine lv_iload_n C.1 C.2.1 dX2_placeThatDiffers_37 rfl (lv_at hl 2 rfl) ?_
    refine k_pi (k_runVK (rest := [.int (zI r30)]) C aks Wd cs_X2_76 (mk_M_output_50 D ad ca rf σ Wd.2.1 Wd.2.2 l2_20 g_l2_20 _ hw l _) (cx50 _) rfl rfl rfl rfl ⟨(Nat.le_of_ble_eq_true rfl), (Nat.le_of_ble_eq_true rfl)⟩ hl.1 rfl rfl (Nat.le_of_ble_eq_true rfl) ⟨(Nat.le_of_ble_eq_true rfl), (Nat.le_of_ble_eq_true rfl)⟩ dX2_placeThatDiffers_38) (fun y38 hy => ?_)
    obtain ⟨r38, rfl, g_r38, hw⟩ := hy
    refine lv_icmp_eq (tgt := 46) C.1 C.2.1 dX2_placeThatDiffers_41 (by decide) (fun c41 => ?_) (fun c41 => ?_)
    · have hw := hw.1 (z_eq g_r30 g_r38 c41)
      refine lv_iinc (v := zI (l2_20 + 1)) (lv' := [(2, .int (zI (l2_20 + 1))), (0, .ref (ad 32)), (1, .int (zI (min (σ.1 33 2) (σ.1 50 2))))]) C.1 C.2.1 dX2_placeThatDiffers_46 hl (k := 2) rfl (zI_inc _ _ (by decide)) (by decide) rfl (fun ls hl => ?_)
      replace hl := lv_sub hl [1, 2, 0] rfl
      refine lv_goto (tgt := 20) C.1 C.2.1 dX2_placeThatDiffers_49 (by decide) ?_
      obtain ⟨g49_2, hw⟩ := hw
      exact hL20 _ hw _ _ _ ⟨g49_2, Wd, rfl, rfl, lv_sub hl [0, 1, 2] rfl⟩
    · have hw := hw.2 (z_ne g_r30 g_r38 c41)
      refine lv_iload_n C.1 C.2.1 dX2_placeThatDiffers_44 rfl (lv_at hl 2 rfl) ?_
      exact k_zretP C hr hlk rfl ⟨_, rfl, g_l2_20, hw⟩ dX2_placeThatDiffers_45
set_option maxHeartbeats 4000000 in
set_option maxRecDepth 100000 in
theorem mk_M_isTired_33 : ∀ (D : va_G) (ad : Nat → Nat) (ca : Nat → ClassId) (rf : Nat → Nat → Option Nat) (σ : Sg) (hS : rngK σ) (hRF : RFok ad rf) (K : Int → Prop) (hw : wp5_M_isTired σ 33 K) (l : Launch) (sz : Nat), Met l yX3_isTired (Cond.code yX3_isTired cX3_isTired 1 (some .boolean) :: gG) { frames := 1, cells := 0, slots := 0, locals := 64 } (cPre D (tC ca) (wK ad ca rf σ) sz [.ref (ad 33)]) (vp_Si (fun r => ∃ x : Int, r = zI x ∧ rng x ∧ K x)) 0 0 (fun _ => False) := by
  intro D ad ca rf σ hS hRF  K hw l sz
  refine Met.ofW (cc := cX3_isTired) (maxL := 1) (ret := (some .boolean)) (by decide) rfl ?_
  intro p e s m args below meth c s₁ B hml hv
  obtain ⟨rfl, aks, rfl, Wd⟩ := k_enter hv
  have C : CallFix p m c cX3_isTired 1 s _ gG RX3 := ⟨B.exec, B.bytes, hml, findClass_of_methodNamed B.named, fun w h => atoms_spec (ws := Cond.code yX3_isTired cX3_isTired 1 (some .boolean) :: gG) B.pre w (List.mem_cons_of_mem _ h)⟩
  have hr := B.returns
  have hlk := B.notSynchronized
  obtain ⟨A, Wd⟩ : ∃ A, wXK D ad ca rf s σ s.heap A s.heap [] := ⟨_, Wd, hS, hRF⟩
  refine k_locals (Nat.le_of_ble_eq_true rfl) [(0, .ref (ad 33))] rfl (fun ls hl => ?_)
  unfold wp5_M_isTired at hw
  refine lv_aload_n C.1 C.2.1 dX3_isTired_0 rfl (lv_at hl 0 rfl) ?_
  refine k_get (v := .int (zI (σ.1 33 4))) C Wd.1 KX3 _ 4 (cx33 _) (by decide) fl_X3_42 rfl dX3_isTired_1 ?_
  refine lv_iconst (v := zI 2) C.1 C.2.1 dX3_isTired_4 (by decide) ?_
  refine lv_icmp_ne (tgt := 12) C.1 C.2.1 dX3_isTired_5 (by decide) (fun c5 => ?_) (fun c5 => ?_)
  · have hw := hw.1 (z_ne (hS.1 33 4) (show rng 2 from by decide) c5)
    refine lv_iconst (v := zI 0) C.1 C.2.1 dX3_isTired_12 (by decide) ?_
    exact k_zretP C hr hlk (by decide) ⟨_, rfl, (show rng 0 from by decide), hw⟩ dX3_isTired_13
  · have hw := hw.2 (z_eq (hS.1 33 4) (show rng 2 from by decide) c5)
    refine lv_iconst (v := zI 1) C.1 C.2.1 dX3_isTired_8 (by decide) ?_
    refine lv_goto (tgt := 13) C.1 C.2.1 dX3_isTired_9 (by decide) ?_
    exact k_zretP C hr hlk (by decide) ⟨_, rfl, (show rng 1 from by decide), hw⟩ dX3_isTired_13
set_option maxHeartbeats 4000000 in
set_option maxRecDepth 100000 in
theorem mk_M_isTired_50 : ∀ (D : va_G) (ad : Nat → Nat) (ca : Nat → ClassId) (rf : Nat → Nat → Option Nat) (σ : Sg) (hS : rngK σ) (hRF : RFok ad rf) (K : Int → Prop) (hw : wp5_M_isTired σ 50 K) (l : Launch) (sz : Nat), Met l yX3_isTired (Cond.code yX3_isTired cX3_isTired 1 (some .boolean) :: gG) { frames := 1, cells := 0, slots := 0, locals := 64 } (cPre D (tC ca) (wK ad ca rf σ) sz [.ref (ad 50)]) (vp_Si (fun r => ∃ x : Int, r = zI x ∧ rng x ∧ K x)) 0 0 (fun _ => False) := by
  intro D ad ca rf σ hS hRF  K hw l sz
  refine Met.ofW (cc := cX3_isTired) (maxL := 1) (ret := (some .boolean)) (by decide) rfl ?_
  intro p e s m args below meth c s₁ B hml hv
  obtain ⟨rfl, aks, rfl, Wd⟩ := k_enter hv
  have C : CallFix p m c cX3_isTired 1 s _ gG RX3 := ⟨B.exec, B.bytes, hml, findClass_of_methodNamed B.named, fun w h => atoms_spec (ws := Cond.code yX3_isTired cX3_isTired 1 (some .boolean) :: gG) B.pre w (List.mem_cons_of_mem _ h)⟩
  have hr := B.returns
  have hlk := B.notSynchronized
  obtain ⟨A, Wd⟩ : ∃ A, wXK D ad ca rf s σ s.heap A s.heap [] := ⟨_, Wd, hS, hRF⟩
  refine k_locals (Nat.le_of_ble_eq_true rfl) [(0, .ref (ad 50))] rfl (fun ls hl => ?_)
  unfold wp5_M_isTired at hw
  refine lv_aload_n C.1 C.2.1 dX3_isTired_0 rfl (lv_at hl 0 rfl) ?_
  refine k_get (v := .int (zI (σ.1 50 4))) C Wd.1 KX3 _ 4 (cx50 _) (by decide) fl_X3_42 rfl dX3_isTired_1 ?_
  refine lv_iconst (v := zI 2) C.1 C.2.1 dX3_isTired_4 (by decide) ?_
  refine lv_icmp_ne (tgt := 12) C.1 C.2.1 dX3_isTired_5 (by decide) (fun c5 => ?_) (fun c5 => ?_)
  · have hw := hw.1 (z_ne (hS.1 50 4) (show rng 2 from by decide) c5)
    refine lv_iconst (v := zI 0) C.1 C.2.1 dX3_isTired_12 (by decide) ?_
    exact k_zretP C hr hlk (by decide) ⟨_, rfl, (show rng 0 from by decide), hw⟩ dX3_isTired_13
  · have hw := hw.2 (z_eq (hS.1 50 4) (show rng 2 from by decide) c5)
    refine lv_iconst (v := zI 1) C.1 C.2.1 dX3_isTired_8 (by decide) ?_
    refine lv_goto (tgt := 13) C.1 C.2.1 dX3_isTired_9 (by decide) ?_
    exact k_zretP C hr hlk (by decide) ⟨_, rfl, (show rng 1 from by decide), hw⟩ dX3_isTired_13
set_option maxHeartbeats 4000000 in
set_option maxRecDepth 100000 in
theorem mk_J_note : ∀ (D : va_G) (ad : Nat → Nat) (ca : Nat → ClassId) (rf : Nat → Nat → Option Nat) (σ : Sg) (hS : rngK σ) (hRF : RFok ad rf) (x0 : Int) (x1 : Int) (g_x0 : rng x0) (g_x1 : rng x1) (K : Sg → Prop) (hw : wp5_J_note σ x0 x1 K) (l : Launch) (sz : Nat), Met l yX2_note (Cond.code yX2_note cX2_note 6 none :: gG) { frames := 3, cells := 0, slots := 0, locals := 118 } (cPre D (tC ca) (wK ad ca rf σ) sz [.ref (ad 32), .int (zI x0), .int (zI x1)]) (va_Qv (fun (u : Sg) => K u ∧ rngK u) (fun u t => cB D (va_A (wK ad ca rf σ) sz) [] (wK ad ca rf u) t) (va_A (wK ad ca rf σ) sz)) 0 0 (va_A (wK ad ca rf σ) sz) := by
  intro D ad ca rf σ hS hRF x0 x1 g_x0 g_x1 K hw l sz
  refine Met.ofW (cc := cX2_note) (maxL := 6) (ret := none) (by decide) rfl ?_
  intro p e s m args below meth c s₁ B hml hv
  obtain ⟨rfl, aks, rfl, Wd⟩ := k_enter hv
  have C : CallFix p m c cX2_note 6 s _ gG RX2 := ⟨B.exec, B.bytes, hml, findClass_of_methodNamed B.named, fun w h => atoms_spec (ws := Cond.code yX2_note cX2_note 6 none :: gG) B.pre w (List.mem_cons_of_mem _ h)⟩
  have hr := B.returns
  have hlk := B.notSynchronized
  generalize va_A (wK ad ca rf σ) s.heap.size = A at Wd ⊢
  replace Wd : wXK D ad ca rf s σ s.heap A s.heap [] := ⟨Wd, hS, hRF⟩
  refine k_locals (Nat.le_of_ble_eq_true rfl) [(0, .ref (ad 32)), (1, .int (zI x0)), (2, .int (zI x1))] rfl (fun ls hl => ?_)
  unfold wp5_J_note at hw
  refine lv_aload_n C.1 C.2.1 dX2_note_0 rfl (lv_at hl 0 rfl) ?_
  refine k_pi (k_runVK (rest := []) C aks Wd cs_X2_56 (mk_J_placeThatDiffers D ad ca rf σ Wd.2.1 Wd.2.2   _ hw l _) (cx32 _) rfl rfl rfl rfl ⟨(Nat.le_of_ble_eq_true rfl), (Nat.le_of_ble_eq_true rfl)⟩ hl.1 rfl rfl (Nat.le_of_ble_eq_true rfl) ⟨(Nat.le_of_ble_eq_true rfl), (Nat.le_of_ble_eq_true rfl)⟩ dX2_note_1) (fun y1 hy => ?_)
  obtain ⟨r1, rfl, g_r1, hw⟩ := hy
  refine lv_istore_n (lv' := [(3, .int (zI r1)), (0, .ref (ad 32)), (1, .int (zI x0)), (2, .int (zI x1))]) C.1 C.2.1 dX2_note_4 rfl hl (by decide) rfl (fun ls hl => ?_)
  replace hl := lv_sub hl [1, 2, 3, 0] rfl
  refine lv_aload_n C.1 C.2.1 dX2_note_5 rfl (lv_at hl 0 rfl) ?_
  refine k_get (v := .ref (ad 33)) C Wd.1 KX2 _ 4 (cx32 _) (by decide) fl_X2_12 rfl dX2_note_6 ?_
  refine k_pi (k_runVK (rest := []) C aks Wd cs_X2_60 (mk_M_isTired_33 D ad ca rf σ Wd.2.1 Wd.2.2   _ hw l _) (cx33 _) rfl rfl rfl rfl ⟨(Nat.le_of_ble_eq_true rfl), (Nat.le_of_ble_eq_true rfl)⟩ hl.1 rfl rfl (Nat.le_of_ble_eq_true rfl) ⟨(Nat.le_of_ble_eq_true rfl), (Nat.le_of_ble_eq_true rfl)⟩ dX2_note_9) (fun y9 hy => ?_)
  obtain ⟨r9, rfl, g_r9, hw⟩ := hy
  refine k_cut1 (fun (s0_30 : Int) H locs ls => rng s0_30 ∧ wp5_J_note_30 K σ x0 x1 r1 s0_30 ∧ wXK D ad ca rf s σ H A s.heap locs ∧ lv_has ls 6 [(0, .ref (ad 32)), (1, .int (zI x0)), (2, .int (zI x1)), (3, .int (zI r1))]) (fun (s0_30 : Int) ls => F0 m 30 ls [.int (zI s0_30)]) (fun s0_30 H locs ls hi => ?_) (fun J30 => ?_)
  · obtain ⟨g_s0_30, hw, Wd, hl⟩ := hi
    unfold wp5_J_note_30 at hw
    refine lv_istore (lv' := [(4, .int (zI s0_30)), (0, .ref (ad 32)), (1, .int (zI x0)), (2, .int (zI x1)), (3, .int (zI r1))]) C.1 C.2.1 dX2_note_30 hl (by decide) rfl (fun ls hl => ?_)
    replace hl := lv_sub hl [1, 2, 3, 4, 0] rfl
    refine lv_aload_n C.1 C.2.1 dX2_note_32 rfl (lv_at hl 0 rfl) ?_
    refine k_get (v := .ref (ad 33)) C Wd.1 KX2 _ 4 (cx32 _) (by decide) fl_X2_12 rfl dX2_note_33 ?_
    refine k_get (v := .int (zI (σ.1 33 2))) C Wd.1 KX3 _ 2 (cx33 _) (by decide) fl_X2_64 rfl dX2_note_36 ?_
    refine lv_aload_n C.1 C.2.1 dX2_note_39 rfl (lv_at hl 0 rfl) ?_
    refine k_get (v := .ref (ad 50)) C Wd.1 KX2 _ 5 (cx32 _) (by decide) fl_X2_18 rfl dX2_note_40 ?_
    refine k_get (v := .int (zI (σ.1 50 2))) C Wd.1 KX3 _ 2 (cx50 _) (by decide) fl_X2_64 rfl dX2_note_43 ?_
    refine k_cut1 (fun (s0_71 : Int) H locs ls => rng s0_71 ∧ wp5_J_note_71 K σ x0 x1 r1 s0_30 s0_71 ∧ wXK D ad ca rf s σ H A s.heap locs ∧ lv_has ls 6 [(0, .ref (ad 32)), (1, .int (zI x0)), (2, .int (zI x1)), (3, .int (zI r1)), (4, .int (zI s0_30))]) (fun (s0_71 : Int) ls => F0 m 71 ls [.int (zI s0_71)]) (fun s0_71 H locs ls hi => ?_) (fun J71 => ?_)
    · obtain ⟨g_s0_71, hw, Wd, hl⟩ := hi
      unfold wp5_J_note_71 at hw
      refine lv_istore (lv' := [(5, .int (zI s0_71)), (0, .ref (ad 32)), (1, .int (zI x0)), (2, .int (zI x1)), (3, .int (zI r1)), (4, .int (zI s0_30))]) C.1 C.2.1 dX2_note_71 hl (by decide) rfl (fun ls hl => ?_)
      replace hl := lv_sub hl [1, 2, 3, 4, 5, 0] rfl
      refine lv_aload_n C.1 C.2.1 dX2_note_73 rfl (lv_at hl 0 rfl) ?_
      refine lv_aload_n C.1 C.2.1 dX2_note_74 rfl (lv_at hl 0 rfl) ?_
      refine k_get (v := .int (zI (σ.1 32 3))) C Wd.1 KX2 _ 3 (cx32 _) (by decide) fl_X2_31 rfl dX2_note_75 ?_
      refine k_cut1 (fun (s0_91 : Int) H locs ls => rng s0_91 ∧ wp5_J_note_91 K σ x0 x1 r1 s0_30 s0_71 s0_91 ∧ wXK D ad ca rf s σ H A s.heap locs ∧ lv_has ls 6 [(0, .ref (ad 32)), (1, .int (zI x0)), (2, .int (zI x1)), (3, .int (zI r1)), (4, .int (zI s0_30)), (5, .int (zI s0_71))]) (fun (s0_91 : Int) ls => F0 m 91 ls [.int (zI s0_91), .ref (ad 32)]) (fun s0_91 H locs ls hi => ?_) (fun J91 => ?_)
      · obtain ⟨g_s0_91, hw, Wd, hl⟩ := hi
        unfold wp5_J_note_91 at hw
        obtain ⟨b91_0, hw⟩ := hw
        refine k_putK (v := s0_91) C Wd KX2 32 3 (by decide) (cx32 _) rfl (by decide) fl_X2_31 rfl (zI_nb b91_0) (zI_fb b91_0) (Nat.le_of_ble_eq_true rfl) g_s0_91 dX2_note_91 (fun H locs Wd => ?_)
        refine lv_iload_n C.1 C.2.1 dX2_note_94 rfl (lv_at hl 3 rfl) ?_
        refine lv_iconst (v := zI (-1)) C.1 C.2.1 dX2_note_95 (by decide) ?_
        refine k_cut0 (fun H locs ls => wp5_J_note_110 K σ x0 x1 r1 s0_91 ∧ wXK D ad ca rf s (pU σ 32 3 s0_91) H A s.heap locs ∧ lv_has ls 6 [(0, .ref (ad 32)), (1, .int (zI x0)), (2, .int (zI x1)), (3, .int (zI r1))]) (fun  ls => F0 m 110 ls []) (fun  H locs ls hi => ?_) (fun J110 => ?_)
        · obtain ⟨hw, Wd, hl⟩ := hi
          unfold wp5_J_note_110 at hw
          refine lv_aload_n C.1 C.2.1 dX2_note_110 rfl (lv_at hl 0 rfl) ?_
          refine k_get (v := .int (zI (σ.1 32 2))) C Wd.1 KX2 _ 2 (cx32 _) (by decide) fl_X2_28 rfl dX2_note_111 ?_
          refine lv_if_ne (tgt := 127) C.1 C.2.1 dX2_note_114 (by decide) (fun c114 => ?_) (fun c114 => ?_)
          · have hw := hw.1 (z0_ne (hS.1 32 2) c114)
            refine lv_aload_n C.1 C.2.1 dX2_note_127 rfl (lv_at hl 0 rfl) ?_
            refine lv_dup C.1 C.2.1 dX2_note_128 rfl ?_
            refine k_get (v := .int (zI (σ.1 32 2))) C Wd.1 KX2 _ 2 (cx32 _) (by decide) fl_X2_28 rfl dX2_note_129 ?_
            refine lv_iload_n C.1 C.2.1 dX2_note_132 rfl (lv_at hl 2 rfl) ?_
            refine k_iadd (v := zI ((σ.1 32 2) + x1)) C (zI_iadd _ _) dX2_note_133 ?_
            obtain ⟨g134_5, hw⟩ := hw
            refine k_putK (v := ((σ.1 32 2) + x1)) C Wd KX2 32 2 (by decide) (cx32 _) rfl (by decide) fl_X2_28 rfl rfl rfl (Nat.le_of_ble_eq_true rfl) g134_5 dX2_note_134 (fun H locs Wd => ?_)
            exact k_retKv C hr hlk Wd hw dX2_note_137
          · have hw := hw.2 (z0_eq (hS.1 32 2) c114)
            refine lv_aload_n C.1 C.2.1 dX2_note_117 rfl (lv_at hl 0 rfl) ?_
            refine lv_iload_n C.1 C.2.1 dX2_note_118 rfl (lv_at hl 1 rfl) ?_
            refine k_putK (v := x0) C Wd KX2 32 0 (by decide) (cx32 _) rfl (by decide) fl_X2_21 rfl rfl rfl (Nat.le_of_ble_eq_true rfl) g_x0 dX2_note_119 (fun H locs Wd => ?_)
            refine lv_aload_n C.1 C.2.1 dX2_note_122 rfl (lv_at hl 0 rfl) ?_
            refine lv_iload_n C.1 C.2.1 dX2_note_123 rfl (lv_at hl 3 rfl) ?_
            refine k_putK (v := r1) C Wd KX2 32 1 (by decide) (cx32 _) rfl (by decide) fl_X2_25 rfl rfl rfl (Nat.le_of_ble_eq_true rfl) g_r1 dX2_note_124 (fun H locs Wd => ?_)
            refine lv_aload_n C.1 C.2.1 dX2_note_127 rfl (lv_at hl 0 rfl) ?_
            refine lv_dup C.1 C.2.1 dX2_note_128 rfl ?_
            refine k_get (v := .int (zI (σ.1 32 2))) C Wd.1 KX2 _ 2 (cx32 _) (by decide) fl_X2_28 rfl dX2_note_129 ?_
            refine lv_iload_n C.1 C.2.1 dX2_note_132 rfl (lv_at hl 2 rfl) ?_
            refine k_iadd (v := zI ((σ.1 32 2) + x1)) C (zI_iadd _ _) dX2_note_133 ?_
            obtain ⟨g134_6, hw⟩ := hw
            refine k_putK (v := ((σ.1 32 2) + x1)) C Wd KX2 32 2 (by decide) (cx32 _) rfl (by decide) fl_X2_28 rfl rfl rfl (Nat.le_of_ble_eq_true rfl) g134_6 dX2_note_134 (fun H locs Wd => ?_)
            exact k_retKv C hr hlk Wd hw dX2_note_137
        refine lv_icmp_ne (tgt := 110) C.1 C.2.1 dX2_note_96 (by decide) (fun c96 => ?_) (fun c96 => ?_)
        · have hw := hw.1 (z_ne g_r1 (show rng (-1) from by decide) c96)
          exact J110  _ _ _ ⟨hw, Wd, lv_sub hl [0, 1, 2, 3] rfl⟩
        · have hw := hw.2 (z_eq g_r1 (show rng (-1) from by decide) c96)
          refine lv_iload C.1 C.2.1 dX2_note_99 (lv_at hl 4 rfl) ?_
          refine lv_if_ne (tgt := 109) C.1 C.2.1 dX2_note_101 (by decide) (fun c101 => ?_) (fun c101 => ?_)
          · have hw := hw.1 (z0_ne g_s0_30 c101)
            exact k_retKv C hr hlk Wd hw dX2_note_109
          · have hw := hw.2 (z0_eq g_s0_30 c101)
            refine lv_iload C.1 C.2.1 dX2_note_104 (lv_at hl 5 rfl) ?_
            refine lv_if_ne (tgt := 110) C.1 C.2.1 dX2_note_106 (by decide) (fun c106 => ?_) (fun c106 => ?_)
            · have hw := hw.1 (z0_ne g_s0_71 c106)
              exact J110  _ _ _ ⟨hw, Wd, lv_sub hl [0, 1, 2, 3] rfl⟩
            · have hw := hw.2 (z0_eq g_s0_71 c106)
              exact k_retKv C hr hlk Wd hw dX2_note_109
      refine k_cut0 (fun H locs ls => wp5_J_note_86 K σ x0 x1 r1 s0_30 s0_71 ∧ wXK D ad ca rf s σ H A s.heap locs ∧ lv_has ls 6 [(0, .ref (ad 32)), (1, .int (zI x0)), (2, .int (zI x1)), (3, .int (zI r1)), (4, .int (zI s0_30)), (5, .int (zI s0_71))]) (fun  ls => F0 m 86 ls [.ref (ad 32)]) (fun  H locs ls hi => ?_) (fun J86 => ?_)
      · obtain ⟨hw, Wd, hl⟩ := hi
        unfold wp5_J_note_86 at hw
        refine lv_iconst (v := zI 1) C.1 C.2.1 dX2_note_86 (by decide) ?_
        refine lv_goto (tgt := 91) C.1 C.2.1 dX2_note_87 (by decide) ?_
        exact J91 1 _ _ _ ⟨(show rng 1 from by decide), hw, Wd, lv_sub hl [0, 1, 2, 3, 4, 5] rfl⟩
      refine lv_if_ne (tgt := 86) C.1 C.2.1 dX2_note_78 (by decide) (fun c78 => ?_) (fun c78 => ?_)
      · have hw := hw.1 (z0_ne (hS.1 32 3) c78)
        exact J86  _ _ _ ⟨hw, Wd, lv_sub hl [0, 1, 2, 3, 4, 5] rfl⟩
      · have hw := hw.2 (z0_eq (hS.1 32 3) c78)
        refine lv_iload C.1 C.2.1 dX2_note_81 (lv_at hl 4 rfl) ?_
        refine lv_if_eq (tgt := 90) C.1 C.2.1 dX2_note_83 (by decide) (fun c83 => ?_) (fun c83 => ?_)
        · have hw := hw.1 (z0_eq g_s0_30 c83)
          refine lv_iconst (v := zI 0) C.1 C.2.1 dX2_note_90 (by decide) ?_
          exact J91 0 _ _ _ ⟨(show rng 0 from by decide), hw, Wd, lv_sub hl [0, 1, 2, 3, 4, 5] rfl⟩
        · have hw := hw.2 (z0_ne g_s0_30 c83)
          exact J86  _ _ _ ⟨hw, Wd, lv_sub hl [0, 1, 2, 3, 4, 5] rfl⟩
    refine k_cut0 (fun H locs ls => wp5_J_note_66 K σ x0 x1 r1 s0_30 ∧ wXK D ad ca rf s σ H A s.heap locs ∧ lv_has ls 6 [(0, .ref (ad 32)), (1, .int (zI x0)), (2, .int (zI x1)), (3, .int (zI r1)), (4, .int (zI s0_30))]) (fun  ls => F0 m 66 ls []) (fun  H locs ls hi => ?_) (fun J66 => ?_)
    · obtain ⟨hw, Wd, hl⟩ := hi
      unfold wp5_J_note_66 at hw
      refine lv_iconst (v := zI 1) C.1 C.2.1 dX2_note_66 (by decide) ?_
      refine lv_goto (tgt := 71) C.1 C.2.1 dX2_note_67 (by decide) ?_
      exact J71 1 _ _ _ ⟨(show rng 1 from by decide), hw, Wd, lv_sub hl [0, 1, 2, 3, 4] rfl⟩
    refine lv_icmp_ne (tgt := 66) C.1 C.2.1 dX2_note_46 (by decide) (fun c46 => ?_) (fun c46 => ?_)
    · have hw := hw.1 (z_ne (hS.1 33 2) (hS.1 50 2) c46)
      exact J66  _ _ _ ⟨hw, Wd, lv_sub hl [0, 1, 2, 3, 4] rfl⟩
    · have hw := hw.2 (z_eq (hS.1 33 2) (hS.1 50 2) c46)
      refine lv_aload_n C.1 C.2.1 dX2_note_49 rfl (lv_at hl 0 rfl) ?_
      refine k_get (v := .ref (ad 33)) C Wd.1 KX2 _ 4 (cx32 _) (by decide) fl_X2_12 rfl dX2_note_50 ?_
      refine k_get (v := .int (zI (σ.1 33 4))) C Wd.1 KX3 _ 4 (cx33 _) (by decide) fl_X2_67 rfl dX2_note_53 ?_
      refine lv_aload_n C.1 C.2.1 dX2_note_56 rfl (lv_at hl 0 rfl) ?_
      refine k_get (v := .ref (ad 50)) C Wd.1 KX2 _ 5 (cx32 _) (by decide) fl_X2_18 rfl dX2_note_57 ?_
      refine k_get (v := .int (zI (σ.1 50 4))) C Wd.1 KX3 _ 4 (cx50 _) (by decide) fl_X2_67 rfl dX2_note_60 ?_
      refine lv_icmp_eq (tgt := 70) C.1 C.2.1 dX2_note_63 (by decide) (fun c63 => ?_) (fun c63 => ?_)
      · have hw := hw.1 (z_eq (hS.1 33 4) (hS.1 50 4) c63)
        refine lv_iconst (v := zI 0) C.1 C.2.1 dX2_note_70 (by decide) ?_
        exact J71 0 _ _ _ ⟨(show rng 0 from by decide), hw, Wd, lv_sub hl [0, 1, 2, 3, 4] rfl⟩
      · have hw := hw.2 (z_ne (hS.1 33 4) (hS.1 50 4) c63)
        exact J66  _ _ _ ⟨hw, Wd, lv_sub hl [0, 1, 2, 3, 4] rfl⟩
  refine k_cut0 (fun H locs ls => wp5_J_note_25 K σ x0 x1 r1 ∧ wXK D ad ca rf s σ H A s.heap locs ∧ lv_has ls 6 [(0, .ref (ad 32)), (1, .int (zI x0)), (2, .int (zI x1)), (3, .int (zI r1))]) (fun  ls => F0 m 25 ls []) (fun  H locs ls hi => ?_) (fun J25 => ?_)
  · obtain ⟨hw, Wd, hl⟩ := hi
    unfold wp5_J_note_25 at hw
    refine lv_iconst (v := zI 1) C.1 C.2.1 dX2_note_25 (by decide) ?_
    refine lv_goto (tgt := 30) C.1 C.2.1 dX2_note_26 (by decide) ?_
    exact J30 1 _ _ _ ⟨(show rng 1 from by decide), hw, Wd, lv_sub hl [0, 1, 2, 3] rfl⟩
  refine lv_if_ne (tgt := 25) C.1 C.2.1 dX2_note_12 (by decide) (fun c12 => ?_) (fun c12 => ?_)
  · have hw := hw.1 (z0_ne g_r9 c12)
    exact J25  _ _ _ ⟨hw, Wd, lv_sub hl [0, 1, 2, 3] rfl⟩
  · have hw := hw.2 (z0_eq g_r9 c12)
    refine lv_aload_n C.1 C.2.1 dX2_note_15 rfl (lv_at hl 0 rfl) ?_
    refine k_get (v := .ref (ad 50)) C Wd.1 KX2 _ 5 (cx32 _) (by decide) fl_X2_18 rfl dX2_note_16 ?_
    refine k_pi (k_runVK (rest := []) C aks Wd cs_X2_60 (mk_M_isTired_50 D ad ca rf σ Wd.2.1 Wd.2.2   _ hw l _) (cx50 _) rfl rfl rfl rfl ⟨(Nat.le_of_ble_eq_true rfl), (Nat.le_of_ble_eq_true rfl)⟩ hl.1 rfl rfl (Nat.le_of_ble_eq_true rfl) ⟨(Nat.le_of_ble_eq_true rfl), (Nat.le_of_ble_eq_true rfl)⟩ dX2_note_19) (fun y19 hy => ?_)
    obtain ⟨r19, rfl, g_r19, hw⟩ := hy
    refine lv_if_eq (tgt := 29) C.1 C.2.1 dX2_note_22 (by decide) (fun c22 => ?_) (fun c22 => ?_)
    · have hw := hw.1 (z0_eq g_r19 c22)
      refine lv_iconst (v := zI 0) C.1 C.2.1 dX2_note_29 (by decide) ?_
      exact J30 0 _ _ _ ⟨(show rng 0 from by decide), hw, Wd, lv_sub hl [0, 1, 2, 3] rfl⟩
    · have hw := hw.2 (z0_ne g_r19 c22)
      exact J25  _ _ _ ⟨hw, Wd, lv_sub hl [0, 1, 2, 3] rfl⟩
set_option maxHeartbeats 4000000 in
set_option maxRecDepth 100000 in
theorem mk_J_compare : ∀ (D : va_G) (ad : Nat → Nat) (ca : Nat → ClassId) (rf : Nat → Nat → Option Nat) (σ : Sg) (hS : rngK σ) (hRF : RFok ad rf) (x0 : Int) (x1 : Int) (x2 : Int) (g_x0 : 0 ≤ x0 ∧ x0 < 35) (g_x1 : 0 ≤ x1 ∧ x1 < 35) (g_x2 : rng x2) (K : Int → Sg → Prop) (hw : wp5_J_compare σ x0 x1 x2 K) (l : Launch) (sz : Nat), Met l yX2_compare (Cond.code yX2_compare cX2_compare 9 (some .boolean) :: gG) { frames := 5, cells := 0, slots := 0, locals := 170 } (cPre D (tC ca) (wK ad ca rf σ) sz [.ref (ad 32), .ref (ad (rowC x0.toNat)), .ref (ad (rowC x1.toNat)), .int (zI x2)]) (va_Qi (fun (r : Int32) (u : Sg) => (∃ x : Int, r = zI x ∧ rng x ∧ K x u) ∧ rngK u) (fun u t => cB D (va_A (wK ad ca rf σ) sz) [] (wK ad ca rf u) t) (va_A (wK ad ca rf σ) sz)) 0 0 (va_A (wK ad ca rf σ) sz) := by
  intro D ad ca rf σ hS hRF x0 x1 x2 g_x0 g_x1 g_x2 K hw l sz
  refine Met.ofW (cc := cX2_compare) (maxL := 9) (ret := (some .boolean)) (by decide) rfl ?_
  intro p e s m args below meth c s₁ B hml hv
  obtain ⟨rfl, aks, rfl, Wd⟩ := k_enter hv
  have C : CallFix p m c cX2_compare 9 s _ gG RX2 := ⟨B.exec, B.bytes, hml, findClass_of_methodNamed B.named, fun w h => atoms_spec (ws := Cond.code yX2_compare cX2_compare 9 (some .boolean) :: gG) B.pre w (List.mem_cons_of_mem _ h)⟩
  have hr := B.returns
  have hlk := B.notSynchronized
  generalize va_A (wK ad ca rf σ) s.heap.size = A at Wd ⊢
  replace Wd : wXK D ad ca rf s σ s.heap A s.heap [] := ⟨Wd, hS, hRF⟩
  refine k_locals (Nat.le_of_ble_eq_true rfl) [(0, .ref (ad 32)), (1, .ref (ad (rowC x0.toNat))), (2, .ref (ad (rowC x1.toNat))), (3, .int (zI x2))] rfl (fun ls hl => ?_)
  unfold wp5_J_compare at hw
  refine lv_aload_n C.1 C.2.1 dX2_compare_0 rfl (lv_at hl 0 rfl) ?_
  refine lv_iconst (v := zI (-1)) C.1 C.2.1 dX2_compare_1 (by decide) ?_
  refine k_putK (v := (-1)) C Wd KX2 32 0 (by decide) (cx32 _) rfl (by decide) fl_X2_21 rfl rfl rfl (Nat.le_of_ble_eq_true rfl) (show rng (-1) from by decide) dX2_compare_2 (fun H locs Wd => ?_)
  refine lv_aload_n C.1 C.2.1 dX2_compare_5 rfl (lv_at hl 0 rfl) ?_
  refine lv_iconst (v := zI (-1)) C.1 C.2.1 dX2_compare_6 (by decide) ?_
  refine k_putK (v := (-1)) C Wd KX2 32 1 (by decide) (cx32 _) rfl (by decide) fl_X2_25 rfl rfl rfl (Nat.le_of_ble_eq_true rfl) (show rng (-1) from by decide) dX2_compare_7 (fun H locs Wd => ?_)
  refine lv_aload_n C.1 C.2.1 dX2_compare_10 rfl (lv_at hl 0 rfl) ?_
  refine lv_iconst (v := zI 0) C.1 C.2.1 dX2_compare_11 (by decide) ?_
  refine k_putK (v := 0) C Wd KX2 32 2 (by decide) (cx32 _) rfl (by decide) fl_X2_28 rfl rfl rfl (Nat.le_of_ble_eq_true rfl) (show rng 0 from by decide) dX2_compare_12 (fun H locs Wd => ?_)
  refine lv_aload_n C.1 C.2.1 dX2_compare_15 rfl (lv_at hl 0 rfl) ?_
  refine lv_iconst (v := zI 0) C.1 C.2.1 dX2_compare_16 (by decide) ?_
  refine k_putK (v := 0) C Wd KX2 32 3 (by decide) (cx32 _) rfl (by decide) fl_X2_31 rfl (by decide) (by decide) (Nat.le_of_ble_eq_true rfl) (show rng 0 from by decide) dX2_compare_17 (fun H locs Wd => ?_)
  refine lv_aload_n C.1 C.2.1 dX2_compare_20 rfl (lv_at hl 0 rfl) ?_
  refine k_get (v := .ref (ad 33)) C Wd.1 KX2 _ 4 (cx32 _) (by decide) fl_X2_12 rfl dX2_compare_21 ?_
  refine k_get (v := .ref (ad 37)) C Wd.1 KX3 _ 0 (cx33 _) (by decide) fl_X2_35 rfl dX2_compare_24 ?_
  refine lv_aload_n C.1 C.2.1 dX2_compare_27 rfl (lv_at hl 1 rfl) ?_
  refine k_cKv Wd (k_runVK (rest := []) C aks Wd cs_X2_39 (mk_F_trace_37 D ad ca rf (pU (pU (pU (pU σ 32 0 (-1)) 32 1 (-1)) 32 2 0) 32 3 0) Wd.2.1 Wd.2.2 x0 g_x0 _ hw l _) (cx37 _) rfl rfl rfl rfl ⟨(Nat.le_of_ble_eq_true rfl), (Nat.le_of_ble_eq_true rfl)⟩ hl.1 rfl rfl (Nat.le_of_ble_eq_true rfl) ⟨(Nat.le_of_ble_eq_true rfl), (Nat.le_of_ble_eq_true rfl)⟩ dX2_compare_28) (fun σr28 H locs hw Wd => ?_)
  have hS_σr28 := Wd.2.1
  refine lv_aload_n C.1 C.2.1 dX2_compare_31 rfl (lv_at hl 0 rfl) ?_
  refine k_get (v := .ref (ad 50)) C Wd.1 KX2 _ 5 (cx32 _) (by decide) fl_X2_18 rfl dX2_compare_32 ?_
  refine k_get (v := .ref (ad 54)) C Wd.1 KX3 _ 0 (cx50 _) (by decide) fl_X2_35 rfl dX2_compare_35 ?_
  refine lv_aload_n C.1 C.2.1 dX2_compare_38 rfl (lv_at hl 2 rfl) ?_
  refine k_cKv Wd (k_runVK (rest := []) C aks Wd cs_X2_39 (mk_F_trace_54 D ad ca rf σr28 Wd.2.1 Wd.2.2 x1 g_x1 _ hw l _) (cx54 _) rfl rfl rfl rfl ⟨(Nat.le_of_ble_eq_true rfl), (Nat.le_of_ble_eq_true rfl)⟩ hl.1 rfl rfl (Nat.le_of_ble_eq_true rfl) ⟨(Nat.le_of_ble_eq_true rfl), (Nat.le_of_ble_eq_true rfl)⟩ dX2_compare_39) (fun σr39 H locs hw Wd => ?_)
  have hS_σr39 := Wd.2.1
  refine lv_aload_n C.1 C.2.1 dX2_compare_42 rfl (lv_at hl 0 rfl) ?_
  refine k_get (v := .ref (ad 33)) C Wd.1 KX2 _ 4 (cx32 _) (by decide) fl_X2_12 rfl dX2_compare_43 ?_
  refine k_get (v := .ref (ad 37)) C Wd.1 KX3 _ 0 (cx33 _) (by decide) fl_X2_35 rfl dX2_compare_46 ?_
  refine lv_iconst (v := zI 0) C.1 C.2.1 dX2_compare_49 (by decide) ?_
  refine k_pi (k_runVK (rest := []) C aks Wd cs_X2_45 (mk_F_aheadOf_37 D ad ca rf σr39 Wd.2.1 Wd.2.2 0 (show rng 0 from by decide) _ hw l _) (cx37 _) rfl rfl rfl rfl ⟨(Nat.le_of_ble_eq_true rfl), (Nat.le_of_ble_eq_true rfl)⟩ hl.1 rfl rfl (Nat.le_of_ble_eq_true rfl) ⟨(Nat.le_of_ble_eq_true rfl), (Nat.le_of_ble_eq_true rfl)⟩ dX2_compare_50) (fun y50 hy => ?_)
  obtain ⟨r50, rfl, g_r50, hw⟩ := hy
  refine lv_aload_n C.1 C.2.1 dX2_compare_53 rfl (lv_at hl 0 rfl) ?_
  refine k_get (v := .ref (ad 50)) C Wd.1 KX2 _ 5 (cx32 _) (by decide) fl_X2_18 rfl dX2_compare_54 ?_
  refine k_get (v := .ref (ad 54)) C Wd.1 KX3 _ 0 (cx50 _) (by decide) fl_X2_35 rfl dX2_compare_57 ?_
  refine lv_iconst (v := zI 0) C.1 C.2.1 dX2_compare_60 (by decide) ?_
  refine k_pi (k_runVK (rest := [.int (zI r50)]) C aks Wd cs_X2_45 (mk_F_aheadOf_54 D ad ca rf σr39 Wd.2.1 Wd.2.2 0 (show rng 0 from by decide) _ hw l _) (cx54 _) rfl rfl rfl rfl ⟨(Nat.le_of_ble_eq_true rfl), (Nat.le_of_ble_eq_true rfl)⟩ hl.1 rfl rfl (Nat.le_of_ble_eq_true rfl) ⟨(Nat.le_of_ble_eq_true rfl), (Nat.le_of_ble_eq_true rfl)⟩ dX2_compare_61) (fun y61 hy => ?_)
  obtain ⟨r61, rfl, g_r61, hw⟩ := hy
  refine k_ior (v := zI (zior r50 r61)) C (zior_eq _ _) dX2_compare_64 ?_
  refine lv_istore (lv' := [(4, .int (zI (zior r50 r61))), (0, .ref (ad 32)), (1, .ref (ad (rowC x0.toNat))), (2, .ref (ad (rowC x1.toNat))), (3, .int (zI x2))]) C.1 C.2.1 dX2_compare_65 hl (by decide) rfl (fun ls hl => ?_)
  replace hl := lv_sub hl [1, 2, 3, 4, 0] rfl
  refine lv_iload C.1 C.2.1 dX2_compare_67 (lv_at hl 4 rfl) ?_
  refine lv_iconst (v := zI 1) C.1 C.2.1 dX2_compare_69 (by decide) ?_
  refine k_iand (v := zI (ziand (zior r50 r61) 1)) C (ziand_eq _ _) dX2_compare_70 ?_
  refine k_cut1 (fun (s0_80 : Int) H locs ls => rng s0_80 ∧ wp5_J_compare_80 K x2 r50 r61 σr39 s0_80 ∧ wXK D ad ca rf s σr39 H A s.heap locs ∧ lv_has ls 9 [(0, .ref (ad 32)), (3, .int (zI x2)), (4, .int (zI (zior r50 r61)))]) (fun (s0_80 : Int) ls => F0 m 80 ls [.int (zI s0_80)]) (fun s0_80 H locs ls hi => ?_) (fun J80 => ?_)
  · obtain ⟨g_s0_80, hw, Wd, hl⟩ := hi
    unfold wp5_J_compare_80 at hw
    refine lv_istore (lv' := [(5, .int (zI s0_80)), (0, .ref (ad 32)), (3, .int (zI x2)), (4, .int (zI (zior r50 r61)))]) C.1 C.2.1 dX2_compare_80 hl (by decide) rfl (fun ls hl => ?_)
    replace hl := lv_sub hl [1, 2, 3, 0] rfl
    refine lv_iload C.1 C.2.1 dX2_compare_82 (lv_at hl 2 rfl) ?_
    refine lv_iconst (v := zI 2) C.1 C.2.1 dX2_compare_84 (by decide) ?_
    refine k_iand (v := zI (ziand (zior r50 r61) 2)) C (ziand_eq _ _) dX2_compare_85 ?_
    refine k_cut1 (fun (s0_95 : Int) H locs ls => rng s0_95 ∧ wp5_J_compare_95 K x2 s0_80 σr39 s0_95 ∧ wXK D ad ca rf s σr39 H A s.heap locs ∧ lv_has ls 9 [(0, .ref (ad 32)), (3, .int (zI x2)), (5, .int (zI s0_80))]) (fun (s0_95 : Int) ls => F0 m 95 ls [.int (zI s0_95)]) (fun s0_95 H locs ls hi => ?_) (fun J95 => ?_)
    · obtain ⟨g_s0_95, hw, Wd, hl⟩ := hi
      unfold wp5_J_compare_95 at hw
      refine lv_istore (lv' := [(6, .int (zI s0_95)), (0, .ref (ad 32)), (3, .int (zI x2)), (5, .int (zI s0_80))]) C.1 C.2.1 dX2_compare_95 hl (by decide) rfl (fun ls hl => ?_)
      replace hl := lv_sub hl [1, 2, 3, 0] rfl
      refine lv_iconst (v := zI 0) C.1 C.2.1 dX2_compare_97 (by decide) ?_
      refine lv_istore (lv' := [(7, .int (zI 0)), (0, .ref (ad 32)), (3, .int (zI x2)), (5, .int (zI s0_80)), (6, .int (zI s0_95))]) C.1 C.2.1 dX2_compare_98 hl (by decide) rfl (fun ls hl => ?_)
      replace hl := lv_sub hl [1, 2, 3, 4, 0] rfl
      refine k_lp2 hw (fun (l7_100 : Int) (σ100 : Sg) H locs ls => rng l7_100 ∧ wXK D ad ca rf s σ100 H A s.heap locs ∧ lv_has ls 9 [(0, .ref (ad 32)), (3, .int (zI x2)), (5, .int (zI s0_80)), (6, .int (zI s0_95)), (7, .int (zI l7_100))]) (fun (l7_100 : Int) (σ100 : Sg) ls => F0 m 100 ls []) (fun L100 hL100 l7_100 σ100 hw H locs ls hi => ?_) _ _ _ ⟨(show rng 0 from by decide), Wd, lv_sub hl [0, 1, 2, 3, 4] rfl⟩
      obtain ⟨g_l7_100, Wd, hl⟩ := hi
      have hS_σ100 := Wd.2.1
      unfold wp5_J_compare_100 at hw
      refine lv_iload C.1 C.2.1 dX2_compare_100 (lv_at hl 4 rfl) ?_
      refine lv_bipush (v := zI 16) C.1 C.2.1 dX2_compare_102 (by decide) ?_
      refine lv_icmp_ge (tgt := 189) C.1 C.2.1 dX2_compare_104 (by decide) (fun c104 => ?_) (fun c104 => ?_)
      · have hw := hw.1 (z_le (show rng 16 from by decide) g_l7_100 c104)
        refine lv_aload_n C.1 C.2.1 dX2_compare_189 rfl (lv_at hl 0 rfl) ?_
        refine k_get (v := .int (zI (σ100.1 32 2))) C Wd.1 KX2 _ 2 (cx32 _) (by decide) fl_X2_28 rfl dX2_compare_190 ?_
        refine lv_if_le (tgt := 200) C.1 C.2.1 dX2_compare_193 (by decide) (fun c193 => ?_) (fun c193 => ?_)
        · have hw := hw.1 (z0_le (hS_σ100.1 32 2) c193)
          refine lv_iconst (v := zI 0) C.1 C.2.1 dX2_compare_200 (by decide) ?_
          exact k_retKi C hr hlk (by decide) Wd ⟨_, rfl, (show rng 0 from by decide), hw⟩ dX2_compare_201
        · have hw := hw.2 (z0_nle (hS_σ100.1 32 2) c193)
          refine lv_iconst (v := zI 1) C.1 C.2.1 dX2_compare_196 (by decide) ?_
          refine lv_goto (tgt := 201) C.1 C.2.1 dX2_compare_197 (by decide) ?_
          exact k_retKi C hr hlk (by decide) Wd ⟨_, rfl, (show rng 1 from by decide), hw⟩ dX2_compare_201
      · have hw := hw.2 (z_nle (show rng 16 from by decide) g_l7_100 c104)
        refine lv_iconst (v := zI 0) C.1 C.2.1 dX2_compare_107 (by decide) ?_
        refine lv_istore (lv' := [(8, .int (zI 0)), (0, .ref (ad 32)), (3, .int (zI x2)), (5, .int (zI s0_80)), (6, .int (zI s0_95)), (7, .int (zI l7_100))]) C.1 C.2.1 dX2_compare_108 hl (by decide) rfl (fun ls hl => ?_)
        replace hl := lv_sub hl [1, 2, 3, 4, 5, 0] rfl
        refine k_lp2 hw (fun (l8_110 : Int) (σ110 : Sg) H locs ls => rng l8_110 ∧ wXK D ad ca rf s σ110 H A s.heap locs ∧ lv_has ls 9 [(0, .ref (ad 32)), (3, .int (zI x2)), (5, .int (zI s0_80)), (6, .int (zI s0_95)), (7, .int (zI l7_100)), (8, .int (zI l8_110))]) (fun (l8_110 : Int) (σ110 : Sg) ls => F0 m 110 ls []) (fun L110 hL110 l8_110 σ110 hw H locs ls hi => ?_) _ _ _ ⟨(show rng 0 from by decide), Wd, lv_sub hl [0, 1, 2, 3, 4, 5] rfl⟩
        obtain ⟨g_l8_110, Wd, hl⟩ := hi
        have hS_σ110 := Wd.2.1
        unfold wp5_J_compare_110 at hw
        refine lv_iload C.1 C.2.1 dX2_compare_110 (lv_at hl 5 rfl) ?_
        refine lv_bipush (v := zI 16) C.1 C.2.1 dX2_compare_112 (by decide) ?_
        refine lv_icmp_ge (tgt := 179) C.1 C.2.1 dX2_compare_114 (by decide) (fun c114 => ?_) (fun c114 => ?_)
        · have hw := hw.1 (z_le (show rng 16 from by decide) g_l8_110 c114)
          refine lv_iload C.1 C.2.1 dX2_compare_179 (lv_at hl 4 rfl) ?_
          refine lv_iload C.1 C.2.1 dX2_compare_181 (lv_at hl 2 rfl) ?_
          refine k_iadd (v := zI (l7_100 + s0_80)) C (zI_iadd _ _) dX2_compare_183 ?_
          refine lv_istore (lv' := [(7, .int (zI (l7_100 + s0_80))), (0, .ref (ad 32)), (3, .int (zI x2)), (5, .int (zI s0_80)), (6, .int (zI s0_95)), (8, .int (zI l8_110))]) C.1 C.2.1 dX2_compare_184 hl (by decide) rfl (fun ls hl => ?_)
          replace hl := lv_sub hl [1, 2, 3, 4, 0, 5] rfl
          refine lv_goto (tgt := 100) C.1 C.2.1 dX2_compare_186 (by decide) ?_
          obtain ⟨g186_19, hw⟩ := hw
          exact hL100 _ _ hw _ _ _ ⟨g186_19, Wd, lv_sub hl [0, 1, 2, 3, 4] rfl⟩
        · have hw := hw.2 (z_nle (show rng 16 from by decide) g_l8_110 c114)
          refine lv_aload_n C.1 C.2.1 dX2_compare_117 rfl (lv_at hl 0 rfl) ?_
          refine k_get (v := .ref (ad 33)) C Wd.1 KX2 _ 4 (cx32 _) (by decide) fl_X2_12 rfl dX2_compare_118 ?_
          refine lv_iload C.1 C.2.1 dX2_compare_121 (lv_at hl 4 rfl) ?_
          refine lv_iload C.1 C.2.1 dX2_compare_123 (lv_at hl 5 rfl) ?_
          refine k_cKv Wd (k_runVK (rest := []) C aks Wd cs_X2_49 (mk_M_go_33 D ad ca rf σ110 Wd.2.1 Wd.2.2 l7_100 l8_110 g_l7_100 g_l8_110 _ hw l _) (cx33 _) rfl rfl rfl rfl ⟨(Nat.le_of_ble_eq_true rfl), (Nat.le_of_ble_eq_true rfl)⟩ hl.1 rfl rfl (Nat.le_of_ble_eq_true rfl) ⟨(Nat.le_of_ble_eq_true rfl), (Nat.le_of_ble_eq_true rfl)⟩ dX2_compare_125) (fun σr125 H locs hw Wd => ?_)
          have hS_σr125 := Wd.2.1
          refine lv_aload_n C.1 C.2.1 dX2_compare_128 rfl (lv_at hl 0 rfl) ?_
          refine k_get (v := .ref (ad 50)) C Wd.1 KX2 _ 5 (cx32 _) (by decide) fl_X2_18 rfl dX2_compare_129 ?_
          refine lv_iload C.1 C.2.1 dX2_compare_132 (lv_at hl 4 rfl) ?_
          refine lv_iload C.1 C.2.1 dX2_compare_134 (lv_at hl 5 rfl) ?_
          refine k_cKv Wd (k_runVK (rest := []) C aks Wd cs_X2_49 (mk_M_go_50 D ad ca rf σr125 Wd.2.1 Wd.2.2 l7_100 l8_110 g_l7_100 g_l8_110 _ hw l _) (cx50 _) rfl rfl rfl rfl ⟨(Nat.le_of_ble_eq_true rfl), (Nat.le_of_ble_eq_true rfl)⟩ hl.1 rfl rfl (Nat.le_of_ble_eq_true rfl) ⟨(Nat.le_of_ble_eq_true rfl), (Nat.le_of_ble_eq_true rfl)⟩ dX2_compare_136) (fun σr136 H locs hw Wd => ?_)
          have hS_σr136 := Wd.2.1
          refine lv_aload_n C.1 C.2.1 dX2_compare_139 rfl (lv_at hl 0 rfl) ?_
          refine lv_bipush (v := zI 16) C.1 C.2.1 dX2_compare_140 (by decide) ?_
          refine lv_iload C.1 C.2.1 dX2_compare_142 (lv_at hl 4 rfl) ?_
          refine k_imul (v := zI (16 * l7_100)) C (zI_imul _ _) dX2_compare_144 ?_
          refine lv_iload C.1 C.2.1 dX2_compare_145 (lv_at hl 5 rfl) ?_
          refine k_iadd (v := zI ((16 * l7_100) + l8_110)) C (zI_iadd _ _) dX2_compare_147 ?_
          refine lv_iload C.1 C.2.1 dX2_compare_148 (lv_at hl 2 rfl) ?_
          refine lv_iload C.1 C.2.1 dX2_compare_150 (lv_at hl 3 rfl) ?_
          refine k_imul (v := zI (s0_80 * s0_95)) C (zI_imul _ _) dX2_compare_152 ?_
          obtain ⟨g153_20, hw⟩ := hw
          obtain ⟨g153_21, hw⟩ := hw
          refine k_cKv Wd (k_runVK (rest := []) C aks Wd cs_X2_53 (mk_J_note D ad ca rf σr136 Wd.2.1 Wd.2.2 ((16 * l7_100) + l8_110) (s0_80 * s0_95) g153_20 g153_21 _ hw l _) (cx32 _) rfl rfl rfl rfl ⟨(Nat.le_of_ble_eq_true rfl), (Nat.le_of_ble_eq_true rfl)⟩ hl.1 rfl rfl (Nat.le_of_ble_eq_true rfl) ⟨(Nat.le_of_ble_eq_true rfl), (Nat.le_of_ble_eq_true rfl)⟩ dX2_compare_153) (fun σr153 H locs hw Wd => ?_)
          have hS_σr153 := Wd.2.1
          refine lv_iload_n C.1 C.2.1 dX2_compare_156 rfl (lv_at hl 1 rfl) ?_
          refine lv_if_eq (tgt := 169) C.1 C.2.1 dX2_compare_157 (by decide) (fun c157 => ?_) (fun c157 => ?_)
          · have hw := hw.1 (z0_eq g_x2 c157)
            refine lv_iload C.1 C.2.1 dX2_compare_169 (lv_at hl 5 rfl) ?_
            refine lv_iload C.1 C.2.1 dX2_compare_171 (lv_at hl 3 rfl) ?_
            refine k_iadd (v := zI (l8_110 + s0_95)) C (zI_iadd _ _) dX2_compare_173 ?_
            refine lv_istore (lv' := [(8, .int (zI (l8_110 + s0_95))), (0, .ref (ad 32)), (3, .int (zI x2)), (5, .int (zI s0_80)), (6, .int (zI s0_95)), (7, .int (zI l7_100))]) C.1 C.2.1 dX2_compare_174 hl (by decide) rfl (fun ls hl => ?_)
            replace hl := lv_sub hl [1, 2, 3, 4, 5, 0] rfl
            refine lv_goto (tgt := 110) C.1 C.2.1 dX2_compare_176 (by decide) ?_
            obtain ⟨g176_22, hw⟩ := hw
            exact hL110 _ _ hw _ _ _ ⟨g176_22, Wd, lv_sub hl [0, 1, 2, 3, 4, 5] rfl⟩
          · have hw := hw.2 (z0_ne g_x2 c157)
            refine lv_aload_n C.1 C.2.1 dX2_compare_160 rfl (lv_at hl 0 rfl) ?_
            refine k_get (v := .int (zI (σr153.1 32 2))) C Wd.1 KX2 _ 2 (cx32 _) (by decide) fl_X2_28 rfl dX2_compare_161 ?_
            refine lv_if_le (tgt := 169) C.1 C.2.1 dX2_compare_164 (by decide) (fun c164 => ?_) (fun c164 => ?_)
            · have hw := hw.1 (z0_le (hS_σr153.1 32 2) c164)
              refine lv_iload C.1 C.2.1 dX2_compare_169 (lv_at hl 5 rfl) ?_
              refine lv_iload C.1 C.2.1 dX2_compare_171 (lv_at hl 3 rfl) ?_
              refine k_iadd (v := zI (l8_110 + s0_95)) C (zI_iadd _ _) dX2_compare_173 ?_
              refine lv_istore (lv' := [(8, .int (zI (l8_110 + s0_95))), (0, .ref (ad 32)), (3, .int (zI x2)), (5, .int (zI s0_80)), (6, .int (zI s0_95)), (7, .int (zI l7_100))]) C.1 C.2.1 dX2_compare_174 hl (by decide) rfl (fun ls hl => ?_)
              replace hl := lv_sub hl [1, 2, 3, 4, 5, 0] rfl
              refine lv_goto (tgt := 110) C.1 C.2.1 dX2_compare_176 (by decide) ?_
              obtain ⟨g176_23, hw⟩ := hw
              exact hL110 _ _ hw _ _ _ ⟨g176_23, Wd, lv_sub hl [0, 1, 2, 3, 4, 5] rfl⟩
            · have hw := hw.2 (z0_nle (hS_σr153.1 32 2) c164)
              refine lv_iconst (v := zI 1) C.1 C.2.1 dX2_compare_167 (by decide) ?_
              exact k_retKi C hr hlk (by decide) Wd ⟨_, rfl, (show rng 1 from by decide), hw⟩ dX2_compare_168
    refine lv_if_eq (tgt := 93) C.1 C.2.1 dX2_compare_86 (by decide) (fun c86 => ?_) (fun c86 => ?_)
    · have hw := hw.1 (z0_eq (rng_toInt _) c86)
      refine lv_bipush (v := zI 16) C.1 C.2.1 dX2_compare_93 (by decide) ?_
      exact J95 16 _ _ _ ⟨(show rng 16 from by decide), hw, Wd, lv_sub hl [0, 1, 3] rfl⟩
    · have hw := hw.2 (z0_ne (rng_toInt _) c86)
      refine lv_iconst (v := zI 1) C.1 C.2.1 dX2_compare_89 (by decide) ?_
      refine lv_goto (tgt := 95) C.1 C.2.1 dX2_compare_90 (by decide) ?_
      exact J95 1 _ _ _ ⟨(show rng 1 from by decide), hw, Wd, lv_sub hl [0, 1, 3] rfl⟩
  refine lv_if_eq (tgt := 78) C.1 C.2.1 dX2_compare_71 (by decide) (fun c71 => ?_) (fun c71 => ?_)
  · have hw := hw.1 (z0_eq (rng_toInt _) c71)
    refine lv_bipush (v := zI 16) C.1 C.2.1 dX2_compare_78 (by decide) ?_
    exact J80 16 _ _ _ ⟨(show rng 16 from by decide), hw, Wd, lv_sub hl [0, 3, 4] rfl⟩
  · have hw := hw.2 (z0_ne (rng_toInt _) c71)
    refine lv_iconst (v := zI 1) C.1 C.2.1 dX2_compare_74 (by decide) ?_
    refine lv_goto (tgt := 80) C.1 C.2.1 dX2_compare_75 (by decide) ?_
    exact J80 1 _ _ _ ⟨(show rng 1 from by decide), hw, Wd, lv_sub hl [0, 3, 4] rfl⟩
set_option maxHeartbeats 4000000 in
set_option maxRecDepth 100000 in
theorem mk_J_verdict : ∀ (D : va_G) (ad : Nat → Nat) (ca : Nat → ClassId) (rf : Nat → Nat → Option Nat) (σ : Sg) (hS : rngK σ) (hRF : RFok ad rf) (K : Int → Prop) (hw : wp5_J_verdict σ K) (l : Launch) (sz : Nat), Met l yX2_verdict (Cond.code yX2_verdict cX2_verdict 1 (some .int) :: gG) { frames := 1, cells := 0, slots := 0, locals := 64 } (cPre D (tC ca) (wK ad ca rf σ) sz [.ref (ad 32)]) (vp_Si (fun r => ∃ x : Int, r = zI x ∧ rng x ∧ K x)) 0 0 (fun _ => False) := by
  intro D ad ca rf σ hS hRF  K hw l sz
  refine Met.ofW (cc := cX2_verdict) (maxL := 1) (ret := (some .int)) (by decide) rfl ?_
  intro p e s m args below meth c s₁ B hml hv
  obtain ⟨rfl, aks, rfl, Wd⟩ := k_enter hv
  have C : CallFix p m c cX2_verdict 1 s _ gG RX2 := ⟨B.exec, B.bytes, hml, findClass_of_methodNamed B.named, fun w h => atoms_spec (ws := Cond.code yX2_verdict cX2_verdict 1 (some .int) :: gG) B.pre w (List.mem_cons_of_mem _ h)⟩
  have hr := B.returns
  have hlk := B.notSynchronized
  obtain ⟨A, Wd⟩ : ∃ A, wXK D ad ca rf s σ s.heap A s.heap [] := ⟨_, Wd, hS, hRF⟩
  refine k_locals (Nat.le_of_ble_eq_true rfl) [(0, .ref (ad 32))] rfl (fun ls hl => ?_)
  unfold wp5_J_verdict at hw
  refine lv_aload_n C.1 C.2.1 dX2_verdict_0 rfl (lv_at hl 0 rfl) ?_
  refine k_get (v := .int (zI (σ.1 32 2))) C Wd.1 KX2 _ 2 (cx32 _) (by decide) fl_X2_28 rfl dX2_verdict_1 ?_
  refine lv_if_le (tgt := 11) C.1 C.2.1 dX2_verdict_4 (by decide) (fun c4 => ?_) (fun c4 => ?_)
  · have hw := hw.1 (z0_le (hS.1 32 2) c4)
    refine lv_aload_n C.1 C.2.1 dX2_verdict_11 rfl (lv_at hl 0 rfl) ?_
    refine k_get (v := .int (zI (σ.1 32 3))) C Wd.1 KX2 _ 3 (cx32 _) (by decide) fl_X2_31 rfl dX2_verdict_12 ?_
    refine lv_if_eq (tgt := 22) C.1 C.2.1 dX2_verdict_15 (by decide) (fun c15 => ?_) (fun c15 => ?_)
    · have hw := hw.1 (z0_eq (hS.1 32 3) c15)
      refine lv_iconst (v := zI 0) C.1 C.2.1 dX2_verdict_22 (by decide) ?_
      exact k_zretP C hr hlk rfl ⟨_, rfl, (show rng 0 from by decide), hw⟩ dX2_verdict_23
    · have hw := hw.2 (z0_ne (hS.1 32 3) c15)
      refine lv_iconst (v := zI 2) C.1 C.2.1 dX2_verdict_18 (by decide) ?_
      refine lv_goto (tgt := 23) C.1 C.2.1 dX2_verdict_19 (by decide) ?_
      exact k_zretP C hr hlk rfl ⟨_, rfl, (show rng 2 from by decide), hw⟩ dX2_verdict_23
  · have hw := hw.2 (z0_nle (hS.1 32 2) c4)
    refine lv_iconst (v := zI 1) C.1 C.2.1 dX2_verdict_7 (by decide) ?_
    refine lv_goto (tgt := 23) C.1 C.2.1 dX2_verdict_8 (by decide) ?_
    exact k_zretP C hr hlk rfl ⟨_, rfl, (show rng 1 from by decide), hw⟩ dX2_verdict_23
set_option maxHeartbeats 4000000 in
set_option maxRecDepth 100000 in
theorem mk_S_judge : ∀ (D : va_G) (ad : Nat → Nat) (ca : Nat → ClassId) (rf : Nat → Nat → Option Nat) (σ : Sg) (hS : rngK σ) (hRF : RFok ad rf) (x0 : Int) (x1 : Int) (x2 : Int) (g_x0 : rng x0) (g_x1 : rng x1) (g_x2 : rng x2) (K : Int → Sg → Prop) (hw : wp5_S_judge σ x0 x1 x2 K) (l : Launch) (sz : Nat), Met l yX11_judge (Cond.code yX11_judge cX11_judge 7 (some .int) :: gG) { frames := 6, cells := 0, slots := 0, locals := 198 } (cPre D (tC ca) (wK ad ca rf σ) sz [.ref (ad 0), .int (zI x0), .int (zI x1), .int (zI x2)]) (va_Qi (fun (r : Int32) (u : Sg) => (∃ x : Int, r = zI x ∧ rng x ∧ K x u) ∧ rngK u) (fun u t => cB D (va_A (wK ad ca rf σ) sz) [] (wK ad ca rf u) t) (va_A (wK ad ca rf σ) sz)) 0 0 (va_A (wK ad ca rf σ) sz) := by
  intro D ad ca rf σ hS hRF x0 x1 x2 g_x0 g_x1 g_x2 K hw l sz
  refine Met.ofW (cc := cX11_judge) (maxL := 7) (ret := (some .int)) (by decide) rfl ?_
  intro p e s m args below meth c s₁ B hml hv
  obtain ⟨rfl, aks, rfl, Wd⟩ := k_enter hv
  have C : CallFix p m c cX11_judge 7 s _ gG RX11 := ⟨B.exec, B.bytes, hml, findClass_of_methodNamed B.named, fun w h => atoms_spec (ws := Cond.code yX11_judge cX11_judge 7 (some .int) :: gG) B.pre w (List.mem_cons_of_mem _ h)⟩
  have hr := B.returns
  have hlk := B.notSynchronized
  generalize va_A (wK ad ca rf σ) s.heap.size = A at Wd ⊢
  replace Wd : wXK D ad ca rf s σ s.heap A s.heap [] := ⟨Wd, hS, hRF⟩
  refine k_locals (Nat.le_of_ble_eq_true rfl) [(0, .ref (ad 0)), (1, .int (zI x0)), (2, .int (zI x1)), (3, .int (zI x2))] rfl (fun ls hl => ?_)
  unfold wp5_S_judge at hw
  refine lv_aload_n C.1 C.2.1 dX11_judge_0 rfl (lv_at hl 0 rfl) ?_
  refine lv_iload_n C.1 C.2.1 dX11_judge_1 rfl (lv_at hl 1 rfl) ?_
  refine k_pq (k_runVK (rest := []) C aks Wd cs_X11_77 (mk_S_slotAt D ad ca rf σ Wd.2.1 Wd.2.2 x0 g_x0 _ hw l _) (cx0 _) rfl rfl rfl rfl ⟨(Nat.le_of_ble_eq_true rfl), (Nat.le_of_ble_eq_true rfl)⟩ hl.1 rfl rfl (Nat.le_of_ble_eq_true rfl) ⟨(Nat.le_of_ble_eq_true rfl), (Nat.le_of_ble_eq_true rfl)⟩ dX11_judge_2) (fun y2 hy => ?_)
  obtain ⟨r2, rfl, hw⟩ := hy
  by_cases c2 : r2 < 0
  · have hw := hw.1 c2
    rw [rfO_null c2]
    show W p l e _ s m _ below meth c _ _ _ _ _ (F0 m _ ls (.null :: []))
    refine lv_astoreN (lv' := [(4, .null), (0, .ref (ad 0)), (1, .int (zI x0)), (2, .int (zI x1)), (3, .int (zI x2))]) C.1 C.2.1 dX11_judge_5 hl (by decide) rfl (fun ls hl => ?_)
    replace hl := lv_sub hl [1, 2, 3, 4, 0] rfl
    refine lv_aload_n C.1 C.2.1 dX11_judge_7 rfl (lv_at hl 0 rfl) ?_
    refine lv_iload_n C.1 C.2.1 dX11_judge_8 rfl (lv_at hl 2 rfl) ?_
    refine k_pq (k_runVK (rest := []) C aks Wd cs_X11_77 (mk_S_slotAt D ad ca rf σ Wd.2.1 Wd.2.2 x1 g_x1 _ hw l _) (cx0 _) rfl rfl rfl rfl ⟨(Nat.le_of_ble_eq_true rfl), (Nat.le_of_ble_eq_true rfl)⟩ hl.1 rfl rfl (Nat.le_of_ble_eq_true rfl) ⟨(Nat.le_of_ble_eq_true rfl), (Nat.le_of_ble_eq_true rfl)⟩ dX11_judge_9) (fun y9 hy => ?_)
    obtain ⟨r9, rfl, hw⟩ := hy
    by_cases c9 : r9 < 0
    · have hw := hw.1 c9
      rw [rfO_null c9]
      show W p l e _ s m _ below meth c _ _ _ _ _ (F0 m _ ls (.null :: []))
      refine lv_astoreN (lv' := [(5, .null), (0, .ref (ad 0)), (1, .int (zI x0)), (2, .int (zI x1)), (3, .int (zI x2)), (4, .null)]) C.1 C.2.1 dX11_judge_12 hl (by decide) rfl (fun ls hl => ?_)
      replace hl := lv_sub hl [1, 2, 3, 4, 5, 0] rfl
      refine lv_aloadN C.1 C.2.1 dX11_judge_14 (lv_at hl 4 rfl) ?_
      refine lv_ifnullN (tgt := 33) C.1 C.2.1 dX11_judge_16 (by decide) ?_
      refine lv_iconst (v := zI (-1)) C.1 C.2.1 dX11_judge_33 (by decide) ?_
      exact k_retKi C hr hlk rfl Wd ⟨_, rfl, (show rng (-1) from by decide), hw⟩ dX11_judge_34
    · have hw := hw.2 (Int.not_lt.mp c9)
      rw [rfO_nn (Int.not_lt.mp c9)]
      obtain ⟨n9_0, hw⟩ := hw
      show W p l e _ s m _ below meth c _ _ _ _ _ (F0 m _ ls (.ref (ad (rowC r9.toNat)) :: []))
      refine lv_astore (lv' := [(5, .ref (ad (rowC r9.toNat))), (0, .ref (ad 0)), (1, .int (zI x0)), (2, .int (zI x1)), (3, .int (zI x2)), (4, .null)]) C.1 C.2.1 dX11_judge_12 hl (by decide) rfl (fun ls hl => ?_)
      replace hl := lv_sub hl [1, 2, 3, 4, 5, 0] rfl
      refine lv_aloadN C.1 C.2.1 dX11_judge_14 (lv_at hl 4 rfl) ?_
      refine lv_ifnullN (tgt := 33) C.1 C.2.1 dX11_judge_16 (by decide) ?_
      refine lv_iconst (v := zI (-1)) C.1 C.2.1 dX11_judge_33 (by decide) ?_
      exact k_retKi C hr hlk rfl Wd ⟨_, rfl, (show rng (-1) from by decide), hw⟩ dX11_judge_34
  · have hw := hw.2 (Int.not_lt.mp c2)
    rw [rfO_nn (Int.not_lt.mp c2)]
    obtain ⟨n2_0, hw⟩ := hw
    show W p l e _ s m _ below meth c _ _ _ _ _ (F0 m _ ls (.ref (ad (rowC r2.toNat)) :: []))
    refine lv_astore (lv' := [(4, .ref (ad (rowC r2.toNat))), (0, .ref (ad 0)), (1, .int (zI x0)), (2, .int (zI x1)), (3, .int (zI x2))]) C.1 C.2.1 dX11_judge_5 hl (by decide) rfl (fun ls hl => ?_)
    replace hl := lv_sub hl [1, 2, 3, 4, 0] rfl
    refine lv_aload_n C.1 C.2.1 dX11_judge_7 rfl (lv_at hl 0 rfl) ?_
    refine lv_iload_n C.1 C.2.1 dX11_judge_8 rfl (lv_at hl 2 rfl) ?_
    refine k_pq (k_runVK (rest := []) C aks Wd cs_X11_77 (mk_S_slotAt D ad ca rf σ Wd.2.1 Wd.2.2 x1 g_x1 _ hw l _) (cx0 _) rfl rfl rfl rfl ⟨(Nat.le_of_ble_eq_true rfl), (Nat.le_of_ble_eq_true rfl)⟩ hl.1 rfl rfl (Nat.le_of_ble_eq_true rfl) ⟨(Nat.le_of_ble_eq_true rfl), (Nat.le_of_ble_eq_true rfl)⟩ dX11_judge_9) (fun y9 hy => ?_)
    obtain ⟨r9, rfl, hw⟩ := hy
    by_cases c9 : r9 < 0
    · have hw := hw.1 c9
      rw [rfO_null c9]
      show W p l e _ s m _ below meth c _ _ _ _ _ (F0 m _ ls (.null :: []))
      refine lv_astoreN (lv' := [(5, .null), (0, .ref (ad 0)), (1, .int (zI x0)), (2, .int (zI x1)), (3, .int (zI x2)), (4, .ref (ad (rowC r2.toNat)))]) C.1 C.2.1 dX11_judge_12 hl (by decide) rfl (fun ls hl => ?_)
      replace hl := lv_sub hl [1, 2, 3, 4, 5, 0] rfl
      refine lv_aload C.1 C.2.1 dX11_judge_14 (lv_at hl 4 rfl) ?_
      refine lv_ifnull C.1 C.2.1 dX11_judge_16 ?_
      refine lv_aloadN C.1 C.2.1 dX11_judge_19 (lv_at hl 5 rfl) ?_
      refine lv_ifnullN (tgt := 33) C.1 C.2.1 dX11_judge_21 (by decide) ?_
      refine lv_iconst (v := zI (-1)) C.1 C.2.1 dX11_judge_33 (by decide) ?_
      exact k_retKi C hr hlk rfl Wd ⟨_, rfl, (show rng (-1) from by decide), hw⟩ dX11_judge_34
    · have hw := hw.2 (Int.not_lt.mp c9)
      rw [rfO_nn (Int.not_lt.mp c9)]
      obtain ⟨n9_0, hw⟩ := hw
      show W p l e _ s m _ below meth c _ _ _ _ _ (F0 m _ ls (.ref (ad (rowC r9.toNat)) :: []))
      refine lv_astore (lv' := [(5, .ref (ad (rowC r9.toNat))), (0, .ref (ad 0)), (1, .int (zI x0)), (2, .int (zI x1)), (3, .int (zI x2)), (4, .ref (ad (rowC r2.toNat)))]) C.1 C.2.1 dX11_judge_12 hl (by decide) rfl (fun ls hl => ?_)
      replace hl := lv_sub hl [1, 2, 3, 4, 5, 0] rfl
      refine lv_aload C.1 C.2.1 dX11_judge_14 (lv_at hl 4 rfl) ?_
      refine lv_ifnull C.1 C.2.1 dX11_judge_16 ?_
      refine lv_aload C.1 C.2.1 dX11_judge_19 (lv_at hl 5 rfl) ?_
      refine lv_ifnull C.1 C.2.1 dX11_judge_21 ?_
      refine lv_iload_n C.1 C.2.1 dX11_judge_24 rfl (lv_at hl 3 rfl) ?_
      refine lv_if_lt (tgt := 33) C.1 C.2.1 dX11_judge_25 (by decide) (fun c25 => ?_) (fun c25 => ?_)
      · have hw := hw.1 (z0_lt g_x2 c25)
        refine lv_iconst (v := zI (-1)) C.1 C.2.1 dX11_judge_33 (by decide) ?_
        exact k_retKi C hr hlk rfl Wd ⟨_, rfl, (show rng (-1) from by decide), hw⟩ dX11_judge_34
      · have hw := hw.2 (z0_nlt g_x2 c25)
        refine lv_iload_n C.1 C.2.1 dX11_judge_28 rfl (lv_at hl 3 rfl) ?_
        refine lv_iconst (v := zI 3) C.1 C.2.1 dX11_judge_29 (by decide) ?_
        refine lv_icmp_le (tgt := 35) C.1 C.2.1 dX11_judge_30 (by decide) (fun c30 => ?_) (fun c30 => ?_)
        · have hw := hw.1 (z_le g_x2 (show rng 3 from by decide) c30)
          refine lv_aload_n C.1 C.2.1 dX11_judge_35 rfl (lv_at hl 0 rfl) ?_
          refine k_get (v := .ref (ad 31)) C Wd.1 KX11 _ 6 (cx0 _) (by decide) fl_X11_50 rfl dX11_judge_36 ?_
          refine k_get (v := .ref (ad 32)) C Wd.1 KX4 _ 0 (cx31 _) (by decide) fl_X11_143 rfl dX11_judge_39 ?_
          refine lv_astore (lv' := [(6, .ref (ad 32)), (0, .ref (ad 0)), (1, .int (zI x0)), (2, .int (zI x1)), (3, .int (zI x2)), (4, .ref (ad (rowC r2.toNat))), (5, .ref (ad (rowC r9.toNat)))]) C.1 C.2.1 dX11_judge_42 hl (by decide) rfl (fun ls hl => ?_)
          replace hl := lv_sub hl [1, 2, 3, 4, 5, 6, 0] rfl
          refine lv_aload C.1 C.2.1 dX11_judge_44 (lv_at hl 6 rfl) ?_
          refine lv_aload C.1 C.2.1 dX11_judge_46 (lv_at hl 4 rfl) ?_
          refine lv_aload C.1 C.2.1 dX11_judge_48 (lv_at hl 5 rfl) ?_
          refine lv_iconst (v := zI 0) C.1 C.2.1 dX11_judge_50 (by decide) ?_
          refine k_cKi Wd (k_runVK (rest := []) C aks Wd cs_X11_147 (mk_J_compare D ad ca rf σ Wd.2.1 Wd.2.2 r2 r9 0 n2_0 n9_0 (show rng 0 from by decide) _ hw l _) (cx32 _) rfl rfl rfl rfl ⟨(Nat.le_of_ble_eq_true rfl), (Nat.le_of_ble_eq_true rfl)⟩ hl.1 rfl rfl (Nat.le_of_ble_eq_true rfl) ⟨(Nat.le_of_ble_eq_true rfl), (Nat.le_of_ble_eq_true rfl)⟩ dX11_judge_51) (fun r51 σr51 H locs g_r51 hw Wd => ?_)
          have hS_σr51 := Wd.2.1
          refine lv_pop C.1 C.2.1 dX11_judge_54 rfl ?_
          refine lv_iload_n C.1 C.2.1 dX11_judge_55 rfl (lv_at hl 3 rfl) ?_
          by_cases c56_0 : x2 = 0
          · have hw := hw.1 c56_0
            refine lv_tableIn (off := 28) (tgt := 84) C.1 C.2.1 dX11_judge_56 (by rw [zI_toInt g_x2]; omega) (by rw [zI_toInt g_x2]; omega) (by rw [zI_toInt g_x2, c56_0]; rfl) (by decide) ?_
            refine lv_aload C.1 C.2.1 dX11_judge_84 (lv_at hl 6 rfl) ?_
            refine k_pi (k_runVK (rest := []) C aks Wd cs_X11_153 (mk_J_verdict D ad ca rf σr51 Wd.2.1 Wd.2.2   _ hw l _) (cx32 _) rfl rfl rfl rfl ⟨(Nat.le_of_ble_eq_true rfl), (Nat.le_of_ble_eq_true rfl)⟩ hl.1 rfl rfl (Nat.le_of_ble_eq_true rfl) ⟨(Nat.le_of_ble_eq_true rfl), (Nat.le_of_ble_eq_true rfl)⟩ dX11_judge_86) (fun y86 hy => ?_)
            obtain ⟨r86, rfl, g_r86, hw⟩ := hy
            exact k_retKi C hr hlk rfl Wd ⟨_, rfl, g_r86, hw⟩ dX11_judge_89
          by_cases c56_1 : x2 = 1
          · have hw := hw.2.1 c56_1
            refine lv_tableIn (off := 34) (tgt := 90) C.1 C.2.1 dX11_judge_56 (by rw [zI_toInt g_x2]; omega) (by rw [zI_toInt g_x2]; omega) (by rw [zI_toInt g_x2, c56_1]; rfl) (by decide) ?_
            refine lv_aload C.1 C.2.1 dX11_judge_90 (lv_at hl 6 rfl) ?_
            refine k_get (v := .int (zI (σr51.1 32 0))) C Wd.1 KX2 _ 0 (cx32 _) (by decide) fl_X11_156 rfl dX11_judge_92 ?_
            exact k_retKi C hr hlk rfl Wd ⟨_, rfl, (hS_σr51.1 32 0), hw⟩ dX11_judge_95
          by_cases c56_2 : x2 = 2
          · have hw := hw.2.2.1 c56_2
            refine lv_tableIn (off := 40) (tgt := 96) C.1 C.2.1 dX11_judge_56 (by rw [zI_toInt g_x2]; omega) (by rw [zI_toInt g_x2]; omega) (by rw [zI_toInt g_x2, c56_2]; rfl) (by decide) ?_
            refine lv_aload C.1 C.2.1 dX11_judge_96 (lv_at hl 6 rfl) ?_
            refine k_get (v := .int (zI (σr51.1 32 1))) C Wd.1 KX2 _ 1 (cx32 _) (by decide) fl_X11_159 rfl dX11_judge_98 ?_
            exact k_retKi C hr hlk rfl Wd ⟨_, rfl, (hS_σr51.1 32 1), hw⟩ dX11_judge_101
          have hw := hw.2.2.2 (by omega)
          refine lv_tableOut (tgt := 102) C.1 C.2.1 dX11_judge_56 (by rw [zI_toInt g_x2]; omega) (by decide) ?_
          refine lv_aload C.1 C.2.1 dX11_judge_102 (lv_at hl 6 rfl) ?_
          refine k_get (v := .int (zI (σr51.1 32 2))) C Wd.1 KX2 _ 2 (cx32 _) (by decide) fl_X11_162 rfl dX11_judge_104 ?_
          exact k_retKi C hr hlk rfl Wd ⟨_, rfl, (hS_σr51.1 32 2), hw⟩ dX11_judge_107
        · have hw := hw.2 (z_nle g_x2 (show rng 3 from by decide) c30)
          refine lv_iconst (v := zI (-1)) C.1 C.2.1 dX11_judge_33 (by decide) ?_
          exact k_retKi C hr hlk rfl Wd ⟨_, rfl, (show rng (-1) from by decide), hw⟩ dX11_judge_34
