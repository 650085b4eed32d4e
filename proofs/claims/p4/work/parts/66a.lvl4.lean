set_option maxHeartbeats 4000000 in
set_option maxRecDepth 100000 in
theorem gX4_ruleAt (l : Launch) (D : va_G) (ad : Nat → Nat) (ca : Nat → ClassId) (T : Value → Prop) (cel : Nat → Cl) (sz : Nat) (x0 : Int32) (hI : InvC ad ca (pTp T) cel) : Met l yX4_ruleAt (Cond.code yX4_ruleAt cX4_ruleAt 2 (some (.object "SameAfter$Rule")) :: gG) { frames := 1, cells := 0, slots := 0, locals := 64 } (cPre D (tC ca) (wN NC cel) sz [.ref (ad 31), .int x0]) (va_Sq (fun o => o = none ∨ ∃ z : Nat, z < 12 ∧ (z : Int) = x0.toInt ∧ o = some (ad (123 + 7 * z)))) 0 0 (fun _ => False) := by
  refine Met.ofW (cc := cX4_ruleAt) (maxL := 2) (ret := (some (.object "SameAfter$Rule"))) (by decide) rfl ?_
  intro p e s m args below meth c s₁ B hml hv
  obtain ⟨rfl, aks, rfl, Wd⟩ := k_enter hv
  have C : CallFix p m c cX4_ruleAt 2 s _ gG RX4 := ⟨B.exec, B.bytes, hml, findClass_of_methodNamed B.named, fun w h => atoms_spec (ws := Cond.code yX4_ruleAt cX4_ruleAt 2 (some (.object "SameAfter$Rule")) :: gG) B.pre w (List.mem_cons_of_mem _ h)⟩
  have hr := B.returns
  have hlk := B.notSynchronized
  obtain ⟨A, Wd⟩ : ∃ A, wX D (tC ca) s (wN NC cel) s.heap A s.heap [] := ⟨_, Wd⟩
  refine k_locals (Nat.le_of_ble_eq_true rfl) [(0, .ref (ad 31)), (1, .int x0)] rfl (fun ls hl => ?_)
  refine lv_iload_n C.1 C.2.1 dX4_ruleAt_0 rfl (lv_at hl 1 rfl) ?_
  refine k_cutA (fun (cel : Nat → Cl) H locs ls => H = s.heap ∧ locs = [] ∧ InvC ad ca (pTp T) cel ∧ wX D (tC ca) s (wN NC cel) H A s.heap locs ∧ lv_has ls 2 []) (fun (cel : Nat → Cl) ls => F0 m 22 ls []) (fun cel H locs ls hi => ?_) (fun J22 => ?_)
  · obtain ⟨rfl, rfl, hI, Wd, hl⟩ := hi
    refine lv_null C.1 C.2.1 dX4_ruleAt_22 ?_
    exact k_aretP none rfl C hr hlk (Or.inl rfl) dX4_ruleAt_23
  refine lv_if_lt (tgt := 22) C.1 C.2.1 dX4_ruleAt_1 (by decide) (fun c1 => ?_) (fun c1 => ?_)
  · have i1 : x0.toInt < 0 := kz_lt c1
    exact J22 cel _ _ _ ⟨rfl, rfl, hI, Wd, lv_sub hl [] rfl⟩
  · have i1 : 0 ≤ x0.toInt := kz_nlt c1
    refine lv_iload_n C.1 C.2.1 dX4_ruleAt_4 rfl (lv_at hl 1 rfl) ?_
    refine lv_aload_n C.1 C.2.1 dX4_ruleAt_5 rfl (lv_at hl 0 rfl) ?_
    obtain ⟨_, e6, y6_3, y6_4, rfl⟩ := at_E (by decide) (fx31 hI)
    refine k_get C Wd KX4 31 5 e6 (by decide) fl_X4_11 rfl dX4_ruleAt_6 ?_
    obtain ⟨_, e9, f9, rfl, q9⟩ := at_E (by decide) (fx67 hI)
    refine k_alen (v := 12) C Wd 67 67 e9 (tC_at' (by decide)) rfl dX4_ruleAt_9 ?_
    refine lv_icmp_ge (tgt := 22) C.1 C.2.1 dX4_ruleAt_10 (by decide) (fun c10 => ?_) (fun c10 => ?_)
    · have i10 : 12 ≤ x0.toInt := kz_le c10
      exact J22 cel _ _ _ ⟨rfl, rfl, hI, Wd, lv_sub hl [] rfl⟩
    · have i10 : x0.toInt < 12 := kz_nle c10
      refine lv_aload_n C.1 C.2.1 dX4_ruleAt_13 rfl (lv_at hl 0 rfl) ?_
      obtain ⟨_, e14, y14_3, y14_4, rfl⟩ := at_E (by decide) (fx31 hI)
      refine k_get C Wd KX4 31 5 e14 (by decide) fl_X4_11 rfl dX4_ruleAt_14 ?_
      refine lv_iload_n C.1 C.2.1 dX4_ruleAt_17 rfl (lv_at hl 1 rfl) ?_
      obtain ⟨_, e18, f18, rfl, q18⟩ := at_E (by decide) (fx67 hI)
      obtain ⟨z18, hz18, nz18⟩ : ∃ z : Nat, (z : Int) = x0.toInt ∧ x0.toNatClampNeg = z := ⟨x0.toNatClampNeg, Int.toNat_of_nonneg (by omega), rfl⟩
      have az18 : va_rf (f18 x0.toNatClampNeg) = .ref (ad (123 + 7 * z18)) := by rw [nz18, q18 z18 (by omega)]; rfl
      refine k_aldq C Wd 67 67 e18 (tC_at' (by decide)) (vp_in_iff.mpr ⟨by omega, by omega⟩) az18 dX4_ruleAt_18 ?_
      refine lv_goto (tgt := 23) C.1 C.2.1 dX4_ruleAt_19 (by decide) ?_
      exact k_aretP (some (ad (123 + 7 * z18))) rfl C hr hlk (Or.inr ⟨z18, by omega, by omega, rfl⟩) dX4_ruleAt_23
set_option maxHeartbeats 4000000 in
set_option maxRecDepth 100000 in
theorem gX11_slotAt (l : Launch) (D : va_G) (ad : Nat → Nat) (ca : Nat → ClassId) (T : Value → Prop) (cel : Nat → Cl) (sz : Nat) (x0 : Int32) (hI : InvC ad ca (pTp T) cel) : Met l yX11_slotAt (Cond.code yX11_slotAt cX11_slotAt 2 (some (.object "SameAfter$Row")) :: gG) { frames := 1, cells := 0, slots := 0, locals := 64 } (cPre D (tC ca) (wN NC cel) sz [.ref (ad 0), .int x0]) (va_Sq (fun o => o = none ∨ ∃ z : Nat, z < 6 ∧ (z : Int) = x0.toInt ∧ o = some (ad (101 + 2 * z)))) 0 0 (fun _ => False) := by
  refine Met.ofW (cc := cX11_slotAt) (maxL := 2) (ret := (some (.object "SameAfter$Row"))) (by decide) rfl ?_
  intro p e s m args below meth c s₁ B hml hv
  obtain ⟨rfl, aks, rfl, Wd⟩ := k_enter hv
  have C : CallFix p m c cX11_slotAt 2 s _ gG RX11 := ⟨B.exec, B.bytes, hml, findClass_of_methodNamed B.named, fun w h => atoms_spec (ws := Cond.code yX11_slotAt cX11_slotAt 2 (some (.object "SameAfter$Row")) :: gG) B.pre w (List.mem_cons_of_mem _ h)⟩
  have hr := B.returns
  have hlk := B.notSynchronized
  obtain ⟨A, Wd⟩ : ∃ A, wX D (tC ca) s (wN NC cel) s.heap A s.heap [] := ⟨_, Wd⟩
  refine k_locals (Nat.le_of_ble_eq_true rfl) [(0, .ref (ad 0)), (1, .int x0)] rfl (fun ls hl => ?_)
  refine lv_iload_n C.1 C.2.1 dX11_slotAt_0 rfl (lv_at hl 1 rfl) ?_
  refine k_cutA (fun (cel : Nat → Cl) H locs ls => H = s.heap ∧ locs = [] ∧ InvC ad ca (pTp T) cel ∧ wX D (tC ca) s (wN NC cel) H A s.heap locs ∧ lv_has ls 2 []) (fun (cel : Nat → Cl) ls => F0 m 22 ls []) (fun cel H locs ls hi => ?_) (fun J22 => ?_)
  · obtain ⟨rfl, rfl, hI, Wd, hl⟩ := hi
    refine lv_null C.1 C.2.1 dX11_slotAt_22 ?_
    exact k_aretP none rfl C hr hlk (Or.inl rfl) dX11_slotAt_23
  refine lv_if_lt (tgt := 22) C.1 C.2.1 dX11_slotAt_1 (by decide) (fun c1 => ?_) (fun c1 => ?_)
  · have i1 : x0.toInt < 0 := kz_lt c1
    exact J22 cel _ _ _ ⟨rfl, rfl, hI, Wd, lv_sub hl [] rfl⟩
  · have i1 : 0 ≤ x0.toInt := kz_nlt c1
    refine lv_iload_n C.1 C.2.1 dX11_slotAt_4 rfl (lv_at hl 1 rfl) ?_
    refine lv_aload_n C.1 C.2.1 dX11_slotAt_5 rfl (lv_at hl 0 rfl) ?_
    obtain ⟨_, e6, y6_1, rfl, b6_1, c6_1⟩ := at_E (by decide) (fx0 hI)
    refine k_get C Wd KX11 0 0 e6 (by decide) fl_X11_11 rfl dX11_slotAt_6 ?_
    obtain ⟨_, e9, f9, rfl, q9⟩ := at_E (by decide) (fx1 hI)
    refine k_alen (v := 6) C Wd 1 1 e9 (tC_at' (by decide)) rfl dX11_slotAt_9 ?_
    refine lv_icmp_ge (tgt := 22) C.1 C.2.1 dX11_slotAt_10 (by decide) (fun c10 => ?_) (fun c10 => ?_)
    · have i10 : 6 ≤ x0.toInt := kz_le c10
      exact J22 cel _ _ _ ⟨rfl, rfl, hI, Wd, lv_sub hl [] rfl⟩
    · have i10 : x0.toInt < 6 := kz_nle c10
      refine lv_aload_n C.1 C.2.1 dX11_slotAt_13 rfl (lv_at hl 0 rfl) ?_
      obtain ⟨_, e14, y14_1, rfl, b14_1, c14_1⟩ := at_E (by decide) (fx0 hI)
      refine k_get C Wd KX11 0 0 e14 (by decide) fl_X11_11 rfl dX11_slotAt_14 ?_
      refine lv_iload_n C.1 C.2.1 dX11_slotAt_17 rfl (lv_at hl 1 rfl) ?_
      obtain ⟨_, e18, f18, rfl, q18⟩ := at_E (by decide) (fx1 hI)
      obtain ⟨z18, hz18, nz18⟩ : ∃ z : Nat, (z : Int) = x0.toInt ∧ x0.toNatClampNeg = z := ⟨x0.toNatClampNeg, Int.toNat_of_nonneg (by omega), rfl⟩
      have az18 : va_rf (f18 x0.toNatClampNeg) = .ref (ad (101 + 2 * z18)) := by rw [nz18, q18 z18 (by omega)]; rfl
      refine k_aldq C Wd 1 1 e18 (tC_at' (by decide)) (vp_in_iff.mpr ⟨by omega, by omega⟩) az18 dX11_slotAt_18 ?_
      refine lv_goto (tgt := 23) C.1 C.2.1 dX11_slotAt_19 (by decide) ?_
      exact k_aretP (some (ad (101 + 2 * z18))) rfl C hr hlk (Or.inr ⟨z18, by omega, by omega, rfl⟩) dX11_slotAt_23
set_option maxHeartbeats 4000000 in
set_option maxRecDepth 100000 in
theorem gX11_ruleAt (l : Launch) (D : va_G) (ad : Nat → Nat) (ca : Nat → ClassId) (T : Value → Prop) (cel : Nat → Cl) (sz : Nat) (x0 : Int32) (hI : InvC ad ca (pTp T) cel) : Met l yX11_ruleAt (Cond.code yX11_ruleAt cX11_ruleAt 2 (some (.object "SameAfter$Rule")) :: gG) { frames := 2, cells := 0, slots := 0, locals := 85 } (cPre D (tC ca) (wN NC cel) sz [.ref (ad 0), .int x0]) (va_Sq (fun o => o = none ∨ ∃ z : Nat, z < 12 ∧ (z : Int) = x0.toInt ∧ o = some (ad (123 + 7 * z)))) 0 0 (fun _ => False) := by
  refine Met.ofW (cc := cX11_ruleAt) (maxL := 2) (ret := (some (.object "SameAfter$Rule"))) (by decide) rfl ?_
  intro p e s m args below meth c s₁ B hml hv
  obtain ⟨rfl, aks, rfl, Wd⟩ := k_enter hv
  have C : CallFix p m c cX11_ruleAt 2 s _ gG RX11 := ⟨B.exec, B.bytes, hml, findClass_of_methodNamed B.named, fun w h => atoms_spec (ws := Cond.code yX11_ruleAt cX11_ruleAt 2 (some (.object "SameAfter$Rule")) :: gG) B.pre w (List.mem_cons_of_mem _ h)⟩
  have hr := B.returns
  have hlk := B.notSynchronized
  obtain ⟨A, Wd⟩ : ∃ A, wX D (tC ca) s (wN NC cel) s.heap A s.heap [] := ⟨_, Wd⟩
  refine k_locals (Nat.le_of_ble_eq_true rfl) [(0, .ref (ad 0)), (1, .int x0)] rfl (fun ls hl => ?_)
  refine lv_iload_n C.1 C.2.1 dX11_ruleAt_0 rfl (lv_at hl 1 rfl) ?_
  refine lv_aload_n C.1 C.2.1 dX11_ruleAt_1 rfl (lv_at hl 0 rfl) ?_
  obtain ⟨_, e2, y2_1, rfl, b2_1, c2_1⟩ := at_E (by decide) (fx0 hI)
  refine k_get C Wd KX11 0 1 e2 (by decide) fl_X11_18 rfl dX11_ruleAt_2 ?_
  refine lv_icmp_ge (tgt := 19) C.1 C.2.1 dX11_ruleAt_5 (by decide) (fun c5 => ?_) (fun c5 => ?_)
  · have i5 : y2_1.toInt ≤ x0.toInt := kz_le c5
    refine lv_null C.1 C.2.1 dX11_ruleAt_19 ?_
    exact k_aretP none rfl C hr hlk (Or.inl rfl) dX11_ruleAt_20
  · have i5 : x0.toInt < y2_1.toInt := kz_nle c5
    refine lv_aload_n C.1 C.2.1 dX11_ruleAt_8 rfl (lv_at hl 0 rfl) ?_
    obtain ⟨_, e9, y9_1, rfl, b9_1, c9_1⟩ := at_E (by decide) (fx0 hI)
    refine k_get C Wd KX11 0 6 e9 (by decide) fl_X11_50 rfl dX11_ruleAt_9 ?_
    refine lv_iload_n C.1 C.2.1 dX11_ruleAt_12 rfl (lv_at hl 1 rfl) ?_
    obtain ⟨_, e13o, y13o_3, y13o_4, rfl⟩ := at_E (by decide) (fx31 hI)
    refine k_pq (k_runV (rest := []) C aks Wd cs_X11_99 (gX4_ruleAt l D ad ca (T) cel _ x0 hI) (List.range NC) (wN_all cel) ndR (List.range NC) (tC_all ca) 31 4 e13o rfl rfl rfl rfl ⟨(Nat.le_of_ble_eq_true rfl), (Nat.le_of_ble_eq_true rfl)⟩ hl.1 rfl rfl (Nat.le_of_ble_eq_true rfl) ⟨(Nat.le_of_ble_eq_true rfl), (Nat.le_of_ble_eq_true rfl)⟩ dX11_ruleAt_13) (fun o13 w13 => ?_)
    rcases w13 with rfl | ⟨z13, bz13, hz13, rfl⟩
    · skip
      refine lv_goto (tgt := 20) C.1 C.2.1 dX11_ruleAt_16 (by decide) ?_
      exact k_aretP none rfl C hr hlk (Or.inl rfl) dX11_ruleAt_20
    · have hz13 : (z13 : Int) = x0.toInt := hz13
      refine lv_goto (tgt := 20) C.1 C.2.1 dX11_ruleAt_16 (by decide) ?_
      exact k_aretP (some (ad (123 + 7 * z13))) rfl C hr hlk (Or.inr ⟨z13, by omega, by omega, rfl⟩) dX11_ruleAt_20
set_option maxHeartbeats 4000000 in
set_option maxRecDepth 100000 in
theorem gX5_multiplyOut_L (l : Launch) (D : va_G) (ad : Nat → Nat) (ca : Nat → ClassId) (T : Value → Prop) (cel : Nat → Cl) (sz : Nat) (i0 : Nat) (hb_i0 : i0 < 12) (hI : InvC ad ca (pTp T) cel) : Met l yX5_multiplyOut (Cond.code yX5_multiplyOut cX5_multiplyOut 5 none :: gG) { frames := 3, cells := 0, slots := 0, locals := 119 } (cPre D (tC ca) (wN NC cel) sz [.ref (ad 25), .ref (ad (123 + 7 * i0 + 1))]) (va_Qv (fun (c' : Nat → Cl) => (True) ∧ InvC ad ca (pTp T) c') (fun c' t => cB D (va_A (wN NC cel) sz) [] (wN NC c') t) (va_A (wN NC cel) sz)) 0 0 (va_A (wN NC cel) sz) := by
  refine Met.ofW (cc := cX5_multiplyOut) (maxL := 5) (ret := none) (by decide) rfl ?_
  intro p e s m args below meth c s₁ B hml hv
  obtain ⟨rfl, aks, rfl, Wd⟩ := k_enter hv
  have C : CallFix p m c cX5_multiplyOut 5 s _ gG RX5 := ⟨B.exec, B.bytes, hml, findClass_of_methodNamed B.named, fun w h => atoms_spec (ws := Cond.code yX5_multiplyOut cX5_multiplyOut 5 none :: gG) B.pre w (List.mem_cons_of_mem _ h)⟩
  have hr := B.returns
  have hlk := B.notSynchronized
  generalize va_A (wN NC cel) s.heap.size = A at Wd ⊢
  refine k_locals (Nat.le_of_ble_eq_true rfl) [(0, .ref (ad 25)), (1, .ref (ad (123 + 7 * i0 + 1)))] rfl (fun ls hl => ?_)
  refine lv_iconst (v := 0) C.1 C.2.1 dX5_multiplyOut_0 (by decide) ?_
  refine lv_istore_n (lv' := [(2, .int 0), (0, .ref (ad 25)), (1, .ref (ad (123 + 7 * i0 + 1)))]) C.1 C.2.1 dX5_multiplyOut_1 rfl hl (by decide) rfl (fun ls hl => ?_)
  refine lv_aload_n C.1 C.2.1 dX5_multiplyOut_2 rfl (lv_at hl 2 rfl) ?_
  obtain ⟨_, e3, y3_1, rfl, b3_1, c3_1⟩ := at_E (by show _ < 233; omega) (frule1 hI (by omega : i0 < 12))
  refine k_get C Wd KX8 (123 + 7 * i0 + 1) 1 e3 (by decide) fl_X5_57 rfl dX5_multiplyOut_3 ?_
  refine lv_iconst (v := 1) C.1 C.2.1 dX5_multiplyOut_6 (by decide) ?_
  obtain ⟨v7, ev7⟩ : ∃ z : Int32, y3_1 - 1 = z := ⟨_, rfl⟩
  have iv7 : v7.toInt = y3_1.toInt - 1 := kz_subc ev7 (by decide) (by have zr0 := kz_rng y3_1; omega) (by have zr0 := kz_rng y3_1; omega)
  refine k_isub (v := v7) C ev7 dX5_multiplyOut_7 ?_
  refine lv_istore_n (lv' := [(3, .int v7), (2, .int 0), (0, .ref (ad 25)), (1, .ref (ad (123 + 7 * i0 + 1)))]) C.1 C.2.1 dX5_multiplyOut_8 rfl hl (by decide) rfl (fun ls hl => ?_)
  refine k_loopA (fun (u : (Nat → Cl) × (Int32) × (Int32)) H locs ls => match u with | (cel, j9_L_2, j9_L_3) => 0 ≤ j9_L_2.toInt ∧ -1 ≤ j9_L_3.toInt ∧ j9_L_2.toInt ≤ 20 ∧ j9_L_3.toInt ≤ 39 ∧ j9_L_3.toInt ≤ v7.toInt ∧ j9_L_2.toInt ≤ y3_1.toInt + 19 ∧ InvC ad ca (pTp T) cel ∧ wX D (tC ca) s (wN NC cel) H A s.heap locs ∧ lv_has ls 5 [(3, .int j9_L_3), (2, .int j9_L_2), (0, .ref (ad 25)), (1, .ref (ad (123 + 7 * i0 + 1)))]) (fun (u : (Nat → Cl) × (Int32) × (Int32)) ls => match u with | (cel, j9_L_2, j9_L_3) => F0 m 9 ls []) (fun (u : (Nat → Cl) × (Int32) × (Int32)) => match u with | (cel, j9_L_2, j9_L_3) => (j9_L_3.toInt + 2).toNat) (fun u H locs ls hi ih9 => ?_) (cel, 0, v7) _ _ _ ⟨by have zq0 : (0 : Int32).toInt = 0 := (by decide); omega, by omega, by have zq0 : (0 : Int32).toInt = 0 := (by decide); omega, by omega, by omega, by have zq0 : (0 : Int32).toInt = 0 := (by decide); omega, hI, Wd, lv_sub hl [0, 1, 2, 3] rfl⟩
  obtain ⟨cel, j9_L_2, j9_L_3⟩ := u
  obtain ⟨i9_0, i9_1, i9_2, i9_3, i9_4, i9_5, hI, Wd, hl⟩ := hi
  refine lv_iload_n C.1 C.2.1 dX5_multiplyOut_9 rfl (lv_at hl 0 rfl) ?_
  refine lv_if_lt (tgt := 124) C.1 C.2.1 dX5_multiplyOut_10 (by decide) (fun c10 => ?_) (fun c10 => ?_)
  · have i10 : j9_L_3.toInt < 0 := kz_lt c10
    exact kc_vret C hr hlk Wd ⟨trivial, hI⟩ dX5_multiplyOut_124
  · have i10 : 0 ≤ j9_L_3.toInt := kz_nlt c10
    refine lv_aload_n C.1 C.2.1 dX5_multiplyOut_13 rfl (lv_at hl 3 rfl) ?_
    refine lv_iload_n C.1 C.2.1 dX5_multiplyOut_14 rfl (lv_at hl 0 rfl) ?_
    obtain ⟨_, e15o, y15o_1, rfl, b15o_1, c15o_1⟩ := at_E (by show _ < 233; omega) (frule1 hI (by omega : i0 < 12))
    refine k_pi (k_runV (rest := []) C aks Wd cs_X5_84 (wsX8_cell l D (ad (123 + 7 * i0 + 1)) (ad (123 + 7 * i0 + 2)) (ca (123 + 7 * i0 + 2)) 40 j9_L_3 _ (by omega) (by omega) ([(123 + 7 * i0 + 1), (123 + 7 * i0 + 2)].map cel) ⟨(frule1 hI (by omega : i0 < 12)), (frule2 hI (by omega : i0 < 12)), trivial⟩) [(123 + 7 * i0 + 1), (123 + 7 * i0 + 2)] (wN_pick [(123 + 7 * i0 + 1), (123 + 7 * i0 + 2)] (okC_lt (ok_0 i0 (by omega)))) (okC_nd (ok_0 i0 (by omega))) [(123 + 7 * i0 + 2)] (tC_ok (ok_0 i0 (by omega)) rfl) (123 + 7 * i0 + 1) 8 e15o rfl rfl rfl rfl ⟨(Nat.le_of_ble_eq_true rfl), (Nat.le_of_ble_eq_true rfl)⟩ hl.1 rfl rfl (Nat.le_of_ble_eq_true rfl) ⟨(Nat.le_of_ble_eq_true rfl), (Nat.le_of_ble_eq_true rfl)⟩ dX5_multiplyOut_15) (fun r15 w15 => ?_)
    refine lv_istore (lv' := [(4, .int r15), (3, .int j9_L_3), (2, .int j9_L_2), (0, .ref (ad 25)), (1, .ref (ad (123 + 7 * i0 + 1)))]) C.1 C.2.1 dX5_multiplyOut_18 hl (by decide) rfl (fun ls hl => ?_)
    refine lv_iload C.1 C.2.1 dX5_multiplyOut_20 (lv_at hl 0 rfl) ?_
    refine k_pi (k_runS (rest := []) C aks Wd cs_X5_88 (wsX8_isOperation l D r15 _ ([].map cel) trivial) [] (wN_pick [] (okC_lt (ok_1))) (okC_nd (ok_1)) [] (tC_ok (ok_1) rfl)  rfl rfl ⟨(Nat.le_of_ble_eq_true rfl), (Nat.le_of_ble_eq_true rfl)⟩ hl.1 rfl rfl (Nat.le_of_ble_eq_true rfl) ⟨(Nat.le_of_ble_eq_true rfl), (Nat.le_of_ble_eq_true rfl)⟩ dX5_multiplyOut_22) (fun r22 w22 => ?_)
    obtain ⟨g22_0, g22_1⟩ := w22
    have g22_0 : 0 ≤ r22.toInt := g22_0
    have g22_1 : r22.toInt ≤ 1 := g22_1
    refine k_cutA (fun (u : (Nat → Cl) × (Int32)) H locs ls => match u with | (cel, j118_L_2) => 0 ≤ j118_L_2.toInt ∧ j118_L_2.toInt ≤ 20 ∧ j118_L_2.toInt ≤ j9_L_2.toInt + 1 ∧ j9_L_2.toInt ≤ j118_L_2.toInt + 1 ∧ InvC ad ca (pTp T) cel ∧ wX D (tC ca) s (wN NC cel) H A s.heap locs ∧ lv_has ls 5 [(2, .int j118_L_2), (3, .int j9_L_3), (0, .ref (ad 25)), (1, .ref (ad (123 + 7 * i0 + 1)))]) (fun (u : (Nat → Cl) × (Int32)) ls => match u with | (cel, j118_L_2) => F0 m 118 ls []) (fun u H locs ls hi => ?_) (fun J118 => ?_)
    · obtain ⟨cel, j118_L_2⟩ := u
      obtain ⟨i118_0, i118_1, i118_2, i118_3, hI, Wd, hl⟩ := hi
      obtain ⟨v118, ev118⟩ : ∃ z : Int32, j9_L_3 + (-1) = z := ⟨_, rfl⟩
      have iv118 : v118.toInt = j9_L_3.toInt + (-1) := kz_addc ev118 (by decide) (by have zr0 := kz_rng j9_L_3; omega) (by have zr0 := kz_rng j9_L_3; omega)
      refine lv_iinc (v := v118) (lv' := [(3, .int v118), (2, .int j118_L_2), (0, .ref (ad 25)), (1, .ref (ad (123 + 7 * i0 + 1)))]) C.1 C.2.1 dX5_multiplyOut_118 hl (k := 1) rfl ev118 (by decide) rfl (fun ls hl => ?_)
      refine lv_goto (tgt := 9) C.1 C.2.1 dX5_multiplyOut_121 (by decide) ?_
      exact ih9 (cel, j118_L_2, v118) _ _ _ ⟨by omega, by omega, by omega, by omega, by omega, by omega, hI, Wd, lv_sub hl [0, 1, 2, 3] rfl⟩ (by show (v118.toInt + 2).toNat < (j9_L_3.toInt + 2).toNat; omega)
    refine k_cutA (fun (cel : Nat → Cl) H locs ls => InvC ad ca (pTp T) cel ∧ wX D (tC ca) s (wN NC cel) H A s.heap locs ∧ lv_has ls 5 [(4, .int r15), (3, .int j9_L_3), (2, .int j9_L_2), (0, .ref (ad 25)), (1, .ref (ad (123 + 7 * i0 + 1)))]) (fun (cel : Nat → Cl) ls => F0 m 52 ls []) (fun cel H locs ls hi => ?_) (fun J52 => ?_)
    · obtain ⟨hI, Wd, hl⟩ := hi
      refine lv_iload_n C.1 C.2.1 dX5_multiplyOut_52 rfl (lv_at hl 2 rfl) ?_
      refine lv_iconst (v := 2) C.1 C.2.1 dX5_multiplyOut_53 (by decide) ?_
      refine lv_icmp_lt (tgt := 118) C.1 C.2.1 dX5_multiplyOut_54 (by decide) (fun c54 => ?_) (fun c54 => ?_)
      · have i54 : j9_L_2.toInt < 2 := kz_lt c54
        exact J118 (cel, j9_L_2) _ _ _ ⟨by omega, by omega, by omega, by omega, hI, Wd, lv_sub hl [2, 1, 3, 4] rfl⟩
      · have i54 : 2 ≤ j9_L_2.toInt := kz_nlt c54
        refine lv_iload_n C.1 C.2.1 dX5_multiplyOut_57 rfl (lv_at hl 2 rfl) ?_
        refine lv_bipush (v := 20) C.1 C.2.1 dX5_multiplyOut_58 (by decide) ?_
        refine lv_icmp_gt (tgt := 118) C.1 C.2.1 dX5_multiplyOut_60 (by decide) (fun c60 => False.elim (by have i60 : 20 < j9_L_2.toInt := kz_lt c60; omega)) (fun _ => ?_)
        refine lv_iload C.1 C.2.1 dX5_multiplyOut_63 (lv_at hl 0 rfl) ?_
        refine lv_bipush (v := 122) C.1 C.2.1 dX5_multiplyOut_65 (by decide) ?_
        refine k_cutA (fun (cel : Nat → Cl) H locs ls => InvC ad ca (pTp T) cel ∧ wX D (tC ca) s (wN NC cel) H A s.heap locs ∧ lv_has ls 5 [(3, .int j9_L_3), (2, .int j9_L_2), (0, .ref (ad 25)), (1, .ref (ad (123 + 7 * i0 + 1)))]) (fun (cel : Nat → Cl) ls => F0 m 115 ls []) (fun cel H locs ls hi => ?_) (fun J115 => ?_)
        · obtain ⟨hI, Wd, hl⟩ := hi
          obtain ⟨v115, ev115⟩ : ∃ z : Int32, j9_L_2 + (-1) = z := ⟨_, rfl⟩
          have iv115 : v115.toInt = j9_L_2.toInt + (-1) := kz_addc ev115 (by decide) (by have zr0 := kz_rng j9_L_2; omega) (by have zr0 := kz_rng j9_L_2; omega)
          refine lv_iinc (v := v115) (lv' := [(2, .int v115), (3, .int j9_L_3), (0, .ref (ad 25)), (1, .ref (ad (123 + 7 * i0 + 1)))]) C.1 C.2.1 dX5_multiplyOut_115 hl (k := 1) rfl ev115 (by decide) rfl (fun ls hl => ?_)
          exact J118 (cel, v115) _ _ _ ⟨by omega, by omega, by omega, by omega, hI, Wd, lv_sub hl [0, 1, 2, 3] rfl⟩
        refine lv_icmp_ne (tgt := 93) C.1 C.2.1 dX5_multiplyOut_67 (by decide) (fun c67 => ?_) (fun c67 => ?_)
        · have i67 : ¬ r15.toInt = 122 := kz_ne c67
          refine lv_aload_n C.1 C.2.1 dX5_multiplyOut_93 rfl (lv_at hl 3 rfl) ?_
          refine lv_aload_n C.1 C.2.1 dX5_multiplyOut_94 rfl (lv_at hl 3 rfl) ?_
          obtain ⟨_, e95, y95_0, y95_1, rfl⟩ := at_E (by decide) (fx25 hI)
          refine k_get C Wd KX5 25 4 e95 (by decide) fl_X5_20 rfl dX5_multiplyOut_95 ?_
          refine lv_iload_n C.1 C.2.1 dX5_multiplyOut_98 rfl (lv_at hl 2 rfl) ?_
          refine lv_iconst (v := 1) C.1 C.2.1 dX5_multiplyOut_99 (by decide) ?_
          obtain ⟨v100, ev100⟩ : ∃ z : Int32, j9_L_2 - 1 = z := ⟨_, rfl⟩
          have iv100 : v100.toInt = j9_L_2.toInt - 1 := kz_subc ev100 (by decide) (by have zr0 := kz_rng j9_L_2; omega) (by have zr0 := kz_rng j9_L_2; omega)
          refine k_isub (v := v100) C ev100 dX5_multiplyOut_100 ?_
          obtain ⟨_, e101, f101, rfl, q101⟩ := at_E (by decide) (fx30 hI)
          obtain ⟨z101, hz101, nz101⟩ : ∃ z : Nat, (z : Int) = v100.toInt ∧ v100.toNatClampNeg = z := ⟨v100.toNatClampNeg, Int.toNat_of_nonneg (by omega), rfl⟩
          have az101 : va_rf (f101 v100.toNatClampNeg) = .ref (ad (207 + z101)) := by rw [nz101, q101 z101 (by omega)]; rfl
          refine k_aldg C Wd 30 30 e101 (tC_at' (by decide)) (vp_in_iff.mpr ⟨by omega, by omega⟩) az101 dX5_multiplyOut_101 ?_
          refine lv_aload_n C.1 C.2.1 dX5_multiplyOut_102 rfl (lv_at hl 3 rfl) ?_
          obtain ⟨_, e103, y103_0, y103_1, rfl⟩ := at_E (by decide) (fx25 hI)
          refine k_get C Wd KX5 25 4 e103 (by decide) fl_X5_20 rfl dX5_multiplyOut_103 ?_
          refine lv_iload_n C.1 C.2.1 dX5_multiplyOut_106 rfl (lv_at hl 2 rfl) ?_
          refine lv_iconst (v := 2) C.1 C.2.1 dX5_multiplyOut_107 (by decide) ?_
          obtain ⟨v108, ev108⟩ : ∃ z : Int32, j9_L_2 - 2 = z := ⟨_, rfl⟩
          have iv108 : v108.toInt = j9_L_2.toInt - 2 := kz_subc ev108 (by decide) (by have zr0 := kz_rng j9_L_2; omega) (by have zr0 := kz_rng j9_L_2; omega)
          refine k_isub (v := v108) C ev108 dX5_multiplyOut_108 ?_
          obtain ⟨_, e109, f109, rfl, q109⟩ := at_E (by decide) (fx30 hI)
          obtain ⟨z109, hz109, nz109⟩ : ∃ z : Nat, (z : Int) = v108.toInt ∧ v108.toNatClampNeg = z := ⟨v108.toNatClampNeg, Int.toNat_of_nonneg (by omega), rfl⟩
          have az109 : va_rf (f109 v108.toNatClampNeg) = .ref (ad (207 + z109)) := by rw [nz109, q109 z109 (by omega)]; rfl
          refine k_aldg C Wd 30 30 e109 (tC_at' (by decide)) (vp_in_iff.mpr ⟨by omega, by omega⟩) az109 dX5_multiplyOut_109 ?_
          refine lv_iload C.1 C.2.1 dX5_multiplyOut_110 (lv_at hl 0 rfl) ?_
          obtain ⟨_, e112o, y112o_0, y112o_1, rfl⟩ := at_E (by decide) (fx25 hI)
          refine kc_v Wd (k_runV (rest := []) C aks Wd cs_X5_105 (liftV4 (P' := pTp T) hI (ok_3 z101 (by omega) z109 (by omega) (by omega)) (wsX5_addUp l D (ad 25) (ad (207 + z101)) (ad (207 + z109)) (ca (207 + z101)) (ca (207 + z109)) 512 512 r15 _ (by omega) (by omega) (by omega) (by omega) ([(207 + z101), (207 + z109)].map cel) ⟨(fform0 hI (by omega : z101 < 20)), (fform0 hI (by omega : z109 < 20)), trivial⟩) rfl (fun _ _ => rfl) ⟨fun _ h => tform0 (by omega) h, fun _ h => tform0 (by omega) h, trivial⟩) (List.range NC) (wN_all cel) ndR (List.range NC) (tC_all ca) 25 5 e112o rfl rfl rfl rfl ⟨(Nat.le_of_ble_eq_true rfl), (Nat.le_of_ble_eq_true rfl)⟩ hl.1 rfl rfl (Nat.le_of_ble_eq_true rfl) ⟨(Nat.le_of_ble_eq_true rfl), (Nat.le_of_ble_eq_true rfl)⟩ dX5_multiplyOut_112) (fun cel H locs w112 hI Wd => ?_)
          exact J115 cel _ _ _ ⟨hI, Wd, lv_sub hl [1, 2, 3, 4] rfl⟩
        · have i67 : r15.toInt = 122 := kz_eq c67
          refine lv_aload_n C.1 C.2.1 dX5_multiplyOut_70 rfl (lv_at hl 3 rfl) ?_
          refine lv_aload_n C.1 C.2.1 dX5_multiplyOut_71 rfl (lv_at hl 3 rfl) ?_
          obtain ⟨_, e72, y72_0, y72_1, rfl⟩ := at_E (by decide) (fx25 hI)
          refine k_get C Wd KX5 25 4 e72 (by decide) fl_X5_20 rfl dX5_multiplyOut_72 ?_
          refine lv_iload_n C.1 C.2.1 dX5_multiplyOut_75 rfl (lv_at hl 2 rfl) ?_
          refine lv_iconst (v := 1) C.1 C.2.1 dX5_multiplyOut_76 (by decide) ?_
          obtain ⟨v77, ev77⟩ : ∃ z : Int32, j9_L_2 - 1 = z := ⟨_, rfl⟩
          have iv77 : v77.toInt = j9_L_2.toInt - 1 := kz_subc ev77 (by decide) (by have zr0 := kz_rng j9_L_2; omega) (by have zr0 := kz_rng j9_L_2; omega)
          refine k_isub (v := v77) C ev77 dX5_multiplyOut_77 ?_
          obtain ⟨_, e78, f78, rfl, q78⟩ := at_E (by decide) (fx30 hI)
          obtain ⟨z78, hz78, nz78⟩ : ∃ z : Nat, (z : Int) = v77.toInt ∧ v77.toNatClampNeg = z := ⟨v77.toNatClampNeg, Int.toNat_of_nonneg (by omega), rfl⟩
          have az78 : va_rf (f78 v77.toNatClampNeg) = .ref (ad (207 + z78)) := by rw [nz78, q78 z78 (by omega)]; rfl
          refine k_aldg C Wd 30 30 e78 (tC_at' (by decide)) (vp_in_iff.mpr ⟨by omega, by omega⟩) az78 dX5_multiplyOut_78 ?_
          refine lv_aload_n C.1 C.2.1 dX5_multiplyOut_79 rfl (lv_at hl 3 rfl) ?_
          obtain ⟨_, e80, y80_0, y80_1, rfl⟩ := at_E (by decide) (fx25 hI)
          refine k_get C Wd KX5 25 4 e80 (by decide) fl_X5_20 rfl dX5_multiplyOut_80 ?_
          refine lv_iload_n C.1 C.2.1 dX5_multiplyOut_83 rfl (lv_at hl 2 rfl) ?_
          refine lv_iconst (v := 2) C.1 C.2.1 dX5_multiplyOut_84 (by decide) ?_
          obtain ⟨v85, ev85⟩ : ∃ z : Int32, j9_L_2 - 2 = z := ⟨_, rfl⟩
          have iv85 : v85.toInt = j9_L_2.toInt - 2 := kz_subc ev85 (by decide) (by have zr0 := kz_rng j9_L_2; omega) (by have zr0 := kz_rng j9_L_2; omega)
          refine k_isub (v := v85) C ev85 dX5_multiplyOut_85 ?_
          obtain ⟨_, e86, f86, rfl, q86⟩ := at_E (by decide) (fx30 hI)
          obtain ⟨z86, hz86, nz86⟩ : ∃ z : Nat, (z : Int) = v85.toInt ∧ v85.toNatClampNeg = z := ⟨v85.toNatClampNeg, Int.toNat_of_nonneg (by omega), rfl⟩
          have az86 : va_rf (f86 v85.toNatClampNeg) = .ref (ad (207 + z86)) := by rw [nz86, q86 z86 (by omega)]; rfl
          refine k_aldg C Wd 30 30 e86 (tC_at' (by decide)) (vp_in_iff.mpr ⟨by omega, by omega⟩) az86 dX5_multiplyOut_86 ?_
          obtain ⟨_, e87o, y87o_0, y87o_1, rfl⟩ := at_E (by decide) (fx25 hI)
          refine kc_v Wd (k_runV (rest := []) C aks Wd cs_X5_101 (liftV4 (P' := pTp T) hI (ok_4 z78 (by omega) z86 (by omega) (by omega)) (wsX5_multiply l D (ad 25) (ad (207 + z78)) (ad (207 + z86)) (ad 26) (ad 27) (ad 30) (ad 28) (ad 29) (ca 29) (ca (207 + z78)) (ca (207 + z86)) 512 512 _ (by omega) (by omega) (by omega) (by omega) ([25, 29, (207 + z78), (207 + z86)].map cel) ⟨(fx25 hI), (fx29 hI), (fform0 hI (by omega : z78 < 20)), (fform0 hI (by omega : z86 < 20)), trivial⟩) rfl (fun _ _ => rfl) ⟨fun _ h => h, fun _ h => h, fun _ h => tform0 (by omega) h, fun _ h => tform0 (by omega) h, trivial⟩) (List.range NC) (wN_all cel) ndR (List.range NC) (tC_all ca) 25 5 e87o rfl rfl rfl rfl ⟨(Nat.le_of_ble_eq_true rfl), (Nat.le_of_ble_eq_true rfl)⟩ hl.1 rfl rfl (Nat.le_of_ble_eq_true rfl) ⟨(Nat.le_of_ble_eq_true rfl), (Nat.le_of_ble_eq_true rfl)⟩ dX5_multiplyOut_87) (fun cel H locs w87 hI Wd => ?_)
          refine lv_goto (tgt := 115) C.1 C.2.1 dX5_multiplyOut_90 (by decide) ?_
          exact J115 cel _ _ _ ⟨hI, Wd, lv_sub hl [1, 2, 3, 4] rfl⟩
    refine lv_if_ne (tgt := 52) C.1 C.2.1 dX5_multiplyOut_25 (by decide) (fun c25 => ?_) (fun c25 => ?_)
    · have i25 : ¬ r22.toInt = 0 := kz_ne c25
      exact J52 cel _ _ _ ⟨hI, Wd, lv_sub hl [0, 1, 2, 3, 4] rfl⟩
    · have i25 : r22.toInt = 0 := kz_eq c25
      refine lv_iload_n C.1 C.2.1 dX5_multiplyOut_28 rfl (lv_at hl 2 rfl) ?_
      refine lv_bipush (v := 20) C.1 C.2.1 dX5_multiplyOut_29 (by decide) ?_
      refine lv_icmp_ge (tgt := 52) C.1 C.2.1 dX5_multiplyOut_31 (by decide) (fun c31 => ?_) (fun c31 => ?_)
      · have i31 : 20 ≤ j9_L_2.toInt := kz_le c31
        exact J52 cel _ _ _ ⟨hI, Wd, lv_sub hl [0, 1, 2, 3, 4] rfl⟩
      · have i31 : j9_L_2.toInt < 20 := kz_nle c31
        refine lv_aload_n C.1 C.2.1 dX5_multiplyOut_34 rfl (lv_at hl 3 rfl) ?_
        refine lv_aload_n C.1 C.2.1 dX5_multiplyOut_35 rfl (lv_at hl 3 rfl) ?_
        obtain ⟨_, e36, y36_0, y36_1, rfl⟩ := at_E (by decide) (fx25 hI)
        refine k_get C Wd KX5 25 4 e36 (by decide) fl_X5_20 rfl dX5_multiplyOut_36 ?_
        refine lv_iload_n C.1 C.2.1 dX5_multiplyOut_39 rfl (lv_at hl 2 rfl) ?_
        obtain ⟨_, e40, f40, rfl, q40⟩ := at_E (by decide) (fx30 hI)
        obtain ⟨z40, hz40, nz40⟩ : ∃ z : Nat, (z : Int) = j9_L_2.toInt ∧ j9_L_2.toNatClampNeg = z := ⟨j9_L_2.toNatClampNeg, Int.toNat_of_nonneg (by omega), rfl⟩
        have az40 : va_rf (f40 j9_L_2.toNatClampNeg) = .ref (ad (207 + z40)) := by rw [nz40, q40 z40 (by omega)]; rfl
        refine k_aldg C Wd 30 30 e40 (tC_at' (by decide)) (vp_in_iff.mpr ⟨by omega, by omega⟩) az40 dX5_multiplyOut_40 ?_
        refine lv_iload C.1 C.2.1 dX5_multiplyOut_41 (lv_at hl 0 rfl) ?_
        obtain ⟨_, e43o, y43o_0, y43o_1, rfl⟩ := at_E (by decide) (fx25 hI)
        refine kc_v Wd (k_runV (rest := []) C aks Wd cs_X5_97 (liftV4 (P' := pTp T) hI (ok_2 z40 (by omega)) (wsX5_beginForm l D (ad 25) (ad (207 + z40)) (ca (207 + z40)) 512 r15 _ (by omega) (by omega) ([(207 + z40)].map cel) ⟨(fform0 hI (by omega : z40 < 20)), trivial⟩) rfl (fun _ _ => rfl) ⟨fun _ h => tform0 (by omega) h, trivial⟩) (List.range NC) (wN_all cel) ndR (List.range NC) (tC_all ca) 25 5 e43o rfl rfl rfl rfl ⟨(Nat.le_of_ble_eq_true rfl), (Nat.le_of_ble_eq_true rfl)⟩ hl.1 rfl rfl (Nat.le_of_ble_eq_true rfl) ⟨(Nat.le_of_ble_eq_true rfl), (Nat.le_of_ble_eq_true rfl)⟩ dX5_multiplyOut_43) (fun cel H locs w43 hI Wd => ?_)
        obtain ⟨v46, ev46⟩ : ∃ z : Int32, j9_L_2 + 1 = z := ⟨_, rfl⟩
        have iv46 : v46.toInt = j9_L_2.toInt + 1 := kz_addc ev46 (by decide) (by have zr0 := kz_rng j9_L_2; omega) (by have zr0 := kz_rng j9_L_2; omega)
        refine lv_iinc (v := v46) (lv' := [(2, .int v46), (4, .int r15), (3, .int j9_L_3), (0, .ref (ad 25)), (1, .ref (ad (123 + 7 * i0 + 1)))]) C.1 C.2.1 dX5_multiplyOut_46 hl (k := 2) rfl ev46 (by decide) rfl (fun ls hl => ?_)
        refine lv_goto (tgt := 118) C.1 C.2.1 dX5_multiplyOut_49 (by decide) ?_
        exact J118 (cel, v46) _ _ _ ⟨by omega, by omega, by omega, by omega, hI, Wd, lv_sub hl [0, 2, 3, 4] rfl⟩
set_option maxHeartbeats 4000000 in
set_option maxRecDepth 100000 in
theorem gX5_multiplyOut_R (l : Launch) (D : va_G) (ad : Nat → Nat) (ca : Nat → ClassId) (T : Value → Prop) (cel : Nat → Cl) (sz : Nat) (i0 : Nat) (hb_i0 : i0 < 12) (hI : InvC ad ca (pTp T) cel) : Met l yX5_multiplyOut (Cond.code yX5_multiplyOut cX5_multiplyOut 5 none :: gG) { frames := 3, cells := 0, slots := 0, locals := 119 } (cPre D (tC ca) (wN NC cel) sz [.ref (ad 25), .ref (ad (123 + 7 * i0 + 3))]) (va_Qv (fun (c' : Nat → Cl) => (True) ∧ InvC ad ca (pTp T) c') (fun c' t => cB D (va_A (wN NC cel) sz) [] (wN NC c') t) (va_A (wN NC cel) sz)) 0 0 (va_A (wN NC cel) sz) := by
  refine Met.ofW (cc := cX5_multiplyOut) (maxL := 5) (ret := none) (by decide) rfl ?_
  intro p e s m args below meth c s₁ B hml hv
  obtain ⟨rfl, aks, rfl, Wd⟩ := k_enter hv
  have C : CallFix p m c cX5_multiplyOut 5 s _ gG RX5 := ⟨B.exec, B.bytes, hml, findClass_of_methodNamed B.named, fun w h => atoms_spec (ws := Cond.code yX5_multiplyOut cX5_multiplyOut 5 none :: gG) B.pre w (List.mem_cons_of_mem _ h)⟩
  have hr := B.returns
  have hlk := B.notSynchronized
  generalize va_A (wN NC cel) s.heap.size = A at Wd ⊢
  refine k_locals (Nat.le_of_ble_eq_true rfl) [(0, .ref (ad 25)), (1, .ref (ad (123 + 7 * i0 + 3)))] rfl (fun ls hl => ?_)
  refine lv_iconst (v := 0) C.1 C.2.1 dX5_multiplyOut_0 (by decide) ?_
  refine lv_istore_n (lv' := [(2, .int 0), (0, .ref (ad 25)), (1, .ref (ad (123 + 7 * i0 + 3)))]) C.1 C.2.1 dX5_multiplyOut_1 rfl hl (by decide) rfl (fun ls hl => ?_)
  refine lv_aload_n C.1 C.2.1 dX5_multiplyOut_2 rfl (lv_at hl 2 rfl) ?_
  obtain ⟨_, e3, y3_1, rfl, b3_1, c3_1⟩ := at_E (by show _ < 233; omega) (frule3 hI (by omega : i0 < 12))
  refine k_get C Wd KX8 (123 + 7 * i0 + 3) 1 e3 (by decide) fl_X5_57 rfl dX5_multiplyOut_3 ?_
  refine lv_iconst (v := 1) C.1 C.2.1 dX5_multiplyOut_6 (by decide) ?_
  obtain ⟨v7, ev7⟩ : ∃ z : Int32, y3_1 - 1 = z := ⟨_, rfl⟩
  have iv7 : v7.toInt = y3_1.toInt - 1 := kz_subc ev7 (by decide) (by have zr0 := kz_rng y3_1; omega) (by have zr0 := kz_rng y3_1; omega)
  refine k_isub (v := v7) C ev7 dX5_multiplyOut_7 ?_
  refine lv_istore_n (lv' := [(3, .int v7), (2, .int 0), (0, .ref (ad 25)), (1, .ref (ad (123 + 7 * i0 + 3)))]) C.1 C.2.1 dX5_multiplyOut_8 rfl hl (by decide) rfl (fun ls hl => ?_)
  refine k_loopA (fun (u : (Nat → Cl) × (Int32) × (Int32)) H locs ls => match u with | (cel, j9_L_2, j9_L_3) => 0 ≤ j9_L_2.toInt ∧ -1 ≤ j9_L_3.toInt ∧ j9_L_2.toInt ≤ 20 ∧ j9_L_3.toInt ≤ 39 ∧ j9_L_3.toInt ≤ v7.toInt ∧ j9_L_2.toInt ≤ y3_1.toInt + 19 ∧ InvC ad ca (pTp T) cel ∧ wX D (tC ca) s (wN NC cel) H A s.heap locs ∧ lv_has ls 5 [(3, .int j9_L_3), (2, .int j9_L_2), (0, .ref (ad 25)), (1, .ref (ad (123 + 7 * i0 + 3)))]) (fun (u : (Nat → Cl) × (Int32) × (Int32)) ls => match u with | (cel, j9_L_2, j9_L_3) => F0 m 9 ls []) (fun (u : (Nat → Cl) × (Int32) × (Int32)) => match u with | (cel, j9_L_2, j9_L_3) => (j9_L_3.toInt + 2).toNat) (fun u H locs ls hi ih9 => ?_) (cel, 0, v7) _ _ _ ⟨by have zq0 : (0 : Int32).toInt = 0 := (by decide); omega, by omega, by have zq0 : (0 : Int32).toInt = 0 := (by decide); omega, by omega, by omega, by have zq0 : (0 : Int32).toInt = 0 := (by decide); omega, hI, Wd, lv_sub hl [0, 1, 2, 3] rfl⟩
  obtain ⟨cel, j9_L_2, j9_L_3⟩ := u
  obtain ⟨i9_0, i9_1, i9_2, i9_3, i9_4, i9_5, hI, Wd, hl⟩ := hi
  refine lv_iload_n C.1 C.2.1 dX5_multiplyOut_9 rfl (lv_at hl 0 rfl) ?_
  refine lv_if_lt (tgt := 124) C.1 C.2.1 dX5_multiplyOut_10 (by decide) (fun c10 => ?_) (fun c10 => ?_)
  · have i10 : j9_L_3.toInt < 0 := kz_lt c10
    exact kc_vret C hr hlk Wd ⟨trivial, hI⟩ dX5_multiplyOut_124
  · have i10 : 0 ≤ j9_L_3.toInt := kz_nlt c10
    refine lv_aload_n C.1 C.2.1 dX5_multiplyOut_13 rfl (lv_at hl 3 rfl) ?_
    refine lv_iload_n C.1 C.2.1 dX5_multiplyOut_14 rfl (lv_at hl 0 rfl) ?_
    obtain ⟨_, e15o, y15o_1, rfl, b15o_1, c15o_1⟩ := at_E (by show _ < 233; omega) (frule3 hI (by omega : i0 < 12))
    refine k_pi (k_runV (rest := []) C aks Wd cs_X5_84 (wsX8_cell l D (ad (123 + 7 * i0 + 3)) (ad (123 + 7 * i0 + 4)) (ca (123 + 7 * i0 + 4)) 40 j9_L_3 _ (by omega) (by omega) ([(123 + 7 * i0 + 3), (123 + 7 * i0 + 4)].map cel) ⟨(frule3 hI (by omega : i0 < 12)), (frule4 hI (by omega : i0 < 12)), trivial⟩) [(123 + 7 * i0 + 3), (123 + 7 * i0 + 4)] (wN_pick [(123 + 7 * i0 + 3), (123 + 7 * i0 + 4)] (okC_lt (ok_5 i0 (by omega)))) (okC_nd (ok_5 i0 (by omega))) [(123 + 7 * i0 + 4)] (tC_ok (ok_5 i0 (by omega)) rfl) (123 + 7 * i0 + 3) 8 e15o rfl rfl rfl rfl ⟨(Nat.le_of_ble_eq_true rfl), (Nat.le_of_ble_eq_true rfl)⟩ hl.1 rfl rfl (Nat.le_of_ble_eq_true rfl) ⟨(Nat.le_of_ble_eq_true rfl), (Nat.le_of_ble_eq_true rfl)⟩ dX5_multiplyOut_15) (fun r15 w15 => ?_)
    refine lv_istore (lv' := [(4, .int r15), (3, .int j9_L_3), (2, .int j9_L_2), (0, .ref (ad 25)), (1, .ref (ad (123 + 7 * i0 + 3)))]) C.1 C.2.1 dX5_multiplyOut_18 hl (by decide) rfl (fun ls hl => ?_)
    refine lv_iload C.1 C.2.1 dX5_multiplyOut_20 (lv_at hl 0 rfl) ?_
    refine k_pi (k_runS (rest := []) C aks Wd cs_X5_88 (wsX8_isOperation l D r15 _ ([].map cel) trivial) [] (wN_pick [] (okC_lt (ok_1))) (okC_nd (ok_1)) [] (tC_ok (ok_1) rfl)  rfl rfl ⟨(Nat.le_of_ble_eq_true rfl), (Nat.le_of_ble_eq_true rfl)⟩ hl.1 rfl rfl (Nat.le_of_ble_eq_true rfl) ⟨(Nat.le_of_ble_eq_true rfl), (Nat.le_of_ble_eq_true rfl)⟩ dX5_multiplyOut_22) (fun r22 w22 => ?_)
    obtain ⟨g22_0, g22_1⟩ := w22
    have g22_0 : 0 ≤ r22.toInt := g22_0
    have g22_1 : r22.toInt ≤ 1 := g22_1
    refine k_cutA (fun (u : (Nat → Cl) × (Int32)) H locs ls => match u with | (cel, j118_L_2) => 0 ≤ j118_L_2.toInt ∧ j118_L_2.toInt ≤ 20 ∧ j118_L_2.toInt ≤ j9_L_2.toInt + 1 ∧ j9_L_2.toInt ≤ j118_L_2.toInt + 1 ∧ InvC ad ca (pTp T) cel ∧ wX D (tC ca) s (wN NC cel) H A s.heap locs ∧ lv_has ls 5 [(2, .int j118_L_2), (3, .int j9_L_3), (0, .ref (ad 25)), (1, .ref (ad (123 + 7 * i0 + 3)))]) (fun (u : (Nat → Cl) × (Int32)) ls => match u with | (cel, j118_L_2) => F0 m 118 ls []) (fun u H locs ls hi => ?_) (fun J118 => ?_)
    · obtain ⟨cel, j118_L_2⟩ := u
      obtain ⟨i118_0, i118_1, i118_2, i118_3, hI, Wd, hl⟩ := hi
      obtain ⟨v118, ev118⟩ : ∃ z : Int32, j9_L_3 + (-1) = z := ⟨_, rfl⟩
      have iv118 : v118.toInt = j9_L_3.toInt + (-1) := kz_addc ev118 (by decide) (by have zr0 := kz_rng j9_L_3; omega) (by have zr0 := kz_rng j9_L_3; omega)
      refine lv_iinc (v := v118) (lv' := [(3, .int v118), (2, .int j118_L_2), (0, .ref (ad 25)), (1, .ref (ad (123 + 7 * i0 + 3)))]) C.1 C.2.1 dX5_multiplyOut_118 hl (k := 1) rfl ev118 (by decide) rfl (fun ls hl => ?_)
      refine lv_goto (tgt := 9) C.1 C.2.1 dX5_multiplyOut_121 (by decide) ?_
      exact ih9 (cel, j118_L_2, v118) _ _ _ ⟨by omega, by omega, by omega, by omega, by omega, by omega, hI, Wd, lv_sub hl [0, 1, 2, 3] rfl⟩ (by show (v118.toInt + 2).toNat < (j9_L_3.toInt + 2).toNat; omega)
    refine k_cutA (fun (cel : Nat → Cl) H locs ls => InvC ad ca (pTp T) cel ∧ wX D (tC ca) s (wN NC cel) H A s.heap locs ∧ lv_has ls 5 [(4, .int r15), (3, .int j9_L_3), (2, .int j9_L_2), (0, .ref (ad 25)), (1, .ref (ad (123 + 7 * i0 + 3)))]) (fun (cel : Nat → Cl) ls => F0 m 52 ls []) (fun cel H locs ls hi => ?_) (fun J52 => ?_)
    · obtain ⟨hI, Wd, hl⟩ := hi
      refine lv_iload_n C.1 C.2.1 dX5_multiplyOut_52 rfl (lv_at hl 2 rfl) ?_
      refine lv_iconst (v := 2) C.1 C.2.1 dX5_multiplyOut_53 (by decide) ?_
      refine lv_icmp_lt (tgt := 118) C.1 C.2.1 dX5_multiplyOut_54 (by decide) (fun c54 => ?_) (fun c54 => ?_)
      · have i54 : j9_L_2.toInt < 2 := kz_lt c54
        exact J118 (cel, j9_L_2) _ _ _ ⟨by omega, by omega, by omega, by omega, hI, Wd, lv_sub hl [2, 1, 3, 4] rfl⟩
      · have i54 : 2 ≤ j9_L_2.toInt := kz_nlt c54
        refine lv_iload_n C.1 C.2.1 dX5_multiplyOut_57 rfl (lv_at hl 2 rfl) ?_
        refine lv_bipush (v := 20) C.1 C.2.1 dX5_multiplyOut_58 (by decide) ?_
        refine lv_icmp_gt (tgt := 118) C.1 C.2.1 dX5_multiplyOut_60 (by decide) (fun c60 => False.elim (by have i60 : 20 < j9_L_2.toInt := kz_lt c60; omega)) (fun _ => ?_)
        refine lv_iload C.1 C.2.1 dX5_multiplyOut_63 (lv_at hl 0 rfl) ?_
        refine lv_bipush (v := 122) C.1 C.2.1 dX5_multiplyOut_65 (by decide) ?_
        refine k_cutA (fun (cel : Nat → Cl) H locs ls => InvC ad ca (pTp T) cel ∧ wX D (tC ca) s (wN NC cel) H A s.heap locs ∧ lv_has ls 5 [(3, .int j9_L_3), (2, .int j9_L_2), (0, .ref (ad 25)), (1, .ref (ad (123 + 7 * i0 + 3)))]) (fun (cel : Nat → Cl) ls => F0 m 115 ls []) (fun cel H locs ls hi => ?_) (fun J115 => ?_)
        · obtain ⟨hI, Wd, hl⟩ := hi
          obtain ⟨v115, ev115⟩ : ∃ z : Int32, j9_L_2 + (-1) = z := ⟨_, rfl⟩
          have iv115 : v115.toInt = j9_L_2.toInt + (-1) := kz_addc ev115 (by decide) (by have zr0 := kz_rng j9_L_2; omega) (by have zr0 := kz_rng j9_L_2; omega)
          refine lv_iinc (v := v115) (lv' := [(2, .int v115), (3, .int j9_L_3), (0, .ref (ad 25)), (1, .ref (ad (123 + 7 * i0 + 3)))]) C.1 C.2.1 dX5_multiplyOut_115 hl (k := 1) rfl ev115 (by decide) rfl (fun ls hl => ?_)
          exact J118 (cel, v115) _ _ _ ⟨by omega, by omega, by omega, by omega, hI, Wd, lv_sub hl [0, 1, 2, 3] rfl⟩
        refine lv_icmp_ne (tgt := 93) C.1 C.2.1 dX5_multiplyOut_67 (by decide) (fun c67 => ?_) (fun c67 => ?_)
        · have i67 : ¬ r15.toInt = 122 := kz_ne c67
          refine lv_aload_n C.1 C.2.1 dX5_multiplyOut_93 rfl (lv_at hl 3 rfl) ?_
          refine lv_aload_n C.1 C.2.1 dX5_multiplyOut_94 rfl (lv_at hl 3 rfl) ?_
          obtain ⟨_, e95, y95_0, y95_1, rfl⟩ := at_E (by decide) (fx25 hI)
          refine k_get C Wd KX5 25 4 e95 (by decide) fl_X5_20 rfl dX5_multiplyOut_95 ?_
          refine lv_iload_n C.1 C.2.1 dX5_multiplyOut_98 rfl (lv_at hl 2 rfl) ?_
          refine lv_iconst (v := 1) C.1 C.2.1 dX5_multiplyOut_99 (by decide) ?_
          obtain ⟨v100, ev100⟩ : ∃ z : Int32, j9_L_2 - 1 = z := ⟨_, rfl⟩
          have iv100 : v100.toInt = j9_L_2.toInt - 1 := kz_subc ev100 (by decide) (by have zr0 := kz_rng j9_L_2; omega) (by have zr0 := kz_rng j9_L_2; omega)
          refine k_isub (v := v100) C ev100 dX5_multiplyOut_100 ?_
          obtain ⟨_, e101, f101, rfl, q101⟩ := at_E (by decide) (fx30 hI)
          obtain ⟨z101, hz101, nz101⟩ : ∃ z : Nat, (z : Int) = v100.toInt ∧ v100.toNatClampNeg = z := ⟨v100.toNatClampNeg, Int.toNat_of_nonneg (by omega), rfl⟩
          have az101 : va_rf (f101 v100.toNatClampNeg) = .ref (ad (207 + z101)) := by rw [nz101, q101 z101 (by omega)]; rfl
          refine k_aldg C Wd 30 30 e101 (tC_at' (by decide)) (vp_in_iff.mpr ⟨by omega, by omega⟩) az101 dX5_multiplyOut_101 ?_
          refine lv_aload_n C.1 C.2.1 dX5_multiplyOut_102 rfl (lv_at hl 3 rfl) ?_
          obtain ⟨_, e103, y103_0, y103_1, rfl⟩ := at_E (by decide) (fx25 hI)
          refine k_get C Wd KX5 25 4 e103 (by decide) fl_X5_20 rfl dX5_multiplyOut_103 ?_
          refine lv_iload_n C.1 C.2.1 dX5_multiplyOut_106 rfl (lv_at hl 2 rfl) ?_
          refine lv_iconst (v := 2) C.1 C.2.1 dX5_multiplyOut_107 (by decide) ?_
          obtain ⟨v108, ev108⟩ : ∃ z : Int32, j9_L_2 - 2 = z := ⟨_, rfl⟩
          have iv108 : v108.toInt = j9_L_2.toInt - 2 := kz_subc ev108 (by decide) (by have zr0 := kz_rng j9_L_2; omega) (by have zr0 := kz_rng j9_L_2; omega)
          refine k_isub (v := v108) C ev108 dX5_multiplyOut_108 ?_
          obtain ⟨_, e109, f109, rfl, q109⟩ := at_E (by decide) (fx30 hI)
          obtain ⟨z109, hz109, nz109⟩ : ∃ z : Nat, (z : Int) = v108.toInt ∧ v108.toNatClampNeg = z := ⟨v108.toNatClampNeg, Int.toNat_of_nonneg (by omega), rfl⟩
          have az109 : va_rf (f109 v108.toNatClampNeg) = .ref (ad (207 + z109)) := by rw [nz109, q109 z109 (by omega)]; rfl
          refine k_aldg C Wd 30 30 e109 (tC_at' (by decide)) (vp_in_iff.mpr ⟨by omega, by omega⟩) az109 dX5_multiplyOut_109 ?_
          refine lv_iload C.1 C.2.1 dX5_multiplyOut_110 (lv_at hl 0 rfl) ?_
          obtain ⟨_, e112o, y112o_0, y112o_1, rfl⟩ := at_E (by decide) (fx25 hI)
          refine kc_v Wd (k_runV (rest := []) C aks Wd cs_X5_105 (liftV4 (P' := pTp T) hI (ok_3 z101 (by omega) z109 (by omega) (by omega)) (wsX5_addUp l D (ad 25) (ad (207 + z101)) (ad (207 + z109)) (ca (207 + z101)) (ca (207 + z109)) 512 512 r15 _ (by omega) (by omega) (by omega) (by omega) ([(207 + z101), (207 + z109)].map cel) ⟨(fform0 hI (by omega : z101 < 20)), (fform0 hI (by omega : z109 < 20)), trivial⟩) rfl (fun _ _ => rfl) ⟨fun _ h => tform0 (by omega) h, fun _ h => tform0 (by omega) h, trivial⟩) (List.range NC) (wN_all cel) ndR (List.range NC) (tC_all ca) 25 5 e112o rfl rfl rfl rfl ⟨(Nat.le_of_ble_eq_true rfl), (Nat.le_of_ble_eq_true rfl)⟩ hl.1 rfl rfl (Nat.le_of_ble_eq_true rfl) ⟨(Nat.le_of_ble_eq_true rfl), (Nat.le_of_ble_eq_true rfl)⟩ dX5_multiplyOut_112) (fun cel H locs w112 hI Wd => ?_)
          exact J115 cel _ _ _ ⟨hI, Wd, lv_sub hl [1, 2, 3, 4] rfl⟩
        · have i67 : r15.toInt = 122 := kz_eq c67
          refine lv_aload_n C.1 C.2.1 dX5_multiplyOut_70 rfl (lv_at hl 3 rfl) ?_
          refine lv_aload_n C.1 C.2.1 dX5_multiplyOut_71 rfl (lv_at hl 3 rfl) ?_
          obtain ⟨_, e72, y72_0, y72_1, rfl⟩ := at_E (by decide) (fx25 hI)
          refine k_get C Wd KX5 25 4 e72 (by decide) fl_X5_20 rfl dX5_multiplyOut_72 ?_
          refine lv_iload_n C.1 C.2.1 dX5_multiplyOut_75 rfl (lv_at hl 2 rfl) ?_
          refine lv_iconst (v := 1) C.1 C.2.1 dX5_multiplyOut_76 (by decide) ?_
          obtain ⟨v77, ev77⟩ : ∃ z : Int32, j9_L_2 - 1 = z := ⟨_, rfl⟩
          have iv77 : v77.toInt = j9_L_2.toInt - 1 := kz_subc ev77 (by decide) (by have zr0 := kz_rng j9_L_2; omega) (by have zr0 := kz_rng j9_L_2; omega)
          refine k_isub (v := v77) C ev77 dX5_multiplyOut_77 ?_
          obtain ⟨_, e78, f78, rfl, q78⟩ := at_E (by decide) (fx30 hI)
          obtain ⟨z78, hz78, nz78⟩ : ∃ z : Nat, (z : Int) = v77.toInt ∧ v77.toNatClampNeg = z := ⟨v77.toNatClampNeg, Int.toNat_of_nonneg (by omega), rfl⟩
          have az78 : va_rf (f78 v77.toNatClampNeg) = .ref (ad (207 + z78)) := by rw [nz78, q78 z78 (by omega)]; rfl
          refine k_aldg C Wd 30 30 e78 (tC_at' (by decide)) (vp_in_iff.mpr ⟨by omega, by omega⟩) az78 dX5_multiplyOut_78 ?_
          refine lv_aload_n C.1 C.2.1 dX5_multiplyOut_79 rfl (lv_at hl 3 rfl) ?_
          obtain ⟨_, e80, y80_0, y80_1, rfl⟩ := at_E (by decide) (fx25 hI)
          refine k_get C Wd KX5 25 4 e80 (by decide) fl_X5_20 rfl dX5_multiplyOut_80 ?_
          refine lv_iload_n C.1 C.2.1 dX5_multiplyOut_83 rfl (lv_at hl 2 rfl) ?_
          refine lv_iconst (v := 2) C.1 C.2.1 dX5_multiplyOut_84 (by decide) ?_
          obtain ⟨v85, ev85⟩ : ∃ z : Int32, j9_L_2 - 2 = z := ⟨_, rfl⟩
          have iv85 : v85.toInt = j9_L_2.toInt - 2 := kz_subc ev85 (by decide) (by have zr0 := kz_rng j9_L_2; omega) (by have zr0 := kz_rng j9_L_2; omega)
          refine k_isub (v := v85) C ev85 dX5_multiplyOut_85 ?_
          obtain ⟨_, e86, f86, rfl, q86⟩ := at_E (by decide) (fx30 hI)
          obtain ⟨z86, hz86, nz86⟩ : ∃ z : Nat, (z : Int) = v85.toInt ∧ v85.toNatClampNeg = z := ⟨v85.toNatClampNeg, Int.toNat_of_nonneg (by omega), rfl⟩
          have az86 : va_rf (f86 v85.toNatClampNeg) = .ref (ad (207 + z86)) := by rw [nz86, q86 z86 (by omega)]; rfl
          refine k_aldg C Wd 30 30 e86 (tC_at' (by decide)) (vp_in_iff.mpr ⟨by omega, by omega⟩) az86 dX5_multiplyOut_86 ?_
          obtain ⟨_, e87o, y87o_0, y87o_1, rfl⟩ := at_E (by decide) (fx25 hI)
          refine kc_v Wd (k_runV (rest := []) C aks Wd cs_X5_101 (liftV4 (P' := pTp T) hI (ok_4 z78 (by omega) z86 (by omega) (by omega)) (wsX5_multiply l D (ad 25) (ad (207 + z78)) (ad (207 + z86)) (ad 26) (ad 27) (ad 30) (ad 28) (ad 29) (ca 29) (ca (207 + z78)) (ca (207 + z86)) 512 512 _ (by omega) (by omega) (by omega) (by omega) ([25, 29, (207 + z78), (207 + z86)].map cel) ⟨(fx25 hI), (fx29 hI), (fform0 hI (by omega : z78 < 20)), (fform0 hI (by omega : z86 < 20)), trivial⟩) rfl (fun _ _ => rfl) ⟨fun _ h => h, fun _ h => h, fun _ h => tform0 (by omega) h, fun _ h => tform0 (by omega) h, trivial⟩) (List.range NC) (wN_all cel) ndR (List.range NC) (tC_all ca) 25 5 e87o rfl rfl rfl rfl ⟨(Nat.le_of_ble_eq_true rfl), (Nat.le_of_ble_eq_true rfl)⟩ hl.1 rfl rfl (Nat.le_of_ble_eq_true rfl) ⟨(Nat.le_of_ble_eq_true rfl), (Nat.le_of_ble_eq_true rfl)⟩ dX5_multiplyOut_87) (fun cel H locs w87 hI Wd => ?_)
          refine lv_goto (tgt := 115) C.1 C.2.1 dX5_multiplyOut_90 (by decide) ?_
          exact J115 cel _ _ _ ⟨hI, Wd, lv_sub hl [1, 2, 3, 4] rfl⟩
    refine lv_if_ne (tgt := 52) C.1 C.2.1 dX5_multiplyOut_25 (by decide) (fun c25 => ?_) (fun c25 => ?_)
    · have i25 : ¬ r22.toInt = 0 := kz_ne c25
      exact J52 cel _ _ _ ⟨hI, Wd, lv_sub hl [0, 1, 2, 3, 4] rfl⟩
    · have i25 : r22.toInt = 0 := kz_eq c25
      refine lv_iload_n C.1 C.2.1 dX5_multiplyOut_28 rfl (lv_at hl 2 rfl) ?_
      refine lv_bipush (v := 20) C.1 C.2.1 dX5_multiplyOut_29 (by decide) ?_
      refine lv_icmp_ge (tgt := 52) C.1 C.2.1 dX5_multiplyOut_31 (by decide) (fun c31 => ?_) (fun c31 => ?_)
      · have i31 : 20 ≤ j9_L_2.toInt := kz_le c31
        exact J52 cel _ _ _ ⟨hI, Wd, lv_sub hl [0, 1, 2, 3, 4] rfl⟩
      · have i31 : j9_L_2.toInt < 20 := kz_nle c31
        refine lv_aload_n C.1 C.2.1 dX5_multiplyOut_34 rfl (lv_at hl 3 rfl) ?_
        refine lv_aload_n C.1 C.2.1 dX5_multiplyOut_35 rfl (lv_at hl 3 rfl) ?_
        obtain ⟨_, e36, y36_0, y36_1, rfl⟩ := at_E (by decide) (fx25 hI)
        refine k_get C Wd KX5 25 4 e36 (by decide) fl_X5_20 rfl dX5_multiplyOut_36 ?_
        refine lv_iload_n C.1 C.2.1 dX5_multiplyOut_39 rfl (lv_at hl 2 rfl) ?_
        obtain ⟨_, e40, f40, rfl, q40⟩ := at_E (by decide) (fx30 hI)
        obtain ⟨z40, hz40, nz40⟩ : ∃ z : Nat, (z : Int) = j9_L_2.toInt ∧ j9_L_2.toNatClampNeg = z := ⟨j9_L_2.toNatClampNeg, Int.toNat_of_nonneg (by omega), rfl⟩
        have az40 : va_rf (f40 j9_L_2.toNatClampNeg) = .ref (ad (207 + z40)) := by rw [nz40, q40 z40 (by omega)]; rfl
        refine k_aldg C Wd 30 30 e40 (tC_at' (by decide)) (vp_in_iff.mpr ⟨by omega, by omega⟩) az40 dX5_multiplyOut_40 ?_
        refine lv_iload C.1 C.2.1 dX5_multiplyOut_41 (lv_at hl 0 rfl) ?_
        obtain ⟨_, e43o, y43o_0, y43o_1, rfl⟩ := at_E (by decide) (fx25 hI)
        refine kc_v Wd (k_runV (rest := []) C aks Wd cs_X5_97 (liftV4 (P' := pTp T) hI (ok_2 z40 (by omega)) (wsX5_beginForm l D (ad 25) (ad (207 + z40)) (ca (207 + z40)) 512 r15 _ (by omega) (by omega) ([(207 + z40)].map cel) ⟨(fform0 hI (by omega : z40 < 20)), trivial⟩) rfl (fun _ _ => rfl) ⟨fun _ h => tform0 (by omega) h, trivial⟩) (List.range NC) (wN_all cel) ndR (List.range NC) (tC_all ca) 25 5 e43o rfl rfl rfl rfl ⟨(Nat.le_of_ble_eq_true rfl), (Nat.le_of_ble_eq_true rfl)⟩ hl.1 rfl rfl (Nat.le_of_ble_eq_true rfl) ⟨(Nat.le_of_ble_eq_true rfl), (Nat.le_of_ble_eq_true rfl)⟩ dX5_multiplyOut_43) (fun cel H locs w43 hI Wd => ?_)
        obtain ⟨v46, ev46⟩ : ∃ z : Int32, j9_L_2 + 1 = z := ⟨_, rfl⟩
        have iv46 : v46.toInt = j9_L_2.toInt + 1 := kz_addc ev46 (by decide) (by have zr0 := kz_rng j9_L_2; omega) (by have zr0 := kz_rng j9_L_2; omega)
        refine lv_iinc (v := v46) (lv' := [(2, .int v46), (4, .int r15), (3, .int j9_L_3), (0, .ref (ad 25)), (1, .ref (ad (123 + 7 * i0 + 3)))]) C.1 C.2.1 dX5_multiplyOut_46 hl (k := 2) rfl ev46 (by decide) rfl (fun ls hl => ?_)
        refine lv_goto (tgt := 118) C.1 C.2.1 dX5_multiplyOut_49 (by decide) ?_
        exact J118 (cel, v46) _ _ _ ⟨by omega, by omega, by omega, by omega, hI, Wd, lv_sub hl [0, 2, 3, 4] rfl⟩
set_option maxHeartbeats 4000000 in
set_option maxRecDepth 100000 in
theorem gX5_compareForms (l : Launch) (D : va_G) (ad : Nat → Nat) (ca : Nat → ClassId) (T : Value → Prop) (cel : Nat → Cl) (sz : Nat) (i0 : Nat) (hb_i0 : i0 < 12) (hI : InvC ad ca (pTp T) cel) : Met l yX5_compareForms (Cond.code yX5_compareForms cX5_compareForms 3 (some .int) :: gG) { frames := 4, cells := 0, slots := 0, locals := 143 } (cPre D (tC ca) (wN NC cel) sz [.ref (ad 25), .ref (ad (123 + 7 * i0))]) (va_Qi (fun (r : Int32) (c' : Nat → Cl) => (-1 ≤ r.toInt ∧ r.toInt ≤ 1) ∧ InvC ad ca (pTp T) c') (fun c' t => cB D (va_A (wN NC cel) sz) [] (wN NC c') t) (va_A (wN NC cel) sz)) 0 0 (va_A (wN NC cel) sz) := by
  refine Met.ofW (cc := cX5_compareForms) (maxL := 3) (ret := (some .int)) (by decide) rfl ?_
  intro p e s m args below meth c s₁ B hml hv
  obtain ⟨rfl, aks, rfl, Wd⟩ := k_enter hv
  have C : CallFix p m c cX5_compareForms 3 s _ gG RX5 := ⟨B.exec, B.bytes, hml, findClass_of_methodNamed B.named, fun w h => atoms_spec (ws := Cond.code yX5_compareForms cX5_compareForms 3 (some .int) :: gG) B.pre w (List.mem_cons_of_mem _ h)⟩
  have hr := B.returns
  have hlk := B.notSynchronized
  generalize va_A (wN NC cel) s.heap.size = A at Wd ⊢
  refine k_locals (Nat.le_of_ble_eq_true rfl) [(0, .ref (ad 25)), (1, .ref (ad (123 + 7 * i0)))] rfl (fun ls hl => ?_)
  refine lv_aload_n C.1 C.2.1 dX5_compareForms_0 rfl (lv_at hl 0 rfl) ?_
  refine lv_aload_n C.1 C.2.1 dX5_compareForms_1 rfl (lv_at hl 1 rfl) ?_
  obtain ⟨_, e2, y2_2, rfl⟩ := at_E (by show _ < 233; omega) (frule0 hI (by omega : i0 < 12))
  refine k_get C Wd KX9 (123 + 7 * i0) 0 e2 (by decide) fl_X5_46 rfl dX5_compareForms_2 ?_
  obtain ⟨_, e5o, y5o_0, y5o_1, rfl⟩ := at_E (by decide) (fx25 hI)
  refine kc_i Wd (k_runV (rest := []) C aks Wd cs_X5_66 (liftI4 (P' := pTp T) hI (ok_6 i0 (by omega)) (wsX5_hasForm l D (ad 25) (ad (123 + 7 * i0 + 1)) (ad 26) (ad 27) (ad 30) (ad 28) (ad 29) (ad (123 + 7 * i0 + 2)) (ca (123 + 7 * i0 + 2)) (ca 27) 40 _ (by omega) (by omega) ([25, (123 + 7 * i0 + 1), (123 + 7 * i0 + 2), 27].map cel) ⟨(fx25 hI), (frule1 hI (by omega : i0 < 12)), (frule2 hI (by omega : i0 < 12)), (fx27 hI), trivial⟩) rfl (fun _ _ => rfl) ⟨fun _ h => h, fun _ h => trule1 (by omega) h, fun _ h => trule2 (by omega) h, fun _ h => h, trivial⟩) (List.range NC) (wN_all cel) ndR (List.range NC) (tC_all ca) 25 5 e5o rfl rfl rfl rfl ⟨(Nat.le_of_ble_eq_true rfl), (Nat.le_of_ble_eq_true rfl)⟩ hl.1 rfl rfl (Nat.le_of_ble_eq_true rfl) ⟨(Nat.le_of_ble_eq_true rfl), (Nat.le_of_ble_eq_true rfl)⟩ dX5_compareForms_5) (fun r5 cel H locs w5 hI Wd => ?_)
  obtain ⟨g5_0, g5_1⟩ := w5
  have g5_0 : 0 ≤ r5.toInt := g5_0
  have g5_1 : r5.toInt ≤ 1 := g5_1
  refine k_cutA (fun (cel : Nat → Cl) H locs ls => InvC ad ca (pTp T) cel ∧ wX D (tC ca) s (wN NC cel) H A s.heap locs ∧ lv_has ls 3 []) (fun (cel : Nat → Cl) ls => F0 m 22 ls []) (fun cel H locs ls hi => ?_) (fun J22 => ?_)
  · obtain ⟨hI, Wd, hl⟩ := hi
    refine lv_iconst (v := (-1)) C.1 C.2.1 dX5_compareForms_22 (by decide) ?_
    exact kc_zret C hr hlk rfl Wd ⟨(by exact ⟨by have zqm1 : (-1 : Int32).toInt = -1 := (by decide); omega, by have zqm1 : (-1 : Int32).toInt = -1 := (by decide); omega⟩), hI⟩ dX5_compareForms_23
  refine lv_if_eq (tgt := 22) C.1 C.2.1 dX5_compareForms_8 (by decide) (fun c8 => ?_) (fun c8 => ?_)
  · have i8 : r5.toInt = 0 := kz_eq c8
    exact J22 cel _ _ _ ⟨hI, Wd, lv_sub hl [] rfl⟩
  · have i8 : ¬ r5.toInt = 0 := kz_ne c8
    refine lv_aload_n C.1 C.2.1 dX5_compareForms_11 rfl (lv_at hl 0 rfl) ?_
    refine lv_aload_n C.1 C.2.1 dX5_compareForms_12 rfl (lv_at hl 1 rfl) ?_
    obtain ⟨_, e13, y13_2, rfl⟩ := at_E (by show _ < 233; omega) (frule0 hI (by omega : i0 < 12))
    refine k_get C Wd KX9 (123 + 7 * i0) 1 e13 (by decide) fl_X5_54 rfl dX5_compareForms_13 ?_
    obtain ⟨_, e16o, y16o_0, y16o_1, rfl⟩ := at_E (by decide) (fx25 hI)
    refine kc_i Wd (k_runV (rest := []) C aks Wd cs_X5_66 (liftI4 (P' := pTp T) hI (ok_7 i0 (by omega)) (wsX5_hasForm l D (ad 25) (ad (123 + 7 * i0 + 3)) (ad 26) (ad 27) (ad 30) (ad 28) (ad 29) (ad (123 + 7 * i0 + 4)) (ca (123 + 7 * i0 + 4)) (ca 27) 40 _ (by omega) (by omega) ([25, (123 + 7 * i0 + 3), (123 + 7 * i0 + 4), 27].map cel) ⟨(fx25 hI), (frule3 hI (by omega : i0 < 12)), (frule4 hI (by omega : i0 < 12)), (fx27 hI), trivial⟩) rfl (fun _ _ => rfl) ⟨fun _ h => h, fun _ h => trule3 (by omega) h, fun _ h => trule4 (by omega) h, fun _ h => h, trivial⟩) (List.range NC) (wN_all cel) ndR (List.range NC) (tC_all ca) 25 5 e16o rfl rfl rfl rfl ⟨(Nat.le_of_ble_eq_true rfl), (Nat.le_of_ble_eq_true rfl)⟩ hl.1 rfl rfl (Nat.le_of_ble_eq_true rfl) ⟨(Nat.le_of_ble_eq_true rfl), (Nat.le_of_ble_eq_true rfl)⟩ dX5_compareForms_16) (fun r16 cel H locs w16 hI Wd => ?_)
    obtain ⟨g16_0, g16_1⟩ := w16
    have g16_0 : 0 ≤ r16.toInt := g16_0
    have g16_1 : r16.toInt ≤ 1 := g16_1
    refine lv_if_ne (tgt := 24) C.1 C.2.1 dX5_compareForms_19 (by decide) (fun c19 => ?_) (fun c19 => ?_)
    · have i19 : ¬ r16.toInt = 0 := kz_ne c19
      refine lv_aload_n C.1 C.2.1 dX5_compareForms_24 rfl (lv_at hl 0 rfl) ?_
      refine lv_aload_n C.1 C.2.1 dX5_compareForms_25 rfl (lv_at hl 1 rfl) ?_
      obtain ⟨_, e26, y26_2, rfl⟩ := at_E (by show _ < 233; omega) (frule0 hI (by omega : i0 < 12))
      refine k_get C Wd KX9 (123 + 7 * i0) 0 e26 (by decide) fl_X5_46 rfl dX5_compareForms_26 ?_
      obtain ⟨_, e29o, y29o_0, y29o_1, rfl⟩ := at_E (by decide) (fx25 hI)
      refine kc_v Wd (k_runV (rest := []) C aks Wd cs_X5_70 (gX5_multiplyOut_L l D ad ca (T) cel _ i0 (by omega) hI) (List.range NC) (wN_all cel) ndR (List.range NC) (tC_all ca) 25 5 e29o rfl rfl rfl rfl ⟨(Nat.le_of_ble_eq_true rfl), (Nat.le_of_ble_eq_true rfl)⟩ hl.1 rfl rfl (Nat.le_of_ble_eq_true rfl) ⟨(Nat.le_of_ble_eq_true rfl), (Nat.le_of_ble_eq_true rfl)⟩ dX5_compareForms_29) (fun cel H locs w29 hI Wd => ?_)
      refine lv_aload_n C.1 C.2.1 dX5_compareForms_32 rfl (lv_at hl 0 rfl) ?_
      obtain ⟨_, e33, y33_0, y33_1, rfl⟩ := at_E (by decide) (fx25 hI)
      refine k_get C Wd KX5 25 4 e33 (by decide) fl_X5_20 rfl dX5_compareForms_33 ?_
      refine lv_iconst (v := 0) C.1 C.2.1 dX5_compareForms_36 (by decide) ?_
      obtain ⟨_, e37, f37, rfl, q37⟩ := at_E (by decide) (fx30 hI)
      obtain ⟨z37, hz37, nz37⟩ : ∃ z : Nat, (z : Int) = 0 ∧ (0 : Int32).toNatClampNeg = z := ⟨(0 : Int32).toNatClampNeg, by rfl, rfl⟩
      have az37 : va_rf (f37 (0 : Int32).toNatClampNeg) = .ref (ad (207 + z37)) := by rw [nz37, q37 z37 (by omega)]; rfl
      refine k_aldg C Wd 30 30 e37 (tC_at' (by decide)) (vp_in_iff.mpr (by decide)) az37 dX5_compareForms_37 ?_
      refine lv_iconst (v := 0) C.1 C.2.1 dX5_compareForms_38 (by decide) ?_
      refine lv_aload_n C.1 C.2.1 dX5_compareForms_39 rfl (lv_at hl 0 rfl) ?_
      obtain ⟨_, e40, y40_0, y40_1, rfl⟩ := at_E (by decide) (fx25 hI)
      refine k_get C Wd KX5 25 5 e40 (by decide) fl_X5_23 rfl dX5_compareForms_40 ?_
      refine lv_iconst (v := 0) C.1 C.2.1 dX5_compareForms_43 (by decide) ?_
      refine lv_sipush (v := 512) C.1 C.2.1 dX5_compareForms_44 (by decide) ?_
      obtain ⟨_, e47s, f47s, rfl, q47s⟩ := at_E (by show _ < 233; omega) (fform0 hI (by omega : z37 < 20))
      obtain ⟨_, e47d, f47d, rfl, q47d⟩ := at_E (by decide) (fx28 hI)
      obtain ⟨g47, eg47⟩ : ∃ z : Nat → Int32, va_cpy f47s f47d (0 : Int32).toNatClampNeg (0 : Int32).toNatClampNeg (512 : Int32).toNatClampNeg = z := ⟨_, rfl⟩
      refine k_copy C hl.1 Wd mlac_X5_74 nat_ac sta_ac ini_sys (207 + z37) 28 (207 + z37) 28 (wN NC (putC cel 28 ((ad 28), .inl (ca 28, 512, .inl g47)))) e47s e47d (tC_at (by show _ < 233; omega) (tyC_fam (by omega))) (tC_at (by decide) rfl) (by decide) (by decide) (by decide) (by decide) (by decide) eg47 (wN_set (by decide)) (Nat.le_of_ble_eq_true rfl) (Nat.le_of_ble_eq_true rfl) dX5_compareForms_47 (fun H locs Wd => ?_)
      obtain ⟨cel, Wd, hI⟩ : ∃ c : Nat → Cl, wX D (tC ca) s (wN NC c) H A s.heap locs ∧ InvC ad ca (pTp T) c := ⟨_, Wd, Inv_put hI ⟨rfl, g47, rfl, cr_all _⟩⟩
      refine lv_aload_n C.1 C.2.1 dX5_compareForms_50 rfl (lv_at hl 0 rfl) ?_
      refine lv_aload_n C.1 C.2.1 dX5_compareForms_51 rfl (lv_at hl 1 rfl) ?_
      obtain ⟨_, e52, y52_2, rfl⟩ := at_E (by show _ < 233; omega) (frule0 hI (by omega : i0 < 12))
      refine k_get C Wd KX9 (123 + 7 * i0) 1 e52 (by decide) fl_X5_54 rfl dX5_compareForms_52 ?_
      obtain ⟨_, e55o, y55o_0, y55o_1, rfl⟩ := at_E (by decide) (fx25 hI)
      refine kc_v Wd (k_runV (rest := []) C aks Wd cs_X5_70 (gX5_multiplyOut_R l D ad ca (T) cel _ i0 (by omega) hI) (List.range NC) (wN_all cel) ndR (List.range NC) (tC_all ca) 25 5 e55o rfl rfl rfl rfl ⟨(Nat.le_of_ble_eq_true rfl), (Nat.le_of_ble_eq_true rfl)⟩ hl.1 rfl rfl (Nat.le_of_ble_eq_true rfl) ⟨(Nat.le_of_ble_eq_true rfl), (Nat.le_of_ble_eq_true rfl)⟩ dX5_compareForms_55) (fun cel H locs w55 hI Wd => ?_)
      refine lv_iconst (v := 0) C.1 C.2.1 dX5_compareForms_58 (by decide) ?_
      refine lv_istore_n (lv' := [(2, .int 0), (0, .ref (ad 25)), (1, .ref (ad (123 + 7 * i0)))]) C.1 C.2.1 dX5_compareForms_59 rfl hl (by decide) rfl (fun ls hl => ?_)
      refine k_loopA (fun (u : (Nat → Cl) × (Int32)) H locs ls => match u with | (cel, j60_L_2) => 0 ≤ j60_L_2.toInt ∧ j60_L_2.toInt ≤ 512 ∧ InvC ad ca (pTp T) cel ∧ wX D (tC ca) s (wN NC cel) H A s.heap locs ∧ lv_has ls 3 [(2, .int j60_L_2), (0, .ref (ad 25))]) (fun (u : (Nat → Cl) × (Int32)) ls => match u with | (cel, j60_L_2) => F0 m 60 ls []) (fun (u : (Nat → Cl) × (Int32)) => match u with | (cel, j60_L_2) => (513 - j60_L_2.toInt).toNat) (fun u H locs ls hi ih60 => ?_) (cel, 0) _ _ _ ⟨by have zq0 : (0 : Int32).toInt = 0 := (by decide); omega, by have zq0 : (0 : Int32).toInt = 0 := (by decide); omega, hI, Wd, lv_sub hl [0, 1] rfl⟩
      obtain ⟨cel, j60_L_2⟩ := u
      obtain ⟨i60_0, i60_1, hI, Wd, hl⟩ := hi
      refine lv_iload_n C.1 C.2.1 dX5_compareForms_60 rfl (lv_at hl 0 rfl) ?_
      refine lv_sipush (v := 512) C.1 C.2.1 dX5_compareForms_61 (by decide) ?_
      refine lv_icmp_ge (tgt := 92) C.1 C.2.1 dX5_compareForms_64 (by decide) (fun c64 => ?_) (fun c64 => ?_)
      · have i64 : 512 ≤ j60_L_2.toInt := kz_le c64
        refine lv_iconst (v := 1) C.1 C.2.1 dX5_compareForms_92 (by decide) ?_
        exact kc_zret C hr hlk rfl Wd ⟨(by exact ⟨by have zq1 : (1 : Int32).toInt = 1 := (by decide); omega, by have zq1 : (1 : Int32).toInt = 1 := (by decide); omega⟩), hI⟩ dX5_compareForms_93
      · have i64 : j60_L_2.toInt < 512 := kz_nle c64
        refine lv_aload_n C.1 C.2.1 dX5_compareForms_67 rfl (lv_at hl 1 rfl) ?_
        obtain ⟨_, e68, y68_0, y68_1, rfl⟩ := at_E (by decide) (fx25 hI)
        refine k_get C Wd KX5 25 4 e68 (by decide) fl_X5_20 rfl dX5_compareForms_68 ?_
        refine lv_iconst (v := 0) C.1 C.2.1 dX5_compareForms_71 (by decide) ?_
        obtain ⟨_, e72, f72, rfl, q72⟩ := at_E (by decide) (fx30 hI)
        obtain ⟨z72, hz72, nz72⟩ : ∃ z : Nat, (z : Int) = 0 ∧ (0 : Int32).toNatClampNeg = z := ⟨(0 : Int32).toNatClampNeg, by rfl, rfl⟩
        have az72 : va_rf (f72 (0 : Int32).toNatClampNeg) = .ref (ad (207 + z72)) := by rw [nz72, q72 z72 (by omega)]; rfl
        refine k_aldg C Wd 30 30 e72 (tC_at' (by decide)) (vp_in_iff.mpr (by decide)) az72 dX5_compareForms_72 ?_
        refine lv_iload_n C.1 C.2.1 dX5_compareForms_73 rfl (lv_at hl 0 rfl) ?_
        obtain ⟨_, e74, f74, rfl, q74⟩ := at_E (by show _ < 233; omega) (fform0 hI (by omega : z72 < 20))
        obtain ⟨v74, ev74⟩ : ∃ z : Int32, f74 j60_L_2.toNatClampNeg = z := ⟨_, rfl⟩
        refine k_iald (v := v74) C Wd (207 + z72) (207 + z72) e74 (tC_at (by show _ < 233; omega) (tyC_fam (by omega))) (vp_in_iff.mpr ⟨by omega, by omega⟩) ev74 dX5_compareForms_74 ?_
        refine lv_aload_n C.1 C.2.1 dX5_compareForms_75 rfl (lv_at hl 1 rfl) ?_
        obtain ⟨_, e76, y76_0, y76_1, rfl⟩ := at_E (by decide) (fx25 hI)
        refine k_get C Wd KX5 25 5 e76 (by decide) fl_X5_23 rfl dX5_compareForms_76 ?_
        refine lv_iload_n C.1 C.2.1 dX5_compareForms_79 rfl (lv_at hl 0 rfl) ?_
        obtain ⟨_, e80, f80, rfl, q80⟩ := at_E (by decide) (fx28 hI)
        obtain ⟨v80, ev80⟩ : ∃ z : Int32, f80 j60_L_2.toNatClampNeg = z := ⟨_, rfl⟩
        refine k_iald (v := v80) C Wd 28 28 e80 (tC_at (by decide) rfl) (vp_in_iff.mpr ⟨by omega, by omega⟩) ev80 dX5_compareForms_80 ?_
        refine lv_icmp_eq (tgt := 86) C.1 C.2.1 dX5_compareForms_81 (by decide) (fun c81 => ?_) (fun c81 => ?_)
        · have i81 : v74.toInt = v80.toInt := kz_eq c81
          obtain ⟨v86, ev86⟩ : ∃ z : Int32, j60_L_2 + 1 = z := ⟨_, rfl⟩
          have iv86 : v86.toInt = j60_L_2.toInt + 1 := kz_addc ev86 (by decide) (by have zr0 := kz_rng j60_L_2; omega) (by have zr0 := kz_rng j60_L_2; omega)
          refine lv_iinc (v := v86) (lv' := [(2, .int v86), (0, .ref (ad 25))]) C.1 C.2.1 dX5_compareForms_86 hl (k := 0) rfl ev86 (by decide) rfl (fun ls hl => ?_)
          refine lv_goto (tgt := 60) C.1 C.2.1 dX5_compareForms_89 (by decide) ?_
          exact ih60 (cel, v86) _ _ _ ⟨by omega, by omega, hI, Wd, lv_sub hl [0, 1] rfl⟩ (by show (513 - v86.toInt).toNat < (513 - j60_L_2.toInt).toNat; omega)
        · have i81 : ¬ v74.toInt = v80.toInt := kz_ne c81
          refine lv_iconst (v := 0) C.1 C.2.1 dX5_compareForms_84 (by decide) ?_
          exact kc_zret C hr hlk rfl Wd ⟨(by exact ⟨by have zq0 : (0 : Int32).toInt = 0 := (by decide); omega, by have zq0 : (0 : Int32).toInt = 0 := (by decide); omega⟩), hI⟩ dX5_compareForms_85
    · have i19 : r16.toInt = 0 := kz_eq c19
      exact J22 cel _ _ _ ⟨hI, Wd, lv_sub hl [] rfl⟩
