set_option maxHeartbeats 4000000 in
set_option maxRecDepth 100000 in
theorem sX8_isStatement (l : Launch) (D : va_G) (x0 : Int32) (sz : Nat)   : Met l yX8_isStatement (Cond.code yX8_isStatement cX8_isStatement 1 (some .boolean) :: gG) { frames := 1, cells := 0, slots := 0, locals := 64 } (cPre D [] [] sz [.int x0]) (vp_Si (fun r => 0 ≤ r.toInt ∧ r.toInt ≤ 1)) 0 0 (fun _ => False) := by
  refine Met.ofW (cc := cX8_isStatement) (maxL := 1) (ret := (some .boolean)) (by decide) rfl ?_
  intro p e s m args below meth c s₁ B hml hv
  obtain ⟨rfl, aks, rfl, Wd⟩ := k_enter hv
  have C : CallFix p m c cX8_isStatement 1 s _ gG RX8 := ⟨B.exec, B.bytes, hml, findClass_of_methodNamed B.named, fun w h => atoms_spec (ws := Cond.code yX8_isStatement cX8_isStatement 1 (some .boolean) :: gG) B.pre w (List.mem_cons_of_mem _ h)⟩
  have hr := B.returns
  have hlk := B.notSynchronized
  obtain ⟨A, Wd⟩ : ∃ A, wX D [] s [] s.heap A s.heap [] := ⟨_, Wd⟩
  refine k_locals (Nat.le_of_ble_eq_true rfl) [(0, .int x0)] rfl (fun ls hl => ?_)
  refine lv_iload_n C.1 C.2.1 dX8_isStatement_0 rfl (lv_at hl 0 rfl) ?_
  refine lv_bipush (v := 100) C.1 C.2.1 dX8_isStatement_1 (by decide) ?_
  refine k_cutA (fun (j41_S_0 : Int32) H locs ls => 0 ≤ j41_S_0.toInt ∧ j41_S_0.toInt ≤ 1 ∧ H = s.heap ∧ locs = [] ∧ wX D [] s [] H A s.heap locs ∧ lv_has ls 1 [(0, .int x0)]) (fun (j41_S_0 : Int32) ls => F0 m 41 ls [.int j41_S_0]) (fun j41_S_0 H locs ls hi => ?_) (fun J41 => ?_)
  · obtain ⟨i41_0, i41_1, rfl, rfl, Wd, hl⟩ := hi
    exact k_zretP C hr hlk (k_nb (by omega) (by omega)) (by exact ⟨by omega, by omega⟩) dX8_isStatement_41
  refine k_cutA (fun (_ : Unit) H locs ls => 100 ≤ x0.toInt ∧ x0.toInt ≤ 115 ∧ H = s.heap ∧ locs = [] ∧ wX D [] s [] H A s.heap locs ∧ lv_has ls 1 [(0, .int x0)]) (fun (_ : Unit) ls => F0 m 36 ls []) (fun _ H locs ls hi => ?_) (fun J36 => ?_)
  · obtain ⟨i36_0, i36_1, rfl, rfl, Wd, hl⟩ := hi
    refine lv_iconst (v := 1) C.1 C.2.1 dX8_isStatement_36 (by decide) ?_
    refine lv_goto (tgt := 41) C.1 C.2.1 dX8_isStatement_37 (by decide) ?_
    exact J41 1 _ _ _ ⟨by have zq1 : (1 : Int32).toInt = 1 := (by decide); omega, by have zq1 : (1 : Int32).toInt = 1 := (by decide); omega, rfl, rfl, Wd, lv_sub hl [0] rfl⟩
  refine k_cutA (fun (_ : Unit) H locs ls => H = s.heap ∧ locs = [] ∧ wX D [] s [] H A s.heap locs ∧ lv_has ls 1 [(0, .int x0)]) (fun (_ : Unit) ls => F0 m 12 ls []) (fun _ H locs ls hi => ?_) (fun J12 => ?_)
  · obtain ⟨rfl, rfl, Wd, hl⟩ := hi
    refine lv_iload_n C.1 C.2.1 dX8_isStatement_12 rfl (lv_at hl 0 rfl) ?_
    refine lv_bipush (v := 110) C.1 C.2.1 dX8_isStatement_13 (by decide) ?_
    refine lv_icmp_eq (tgt := 36) C.1 C.2.1 dX8_isStatement_15 (by decide) (fun c15 => ?_) (fun c15 => ?_)
    · have i15 : x0.toInt = 110 := kz_eq c15
      exact J36 () _ _ _ ⟨by omega, by omega, rfl, rfl, Wd, lv_sub hl [0] rfl⟩
    · have i15 : ¬ x0.toInt = 110 := kz_ne c15
      refine lv_iload_n C.1 C.2.1 dX8_isStatement_18 rfl (lv_at hl 0 rfl) ?_
      refine lv_bipush (v := 111) C.1 C.2.1 dX8_isStatement_19 (by decide) ?_
      refine lv_icmp_eq (tgt := 36) C.1 C.2.1 dX8_isStatement_21 (by decide) (fun c21 => ?_) (fun c21 => ?_)
      · have i21 : x0.toInt = 111 := kz_eq c21
        exact J36 () _ _ _ ⟨by omega, by omega, rfl, rfl, Wd, lv_sub hl [0] rfl⟩
      · have i21 : ¬ x0.toInt = 111 := kz_ne c21
        refine lv_iload_n C.1 C.2.1 dX8_isStatement_24 rfl (lv_at hl 0 rfl) ?_
        refine lv_bipush (v := 112) C.1 C.2.1 dX8_isStatement_25 (by decide) ?_
        refine lv_icmp_eq (tgt := 36) C.1 C.2.1 dX8_isStatement_27 (by decide) (fun c27 => ?_) (fun c27 => ?_)
        · have i27 : x0.toInt = 112 := kz_eq c27
          exact J36 () _ _ _ ⟨by omega, by omega, rfl, rfl, Wd, lv_sub hl [0] rfl⟩
        · have i27 : ¬ x0.toInt = 112 := kz_ne c27
          refine lv_iload_n C.1 C.2.1 dX8_isStatement_30 rfl (lv_at hl 0 rfl) ?_
          refine lv_bipush (v := 115) C.1 C.2.1 dX8_isStatement_31 (by decide) ?_
          refine lv_icmp_ne (tgt := 40) C.1 C.2.1 dX8_isStatement_33 (by decide) (fun c33 => ?_) (fun c33 => ?_)
          · have i33 : ¬ x0.toInt = 115 := kz_ne c33
            refine lv_iconst (v := 0) C.1 C.2.1 dX8_isStatement_40 (by decide) ?_
            exact J41 0 _ _ _ ⟨by have zq0 : (0 : Int32).toInt = 0 := (by decide); omega, by have zq0 : (0 : Int32).toInt = 0 := (by decide); omega, rfl, rfl, Wd, lv_sub hl [0] rfl⟩
          · have i33 : x0.toInt = 115 := kz_eq c33
            exact J36 () _ _ _ ⟨by omega, by omega, rfl, rfl, Wd, lv_sub hl [0] rfl⟩
  refine lv_icmp_lt (tgt := 12) C.1 C.2.1 dX8_isStatement_3 (by decide) (fun c3 => ?_) (fun c3 => ?_)
  · have i3 : x0.toInt < 100 := kz_lt c3
    exact J12 () _ _ _ ⟨rfl, rfl, Wd, lv_sub hl [0] rfl⟩
  · have i3 : 100 ≤ x0.toInt := kz_nlt c3
    refine lv_iload_n C.1 C.2.1 dX8_isStatement_6 rfl (lv_at hl 0 rfl) ?_
    refine lv_bipush (v := 106) C.1 C.2.1 dX8_isStatement_7 (by decide) ?_
    refine lv_icmp_lt (tgt := 36) C.1 C.2.1 dX8_isStatement_9 (by decide) (fun c9 => ?_) (fun c9 => ?_)
    · have i9 : x0.toInt < 106 := kz_lt c9
      exact J36 () _ _ _ ⟨by omega, by omega, rfl, rfl, Wd, lv_sub hl [0] rfl⟩
    · have i9 : 106 ≤ x0.toInt := kz_nlt c9
      exact J12 () _ _ _ ⟨rfl, rfl, Wd, lv_sub hl [0] rfl⟩
set_option maxHeartbeats 4000000 in
set_option maxRecDepth 100000 in
theorem sX8_isSet (l : Launch) (D : va_G) (x0 : Int32) (sz : Nat)   : Met l yX8_isSet (Cond.code yX8_isSet cX8_isSet 1 (some .boolean) :: gG) { frames := 1, cells := 0, slots := 0, locals := 64 } (cPre D [] [] sz [.int x0]) (vp_Si (fun r => (r = 0) ∨ (100 ≤ x0.toInt ∧ x0.toInt ≤ 105 ∧ r = 1))) 0 0 (fun _ => False) := by
  refine Met.ofW (cc := cX8_isSet) (maxL := 1) (ret := (some .boolean)) (by decide) rfl ?_
  intro p e s m args below meth c s₁ B hml hv
  obtain ⟨rfl, aks, rfl, Wd⟩ := k_enter hv
  have C : CallFix p m c cX8_isSet 1 s _ gG RX8 := ⟨B.exec, B.bytes, hml, findClass_of_methodNamed B.named, fun w h => atoms_spec (ws := Cond.code yX8_isSet cX8_isSet 1 (some .boolean) :: gG) B.pre w (List.mem_cons_of_mem _ h)⟩
  have hr := B.returns
  have hlk := B.notSynchronized
  obtain ⟨A, Wd⟩ : ∃ A, wX D [] s [] s.heap A s.heap [] := ⟨_, Wd⟩
  refine k_locals (Nat.le_of_ble_eq_true rfl) [(0, .int x0)] rfl (fun ls hl => ?_)
  refine lv_iload_n C.1 C.2.1 dX8_isSet_0 rfl (lv_at hl 0 rfl) ?_
  refine lv_bipush (v := 100) C.1 C.2.1 dX8_isSet_1 (by decide) ?_
  refine lv_icmp_lt (tgt := 16) C.1 C.2.1 dX8_isSet_3 (by decide) (fun c3 => ?_) (fun c3 => ?_)
  · have i3 : x0.toInt < 100 := kz_lt c3
    refine lv_iconst (v := 0) C.1 C.2.1 dX8_isSet_16 (by decide) ?_
    exact k_zretP C hr hlk rfl (by exact Or.inl rfl) dX8_isSet_17
  · have i3 : 100 ≤ x0.toInt := kz_nlt c3
    refine lv_iload_n C.1 C.2.1 dX8_isSet_6 rfl (lv_at hl 0 rfl) ?_
    refine lv_bipush (v := 106) C.1 C.2.1 dX8_isSet_7 (by decide) ?_
    refine lv_icmp_ge (tgt := 16) C.1 C.2.1 dX8_isSet_9 (by decide) (fun c9 => ?_) (fun c9 => ?_)
    · have i9 : 106 ≤ x0.toInt := kz_le c9
      refine lv_iconst (v := 0) C.1 C.2.1 dX8_isSet_16 (by decide) ?_
      exact k_zretP C hr hlk rfl (by exact Or.inl rfl) dX8_isSet_17
    · have i9 : x0.toInt < 106 := kz_nle c9
      refine lv_iconst (v := 1) C.1 C.2.1 dX8_isSet_12 (by decide) ?_
      refine lv_goto (tgt := 17) C.1 C.2.1 dX8_isSet_13 (by decide) ?_
      exact k_zretP C hr hlk rfl (by exact Or.inr (⟨by omega, by omega, rfl⟩)) dX8_isSet_17
set_option maxHeartbeats 4000000 in
set_option maxRecDepth 100000 in
theorem sX8_isBranch (l : Launch) (D : va_G) (x0 : Int32) (sz : Nat)   : Met l yX8_isBranch (Cond.code yX8_isBranch cX8_isBranch 1 (some .boolean) :: gG) { frames := 1, cells := 0, slots := 0, locals := 64 } (cPre D [] [] sz [.int x0]) (vp_Si (fun r => 0 ≤ r.toInt ∧ r.toInt ≤ 1)) 0 0 (fun _ => False) := by
  refine Met.ofW (cc := cX8_isBranch) (maxL := 1) (ret := (some .boolean)) (by decide) rfl ?_
  intro p e s m args below meth c s₁ B hml hv
  obtain ⟨rfl, aks, rfl, Wd⟩ := k_enter hv
  have C : CallFix p m c cX8_isBranch 1 s _ gG RX8 := ⟨B.exec, B.bytes, hml, findClass_of_methodNamed B.named, fun w h => atoms_spec (ws := Cond.code yX8_isBranch cX8_isBranch 1 (some .boolean) :: gG) B.pre w (List.mem_cons_of_mem _ h)⟩
  have hr := B.returns
  have hlk := B.notSynchronized
  obtain ⟨A, Wd⟩ : ∃ A, wX D [] s [] s.heap A s.heap [] := ⟨_, Wd⟩
  refine k_locals (Nat.le_of_ble_eq_true rfl) [(0, .int x0)] rfl (fun ls hl => ?_)
  refine lv_iload_n C.1 C.2.1 dX8_isBranch_0 rfl (lv_at hl 0 rfl) ?_
  refine lv_bipush (v := 112) C.1 C.2.1 dX8_isBranch_1 (by decide) ?_
  refine k_cutA (fun (j17_S_0 : Int32) H locs ls => 0 ≤ j17_S_0.toInt ∧ j17_S_0.toInt ≤ 1 ∧ H = s.heap ∧ locs = [] ∧ wX D [] s [] H A s.heap locs ∧ lv_has ls 1 [(0, .int x0)]) (fun (j17_S_0 : Int32) ls => F0 m 17 ls [.int j17_S_0]) (fun j17_S_0 H locs ls hi => ?_) (fun J17 => ?_)
  · obtain ⟨i17_0, i17_1, rfl, rfl, Wd, hl⟩ := hi
    exact k_zretP C hr hlk (k_nb (by omega) (by omega)) (by exact ⟨by omega, by omega⟩) dX8_isBranch_17
  refine k_cutA (fun (_ : Unit) H locs ls => 112 ≤ x0.toInt ∧ x0.toInt ≤ 115 ∧ H = s.heap ∧ locs = [] ∧ wX D [] s [] H A s.heap locs ∧ lv_has ls 1 [(0, .int x0)]) (fun (_ : Unit) ls => F0 m 12 ls []) (fun _ H locs ls hi => ?_) (fun J12 => ?_)
  · obtain ⟨i12_0, i12_1, rfl, rfl, Wd, hl⟩ := hi
    refine lv_iconst (v := 1) C.1 C.2.1 dX8_isBranch_12 (by decide) ?_
    refine lv_goto (tgt := 17) C.1 C.2.1 dX8_isBranch_13 (by decide) ?_
    exact J17 1 _ _ _ ⟨by have zq1 : (1 : Int32).toInt = 1 := (by decide); omega, by have zq1 : (1 : Int32).toInt = 1 := (by decide); omega, rfl, rfl, Wd, lv_sub hl [0] rfl⟩
  refine lv_icmp_eq (tgt := 12) C.1 C.2.1 dX8_isBranch_3 (by decide) (fun c3 => ?_) (fun c3 => ?_)
  · have i3 : x0.toInt = 112 := kz_eq c3
    exact J12 () _ _ _ ⟨by omega, by omega, rfl, rfl, Wd, lv_sub hl [0] rfl⟩
  · have i3 : ¬ x0.toInt = 112 := kz_ne c3
    refine lv_iload_n C.1 C.2.1 dX8_isBranch_6 rfl (lv_at hl 0 rfl) ?_
    refine lv_bipush (v := 115) C.1 C.2.1 dX8_isBranch_7 (by decide) ?_
    refine lv_icmp_ne (tgt := 16) C.1 C.2.1 dX8_isBranch_9 (by decide) (fun c9 => ?_) (fun c9 => ?_)
    · have i9 : ¬ x0.toInt = 115 := kz_ne c9
      refine lv_iconst (v := 0) C.1 C.2.1 dX8_isBranch_16 (by decide) ?_
      exact J17 0 _ _ _ ⟨by have zq0 : (0 : Int32).toInt = 0 := (by decide); omega, by have zq0 : (0 : Int32).toInt = 0 := (by decide); omega, rfl, rfl, Wd, lv_sub hl [0] rfl⟩
    · have i9 : x0.toInt = 115 := kz_eq c9
      exact J12 () _ _ _ ⟨by omega, by omega, rfl, rfl, Wd, lv_sub hl [0] rfl⟩
set_option maxHeartbeats 4000000 in
set_option maxRecDepth 100000 in
theorem sX8_isNumber (l : Launch) (D : va_G) (x0 : Int32) (sz : Nat)   : Met l yX8_isNumber (Cond.code yX8_isNumber cX8_isNumber 1 (some .boolean) :: gG) { frames := 1, cells := 0, slots := 0, locals := 64 } (cPre D [] [] sz [.int x0]) (vp_Si (fun r => 0 ≤ r.toInt ∧ r.toInt ≤ 1)) 0 0 (fun _ => False) := by
  refine Met.ofW (cc := cX8_isNumber) (maxL := 1) (ret := (some .boolean)) (by decide) rfl ?_
  intro p e s m args below meth c s₁ B hml hv
  obtain ⟨rfl, aks, rfl, Wd⟩ := k_enter hv
  have C : CallFix p m c cX8_isNumber 1 s _ gG RX8 := ⟨B.exec, B.bytes, hml, findClass_of_methodNamed B.named, fun w h => atoms_spec (ws := Cond.code yX8_isNumber cX8_isNumber 1 (some .boolean) :: gG) B.pre w (List.mem_cons_of_mem _ h)⟩
  have hr := B.returns
  have hlk := B.notSynchronized
  obtain ⟨A, Wd⟩ : ∃ A, wX D [] s [] s.heap A s.heap [] := ⟨_, Wd⟩
  refine k_locals (Nat.le_of_ble_eq_true rfl) [(0, .int x0)] rfl (fun ls hl => ?_)
  refine lv_iload_n C.1 C.2.1 dX8_isNumber_0 rfl (lv_at hl 0 rfl) ?_
  refine k_cutA (fun (j15_S_0 : Int32) H locs ls => 0 ≤ j15_S_0.toInt ∧ j15_S_0.toInt ≤ 1 ∧ H = s.heap ∧ locs = [] ∧ wX D [] s [] H A s.heap locs ∧ lv_has ls 1 [(0, .int x0)]) (fun (j15_S_0 : Int32) ls => F0 m 15 ls [.int j15_S_0]) (fun j15_S_0 H locs ls hi => ?_) (fun J15 => ?_)
  · obtain ⟨i15_0, i15_1, rfl, rfl, Wd, hl⟩ := hi
    exact k_zretP C hr hlk (k_nb (by omega) (by omega)) (by exact ⟨by omega, by omega⟩) dX8_isNumber_15
  refine k_cutA (fun (_ : Unit) H locs ls => H = s.heap ∧ locs = [] ∧ wX D [] s [] H A s.heap locs ∧ lv_has ls 1 [(0, .int x0)]) (fun (_ : Unit) ls => F0 m 14 ls []) (fun _ H locs ls hi => ?_) (fun J14 => ?_)
  · obtain ⟨rfl, rfl, Wd, hl⟩ := hi
    refine lv_iconst (v := 0) C.1 C.2.1 dX8_isNumber_14 (by decide) ?_
    exact J15 0 _ _ _ ⟨by have zq0 : (0 : Int32).toInt = 0 := (by decide); omega, by have zq0 : (0 : Int32).toInt = 0 := (by decide); omega, rfl, rfl, Wd, lv_sub hl [0] rfl⟩
  refine lv_if_lt (tgt := 14) C.1 C.2.1 dX8_isNumber_1 (by decide) (fun c1 => ?_) (fun c1 => ?_)
  · have i1 : x0.toInt < 0 := kz_lt c1
    exact J14 () _ _ _ ⟨rfl, rfl, Wd, lv_sub hl [0] rfl⟩
  · have i1 : 0 ≤ x0.toInt := kz_nlt c1
    refine lv_iload_n C.1 C.2.1 dX8_isNumber_4 rfl (lv_at hl 0 rfl) ?_
    refine lv_bipush (v := 16) C.1 C.2.1 dX8_isNumber_5 (by decide) ?_
    refine lv_icmp_ge (tgt := 14) C.1 C.2.1 dX8_isNumber_7 (by decide) (fun c7 => ?_) (fun c7 => ?_)
    · have i7 : 16 ≤ x0.toInt := kz_le c7
      exact J14 () _ _ _ ⟨rfl, rfl, Wd, lv_sub hl [0] rfl⟩
    · have i7 : x0.toInt < 16 := kz_nle c7
      refine lv_iconst (v := 1) C.1 C.2.1 dX8_isNumber_10 (by decide) ?_
      refine lv_goto (tgt := 15) C.1 C.2.1 dX8_isNumber_11 (by decide) ?_
      exact J15 1 _ _ _ ⟨by have zq1 : (1 : Int32).toInt = 1 := (by decide); omega, by have zq1 : (1 : Int32).toInt = 1 := (by decide); omega, rfl, rfl, Wd, lv_sub hl [0] rfl⟩
set_option maxHeartbeats 4000000 in
set_option maxRecDepth 100000 in
theorem sX8_isRead (l : Launch) (D : va_G) (x0 : Int32) (sz : Nat)   : Met l yX8_isRead (Cond.code yX8_isRead cX8_isRead 1 (some .boolean) :: gG) { frames := 1, cells := 0, slots := 0, locals := 64 } (cPre D [] [] sz [.int x0]) (vp_Si (fun r => 0 ≤ r.toInt ∧ r.toInt ≤ 1)) 0 0 (fun _ => False) := by
  refine Met.ofW (cc := cX8_isRead) (maxL := 1) (ret := (some .boolean)) (by decide) rfl ?_
  intro p e s m args below meth c s₁ B hml hv
  obtain ⟨rfl, aks, rfl, Wd⟩ := k_enter hv
  have C : CallFix p m c cX8_isRead 1 s _ gG RX8 := ⟨B.exec, B.bytes, hml, findClass_of_methodNamed B.named, fun w h => atoms_spec (ws := Cond.code yX8_isRead cX8_isRead 1 (some .boolean) :: gG) B.pre w (List.mem_cons_of_mem _ h)⟩
  have hr := B.returns
  have hlk := B.notSynchronized
  obtain ⟨A, Wd⟩ : ∃ A, wX D [] s [] s.heap A s.heap [] := ⟨_, Wd⟩
  refine k_locals (Nat.le_of_ble_eq_true rfl) [(0, .int x0)] rfl (fun ls hl => ?_)
  refine lv_iload_n C.1 C.2.1 dX8_isRead_0 rfl (lv_at hl 0 rfl) ?_
  refine lv_bipush (v := 20) C.1 C.2.1 dX8_isRead_1 (by decide) ?_
  refine k_cutA (fun (j17_S_0 : Int32) H locs ls => 0 ≤ j17_S_0.toInt ∧ j17_S_0.toInt ≤ 1 ∧ H = s.heap ∧ locs = [] ∧ wX D [] s [] H A s.heap locs ∧ lv_has ls 1 [(0, .int x0)]) (fun (j17_S_0 : Int32) ls => F0 m 17 ls [.int j17_S_0]) (fun j17_S_0 H locs ls hi => ?_) (fun J17 => ?_)
  · obtain ⟨i17_0, i17_1, rfl, rfl, Wd, hl⟩ := hi
    exact k_zretP C hr hlk (k_nb (by omega) (by omega)) (by exact ⟨by omega, by omega⟩) dX8_isRead_17
  refine k_cutA (fun (_ : Unit) H locs ls => H = s.heap ∧ locs = [] ∧ wX D [] s [] H A s.heap locs ∧ lv_has ls 1 [(0, .int x0)]) (fun (_ : Unit) ls => F0 m 16 ls []) (fun _ H locs ls hi => ?_) (fun J16 => ?_)
  · obtain ⟨rfl, rfl, Wd, hl⟩ := hi
    refine lv_iconst (v := 0) C.1 C.2.1 dX8_isRead_16 (by decide) ?_
    exact J17 0 _ _ _ ⟨by have zq0 : (0 : Int32).toInt = 0 := (by decide); omega, by have zq0 : (0 : Int32).toInt = 0 := (by decide); omega, rfl, rfl, Wd, lv_sub hl [0] rfl⟩
  refine lv_icmp_lt (tgt := 16) C.1 C.2.1 dX8_isRead_3 (by decide) (fun c3 => ?_) (fun c3 => ?_)
  · have i3 : x0.toInt < 20 := kz_lt c3
    exact J16 () _ _ _ ⟨rfl, rfl, Wd, lv_sub hl [0] rfl⟩
  · have i3 : 20 ≤ x0.toInt := kz_nlt c3
    refine lv_iload_n C.1 C.2.1 dX8_isRead_6 rfl (lv_at hl 0 rfl) ?_
    refine lv_bipush (v := 26) C.1 C.2.1 dX8_isRead_7 (by decide) ?_
    refine lv_icmp_ge (tgt := 16) C.1 C.2.1 dX8_isRead_9 (by decide) (fun c9 => ?_) (fun c9 => ?_)
    · have i9 : 26 ≤ x0.toInt := kz_le c9
      exact J16 () _ _ _ ⟨rfl, rfl, Wd, lv_sub hl [0] rfl⟩
    · have i9 : x0.toInt < 26 := kz_nle c9
      refine lv_iconst (v := 1) C.1 C.2.1 dX8_isRead_12 (by decide) ?_
      refine lv_goto (tgt := 17) C.1 C.2.1 dX8_isRead_13 (by decide) ?_
      exact J17 1 _ _ _ ⟨by have zq1 : (1 : Int32).toInt = 1 := (by decide); omega, by have zq1 : (1 : Int32).toInt = 1 := (by decide); omega, rfl, rfl, Wd, lv_sub hl [0] rfl⟩
set_option maxHeartbeats 4000000 in
set_option maxRecDepth 100000 in
theorem sX8_isOperation (l : Launch) (D : va_G) (x0 : Int32) (sz : Nat)   : Met l yX8_isOperation (Cond.code yX8_isOperation cX8_isOperation 1 (some .boolean) :: gG) { frames := 1, cells := 0, slots := 0, locals := 64 } (cPre D [] [] sz [.int x0]) (vp_Si (fun r => 0 ≤ r.toInt ∧ r.toInt ≤ 1)) 0 0 (fun _ => False) := by
  refine Met.ofW (cc := cX8_isOperation) (maxL := 1) (ret := (some .boolean)) (by decide) rfl ?_
  intro p e s m args below meth c s₁ B hml hv
  obtain ⟨rfl, aks, rfl, Wd⟩ := k_enter hv
  have C : CallFix p m c cX8_isOperation 1 s _ gG RX8 := ⟨B.exec, B.bytes, hml, findClass_of_methodNamed B.named, fun w h => atoms_spec (ws := Cond.code yX8_isOperation cX8_isOperation 1 (some .boolean) :: gG) B.pre w (List.mem_cons_of_mem _ h)⟩
  have hr := B.returns
  have hlk := B.notSynchronized
  obtain ⟨A, Wd⟩ : ∃ A, wX D [] s [] s.heap A s.heap [] := ⟨_, Wd⟩
  refine k_locals (Nat.le_of_ble_eq_true rfl) [(0, .int x0)] rfl (fun ls hl => ?_)
  refine lv_iload_n C.1 C.2.1 dX8_isOperation_0 rfl (lv_at hl 0 rfl) ?_
  refine lv_bipush (v := 120) C.1 C.2.1 dX8_isOperation_1 (by decide) ?_
  refine k_cutA (fun (j17_S_0 : Int32) H locs ls => 0 ≤ j17_S_0.toInt ∧ j17_S_0.toInt ≤ 1 ∧ H = s.heap ∧ locs = [] ∧ wX D [] s [] H A s.heap locs ∧ lv_has ls 1 [(0, .int x0)]) (fun (j17_S_0 : Int32) ls => F0 m 17 ls [.int j17_S_0]) (fun j17_S_0 H locs ls hi => ?_) (fun J17 => ?_)
  · obtain ⟨i17_0, i17_1, rfl, rfl, Wd, hl⟩ := hi
    exact k_zretP C hr hlk (k_nb (by omega) (by omega)) (by exact ⟨by omega, by omega⟩) dX8_isOperation_17
  refine k_cutA (fun (_ : Unit) H locs ls => H = s.heap ∧ locs = [] ∧ wX D [] s [] H A s.heap locs ∧ lv_has ls 1 [(0, .int x0)]) (fun (_ : Unit) ls => F0 m 16 ls []) (fun _ H locs ls hi => ?_) (fun J16 => ?_)
  · obtain ⟨rfl, rfl, Wd, hl⟩ := hi
    refine lv_iconst (v := 0) C.1 C.2.1 dX8_isOperation_16 (by decide) ?_
    exact J17 0 _ _ _ ⟨by have zq0 : (0 : Int32).toInt = 0 := (by decide); omega, by have zq0 : (0 : Int32).toInt = 0 := (by decide); omega, rfl, rfl, Wd, lv_sub hl [0] rfl⟩
  refine lv_icmp_lt (tgt := 16) C.1 C.2.1 dX8_isOperation_3 (by decide) (fun c3 => ?_) (fun c3 => ?_)
  · have i3 : x0.toInt < 120 := kz_lt c3
    exact J16 () _ _ _ ⟨rfl, rfl, Wd, lv_sub hl [0] rfl⟩
  · have i3 : 120 ≤ x0.toInt := kz_nlt c3
    refine lv_iload_n C.1 C.2.1 dX8_isOperation_6 rfl (lv_at hl 0 rfl) ?_
    refine lv_bipush (v := 122) C.1 C.2.1 dX8_isOperation_7 (by decide) ?_
    refine lv_icmp_gt (tgt := 16) C.1 C.2.1 dX8_isOperation_9 (by decide) (fun c9 => ?_) (fun c9 => ?_)
    · have i9 : 122 < x0.toInt := kz_lt c9
      exact J16 () _ _ _ ⟨rfl, rfl, Wd, lv_sub hl [0] rfl⟩
    · have i9 : x0.toInt ≤ 122 := kz_nlt c9
      refine lv_iconst (v := 1) C.1 C.2.1 dX8_isOperation_12 (by decide) ?_
      refine lv_goto (tgt := 17) C.1 C.2.1 dX8_isOperation_13 (by decide) ?_
      exact J17 1 _ _ _ ⟨by have zq1 : (1 : Int32).toInt = 1 := (by decide); omega, by have zq1 : (1 : Int32).toInt = 1 := (by decide); omega, rfl, rfl, Wd, lv_sub hl [0] rfl⟩
set_option maxHeartbeats 4000000 in
set_option maxRecDepth 100000 in
theorem sX8_isExpression (l : Launch) (D : va_G) (x0 : Int32) (sz : Nat)   : Met l yX8_isExpression (Cond.code yX8_isExpression cX8_isExpression 1 (some .boolean) :: gG) { frames := 1, cells := 0, slots := 0, locals := 64 } (cPre D [] [] sz [.int x0]) (vp_Si (fun r => 0 ≤ r.toInt ∧ r.toInt ≤ 1)) 0 0 (fun _ => False) := by
  refine Met.ofW (cc := cX8_isExpression) (maxL := 1) (ret := (some .boolean)) (by decide) rfl ?_
  intro p e s m args below meth c s₁ B hml hv
  obtain ⟨rfl, aks, rfl, Wd⟩ := k_enter hv
  have C : CallFix p m c cX8_isExpression 1 s _ gG RX8 := ⟨B.exec, B.bytes, hml, findClass_of_methodNamed B.named, fun w h => atoms_spec (ws := Cond.code yX8_isExpression cX8_isExpression 1 (some .boolean) :: gG) B.pre w (List.mem_cons_of_mem _ h)⟩
  have hr := B.returns
  have hlk := B.notSynchronized
  obtain ⟨A, Wd⟩ : ∃ A, wX D [] s [] s.heap A s.heap [] := ⟨_, Wd⟩
  refine k_locals (Nat.le_of_ble_eq_true rfl) [(0, .int x0)] rfl (fun ls hl => ?_)
  refine lv_iload_n C.1 C.2.1 dX8_isExpression_0 rfl (lv_at hl 0 rfl) ?_
  refine k_cutA (fun (j39_S_0 : Int32) H locs ls => 0 ≤ j39_S_0.toInt ∧ j39_S_0.toInt ≤ 1 ∧ H = s.heap ∧ locs = [] ∧ wX D [] s [] H A s.heap locs ∧ lv_has ls 1 [(0, .int x0)]) (fun (j39_S_0 : Int32) ls => F0 m 39 ls [.int j39_S_0]) (fun j39_S_0 H locs ls hi => ?_) (fun J39 => ?_)
  · obtain ⟨i39_0, i39_1, rfl, rfl, Wd, hl⟩ := hi
    exact k_zretP C hr hlk (k_nb (by omega) (by omega)) (by exact ⟨by omega, by omega⟩) dX8_isExpression_39
  refine k_cutA (fun (_ : Unit) H locs ls => 0 ≤ x0.toInt ∧ x0.toInt ≤ 122 ∧ H = s.heap ∧ locs = [] ∧ wX D [] s [] H A s.heap locs ∧ lv_has ls 1 [(0, .int x0)]) (fun (_ : Unit) ls => F0 m 34 ls []) (fun _ H locs ls hi => ?_) (fun J34 => ?_)
  · obtain ⟨i34_0, i34_1, rfl, rfl, Wd, hl⟩ := hi
    refine lv_iconst (v := 1) C.1 C.2.1 dX8_isExpression_34 (by decide) ?_
    refine lv_goto (tgt := 39) C.1 C.2.1 dX8_isExpression_35 (by decide) ?_
    exact J39 1 _ _ _ ⟨by have zq1 : (1 : Int32).toInt = 1 := (by decide); omega, by have zq1 : (1 : Int32).toInt = 1 := (by decide); omega, rfl, rfl, Wd, lv_sub hl [0] rfl⟩
  refine k_cutA (fun (_ : Unit) H locs ls => H = s.heap ∧ locs = [] ∧ wX D [] s [] H A s.heap locs ∧ lv_has ls 1 [(0, .int x0)]) (fun (_ : Unit) ls => F0 m 10 ls []) (fun _ H locs ls hi => ?_) (fun J10 => ?_)
  · obtain ⟨rfl, rfl, Wd, hl⟩ := hi
    refine lv_iload_n C.1 C.2.1 dX8_isExpression_10 rfl (lv_at hl 0 rfl) ?_
    refine lv_bipush (v := 20) C.1 C.2.1 dX8_isExpression_11 (by decide) ?_
    refine k_cutA (fun (_ : Unit) H locs ls => H = s.heap ∧ locs = [] ∧ wX D [] s [] H A s.heap locs ∧ lv_has ls 1 [(0, .int x0)]) (fun (_ : Unit) ls => F0 m 22 ls []) (fun _ H locs ls hi => ?_) (fun J22 => ?_)
    · obtain ⟨rfl, rfl, Wd, hl⟩ := hi
      refine lv_iload_n C.1 C.2.1 dX8_isExpression_22 rfl (lv_at hl 0 rfl) ?_
      refine lv_bipush (v := 120) C.1 C.2.1 dX8_isExpression_23 (by decide) ?_
      refine k_cutA (fun (_ : Unit) H locs ls => H = s.heap ∧ locs = [] ∧ wX D [] s [] H A s.heap locs ∧ lv_has ls 1 [(0, .int x0)]) (fun (_ : Unit) ls => F0 m 38 ls []) (fun _ H locs ls hi => ?_) (fun J38 => ?_)
      · obtain ⟨rfl, rfl, Wd, hl⟩ := hi
        refine lv_iconst (v := 0) C.1 C.2.1 dX8_isExpression_38 (by decide) ?_
        exact J39 0 _ _ _ ⟨by have zq0 : (0 : Int32).toInt = 0 := (by decide); omega, by have zq0 : (0 : Int32).toInt = 0 := (by decide); omega, rfl, rfl, Wd, lv_sub hl [0] rfl⟩
      refine lv_icmp_lt (tgt := 38) C.1 C.2.1 dX8_isExpression_25 (by decide) (fun c25 => ?_) (fun c25 => ?_)
      · have i25 : x0.toInt < 120 := kz_lt c25
        exact J38 () _ _ _ ⟨rfl, rfl, Wd, lv_sub hl [0] rfl⟩
      · have i25 : 120 ≤ x0.toInt := kz_nlt c25
        refine lv_iload_n C.1 C.2.1 dX8_isExpression_28 rfl (lv_at hl 0 rfl) ?_
        refine lv_bipush (v := 122) C.1 C.2.1 dX8_isExpression_29 (by decide) ?_
        refine lv_icmp_gt (tgt := 38) C.1 C.2.1 dX8_isExpression_31 (by decide) (fun c31 => ?_) (fun c31 => ?_)
        · have i31 : 122 < x0.toInt := kz_lt c31
          exact J38 () _ _ _ ⟨rfl, rfl, Wd, lv_sub hl [0] rfl⟩
        · have i31 : x0.toInt ≤ 122 := kz_nlt c31
          exact J34 () _ _ _ ⟨by omega, by omega, rfl, rfl, Wd, lv_sub hl [0] rfl⟩
    refine lv_icmp_lt (tgt := 22) C.1 C.2.1 dX8_isExpression_13 (by decide) (fun c13 => ?_) (fun c13 => ?_)
    · have i13 : x0.toInt < 20 := kz_lt c13
      exact J22 () _ _ _ ⟨rfl, rfl, Wd, lv_sub hl [0] rfl⟩
    · have i13 : 20 ≤ x0.toInt := kz_nlt c13
      refine lv_iload_n C.1 C.2.1 dX8_isExpression_16 rfl (lv_at hl 0 rfl) ?_
      refine lv_bipush (v := 26) C.1 C.2.1 dX8_isExpression_17 (by decide) ?_
      refine lv_icmp_lt (tgt := 34) C.1 C.2.1 dX8_isExpression_19 (by decide) (fun c19 => ?_) (fun c19 => ?_)
      · have i19 : x0.toInt < 26 := kz_lt c19
        exact J34 () _ _ _ ⟨by omega, by omega, rfl, rfl, Wd, lv_sub hl [0] rfl⟩
      · have i19 : 26 ≤ x0.toInt := kz_nlt c19
        exact J22 () _ _ _ ⟨rfl, rfl, Wd, lv_sub hl [0] rfl⟩
  refine lv_if_lt (tgt := 10) C.1 C.2.1 dX8_isExpression_1 (by decide) (fun c1 => ?_) (fun c1 => ?_)
  · have i1 : x0.toInt < 0 := kz_lt c1
    exact J10 () _ _ _ ⟨rfl, rfl, Wd, lv_sub hl [0] rfl⟩
  · have i1 : 0 ≤ x0.toInt := kz_nlt c1
    refine lv_iload_n C.1 C.2.1 dX8_isExpression_4 rfl (lv_at hl 0 rfl) ?_
    refine lv_bipush (v := 16) C.1 C.2.1 dX8_isExpression_5 (by decide) ?_
    refine lv_icmp_lt (tgt := 34) C.1 C.2.1 dX8_isExpression_7 (by decide) (fun c7 => ?_) (fun c7 => ?_)
    · have i7 : x0.toInt < 16 := kz_lt c7
      exact J34 () _ _ _ ⟨by omega, by omega, rfl, rfl, Wd, lv_sub hl [0] rfl⟩
    · have i7 : 16 ≤ x0.toInt := kz_nlt c7
      exact J10 () _ _ _ ⟨rfl, rfl, Wd, lv_sub hl [0] rfl⟩
set_option maxHeartbeats 4000000 in
set_option maxRecDepth 100000 in
theorem sX8_result (l : Launch) (D : va_G) (x0 : Int32) (x1 : Int32) (x2 : Int32) (sz : Nat)   : Met l yX8_result (Cond.code yX8_result cX8_result 4 (some .int) :: gG) { frames := 1, cells := 0, slots := 0, locals := 64 } (cPre D [] [] sz [.int x0, .int x1, .int x2]) (vp_Si (fun r => True)) 0 0 (fun _ => False) := by
  refine Met.ofW (cc := cX8_result) (maxL := 4) (ret := (some .int)) (by decide) rfl ?_
  intro p e s m args below meth c s₁ B hml hv
  obtain ⟨rfl, aks, rfl, Wd⟩ := k_enter hv
  have C : CallFix p m c cX8_result 4 s _ gG RX8 := ⟨B.exec, B.bytes, hml, findClass_of_methodNamed B.named, fun w h => atoms_spec (ws := Cond.code yX8_result cX8_result 4 (some .int) :: gG) B.pre w (List.mem_cons_of_mem _ h)⟩
  have hr := B.returns
  have hlk := B.notSynchronized
  obtain ⟨A, Wd⟩ : ∃ A, wX D [] s [] s.heap A s.heap [] := ⟨_, Wd⟩
  refine k_locals (Nat.le_of_ble_eq_true rfl) [(0, .int x0), (1, .int x1), (2, .int x2)] rfl (fun ls hl => ?_)
  refine lv_iload_n C.1 C.2.1 dX8_result_0 rfl (lv_at hl 0 rfl) ?_
  refine lv_bipush (v := 120) C.1 C.2.1 dX8_result_1 (by decide) ?_
  refine k_cutA (fun (j27_S_0 : Int32) H locs ls => H = s.heap ∧ locs = [] ∧ wX D [] s [] H A s.heap locs ∧ lv_has ls 4 [(0, .int x0), (1, .int x1), (2, .int x2)]) (fun (j27_S_0 : Int32) ls => F0 m 27 ls [.int j27_S_0]) (fun j27_S_0 H locs ls hi => ?_) (fun J27 => ?_)
  · obtain ⟨rfl, rfl, Wd, hl⟩ := hi
    refine lv_istore_n (lv' := [(3, .int j27_S_0), (0, .int x0), (1, .int x1), (2, .int x2)]) C.1 C.2.1 dX8_result_27 rfl hl (by decide) rfl (fun ls hl => ?_)
    refine lv_iload_n C.1 C.2.1 dX8_result_28 rfl (lv_at hl 0 rfl) ?_
    refine lv_bipush (v := 15) C.1 C.2.1 dX8_result_29 (by decide) ?_
    obtain ⟨v31, ev31⟩ : ∃ z : Int32, j27_S_0 &&& 15 = z := ⟨_, rfl⟩
    refine k_iand (v := v31) C ev31 dX8_result_31 ?_
    exact k_zretP C hr hlk rfl trivial dX8_result_32
  refine lv_icmp_ne (tgt := 12) C.1 C.2.1 dX8_result_3 (by decide) (fun c3 => ?_) (fun c3 => ?_)
  · have i3 : ¬ x0.toInt = 120 := kz_ne c3
    refine lv_iload_n C.1 C.2.1 dX8_result_12 rfl (lv_at hl 0 rfl) ?_
    refine lv_bipush (v := 121) C.1 C.2.1 dX8_result_13 (by decide) ?_
    refine lv_icmp_ne (tgt := 24) C.1 C.2.1 dX8_result_15 (by decide) (fun c15 => ?_) (fun c15 => ?_)
    · have i15 : ¬ x0.toInt = 121 := kz_ne c15
      refine lv_iload_n C.1 C.2.1 dX8_result_24 rfl (lv_at hl 1 rfl) ?_
      refine lv_iload_n C.1 C.2.1 dX8_result_25 rfl (lv_at hl 2 rfl) ?_
      obtain ⟨v26, ev26⟩ : ∃ z : Int32, x1 * x2 = z := ⟨_, rfl⟩
      refine k_imul (v := v26) C ev26 dX8_result_26 ?_
      exact J27 v26 _ _ _ ⟨rfl, rfl, Wd, lv_sub hl [0, 1, 2] rfl⟩
    · have i15 : x0.toInt = 121 := kz_eq c15
      refine lv_iload_n C.1 C.2.1 dX8_result_18 rfl (lv_at hl 1 rfl) ?_
      refine lv_iload_n C.1 C.2.1 dX8_result_19 rfl (lv_at hl 2 rfl) ?_
      obtain ⟨v20, ev20⟩ : ∃ z : Int32, x1 - x2 = z := ⟨_, rfl⟩
      refine k_isub (v := v20) C ev20 dX8_result_20 ?_
      refine lv_goto (tgt := 27) C.1 C.2.1 dX8_result_21 (by decide) ?_
      exact J27 v20 _ _ _ ⟨rfl, rfl, Wd, lv_sub hl [0, 1, 2] rfl⟩
  · have i3 : x0.toInt = 120 := kz_eq c3
    refine lv_iload_n C.1 C.2.1 dX8_result_6 rfl (lv_at hl 1 rfl) ?_
    refine lv_iload_n C.1 C.2.1 dX8_result_7 rfl (lv_at hl 2 rfl) ?_
    obtain ⟨v8, ev8⟩ : ∃ z : Int32, x1 + x2 = z := ⟨_, rfl⟩
    refine k_iadd (v := v8) C ev8 dX8_result_8 ?_
    refine lv_goto (tgt := 27) C.1 C.2.1 dX8_result_9 (by decide) ?_
    exact J27 v8 _ _ _ ⟨rfl, rfl, Wd, lv_sub hl [0, 1, 2] rfl⟩
set_option maxHeartbeats 4000000 in
set_option maxRecDepth 100000 in
theorem sX8_holds (l : Launch) (D : va_G) (x0 : Int32) (x1 : Int32) (x2 : Int32) (sz : Nat)   : Met l yX8_holds (Cond.code yX8_holds cX8_holds 3 (some .boolean) :: gG) { frames := 1, cells := 0, slots := 0, locals := 64 } (cPre D [] [] sz [.int x0, .int x1, .int x2]) (vp_Si (fun r => 0 ≤ r.toInt ∧ r.toInt ≤ 1)) 0 0 (fun _ => False) := by
  refine Met.ofW (cc := cX8_holds) (maxL := 3) (ret := (some .boolean)) (by decide) rfl ?_
  intro p e s m args below meth c s₁ B hml hv
  obtain ⟨rfl, aks, rfl, Wd⟩ := k_enter hv
  have C : CallFix p m c cX8_holds 3 s _ gG RX8 := ⟨B.exec, B.bytes, hml, findClass_of_methodNamed B.named, fun w h => atoms_spec (ws := Cond.code yX8_holds cX8_holds 3 (some .boolean) :: gG) B.pre w (List.mem_cons_of_mem _ h)⟩
  have hr := B.returns
  have hlk := B.notSynchronized
  obtain ⟨A, Wd⟩ : ∃ A, wX D [] s [] s.heap A s.heap [] := ⟨_, Wd⟩
  refine k_locals (Nat.le_of_ble_eq_true rfl) [(0, .int x0), (1, .int x1), (2, .int x2)] rfl (fun ls hl => ?_)
  refine lv_iload_n C.1 C.2.1 dX8_holds_0 rfl (lv_at hl 0 rfl) ?_
  refine lv_sipush (v := 130) C.1 C.2.1 dX8_holds_1 (by decide) ?_
  refine k_cutA (fun (j50_S_0 : Int32) H locs ls => 0 ≤ j50_S_0.toInt ∧ j50_S_0.toInt ≤ 1 ∧ H = s.heap ∧ locs = [] ∧ wX D [] s [] H A s.heap locs ∧ lv_has ls 3 [(0, .int x0), (1, .int x1), (2, .int x2)]) (fun (j50_S_0 : Int32) ls => F0 m 50 ls [.int j50_S_0]) (fun j50_S_0 H locs ls hi => ?_) (fun J50 => ?_)
  · obtain ⟨i50_0, i50_1, rfl, rfl, Wd, hl⟩ := hi
    exact k_zretP C hr hlk (k_nb (by omega) (by omega)) (by exact ⟨by omega, by omega⟩) dX8_holds_50
  refine lv_icmp_ne (tgt := 20) C.1 C.2.1 dX8_holds_4 (by decide) (fun c4 => ?_) (fun c4 => ?_)
  · have i4 : ¬ x0.toInt = 130 := kz_ne c4
    refine lv_iload_n C.1 C.2.1 dX8_holds_20 rfl (lv_at hl 0 rfl) ?_
    refine lv_sipush (v := 131) C.1 C.2.1 dX8_holds_21 (by decide) ?_
    refine lv_icmp_ne (tgt := 40) C.1 C.2.1 dX8_holds_24 (by decide) (fun c24 => ?_) (fun c24 => ?_)
    · have i24 : ¬ x0.toInt = 131 := kz_ne c24
      refine lv_iload_n C.1 C.2.1 dX8_holds_40 rfl (lv_at hl 1 rfl) ?_
      refine lv_iload_n C.1 C.2.1 dX8_holds_41 rfl (lv_at hl 2 rfl) ?_
      refine lv_icmp_le (tgt := 49) C.1 C.2.1 dX8_holds_42 (by decide) (fun c42 => ?_) (fun c42 => ?_)
      · have i42 : x1.toInt ≤ x2.toInt := kz_le c42
        refine lv_iconst (v := 0) C.1 C.2.1 dX8_holds_49 (by decide) ?_
        exact J50 0 _ _ _ ⟨by have zq0 : (0 : Int32).toInt = 0 := (by decide); omega, by have zq0 : (0 : Int32).toInt = 0 := (by decide); omega, rfl, rfl, Wd, lv_sub hl [0, 1, 2] rfl⟩
      · have i42 : x2.toInt < x1.toInt := kz_nle c42
        refine lv_iconst (v := 1) C.1 C.2.1 dX8_holds_45 (by decide) ?_
        refine lv_goto (tgt := 50) C.1 C.2.1 dX8_holds_46 (by decide) ?_
        exact J50 1 _ _ _ ⟨by have zq1 : (1 : Int32).toInt = 1 := (by decide); omega, by have zq1 : (1 : Int32).toInt = 1 := (by decide); omega, rfl, rfl, Wd, lv_sub hl [0, 1, 2] rfl⟩
    · have i24 : x0.toInt = 131 := kz_eq c24
      refine lv_iload_n C.1 C.2.1 dX8_holds_27 rfl (lv_at hl 1 rfl) ?_
      refine lv_iload_n C.1 C.2.1 dX8_holds_28 rfl (lv_at hl 2 rfl) ?_
      refine lv_icmp_ne (tgt := 36) C.1 C.2.1 dX8_holds_29 (by decide) (fun c29 => ?_) (fun c29 => ?_)
      · have i29 : ¬ x1.toInt = x2.toInt := kz_ne c29
        refine lv_iconst (v := 0) C.1 C.2.1 dX8_holds_36 (by decide) ?_
        refine lv_goto (tgt := 50) C.1 C.2.1 dX8_holds_37 (by decide) ?_
        exact J50 0 _ _ _ ⟨by have zq0 : (0 : Int32).toInt = 0 := (by decide); omega, by have zq0 : (0 : Int32).toInt = 0 := (by decide); omega, rfl, rfl, Wd, lv_sub hl [0, 1, 2] rfl⟩
      · have i29 : x1.toInt = x2.toInt := kz_eq c29
        refine lv_iconst (v := 1) C.1 C.2.1 dX8_holds_32 (by decide) ?_
        refine lv_goto (tgt := 50) C.1 C.2.1 dX8_holds_33 (by decide) ?_
        exact J50 1 _ _ _ ⟨by have zq1 : (1 : Int32).toInt = 1 := (by decide); omega, by have zq1 : (1 : Int32).toInt = 1 := (by decide); omega, rfl, rfl, Wd, lv_sub hl [0, 1, 2] rfl⟩
  · have i4 : x0.toInt = 130 := kz_eq c4
    refine lv_iload_n C.1 C.2.1 dX8_holds_7 rfl (lv_at hl 1 rfl) ?_
    refine lv_iload_n C.1 C.2.1 dX8_holds_8 rfl (lv_at hl 2 rfl) ?_
    refine lv_icmp_ge (tgt := 16) C.1 C.2.1 dX8_holds_9 (by decide) (fun c9 => ?_) (fun c9 => ?_)
    · have i9 : x2.toInt ≤ x1.toInt := kz_le c9
      refine lv_iconst (v := 0) C.1 C.2.1 dX8_holds_16 (by decide) ?_
      refine lv_goto (tgt := 50) C.1 C.2.1 dX8_holds_17 (by decide) ?_
      exact J50 0 _ _ _ ⟨by have zq0 : (0 : Int32).toInt = 0 := (by decide); omega, by have zq0 : (0 : Int32).toInt = 0 := (by decide); omega, rfl, rfl, Wd, lv_sub hl [0, 1, 2] rfl⟩
    · have i9 : x1.toInt < x2.toInt := kz_nle c9
      refine lv_iconst (v := 1) C.1 C.2.1 dX8_holds_12 (by decide) ?_
      refine lv_goto (tgt := 50) C.1 C.2.1 dX8_holds_13 (by decide) ?_
      exact J50 1 _ _ _ ⟨by have zq1 : (1 : Int32).toInt = 1 := (by decide); omega, by have zq1 : (1 : Int32).toInt = 1 := (by decide); omega, rfl, rfl, Wd, lv_sub hl [0, 1, 2] rfl⟩
set_option maxHeartbeats 4000000 in
set_option maxRecDepth 100000 in
theorem sX8_cell (l : Launch) (D : va_G) (h : Nat) (x0 : Int32) (h_0 : Nat) (h_1 : Int32) (n_h_0 : Nat) (a_h_0 : ClassId) (f_h_0 : Nat → Int32) (sz : Nat) (k_h_1_lo : 0 ≤ h_1.toInt) (k_n_h_0 : n_h_0 ≤ 1000) (k_p_h_0 : 1 ≤ n_h_0) (k_h_1_hi : h_1.toInt ≤ (n_h_0 : Int))  : Met l yX8_cell (Cond.code yX8_cell cX8_cell 2 (some .int) :: gG) { frames := 1, cells := 0, slots := 0, locals := 64 } (cPre D [(a_h_0, .int)] [(h, .inr (8, [.ref h_0, .int h_1])), (h_0, .inl (a_h_0, n_h_0, .inl f_h_0))] sz [.ref h, .int x0]) (vp_Si (fun r => True)) 0 0 (fun _ => False) := by
  refine Met.ofW (cc := cX8_cell) (maxL := 2) (ret := (some .int)) (by decide) rfl ?_
  intro p e s m args below meth c s₁ B hml hv
  obtain ⟨rfl, aks, rfl, Wd⟩ := k_enter hv
  have C : CallFix p m c cX8_cell 2 s _ gG RX8 := ⟨B.exec, B.bytes, hml, findClass_of_methodNamed B.named, fun w h => atoms_spec (ws := Cond.code yX8_cell cX8_cell 2 (some .int) :: gG) B.pre w (List.mem_cons_of_mem _ h)⟩
  have hr := B.returns
  have hlk := B.notSynchronized
  obtain ⟨A, Wd⟩ : ∃ A, wX D [(a_h_0, .int)] s [(h, .inr (8, [.ref h_0, .int h_1])), (h_0, .inl (a_h_0, n_h_0, .inl f_h_0))] s.heap A s.heap [] := ⟨_, Wd⟩
  refine k_locals (Nat.le_of_ble_eq_true rfl) [(0, .ref h), (1, .int x0)] rfl (fun ls hl => ?_)
  refine lv_iload_n C.1 C.2.1 dX8_cell_0 rfl (lv_at hl 1 rfl) ?_
  refine k_cutA (fun (j22_S_0 : Int32) H locs ls => H = s.heap ∧ locs = [] ∧ wX D [(a_h_0, .int)] s [(h, .inr (8, [.ref h_0, .int h_1])), (h_0, .inl (a_h_0, n_h_0, .inl f_h_0))] H A s.heap locs ∧ lv_has ls 2 [(0, .ref h), (1, .int x0)]) (fun (j22_S_0 : Int32) ls => F0 m 22 ls [.int j22_S_0]) (fun j22_S_0 H locs ls hi => ?_) (fun J22 => ?_)
  · obtain ⟨rfl, rfl, Wd, hl⟩ := hi
    exact k_zretP C hr hlk rfl trivial dX8_cell_22
  refine k_cutA (fun (_ : Unit) H locs ls => H = s.heap ∧ locs = [] ∧ wX D [(a_h_0, .int)] s [(h, .inr (8, [.ref h_0, .int h_1])), (h_0, .inl (a_h_0, n_h_0, .inl f_h_0))] H A s.heap locs ∧ lv_has ls 2 [(0, .ref h), (1, .int x0)]) (fun (_ : Unit) ls => F0 m 21 ls []) (fun _ H locs ls hi => ?_) (fun J21 => ?_)
  · obtain ⟨rfl, rfl, Wd, hl⟩ := hi
    refine lv_iconst (v := (-1)) C.1 C.2.1 dX8_cell_21 (by decide) ?_
    exact J22 (-1) _ _ _ ⟨rfl, rfl, Wd, lv_sub hl [0, 1] rfl⟩
  refine lv_if_lt (tgt := 21) C.1 C.2.1 dX8_cell_1 (by decide) (fun c1 => ?_) (fun c1 => ?_)
  · have i1 : x0.toInt < 0 := kz_lt c1
    exact J21 () _ _ _ ⟨rfl, rfl, Wd, lv_sub hl [0, 1] rfl⟩
  · have i1 : 0 ≤ x0.toInt := kz_nlt c1
    refine lv_iload_n C.1 C.2.1 dX8_cell_4 rfl (lv_at hl 1 rfl) ?_
    refine lv_aload_n C.1 C.2.1 dX8_cell_5 rfl (lv_at hl 0 rfl) ?_
    refine k_get C Wd KX8 0 1 rfl (by decide) fl_X8_21 rfl dX8_cell_6 ?_
    refine lv_icmp_ge (tgt := 21) C.1 C.2.1 dX8_cell_9 (by decide) (fun c9 => ?_) (fun c9 => ?_)
    · have i9 : h_1.toInt ≤ x0.toInt := kz_le c9
      exact J21 () _ _ _ ⟨rfl, rfl, Wd, lv_sub hl [0, 1] rfl⟩
    · have i9 : x0.toInt < h_1.toInt := kz_nle c9
      refine lv_aload_n C.1 C.2.1 dX8_cell_12 rfl (lv_at hl 0 rfl) ?_
      refine k_get C Wd KX8 0 0 rfl (by decide) fl_X8_15 rfl dX8_cell_13 ?_
      refine lv_iload_n C.1 C.2.1 dX8_cell_16 rfl (lv_at hl 1 rfl) ?_
      obtain ⟨v17, ev17⟩ : ∃ z : Int32, f_h_0 x0.toNatClampNeg = z := ⟨_, rfl⟩
      refine k_iald (v := v17) C Wd 1 0 rfl rfl (vp_in_iff.mpr ⟨by omega, by omega⟩) ev17 dX8_cell_17 ?_
      refine lv_goto (tgt := 22) C.1 C.2.1 dX8_cell_18 (by decide) ?_
      exact J22 v17 _ _ _ ⟨rfl, rfl, Wd, lv_sub hl [0, 1] rfl⟩
set_option maxHeartbeats 4000000 in
set_option maxRecDepth 100000 in
theorem sX8_change (l : Launch) (D : va_G) (h : Nat) (x0 : Int32) (x1 : Int32) (h_0 : Nat) (h_1 : Int32) (n_h_0 : Nat) (a_h_0 : ClassId) (f_h_0 : Nat → Int32) (sz : Nat) (k_h_1_lo : 0 ≤ h_1.toInt) (k_n_h_0 : n_h_0 ≤ 1000) (k_p_h_0 : 1 ≤ n_h_0) (k_h_1_hi : h_1.toInt ≤ (n_h_0 : Int))  : Met l yX8_change (Cond.code yX8_change cX8_change 3 none :: gG) { frames := 1, cells := 0, slots := 0, locals := 64 } (cPre D [(a_h_0, .int)] [(h, .inr (8, [.ref h_0, .int h_1])), (h_0, .inl (a_h_0, n_h_0, .inl f_h_0))] sz [.ref h, .int x0, .int x1]) (va_Qv (fun (jX_C_h_0 : Nat → Int32) => True) (fun u t => cB D (va_A [(h, .inr (8, [.ref h_0, .int h_1])), (h_0, .inl (a_h_0, n_h_0, .inl f_h_0))] sz) ((fun (_ : (Nat → Int32)) => ([] : List (ClassId × FieldType))) u) ((fun (jX_C_h_0 : Nat → Int32) => ([(h, .inr (8, [.ref h_0, .int h_1])), (h_0, .inl (a_h_0, n_h_0, .inl jX_C_h_0))] : va_W)) u) t) (va_A [(h, .inr (8, [.ref h_0, .int h_1])), (h_0, .inl (a_h_0, n_h_0, .inl f_h_0))] sz)) 0 0 (va_A [(h, .inr (8, [.ref h_0, .int h_1])), (h_0, .inl (a_h_0, n_h_0, .inl f_h_0))] sz) := by
  refine Met.ofW (cc := cX8_change) (maxL := 3) (ret := none) (by decide) rfl ?_
  intro p e s m args below meth c s₁ B hml hv
  obtain ⟨rfl, aks, rfl, Wd⟩ := k_enter hv
  have C : CallFix p m c cX8_change 3 s _ gG RX8 := ⟨B.exec, B.bytes, hml, findClass_of_methodNamed B.named, fun w h => atoms_spec (ws := Cond.code yX8_change cX8_change 3 none :: gG) B.pre w (List.mem_cons_of_mem _ h)⟩
  have hr := B.returns
  have hlk := B.notSynchronized
  generalize va_A [(h, .inr (8, [.ref h_0, .int h_1])), (h_0, .inl (a_h_0, n_h_0, .inl f_h_0))] s.heap.size = A at Wd ⊢
  refine k_locals (Nat.le_of_ble_eq_true rfl) [(0, .ref h), (1, .int x0), (2, .int x1)] rfl (fun ls hl => ?_)
  refine lv_iload_n C.1 C.2.1 dX8_change_0 rfl (lv_at hl 1 rfl) ?_
  refine k_cutA (fun (j19_C_h_0 : Nat → Int32) H locs ls => wX D [(a_h_0, .int)] s [(h, .inr (8, [.ref h_0, .int h_1])), (h_0, .inl (a_h_0, n_h_0, .inl j19_C_h_0))] H A s.heap locs ∧ lv_has ls 3 [(0, .ref h), (1, .int x0), (2, .int x1)]) (fun (j19_C_h_0 : Nat → Int32) ls => F0 m 19 ls []) (fun j19_C_h_0 H locs ls hi => ?_) (fun J19 => ?_)
  · obtain ⟨Wd, hl⟩ := hi
    exact k_vret C hr hlk Wd j19_C_h_0 trivial [0, 1] rfl (by decide) [] rfl (by decide) (by decide) dX8_change_19
  refine lv_if_lt (tgt := 19) C.1 C.2.1 dX8_change_1 (by decide) (fun c1 => ?_) (fun c1 => ?_)
  · have i1 : x0.toInt < 0 := kz_lt c1
    exact J19 f_h_0 _ _ _ ⟨Wd, lv_sub hl [0, 1, 2] rfl⟩
  · have i1 : 0 ≤ x0.toInt := kz_nlt c1
    refine lv_iload_n C.1 C.2.1 dX8_change_4 rfl (lv_at hl 1 rfl) ?_
    refine lv_aload_n C.1 C.2.1 dX8_change_5 rfl (lv_at hl 0 rfl) ?_
    refine k_get C Wd KX8 0 1 rfl (by decide) fl_X8_21 rfl dX8_change_6 ?_
    refine lv_icmp_ge (tgt := 19) C.1 C.2.1 dX8_change_9 (by decide) (fun c9 => ?_) (fun c9 => ?_)
    · have i9 : h_1.toInt ≤ x0.toInt := kz_le c9
      exact J19 f_h_0 _ _ _ ⟨Wd, lv_sub hl [0, 1, 2] rfl⟩
    · have i9 : x0.toInt < h_1.toInt := kz_nle c9
      refine lv_aload_n C.1 C.2.1 dX8_change_12 rfl (lv_at hl 0 rfl) ?_
      refine k_get C Wd KX8 0 0 rfl (by decide) fl_X8_15 rfl dX8_change_13 ?_
      refine lv_iload_n C.1 C.2.1 dX8_change_16 rfl (lv_at hl 1 rfl) ?_
      refine lv_iload_n C.1 C.2.1 dX8_change_17 rfl (lv_at hl 2 rfl) ?_
      obtain ⟨f18, ef18⟩ : ∃ z : Nat → Int32, upd f_h_0 x0.toNatClampNeg x1 = z := ⟨_, rfl⟩
      refine k_iast C Wd 1 0 [(h, .inr (8, [.ref h_0, .int h_1])), (h_0, .inl (a_h_0, n_h_0, .inl f18))] rfl rfl (vp_in_iff.mpr ⟨by omega, by omega⟩) ef18 rfl dX8_change_18 (fun H locs Wd => ?_)
      exact J19 f18 _ _ _ ⟨Wd, lv_sub hl [0, 1, 2] rfl⟩
set_option maxHeartbeats 4000000 in
set_option maxRecDepth 100000 in
theorem sX8_add (l : Launch) (D : va_G) (h : Nat) (x0 : Int32) (h_0 : Nat) (h_1 : Int32) (n_h_0 : Nat) (a_h_0 : ClassId) (f_h_0 : Nat → Int32) (sz : Nat) (k_h_1_lo : 0 ≤ h_1.toInt) (k_n_h_0 : n_h_0 ≤ 1000) (k_p_h_0 : 1 ≤ n_h_0) (k_h_1_hi : h_1.toInt ≤ (n_h_0 : Int))  : Met l yX8_add (Cond.code yX8_add cX8_add 2 none :: gG) { frames := 1, cells := 0, slots := 0, locals := 64 } (cPre D [(a_h_0, .int)] [(h, .inr (8, [.ref h_0, .int h_1])), (h_0, .inl (a_h_0, n_h_0, .inl f_h_0))] sz [.ref h, .int x0]) (va_Qv (fun (u : (Int32) × (Nat → Int32)) => match u with | (jX_F_h_1, jX_C_h_0) => 1 ≤ jX_F_h_1.toInt ∧ jX_F_h_1.toInt ≤ 1000 ∧ h_1.toInt ≤ jX_F_h_1.toInt ∧ jX_F_h_1.toInt ≤ (n_h_0 : Int) ∧ jX_F_h_1.toInt ≤ h_1.toInt + 1) (fun u t => cB D (va_A [(h, .inr (8, [.ref h_0, .int h_1])), (h_0, .inl (a_h_0, n_h_0, .inl f_h_0))] sz) ((fun (_ : (Int32) × (Nat → Int32)) => ([] : List (ClassId × FieldType))) u) ((fun (u : (Int32) × (Nat → Int32)) => match u with | (jX_F_h_1, jX_C_h_0) => ([(h, .inr (8, [.ref h_0, .int jX_F_h_1])), (h_0, .inl (a_h_0, n_h_0, .inl jX_C_h_0))] : va_W)) u) t) (va_A [(h, .inr (8, [.ref h_0, .int h_1])), (h_0, .inl (a_h_0, n_h_0, .inl f_h_0))] sz)) 0 0 (va_A [(h, .inr (8, [.ref h_0, .int h_1])), (h_0, .inl (a_h_0, n_h_0, .inl f_h_0))] sz) := by
  refine Met.ofW (cc := cX8_add) (maxL := 2) (ret := none) (by decide) rfl ?_
  intro p e s m args below meth c s₁ B hml hv
  obtain ⟨rfl, aks, rfl, Wd⟩ := k_enter hv
  have C : CallFix p m c cX8_add 2 s _ gG RX8 := ⟨B.exec, B.bytes, hml, findClass_of_methodNamed B.named, fun w h => atoms_spec (ws := Cond.code yX8_add cX8_add 2 none :: gG) B.pre w (List.mem_cons_of_mem _ h)⟩
  have hr := B.returns
  have hlk := B.notSynchronized
  generalize va_A [(h, .inr (8, [.ref h_0, .int h_1])), (h_0, .inl (a_h_0, n_h_0, .inl f_h_0))] s.heap.size = A at Wd ⊢
  refine k_locals (Nat.le_of_ble_eq_true rfl) [(0, .ref h), (1, .int x0)] rfl (fun ls hl => ?_)
  refine lv_aload_n C.1 C.2.1 dX8_add_0 rfl (lv_at hl 0 rfl) ?_
  refine k_get C Wd KX8 0 1 rfl (by decide) fl_X8_21 rfl dX8_add_1 ?_
  refine lv_aload_n C.1 C.2.1 dX8_add_4 rfl (lv_at hl 0 rfl) ?_
  refine k_get C Wd KX8 0 0 rfl (by decide) fl_X8_15 rfl dX8_add_5 ?_
  obtain ⟨v8, ev8⟩ : ∃ z : Int32, Int32.ofNat n_h_0 = z := ⟨_, rfl⟩
  have iv8 : v8.toInt = (n_h_0 : Int) := kz_len ev8 (by omega)
  refine k_alen (v := v8) C Wd 1 0 rfl rfl ev8 dX8_add_8 ?_
  refine k_cutA (fun (u : (Int32) × (Nat → Int32)) H locs ls => match u with | (j32_F_h_1, j32_C_h_0) => 1 ≤ j32_F_h_1.toInt ∧ j32_F_h_1.toInt ≤ 1000 ∧ h_1.toInt ≤ j32_F_h_1.toInt ∧ j32_F_h_1.toInt ≤ (n_h_0 : Int) ∧ j32_F_h_1.toInt ≤ h_1.toInt + 1 ∧ wX D [(a_h_0, .int)] s [(h, .inr (8, [.ref h_0, .int j32_F_h_1])), (h_0, .inl (a_h_0, n_h_0, .inl j32_C_h_0))] H A s.heap locs ∧ lv_has ls 2 [(0, .ref h), (1, .int x0)]) (fun (u : (Int32) × (Nat → Int32)) ls => match u with | (j32_F_h_1, j32_C_h_0) => F0 m 32 ls []) (fun u H locs ls hi => ?_) (fun J32 => ?_)
  · obtain ⟨j32_F_h_1, j32_C_h_0⟩ := u
    obtain ⟨i32_0, i32_1, i32_2, i32_3, i32_4, Wd, hl⟩ := hi
    exact k_vret C hr hlk Wd (j32_F_h_1, j32_C_h_0) (by exact ⟨by omega, by omega, by omega, by omega, by omega⟩) [0, 1] rfl (by decide) [] rfl (by decide) (by decide) dX8_add_32
  refine lv_icmp_ge (tgt := 32) C.1 C.2.1 dX8_add_9 (by decide) (fun c9 => ?_) (fun c9 => ?_)
  · have i9 : v8.toInt ≤ h_1.toInt := kz_le c9
    exact J32 (h_1, f_h_0) _ _ _ ⟨by omega, by omega, by omega, by omega, by omega, Wd, lv_sub hl [0, 1] rfl⟩
  · have i9 : h_1.toInt < v8.toInt := kz_nle c9
    refine lv_aload_n C.1 C.2.1 dX8_add_12 rfl (lv_at hl 0 rfl) ?_
    refine k_get C Wd KX8 0 0 rfl (by decide) fl_X8_15 rfl dX8_add_13 ?_
    refine lv_aload_n C.1 C.2.1 dX8_add_16 rfl (lv_at hl 0 rfl) ?_
    refine k_get C Wd KX8 0 1 rfl (by decide) fl_X8_21 rfl dX8_add_17 ?_
    refine lv_iload_n C.1 C.2.1 dX8_add_20 rfl (lv_at hl 1 rfl) ?_
    obtain ⟨f21, ef21⟩ : ∃ z : Nat → Int32, upd f_h_0 h_1.toNatClampNeg x0 = z := ⟨_, rfl⟩
    refine k_iast C Wd 1 0 [(h, .inr (8, [.ref h_0, .int h_1])), (h_0, .inl (a_h_0, n_h_0, .inl f21))] rfl rfl (vp_in_iff.mpr ⟨by omega, by omega⟩) ef21 rfl dX8_add_21 (fun H locs Wd => ?_)
    refine lv_aload_n C.1 C.2.1 dX8_add_22 rfl (lv_at hl 0 rfl) ?_
    refine lv_dup C.1 C.2.1 dX8_add_23 rfl ?_
    refine k_get C Wd KX8 0 1 rfl (by decide) fl_X8_21 rfl dX8_add_24 ?_
    refine lv_iconst (v := 1) C.1 C.2.1 dX8_add_27 (by decide) ?_
    obtain ⟨v28, ev28⟩ : ∃ z : Int32, h_1 + 1 = z := ⟨_, rfl⟩
    have iv28 : v28.toInt = h_1.toInt + 1 := kz_addc ev28 (by decide) (by have zr0 := kz_rng h_1; omega) (by have zr0 := kz_rng h_1; omega)
    refine k_iadd (v := v28) C ev28 dX8_add_28 ?_
    refine k_put C Wd KX8 0 1 [(h, .inr (8, [.ref h_0, .int v28])), (h_0, .inl (a_h_0, n_h_0, .inl f21))] rfl (by decide) fl_X8_21 rfl rfl rfl (Nat.le_of_ble_eq_true rfl) rfl dX8_add_29 (fun H locs Wd => ?_)
    exact J32 (v28, f21) _ _ _ ⟨by omega, by omega, by omega, by omega, by omega, Wd, lv_sub hl [0, 1] rfl⟩
set_option maxHeartbeats 4000000 in
set_option maxRecDepth 100000 in
theorem sX8_insert (l : Launch) (D : va_G) (h : Nat) (x0 : Int32) (x1 : Int32) (h_0 : Nat) (h_1 : Int32) (n_h_0 : Nat) (a_h_0 : ClassId) (f_h_0 : Nat → Int32) (sz : Nat) (k_h_1_lo : 0 ≤ h_1.toInt) (k_n_h_0 : n_h_0 ≤ 1000) (k_p_h_0 : 1 ≤ n_h_0) (k_h_1_hi : h_1.toInt ≤ (n_h_0 : Int))  : Met l yX8_insert (Cond.code yX8_insert cX8_insert 3 none :: gG) { frames := 1, cells := 0, slots := 0, locals := 96 } (cPre D [(a_h_0, .int)] [(h, .inr (8, [.ref h_0, .int h_1])), (h_0, .inl (a_h_0, n_h_0, .inl f_h_0))] sz [.ref h, .int x0, .int x1]) (va_Qv (fun (u : (Int32) × (Nat → Int32)) => match u with | (jX_F_h_1, jX_C_h_0) => 0 ≤ jX_F_h_1.toInt ∧ jX_F_h_1.toInt ≤ 1000 ∧ h_1.toInt ≤ jX_F_h_1.toInt ∧ jX_F_h_1.toInt ≤ (n_h_0 : Int) ∧ jX_F_h_1.toInt ≤ h_1.toInt + 1) (fun u t => cB D (va_A [(h, .inr (8, [.ref h_0, .int h_1])), (h_0, .inl (a_h_0, n_h_0, .inl f_h_0))] sz) ((fun (_ : (Int32) × (Nat → Int32)) => ([] : List (ClassId × FieldType))) u) ((fun (u : (Int32) × (Nat → Int32)) => match u with | (jX_F_h_1, jX_C_h_0) => ([(h, .inr (8, [.ref h_0, .int jX_F_h_1])), (h_0, .inl (a_h_0, n_h_0, .inl jX_C_h_0))] : va_W)) u) t) (va_A [(h, .inr (8, [.ref h_0, .int h_1])), (h_0, .inl (a_h_0, n_h_0, .inl f_h_0))] sz)) 0 0 (va_A [(h, .inr (8, [.ref h_0, .int h_1])), (h_0, .inl (a_h_0, n_h_0, .inl f_h_0))] sz) := by
  refine Met.ofW (cc := cX8_insert) (maxL := 3) (ret := none) (by decide) rfl ?_
  intro p e s m args below meth c s₁ B hml hv
  obtain ⟨rfl, aks, rfl, Wd⟩ := k_enter hv
  have C : CallFix p m c cX8_insert 3 s _ gG RX8 := ⟨B.exec, B.bytes, hml, findClass_of_methodNamed B.named, fun w h => atoms_spec (ws := Cond.code yX8_insert cX8_insert 3 none :: gG) B.pre w (List.mem_cons_of_mem _ h)⟩
  have hr := B.returns
  have hlk := B.notSynchronized
  generalize va_A [(h, .inr (8, [.ref h_0, .int h_1])), (h_0, .inl (a_h_0, n_h_0, .inl f_h_0))] s.heap.size = A at Wd ⊢
  refine k_locals (Nat.le_of_ble_eq_true rfl) [(0, .ref h), (1, .int x0), (2, .int x1)] rfl (fun ls hl => ?_)
  refine lv_iload_n C.1 C.2.1 dX8_insert_0 rfl (lv_at hl 1 rfl) ?_
  refine k_cutA (fun (u : (Int32) × (Nat → Int32)) H locs ls => match u with | (j62_F_h_1, j62_C_h_0) => 0 ≤ j62_F_h_1.toInt ∧ j62_F_h_1.toInt ≤ 1000 ∧ h_1.toInt ≤ j62_F_h_1.toInt ∧ j62_F_h_1.toInt ≤ (n_h_0 : Int) ∧ j62_F_h_1.toInt ≤ h_1.toInt + 1 ∧ wX D [(a_h_0, .int)] s [(h, .inr (8, [.ref h_0, .int j62_F_h_1])), (h_0, .inl (a_h_0, n_h_0, .inl j62_C_h_0))] H A s.heap locs ∧ lv_has ls 3 [(0, .ref h), (1, .int x0), (2, .int x1)]) (fun (u : (Int32) × (Nat → Int32)) ls => match u with | (j62_F_h_1, j62_C_h_0) => F0 m 62 ls []) (fun u H locs ls hi => ?_) (fun J62 => ?_)
  · obtain ⟨j62_F_h_1, j62_C_h_0⟩ := u
    obtain ⟨i62_0, i62_1, i62_2, i62_3, i62_4, Wd, hl⟩ := hi
    exact k_vret C hr hlk Wd (j62_F_h_1, j62_C_h_0) (by exact ⟨by omega, by omega, by omega, by omega, by omega⟩) [0, 1] rfl (by decide) [] rfl (by decide) (by decide) dX8_insert_62
  refine lv_if_lt (tgt := 62) C.1 C.2.1 dX8_insert_1 (by decide) (fun c1 => ?_) (fun c1 => ?_)
  · have i1 : x0.toInt < 0 := kz_lt c1
    exact J62 (h_1, f_h_0) _ _ _ ⟨by omega, by omega, by omega, by omega, by omega, Wd, lv_sub hl [0, 1, 2] rfl⟩
  · have i1 : 0 ≤ x0.toInt := kz_nlt c1
    refine lv_iload_n C.1 C.2.1 dX8_insert_4 rfl (lv_at hl 1 rfl) ?_
    refine lv_aload_n C.1 C.2.1 dX8_insert_5 rfl (lv_at hl 0 rfl) ?_
    refine k_get C Wd KX8 0 1 rfl (by decide) fl_X8_21 rfl dX8_insert_6 ?_
    refine lv_icmp_gt (tgt := 62) C.1 C.2.1 dX8_insert_9 (by decide) (fun c9 => ?_) (fun c9 => ?_)
    · have i9 : h_1.toInt < x0.toInt := kz_lt c9
      exact J62 (h_1, f_h_0) _ _ _ ⟨by omega, by omega, by omega, by omega, by omega, Wd, lv_sub hl [0, 1, 2] rfl⟩
    · have i9 : x0.toInt ≤ h_1.toInt := kz_nlt c9
      refine lv_aload_n C.1 C.2.1 dX8_insert_12 rfl (lv_at hl 0 rfl) ?_
      refine k_get C Wd KX8 0 1 rfl (by decide) fl_X8_21 rfl dX8_insert_13 ?_
      refine lv_aload_n C.1 C.2.1 dX8_insert_16 rfl (lv_at hl 0 rfl) ?_
      refine k_get C Wd KX8 0 0 rfl (by decide) fl_X8_15 rfl dX8_insert_17 ?_
      obtain ⟨v20, ev20⟩ : ∃ z : Int32, Int32.ofNat n_h_0 = z := ⟨_, rfl⟩
      have iv20 : v20.toInt = (n_h_0 : Int) := kz_len ev20 (by omega)
      refine k_alen (v := v20) C Wd 1 0 rfl rfl ev20 dX8_insert_20 ?_
      refine lv_icmp_ge (tgt := 62) C.1 C.2.1 dX8_insert_21 (by decide) (fun c21 => ?_) (fun c21 => ?_)
      · have i21 : v20.toInt ≤ h_1.toInt := kz_le c21
        exact J62 (h_1, f_h_0) _ _ _ ⟨by omega, by omega, by omega, by omega, by omega, Wd, lv_sub hl [0, 1, 2] rfl⟩
      · have i21 : h_1.toInt < v20.toInt := kz_nle c21
        refine lv_aload_n C.1 C.2.1 dX8_insert_24 rfl (lv_at hl 0 rfl) ?_
        refine k_get C Wd KX8 0 0 rfl (by decide) fl_X8_15 rfl dX8_insert_25 ?_
        refine lv_iload_n C.1 C.2.1 dX8_insert_28 rfl (lv_at hl 1 rfl) ?_
        refine lv_aload_n C.1 C.2.1 dX8_insert_29 rfl (lv_at hl 0 rfl) ?_
        refine k_get C Wd KX8 0 0 rfl (by decide) fl_X8_15 rfl dX8_insert_30 ?_
        refine lv_iload_n C.1 C.2.1 dX8_insert_33 rfl (lv_at hl 1 rfl) ?_
        refine lv_iconst (v := 1) C.1 C.2.1 dX8_insert_34 (by decide) ?_
        obtain ⟨v35, ev35⟩ : ∃ z : Int32, x0 + 1 = z := ⟨_, rfl⟩
        have iv35 : v35.toInt = x0.toInt + 1 := kz_addc ev35 (by decide) (by have zr0 := kz_rng x0; omega) (by have zr0 := kz_rng x0; omega)
        refine k_iadd (v := v35) C ev35 dX8_insert_35 ?_
        refine lv_aload_n C.1 C.2.1 dX8_insert_36 rfl (lv_at hl 0 rfl) ?_
        refine k_get C Wd KX8 0 1 rfl (by decide) fl_X8_21 rfl dX8_insert_37 ?_
        refine lv_iload_n C.1 C.2.1 dX8_insert_40 rfl (lv_at hl 1 rfl) ?_
        obtain ⟨v41, ev41⟩ : ∃ z : Int32, h_1 - x0 = z := ⟨_, rfl⟩
        have iv41 : v41.toInt = h_1.toInt - x0.toInt := kz_subv ev41 (by have zr0 := kz_rng h_1; have zr1 := kz_rng x0; omega) (by have zr0 := kz_rng h_1; have zr1 := kz_rng x0; omega)
        refine k_isub (v := v41) C ev41 dX8_insert_41 ?_
        obtain ⟨f42, ef42⟩ : ∃ z : Nat → Int32, va_cpy f_h_0 f_h_0 x0.toNatClampNeg v35.toNatClampNeg v41.toNatClampNeg = z := ⟨_, rfl⟩
        refine k_copy C hl.1 Wd mlac_X8_25 nat_ac sta_ac ini_sys 1 1 0 0 [(h, .inr (8, [.ref h_0, .int h_1])), (h_0, .inl (a_h_0, n_h_0, .inl f42))] rfl rfl rfl rfl (kz_nn (by omega)) (kz_nn (by omega)) (kz_nn (by omega)) (kz_cp (by omega) (by omega) (by omega)) (kz_cp (by omega) (by omega) (by omega)) ef42 rfl (Nat.le_of_ble_eq_true rfl) (Nat.le_of_ble_eq_true rfl) dX8_insert_42 (fun H locs Wd => ?_)
        refine lv_aload_n C.1 C.2.1 dX8_insert_45 rfl (lv_at hl 0 rfl) ?_
        refine k_get C Wd KX8 0 0 rfl (by decide) fl_X8_15 rfl dX8_insert_46 ?_
        refine lv_iload_n C.1 C.2.1 dX8_insert_49 rfl (lv_at hl 1 rfl) ?_
        refine lv_iload_n C.1 C.2.1 dX8_insert_50 rfl (lv_at hl 2 rfl) ?_
        obtain ⟨f51, ef51⟩ : ∃ z : Nat → Int32, upd f42 x0.toNatClampNeg x1 = z := ⟨_, rfl⟩
        refine k_iast C Wd 1 0 [(h, .inr (8, [.ref h_0, .int h_1])), (h_0, .inl (a_h_0, n_h_0, .inl f51))] rfl rfl (vp_in_iff.mpr ⟨by omega, by omega⟩) ef51 rfl dX8_insert_51 (fun H locs Wd => ?_)
        refine lv_aload_n C.1 C.2.1 dX8_insert_52 rfl (lv_at hl 0 rfl) ?_
        refine lv_dup C.1 C.2.1 dX8_insert_53 rfl ?_
        refine k_get C Wd KX8 0 1 rfl (by decide) fl_X8_21 rfl dX8_insert_54 ?_
        refine lv_iconst (v := 1) C.1 C.2.1 dX8_insert_57 (by decide) ?_
        obtain ⟨v58, ev58⟩ : ∃ z : Int32, h_1 + 1 = z := ⟨_, rfl⟩
        have iv58 : v58.toInt = h_1.toInt + 1 := kz_addc ev58 (by decide) (by have zr0 := kz_rng h_1; omega) (by have zr0 := kz_rng h_1; omega)
        refine k_iadd (v := v58) C ev58 dX8_insert_58 ?_
        refine k_put C Wd KX8 0 1 [(h, .inr (8, [.ref h_0, .int v58])), (h_0, .inl (a_h_0, n_h_0, .inl f51))] rfl (by decide) fl_X8_21 rfl rfl rfl (Nat.le_of_ble_eq_true rfl) rfl dX8_insert_59 (fun H locs Wd => ?_)
        exact J62 (v58, f51) _ _ _ ⟨by omega, by omega, by omega, by omega, by omega, Wd, lv_sub hl [0, 1, 2] rfl⟩
set_option maxHeartbeats 4000000 in
set_option maxRecDepth 100000 in
theorem sX8_remove (l : Launch) (D : va_G) (h : Nat) (x0 : Int32) (x1 : Int32) (h_0 : Nat) (h_1 : Int32) (n_h_0 : Nat) (a_h_0 : ClassId) (f_h_0 : Nat → Int32) (sz : Nat) (k_h_1_lo : 0 ≤ h_1.toInt) (k_n_h_0 : n_h_0 ≤ 1000) (k_p_h_0 : 1 ≤ n_h_0) (k_h_1_hi : h_1.toInt ≤ (n_h_0 : Int))  : Met l yX8_remove (Cond.code yX8_remove cX8_remove 3 none :: gG) { frames := 1, cells := 0, slots := 0, locals := 96 } (cPre D [(a_h_0, .int)] [(h, .inr (8, [.ref h_0, .int h_1])), (h_0, .inl (a_h_0, n_h_0, .inl f_h_0))] sz [.ref h, .int x0, .int x1]) (va_Qv (fun (u : (Int32) × (Nat → Int32)) => match u with | (jX_F_h_1, jX_C_h_0) => 0 ≤ jX_F_h_1.toInt ∧ jX_F_h_1.toInt ≤ 1000 ∧ jX_F_h_1.toInt ≤ (n_h_0 : Int) ∧ jX_F_h_1.toInt ≤ h_1.toInt) (fun u t => cB D (va_A [(h, .inr (8, [.ref h_0, .int h_1])), (h_0, .inl (a_h_0, n_h_0, .inl f_h_0))] sz) ((fun (_ : (Int32) × (Nat → Int32)) => ([] : List (ClassId × FieldType))) u) ((fun (u : (Int32) × (Nat → Int32)) => match u with | (jX_F_h_1, jX_C_h_0) => ([(h, .inr (8, [.ref h_0, .int jX_F_h_1])), (h_0, .inl (a_h_0, n_h_0, .inl jX_C_h_0))] : va_W)) u) t) (va_A [(h, .inr (8, [.ref h_0, .int h_1])), (h_0, .inl (a_h_0, n_h_0, .inl f_h_0))] sz)) 0 0 (va_A [(h, .inr (8, [.ref h_0, .int h_1])), (h_0, .inl (a_h_0, n_h_0, .inl f_h_0))] sz) := by
  refine Met.ofW (cc := cX8_remove) (maxL := 3) (ret := none) (by decide) rfl ?_
  intro p e s m args below meth c s₁ B hml hv
  obtain ⟨rfl, aks, rfl, Wd⟩ := k_enter hv
  have C : CallFix p m c cX8_remove 3 s _ gG RX8 := ⟨B.exec, B.bytes, hml, findClass_of_methodNamed B.named, fun w h => atoms_spec (ws := Cond.code yX8_remove cX8_remove 3 none :: gG) B.pre w (List.mem_cons_of_mem _ h)⟩
  have hr := B.returns
  have hlk := B.notSynchronized
  generalize va_A [(h, .inr (8, [.ref h_0, .int h_1])), (h_0, .inl (a_h_0, n_h_0, .inl f_h_0))] s.heap.size = A at Wd ⊢
  refine k_locals (Nat.le_of_ble_eq_true rfl) [(0, .ref h), (1, .int x0), (2, .int x1)] rfl (fun ls hl => ?_)
  refine lv_iload_n C.1 C.2.1 dX8_remove_0 rfl (lv_at hl 1 rfl) ?_
  refine k_cutA (fun (u : (Int32) × (Nat → Int32)) H locs ls => match u with | (j48_F_h_1, j48_C_h_0) => 0 ≤ j48_F_h_1.toInt ∧ j48_F_h_1.toInt ≤ 1000 ∧ j48_F_h_1.toInt ≤ (n_h_0 : Int) ∧ j48_F_h_1.toInt ≤ h_1.toInt ∧ wX D [(a_h_0, .int)] s [(h, .inr (8, [.ref h_0, .int j48_F_h_1])), (h_0, .inl (a_h_0, n_h_0, .inl j48_C_h_0))] H A s.heap locs ∧ lv_has ls 3 [(0, .ref h), (1, .int x0), (2, .int x1)]) (fun (u : (Int32) × (Nat → Int32)) ls => match u with | (j48_F_h_1, j48_C_h_0) => F0 m 48 ls []) (fun u H locs ls hi => ?_) (fun J48 => ?_)
  · obtain ⟨j48_F_h_1, j48_C_h_0⟩ := u
    obtain ⟨i48_0, i48_1, i48_2, i48_3, Wd, hl⟩ := hi
    exact k_vret C hr hlk Wd (j48_F_h_1, j48_C_h_0) (by exact ⟨by omega, by omega, by omega, by omega⟩) [0, 1] rfl (by decide) [] rfl (by decide) (by decide) dX8_remove_48
  refine lv_if_lt (tgt := 48) C.1 C.2.1 dX8_remove_1 (by decide) (fun c1 => ?_) (fun c1 => ?_)
  · have i1 : x0.toInt < 0 := kz_lt c1
    exact J48 (h_1, f_h_0) _ _ _ ⟨by omega, by omega, by omega, by omega, Wd, lv_sub hl [0, 1, 2] rfl⟩
  · have i1 : 0 ≤ x0.toInt := kz_nlt c1
    refine lv_iload_n C.1 C.2.1 dX8_remove_4 rfl (lv_at hl 1 rfl) ?_
    refine lv_iload_n C.1 C.2.1 dX8_remove_5 rfl (lv_at hl 2 rfl) ?_
    refine lv_icmp_ge (tgt := 48) C.1 C.2.1 dX8_remove_6 (by decide) (fun c6 => ?_) (fun c6 => ?_)
    · have i6 : x1.toInt ≤ x0.toInt := kz_le c6
      exact J48 (h_1, f_h_0) _ _ _ ⟨by omega, by omega, by omega, by omega, Wd, lv_sub hl [0, 1, 2] rfl⟩
    · have i6 : x0.toInt < x1.toInt := kz_nle c6
      refine lv_iload_n C.1 C.2.1 dX8_remove_9 rfl (lv_at hl 2 rfl) ?_
      refine lv_aload_n C.1 C.2.1 dX8_remove_10 rfl (lv_at hl 0 rfl) ?_
      refine k_get C Wd KX8 0 1 rfl (by decide) fl_X8_21 rfl dX8_remove_11 ?_
      refine lv_icmp_gt (tgt := 48) C.1 C.2.1 dX8_remove_14 (by decide) (fun c14 => ?_) (fun c14 => ?_)
      · have i14 : h_1.toInt < x1.toInt := kz_lt c14
        exact J48 (h_1, f_h_0) _ _ _ ⟨by omega, by omega, by omega, by omega, Wd, lv_sub hl [0, 1, 2] rfl⟩
      · have i14 : x1.toInt ≤ h_1.toInt := kz_nlt c14
        refine lv_aload_n C.1 C.2.1 dX8_remove_17 rfl (lv_at hl 0 rfl) ?_
        refine k_get C Wd KX8 0 0 rfl (by decide) fl_X8_15 rfl dX8_remove_18 ?_
        refine lv_iload_n C.1 C.2.1 dX8_remove_21 rfl (lv_at hl 2 rfl) ?_
        refine lv_aload_n C.1 C.2.1 dX8_remove_22 rfl (lv_at hl 0 rfl) ?_
        refine k_get C Wd KX8 0 0 rfl (by decide) fl_X8_15 rfl dX8_remove_23 ?_
        refine lv_iload_n C.1 C.2.1 dX8_remove_26 rfl (lv_at hl 1 rfl) ?_
        refine lv_aload_n C.1 C.2.1 dX8_remove_27 rfl (lv_at hl 0 rfl) ?_
        refine k_get C Wd KX8 0 1 rfl (by decide) fl_X8_21 rfl dX8_remove_28 ?_
        refine lv_iload_n C.1 C.2.1 dX8_remove_31 rfl (lv_at hl 2 rfl) ?_
        obtain ⟨v32, ev32⟩ : ∃ z : Int32, h_1 - x1 = z := ⟨_, rfl⟩
        have iv32 : v32.toInt = h_1.toInt - x1.toInt := kz_subv ev32 (by have zr0 := kz_rng h_1; have zr1 := kz_rng x1; omega) (by have zr0 := kz_rng h_1; have zr1 := kz_rng x1; omega)
        refine k_isub (v := v32) C ev32 dX8_remove_32 ?_
        obtain ⟨f33, ef33⟩ : ∃ z : Nat → Int32, va_cpy f_h_0 f_h_0 x1.toNatClampNeg x0.toNatClampNeg v32.toNatClampNeg = z := ⟨_, rfl⟩
        refine k_copy C hl.1 Wd mlac_X8_25 nat_ac sta_ac ini_sys 1 1 0 0 [(h, .inr (8, [.ref h_0, .int h_1])), (h_0, .inl (a_h_0, n_h_0, .inl f33))] rfl rfl rfl rfl (kz_nn (by omega)) (kz_nn (by omega)) (kz_nn (by omega)) (kz_cp (by omega) (by omega) (by omega)) (kz_cp (by omega) (by omega) (by omega)) ef33 rfl (Nat.le_of_ble_eq_true rfl) (Nat.le_of_ble_eq_true rfl) dX8_remove_33 (fun H locs Wd => ?_)
        refine lv_aload_n C.1 C.2.1 dX8_remove_36 rfl (lv_at hl 0 rfl) ?_
        refine lv_dup C.1 C.2.1 dX8_remove_37 rfl ?_
        refine k_get C Wd KX8 0 1 rfl (by decide) fl_X8_21 rfl dX8_remove_38 ?_
        refine lv_iload_n C.1 C.2.1 dX8_remove_41 rfl (lv_at hl 2 rfl) ?_
        refine lv_iload_n C.1 C.2.1 dX8_remove_42 rfl (lv_at hl 1 rfl) ?_
        obtain ⟨v43, ev43⟩ : ∃ z : Int32, x1 - x0 = z := ⟨_, rfl⟩
        have iv43 : v43.toInt = x1.toInt - x0.toInt := kz_subv ev43 (by have zr0 := kz_rng x1; have zr1 := kz_rng x0; omega) (by have zr0 := kz_rng x1; have zr1 := kz_rng x0; omega)
        refine k_isub (v := v43) C ev43 dX8_remove_43 ?_
        obtain ⟨v44, ev44⟩ : ∃ z : Int32, h_1 - v43 = z := ⟨_, rfl⟩
        have iv44 : v44.toInt = h_1.toInt - v43.toInt := kz_subv ev44 (by have zr0 := kz_rng h_1; have zr1 := kz_rng v43; omega) (by have zr0 := kz_rng h_1; have zr1 := kz_rng v43; omega)
        refine k_isub (v := v44) C ev44 dX8_remove_44 ?_
        refine k_put C Wd KX8 0 1 [(h, .inr (8, [.ref h_0, .int v44])), (h_0, .inl (a_h_0, n_h_0, .inl f33))] rfl (by decide) fl_X8_21 rfl rfl rfl (Nat.le_of_ble_eq_true rfl) rfl dX8_remove_45 (fun H locs Wd => ?_)
        exact J48 (v44, f33) _ _ _ ⟨by omega, by omega, by omega, by omega, Wd, lv_sub hl [0, 1, 2] rfl⟩
set_option maxHeartbeats 4000000 in
set_option maxRecDepth 100000 in
theorem sX8_addPart (l : Launch) (D : va_G) (h : Nat) (h0 : Nat) (x1 : Int32) (x2 : Int32) (h0_0 : Nat) (h0_1 : Int32) (n_h0_0 : Nat) (a_h0_0 : ClassId) (f_h0_0 : Nat → Int32) (h_0 : Nat) (h_1 : Int32) (n_h_0 : Nat) (a_h_0 : ClassId) (f_h_0 : Nat → Int32) (sz : Nat) (k_x1_lo : -2 ≤ x1.toInt) (k_x1_hi : x1.toInt ≤ 100000) (k_x2_lo : -2 ≤ x2.toInt) (k_x2_hi : x2.toInt ≤ 100000) (k_h0_1_lo : 0 ≤ h0_1.toInt) (k_n_h0_0 : n_h0_0 ≤ 1000) (k_p_h0_0 : 1 ≤ n_h0_0) (k_h0_1_hi : h0_1.toInt ≤ (n_h0_0 : Int)) (k_h_1_lo : 0 ≤ h_1.toInt) (k_n_h_0 : n_h_0 ≤ 1000) (k_p_h_0 : 1 ≤ n_h_0) (k_h_1_hi : h_1.toInt ≤ (n_h_0 : Int))  : Met l yX8_addPart (Cond.code yX8_addPart cX8_addPart 5 none :: gG) { frames := 1, cells := 0, slots := 0, locals := 96 } (cPre D [(a_h0_0, .int), (a_h_0, .int)] [(h0, .inr (8, [.ref h0_0, .int h0_1])), (h0_0, .inl (a_h0_0, n_h0_0, .inl f_h0_0)), (h, .inr (8, [.ref h_0, .int h_1])), (h_0, .inl (a_h_0, n_h_0, .inl f_h_0))] sz [.ref h, .ref h0, .int x1, .int x2]) (va_Qv (fun (u : (Int32) × (Nat → Int32)) => match u with | (jX_F_h_1, jX_C_h_0) => 0 ≤ jX_F_h_1.toInt ∧ jX_F_h_1.toInt ≤ 1000 ∧ h_1.toInt ≤ jX_F_h_1.toInt ∧ jX_F_h_1.toInt ≤ (n_h_0 : Int)) (fun u t => cB D (va_A [(h0, .inr (8, [.ref h0_0, .int h0_1])), (h0_0, .inl (a_h0_0, n_h0_0, .inl f_h0_0)), (h, .inr (8, [.ref h_0, .int h_1])), (h_0, .inl (a_h_0, n_h_0, .inl f_h_0))] sz) ((fun (_ : (Int32) × (Nat → Int32)) => ([] : List (ClassId × FieldType))) u) ((fun (u : (Int32) × (Nat → Int32)) => match u with | (jX_F_h_1, jX_C_h_0) => ([(h0, .inr (8, [.ref h0_0, .int h0_1])), (h0_0, .inl (a_h0_0, n_h0_0, .inl f_h0_0)), (h, .inr (8, [.ref h_0, .int jX_F_h_1])), (h_0, .inl (a_h_0, n_h_0, .inl jX_C_h_0))] : va_W)) u) t) (va_A [(h0, .inr (8, [.ref h0_0, .int h0_1])), (h0_0, .inl (a_h0_0, n_h0_0, .inl f_h0_0)), (h, .inr (8, [.ref h_0, .int h_1])), (h_0, .inl (a_h_0, n_h_0, .inl f_h_0))] sz)) 0 0 (va_A [(h0, .inr (8, [.ref h0_0, .int h0_1])), (h0_0, .inl (a_h0_0, n_h0_0, .inl f_h0_0)), (h, .inr (8, [.ref h_0, .int h_1])), (h_0, .inl (a_h_0, n_h_0, .inl f_h_0))] sz) := by
  refine Met.ofW (cc := cX8_addPart) (maxL := 5) (ret := none) (by decide) rfl ?_
  intro p e s m args below meth c s₁ B hml hv
  obtain ⟨rfl, aks, rfl, Wd⟩ := k_enter hv
  have C : CallFix p m c cX8_addPart 5 s _ gG RX8 := ⟨B.exec, B.bytes, hml, findClass_of_methodNamed B.named, fun w h => atoms_spec (ws := Cond.code yX8_addPart cX8_addPart 5 none :: gG) B.pre w (List.mem_cons_of_mem _ h)⟩
  have hr := B.returns
  have hlk := B.notSynchronized
  generalize va_A [(h0, .inr (8, [.ref h0_0, .int h0_1])), (h0_0, .inl (a_h0_0, n_h0_0, .inl f_h0_0)), (h, .inr (8, [.ref h_0, .int h_1])), (h_0, .inl (a_h_0, n_h_0, .inl f_h_0))] s.heap.size = A at Wd ⊢
  refine k_locals (Nat.le_of_ble_eq_true rfl) [(0, .ref h), (1, .ref h0), (2, .int x1), (3, .int x2)] rfl (fun ls hl => ?_)
  refine lv_iload_n C.1 C.2.1 dX8_addPart_0 rfl (lv_at hl 3 rfl) ?_
  refine lv_iload_n C.1 C.2.1 dX8_addPart_1 rfl (lv_at hl 2 rfl) ?_
  obtain ⟨v2, ev2⟩ : ∃ z : Int32, x2 - x1 = z := ⟨_, rfl⟩
  have iv2 : v2.toInt = x2.toInt - x1.toInt := kz_subv ev2 (by have zr0 := kz_rng x2; have zr1 := kz_rng x1; omega) (by have zr0 := kz_rng x2; have zr1 := kz_rng x1; omega)
  refine k_isub (v := v2) C ev2 dX8_addPart_2 ?_
  refine lv_istore (lv' := [(4, .int v2), (0, .ref h), (1, .ref h0), (2, .int x1), (3, .int x2)]) C.1 C.2.1 dX8_addPart_3 hl (by decide) rfl (fun ls hl => ?_)
  refine lv_iload_n C.1 C.2.1 dX8_addPart_5 rfl (lv_at hl 3 rfl) ?_
  refine k_cutA (fun (u : (Int32) × (Nat → Int32)) H locs ls => match u with | (j66_F_h_1, j66_C_h_0) => 0 ≤ j66_F_h_1.toInt ∧ j66_F_h_1.toInt ≤ 1000 ∧ h_1.toInt ≤ j66_F_h_1.toInt ∧ j66_F_h_1.toInt ≤ (n_h_0 : Int) ∧ wX D [(a_h0_0, .int), (a_h_0, .int)] s [(h0, .inr (8, [.ref h0_0, .int h0_1])), (h0_0, .inl (a_h0_0, n_h0_0, .inl f_h0_0)), (h, .inr (8, [.ref h_0, .int j66_F_h_1])), (h_0, .inl (a_h_0, n_h_0, .inl j66_C_h_0))] H A s.heap locs ∧ lv_has ls 5 [(4, .int v2), (0, .ref h), (1, .ref h0), (2, .int x1), (3, .int x2)]) (fun (u : (Int32) × (Nat → Int32)) ls => match u with | (j66_F_h_1, j66_C_h_0) => F0 m 66 ls []) (fun u H locs ls hi => ?_) (fun J66 => ?_)
  · obtain ⟨j66_F_h_1, j66_C_h_0⟩ := u
    obtain ⟨i66_0, i66_1, i66_2, i66_3, Wd, hl⟩ := hi
    exact k_vret C hr hlk Wd (j66_F_h_1, j66_C_h_0) (by exact ⟨by omega, by omega, by omega, by omega⟩) [0, 1, 2, 3] rfl (by decide) [] rfl (by decide) (by decide) dX8_addPart_66
  refine lv_if_lt (tgt := 66) C.1 C.2.1 dX8_addPart_6 (by decide) (fun c6 => ?_) (fun c6 => ?_)
  · have i6 : x1.toInt < 0 := kz_lt c6
    exact J66 (h_1, f_h_0) _ _ _ ⟨by omega, by omega, by omega, by omega, Wd, lv_sub hl [0, 1, 2, 3, 4] rfl⟩
  · have i6 : 0 ≤ x1.toInt := kz_nlt c6
    refine lv_iload C.1 C.2.1 dX8_addPart_9 (lv_at hl 0 rfl) ?_
    refine lv_if_le (tgt := 66) C.1 C.2.1 dX8_addPart_11 (by decide) (fun c11 => ?_) (fun c11 => ?_)
    · have i11 : v2.toInt ≤ 0 := kz_le c11
      exact J66 (h_1, f_h_0) _ _ _ ⟨by omega, by omega, by omega, by omega, Wd, lv_sub hl [0, 1, 2, 3, 4] rfl⟩
    · have i11 : 0 < v2.toInt := kz_nle c11
      refine lv_iload_n C.1 C.2.1 dX8_addPart_14 rfl (lv_at hl 4 rfl) ?_
      refine lv_aload_n C.1 C.2.1 dX8_addPart_15 rfl (lv_at hl 2 rfl) ?_
      refine k_get C Wd KX8 0 1 rfl (by decide) fl_X8_21 rfl dX8_addPart_16 ?_
      refine lv_icmp_gt (tgt := 66) C.1 C.2.1 dX8_addPart_19 (by decide) (fun c19 => ?_) (fun c19 => ?_)
      · have i19 : h0_1.toInt < x2.toInt := kz_lt c19
        exact J66 (h_1, f_h_0) _ _ _ ⟨by omega, by omega, by omega, by omega, Wd, lv_sub hl [0, 1, 2, 3, 4] rfl⟩
      · have i19 : x2.toInt ≤ h0_1.toInt := kz_nlt c19
        refine lv_iload C.1 C.2.1 dX8_addPart_22 (lv_at hl 0 rfl) ?_
        refine lv_aload_n C.1 C.2.1 dX8_addPart_24 rfl (lv_at hl 1 rfl) ?_
        refine k_get C Wd KX8 2 0 rfl (by decide) fl_X8_15 rfl dX8_addPart_25 ?_
        obtain ⟨v28, ev28⟩ : ∃ z : Int32, Int32.ofNat n_h_0 = z := ⟨_, rfl⟩
        have iv28 : v28.toInt = (n_h_0 : Int) := kz_len ev28 (by omega)
        refine k_alen (v := v28) C Wd 3 1 rfl rfl ev28 dX8_addPart_28 ?_
        refine lv_aload_n C.1 C.2.1 dX8_addPart_29 rfl (lv_at hl 1 rfl) ?_
        refine k_get C Wd KX8 2 1 rfl (by decide) fl_X8_21 rfl dX8_addPart_30 ?_
        obtain ⟨v33, ev33⟩ : ∃ z : Int32, v28 - h_1 = z := ⟨_, rfl⟩
        have iv33 : v33.toInt = v28.toInt - h_1.toInt := kz_subv ev33 (by have zr0 := kz_rng v28; have zr1 := kz_rng h_1; omega) (by have zr0 := kz_rng v28; have zr1 := kz_rng h_1; omega)
        refine k_isub (v := v33) C ev33 dX8_addPart_33 ?_
        refine lv_icmp_gt (tgt := 66) C.1 C.2.1 dX8_addPart_34 (by decide) (fun c34 => ?_) (fun c34 => ?_)
        · have i34 : v33.toInt < v2.toInt := kz_lt c34
          exact J66 (h_1, f_h_0) _ _ _ ⟨by omega, by omega, by omega, by omega, Wd, lv_sub hl [0, 1, 2, 3, 4] rfl⟩
        · have i34 : v2.toInt ≤ v33.toInt := kz_nlt c34
          refine lv_aload_n C.1 C.2.1 dX8_addPart_37 rfl (lv_at hl 2 rfl) ?_
          refine k_get C Wd KX8 0 0 rfl (by decide) fl_X8_15 rfl dX8_addPart_38 ?_
          refine lv_iload_n C.1 C.2.1 dX8_addPart_41 rfl (lv_at hl 3 rfl) ?_
          refine lv_aload_n C.1 C.2.1 dX8_addPart_42 rfl (lv_at hl 1 rfl) ?_
          refine k_get C Wd KX8 2 0 rfl (by decide) fl_X8_15 rfl dX8_addPart_43 ?_
          refine lv_aload_n C.1 C.2.1 dX8_addPart_46 rfl (lv_at hl 1 rfl) ?_
          refine k_get C Wd KX8 2 1 rfl (by decide) fl_X8_21 rfl dX8_addPart_47 ?_
          refine lv_iload C.1 C.2.1 dX8_addPart_50 (lv_at hl 0 rfl) ?_
          obtain ⟨f52, ef52⟩ : ∃ z : Nat → Int32, va_cpy f_h0_0 f_h_0 x1.toNatClampNeg h_1.toNatClampNeg v2.toNatClampNeg = z := ⟨_, rfl⟩
          refine k_copy C hl.1 Wd mlac_X8_25 nat_ac sta_ac ini_sys 1 3 0 1 [(h0, .inr (8, [.ref h0_0, .int h0_1])), (h0_0, .inl (a_h0_0, n_h0_0, .inl f_h0_0)), (h, .inr (8, [.ref h_0, .int h_1])), (h_0, .inl (a_h_0, n_h_0, .inl f52))] rfl rfl rfl rfl (kz_nn (by omega)) (kz_nn (by omega)) (kz_nn (by omega)) (kz_cp (by omega) (by omega) (by omega)) (kz_cp (by omega) (by omega) (by omega)) ef52 rfl (Nat.le_of_ble_eq_true rfl) (Nat.le_of_ble_eq_true rfl) dX8_addPart_52 (fun H locs Wd => ?_)
          refine lv_aload_n C.1 C.2.1 dX8_addPart_55 rfl (lv_at hl 1 rfl) ?_
          refine lv_dup C.1 C.2.1 dX8_addPart_56 rfl ?_
          refine k_get C Wd KX8 2 1 rfl (by decide) fl_X8_21 rfl dX8_addPart_57 ?_
          refine lv_iload C.1 C.2.1 dX8_addPart_60 (lv_at hl 0 rfl) ?_
          obtain ⟨v62, ev62⟩ : ∃ z : Int32, h_1 + v2 = z := ⟨_, rfl⟩
          have iv62 : v62.toInt = h_1.toInt + v2.toInt := kz_addv ev62 (by have zr0 := kz_rng h_1; have zr1 := kz_rng v2; omega) (by have zr0 := kz_rng h_1; have zr1 := kz_rng v2; omega)
          refine k_iadd (v := v62) C ev62 dX8_addPart_62 ?_
          refine k_put C Wd KX8 2 1 [(h0, .inr (8, [.ref h0_0, .int h0_1])), (h0_0, .inl (a_h0_0, n_h0_0, .inl f_h0_0)), (h, .inr (8, [.ref h_0, .int v62])), (h_0, .inl (a_h_0, n_h_0, .inl f52))] rfl (by decide) fl_X8_21 rfl rfl rfl (Nat.le_of_ble_eq_true rfl) rfl dX8_addPart_63 (fun H locs Wd => ?_)
          exact J66 (v62, f52) _ _ _ ⟨by omega, by omega, by omega, by omega, Wd, lv_sub hl [0, 1, 2, 3, 4] rfl⟩
