set_option maxHeartbeats 4000000 in
set_option maxRecDepth 100000 in
theorem sX3_output (l : Launch) (D : va_G) (h : Nat) (x0 : Int32) (h_0 : Nat) (h_1 : Nat) (h_2 : Int32) (h_3 : Int32) (h_4 : Int32) (h_5 : Nat) (h_6 : Nat) (a_h_1 : ClassId) (f_h_1 : Nat → Int32) (sz : Nat) : Met l yX3_output (Cond.code yX3_output cX3_output 2 (some .int) :: gG) { frames := 1, cells := 0, slots := 0, locals := 64 } (cPre D [(a_h_1, .int)] [(h, .inr (3, [.ref h_0, .ref h_1, .int h_2, .int h_3, .int h_4, .ref h_5, .ref h_6])), (h_1, .inl (a_h_1, 100, .inl f_h_1))] sz [.ref h, .int x0]) (vp_Si (fun r => True)) 0 0 (fun _ => False) := by
  refine Met.ofW (cc := cX3_output) (maxL := 2) (ret := (some .int)) (by decide) rfl ?_
  intro p e s m args below meth c s₁ B hml hv
  obtain ⟨rfl, aks, rfl, Wd⟩ := k_enter hv
  have C : CallFix p m c cX3_output 2 s _ gG RX3 := ⟨B.exec, B.bytes, hml, findClass_of_methodNamed B.named, fun w h => atoms_spec (ws := Cond.code yX3_output cX3_output 2 (some .int) :: gG) B.pre w (List.mem_cons_of_mem _ h)⟩
  have hr := B.returns
  have hlk := B.notSynchronized
  obtain ⟨A, Wd⟩ : ∃ A, wX D [(a_h_1, .int)] s [(h, .inr (3, [.ref h_0, .ref h_1, .int h_2, .int h_3, .int h_4, .ref h_5, .ref h_6])), (h_1, .inl (a_h_1, 100, .inl f_h_1))] s.heap A s.heap [] := ⟨_, Wd⟩
  refine k_locals (Nat.le_of_ble_eq_true rfl) [(0, .ref h), (1, .int x0)] rfl (fun ls hl => ?_)
  refine lv_iload_n C.1 C.2.1 dX3_output_0 rfl (lv_at hl 1 rfl) ?_
  refine k_cutA (fun (j31_S_0 : Int32) H locs ls => H = s.heap ∧ locs = [] ∧ wX D [(a_h_1, .int)] s [(h, .inr (3, [.ref h_0, .ref h_1, .int h_2, .int h_3, .int h_4, .ref h_5, .ref h_6])), (h_1, .inl (a_h_1, 100, .inl f_h_1))] H A s.heap locs ∧ lv_has ls 2 [(0, .ref h), (1, .int x0)]) (fun (j31_S_0 : Int32) ls => F0 m 31 ls [.int j31_S_0]) (fun j31_S_0 H locs ls hi => ?_) (fun J31 => ?_)
  · obtain ⟨rfl, rfl, Wd, hl⟩ := hi
    exact k_zretP C hr hlk rfl trivial dX3_output_31
  refine k_cutA (fun (_ : Unit) H locs ls => H = s.heap ∧ locs = [] ∧ wX D [(a_h_1, .int)] s [(h, .inr (3, [.ref h_0, .ref h_1, .int h_2, .int h_3, .int h_4, .ref h_5, .ref h_6])), (h_1, .inl (a_h_1, 100, .inl f_h_1))] H A s.heap locs ∧ lv_has ls 2 [(0, .ref h), (1, .int x0)]) (fun (_ : Unit) ls => F0 m 30 ls []) (fun _ H locs ls hi => ?_) (fun J30 => ?_)
  · obtain ⟨rfl, rfl, Wd, hl⟩ := hi
    refine lv_iconst (v := (-1)) C.1 C.2.1 dX3_output_30 (by decide) ?_
    exact J31 (-1) _ _ _ ⟨rfl, rfl, Wd, lv_sub hl [0, 1] rfl⟩
  refine lv_if_lt (tgt := 30) C.1 C.2.1 dX3_output_1 (by decide) (fun c1 => ?_) (fun c1 => ?_)
  · have i1 : x0.toInt < 0 := kz_lt c1
    exact J30 () _ _ _ ⟨rfl, rfl, Wd, lv_sub hl [0, 1] rfl⟩
  · have i1 : 0 ≤ x0.toInt := kz_nlt c1
    refine lv_iload_n C.1 C.2.1 dX3_output_4 rfl (lv_at hl 1 rfl) ?_
    refine lv_aload_n C.1 C.2.1 dX3_output_5 rfl (lv_at hl 0 rfl) ?_
    refine k_get C Wd KX3 0 2 rfl (by decide) fl_X3_28 rfl dX3_output_6 ?_
    refine lv_icmp_ge (tgt := 30) C.1 C.2.1 dX3_output_9 (by decide) (fun c9 => ?_) (fun c9 => ?_)
    · have i9 : h_2.toInt ≤ x0.toInt := kz_le c9
      exact J30 () _ _ _ ⟨rfl, rfl, Wd, lv_sub hl [0, 1] rfl⟩
    · have i9 : x0.toInt < h_2.toInt := kz_nle c9
      refine lv_iload_n C.1 C.2.1 dX3_output_12 rfl (lv_at hl 1 rfl) ?_
      refine lv_aload_n C.1 C.2.1 dX3_output_13 rfl (lv_at hl 0 rfl) ?_
      refine k_get C Wd KX3 0 1 rfl (by decide) fl_X3_18 rfl dX3_output_14 ?_
      refine k_alen (v := 100) C Wd 1 0 rfl rfl rfl dX3_output_17 ?_
      refine lv_icmp_ge (tgt := 30) C.1 C.2.1 dX3_output_18 (by decide) (fun c18 => ?_) (fun c18 => ?_)
      · have i18 : 100 ≤ x0.toInt := kz_le c18
        exact J30 () _ _ _ ⟨rfl, rfl, Wd, lv_sub hl [0, 1] rfl⟩
      · have i18 : x0.toInt < 100 := kz_nle c18
        refine lv_aload_n C.1 C.2.1 dX3_output_21 rfl (lv_at hl 0 rfl) ?_
        refine k_get C Wd KX3 0 1 rfl (by decide) fl_X3_18 rfl dX3_output_22 ?_
        refine lv_iload_n C.1 C.2.1 dX3_output_25 rfl (lv_at hl 1 rfl) ?_
        obtain ⟨v26, ev26⟩ : ∃ z : Int32, f_h_1 x0.toNatClampNeg = z := ⟨_, rfl⟩
        refine k_iald (v := v26) C Wd 1 0 rfl rfl (vp_in_iff.mpr ⟨by omega, by omega⟩) ev26 dX3_output_26 ?_
        refine lv_goto (tgt := 31) C.1 C.2.1 dX3_output_27 (by decide) ?_
        exact J31 v26 _ _ _ ⟨rfl, rfl, Wd, lv_sub hl [0, 1] rfl⟩
set_option maxHeartbeats 4000000 in
set_option maxRecDepth 100000 in
theorem sX3_tell (l : Launch) (D : va_G) (h : Nat) (x0 : Int32) (h_0 : Nat) (h_1 : Nat) (h_2 : Int32) (h_3 : Int32) (h_4 : Int32) (h_5 : Nat) (h_6 : Nat) (a_h_5 : ClassId) (f_h_5 : Nat → Int32) (a_h_1 : ClassId) (f_h_1 : Nat → Int32) (sz : Nat) : Met l yX3_tell (Cond.code yX3_tell cX3_tell 2 (some .int) :: gG) { frames := 2, cells := 0, slots := 0, locals := 85 } (cPre D [(a_h_5, .int), (a_h_1, .int)] [(h, .inr (3, [.ref h_0, .ref h_1, .int h_2, .int h_3, .int h_4, .ref h_5, .ref h_6])), (h_5, .inl (a_h_5, 6, .inl f_h_5)), (h_1, .inl (a_h_1, 100, .inl f_h_1))] sz [.ref h, .int x0]) (vp_Si (fun r => True)) 0 0 (fun _ => False) := by
  refine Met.ofW (cc := cX3_tell) (maxL := 2) (ret := (some .int)) (by decide) rfl ?_
  intro p e s m args below meth c s₁ B hml hv
  obtain ⟨rfl, aks, rfl, Wd⟩ := k_enter hv
  have C : CallFix p m c cX3_tell 2 s _ gG RX3 := ⟨B.exec, B.bytes, hml, findClass_of_methodNamed B.named, fun w h => atoms_spec (ws := Cond.code yX3_tell cX3_tell 2 (some .int) :: gG) B.pre w (List.mem_cons_of_mem _ h)⟩
  have hr := B.returns
  have hlk := B.notSynchronized
  obtain ⟨A, Wd⟩ : ∃ A, wX D [(a_h_5, .int), (a_h_1, .int)] s [(h, .inr (3, [.ref h_0, .ref h_1, .int h_2, .int h_3, .int h_4, .ref h_5, .ref h_6])), (h_5, .inl (a_h_5, 6, .inl f_h_5)), (h_1, .inl (a_h_1, 100, .inl f_h_1))] s.heap A s.heap [] := ⟨_, Wd⟩
  refine k_locals (Nat.le_of_ble_eq_true rfl) [(0, .ref h), (1, .int x0)] rfl (fun ls hl => ?_)
  refine lv_iload_n C.1 C.2.1 dX3_tell_0 rfl (lv_at hl 1 rfl) ?_
  refine lv_if_ne (tgt := 9) C.1 C.2.1 dX3_tell_1 (by decide) (fun c1 => ?_) (fun c1 => ?_)
  · have i1 : ¬ x0.toInt = 0 := kz_ne c1
    refine lv_iload_n C.1 C.2.1 dX3_tell_9 rfl (lv_at hl 1 rfl) ?_
    refine lv_iconst (v := 1) C.1 C.2.1 dX3_tell_10 (by decide) ?_
    refine lv_icmp_ne (tgt := 19) C.1 C.2.1 dX3_tell_11 (by decide) (fun c11 => ?_) (fun c11 => ?_)
    · have i11 : ¬ x0.toInt = 1 := kz_ne c11
      refine lv_iload_n C.1 C.2.1 dX3_tell_19 rfl (lv_at hl 1 rfl) ?_
      refine lv_iconst (v := 2) C.1 C.2.1 dX3_tell_20 (by decide) ?_
      refine lv_icmp_ne (tgt := 29) C.1 C.2.1 dX3_tell_21 (by decide) (fun c21 => ?_) (fun c21 => ?_)
      · have i21 : ¬ x0.toInt = 2 := kz_ne c21
        refine lv_iload_n C.1 C.2.1 dX3_tell_29 rfl (lv_at hl 1 rfl) ?_
        refine lv_bipush (v := 10) C.1 C.2.1 dX3_tell_30 (by decide) ?_
        refine k_cutA (fun (_ : Unit) H locs ls => H = s.heap ∧ locs = [] ∧ wX D [(a_h_5, .int), (a_h_1, .int)] s [(h, .inr (3, [.ref h_0, .ref h_1, .int h_2, .int h_3, .int h_4, .ref h_5, .ref h_6])), (h_5, .inl (a_h_5, 6, .inl f_h_5)), (h_1, .inl (a_h_1, 100, .inl f_h_1))] H A s.heap locs ∧ lv_has ls 2 [(0, .ref h), (1, .int x0)]) (fun (_ : Unit) ls => F0 m 51 ls []) (fun _ H locs ls hi => ?_) (fun J51 => ?_)
        · obtain ⟨rfl, rfl, Wd, hl⟩ := hi
          refine lv_iload_n C.1 C.2.1 dX3_tell_51 rfl (lv_at hl 1 rfl) ?_
          refine lv_bipush (v := 100) C.1 C.2.1 dX3_tell_52 (by decide) ?_
          refine k_cutA (fun (j69_S_0 : Int32) H locs ls => H = s.heap ∧ locs = [] ∧ wX D [(a_h_5, .int), (a_h_1, .int)] s [(h, .inr (3, [.ref h_0, .ref h_1, .int h_2, .int h_3, .int h_4, .ref h_5, .ref h_6])), (h_5, .inl (a_h_5, 6, .inl f_h_5)), (h_1, .inl (a_h_1, 100, .inl f_h_1))] H A s.heap locs ∧ lv_has ls 2 [(0, .ref h), (1, .int x0)]) (fun (j69_S_0 : Int32) ls => F0 m 69 ls [.int j69_S_0]) (fun j69_S_0 H locs ls hi => ?_) (fun J69 => ?_)
          · obtain ⟨rfl, rfl, Wd, hl⟩ := hi
            exact k_zretP C hr hlk rfl trivial dX3_tell_69
          refine lv_icmp_lt (tgt := 68) C.1 C.2.1 dX3_tell_54 (by decide) (fun c54 => ?_) (fun c54 => ?_)
          · have i54 : x0.toInt < 100 := kz_lt c54
            refine lv_iconst (v := (-1)) C.1 C.2.1 dX3_tell_68 (by decide) ?_
            exact J69 (-1) _ _ _ ⟨rfl, rfl, Wd, lv_sub hl [0, 1] rfl⟩
          · have i54 : 100 ≤ x0.toInt := kz_nlt c54
            refine lv_aload_n C.1 C.2.1 dX3_tell_57 rfl (lv_at hl 0 rfl) ?_
            refine lv_iload_n C.1 C.2.1 dX3_tell_58 rfl (lv_at hl 1 rfl) ?_
            refine lv_bipush (v := 100) C.1 C.2.1 dX3_tell_59 (by decide) ?_
            obtain ⟨v61, ev61⟩ : ∃ z : Int32, x0 - 100 = z := ⟨_, rfl⟩
            have iv61 : v61.toInt = x0.toInt - 100 := kz_subc ev61 (by decide) (by omega) (by omega)
            refine k_isub (v := v61) C ev61 dX3_tell_61 ?_
            refine k_pi (k_runV (rest := []) C aks Wd cs_X3_45 (sX3_output l D h v61 h_0 h_1 h_2 h_3 h_4 h_5 h_6 a_h_1 f_h_1 _ ) [0, 2] rfl (by decide) [1] rfl 0 3 rfl rfl rfl rfl rfl ⟨(Nat.le_of_ble_eq_true rfl), (Nat.le_of_ble_eq_true rfl)⟩ hl.1 rfl rfl (Nat.le_of_ble_eq_true rfl) ⟨(Nat.le_of_ble_eq_true rfl), (Nat.le_of_ble_eq_true rfl)⟩ dX3_tell_62) (fun r62 w62 => ?_)
            refine lv_goto (tgt := 69) C.1 C.2.1 dX3_tell_65 (by decide) ?_
            exact J69 r62 _ _ _ ⟨rfl, rfl, Wd, lv_sub hl [0, 1] rfl⟩
        refine lv_icmp_lt (tgt := 51) C.1 C.2.1 dX3_tell_32 (by decide) (fun c32 => ?_) (fun c32 => ?_)
        · have i32 : x0.toInt < 10 := kz_lt c32
          exact J51 () _ _ _ ⟨rfl, rfl, Wd, lv_sub hl [0, 1] rfl⟩
        · have i32 : 10 ≤ x0.toInt := kz_nlt c32
          refine lv_iload_n C.1 C.2.1 dX3_tell_35 rfl (lv_at hl 1 rfl) ?_
          refine lv_bipush (v := 16) C.1 C.2.1 dX3_tell_36 (by decide) ?_
          refine lv_icmp_ge (tgt := 51) C.1 C.2.1 dX3_tell_38 (by decide) (fun c38 => ?_) (fun c38 => ?_)
          · have i38 : 16 ≤ x0.toInt := kz_le c38
            exact J51 () _ _ _ ⟨rfl, rfl, Wd, lv_sub hl [0, 1] rfl⟩
          · have i38 : x0.toInt < 16 := kz_nle c38
            refine lv_aload_n C.1 C.2.1 dX3_tell_41 rfl (lv_at hl 0 rfl) ?_
            refine k_get C Wd KX3 0 5 rfl (by decide) fl_X3_22 rfl dX3_tell_42 ?_
            refine lv_iload_n C.1 C.2.1 dX3_tell_45 rfl (lv_at hl 1 rfl) ?_
            refine lv_bipush (v := 10) C.1 C.2.1 dX3_tell_46 (by decide) ?_
            obtain ⟨v48, ev48⟩ : ∃ z : Int32, x0 - 10 = z := ⟨_, rfl⟩
            have iv48 : v48.toInt = x0.toInt - 10 := kz_subc ev48 (by decide) (by omega) (by omega)
            refine k_isub (v := v48) C ev48 dX3_tell_48 ?_
            obtain ⟨v49, ev49⟩ : ∃ z : Int32, f_h_5 v48.toNatClampNeg = z := ⟨_, rfl⟩
            refine k_iald (v := v49) C Wd 1 0 rfl rfl (vp_in_iff.mpr ⟨by omega, by omega⟩) ev49 dX3_tell_49 ?_
            exact k_zretP C hr hlk rfl trivial dX3_tell_50
      · have i21 : x0.toInt = 2 := kz_eq c21
        refine lv_aload_n C.1 C.2.1 dX3_tell_24 rfl (lv_at hl 0 rfl) ?_
        refine k_get C Wd KX3 0 2 rfl (by decide) fl_X3_28 rfl dX3_tell_25 ?_
        exact k_zretP C hr hlk rfl trivial dX3_tell_28
    · have i11 : x0.toInt = 1 := kz_eq c11
      refine lv_aload_n C.1 C.2.1 dX3_tell_14 rfl (lv_at hl 0 rfl) ?_
      refine k_get C Wd KX3 0 3 rfl (by decide) fl_X3_35 rfl dX3_tell_15 ?_
      exact k_zretP C hr hlk rfl trivial dX3_tell_18
  · have i1 : x0.toInt = 0 := kz_eq c1
    refine lv_aload_n C.1 C.2.1 dX3_tell_4 rfl (lv_at hl 0 rfl) ?_
    refine k_get C Wd KX3 0 4 rfl (by decide) fl_X3_42 rfl dX3_tell_5 ?_
    exact k_zretP C hr hlk rfl trivial dX3_tell_8
set_option maxHeartbeats 4000000 in
set_option maxRecDepth 100000 in
theorem sX2_verdict (l : Launch) (D : va_G) (h : Nat) (h_0 : Int32) (h_1 : Int32) (h_2 : Int32) (h_3 : Int32) (h_4 : Nat) (h_5 : Nat) (sz : Nat) : Met l yX2_verdict (Cond.code yX2_verdict cX2_verdict 1 (some .int) :: gG) { frames := 1, cells := 0, slots := 0, locals := 64 } (cPre D [] [(h, .inr (2, [.int h_0, .int h_1, .int h_2, .int h_3, .ref h_4, .ref h_5]))] sz [.ref h]) (vp_Si (fun r => 0 ≤ r.toInt ∧ r.toInt ≤ 2)) 0 0 (fun _ => False) := by
  refine Met.ofW (cc := cX2_verdict) (maxL := 1) (ret := (some .int)) (by decide) rfl ?_
  intro p e s m args below meth c s₁ B hml hv
  obtain ⟨rfl, aks, rfl, Wd⟩ := k_enter hv
  have C : CallFix p m c cX2_verdict 1 s _ gG RX2 := ⟨B.exec, B.bytes, hml, findClass_of_methodNamed B.named, fun w h => atoms_spec (ws := Cond.code yX2_verdict cX2_verdict 1 (some .int) :: gG) B.pre w (List.mem_cons_of_mem _ h)⟩
  have hr := B.returns
  have hlk := B.notSynchronized
  obtain ⟨A, Wd⟩ : ∃ A, wX D [] s [(h, .inr (2, [.int h_0, .int h_1, .int h_2, .int h_3, .ref h_4, .ref h_5]))] s.heap A s.heap [] := ⟨_, Wd⟩
  refine k_locals (Nat.le_of_ble_eq_true rfl) [(0, .ref h)] rfl (fun ls hl => ?_)
  refine lv_aload_n C.1 C.2.1 dX2_verdict_0 rfl (lv_at hl 0 rfl) ?_
  refine k_get C Wd KX2 0 2 rfl (by decide) fl_X2_28 rfl dX2_verdict_1 ?_
  refine k_cutA (fun (j23_S_0 : Int32) H locs ls => 0 ≤ j23_S_0.toInt ∧ j23_S_0.toInt ≤ 2 ∧ H = s.heap ∧ locs = [] ∧ wX D [] s [(h, .inr (2, [.int h_0, .int h_1, .int h_2, .int h_3, .ref h_4, .ref h_5]))] H A s.heap locs ∧ lv_has ls 1 [(0, .ref h)]) (fun (j23_S_0 : Int32) ls => F0 m 23 ls [.int j23_S_0]) (fun j23_S_0 H locs ls hi => ?_) (fun J23 => ?_)
  · obtain ⟨i23_0, i23_1, rfl, rfl, Wd, hl⟩ := hi
    exact k_zretP C hr hlk rfl (by exact ⟨by omega, by omega⟩) dX2_verdict_23
  refine lv_if_le (tgt := 11) C.1 C.2.1 dX2_verdict_4 (by decide) (fun c4 => ?_) (fun c4 => ?_)
  · have i4 : h_2.toInt ≤ 0 := kz_le c4
    refine lv_aload_n C.1 C.2.1 dX2_verdict_11 rfl (lv_at hl 0 rfl) ?_
    refine k_get C Wd KX2 0 3 rfl (by decide) fl_X2_31 rfl dX2_verdict_12 ?_
    refine lv_if_eq (tgt := 22) C.1 C.2.1 dX2_verdict_15 (by decide) (fun c15 => ?_) (fun c15 => ?_)
    · have i15 : h_3.toInt = 0 := kz_eq c15
      refine lv_iconst (v := 0) C.1 C.2.1 dX2_verdict_22 (by decide) ?_
      exact J23 0 _ _ _ ⟨by have zq0 : (0 : Int32).toInt = 0 := (by decide); omega, by have zq0 : (0 : Int32).toInt = 0 := (by decide); omega, rfl, rfl, Wd, lv_sub hl [0] rfl⟩
    · have i15 : ¬ h_3.toInt = 0 := kz_ne c15
      refine lv_iconst (v := 2) C.1 C.2.1 dX2_verdict_18 (by decide) ?_
      refine lv_goto (tgt := 23) C.1 C.2.1 dX2_verdict_19 (by decide) ?_
      exact J23 2 _ _ _ ⟨by have zq2 : (2 : Int32).toInt = 2 := (by decide); omega, by have zq2 : (2 : Int32).toInt = 2 := (by decide); omega, rfl, rfl, Wd, lv_sub hl [0] rfl⟩
  · have i4 : 0 < h_2.toInt := kz_nle c4
    refine lv_iconst (v := 1) C.1 C.2.1 dX2_verdict_7 (by decide) ?_
    refine lv_goto (tgt := 23) C.1 C.2.1 dX2_verdict_8 (by decide) ?_
    exact J23 1 _ _ _ ⟨by have zq1 : (1 : Int32).toInt = 1 := (by decide); omega, by have zq1 : (1 : Int32).toInt = 1 := (by decide); omega, rfl, rfl, Wd, lv_sub hl [0] rfl⟩
set_option maxHeartbeats 4000000 in
set_option maxRecDepth 100000 in
theorem sX2_placeThatDiffers (l : Launch) (D : va_G) (h : Nat) (h_0 : Int32) (h_1 : Int32) (h_2 : Int32) (h_3 : Int32) (h_4 : Nat) (h_5 : Nat) (h_4_0 : Nat) (h_4_1 : Nat) (h_4_2 : Int32) (h_4_3 : Int32) (h_4_4 : Int32) (h_4_5 : Nat) (h_4_6 : Nat) (h_5_0 : Nat) (h_5_1 : Nat) (h_5_2 : Int32) (h_5_3 : Int32) (h_5_4 : Int32) (h_5_5 : Nat) (h_5_6 : Nat) (a_h_4_1 : ClassId) (f_h_4_1 : Nat → Int32) (a_h_5_1 : ClassId) (f_h_5_1 : Nat → Int32) (sz : Nat) : Met l yX2_placeThatDiffers (Cond.code yX2_placeThatDiffers cX2_placeThatDiffers 3 (some .int) :: gG) { frames := 2, cells := 0, slots := 0, locals := 85 } (cPre D [(a_h_4_1, .int), (a_h_5_1, .int)] [(h, .inr (2, [.int h_0, .int h_1, .int h_2, .int h_3, .ref h_4, .ref h_5])), (h_4, .inr (3, [.ref h_4_0, .ref h_4_1, .int h_4_2, .int h_4_3, .int h_4_4, .ref h_4_5, .ref h_4_6])), (h_5, .inr (3, [.ref h_5_0, .ref h_5_1, .int h_5_2, .int h_5_3, .int h_5_4, .ref h_5_5, .ref h_5_6])), (h_4_1, .inl (a_h_4_1, 100, .inl f_h_4_1)), (h_5_1, .inl (a_h_5_1, 100, .inl f_h_5_1))] sz [.ref h]) (vp_Si (fun r => -1 ≤ r.toInt)) 0 0 (fun _ => False) := by
  refine Met.ofW (cc := cX2_placeThatDiffers) (maxL := 3) (ret := (some .int)) (by decide) rfl ?_
  intro p e s m args below meth c s₁ B hml hv
  obtain ⟨rfl, aks, rfl, Wd⟩ := k_enter hv
  have C : CallFix p m c cX2_placeThatDiffers 3 s _ gG RX2 := ⟨B.exec, B.bytes, hml, findClass_of_methodNamed B.named, fun w h => atoms_spec (ws := Cond.code yX2_placeThatDiffers cX2_placeThatDiffers 3 (some .int) :: gG) B.pre w (List.mem_cons_of_mem _ h)⟩
  have hr := B.returns
  have hlk := B.notSynchronized
  obtain ⟨A, Wd⟩ : ∃ A, wX D [(a_h_4_1, .int), (a_h_5_1, .int)] s [(h, .inr (2, [.int h_0, .int h_1, .int h_2, .int h_3, .ref h_4, .ref h_5])), (h_4, .inr (3, [.ref h_4_0, .ref h_4_1, .int h_4_2, .int h_4_3, .int h_4_4, .ref h_4_5, .ref h_4_6])), (h_5, .inr (3, [.ref h_5_0, .ref h_5_1, .int h_5_2, .int h_5_3, .int h_5_4, .ref h_5_5, .ref h_5_6])), (h_4_1, .inl (a_h_4_1, 100, .inl f_h_4_1)), (h_5_1, .inl (a_h_5_1, 100, .inl f_h_5_1))] s.heap A s.heap [] := ⟨_, Wd⟩
  refine k_locals (Nat.le_of_ble_eq_true rfl) [(0, .ref h)] rfl (fun ls hl => ?_)
  refine lv_aload_n C.1 C.2.1 dX2_placeThatDiffers_0 rfl (lv_at hl 0 rfl) ?_
  refine k_get C Wd KX2 0 4 rfl (by decide) fl_X2_12 rfl dX2_placeThatDiffers_1 ?_
  refine k_get C Wd KX3 1 2 rfl (by decide) fl_X2_64 rfl dX2_placeThatDiffers_4 ?_
  refine lv_aload_n C.1 C.2.1 dX2_placeThatDiffers_7 rfl (lv_at hl 0 rfl) ?_
  refine k_get C Wd KX2 0 5 rfl (by decide) fl_X2_18 rfl dX2_placeThatDiffers_8 ?_
  refine k_get C Wd KX3 2 2 rfl (by decide) fl_X2_64 rfl dX2_placeThatDiffers_11 ?_
  obtain ⟨v14, ev14⟩ : ∃ z : Int32, (if h_5_2 < h_4_2 then h_5_2 else h_4_2) = z := ⟨_, rfl⟩
  have iv14 : v14.toInt ≤ h_4_2.toInt ∧ v14.toInt ≤ h_5_2.toInt ∧ (v14.toInt = h_4_2.toInt ∨ v14.toInt = h_5_2.toInt) := kz_min ev14
  refine k_mmin (v := v14) C hl.1 ml_X2_70 st_Lib_Math_min_name in_J9 cd_min (Nat.le_of_ble_eq_true rfl) (Nat.le_of_ble_eq_true rfl) (Nat.le_of_ble_eq_true rfl) (Nat.le_of_ble_eq_true rfl) ev14 dX2_placeThatDiffers_14 ?_
  refine lv_istore_n (lv' := [(1, .int v14), (0, .ref h)]) C.1 C.2.1 dX2_placeThatDiffers_17 rfl hl (by decide) rfl (fun ls hl => ?_)
  refine lv_iconst (v := 0) C.1 C.2.1 dX2_placeThatDiffers_18 (by decide) ?_
  refine lv_istore_n (lv' := [(2, .int 0), (1, .int v14), (0, .ref h)]) C.1 C.2.1 dX2_placeThatDiffers_19 rfl hl (by decide) rfl (fun ls hl => ?_)
  refine k_loopA (fun (j20_L_2 : Int32) H locs ls => 0 ≤ j20_L_2.toInt ∧ H = s.heap ∧ locs = [] ∧ wX D [(a_h_4_1, .int), (a_h_5_1, .int)] s [(h, .inr (2, [.int h_0, .int h_1, .int h_2, .int h_3, .ref h_4, .ref h_5])), (h_4, .inr (3, [.ref h_4_0, .ref h_4_1, .int h_4_2, .int h_4_3, .int h_4_4, .ref h_4_5, .ref h_4_6])), (h_5, .inr (3, [.ref h_5_0, .ref h_5_1, .int h_5_2, .int h_5_3, .int h_5_4, .ref h_5_5, .ref h_5_6])), (h_4_1, .inl (a_h_4_1, 100, .inl f_h_4_1)), (h_5_1, .inl (a_h_5_1, 100, .inl f_h_5_1))] H A s.heap locs ∧ lv_has ls 3 [(2, .int j20_L_2), (1, .int v14), (0, .ref h)]) (fun (j20_L_2 : Int32) ls => F0 m 20 ls []) (fun (j20_L_2 : Int32) => (4294967296 - j20_L_2.toInt).toNat) (fun j20_L_2 H locs ls hi ih20 => ?_) 0 _ _ _ ⟨by have zq0 : (0 : Int32).toInt = 0 := (by decide); omega, rfl, rfl, Wd, lv_sub hl [0, 1, 2] rfl⟩
  obtain ⟨i20_0, rfl, rfl, Wd, hl⟩ := hi
  refine lv_iload_n C.1 C.2.1 dX2_placeThatDiffers_20 rfl (lv_at hl 0 rfl) ?_
  refine lv_iload_n C.1 C.2.1 dX2_placeThatDiffers_21 rfl (lv_at hl 1 rfl) ?_
  refine lv_icmp_ge (tgt := 52) C.1 C.2.1 dX2_placeThatDiffers_22 (by decide) (fun c22 => ?_) (fun c22 => ?_)
  · have i22 : v14.toInt ≤ j20_L_2.toInt := kz_le c22
    refine lv_iconst (v := (-1)) C.1 C.2.1 dX2_placeThatDiffers_52 (by decide) ?_
    exact k_zretP C hr hlk rfl (by have zqm1 : (-1 : Int32).toInt = -1 := (by decide); omega) dX2_placeThatDiffers_53
  · have i22 : j20_L_2.toInt < v14.toInt := kz_nle c22
    refine lv_aload_n C.1 C.2.1 dX2_placeThatDiffers_25 rfl (lv_at hl 2 rfl) ?_
    refine k_get C Wd KX2 0 4 rfl (by decide) fl_X2_12 rfl dX2_placeThatDiffers_26 ?_
    refine lv_iload_n C.1 C.2.1 dX2_placeThatDiffers_29 rfl (lv_at hl 0 rfl) ?_
    refine k_pi (k_runV (rest := []) C aks Wd cs_X2_76 (sX3_output l D h_4 j20_L_2 h_4_0 h_4_1 h_4_2 h_4_3 h_4_4 h_4_5 h_4_6 a_h_4_1 f_h_4_1 _ ) [1, 3] rfl (by decide) [0] rfl 1 3 rfl rfl rfl rfl rfl ⟨(Nat.le_of_ble_eq_true rfl), (Nat.le_of_ble_eq_true rfl)⟩ hl.1 rfl rfl (Nat.le_of_ble_eq_true rfl) ⟨(Nat.le_of_ble_eq_true rfl), (Nat.le_of_ble_eq_true rfl)⟩ dX2_placeThatDiffers_30) (fun r30 w30 => ?_)
    refine lv_aload_n C.1 C.2.1 dX2_placeThatDiffers_33 rfl (lv_at hl 2 rfl) ?_
    refine k_get C Wd KX2 0 5 rfl (by decide) fl_X2_18 rfl dX2_placeThatDiffers_34 ?_
    refine lv_iload_n C.1 C.2.1 dX2_placeThatDiffers_37 rfl (lv_at hl 0 rfl) ?_
    refine k_pi (k_runV (rest := [.int r30]) C aks Wd cs_X2_76 (sX3_output l D h_5 j20_L_2 h_5_0 h_5_1 h_5_2 h_5_3 h_5_4 h_5_5 h_5_6 a_h_5_1 f_h_5_1 _ ) [2, 4] rfl (by decide) [1] rfl 2 3 rfl rfl rfl rfl rfl ⟨(Nat.le_of_ble_eq_true rfl), (Nat.le_of_ble_eq_true rfl)⟩ hl.1 rfl rfl (Nat.le_of_ble_eq_true rfl) ⟨(Nat.le_of_ble_eq_true rfl), (Nat.le_of_ble_eq_true rfl)⟩ dX2_placeThatDiffers_38) (fun r38 w38 => ?_)
    refine lv_icmp_eq (tgt := 46) C.1 C.2.1 dX2_placeThatDiffers_41 (by decide) (fun c41 => ?_) (fun c41 => ?_)
    · have i41 : r30.toInt = r38.toInt := kz_eq c41
      obtain ⟨v46, ev46⟩ : ∃ z : Int32, j20_L_2 + 1 = z := ⟨_, rfl⟩
      have iv46 : v46.toInt = j20_L_2.toInt + 1 := kz_addc ev46 (by decide) (by omega) (by omega)
      refine lv_iinc (v := v46) (lv' := [(2, .int v46), (1, .int v14), (0, .ref h)]) C.1 C.2.1 dX2_placeThatDiffers_46 hl (k := 0) rfl ev46 (by decide) rfl (fun ls hl => ?_)
      refine lv_goto (tgt := 20) C.1 C.2.1 dX2_placeThatDiffers_49 (by decide) ?_
      exact ih20 v46 _ _ _ ⟨by omega, rfl, rfl, Wd, lv_sub hl [0, 1, 2] rfl⟩ (by omega)
    · have i41 : ¬ r30.toInt = r38.toInt := kz_ne c41
      refine lv_iload_n C.1 C.2.1 dX2_placeThatDiffers_44 rfl (lv_at hl 0 rfl) ?_
      exact k_zretP C hr hlk rfl (by omega) dX2_placeThatDiffers_45
set_option maxHeartbeats 4000000 in
set_option maxRecDepth 100000 in
theorem sX2_note (l : Launch) (D : va_G) (h : Nat) (x0 : Int32) (x1 : Int32) (h_0 : Int32) (h_1 : Int32) (h_2 : Int32) (h_3 : Int32) (h_4 : Nat) (h_5 : Nat) (h_4_0 : Nat) (h_4_1 : Nat) (h_4_2 : Int32) (h_4_3 : Int32) (h_4_4 : Int32) (h_4_5 : Nat) (h_4_6 : Nat) (h_5_0 : Nat) (h_5_1 : Nat) (h_5_2 : Int32) (h_5_3 : Int32) (h_5_4 : Int32) (h_5_5 : Nat) (h_5_6 : Nat) (a_h_4_1 : ClassId) (f_h_4_1 : Nat → Int32) (a_h_5_1 : ClassId) (f_h_5_1 : Nat → Int32) (sz : Nat) : Met l yX2_note (Cond.code yX2_note cX2_note 6 none :: gG) { frames := 3, cells := 0, slots := 0, locals := 107 } (cPre D [(a_h_4_1, .int), (a_h_5_1, .int)] [(h, .inr (2, [.int h_0, .int h_1, .int h_2, .int h_3, .ref h_4, .ref h_5])), (h_4, .inr (3, [.ref h_4_0, .ref h_4_1, .int h_4_2, .int h_4_3, .int h_4_4, .ref h_4_5, .ref h_4_6])), (h_5, .inr (3, [.ref h_5_0, .ref h_5_1, .int h_5_2, .int h_5_3, .int h_5_4, .ref h_5_5, .ref h_5_6])), (h_4_1, .inl (a_h_4_1, 100, .inl f_h_4_1)), (h_5_1, .inl (a_h_5_1, 100, .inl f_h_5_1))] sz [.ref h, .int x0, .int x1]) (va_Qv (fun (u : (Int32) × (Int32) × (Int32) × (Int32)) => match u with | (jX_F_h_3, jX_F_h_0, jX_F_h_1, jX_F_h_2) => 0 ≤ jX_F_h_3.toInt ∧ jX_F_h_3.toInt ≤ 1) (fun u t => cB D (va_A [(h, .inr (2, [.int h_0, .int h_1, .int h_2, .int h_3, .ref h_4, .ref h_5])), (h_4, .inr (3, [.ref h_4_0, .ref h_4_1, .int h_4_2, .int h_4_3, .int h_4_4, .ref h_4_5, .ref h_4_6])), (h_5, .inr (3, [.ref h_5_0, .ref h_5_1, .int h_5_2, .int h_5_3, .int h_5_4, .ref h_5_5, .ref h_5_6])), (h_4_1, .inl (a_h_4_1, 100, .inl f_h_4_1)), (h_5_1, .inl (a_h_5_1, 100, .inl f_h_5_1))] sz) ((fun (_ : (Int32) × (Int32) × (Int32) × (Int32)) => ([] : List (ClassId × FieldType))) u) ((fun (u : (Int32) × (Int32) × (Int32) × (Int32)) => match u with | (jX_F_h_3, jX_F_h_0, jX_F_h_1, jX_F_h_2) => ([(h, .inr (2, [.int jX_F_h_0, .int jX_F_h_1, .int jX_F_h_2, .int jX_F_h_3, .ref h_4, .ref h_5])), (h_4, .inr (3, [.ref h_4_0, .ref h_4_1, .int h_4_2, .int h_4_3, .int h_4_4, .ref h_4_5, .ref h_4_6])), (h_5, .inr (3, [.ref h_5_0, .ref h_5_1, .int h_5_2, .int h_5_3, .int h_5_4, .ref h_5_5, .ref h_5_6])), (h_4_1, .inl (a_h_4_1, 100, .inl f_h_4_1)), (h_5_1, .inl (a_h_5_1, 100, .inl f_h_5_1))] : va_W)) u) t) (va_A [(h, .inr (2, [.int h_0, .int h_1, .int h_2, .int h_3, .ref h_4, .ref h_5])), (h_4, .inr (3, [.ref h_4_0, .ref h_4_1, .int h_4_2, .int h_4_3, .int h_4_4, .ref h_4_5, .ref h_4_6])), (h_5, .inr (3, [.ref h_5_0, .ref h_5_1, .int h_5_2, .int h_5_3, .int h_5_4, .ref h_5_5, .ref h_5_6])), (h_4_1, .inl (a_h_4_1, 100, .inl f_h_4_1)), (h_5_1, .inl (a_h_5_1, 100, .inl f_h_5_1))] sz)) 0 0 (va_A [(h, .inr (2, [.int h_0, .int h_1, .int h_2, .int h_3, .ref h_4, .ref h_5])), (h_4, .inr (3, [.ref h_4_0, .ref h_4_1, .int h_4_2, .int h_4_3, .int h_4_4, .ref h_4_5, .ref h_4_6])), (h_5, .inr (3, [.ref h_5_0, .ref h_5_1, .int h_5_2, .int h_5_3, .int h_5_4, .ref h_5_5, .ref h_5_6])), (h_4_1, .inl (a_h_4_1, 100, .inl f_h_4_1)), (h_5_1, .inl (a_h_5_1, 100, .inl f_h_5_1))] sz) := by
  refine Met.ofW (cc := cX2_note) (maxL := 6) (ret := none) (by decide) rfl ?_
  intro p e s m args below meth c s₁ B hml hv
  obtain ⟨rfl, aks, rfl, Wd⟩ := k_enter hv
  have C : CallFix p m c cX2_note 6 s _ gG RX2 := ⟨B.exec, B.bytes, hml, findClass_of_methodNamed B.named, fun w h => atoms_spec (ws := Cond.code yX2_note cX2_note 6 none :: gG) B.pre w (List.mem_cons_of_mem _ h)⟩
  have hr := B.returns
  have hlk := B.notSynchronized
  generalize va_A [(h, .inr (2, [.int h_0, .int h_1, .int h_2, .int h_3, .ref h_4, .ref h_5])), (h_4, .inr (3, [.ref h_4_0, .ref h_4_1, .int h_4_2, .int h_4_3, .int h_4_4, .ref h_4_5, .ref h_4_6])), (h_5, .inr (3, [.ref h_5_0, .ref h_5_1, .int h_5_2, .int h_5_3, .int h_5_4, .ref h_5_5, .ref h_5_6])), (h_4_1, .inl (a_h_4_1, 100, .inl f_h_4_1)), (h_5_1, .inl (a_h_5_1, 100, .inl f_h_5_1))] s.heap.size = A at Wd ⊢
  refine k_locals (Nat.le_of_ble_eq_true rfl) [(0, .ref h), (1, .int x0), (2, .int x1)] rfl (fun ls hl => ?_)
  refine lv_aload_n C.1 C.2.1 dX2_note_0 rfl (lv_at hl 0 rfl) ?_
  refine k_pi (k_runV (rest := []) C aks Wd cs_X2_56 (sX2_placeThatDiffers l D h h_0 h_1 h_2 h_3 h_4 h_5 h_4_0 h_4_1 h_4_2 h_4_3 h_4_4 h_4_5 h_4_6 h_5_0 h_5_1 h_5_2 h_5_3 h_5_4 h_5_5 h_5_6 a_h_4_1 f_h_4_1 a_h_5_1 f_h_5_1 _ ) [0, 1, 2, 3, 4] rfl (by decide) [0, 1] rfl 0 2 rfl rfl rfl rfl rfl ⟨(Nat.le_of_ble_eq_true rfl), (Nat.le_of_ble_eq_true rfl)⟩ hl.1 rfl rfl (Nat.le_of_ble_eq_true rfl) ⟨(Nat.le_of_ble_eq_true rfl), (Nat.le_of_ble_eq_true rfl)⟩ dX2_note_1) (fun r1 w1 => ?_)
  obtain g1_0 := w1
  have g1_0 : -1 ≤ r1.toInt := g1_0
  refine lv_istore_n (lv' := [(3, .int r1), (0, .ref h), (1, .int x0), (2, .int x1)]) C.1 C.2.1 dX2_note_4 rfl hl (by decide) rfl (fun ls hl => ?_)
  refine lv_aload_n C.1 C.2.1 dX2_note_5 rfl (lv_at hl 1 rfl) ?_
  refine k_get C Wd KX2 0 4 rfl (by decide) fl_X2_12 rfl dX2_note_6 ?_
  refine k_pi (k_runV (rest := []) C aks Wd cs_X2_60 (sX3_isTired l D h_4 h_4_0 h_4_1 h_4_2 h_4_3 h_4_4 h_4_5 h_4_6 _ ) [1] rfl (by decide) [] rfl 1 3 rfl rfl rfl rfl rfl ⟨(Nat.le_of_ble_eq_true rfl), (Nat.le_of_ble_eq_true rfl)⟩ hl.1 rfl rfl (Nat.le_of_ble_eq_true rfl) ⟨(Nat.le_of_ble_eq_true rfl), (Nat.le_of_ble_eq_true rfl)⟩ dX2_note_9) (fun r9 w9 => ?_)
  obtain ⟨g9_0, g9_1⟩ := w9
  have g9_0 : 0 ≤ r9.toInt := g9_0
  have g9_1 : r9.toInt ≤ 1 := g9_1
  refine k_cutA (fun (j30_S_0 : Int32) H locs ls => 0 ≤ j30_S_0.toInt ∧ j30_S_0.toInt ≤ 1 ∧ r9.toInt ≤ j30_S_0.toInt ∧ wX D [(a_h_4_1, .int), (a_h_5_1, .int)] s [(h, .inr (2, [.int h_0, .int h_1, .int h_2, .int h_3, .ref h_4, .ref h_5])), (h_4, .inr (3, [.ref h_4_0, .ref h_4_1, .int h_4_2, .int h_4_3, .int h_4_4, .ref h_4_5, .ref h_4_6])), (h_5, .inr (3, [.ref h_5_0, .ref h_5_1, .int h_5_2, .int h_5_3, .int h_5_4, .ref h_5_5, .ref h_5_6])), (h_4_1, .inl (a_h_4_1, 100, .inl f_h_4_1)), (h_5_1, .inl (a_h_5_1, 100, .inl f_h_5_1))] H A s.heap locs ∧ lv_has ls 6 [(3, .int r1), (0, .ref h), (1, .int x0), (2, .int x1)]) (fun (j30_S_0 : Int32) ls => F0 m 30 ls [.int j30_S_0]) (fun j30_S_0 H locs ls hi => ?_) (fun J30 => ?_)
  · obtain ⟨i30_0, i30_1, i30_2, Wd, hl⟩ := hi
    refine lv_istore (lv' := [(4, .int j30_S_0), (3, .int r1), (0, .ref h), (1, .int x0), (2, .int x1)]) C.1 C.2.1 dX2_note_30 hl (by decide) rfl (fun ls hl => ?_)
    refine lv_aload_n C.1 C.2.1 dX2_note_32 rfl (lv_at hl 2 rfl) ?_
    refine k_get C Wd KX2 0 4 rfl (by decide) fl_X2_12 rfl dX2_note_33 ?_
    refine k_get C Wd KX3 1 2 rfl (by decide) fl_X2_64 rfl dX2_note_36 ?_
    refine lv_aload_n C.1 C.2.1 dX2_note_39 rfl (lv_at hl 2 rfl) ?_
    refine k_get C Wd KX2 0 5 rfl (by decide) fl_X2_18 rfl dX2_note_40 ?_
    refine k_get C Wd KX3 2 2 rfl (by decide) fl_X2_64 rfl dX2_note_43 ?_
    refine k_cutA (fun (j71_S_0 : Int32) H locs ls => 0 ≤ j71_S_0.toInt ∧ j71_S_0.toInt ≤ 1 ∧ wX D [(a_h_4_1, .int), (a_h_5_1, .int)] s [(h, .inr (2, [.int h_0, .int h_1, .int h_2, .int h_3, .ref h_4, .ref h_5])), (h_4, .inr (3, [.ref h_4_0, .ref h_4_1, .int h_4_2, .int h_4_3, .int h_4_4, .ref h_4_5, .ref h_4_6])), (h_5, .inr (3, [.ref h_5_0, .ref h_5_1, .int h_5_2, .int h_5_3, .int h_5_4, .ref h_5_5, .ref h_5_6])), (h_4_1, .inl (a_h_4_1, 100, .inl f_h_4_1)), (h_5_1, .inl (a_h_5_1, 100, .inl f_h_5_1))] H A s.heap locs ∧ lv_has ls 6 [(4, .int j30_S_0), (3, .int r1), (0, .ref h), (1, .int x0), (2, .int x1)]) (fun (j71_S_0 : Int32) ls => F0 m 71 ls [.int j71_S_0]) (fun j71_S_0 H locs ls hi => ?_) (fun J71 => ?_)
    · obtain ⟨i71_0, i71_1, Wd, hl⟩ := hi
      refine lv_istore (lv' := [(5, .int j71_S_0), (4, .int j30_S_0), (3, .int r1), (0, .ref h), (1, .int x0), (2, .int x1)]) C.1 C.2.1 dX2_note_71 hl (by decide) rfl (fun ls hl => ?_)
      refine lv_aload_n C.1 C.2.1 dX2_note_73 rfl (lv_at hl 3 rfl) ?_
      refine lv_aload_n C.1 C.2.1 dX2_note_74 rfl (lv_at hl 3 rfl) ?_
      refine k_get C Wd KX2 0 3 rfl (by decide) fl_X2_31 rfl dX2_note_75 ?_
      refine k_cutA (fun (j91_S_0 : Int32) H locs ls => 0 ≤ j91_S_0.toInt ∧ j91_S_0.toInt ≤ 1 ∧ j30_S_0.toInt ≤ j91_S_0.toInt ∧ wX D [(a_h_4_1, .int), (a_h_5_1, .int)] s [(h, .inr (2, [.int h_0, .int h_1, .int h_2, .int h_3, .ref h_4, .ref h_5])), (h_4, .inr (3, [.ref h_4_0, .ref h_4_1, .int h_4_2, .int h_4_3, .int h_4_4, .ref h_4_5, .ref h_4_6])), (h_5, .inr (3, [.ref h_5_0, .ref h_5_1, .int h_5_2, .int h_5_3, .int h_5_4, .ref h_5_5, .ref h_5_6])), (h_4_1, .inl (a_h_4_1, 100, .inl f_h_4_1)), (h_5_1, .inl (a_h_5_1, 100, .inl f_h_5_1))] H A s.heap locs ∧ lv_has ls 6 [(5, .int j71_S_0), (4, .int j30_S_0), (3, .int r1), (0, .ref h), (1, .int x0), (2, .int x1)]) (fun (j91_S_0 : Int32) ls => F0 m 91 ls [.int j91_S_0, .ref h]) (fun j91_S_0 H locs ls hi => ?_) (fun J91 => ?_)
      · obtain ⟨i91_0, i91_1, i91_2, Wd, hl⟩ := hi
        refine k_put C Wd KX2 0 3 [(h, .inr (2, [.int h_0, .int h_1, .int h_2, .int j91_S_0, .ref h_4, .ref h_5])), (h_4, .inr (3, [.ref h_4_0, .ref h_4_1, .int h_4_2, .int h_4_3, .int h_4_4, .ref h_4_5, .ref h_4_6])), (h_5, .inr (3, [.ref h_5_0, .ref h_5_1, .int h_5_2, .int h_5_3, .int h_5_4, .ref h_5_5, .ref h_5_6])), (h_4_1, .inl (a_h_4_1, 100, .inl f_h_4_1)), (h_5_1, .inl (a_h_5_1, 100, .inl f_h_5_1))] rfl (by decide) fl_X2_31 rfl (k_nb (by omega) (by omega)) (k_fb (by omega) (by omega)) (Nat.le_of_ble_eq_true rfl) rfl dX2_note_91 (fun H locs Wd => ?_)
        refine lv_iload_n C.1 C.2.1 dX2_note_94 rfl (lv_at hl 2 rfl) ?_
        refine lv_iconst (v := (-1)) C.1 C.2.1 dX2_note_95 (by decide) ?_
        refine k_cutA (fun (_ : Unit) H locs ls => wX D [(a_h_4_1, .int), (a_h_5_1, .int)] s [(h, .inr (2, [.int h_0, .int h_1, .int h_2, .int j91_S_0, .ref h_4, .ref h_5])), (h_4, .inr (3, [.ref h_4_0, .ref h_4_1, .int h_4_2, .int h_4_3, .int h_4_4, .ref h_4_5, .ref h_4_6])), (h_5, .inr (3, [.ref h_5_0, .ref h_5_1, .int h_5_2, .int h_5_3, .int h_5_4, .ref h_5_5, .ref h_5_6])), (h_4_1, .inl (a_h_4_1, 100, .inl f_h_4_1)), (h_5_1, .inl (a_h_5_1, 100, .inl f_h_5_1))] H A s.heap locs ∧ lv_has ls 6 [(5, .int j71_S_0), (4, .int j30_S_0), (3, .int r1), (0, .ref h), (1, .int x0), (2, .int x1)]) (fun (_ : Unit) ls => F0 m 110 ls []) (fun _ H locs ls hi => ?_) (fun J110 => ?_)
        · obtain ⟨Wd, hl⟩ := hi
          refine lv_aload_n C.1 C.2.1 dX2_note_110 rfl (lv_at hl 3 rfl) ?_
          refine k_get C Wd KX2 0 2 rfl (by decide) fl_X2_28 rfl dX2_note_111 ?_
          refine k_cutA (fun (u : (Int32) × (Int32)) H locs ls => match u with | (j127_F_h_0, j127_F_h_1) => wX D [(a_h_4_1, .int), (a_h_5_1, .int)] s [(h, .inr (2, [.int j127_F_h_0, .int j127_F_h_1, .int h_2, .int j91_S_0, .ref h_4, .ref h_5])), (h_4, .inr (3, [.ref h_4_0, .ref h_4_1, .int h_4_2, .int h_4_3, .int h_4_4, .ref h_4_5, .ref h_4_6])), (h_5, .inr (3, [.ref h_5_0, .ref h_5_1, .int h_5_2, .int h_5_3, .int h_5_4, .ref h_5_5, .ref h_5_6])), (h_4_1, .inl (a_h_4_1, 100, .inl f_h_4_1)), (h_5_1, .inl (a_h_5_1, 100, .inl f_h_5_1))] H A s.heap locs ∧ lv_has ls 6 [(5, .int j71_S_0), (4, .int j30_S_0), (3, .int r1), (0, .ref h), (1, .int x0), (2, .int x1)]) (fun (u : (Int32) × (Int32)) ls => match u with | (j127_F_h_0, j127_F_h_1) => F0 m 127 ls []) (fun u H locs ls hi => ?_) (fun J127 => ?_)
          · obtain ⟨j127_F_h_0, j127_F_h_1⟩ := u
            obtain ⟨Wd, hl⟩ := hi
            refine lv_aload_n C.1 C.2.1 dX2_note_127 rfl (lv_at hl 3 rfl) ?_
            refine lv_dup C.1 C.2.1 dX2_note_128 rfl ?_
            refine k_get C Wd KX2 0 2 rfl (by decide) fl_X2_28 rfl dX2_note_129 ?_
            refine lv_iload_n C.1 C.2.1 dX2_note_132 rfl (lv_at hl 5 rfl) ?_
            obtain ⟨v133, ev133⟩ : ∃ z : Int32, h_2 + x1 = z := ⟨_, rfl⟩
            refine k_iadd (v := v133) C ev133 dX2_note_133 ?_
            refine k_put C Wd KX2 0 2 [(h, .inr (2, [.int j127_F_h_0, .int j127_F_h_1, .int v133, .int j91_S_0, .ref h_4, .ref h_5])), (h_4, .inr (3, [.ref h_4_0, .ref h_4_1, .int h_4_2, .int h_4_3, .int h_4_4, .ref h_4_5, .ref h_4_6])), (h_5, .inr (3, [.ref h_5_0, .ref h_5_1, .int h_5_2, .int h_5_3, .int h_5_4, .ref h_5_5, .ref h_5_6])), (h_4_1, .inl (a_h_4_1, 100, .inl f_h_4_1)), (h_5_1, .inl (a_h_5_1, 100, .inl f_h_5_1))] rfl (by decide) fl_X2_28 rfl rfl rfl (Nat.le_of_ble_eq_true rfl) rfl dX2_note_134 (fun H locs Wd => ?_)
            exact k_vret C hr hlk Wd (j91_S_0, j127_F_h_0, j127_F_h_1, v133) (by exact ⟨by omega, by omega⟩) [0, 1, 2, 3, 4] rfl (by decide) [] rfl (by decide) (by decide) dX2_note_137
          refine lv_if_ne (tgt := 127) C.1 C.2.1 dX2_note_114 (by decide) (fun c114 => ?_) (fun c114 => ?_)
          · have i114 : ¬ h_2.toInt = 0 := kz_ne c114
            exact J127 (h_0, h_1) _ _ _ ⟨Wd, lv_sub hl [0, 1, 2, 3, 4, 5] rfl⟩
          · have i114 : h_2.toInt = 0 := kz_eq c114
            refine lv_aload_n C.1 C.2.1 dX2_note_117 rfl (lv_at hl 3 rfl) ?_
            refine lv_iload_n C.1 C.2.1 dX2_note_118 rfl (lv_at hl 4 rfl) ?_
            refine k_put C Wd KX2 0 0 [(h, .inr (2, [.int x0, .int h_1, .int h_2, .int j91_S_0, .ref h_4, .ref h_5])), (h_4, .inr (3, [.ref h_4_0, .ref h_4_1, .int h_4_2, .int h_4_3, .int h_4_4, .ref h_4_5, .ref h_4_6])), (h_5, .inr (3, [.ref h_5_0, .ref h_5_1, .int h_5_2, .int h_5_3, .int h_5_4, .ref h_5_5, .ref h_5_6])), (h_4_1, .inl (a_h_4_1, 100, .inl f_h_4_1)), (h_5_1, .inl (a_h_5_1, 100, .inl f_h_5_1))] rfl (by decide) fl_X2_21 rfl rfl rfl (Nat.le_of_ble_eq_true rfl) rfl dX2_note_119 (fun H locs Wd => ?_)
            refine lv_aload_n C.1 C.2.1 dX2_note_122 rfl (lv_at hl 3 rfl) ?_
            refine lv_iload_n C.1 C.2.1 dX2_note_123 rfl (lv_at hl 2 rfl) ?_
            refine k_put C Wd KX2 0 1 [(h, .inr (2, [.int x0, .int r1, .int h_2, .int j91_S_0, .ref h_4, .ref h_5])), (h_4, .inr (3, [.ref h_4_0, .ref h_4_1, .int h_4_2, .int h_4_3, .int h_4_4, .ref h_4_5, .ref h_4_6])), (h_5, .inr (3, [.ref h_5_0, .ref h_5_1, .int h_5_2, .int h_5_3, .int h_5_4, .ref h_5_5, .ref h_5_6])), (h_4_1, .inl (a_h_4_1, 100, .inl f_h_4_1)), (h_5_1, .inl (a_h_5_1, 100, .inl f_h_5_1))] rfl (by decide) fl_X2_25 rfl rfl rfl (Nat.le_of_ble_eq_true rfl) rfl dX2_note_124 (fun H locs Wd => ?_)
            exact J127 (x0, r1) _ _ _ ⟨Wd, lv_sub hl [0, 1, 2, 3, 4, 5] rfl⟩
        refine lv_icmp_ne (tgt := 110) C.1 C.2.1 dX2_note_96 (by decide) (fun c96 => ?_) (fun c96 => ?_)
        · have i96 : ¬ r1.toInt = (-1) := kz_ne c96
          exact J110 () _ _ _ ⟨Wd, lv_sub hl [0, 1, 2, 3, 4, 5] rfl⟩
        · have i96 : r1.toInt = (-1) := kz_eq c96
          refine lv_iload C.1 C.2.1 dX2_note_99 (lv_at hl 1 rfl) ?_
          refine k_cutA (fun (_ : Unit) H locs ls => wX D [(a_h_4_1, .int), (a_h_5_1, .int)] s [(h, .inr (2, [.int h_0, .int h_1, .int h_2, .int j91_S_0, .ref h_4, .ref h_5])), (h_4, .inr (3, [.ref h_4_0, .ref h_4_1, .int h_4_2, .int h_4_3, .int h_4_4, .ref h_4_5, .ref h_4_6])), (h_5, .inr (3, [.ref h_5_0, .ref h_5_1, .int h_5_2, .int h_5_3, .int h_5_4, .ref h_5_5, .ref h_5_6])), (h_4_1, .inl (a_h_4_1, 100, .inl f_h_4_1)), (h_5_1, .inl (a_h_5_1, 100, .inl f_h_5_1))] H A s.heap locs ∧ lv_has ls 6 [(5, .int j71_S_0), (4, .int j30_S_0), (3, .int r1), (0, .ref h), (1, .int x0), (2, .int x1)]) (fun (_ : Unit) ls => F0 m 109 ls []) (fun _ H locs ls hi => ?_) (fun J109 => ?_)
          · obtain ⟨Wd, hl⟩ := hi
            exact k_vret C hr hlk Wd (j91_S_0, h_0, h_1, h_2) (by exact ⟨by omega, by omega⟩) [0, 1, 2, 3, 4] rfl (by decide) [] rfl (by decide) (by decide) dX2_note_109
          refine lv_if_ne (tgt := 109) C.1 C.2.1 dX2_note_101 (by decide) (fun c101 => ?_) (fun c101 => ?_)
          · have i101 : ¬ j30_S_0.toInt = 0 := kz_ne c101
            exact J109 () _ _ _ ⟨Wd, lv_sub hl [0, 1, 2, 3, 4, 5] rfl⟩
          · have i101 : j30_S_0.toInt = 0 := kz_eq c101
            refine lv_iload C.1 C.2.1 dX2_note_104 (lv_at hl 0 rfl) ?_
            refine lv_if_ne (tgt := 110) C.1 C.2.1 dX2_note_106 (by decide) (fun c106 => ?_) (fun c106 => ?_)
            · have i106 : ¬ j71_S_0.toInt = 0 := kz_ne c106
              exact J110 () _ _ _ ⟨Wd, lv_sub hl [0, 1, 2, 3, 4, 5] rfl⟩
            · have i106 : j71_S_0.toInt = 0 := kz_eq c106
              exact J109 () _ _ _ ⟨Wd, lv_sub hl [0, 1, 2, 3, 4, 5] rfl⟩
      refine k_cutA (fun (_ : Unit) H locs ls => wX D [(a_h_4_1, .int), (a_h_5_1, .int)] s [(h, .inr (2, [.int h_0, .int h_1, .int h_2, .int h_3, .ref h_4, .ref h_5])), (h_4, .inr (3, [.ref h_4_0, .ref h_4_1, .int h_4_2, .int h_4_3, .int h_4_4, .ref h_4_5, .ref h_4_6])), (h_5, .inr (3, [.ref h_5_0, .ref h_5_1, .int h_5_2, .int h_5_3, .int h_5_4, .ref h_5_5, .ref h_5_6])), (h_4_1, .inl (a_h_4_1, 100, .inl f_h_4_1)), (h_5_1, .inl (a_h_5_1, 100, .inl f_h_5_1))] H A s.heap locs ∧ lv_has ls 6 [(5, .int j71_S_0), (4, .int j30_S_0), (3, .int r1), (0, .ref h), (1, .int x0), (2, .int x1)]) (fun (_ : Unit) ls => F0 m 86 ls [.ref h]) (fun _ H locs ls hi => ?_) (fun J86 => ?_)
      · obtain ⟨Wd, hl⟩ := hi
        refine lv_iconst (v := 1) C.1 C.2.1 dX2_note_86 (by decide) ?_
        refine lv_goto (tgt := 91) C.1 C.2.1 dX2_note_87 (by decide) ?_
        exact J91 1 _ _ _ ⟨by have zq1 : (1 : Int32).toInt = 1 := (by decide); omega, by have zq1 : (1 : Int32).toInt = 1 := (by decide); omega, by have zq1 : (1 : Int32).toInt = 1 := (by decide); omega, Wd, lv_sub hl [0, 1, 2, 3, 4, 5] rfl⟩
      refine lv_if_ne (tgt := 86) C.1 C.2.1 dX2_note_78 (by decide) (fun c78 => ?_) (fun c78 => ?_)
      · have i78 : ¬ h_3.toInt = 0 := kz_ne c78
        exact J86 () _ _ _ ⟨Wd, lv_sub hl [0, 1, 2, 3, 4, 5] rfl⟩
      · have i78 : h_3.toInt = 0 := kz_eq c78
        refine lv_iload C.1 C.2.1 dX2_note_81 (lv_at hl 1 rfl) ?_
        refine lv_if_eq (tgt := 90) C.1 C.2.1 dX2_note_83 (by decide) (fun c83 => ?_) (fun c83 => ?_)
        · have i83 : j30_S_0.toInt = 0 := kz_eq c83
          refine lv_iconst (v := 0) C.1 C.2.1 dX2_note_90 (by decide) ?_
          exact J91 0 _ _ _ ⟨by have zq0 : (0 : Int32).toInt = 0 := (by decide); omega, by have zq0 : (0 : Int32).toInt = 0 := (by decide); omega, by have zq0 : (0 : Int32).toInt = 0 := (by decide); omega, Wd, lv_sub hl [0, 1, 2, 3, 4, 5] rfl⟩
        · have i83 : ¬ j30_S_0.toInt = 0 := kz_ne c83
          exact J86 () _ _ _ ⟨Wd, lv_sub hl [0, 1, 2, 3, 4, 5] rfl⟩
    refine k_cutA (fun (_ : Unit) H locs ls => wX D [(a_h_4_1, .int), (a_h_5_1, .int)] s [(h, .inr (2, [.int h_0, .int h_1, .int h_2, .int h_3, .ref h_4, .ref h_5])), (h_4, .inr (3, [.ref h_4_0, .ref h_4_1, .int h_4_2, .int h_4_3, .int h_4_4, .ref h_4_5, .ref h_4_6])), (h_5, .inr (3, [.ref h_5_0, .ref h_5_1, .int h_5_2, .int h_5_3, .int h_5_4, .ref h_5_5, .ref h_5_6])), (h_4_1, .inl (a_h_4_1, 100, .inl f_h_4_1)), (h_5_1, .inl (a_h_5_1, 100, .inl f_h_5_1))] H A s.heap locs ∧ lv_has ls 6 [(4, .int j30_S_0), (3, .int r1), (0, .ref h), (1, .int x0), (2, .int x1)]) (fun (_ : Unit) ls => F0 m 66 ls []) (fun _ H locs ls hi => ?_) (fun J66 => ?_)
    · obtain ⟨Wd, hl⟩ := hi
      refine lv_iconst (v := 1) C.1 C.2.1 dX2_note_66 (by decide) ?_
      refine lv_goto (tgt := 71) C.1 C.2.1 dX2_note_67 (by decide) ?_
      exact J71 1 _ _ _ ⟨by have zq1 : (1 : Int32).toInt = 1 := (by decide); omega, by have zq1 : (1 : Int32).toInt = 1 := (by decide); omega, Wd, lv_sub hl [0, 1, 2, 3, 4] rfl⟩
    refine lv_icmp_ne (tgt := 66) C.1 C.2.1 dX2_note_46 (by decide) (fun c46 => ?_) (fun c46 => ?_)
    · have i46 : ¬ h_4_2.toInt = h_5_2.toInt := kz_ne c46
      exact J66 () _ _ _ ⟨Wd, lv_sub hl [0, 1, 2, 3, 4] rfl⟩
    · have i46 : h_4_2.toInt = h_5_2.toInt := kz_eq c46
      refine lv_aload_n C.1 C.2.1 dX2_note_49 rfl (lv_at hl 2 rfl) ?_
      refine k_get C Wd KX2 0 4 rfl (by decide) fl_X2_12 rfl dX2_note_50 ?_
      refine k_get C Wd KX3 1 4 rfl (by decide) fl_X2_67 rfl dX2_note_53 ?_
      refine lv_aload_n C.1 C.2.1 dX2_note_56 rfl (lv_at hl 2 rfl) ?_
      refine k_get C Wd KX2 0 5 rfl (by decide) fl_X2_18 rfl dX2_note_57 ?_
      refine k_get C Wd KX3 2 4 rfl (by decide) fl_X2_67 rfl dX2_note_60 ?_
      refine lv_icmp_eq (tgt := 70) C.1 C.2.1 dX2_note_63 (by decide) (fun c63 => ?_) (fun c63 => ?_)
      · have i63 : h_4_4.toInt = h_5_4.toInt := kz_eq c63
        refine lv_iconst (v := 0) C.1 C.2.1 dX2_note_70 (by decide) ?_
        exact J71 0 _ _ _ ⟨by have zq0 : (0 : Int32).toInt = 0 := (by decide); omega, by have zq0 : (0 : Int32).toInt = 0 := (by decide); omega, Wd, lv_sub hl [0, 1, 2, 3, 4] rfl⟩
      · have i63 : ¬ h_4_4.toInt = h_5_4.toInt := kz_ne c63
        exact J66 () _ _ _ ⟨Wd, lv_sub hl [0, 1, 2, 3, 4] rfl⟩
  refine k_cutA (fun (_ : Unit) H locs ls => wX D [(a_h_4_1, .int), (a_h_5_1, .int)] s [(h, .inr (2, [.int h_0, .int h_1, .int h_2, .int h_3, .ref h_4, .ref h_5])), (h_4, .inr (3, [.ref h_4_0, .ref h_4_1, .int h_4_2, .int h_4_3, .int h_4_4, .ref h_4_5, .ref h_4_6])), (h_5, .inr (3, [.ref h_5_0, .ref h_5_1, .int h_5_2, .int h_5_3, .int h_5_4, .ref h_5_5, .ref h_5_6])), (h_4_1, .inl (a_h_4_1, 100, .inl f_h_4_1)), (h_5_1, .inl (a_h_5_1, 100, .inl f_h_5_1))] H A s.heap locs ∧ lv_has ls 6 [(3, .int r1), (0, .ref h), (1, .int x0), (2, .int x1)]) (fun (_ : Unit) ls => F0 m 25 ls []) (fun _ H locs ls hi => ?_) (fun J25 => ?_)
  · obtain ⟨Wd, hl⟩ := hi
    refine lv_iconst (v := 1) C.1 C.2.1 dX2_note_25 (by decide) ?_
    refine lv_goto (tgt := 30) C.1 C.2.1 dX2_note_26 (by decide) ?_
    exact J30 1 _ _ _ ⟨by have zq1 : (1 : Int32).toInt = 1 := (by decide); omega, by have zq1 : (1 : Int32).toInt = 1 := (by decide); omega, by have zq1 : (1 : Int32).toInt = 1 := (by decide); omega, Wd, lv_sub hl [0, 1, 2, 3] rfl⟩
  refine lv_if_ne (tgt := 25) C.1 C.2.1 dX2_note_12 (by decide) (fun c12 => ?_) (fun c12 => ?_)
  · have i12 : ¬ r9.toInt = 0 := kz_ne c12
    exact J25 () _ _ _ ⟨Wd, lv_sub hl [0, 1, 2, 3] rfl⟩
  · have i12 : r9.toInt = 0 := kz_eq c12
    refine lv_aload_n C.1 C.2.1 dX2_note_15 rfl (lv_at hl 1 rfl) ?_
    refine k_get C Wd KX2 0 5 rfl (by decide) fl_X2_18 rfl dX2_note_16 ?_
    refine k_pi (k_runV (rest := []) C aks Wd cs_X2_60 (sX3_isTired l D h_5 h_5_0 h_5_1 h_5_2 h_5_3 h_5_4 h_5_5 h_5_6 _ ) [2] rfl (by decide) [] rfl 2 3 rfl rfl rfl rfl rfl ⟨(Nat.le_of_ble_eq_true rfl), (Nat.le_of_ble_eq_true rfl)⟩ hl.1 rfl rfl (Nat.le_of_ble_eq_true rfl) ⟨(Nat.le_of_ble_eq_true rfl), (Nat.le_of_ble_eq_true rfl)⟩ dX2_note_19) (fun r19 w19 => ?_)
    obtain ⟨g19_0, g19_1⟩ := w19
    have g19_0 : 0 ≤ r19.toInt := g19_0
    have g19_1 : r19.toInt ≤ 1 := g19_1
    refine lv_if_eq (tgt := 29) C.1 C.2.1 dX2_note_22 (by decide) (fun c22 => ?_) (fun c22 => ?_)
    · have i22 : r19.toInt = 0 := kz_eq c22
      refine lv_iconst (v := 0) C.1 C.2.1 dX2_note_29 (by decide) ?_
      exact J30 0 _ _ _ ⟨by have zq0 : (0 : Int32).toInt = 0 := (by decide); omega, by have zq0 : (0 : Int32).toInt = 0 := (by decide); omega, by have zq0 : (0 : Int32).toInt = 0 := (by decide); omega, Wd, lv_sub hl [0, 1, 2, 3] rfl⟩
    · have i22 : ¬ r19.toInt = 0 := kz_ne c22
      exact J25 () _ _ _ ⟨Wd, lv_sub hl [0, 1, 2, 3] rfl⟩
set_option maxHeartbeats 4000000 in
set_option maxRecDepth 100000 in
theorem sX2_compare (l : Launch) (D : va_G) (h : Nat) (h0 : Nat) (h1 : Nat) (x2 : Int32) (h_0 : Int32) (h_1 : Int32) (h_2 : Int32) (h_3 : Int32) (h_4 : Nat) (h_5 : Nat) (h_4_0 : Nat) (h_4_1 : Nat) (h_4_2 : Int32) (h_4_3 : Int32) (h_4_4 : Int32) (h_4_5 : Nat) (h_4_6 : Nat) (h_4_0_0 : Nat) (h_4_0_1 : Int32) (h_4_0_2 : Nat) (h_4_0_3 : Nat) (h_4_0_4 : Nat) (h_4_0_5 : Nat) (h_4_0_6 : Nat) (h_4_0_7 : Nat) (h_4_0_8 : Nat) (h_4_0_9 : Nat) (h_4_0_10 : Nat) (h_4_0_11 : Nat) (h_4_0_12 : Nat) (h_4_0_13 : Nat) (h0_0 : Nat) (h0_1 : Int32) (n_h0_0 : Nat) (a_h0_0 : ClassId) (f_h0_0 : Nat → Int32) (a_h_4_0_13 : ClassId) (f_h_4_0_13 : Nat → Int32) (a_h_4_0_12 : ClassId) (f_h_4_0_12 : Nat → Int32) (a_h_4_0_2 : ClassId) (f_h_4_0_2 : Nat → Int32) (a_h_4_0_3 : ClassId) (f_h_4_0_3 : Nat → Int32) (a_h_4_0_9 : ClassId) (f_h_4_0_9 : Nat → Int32) (a_h_4_0_4 : ClassId) (f_h_4_0_4 : Nat → Int32) (a_h_4_0_5 : ClassId) (f_h_4_0_5 : Nat → Int32) (a_h_4_0_8 : ClassId) (f_h_4_0_8 : Nat → Int32) (a_h_4_0_6 : ClassId) (f_h_4_0_6 : Nat → Int32) (a_h_4_0_7 : ClassId) (f_h_4_0_7 : Nat → Int32) (a_h_4_0_11 : ClassId) (f_h_4_0_11 : Nat → Int32) (a_h_4_0_10 : ClassId) (f_h_4_0_10 : Nat → Int32) (h_5_0 : Nat) (h_5_1 : Nat) (h_5_2 : Int32) (h_5_3 : Int32) (h_5_4 : Int32) (h_5_5 : Nat) (h_5_6 : Nat) (h_5_0_0 : Nat) (h_5_0_1 : Int32) (h_5_0_2 : Nat) (h_5_0_3 : Nat) (h_5_0_4 : Nat) (h_5_0_5 : Nat) (h_5_0_6 : Nat) (h_5_0_7 : Nat) (h_5_0_8 : Nat) (h_5_0_9 : Nat) (h_5_0_10 : Nat) (h_5_0_11 : Nat) (h_5_0_12 : Nat) (h_5_0_13 : Nat) (h1_0 : Nat) (h1_1 : Int32) (n_h1_0 : Nat) (a_h1_0 : ClassId) (f_h1_0 : Nat → Int32) (a_h_5_0_13 : ClassId) (f_h_5_0_13 : Nat → Int32) (a_h_5_0_12 : ClassId) (f_h_5_0_12 : Nat → Int32) (a_h_5_0_2 : ClassId) (f_h_5_0_2 : Nat → Int32) (a_h_5_0_3 : ClassId) (f_h_5_0_3 : Nat → Int32) (a_h_5_0_9 : ClassId) (f_h_5_0_9 : Nat → Int32) (a_h_5_0_4 : ClassId) (f_h_5_0_4 : Nat → Int32) (a_h_5_0_5 : ClassId) (f_h_5_0_5 : Nat → Int32) (a_h_5_0_8 : ClassId) (f_h_5_0_8 : Nat → Int32) (a_h_5_0_6 : ClassId) (f_h_5_0_6 : Nat → Int32) (a_h_5_0_7 : ClassId) (f_h_5_0_7 : Nat → Int32) (a_h_5_0_11 : ClassId) (f_h_5_0_11 : Nat → Int32) (a_h_5_0_10 : ClassId) (f_h_5_0_10 : Nat → Int32) (a_h_4_5 : ClassId) (f_h_4_5 : Nat → Int32) (a_h_4_6 : ClassId) (f_h_4_6 : Nat → Int32) (a_h_4_1 : ClassId) (f_h_4_1 : Nat → Int32) (a_h_5_5 : ClassId) (f_h_5_5 : Nat → Int32) (a_h_5_6 : ClassId) (f_h_5_6 : Nat → Int32) (a_h_5_1 : ClassId) (f_h_5_1 : Nat → Int32) (sz : Nat) (k_x2_lo : 0 ≤ x2.toInt) (k_x2_hi : x2.toInt ≤ 1) (k_h0_1_lo : 0 ≤ h0_1.toInt) (k_n_h0_0 : n_h0_0 ≤ 1000) (k_p_h0_0 : 1 ≤ n_h0_0) (k_h0_1_hi : h0_1.toInt ≤ (n_h0_0 : Int)) (k_h1_1_lo : 0 ≤ h1_1.toInt) (k_n_h1_0 : n_h1_0 ≤ 1000) (k_p_h1_0 : 1 ≤ n_h1_0) (k_h1_1_hi : h1_1.toInt ≤ (n_h1_0 : Int)) : Met l yX2_compare (Cond.code yX2_compare cX2_compare 9 (some .boolean) :: gG) { frames := 5, cells := 0, slots := 0, locals := 161 } (cPre D [(a_h0_0, .int), (a_h_4_0_13, .int), (a_h_4_0_12, .int), (a_h_4_0_2, .int), (a_h_4_0_3, .int), (a_h_4_0_9, .int), (a_h_4_0_4, .int), (a_h_4_0_5, .int), (a_h_4_0_8, .int), (a_h_4_0_6, .int), (a_h_4_0_7, .int), (a_h_4_0_11, .int), (a_h_4_0_10, .int), (a_h1_0, .int), (a_h_5_0_13, .int), (a_h_5_0_12, .int), (a_h_5_0_2, .int), (a_h_5_0_3, .int), (a_h_5_0_9, .int), (a_h_5_0_4, .int), (a_h_5_0_5, .int), (a_h_5_0_8, .int), (a_h_5_0_6, .int), (a_h_5_0_7, .int), (a_h_5_0_11, .int), (a_h_5_0_10, .int), (a_h_4_5, .int), (a_h_4_6, .int), (a_h_4_1, .int), (a_h_5_5, .int), (a_h_5_6, .int), (a_h_5_1, .int)] [(h, .inr (2, [.int h_0, .int h_1, .int h_2, .int h_3, .ref h_4, .ref h_5])), (h_4, .inr (3, [.ref h_4_0, .ref h_4_1, .int h_4_2, .int h_4_3, .int h_4_4, .ref h_4_5, .ref h_4_6])), (h_4_0, .inr (1, [.ref h_4_0_0, .int h_4_0_1, .ref h_4_0_2, .ref h_4_0_3, .ref h_4_0_4, .ref h_4_0_5, .ref h_4_0_6, .ref h_4_0_7, .ref h_4_0_8, .ref h_4_0_9, .ref h_4_0_10, .ref h_4_0_11, .ref h_4_0_12, .ref h_4_0_13])), (h0, .inr (8, [.ref h0_0, .int h0_1])), (h0_0, .inl (a_h0_0, n_h0_0, .inl f_h0_0)), (h_4_0_13, .inl (a_h_4_0_13, 480, .inl f_h_4_0_13)), (h_4_0_12, .inl (a_h_4_0_12, 40, .inl f_h_4_0_12)), (h_4_0_2, .inl (a_h_4_0_2, 40, .inl f_h_4_0_2)), (h_4_0_3, .inl (a_h_4_0_3, 40, .inl f_h_4_0_3)), (h_4_0_9, .inl (a_h_4_0_9, 40, .inl f_h_4_0_9)), (h_4_0_4, .inl (a_h_4_0_4, 40, .inl f_h_4_0_4)), (h_4_0_5, .inl (a_h_4_0_5, 40, .inl f_h_4_0_5)), (h_4_0_8, .inl (a_h_4_0_8, 40, .inl f_h_4_0_8)), (h_4_0_6, .inl (a_h_4_0_6, 40, .inl f_h_4_0_6)), (h_4_0_7, .inl (a_h_4_0_7, 40, .inl f_h_4_0_7)), (h_4_0_11, .inl (a_h_4_0_11, 40, .inl f_h_4_0_11)), (h_4_0_10, .inl (a_h_4_0_10, 40, .inl f_h_4_0_10)), (h_5, .inr (3, [.ref h_5_0, .ref h_5_1, .int h_5_2, .int h_5_3, .int h_5_4, .ref h_5_5, .ref h_5_6])), (h_5_0, .inr (1, [.ref h_5_0_0, .int h_5_0_1, .ref h_5_0_2, .ref h_5_0_3, .ref h_5_0_4, .ref h_5_0_5, .ref h_5_0_6, .ref h_5_0_7, .ref h_5_0_8, .ref h_5_0_9, .ref h_5_0_10, .ref h_5_0_11, .ref h_5_0_12, .ref h_5_0_13])), (h1, .inr (8, [.ref h1_0, .int h1_1])), (h1_0, .inl (a_h1_0, n_h1_0, .inl f_h1_0)), (h_5_0_13, .inl (a_h_5_0_13, 480, .inl f_h_5_0_13)), (h_5_0_12, .inl (a_h_5_0_12, 40, .inl f_h_5_0_12)), (h_5_0_2, .inl (a_h_5_0_2, 40, .inl f_h_5_0_2)), (h_5_0_3, .inl (a_h_5_0_3, 40, .inl f_h_5_0_3)), (h_5_0_9, .inl (a_h_5_0_9, 40, .inl f_h_5_0_9)), (h_5_0_4, .inl (a_h_5_0_4, 40, .inl f_h_5_0_4)), (h_5_0_5, .inl (a_h_5_0_5, 40, .inl f_h_5_0_5)), (h_5_0_8, .inl (a_h_5_0_8, 40, .inl f_h_5_0_8)), (h_5_0_6, .inl (a_h_5_0_6, 40, .inl f_h_5_0_6)), (h_5_0_7, .inl (a_h_5_0_7, 40, .inl f_h_5_0_7)), (h_5_0_11, .inl (a_h_5_0_11, 40, .inl f_h_5_0_11)), (h_5_0_10, .inl (a_h_5_0_10, 40, .inl f_h_5_0_10)), (h_4_5, .inl (a_h_4_5, 6, .inl f_h_4_5)), (h_4_6, .inl (a_h_4_6, 300, .inl f_h_4_6)), (h_4_1, .inl (a_h_4_1, 100, .inl f_h_4_1)), (h_5_5, .inl (a_h_5_5, 6, .inl f_h_5_5)), (h_5_6, .inl (a_h_5_6, 300, .inl f_h_5_6)), (h_5_1, .inl (a_h_5_1, 100, .inl f_h_5_1))] sz [.ref h, .ref h0, .ref h1, .int x2]) (va_Qi (fun (r : Int32) (u : (Int32) × (Int32) × (Int32) × (Int32) × (Int32) × (Int32) × (Int32) × (Int32) × (Nat → Int32) × (Nat → Int32) × (Nat → Int32) × (Nat → Int32) × (Nat → Int32) × (Nat → Int32) × (Nat → Int32) × (Nat → Int32) × (Nat → Int32) × (Nat → Int32) × (Nat → Int32) × (Nat → Int32) × (Int32) × (Int32) × (Int32) × (Int32) × (Nat → Int32) × (Nat → Int32) × (Nat → Int32) × (Nat → Int32) × (Nat → Int32) × (Nat → Int32) × (Nat → Int32) × (Nat → Int32) × (Nat → Int32) × (Nat → Int32) × (Nat → Int32) × (Nat → Int32) × (Nat → Int32) × (Nat → Int32) × (Nat → Int32) × (Nat → Int32) × (Nat → Int32) × (Nat → Int32)) => match u with | (jX_F_h_0, jX_F_h_1, jX_F_h_2, jX_F_h_3, jX_F_h_4_2, jX_F_h_4_3, jX_F_h_4_4, jX_F_h_4_0_1, jX_C_h_4_0_13, jX_C_h_4_0_12, jX_C_h_4_0_2, jX_C_h_4_0_3, jX_C_h_4_0_9, jX_C_h_4_0_4, jX_C_h_4_0_5, jX_C_h_4_0_8, jX_C_h_4_0_6, jX_C_h_4_0_7, jX_C_h_4_0_11, jX_C_h_4_0_10, jX_F_h_5_2, jX_F_h_5_3, jX_F_h_5_4, jX_F_h_5_0_1, jX_C_h_5_0_13, jX_C_h_5_0_12, jX_C_h_5_0_2, jX_C_h_5_0_3, jX_C_h_5_0_9, jX_C_h_5_0_4, jX_C_h_5_0_5, jX_C_h_5_0_8, jX_C_h_5_0_6, jX_C_h_5_0_7, jX_C_h_5_0_11, jX_C_h_5_0_10, jX_C_h_4_5, jX_C_h_4_6, jX_C_h_4_1, jX_C_h_5_5, jX_C_h_5_6, jX_C_h_5_1) => 0 ≤ jX_F_h_3.toInt ∧ 0 ≤ jX_F_h_4_0_1.toInt ∧ 0 ≤ jX_F_h_5_0_1.toInt ∧ 0 ≤ r.toInt ∧ jX_F_h_3.toInt ≤ 1 ∧ r.toInt ≤ 1 ∧ jX_F_h_4_0_1.toInt ≤ 40 ∧ jX_F_h_5_0_1.toInt ≤ 40 ∧ jX_F_h_4_0_1.toInt ≤ (n_h0_0 : Int) ∧ jX_F_h_4_0_1.toInt ≤ h0_1.toInt ∧ jX_F_h_5_0_1.toInt ≤ (n_h1_0 : Int) ∧ jX_F_h_5_0_1.toInt ≤ h1_1.toInt) (fun u t => cB D (va_A [(h, .inr (2, [.int h_0, .int h_1, .int h_2, .int h_3, .ref h_4, .ref h_5])), (h_4, .inr (3, [.ref h_4_0, .ref h_4_1, .int h_4_2, .int h_4_3, .int h_4_4, .ref h_4_5, .ref h_4_6])), (h_4_0, .inr (1, [.ref h_4_0_0, .int h_4_0_1, .ref h_4_0_2, .ref h_4_0_3, .ref h_4_0_4, .ref h_4_0_5, .ref h_4_0_6, .ref h_4_0_7, .ref h_4_0_8, .ref h_4_0_9, .ref h_4_0_10, .ref h_4_0_11, .ref h_4_0_12, .ref h_4_0_13])), (h0, .inr (8, [.ref h0_0, .int h0_1])), (h0_0, .inl (a_h0_0, n_h0_0, .inl f_h0_0)), (h_4_0_13, .inl (a_h_4_0_13, 480, .inl f_h_4_0_13)), (h_4_0_12, .inl (a_h_4_0_12, 40, .inl f_h_4_0_12)), (h_4_0_2, .inl (a_h_4_0_2, 40, .inl f_h_4_0_2)), (h_4_0_3, .inl (a_h_4_0_3, 40, .inl f_h_4_0_3)), (h_4_0_9, .inl (a_h_4_0_9, 40, .inl f_h_4_0_9)), (h_4_0_4, .inl (a_h_4_0_4, 40, .inl f_h_4_0_4)), (h_4_0_5, .inl (a_h_4_0_5, 40, .inl f_h_4_0_5)), (h_4_0_8, .inl (a_h_4_0_8, 40, .inl f_h_4_0_8)), (h_4_0_6, .inl (a_h_4_0_6, 40, .inl f_h_4_0_6)), (h_4_0_7, .inl (a_h_4_0_7, 40, .inl f_h_4_0_7)), (h_4_0_11, .inl (a_h_4_0_11, 40, .inl f_h_4_0_11)), (h_4_0_10, .inl (a_h_4_0_10, 40, .inl f_h_4_0_10)), (h_5, .inr (3, [.ref h_5_0, .ref h_5_1, .int h_5_2, .int h_5_3, .int h_5_4, .ref h_5_5, .ref h_5_6])), (h_5_0, .inr (1, [.ref h_5_0_0, .int h_5_0_1, .ref h_5_0_2, .ref h_5_0_3, .ref h_5_0_4, .ref h_5_0_5, .ref h_5_0_6, .ref h_5_0_7, .ref h_5_0_8, .ref h_5_0_9, .ref h_5_0_10, .ref h_5_0_11, .ref h_5_0_12, .ref h_5_0_13])), (h1, .inr (8, [.ref h1_0, .int h1_1])), (h1_0, .inl (a_h1_0, n_h1_0, .inl f_h1_0)), (h_5_0_13, .inl (a_h_5_0_13, 480, .inl f_h_5_0_13)), (h_5_0_12, .inl (a_h_5_0_12, 40, .inl f_h_5_0_12)), (h_5_0_2, .inl (a_h_5_0_2, 40, .inl f_h_5_0_2)), (h_5_0_3, .inl (a_h_5_0_3, 40, .inl f_h_5_0_3)), (h_5_0_9, .inl (a_h_5_0_9, 40, .inl f_h_5_0_9)), (h_5_0_4, .inl (a_h_5_0_4, 40, .inl f_h_5_0_4)), (h_5_0_5, .inl (a_h_5_0_5, 40, .inl f_h_5_0_5)), (h_5_0_8, .inl (a_h_5_0_8, 40, .inl f_h_5_0_8)), (h_5_0_6, .inl (a_h_5_0_6, 40, .inl f_h_5_0_6)), (h_5_0_7, .inl (a_h_5_0_7, 40, .inl f_h_5_0_7)), (h_5_0_11, .inl (a_h_5_0_11, 40, .inl f_h_5_0_11)), (h_5_0_10, .inl (a_h_5_0_10, 40, .inl f_h_5_0_10)), (h_4_5, .inl (a_h_4_5, 6, .inl f_h_4_5)), (h_4_6, .inl (a_h_4_6, 300, .inl f_h_4_6)), (h_4_1, .inl (a_h_4_1, 100, .inl f_h_4_1)), (h_5_5, .inl (a_h_5_5, 6, .inl f_h_5_5)), (h_5_6, .inl (a_h_5_6, 300, .inl f_h_5_6)), (h_5_1, .inl (a_h_5_1, 100, .inl f_h_5_1))] sz) ((fun (_ : (Int32) × (Int32) × (Int32) × (Int32) × (Int32) × (Int32) × (Int32) × (Int32) × (Nat → Int32) × (Nat → Int32) × (Nat → Int32) × (Nat → Int32) × (Nat → Int32) × (Nat → Int32) × (Nat → Int32) × (Nat → Int32) × (Nat → Int32) × (Nat → Int32) × (Nat → Int32) × (Nat → Int32) × (Int32) × (Int32) × (Int32) × (Int32) × (Nat → Int32) × (Nat → Int32) × (Nat → Int32) × (Nat → Int32) × (Nat → Int32) × (Nat → Int32) × (Nat → Int32) × (Nat → Int32) × (Nat → Int32) × (Nat → Int32) × (Nat → Int32) × (Nat → Int32) × (Nat → Int32) × (Nat → Int32) × (Nat → Int32) × (Nat → Int32) × (Nat → Int32) × (Nat → Int32)) => ([] : List (ClassId × FieldType))) u) ((fun (u : (Int32) × (Int32) × (Int32) × (Int32) × (Int32) × (Int32) × (Int32) × (Int32) × (Nat → Int32) × (Nat → Int32) × (Nat → Int32) × (Nat → Int32) × (Nat → Int32) × (Nat → Int32) × (Nat → Int32) × (Nat → Int32) × (Nat → Int32) × (Nat → Int32) × (Nat → Int32) × (Nat → Int32) × (Int32) × (Int32) × (Int32) × (Int32) × (Nat → Int32) × (Nat → Int32) × (Nat → Int32) × (Nat → Int32) × (Nat → Int32) × (Nat → Int32) × (Nat → Int32) × (Nat → Int32) × (Nat → Int32) × (Nat → Int32) × (Nat → Int32) × (Nat → Int32) × (Nat → Int32) × (Nat → Int32) × (Nat → Int32) × (Nat → Int32) × (Nat → Int32) × (Nat → Int32)) => match u with | (jX_F_h_0, jX_F_h_1, jX_F_h_2, jX_F_h_3, jX_F_h_4_2, jX_F_h_4_3, jX_F_h_4_4, jX_F_h_4_0_1, jX_C_h_4_0_13, jX_C_h_4_0_12, jX_C_h_4_0_2, jX_C_h_4_0_3, jX_C_h_4_0_9, jX_C_h_4_0_4, jX_C_h_4_0_5, jX_C_h_4_0_8, jX_C_h_4_0_6, jX_C_h_4_0_7, jX_C_h_4_0_11, jX_C_h_4_0_10, jX_F_h_5_2, jX_F_h_5_3, jX_F_h_5_4, jX_F_h_5_0_1, jX_C_h_5_0_13, jX_C_h_5_0_12, jX_C_h_5_0_2, jX_C_h_5_0_3, jX_C_h_5_0_9, jX_C_h_5_0_4, jX_C_h_5_0_5, jX_C_h_5_0_8, jX_C_h_5_0_6, jX_C_h_5_0_7, jX_C_h_5_0_11, jX_C_h_5_0_10, jX_C_h_4_5, jX_C_h_4_6, jX_C_h_4_1, jX_C_h_5_5, jX_C_h_5_6, jX_C_h_5_1) => ([(h, .inr (2, [.int jX_F_h_0, .int jX_F_h_1, .int jX_F_h_2, .int jX_F_h_3, .ref h_4, .ref h_5])), (h_4, .inr (3, [.ref h_4_0, .ref h_4_1, .int jX_F_h_4_2, .int jX_F_h_4_3, .int jX_F_h_4_4, .ref h_4_5, .ref h_4_6])), (h_4_0, .inr (1, [.ref h0, .int jX_F_h_4_0_1, .ref h_4_0_2, .ref h_4_0_3, .ref h_4_0_4, .ref h_4_0_5, .ref h_4_0_6, .ref h_4_0_7, .ref h_4_0_8, .ref h_4_0_9, .ref h_4_0_10, .ref h_4_0_11, .ref h_4_0_12, .ref h_4_0_13])), (h0, .inr (8, [.ref h0_0, .int h0_1])), (h0_0, .inl (a_h0_0, n_h0_0, .inl f_h0_0)), (h_4_0_13, .inl (a_h_4_0_13, 480, .inl jX_C_h_4_0_13)), (h_4_0_12, .inl (a_h_4_0_12, 40, .inl jX_C_h_4_0_12)), (h_4_0_2, .inl (a_h_4_0_2, 40, .inl jX_C_h_4_0_2)), (h_4_0_3, .inl (a_h_4_0_3, 40, .inl jX_C_h_4_0_3)), (h_4_0_9, .inl (a_h_4_0_9, 40, .inl jX_C_h_4_0_9)), (h_4_0_4, .inl (a_h_4_0_4, 40, .inl jX_C_h_4_0_4)), (h_4_0_5, .inl (a_h_4_0_5, 40, .inl jX_C_h_4_0_5)), (h_4_0_8, .inl (a_h_4_0_8, 40, .inl jX_C_h_4_0_8)), (h_4_0_6, .inl (a_h_4_0_6, 40, .inl jX_C_h_4_0_6)), (h_4_0_7, .inl (a_h_4_0_7, 40, .inl jX_C_h_4_0_7)), (h_4_0_11, .inl (a_h_4_0_11, 40, .inl jX_C_h_4_0_11)), (h_4_0_10, .inl (a_h_4_0_10, 40, .inl jX_C_h_4_0_10)), (h_5, .inr (3, [.ref h_5_0, .ref h_5_1, .int jX_F_h_5_2, .int jX_F_h_5_3, .int jX_F_h_5_4, .ref h_5_5, .ref h_5_6])), (h_5_0, .inr (1, [.ref h1, .int jX_F_h_5_0_1, .ref h_5_0_2, .ref h_5_0_3, .ref h_5_0_4, .ref h_5_0_5, .ref h_5_0_6, .ref h_5_0_7, .ref h_5_0_8, .ref h_5_0_9, .ref h_5_0_10, .ref h_5_0_11, .ref h_5_0_12, .ref h_5_0_13])), (h1, .inr (8, [.ref h1_0, .int h1_1])), (h1_0, .inl (a_h1_0, n_h1_0, .inl f_h1_0)), (h_5_0_13, .inl (a_h_5_0_13, 480, .inl jX_C_h_5_0_13)), (h_5_0_12, .inl (a_h_5_0_12, 40, .inl jX_C_h_5_0_12)), (h_5_0_2, .inl (a_h_5_0_2, 40, .inl jX_C_h_5_0_2)), (h_5_0_3, .inl (a_h_5_0_3, 40, .inl jX_C_h_5_0_3)), (h_5_0_9, .inl (a_h_5_0_9, 40, .inl jX_C_h_5_0_9)), (h_5_0_4, .inl (a_h_5_0_4, 40, .inl jX_C_h_5_0_4)), (h_5_0_5, .inl (a_h_5_0_5, 40, .inl jX_C_h_5_0_5)), (h_5_0_8, .inl (a_h_5_0_8, 40, .inl jX_C_h_5_0_8)), (h_5_0_6, .inl (a_h_5_0_6, 40, .inl jX_C_h_5_0_6)), (h_5_0_7, .inl (a_h_5_0_7, 40, .inl jX_C_h_5_0_7)), (h_5_0_11, .inl (a_h_5_0_11, 40, .inl jX_C_h_5_0_11)), (h_5_0_10, .inl (a_h_5_0_10, 40, .inl jX_C_h_5_0_10)), (h_4_5, .inl (a_h_4_5, 6, .inl jX_C_h_4_5)), (h_4_6, .inl (a_h_4_6, 300, .inl jX_C_h_4_6)), (h_4_1, .inl (a_h_4_1, 100, .inl jX_C_h_4_1)), (h_5_5, .inl (a_h_5_5, 6, .inl jX_C_h_5_5)), (h_5_6, .inl (a_h_5_6, 300, .inl jX_C_h_5_6)), (h_5_1, .inl (a_h_5_1, 100, .inl jX_C_h_5_1))] : va_W)) u) t) (va_A [(h, .inr (2, [.int h_0, .int h_1, .int h_2, .int h_3, .ref h_4, .ref h_5])), (h_4, .inr (3, [.ref h_4_0, .ref h_4_1, .int h_4_2, .int h_4_3, .int h_4_4, .ref h_4_5, .ref h_4_6])), (h_4_0, .inr (1, [.ref h_4_0_0, .int h_4_0_1, .ref h_4_0_2, .ref h_4_0_3, .ref h_4_0_4, .ref h_4_0_5, .ref h_4_0_6, .ref h_4_0_7, .ref h_4_0_8, .ref h_4_0_9, .ref h_4_0_10, .ref h_4_0_11, .ref h_4_0_12, .ref h_4_0_13])), (h0, .inr (8, [.ref h0_0, .int h0_1])), (h0_0, .inl (a_h0_0, n_h0_0, .inl f_h0_0)), (h_4_0_13, .inl (a_h_4_0_13, 480, .inl f_h_4_0_13)), (h_4_0_12, .inl (a_h_4_0_12, 40, .inl f_h_4_0_12)), (h_4_0_2, .inl (a_h_4_0_2, 40, .inl f_h_4_0_2)), (h_4_0_3, .inl (a_h_4_0_3, 40, .inl f_h_4_0_3)), (h_4_0_9, .inl (a_h_4_0_9, 40, .inl f_h_4_0_9)), (h_4_0_4, .inl (a_h_4_0_4, 40, .inl f_h_4_0_4)), (h_4_0_5, .inl (a_h_4_0_5, 40, .inl f_h_4_0_5)), (h_4_0_8, .inl (a_h_4_0_8, 40, .inl f_h_4_0_8)), (h_4_0_6, .inl (a_h_4_0_6, 40, .inl f_h_4_0_6)), (h_4_0_7, .inl (a_h_4_0_7, 40, .inl f_h_4_0_7)), (h_4_0_11, .inl (a_h_4_0_11, 40, .inl f_h_4_0_11)), (h_4_0_10, .inl (a_h_4_0_10, 40, .inl f_h_4_0_10)), (h_5, .inr (3, [.ref h_5_0, .ref h_5_1, .int h_5_2, .int h_5_3, .int h_5_4, .ref h_5_5, .ref h_5_6])), (h_5_0, .inr (1, [.ref h_5_0_0, .int h_5_0_1, .ref h_5_0_2, .ref h_5_0_3, .ref h_5_0_4, .ref h_5_0_5, .ref h_5_0_6, .ref h_5_0_7, .ref h_5_0_8, .ref h_5_0_9, .ref h_5_0_10, .ref h_5_0_11, .ref h_5_0_12, .ref h_5_0_13])), (h1, .inr (8, [.ref h1_0, .int h1_1])), (h1_0, .inl (a_h1_0, n_h1_0, .inl f_h1_0)), (h_5_0_13, .inl (a_h_5_0_13, 480, .inl f_h_5_0_13)), (h_5_0_12, .inl (a_h_5_0_12, 40, .inl f_h_5_0_12)), (h_5_0_2, .inl (a_h_5_0_2, 40, .inl f_h_5_0_2)), (h_5_0_3, .inl (a_h_5_0_3, 40, .inl f_h_5_0_3)), (h_5_0_9, .inl (a_h_5_0_9, 40, .inl f_h_5_0_9)), (h_5_0_4, .inl (a_h_5_0_4, 40, .inl f_h_5_0_4)), (h_5_0_5, .inl (a_h_5_0_5, 40, .inl f_h_5_0_5)), (h_5_0_8, .inl (a_h_5_0_8, 40, .inl f_h_5_0_8)), (h_5_0_6, .inl (a_h_5_0_6, 40, .inl f_h_5_0_6)), (h_5_0_7, .inl (a_h_5_0_7, 40, .inl f_h_5_0_7)), (h_5_0_11, .inl (a_h_5_0_11, 40, .inl f_h_5_0_11)), (h_5_0_10, .inl (a_h_5_0_10, 40, .inl f_h_5_0_10)), (h_4_5, .inl (a_h_4_5, 6, .inl f_h_4_5)), (h_4_6, .inl (a_h_4_6, 300, .inl f_h_4_6)), (h_4_1, .inl (a_h_4_1, 100, .inl f_h_4_1)), (h_5_5, .inl (a_h_5_5, 6, .inl f_h_5_5)), (h_5_6, .inl (a_h_5_6, 300, .inl f_h_5_6)), (h_5_1, .inl (a_h_5_1, 100, .inl f_h_5_1))] sz)) 0 0 (va_A [(h, .inr (2, [.int h_0, .int h_1, .int h_2, .int h_3, .ref h_4, .ref h_5])), (h_4, .inr (3, [.ref h_4_0, .ref h_4_1, .int h_4_2, .int h_4_3, .int h_4_4, .ref h_4_5, .ref h_4_6])), (h_4_0, .inr (1, [.ref h_4_0_0, .int h_4_0_1, .ref h_4_0_2, .ref h_4_0_3, .ref h_4_0_4, .ref h_4_0_5, .ref h_4_0_6, .ref h_4_0_7, .ref h_4_0_8, .ref h_4_0_9, .ref h_4_0_10, .ref h_4_0_11, .ref h_4_0_12, .ref h_4_0_13])), (h0, .inr (8, [.ref h0_0, .int h0_1])), (h0_0, .inl (a_h0_0, n_h0_0, .inl f_h0_0)), (h_4_0_13, .inl (a_h_4_0_13, 480, .inl f_h_4_0_13)), (h_4_0_12, .inl (a_h_4_0_12, 40, .inl f_h_4_0_12)), (h_4_0_2, .inl (a_h_4_0_2, 40, .inl f_h_4_0_2)), (h_4_0_3, .inl (a_h_4_0_3, 40, .inl f_h_4_0_3)), (h_4_0_9, .inl (a_h_4_0_9, 40, .inl f_h_4_0_9)), (h_4_0_4, .inl (a_h_4_0_4, 40, .inl f_h_4_0_4)), (h_4_0_5, .inl (a_h_4_0_5, 40, .inl f_h_4_0_5)), (h_4_0_8, .inl (a_h_4_0_8, 40, .inl f_h_4_0_8)), (h_4_0_6, .inl (a_h_4_0_6, 40, .inl f_h_4_0_6)), (h_4_0_7, .inl (a_h_4_0_7, 40, .inl f_h_4_0_7)), (h_4_0_11, .inl (a_h_4_0_11, 40, .inl f_h_4_0_11)), (h_4_0_10, .inl (a_h_4_0_10, 40, .inl f_h_4_0_10)), (h_5, .inr (3, [.ref h_5_0, .ref h_5_1, .int h_5_2, .int h_5_3, .int h_5_4, .ref h_5_5, .ref h_5_6])), (h_5_0, .inr (1, [.ref h_5_0_0, .int h_5_0_1, .ref h_5_0_2, .ref h_5_0_3, .ref h_5_0_4, .ref h_5_0_5, .ref h_5_0_6, .ref h_5_0_7, .ref h_5_0_8, .ref h_5_0_9, .ref h_5_0_10, .ref h_5_0_11, .ref h_5_0_12, .ref h_5_0_13])), (h1, .inr (8, [.ref h1_0, .int h1_1])), (h1_0, .inl (a_h1_0, n_h1_0, .inl f_h1_0)), (h_5_0_13, .inl (a_h_5_0_13, 480, .inl f_h_5_0_13)), (h_5_0_12, .inl (a_h_5_0_12, 40, .inl f_h_5_0_12)), (h_5_0_2, .inl (a_h_5_0_2, 40, .inl f_h_5_0_2)), (h_5_0_3, .inl (a_h_5_0_3, 40, .inl f_h_5_0_3)), (h_5_0_9, .inl (a_h_5_0_9, 40, .inl f_h_5_0_9)), (h_5_0_4, .inl (a_h_5_0_4, 40, .inl f_h_5_0_4)), (h_5_0_5, .inl (a_h_5_0_5, 40, .inl f_h_5_0_5)), (h_5_0_8, .inl (a_h_5_0_8, 40, .inl f_h_5_0_8)), (h_5_0_6, .inl (a_h_5_0_6, 40, .inl f_h_5_0_6)), (h_5_0_7, .inl (a_h_5_0_7, 40, .inl f_h_5_0_7)), (h_5_0_11, .inl (a_h_5_0_11, 40, .inl f_h_5_0_11)), (h_5_0_10, .inl (a_h_5_0_10, 40, .inl f_h_5_0_10)), (h_4_5, .inl (a_h_4_5, 6, .inl f_h_4_5)), (h_4_6, .inl (a_h_4_6, 300, .inl f_h_4_6)), (h_4_1, .inl (a_h_4_1, 100, .inl f_h_4_1)), (h_5_5, .inl (a_h_5_5, 6, .inl f_h_5_5)), (h_5_6, .inl (a_h_5_6, 300, .inl f_h_5_6)), (h_5_1, .inl (a_h_5_1, 100, .inl f_h_5_1))] sz) := by
  refine Met.ofW (cc := cX2_compare) (maxL := 9) (ret := (some .boolean)) (by decide) rfl ?_
  intro p e s m args below meth c s₁ B hml hv
  obtain ⟨rfl, aks, rfl, Wd⟩ := k_enter hv
  have C : CallFix p m c cX2_compare 9 s _ gG RX2 := ⟨B.exec, B.bytes, hml, findClass_of_methodNamed B.named, fun w h => atoms_spec (ws := Cond.code yX2_compare cX2_compare 9 (some .boolean) :: gG) B.pre w (List.mem_cons_of_mem _ h)⟩
  have hr := B.returns
  have hlk := B.notSynchronized
  generalize va_A [(h, .inr (2, [.int h_0, .int h_1, .int h_2, .int h_3, .ref h_4, .ref h_5])), (h_4, .inr (3, [.ref h_4_0, .ref h_4_1, .int h_4_2, .int h_4_3, .int h_4_4, .ref h_4_5, .ref h_4_6])), (h_4_0, .inr (1, [.ref h_4_0_0, .int h_4_0_1, .ref h_4_0_2, .ref h_4_0_3, .ref h_4_0_4, .ref h_4_0_5, .ref h_4_0_6, .ref h_4_0_7, .ref h_4_0_8, .ref h_4_0_9, .ref h_4_0_10, .ref h_4_0_11, .ref h_4_0_12, .ref h_4_0_13])), (h0, .inr (8, [.ref h0_0, .int h0_1])), (h0_0, .inl (a_h0_0, n_h0_0, .inl f_h0_0)), (h_4_0_13, .inl (a_h_4_0_13, 480, .inl f_h_4_0_13)), (h_4_0_12, .inl (a_h_4_0_12, 40, .inl f_h_4_0_12)), (h_4_0_2, .inl (a_h_4_0_2, 40, .inl f_h_4_0_2)), (h_4_0_3, .inl (a_h_4_0_3, 40, .inl f_h_4_0_3)), (h_4_0_9, .inl (a_h_4_0_9, 40, .inl f_h_4_0_9)), (h_4_0_4, .inl (a_h_4_0_4, 40, .inl f_h_4_0_4)), (h_4_0_5, .inl (a_h_4_0_5, 40, .inl f_h_4_0_5)), (h_4_0_8, .inl (a_h_4_0_8, 40, .inl f_h_4_0_8)), (h_4_0_6, .inl (a_h_4_0_6, 40, .inl f_h_4_0_6)), (h_4_0_7, .inl (a_h_4_0_7, 40, .inl f_h_4_0_7)), (h_4_0_11, .inl (a_h_4_0_11, 40, .inl f_h_4_0_11)), (h_4_0_10, .inl (a_h_4_0_10, 40, .inl f_h_4_0_10)), (h_5, .inr (3, [.ref h_5_0, .ref h_5_1, .int h_5_2, .int h_5_3, .int h_5_4, .ref h_5_5, .ref h_5_6])), (h_5_0, .inr (1, [.ref h_5_0_0, .int h_5_0_1, .ref h_5_0_2, .ref h_5_0_3, .ref h_5_0_4, .ref h_5_0_5, .ref h_5_0_6, .ref h_5_0_7, .ref h_5_0_8, .ref h_5_0_9, .ref h_5_0_10, .ref h_5_0_11, .ref h_5_0_12, .ref h_5_0_13])), (h1, .inr (8, [.ref h1_0, .int h1_1])), (h1_0, .inl (a_h1_0, n_h1_0, .inl f_h1_0)), (h_5_0_13, .inl (a_h_5_0_13, 480, .inl f_h_5_0_13)), (h_5_0_12, .inl (a_h_5_0_12, 40, .inl f_h_5_0_12)), (h_5_0_2, .inl (a_h_5_0_2, 40, .inl f_h_5_0_2)), (h_5_0_3, .inl (a_h_5_0_3, 40, .inl f_h_5_0_3)), (h_5_0_9, .inl (a_h_5_0_9, 40, .inl f_h_5_0_9)), (h_5_0_4, .inl (a_h_5_0_4, 40, .inl f_h_5_0_4)), (h_5_0_5, .inl (a_h_5_0_5, 40, .inl f_h_5_0_5)), (h_5_0_8, .inl (a_h_5_0_8, 40, .inl f_h_5_0_8)), (h_5_0_6, .inl (a_h_5_0_6, 40, .inl f_h_5_0_6)), (h_5_0_7, .inl (a_h_5_0_7, 40, .inl f_h_5_0_7)), (h_5_0_11, .inl (a_h_5_0_11, 40, .inl f_h_5_0_11)), (h_5_0_10, .inl (a_h_5_0_10, 40, .inl f_h_5_0_10)), (h_4_5, .inl (a_h_4_5, 6, .inl f_h_4_5)), (h_4_6, .inl (a_h_4_6, 300, .inl f_h_4_6)), (h_4_1, .inl (a_h_4_1, 100, .inl f_h_4_1)), (h_5_5, .inl (a_h_5_5, 6, .inl f_h_5_5)), (h_5_6, .inl (a_h_5_6, 300, .inl f_h_5_6)), (h_5_1, .inl (a_h_5_1, 100, .inl f_h_5_1))] s.heap.size = A at Wd ⊢
  refine k_locals (Nat.le_of_ble_eq_true rfl) [(0, .ref h), (1, .ref h0), (2, .ref h1), (3, .int x2)] rfl (fun ls hl => ?_)
  refine lv_aload_n C.1 C.2.1 dX2_compare_0 rfl (lv_at hl 0 rfl) ?_
  refine lv_iconst (v := (-1)) C.1 C.2.1 dX2_compare_1 (by decide) ?_
  refine k_put C Wd KX2 0 0 [(h, .inr (2, [.int (-1), .int h_1, .int h_2, .int h_3, .ref h_4, .ref h_5])), (h_4, .inr (3, [.ref h_4_0, .ref h_4_1, .int h_4_2, .int h_4_3, .int h_4_4, .ref h_4_5, .ref h_4_6])), (h_4_0, .inr (1, [.ref h_4_0_0, .int h_4_0_1, .ref h_4_0_2, .ref h_4_0_3, .ref h_4_0_4, .ref h_4_0_5, .ref h_4_0_6, .ref h_4_0_7, .ref h_4_0_8, .ref h_4_0_9, .ref h_4_0_10, .ref h_4_0_11, .ref h_4_0_12, .ref h_4_0_13])), (h0, .inr (8, [.ref h0_0, .int h0_1])), (h0_0, .inl (a_h0_0, n_h0_0, .inl f_h0_0)), (h_4_0_13, .inl (a_h_4_0_13, 480, .inl f_h_4_0_13)), (h_4_0_12, .inl (a_h_4_0_12, 40, .inl f_h_4_0_12)), (h_4_0_2, .inl (a_h_4_0_2, 40, .inl f_h_4_0_2)), (h_4_0_3, .inl (a_h_4_0_3, 40, .inl f_h_4_0_3)), (h_4_0_9, .inl (a_h_4_0_9, 40, .inl f_h_4_0_9)), (h_4_0_4, .inl (a_h_4_0_4, 40, .inl f_h_4_0_4)), (h_4_0_5, .inl (a_h_4_0_5, 40, .inl f_h_4_0_5)), (h_4_0_8, .inl (a_h_4_0_8, 40, .inl f_h_4_0_8)), (h_4_0_6, .inl (a_h_4_0_6, 40, .inl f_h_4_0_6)), (h_4_0_7, .inl (a_h_4_0_7, 40, .inl f_h_4_0_7)), (h_4_0_11, .inl (a_h_4_0_11, 40, .inl f_h_4_0_11)), (h_4_0_10, .inl (a_h_4_0_10, 40, .inl f_h_4_0_10)), (h_5, .inr (3, [.ref h_5_0, .ref h_5_1, .int h_5_2, .int h_5_3, .int h_5_4, .ref h_5_5, .ref h_5_6])), (h_5_0, .inr (1, [.ref h_5_0_0, .int h_5_0_1, .ref h_5_0_2, .ref h_5_0_3, .ref h_5_0_4, .ref h_5_0_5, .ref h_5_0_6, .ref h_5_0_7, .ref h_5_0_8, .ref h_5_0_9, .ref h_5_0_10, .ref h_5_0_11, .ref h_5_0_12, .ref h_5_0_13])), (h1, .inr (8, [.ref h1_0, .int h1_1])), (h1_0, .inl (a_h1_0, n_h1_0, .inl f_h1_0)), (h_5_0_13, .inl (a_h_5_0_13, 480, .inl f_h_5_0_13)), (h_5_0_12, .inl (a_h_5_0_12, 40, .inl f_h_5_0_12)), (h_5_0_2, .inl (a_h_5_0_2, 40, .inl f_h_5_0_2)), (h_5_0_3, .inl (a_h_5_0_3, 40, .inl f_h_5_0_3)), (h_5_0_9, .inl (a_h_5_0_9, 40, .inl f_h_5_0_9)), (h_5_0_4, .inl (a_h_5_0_4, 40, .inl f_h_5_0_4)), (h_5_0_5, .inl (a_h_5_0_5, 40, .inl f_h_5_0_5)), (h_5_0_8, .inl (a_h_5_0_8, 40, .inl f_h_5_0_8)), (h_5_0_6, .inl (a_h_5_0_6, 40, .inl f_h_5_0_6)), (h_5_0_7, .inl (a_h_5_0_7, 40, .inl f_h_5_0_7)), (h_5_0_11, .inl (a_h_5_0_11, 40, .inl f_h_5_0_11)), (h_5_0_10, .inl (a_h_5_0_10, 40, .inl f_h_5_0_10)), (h_4_5, .inl (a_h_4_5, 6, .inl f_h_4_5)), (h_4_6, .inl (a_h_4_6, 300, .inl f_h_4_6)), (h_4_1, .inl (a_h_4_1, 100, .inl f_h_4_1)), (h_5_5, .inl (a_h_5_5, 6, .inl f_h_5_5)), (h_5_6, .inl (a_h_5_6, 300, .inl f_h_5_6)), (h_5_1, .inl (a_h_5_1, 100, .inl f_h_5_1))] rfl (by decide) fl_X2_21 rfl rfl rfl (Nat.le_of_ble_eq_true rfl) rfl dX2_compare_2 (fun H locs Wd => ?_)
  refine lv_aload_n C.1 C.2.1 dX2_compare_5 rfl (lv_at hl 0 rfl) ?_
  refine lv_iconst (v := (-1)) C.1 C.2.1 dX2_compare_6 (by decide) ?_
  refine k_put C Wd KX2 0 1 [(h, .inr (2, [.int (-1), .int (-1), .int h_2, .int h_3, .ref h_4, .ref h_5])), (h_4, .inr (3, [.ref h_4_0, .ref h_4_1, .int h_4_2, .int h_4_3, .int h_4_4, .ref h_4_5, .ref h_4_6])), (h_4_0, .inr (1, [.ref h_4_0_0, .int h_4_0_1, .ref h_4_0_2, .ref h_4_0_3, .ref h_4_0_4, .ref h_4_0_5, .ref h_4_0_6, .ref h_4_0_7, .ref h_4_0_8, .ref h_4_0_9, .ref h_4_0_10, .ref h_4_0_11, .ref h_4_0_12, .ref h_4_0_13])), (h0, .inr (8, [.ref h0_0, .int h0_1])), (h0_0, .inl (a_h0_0, n_h0_0, .inl f_h0_0)), (h_4_0_13, .inl (a_h_4_0_13, 480, .inl f_h_4_0_13)), (h_4_0_12, .inl (a_h_4_0_12, 40, .inl f_h_4_0_12)), (h_4_0_2, .inl (a_h_4_0_2, 40, .inl f_h_4_0_2)), (h_4_0_3, .inl (a_h_4_0_3, 40, .inl f_h_4_0_3)), (h_4_0_9, .inl (a_h_4_0_9, 40, .inl f_h_4_0_9)), (h_4_0_4, .inl (a_h_4_0_4, 40, .inl f_h_4_0_4)), (h_4_0_5, .inl (a_h_4_0_5, 40, .inl f_h_4_0_5)), (h_4_0_8, .inl (a_h_4_0_8, 40, .inl f_h_4_0_8)), (h_4_0_6, .inl (a_h_4_0_6, 40, .inl f_h_4_0_6)), (h_4_0_7, .inl (a_h_4_0_7, 40, .inl f_h_4_0_7)), (h_4_0_11, .inl (a_h_4_0_11, 40, .inl f_h_4_0_11)), (h_4_0_10, .inl (a_h_4_0_10, 40, .inl f_h_4_0_10)), (h_5, .inr (3, [.ref h_5_0, .ref h_5_1, .int h_5_2, .int h_5_3, .int h_5_4, .ref h_5_5, .ref h_5_6])), (h_5_0, .inr (1, [.ref h_5_0_0, .int h_5_0_1, .ref h_5_0_2, .ref h_5_0_3, .ref h_5_0_4, .ref h_5_0_5, .ref h_5_0_6, .ref h_5_0_7, .ref h_5_0_8, .ref h_5_0_9, .ref h_5_0_10, .ref h_5_0_11, .ref h_5_0_12, .ref h_5_0_13])), (h1, .inr (8, [.ref h1_0, .int h1_1])), (h1_0, .inl (a_h1_0, n_h1_0, .inl f_h1_0)), (h_5_0_13, .inl (a_h_5_0_13, 480, .inl f_h_5_0_13)), (h_5_0_12, .inl (a_h_5_0_12, 40, .inl f_h_5_0_12)), (h_5_0_2, .inl (a_h_5_0_2, 40, .inl f_h_5_0_2)), (h_5_0_3, .inl (a_h_5_0_3, 40, .inl f_h_5_0_3)), (h_5_0_9, .inl (a_h_5_0_9, 40, .inl f_h_5_0_9)), (h_5_0_4, .inl (a_h_5_0_4, 40, .inl f_h_5_0_4)), (h_5_0_5, .inl (a_h_5_0_5, 40, .inl f_h_5_0_5)), (h_5_0_8, .inl (a_h_5_0_8, 40, .inl f_h_5_0_8)), (h_5_0_6, .inl (a_h_5_0_6, 40, .inl f_h_5_0_6)), (h_5_0_7, .inl (a_h_5_0_7, 40, .inl f_h_5_0_7)), (h_5_0_11, .inl (a_h_5_0_11, 40, .inl f_h_5_0_11)), (h_5_0_10, .inl (a_h_5_0_10, 40, .inl f_h_5_0_10)), (h_4_5, .inl (a_h_4_5, 6, .inl f_h_4_5)), (h_4_6, .inl (a_h_4_6, 300, .inl f_h_4_6)), (h_4_1, .inl (a_h_4_1, 100, .inl f_h_4_1)), (h_5_5, .inl (a_h_5_5, 6, .inl f_h_5_5)), (h_5_6, .inl (a_h_5_6, 300, .inl f_h_5_6)), (h_5_1, .inl (a_h_5_1, 100, .inl f_h_5_1))] rfl (by decide) fl_X2_25 rfl rfl rfl (Nat.le_of_ble_eq_true rfl) rfl dX2_compare_7 (fun H locs Wd => ?_)
  refine lv_aload_n C.1 C.2.1 dX2_compare_10 rfl (lv_at hl 0 rfl) ?_
  refine lv_iconst (v := 0) C.1 C.2.1 dX2_compare_11 (by decide) ?_
  refine k_put C Wd KX2 0 2 [(h, .inr (2, [.int (-1), .int (-1), .int 0, .int h_3, .ref h_4, .ref h_5])), (h_4, .inr (3, [.ref h_4_0, .ref h_4_1, .int h_4_2, .int h_4_3, .int h_4_4, .ref h_4_5, .ref h_4_6])), (h_4_0, .inr (1, [.ref h_4_0_0, .int h_4_0_1, .ref h_4_0_2, .ref h_4_0_3, .ref h_4_0_4, .ref h_4_0_5, .ref h_4_0_6, .ref h_4_0_7, .ref h_4_0_8, .ref h_4_0_9, .ref h_4_0_10, .ref h_4_0_11, .ref h_4_0_12, .ref h_4_0_13])), (h0, .inr (8, [.ref h0_0, .int h0_1])), (h0_0, .inl (a_h0_0, n_h0_0, .inl f_h0_0)), (h_4_0_13, .inl (a_h_4_0_13, 480, .inl f_h_4_0_13)), (h_4_0_12, .inl (a_h_4_0_12, 40, .inl f_h_4_0_12)), (h_4_0_2, .inl (a_h_4_0_2, 40, .inl f_h_4_0_2)), (h_4_0_3, .inl (a_h_4_0_3, 40, .inl f_h_4_0_3)), (h_4_0_9, .inl (a_h_4_0_9, 40, .inl f_h_4_0_9)), (h_4_0_4, .inl (a_h_4_0_4, 40, .inl f_h_4_0_4)), (h_4_0_5, .inl (a_h_4_0_5, 40, .inl f_h_4_0_5)), (h_4_0_8, .inl (a_h_4_0_8, 40, .inl f_h_4_0_8)), (h_4_0_6, .inl (a_h_4_0_6, 40, .inl f_h_4_0_6)), (h_4_0_7, .inl (a_h_4_0_7, 40, .inl f_h_4_0_7)), (h_4_0_11, .inl (a_h_4_0_11, 40, .inl f_h_4_0_11)), (h_4_0_10, .inl (a_h_4_0_10, 40, .inl f_h_4_0_10)), (h_5, .inr (3, [.ref h_5_0, .ref h_5_1, .int h_5_2, .int h_5_3, .int h_5_4, .ref h_5_5, .ref h_5_6])), (h_5_0, .inr (1, [.ref h_5_0_0, .int h_5_0_1, .ref h_5_0_2, .ref h_5_0_3, .ref h_5_0_4, .ref h_5_0_5, .ref h_5_0_6, .ref h_5_0_7, .ref h_5_0_8, .ref h_5_0_9, .ref h_5_0_10, .ref h_5_0_11, .ref h_5_0_12, .ref h_5_0_13])), (h1, .inr (8, [.ref h1_0, .int h1_1])), (h1_0, .inl (a_h1_0, n_h1_0, .inl f_h1_0)), (h_5_0_13, .inl (a_h_5_0_13, 480, .inl f_h_5_0_13)), (h_5_0_12, .inl (a_h_5_0_12, 40, .inl f_h_5_0_12)), (h_5_0_2, .inl (a_h_5_0_2, 40, .inl f_h_5_0_2)), (h_5_0_3, .inl (a_h_5_0_3, 40, .inl f_h_5_0_3)), (h_5_0_9, .inl (a_h_5_0_9, 40, .inl f_h_5_0_9)), (h_5_0_4, .inl (a_h_5_0_4, 40, .inl f_h_5_0_4)), (h_5_0_5, .inl (a_h_5_0_5, 40, .inl f_h_5_0_5)), (h_5_0_8, .inl (a_h_5_0_8, 40, .inl f_h_5_0_8)), (h_5_0_6, .inl (a_h_5_0_6, 40, .inl f_h_5_0_6)), (h_5_0_7, .inl (a_h_5_0_7, 40, .inl f_h_5_0_7)), (h_5_0_11, .inl (a_h_5_0_11, 40, .inl f_h_5_0_11)), (h_5_0_10, .inl (a_h_5_0_10, 40, .inl f_h_5_0_10)), (h_4_5, .inl (a_h_4_5, 6, .inl f_h_4_5)), (h_4_6, .inl (a_h_4_6, 300, .inl f_h_4_6)), (h_4_1, .inl (a_h_4_1, 100, .inl f_h_4_1)), (h_5_5, .inl (a_h_5_5, 6, .inl f_h_5_5)), (h_5_6, .inl (a_h_5_6, 300, .inl f_h_5_6)), (h_5_1, .inl (a_h_5_1, 100, .inl f_h_5_1))] rfl (by decide) fl_X2_28 rfl rfl rfl (Nat.le_of_ble_eq_true rfl) rfl dX2_compare_12 (fun H locs Wd => ?_)
  refine lv_aload_n C.1 C.2.1 dX2_compare_15 rfl (lv_at hl 0 rfl) ?_
  refine lv_iconst (v := 0) C.1 C.2.1 dX2_compare_16 (by decide) ?_
  refine k_put C Wd KX2 0 3 [(h, .inr (2, [.int (-1), .int (-1), .int 0, .int 0, .ref h_4, .ref h_5])), (h_4, .inr (3, [.ref h_4_0, .ref h_4_1, .int h_4_2, .int h_4_3, .int h_4_4, .ref h_4_5, .ref h_4_6])), (h_4_0, .inr (1, [.ref h_4_0_0, .int h_4_0_1, .ref h_4_0_2, .ref h_4_0_3, .ref h_4_0_4, .ref h_4_0_5, .ref h_4_0_6, .ref h_4_0_7, .ref h_4_0_8, .ref h_4_0_9, .ref h_4_0_10, .ref h_4_0_11, .ref h_4_0_12, .ref h_4_0_13])), (h0, .inr (8, [.ref h0_0, .int h0_1])), (h0_0, .inl (a_h0_0, n_h0_0, .inl f_h0_0)), (h_4_0_13, .inl (a_h_4_0_13, 480, .inl f_h_4_0_13)), (h_4_0_12, .inl (a_h_4_0_12, 40, .inl f_h_4_0_12)), (h_4_0_2, .inl (a_h_4_0_2, 40, .inl f_h_4_0_2)), (h_4_0_3, .inl (a_h_4_0_3, 40, .inl f_h_4_0_3)), (h_4_0_9, .inl (a_h_4_0_9, 40, .inl f_h_4_0_9)), (h_4_0_4, .inl (a_h_4_0_4, 40, .inl f_h_4_0_4)), (h_4_0_5, .inl (a_h_4_0_5, 40, .inl f_h_4_0_5)), (h_4_0_8, .inl (a_h_4_0_8, 40, .inl f_h_4_0_8)), (h_4_0_6, .inl (a_h_4_0_6, 40, .inl f_h_4_0_6)), (h_4_0_7, .inl (a_h_4_0_7, 40, .inl f_h_4_0_7)), (h_4_0_11, .inl (a_h_4_0_11, 40, .inl f_h_4_0_11)), (h_4_0_10, .inl (a_h_4_0_10, 40, .inl f_h_4_0_10)), (h_5, .inr (3, [.ref h_5_0, .ref h_5_1, .int h_5_2, .int h_5_3, .int h_5_4, .ref h_5_5, .ref h_5_6])), (h_5_0, .inr (1, [.ref h_5_0_0, .int h_5_0_1, .ref h_5_0_2, .ref h_5_0_3, .ref h_5_0_4, .ref h_5_0_5, .ref h_5_0_6, .ref h_5_0_7, .ref h_5_0_8, .ref h_5_0_9, .ref h_5_0_10, .ref h_5_0_11, .ref h_5_0_12, .ref h_5_0_13])), (h1, .inr (8, [.ref h1_0, .int h1_1])), (h1_0, .inl (a_h1_0, n_h1_0, .inl f_h1_0)), (h_5_0_13, .inl (a_h_5_0_13, 480, .inl f_h_5_0_13)), (h_5_0_12, .inl (a_h_5_0_12, 40, .inl f_h_5_0_12)), (h_5_0_2, .inl (a_h_5_0_2, 40, .inl f_h_5_0_2)), (h_5_0_3, .inl (a_h_5_0_3, 40, .inl f_h_5_0_3)), (h_5_0_9, .inl (a_h_5_0_9, 40, .inl f_h_5_0_9)), (h_5_0_4, .inl (a_h_5_0_4, 40, .inl f_h_5_0_4)), (h_5_0_5, .inl (a_h_5_0_5, 40, .inl f_h_5_0_5)), (h_5_0_8, .inl (a_h_5_0_8, 40, .inl f_h_5_0_8)), (h_5_0_6, .inl (a_h_5_0_6, 40, .inl f_h_5_0_6)), (h_5_0_7, .inl (a_h_5_0_7, 40, .inl f_h_5_0_7)), (h_5_0_11, .inl (a_h_5_0_11, 40, .inl f_h_5_0_11)), (h_5_0_10, .inl (a_h_5_0_10, 40, .inl f_h_5_0_10)), (h_4_5, .inl (a_h_4_5, 6, .inl f_h_4_5)), (h_4_6, .inl (a_h_4_6, 300, .inl f_h_4_6)), (h_4_1, .inl (a_h_4_1, 100, .inl f_h_4_1)), (h_5_5, .inl (a_h_5_5, 6, .inl f_h_5_5)), (h_5_6, .inl (a_h_5_6, 300, .inl f_h_5_6)), (h_5_1, .inl (a_h_5_1, 100, .inl f_h_5_1))] rfl (by decide) fl_X2_31 rfl rfl rfl (Nat.le_of_ble_eq_true rfl) rfl dX2_compare_17 (fun H locs Wd => ?_)
  refine lv_aload_n C.1 C.2.1 dX2_compare_20 rfl (lv_at hl 0 rfl) ?_
  refine k_get C Wd KX2 0 4 rfl (by decide) fl_X2_12 rfl dX2_compare_21 ?_
  refine k_get C Wd KX3 1 0 rfl (by decide) fl_X2_35 rfl dX2_compare_24 ?_
  refine lv_aload_n C.1 C.2.1 dX2_compare_27 rfl (lv_at hl 1 rfl) ?_
  refine k_cv Wd [2, 3, 4, 5, 6, 7, 8, 9, 10, 11, 12, 13, 14, 15, 16] [0, 1, 17, 18, 19, 20, 21, 22, 23, 24, 25, 26, 27, 28, 29, 30, 31, 32, 33, 34, 35, 36, 37, 38] rfl (wr := [(h, .inr (2, [.int (-1), .int (-1), .int 0, .int 0, .ref h_4, .ref h_5])), (h_4, .inr (3, [.ref h_4_0, .ref h_4_1, .int h_4_2, .int h_4_3, .int h_4_4, .ref h_4_5, .ref h_4_6])), (h_5, .inr (3, [.ref h_5_0, .ref h_5_1, .int h_5_2, .int h_5_3, .int h_5_4, .ref h_5_5, .ref h_5_6])), (h_5_0, .inr (1, [.ref h_5_0_0, .int h_5_0_1, .ref h_5_0_2, .ref h_5_0_3, .ref h_5_0_4, .ref h_5_0_5, .ref h_5_0_6, .ref h_5_0_7, .ref h_5_0_8, .ref h_5_0_9, .ref h_5_0_10, .ref h_5_0_11, .ref h_5_0_12, .ref h_5_0_13])), (h1, .inr (8, [.ref h1_0, .int h1_1])), (h1_0, .inl (a_h1_0, n_h1_0, .inl f_h1_0)), (h_5_0_13, .inl (a_h_5_0_13, 480, .inl f_h_5_0_13)), (h_5_0_12, .inl (a_h_5_0_12, 40, .inl f_h_5_0_12)), (h_5_0_2, .inl (a_h_5_0_2, 40, .inl f_h_5_0_2)), (h_5_0_3, .inl (a_h_5_0_3, 40, .inl f_h_5_0_3)), (h_5_0_9, .inl (a_h_5_0_9, 40, .inl f_h_5_0_9)), (h_5_0_4, .inl (a_h_5_0_4, 40, .inl f_h_5_0_4)), (h_5_0_5, .inl (a_h_5_0_5, 40, .inl f_h_5_0_5)), (h_5_0_8, .inl (a_h_5_0_8, 40, .inl f_h_5_0_8)), (h_5_0_6, .inl (a_h_5_0_6, 40, .inl f_h_5_0_6)), (h_5_0_7, .inl (a_h_5_0_7, 40, .inl f_h_5_0_7)), (h_5_0_11, .inl (a_h_5_0_11, 40, .inl f_h_5_0_11)), (h_5_0_10, .inl (a_h_5_0_10, 40, .inl f_h_5_0_10)), (h_4_5, .inl (a_h_4_5, 6, .inl f_h_4_5)), (h_4_6, .inl (a_h_4_6, 300, .inl f_h_4_6)), (h_4_1, .inl (a_h_4_1, 100, .inl f_h_4_1)), (h_5_5, .inl (a_h_5_5, 6, .inl f_h_5_5)), (h_5_6, .inl (a_h_5_6, 300, .inl f_h_5_6)), (h_5_1, .inl (a_h_5_1, 100, .inl f_h_5_1))]) rfl (by decide) (by decide) (cells' := 0) (slots' := 0) (by decide) (by decide) (k_runV (rest := []) C aks Wd cs_X2_39 (sX1_trace l D h_4_0 h0 h_4_0_0 h_4_0_1 h_4_0_2 h_4_0_3 h_4_0_4 h_4_0_5 h_4_0_6 h_4_0_7 h_4_0_8 h_4_0_9 h_4_0_10 h_4_0_11 h_4_0_12 h_4_0_13 h0_0 h0_1 n_h0_0 a_h0_0 f_h0_0 a_h_4_0_13 f_h_4_0_13 a_h_4_0_12 f_h_4_0_12 a_h_4_0_2 f_h_4_0_2 a_h_4_0_3 f_h_4_0_3 a_h_4_0_9 f_h_4_0_9 a_h_4_0_4 f_h_4_0_4 a_h_4_0_5 f_h_4_0_5 a_h_4_0_8 f_h_4_0_8 a_h_4_0_6 f_h_4_0_6 a_h_4_0_7 f_h_4_0_7 a_h_4_0_11 f_h_4_0_11 a_h_4_0_10 f_h_4_0_10 _ (by omega) (by omega) (by omega) (by omega)) [2, 3, 4, 5, 6, 7, 8, 9, 10, 11, 12, 13, 14, 15, 16] rfl (by decide) [0, 1, 2, 3, 4, 5, 6, 7, 8, 9, 10, 11, 12] rfl 2 1 rfl rfl rfl rfl rfl ⟨(Nat.le_of_ble_eq_true rfl), (Nat.le_of_ble_eq_true rfl)⟩ hl.1 rfl rfl (Nat.le_of_ble_eq_true rfl) ⟨(Nat.le_of_ble_eq_true rfl), (Nat.le_of_ble_eq_true rfl)⟩ dX2_compare_28) (fun u H locs w28 Wd => ?_)
  obtain ⟨s28_0, s28_1, s28_2, s28_3, s28_4, s28_5, s28_6, s28_7, s28_8, s28_9, s28_10, s28_11, s28_12⟩ := u
  have Wd : wX D [(a_h0_0, .int), (a_h_4_0_13, .int), (a_h_4_0_12, .int), (a_h_4_0_2, .int), (a_h_4_0_3, .int), (a_h_4_0_9, .int), (a_h_4_0_4, .int), (a_h_4_0_5, .int), (a_h_4_0_8, .int), (a_h_4_0_6, .int), (a_h_4_0_7, .int), (a_h_4_0_11, .int), (a_h_4_0_10, .int), (a_h1_0, .int), (a_h_5_0_13, .int), (a_h_5_0_12, .int), (a_h_5_0_2, .int), (a_h_5_0_3, .int), (a_h_5_0_9, .int), (a_h_5_0_4, .int), (a_h_5_0_5, .int), (a_h_5_0_8, .int), (a_h_5_0_6, .int), (a_h_5_0_7, .int), (a_h_5_0_11, .int), (a_h_5_0_10, .int), (a_h_4_5, .int), (a_h_4_6, .int), (a_h_4_1, .int), (a_h_5_5, .int), (a_h_5_6, .int), (a_h_5_1, .int)] s [(h, .inr (2, [.int (-1), .int (-1), .int 0, .int 0, .ref h_4, .ref h_5])), (h_4, .inr (3, [.ref h_4_0, .ref h_4_1, .int h_4_2, .int h_4_3, .int h_4_4, .ref h_4_5, .ref h_4_6])), (h_4_0, .inr (1, [.ref h0, .int s28_0, .ref h_4_0_2, .ref h_4_0_3, .ref h_4_0_4, .ref h_4_0_5, .ref h_4_0_6, .ref h_4_0_7, .ref h_4_0_8, .ref h_4_0_9, .ref h_4_0_10, .ref h_4_0_11, .ref h_4_0_12, .ref h_4_0_13])), (h0, .inr (8, [.ref h0_0, .int h0_1])), (h0_0, .inl (a_h0_0, n_h0_0, .inl f_h0_0)), (h_4_0_13, .inl (a_h_4_0_13, 480, .inl s28_1)), (h_4_0_12, .inl (a_h_4_0_12, 40, .inl s28_2)), (h_4_0_2, .inl (a_h_4_0_2, 40, .inl s28_3)), (h_4_0_3, .inl (a_h_4_0_3, 40, .inl s28_4)), (h_4_0_9, .inl (a_h_4_0_9, 40, .inl s28_5)), (h_4_0_4, .inl (a_h_4_0_4, 40, .inl s28_6)), (h_4_0_5, .inl (a_h_4_0_5, 40, .inl s28_7)), (h_4_0_8, .inl (a_h_4_0_8, 40, .inl s28_8)), (h_4_0_6, .inl (a_h_4_0_6, 40, .inl s28_9)), (h_4_0_7, .inl (a_h_4_0_7, 40, .inl s28_10)), (h_4_0_11, .inl (a_h_4_0_11, 40, .inl s28_11)), (h_4_0_10, .inl (a_h_4_0_10, 40, .inl s28_12)), (h_5, .inr (3, [.ref h_5_0, .ref h_5_1, .int h_5_2, .int h_5_3, .int h_5_4, .ref h_5_5, .ref h_5_6])), (h_5_0, .inr (1, [.ref h_5_0_0, .int h_5_0_1, .ref h_5_0_2, .ref h_5_0_3, .ref h_5_0_4, .ref h_5_0_5, .ref h_5_0_6, .ref h_5_0_7, .ref h_5_0_8, .ref h_5_0_9, .ref h_5_0_10, .ref h_5_0_11, .ref h_5_0_12, .ref h_5_0_13])), (h1, .inr (8, [.ref h1_0, .int h1_1])), (h1_0, .inl (a_h1_0, n_h1_0, .inl f_h1_0)), (h_5_0_13, .inl (a_h_5_0_13, 480, .inl f_h_5_0_13)), (h_5_0_12, .inl (a_h_5_0_12, 40, .inl f_h_5_0_12)), (h_5_0_2, .inl (a_h_5_0_2, 40, .inl f_h_5_0_2)), (h_5_0_3, .inl (a_h_5_0_3, 40, .inl f_h_5_0_3)), (h_5_0_9, .inl (a_h_5_0_9, 40, .inl f_h_5_0_9)), (h_5_0_4, .inl (a_h_5_0_4, 40, .inl f_h_5_0_4)), (h_5_0_5, .inl (a_h_5_0_5, 40, .inl f_h_5_0_5)), (h_5_0_8, .inl (a_h_5_0_8, 40, .inl f_h_5_0_8)), (h_5_0_6, .inl (a_h_5_0_6, 40, .inl f_h_5_0_6)), (h_5_0_7, .inl (a_h_5_0_7, 40, .inl f_h_5_0_7)), (h_5_0_11, .inl (a_h_5_0_11, 40, .inl f_h_5_0_11)), (h_5_0_10, .inl (a_h_5_0_10, 40, .inl f_h_5_0_10)), (h_4_5, .inl (a_h_4_5, 6, .inl f_h_4_5)), (h_4_6, .inl (a_h_4_6, 300, .inl f_h_4_6)), (h_4_1, .inl (a_h_4_1, 100, .inl f_h_4_1)), (h_5_5, .inl (a_h_5_5, 6, .inl f_h_5_5)), (h_5_6, .inl (a_h_5_6, 300, .inl f_h_5_6)), (h_5_1, .inl (a_h_5_1, 100, .inl f_h_5_1))] _ A s.heap _ := k_sub Wd [0, 1, 24, 25, 26, 27, 28, 29, 30, 31, 32, 33, 34, 35, 36, 37, 38, 2, 3, 4, 5, 6, 7, 8, 9, 10, 11, 12, 13, 14, 15, 16, 17, 18, 19, 20, 21, 22, 23] rfl (by decide) [0, 1, 2, 3, 4, 5, 6, 7, 8, 9, 10, 11, 12, 13, 14, 15, 16, 17, 18, 19, 20, 21, 22, 23, 24, 25, 26, 27, 28, 29, 30, 31] rfl
  obtain ⟨g28_0, g28_1, g28_2, g28_3⟩ := w28
  have g28_0 : 0 ≤ s28_0.toInt := g28_0
  have g28_1 : s28_0.toInt ≤ 40 := g28_1
  have g28_2 : s28_0.toInt ≤ (n_h0_0 : Int) := g28_2
  have g28_3 : s28_0.toInt ≤ h0_1.toInt := g28_3
  refine lv_aload_n C.1 C.2.1 dX2_compare_31 rfl (lv_at hl 0 rfl) ?_
  refine k_get C Wd KX2 0 5 rfl (by decide) fl_X2_18 rfl dX2_compare_32 ?_
  refine k_get C Wd KX3 17 0 rfl (by decide) fl_X2_35 rfl dX2_compare_35 ?_
  refine lv_aload_n C.1 C.2.1 dX2_compare_38 rfl (lv_at hl 2 rfl) ?_
  refine k_cv Wd [18, 19, 20, 21, 22, 23, 24, 25, 26, 27, 28, 29, 30, 31, 32] [0, 1, 2, 3, 4, 5, 6, 7, 8, 9, 10, 11, 12, 13, 14, 15, 16, 17, 33, 34, 35, 36, 37, 38] rfl (wr := [(h, .inr (2, [.int (-1), .int (-1), .int 0, .int 0, .ref h_4, .ref h_5])), (h_4, .inr (3, [.ref h_4_0, .ref h_4_1, .int h_4_2, .int h_4_3, .int h_4_4, .ref h_4_5, .ref h_4_6])), (h_4_0, .inr (1, [.ref h0, .int s28_0, .ref h_4_0_2, .ref h_4_0_3, .ref h_4_0_4, .ref h_4_0_5, .ref h_4_0_6, .ref h_4_0_7, .ref h_4_0_8, .ref h_4_0_9, .ref h_4_0_10, .ref h_4_0_11, .ref h_4_0_12, .ref h_4_0_13])), (h0, .inr (8, [.ref h0_0, .int h0_1])), (h0_0, .inl (a_h0_0, n_h0_0, .inl f_h0_0)), (h_4_0_13, .inl (a_h_4_0_13, 480, .inl s28_1)), (h_4_0_12, .inl (a_h_4_0_12, 40, .inl s28_2)), (h_4_0_2, .inl (a_h_4_0_2, 40, .inl s28_3)), (h_4_0_3, .inl (a_h_4_0_3, 40, .inl s28_4)), (h_4_0_9, .inl (a_h_4_0_9, 40, .inl s28_5)), (h_4_0_4, .inl (a_h_4_0_4, 40, .inl s28_6)), (h_4_0_5, .inl (a_h_4_0_5, 40, .inl s28_7)), (h_4_0_8, .inl (a_h_4_0_8, 40, .inl s28_8)), (h_4_0_6, .inl (a_h_4_0_6, 40, .inl s28_9)), (h_4_0_7, .inl (a_h_4_0_7, 40, .inl s28_10)), (h_4_0_11, .inl (a_h_4_0_11, 40, .inl s28_11)), (h_4_0_10, .inl (a_h_4_0_10, 40, .inl s28_12)), (h_5, .inr (3, [.ref h_5_0, .ref h_5_1, .int h_5_2, .int h_5_3, .int h_5_4, .ref h_5_5, .ref h_5_6])), (h_4_5, .inl (a_h_4_5, 6, .inl f_h_4_5)), (h_4_6, .inl (a_h_4_6, 300, .inl f_h_4_6)), (h_4_1, .inl (a_h_4_1, 100, .inl f_h_4_1)), (h_5_5, .inl (a_h_5_5, 6, .inl f_h_5_5)), (h_5_6, .inl (a_h_5_6, 300, .inl f_h_5_6)), (h_5_1, .inl (a_h_5_1, 100, .inl f_h_5_1))]) rfl (by decide) (by decide) (cells' := 0) (slots' := 0) (by decide) (by decide) (k_runV (rest := []) C aks Wd cs_X2_39 (sX1_trace l D h_5_0 h1 h_5_0_0 h_5_0_1 h_5_0_2 h_5_0_3 h_5_0_4 h_5_0_5 h_5_0_6 h_5_0_7 h_5_0_8 h_5_0_9 h_5_0_10 h_5_0_11 h_5_0_12 h_5_0_13 h1_0 h1_1 n_h1_0 a_h1_0 f_h1_0 a_h_5_0_13 f_h_5_0_13 a_h_5_0_12 f_h_5_0_12 a_h_5_0_2 f_h_5_0_2 a_h_5_0_3 f_h_5_0_3 a_h_5_0_9 f_h_5_0_9 a_h_5_0_4 f_h_5_0_4 a_h_5_0_5 f_h_5_0_5 a_h_5_0_8 f_h_5_0_8 a_h_5_0_6 f_h_5_0_6 a_h_5_0_7 f_h_5_0_7 a_h_5_0_11 f_h_5_0_11 a_h_5_0_10 f_h_5_0_10 _ (by omega) (by omega) (by omega) (by omega)) [18, 19, 20, 21, 22, 23, 24, 25, 26, 27, 28, 29, 30, 31, 32] rfl (by decide) [13, 14, 15, 16, 17, 18, 19, 20, 21, 22, 23, 24, 25] rfl 18 1 rfl rfl rfl rfl rfl ⟨(Nat.le_of_ble_eq_true rfl), (Nat.le_of_ble_eq_true rfl)⟩ hl.1 rfl rfl (Nat.le_of_ble_eq_true rfl) ⟨(Nat.le_of_ble_eq_true rfl), (Nat.le_of_ble_eq_true rfl)⟩ dX2_compare_39) (fun u H locs w39 Wd => ?_)
  obtain ⟨s39_0, s39_1, s39_2, s39_3, s39_4, s39_5, s39_6, s39_7, s39_8, s39_9, s39_10, s39_11, s39_12⟩ := u
  have Wd : wX D [(a_h0_0, .int), (a_h_4_0_13, .int), (a_h_4_0_12, .int), (a_h_4_0_2, .int), (a_h_4_0_3, .int), (a_h_4_0_9, .int), (a_h_4_0_4, .int), (a_h_4_0_5, .int), (a_h_4_0_8, .int), (a_h_4_0_6, .int), (a_h_4_0_7, .int), (a_h_4_0_11, .int), (a_h_4_0_10, .int), (a_h1_0, .int), (a_h_5_0_13, .int), (a_h_5_0_12, .int), (a_h_5_0_2, .int), (a_h_5_0_3, .int), (a_h_5_0_9, .int), (a_h_5_0_4, .int), (a_h_5_0_5, .int), (a_h_5_0_8, .int), (a_h_5_0_6, .int), (a_h_5_0_7, .int), (a_h_5_0_11, .int), (a_h_5_0_10, .int), (a_h_4_5, .int), (a_h_4_6, .int), (a_h_4_1, .int), (a_h_5_5, .int), (a_h_5_6, .int), (a_h_5_1, .int)] s [(h, .inr (2, [.int (-1), .int (-1), .int 0, .int 0, .ref h_4, .ref h_5])), (h_4, .inr (3, [.ref h_4_0, .ref h_4_1, .int h_4_2, .int h_4_3, .int h_4_4, .ref h_4_5, .ref h_4_6])), (h_4_0, .inr (1, [.ref h0, .int s28_0, .ref h_4_0_2, .ref h_4_0_3, .ref h_4_0_4, .ref h_4_0_5, .ref h_4_0_6, .ref h_4_0_7, .ref h_4_0_8, .ref h_4_0_9, .ref h_4_0_10, .ref h_4_0_11, .ref h_4_0_12, .ref h_4_0_13])), (h0, .inr (8, [.ref h0_0, .int h0_1])), (h0_0, .inl (a_h0_0, n_h0_0, .inl f_h0_0)), (h_4_0_13, .inl (a_h_4_0_13, 480, .inl s28_1)), (h_4_0_12, .inl (a_h_4_0_12, 40, .inl s28_2)), (h_4_0_2, .inl (a_h_4_0_2, 40, .inl s28_3)), (h_4_0_3, .inl (a_h_4_0_3, 40, .inl s28_4)), (h_4_0_9, .inl (a_h_4_0_9, 40, .inl s28_5)), (h_4_0_4, .inl (a_h_4_0_4, 40, .inl s28_6)), (h_4_0_5, .inl (a_h_4_0_5, 40, .inl s28_7)), (h_4_0_8, .inl (a_h_4_0_8, 40, .inl s28_8)), (h_4_0_6, .inl (a_h_4_0_6, 40, .inl s28_9)), (h_4_0_7, .inl (a_h_4_0_7, 40, .inl s28_10)), (h_4_0_11, .inl (a_h_4_0_11, 40, .inl s28_11)), (h_4_0_10, .inl (a_h_4_0_10, 40, .inl s28_12)), (h_5, .inr (3, [.ref h_5_0, .ref h_5_1, .int h_5_2, .int h_5_3, .int h_5_4, .ref h_5_5, .ref h_5_6])), (h_5_0, .inr (1, [.ref h1, .int s39_0, .ref h_5_0_2, .ref h_5_0_3, .ref h_5_0_4, .ref h_5_0_5, .ref h_5_0_6, .ref h_5_0_7, .ref h_5_0_8, .ref h_5_0_9, .ref h_5_0_10, .ref h_5_0_11, .ref h_5_0_12, .ref h_5_0_13])), (h1, .inr (8, [.ref h1_0, .int h1_1])), (h1_0, .inl (a_h1_0, n_h1_0, .inl f_h1_0)), (h_5_0_13, .inl (a_h_5_0_13, 480, .inl s39_1)), (h_5_0_12, .inl (a_h_5_0_12, 40, .inl s39_2)), (h_5_0_2, .inl (a_h_5_0_2, 40, .inl s39_3)), (h_5_0_3, .inl (a_h_5_0_3, 40, .inl s39_4)), (h_5_0_9, .inl (a_h_5_0_9, 40, .inl s39_5)), (h_5_0_4, .inl (a_h_5_0_4, 40, .inl s39_6)), (h_5_0_5, .inl (a_h_5_0_5, 40, .inl s39_7)), (h_5_0_8, .inl (a_h_5_0_8, 40, .inl s39_8)), (h_5_0_6, .inl (a_h_5_0_6, 40, .inl s39_9)), (h_5_0_7, .inl (a_h_5_0_7, 40, .inl s39_10)), (h_5_0_11, .inl (a_h_5_0_11, 40, .inl s39_11)), (h_5_0_10, .inl (a_h_5_0_10, 40, .inl s39_12)), (h_4_5, .inl (a_h_4_5, 6, .inl f_h_4_5)), (h_4_6, .inl (a_h_4_6, 300, .inl f_h_4_6)), (h_4_1, .inl (a_h_4_1, 100, .inl f_h_4_1)), (h_5_5, .inl (a_h_5_5, 6, .inl f_h_5_5)), (h_5_6, .inl (a_h_5_6, 300, .inl f_h_5_6)), (h_5_1, .inl (a_h_5_1, 100, .inl f_h_5_1))] _ A s.heap _ := k_sub Wd [0, 1, 2, 3, 4, 5, 6, 7, 8, 9, 10, 11, 12, 13, 14, 15, 16, 17, 24, 25, 26, 27, 28, 29, 30, 31, 32, 33, 34, 35, 36, 37, 38, 18, 19, 20, 21, 22, 23] rfl (by decide) [0, 1, 2, 3, 4, 5, 6, 7, 8, 9, 10, 11, 12, 13, 14, 15, 16, 17, 18, 19, 20, 21, 22, 23, 24, 25, 26, 27, 28, 29, 30, 31] rfl
  obtain ⟨g39_0, g39_1, g39_2, g39_3⟩ := w39
  have g39_0 : 0 ≤ s39_0.toInt := g39_0
  have g39_1 : s39_0.toInt ≤ 40 := g39_1
  have g39_2 : s39_0.toInt ≤ (n_h1_0 : Int) := g39_2
  have g39_3 : s39_0.toInt ≤ h1_1.toInt := g39_3
  refine lv_aload_n C.1 C.2.1 dX2_compare_42 rfl (lv_at hl 0 rfl) ?_
  refine k_get C Wd KX2 0 4 rfl (by decide) fl_X2_12 rfl dX2_compare_43 ?_
  refine k_get C Wd KX3 1 0 rfl (by decide) fl_X2_35 rfl dX2_compare_46 ?_
  refine lv_iconst (v := 0) C.1 C.2.1 dX2_compare_49 (by decide) ?_
  refine k_pi (k_runV (rest := []) C aks Wd cs_X2_45 (sX1_aheadOf l D h_4_0 0 h0 s28_0 h_4_0_2 h_4_0_3 h_4_0_4 h_4_0_5 h_4_0_6 h_4_0_7 h_4_0_8 h_4_0_9 h_4_0_10 h_4_0_11 h_4_0_12 h_4_0_13 a_h_4_0_10 s28_12 _ ) [2, 16] rfl (by decide) [12] rfl 2 1 rfl rfl rfl rfl rfl ⟨(Nat.le_of_ble_eq_true rfl), (Nat.le_of_ble_eq_true rfl)⟩ hl.1 rfl rfl (Nat.le_of_ble_eq_true rfl) ⟨(Nat.le_of_ble_eq_true rfl), (Nat.le_of_ble_eq_true rfl)⟩ dX2_compare_50) (fun r50 w50 => ?_)
  refine lv_aload_n C.1 C.2.1 dX2_compare_53 rfl (lv_at hl 0 rfl) ?_
  refine k_get C Wd KX2 0 5 rfl (by decide) fl_X2_18 rfl dX2_compare_54 ?_
  refine k_get C Wd KX3 17 0 rfl (by decide) fl_X2_35 rfl dX2_compare_57 ?_
  refine lv_iconst (v := 0) C.1 C.2.1 dX2_compare_60 (by decide) ?_
  refine k_pi (k_runV (rest := [.int r50]) C aks Wd cs_X2_45 (sX1_aheadOf l D h_5_0 0 h1 s39_0 h_5_0_2 h_5_0_3 h_5_0_4 h_5_0_5 h_5_0_6 h_5_0_7 h_5_0_8 h_5_0_9 h_5_0_10 h_5_0_11 h_5_0_12 h_5_0_13 a_h_5_0_10 s39_12 _ ) [18, 32] rfl (by decide) [25] rfl 18 1 rfl rfl rfl rfl rfl ⟨(Nat.le_of_ble_eq_true rfl), (Nat.le_of_ble_eq_true rfl)⟩ hl.1 rfl rfl (Nat.le_of_ble_eq_true rfl) ⟨(Nat.le_of_ble_eq_true rfl), (Nat.le_of_ble_eq_true rfl)⟩ dX2_compare_61) (fun r61 w61 => ?_)
  obtain ⟨v64, ev64⟩ : ∃ z : Int32, r50 ||| r61 = z := ⟨_, rfl⟩
  refine k_ior (v := v64) C ev64 dX2_compare_64 ?_
  refine lv_istore (lv' := [(4, .int v64), (0, .ref h), (1, .ref h0), (2, .ref h1), (3, .int x2)]) C.1 C.2.1 dX2_compare_65 hl (by decide) rfl (fun ls hl => ?_)
  refine lv_iload C.1 C.2.1 dX2_compare_67 (lv_at hl 0 rfl) ?_
  refine lv_iconst (v := 1) C.1 C.2.1 dX2_compare_69 (by decide) ?_
  obtain ⟨v70, ev70⟩ : ∃ z : Int32, v64 &&& 1 = z := ⟨_, rfl⟩
  refine k_iand (v := v70) C ev70 dX2_compare_70 ?_
  refine k_cutA (fun (j80_S_0 : Int32) H locs ls => 1 ≤ j80_S_0.toInt ∧ j80_S_0.toInt ≤ 16 ∧ wX D [(a_h0_0, .int), (a_h_4_0_13, .int), (a_h_4_0_12, .int), (a_h_4_0_2, .int), (a_h_4_0_3, .int), (a_h_4_0_9, .int), (a_h_4_0_4, .int), (a_h_4_0_5, .int), (a_h_4_0_8, .int), (a_h_4_0_6, .int), (a_h_4_0_7, .int), (a_h_4_0_11, .int), (a_h_4_0_10, .int), (a_h1_0, .int), (a_h_5_0_13, .int), (a_h_5_0_12, .int), (a_h_5_0_2, .int), (a_h_5_0_3, .int), (a_h_5_0_9, .int), (a_h_5_0_4, .int), (a_h_5_0_5, .int), (a_h_5_0_8, .int), (a_h_5_0_6, .int), (a_h_5_0_7, .int), (a_h_5_0_11, .int), (a_h_5_0_10, .int), (a_h_4_5, .int), (a_h_4_6, .int), (a_h_4_1, .int), (a_h_5_5, .int), (a_h_5_6, .int), (a_h_5_1, .int)] s [(h, .inr (2, [.int (-1), .int (-1), .int 0, .int 0, .ref h_4, .ref h_5])), (h_4, .inr (3, [.ref h_4_0, .ref h_4_1, .int h_4_2, .int h_4_3, .int h_4_4, .ref h_4_5, .ref h_4_6])), (h_4_0, .inr (1, [.ref h0, .int s28_0, .ref h_4_0_2, .ref h_4_0_3, .ref h_4_0_4, .ref h_4_0_5, .ref h_4_0_6, .ref h_4_0_7, .ref h_4_0_8, .ref h_4_0_9, .ref h_4_0_10, .ref h_4_0_11, .ref h_4_0_12, .ref h_4_0_13])), (h0, .inr (8, [.ref h0_0, .int h0_1])), (h0_0, .inl (a_h0_0, n_h0_0, .inl f_h0_0)), (h_4_0_13, .inl (a_h_4_0_13, 480, .inl s28_1)), (h_4_0_12, .inl (a_h_4_0_12, 40, .inl s28_2)), (h_4_0_2, .inl (a_h_4_0_2, 40, .inl s28_3)), (h_4_0_3, .inl (a_h_4_0_3, 40, .inl s28_4)), (h_4_0_9, .inl (a_h_4_0_9, 40, .inl s28_5)), (h_4_0_4, .inl (a_h_4_0_4, 40, .inl s28_6)), (h_4_0_5, .inl (a_h_4_0_5, 40, .inl s28_7)), (h_4_0_8, .inl (a_h_4_0_8, 40, .inl s28_8)), (h_4_0_6, .inl (a_h_4_0_6, 40, .inl s28_9)), (h_4_0_7, .inl (a_h_4_0_7, 40, .inl s28_10)), (h_4_0_11, .inl (a_h_4_0_11, 40, .inl s28_11)), (h_4_0_10, .inl (a_h_4_0_10, 40, .inl s28_12)), (h_5, .inr (3, [.ref h_5_0, .ref h_5_1, .int h_5_2, .int h_5_3, .int h_5_4, .ref h_5_5, .ref h_5_6])), (h_5_0, .inr (1, [.ref h1, .int s39_0, .ref h_5_0_2, .ref h_5_0_3, .ref h_5_0_4, .ref h_5_0_5, .ref h_5_0_6, .ref h_5_0_7, .ref h_5_0_8, .ref h_5_0_9, .ref h_5_0_10, .ref h_5_0_11, .ref h_5_0_12, .ref h_5_0_13])), (h1, .inr (8, [.ref h1_0, .int h1_1])), (h1_0, .inl (a_h1_0, n_h1_0, .inl f_h1_0)), (h_5_0_13, .inl (a_h_5_0_13, 480, .inl s39_1)), (h_5_0_12, .inl (a_h_5_0_12, 40, .inl s39_2)), (h_5_0_2, .inl (a_h_5_0_2, 40, .inl s39_3)), (h_5_0_3, .inl (a_h_5_0_3, 40, .inl s39_4)), (h_5_0_9, .inl (a_h_5_0_9, 40, .inl s39_5)), (h_5_0_4, .inl (a_h_5_0_4, 40, .inl s39_6)), (h_5_0_5, .inl (a_h_5_0_5, 40, .inl s39_7)), (h_5_0_8, .inl (a_h_5_0_8, 40, .inl s39_8)), (h_5_0_6, .inl (a_h_5_0_6, 40, .inl s39_9)), (h_5_0_7, .inl (a_h_5_0_7, 40, .inl s39_10)), (h_5_0_11, .inl (a_h_5_0_11, 40, .inl s39_11)), (h_5_0_10, .inl (a_h_5_0_10, 40, .inl s39_12)), (h_4_5, .inl (a_h_4_5, 6, .inl f_h_4_5)), (h_4_6, .inl (a_h_4_6, 300, .inl f_h_4_6)), (h_4_1, .inl (a_h_4_1, 100, .inl f_h_4_1)), (h_5_5, .inl (a_h_5_5, 6, .inl f_h_5_5)), (h_5_6, .inl (a_h_5_6, 300, .inl f_h_5_6)), (h_5_1, .inl (a_h_5_1, 100, .inl f_h_5_1))] H A s.heap locs ∧ lv_has ls 9 [(4, .int v64), (0, .ref h), (1, .ref h0), (2, .ref h1), (3, .int x2)]) (fun (j80_S_0 : Int32) ls => F0 m 80 ls [.int j80_S_0]) (fun j80_S_0 H locs ls hi => ?_) (fun J80 => ?_)
  · obtain ⟨i80_0, i80_1, Wd, hl⟩ := hi
    refine lv_istore (lv' := [(5, .int j80_S_0), (4, .int v64), (0, .ref h), (1, .ref h0), (2, .ref h1), (3, .int x2)]) C.1 C.2.1 dX2_compare_80 hl (by decide) rfl (fun ls hl => ?_)
    refine lv_iload C.1 C.2.1 dX2_compare_82 (lv_at hl 1 rfl) ?_
    refine lv_iconst (v := 2) C.1 C.2.1 dX2_compare_84 (by decide) ?_
    obtain ⟨v85, ev85⟩ : ∃ z : Int32, v64 &&& 2 = z := ⟨_, rfl⟩
    refine k_iand (v := v85) C ev85 dX2_compare_85 ?_
    refine k_cutA (fun (j95_S_0 : Int32) H locs ls => 1 ≤ j95_S_0.toInt ∧ j95_S_0.toInt ≤ 16 ∧ wX D [(a_h0_0, .int), (a_h_4_0_13, .int), (a_h_4_0_12, .int), (a_h_4_0_2, .int), (a_h_4_0_3, .int), (a_h_4_0_9, .int), (a_h_4_0_4, .int), (a_h_4_0_5, .int), (a_h_4_0_8, .int), (a_h_4_0_6, .int), (a_h_4_0_7, .int), (a_h_4_0_11, .int), (a_h_4_0_10, .int), (a_h1_0, .int), (a_h_5_0_13, .int), (a_h_5_0_12, .int), (a_h_5_0_2, .int), (a_h_5_0_3, .int), (a_h_5_0_9, .int), (a_h_5_0_4, .int), (a_h_5_0_5, .int), (a_h_5_0_8, .int), (a_h_5_0_6, .int), (a_h_5_0_7, .int), (a_h_5_0_11, .int), (a_h_5_0_10, .int), (a_h_4_5, .int), (a_h_4_6, .int), (a_h_4_1, .int), (a_h_5_5, .int), (a_h_5_6, .int), (a_h_5_1, .int)] s [(h, .inr (2, [.int (-1), .int (-1), .int 0, .int 0, .ref h_4, .ref h_5])), (h_4, .inr (3, [.ref h_4_0, .ref h_4_1, .int h_4_2, .int h_4_3, .int h_4_4, .ref h_4_5, .ref h_4_6])), (h_4_0, .inr (1, [.ref h0, .int s28_0, .ref h_4_0_2, .ref h_4_0_3, .ref h_4_0_4, .ref h_4_0_5, .ref h_4_0_6, .ref h_4_0_7, .ref h_4_0_8, .ref h_4_0_9, .ref h_4_0_10, .ref h_4_0_11, .ref h_4_0_12, .ref h_4_0_13])), (h0, .inr (8, [.ref h0_0, .int h0_1])), (h0_0, .inl (a_h0_0, n_h0_0, .inl f_h0_0)), (h_4_0_13, .inl (a_h_4_0_13, 480, .inl s28_1)), (h_4_0_12, .inl (a_h_4_0_12, 40, .inl s28_2)), (h_4_0_2, .inl (a_h_4_0_2, 40, .inl s28_3)), (h_4_0_3, .inl (a_h_4_0_3, 40, .inl s28_4)), (h_4_0_9, .inl (a_h_4_0_9, 40, .inl s28_5)), (h_4_0_4, .inl (a_h_4_0_4, 40, .inl s28_6)), (h_4_0_5, .inl (a_h_4_0_5, 40, .inl s28_7)), (h_4_0_8, .inl (a_h_4_0_8, 40, .inl s28_8)), (h_4_0_6, .inl (a_h_4_0_6, 40, .inl s28_9)), (h_4_0_7, .inl (a_h_4_0_7, 40, .inl s28_10)), (h_4_0_11, .inl (a_h_4_0_11, 40, .inl s28_11)), (h_4_0_10, .inl (a_h_4_0_10, 40, .inl s28_12)), (h_5, .inr (3, [.ref h_5_0, .ref h_5_1, .int h_5_2, .int h_5_3, .int h_5_4, .ref h_5_5, .ref h_5_6])), (h_5_0, .inr (1, [.ref h1, .int s39_0, .ref h_5_0_2, .ref h_5_0_3, .ref h_5_0_4, .ref h_5_0_5, .ref h_5_0_6, .ref h_5_0_7, .ref h_5_0_8, .ref h_5_0_9, .ref h_5_0_10, .ref h_5_0_11, .ref h_5_0_12, .ref h_5_0_13])), (h1, .inr (8, [.ref h1_0, .int h1_1])), (h1_0, .inl (a_h1_0, n_h1_0, .inl f_h1_0)), (h_5_0_13, .inl (a_h_5_0_13, 480, .inl s39_1)), (h_5_0_12, .inl (a_h_5_0_12, 40, .inl s39_2)), (h_5_0_2, .inl (a_h_5_0_2, 40, .inl s39_3)), (h_5_0_3, .inl (a_h_5_0_3, 40, .inl s39_4)), (h_5_0_9, .inl (a_h_5_0_9, 40, .inl s39_5)), (h_5_0_4, .inl (a_h_5_0_4, 40, .inl s39_6)), (h_5_0_5, .inl (a_h_5_0_5, 40, .inl s39_7)), (h_5_0_8, .inl (a_h_5_0_8, 40, .inl s39_8)), (h_5_0_6, .inl (a_h_5_0_6, 40, .inl s39_9)), (h_5_0_7, .inl (a_h_5_0_7, 40, .inl s39_10)), (h_5_0_11, .inl (a_h_5_0_11, 40, .inl s39_11)), (h_5_0_10, .inl (a_h_5_0_10, 40, .inl s39_12)), (h_4_5, .inl (a_h_4_5, 6, .inl f_h_4_5)), (h_4_6, .inl (a_h_4_6, 300, .inl f_h_4_6)), (h_4_1, .inl (a_h_4_1, 100, .inl f_h_4_1)), (h_5_5, .inl (a_h_5_5, 6, .inl f_h_5_5)), (h_5_6, .inl (a_h_5_6, 300, .inl f_h_5_6)), (h_5_1, .inl (a_h_5_1, 100, .inl f_h_5_1))] H A s.heap locs ∧ lv_has ls 9 [(5, .int j80_S_0), (4, .int v64), (0, .ref h), (1, .ref h0), (2, .ref h1), (3, .int x2)]) (fun (j95_S_0 : Int32) ls => F0 m 95 ls [.int j95_S_0]) (fun j95_S_0 H locs ls hi => ?_) (fun J95 => ?_)
    · obtain ⟨i95_0, i95_1, Wd, hl⟩ := hi
      refine lv_istore (lv' := [(6, .int j95_S_0), (5, .int j80_S_0), (4, .int v64), (0, .ref h), (1, .ref h0), (2, .ref h1), (3, .int x2)]) C.1 C.2.1 dX2_compare_95 hl (by decide) rfl (fun ls hl => ?_)
      refine lv_iconst (v := 0) C.1 C.2.1 dX2_compare_97 (by decide) ?_
      refine lv_istore (lv' := [(7, .int 0), (6, .int j95_S_0), (5, .int j80_S_0), (4, .int v64), (0, .ref h), (1, .ref h0), (2, .ref h1), (3, .int x2)]) C.1 C.2.1 dX2_compare_98 hl (by decide) rfl (fun ls hl => ?_)
      refine k_loopA (fun (u : (Nat → Int32) × (Nat → Int32) × (Nat → Int32) × (Nat → Int32) × (Nat → Int32) × (Nat → Int32) × (Int32) × (Int32) × (Int32) × (Int32) × (Int32) × (Int32) × (Int32) × (Int32) × (Int32) × (Int32) × (Int32)) H locs ls => match u with | (j100_C_h_4_1, j100_C_h_4_5, j100_C_h_4_6, j100_C_h_5_1, j100_C_h_5_5, j100_C_h_5_6, j100_F_h_0, j100_F_h_1, j100_F_h_2, j100_F_h_3, j100_F_h_4_2, j100_F_h_4_3, j100_F_h_4_4, j100_F_h_5_2, j100_F_h_5_3, j100_F_h_5_4, j100_L_7) => 0 ≤ j100_F_h_3.toInt ∧ 0 ≤ j100_L_7.toInt ∧ j100_F_h_3.toInt ≤ 1 ∧ j100_L_7.toInt ≤ 31 ∧ j100_F_h_3.toInt ≤ j100_L_7.toInt ∧ j100_L_7.toInt ≤ j80_S_0.toInt + 15 ∧ wX D [(a_h0_0, .int), (a_h_4_0_13, .int), (a_h_4_0_12, .int), (a_h_4_0_2, .int), (a_h_4_0_3, .int), (a_h_4_0_9, .int), (a_h_4_0_4, .int), (a_h_4_0_5, .int), (a_h_4_0_8, .int), (a_h_4_0_6, .int), (a_h_4_0_7, .int), (a_h_4_0_11, .int), (a_h_4_0_10, .int), (a_h1_0, .int), (a_h_5_0_13, .int), (a_h_5_0_12, .int), (a_h_5_0_2, .int), (a_h_5_0_3, .int), (a_h_5_0_9, .int), (a_h_5_0_4, .int), (a_h_5_0_5, .int), (a_h_5_0_8, .int), (a_h_5_0_6, .int), (a_h_5_0_7, .int), (a_h_5_0_11, .int), (a_h_5_0_10, .int), (a_h_4_5, .int), (a_h_4_6, .int), (a_h_4_1, .int), (a_h_5_5, .int), (a_h_5_6, .int), (a_h_5_1, .int)] s [(h, .inr (2, [.int j100_F_h_0, .int j100_F_h_1, .int j100_F_h_2, .int j100_F_h_3, .ref h_4, .ref h_5])), (h_4, .inr (3, [.ref h_4_0, .ref h_4_1, .int j100_F_h_4_2, .int j100_F_h_4_3, .int j100_F_h_4_4, .ref h_4_5, .ref h_4_6])), (h_4_0, .inr (1, [.ref h0, .int s28_0, .ref h_4_0_2, .ref h_4_0_3, .ref h_4_0_4, .ref h_4_0_5, .ref h_4_0_6, .ref h_4_0_7, .ref h_4_0_8, .ref h_4_0_9, .ref h_4_0_10, .ref h_4_0_11, .ref h_4_0_12, .ref h_4_0_13])), (h0, .inr (8, [.ref h0_0, .int h0_1])), (h0_0, .inl (a_h0_0, n_h0_0, .inl f_h0_0)), (h_4_0_13, .inl (a_h_4_0_13, 480, .inl s28_1)), (h_4_0_12, .inl (a_h_4_0_12, 40, .inl s28_2)), (h_4_0_2, .inl (a_h_4_0_2, 40, .inl s28_3)), (h_4_0_3, .inl (a_h_4_0_3, 40, .inl s28_4)), (h_4_0_9, .inl (a_h_4_0_9, 40, .inl s28_5)), (h_4_0_4, .inl (a_h_4_0_4, 40, .inl s28_6)), (h_4_0_5, .inl (a_h_4_0_5, 40, .inl s28_7)), (h_4_0_8, .inl (a_h_4_0_8, 40, .inl s28_8)), (h_4_0_6, .inl (a_h_4_0_6, 40, .inl s28_9)), (h_4_0_7, .inl (a_h_4_0_7, 40, .inl s28_10)), (h_4_0_11, .inl (a_h_4_0_11, 40, .inl s28_11)), (h_4_0_10, .inl (a_h_4_0_10, 40, .inl s28_12)), (h_5, .inr (3, [.ref h_5_0, .ref h_5_1, .int j100_F_h_5_2, .int j100_F_h_5_3, .int j100_F_h_5_4, .ref h_5_5, .ref h_5_6])), (h_5_0, .inr (1, [.ref h1, .int s39_0, .ref h_5_0_2, .ref h_5_0_3, .ref h_5_0_4, .ref h_5_0_5, .ref h_5_0_6, .ref h_5_0_7, .ref h_5_0_8, .ref h_5_0_9, .ref h_5_0_10, .ref h_5_0_11, .ref h_5_0_12, .ref h_5_0_13])), (h1, .inr (8, [.ref h1_0, .int h1_1])), (h1_0, .inl (a_h1_0, n_h1_0, .inl f_h1_0)), (h_5_0_13, .inl (a_h_5_0_13, 480, .inl s39_1)), (h_5_0_12, .inl (a_h_5_0_12, 40, .inl s39_2)), (h_5_0_2, .inl (a_h_5_0_2, 40, .inl s39_3)), (h_5_0_3, .inl (a_h_5_0_3, 40, .inl s39_4)), (h_5_0_9, .inl (a_h_5_0_9, 40, .inl s39_5)), (h_5_0_4, .inl (a_h_5_0_4, 40, .inl s39_6)), (h_5_0_5, .inl (a_h_5_0_5, 40, .inl s39_7)), (h_5_0_8, .inl (a_h_5_0_8, 40, .inl s39_8)), (h_5_0_6, .inl (a_h_5_0_6, 40, .inl s39_9)), (h_5_0_7, .inl (a_h_5_0_7, 40, .inl s39_10)), (h_5_0_11, .inl (a_h_5_0_11, 40, .inl s39_11)), (h_5_0_10, .inl (a_h_5_0_10, 40, .inl s39_12)), (h_4_5, .inl (a_h_4_5, 6, .inl j100_C_h_4_5)), (h_4_6, .inl (a_h_4_6, 300, .inl j100_C_h_4_6)), (h_4_1, .inl (a_h_4_1, 100, .inl j100_C_h_4_1)), (h_5_5, .inl (a_h_5_5, 6, .inl j100_C_h_5_5)), (h_5_6, .inl (a_h_5_6, 300, .inl j100_C_h_5_6)), (h_5_1, .inl (a_h_5_1, 100, .inl j100_C_h_5_1))] H A s.heap locs ∧ lv_has ls 9 [(7, .int j100_L_7), (6, .int j95_S_0), (5, .int j80_S_0), (4, .int v64), (0, .ref h), (1, .ref h0), (2, .ref h1), (3, .int x2)]) (fun (u : (Nat → Int32) × (Nat → Int32) × (Nat → Int32) × (Nat → Int32) × (Nat → Int32) × (Nat → Int32) × (Int32) × (Int32) × (Int32) × (Int32) × (Int32) × (Int32) × (Int32) × (Int32) × (Int32) × (Int32) × (Int32)) ls => match u with | (j100_C_h_4_1, j100_C_h_4_5, j100_C_h_4_6, j100_C_h_5_1, j100_C_h_5_5, j100_C_h_5_6, j100_F_h_0, j100_F_h_1, j100_F_h_2, j100_F_h_3, j100_F_h_4_2, j100_F_h_4_3, j100_F_h_4_4, j100_F_h_5_2, j100_F_h_5_3, j100_F_h_5_4, j100_L_7) => F0 m 100 ls []) (fun (u : (Nat → Int32) × (Nat → Int32) × (Nat → Int32) × (Nat → Int32) × (Nat → Int32) × (Nat → Int32) × (Int32) × (Int32) × (Int32) × (Int32) × (Int32) × (Int32) × (Int32) × (Int32) × (Int32) × (Int32) × (Int32)) => match u with | (j100_C_h_4_1, j100_C_h_4_5, j100_C_h_4_6, j100_C_h_5_1, j100_C_h_5_5, j100_C_h_5_6, j100_F_h_0, j100_F_h_1, j100_F_h_2, j100_F_h_3, j100_F_h_4_2, j100_F_h_4_3, j100_F_h_4_4, j100_F_h_5_2, j100_F_h_5_3, j100_F_h_5_4, j100_L_7) => (32 - j100_L_7.toInt).toNat) (fun u H locs ls hi ih100 => ?_) (f_h_4_1, f_h_4_5, f_h_4_6, f_h_5_1, f_h_5_5, f_h_5_6, (-1), (-1), 0, 0, h_4_2, h_4_3, h_4_4, h_5_2, h_5_3, h_5_4, 0) _ _ _ ⟨by have zq0 : (0 : Int32).toInt = 0 := (by decide); omega, by have zq0 : (0 : Int32).toInt = 0 := (by decide); omega, by have zq0 : (0 : Int32).toInt = 0 := (by decide); omega, by have zq0 : (0 : Int32).toInt = 0 := (by decide); omega, by have zq0 : (0 : Int32).toInt = 0 := (by decide); omega, by have zq0 : (0 : Int32).toInt = 0 := (by decide); omega, Wd, lv_sub hl [0, 1, 2, 3, 4, 5, 6, 7] rfl⟩
      obtain ⟨j100_C_h_4_1, j100_C_h_4_5, j100_C_h_4_6, j100_C_h_5_1, j100_C_h_5_5, j100_C_h_5_6, j100_F_h_0, j100_F_h_1, j100_F_h_2, j100_F_h_3, j100_F_h_4_2, j100_F_h_4_3, j100_F_h_4_4, j100_F_h_5_2, j100_F_h_5_3, j100_F_h_5_4, j100_L_7⟩ := u
      obtain ⟨i100_0, i100_1, i100_2, i100_3, i100_4, i100_5, Wd, hl⟩ := hi
      refine lv_iload C.1 C.2.1 dX2_compare_100 (lv_at hl 0 rfl) ?_
      refine lv_bipush (v := 16) C.1 C.2.1 dX2_compare_102 (by decide) ?_
      refine lv_icmp_ge (tgt := 189) C.1 C.2.1 dX2_compare_104 (by decide) (fun c104 => ?_) (fun c104 => ?_)
      · have i104 : 16 ≤ j100_L_7.toInt := kz_le c104
        refine lv_aload_n C.1 C.2.1 dX2_compare_189 rfl (lv_at hl 4 rfl) ?_
        refine k_get C Wd KX2 0 2 rfl (by decide) fl_X2_28 rfl dX2_compare_190 ?_
        refine k_cutA (fun (j201_S_0 : Int32) H locs ls => 0 ≤ j201_S_0.toInt ∧ j201_S_0.toInt ≤ 1 ∧ wX D [(a_h0_0, .int), (a_h_4_0_13, .int), (a_h_4_0_12, .int), (a_h_4_0_2, .int), (a_h_4_0_3, .int), (a_h_4_0_9, .int), (a_h_4_0_4, .int), (a_h_4_0_5, .int), (a_h_4_0_8, .int), (a_h_4_0_6, .int), (a_h_4_0_7, .int), (a_h_4_0_11, .int), (a_h_4_0_10, .int), (a_h1_0, .int), (a_h_5_0_13, .int), (a_h_5_0_12, .int), (a_h_5_0_2, .int), (a_h_5_0_3, .int), (a_h_5_0_9, .int), (a_h_5_0_4, .int), (a_h_5_0_5, .int), (a_h_5_0_8, .int), (a_h_5_0_6, .int), (a_h_5_0_7, .int), (a_h_5_0_11, .int), (a_h_5_0_10, .int), (a_h_4_5, .int), (a_h_4_6, .int), (a_h_4_1, .int), (a_h_5_5, .int), (a_h_5_6, .int), (a_h_5_1, .int)] s [(h, .inr (2, [.int j100_F_h_0, .int j100_F_h_1, .int j100_F_h_2, .int j100_F_h_3, .ref h_4, .ref h_5])), (h_4, .inr (3, [.ref h_4_0, .ref h_4_1, .int j100_F_h_4_2, .int j100_F_h_4_3, .int j100_F_h_4_4, .ref h_4_5, .ref h_4_6])), (h_4_0, .inr (1, [.ref h0, .int s28_0, .ref h_4_0_2, .ref h_4_0_3, .ref h_4_0_4, .ref h_4_0_5, .ref h_4_0_6, .ref h_4_0_7, .ref h_4_0_8, .ref h_4_0_9, .ref h_4_0_10, .ref h_4_0_11, .ref h_4_0_12, .ref h_4_0_13])), (h0, .inr (8, [.ref h0_0, .int h0_1])), (h0_0, .inl (a_h0_0, n_h0_0, .inl f_h0_0)), (h_4_0_13, .inl (a_h_4_0_13, 480, .inl s28_1)), (h_4_0_12, .inl (a_h_4_0_12, 40, .inl s28_2)), (h_4_0_2, .inl (a_h_4_0_2, 40, .inl s28_3)), (h_4_0_3, .inl (a_h_4_0_3, 40, .inl s28_4)), (h_4_0_9, .inl (a_h_4_0_9, 40, .inl s28_5)), (h_4_0_4, .inl (a_h_4_0_4, 40, .inl s28_6)), (h_4_0_5, .inl (a_h_4_0_5, 40, .inl s28_7)), (h_4_0_8, .inl (a_h_4_0_8, 40, .inl s28_8)), (h_4_0_6, .inl (a_h_4_0_6, 40, .inl s28_9)), (h_4_0_7, .inl (a_h_4_0_7, 40, .inl s28_10)), (h_4_0_11, .inl (a_h_4_0_11, 40, .inl s28_11)), (h_4_0_10, .inl (a_h_4_0_10, 40, .inl s28_12)), (h_5, .inr (3, [.ref h_5_0, .ref h_5_1, .int j100_F_h_5_2, .int j100_F_h_5_3, .int j100_F_h_5_4, .ref h_5_5, .ref h_5_6])), (h_5_0, .inr (1, [.ref h1, .int s39_0, .ref h_5_0_2, .ref h_5_0_3, .ref h_5_0_4, .ref h_5_0_5, .ref h_5_0_6, .ref h_5_0_7, .ref h_5_0_8, .ref h_5_0_9, .ref h_5_0_10, .ref h_5_0_11, .ref h_5_0_12, .ref h_5_0_13])), (h1, .inr (8, [.ref h1_0, .int h1_1])), (h1_0, .inl (a_h1_0, n_h1_0, .inl f_h1_0)), (h_5_0_13, .inl (a_h_5_0_13, 480, .inl s39_1)), (h_5_0_12, .inl (a_h_5_0_12, 40, .inl s39_2)), (h_5_0_2, .inl (a_h_5_0_2, 40, .inl s39_3)), (h_5_0_3, .inl (a_h_5_0_3, 40, .inl s39_4)), (h_5_0_9, .inl (a_h_5_0_9, 40, .inl s39_5)), (h_5_0_4, .inl (a_h_5_0_4, 40, .inl s39_6)), (h_5_0_5, .inl (a_h_5_0_5, 40, .inl s39_7)), (h_5_0_8, .inl (a_h_5_0_8, 40, .inl s39_8)), (h_5_0_6, .inl (a_h_5_0_6, 40, .inl s39_9)), (h_5_0_7, .inl (a_h_5_0_7, 40, .inl s39_10)), (h_5_0_11, .inl (a_h_5_0_11, 40, .inl s39_11)), (h_5_0_10, .inl (a_h_5_0_10, 40, .inl s39_12)), (h_4_5, .inl (a_h_4_5, 6, .inl j100_C_h_4_5)), (h_4_6, .inl (a_h_4_6, 300, .inl j100_C_h_4_6)), (h_4_1, .inl (a_h_4_1, 100, .inl j100_C_h_4_1)), (h_5_5, .inl (a_h_5_5, 6, .inl j100_C_h_5_5)), (h_5_6, .inl (a_h_5_6, 300, .inl j100_C_h_5_6)), (h_5_1, .inl (a_h_5_1, 100, .inl j100_C_h_5_1))] H A s.heap locs ∧ lv_has ls 9 [(7, .int j100_L_7), (6, .int j95_S_0), (5, .int j80_S_0), (4, .int v64), (0, .ref h), (1, .ref h0), (2, .ref h1), (3, .int x2)]) (fun (j201_S_0 : Int32) ls => F0 m 201 ls [.int j201_S_0]) (fun j201_S_0 H locs ls hi => ?_) (fun J201 => ?_)
        · obtain ⟨i201_0, i201_1, Wd, hl⟩ := hi
          exact k_zret C hr hlk (k_nb (by omega) (by omega)) Wd (j100_F_h_0, j100_F_h_1, j100_F_h_2, j100_F_h_3, j100_F_h_4_2, j100_F_h_4_3, j100_F_h_4_4, s28_0, s28_1, s28_2, s28_3, s28_4, s28_5, s28_6, s28_7, s28_8, s28_9, s28_10, s28_11, s28_12, j100_F_h_5_2, j100_F_h_5_3, j100_F_h_5_4, s39_0, s39_1, s39_2, s39_3, s39_4, s39_5, s39_6, s39_7, s39_8, s39_9, s39_10, s39_11, s39_12, j100_C_h_4_5, j100_C_h_4_6, j100_C_h_4_1, j100_C_h_5_5, j100_C_h_5_6, j100_C_h_5_1) (by exact ⟨by omega, by omega, by omega, by omega, by omega, by omega, by omega, by omega, by omega, by omega, by omega, by omega⟩) [0, 1, 2, 3, 4, 5, 6, 7, 8, 9, 10, 11, 12, 13, 14, 15, 16, 17, 18, 19, 20, 21, 22, 23, 24, 25, 26, 27, 28, 29, 30, 31, 32, 33, 34, 35, 36, 37, 38] rfl (by decide) [] rfl (by decide) (by decide) dX2_compare_201
        refine lv_if_le (tgt := 200) C.1 C.2.1 dX2_compare_193 (by decide) (fun c193 => ?_) (fun c193 => ?_)
        · have i193 : j100_F_h_2.toInt ≤ 0 := kz_le c193
          refine lv_iconst (v := 0) C.1 C.2.1 dX2_compare_200 (by decide) ?_
          exact J201 0 _ _ _ ⟨by have zq0 : (0 : Int32).toInt = 0 := (by decide); omega, by have zq0 : (0 : Int32).toInt = 0 := (by decide); omega, Wd, lv_sub hl [0, 1, 2, 3, 4, 5, 6, 7] rfl⟩
        · have i193 : 0 < j100_F_h_2.toInt := kz_nle c193
          refine lv_iconst (v := 1) C.1 C.2.1 dX2_compare_196 (by decide) ?_
          refine lv_goto (tgt := 201) C.1 C.2.1 dX2_compare_197 (by decide) ?_
          exact J201 1 _ _ _ ⟨by have zq1 : (1 : Int32).toInt = 1 := (by decide); omega, by have zq1 : (1 : Int32).toInt = 1 := (by decide); omega, Wd, lv_sub hl [0, 1, 2, 3, 4, 5, 6, 7] rfl⟩
      · have i104 : j100_L_7.toInt < 16 := kz_nle c104
        refine lv_iconst (v := 0) C.1 C.2.1 dX2_compare_107 (by decide) ?_
        refine lv_istore (lv' := [(8, .int 0), (7, .int j100_L_7), (6, .int j95_S_0), (5, .int j80_S_0), (4, .int v64), (0, .ref h), (1, .ref h0), (2, .ref h1), (3, .int x2)]) C.1 C.2.1 dX2_compare_108 hl (by decide) rfl (fun ls hl => ?_)
        refine k_loopA (fun (u : (Nat → Int32) × (Nat → Int32) × (Nat → Int32) × (Nat → Int32) × (Nat → Int32) × (Nat → Int32) × (Int32) × (Int32) × (Int32) × (Int32) × (Int32) × (Int32) × (Int32) × (Int32) × (Int32) × (Int32) × (Int32) × (Int32)) H locs ls => match u with | (j110_C_h_4_1, j110_C_h_4_5, j110_C_h_4_6, j110_C_h_5_1, j110_C_h_5_5, j110_C_h_5_6, j110_F_h_0, j110_F_h_1, j110_F_h_2, j110_F_h_3, j110_F_h_4_2, j110_F_h_4_3, j110_F_h_4_4, j110_F_h_5_2, j110_F_h_5_3, j110_F_h_5_4, j110_L_7, j110_L_8) => 0 ≤ j110_F_h_3.toInt ∧ 0 ≤ j110_L_7.toInt ∧ 0 ≤ j110_L_8.toInt ∧ j110_F_h_3.toInt ≤ 1 ∧ j110_L_7.toInt ≤ 15 ∧ j110_L_8.toInt ≤ 32 ∧ j100_F_h_3.toInt ≤ j110_L_7.toInt ∧ j100_L_7.toInt ≤ j110_L_7.toInt ∧ j110_L_7.toInt ≤ j100_L_7.toInt ∧ j110_L_8.toInt ≤ j95_S_0.toInt + 16 ∧ wX D [(a_h0_0, .int), (a_h_4_0_13, .int), (a_h_4_0_12, .int), (a_h_4_0_2, .int), (a_h_4_0_3, .int), (a_h_4_0_9, .int), (a_h_4_0_4, .int), (a_h_4_0_5, .int), (a_h_4_0_8, .int), (a_h_4_0_6, .int), (a_h_4_0_7, .int), (a_h_4_0_11, .int), (a_h_4_0_10, .int), (a_h1_0, .int), (a_h_5_0_13, .int), (a_h_5_0_12, .int), (a_h_5_0_2, .int), (a_h_5_0_3, .int), (a_h_5_0_9, .int), (a_h_5_0_4, .int), (a_h_5_0_5, .int), (a_h_5_0_8, .int), (a_h_5_0_6, .int), (a_h_5_0_7, .int), (a_h_5_0_11, .int), (a_h_5_0_10, .int), (a_h_4_5, .int), (a_h_4_6, .int), (a_h_4_1, .int), (a_h_5_5, .int), (a_h_5_6, .int), (a_h_5_1, .int)] s [(h, .inr (2, [.int j110_F_h_0, .int j110_F_h_1, .int j110_F_h_2, .int j110_F_h_3, .ref h_4, .ref h_5])), (h_4, .inr (3, [.ref h_4_0, .ref h_4_1, .int j110_F_h_4_2, .int j110_F_h_4_3, .int j110_F_h_4_4, .ref h_4_5, .ref h_4_6])), (h_4_0, .inr (1, [.ref h0, .int s28_0, .ref h_4_0_2, .ref h_4_0_3, .ref h_4_0_4, .ref h_4_0_5, .ref h_4_0_6, .ref h_4_0_7, .ref h_4_0_8, .ref h_4_0_9, .ref h_4_0_10, .ref h_4_0_11, .ref h_4_0_12, .ref h_4_0_13])), (h0, .inr (8, [.ref h0_0, .int h0_1])), (h0_0, .inl (a_h0_0, n_h0_0, .inl f_h0_0)), (h_4_0_13, .inl (a_h_4_0_13, 480, .inl s28_1)), (h_4_0_12, .inl (a_h_4_0_12, 40, .inl s28_2)), (h_4_0_2, .inl (a_h_4_0_2, 40, .inl s28_3)), (h_4_0_3, .inl (a_h_4_0_3, 40, .inl s28_4)), (h_4_0_9, .inl (a_h_4_0_9, 40, .inl s28_5)), (h_4_0_4, .inl (a_h_4_0_4, 40, .inl s28_6)), (h_4_0_5, .inl (a_h_4_0_5, 40, .inl s28_7)), (h_4_0_8, .inl (a_h_4_0_8, 40, .inl s28_8)), (h_4_0_6, .inl (a_h_4_0_6, 40, .inl s28_9)), (h_4_0_7, .inl (a_h_4_0_7, 40, .inl s28_10)), (h_4_0_11, .inl (a_h_4_0_11, 40, .inl s28_11)), (h_4_0_10, .inl (a_h_4_0_10, 40, .inl s28_12)), (h_5, .inr (3, [.ref h_5_0, .ref h_5_1, .int j110_F_h_5_2, .int j110_F_h_5_3, .int j110_F_h_5_4, .ref h_5_5, .ref h_5_6])), (h_5_0, .inr (1, [.ref h1, .int s39_0, .ref h_5_0_2, .ref h_5_0_3, .ref h_5_0_4, .ref h_5_0_5, .ref h_5_0_6, .ref h_5_0_7, .ref h_5_0_8, .ref h_5_0_9, .ref h_5_0_10, .ref h_5_0_11, .ref h_5_0_12, .ref h_5_0_13])), (h1, .inr (8, [.ref h1_0, .int h1_1])), (h1_0, .inl (a_h1_0, n_h1_0, .inl f_h1_0)), (h_5_0_13, .inl (a_h_5_0_13, 480, .inl s39_1)), (h_5_0_12, .inl (a_h_5_0_12, 40, .inl s39_2)), (h_5_0_2, .inl (a_h_5_0_2, 40, .inl s39_3)), (h_5_0_3, .inl (a_h_5_0_3, 40, .inl s39_4)), (h_5_0_9, .inl (a_h_5_0_9, 40, .inl s39_5)), (h_5_0_4, .inl (a_h_5_0_4, 40, .inl s39_6)), (h_5_0_5, .inl (a_h_5_0_5, 40, .inl s39_7)), (h_5_0_8, .inl (a_h_5_0_8, 40, .inl s39_8)), (h_5_0_6, .inl (a_h_5_0_6, 40, .inl s39_9)), (h_5_0_7, .inl (a_h_5_0_7, 40, .inl s39_10)), (h_5_0_11, .inl (a_h_5_0_11, 40, .inl s39_11)), (h_5_0_10, .inl (a_h_5_0_10, 40, .inl s39_12)), (h_4_5, .inl (a_h_4_5, 6, .inl j110_C_h_4_5)), (h_4_6, .inl (a_h_4_6, 300, .inl j110_C_h_4_6)), (h_4_1, .inl (a_h_4_1, 100, .inl j110_C_h_4_1)), (h_5_5, .inl (a_h_5_5, 6, .inl j110_C_h_5_5)), (h_5_6, .inl (a_h_5_6, 300, .inl j110_C_h_5_6)), (h_5_1, .inl (a_h_5_1, 100, .inl j110_C_h_5_1))] H A s.heap locs ∧ lv_has ls 9 [(8, .int j110_L_8), (7, .int j110_L_7), (6, .int j95_S_0), (5, .int j80_S_0), (4, .int v64), (0, .ref h), (1, .ref h0), (2, .ref h1), (3, .int x2)]) (fun (u : (Nat → Int32) × (Nat → Int32) × (Nat → Int32) × (Nat → Int32) × (Nat → Int32) × (Nat → Int32) × (Int32) × (Int32) × (Int32) × (Int32) × (Int32) × (Int32) × (Int32) × (Int32) × (Int32) × (Int32) × (Int32) × (Int32)) ls => match u with | (j110_C_h_4_1, j110_C_h_4_5, j110_C_h_4_6, j110_C_h_5_1, j110_C_h_5_5, j110_C_h_5_6, j110_F_h_0, j110_F_h_1, j110_F_h_2, j110_F_h_3, j110_F_h_4_2, j110_F_h_4_3, j110_F_h_4_4, j110_F_h_5_2, j110_F_h_5_3, j110_F_h_5_4, j110_L_7, j110_L_8) => F0 m 110 ls []) (fun (u : (Nat → Int32) × (Nat → Int32) × (Nat → Int32) × (Nat → Int32) × (Nat → Int32) × (Nat → Int32) × (Int32) × (Int32) × (Int32) × (Int32) × (Int32) × (Int32) × (Int32) × (Int32) × (Int32) × (Int32) × (Int32) × (Int32)) => match u with | (j110_C_h_4_1, j110_C_h_4_5, j110_C_h_4_6, j110_C_h_5_1, j110_C_h_5_5, j110_C_h_5_6, j110_F_h_0, j110_F_h_1, j110_F_h_2, j110_F_h_3, j110_F_h_4_2, j110_F_h_4_3, j110_F_h_4_4, j110_F_h_5_2, j110_F_h_5_3, j110_F_h_5_4, j110_L_7, j110_L_8) => (33 - j110_L_8.toInt).toNat) (fun u H locs ls hi ih110 => ?_) (j100_C_h_4_1, j100_C_h_4_5, j100_C_h_4_6, j100_C_h_5_1, j100_C_h_5_5, j100_C_h_5_6, j100_F_h_0, j100_F_h_1, j100_F_h_2, j100_F_h_3, j100_F_h_4_2, j100_F_h_4_3, j100_F_h_4_4, j100_F_h_5_2, j100_F_h_5_3, j100_F_h_5_4, j100_L_7, 0) _ _ _ ⟨by omega, by omega, by have zq0 : (0 : Int32).toInt = 0 := (by decide); omega, by omega, by omega, by have zq0 : (0 : Int32).toInt = 0 := (by decide); omega, by omega, by omega, by omega, by have zq0 : (0 : Int32).toInt = 0 := (by decide); omega, Wd, lv_sub hl [0, 1, 2, 3, 4, 5, 6, 7, 8] rfl⟩
        obtain ⟨j110_C_h_4_1, j110_C_h_4_5, j110_C_h_4_6, j110_C_h_5_1, j110_C_h_5_5, j110_C_h_5_6, j110_F_h_0, j110_F_h_1, j110_F_h_2, j110_F_h_3, j110_F_h_4_2, j110_F_h_4_3, j110_F_h_4_4, j110_F_h_5_2, j110_F_h_5_3, j110_F_h_5_4, j110_L_7, j110_L_8⟩ := u
        obtain ⟨i110_0, i110_1, i110_2, i110_3, i110_4, i110_5, i110_6, i110_7, i110_8, i110_9, Wd, hl⟩ := hi
        refine lv_iload C.1 C.2.1 dX2_compare_110 (lv_at hl 0 rfl) ?_
        refine lv_bipush (v := 16) C.1 C.2.1 dX2_compare_112 (by decide) ?_
        refine lv_icmp_ge (tgt := 179) C.1 C.2.1 dX2_compare_114 (by decide) (fun c114 => ?_) (fun c114 => ?_)
        · have i114 : 16 ≤ j110_L_8.toInt := kz_le c114
          refine lv_iload C.1 C.2.1 dX2_compare_179 (lv_at hl 1 rfl) ?_
          refine lv_iload C.1 C.2.1 dX2_compare_181 (lv_at hl 3 rfl) ?_
          obtain ⟨v183, ev183⟩ : ∃ z : Int32, j110_L_7 + j80_S_0 = z := ⟨_, rfl⟩
          have iv183 : v183.toInt = j110_L_7.toInt + j80_S_0.toInt := kz_addv ev183 (by omega) (by omega)
          refine k_iadd (v := v183) C ev183 dX2_compare_183 ?_
          refine lv_istore (lv' := [(7, .int v183), (8, .int j110_L_8), (6, .int j95_S_0), (5, .int j80_S_0), (4, .int v64), (0, .ref h), (1, .ref h0), (2, .ref h1), (3, .int x2)]) C.1 C.2.1 dX2_compare_184 hl (by decide) rfl (fun ls hl => ?_)
          refine lv_goto (tgt := 100) C.1 C.2.1 dX2_compare_186 (by decide) ?_
          exact ih100 (j110_C_h_4_1, j110_C_h_4_5, j110_C_h_4_6, j110_C_h_5_1, j110_C_h_5_5, j110_C_h_5_6, j110_F_h_0, j110_F_h_1, j110_F_h_2, j110_F_h_3, j110_F_h_4_2, j110_F_h_4_3, j110_F_h_4_4, j110_F_h_5_2, j110_F_h_5_3, j110_F_h_5_4, v183) _ _ _ ⟨by omega, by omega, by omega, by omega, by omega, by omega, Wd, lv_sub hl [0, 2, 3, 4, 5, 6, 7, 8] rfl⟩ (by omega)
        · have i114 : j110_L_8.toInt < 16 := kz_nle c114
          refine lv_aload_n C.1 C.2.1 dX2_compare_117 rfl (lv_at hl 5 rfl) ?_
          refine k_get C Wd KX2 0 4 rfl (by decide) fl_X2_12 rfl dX2_compare_118 ?_
          refine lv_iload C.1 C.2.1 dX2_compare_121 (lv_at hl 1 rfl) ?_
          refine lv_iload C.1 C.2.1 dX2_compare_123 (lv_at hl 0 rfl) ?_
          refine k_cv Wd [1, 33, 2, 8, 10, 11, 3, 4, 34, 35, 7, 14, 13] [0, 5, 6, 9, 12, 15, 16, 17, 18, 19, 20, 21, 22, 23, 24, 25, 26, 27, 28, 29, 30, 31, 32, 36, 37, 38] rfl (wr := [(h, .inr (2, [.int j110_F_h_0, .int j110_F_h_1, .int j110_F_h_2, .int j110_F_h_3, .ref h_4, .ref h_5])), (h_4_0_13, .inl (a_h_4_0_13, 480, .inl s28_1)), (h_4_0_12, .inl (a_h_4_0_12, 40, .inl s28_2)), (h_4_0_9, .inl (a_h_4_0_9, 40, .inl s28_5)), (h_4_0_8, .inl (a_h_4_0_8, 40, .inl s28_8)), (h_4_0_11, .inl (a_h_4_0_11, 40, .inl s28_11)), (h_4_0_10, .inl (a_h_4_0_10, 40, .inl s28_12)), (h_5, .inr (3, [.ref h_5_0, .ref h_5_1, .int j110_F_h_5_2, .int j110_F_h_5_3, .int j110_F_h_5_4, .ref h_5_5, .ref h_5_6])), (h_5_0, .inr (1, [.ref h1, .int s39_0, .ref h_5_0_2, .ref h_5_0_3, .ref h_5_0_4, .ref h_5_0_5, .ref h_5_0_6, .ref h_5_0_7, .ref h_5_0_8, .ref h_5_0_9, .ref h_5_0_10, .ref h_5_0_11, .ref h_5_0_12, .ref h_5_0_13])), (h1, .inr (8, [.ref h1_0, .int h1_1])), (h1_0, .inl (a_h1_0, n_h1_0, .inl f_h1_0)), (h_5_0_13, .inl (a_h_5_0_13, 480, .inl s39_1)), (h_5_0_12, .inl (a_h_5_0_12, 40, .inl s39_2)), (h_5_0_2, .inl (a_h_5_0_2, 40, .inl s39_3)), (h_5_0_3, .inl (a_h_5_0_3, 40, .inl s39_4)), (h_5_0_9, .inl (a_h_5_0_9, 40, .inl s39_5)), (h_5_0_4, .inl (a_h_5_0_4, 40, .inl s39_6)), (h_5_0_5, .inl (a_h_5_0_5, 40, .inl s39_7)), (h_5_0_8, .inl (a_h_5_0_8, 40, .inl s39_8)), (h_5_0_6, .inl (a_h_5_0_6, 40, .inl s39_9)), (h_5_0_7, .inl (a_h_5_0_7, 40, .inl s39_10)), (h_5_0_11, .inl (a_h_5_0_11, 40, .inl s39_11)), (h_5_0_10, .inl (a_h_5_0_10, 40, .inl s39_12)), (h_5_5, .inl (a_h_5_5, 6, .inl j110_C_h_5_5)), (h_5_6, .inl (a_h_5_6, 300, .inl j110_C_h_5_6)), (h_5_1, .inl (a_h_5_1, 100, .inl j110_C_h_5_1))]) rfl (by decide) (by decide) (cells' := 0) (slots' := 0) (by decide) (by decide) (k_runV (rest := []) C aks Wd cs_X2_49 (sX3_go l D h_4 j110_L_7 j110_L_8 h_4_0 h_4_1 j110_F_h_4_2 j110_F_h_4_3 j110_F_h_4_4 h_4_5 h_4_6 a_h_4_5 j110_C_h_4_5 h0 s28_0 h_4_0_2 h_4_0_3 h_4_0_4 h_4_0_5 h_4_0_6 h_4_0_7 h_4_0_8 h_4_0_9 h_4_0_10 h_4_0_11 h_4_0_12 h_4_0_13 a_h_4_0_3 s28_4 a_h_4_0_4 s28_6 a_h_4_0_5 s28_7 h0_0 h0_1 n_h0_0 a_h0_0 f_h0_0 a_h_4_6 j110_C_h_4_6 a_h_4_1 j110_C_h_4_1 a_h_4_0_2 s28_3 a_h_4_0_7 s28_10 a_h_4_0_6 s28_9 _ (by omega) (by omega) (by omega) (by omega)) [1, 33, 2, 8, 10, 11, 3, 4, 34, 35, 7, 14, 13] rfl (by decide) [26, 4, 6, 7, 0, 27, 28, 3, 10, 9] rfl 1 3 rfl rfl rfl rfl rfl ⟨(Nat.le_of_ble_eq_true rfl), (Nat.le_of_ble_eq_true rfl)⟩ hl.1 rfl rfl (Nat.le_of_ble_eq_true rfl) ⟨(Nat.le_of_ble_eq_true rfl), (Nat.le_of_ble_eq_true rfl)⟩ dX2_compare_125) (fun u H locs w125 Wd => ?_)
          obtain ⟨s125_0, s125_1, s125_2, s125_3, s125_4, s125_5⟩ := u
          have Wd : wX D [(a_h0_0, .int), (a_h_4_0_13, .int), (a_h_4_0_12, .int), (a_h_4_0_2, .int), (a_h_4_0_3, .int), (a_h_4_0_9, .int), (a_h_4_0_4, .int), (a_h_4_0_5, .int), (a_h_4_0_8, .int), (a_h_4_0_6, .int), (a_h_4_0_7, .int), (a_h_4_0_11, .int), (a_h_4_0_10, .int), (a_h1_0, .int), (a_h_5_0_13, .int), (a_h_5_0_12, .int), (a_h_5_0_2, .int), (a_h_5_0_3, .int), (a_h_5_0_9, .int), (a_h_5_0_4, .int), (a_h_5_0_5, .int), (a_h_5_0_8, .int), (a_h_5_0_6, .int), (a_h_5_0_7, .int), (a_h_5_0_11, .int), (a_h_5_0_10, .int), (a_h_4_5, .int), (a_h_4_6, .int), (a_h_4_1, .int), (a_h_5_5, .int), (a_h_5_6, .int), (a_h_5_1, .int)] s [(h, .inr (2, [.int j110_F_h_0, .int j110_F_h_1, .int j110_F_h_2, .int j110_F_h_3, .ref h_4, .ref h_5])), (h_4, .inr (3, [.ref h_4_0, .ref h_4_1, .int s125_0, .int s125_1, .int s125_2, .ref h_4_5, .ref h_4_6])), (h_4_0, .inr (1, [.ref h0, .int s28_0, .ref h_4_0_2, .ref h_4_0_3, .ref h_4_0_4, .ref h_4_0_5, .ref h_4_0_6, .ref h_4_0_7, .ref h_4_0_8, .ref h_4_0_9, .ref h_4_0_10, .ref h_4_0_11, .ref h_4_0_12, .ref h_4_0_13])), (h0, .inr (8, [.ref h0_0, .int h0_1])), (h0_0, .inl (a_h0_0, n_h0_0, .inl f_h0_0)), (h_4_0_13, .inl (a_h_4_0_13, 480, .inl s28_1)), (h_4_0_12, .inl (a_h_4_0_12, 40, .inl s28_2)), (h_4_0_2, .inl (a_h_4_0_2, 40, .inl s28_3)), (h_4_0_3, .inl (a_h_4_0_3, 40, .inl s28_4)), (h_4_0_9, .inl (a_h_4_0_9, 40, .inl s28_5)), (h_4_0_4, .inl (a_h_4_0_4, 40, .inl s28_6)), (h_4_0_5, .inl (a_h_4_0_5, 40, .inl s28_7)), (h_4_0_8, .inl (a_h_4_0_8, 40, .inl s28_8)), (h_4_0_6, .inl (a_h_4_0_6, 40, .inl s28_9)), (h_4_0_7, .inl (a_h_4_0_7, 40, .inl s28_10)), (h_4_0_11, .inl (a_h_4_0_11, 40, .inl s28_11)), (h_4_0_10, .inl (a_h_4_0_10, 40, .inl s28_12)), (h_5, .inr (3, [.ref h_5_0, .ref h_5_1, .int j110_F_h_5_2, .int j110_F_h_5_3, .int j110_F_h_5_4, .ref h_5_5, .ref h_5_6])), (h_5_0, .inr (1, [.ref h1, .int s39_0, .ref h_5_0_2, .ref h_5_0_3, .ref h_5_0_4, .ref h_5_0_5, .ref h_5_0_6, .ref h_5_0_7, .ref h_5_0_8, .ref h_5_0_9, .ref h_5_0_10, .ref h_5_0_11, .ref h_5_0_12, .ref h_5_0_13])), (h1, .inr (8, [.ref h1_0, .int h1_1])), (h1_0, .inl (a_h1_0, n_h1_0, .inl f_h1_0)), (h_5_0_13, .inl (a_h_5_0_13, 480, .inl s39_1)), (h_5_0_12, .inl (a_h_5_0_12, 40, .inl s39_2)), (h_5_0_2, .inl (a_h_5_0_2, 40, .inl s39_3)), (h_5_0_3, .inl (a_h_5_0_3, 40, .inl s39_4)), (h_5_0_9, .inl (a_h_5_0_9, 40, .inl s39_5)), (h_5_0_4, .inl (a_h_5_0_4, 40, .inl s39_6)), (h_5_0_5, .inl (a_h_5_0_5, 40, .inl s39_7)), (h_5_0_8, .inl (a_h_5_0_8, 40, .inl s39_8)), (h_5_0_6, .inl (a_h_5_0_6, 40, .inl s39_9)), (h_5_0_7, .inl (a_h_5_0_7, 40, .inl s39_10)), (h_5_0_11, .inl (a_h_5_0_11, 40, .inl s39_11)), (h_5_0_10, .inl (a_h_5_0_10, 40, .inl s39_12)), (h_4_5, .inl (a_h_4_5, 6, .inl s125_3)), (h_4_6, .inl (a_h_4_6, 300, .inl s125_4)), (h_4_1, .inl (a_h_4_1, 100, .inl s125_5)), (h_5_5, .inl (a_h_5_5, 6, .inl j110_C_h_5_5)), (h_5_6, .inl (a_h_5_6, 300, .inl j110_C_h_5_6)), (h_5_1, .inl (a_h_5_1, 100, .inl j110_C_h_5_1))] _ A s.heap _ := k_sub Wd [0, 26, 28, 32, 33, 1, 2, 36, 29, 3, 30, 31, 4, 38, 37, 5, 6, 7, 8, 9, 10, 11, 12, 13, 14, 15, 16, 17, 18, 19, 20, 21, 22, 27, 34, 35, 23, 24, 25] rfl (by decide) [0, 1, 2, 3, 4, 5, 6, 7, 8, 9, 10, 11, 12, 13, 14, 15, 16, 17, 18, 19, 20, 21, 22, 23, 24, 25, 26, 27, 28, 29, 30, 31] rfl
          obtain ⟨g125_0, g125_1, g125_2, g125_3⟩ := w125
          have g125_0 : 0 ≤ s125_1.toInt := g125_0
          have g125_1 : 0 ≤ s125_2.toInt := g125_1
          have g125_2 : s125_2.toInt ≤ 2 := g125_2
          have g125_3 : s125_1.toInt ≤ 100 := g125_3
          refine lv_aload_n C.1 C.2.1 dX2_compare_128 rfl (lv_at hl 5 rfl) ?_
          refine k_get C Wd KX2 0 5 rfl (by decide) fl_X2_18 rfl dX2_compare_129 ?_
          refine lv_iload C.1 C.2.1 dX2_compare_132 (lv_at hl 1 rfl) ?_
          refine lv_iload C.1 C.2.1 dX2_compare_134 (lv_at hl 0 rfl) ?_
          refine k_cv Wd [17, 36, 18, 24, 26, 27, 19, 20, 37, 38, 23, 30, 29] [0, 1, 2, 3, 4, 5, 6, 7, 8, 9, 10, 11, 12, 13, 14, 15, 16, 21, 22, 25, 28, 31, 32, 33, 34, 35] rfl (wr := [(h, .inr (2, [.int j110_F_h_0, .int j110_F_h_1, .int j110_F_h_2, .int j110_F_h_3, .ref h_4, .ref h_5])), (h_4, .inr (3, [.ref h_4_0, .ref h_4_1, .int s125_0, .int s125_1, .int s125_2, .ref h_4_5, .ref h_4_6])), (h_4_0, .inr (1, [.ref h0, .int s28_0, .ref h_4_0_2, .ref h_4_0_3, .ref h_4_0_4, .ref h_4_0_5, .ref h_4_0_6, .ref h_4_0_7, .ref h_4_0_8, .ref h_4_0_9, .ref h_4_0_10, .ref h_4_0_11, .ref h_4_0_12, .ref h_4_0_13])), (h0, .inr (8, [.ref h0_0, .int h0_1])), (h0_0, .inl (a_h0_0, n_h0_0, .inl f_h0_0)), (h_4_0_13, .inl (a_h_4_0_13, 480, .inl s28_1)), (h_4_0_12, .inl (a_h_4_0_12, 40, .inl s28_2)), (h_4_0_2, .inl (a_h_4_0_2, 40, .inl s28_3)), (h_4_0_3, .inl (a_h_4_0_3, 40, .inl s28_4)), (h_4_0_9, .inl (a_h_4_0_9, 40, .inl s28_5)), (h_4_0_4, .inl (a_h_4_0_4, 40, .inl s28_6)), (h_4_0_5, .inl (a_h_4_0_5, 40, .inl s28_7)), (h_4_0_8, .inl (a_h_4_0_8, 40, .inl s28_8)), (h_4_0_6, .inl (a_h_4_0_6, 40, .inl s28_9)), (h_4_0_7, .inl (a_h_4_0_7, 40, .inl s28_10)), (h_4_0_11, .inl (a_h_4_0_11, 40, .inl s28_11)), (h_4_0_10, .inl (a_h_4_0_10, 40, .inl s28_12)), (h_5_0_13, .inl (a_h_5_0_13, 480, .inl s39_1)), (h_5_0_12, .inl (a_h_5_0_12, 40, .inl s39_2)), (h_5_0_9, .inl (a_h_5_0_9, 40, .inl s39_5)), (h_5_0_8, .inl (a_h_5_0_8, 40, .inl s39_8)), (h_5_0_11, .inl (a_h_5_0_11, 40, .inl s39_11)), (h_5_0_10, .inl (a_h_5_0_10, 40, .inl s39_12)), (h_4_5, .inl (a_h_4_5, 6, .inl s125_3)), (h_4_6, .inl (a_h_4_6, 300, .inl s125_4)), (h_4_1, .inl (a_h_4_1, 100, .inl s125_5))]) rfl (by decide) (by decide) (cells' := 0) (slots' := 0) (by decide) (by decide) (k_runV (rest := []) C aks Wd cs_X2_49 (sX3_go l D h_5 j110_L_7 j110_L_8 h_5_0 h_5_1 j110_F_h_5_2 j110_F_h_5_3 j110_F_h_5_4 h_5_5 h_5_6 a_h_5_5 j110_C_h_5_5 h1 s39_0 h_5_0_2 h_5_0_3 h_5_0_4 h_5_0_5 h_5_0_6 h_5_0_7 h_5_0_8 h_5_0_9 h_5_0_10 h_5_0_11 h_5_0_12 h_5_0_13 a_h_5_0_3 s39_4 a_h_5_0_4 s39_6 a_h_5_0_5 s39_7 h1_0 h1_1 n_h1_0 a_h1_0 f_h1_0 a_h_5_6 j110_C_h_5_6 a_h_5_1 j110_C_h_5_1 a_h_5_0_2 s39_3 a_h_5_0_7 s39_10 a_h_5_0_6 s39_9 _ (by omega) (by omega) (by omega) (by omega)) [17, 36, 18, 24, 26, 27, 19, 20, 37, 38, 23, 30, 29] rfl (by decide) [29, 17, 19, 20, 13, 30, 31, 16, 23, 22] rfl 17 3 rfl rfl rfl rfl rfl ⟨(Nat.le_of_ble_eq_true rfl), (Nat.le_of_ble_eq_true rfl)⟩ hl.1 rfl rfl (Nat.le_of_ble_eq_true rfl) ⟨(Nat.le_of_ble_eq_true rfl), (Nat.le_of_ble_eq_true rfl)⟩ dX2_compare_136) (fun u H locs w136 Wd => ?_)
          obtain ⟨s136_0, s136_1, s136_2, s136_3, s136_4, s136_5⟩ := u
          have Wd : wX D [(a_h0_0, .int), (a_h_4_0_13, .int), (a_h_4_0_12, .int), (a_h_4_0_2, .int), (a_h_4_0_3, .int), (a_h_4_0_9, .int), (a_h_4_0_4, .int), (a_h_4_0_5, .int), (a_h_4_0_8, .int), (a_h_4_0_6, .int), (a_h_4_0_7, .int), (a_h_4_0_11, .int), (a_h_4_0_10, .int), (a_h1_0, .int), (a_h_5_0_13, .int), (a_h_5_0_12, .int), (a_h_5_0_2, .int), (a_h_5_0_3, .int), (a_h_5_0_9, .int), (a_h_5_0_4, .int), (a_h_5_0_5, .int), (a_h_5_0_8, .int), (a_h_5_0_6, .int), (a_h_5_0_7, .int), (a_h_5_0_11, .int), (a_h_5_0_10, .int), (a_h_4_5, .int), (a_h_4_6, .int), (a_h_4_1, .int), (a_h_5_5, .int), (a_h_5_6, .int), (a_h_5_1, .int)] s [(h, .inr (2, [.int j110_F_h_0, .int j110_F_h_1, .int j110_F_h_2, .int j110_F_h_3, .ref h_4, .ref h_5])), (h_4, .inr (3, [.ref h_4_0, .ref h_4_1, .int s125_0, .int s125_1, .int s125_2, .ref h_4_5, .ref h_4_6])), (h_4_0, .inr (1, [.ref h0, .int s28_0, .ref h_4_0_2, .ref h_4_0_3, .ref h_4_0_4, .ref h_4_0_5, .ref h_4_0_6, .ref h_4_0_7, .ref h_4_0_8, .ref h_4_0_9, .ref h_4_0_10, .ref h_4_0_11, .ref h_4_0_12, .ref h_4_0_13])), (h0, .inr (8, [.ref h0_0, .int h0_1])), (h0_0, .inl (a_h0_0, n_h0_0, .inl f_h0_0)), (h_4_0_13, .inl (a_h_4_0_13, 480, .inl s28_1)), (h_4_0_12, .inl (a_h_4_0_12, 40, .inl s28_2)), (h_4_0_2, .inl (a_h_4_0_2, 40, .inl s28_3)), (h_4_0_3, .inl (a_h_4_0_3, 40, .inl s28_4)), (h_4_0_9, .inl (a_h_4_0_9, 40, .inl s28_5)), (h_4_0_4, .inl (a_h_4_0_4, 40, .inl s28_6)), (h_4_0_5, .inl (a_h_4_0_5, 40, .inl s28_7)), (h_4_0_8, .inl (a_h_4_0_8, 40, .inl s28_8)), (h_4_0_6, .inl (a_h_4_0_6, 40, .inl s28_9)), (h_4_0_7, .inl (a_h_4_0_7, 40, .inl s28_10)), (h_4_0_11, .inl (a_h_4_0_11, 40, .inl s28_11)), (h_4_0_10, .inl (a_h_4_0_10, 40, .inl s28_12)), (h_5, .inr (3, [.ref h_5_0, .ref h_5_1, .int s136_0, .int s136_1, .int s136_2, .ref h_5_5, .ref h_5_6])), (h_5_0, .inr (1, [.ref h1, .int s39_0, .ref h_5_0_2, .ref h_5_0_3, .ref h_5_0_4, .ref h_5_0_5, .ref h_5_0_6, .ref h_5_0_7, .ref h_5_0_8, .ref h_5_0_9, .ref h_5_0_10, .ref h_5_0_11, .ref h_5_0_12, .ref h_5_0_13])), (h1, .inr (8, [.ref h1_0, .int h1_1])), (h1_0, .inl (a_h1_0, n_h1_0, .inl f_h1_0)), (h_5_0_13, .inl (a_h_5_0_13, 480, .inl s39_1)), (h_5_0_12, .inl (a_h_5_0_12, 40, .inl s39_2)), (h_5_0_2, .inl (a_h_5_0_2, 40, .inl s39_3)), (h_5_0_3, .inl (a_h_5_0_3, 40, .inl s39_4)), (h_5_0_9, .inl (a_h_5_0_9, 40, .inl s39_5)), (h_5_0_4, .inl (a_h_5_0_4, 40, .inl s39_6)), (h_5_0_5, .inl (a_h_5_0_5, 40, .inl s39_7)), (h_5_0_8, .inl (a_h_5_0_8, 40, .inl s39_8)), (h_5_0_6, .inl (a_h_5_0_6, 40, .inl s39_9)), (h_5_0_7, .inl (a_h_5_0_7, 40, .inl s39_10)), (h_5_0_11, .inl (a_h_5_0_11, 40, .inl s39_11)), (h_5_0_10, .inl (a_h_5_0_10, 40, .inl s39_12)), (h_4_5, .inl (a_h_4_5, 6, .inl s125_3)), (h_4_6, .inl (a_h_4_6, 300, .inl s125_4)), (h_4_1, .inl (a_h_4_1, 100, .inl s125_5)), (h_5_5, .inl (a_h_5_5, 6, .inl s136_3)), (h_5_6, .inl (a_h_5_6, 300, .inl s136_4)), (h_5_1, .inl (a_h_5_1, 100, .inl s136_5))] _ A s.heap _ := k_sub Wd [0, 1, 2, 3, 4, 5, 6, 7, 8, 9, 10, 11, 12, 13, 14, 15, 16, 26, 28, 32, 33, 17, 18, 36, 29, 19, 30, 31, 20, 38, 37, 21, 22, 23, 24, 25, 27, 34, 35] rfl (by decide) [0, 1, 2, 3, 4, 5, 6, 7, 8, 9, 10, 11, 12, 13, 14, 15, 16, 17, 18, 19, 20, 21, 22, 23, 24, 25, 26, 27, 28, 29, 30, 31] rfl
          obtain ⟨g136_0, g136_1, g136_2, g136_3⟩ := w136
          have g136_0 : 0 ≤ s136_1.toInt := g136_0
          have g136_1 : 0 ≤ s136_2.toInt := g136_1
          have g136_2 : s136_2.toInt ≤ 2 := g136_2
          have g136_3 : s136_1.toInt ≤ 100 := g136_3
          refine lv_aload_n C.1 C.2.1 dX2_compare_139 rfl (lv_at hl 5 rfl) ?_
          refine lv_bipush (v := 16) C.1 C.2.1 dX2_compare_140 (by decide) ?_
          refine lv_iload C.1 C.2.1 dX2_compare_142 (lv_at hl 1 rfl) ?_
          obtain ⟨v144, ev144⟩ : ∃ z : Int32, 16 * j110_L_7 = z := ⟨_, rfl⟩
          refine k_imul (v := v144) C ev144 dX2_compare_144 ?_
          refine lv_iload C.1 C.2.1 dX2_compare_145 (lv_at hl 0 rfl) ?_
          obtain ⟨v147, ev147⟩ : ∃ z : Int32, v144 + j110_L_8 = z := ⟨_, rfl⟩
          refine k_iadd (v := v147) C ev147 dX2_compare_147 ?_
          refine lv_iload C.1 C.2.1 dX2_compare_148 (lv_at hl 3 rfl) ?_
          refine lv_iload C.1 C.2.1 dX2_compare_150 (lv_at hl 2 rfl) ?_
          obtain ⟨v152, ev152⟩ : ∃ z : Int32, j80_S_0 * j95_S_0 = z := ⟨_, rfl⟩
          refine k_imul (v := v152) C ev152 dX2_compare_152 ?_
          refine k_cv Wd [0, 1, 17, 35, 38] [2, 3, 4, 5, 6, 7, 8, 9, 10, 11, 12, 13, 14, 15, 16, 18, 19, 20, 21, 22, 23, 24, 25, 26, 27, 28, 29, 30, 31, 32, 33, 34, 36, 37] rfl (wr := [(h_4_0, .inr (1, [.ref h0, .int s28_0, .ref h_4_0_2, .ref h_4_0_3, .ref h_4_0_4, .ref h_4_0_5, .ref h_4_0_6, .ref h_4_0_7, .ref h_4_0_8, .ref h_4_0_9, .ref h_4_0_10, .ref h_4_0_11, .ref h_4_0_12, .ref h_4_0_13])), (h0, .inr (8, [.ref h0_0, .int h0_1])), (h0_0, .inl (a_h0_0, n_h0_0, .inl f_h0_0)), (h_4_0_13, .inl (a_h_4_0_13, 480, .inl s28_1)), (h_4_0_12, .inl (a_h_4_0_12, 40, .inl s28_2)), (h_4_0_2, .inl (a_h_4_0_2, 40, .inl s28_3)), (h_4_0_3, .inl (a_h_4_0_3, 40, .inl s28_4)), (h_4_0_9, .inl (a_h_4_0_9, 40, .inl s28_5)), (h_4_0_4, .inl (a_h_4_0_4, 40, .inl s28_6)), (h_4_0_5, .inl (a_h_4_0_5, 40, .inl s28_7)), (h_4_0_8, .inl (a_h_4_0_8, 40, .inl s28_8)), (h_4_0_6, .inl (a_h_4_0_6, 40, .inl s28_9)), (h_4_0_7, .inl (a_h_4_0_7, 40, .inl s28_10)), (h_4_0_11, .inl (a_h_4_0_11, 40, .inl s28_11)), (h_4_0_10, .inl (a_h_4_0_10, 40, .inl s28_12)), (h_5_0, .inr (1, [.ref h1, .int s39_0, .ref h_5_0_2, .ref h_5_0_3, .ref h_5_0_4, .ref h_5_0_5, .ref h_5_0_6, .ref h_5_0_7, .ref h_5_0_8, .ref h_5_0_9, .ref h_5_0_10, .ref h_5_0_11, .ref h_5_0_12, .ref h_5_0_13])), (h1, .inr (8, [.ref h1_0, .int h1_1])), (h1_0, .inl (a_h1_0, n_h1_0, .inl f_h1_0)), (h_5_0_13, .inl (a_h_5_0_13, 480, .inl s39_1)), (h_5_0_12, .inl (a_h_5_0_12, 40, .inl s39_2)), (h_5_0_2, .inl (a_h_5_0_2, 40, .inl s39_3)), (h_5_0_3, .inl (a_h_5_0_3, 40, .inl s39_4)), (h_5_0_9, .inl (a_h_5_0_9, 40, .inl s39_5)), (h_5_0_4, .inl (a_h_5_0_4, 40, .inl s39_6)), (h_5_0_5, .inl (a_h_5_0_5, 40, .inl s39_7)), (h_5_0_8, .inl (a_h_5_0_8, 40, .inl s39_8)), (h_5_0_6, .inl (a_h_5_0_6, 40, .inl s39_9)), (h_5_0_7, .inl (a_h_5_0_7, 40, .inl s39_10)), (h_5_0_11, .inl (a_h_5_0_11, 40, .inl s39_11)), (h_5_0_10, .inl (a_h_5_0_10, 40, .inl s39_12)), (h_4_5, .inl (a_h_4_5, 6, .inl s125_3)), (h_4_6, .inl (a_h_4_6, 300, .inl s125_4)), (h_5_5, .inl (a_h_5_5, 6, .inl s136_3)), (h_5_6, .inl (a_h_5_6, 300, .inl s136_4))]) rfl (by decide) (by decide) (cells' := 0) (slots' := 0) (by decide) (by decide) (k_runV (rest := []) C aks Wd cs_X2_53 (sX2_note l D h v147 v152 j110_F_h_0 j110_F_h_1 j110_F_h_2 j110_F_h_3 h_4 h_5 h_4_0 h_4_1 s125_0 s125_1 s125_2 h_4_5 h_4_6 h_5_0 h_5_1 s136_0 s136_1 s136_2 h_5_5 h_5_6 a_h_4_1 s125_5 a_h_5_1 s136_5 _ ) [0, 1, 17, 35, 38] rfl (by decide) [28, 31] rfl 0 2 rfl rfl rfl rfl rfl ⟨(Nat.le_of_ble_eq_true rfl), (Nat.le_of_ble_eq_true rfl)⟩ hl.1 rfl rfl (Nat.le_of_ble_eq_true rfl) ⟨(Nat.le_of_ble_eq_true rfl), (Nat.le_of_ble_eq_true rfl)⟩ dX2_compare_153) (fun u H locs w153 Wd => ?_)
          obtain ⟨s153_0, s153_1, s153_2, s153_3⟩ := u
          have Wd : wX D [(a_h0_0, .int), (a_h_4_0_13, .int), (a_h_4_0_12, .int), (a_h_4_0_2, .int), (a_h_4_0_3, .int), (a_h_4_0_9, .int), (a_h_4_0_4, .int), (a_h_4_0_5, .int), (a_h_4_0_8, .int), (a_h_4_0_6, .int), (a_h_4_0_7, .int), (a_h_4_0_11, .int), (a_h_4_0_10, .int), (a_h1_0, .int), (a_h_5_0_13, .int), (a_h_5_0_12, .int), (a_h_5_0_2, .int), (a_h_5_0_3, .int), (a_h_5_0_9, .int), (a_h_5_0_4, .int), (a_h_5_0_5, .int), (a_h_5_0_8, .int), (a_h_5_0_6, .int), (a_h_5_0_7, .int), (a_h_5_0_11, .int), (a_h_5_0_10, .int), (a_h_4_5, .int), (a_h_4_6, .int), (a_h_4_1, .int), (a_h_5_5, .int), (a_h_5_6, .int), (a_h_5_1, .int)] s [(h, .inr (2, [.int s153_1, .int s153_2, .int s153_3, .int s153_0, .ref h_4, .ref h_5])), (h_4, .inr (3, [.ref h_4_0, .ref h_4_1, .int s125_0, .int s125_1, .int s125_2, .ref h_4_5, .ref h_4_6])), (h_4_0, .inr (1, [.ref h0, .int s28_0, .ref h_4_0_2, .ref h_4_0_3, .ref h_4_0_4, .ref h_4_0_5, .ref h_4_0_6, .ref h_4_0_7, .ref h_4_0_8, .ref h_4_0_9, .ref h_4_0_10, .ref h_4_0_11, .ref h_4_0_12, .ref h_4_0_13])), (h0, .inr (8, [.ref h0_0, .int h0_1])), (h0_0, .inl (a_h0_0, n_h0_0, .inl f_h0_0)), (h_4_0_13, .inl (a_h_4_0_13, 480, .inl s28_1)), (h_4_0_12, .inl (a_h_4_0_12, 40, .inl s28_2)), (h_4_0_2, .inl (a_h_4_0_2, 40, .inl s28_3)), (h_4_0_3, .inl (a_h_4_0_3, 40, .inl s28_4)), (h_4_0_9, .inl (a_h_4_0_9, 40, .inl s28_5)), (h_4_0_4, .inl (a_h_4_0_4, 40, .inl s28_6)), (h_4_0_5, .inl (a_h_4_0_5, 40, .inl s28_7)), (h_4_0_8, .inl (a_h_4_0_8, 40, .inl s28_8)), (h_4_0_6, .inl (a_h_4_0_6, 40, .inl s28_9)), (h_4_0_7, .inl (a_h_4_0_7, 40, .inl s28_10)), (h_4_0_11, .inl (a_h_4_0_11, 40, .inl s28_11)), (h_4_0_10, .inl (a_h_4_0_10, 40, .inl s28_12)), (h_5, .inr (3, [.ref h_5_0, .ref h_5_1, .int s136_0, .int s136_1, .int s136_2, .ref h_5_5, .ref h_5_6])), (h_5_0, .inr (1, [.ref h1, .int s39_0, .ref h_5_0_2, .ref h_5_0_3, .ref h_5_0_4, .ref h_5_0_5, .ref h_5_0_6, .ref h_5_0_7, .ref h_5_0_8, .ref h_5_0_9, .ref h_5_0_10, .ref h_5_0_11, .ref h_5_0_12, .ref h_5_0_13])), (h1, .inr (8, [.ref h1_0, .int h1_1])), (h1_0, .inl (a_h1_0, n_h1_0, .inl f_h1_0)), (h_5_0_13, .inl (a_h_5_0_13, 480, .inl s39_1)), (h_5_0_12, .inl (a_h_5_0_12, 40, .inl s39_2)), (h_5_0_2, .inl (a_h_5_0_2, 40, .inl s39_3)), (h_5_0_3, .inl (a_h_5_0_3, 40, .inl s39_4)), (h_5_0_9, .inl (a_h_5_0_9, 40, .inl s39_5)), (h_5_0_4, .inl (a_h_5_0_4, 40, .inl s39_6)), (h_5_0_5, .inl (a_h_5_0_5, 40, .inl s39_7)), (h_5_0_8, .inl (a_h_5_0_8, 40, .inl s39_8)), (h_5_0_6, .inl (a_h_5_0_6, 40, .inl s39_9)), (h_5_0_7, .inl (a_h_5_0_7, 40, .inl s39_10)), (h_5_0_11, .inl (a_h_5_0_11, 40, .inl s39_11)), (h_5_0_10, .inl (a_h_5_0_10, 40, .inl s39_12)), (h_4_5, .inl (a_h_4_5, 6, .inl s125_3)), (h_4_6, .inl (a_h_4_6, 300, .inl s125_4)), (h_4_1, .inl (a_h_4_1, 100, .inl s125_5)), (h_5_5, .inl (a_h_5_5, 6, .inl s136_3)), (h_5_6, .inl (a_h_5_6, 300, .inl s136_4)), (h_5_1, .inl (a_h_5_1, 100, .inl s136_5))] _ A s.heap _ := k_sub Wd [34, 35, 0, 1, 2, 3, 4, 5, 6, 7, 8, 9, 10, 11, 12, 13, 14, 36, 15, 16, 17, 18, 19, 20, 21, 22, 23, 24, 25, 26, 27, 28, 29, 30, 31, 37, 32, 33, 38] rfl (by decide) [0, 1, 2, 3, 4, 5, 6, 7, 8, 9, 10, 11, 12, 13, 14, 15, 16, 17, 18, 19, 20, 21, 22, 23, 24, 25, 26, 27, 28, 29, 30, 31] rfl
          obtain ⟨g153_0, g153_1⟩ := w153
          have g153_0 : 0 ≤ s153_0.toInt := g153_0
          have g153_1 : s153_0.toInt ≤ 1 := g153_1
          refine lv_iload_n C.1 C.2.1 dX2_compare_156 rfl (lv_at hl 8 rfl) ?_
          refine k_cutA (fun (_ : Unit) H locs ls => wX D [(a_h0_0, .int), (a_h_4_0_13, .int), (a_h_4_0_12, .int), (a_h_4_0_2, .int), (a_h_4_0_3, .int), (a_h_4_0_9, .int), (a_h_4_0_4, .int), (a_h_4_0_5, .int), (a_h_4_0_8, .int), (a_h_4_0_6, .int), (a_h_4_0_7, .int), (a_h_4_0_11, .int), (a_h_4_0_10, .int), (a_h1_0, .int), (a_h_5_0_13, .int), (a_h_5_0_12, .int), (a_h_5_0_2, .int), (a_h_5_0_3, .int), (a_h_5_0_9, .int), (a_h_5_0_4, .int), (a_h_5_0_5, .int), (a_h_5_0_8, .int), (a_h_5_0_6, .int), (a_h_5_0_7, .int), (a_h_5_0_11, .int), (a_h_5_0_10, .int), (a_h_4_5, .int), (a_h_4_6, .int), (a_h_4_1, .int), (a_h_5_5, .int), (a_h_5_6, .int), (a_h_5_1, .int)] s [(h, .inr (2, [.int s153_1, .int s153_2, .int s153_3, .int s153_0, .ref h_4, .ref h_5])), (h_4, .inr (3, [.ref h_4_0, .ref h_4_1, .int s125_0, .int s125_1, .int s125_2, .ref h_4_5, .ref h_4_6])), (h_4_0, .inr (1, [.ref h0, .int s28_0, .ref h_4_0_2, .ref h_4_0_3, .ref h_4_0_4, .ref h_4_0_5, .ref h_4_0_6, .ref h_4_0_7, .ref h_4_0_8, .ref h_4_0_9, .ref h_4_0_10, .ref h_4_0_11, .ref h_4_0_12, .ref h_4_0_13])), (h0, .inr (8, [.ref h0_0, .int h0_1])), (h0_0, .inl (a_h0_0, n_h0_0, .inl f_h0_0)), (h_4_0_13, .inl (a_h_4_0_13, 480, .inl s28_1)), (h_4_0_12, .inl (a_h_4_0_12, 40, .inl s28_2)), (h_4_0_2, .inl (a_h_4_0_2, 40, .inl s28_3)), (h_4_0_3, .inl (a_h_4_0_3, 40, .inl s28_4)), (h_4_0_9, .inl (a_h_4_0_9, 40, .inl s28_5)), (h_4_0_4, .inl (a_h_4_0_4, 40, .inl s28_6)), (h_4_0_5, .inl (a_h_4_0_5, 40, .inl s28_7)), (h_4_0_8, .inl (a_h_4_0_8, 40, .inl s28_8)), (h_4_0_6, .inl (a_h_4_0_6, 40, .inl s28_9)), (h_4_0_7, .inl (a_h_4_0_7, 40, .inl s28_10)), (h_4_0_11, .inl (a_h_4_0_11, 40, .inl s28_11)), (h_4_0_10, .inl (a_h_4_0_10, 40, .inl s28_12)), (h_5, .inr (3, [.ref h_5_0, .ref h_5_1, .int s136_0, .int s136_1, .int s136_2, .ref h_5_5, .ref h_5_6])), (h_5_0, .inr (1, [.ref h1, .int s39_0, .ref h_5_0_2, .ref h_5_0_3, .ref h_5_0_4, .ref h_5_0_5, .ref h_5_0_6, .ref h_5_0_7, .ref h_5_0_8, .ref h_5_0_9, .ref h_5_0_10, .ref h_5_0_11, .ref h_5_0_12, .ref h_5_0_13])), (h1, .inr (8, [.ref h1_0, .int h1_1])), (h1_0, .inl (a_h1_0, n_h1_0, .inl f_h1_0)), (h_5_0_13, .inl (a_h_5_0_13, 480, .inl s39_1)), (h_5_0_12, .inl (a_h_5_0_12, 40, .inl s39_2)), (h_5_0_2, .inl (a_h_5_0_2, 40, .inl s39_3)), (h_5_0_3, .inl (a_h_5_0_3, 40, .inl s39_4)), (h_5_0_9, .inl (a_h_5_0_9, 40, .inl s39_5)), (h_5_0_4, .inl (a_h_5_0_4, 40, .inl s39_6)), (h_5_0_5, .inl (a_h_5_0_5, 40, .inl s39_7)), (h_5_0_8, .inl (a_h_5_0_8, 40, .inl s39_8)), (h_5_0_6, .inl (a_h_5_0_6, 40, .inl s39_9)), (h_5_0_7, .inl (a_h_5_0_7, 40, .inl s39_10)), (h_5_0_11, .inl (a_h_5_0_11, 40, .inl s39_11)), (h_5_0_10, .inl (a_h_5_0_10, 40, .inl s39_12)), (h_4_5, .inl (a_h_4_5, 6, .inl s125_3)), (h_4_6, .inl (a_h_4_6, 300, .inl s125_4)), (h_4_1, .inl (a_h_4_1, 100, .inl s125_5)), (h_5_5, .inl (a_h_5_5, 6, .inl s136_3)), (h_5_6, .inl (a_h_5_6, 300, .inl s136_4)), (h_5_1, .inl (a_h_5_1, 100, .inl s136_5))] H A s.heap locs ∧ lv_has ls 9 [(8, .int j110_L_8), (7, .int j110_L_7), (6, .int j95_S_0), (5, .int j80_S_0), (4, .int v64), (0, .ref h), (1, .ref h0), (2, .ref h1), (3, .int x2)]) (fun (_ : Unit) ls => F0 m 169 ls []) (fun _ H locs ls hi => ?_) (fun J169 => ?_)
          · obtain ⟨Wd, hl⟩ := hi
            refine lv_iload C.1 C.2.1 dX2_compare_169 (lv_at hl 0 rfl) ?_
            refine lv_iload C.1 C.2.1 dX2_compare_171 (lv_at hl 2 rfl) ?_
            obtain ⟨v173, ev173⟩ : ∃ z : Int32, j110_L_8 + j95_S_0 = z := ⟨_, rfl⟩
            have iv173 : v173.toInt = j110_L_8.toInt + j95_S_0.toInt := kz_addv ev173 (by omega) (by omega)
            refine k_iadd (v := v173) C ev173 dX2_compare_173 ?_
            refine lv_istore (lv' := [(8, .int v173), (7, .int j110_L_7), (6, .int j95_S_0), (5, .int j80_S_0), (4, .int v64), (0, .ref h), (1, .ref h0), (2, .ref h1), (3, .int x2)]) C.1 C.2.1 dX2_compare_174 hl (by decide) rfl (fun ls hl => ?_)
            refine lv_goto (tgt := 110) C.1 C.2.1 dX2_compare_176 (by decide) ?_
            exact ih110 (s125_5, s125_3, s125_4, s136_5, s136_3, s136_4, s153_1, s153_2, s153_3, s153_0, s125_0, s125_1, s125_2, s136_0, s136_1, s136_2, j110_L_7, v173) _ _ _ ⟨by omega, by omega, by omega, by omega, by omega, by omega, by omega, by omega, by omega, by omega, Wd, lv_sub hl [0, 1, 2, 3, 4, 5, 6, 7, 8] rfl⟩ (by omega)
          refine lv_if_eq (tgt := 169) C.1 C.2.1 dX2_compare_157 (by decide) (fun c157 => ?_) (fun c157 => ?_)
          · have i157 : x2.toInt = 0 := kz_eq c157
            exact J169 () _ _ _ ⟨Wd, lv_sub hl [0, 1, 2, 3, 4, 5, 6, 7, 8] rfl⟩
          · have i157 : ¬ x2.toInt = 0 := kz_ne c157
            refine lv_aload_n C.1 C.2.1 dX2_compare_160 rfl (lv_at hl 5 rfl) ?_
            refine k_get C Wd KX2 0 2 rfl (by decide) fl_X2_28 rfl dX2_compare_161 ?_
            refine lv_if_le (tgt := 169) C.1 C.2.1 dX2_compare_164 (by decide) (fun c164 => ?_) (fun c164 => ?_)
            · have i164 : s153_3.toInt ≤ 0 := kz_le c164
              exact J169 () _ _ _ ⟨Wd, lv_sub hl [0, 1, 2, 3, 4, 5, 6, 7, 8] rfl⟩
            · have i164 : 0 < s153_3.toInt := kz_nle c164
              refine lv_iconst (v := 1) C.1 C.2.1 dX2_compare_167 (by decide) ?_
              exact k_zret C hr hlk rfl Wd (s153_1, s153_2, s153_3, s153_0, s125_0, s125_1, s125_2, s28_0, s28_1, s28_2, s28_3, s28_4, s28_5, s28_6, s28_7, s28_8, s28_9, s28_10, s28_11, s28_12, s136_0, s136_1, s136_2, s39_0, s39_1, s39_2, s39_3, s39_4, s39_5, s39_6, s39_7, s39_8, s39_9, s39_10, s39_11, s39_12, s125_3, s125_4, s125_5, s136_3, s136_4, s136_5) (by exact ⟨by omega, by omega, by omega, by have zq1 : (1 : Int32).toInt = 1 := (by decide); omega, by omega, by have zq1 : (1 : Int32).toInt = 1 := (by decide); omega, by omega, by omega, by omega, by omega, by omega, by omega⟩) [0, 1, 2, 3, 4, 5, 6, 7, 8, 9, 10, 11, 12, 13, 14, 15, 16, 17, 18, 19, 20, 21, 22, 23, 24, 25, 26, 27, 28, 29, 30, 31, 32, 33, 34, 35, 36, 37, 38] rfl (by decide) [] rfl (by decide) (by decide) dX2_compare_168
    refine lv_if_eq (tgt := 93) C.1 C.2.1 dX2_compare_86 (by decide) (fun c86 => ?_) (fun c86 => ?_)
    · have i86 : v85.toInt = 0 := kz_eq c86
      refine lv_bipush (v := 16) C.1 C.2.1 dX2_compare_93 (by decide) ?_
      exact J95 16 _ _ _ ⟨by have zq16 : (16 : Int32).toInt = 16 := (by decide); omega, by have zq16 : (16 : Int32).toInt = 16 := (by decide); omega, Wd, lv_sub hl [0, 1, 2, 3, 4, 5] rfl⟩
    · have i86 : ¬ v85.toInt = 0 := kz_ne c86
      refine lv_iconst (v := 1) C.1 C.2.1 dX2_compare_89 (by decide) ?_
      refine lv_goto (tgt := 95) C.1 C.2.1 dX2_compare_90 (by decide) ?_
      exact J95 1 _ _ _ ⟨by have zq1 : (1 : Int32).toInt = 1 := (by decide); omega, by have zq1 : (1 : Int32).toInt = 1 := (by decide); omega, Wd, lv_sub hl [0, 1, 2, 3, 4, 5] rfl⟩
  refine lv_if_eq (tgt := 78) C.1 C.2.1 dX2_compare_71 (by decide) (fun c71 => ?_) (fun c71 => ?_)
  · have i71 : v70.toInt = 0 := kz_eq c71
    refine lv_bipush (v := 16) C.1 C.2.1 dX2_compare_78 (by decide) ?_
    exact J80 16 _ _ _ ⟨by have zq16 : (16 : Int32).toInt = 16 := (by decide); omega, by have zq16 : (16 : Int32).toInt = 16 := (by decide); omega, Wd, lv_sub hl [0, 1, 2, 3, 4] rfl⟩
  · have i71 : ¬ v70.toInt = 0 := kz_ne c71
    refine lv_iconst (v := 1) C.1 C.2.1 dX2_compare_74 (by decide) ?_
    refine lv_goto (tgt := 80) C.1 C.2.1 dX2_compare_75 (by decide) ?_
    exact J80 1 _ _ _ ⟨by have zq1 : (1 : Int32).toInt = 1 := (by decide); omega, by have zq1 : (1 : Int32).toInt = 1 := (by decide); omega, Wd, lv_sub hl [0, 1, 2, 3, 4] rfl⟩
set_option maxHeartbeats 4000000 in
set_option maxRecDepth 100000 in
theorem sX11_isVariable (l : Launch) (D : va_G) (x0 : Int32) (sz : Nat) : Met l yX11_isVariable (Cond.code yX11_isVariable cX11_isVariable 1 (some .boolean) :: gG) { frames := 1, cells := 0, slots := 0, locals := 64 } (cPre D [] [] sz [.int x0]) (vp_Si (fun r => 0 ≤ r.toInt ∧ r.toInt ≤ 1)) 0 0 (fun _ => False) := by
  refine Met.ofW (cc := cX11_isVariable) (maxL := 1) (ret := (some .boolean)) (by decide) rfl ?_
  intro p e s m args below meth c s₁ B hml hv
  obtain ⟨rfl, aks, rfl, Wd⟩ := k_enter hv
  have C : CallFix p m c cX11_isVariable 1 s _ gG RX11 := ⟨B.exec, B.bytes, hml, findClass_of_methodNamed B.named, fun w h => atoms_spec (ws := Cond.code yX11_isVariable cX11_isVariable 1 (some .boolean) :: gG) B.pre w (List.mem_cons_of_mem _ h)⟩
  have hr := B.returns
  have hlk := B.notSynchronized
  obtain ⟨A, Wd⟩ : ∃ A, wX D [] s [] s.heap A s.heap [] := ⟨_, Wd⟩
  refine k_locals (Nat.le_of_ble_eq_true rfl) [(0, .int x0)] rfl (fun ls hl => ?_)
  refine lv_iload_n C.1 C.2.1 dX11_isVariable_0 rfl (lv_at hl 0 rfl) ?_
  refine k_cutA (fun (j15_S_0 : Int32) H locs ls => 0 ≤ j15_S_0.toInt ∧ j15_S_0.toInt ≤ 1 ∧ H = s.heap ∧ locs = [] ∧ wX D [] s [] H A s.heap locs ∧ lv_has ls 1 [(0, .int x0)]) (fun (j15_S_0 : Int32) ls => F0 m 15 ls [.int j15_S_0]) (fun j15_S_0 H locs ls hi => ?_) (fun J15 => ?_)
  · obtain ⟨i15_0, i15_1, rfl, rfl, Wd, hl⟩ := hi
    exact k_zretP C hr hlk (k_nb (by omega) (by omega)) (by exact ⟨by omega, by omega⟩) dX11_isVariable_15
  refine k_cutA (fun (_ : Unit) H locs ls => H = s.heap ∧ locs = [] ∧ wX D [] s [] H A s.heap locs ∧ lv_has ls 1 [(0, .int x0)]) (fun (_ : Unit) ls => F0 m 14 ls []) (fun _ H locs ls hi => ?_) (fun J14 => ?_)
  · obtain ⟨rfl, rfl, Wd, hl⟩ := hi
    refine lv_iconst (v := 0) C.1 C.2.1 dX11_isVariable_14 (by decide) ?_
    exact J15 0 _ _ _ ⟨by have zq0 : (0 : Int32).toInt = 0 := (by decide); omega, by have zq0 : (0 : Int32).toInt = 0 := (by decide); omega, rfl, rfl, Wd, lv_sub hl [0] rfl⟩
  refine lv_if_lt (tgt := 14) C.1 C.2.1 dX11_isVariable_1 (by decide) (fun c1 => ?_) (fun c1 => ?_)
  · have i1 : x0.toInt < 0 := kz_lt c1
    exact J14 () _ _ _ ⟨rfl, rfl, Wd, lv_sub hl [0] rfl⟩
  · have i1 : 0 ≤ x0.toInt := kz_nlt c1
    refine lv_iload_n C.1 C.2.1 dX11_isVariable_4 rfl (lv_at hl 0 rfl) ?_
    refine lv_bipush (v := 6) C.1 C.2.1 dX11_isVariable_5 (by decide) ?_
    refine lv_icmp_ge (tgt := 14) C.1 C.2.1 dX11_isVariable_7 (by decide) (fun c7 => ?_) (fun c7 => ?_)
    · have i7 : 6 ≤ x0.toInt := kz_le c7
      exact J14 () _ _ _ ⟨rfl, rfl, Wd, lv_sub hl [0] rfl⟩
    · have i7 : x0.toInt < 6 := kz_nle c7
      refine lv_iconst (v := 1) C.1 C.2.1 dX11_isVariable_10 (by decide) ?_
      refine lv_goto (tgt := 15) C.1 C.2.1 dX11_isVariable_11 (by decide) ?_
      exact J15 1 _ _ _ ⟨by have zq1 : (1 : Int32).toInt = 1 := (by decide); omega, by have zq1 : (1 : Int32).toInt = 1 := (by decide); omega, rfl, rfl, Wd, lv_sub hl [0] rfl⟩
set_option maxHeartbeats 4000000 in
set_option maxRecDepth 100000 in
theorem sX7_count (l : Launch) (D : va_G) (h : Nat) (x0 : Int32) (h_0 : Nat) (h_1 : Nat) (h_2 : Nat) (h_3 : Nat) (h_4 : Int32) (a_h_2 : ClassId) (f_h_2 : Nat → Int32) (sz : Nat) : Met l yX7_count (Cond.code yX7_count cX7_count 3 none :: gG) { frames := 2, cells := 0, slots := 0, locals := 84 } (cPre D [(a_h_2, .int)] [(h, .inr (7, [.ref h_0, .ref h_1, .ref h_2, .ref h_3, .int h_4])), (h_2, .inl (a_h_2, 6, .inl f_h_2))] sz [.ref h, .int x0]) (va_Qv (fun (u : (Int32) × (Nat → Int32)) => match u with | (jX_F_h_4, jX_C_h_2) => True) (fun u t => cB D (va_A [(h, .inr (7, [.ref h_0, .ref h_1, .ref h_2, .ref h_3, .int h_4])), (h_2, .inl (a_h_2, 6, .inl f_h_2))] sz) ((fun (_ : (Int32) × (Nat → Int32)) => ([] : List (ClassId × FieldType))) u) ((fun (u : (Int32) × (Nat → Int32)) => match u with | (jX_F_h_4, jX_C_h_2) => ([(h, .inr (7, [.ref h_0, .ref h_1, .ref h_2, .ref h_3, .int jX_F_h_4])), (h_2, .inl (a_h_2, 6, .inl jX_C_h_2))] : va_W)) u) t) (va_A [(h, .inr (7, [.ref h_0, .ref h_1, .ref h_2, .ref h_3, .int h_4])), (h_2, .inl (a_h_2, 6, .inl f_h_2))] sz)) 0 0 (va_A [(h, .inr (7, [.ref h_0, .ref h_1, .ref h_2, .ref h_3, .int h_4])), (h_2, .inl (a_h_2, 6, .inl f_h_2))] sz) := by
  refine Met.ofW (cc := cX7_count) (maxL := 3) (ret := none) (by decide) rfl ?_
  intro p e s m args below meth c s₁ B hml hv
  obtain ⟨rfl, aks, rfl, Wd⟩ := k_enter hv
  have C : CallFix p m c cX7_count 3 s _ gG RX7 := ⟨B.exec, B.bytes, hml, findClass_of_methodNamed B.named, fun w h => atoms_spec (ws := Cond.code yX7_count cX7_count 3 none :: gG) B.pre w (List.mem_cons_of_mem _ h)⟩
  have hr := B.returns
  have hlk := B.notSynchronized
  generalize va_A [(h, .inr (7, [.ref h_0, .ref h_1, .ref h_2, .ref h_3, .int h_4])), (h_2, .inl (a_h_2, 6, .inl f_h_2))] s.heap.size = A at Wd ⊢
  refine k_locals (Nat.le_of_ble_eq_true rfl) [(0, .ref h), (1, .int x0)] rfl (fun ls hl => ?_)
  refine lv_iload_n C.1 C.2.1 dX7_count_0 rfl (lv_at hl 1 rfl) ?_
  refine k_pi (k_runS (rest := []) C aks Wd cs_X7_64 (sX8_isSet l D x0 _ ) [] rfl (by decide) [] rfl rfl rfl ⟨(Nat.le_of_ble_eq_true rfl), (Nat.le_of_ble_eq_true rfl)⟩ hl.1 rfl rfl (Nat.le_of_ble_eq_true rfl) ⟨(Nat.le_of_ble_eq_true rfl), (Nat.le_of_ble_eq_true rfl)⟩ dX7_count_1) (fun r1 w1 => ?_)
  obtain ⟨g1_0, g1_1⟩ := w1
  have g1_0 : 0 ≤ r1.toInt := g1_0
  have g1_1 : r1.toInt ≤ 1 := g1_1
  refine k_cutA (fun (j29_S_0 : Int32) H locs ls => wX D [(a_h_2, .int)] s [(h, .inr (7, [.ref h_0, .ref h_1, .ref h_2, .ref h_3, .int h_4])), (h_2, .inl (a_h_2, 6, .inl f_h_2))] H A s.heap locs ∧ lv_has ls 3 [(0, .ref h), (1, .int x0)]) (fun (j29_S_0 : Int32) ls => F0 m 29 ls [.int j29_S_0]) (fun j29_S_0 H locs ls hi => ?_) (fun J29 => ?_)
  · obtain ⟨Wd, hl⟩ := hi
    refine lv_istore_n (lv' := [(2, .int j29_S_0), (0, .ref h), (1, .int x0)]) C.1 C.2.1 dX7_count_29 rfl hl (by decide) rfl (fun ls hl => ?_)
    refine lv_iload_n C.1 C.2.1 dX7_count_30 rfl (lv_at hl 0 rfl) ?_
    refine k_pi (k_runN (rest := []) C aks Wd aks.2.2.2 cs_X7_71 (sX11_isVariable l D j29_S_0 _ ) [] rfl (by decide) [] rfl rfl rfl ⟨(Nat.le_of_ble_eq_true rfl), (Nat.le_of_ble_eq_true rfl)⟩ hl.1 rfl rfl (Nat.le_of_ble_eq_true rfl) ⟨(Nat.le_of_ble_eq_true rfl), (Nat.le_of_ble_eq_true rfl)⟩ dX7_count_31) (fun r31 w31 => ?_)
    obtain ⟨g31_0, g31_1⟩ := w31
    have g31_0 : 0 ≤ r31.toInt := g31_0
    have g31_1 : r31.toInt ≤ 1 := g31_1
    refine k_cutA (fun (u : (Int32) × (Nat → Int32)) H locs ls => match u with | (j59_F_h_4, j59_C_h_2) => wX D [(a_h_2, .int)] s [(h, .inr (7, [.ref h_0, .ref h_1, .ref h_2, .ref h_3, .int j59_F_h_4])), (h_2, .inl (a_h_2, 6, .inl j59_C_h_2))] H A s.heap locs ∧ lv_has ls 3 [(2, .int j29_S_0), (0, .ref h), (1, .int x0)]) (fun (u : (Int32) × (Nat → Int32)) ls => match u with | (j59_F_h_4, j59_C_h_2) => F0 m 59 ls []) (fun u H locs ls hi => ?_) (fun J59 => ?_)
    · obtain ⟨j59_F_h_4, j59_C_h_2⟩ := u
      obtain ⟨Wd, hl⟩ := hi
      exact k_vret C hr hlk Wd (j59_F_h_4, j59_C_h_2) trivial [0, 1] rfl (by decide) [] rfl (by decide) (by decide) dX7_count_59
    refine lv_if_eq (tgt := 59) C.1 C.2.1 dX7_count_34 (by decide) (fun c34 => ?_) (fun c34 => ?_)
    · have i34 : r31.toInt = 0 := kz_eq c34
      exact J59 (h_4, f_h_2) _ _ _ ⟨Wd, lv_sub hl [0, 1, 2] rfl⟩
    · have i34 : ¬ r31.toInt = 0 := kz_ne c34
      refine lv_aload_n C.1 C.2.1 dX7_count_37 rfl (lv_at hl 1 rfl) ?_
      refine k_get C Wd KX7 0 2 rfl (by decide) fl_X7_22 rfl dX7_count_38 ?_
      refine lv_iload_n C.1 C.2.1 dX7_count_41 rfl (lv_at hl 0 rfl) ?_
      refine lv_dup2_11 C.1 C.2.1 dX7_count_42 rfl rfl ?_
      obtain ⟨v43, ev43⟩ : ∃ z : Int32, f_h_2 j29_S_0.toNatClampNeg = z := ⟨_, rfl⟩
      refine k_iald (v := v43) C Wd 1 0 rfl rfl (vp_in_iff.mpr ⟨by omega, by omega⟩) ev43 dX7_count_43 ?_
      refine lv_iconst (v := 1) C.1 C.2.1 dX7_count_44 (by decide) ?_
      obtain ⟨v45, ev45⟩ : ∃ z : Int32, v43 + 1 = z := ⟨_, rfl⟩
      refine k_iadd (v := v45) C ev45 dX7_count_45 ?_
      obtain ⟨f46, ef46⟩ : ∃ z : Nat → Int32, upd f_h_2 j29_S_0.toNatClampNeg v45 = z := ⟨_, rfl⟩
      refine k_iast C Wd 1 0 [(h, .inr (7, [.ref h_0, .ref h_1, .ref h_2, .ref h_3, .int h_4])), (h_2, .inl (a_h_2, 6, .inl f46))] rfl rfl (vp_in_iff.mpr ⟨by omega, by omega⟩) ef46 rfl dX7_count_46 (fun H locs Wd => ?_)
      refine lv_aload_n C.1 C.2.1 dX7_count_47 rfl (lv_at hl 1 rfl) ?_
      refine lv_dup C.1 C.2.1 dX7_count_48 rfl ?_
      refine k_get C Wd KX7 0 4 rfl (by decide) fl_X7_32 rfl dX7_count_49 ?_
      refine lv_iconst (v := 1) C.1 C.2.1 dX7_count_52 (by decide) ?_
      refine lv_iload_n C.1 C.2.1 dX7_count_53 rfl (lv_at hl 0 rfl) ?_
      obtain ⟨v54, ev54⟩ : ∃ z : Int32, 1 <<< (j29_S_0 &&& 31) = z := ⟨_, rfl⟩
      refine k_ishl (v := v54) C ev54 dX7_count_54 ?_
      obtain ⟨v55, ev55⟩ : ∃ z : Int32, h_4 ||| v54 = z := ⟨_, rfl⟩
      refine k_ior (v := v55) C ev55 dX7_count_55 ?_
      refine k_put C Wd KX7 0 4 [(h, .inr (7, [.ref h_0, .ref h_1, .ref h_2, .ref h_3, .int v55])), (h_2, .inl (a_h_2, 6, .inl f46))] rfl (by decide) fl_X7_32 rfl rfl rfl (Nat.le_of_ble_eq_true rfl) rfl dX7_count_56 (fun H locs Wd => ?_)
      exact J59 (v55, f46) _ _ _ ⟨Wd, lv_sub hl [0, 1, 2] rfl⟩
  refine lv_if_eq (tgt := 14) C.1 C.2.1 dX7_count_4 (by decide) (fun c4 => ?_) (fun c4 => ?_)
  · have i4 : r1.toInt = 0 := kz_eq c4
    refine lv_iload_n C.1 C.2.1 dX7_count_14 rfl (lv_at hl 1 rfl) ?_
    refine k_pi (k_runS (rest := []) C aks Wd cs_X7_68 (sX8_isRead l D x0 _ ) [] rfl (by decide) [] rfl rfl rfl ⟨(Nat.le_of_ble_eq_true rfl), (Nat.le_of_ble_eq_true rfl)⟩ hl.1 rfl rfl (Nat.le_of_ble_eq_true rfl) ⟨(Nat.le_of_ble_eq_true rfl), (Nat.le_of_ble_eq_true rfl)⟩ dX7_count_15) (fun r15 w15 => ?_)
    obtain ⟨g15_0, g15_1⟩ := w15
    have g15_0 : 0 ≤ r15.toInt := g15_0
    have g15_1 : r15.toInt ≤ 1 := g15_1
    refine lv_if_eq (tgt := 28) C.1 C.2.1 dX7_count_18 (by decide) (fun c18 => ?_) (fun c18 => ?_)
    · have i18 : r15.toInt = 0 := kz_eq c18
      refine lv_iconst (v := (-1)) C.1 C.2.1 dX7_count_28 (by decide) ?_
      exact J29 (-1) _ _ _ ⟨Wd, lv_sub hl [0, 1] rfl⟩
    · have i18 : ¬ r15.toInt = 0 := kz_ne c18
      refine lv_iload_n C.1 C.2.1 dX7_count_21 rfl (lv_at hl 1 rfl) ?_
      refine lv_bipush (v := 20) C.1 C.2.1 dX7_count_22 (by decide) ?_
      obtain ⟨v24, ev24⟩ : ∃ z : Int32, x0 - 20 = z := ⟨_, rfl⟩
      refine k_isub (v := v24) C ev24 dX7_count_24 ?_
      refine lv_goto (tgt := 29) C.1 C.2.1 dX7_count_25 (by decide) ?_
      exact J29 v24 _ _ _ ⟨Wd, lv_sub hl [0, 1] rfl⟩
  · have i4 : ¬ r1.toInt = 0 := kz_ne c4
    refine lv_iload_n C.1 C.2.1 dX7_count_7 rfl (lv_at hl 1 rfl) ?_
    refine lv_bipush (v := 100) C.1 C.2.1 dX7_count_8 (by decide) ?_
    obtain ⟨v10, ev10⟩ : ∃ z : Int32, x0 - 100 = z := ⟨_, rfl⟩
    refine k_isub (v := v10) C ev10 dX7_count_10 ?_
    refine lv_goto (tgt := 29) C.1 C.2.1 dX7_count_11 (by decide) ?_
    exact J29 v10 _ _ _ ⟨Wd, lv_sub hl [0, 1] rfl⟩
set_option maxHeartbeats 4000000 in
set_option maxRecDepth 100000 in
theorem sX7_noteClashes (l : Launch) (D : va_G) (h : Nat) (x0 : Int32) (x1 : Int32) (h_0 : Nat) (h_1 : Nat) (h_2 : Nat) (h_3 : Nat) (h_4 : Int32) (a_h_1 : ClassId) (f_h_1 : Nat → Int32) (sz : Nat) : Met l yX7_noteClashes (Cond.code yX7_noteClashes cX7_noteClashes 5 none :: gG) { frames := 1, cells := 0, slots := 0, locals := 64 } (cPre D [(a_h_1, .int)] [(h, .inr (7, [.ref h_0, .ref h_1, .ref h_2, .ref h_3, .int h_4])), (h_1, .inl (a_h_1, 6, .inl f_h_1))] sz [.ref h, .int x0, .int x1]) (va_Qv (fun (jX_C_h_1 : Nat → Int32) => True) (fun u t => cB D (va_A [(h, .inr (7, [.ref h_0, .ref h_1, .ref h_2, .ref h_3, .int h_4])), (h_1, .inl (a_h_1, 6, .inl f_h_1))] sz) ((fun (_ : (Nat → Int32)) => ([] : List (ClassId × FieldType))) u) ((fun (jX_C_h_1 : Nat → Int32) => ([(h, .inr (7, [.ref h_0, .ref h_1, .ref h_2, .ref h_3, .int h_4])), (h_1, .inl (a_h_1, 6, .inl jX_C_h_1))] : va_W)) u) t) (va_A [(h, .inr (7, [.ref h_0, .ref h_1, .ref h_2, .ref h_3, .int h_4])), (h_1, .inl (a_h_1, 6, .inl f_h_1))] sz)) 0 0 (va_A [(h, .inr (7, [.ref h_0, .ref h_1, .ref h_2, .ref h_3, .int h_4])), (h_1, .inl (a_h_1, 6, .inl f_h_1))] sz) := by
  refine Met.ofW (cc := cX7_noteClashes) (maxL := 5) (ret := none) (by decide) rfl ?_
  intro p e s m args below meth c s₁ B hml hv
  obtain ⟨rfl, aks, rfl, Wd⟩ := k_enter hv
  have C : CallFix p m c cX7_noteClashes 5 s _ gG RX7 := ⟨B.exec, B.bytes, hml, findClass_of_methodNamed B.named, fun w h => atoms_spec (ws := Cond.code yX7_noteClashes cX7_noteClashes 5 none :: gG) B.pre w (List.mem_cons_of_mem _ h)⟩
  have hr := B.returns
  have hlk := B.notSynchronized
  generalize va_A [(h, .inr (7, [.ref h_0, .ref h_1, .ref h_2, .ref h_3, .int h_4])), (h_1, .inl (a_h_1, 6, .inl f_h_1))] s.heap.size = A at Wd ⊢
  refine k_locals (Nat.le_of_ble_eq_true rfl) [(0, .ref h), (1, .int x0), (2, .int x1)] rfl (fun ls hl => ?_)
  refine lv_iconst (v := 0) C.1 C.2.1 dX7_noteClashes_0 (by decide) ?_
  refine lv_istore_n (lv' := [(3, .int 0), (0, .ref h), (1, .int x0), (2, .int x1)]) C.1 C.2.1 dX7_noteClashes_1 rfl hl (by decide) rfl (fun ls hl => ?_)
  refine k_loopA (fun (u : (Nat → Int32) × (Int32)) H locs ls => match u with | (j2_C_h_1, j2_L_3) => 0 ≤ j2_L_3.toInt ∧ j2_L_3.toInt ≤ 6 ∧ wX D [(a_h_1, .int)] s [(h, .inr (7, [.ref h_0, .ref h_1, .ref h_2, .ref h_3, .int h_4])), (h_1, .inl (a_h_1, 6, .inl j2_C_h_1))] H A s.heap locs ∧ lv_has ls 5 [(3, .int j2_L_3), (0, .ref h), (1, .int x0), (2, .int x1)]) (fun (u : (Nat → Int32) × (Int32)) ls => match u with | (j2_C_h_1, j2_L_3) => F0 m 2 ls []) (fun (u : (Nat → Int32) × (Int32)) => match u with | (j2_C_h_1, j2_L_3) => (7 - j2_L_3.toInt).toNat) (fun u H locs ls hi ih2 => ?_) (f_h_1, 0) _ _ _ ⟨by have zq0 : (0 : Int32).toInt = 0 := (by decide); omega, by have zq0 : (0 : Int32).toInt = 0 := (by decide); omega, Wd, lv_sub hl [0, 1, 2, 3] rfl⟩
  obtain ⟨j2_C_h_1, j2_L_3⟩ := u
  obtain ⟨i2_0, i2_1, Wd, hl⟩ := hi
  refine lv_iload_n C.1 C.2.1 dX7_noteClashes_2 rfl (lv_at hl 0 rfl) ?_
  refine lv_bipush (v := 6) C.1 C.2.1 dX7_noteClashes_3 (by decide) ?_
  refine lv_icmp_ge (tgt := 63) C.1 C.2.1 dX7_noteClashes_5 (by decide) (fun c5 => ?_) (fun c5 => ?_)
  · have i5 : 6 ≤ j2_L_3.toInt := kz_le c5
    exact k_vret C hr hlk Wd j2_C_h_1 trivial [0, 1] rfl (by decide) [] rfl (by decide) (by decide) dX7_noteClashes_63
  · have i5 : j2_L_3.toInt < 6 := kz_nle c5
    refine lv_iconst (v := 1) C.1 C.2.1 dX7_noteClashes_8 (by decide) ?_
    refine lv_iload_n C.1 C.2.1 dX7_noteClashes_9 rfl (lv_at hl 0 rfl) ?_
    obtain ⟨v10, ev10⟩ : ∃ z : Int32, 1 <<< (j2_L_3 &&& 31) = z := ⟨_, rfl⟩
    refine k_ishl (v := v10) C ev10 dX7_noteClashes_10 ?_
    refine lv_istore (lv' := [(4, .int v10), (3, .int j2_L_3), (0, .ref h), (1, .int x0), (2, .int x1)]) C.1 C.2.1 dX7_noteClashes_11 hl (by decide) rfl (fun ls hl => ?_)
    refine lv_iload_n C.1 C.2.1 dX7_noteClashes_13 rfl (lv_at hl 3 rfl) ?_
    refine lv_iload C.1 C.2.1 dX7_noteClashes_14 (lv_at hl 0 rfl) ?_
    obtain ⟨v16, ev16⟩ : ∃ z : Int32, x0 &&& v10 = z := ⟨_, rfl⟩
    refine k_iand (v := v16) C ev16 dX7_noteClashes_16 ?_
    refine k_cutA (fun (j35_C_h_1 : Nat → Int32) H locs ls => wX D [(a_h_1, .int)] s [(h, .inr (7, [.ref h_0, .ref h_1, .ref h_2, .ref h_3, .int h_4])), (h_1, .inl (a_h_1, 6, .inl j35_C_h_1))] H A s.heap locs ∧ lv_has ls 5 [(4, .int v10), (3, .int j2_L_3), (0, .ref h), (1, .int x0), (2, .int x1)]) (fun (j35_C_h_1 : Nat → Int32) ls => F0 m 35 ls []) (fun j35_C_h_1 H locs ls hi => ?_) (fun J35 => ?_)
    · obtain ⟨Wd, hl⟩ := hi
      refine lv_iload_n C.1 C.2.1 dX7_noteClashes_35 rfl (lv_at hl 4 rfl) ?_
      refine lv_iload C.1 C.2.1 dX7_noteClashes_36 (lv_at hl 0 rfl) ?_
      obtain ⟨v38, ev38⟩ : ∃ z : Int32, x1 &&& v10 = z := ⟨_, rfl⟩
      refine k_iand (v := v38) C ev38 dX7_noteClashes_38 ?_
      refine k_cutA (fun (j57_C_h_1 : Nat → Int32) H locs ls => wX D [(a_h_1, .int)] s [(h, .inr (7, [.ref h_0, .ref h_1, .ref h_2, .ref h_3, .int h_4])), (h_1, .inl (a_h_1, 6, .inl j57_C_h_1))] H A s.heap locs ∧ lv_has ls 5 [(4, .int v10), (3, .int j2_L_3), (0, .ref h), (1, .int x0), (2, .int x1)]) (fun (j57_C_h_1 : Nat → Int32) ls => F0 m 57 ls []) (fun j57_C_h_1 H locs ls hi => ?_) (fun J57 => ?_)
      · obtain ⟨Wd, hl⟩ := hi
        obtain ⟨v57, ev57⟩ : ∃ z : Int32, j2_L_3 + 1 = z := ⟨_, rfl⟩
        have iv57 : v57.toInt = j2_L_3.toInt + 1 := kz_addc ev57 (by decide) (by omega) (by omega)
        refine lv_iinc (v := v57) (lv' := [(3, .int v57), (4, .int v10), (0, .ref h), (1, .int x0), (2, .int x1)]) C.1 C.2.1 dX7_noteClashes_57 hl (k := 1) rfl ev57 (by decide) rfl (fun ls hl => ?_)
        refine lv_goto (tgt := 2) C.1 C.2.1 dX7_noteClashes_60 (by decide) ?_
        exact ih2 (j57_C_h_1, v57) _ _ _ ⟨by omega, by omega, Wd, lv_sub hl [0, 2, 3, 4] rfl⟩ (by omega)
      refine lv_if_eq (tgt := 57) C.1 C.2.1 dX7_noteClashes_39 (by decide) (fun c39 => ?_) (fun c39 => ?_)
      · have i39 : v38.toInt = 0 := kz_eq c39
        exact J57 j35_C_h_1 _ _ _ ⟨Wd, lv_sub hl [0, 1, 2, 3, 4] rfl⟩
      · have i39 : ¬ v38.toInt = 0 := kz_ne c39
        refine lv_aload_n C.1 C.2.1 dX7_noteClashes_42 rfl (lv_at hl 2 rfl) ?_
        refine k_get C Wd KX7 0 1 rfl (by decide) fl_X7_18 rfl dX7_noteClashes_43 ?_
        refine lv_iload_n C.1 C.2.1 dX7_noteClashes_46 rfl (lv_at hl 1 rfl) ?_
        refine lv_dup2_11 C.1 C.2.1 dX7_noteClashes_47 rfl rfl ?_
        obtain ⟨v48, ev48⟩ : ∃ z : Int32, j35_C_h_1 j2_L_3.toNatClampNeg = z := ⟨_, rfl⟩
        refine k_iald (v := v48) C Wd 1 0 rfl rfl (vp_in_iff.mpr ⟨by omega, by omega⟩) ev48 dX7_noteClashes_48 ?_
        refine lv_iload_n C.1 C.2.1 dX7_noteClashes_49 rfl (lv_at hl 3 rfl) ?_
        refine lv_iload C.1 C.2.1 dX7_noteClashes_50 (lv_at hl 0 rfl) ?_
        refine lv_iconst (v := (-1)) C.1 C.2.1 dX7_noteClashes_52 (by decide) ?_
        obtain ⟨v53, ev53⟩ : ∃ z : Int32, v10 ^^^ (-1) = z := ⟨_, rfl⟩
        refine k_ixor (v := v53) C ev53 dX7_noteClashes_53 ?_
        obtain ⟨v54, ev54⟩ : ∃ z : Int32, x0 &&& v53 = z := ⟨_, rfl⟩
        refine k_iand (v := v54) C ev54 dX7_noteClashes_54 ?_
        obtain ⟨v55, ev55⟩ : ∃ z : Int32, v48 ||| v54 = z := ⟨_, rfl⟩
        refine k_ior (v := v55) C ev55 dX7_noteClashes_55 ?_
        obtain ⟨f56, ef56⟩ : ∃ z : Nat → Int32, upd j35_C_h_1 j2_L_3.toNatClampNeg v55 = z := ⟨_, rfl⟩
        refine k_iast C Wd 1 0 [(h, .inr (7, [.ref h_0, .ref h_1, .ref h_2, .ref h_3, .int h_4])), (h_1, .inl (a_h_1, 6, .inl f56))] rfl rfl (vp_in_iff.mpr ⟨by omega, by omega⟩) ef56 rfl dX7_noteClashes_56 (fun H locs Wd => ?_)
        exact J57 f56 _ _ _ ⟨Wd, lv_sub hl [0, 1, 2, 3, 4] rfl⟩
    refine lv_if_eq (tgt := 35) C.1 C.2.1 dX7_noteClashes_17 (by decide) (fun c17 => ?_) (fun c17 => ?_)
    · have i17 : v16.toInt = 0 := kz_eq c17
      exact J35 j2_C_h_1 _ _ _ ⟨Wd, lv_sub hl [0, 1, 2, 3, 4] rfl⟩
    · have i17 : ¬ v16.toInt = 0 := kz_ne c17
      refine lv_aload_n C.1 C.2.1 dX7_noteClashes_20 rfl (lv_at hl 2 rfl) ?_
      refine k_get C Wd KX7 0 1 rfl (by decide) fl_X7_18 rfl dX7_noteClashes_21 ?_
      refine lv_iload_n C.1 C.2.1 dX7_noteClashes_24 rfl (lv_at hl 1 rfl) ?_
      refine lv_dup2_11 C.1 C.2.1 dX7_noteClashes_25 rfl rfl ?_
      obtain ⟨v26, ev26⟩ : ∃ z : Int32, j2_C_h_1 j2_L_3.toNatClampNeg = z := ⟨_, rfl⟩
      refine k_iald (v := v26) C Wd 1 0 rfl rfl (vp_in_iff.mpr ⟨by omega, by omega⟩) ev26 dX7_noteClashes_26 ?_
      refine lv_iload_n C.1 C.2.1 dX7_noteClashes_27 rfl (lv_at hl 4 rfl) ?_
      refine lv_iload C.1 C.2.1 dX7_noteClashes_28 (lv_at hl 0 rfl) ?_
      refine lv_iconst (v := (-1)) C.1 C.2.1 dX7_noteClashes_30 (by decide) ?_
      obtain ⟨v31, ev31⟩ : ∃ z : Int32, v10 ^^^ (-1) = z := ⟨_, rfl⟩
      refine k_ixor (v := v31) C ev31 dX7_noteClashes_31 ?_
      obtain ⟨v32, ev32⟩ : ∃ z : Int32, x1 &&& v31 = z := ⟨_, rfl⟩
      refine k_iand (v := v32) C ev32 dX7_noteClashes_32 ?_
      obtain ⟨v33, ev33⟩ : ∃ z : Int32, v26 ||| v32 = z := ⟨_, rfl⟩
      refine k_ior (v := v33) C ev33 dX7_noteClashes_33 ?_
      obtain ⟨f34, ef34⟩ : ∃ z : Nat → Int32, upd j2_C_h_1 j2_L_3.toNatClampNeg v33 = z := ⟨_, rfl⟩
      refine k_iast C Wd 1 0 [(h, .inr (7, [.ref h_0, .ref h_1, .ref h_2, .ref h_3, .int h_4])), (h_1, .inl (a_h_1, 6, .inl f34))] rfl rfl (vp_in_iff.mpr ⟨by omega, by omega⟩) ef34 rfl dX7_noteClashes_34 (fun H locs Wd => ?_)
      exact J35 f34 _ _ _ ⟨Wd, lv_sub hl [0, 1, 2, 3, 4] rfl⟩
set_option maxHeartbeats 4000000 in
set_option maxRecDepth 100000 in
theorem sX7_study (l : Launch) (D : va_G) (h : Nat) (h0 : Nat) (h_0 : Nat) (h_1 : Nat) (h_2 : Nat) (h_3 : Nat) (h_4 : Int32) (h_0_0 : Nat) (h_0_1 : Int32) (h_0_2 : Nat) (h_0_3 : Nat) (h_0_4 : Nat) (h_0_5 : Nat) (h_0_6 : Nat) (h_0_7 : Nat) (h_0_8 : Nat) (h_0_9 : Nat) (h_0_10 : Nat) (h_0_11 : Nat) (h_0_12 : Nat) (h_0_13 : Nat) (h0_0 : Nat) (h0_1 : Int32) (n_h0_0 : Nat) (a_h0_0 : ClassId) (f_h0_0 : Nat → Int32) (a_h_0_13 : ClassId) (f_h_0_13 : Nat → Int32) (a_h_0_12 : ClassId) (f_h_0_12 : Nat → Int32) (a_h_0_2 : ClassId) (f_h_0_2 : Nat → Int32) (a_h_0_3 : ClassId) (f_h_0_3 : Nat → Int32) (a_h_0_9 : ClassId) (f_h_0_9 : Nat → Int32) (a_h_0_4 : ClassId) (f_h_0_4 : Nat → Int32) (a_h_0_5 : ClassId) (f_h_0_5 : Nat → Int32) (a_h_0_8 : ClassId) (f_h_0_8 : Nat → Int32) (a_h_0_6 : ClassId) (f_h_0_6 : Nat → Int32) (a_h_0_7 : ClassId) (f_h_0_7 : Nat → Int32) (a_h_0_11 : ClassId) (f_h_0_11 : Nat → Int32) (a_h_0_10 : ClassId) (f_h_0_10 : Nat → Int32) (a_h_1 : ClassId) (f_h_1 : Nat → Int32) (a_h_2 : ClassId) (f_h_2 : Nat → Int32) (sz : Nat) (k_h0_1_lo : 0 ≤ h0_1.toInt) (k_n_h0_0 : n_h0_0 ≤ 1000) (k_p_h0_0 : 1 ≤ n_h0_0) (k_h0_1_hi : h0_1.toInt ≤ (n_h0_0 : Int)) : Met l yX7_study (Cond.code yX7_study cX7_study 3 none :: gG) { frames := 5, cells := 0, slots := 0, locals := 152 } (cPre D [(a_h0_0, .int), (a_h_0_13, .int), (a_h_0_12, .int), (a_h_0_2, .int), (a_h_0_3, .int), (a_h_0_9, .int), (a_h_0_4, .int), (a_h_0_5, .int), (a_h_0_8, .int), (a_h_0_6, .int), (a_h_0_7, .int), (a_h_0_11, .int), (a_h_0_10, .int), (a_h_1, .int), (a_h_2, .int)] [(h, .inr (7, [.ref h_0, .ref h_1, .ref h_2, .ref h_3, .int h_4])), (h_0, .inr (1, [.ref h_0_0, .int h_0_1, .ref h_0_2, .ref h_0_3, .ref h_0_4, .ref h_0_5, .ref h_0_6, .ref h_0_7, .ref h_0_8, .ref h_0_9, .ref h_0_10, .ref h_0_11, .ref h_0_12, .ref h_0_13])), (h0, .inr (8, [.ref h0_0, .int h0_1])), (h0_0, .inl (a_h0_0, n_h0_0, .inl f_h0_0)), (h_0_13, .inl (a_h_0_13, 480, .inl f_h_0_13)), (h_0_12, .inl (a_h_0_12, 40, .inl f_h_0_12)), (h_0_2, .inl (a_h_0_2, 40, .inl f_h_0_2)), (h_0_3, .inl (a_h_0_3, 40, .inl f_h_0_3)), (h_0_9, .inl (a_h_0_9, 40, .inl f_h_0_9)), (h_0_4, .inl (a_h_0_4, 40, .inl f_h_0_4)), (h_0_5, .inl (a_h_0_5, 40, .inl f_h_0_5)), (h_0_8, .inl (a_h_0_8, 40, .inl f_h_0_8)), (h_0_6, .inl (a_h_0_6, 40, .inl f_h_0_6)), (h_0_7, .inl (a_h_0_7, 40, .inl f_h_0_7)), (h_0_11, .inl (a_h_0_11, 40, .inl f_h_0_11)), (h_0_10, .inl (a_h_0_10, 40, .inl f_h_0_10)), (h_1, .inl (a_h_1, 6, .inl f_h_1)), (h_2, .inl (a_h_2, 6, .inl f_h_2))] sz [.ref h, .ref h0]) (va_Qv (fun (u : (Int32) × (Int32) × (Nat → Int32) × (Nat → Int32) × (Nat → Int32) × (Nat → Int32) × (Nat → Int32) × (Nat → Int32) × (Nat → Int32) × (Nat → Int32) × (Nat → Int32) × (Nat → Int32) × (Nat → Int32) × (Nat → Int32) × (Nat → Int32) × (Nat → Int32)) => match u with | (jX_F_h_4, jX_F_h_0_1, jX_C_h_0_13, jX_C_h_0_12, jX_C_h_0_2, jX_C_h_0_3, jX_C_h_0_9, jX_C_h_0_4, jX_C_h_0_5, jX_C_h_0_8, jX_C_h_0_6, jX_C_h_0_7, jX_C_h_0_11, jX_C_h_0_10, jX_C_h_1, jX_C_h_2) => 0 ≤ jX_F_h_0_1.toInt ∧ jX_F_h_0_1.toInt ≤ 40 ∧ jX_F_h_0_1.toInt ≤ (n_h0_0 : Int) ∧ jX_F_h_0_1.toInt ≤ h0_1.toInt) (fun u t => cB D (va_A [(h, .inr (7, [.ref h_0, .ref h_1, .ref h_2, .ref h_3, .int h_4])), (h_0, .inr (1, [.ref h_0_0, .int h_0_1, .ref h_0_2, .ref h_0_3, .ref h_0_4, .ref h_0_5, .ref h_0_6, .ref h_0_7, .ref h_0_8, .ref h_0_9, .ref h_0_10, .ref h_0_11, .ref h_0_12, .ref h_0_13])), (h0, .inr (8, [.ref h0_0, .int h0_1])), (h0_0, .inl (a_h0_0, n_h0_0, .inl f_h0_0)), (h_0_13, .inl (a_h_0_13, 480, .inl f_h_0_13)), (h_0_12, .inl (a_h_0_12, 40, .inl f_h_0_12)), (h_0_2, .inl (a_h_0_2, 40, .inl f_h_0_2)), (h_0_3, .inl (a_h_0_3, 40, .inl f_h_0_3)), (h_0_9, .inl (a_h_0_9, 40, .inl f_h_0_9)), (h_0_4, .inl (a_h_0_4, 40, .inl f_h_0_4)), (h_0_5, .inl (a_h_0_5, 40, .inl f_h_0_5)), (h_0_8, .inl (a_h_0_8, 40, .inl f_h_0_8)), (h_0_6, .inl (a_h_0_6, 40, .inl f_h_0_6)), (h_0_7, .inl (a_h_0_7, 40, .inl f_h_0_7)), (h_0_11, .inl (a_h_0_11, 40, .inl f_h_0_11)), (h_0_10, .inl (a_h_0_10, 40, .inl f_h_0_10)), (h_1, .inl (a_h_1, 6, .inl f_h_1)), (h_2, .inl (a_h_2, 6, .inl f_h_2))] sz) ((fun (_ : (Int32) × (Int32) × (Nat → Int32) × (Nat → Int32) × (Nat → Int32) × (Nat → Int32) × (Nat → Int32) × (Nat → Int32) × (Nat → Int32) × (Nat → Int32) × (Nat → Int32) × (Nat → Int32) × (Nat → Int32) × (Nat → Int32) × (Nat → Int32) × (Nat → Int32)) => ([] : List (ClassId × FieldType))) u) ((fun (u : (Int32) × (Int32) × (Nat → Int32) × (Nat → Int32) × (Nat → Int32) × (Nat → Int32) × (Nat → Int32) × (Nat → Int32) × (Nat → Int32) × (Nat → Int32) × (Nat → Int32) × (Nat → Int32) × (Nat → Int32) × (Nat → Int32) × (Nat → Int32) × (Nat → Int32)) => match u with | (jX_F_h_4, jX_F_h_0_1, jX_C_h_0_13, jX_C_h_0_12, jX_C_h_0_2, jX_C_h_0_3, jX_C_h_0_9, jX_C_h_0_4, jX_C_h_0_5, jX_C_h_0_8, jX_C_h_0_6, jX_C_h_0_7, jX_C_h_0_11, jX_C_h_0_10, jX_C_h_1, jX_C_h_2) => ([(h, .inr (7, [.ref h_0, .ref h_1, .ref h_2, .ref h_3, .int jX_F_h_4])), (h_0, .inr (1, [.ref h0, .int jX_F_h_0_1, .ref h_0_2, .ref h_0_3, .ref h_0_4, .ref h_0_5, .ref h_0_6, .ref h_0_7, .ref h_0_8, .ref h_0_9, .ref h_0_10, .ref h_0_11, .ref h_0_12, .ref h_0_13])), (h0, .inr (8, [.ref h0_0, .int h0_1])), (h0_0, .inl (a_h0_0, n_h0_0, .inl f_h0_0)), (h_0_13, .inl (a_h_0_13, 480, .inl jX_C_h_0_13)), (h_0_12, .inl (a_h_0_12, 40, .inl jX_C_h_0_12)), (h_0_2, .inl (a_h_0_2, 40, .inl jX_C_h_0_2)), (h_0_3, .inl (a_h_0_3, 40, .inl jX_C_h_0_3)), (h_0_9, .inl (a_h_0_9, 40, .inl jX_C_h_0_9)), (h_0_4, .inl (a_h_0_4, 40, .inl jX_C_h_0_4)), (h_0_5, .inl (a_h_0_5, 40, .inl jX_C_h_0_5)), (h_0_8, .inl (a_h_0_8, 40, .inl jX_C_h_0_8)), (h_0_6, .inl (a_h_0_6, 40, .inl jX_C_h_0_6)), (h_0_7, .inl (a_h_0_7, 40, .inl jX_C_h_0_7)), (h_0_11, .inl (a_h_0_11, 40, .inl jX_C_h_0_11)), (h_0_10, .inl (a_h_0_10, 40, .inl jX_C_h_0_10)), (h_1, .inl (a_h_1, 6, .inl jX_C_h_1)), (h_2, .inl (a_h_2, 6, .inl jX_C_h_2))] : va_W)) u) t) (va_A [(h, .inr (7, [.ref h_0, .ref h_1, .ref h_2, .ref h_3, .int h_4])), (h_0, .inr (1, [.ref h_0_0, .int h_0_1, .ref h_0_2, .ref h_0_3, .ref h_0_4, .ref h_0_5, .ref h_0_6, .ref h_0_7, .ref h_0_8, .ref h_0_9, .ref h_0_10, .ref h_0_11, .ref h_0_12, .ref h_0_13])), (h0, .inr (8, [.ref h0_0, .int h0_1])), (h0_0, .inl (a_h0_0, n_h0_0, .inl f_h0_0)), (h_0_13, .inl (a_h_0_13, 480, .inl f_h_0_13)), (h_0_12, .inl (a_h_0_12, 40, .inl f_h_0_12)), (h_0_2, .inl (a_h_0_2, 40, .inl f_h_0_2)), (h_0_3, .inl (a_h_0_3, 40, .inl f_h_0_3)), (h_0_9, .inl (a_h_0_9, 40, .inl f_h_0_9)), (h_0_4, .inl (a_h_0_4, 40, .inl f_h_0_4)), (h_0_5, .inl (a_h_0_5, 40, .inl f_h_0_5)), (h_0_8, .inl (a_h_0_8, 40, .inl f_h_0_8)), (h_0_6, .inl (a_h_0_6, 40, .inl f_h_0_6)), (h_0_7, .inl (a_h_0_7, 40, .inl f_h_0_7)), (h_0_11, .inl (a_h_0_11, 40, .inl f_h_0_11)), (h_0_10, .inl (a_h_0_10, 40, .inl f_h_0_10)), (h_1, .inl (a_h_1, 6, .inl f_h_1)), (h_2, .inl (a_h_2, 6, .inl f_h_2))] sz)) 0 0 (va_A [(h, .inr (7, [.ref h_0, .ref h_1, .ref h_2, .ref h_3, .int h_4])), (h_0, .inr (1, [.ref h_0_0, .int h_0_1, .ref h_0_2, .ref h_0_3, .ref h_0_4, .ref h_0_5, .ref h_0_6, .ref h_0_7, .ref h_0_8, .ref h_0_9, .ref h_0_10, .ref h_0_11, .ref h_0_12, .ref h_0_13])), (h0, .inr (8, [.ref h0_0, .int h0_1])), (h0_0, .inl (a_h0_0, n_h0_0, .inl f_h0_0)), (h_0_13, .inl (a_h_0_13, 480, .inl f_h_0_13)), (h_0_12, .inl (a_h_0_12, 40, .inl f_h_0_12)), (h_0_2, .inl (a_h_0_2, 40, .inl f_h_0_2)), (h_0_3, .inl (a_h_0_3, 40, .inl f_h_0_3)), (h_0_9, .inl (a_h_0_9, 40, .inl f_h_0_9)), (h_0_4, .inl (a_h_0_4, 40, .inl f_h_0_4)), (h_0_5, .inl (a_h_0_5, 40, .inl f_h_0_5)), (h_0_8, .inl (a_h_0_8, 40, .inl f_h_0_8)), (h_0_6, .inl (a_h_0_6, 40, .inl f_h_0_6)), (h_0_7, .inl (a_h_0_7, 40, .inl f_h_0_7)), (h_0_11, .inl (a_h_0_11, 40, .inl f_h_0_11)), (h_0_10, .inl (a_h_0_10, 40, .inl f_h_0_10)), (h_1, .inl (a_h_1, 6, .inl f_h_1)), (h_2, .inl (a_h_2, 6, .inl f_h_2))] sz) := by
  refine Met.ofW (cc := cX7_study) (maxL := 3) (ret := none) (by decide) rfl ?_
  intro p e s m args below meth c s₁ B hml hv
  obtain ⟨rfl, aks, rfl, Wd⟩ := k_enter hv
  have C : CallFix p m c cX7_study 3 s _ gG RX7 := ⟨B.exec, B.bytes, hml, findClass_of_methodNamed B.named, fun w h => atoms_spec (ws := Cond.code yX7_study cX7_study 3 none :: gG) B.pre w (List.mem_cons_of_mem _ h)⟩
  have hr := B.returns
  have hlk := B.notSynchronized
  generalize va_A [(h, .inr (7, [.ref h_0, .ref h_1, .ref h_2, .ref h_3, .int h_4])), (h_0, .inr (1, [.ref h_0_0, .int h_0_1, .ref h_0_2, .ref h_0_3, .ref h_0_4, .ref h_0_5, .ref h_0_6, .ref h_0_7, .ref h_0_8, .ref h_0_9, .ref h_0_10, .ref h_0_11, .ref h_0_12, .ref h_0_13])), (h0, .inr (8, [.ref h0_0, .int h0_1])), (h0_0, .inl (a_h0_0, n_h0_0, .inl f_h0_0)), (h_0_13, .inl (a_h_0_13, 480, .inl f_h_0_13)), (h_0_12, .inl (a_h_0_12, 40, .inl f_h_0_12)), (h_0_2, .inl (a_h_0_2, 40, .inl f_h_0_2)), (h_0_3, .inl (a_h_0_3, 40, .inl f_h_0_3)), (h_0_9, .inl (a_h_0_9, 40, .inl f_h_0_9)), (h_0_4, .inl (a_h_0_4, 40, .inl f_h_0_4)), (h_0_5, .inl (a_h_0_5, 40, .inl f_h_0_5)), (h_0_8, .inl (a_h_0_8, 40, .inl f_h_0_8)), (h_0_6, .inl (a_h_0_6, 40, .inl f_h_0_6)), (h_0_7, .inl (a_h_0_7, 40, .inl f_h_0_7)), (h_0_11, .inl (a_h_0_11, 40, .inl f_h_0_11)), (h_0_10, .inl (a_h_0_10, 40, .inl f_h_0_10)), (h_1, .inl (a_h_1, 6, .inl f_h_1)), (h_2, .inl (a_h_2, 6, .inl f_h_2))] s.heap.size = A at Wd ⊢
  refine k_locals (Nat.le_of_ble_eq_true rfl) [(0, .ref h), (1, .ref h0)] rfl (fun ls hl => ?_)
  refine lv_aload_n C.1 C.2.1 dX7_study_0 rfl (lv_at hl 0 rfl) ?_
  refine k_get C Wd KX7 0 0 rfl (by decide) fl_X7_12 rfl dX7_study_1 ?_
  refine lv_aload_n C.1 C.2.1 dX7_study_4 rfl (lv_at hl 1 rfl) ?_
  refine k_cv Wd [1, 2, 3, 4, 5, 6, 7, 8, 9, 10, 11, 12, 13, 14, 15] [0, 16, 17] rfl (wr := [(h, .inr (7, [.ref h_0, .ref h_1, .ref h_2, .ref h_3, .int h_4])), (h_1, .inl (a_h_1, 6, .inl f_h_1)), (h_2, .inl (a_h_2, 6, .inl f_h_2))]) rfl (by decide) (by decide) (cells' := 0) (slots' := 0) (by decide) (by decide) (k_runV (rest := []) C aks Wd cs_X7_28 (sX1_trace l D h_0 h0 h_0_0 h_0_1 h_0_2 h_0_3 h_0_4 h_0_5 h_0_6 h_0_7 h_0_8 h_0_9 h_0_10 h_0_11 h_0_12 h_0_13 h0_0 h0_1 n_h0_0 a_h0_0 f_h0_0 a_h_0_13 f_h_0_13 a_h_0_12 f_h_0_12 a_h_0_2 f_h_0_2 a_h_0_3 f_h_0_3 a_h_0_9 f_h_0_9 a_h_0_4 f_h_0_4 a_h_0_5 f_h_0_5 a_h_0_8 f_h_0_8 a_h_0_6 f_h_0_6 a_h_0_7 f_h_0_7 a_h_0_11 f_h_0_11 a_h_0_10 f_h_0_10 _ (by omega) (by omega) (by omega) (by omega)) [1, 2, 3, 4, 5, 6, 7, 8, 9, 10, 11, 12, 13, 14, 15] rfl (by decide) [0, 1, 2, 3, 4, 5, 6, 7, 8, 9, 10, 11, 12] rfl 1 1 rfl rfl rfl rfl rfl ⟨(Nat.le_of_ble_eq_true rfl), (Nat.le_of_ble_eq_true rfl)⟩ hl.1 rfl rfl (Nat.le_of_ble_eq_true rfl) ⟨(Nat.le_of_ble_eq_true rfl), (Nat.le_of_ble_eq_true rfl)⟩ dX7_study_5) (fun u H locs w5 Wd => ?_)
  obtain ⟨s5_0, s5_1, s5_2, s5_3, s5_4, s5_5, s5_6, s5_7, s5_8, s5_9, s5_10, s5_11, s5_12⟩ := u
  have Wd : wX D [(a_h0_0, .int), (a_h_0_13, .int), (a_h_0_12, .int), (a_h_0_2, .int), (a_h_0_3, .int), (a_h_0_9, .int), (a_h_0_4, .int), (a_h_0_5, .int), (a_h_0_8, .int), (a_h_0_6, .int), (a_h_0_7, .int), (a_h_0_11, .int), (a_h_0_10, .int), (a_h_1, .int), (a_h_2, .int)] s [(h, .inr (7, [.ref h_0, .ref h_1, .ref h_2, .ref h_3, .int h_4])), (h_0, .inr (1, [.ref h0, .int s5_0, .ref h_0_2, .ref h_0_3, .ref h_0_4, .ref h_0_5, .ref h_0_6, .ref h_0_7, .ref h_0_8, .ref h_0_9, .ref h_0_10, .ref h_0_11, .ref h_0_12, .ref h_0_13])), (h0, .inr (8, [.ref h0_0, .int h0_1])), (h0_0, .inl (a_h0_0, n_h0_0, .inl f_h0_0)), (h_0_13, .inl (a_h_0_13, 480, .inl s5_1)), (h_0_12, .inl (a_h_0_12, 40, .inl s5_2)), (h_0_2, .inl (a_h_0_2, 40, .inl s5_3)), (h_0_3, .inl (a_h_0_3, 40, .inl s5_4)), (h_0_9, .inl (a_h_0_9, 40, .inl s5_5)), (h_0_4, .inl (a_h_0_4, 40, .inl s5_6)), (h_0_5, .inl (a_h_0_5, 40, .inl s5_7)), (h_0_8, .inl (a_h_0_8, 40, .inl s5_8)), (h_0_6, .inl (a_h_0_6, 40, .inl s5_9)), (h_0_7, .inl (a_h_0_7, 40, .inl s5_10)), (h_0_11, .inl (a_h_0_11, 40, .inl s5_11)), (h_0_10, .inl (a_h_0_10, 40, .inl s5_12)), (h_1, .inl (a_h_1, 6, .inl f_h_1)), (h_2, .inl (a_h_2, 6, .inl f_h_2))] _ A s.heap _ := k_sub Wd [0, 3, 4, 5, 6, 7, 8, 9, 10, 11, 12, 13, 14, 15, 16, 17, 1, 2] rfl (by decide) [0, 1, 2, 3, 4, 5, 6, 7, 8, 9, 10, 11, 12, 13, 14] rfl
  obtain ⟨g5_0, g5_1, g5_2, g5_3⟩ := w5
  have g5_0 : 0 ≤ s5_0.toInt := g5_0
  have g5_1 : s5_0.toInt ≤ 40 := g5_1
  have g5_2 : s5_0.toInt ≤ (n_h0_0 : Int) := g5_2
  have g5_3 : s5_0.toInt ≤ h0_1.toInt := g5_3
  refine lv_aload_n C.1 C.2.1 dX7_study_8 rfl (lv_at hl 0 rfl) ?_
  refine lv_iconst (v := 0) C.1 C.2.1 dX7_study_9 (by decide) ?_
  refine k_put C Wd KX7 0 4 [(h, .inr (7, [.ref h_0, .ref h_1, .ref h_2, .ref h_3, .int 0])), (h_0, .inr (1, [.ref h0, .int s5_0, .ref h_0_2, .ref h_0_3, .ref h_0_4, .ref h_0_5, .ref h_0_6, .ref h_0_7, .ref h_0_8, .ref h_0_9, .ref h_0_10, .ref h_0_11, .ref h_0_12, .ref h_0_13])), (h0, .inr (8, [.ref h0_0, .int h0_1])), (h0_0, .inl (a_h0_0, n_h0_0, .inl f_h0_0)), (h_0_13, .inl (a_h_0_13, 480, .inl s5_1)), (h_0_12, .inl (a_h_0_12, 40, .inl s5_2)), (h_0_2, .inl (a_h_0_2, 40, .inl s5_3)), (h_0_3, .inl (a_h_0_3, 40, .inl s5_4)), (h_0_9, .inl (a_h_0_9, 40, .inl s5_5)), (h_0_4, .inl (a_h_0_4, 40, .inl s5_6)), (h_0_5, .inl (a_h_0_5, 40, .inl s5_7)), (h_0_8, .inl (a_h_0_8, 40, .inl s5_8)), (h_0_6, .inl (a_h_0_6, 40, .inl s5_9)), (h_0_7, .inl (a_h_0_7, 40, .inl s5_10)), (h_0_11, .inl (a_h_0_11, 40, .inl s5_11)), (h_0_10, .inl (a_h_0_10, 40, .inl s5_12)), (h_1, .inl (a_h_1, 6, .inl f_h_1)), (h_2, .inl (a_h_2, 6, .inl f_h_2))] rfl (by decide) fl_X7_32 rfl rfl rfl (Nat.le_of_ble_eq_true rfl) rfl dX7_study_10 (fun H locs Wd => ?_)
  refine lv_iconst (v := 0) C.1 C.2.1 dX7_study_13 (by decide) ?_
  refine lv_istore_n (lv' := [(2, .int 0), (0, .ref h), (1, .ref h0)]) C.1 C.2.1 dX7_study_14 rfl hl (by decide) rfl (fun ls hl => ?_)
  refine k_loopA (fun (u : (Nat → Int32) × (Nat → Int32) × (Int32)) H locs ls => match u with | (j15_C_h_1, j15_C_h_2, j15_L_2) => 0 ≤ j15_L_2.toInt ∧ j15_L_2.toInt ≤ 6 ∧ wX D [(a_h0_0, .int), (a_h_0_13, .int), (a_h_0_12, .int), (a_h_0_2, .int), (a_h_0_3, .int), (a_h_0_9, .int), (a_h_0_4, .int), (a_h_0_5, .int), (a_h_0_8, .int), (a_h_0_6, .int), (a_h_0_7, .int), (a_h_0_11, .int), (a_h_0_10, .int), (a_h_1, .int), (a_h_2, .int)] s [(h, .inr (7, [.ref h_0, .ref h_1, .ref h_2, .ref h_3, .int 0])), (h_0, .inr (1, [.ref h0, .int s5_0, .ref h_0_2, .ref h_0_3, .ref h_0_4, .ref h_0_5, .ref h_0_6, .ref h_0_7, .ref h_0_8, .ref h_0_9, .ref h_0_10, .ref h_0_11, .ref h_0_12, .ref h_0_13])), (h0, .inr (8, [.ref h0_0, .int h0_1])), (h0_0, .inl (a_h0_0, n_h0_0, .inl f_h0_0)), (h_0_13, .inl (a_h_0_13, 480, .inl s5_1)), (h_0_12, .inl (a_h_0_12, 40, .inl s5_2)), (h_0_2, .inl (a_h_0_2, 40, .inl s5_3)), (h_0_3, .inl (a_h_0_3, 40, .inl s5_4)), (h_0_9, .inl (a_h_0_9, 40, .inl s5_5)), (h_0_4, .inl (a_h_0_4, 40, .inl s5_6)), (h_0_5, .inl (a_h_0_5, 40, .inl s5_7)), (h_0_8, .inl (a_h_0_8, 40, .inl s5_8)), (h_0_6, .inl (a_h_0_6, 40, .inl s5_9)), (h_0_7, .inl (a_h_0_7, 40, .inl s5_10)), (h_0_11, .inl (a_h_0_11, 40, .inl s5_11)), (h_0_10, .inl (a_h_0_10, 40, .inl s5_12)), (h_1, .inl (a_h_1, 6, .inl j15_C_h_1)), (h_2, .inl (a_h_2, 6, .inl j15_C_h_2))] H A s.heap locs ∧ lv_has ls 3 [(2, .int j15_L_2), (0, .ref h), (1, .ref h0)]) (fun (u : (Nat → Int32) × (Nat → Int32) × (Int32)) ls => match u with | (j15_C_h_1, j15_C_h_2, j15_L_2) => F0 m 15 ls []) (fun (u : (Nat → Int32) × (Nat → Int32) × (Int32)) => match u with | (j15_C_h_1, j15_C_h_2, j15_L_2) => (7 - j15_L_2.toInt).toNat) (fun u H locs ls hi ih15 => ?_) (f_h_1, f_h_2, 0) _ _ _ ⟨by have zq0 : (0 : Int32).toInt = 0 := (by decide); omega, by have zq0 : (0 : Int32).toInt = 0 := (by decide); omega, Wd, lv_sub hl [0, 1, 2] rfl⟩
  obtain ⟨j15_C_h_1, j15_C_h_2, j15_L_2⟩ := u
  obtain ⟨i15_0, i15_1, Wd, hl⟩ := hi
  refine lv_iload_n C.1 C.2.1 dX7_study_15 rfl (lv_at hl 0 rfl) ?_
  refine lv_bipush (v := 6) C.1 C.2.1 dX7_study_16 (by decide) ?_
  refine lv_icmp_ge (tgt := 41) C.1 C.2.1 dX7_study_18 (by decide) (fun c18 => ?_) (fun c18 => ?_)
  · have i18 : 6 ≤ j15_L_2.toInt := kz_le c18
    refine lv_iconst (v := 0) C.1 C.2.1 dX7_study_41 (by decide) ?_
    refine lv_istore_n (lv' := [(2, .int 0), (0, .ref h), (1, .ref h0)]) C.1 C.2.1 dX7_study_42 rfl hl (by decide) rfl (fun ls hl => ?_)
    refine k_loopA (fun (u : (Nat → Int32) × (Int32) × (Int32)) H locs ls => match u with | (j43_C_h_2, j43_F_h_4, j43_L_2) => 0 ≤ j43_L_2.toInt ∧ j43_L_2.toInt ≤ 1000 ∧ j43_L_2.toInt ≤ (n_h0_0 : Int) ∧ j43_L_2.toInt ≤ h0_1.toInt ∧ wX D [(a_h0_0, .int), (a_h_0_13, .int), (a_h_0_12, .int), (a_h_0_2, .int), (a_h_0_3, .int), (a_h_0_9, .int), (a_h_0_4, .int), (a_h_0_5, .int), (a_h_0_8, .int), (a_h_0_6, .int), (a_h_0_7, .int), (a_h_0_11, .int), (a_h_0_10, .int), (a_h_1, .int), (a_h_2, .int)] s [(h, .inr (7, [.ref h_0, .ref h_1, .ref h_2, .ref h_3, .int j43_F_h_4])), (h_0, .inr (1, [.ref h0, .int s5_0, .ref h_0_2, .ref h_0_3, .ref h_0_4, .ref h_0_5, .ref h_0_6, .ref h_0_7, .ref h_0_8, .ref h_0_9, .ref h_0_10, .ref h_0_11, .ref h_0_12, .ref h_0_13])), (h0, .inr (8, [.ref h0_0, .int h0_1])), (h0_0, .inl (a_h0_0, n_h0_0, .inl f_h0_0)), (h_0_13, .inl (a_h_0_13, 480, .inl s5_1)), (h_0_12, .inl (a_h_0_12, 40, .inl s5_2)), (h_0_2, .inl (a_h_0_2, 40, .inl s5_3)), (h_0_3, .inl (a_h_0_3, 40, .inl s5_4)), (h_0_9, .inl (a_h_0_9, 40, .inl s5_5)), (h_0_4, .inl (a_h_0_4, 40, .inl s5_6)), (h_0_5, .inl (a_h_0_5, 40, .inl s5_7)), (h_0_8, .inl (a_h_0_8, 40, .inl s5_8)), (h_0_6, .inl (a_h_0_6, 40, .inl s5_9)), (h_0_7, .inl (a_h_0_7, 40, .inl s5_10)), (h_0_11, .inl (a_h_0_11, 40, .inl s5_11)), (h_0_10, .inl (a_h_0_10, 40, .inl s5_12)), (h_1, .inl (a_h_1, 6, .inl j15_C_h_1)), (h_2, .inl (a_h_2, 6, .inl j43_C_h_2))] H A s.heap locs ∧ lv_has ls 3 [(2, .int j43_L_2), (0, .ref h), (1, .ref h0)]) (fun (u : (Nat → Int32) × (Int32) × (Int32)) ls => match u with | (j43_C_h_2, j43_F_h_4, j43_L_2) => F0 m 43 ls []) (fun (u : (Nat → Int32) × (Int32) × (Int32)) => match u with | (j43_C_h_2, j43_F_h_4, j43_L_2) => (1001 - j43_L_2.toInt).toNat) (fun u H locs ls hi ih43 => ?_) (j15_C_h_2, 0, 0) _ _ _ ⟨by have zq0 : (0 : Int32).toInt = 0 := (by decide); omega, by have zq0 : (0 : Int32).toInt = 0 := (by decide); omega, by have zq0 : (0 : Int32).toInt = 0 := (by decide); omega, by have zq0 : (0 : Int32).toInt = 0 := (by decide); omega, Wd, lv_sub hl [0, 1, 2] rfl⟩
    obtain ⟨j43_C_h_2, j43_F_h_4, j43_L_2⟩ := u
    obtain ⟨i43_0, i43_1, i43_2, i43_3, Wd, hl⟩ := hi
    refine lv_iload_n C.1 C.2.1 dX7_study_43 rfl (lv_at hl 0 rfl) ?_
    refine lv_aload_n C.1 C.2.1 dX7_study_44 rfl (lv_at hl 2 rfl) ?_
    refine k_get C Wd KX8 2 1 rfl (by decide) fl_X7_36 rfl dX7_study_45 ?_
    refine lv_icmp_ge (tgt := 66) C.1 C.2.1 dX7_study_48 (by decide) (fun c48 => ?_) (fun c48 => ?_)
    · have i48 : h0_1.toInt ≤ j43_L_2.toInt := kz_le c48
      refine lv_iconst (v := 0) C.1 C.2.1 dX7_study_66 (by decide) ?_
      refine lv_istore_n (lv' := [(2, .int 0), (0, .ref h), (1, .ref h0)]) C.1 C.2.1 dX7_study_67 rfl hl (by decide) rfl (fun ls hl => ?_)
      refine k_loopA (fun (u : (Nat → Int32) × (Nat → Int32) × (Int32) × (Int32)) H locs ls => match u with | (j68_C_h_1, j68_C_h_2, j68_F_h_4, j68_L_2) => 0 ≤ j68_L_2.toInt ∧ j68_L_2.toInt ≤ 40 ∧ j43_F_h_4.toInt ≤ j68_F_h_4.toInt ∧ j68_F_h_4.toInt ≤ j43_F_h_4.toInt ∧ j68_L_2.toInt ≤ (n_h0_0 : Int) ∧ j68_L_2.toInt ≤ h0_1.toInt ∧ j68_L_2.toInt ≤ s5_0.toInt ∧ wX D [(a_h0_0, .int), (a_h_0_13, .int), (a_h_0_12, .int), (a_h_0_2, .int), (a_h_0_3, .int), (a_h_0_9, .int), (a_h_0_4, .int), (a_h_0_5, .int), (a_h_0_8, .int), (a_h_0_6, .int), (a_h_0_7, .int), (a_h_0_11, .int), (a_h_0_10, .int), (a_h_1, .int), (a_h_2, .int)] s [(h, .inr (7, [.ref h_0, .ref h_1, .ref h_2, .ref h_3, .int j68_F_h_4])), (h_0, .inr (1, [.ref h0, .int s5_0, .ref h_0_2, .ref h_0_3, .ref h_0_4, .ref h_0_5, .ref h_0_6, .ref h_0_7, .ref h_0_8, .ref h_0_9, .ref h_0_10, .ref h_0_11, .ref h_0_12, .ref h_0_13])), (h0, .inr (8, [.ref h0_0, .int h0_1])), (h0_0, .inl (a_h0_0, n_h0_0, .inl f_h0_0)), (h_0_13, .inl (a_h_0_13, 480, .inl s5_1)), (h_0_12, .inl (a_h_0_12, 40, .inl s5_2)), (h_0_2, .inl (a_h_0_2, 40, .inl s5_3)), (h_0_3, .inl (a_h_0_3, 40, .inl s5_4)), (h_0_9, .inl (a_h_0_9, 40, .inl s5_5)), (h_0_4, .inl (a_h_0_4, 40, .inl s5_6)), (h_0_5, .inl (a_h_0_5, 40, .inl s5_7)), (h_0_8, .inl (a_h_0_8, 40, .inl s5_8)), (h_0_6, .inl (a_h_0_6, 40, .inl s5_9)), (h_0_7, .inl (a_h_0_7, 40, .inl s5_10)), (h_0_11, .inl (a_h_0_11, 40, .inl s5_11)), (h_0_10, .inl (a_h_0_10, 40, .inl s5_12)), (h_1, .inl (a_h_1, 6, .inl j68_C_h_1)), (h_2, .inl (a_h_2, 6, .inl j68_C_h_2))] H A s.heap locs ∧ lv_has ls 3 [(2, .int j68_L_2), (0, .ref h), (1, .ref h0)]) (fun (u : (Nat → Int32) × (Nat → Int32) × (Int32) × (Int32)) ls => match u with | (j68_C_h_1, j68_C_h_2, j68_F_h_4, j68_L_2) => F0 m 68 ls []) (fun (u : (Nat → Int32) × (Nat → Int32) × (Int32) × (Int32)) => match u with | (j68_C_h_1, j68_C_h_2, j68_F_h_4, j68_L_2) => (41 - j68_L_2.toInt).toNat) (fun u H locs ls hi ih68 => ?_) (j15_C_h_1, j43_C_h_2, j43_F_h_4, 0) _ _ _ ⟨by have zq0 : (0 : Int32).toInt = 0 := (by decide); omega, by have zq0 : (0 : Int32).toInt = 0 := (by decide); omega, by omega, by omega, by have zq0 : (0 : Int32).toInt = 0 := (by decide); omega, by have zq0 : (0 : Int32).toInt = 0 := (by decide); omega, by have zq0 : (0 : Int32).toInt = 0 := (by decide); omega, Wd, lv_sub hl [0, 1, 2] rfl⟩
      obtain ⟨j68_C_h_1, j68_C_h_2, j68_F_h_4, j68_L_2⟩ := u
      obtain ⟨i68_0, i68_1, i68_2, i68_3, i68_4, i68_5, i68_6, Wd, hl⟩ := hi
      refine lv_iload_n C.1 C.2.1 dX7_study_68 rfl (lv_at hl 0 rfl) ?_
      refine lv_aload_n C.1 C.2.1 dX7_study_69 rfl (lv_at hl 1 rfl) ?_
      refine k_get C Wd KX7 0 0 rfl (by decide) fl_X7_12 rfl dX7_study_70 ?_
      refine k_get C Wd KX1 1 1 rfl (by decide) fl_X7_49 rfl dX7_study_73 ?_
      refine lv_icmp_ge (tgt := 125) C.1 C.2.1 dX7_study_76 (by decide) (fun c76 => ?_) (fun c76 => ?_)
      · have i76 : s5_0.toInt ≤ j68_L_2.toInt := kz_le c76
        exact k_vret C hr hlk Wd (j68_F_h_4, s5_0, s5_1, s5_2, s5_3, s5_4, s5_5, s5_6, s5_7, s5_8, s5_9, s5_10, s5_11, s5_12, j68_C_h_1, j68_C_h_2) (by exact ⟨by omega, by omega, by omega, by omega⟩) [0, 1, 2, 3, 4, 5, 6, 7, 8, 9, 10, 11, 12, 13, 14, 15, 16, 17] rfl (by decide) [] rfl (by decide) (by decide) dX7_study_125
      · have i76 : j68_L_2.toInt < s5_0.toInt := kz_nle c76
        refine lv_aload_n C.1 C.2.1 dX7_study_79 rfl (lv_at hl 1 rfl) ?_
        refine lv_aload_n C.1 C.2.1 dX7_study_80 rfl (lv_at hl 1 rfl) ?_
        refine k_get C Wd KX7 0 0 rfl (by decide) fl_X7_12 rfl dX7_study_81 ?_
        refine lv_iload_n C.1 C.2.1 dX7_study_84 rfl (lv_at hl 0 rfl) ?_
        refine k_pi (k_runV (rest := [.ref h]) C aks Wd cs_X7_51 (sX1_aheadOf l D h_0 j68_L_2 h0 s5_0 h_0_2 h_0_3 h_0_4 h_0_5 h_0_6 h_0_7 h_0_8 h_0_9 h_0_10 h_0_11 h_0_12 h_0_13 a_h_0_10 s5_12 _ ) [1, 15] rfl (by decide) [12] rfl 1 1 rfl rfl rfl rfl rfl ⟨(Nat.le_of_ble_eq_true rfl), (Nat.le_of_ble_eq_true rfl)⟩ hl.1 rfl rfl (Nat.le_of_ble_eq_true rfl) ⟨(Nat.le_of_ble_eq_true rfl), (Nat.le_of_ble_eq_true rfl)⟩ dX7_study_85) (fun r85 w85 => ?_)
        refine lv_aload_n C.1 C.2.1 dX7_study_88 rfl (lv_at hl 1 rfl) ?_
        refine k_get C Wd KX7 0 0 rfl (by decide) fl_X7_12 rfl dX7_study_89 ?_
        refine lv_iload_n C.1 C.2.1 dX7_study_92 rfl (lv_at hl 0 rfl) ?_
        refine k_pi (k_runV (rest := [.int r85, .ref h]) C aks Wd cs_X7_51 (sX1_aheadOf l D h_0 j68_L_2 h0 s5_0 h_0_2 h_0_3 h_0_4 h_0_5 h_0_6 h_0_7 h_0_8 h_0_9 h_0_10 h_0_11 h_0_12 h_0_13 a_h_0_10 s5_12 _ ) [1, 15] rfl (by decide) [12] rfl 1 1 rfl rfl rfl rfl rfl ⟨(Nat.le_of_ble_eq_true rfl), (Nat.le_of_ble_eq_true rfl)⟩ hl.1 rfl rfl (Nat.le_of_ble_eq_true rfl) ⟨(Nat.le_of_ble_eq_true rfl), (Nat.le_of_ble_eq_true rfl)⟩ dX7_study_93) (fun r93 w93 => ?_)
        refine k_cv Wd [0, 16] [1, 2, 3, 4, 5, 6, 7, 8, 9, 10, 11, 12, 13, 14, 15, 17] rfl (wr := [(h_0, .inr (1, [.ref h0, .int s5_0, .ref h_0_2, .ref h_0_3, .ref h_0_4, .ref h_0_5, .ref h_0_6, .ref h_0_7, .ref h_0_8, .ref h_0_9, .ref h_0_10, .ref h_0_11, .ref h_0_12, .ref h_0_13])), (h0, .inr (8, [.ref h0_0, .int h0_1])), (h0_0, .inl (a_h0_0, n_h0_0, .inl f_h0_0)), (h_0_13, .inl (a_h_0_13, 480, .inl s5_1)), (h_0_12, .inl (a_h_0_12, 40, .inl s5_2)), (h_0_2, .inl (a_h_0_2, 40, .inl s5_3)), (h_0_3, .inl (a_h_0_3, 40, .inl s5_4)), (h_0_9, .inl (a_h_0_9, 40, .inl s5_5)), (h_0_4, .inl (a_h_0_4, 40, .inl s5_6)), (h_0_5, .inl (a_h_0_5, 40, .inl s5_7)), (h_0_8, .inl (a_h_0_8, 40, .inl s5_8)), (h_0_6, .inl (a_h_0_6, 40, .inl s5_9)), (h_0_7, .inl (a_h_0_7, 40, .inl s5_10)), (h_0_11, .inl (a_h_0_11, 40, .inl s5_11)), (h_0_10, .inl (a_h_0_10, 40, .inl s5_12)), (h_2, .inl (a_h_2, 6, .inl j68_C_h_2))]) rfl (by decide) (by decide) (cells' := 0) (slots' := 0) (by decide) (by decide) (k_runV (rest := []) C aks Wd cs_X7_54 (sX7_noteClashes l D h r85 r93 h_0 h_1 h_2 h_3 j68_F_h_4 a_h_1 j68_C_h_1 _ ) [0, 16] rfl (by decide) [13] rfl 0 7 rfl rfl rfl rfl rfl ⟨(Nat.le_of_ble_eq_true rfl), (Nat.le_of_ble_eq_true rfl)⟩ hl.1 rfl rfl (Nat.le_of_ble_eq_true rfl) ⟨(Nat.le_of_ble_eq_true rfl), (Nat.le_of_ble_eq_true rfl)⟩ dX7_study_96) (fun s96_0 H locs w96 Wd => ?_)
        have Wd : wX D [(a_h0_0, .int), (a_h_0_13, .int), (a_h_0_12, .int), (a_h_0_2, .int), (a_h_0_3, .int), (a_h_0_9, .int), (a_h_0_4, .int), (a_h_0_5, .int), (a_h_0_8, .int), (a_h_0_6, .int), (a_h_0_7, .int), (a_h_0_11, .int), (a_h_0_10, .int), (a_h_1, .int), (a_h_2, .int)] s [(h, .inr (7, [.ref h_0, .ref h_1, .ref h_2, .ref h_3, .int j68_F_h_4])), (h_0, .inr (1, [.ref h0, .int s5_0, .ref h_0_2, .ref h_0_3, .ref h_0_4, .ref h_0_5, .ref h_0_6, .ref h_0_7, .ref h_0_8, .ref h_0_9, .ref h_0_10, .ref h_0_11, .ref h_0_12, .ref h_0_13])), (h0, .inr (8, [.ref h0_0, .int h0_1])), (h0_0, .inl (a_h0_0, n_h0_0, .inl f_h0_0)), (h_0_13, .inl (a_h_0_13, 480, .inl s5_1)), (h_0_12, .inl (a_h_0_12, 40, .inl s5_2)), (h_0_2, .inl (a_h_0_2, 40, .inl s5_3)), (h_0_3, .inl (a_h_0_3, 40, .inl s5_4)), (h_0_9, .inl (a_h_0_9, 40, .inl s5_5)), (h_0_4, .inl (a_h_0_4, 40, .inl s5_6)), (h_0_5, .inl (a_h_0_5, 40, .inl s5_7)), (h_0_8, .inl (a_h_0_8, 40, .inl s5_8)), (h_0_6, .inl (a_h_0_6, 40, .inl s5_9)), (h_0_7, .inl (a_h_0_7, 40, .inl s5_10)), (h_0_11, .inl (a_h_0_11, 40, .inl s5_11)), (h_0_10, .inl (a_h_0_10, 40, .inl s5_12)), (h_1, .inl (a_h_1, 6, .inl s96_0)), (h_2, .inl (a_h_2, 6, .inl j68_C_h_2))] _ A s.heap _ := k_sub Wd [16, 0, 1, 2, 3, 4, 5, 6, 7, 8, 9, 10, 11, 12, 13, 14, 17, 15] rfl (by decide) [0, 1, 2, 3, 4, 5, 6, 7, 8, 9, 10, 11, 12, 13, 14] rfl
        refine lv_aload_n C.1 C.2.1 dX7_study_99 rfl (lv_at hl 1 rfl) ?_
        refine lv_aload_n C.1 C.2.1 dX7_study_100 rfl (lv_at hl 1 rfl) ?_
        refine k_get C Wd KX7 0 0 rfl (by decide) fl_X7_12 rfl dX7_study_101 ?_
        refine lv_iload_n C.1 C.2.1 dX7_study_104 rfl (lv_at hl 0 rfl) ?_
        refine k_pi (k_runV (rest := [.ref h]) C aks Wd cs_X7_58 (sX1_setBy l D h_0 j68_L_2 h0 s5_0 h_0_2 h_0_3 h_0_4 h_0_5 h_0_6 h_0_7 h_0_8 h_0_9 h_0_10 h_0_11 h_0_12 h_0_13 a_h_0_9 s5_5 _ ) [1, 8] rfl (by decide) [5] rfl 1 1 rfl rfl rfl rfl rfl ⟨(Nat.le_of_ble_eq_true rfl), (Nat.le_of_ble_eq_true rfl)⟩ hl.1 rfl rfl (Nat.le_of_ble_eq_true rfl) ⟨(Nat.le_of_ble_eq_true rfl), (Nat.le_of_ble_eq_true rfl)⟩ dX7_study_105) (fun r105 w105 => ?_)
        refine lv_aload_n C.1 C.2.1 dX7_study_108 rfl (lv_at hl 1 rfl) ?_
        refine k_get C Wd KX7 0 0 rfl (by decide) fl_X7_12 rfl dX7_study_109 ?_
        refine lv_iload_n C.1 C.2.1 dX7_study_112 rfl (lv_at hl 0 rfl) ?_
        refine k_pi (k_runV (rest := [.int r105, .ref h]) C aks Wd cs_X7_61 (sX1_behind l D h_0 j68_L_2 h0 s5_0 h_0_2 h_0_3 h_0_4 h_0_5 h_0_6 h_0_7 h_0_8 h_0_9 h_0_10 h_0_11 h_0_12 h_0_13 a_h_0_6 s5_9 a_h_0_10 s5_12 a_h_0_7 s5_10 _ ) [1, 12, 15, 13] rfl (by decide) [9, 12, 10] rfl 1 1 rfl rfl rfl rfl rfl ⟨(Nat.le_of_ble_eq_true rfl), (Nat.le_of_ble_eq_true rfl)⟩ hl.1 rfl rfl (Nat.le_of_ble_eq_true rfl) ⟨(Nat.le_of_ble_eq_true rfl), (Nat.le_of_ble_eq_true rfl)⟩ dX7_study_113) (fun r113 w113 => ?_)
        refine k_cv Wd [0, 16] [1, 2, 3, 4, 5, 6, 7, 8, 9, 10, 11, 12, 13, 14, 15, 17] rfl (wr := [(h_0, .inr (1, [.ref h0, .int s5_0, .ref h_0_2, .ref h_0_3, .ref h_0_4, .ref h_0_5, .ref h_0_6, .ref h_0_7, .ref h_0_8, .ref h_0_9, .ref h_0_10, .ref h_0_11, .ref h_0_12, .ref h_0_13])), (h0, .inr (8, [.ref h0_0, .int h0_1])), (h0_0, .inl (a_h0_0, n_h0_0, .inl f_h0_0)), (h_0_13, .inl (a_h_0_13, 480, .inl s5_1)), (h_0_12, .inl (a_h_0_12, 40, .inl s5_2)), (h_0_2, .inl (a_h_0_2, 40, .inl s5_3)), (h_0_3, .inl (a_h_0_3, 40, .inl s5_4)), (h_0_9, .inl (a_h_0_9, 40, .inl s5_5)), (h_0_4, .inl (a_h_0_4, 40, .inl s5_6)), (h_0_5, .inl (a_h_0_5, 40, .inl s5_7)), (h_0_8, .inl (a_h_0_8, 40, .inl s5_8)), (h_0_6, .inl (a_h_0_6, 40, .inl s5_9)), (h_0_7, .inl (a_h_0_7, 40, .inl s5_10)), (h_0_11, .inl (a_h_0_11, 40, .inl s5_11)), (h_0_10, .inl (a_h_0_10, 40, .inl s5_12)), (h_2, .inl (a_h_2, 6, .inl j68_C_h_2))]) rfl (by decide) (by decide) (cells' := 0) (slots' := 0) (by decide) (by decide) (k_runV (rest := []) C aks Wd cs_X7_54 (sX7_noteClashes l D h r105 r113 h_0 h_1 h_2 h_3 j68_F_h_4 a_h_1 s96_0 _ ) [0, 16] rfl (by decide) [13] rfl 0 7 rfl rfl rfl rfl rfl ⟨(Nat.le_of_ble_eq_true rfl), (Nat.le_of_ble_eq_true rfl)⟩ hl.1 rfl rfl (Nat.le_of_ble_eq_true rfl) ⟨(Nat.le_of_ble_eq_true rfl), (Nat.le_of_ble_eq_true rfl)⟩ dX7_study_116) (fun s116_0 H locs w116 Wd => ?_)
        have Wd : wX D [(a_h0_0, .int), (a_h_0_13, .int), (a_h_0_12, .int), (a_h_0_2, .int), (a_h_0_3, .int), (a_h_0_9, .int), (a_h_0_4, .int), (a_h_0_5, .int), (a_h_0_8, .int), (a_h_0_6, .int), (a_h_0_7, .int), (a_h_0_11, .int), (a_h_0_10, .int), (a_h_1, .int), (a_h_2, .int)] s [(h, .inr (7, [.ref h_0, .ref h_1, .ref h_2, .ref h_3, .int j68_F_h_4])), (h_0, .inr (1, [.ref h0, .int s5_0, .ref h_0_2, .ref h_0_3, .ref h_0_4, .ref h_0_5, .ref h_0_6, .ref h_0_7, .ref h_0_8, .ref h_0_9, .ref h_0_10, .ref h_0_11, .ref h_0_12, .ref h_0_13])), (h0, .inr (8, [.ref h0_0, .int h0_1])), (h0_0, .inl (a_h0_0, n_h0_0, .inl f_h0_0)), (h_0_13, .inl (a_h_0_13, 480, .inl s5_1)), (h_0_12, .inl (a_h_0_12, 40, .inl s5_2)), (h_0_2, .inl (a_h_0_2, 40, .inl s5_3)), (h_0_3, .inl (a_h_0_3, 40, .inl s5_4)), (h_0_9, .inl (a_h_0_9, 40, .inl s5_5)), (h_0_4, .inl (a_h_0_4, 40, .inl s5_6)), (h_0_5, .inl (a_h_0_5, 40, .inl s5_7)), (h_0_8, .inl (a_h_0_8, 40, .inl s5_8)), (h_0_6, .inl (a_h_0_6, 40, .inl s5_9)), (h_0_7, .inl (a_h_0_7, 40, .inl s5_10)), (h_0_11, .inl (a_h_0_11, 40, .inl s5_11)), (h_0_10, .inl (a_h_0_10, 40, .inl s5_12)), (h_1, .inl (a_h_1, 6, .inl s116_0)), (h_2, .inl (a_h_2, 6, .inl j68_C_h_2))] _ A s.heap _ := k_sub Wd [16, 0, 1, 2, 3, 4, 5, 6, 7, 8, 9, 10, 11, 12, 13, 14, 17, 15] rfl (by decide) [0, 1, 2, 3, 4, 5, 6, 7, 8, 9, 10, 11, 12, 13, 14] rfl
        obtain ⟨v119, ev119⟩ : ∃ z : Int32, j68_L_2 + 1 = z := ⟨_, rfl⟩
        have iv119 : v119.toInt = j68_L_2.toInt + 1 := kz_addc ev119 (by decide) (by omega) (by omega)
        refine lv_iinc (v := v119) (lv' := [(2, .int v119), (0, .ref h), (1, .ref h0)]) C.1 C.2.1 dX7_study_119 hl (k := 0) rfl ev119 (by decide) rfl (fun ls hl => ?_)
        refine lv_goto (tgt := 68) C.1 C.2.1 dX7_study_122 (by decide) ?_
        exact ih68 (s116_0, j68_C_h_2, j68_F_h_4, v119) _ _ _ ⟨by omega, by omega, by omega, by omega, by omega, by omega, by omega, Wd, lv_sub hl [0, 1, 2] rfl⟩ (by omega)
    · have i48 : j43_L_2.toInt < h0_1.toInt := kz_nle c48
      refine lv_aload_n C.1 C.2.1 dX7_study_51 rfl (lv_at hl 1 rfl) ?_
      refine lv_aload_n C.1 C.2.1 dX7_study_52 rfl (lv_at hl 2 rfl) ?_
      refine lv_iload_n C.1 C.2.1 dX7_study_53 rfl (lv_at hl 0 rfl) ?_
      refine k_pi (k_runV (rest := [.ref h]) C aks Wd cs_X7_41 (sX8_cell l D h0 j43_L_2 h0_0 h0_1 n_h0_0 a_h0_0 f_h0_0 _ (by omega) (by omega) (by omega) (by omega)) [2, 3] rfl (by decide) [0] rfl 2 8 rfl rfl rfl rfl rfl ⟨(Nat.le_of_ble_eq_true rfl), (Nat.le_of_ble_eq_true rfl)⟩ hl.1 rfl rfl (Nat.le_of_ble_eq_true rfl) ⟨(Nat.le_of_ble_eq_true rfl), (Nat.le_of_ble_eq_true rfl)⟩ dX7_study_54) (fun r54 w54 => ?_)
      refine k_cv Wd [0, 17] [1, 2, 3, 4, 5, 6, 7, 8, 9, 10, 11, 12, 13, 14, 15, 16] rfl (wr := [(h_0, .inr (1, [.ref h0, .int s5_0, .ref h_0_2, .ref h_0_3, .ref h_0_4, .ref h_0_5, .ref h_0_6, .ref h_0_7, .ref h_0_8, .ref h_0_9, .ref h_0_10, .ref h_0_11, .ref h_0_12, .ref h_0_13])), (h0, .inr (8, [.ref h0_0, .int h0_1])), (h0_0, .inl (a_h0_0, n_h0_0, .inl f_h0_0)), (h_0_13, .inl (a_h_0_13, 480, .inl s5_1)), (h_0_12, .inl (a_h_0_12, 40, .inl s5_2)), (h_0_2, .inl (a_h_0_2, 40, .inl s5_3)), (h_0_3, .inl (a_h_0_3, 40, .inl s5_4)), (h_0_9, .inl (a_h_0_9, 40, .inl s5_5)), (h_0_4, .inl (a_h_0_4, 40, .inl s5_6)), (h_0_5, .inl (a_h_0_5, 40, .inl s5_7)), (h_0_8, .inl (a_h_0_8, 40, .inl s5_8)), (h_0_6, .inl (a_h_0_6, 40, .inl s5_9)), (h_0_7, .inl (a_h_0_7, 40, .inl s5_10)), (h_0_11, .inl (a_h_0_11, 40, .inl s5_11)), (h_0_10, .inl (a_h_0_10, 40, .inl s5_12)), (h_1, .inl (a_h_1, 6, .inl j15_C_h_1))]) rfl (by decide) (by decide) (cells' := 0) (slots' := 0) (by decide) (by decide) (k_runV (rest := []) C aks Wd cs_X7_45 (sX7_count l D h r54 h_0 h_1 h_2 h_3 j43_F_h_4 a_h_2 j43_C_h_2 _ ) [0, 17] rfl (by decide) [14] rfl 0 7 rfl rfl rfl rfl rfl ⟨(Nat.le_of_ble_eq_true rfl), (Nat.le_of_ble_eq_true rfl)⟩ hl.1 rfl rfl (Nat.le_of_ble_eq_true rfl) ⟨(Nat.le_of_ble_eq_true rfl), (Nat.le_of_ble_eq_true rfl)⟩ dX7_study_57) (fun u H locs w57 Wd => ?_)
      obtain ⟨s57_0, s57_1⟩ := u
      have Wd : wX D [(a_h0_0, .int), (a_h_0_13, .int), (a_h_0_12, .int), (a_h_0_2, .int), (a_h_0_3, .int), (a_h_0_9, .int), (a_h_0_4, .int), (a_h_0_5, .int), (a_h_0_8, .int), (a_h_0_6, .int), (a_h_0_7, .int), (a_h_0_11, .int), (a_h_0_10, .int), (a_h_1, .int), (a_h_2, .int)] s [(h, .inr (7, [.ref h_0, .ref h_1, .ref h_2, .ref h_3, .int s57_0])), (h_0, .inr (1, [.ref h0, .int s5_0, .ref h_0_2, .ref h_0_3, .ref h_0_4, .ref h_0_5, .ref h_0_6, .ref h_0_7, .ref h_0_8, .ref h_0_9, .ref h_0_10, .ref h_0_11, .ref h_0_12, .ref h_0_13])), (h0, .inr (8, [.ref h0_0, .int h0_1])), (h0_0, .inl (a_h0_0, n_h0_0, .inl f_h0_0)), (h_0_13, .inl (a_h_0_13, 480, .inl s5_1)), (h_0_12, .inl (a_h_0_12, 40, .inl s5_2)), (h_0_2, .inl (a_h_0_2, 40, .inl s5_3)), (h_0_3, .inl (a_h_0_3, 40, .inl s5_4)), (h_0_9, .inl (a_h_0_9, 40, .inl s5_5)), (h_0_4, .inl (a_h_0_4, 40, .inl s5_6)), (h_0_5, .inl (a_h_0_5, 40, .inl s5_7)), (h_0_8, .inl (a_h_0_8, 40, .inl s5_8)), (h_0_6, .inl (a_h_0_6, 40, .inl s5_9)), (h_0_7, .inl (a_h_0_7, 40, .inl s5_10)), (h_0_11, .inl (a_h_0_11, 40, .inl s5_11)), (h_0_10, .inl (a_h_0_10, 40, .inl s5_12)), (h_1, .inl (a_h_1, 6, .inl j15_C_h_1)), (h_2, .inl (a_h_2, 6, .inl s57_1))] _ A s.heap _ := k_sub Wd [16, 0, 1, 2, 3, 4, 5, 6, 7, 8, 9, 10, 11, 12, 13, 14, 15, 17] rfl (by decide) [0, 1, 2, 3, 4, 5, 6, 7, 8, 9, 10, 11, 12, 13, 14] rfl
      obtain ⟨v60, ev60⟩ : ∃ z : Int32, j43_L_2 + 1 = z := ⟨_, rfl⟩
      have iv60 : v60.toInt = j43_L_2.toInt + 1 := kz_addc ev60 (by decide) (by omega) (by omega)
      refine lv_iinc (v := v60) (lv' := [(2, .int v60), (0, .ref h), (1, .ref h0)]) C.1 C.2.1 dX7_study_60 hl (k := 0) rfl ev60 (by decide) rfl (fun ls hl => ?_)
      refine lv_goto (tgt := 43) C.1 C.2.1 dX7_study_63 (by decide) ?_
      exact ih43 (s57_1, s57_0, v60) _ _ _ ⟨by omega, by omega, by omega, by omega, Wd, lv_sub hl [0, 1, 2] rfl⟩ (by omega)
  · have i18 : j15_L_2.toInt < 6 := kz_nle c18
    refine lv_aload_n C.1 C.2.1 dX7_study_21 rfl (lv_at hl 1 rfl) ?_
    refine k_get C Wd KX7 0 1 rfl (by decide) fl_X7_18 rfl dX7_study_22 ?_
    refine lv_iload_n C.1 C.2.1 dX7_study_25 rfl (lv_at hl 0 rfl) ?_
    refine lv_iconst (v := 0) C.1 C.2.1 dX7_study_26 (by decide) ?_
    obtain ⟨f27, ef27⟩ : ∃ z : Nat → Int32, upd j15_C_h_1 j15_L_2.toNatClampNeg 0 = z := ⟨_, rfl⟩
    refine k_iast C Wd 16 13 [(h, .inr (7, [.ref h_0, .ref h_1, .ref h_2, .ref h_3, .int 0])), (h_0, .inr (1, [.ref h0, .int s5_0, .ref h_0_2, .ref h_0_3, .ref h_0_4, .ref h_0_5, .ref h_0_6, .ref h_0_7, .ref h_0_8, .ref h_0_9, .ref h_0_10, .ref h_0_11, .ref h_0_12, .ref h_0_13])), (h0, .inr (8, [.ref h0_0, .int h0_1])), (h0_0, .inl (a_h0_0, n_h0_0, .inl f_h0_0)), (h_0_13, .inl (a_h_0_13, 480, .inl s5_1)), (h_0_12, .inl (a_h_0_12, 40, .inl s5_2)), (h_0_2, .inl (a_h_0_2, 40, .inl s5_3)), (h_0_3, .inl (a_h_0_3, 40, .inl s5_4)), (h_0_9, .inl (a_h_0_9, 40, .inl s5_5)), (h_0_4, .inl (a_h_0_4, 40, .inl s5_6)), (h_0_5, .inl (a_h_0_5, 40, .inl s5_7)), (h_0_8, .inl (a_h_0_8, 40, .inl s5_8)), (h_0_6, .inl (a_h_0_6, 40, .inl s5_9)), (h_0_7, .inl (a_h_0_7, 40, .inl s5_10)), (h_0_11, .inl (a_h_0_11, 40, .inl s5_11)), (h_0_10, .inl (a_h_0_10, 40, .inl s5_12)), (h_1, .inl (a_h_1, 6, .inl f27)), (h_2, .inl (a_h_2, 6, .inl j15_C_h_2))] rfl rfl (vp_in_iff.mpr ⟨by omega, by omega⟩) ef27 rfl dX7_study_27 (fun H locs Wd => ?_)
    refine lv_aload_n C.1 C.2.1 dX7_study_28 rfl (lv_at hl 1 rfl) ?_
    refine k_get C Wd KX7 0 2 rfl (by decide) fl_X7_22 rfl dX7_study_29 ?_
    refine lv_iload_n C.1 C.2.1 dX7_study_32 rfl (lv_at hl 0 rfl) ?_
    refine lv_iconst (v := 0) C.1 C.2.1 dX7_study_33 (by decide) ?_
    obtain ⟨f34, ef34⟩ : ∃ z : Nat → Int32, upd j15_C_h_2 j15_L_2.toNatClampNeg 0 = z := ⟨_, rfl⟩
    refine k_iast C Wd 17 14 [(h, .inr (7, [.ref h_0, .ref h_1, .ref h_2, .ref h_3, .int 0])), (h_0, .inr (1, [.ref h0, .int s5_0, .ref h_0_2, .ref h_0_3, .ref h_0_4, .ref h_0_5, .ref h_0_6, .ref h_0_7, .ref h_0_8, .ref h_0_9, .ref h_0_10, .ref h_0_11, .ref h_0_12, .ref h_0_13])), (h0, .inr (8, [.ref h0_0, .int h0_1])), (h0_0, .inl (a_h0_0, n_h0_0, .inl f_h0_0)), (h_0_13, .inl (a_h_0_13, 480, .inl s5_1)), (h_0_12, .inl (a_h_0_12, 40, .inl s5_2)), (h_0_2, .inl (a_h_0_2, 40, .inl s5_3)), (h_0_3, .inl (a_h_0_3, 40, .inl s5_4)), (h_0_9, .inl (a_h_0_9, 40, .inl s5_5)), (h_0_4, .inl (a_h_0_4, 40, .inl s5_6)), (h_0_5, .inl (a_h_0_5, 40, .inl s5_7)), (h_0_8, .inl (a_h_0_8, 40, .inl s5_8)), (h_0_6, .inl (a_h_0_6, 40, .inl s5_9)), (h_0_7, .inl (a_h_0_7, 40, .inl s5_10)), (h_0_11, .inl (a_h_0_11, 40, .inl s5_11)), (h_0_10, .inl (a_h_0_10, 40, .inl s5_12)), (h_1, .inl (a_h_1, 6, .inl f27)), (h_2, .inl (a_h_2, 6, .inl f34))] rfl rfl (vp_in_iff.mpr ⟨by omega, by omega⟩) ef34 rfl dX7_study_34 (fun H locs Wd => ?_)
    obtain ⟨v35, ev35⟩ : ∃ z : Int32, j15_L_2 + 1 = z := ⟨_, rfl⟩
    have iv35 : v35.toInt = j15_L_2.toInt + 1 := kz_addc ev35 (by decide) (by omega) (by omega)
    refine lv_iinc (v := v35) (lv' := [(2, .int v35), (0, .ref h), (1, .ref h0)]) C.1 C.2.1 dX7_study_35 hl (k := 0) rfl ev35 (by decide) rfl (fun ls hl => ?_)
    refine lv_goto (tgt := 15) C.1 C.2.1 dX7_study_38 (by decide) ?_
    exact ih15 (f27, f34, v35) _ _ _ ⟨by omega, by omega, Wd, lv_sub hl [0, 1, 2] rfl⟩ (by omega)
set_option maxHeartbeats 4000000 in
set_option maxRecDepth 100000 in
theorem sX7_clashing (l : Launch) (D : va_G) (h : Nat) (x0 : Int32) (x1 : Int32) (h_0 : Nat) (h_1 : Nat) (h_2 : Nat) (h_3 : Nat) (h_4 : Int32) (a_h_1 : ClassId) (f_h_1 : Nat → Int32) (sz : Nat) : Met l yX7_clashing (Cond.code yX7_clashing cX7_clashing 3 (some .boolean) :: gG) { frames := 2, cells := 0, slots := 0, locals := 84 } (cPre D [(a_h_1, .int)] [(h, .inr (7, [.ref h_0, .ref h_1, .ref h_2, .ref h_3, .int h_4])), (h_1, .inl (a_h_1, 6, .inl f_h_1))] sz [.ref h, .int x0, .int x1]) (vp_Si (fun r => 0 ≤ r.toInt ∧ r.toInt ≤ 1)) 0 0 (fun _ => False) := by
  refine Met.ofW (cc := cX7_clashing) (maxL := 3) (ret := (some .boolean)) (by decide) rfl ?_
  intro p e s m args below meth c s₁ B hml hv
  obtain ⟨rfl, aks, rfl, Wd⟩ := k_enter hv
  have C : CallFix p m c cX7_clashing 3 s _ gG RX7 := ⟨B.exec, B.bytes, hml, findClass_of_methodNamed B.named, fun w h => atoms_spec (ws := Cond.code yX7_clashing cX7_clashing 3 (some .boolean) :: gG) B.pre w (List.mem_cons_of_mem _ h)⟩
  have hr := B.returns
  have hlk := B.notSynchronized
  obtain ⟨A, Wd⟩ : ∃ A, wX D [(a_h_1, .int)] s [(h, .inr (7, [.ref h_0, .ref h_1, .ref h_2, .ref h_3, .int h_4])), (h_1, .inl (a_h_1, 6, .inl f_h_1))] s.heap A s.heap [] := ⟨_, Wd⟩
  refine k_locals (Nat.le_of_ble_eq_true rfl) [(0, .ref h), (1, .int x0), (2, .int x1)] rfl (fun ls hl => ?_)
  refine lv_iload_n C.1 C.2.1 dX7_clashing_0 rfl (lv_at hl 1 rfl) ?_
  refine k_pi (k_runN (rest := []) C aks Wd aks.2.2.2 cs_X7_71 (sX11_isVariable l D x0 _ ) [] rfl (by decide) [] rfl rfl rfl ⟨(Nat.le_of_ble_eq_true rfl), (Nat.le_of_ble_eq_true rfl)⟩ hl.1 rfl rfl (Nat.le_of_ble_eq_true rfl) ⟨(Nat.le_of_ble_eq_true rfl), (Nat.le_of_ble_eq_true rfl)⟩ dX7_clashing_1) (fun r1 w1 => ?_)
  obtain ⟨g1_0, g1_1⟩ := w1
  have g1_0 : 0 ≤ r1.toInt := g1_0
  have g1_1 : r1.toInt ≤ 1 := g1_1
  refine k_cutA (fun (j32_S_0 : Int32) H locs ls => 0 ≤ j32_S_0.toInt ∧ j32_S_0.toInt ≤ 1 ∧ j32_S_0.toInt ≤ r1.toInt ∧ H = s.heap ∧ locs = [] ∧ wX D [(a_h_1, .int)] s [(h, .inr (7, [.ref h_0, .ref h_1, .ref h_2, .ref h_3, .int h_4])), (h_1, .inl (a_h_1, 6, .inl f_h_1))] H A s.heap locs ∧ lv_has ls 3 [(0, .ref h), (1, .int x0), (2, .int x1)]) (fun (j32_S_0 : Int32) ls => F0 m 32 ls [.int j32_S_0]) (fun j32_S_0 H locs ls hi => ?_) (fun J32 => ?_)
  · obtain ⟨i32_0, i32_1, i32_2, rfl, rfl, Wd, hl⟩ := hi
    exact k_zretP C hr hlk (k_nb (by omega) (by omega)) (by exact ⟨by omega, by omega⟩) dX7_clashing_32
  refine k_cutA (fun (_ : Unit) H locs ls => H = s.heap ∧ locs = [] ∧ wX D [(a_h_1, .int)] s [(h, .inr (7, [.ref h_0, .ref h_1, .ref h_2, .ref h_3, .int h_4])), (h_1, .inl (a_h_1, 6, .inl f_h_1))] H A s.heap locs ∧ lv_has ls 3 [(0, .ref h), (1, .int x0), (2, .int x1)]) (fun (_ : Unit) ls => F0 m 31 ls []) (fun _ H locs ls hi => ?_) (fun J31 => ?_)
  · obtain ⟨rfl, rfl, Wd, hl⟩ := hi
    refine lv_iconst (v := 0) C.1 C.2.1 dX7_clashing_31 (by decide) ?_
    exact J32 0 _ _ _ ⟨by have zq0 : (0 : Int32).toInt = 0 := (by decide); omega, by have zq0 : (0 : Int32).toInt = 0 := (by decide); omega, by have zq0 : (0 : Int32).toInt = 0 := (by decide); omega, rfl, rfl, Wd, lv_sub hl [0, 1, 2] rfl⟩
  refine lv_if_eq (tgt := 31) C.1 C.2.1 dX7_clashing_4 (by decide) (fun c4 => ?_) (fun c4 => ?_)
  · have i4 : r1.toInt = 0 := kz_eq c4
    exact J31 () _ _ _ ⟨rfl, rfl, Wd, lv_sub hl [0, 1, 2] rfl⟩
  · have i4 : ¬ r1.toInt = 0 := kz_ne c4
    refine lv_iload_n C.1 C.2.1 dX7_clashing_7 rfl (lv_at hl 2 rfl) ?_
    refine k_pi (k_runN (rest := []) C aks Wd aks.2.2.2 cs_X7_71 (sX11_isVariable l D x1 _ ) [] rfl (by decide) [] rfl rfl rfl ⟨(Nat.le_of_ble_eq_true rfl), (Nat.le_of_ble_eq_true rfl)⟩ hl.1 rfl rfl (Nat.le_of_ble_eq_true rfl) ⟨(Nat.le_of_ble_eq_true rfl), (Nat.le_of_ble_eq_true rfl)⟩ dX7_clashing_8) (fun r8 w8 => ?_)
    obtain ⟨g8_0, g8_1⟩ := w8
    have g8_0 : 0 ≤ r8.toInt := g8_0
    have g8_1 : r8.toInt ≤ 1 := g8_1
    refine lv_if_eq (tgt := 31) C.1 C.2.1 dX7_clashing_11 (by decide) (fun c11 => ?_) (fun c11 => ?_)
    · have i11 : r8.toInt = 0 := kz_eq c11
      exact J31 () _ _ _ ⟨rfl, rfl, Wd, lv_sub hl [0, 1, 2] rfl⟩
    · have i11 : ¬ r8.toInt = 0 := kz_ne c11
      refine lv_aload_n C.1 C.2.1 dX7_clashing_14 rfl (lv_at hl 0 rfl) ?_
      refine k_get C Wd KX7 0 1 rfl (by decide) fl_X7_18 rfl dX7_clashing_15 ?_
      refine lv_iload_n C.1 C.2.1 dX7_clashing_18 rfl (lv_at hl 1 rfl) ?_
      obtain ⟨v19, ev19⟩ : ∃ z : Int32, f_h_1 x0.toNatClampNeg = z := ⟨_, rfl⟩
      refine k_iald (v := v19) C Wd 1 0 rfl rfl (vp_in_iff.mpr ⟨by omega, by omega⟩) ev19 dX7_clashing_19 ?_
      refine lv_iload_n C.1 C.2.1 dX7_clashing_20 rfl (lv_at hl 2 rfl) ?_
      obtain ⟨v21, ev21⟩ : ∃ z : Int32, v19 >>> (x1 &&& 31) = z := ⟨_, rfl⟩
      refine k_ishr (v := v21) C ev21 dX7_clashing_21 ?_
      refine lv_iconst (v := 1) C.1 C.2.1 dX7_clashing_22 (by decide) ?_
      obtain ⟨v23, ev23⟩ : ∃ z : Int32, v21 &&& 1 = z := ⟨_, rfl⟩
      refine k_iand (v := v23) C ev23 dX7_clashing_23 ?_
      refine lv_if_eq (tgt := 31) C.1 C.2.1 dX7_clashing_24 (by decide) (fun c24 => ?_) (fun c24 => ?_)
      · have i24 : v23.toInt = 0 := kz_eq c24
        exact J31 () _ _ _ ⟨rfl, rfl, Wd, lv_sub hl [0, 1, 2] rfl⟩
      · have i24 : ¬ v23.toInt = 0 := kz_ne c24
        refine lv_iconst (v := 1) C.1 C.2.1 dX7_clashing_27 (by decide) ?_
        refine lv_goto (tgt := 32) C.1 C.2.1 dX7_clashing_28 (by decide) ?_
        exact J32 1 _ _ _ ⟨by have zq1 : (1 : Int32).toInt = 1 := (by decide); omega, by have zq1 : (1 : Int32).toInt = 1 := (by decide); omega, by have zq1 : (1 : Int32).toInt = 1 := (by decide); omega, rfl, rfl, Wd, lv_sub hl [0, 1, 2] rfl⟩
set_option maxHeartbeats 4000000 in
set_option maxRecDepth 100000 in
theorem sX7_comingsOf (l : Launch) (D : va_G) (h : Nat) (x0 : Int32) (h_0 : Nat) (h_1 : Nat) (h_2 : Nat) (h_3 : Nat) (h_4 : Int32) (a_h_2 : ClassId) (f_h_2 : Nat → Int32) (sz : Nat) : Met l yX7_comingsOf (Cond.code yX7_comingsOf cX7_comingsOf 4 (some .int) :: gG) { frames := 1, cells := 0, slots := 0, locals := 64 } (cPre D [(a_h_2, .int)] [(h, .inr (7, [.ref h_0, .ref h_1, .ref h_2, .ref h_3, .int h_4])), (h_2, .inl (a_h_2, 6, .inl f_h_2))] sz [.ref h, .int x0]) (vp_Si (fun r => True)) 0 0 (fun _ => False) := by
  refine Met.ofW (cc := cX7_comingsOf) (maxL := 4) (ret := (some .int)) (by decide) rfl ?_
  intro p e s m args below meth c s₁ B hml hv
  obtain ⟨rfl, aks, rfl, Wd⟩ := k_enter hv
  have C : CallFix p m c cX7_comingsOf 4 s _ gG RX7 := ⟨B.exec, B.bytes, hml, findClass_of_methodNamed B.named, fun w h => atoms_spec (ws := Cond.code yX7_comingsOf cX7_comingsOf 4 (some .int) :: gG) B.pre w (List.mem_cons_of_mem _ h)⟩
  have hr := B.returns
  have hlk := B.notSynchronized
  obtain ⟨A, Wd⟩ : ∃ A, wX D [(a_h_2, .int)] s [(h, .inr (7, [.ref h_0, .ref h_1, .ref h_2, .ref h_3, .int h_4])), (h_2, .inl (a_h_2, 6, .inl f_h_2))] s.heap A s.heap [] := ⟨_, Wd⟩
  refine k_locals (Nat.le_of_ble_eq_true rfl) [(0, .ref h), (1, .int x0)] rfl (fun ls hl => ?_)
  refine lv_iconst (v := 0) C.1 C.2.1 dX7_comingsOf_0 (by decide) ?_
  refine lv_istore_n (lv' := [(2, .int 0), (0, .ref h), (1, .int x0)]) C.1 C.2.1 dX7_comingsOf_1 rfl hl (by decide) rfl (fun ls hl => ?_)
  refine lv_iconst (v := 0) C.1 C.2.1 dX7_comingsOf_2 (by decide) ?_
  refine lv_istore_n (lv' := [(3, .int 0), (2, .int 0), (0, .ref h), (1, .int x0)]) C.1 C.2.1 dX7_comingsOf_3 rfl hl (by decide) rfl (fun ls hl => ?_)
  refine k_loopA (fun (u : (Int32) × (Int32)) H locs ls => match u with | (j4_L_2, j4_L_3) => 0 ≤ j4_L_3.toInt ∧ j4_L_3.toInt ≤ 6 ∧ H = s.heap ∧ locs = [] ∧ wX D [(a_h_2, .int)] s [(h, .inr (7, [.ref h_0, .ref h_1, .ref h_2, .ref h_3, .int h_4])), (h_2, .inl (a_h_2, 6, .inl f_h_2))] H A s.heap locs ∧ lv_has ls 4 [(3, .int j4_L_3), (2, .int j4_L_2), (0, .ref h), (1, .int x0)]) (fun (u : (Int32) × (Int32)) ls => match u with | (j4_L_2, j4_L_3) => F0 m 4 ls []) (fun (u : (Int32) × (Int32)) => match u with | (j4_L_2, j4_L_3) => (7 - j4_L_3.toInt).toNat) (fun u H locs ls hi ih4 => ?_) (0, 0) _ _ _ ⟨by have zq0 : (0 : Int32).toInt = 0 := (by decide); omega, by have zq0 : (0 : Int32).toInt = 0 := (by decide); omega, rfl, rfl, Wd, lv_sub hl [0, 1, 2, 3] rfl⟩
  obtain ⟨j4_L_2, j4_L_3⟩ := u
  obtain ⟨i4_0, i4_1, rfl, rfl, Wd, hl⟩ := hi
  refine lv_iload_n C.1 C.2.1 dX7_comingsOf_4 rfl (lv_at hl 0 rfl) ?_
  refine lv_bipush (v := 6) C.1 C.2.1 dX7_comingsOf_5 (by decide) ?_
  refine lv_icmp_ge (tgt := 37) C.1 C.2.1 dX7_comingsOf_7 (by decide) (fun c7 => ?_) (fun c7 => ?_)
  · have i7 : 6 ≤ j4_L_3.toInt := kz_le c7
    refine lv_iload_n C.1 C.2.1 dX7_comingsOf_37 rfl (lv_at hl 1 rfl) ?_
    exact k_zretP C hr hlk rfl trivial dX7_comingsOf_38
  · have i7 : j4_L_3.toInt < 6 := kz_nle c7
    refine lv_iload_n C.1 C.2.1 dX7_comingsOf_10 rfl (lv_at hl 1 rfl) ?_
    refine lv_iload_n C.1 C.2.1 dX7_comingsOf_11 rfl (lv_at hl 3 rfl) ?_
    refine lv_iload_n C.1 C.2.1 dX7_comingsOf_12 rfl (lv_at hl 0 rfl) ?_
    obtain ⟨v13, ev13⟩ : ∃ z : Int32, x0 >>> (j4_L_3 &&& 31) = z := ⟨_, rfl⟩
    refine k_ishr (v := v13) C ev13 dX7_comingsOf_13 ?_
    refine lv_iconst (v := 1) C.1 C.2.1 dX7_comingsOf_14 (by decide) ?_
    obtain ⟨v15, ev15⟩ : ∃ z : Int32, v13 &&& 1 = z := ⟨_, rfl⟩
    refine k_iand (v := v15) C ev15 dX7_comingsOf_15 ?_
    refine k_cutA (fun (j29_S_0 : Int32) H locs ls => H = s.heap ∧ locs = [] ∧ wX D [(a_h_2, .int)] s [(h, .inr (7, [.ref h_0, .ref h_1, .ref h_2, .ref h_3, .int h_4])), (h_2, .inl (a_h_2, 6, .inl f_h_2))] H A s.heap locs ∧ lv_has ls 4 [(3, .int j4_L_3), (2, .int j4_L_2), (0, .ref h), (1, .int x0)]) (fun (j29_S_0 : Int32) ls => F0 m 29 ls [.int j29_S_0, .int j4_L_2]) (fun j29_S_0 H locs ls hi => ?_) (fun J29 => ?_)
    · obtain ⟨rfl, rfl, Wd, hl⟩ := hi
      obtain ⟨v29, ev29⟩ : ∃ z : Int32, j4_L_2 + j29_S_0 = z := ⟨_, rfl⟩
      refine k_iadd (v := v29) C ev29 dX7_comingsOf_29 ?_
      refine lv_istore_n (lv' := [(2, .int v29), (3, .int j4_L_3), (0, .ref h), (1, .int x0)]) C.1 C.2.1 dX7_comingsOf_30 rfl hl (by decide) rfl (fun ls hl => ?_)
      obtain ⟨v31, ev31⟩ : ∃ z : Int32, j4_L_3 + 1 = z := ⟨_, rfl⟩
      have iv31 : v31.toInt = j4_L_3.toInt + 1 := kz_addc ev31 (by decide) (by omega) (by omega)
      refine lv_iinc (v := v31) (lv' := [(3, .int v31), (2, .int v29), (0, .ref h), (1, .int x0)]) C.1 C.2.1 dX7_comingsOf_31 hl (k := 1) rfl ev31 (by decide) rfl (fun ls hl => ?_)
      refine lv_goto (tgt := 4) C.1 C.2.1 dX7_comingsOf_34 (by decide) ?_
      exact ih4 (v29, v31) _ _ _ ⟨by omega, by omega, rfl, rfl, Wd, lv_sub hl [0, 1, 2, 3] rfl⟩ (by omega)
    refine lv_if_eq (tgt := 28) C.1 C.2.1 dX7_comingsOf_16 (by decide) (fun c16 => ?_) (fun c16 => ?_)
    · have i16 : v15.toInt = 0 := kz_eq c16
      refine lv_iconst (v := 0) C.1 C.2.1 dX7_comingsOf_28 (by decide) ?_
      exact J29 0 _ _ _ ⟨rfl, rfl, Wd, lv_sub hl [0, 1, 2, 3] rfl⟩
    · have i16 : ¬ v15.toInt = 0 := kz_ne c16
      refine lv_aload_n C.1 C.2.1 dX7_comingsOf_19 rfl (lv_at hl 2 rfl) ?_
      refine k_get C Wd KX7 0 2 rfl (by decide) fl_X7_22 rfl dX7_comingsOf_20 ?_
      refine lv_iload_n C.1 C.2.1 dX7_comingsOf_23 rfl (lv_at hl 0 rfl) ?_
      obtain ⟨v24, ev24⟩ : ∃ z : Int32, f_h_2 j4_L_3.toNatClampNeg = z := ⟨_, rfl⟩
      refine k_iald (v := v24) C Wd 1 0 rfl rfl (vp_in_iff.mpr ⟨by omega, by omega⟩) ev24 dX7_comingsOf_24 ?_
      refine lv_goto (tgt := 29) C.1 C.2.1 dX7_comingsOf_25 (by decide) ?_
      exact J29 v24 _ _ _ ⟨rfl, rfl, Wd, lv_sub hl [0, 1, 2, 3] rfl⟩
set_option maxHeartbeats 4000000 in
set_option maxRecDepth 100000 in
theorem sX7_isFree (l : Launch) (D : va_G) (h : Nat) (x0 : Int32) (x1 : Int32) (h_0 : Nat) (h_1 : Nat) (h_2 : Nat) (h_3 : Nat) (h_4 : Int32) (a_h_3 : ClassId) (f_h_3 : Nat → Int32) (a_h_1 : ClassId) (f_h_1 : Nat → Int32) (sz : Nat) : Met l yX7_isFree (Cond.code yX7_isFree cX7_isFree 4 (some .boolean) :: gG) { frames := 3, cells := 0, slots := 0, locals := 106 } (cPre D [(a_h_3, .int), (a_h_1, .int)] [(h, .inr (7, [.ref h_0, .ref h_1, .ref h_2, .ref h_3, .int h_4])), (h_3, .inl (a_h_3, 6, .inl f_h_3)), (h_1, .inl (a_h_1, 6, .inl f_h_1))] sz [.ref h, .int x0, .int x1]) (vp_Si (fun r => 0 ≤ r.toInt ∧ r.toInt ≤ 1)) 0 0 (fun _ => False) := by
  refine Met.ofW (cc := cX7_isFree) (maxL := 4) (ret := (some .boolean)) (by decide) rfl ?_
  intro p e s m args below meth c s₁ B hml hv
  obtain ⟨rfl, aks, rfl, Wd⟩ := k_enter hv
  have C : CallFix p m c cX7_isFree 4 s _ gG RX7 := ⟨B.exec, B.bytes, hml, findClass_of_methodNamed B.named, fun w h => atoms_spec (ws := Cond.code yX7_isFree cX7_isFree 4 (some .boolean) :: gG) B.pre w (List.mem_cons_of_mem _ h)⟩
  have hr := B.returns
  have hlk := B.notSynchronized
  obtain ⟨A, Wd⟩ : ∃ A, wX D [(a_h_3, .int), (a_h_1, .int)] s [(h, .inr (7, [.ref h_0, .ref h_1, .ref h_2, .ref h_3, .int h_4])), (h_3, .inl (a_h_3, 6, .inl f_h_3)), (h_1, .inl (a_h_1, 6, .inl f_h_1))] s.heap A s.heap [] := ⟨_, Wd⟩
  refine k_locals (Nat.le_of_ble_eq_true rfl) [(0, .ref h), (1, .int x0), (2, .int x1)] rfl (fun ls hl => ?_)
  refine lv_iconst (v := 0) C.1 C.2.1 dX7_isFree_0 (by decide) ?_
  refine lv_istore_n (lv' := [(3, .int 0), (0, .ref h), (1, .int x0), (2, .int x1)]) C.1 C.2.1 dX7_isFree_1 rfl hl (by decide) rfl (fun ls hl => ?_)
  refine k_loopA (fun (j2_L_3 : Int32) H locs ls => 0 ≤ j2_L_3.toInt ∧ j2_L_3.toInt ≤ 6 ∧ H = s.heap ∧ locs = [] ∧ wX D [(a_h_3, .int), (a_h_1, .int)] s [(h, .inr (7, [.ref h_0, .ref h_1, .ref h_2, .ref h_3, .int h_4])), (h_3, .inl (a_h_3, 6, .inl f_h_3)), (h_1, .inl (a_h_1, 6, .inl f_h_1))] H A s.heap locs ∧ lv_has ls 4 [(3, .int j2_L_3), (0, .ref h), (1, .int x0), (2, .int x1)]) (fun (j2_L_3 : Int32) ls => F0 m 2 ls []) (fun (j2_L_3 : Int32) => (7 - j2_L_3.toInt).toNat) (fun j2_L_3 H locs ls hi ih2 => ?_) 0 _ _ _ ⟨by have zq0 : (0 : Int32).toInt = 0 := (by decide); omega, by have zq0 : (0 : Int32).toInt = 0 := (by decide); omega, rfl, rfl, Wd, lv_sub hl [0, 1, 2, 3] rfl⟩
  obtain ⟨i2_0, i2_1, rfl, rfl, Wd, hl⟩ := hi
  refine lv_iload_n C.1 C.2.1 dX7_isFree_2 rfl (lv_at hl 0 rfl) ?_
  refine lv_iload_n C.1 C.2.1 dX7_isFree_3 rfl (lv_at hl 2 rfl) ?_
  refine k_cutA (fun (_ : Unit) H locs ls => H = s.heap ∧ locs = [] ∧ wX D [(a_h_3, .int), (a_h_1, .int)] s [(h, .inr (7, [.ref h_0, .ref h_1, .ref h_2, .ref h_3, .int h_4])), (h_3, .inl (a_h_3, 6, .inl f_h_3)), (h_1, .inl (a_h_1, 6, .inl f_h_1))] H A s.heap locs ∧ lv_has ls 4 [(3, .int j2_L_3), (0, .ref h), (1, .int x0), (2, .int x1)]) (fun (_ : Unit) ls => F0 m 40 ls []) (fun _ H locs ls hi => ?_) (fun J40 => ?_)
  · obtain ⟨rfl, rfl, Wd, hl⟩ := hi
    refine lv_iconst (v := 1) C.1 C.2.1 dX7_isFree_40 (by decide) ?_
    exact k_zretP C hr hlk rfl (by exact ⟨by have zq1 : (1 : Int32).toInt = 1 := (by decide); omega, by have zq1 : (1 : Int32).toInt = 1 := (by decide); omega⟩) dX7_isFree_41
  refine lv_icmp_ge (tgt := 40) C.1 C.2.1 dX7_isFree_4 (by decide) (fun c4 => ?_) (fun c4 => ?_)
  · have i4 : x0.toInt ≤ j2_L_3.toInt := kz_le c4
    exact J40 () _ _ _ ⟨rfl, rfl, Wd, lv_sub hl [0, 1, 2, 3] rfl⟩
  · have i4 : j2_L_3.toInt < x0.toInt := kz_nle c4
    refine lv_iload_n C.1 C.2.1 dX7_isFree_7 rfl (lv_at hl 0 rfl) ?_
    refine lv_bipush (v := 6) C.1 C.2.1 dX7_isFree_8 (by decide) ?_
    refine lv_icmp_ge (tgt := 40) C.1 C.2.1 dX7_isFree_10 (by decide) (fun c10 => ?_) (fun c10 => ?_)
    · have i10 : 6 ≤ j2_L_3.toInt := kz_le c10
      exact J40 () _ _ _ ⟨rfl, rfl, Wd, lv_sub hl [0, 1, 2, 3] rfl⟩
    · have i10 : j2_L_3.toInt < 6 := kz_nle c10
      refine lv_aload_n C.1 C.2.1 dX7_isFree_13 rfl (lv_at hl 1 rfl) ?_
      refine k_get C Wd KX7 0 3 rfl (by decide) fl_X7_25 rfl dX7_isFree_14 ?_
      refine lv_iload_n C.1 C.2.1 dX7_isFree_17 rfl (lv_at hl 0 rfl) ?_
      obtain ⟨v18, ev18⟩ : ∃ z : Int32, f_h_3 j2_L_3.toNatClampNeg = z := ⟨_, rfl⟩
      refine k_iald (v := v18) C Wd 1 0 rfl rfl (vp_in_iff.mpr ⟨by omega, by omega⟩) ev18 dX7_isFree_18 ?_
      refine lv_iload_n C.1 C.2.1 dX7_isFree_19 rfl (lv_at hl 3 rfl) ?_
      refine k_cutA (fun (_ : Unit) H locs ls => H = s.heap ∧ locs = [] ∧ wX D [(a_h_3, .int), (a_h_1, .int)] s [(h, .inr (7, [.ref h_0, .ref h_1, .ref h_2, .ref h_3, .int h_4])), (h_3, .inl (a_h_3, 6, .inl f_h_3)), (h_1, .inl (a_h_1, 6, .inl f_h_1))] H A s.heap locs ∧ lv_has ls 4 [(3, .int j2_L_3), (0, .ref h), (1, .int x0), (2, .int x1)]) (fun (_ : Unit) ls => F0 m 34 ls []) (fun _ H locs ls hi => ?_) (fun J34 => ?_)
      · obtain ⟨rfl, rfl, Wd, hl⟩ := hi
        obtain ⟨v34, ev34⟩ : ∃ z : Int32, j2_L_3 + 1 = z := ⟨_, rfl⟩
        have iv34 : v34.toInt = j2_L_3.toInt + 1 := kz_addc ev34 (by decide) (by omega) (by omega)
        refine lv_iinc (v := v34) (lv' := [(3, .int v34), (0, .ref h), (1, .int x0), (2, .int x1)]) C.1 C.2.1 dX7_isFree_34 hl (k := 0) rfl ev34 (by decide) rfl (fun ls hl => ?_)
        refine lv_goto (tgt := 2) C.1 C.2.1 dX7_isFree_37 (by decide) ?_
        exact ih2 v34 _ _ _ ⟨by omega, by omega, rfl, rfl, Wd, lv_sub hl [0, 1, 2, 3] rfl⟩ (by omega)
      refine lv_icmp_ne (tgt := 34) C.1 C.2.1 dX7_isFree_20 (by decide) (fun c20 => ?_) (fun c20 => ?_)
      · have i20 : ¬ v18.toInt = x1.toInt := kz_ne c20
        exact J34 () _ _ _ ⟨rfl, rfl, Wd, lv_sub hl [0, 1, 2, 3] rfl⟩
      · have i20 : v18.toInt = x1.toInt := kz_eq c20
        refine lv_aload_n C.1 C.2.1 dX7_isFree_23 rfl (lv_at hl 1 rfl) ?_
        refine lv_iload_n C.1 C.2.1 dX7_isFree_24 rfl (lv_at hl 2 rfl) ?_
        refine lv_iload_n C.1 C.2.1 dX7_isFree_25 rfl (lv_at hl 0 rfl) ?_
        refine k_pi (k_runV (rest := []) C aks Wd cs_X7_89 (sX7_clashing l D h x0 j2_L_3 h_0 h_1 h_2 h_3 h_4 a_h_1 f_h_1 _ ) [0, 2] rfl (by decide) [1] rfl 0 7 rfl rfl rfl rfl rfl ⟨(Nat.le_of_ble_eq_true rfl), (Nat.le_of_ble_eq_true rfl)⟩ hl.1 rfl rfl (Nat.le_of_ble_eq_true rfl) ⟨(Nat.le_of_ble_eq_true rfl), (Nat.le_of_ble_eq_true rfl)⟩ dX7_isFree_26) (fun r26 w26 => ?_)
        obtain ⟨g26_0, g26_1⟩ := w26
        have g26_0 : 0 ≤ r26.toInt := g26_0
        have g26_1 : r26.toInt ≤ 1 := g26_1
        refine lv_if_eq (tgt := 34) C.1 C.2.1 dX7_isFree_29 (by decide) (fun c29 => ?_) (fun c29 => ?_)
        · have i29 : r26.toInt = 0 := kz_eq c29
          exact J34 () _ _ _ ⟨rfl, rfl, Wd, lv_sub hl [0, 1, 2, 3] rfl⟩
        · have i29 : ¬ r26.toInt = 0 := kz_ne c29
          refine lv_iconst (v := 0) C.1 C.2.1 dX7_isFree_32 (by decide) ?_
          exact k_zretP C hr hlk rfl (by exact ⟨by have zq0 : (0 : Int32).toInt = 0 := (by decide); omega, by have zq0 : (0 : Int32).toInt = 0 := (by decide); omega⟩) dX7_isFree_33
set_option maxHeartbeats 4000000 in
set_option maxRecDepth 100000 in
theorem sX0_foldOperations (l : Launch) (D : va_G) (h : Nat) (h0 : Nat) (h0_0 : Nat) (h0_1 : Int32) (n_h0_0 : Nat) (a_h0_0 : ClassId) (f_h0_0 : Nat → Int32) (sz : Nat) (k_h0_1_lo : 0 ≤ h0_1.toInt) (k_n_h0_0 : n_h0_0 ≤ 1000) (k_p_h0_0 : 1 ≤ n_h0_0) (k_h0_1_hi : h0_1.toInt ≤ (n_h0_0 : Int)) : Met l yX0_foldOperations (Cond.code yX0_foldOperations cX0_foldOperations 6 none :: gG) { frames := 2, cells := 0, slots := 0, locals := 118 } (cPre D [(a_h0_0, .int)] [(h0, .inr (8, [.ref h0_0, .int h0_1])), (h0_0, .inl (a_h0_0, n_h0_0, .inl f_h0_0))] sz [.ref h, .ref h0]) (va_Qv (fun (u : (Int32) × (Nat → Int32)) => match u with | (jX_F_h0_1, jX_C_h0_0) => 0 ≤ jX_F_h0_1.toInt ∧ jX_F_h0_1.toInt ≤ 1000 ∧ jX_F_h0_1.toInt ≤ (n_h0_0 : Int) ∧ jX_F_h0_1.toInt ≤ h0_1.toInt) (fun u t => cB D (va_A [(h0, .inr (8, [.ref h0_0, .int h0_1])), (h0_0, .inl (a_h0_0, n_h0_0, .inl f_h0_0))] sz) ((fun (_ : (Int32) × (Nat → Int32)) => ([] : List (ClassId × FieldType))) u) ((fun (u : (Int32) × (Nat → Int32)) => match u with | (jX_F_h0_1, jX_C_h0_0) => ([(h0, .inr (8, [.ref h0_0, .int jX_F_h0_1])), (h0_0, .inl (a_h0_0, n_h0_0, .inl jX_C_h0_0))] : va_W)) u) t) (va_A [(h0, .inr (8, [.ref h0_0, .int h0_1])), (h0_0, .inl (a_h0_0, n_h0_0, .inl f_h0_0))] sz)) 0 0 (va_A [(h0, .inr (8, [.ref h0_0, .int h0_1])), (h0_0, .inl (a_h0_0, n_h0_0, .inl f_h0_0))] sz) := by
  refine Met.ofW (cc := cX0_foldOperations) (maxL := 6) (ret := none) (by decide) rfl ?_
  intro p e s m args below meth c s₁ B hml hv
  obtain ⟨rfl, aks, rfl, Wd⟩ := k_enter hv
  have C : CallFix p m c cX0_foldOperations 6 s _ gG RX0 := ⟨B.exec, B.bytes, hml, findClass_of_methodNamed B.named, fun w h => atoms_spec (ws := Cond.code yX0_foldOperations cX0_foldOperations 6 none :: gG) B.pre w (List.mem_cons_of_mem _ h)⟩
  have hr := B.returns
  have hlk := B.notSynchronized
  generalize va_A [(h0, .inr (8, [.ref h0_0, .int h0_1])), (h0_0, .inl (a_h0_0, n_h0_0, .inl f_h0_0))] s.heap.size = A at Wd ⊢
  refine k_locals (Nat.le_of_ble_eq_true rfl) [(0, .ref h), (1, .ref h0)] rfl (fun ls hl => ?_)
  refine lv_aload_n C.1 C.2.1 dX0_foldOperations_0 rfl (lv_at hl 1 rfl) ?_
  refine k_get C Wd KX8 0 1 rfl (by decide) fl_X0_31 rfl dX0_foldOperations_1 ?_
  refine lv_iconst (v := 1) C.1 C.2.1 dX0_foldOperations_4 (by decide) ?_
  obtain ⟨v5, ev5⟩ : ∃ z : Int32, h0_1 - 1 = z := ⟨_, rfl⟩
  have iv5 : v5.toInt = h0_1.toInt - 1 := kz_subc ev5 (by decide) (by omega) (by omega)
  refine k_isub (v := v5) C ev5 dX0_foldOperations_5 ?_
  refine lv_istore_n (lv' := [(2, .int v5), (0, .ref h), (1, .ref h0)]) C.1 C.2.1 dX0_foldOperations_6 rfl hl (by decide) rfl (fun ls hl => ?_)
  refine k_loopA (fun (u : (Nat → Int32) × (Int32) × (Int32)) H locs ls => match u with | (j7_C_h0_0, j7_F_h0_1, j7_L_2) => 0 ≤ j7_F_h0_1.toInt ∧ -1 ≤ j7_L_2.toInt ∧ j7_L_2.toInt ≤ 999 ∧ j7_F_h0_1.toInt ≤ 1000 ∧ j7_F_h0_1.toInt ≤ (n_h0_0 : Int) ∧ j7_F_h0_1.toInt ≤ h0_1.toInt ∧ j7_L_2.toInt ≤ v5.toInt ∧ j7_L_2.toInt ≤ j7_F_h0_1.toInt + 998 ∧ wX D [(a_h0_0, .int)] s [(h0, .inr (8, [.ref h0_0, .int j7_F_h0_1])), (h0_0, .inl (a_h0_0, n_h0_0, .inl j7_C_h0_0))] H A s.heap locs ∧ lv_has ls 6 [(2, .int j7_L_2), (0, .ref h), (1, .ref h0)]) (fun (u : (Nat → Int32) × (Int32) × (Int32)) ls => match u with | (j7_C_h0_0, j7_F_h0_1, j7_L_2) => F0 m 7 ls []) (fun (u : (Nat → Int32) × (Int32) × (Int32)) => match u with | (j7_C_h0_0, j7_F_h0_1, j7_L_2) => (j7_L_2.toInt + 2).toNat) (fun u H locs ls hi ih7 => ?_) (f_h0_0, h0_1, v5) _ _ _ ⟨by omega, by omega, by omega, by omega, by omega, by omega, by omega, by omega, Wd, lv_sub hl [0, 1, 2] rfl⟩
  obtain ⟨j7_C_h0_0, j7_F_h0_1, j7_L_2⟩ := u
  obtain ⟨i7_0, i7_1, i7_2, i7_3, i7_4, i7_5, i7_6, i7_7, Wd, hl⟩ := hi
  refine lv_iload_n C.1 C.2.1 dX0_foldOperations_7 rfl (lv_at hl 0 rfl) ?_
  refine lv_if_lt (tgt := 87) C.1 C.2.1 dX0_foldOperations_8 (by decide) (fun c8 => ?_) (fun c8 => ?_)
  · have i8 : j7_L_2.toInt < 0 := kz_lt c8
    exact k_vret C hr hlk Wd (j7_F_h0_1, j7_C_h0_0) (by exact ⟨by omega, by omega, by omega, by omega⟩) [0, 1] rfl (by decide) [] rfl (by decide) (by decide) dX0_foldOperations_87
  · have i8 : 0 ≤ j7_L_2.toInt := kz_nlt c8
    refine lv_aload_n C.1 C.2.1 dX0_foldOperations_11 rfl (lv_at hl 2 rfl) ?_
    refine lv_iload_n C.1 C.2.1 dX0_foldOperations_12 rfl (lv_at hl 0 rfl) ?_
    refine k_pi (k_runV (rest := []) C aks Wd cs_X0_35 (sX8_cell l D h0 j7_L_2 h0_0 j7_F_h0_1 n_h0_0 a_h0_0 j7_C_h0_0 _ (by omega) (by omega) (by omega) (by omega)) [0, 1] rfl (by decide) [0] rfl 0 8 rfl rfl rfl rfl rfl ⟨(Nat.le_of_ble_eq_true rfl), (Nat.le_of_ble_eq_true rfl)⟩ hl.1 rfl rfl (Nat.le_of_ble_eq_true rfl) ⟨(Nat.le_of_ble_eq_true rfl), (Nat.le_of_ble_eq_true rfl)⟩ dX0_foldOperations_13) (fun r13 w13 => ?_)
    refine lv_istore_n (lv' := [(3, .int r13), (2, .int j7_L_2), (0, .ref h), (1, .ref h0)]) C.1 C.2.1 dX0_foldOperations_16 rfl hl (by decide) rfl (fun ls hl => ?_)
    refine lv_aload_n C.1 C.2.1 dX0_foldOperations_17 rfl (lv_at hl 3 rfl) ?_
    refine lv_iload_n C.1 C.2.1 dX0_foldOperations_18 rfl (lv_at hl 1 rfl) ?_
    refine lv_iconst (v := 1) C.1 C.2.1 dX0_foldOperations_19 (by decide) ?_
    obtain ⟨v20, ev20⟩ : ∃ z : Int32, j7_L_2 + 1 = z := ⟨_, rfl⟩
    have iv20 : v20.toInt = j7_L_2.toInt + 1 := kz_addc ev20 (by decide) (by omega) (by omega)
    refine k_iadd (v := v20) C ev20 dX0_foldOperations_20 ?_
    refine k_pi (k_runV (rest := []) C aks Wd cs_X0_35 (sX8_cell l D h0 v20 h0_0 j7_F_h0_1 n_h0_0 a_h0_0 j7_C_h0_0 _ (by omega) (by omega) (by omega) (by omega)) [0, 1] rfl (by decide) [0] rfl 0 8 rfl rfl rfl rfl rfl ⟨(Nat.le_of_ble_eq_true rfl), (Nat.le_of_ble_eq_true rfl)⟩ hl.1 rfl rfl (Nat.le_of_ble_eq_true rfl) ⟨(Nat.le_of_ble_eq_true rfl), (Nat.le_of_ble_eq_true rfl)⟩ dX0_foldOperations_21) (fun r21 w21 => ?_)
    refine lv_istore (lv' := [(4, .int r21), (3, .int r13), (2, .int j7_L_2), (0, .ref h), (1, .ref h0)]) C.1 C.2.1 dX0_foldOperations_24 hl (by decide) rfl (fun ls hl => ?_)
    refine lv_aload_n C.1 C.2.1 dX0_foldOperations_26 rfl (lv_at hl 4 rfl) ?_
    refine lv_iload_n C.1 C.2.1 dX0_foldOperations_27 rfl (lv_at hl 2 rfl) ?_
    refine lv_iconst (v := 2) C.1 C.2.1 dX0_foldOperations_28 (by decide) ?_
    obtain ⟨v29, ev29⟩ : ∃ z : Int32, j7_L_2 + 2 = z := ⟨_, rfl⟩
    have iv29 : v29.toInt = j7_L_2.toInt + 2 := kz_addc ev29 (by decide) (by omega) (by omega)
    refine k_iadd (v := v29) C ev29 dX0_foldOperations_29 ?_
    refine k_pi (k_runV (rest := []) C aks Wd cs_X0_35 (sX8_cell l D h0 v29 h0_0 j7_F_h0_1 n_h0_0 a_h0_0 j7_C_h0_0 _ (by omega) (by omega) (by omega) (by omega)) [0, 1] rfl (by decide) [0] rfl 0 8 rfl rfl rfl rfl rfl ⟨(Nat.le_of_ble_eq_true rfl), (Nat.le_of_ble_eq_true rfl)⟩ hl.1 rfl rfl (Nat.le_of_ble_eq_true rfl) ⟨(Nat.le_of_ble_eq_true rfl), (Nat.le_of_ble_eq_true rfl)⟩ dX0_foldOperations_30) (fun r30 w30 => ?_)
    refine lv_istore (lv' := [(5, .int r30), (4, .int r21), (3, .int r13), (2, .int j7_L_2), (0, .ref h), (1, .ref h0)]) C.1 C.2.1 dX0_foldOperations_33 hl (by decide) rfl (fun ls hl => ?_)
    refine lv_iload_n C.1 C.2.1 dX0_foldOperations_35 rfl (lv_at hl 2 rfl) ?_
    refine k_pi (k_runS (rest := []) C aks Wd cs_X0_54 (sX8_isOperation l D r13 _ ) [] rfl (by decide) [] rfl rfl rfl ⟨(Nat.le_of_ble_eq_true rfl), (Nat.le_of_ble_eq_true rfl)⟩ hl.1 rfl rfl (Nat.le_of_ble_eq_true rfl) ⟨(Nat.le_of_ble_eq_true rfl), (Nat.le_of_ble_eq_true rfl)⟩ dX0_foldOperations_36) (fun r36 w36 => ?_)
    obtain ⟨g36_0, g36_1⟩ := w36
    have g36_0 : 0 ≤ r36.toInt := g36_0
    have g36_1 : r36.toInt ≤ 1 := g36_1
    refine k_cutA (fun (u : (Int32) × (Nat → Int32)) H locs ls => match u with | (j81_F_h0_1, j81_C_h0_0) => 0 ≤ j81_F_h0_1.toInt ∧ j81_F_h0_1.toInt ≤ 1000 ∧ j81_F_h0_1.toInt ≤ (n_h0_0 : Int) ∧ j81_F_h0_1.toInt ≤ h0_1.toInt ∧ j81_F_h0_1.toInt ≤ j7_F_h0_1.toInt ∧ wX D [(a_h0_0, .int)] s [(h0, .inr (8, [.ref h0_0, .int j81_F_h0_1])), (h0_0, .inl (a_h0_0, n_h0_0, .inl j81_C_h0_0))] H A s.heap locs ∧ lv_has ls 6 [(5, .int r30), (4, .int r21), (3, .int r13), (2, .int j7_L_2), (0, .ref h), (1, .ref h0)]) (fun (u : (Int32) × (Nat → Int32)) ls => match u with | (j81_F_h0_1, j81_C_h0_0) => F0 m 81 ls []) (fun u H locs ls hi => ?_) (fun J81 => ?_)
    · obtain ⟨j81_F_h0_1, j81_C_h0_0⟩ := u
      obtain ⟨i81_0, i81_1, i81_2, i81_3, i81_4, Wd, hl⟩ := hi
      obtain ⟨v81, ev81⟩ : ∃ z : Int32, j7_L_2 + (-1) = z := ⟨_, rfl⟩
      have iv81 : v81.toInt = j7_L_2.toInt + (-1) := kz_addc ev81 (by decide) (by omega) (by omega)
      refine lv_iinc (v := v81) (lv' := [(2, .int v81), (5, .int r30), (4, .int r21), (3, .int r13), (0, .ref h), (1, .ref h0)]) C.1 C.2.1 dX0_foldOperations_81 hl (k := 3) rfl ev81 (by decide) rfl (fun ls hl => ?_)
      refine lv_goto (tgt := 7) C.1 C.2.1 dX0_foldOperations_84 (by decide) ?_
      exact ih7 (j81_C_h0_0, j81_F_h0_1, v81) _ _ _ ⟨by omega, by omega, by omega, by omega, by omega, by omega, by omega, by omega, Wd, lv_sub hl [0, 4, 5] rfl⟩ (by omega)
    refine lv_if_eq (tgt := 81) C.1 C.2.1 dX0_foldOperations_39 (by decide) (fun c39 => ?_) (fun c39 => ?_)
    · have i39 : r36.toInt = 0 := kz_eq c39
      exact J81 (j7_F_h0_1, j7_C_h0_0) _ _ _ ⟨by omega, by omega, by omega, by omega, by omega, Wd, lv_sub hl [0, 1, 2, 3, 4, 5] rfl⟩
    · have i39 : ¬ r36.toInt = 0 := kz_ne c39
      refine lv_iload C.1 C.2.1 dX0_foldOperations_42 (lv_at hl 1 rfl) ?_
      refine k_pi (k_runS (rest := []) C aks Wd cs_X0_39 (sX8_isNumber l D r21 _ ) [] rfl (by decide) [] rfl rfl rfl ⟨(Nat.le_of_ble_eq_true rfl), (Nat.le_of_ble_eq_true rfl)⟩ hl.1 rfl rfl (Nat.le_of_ble_eq_true rfl) ⟨(Nat.le_of_ble_eq_true rfl), (Nat.le_of_ble_eq_true rfl)⟩ dX0_foldOperations_44) (fun r44 w44 => ?_)
      obtain ⟨g44_0, g44_1⟩ := w44
      have g44_0 : 0 ≤ r44.toInt := g44_0
      have g44_1 : r44.toInt ≤ 1 := g44_1
      refine lv_if_eq (tgt := 81) C.1 C.2.1 dX0_foldOperations_47 (by decide) (fun c47 => ?_) (fun c47 => ?_)
      · have i47 : r44.toInt = 0 := kz_eq c47
        exact J81 (j7_F_h0_1, j7_C_h0_0) _ _ _ ⟨by omega, by omega, by omega, by omega, by omega, Wd, lv_sub hl [0, 1, 2, 3, 4, 5] rfl⟩
      · have i47 : ¬ r44.toInt = 0 := kz_ne c47
        refine lv_iload C.1 C.2.1 dX0_foldOperations_50 (lv_at hl 0 rfl) ?_
        refine k_pi (k_runS (rest := []) C aks Wd cs_X0_39 (sX8_isNumber l D r30 _ ) [] rfl (by decide) [] rfl rfl rfl ⟨(Nat.le_of_ble_eq_true rfl), (Nat.le_of_ble_eq_true rfl)⟩ hl.1 rfl rfl (Nat.le_of_ble_eq_true rfl) ⟨(Nat.le_of_ble_eq_true rfl), (Nat.le_of_ble_eq_true rfl)⟩ dX0_foldOperations_52) (fun r52 w52 => ?_)
        obtain ⟨g52_0, g52_1⟩ := w52
        have g52_0 : 0 ≤ r52.toInt := g52_0
        have g52_1 : r52.toInt ≤ 1 := g52_1
        refine lv_if_eq (tgt := 81) C.1 C.2.1 dX0_foldOperations_55 (by decide) (fun c55 => ?_) (fun c55 => ?_)
        · have i55 : r52.toInt = 0 := kz_eq c55
          exact J81 (j7_F_h0_1, j7_C_h0_0) _ _ _ ⟨by omega, by omega, by omega, by omega, by omega, Wd, lv_sub hl [0, 1, 2, 3, 4, 5] rfl⟩
        · have i55 : ¬ r52.toInt = 0 := kz_ne c55
          refine lv_aload_n C.1 C.2.1 dX0_foldOperations_58 rfl (lv_at hl 5 rfl) ?_
          refine lv_iload_n C.1 C.2.1 dX0_foldOperations_59 rfl (lv_at hl 3 rfl) ?_
          refine lv_iload_n C.1 C.2.1 dX0_foldOperations_60 rfl (lv_at hl 2 rfl) ?_
          refine lv_iload C.1 C.2.1 dX0_foldOperations_61 (lv_at hl 1 rfl) ?_
          refine lv_iload C.1 C.2.1 dX0_foldOperations_63 (lv_at hl 0 rfl) ?_
          refine k_pi (k_runS (rest := [.int j7_L_2, .ref h0]) C aks Wd cs_X0_57 (sX8_result l D r13 r21 r30 _ ) [] rfl (by decide) [] rfl rfl rfl ⟨(Nat.le_of_ble_eq_true rfl), (Nat.le_of_ble_eq_true rfl)⟩ hl.1 rfl rfl (Nat.le_of_ble_eq_true rfl) ⟨(Nat.le_of_ble_eq_true rfl), (Nat.le_of_ble_eq_true rfl)⟩ dX0_foldOperations_65) (fun r65 w65 => ?_)
          refine k_cv Wd [0, 1] [] rfl (wr := []) rfl (by decide) (by decide) (cells' := 0) (slots' := 0) (by decide) (by decide) (k_runV (rest := []) C aks Wd cs_X0_61 (sX8_change l D h0 j7_L_2 r65 h0_0 j7_F_h0_1 n_h0_0 a_h0_0 j7_C_h0_0 _ (by omega) (by omega) (by omega) (by omega)) [0, 1] rfl (by decide) [0] rfl 0 8 rfl rfl rfl rfl rfl ⟨(Nat.le_of_ble_eq_true rfl), (Nat.le_of_ble_eq_true rfl)⟩ hl.1 rfl rfl (Nat.le_of_ble_eq_true rfl) ⟨(Nat.le_of_ble_eq_true rfl), (Nat.le_of_ble_eq_true rfl)⟩ dX0_foldOperations_68) (fun s68_0 H locs w68 Wd => ?_)
          have Wd : wX D [(a_h0_0, .int)] s [(h0, .inr (8, [.ref h0_0, .int j7_F_h0_1])), (h0_0, .inl (a_h0_0, n_h0_0, .inl s68_0))] _ A s.heap _ := k_sub Wd [0, 1] rfl (by decide) [0] rfl
          refine lv_aload_n C.1 C.2.1 dX0_foldOperations_71 rfl (lv_at hl 5 rfl) ?_
          refine lv_iload_n C.1 C.2.1 dX0_foldOperations_72 rfl (lv_at hl 3 rfl) ?_
          refine lv_iconst (v := 1) C.1 C.2.1 dX0_foldOperations_73 (by decide) ?_
          obtain ⟨v74, ev74⟩ : ∃ z : Int32, j7_L_2 + 1 = z := ⟨_, rfl⟩
          have iv74 : v74.toInt = j7_L_2.toInt + 1 := kz_addc ev74 (by decide) (by omega) (by omega)
          refine k_iadd (v := v74) C ev74 dX0_foldOperations_74 ?_
          refine lv_iload_n C.1 C.2.1 dX0_foldOperations_75 rfl (lv_at hl 3 rfl) ?_
          refine lv_iconst (v := 3) C.1 C.2.1 dX0_foldOperations_76 (by decide) ?_
          obtain ⟨v77, ev77⟩ : ∃ z : Int32, j7_L_2 + 3 = z := ⟨_, rfl⟩
          have iv77 : v77.toInt = j7_L_2.toInt + 3 := kz_addc ev77 (by decide) (by omega) (by omega)
          refine k_iadd (v := v77) C ev77 dX0_foldOperations_77 ?_
          refine k_cv Wd [0, 1] [] rfl (wr := []) rfl (by decide) (by decide) (cells' := 0) (slots' := 0) (by decide) (by decide) (k_runV (rest := []) C aks Wd cs_X0_65 (sX8_remove l D h0 v74 v77 h0_0 j7_F_h0_1 n_h0_0 a_h0_0 s68_0 _ (by omega) (by omega) (by omega) (by omega)) [0, 1] rfl (by decide) [0] rfl 0 8 rfl rfl rfl rfl rfl ⟨(Nat.le_of_ble_eq_true rfl), (Nat.le_of_ble_eq_true rfl)⟩ hl.1 rfl rfl (Nat.le_of_ble_eq_true rfl) ⟨(Nat.le_of_ble_eq_true rfl), (Nat.le_of_ble_eq_true rfl)⟩ dX0_foldOperations_78) (fun u H locs w78 Wd => ?_)
          obtain ⟨s78_0, s78_1⟩ := u
          have Wd : wX D [(a_h0_0, .int)] s [(h0, .inr (8, [.ref h0_0, .int s78_0])), (h0_0, .inl (a_h0_0, n_h0_0, .inl s78_1))] _ A s.heap _ := k_sub Wd [0, 1] rfl (by decide) [0] rfl
          obtain ⟨g78_0, g78_1, g78_2, g78_3⟩ := w78
          have g78_0 : 0 ≤ s78_0.toInt := g78_0
          have g78_1 : s78_0.toInt ≤ 1000 := g78_1
          have g78_2 : s78_0.toInt ≤ (n_h0_0 : Int) := g78_2
          have g78_3 : s78_0.toInt ≤ j7_F_h0_1.toInt := g78_3
          exact J81 (s78_0, s78_1) _ _ _ ⟨by omega, by omega, by omega, by omega, by omega, Wd, lv_sub hl [0, 1, 2, 3, 4, 5] rfl⟩
set_option maxHeartbeats 4000000 in
set_option maxRecDepth 100000 in
theorem sX0_foldBranch (l : Launch) (D : va_G) (h : Nat) (h0 : Nat) (x1 : Int32) (x2 : Int32) (h0_0 : Nat) (h0_1 : Int32) (n_h0_0 : Nat) (a_h0_0 : ClassId) (f_h0_0 : Nat → Int32) (sz : Nat) (k_x2_lo : 0 ≤ x2.toInt) (k_x2_hi : x2.toInt ≤ 1) (k_h0_1_lo : 0 ≤ h0_1.toInt) (k_n_h0_0 : n_h0_0 ≤ 1000) (k_p_h0_0 : 1 ≤ n_h0_0) (k_h0_1_hi : h0_1.toInt ≤ (n_h0_0 : Int)) : Met l yX0_foldBranch (Cond.code yX0_foldBranch cX0_foldBranch 6 none :: gG) { frames := 3, cells := 0, slots := 0, locals := 118 } (cPre D [(a_h0_0, .int)] [(h0, .inr (8, [.ref h0_0, .int h0_1])), (h0_0, .inl (a_h0_0, n_h0_0, .inl f_h0_0))] sz [.ref h, .ref h0, .int x1, .int x2]) (va_Qv (fun (u : (Int32) × (Nat → Int32)) => match u with | (jX_F_h0_1, jX_C_h0_0) => 0 ≤ jX_F_h0_1.toInt ∧ jX_F_h0_1.toInt ≤ 1000 ∧ jX_F_h0_1.toInt ≤ (n_h0_0 : Int) ∧ jX_F_h0_1.toInt ≤ h0_1.toInt) (fun u t => cB D (va_A [(h0, .inr (8, [.ref h0_0, .int h0_1])), (h0_0, .inl (a_h0_0, n_h0_0, .inl f_h0_0))] sz) ((fun (_ : (Int32) × (Nat → Int32)) => ([] : List (ClassId × FieldType))) u) ((fun (u : (Int32) × (Nat → Int32)) => match u with | (jX_F_h0_1, jX_C_h0_0) => ([(h0, .inr (8, [.ref h0_0, .int jX_F_h0_1])), (h0_0, .inl (a_h0_0, n_h0_0, .inl jX_C_h0_0))] : va_W)) u) t) (va_A [(h0, .inr (8, [.ref h0_0, .int h0_1])), (h0_0, .inl (a_h0_0, n_h0_0, .inl f_h0_0))] sz)) 0 0 (va_A [(h0, .inr (8, [.ref h0_0, .int h0_1])), (h0_0, .inl (a_h0_0, n_h0_0, .inl f_h0_0))] sz) := by
  refine Met.ofW (cc := cX0_foldBranch) (maxL := 6) (ret := none) (by decide) rfl ?_
  intro p e s m args below meth c s₁ B hml hv
  obtain ⟨rfl, aks, rfl, Wd⟩ := k_enter hv
  have C : CallFix p m c cX0_foldBranch 6 s _ gG RX0 := ⟨B.exec, B.bytes, hml, findClass_of_methodNamed B.named, fun w h => atoms_spec (ws := Cond.code yX0_foldBranch cX0_foldBranch 6 none :: gG) B.pre w (List.mem_cons_of_mem _ h)⟩
  have hr := B.returns
  have hlk := B.notSynchronized
  generalize va_A [(h0, .inr (8, [.ref h0_0, .int h0_1])), (h0_0, .inl (a_h0_0, n_h0_0, .inl f_h0_0))] s.heap.size = A at Wd ⊢
  refine k_locals (Nat.le_of_ble_eq_true rfl) [(0, .ref h), (1, .ref h0), (2, .int x1), (3, .int x2)] rfl (fun ls hl => ?_)
  refine lv_aload_n C.1 C.2.1 dX0_foldBranch_0 rfl (lv_at hl 1 rfl) ?_
  refine lv_iload_n C.1 C.2.1 dX0_foldBranch_1 rfl (lv_at hl 2 rfl) ?_
  refine k_pi (k_runV (rest := []) C aks Wd cs_X0_68 (sX8_closeOf l D h0 x1 h0_0 h0_1 n_h0_0 a_h0_0 f_h0_0 _ (by omega) (by omega) (by omega) (by omega)) [0, 1] rfl (by decide) [0] rfl 0 8 rfl rfl rfl rfl rfl ⟨(Nat.le_of_ble_eq_true rfl), (Nat.le_of_ble_eq_true rfl)⟩ hl.1 rfl rfl (Nat.le_of_ble_eq_true rfl) ⟨(Nat.le_of_ble_eq_true rfl), (Nat.le_of_ble_eq_true rfl)⟩ dX0_foldBranch_2) (fun r2 w2 => ?_)
  obtain ⟨g2_0, g2_1, g2_2, g2_3⟩ := w2
  have g2_0 : 0 ≤ r2.toInt := g2_0
  have g2_1 : r2.toInt ≤ 1000 := g2_1
  have g2_2 : r2.toInt ≤ (n_h0_0 : Int) := g2_2
  have g2_3 : r2.toInt ≤ h0_1.toInt := g2_3
  refine lv_istore (lv' := [(4, .int r2), (0, .ref h), (1, .ref h0), (2, .int x1), (3, .int x2)]) C.1 C.2.1 dX0_foldBranch_5 hl (by decide) rfl (fun ls hl => ?_)
  refine lv_aload_n C.1 C.2.1 dX0_foldBranch_7 rfl (lv_at hl 2 rfl) ?_
  refine lv_iload_n C.1 C.2.1 dX0_foldBranch_8 rfl (lv_at hl 3 rfl) ?_
  refine k_pi (k_runV (rest := []) C aks Wd cs_X0_35 (sX8_cell l D h0 x1 h0_0 h0_1 n_h0_0 a_h0_0 f_h0_0 _ (by omega) (by omega) (by omega) (by omega)) [0, 1] rfl (by decide) [0] rfl 0 8 rfl rfl rfl rfl rfl ⟨(Nat.le_of_ble_eq_true rfl), (Nat.le_of_ble_eq_true rfl)⟩ hl.1 rfl rfl (Nat.le_of_ble_eq_true rfl) ⟨(Nat.le_of_ble_eq_true rfl), (Nat.le_of_ble_eq_true rfl)⟩ dX0_foldBranch_9) (fun r9 w9 => ?_)
  refine lv_bipush (v := 115) C.1 C.2.1 dX0_foldBranch_12 (by decide) ?_
  refine lv_icmp_ne (tgt := 31) C.1 C.2.1 dX0_foldBranch_14 (by decide) (fun c14 => ?_) (fun c14 => ?_)
  · have i14 : ¬ r9.toInt = 115 := kz_ne c14
    refine lv_aload_n C.1 C.2.1 dX0_foldBranch_31 rfl (lv_at hl 2 rfl) ?_
    refine lv_iload_n C.1 C.2.1 dX0_foldBranch_32 rfl (lv_at hl 3 rfl) ?_
    refine k_pi (k_runV (rest := []) C aks Wd cs_X0_71 (sX8_elseOf l D h0 x1 h0_0 h0_1 n_h0_0 a_h0_0 f_h0_0 _ (by omega) (by omega) (by omega) (by omega)) [0, 1] rfl (by decide) [0] rfl 0 8 rfl rfl rfl rfl rfl ⟨(Nat.le_of_ble_eq_true rfl), (Nat.le_of_ble_eq_true rfl)⟩ hl.1 rfl rfl (Nat.le_of_ble_eq_true rfl) ⟨(Nat.le_of_ble_eq_true rfl), (Nat.le_of_ble_eq_true rfl)⟩ dX0_foldBranch_33) (fun r33 w33 => ?_)
    obtain ⟨g33_0, g33_1, g33_2, g33_3⟩ := w33
    have g33_0 : 0 ≤ r33.toInt := g33_0
    have g33_1 : r33.toInt ≤ 1000 := g33_1
    have g33_2 : r33.toInt ≤ (n_h0_0 : Int) := g33_2
    have g33_3 : r33.toInt ≤ h0_1.toInt := g33_3
    refine lv_istore (lv' := [(5, .int r33), (4, .int r2), (0, .ref h), (1, .ref h0), (2, .int x1), (3, .int x2)]) C.1 C.2.1 dX0_foldBranch_36 hl (by decide) rfl (fun ls hl => ?_)
    refine lv_iload_n C.1 C.2.1 dX0_foldBranch_38 rfl (lv_at hl 5 rfl) ?_
    refine k_cutA (fun (u : (Int32) × (Nat → Int32)) H locs ls => match u with | (j82_F_h0_1, j82_C_h0_0) => 0 ≤ j82_F_h0_1.toInt ∧ j82_F_h0_1.toInt ≤ 1000 ∧ j82_F_h0_1.toInt ≤ (n_h0_0 : Int) ∧ j82_F_h0_1.toInt ≤ h0_1.toInt ∧ wX D [(a_h0_0, .int)] s [(h0, .inr (8, [.ref h0_0, .int j82_F_h0_1])), (h0_0, .inl (a_h0_0, n_h0_0, .inl j82_C_h0_0))] H A s.heap locs ∧ lv_has ls 6 [(5, .int r33), (4, .int r2), (0, .ref h), (1, .ref h0), (2, .int x1), (3, .int x2)]) (fun (u : (Int32) × (Nat → Int32)) ls => match u with | (j82_F_h0_1, j82_C_h0_0) => F0 m 82 ls []) (fun u H locs ls hi => ?_) (fun J82 => ?_)
    · obtain ⟨j82_F_h0_1, j82_C_h0_0⟩ := u
      obtain ⟨i82_0, i82_1, i82_2, i82_3, Wd, hl⟩ := hi
      exact k_vret C hr hlk Wd (j82_F_h0_1, j82_C_h0_0) (by exact ⟨by omega, by omega, by omega, by omega⟩) [0, 1] rfl (by decide) [] rfl (by decide) (by decide) dX0_foldBranch_82
    refine lv_if_eq (tgt := 63) C.1 C.2.1 dX0_foldBranch_39 (by decide) (fun c39 => ?_) (fun c39 => ?_)
    · have i39 : x2.toInt = 0 := kz_eq c39
      refine lv_aload_n C.1 C.2.1 dX0_foldBranch_63 rfl (lv_at hl 3 rfl) ?_
      refine lv_iload C.1 C.2.1 dX0_foldBranch_64 (lv_at hl 1 rfl) ?_
      refine lv_iload C.1 C.2.1 dX0_foldBranch_66 (lv_at hl 1 rfl) ?_
      refine lv_iconst (v := 1) C.1 C.2.1 dX0_foldBranch_68 (by decide) ?_
      obtain ⟨v69, ev69⟩ : ∃ z : Int32, r2 + 1 = z := ⟨_, rfl⟩
      have iv69 : v69.toInt = r2.toInt + 1 := kz_addc ev69 (by decide) (by omega) (by omega)
      refine k_iadd (v := v69) C ev69 dX0_foldBranch_69 ?_
      refine k_cv Wd [0, 1] [] rfl (wr := []) rfl (by decide) (by decide) (cells' := 0) (slots' := 0) (by decide) (by decide) (k_runV (rest := []) C aks Wd cs_X0_65 (sX8_remove l D h0 r2 v69 h0_0 h0_1 n_h0_0 a_h0_0 f_h0_0 _ (by omega) (by omega) (by omega) (by omega)) [0, 1] rfl (by decide) [0] rfl 0 8 rfl rfl rfl rfl rfl ⟨(Nat.le_of_ble_eq_true rfl), (Nat.le_of_ble_eq_true rfl)⟩ hl.1 rfl rfl (Nat.le_of_ble_eq_true rfl) ⟨(Nat.le_of_ble_eq_true rfl), (Nat.le_of_ble_eq_true rfl)⟩ dX0_foldBranch_70) (fun u H locs w70 Wd => ?_)
      obtain ⟨s70_0, s70_1⟩ := u
      have Wd : wX D [(a_h0_0, .int)] s [(h0, .inr (8, [.ref h0_0, .int s70_0])), (h0_0, .inl (a_h0_0, n_h0_0, .inl s70_1))] _ A s.heap _ := k_sub Wd [0, 1] rfl (by decide) [0] rfl
      obtain ⟨g70_0, g70_1, g70_2, g70_3⟩ := w70
      have g70_0 : 0 ≤ s70_0.toInt := g70_0
      have g70_1 : s70_0.toInt ≤ 1000 := g70_1
      have g70_2 : s70_0.toInt ≤ (n_h0_0 : Int) := g70_2
      have g70_3 : s70_0.toInt ≤ h0_1.toInt := g70_3
      refine lv_aload_n C.1 C.2.1 dX0_foldBranch_73 rfl (lv_at hl 3 rfl) ?_
      refine lv_iload_n C.1 C.2.1 dX0_foldBranch_74 rfl (lv_at hl 4 rfl) ?_
      refine lv_iload C.1 C.2.1 dX0_foldBranch_75 (lv_at hl 0 rfl) ?_
      refine lv_iconst (v := 1) C.1 C.2.1 dX0_foldBranch_77 (by decide) ?_
      obtain ⟨v78, ev78⟩ : ∃ z : Int32, r33 + 1 = z := ⟨_, rfl⟩
      have iv78 : v78.toInt = r33.toInt + 1 := kz_addc ev78 (by decide) (by omega) (by omega)
      refine k_iadd (v := v78) C ev78 dX0_foldBranch_78 ?_
      refine k_cv Wd [0, 1] [] rfl (wr := []) rfl (by decide) (by decide) (cells' := 0) (slots' := 0) (by decide) (by decide) (k_runV (rest := []) C aks Wd cs_X0_65 (sX8_remove l D h0 x1 v78 h0_0 s70_0 n_h0_0 a_h0_0 s70_1 _ (by omega) (by omega) (by omega) (by omega)) [0, 1] rfl (by decide) [0] rfl 0 8 rfl rfl rfl rfl rfl ⟨(Nat.le_of_ble_eq_true rfl), (Nat.le_of_ble_eq_true rfl)⟩ hl.1 rfl rfl (Nat.le_of_ble_eq_true rfl) ⟨(Nat.le_of_ble_eq_true rfl), (Nat.le_of_ble_eq_true rfl)⟩ dX0_foldBranch_79) (fun u H locs w79 Wd => ?_)
      obtain ⟨s79_0, s79_1⟩ := u
      have Wd : wX D [(a_h0_0, .int)] s [(h0, .inr (8, [.ref h0_0, .int s79_0])), (h0_0, .inl (a_h0_0, n_h0_0, .inl s79_1))] _ A s.heap _ := k_sub Wd [0, 1] rfl (by decide) [0] rfl
      obtain ⟨g79_0, g79_1, g79_2, g79_3⟩ := w79
      have g79_0 : 0 ≤ s79_0.toInt := g79_0
      have g79_1 : s79_0.toInt ≤ 1000 := g79_1
      have g79_2 : s79_0.toInt ≤ (n_h0_0 : Int) := g79_2
      have g79_3 : s79_0.toInt ≤ s70_0.toInt := g79_3
      exact J82 (s79_0, s79_1) _ _ _ ⟨by omega, by omega, by omega, by omega, Wd, lv_sub hl [0, 1, 2, 3, 4, 5] rfl⟩
    · have i39 : ¬ x2.toInt = 0 := kz_ne c39
      refine lv_aload_n C.1 C.2.1 dX0_foldBranch_42 rfl (lv_at hl 3 rfl) ?_
      refine lv_iload C.1 C.2.1 dX0_foldBranch_43 (lv_at hl 0 rfl) ?_
      refine lv_iload C.1 C.2.1 dX0_foldBranch_45 (lv_at hl 1 rfl) ?_
      refine lv_iconst (v := 1) C.1 C.2.1 dX0_foldBranch_47 (by decide) ?_
      obtain ⟨v48, ev48⟩ : ∃ z : Int32, r2 + 1 = z := ⟨_, rfl⟩
      have iv48 : v48.toInt = r2.toInt + 1 := kz_addc ev48 (by decide) (by omega) (by omega)
      refine k_iadd (v := v48) C ev48 dX0_foldBranch_48 ?_
      refine k_cv Wd [0, 1] [] rfl (wr := []) rfl (by decide) (by decide) (cells' := 0) (slots' := 0) (by decide) (by decide) (k_runV (rest := []) C aks Wd cs_X0_65 (sX8_remove l D h0 r33 v48 h0_0 h0_1 n_h0_0 a_h0_0 f_h0_0 _ (by omega) (by omega) (by omega) (by omega)) [0, 1] rfl (by decide) [0] rfl 0 8 rfl rfl rfl rfl rfl ⟨(Nat.le_of_ble_eq_true rfl), (Nat.le_of_ble_eq_true rfl)⟩ hl.1 rfl rfl (Nat.le_of_ble_eq_true rfl) ⟨(Nat.le_of_ble_eq_true rfl), (Nat.le_of_ble_eq_true rfl)⟩ dX0_foldBranch_49) (fun u H locs w49 Wd => ?_)
      obtain ⟨s49_0, s49_1⟩ := u
      have Wd : wX D [(a_h0_0, .int)] s [(h0, .inr (8, [.ref h0_0, .int s49_0])), (h0_0, .inl (a_h0_0, n_h0_0, .inl s49_1))] _ A s.heap _ := k_sub Wd [0, 1] rfl (by decide) [0] rfl
      obtain ⟨g49_0, g49_1, g49_2, g49_3⟩ := w49
      have g49_0 : 0 ≤ s49_0.toInt := g49_0
      have g49_1 : s49_0.toInt ≤ 1000 := g49_1
      have g49_2 : s49_0.toInt ≤ (n_h0_0 : Int) := g49_2
      have g49_3 : s49_0.toInt ≤ h0_1.toInt := g49_3
      refine lv_aload_n C.1 C.2.1 dX0_foldBranch_52 rfl (lv_at hl 3 rfl) ?_
      refine lv_iload_n C.1 C.2.1 dX0_foldBranch_53 rfl (lv_at hl 4 rfl) ?_
      refine lv_iload_n C.1 C.2.1 dX0_foldBranch_54 rfl (lv_at hl 4 rfl) ?_
      refine lv_iconst (v := 4) C.1 C.2.1 dX0_foldBranch_55 (by decide) ?_
      obtain ⟨v56, ev56⟩ : ∃ z : Int32, x1 + 4 = z := ⟨_, rfl⟩
      refine k_iadd (v := v56) C ev56 dX0_foldBranch_56 ?_
      refine k_cv Wd [0, 1] [] rfl (wr := []) rfl (by decide) (by decide) (cells' := 0) (slots' := 0) (by decide) (by decide) (k_runV (rest := []) C aks Wd cs_X0_65 (sX8_remove l D h0 x1 v56 h0_0 s49_0 n_h0_0 a_h0_0 s49_1 _ (by omega) (by omega) (by omega) (by omega)) [0, 1] rfl (by decide) [0] rfl 0 8 rfl rfl rfl rfl rfl ⟨(Nat.le_of_ble_eq_true rfl), (Nat.le_of_ble_eq_true rfl)⟩ hl.1 rfl rfl (Nat.le_of_ble_eq_true rfl) ⟨(Nat.le_of_ble_eq_true rfl), (Nat.le_of_ble_eq_true rfl)⟩ dX0_foldBranch_57) (fun u H locs w57 Wd => ?_)
      obtain ⟨s57_0, s57_1⟩ := u
      have Wd : wX D [(a_h0_0, .int)] s [(h0, .inr (8, [.ref h0_0, .int s57_0])), (h0_0, .inl (a_h0_0, n_h0_0, .inl s57_1))] _ A s.heap _ := k_sub Wd [0, 1] rfl (by decide) [0] rfl
      obtain ⟨g57_0, g57_1, g57_2, g57_3⟩ := w57
      have g57_0 : 0 ≤ s57_0.toInt := g57_0
      have g57_1 : s57_0.toInt ≤ 1000 := g57_1
      have g57_2 : s57_0.toInt ≤ (n_h0_0 : Int) := g57_2
      have g57_3 : s57_0.toInt ≤ s49_0.toInt := g57_3
      refine lv_goto (tgt := 82) C.1 C.2.1 dX0_foldBranch_60 (by decide) ?_
      exact J82 (s57_0, s57_1) _ _ _ ⟨by omega, by omega, by omega, by omega, Wd, lv_sub hl [0, 1, 2, 3, 4, 5] rfl⟩
  · have i14 : r9.toInt = 115 := kz_eq c14
    refine lv_iload_n C.1 C.2.1 dX0_foldBranch_17 rfl (lv_at hl 4 rfl) ?_
    refine k_cutA (fun (u : (Int32) × (Nat → Int32)) H locs ls => match u with | (j30_F_h0_1, j30_C_h0_0) => 0 ≤ j30_F_h0_1.toInt ∧ j30_F_h0_1.toInt ≤ 1000 ∧ j30_F_h0_1.toInt ≤ (n_h0_0 : Int) ∧ j30_F_h0_1.toInt ≤ h0_1.toInt ∧ wX D [(a_h0_0, .int)] s [(h0, .inr (8, [.ref h0_0, .int j30_F_h0_1])), (h0_0, .inl (a_h0_0, n_h0_0, .inl j30_C_h0_0))] H A s.heap locs ∧ lv_has ls 6 [(4, .int r2), (0, .ref h), (1, .ref h0), (2, .int x1), (3, .int x2)]) (fun (u : (Int32) × (Nat → Int32)) ls => match u with | (j30_F_h0_1, j30_C_h0_0) => F0 m 30 ls []) (fun u H locs ls hi => ?_) (fun J30 => ?_)
    · obtain ⟨j30_F_h0_1, j30_C_h0_0⟩ := u
      obtain ⟨i30_0, i30_1, i30_2, i30_3, Wd, hl⟩ := hi
      exact k_vret C hr hlk Wd (j30_F_h0_1, j30_C_h0_0) (by exact ⟨by omega, by omega, by omega, by omega⟩) [0, 1] rfl (by decide) [] rfl (by decide) (by decide) dX0_foldBranch_30
    refine lv_if_ne (tgt := 30) C.1 C.2.1 dX0_foldBranch_18 (by decide) (fun c18 => ?_) (fun c18 => ?_)
    · have i18 : ¬ x2.toInt = 0 := kz_ne c18
      exact J30 (h0_1, f_h0_0) _ _ _ ⟨by omega, by omega, by omega, by omega, Wd, lv_sub hl [0, 1, 2, 3, 4] rfl⟩
    · have i18 : x2.toInt = 0 := kz_eq c18
      refine lv_aload_n C.1 C.2.1 dX0_foldBranch_21 rfl (lv_at hl 2 rfl) ?_
      refine lv_iload_n C.1 C.2.1 dX0_foldBranch_22 rfl (lv_at hl 3 rfl) ?_
      refine lv_iload C.1 C.2.1 dX0_foldBranch_23 (lv_at hl 0 rfl) ?_
      refine lv_iconst (v := 1) C.1 C.2.1 dX0_foldBranch_25 (by decide) ?_
      obtain ⟨v26, ev26⟩ : ∃ z : Int32, r2 + 1 = z := ⟨_, rfl⟩
      have iv26 : v26.toInt = r2.toInt + 1 := kz_addc ev26 (by decide) (by omega) (by omega)
      refine k_iadd (v := v26) C ev26 dX0_foldBranch_26 ?_
      refine k_cv Wd [0, 1] [] rfl (wr := []) rfl (by decide) (by decide) (cells' := 0) (slots' := 0) (by decide) (by decide) (k_runV (rest := []) C aks Wd cs_X0_65 (sX8_remove l D h0 x1 v26 h0_0 h0_1 n_h0_0 a_h0_0 f_h0_0 _ (by omega) (by omega) (by omega) (by omega)) [0, 1] rfl (by decide) [0] rfl 0 8 rfl rfl rfl rfl rfl ⟨(Nat.le_of_ble_eq_true rfl), (Nat.le_of_ble_eq_true rfl)⟩ hl.1 rfl rfl (Nat.le_of_ble_eq_true rfl) ⟨(Nat.le_of_ble_eq_true rfl), (Nat.le_of_ble_eq_true rfl)⟩ dX0_foldBranch_27) (fun u H locs w27 Wd => ?_)
      obtain ⟨s27_0, s27_1⟩ := u
      have Wd : wX D [(a_h0_0, .int)] s [(h0, .inr (8, [.ref h0_0, .int s27_0])), (h0_0, .inl (a_h0_0, n_h0_0, .inl s27_1))] _ A s.heap _ := k_sub Wd [0, 1] rfl (by decide) [0] rfl
      obtain ⟨g27_0, g27_1, g27_2, g27_3⟩ := w27
      have g27_0 : 0 ≤ s27_0.toInt := g27_0
      have g27_1 : s27_0.toInt ≤ 1000 := g27_1
      have g27_2 : s27_0.toInt ≤ (n_h0_0 : Int) := g27_2
      have g27_3 : s27_0.toInt ≤ h0_1.toInt := g27_3
      exact J30 (s27_0, s27_1) _ _ _ ⟨by omega, by omega, by omega, by omega, Wd, lv_sub hl [0, 1, 2, 3, 4] rfl⟩
