set_option maxHeartbeats 4000000 in
set_option maxRecDepth 100000 in
theorem kcX12_blame (l : Launch) (D : va_G) (h0 h1 h2 h3 h4 h5 h6 h7 h8 h9 h10 h11 h12 h13 h14 h15 h16 h17 h18 h19 h20 h21 h22 h23 h24 h25 : Nat) (x0 x1 : Int32) (a1 a20 : ClassId) (sz : Nat)  : Met l yX12_blame (Cond.code yX12_blame cX12_blame 4 (some .int) :: gG) { frames := 3, cells := 0, slots := 0, locals := 106 } (cPre D [(a1, .int), (a20, .int)] [(h0, .inr (12, [.ref h1, .ref h2, .ref h3, .ref h4, .int 0, .int 0, .ref h5, .int 0, .int 0, .int 0, .int 0, .int 0, .int 0, .int 0, .int 0, .int 0, .int 0, .int 0, .int 0, .int 0, .int (-1), .int 0, .int 0, .int 0, .ref h6, .ref h7, .ref h8, .ref h9, .ref h10, .ref h11, .int 0, .int 0, .int 0, .int 0, .ref h12, .ref h13, .ref h14, .int 0, .int 0, .int 0, .int 0, .ref h15, .ref h16, .int 0, .ref h17, .ref h18, .int 0, .ref h19, .int 0, .ref h20, .ref h21, .ref h22, .int 0, .ref h23, .ref h24, .ref h25])), (h2, .inl (a1, 6, .inl (fun _ => 0))), (h21, .inl (a20, 6, .inl (fun _ => 0)))] sz [.ref h0, .int x0, .int x1]) (va_Qi (fun (r : Int32) (_ : Unit) => (x0 < (0 : Int32) ∧ r = (-1)) ∨ (¬ x0 < (0 : Int32) ∧ (5 : Int32) < x0 ∧ r = (-1)) ∨ (¬ x0 < (0 : Int32) ∧ ¬ (5 : Int32) < x0 ∧ x1 < (0 : Int32) ∧ r = (-1)) ∨ (¬ x0 < (0 : Int32) ∧ ¬ (5 : Int32) < x0 ∧ ¬ x1 < (0 : Int32) ∧ (1 : Int32) < x1 ∧ r = (-1)) ∨ (¬ x0 < (0 : Int32) ∧ ¬ (5 : Int32) < x0 ∧ ¬ x1 < (0 : Int32) ∧ ¬ (1 : Int32) < x1 ∧ r = (-1))) (fun u t => cB D (va_A [(h0, .inr (12, [.ref h1, .ref h2, .ref h3, .ref h4, .int 0, .int 0, .ref h5, .int 0, .int 0, .int 0, .int 0, .int 0, .int 0, .int 0, .int 0, .int 0, .int 0, .int 0, .int 0, .int 0, .int (-1), .int 0, .int 0, .int 0, .ref h6, .ref h7, .ref h8, .ref h9, .ref h10, .ref h11, .int 0, .int 0, .int 0, .int 0, .ref h12, .ref h13, .ref h14, .int 0, .int 0, .int 0, .int 0, .ref h15, .ref h16, .int 0, .ref h17, .ref h18, .int 0, .ref h19, .int 0, .ref h20, .ref h21, .ref h22, .int 0, .ref h23, .ref h24, .ref h25])), (h2, .inl (a1, 6, .inl (fun _ => 0))), (h21, .inl (a20, 6, .inl (fun _ => 0)))] sz) ((fun (_ : Unit) => ([] : List (ClassId × FieldType))) u) ((fun (_ : Unit) => ([] : va_W)) u) t) (va_A [(h0, .inr (12, [.ref h1, .ref h2, .ref h3, .ref h4, .int 0, .int 0, .ref h5, .int 0, .int 0, .int 0, .int 0, .int 0, .int 0, .int 0, .int 0, .int 0, .int 0, .int 0, .int 0, .int 0, .int (-1), .int 0, .int 0, .int 0, .ref h6, .ref h7, .ref h8, .ref h9, .ref h10, .ref h11, .int 0, .int 0, .int 0, .int 0, .ref h12, .ref h13, .ref h14, .int 0, .int 0, .int 0, .int 0, .ref h15, .ref h16, .int 0, .ref h17, .ref h18, .int 0, .ref h19, .int 0, .ref h20, .ref h21, .ref h22, .int 0, .ref h23, .ref h24, .ref h25])), (h2, .inl (a1, 6, .inl (fun _ => 0))), (h21, .inl (a20, 6, .inl (fun _ => 0)))] sz)) 0 0 (va_A [(h0, .inr (12, [.ref h1, .ref h2, .ref h3, .ref h4, .int 0, .int 0, .ref h5, .int 0, .int 0, .int 0, .int 0, .int 0, .int 0, .int 0, .int 0, .int 0, .int 0, .int 0, .int 0, .int 0, .int (-1), .int 0, .int 0, .int 0, .ref h6, .ref h7, .ref h8, .ref h9, .ref h10, .ref h11, .int 0, .int 0, .int 0, .int 0, .ref h12, .ref h13, .ref h14, .int 0, .int 0, .int 0, .int 0, .ref h15, .ref h16, .int 0, .ref h17, .ref h18, .int 0, .ref h19, .int 0, .ref h20, .ref h21, .ref h22, .int 0, .ref h23, .ref h24, .ref h25])), (h2, .inl (a1, 6, .inl (fun _ => 0))), (h21, .inl (a20, 6, .inl (fun _ => 0)))] sz) := by
  refine Met.ofW (cc := cX12_blame) (maxL := 4) (ret := (some .int)) (by decide) rfl ?_
  intro p e s m args below meth c s₁ B hml hv
  obtain ⟨rfl, aks, rfl, Wd⟩ := k_enter hv
  have C : CallFix p m c cX12_blame 4 s _ gG RX12 := ⟨B.exec, B.bytes, hml, findClass_of_methodNamed B.named, fun w h => atoms_spec (ws := Cond.code yX12_blame cX12_blame 4 (some .int) :: gG) B.pre w (List.mem_cons_of_mem _ h)⟩
  have hr := B.returns
  have hlk := B.notSynchronized
  generalize va_A [(h0, .inr (12, [.ref h1, .ref h2, .ref h3, .ref h4, .int 0, .int 0, .ref h5, .int 0, .int 0, .int 0, .int 0, .int 0, .int 0, .int 0, .int 0, .int 0, .int 0, .int 0, .int 0, .int 0, .int (-1), .int 0, .int 0, .int 0, .ref h6, .ref h7, .ref h8, .ref h9, .ref h10, .ref h11, .int 0, .int 0, .int 0, .int 0, .ref h12, .ref h13, .ref h14, .int 0, .int 0, .int 0, .int 0, .ref h15, .ref h16, .int 0, .ref h17, .ref h18, .int 0, .ref h19, .int 0, .ref h20, .ref h21, .ref h22, .int 0, .ref h23, .ref h24, .ref h25])), (h2, .inl (a1, 6, .inl (fun _ => 0))), (h21, .inl (a20, 6, .inl (fun _ => 0)))] s.heap.size = A at Wd ⊢
  refine k_locals (Nat.le_of_ble_eq_true rfl) [(0, .ref h0), (1, .int x0), (2, .int x1)] rfl (fun ls hl => ?_)
  refine lv_iload_n C.1 C.2.1 dX12_blame_0 rfl (lv_at hl 1 rfl) ?_
  refine k_pi (k_runS (rest := []) C aks Wd cs_X12_249 (kcX12_isSlot l D x0 _ ) [] rfl (by decide) [] rfl rfl rfl ⟨(Nat.le_of_ble_eq_true rfl), (Nat.le_of_ble_eq_true rfl)⟩ hl.1 rfl rfl (Nat.le_of_ble_eq_true rfl) ⟨(Nat.le_of_ble_eq_true rfl), (Nat.le_of_ble_eq_true rfl)⟩ dX12_blame_1) (fun r w5013 => ?_)
  rcases w5013 with ⟨c5014, rfl⟩ | ⟨c5015, c5016, rfl⟩ | ⟨c5017, c5018, rfl⟩
  · refine lv_if_eq (tgt := 16) C.1 C.2.1 dX12_blame_4 (by decide) (fun _ => ?_) (fun c5019 => absurd c5019 (by decide))
    refine lv_iconst (v := (-1)) C.1 C.2.1 dX12_blame_16 (by decide) ?_
    exact k_zret C hr hlk rfl Wd () (Or.inl (⟨c5014, rfl⟩)) [] rfl (by decide) [] rfl (by decide) (by decide) dX12_blame_17
  · refine lv_if_eq (tgt := 16) C.1 C.2.1 dX12_blame_4 (by decide) (fun _ => ?_) (fun c5020 => absurd c5020 (by decide))
    refine lv_iconst (v := (-1)) C.1 C.2.1 dX12_blame_16 (by decide) ?_
    exact k_zret C hr hlk rfl Wd () (Or.inr (Or.inl (⟨c5015, c5016, rfl⟩))) [] rfl (by decide) [] rfl (by decide) (by decide) dX12_blame_17
  · refine lv_if_eq (tgt := 16) C.1 C.2.1 dX12_blame_4 (by decide) (fun c5021 => absurd c5021 (by decide)) (fun _ => ?_)
    refine lv_iload_n C.1 C.2.1 dX12_blame_7 rfl (lv_at hl 2 rfl) ?_
    refine lv_iconst (v := 0) C.1 C.2.1 dX12_blame_8 (by decide) ?_
    refine lv_iconst (v := 1) C.1 C.2.1 dX12_blame_9 (by decide) ?_
    refine k_pi (k_runS (rest := []) C aks Wd cs_X12_90 (kcX12_isIn l D x1 0 1 _ ) [] rfl (by decide) [] rfl rfl rfl ⟨(Nat.le_of_ble_eq_true rfl), (Nat.le_of_ble_eq_true rfl)⟩ hl.1 rfl rfl (Nat.le_of_ble_eq_true rfl) ⟨(Nat.le_of_ble_eq_true rfl), (Nat.le_of_ble_eq_true rfl)⟩ dX12_blame_10) (fun r w5022 => ?_)
    rcases w5022 with ⟨c5023, rfl⟩ | ⟨c5024, c5025, rfl⟩ | ⟨c5026, c5027, rfl⟩
    · refine lv_if_ne (tgt := 18) C.1 C.2.1 dX12_blame_13 (by decide) (fun c5028 => absurd c5028 (by decide)) (fun _ => ?_)
      refine lv_iconst (v := (-1)) C.1 C.2.1 dX12_blame_16 (by decide) ?_
      exact k_zret C hr hlk rfl Wd () (Or.inr (Or.inr (Or.inl (⟨c5017, c5018, c5023, rfl⟩)))) [] rfl (by decide) [] rfl (by decide) (by decide) dX12_blame_17
    · refine lv_if_ne (tgt := 18) C.1 C.2.1 dX12_blame_13 (by decide) (fun c5029 => absurd c5029 (by decide)) (fun _ => ?_)
      refine lv_iconst (v := (-1)) C.1 C.2.1 dX12_blame_16 (by decide) ?_
      exact k_zret C hr hlk rfl Wd () (Or.inr (Or.inr (Or.inr (Or.inl (⟨c5017, c5018, c5024, c5025, rfl⟩))))) [] rfl (by decide) [] rfl (by decide) (by decide) dX12_blame_17
    · refine lv_if_ne (tgt := 18) C.1 C.2.1 dX12_blame_13 (by decide) (fun _ => ?_) (fun c5030 => absurd c5030 (by decide))
      refine lv_aload_n C.1 C.2.1 dX12_blame_18 rfl (lv_at hl 0 rfl) ?_
      refine lv_iload_n C.1 C.2.1 dX12_blame_19 rfl (lv_at hl 1 rfl) ?_
      refine k_cv Wd [0, 1] [2] rfl (wr := [(h21, .inl (a20, 6, .inl (fun _ => 0)))]) rfl (by decide) (by decide) (cells' := 0) (slots' := 0) (by decide) (by decide) (k_runV (rest := []) C aks Wd cs_X12_271 (kcX12_takes l D h0 h1 h2 h3 h4 h5 h6 h7 h8 h9 h10 h11 h12 h13 h14 h15 h16 h17 h18 h19 h20 h21 h22 h23 h24 h25 x0 a1 _ c5017 c5018) [0, 1] rfl (by decide) [0] rfl 0 12 rfl rfl rfl rfl rfl ⟨(Nat.le_of_ble_eq_true rfl), (Nat.le_of_ble_eq_true rfl)⟩ hl.1 rfl rfl (Nat.le_of_ble_eq_true rfl) ⟨(Nat.le_of_ble_eq_true rfl), (Nat.le_of_ble_eq_true rfl)⟩ dX12_blame_20) (fun _ H locs w5031 Wd => ?_)
      have Wd : wX D [(a1, .int), (a20, .int)] s [(h21, .inl (a20, 6, .inl (fun _ => 0))), (h0, .inr (12, [.ref h1, .ref h2, .ref h3, .ref h4, .int 0, .int 0, .ref h5, .int 0, .int 0, .int 0, .int 0, .int 0, .int 0, .int 0, .int 0, .int 0, .int 0, .int 0, .int 0, .int 0, .int (-1), .int 0, .int 0, .int 0, .ref h6, .ref h7, .ref h8, .ref h9, .ref h10, .ref h11, .int 0, .int 0, .int 0, .int 0, .ref h12, .ref h13, .ref h14, .int 0, .int 0, .int 0, .int 0, .ref h15, .ref h16, .int 0, .ref h17, .ref h18, .int 0, .ref h19, .int 0, .ref h20, .ref h21, .ref h22, .int 0, .ref h23, .ref h24, .ref h25])), (h2, .inl (a1, 6, .inl (fun _ => 0)))] _ A s.heap _ := Wd
      refine lv_iconst (v := 0) C.1 C.2.1 dX12_blame_23 (by decide) ?_
      refine lv_istore_n (lv' := [(3, .int 0), (0, .ref h0), (1, .int x0), (2, .int x1)]) C.1 C.2.1 dX12_blame_24 rfl hl (by decide) rfl (fun ls hl => ?_)
      refine lv_iload_n C.1 C.2.1 dX12_blame_25 rfl (lv_at hl 0 rfl) ?_
      refine lv_bipush (v := 6) C.1 C.2.1 dX12_blame_26 (by decide) ?_
      refine lv_icmp_ge (tgt := 96) C.1 C.2.1 dX12_blame_28 (by decide) (fun c5032 => absurd c5032 (by decide)) (fun _ => ?_)
      refine lv_aload_n C.1 C.2.1 dX12_blame_31 rfl (lv_at hl 1 rfl) ?_
      refine k_get C Wd KX12 1 50 rfl (by decide) fl_X12_75 rfl dX12_blame_32 ?_
      refine lv_iload_n C.1 C.2.1 dX12_blame_35 rfl (lv_at hl 0 rfl) ?_
      refine k_iald (v := 0) C Wd 0 1 rfl rfl (vp_in_iff.mpr (by decide)) rfl dX12_blame_36 ?_
      refine lv_if_ne (tgt := 43) C.1 C.2.1 dX12_blame_37 (by decide) (fun c5033 => absurd c5033 (by decide)) (fun _ => ?_)
      refine lv_goto (tgt := 90) C.1 C.2.1 dX12_blame_40 (by decide) ?_
      refine lv_iinc (v := 1) (lv' := [(3, .int 1), (0, .ref h0), (1, .int x0), (2, .int x1)]) C.1 C.2.1 dX12_blame_90 hl (k := 0) rfl (by decide) (by decide) rfl (fun ls hl => ?_)
      refine lv_goto (tgt := 25) C.1 C.2.1 dX12_blame_93 (by decide) ?_
      refine lv_iload_n C.1 C.2.1 dX12_blame_25 rfl (lv_at hl 0 rfl) ?_
      refine lv_bipush (v := 6) C.1 C.2.1 dX12_blame_26 (by decide) ?_
      refine lv_icmp_ge (tgt := 96) C.1 C.2.1 dX12_blame_28 (by decide) (fun c5034 => absurd c5034 (by decide)) (fun _ => ?_)
      refine lv_aload_n C.1 C.2.1 dX12_blame_31 rfl (lv_at hl 1 rfl) ?_
      refine k_get C Wd KX12 1 50 rfl (by decide) fl_X12_75 rfl dX12_blame_32 ?_
      refine lv_iload_n C.1 C.2.1 dX12_blame_35 rfl (lv_at hl 0 rfl) ?_
      refine k_iald (v := 0) C Wd 0 1 rfl rfl (vp_in_iff.mpr (by decide)) rfl dX12_blame_36 ?_
      refine lv_if_ne (tgt := 43) C.1 C.2.1 dX12_blame_37 (by decide) (fun c5035 => absurd c5035 (by decide)) (fun _ => ?_)
      refine lv_goto (tgt := 90) C.1 C.2.1 dX12_blame_40 (by decide) ?_
      refine lv_iinc (v := 2) (lv' := [(3, .int 2), (0, .ref h0), (1, .int x0), (2, .int x1)]) C.1 C.2.1 dX12_blame_90 hl (k := 0) rfl (by decide) (by decide) rfl (fun ls hl => ?_)
      refine lv_goto (tgt := 25) C.1 C.2.1 dX12_blame_93 (by decide) ?_
      refine lv_iload_n C.1 C.2.1 dX12_blame_25 rfl (lv_at hl 0 rfl) ?_
      refine lv_bipush (v := 6) C.1 C.2.1 dX12_blame_26 (by decide) ?_
      refine lv_icmp_ge (tgt := 96) C.1 C.2.1 dX12_blame_28 (by decide) (fun c5036 => absurd c5036 (by decide)) (fun _ => ?_)
      refine lv_aload_n C.1 C.2.1 dX12_blame_31 rfl (lv_at hl 1 rfl) ?_
      refine k_get C Wd KX12 1 50 rfl (by decide) fl_X12_75 rfl dX12_blame_32 ?_
      refine lv_iload_n C.1 C.2.1 dX12_blame_35 rfl (lv_at hl 0 rfl) ?_
      refine k_iald (v := 0) C Wd 0 1 rfl rfl (vp_in_iff.mpr (by decide)) rfl dX12_blame_36 ?_
      refine lv_if_ne (tgt := 43) C.1 C.2.1 dX12_blame_37 (by decide) (fun c5037 => absurd c5037 (by decide)) (fun _ => ?_)
      refine lv_goto (tgt := 90) C.1 C.2.1 dX12_blame_40 (by decide) ?_
      refine lv_iinc (v := 3) (lv' := [(3, .int 3), (0, .ref h0), (1, .int x0), (2, .int x1)]) C.1 C.2.1 dX12_blame_90 hl (k := 0) rfl (by decide) (by decide) rfl (fun ls hl => ?_)
      refine lv_goto (tgt := 25) C.1 C.2.1 dX12_blame_93 (by decide) ?_
      refine lv_iload_n C.1 C.2.1 dX12_blame_25 rfl (lv_at hl 0 rfl) ?_
      refine lv_bipush (v := 6) C.1 C.2.1 dX12_blame_26 (by decide) ?_
      refine lv_icmp_ge (tgt := 96) C.1 C.2.1 dX12_blame_28 (by decide) (fun c5038 => absurd c5038 (by decide)) (fun _ => ?_)
      refine lv_aload_n C.1 C.2.1 dX12_blame_31 rfl (lv_at hl 1 rfl) ?_
      refine k_get C Wd KX12 1 50 rfl (by decide) fl_X12_75 rfl dX12_blame_32 ?_
      refine lv_iload_n C.1 C.2.1 dX12_blame_35 rfl (lv_at hl 0 rfl) ?_
      refine k_iald (v := 0) C Wd 0 1 rfl rfl (vp_in_iff.mpr (by decide)) rfl dX12_blame_36 ?_
      refine lv_if_ne (tgt := 43) C.1 C.2.1 dX12_blame_37 (by decide) (fun c5039 => absurd c5039 (by decide)) (fun _ => ?_)
      refine lv_goto (tgt := 90) C.1 C.2.1 dX12_blame_40 (by decide) ?_
      refine lv_iinc (v := 4) (lv' := [(3, .int 4), (0, .ref h0), (1, .int x0), (2, .int x1)]) C.1 C.2.1 dX12_blame_90 hl (k := 0) rfl (by decide) (by decide) rfl (fun ls hl => ?_)
      refine lv_goto (tgt := 25) C.1 C.2.1 dX12_blame_93 (by decide) ?_
      refine lv_iload_n C.1 C.2.1 dX12_blame_25 rfl (lv_at hl 0 rfl) ?_
      refine lv_bipush (v := 6) C.1 C.2.1 dX12_blame_26 (by decide) ?_
      refine lv_icmp_ge (tgt := 96) C.1 C.2.1 dX12_blame_28 (by decide) (fun c5040 => absurd c5040 (by decide)) (fun _ => ?_)
      refine lv_aload_n C.1 C.2.1 dX12_blame_31 rfl (lv_at hl 1 rfl) ?_
      refine k_get C Wd KX12 1 50 rfl (by decide) fl_X12_75 rfl dX12_blame_32 ?_
      refine lv_iload_n C.1 C.2.1 dX12_blame_35 rfl (lv_at hl 0 rfl) ?_
      refine k_iald (v := 0) C Wd 0 1 rfl rfl (vp_in_iff.mpr (by decide)) rfl dX12_blame_36 ?_
      refine lv_if_ne (tgt := 43) C.1 C.2.1 dX12_blame_37 (by decide) (fun c5041 => absurd c5041 (by decide)) (fun _ => ?_)
      refine lv_goto (tgt := 90) C.1 C.2.1 dX12_blame_40 (by decide) ?_
      refine lv_iinc (v := 5) (lv' := [(3, .int 5), (0, .ref h0), (1, .int x0), (2, .int x1)]) C.1 C.2.1 dX12_blame_90 hl (k := 0) rfl (by decide) (by decide) rfl (fun ls hl => ?_)
      refine lv_goto (tgt := 25) C.1 C.2.1 dX12_blame_93 (by decide) ?_
      refine lv_iload_n C.1 C.2.1 dX12_blame_25 rfl (lv_at hl 0 rfl) ?_
      refine lv_bipush (v := 6) C.1 C.2.1 dX12_blame_26 (by decide) ?_
      refine lv_icmp_ge (tgt := 96) C.1 C.2.1 dX12_blame_28 (by decide) (fun c5042 => absurd c5042 (by decide)) (fun _ => ?_)
      refine lv_aload_n C.1 C.2.1 dX12_blame_31 rfl (lv_at hl 1 rfl) ?_
      refine k_get C Wd KX12 1 50 rfl (by decide) fl_X12_75 rfl dX12_blame_32 ?_
      refine lv_iload_n C.1 C.2.1 dX12_blame_35 rfl (lv_at hl 0 rfl) ?_
      refine k_iald (v := 0) C Wd 0 1 rfl rfl (vp_in_iff.mpr (by decide)) rfl dX12_blame_36 ?_
      refine lv_if_ne (tgt := 43) C.1 C.2.1 dX12_blame_37 (by decide) (fun c5043 => absurd c5043 (by decide)) (fun _ => ?_)
      refine lv_goto (tgt := 90) C.1 C.2.1 dX12_blame_40 (by decide) ?_
      refine lv_iinc (v := 6) (lv' := [(3, .int 6), (0, .ref h0), (1, .int x0), (2, .int x1)]) C.1 C.2.1 dX12_blame_90 hl (k := 0) rfl (by decide) (by decide) rfl (fun ls hl => ?_)
      refine lv_goto (tgt := 25) C.1 C.2.1 dX12_blame_93 (by decide) ?_
      refine lv_iload_n C.1 C.2.1 dX12_blame_25 rfl (lv_at hl 0 rfl) ?_
      refine lv_bipush (v := 6) C.1 C.2.1 dX12_blame_26 (by decide) ?_
      refine lv_icmp_ge (tgt := 96) C.1 C.2.1 dX12_blame_28 (by decide) (fun _ => ?_) (fun c5044 => absurd c5044 (by decide))
      refine lv_iconst (v := (-1)) C.1 C.2.1 dX12_blame_96 (by decide) ?_
      exact k_zret C hr hlk rfl Wd () (Or.inr (Or.inr (Or.inr (Or.inr (⟨c5017, c5018, c5026, c5027, rfl⟩))))) [] rfl (by decide) [] rfl (by decide) (by decide) dX12_blame_97
set_option maxHeartbeats 4000000 in
set_option maxRecDepth 100000 in
theorem kcX12_cut (l : Launch) (D : va_G) (h0 h1 h2 h3 h4 h5 h6 h7 h8 h9 h10 h11 h12 h13 h14 h15 h16 h17 h18 h19 h20 h21 h22 h23 h24 h25 : Nat) (x0 x1 x2 : Int32) (a1 : ClassId) (sz : Nat)  : Met l yX12_cut (Cond.code yX12_cut cX12_cut 5 (some .int) :: gG) { frames := 3, cells := 0, slots := 0, locals := 106 } (cPre D [(a1, .int)] [(h0, .inr (12, [.ref h1, .ref h2, .ref h3, .ref h4, .int 0, .int 0, .ref h5, .int 0, .int 0, .int 0, .int 0, .int 0, .int 0, .int 0, .int 0, .int 0, .int 0, .int 0, .int 0, .int 0, .int (-1), .int 0, .int 0, .int 0, .ref h6, .ref h7, .ref h8, .ref h9, .ref h10, .ref h11, .int 0, .int 0, .int 0, .int 0, .ref h12, .ref h13, .ref h14, .int 0, .int 0, .int 0, .int 0, .ref h15, .ref h16, .int 0, .ref h17, .ref h18, .int 0, .ref h19, .int 0, .ref h20, .ref h21, .ref h22, .int 0, .ref h23, .ref h24, .ref h25])), (h2, .inl (a1, 6, .inl (fun _ => 0)))] sz [.ref h0, .int x0, .int x1, .int x2]) (va_Qi (fun (r : Int32) (_ : Unit) => (x0 < (0 : Int32) ∧ r = (-1)) ∨ (¬ x0 < (0 : Int32) ∧ (5 : Int32) < x0 ∧ r = (-1)) ∨ (¬ x0 < (0 : Int32) ∧ ¬ (5 : Int32) < x0 ∧ x1 < (0 : Int32) ∧ r = (-1)) ∨ (¬ x0 < (0 : Int32) ∧ ¬ (5 : Int32) < x0 ∧ ¬ x1 < (0 : Int32) ∧ (5 : Int32) < x1 ∧ r = (-1)) ∨ (¬ x0 < (0 : Int32) ∧ ¬ (5 : Int32) < x0 ∧ ¬ x1 < (0 : Int32) ∧ ¬ (5 : Int32) < x1 ∧ x2 < (0 : Int32) ∧ r = (-1)) ∨ (¬ x0 < (0 : Int32) ∧ ¬ (5 : Int32) < x0 ∧ ¬ x1 < (0 : Int32) ∧ ¬ (5 : Int32) < x1 ∧ ¬ x2 < (0 : Int32) ∧ (5 : Int32) < x2 ∧ r = (-1)) ∨ (¬ x0 < (0 : Int32) ∧ ¬ (5 : Int32) < x0 ∧ ¬ x1 < (0 : Int32) ∧ ¬ (5 : Int32) < x1 ∧ ¬ x2 < (0 : Int32) ∧ ¬ (5 : Int32) < x2 ∧ r = (-1))) (fun u t => cB D (va_A [(h0, .inr (12, [.ref h1, .ref h2, .ref h3, .ref h4, .int 0, .int 0, .ref h5, .int 0, .int 0, .int 0, .int 0, .int 0, .int 0, .int 0, .int 0, .int 0, .int 0, .int 0, .int 0, .int 0, .int (-1), .int 0, .int 0, .int 0, .ref h6, .ref h7, .ref h8, .ref h9, .ref h10, .ref h11, .int 0, .int 0, .int 0, .int 0, .ref h12, .ref h13, .ref h14, .int 0, .int 0, .int 0, .int 0, .ref h15, .ref h16, .int 0, .ref h17, .ref h18, .int 0, .ref h19, .int 0, .ref h20, .ref h21, .ref h22, .int 0, .ref h23, .ref h24, .ref h25])), (h2, .inl (a1, 6, .inl (fun _ => 0)))] sz) ((fun (_ : Unit) => ([] : List (ClassId × FieldType))) u) ((fun (_ : Unit) => ([] : va_W)) u) t) (va_A [(h0, .inr (12, [.ref h1, .ref h2, .ref h3, .ref h4, .int 0, .int 0, .ref h5, .int 0, .int 0, .int 0, .int 0, .int 0, .int 0, .int 0, .int 0, .int 0, .int 0, .int 0, .int 0, .int 0, .int (-1), .int 0, .int 0, .int 0, .ref h6, .ref h7, .ref h8, .ref h9, .ref h10, .ref h11, .int 0, .int 0, .int 0, .int 0, .ref h12, .ref h13, .ref h14, .int 0, .int 0, .int 0, .int 0, .ref h15, .ref h16, .int 0, .ref h17, .ref h18, .int 0, .ref h19, .int 0, .ref h20, .ref h21, .ref h22, .int 0, .ref h23, .ref h24, .ref h25])), (h2, .inl (a1, 6, .inl (fun _ => 0)))] sz)) 0 0 (va_A [(h0, .inr (12, [.ref h1, .ref h2, .ref h3, .ref h4, .int 0, .int 0, .ref h5, .int 0, .int 0, .int 0, .int 0, .int 0, .int 0, .int 0, .int 0, .int 0, .int 0, .int 0, .int 0, .int 0, .int (-1), .int 0, .int 0, .int 0, .ref h6, .ref h7, .ref h8, .ref h9, .ref h10, .ref h11, .int 0, .int 0, .int 0, .int 0, .ref h12, .ref h13, .ref h14, .int 0, .int 0, .int 0, .int 0, .ref h15, .ref h16, .int 0, .ref h17, .ref h18, .int 0, .ref h19, .int 0, .ref h20, .ref h21, .ref h22, .int 0, .ref h23, .ref h24, .ref h25])), (h2, .inl (a1, 6, .inl (fun _ => 0)))] sz) := by
  refine Met.ofW (cc := cX12_cut) (maxL := 5) (ret := (some .int)) (by decide) rfl ?_
  intro p e s m args below meth c s₁ B hml hv
  obtain ⟨rfl, aks, rfl, Wd⟩ := k_enter hv
  have C : CallFix p m c cX12_cut 5 s _ gG RX12 := ⟨B.exec, B.bytes, hml, findClass_of_methodNamed B.named, fun w h => atoms_spec (ws := Cond.code yX12_cut cX12_cut 5 (some .int) :: gG) B.pre w (List.mem_cons_of_mem _ h)⟩
  have hr := B.returns
  have hlk := B.notSynchronized
  generalize va_A [(h0, .inr (12, [.ref h1, .ref h2, .ref h3, .ref h4, .int 0, .int 0, .ref h5, .int 0, .int 0, .int 0, .int 0, .int 0, .int 0, .int 0, .int 0, .int 0, .int 0, .int 0, .int 0, .int 0, .int (-1), .int 0, .int 0, .int 0, .ref h6, .ref h7, .ref h8, .ref h9, .ref h10, .ref h11, .int 0, .int 0, .int 0, .int 0, .ref h12, .ref h13, .ref h14, .int 0, .int 0, .int 0, .int 0, .ref h15, .ref h16, .int 0, .ref h17, .ref h18, .int 0, .ref h19, .int 0, .ref h20, .ref h21, .ref h22, .int 0, .ref h23, .ref h24, .ref h25])), (h2, .inl (a1, 6, .inl (fun _ => 0)))] s.heap.size = A at Wd ⊢
  refine k_locals (Nat.le_of_ble_eq_true rfl) [(0, .ref h0), (1, .int x0), (2, .int x1), (3, .int x2)] rfl (fun ls hl => ?_)
  refine lv_iload_n C.1 C.2.1 dX12_cut_0 rfl (lv_at hl 1 rfl) ?_
  refine k_pi (k_runS (rest := []) C aks Wd cs_X12_423 (kcX12_isPass l D x0 _ ) [] rfl (by decide) [] rfl rfl rfl ⟨(Nat.le_of_ble_eq_true rfl), (Nat.le_of_ble_eq_true rfl)⟩ hl.1 rfl rfl (Nat.le_of_ble_eq_true rfl) ⟨(Nat.le_of_ble_eq_true rfl), (Nat.le_of_ble_eq_true rfl)⟩ dX12_cut_1) (fun r w5081 => ?_)
  rcases w5081 with ⟨c5082, rfl⟩ | ⟨c5083, c5084, rfl⟩ | ⟨c5085, c5086, rfl⟩
  · refine lv_if_eq (tgt := 21) C.1 C.2.1 dX12_cut_4 (by decide) (fun _ => ?_) (fun c5087 => absurd c5087 (by decide))
    refine lv_iconst (v := (-1)) C.1 C.2.1 dX12_cut_21 (by decide) ?_
    exact k_zret C hr hlk rfl Wd () (Or.inl (⟨c5082, rfl⟩)) [] rfl (by decide) [] rfl (by decide) (by decide) dX12_cut_22
  · refine lv_if_eq (tgt := 21) C.1 C.2.1 dX12_cut_4 (by decide) (fun _ => ?_) (fun c5088 => absurd c5088 (by decide))
    refine lv_iconst (v := (-1)) C.1 C.2.1 dX12_cut_21 (by decide) ?_
    exact k_zret C hr hlk rfl Wd () (Or.inr (Or.inl (⟨c5083, c5084, rfl⟩))) [] rfl (by decide) [] rfl (by decide) (by decide) dX12_cut_22
  · refine lv_if_eq (tgt := 21) C.1 C.2.1 dX12_cut_4 (by decide) (fun c5089 => absurd c5089 (by decide)) (fun _ => ?_)
    refine lv_iload_n C.1 C.2.1 dX12_cut_7 rfl (lv_at hl 2 rfl) ?_
    refine k_pi (k_runS (rest := []) C aks Wd cs_X12_249 (kcX12_isSlot l D x1 _ ) [] rfl (by decide) [] rfl rfl rfl ⟨(Nat.le_of_ble_eq_true rfl), (Nat.le_of_ble_eq_true rfl)⟩ hl.1 rfl rfl (Nat.le_of_ble_eq_true rfl) ⟨(Nat.le_of_ble_eq_true rfl), (Nat.le_of_ble_eq_true rfl)⟩ dX12_cut_8) (fun r w5090 => ?_)
    rcases w5090 with ⟨c5091, rfl⟩ | ⟨c5092, c5093, rfl⟩ | ⟨c5094, c5095, rfl⟩
    · refine lv_if_eq (tgt := 21) C.1 C.2.1 dX12_cut_11 (by decide) (fun _ => ?_) (fun c5096 => absurd c5096 (by decide))
      refine lv_iconst (v := (-1)) C.1 C.2.1 dX12_cut_21 (by decide) ?_
      exact k_zret C hr hlk rfl Wd () (Or.inr (Or.inr (Or.inl (⟨c5085, c5086, c5091, rfl⟩)))) [] rfl (by decide) [] rfl (by decide) (by decide) dX12_cut_22
    · refine lv_if_eq (tgt := 21) C.1 C.2.1 dX12_cut_11 (by decide) (fun _ => ?_) (fun c5097 => absurd c5097 (by decide))
      refine lv_iconst (v := (-1)) C.1 C.2.1 dX12_cut_21 (by decide) ?_
      exact k_zret C hr hlk rfl Wd () (Or.inr (Or.inr (Or.inr (Or.inl (⟨c5085, c5086, c5092, c5093, rfl⟩))))) [] rfl (by decide) [] rfl (by decide) (by decide) dX12_cut_22
    · refine lv_if_eq (tgt := 21) C.1 C.2.1 dX12_cut_11 (by decide) (fun c5098 => absurd c5098 (by decide)) (fun _ => ?_)
      refine lv_iload_n C.1 C.2.1 dX12_cut_14 rfl (lv_at hl 3 rfl) ?_
      refine k_pi (k_runS (rest := []) C aks Wd cs_X12_249 (kcX12_isSlot l D x2 _ ) [] rfl (by decide) [] rfl rfl rfl ⟨(Nat.le_of_ble_eq_true rfl), (Nat.le_of_ble_eq_true rfl)⟩ hl.1 rfl rfl (Nat.le_of_ble_eq_true rfl) ⟨(Nat.le_of_ble_eq_true rfl), (Nat.le_of_ble_eq_true rfl)⟩ dX12_cut_15) (fun r w5099 => ?_)
      rcases w5099 with ⟨c5100, rfl⟩ | ⟨c5101, c5102, rfl⟩ | ⟨c5103, c5104, rfl⟩
      · refine lv_if_ne (tgt := 23) C.1 C.2.1 dX12_cut_18 (by decide) (fun c5105 => absurd c5105 (by decide)) (fun _ => ?_)
        refine lv_iconst (v := (-1)) C.1 C.2.1 dX12_cut_21 (by decide) ?_
        exact k_zret C hr hlk rfl Wd () (Or.inr (Or.inr (Or.inr (Or.inr (Or.inl (⟨c5085, c5086, c5094, c5095, c5100, rfl⟩)))))) [] rfl (by decide) [] rfl (by decide) (by decide) dX12_cut_22
      · refine lv_if_ne (tgt := 23) C.1 C.2.1 dX12_cut_18 (by decide) (fun c5106 => absurd c5106 (by decide)) (fun _ => ?_)
        refine lv_iconst (v := (-1)) C.1 C.2.1 dX12_cut_21 (by decide) ?_
        exact k_zret C hr hlk rfl Wd () (Or.inr (Or.inr (Or.inr (Or.inr (Or.inr (Or.inl (⟨c5085, c5086, c5094, c5095, c5101, c5102, rfl⟩))))))) [] rfl (by decide) [] rfl (by decide) (by decide) dX12_cut_22
      · refine lv_if_ne (tgt := 23) C.1 C.2.1 dX12_cut_18 (by decide) (fun _ => ?_) (fun c5107 => absurd c5107 (by decide))
        refine lv_aload_n C.1 C.2.1 dX12_cut_23 rfl (lv_at hl 0 rfl) ?_
        refine lv_iload_n C.1 C.2.1 dX12_cut_24 rfl (lv_at hl 2 rfl) ?_
        refine k_cv Wd [0, 1] [] rfl (wr := []) rfl (by decide) (by decide) (cells' := 0) (slots' := 0) (by decide) (by decide) (k_runV (rest := []) C aks Wd cs_X12_271 (kcX12_takes l D h0 h1 h2 h3 h4 h5 h6 h7 h8 h9 h10 h11 h12 h13 h14 h15 h16 h17 h18 h19 h20 h21 h22 h23 h24 h25 x1 a1 _ c5094 c5095) [0, 1] rfl (by decide) [0] rfl 0 12 rfl rfl rfl rfl rfl ⟨(Nat.le_of_ble_eq_true rfl), (Nat.le_of_ble_eq_true rfl)⟩ hl.1 rfl rfl (Nat.le_of_ble_eq_true rfl) ⟨(Nat.le_of_ble_eq_true rfl), (Nat.le_of_ble_eq_true rfl)⟩ dX12_cut_25) (fun _ H locs w5108 Wd => ?_)
        have Wd : wX D [(a1, .int)] s [(h0, .inr (12, [.ref h1, .ref h2, .ref h3, .ref h4, .int 0, .int 0, .ref h5, .int 0, .int 0, .int 0, .int 0, .int 0, .int 0, .int 0, .int 0, .int 0, .int 0, .int 0, .int 0, .int 0, .int (-1), .int 0, .int 0, .int 0, .ref h6, .ref h7, .ref h8, .ref h9, .ref h10, .ref h11, .int 0, .int 0, .int 0, .int 0, .ref h12, .ref h13, .ref h14, .int 0, .int 0, .int 0, .int 0, .ref h15, .ref h16, .int 0, .ref h17, .ref h18, .int 0, .ref h19, .int 0, .ref h20, .ref h21, .ref h22, .int 0, .ref h23, .ref h24, .ref h25])), (h2, .inl (a1, 6, .inl (fun _ => 0)))] _ A s.heap _ := Wd
        refine lv_aload_n C.1 C.2.1 dX12_cut_28 rfl (lv_at hl 0 rfl) ?_
        refine k_pi (k_runV (rest := []) C aks Wd cs_X12_265 (kcX12_statements_v1 l D h0 h1 h2 h3 h4 h5 h6 h7 h8 h9 h10 h11 h12 h13 h14 h15 h16 h17 h18 h19 h20 h21 h22 h23 h24 h25 _ ) [0] rfl (by decide) [] rfl 0 12 rfl rfl rfl rfl rfl ⟨(Nat.le_of_ble_eq_true rfl), (Nat.le_of_ble_eq_true rfl)⟩ hl.1 rfl rfl (Nat.le_of_ble_eq_true rfl) ⟨(Nat.le_of_ble_eq_true rfl), (Nat.le_of_ble_eq_true rfl)⟩ dX12_cut_29) (fun r w5109 => ?_)
        obtain rfl := w5109
        refine lv_iconst (v := 1) C.1 C.2.1 dX12_cut_32 (by decide) ?_
        refine lv_bipush (v := 12) C.1 C.2.1 dX12_cut_33 (by decide) ?_
        refine k_pi (k_runS (rest := []) C aks Wd cs_X12_90 (kcX12_isIn l D 0 1 12 _ ) [] rfl (by decide) [] rfl rfl rfl ⟨(Nat.le_of_ble_eq_true rfl), (Nat.le_of_ble_eq_true rfl)⟩ hl.1 rfl rfl (Nat.le_of_ble_eq_true rfl) ⟨(Nat.le_of_ble_eq_true rfl), (Nat.le_of_ble_eq_true rfl)⟩ dX12_cut_35) (fun r w5110 => ?_)
        rcases w5110 with ⟨c5111, rfl⟩ | ⟨c5112, c5113, rfl⟩ | ⟨c5114, c5115, rfl⟩
        · refine lv_if_ne (tgt := 43) C.1 C.2.1 dX12_cut_38 (by decide) (fun c5116 => absurd c5116 (by decide)) (fun _ => ?_)
          refine lv_iconst (v := (-1)) C.1 C.2.1 dX12_cut_41 (by decide) ?_
          exact k_zret C hr hlk rfl Wd () (Or.inr (Or.inr (Or.inr (Or.inr (Or.inr (Or.inr (⟨c5085, c5086, c5094, c5095, c5103, c5104, rfl⟩))))))) [] rfl (by decide) [] rfl (by decide) (by decide) dX12_cut_42
        · exact absurd c5112 (by decide)
        · exact absurd c5114 (by decide)
set_option maxHeartbeats 4000000 in
set_option maxRecDepth 100000 in
theorem kcX12_clashFrom (l : Launch) (D : va_G) (h0 h1 h2 h3 h4 h5 h6 h7 h8 h9 h10 h11 h12 h13 h14 h15 h16 h17 h18 h19 h20 h21 h22 h23 h24 h25 : Nat) (sz : Nat)  : Met l yX12_clashFrom (Cond.code yX12_clashFrom cX12_clashFrom 7 none :: gG) { frames := 2, cells := 0, slots := 0, locals := 85 } (cPre D [] [(h0, .inr (12, [.ref h1, .ref h2, .ref h3, .ref h4, .int 0, .int 0, .ref h5, .int 0, .int 0, .int 0, .int 0, .int 0, .int 0, .int 0, .int 0, .int 0, .int 0, .int 0, .int 0, .int 0, .int (-1), .int 0, .int 0, .int 0, .ref h6, .ref h7, .ref h8, .ref h9, .ref h10, .ref h11, .int 0, .int 0, .int 0, .int 0, .ref h12, .ref h13, .ref h14, .int 0, .int 0, .int 0, .int 0, .ref h15, .ref h16, .int 0, .ref h17, .ref h18, .int 0, .ref h19, .int 0, .ref h20, .ref h21, .ref h22, .int 0, .ref h23, .ref h24, .ref h25]))] sz [.ref h0, .int 0, .int 0]) (va_Sv (fun _ => True)) 0 0 (fun _ => False) := by
  refine Met.ofW (cc := cX12_clashFrom) (maxL := 7) (ret := none) (by decide) rfl ?_
  intro p e s m args below meth c s₁ B hml hv
  obtain ⟨rfl, aks, rfl, Wd⟩ := k_enter hv
  have C : CallFix p m c cX12_clashFrom 7 s _ gG RX12 := ⟨B.exec, B.bytes, hml, findClass_of_methodNamed B.named, fun w h => atoms_spec (ws := Cond.code yX12_clashFrom cX12_clashFrom 7 none :: gG) B.pre w (List.mem_cons_of_mem _ h)⟩
  have hr := B.returns
  have hlk := B.notSynchronized
  obtain ⟨A, Wd⟩ : ∃ A, wX D [] s [(h0, .inr (12, [.ref h1, .ref h2, .ref h3, .ref h4, .int 0, .int 0, .ref h5, .int 0, .int 0, .int 0, .int 0, .int 0, .int 0, .int 0, .int 0, .int 0, .int 0, .int 0, .int 0, .int 0, .int (-1), .int 0, .int 0, .int 0, .ref h6, .ref h7, .ref h8, .ref h9, .ref h10, .ref h11, .int 0, .int 0, .int 0, .int 0, .ref h12, .ref h13, .ref h14, .int 0, .int 0, .int 0, .int 0, .ref h15, .ref h16, .int 0, .ref h17, .ref h18, .int 0, .ref h19, .int 0, .ref h20, .ref h21, .ref h22, .int 0, .ref h23, .ref h24, .ref h25]))] s.heap A s.heap [] := ⟨_, Wd⟩
  refine k_locals (Nat.le_of_ble_eq_true rfl) [(0, .ref h0), (1, .int 0), (2, .int 0)] rfl (fun ls hl => ?_)
  refine lv_iload_n C.1 C.2.1 dX12_clashFrom_0 rfl (lv_at hl 1 rfl) ?_
  refine lv_istore_n (lv' := [(3, .int 0), (0, .ref h0), (1, .int 0), (2, .int 0)]) C.1 C.2.1 dX12_clashFrom_1 rfl hl (by decide) rfl (fun ls hl => ?_)
  refine lv_aload_n C.1 C.2.1 dX12_clashFrom_2 rfl (lv_at hl 1 rfl) ?_
  refine lv_iload_n C.1 C.2.1 dX12_clashFrom_3 rfl (lv_at hl 0 rfl) ?_
  refine k_pi (k_runV (rest := []) C aks Wd cs_X12_107 (kcX12_isLast l D h0 h1 h2 h3 h4 h5 h6 h7 h8 h9 h10 h11 h12 h13 h14 h15 h16 h17 h18 h19 h20 h21 h22 h23 h24 h25 _ ) [0] rfl (by decide) [] rfl 0 12 rfl rfl rfl rfl rfl ⟨(Nat.le_of_ble_eq_true rfl), (Nat.le_of_ble_eq_true rfl)⟩ hl.1 rfl rfl (Nat.le_of_ble_eq_true rfl) ⟨(Nat.le_of_ble_eq_true rfl), (Nat.le_of_ble_eq_true rfl)⟩ dX12_clashFrom_4) (fun r w5137 => ?_)
  obtain rfl := w5137
  refine lv_if_ne (tgt := 150) C.1 C.2.1 dX12_clashFrom_7 (by decide) (fun _ => ?_) (fun c5138 => absurd c5138 (by decide))
  exact k_vretP C hr hlk trivial dX12_clashFrom_150
set_option maxHeartbeats 4000000 in
set_option maxRecDepth 100000 in
theorem kcX12_clashIn (l : Launch) (D : va_G) (h0 h1 h2 h3 h4 h5 h6 h7 h8 h9 h10 h11 h12 h13 h14 h15 h16 h17 h18 h19 h20 h21 h22 h23 h24 h25 : Nat) (x0 : Int32) (a1 a23 : ClassId) (sz : Nat)  (as0 : ¬ x0 < (0 : Int32)) (as1 : ¬ (5 : Int32) < x0): Met l yX12_clashIn (Cond.code yX12_clashIn cX12_clashIn 3 none :: gG) { frames := 3, cells := 0, slots := 0, locals := 111 } (cPre D [(a1, .int), (a23, .int)] [(h0, .inr (12, [.ref h1, .ref h2, .ref h3, .ref h4, .int 0, .int 0, .ref h5, .int 0, .int 0, .int 0, .int 0, .int 0, .int 0, .int 0, .int 0, .int 0, .int 0, .int 0, .int 0, .int 0, .int (-1), .int 0, .int 0, .int 0, .ref h6, .ref h7, .ref h8, .ref h9, .ref h10, .ref h11, .int 0, .int 0, .int 0, .int 0, .ref h12, .ref h13, .ref h14, .int 0, .int 0, .int 0, .int 0, .ref h15, .ref h16, .int 0, .ref h17, .ref h18, .int 0, .ref h19, .int 0, .ref h20, .ref h21, .ref h22, .int 0, .ref h23, .ref h24, .ref h25])), (h2, .inl (a1, 6, .inl (fun _ => 0))), (h24, .inl (a23, 6, .inl (fun _ => 0)))] sz [.ref h0, .int x0]) (va_Qv (fun (_ : Unit) => True) (fun u t => cB D (va_A [(h0, .inr (12, [.ref h1, .ref h2, .ref h3, .ref h4, .int 0, .int 0, .ref h5, .int 0, .int 0, .int 0, .int 0, .int 0, .int 0, .int 0, .int 0, .int 0, .int 0, .int 0, .int 0, .int 0, .int (-1), .int 0, .int 0, .int 0, .ref h6, .ref h7, .ref h8, .ref h9, .ref h10, .ref h11, .int 0, .int 0, .int 0, .int 0, .ref h12, .ref h13, .ref h14, .int 0, .int 0, .int 0, .int 0, .ref h15, .ref h16, .int 0, .ref h17, .ref h18, .int 0, .ref h19, .int 0, .ref h20, .ref h21, .ref h22, .int 0, .ref h23, .ref h24, .ref h25])), (h2, .inl (a1, 6, .inl (fun _ => 0))), (h24, .inl (a23, 6, .inl (fun _ => 0)))] sz) ((fun (_ : Unit) => ([] : List (ClassId × FieldType))) u) ((fun (_ : Unit) => ([(h0, .inr (12, [.ref h1, .ref h2, .ref h3, .ref h4, .int 0, .int 0, .ref h5, .int 0, .int 0, .int 0, .int 0, .int 0, .int 0, .int 0, .int 0, .int 0, .int 0, .int 0, .int 0, .int 0, .int (-1), .int 0, .int 0, .int 0, .ref h6, .ref h7, .ref h8, .ref h9, .ref h10, .ref h11, .int 0, .int 0, .int 0, .int 0, .ref h12, .ref h13, .ref h14, .int 0, .int 0, .int 0, .int 0, .ref h15, .ref h16, .int 0, .ref h17, .ref h18, .int 0, .ref h19, .int 0, .ref h20, .ref h21, .ref h22, .int 0, .ref h23, .ref h24, .ref h25])), (h2, .inl (a1, 6, .inl (fun _ => 0))), (h24, .inl (a23, 6, .inl (fun _ => 0)))] : va_W)) u) t) (va_A [(h0, .inr (12, [.ref h1, .ref h2, .ref h3, .ref h4, .int 0, .int 0, .ref h5, .int 0, .int 0, .int 0, .int 0, .int 0, .int 0, .int 0, .int 0, .int 0, .int 0, .int 0, .int 0, .int 0, .int (-1), .int 0, .int 0, .int 0, .ref h6, .ref h7, .ref h8, .ref h9, .ref h10, .ref h11, .int 0, .int 0, .int 0, .int 0, .ref h12, .ref h13, .ref h14, .int 0, .int 0, .int 0, .int 0, .ref h15, .ref h16, .int 0, .ref h17, .ref h18, .int 0, .ref h19, .int 0, .ref h20, .ref h21, .ref h22, .int 0, .ref h23, .ref h24, .ref h25])), (h2, .inl (a1, 6, .inl (fun _ => 0))), (h24, .inl (a23, 6, .inl (fun _ => 0)))] sz)) 0 0 (va_A [(h0, .inr (12, [.ref h1, .ref h2, .ref h3, .ref h4, .int 0, .int 0, .ref h5, .int 0, .int 0, .int 0, .int 0, .int 0, .int 0, .int 0, .int 0, .int 0, .int 0, .int 0, .int 0, .int 0, .int (-1), .int 0, .int 0, .int 0, .ref h6, .ref h7, .ref h8, .ref h9, .ref h10, .ref h11, .int 0, .int 0, .int 0, .int 0, .ref h12, .ref h13, .ref h14, .int 0, .int 0, .int 0, .int 0, .ref h15, .ref h16, .int 0, .ref h17, .ref h18, .int 0, .ref h19, .int 0, .ref h20, .ref h21, .ref h22, .int 0, .ref h23, .ref h24, .ref h25])), (h2, .inl (a1, 6, .inl (fun _ => 0))), (h24, .inl (a23, 6, .inl (fun _ => 0)))] sz) := by
  refine Met.ofW (cc := cX12_clashIn) (maxL := 3) (ret := none) (by decide) rfl ?_
  intro p e s m args below meth c s₁ B hml hv
  obtain ⟨rfl, aks, rfl, Wd⟩ := k_enter hv
  have C : CallFix p m c cX12_clashIn 3 s _ gG RX12 := ⟨B.exec, B.bytes, hml, findClass_of_methodNamed B.named, fun w h => atoms_spec (ws := Cond.code yX12_clashIn cX12_clashIn 3 none :: gG) B.pre w (List.mem_cons_of_mem _ h)⟩
  have hr := B.returns
  have hlk := B.notSynchronized
  generalize va_A [(h0, .inr (12, [.ref h1, .ref h2, .ref h3, .ref h4, .int 0, .int 0, .ref h5, .int 0, .int 0, .int 0, .int 0, .int 0, .int 0, .int 0, .int 0, .int 0, .int 0, .int 0, .int 0, .int 0, .int (-1), .int 0, .int 0, .int 0, .ref h6, .ref h7, .ref h8, .ref h9, .ref h10, .ref h11, .int 0, .int 0, .int 0, .int 0, .ref h12, .ref h13, .ref h14, .int 0, .int 0, .int 0, .int 0, .ref h15, .ref h16, .int 0, .ref h17, .ref h18, .int 0, .ref h19, .int 0, .ref h20, .ref h21, .ref h22, .int 0, .ref h23, .ref h24, .ref h25])), (h2, .inl (a1, 6, .inl (fun _ => 0))), (h24, .inl (a23, 6, .inl (fun _ => 0)))] s.heap.size = A at Wd ⊢
  refine k_locals (Nat.le_of_ble_eq_true rfl) [(0, .ref h0), (1, .int x0)] rfl (fun ls hl => ?_)
  refine lv_aload_n C.1 C.2.1 dX12_clashIn_0 rfl (lv_at hl 0 rfl) ?_
  refine lv_iload_n C.1 C.2.1 dX12_clashIn_1 rfl (lv_at hl 1 rfl) ?_
  refine k_cv Wd [0, 1] [2] rfl (wr := [(h24, .inl (a23, 6, .inl (fun _ => 0)))]) rfl (by decide) (by decide) (cells' := 0) (slots' := 0) (by decide) (by decide) (k_runV (rest := []) C aks Wd cs_X12_271 (kcX12_takes l D h0 h1 h2 h3 h4 h5 h6 h7 h8 h9 h10 h11 h12 h13 h14 h15 h16 h17 h18 h19 h20 h21 h22 h23 h24 h25 x0 a1 _ as0 as1) [0, 1] rfl (by decide) [0] rfl 0 12 rfl rfl rfl rfl rfl ⟨(Nat.le_of_ble_eq_true rfl), (Nat.le_of_ble_eq_true rfl)⟩ hl.1 rfl rfl (Nat.le_of_ble_eq_true rfl) ⟨(Nat.le_of_ble_eq_true rfl), (Nat.le_of_ble_eq_true rfl)⟩ dX12_clashIn_2) (fun _ H locs w5140 Wd => ?_)
  have Wd : wX D [(a1, .int), (a23, .int)] s [(h24, .inl (a23, 6, .inl (fun _ => 0))), (h0, .inr (12, [.ref h1, .ref h2, .ref h3, .ref h4, .int 0, .int 0, .ref h5, .int 0, .int 0, .int 0, .int 0, .int 0, .int 0, .int 0, .int 0, .int 0, .int 0, .int 0, .int 0, .int 0, .int (-1), .int 0, .int 0, .int 0, .ref h6, .ref h7, .ref h8, .ref h9, .ref h10, .ref h11, .int 0, .int 0, .int 0, .int 0, .ref h12, .ref h13, .ref h14, .int 0, .int 0, .int 0, .int 0, .ref h15, .ref h16, .int 0, .ref h17, .ref h18, .int 0, .ref h19, .int 0, .ref h20, .ref h21, .ref h22, .int 0, .ref h23, .ref h24, .ref h25])), (h2, .inl (a1, 6, .inl (fun _ => 0)))] _ A s.heap _ := Wd
  refine lv_iconst (v := 0) C.1 C.2.1 dX12_clashIn_5 (by decide) ?_
  refine lv_istore_n (lv' := [(2, .int 0), (0, .ref h0), (1, .int x0)]) C.1 C.2.1 dX12_clashIn_6 rfl hl (by decide) rfl (fun ls hl => ?_)
  refine lv_iload_n C.1 C.2.1 dX12_clashIn_7 rfl (lv_at hl 0 rfl) ?_
  refine lv_bipush (v := 6) C.1 C.2.1 dX12_clashIn_8 (by decide) ?_
  refine lv_icmp_ge (tgt := 26) C.1 C.2.1 dX12_clashIn_10 (by decide) (fun c5141 => absurd c5141 (by decide)) (fun _ => ?_)
  refine lv_aload_n C.1 C.2.1 dX12_clashIn_13 rfl (lv_at hl 1 rfl) ?_
  refine k_get C Wd KX12 1 54 rfl (by decide) fl_X12_84 rfl dX12_clashIn_14 ?_
  refine lv_iload_n C.1 C.2.1 dX12_clashIn_17 rfl (lv_at hl 0 rfl) ?_
  refine lv_iconst (v := 0) C.1 C.2.1 dX12_clashIn_18 (by decide) ?_
  refine k_iast C Wd 0 1 [(h24, .inl (a23, 6, .inl (fun _ => 0))), (h0, .inr (12, [.ref h1, .ref h2, .ref h3, .ref h4, .int 0, .int 0, .ref h5, .int 0, .int 0, .int 0, .int 0, .int 0, .int 0, .int 0, .int 0, .int 0, .int 0, .int 0, .int 0, .int 0, .int (-1), .int 0, .int 0, .int 0, .ref h6, .ref h7, .ref h8, .ref h9, .ref h10, .ref h11, .int 0, .int 0, .int 0, .int 0, .ref h12, .ref h13, .ref h14, .int 0, .int 0, .int 0, .int 0, .ref h15, .ref h16, .int 0, .ref h17, .ref h18, .int 0, .ref h19, .int 0, .ref h20, .ref h21, .ref h22, .int 0, .ref h23, .ref h24, .ref h25])), (h2, .inl (a1, 6, .inl (fun _ => 0)))] rfl rfl (vp_in_iff.mpr (by decide)) (upd0 _) rfl dX12_clashIn_19 (fun H locs Wd => ?_)
  refine lv_iinc (v := 1) (lv' := [(2, .int 1), (0, .ref h0), (1, .int x0)]) C.1 C.2.1 dX12_clashIn_20 hl (k := 0) rfl (by decide) (by decide) rfl (fun ls hl => ?_)
  refine lv_goto (tgt := 7) C.1 C.2.1 dX12_clashIn_23 (by decide) ?_
  refine lv_iload_n C.1 C.2.1 dX12_clashIn_7 rfl (lv_at hl 0 rfl) ?_
  refine lv_bipush (v := 6) C.1 C.2.1 dX12_clashIn_8 (by decide) ?_
  refine lv_icmp_ge (tgt := 26) C.1 C.2.1 dX12_clashIn_10 (by decide) (fun c5142 => absurd c5142 (by decide)) (fun _ => ?_)
  refine lv_aload_n C.1 C.2.1 dX12_clashIn_13 rfl (lv_at hl 1 rfl) ?_
  refine k_get C Wd KX12 1 54 rfl (by decide) fl_X12_84 rfl dX12_clashIn_14 ?_
  refine lv_iload_n C.1 C.2.1 dX12_clashIn_17 rfl (lv_at hl 0 rfl) ?_
  refine lv_iconst (v := 0) C.1 C.2.1 dX12_clashIn_18 (by decide) ?_
  refine k_iast C Wd 0 1 [(h24, .inl (a23, 6, .inl (fun _ => 0))), (h0, .inr (12, [.ref h1, .ref h2, .ref h3, .ref h4, .int 0, .int 0, .ref h5, .int 0, .int 0, .int 0, .int 0, .int 0, .int 0, .int 0, .int 0, .int 0, .int 0, .int 0, .int 0, .int 0, .int (-1), .int 0, .int 0, .int 0, .ref h6, .ref h7, .ref h8, .ref h9, .ref h10, .ref h11, .int 0, .int 0, .int 0, .int 0, .ref h12, .ref h13, .ref h14, .int 0, .int 0, .int 0, .int 0, .ref h15, .ref h16, .int 0, .ref h17, .ref h18, .int 0, .ref h19, .int 0, .ref h20, .ref h21, .ref h22, .int 0, .ref h23, .ref h24, .ref h25])), (h2, .inl (a1, 6, .inl (fun _ => 0)))] rfl rfl (vp_in_iff.mpr (by decide)) (upd0 _) rfl dX12_clashIn_19 (fun H locs Wd => ?_)
  refine lv_iinc (v := 2) (lv' := [(2, .int 2), (0, .ref h0), (1, .int x0)]) C.1 C.2.1 dX12_clashIn_20 hl (k := 0) rfl (by decide) (by decide) rfl (fun ls hl => ?_)
  refine lv_goto (tgt := 7) C.1 C.2.1 dX12_clashIn_23 (by decide) ?_
  refine lv_iload_n C.1 C.2.1 dX12_clashIn_7 rfl (lv_at hl 0 rfl) ?_
  refine lv_bipush (v := 6) C.1 C.2.1 dX12_clashIn_8 (by decide) ?_
  refine lv_icmp_ge (tgt := 26) C.1 C.2.1 dX12_clashIn_10 (by decide) (fun c5143 => absurd c5143 (by decide)) (fun _ => ?_)
  refine lv_aload_n C.1 C.2.1 dX12_clashIn_13 rfl (lv_at hl 1 rfl) ?_
  refine k_get C Wd KX12 1 54 rfl (by decide) fl_X12_84 rfl dX12_clashIn_14 ?_
  refine lv_iload_n C.1 C.2.1 dX12_clashIn_17 rfl (lv_at hl 0 rfl) ?_
  refine lv_iconst (v := 0) C.1 C.2.1 dX12_clashIn_18 (by decide) ?_
  refine k_iast C Wd 0 1 [(h24, .inl (a23, 6, .inl (fun _ => 0))), (h0, .inr (12, [.ref h1, .ref h2, .ref h3, .ref h4, .int 0, .int 0, .ref h5, .int 0, .int 0, .int 0, .int 0, .int 0, .int 0, .int 0, .int 0, .int 0, .int 0, .int 0, .int 0, .int 0, .int (-1), .int 0, .int 0, .int 0, .ref h6, .ref h7, .ref h8, .ref h9, .ref h10, .ref h11, .int 0, .int 0, .int 0, .int 0, .ref h12, .ref h13, .ref h14, .int 0, .int 0, .int 0, .int 0, .ref h15, .ref h16, .int 0, .ref h17, .ref h18, .int 0, .ref h19, .int 0, .ref h20, .ref h21, .ref h22, .int 0, .ref h23, .ref h24, .ref h25])), (h2, .inl (a1, 6, .inl (fun _ => 0)))] rfl rfl (vp_in_iff.mpr (by decide)) (upd0 _) rfl dX12_clashIn_19 (fun H locs Wd => ?_)
  refine lv_iinc (v := 3) (lv' := [(2, .int 3), (0, .ref h0), (1, .int x0)]) C.1 C.2.1 dX12_clashIn_20 hl (k := 0) rfl (by decide) (by decide) rfl (fun ls hl => ?_)
  refine lv_goto (tgt := 7) C.1 C.2.1 dX12_clashIn_23 (by decide) ?_
  refine lv_iload_n C.1 C.2.1 dX12_clashIn_7 rfl (lv_at hl 0 rfl) ?_
  refine lv_bipush (v := 6) C.1 C.2.1 dX12_clashIn_8 (by decide) ?_
  refine lv_icmp_ge (tgt := 26) C.1 C.2.1 dX12_clashIn_10 (by decide) (fun c5144 => absurd c5144 (by decide)) (fun _ => ?_)
  refine lv_aload_n C.1 C.2.1 dX12_clashIn_13 rfl (lv_at hl 1 rfl) ?_
  refine k_get C Wd KX12 1 54 rfl (by decide) fl_X12_84 rfl dX12_clashIn_14 ?_
  refine lv_iload_n C.1 C.2.1 dX12_clashIn_17 rfl (lv_at hl 0 rfl) ?_
  refine lv_iconst (v := 0) C.1 C.2.1 dX12_clashIn_18 (by decide) ?_
  refine k_iast C Wd 0 1 [(h24, .inl (a23, 6, .inl (fun _ => 0))), (h0, .inr (12, [.ref h1, .ref h2, .ref h3, .ref h4, .int 0, .int 0, .ref h5, .int 0, .int 0, .int 0, .int 0, .int 0, .int 0, .int 0, .int 0, .int 0, .int 0, .int 0, .int 0, .int 0, .int (-1), .int 0, .int 0, .int 0, .ref h6, .ref h7, .ref h8, .ref h9, .ref h10, .ref h11, .int 0, .int 0, .int 0, .int 0, .ref h12, .ref h13, .ref h14, .int 0, .int 0, .int 0, .int 0, .ref h15, .ref h16, .int 0, .ref h17, .ref h18, .int 0, .ref h19, .int 0, .ref h20, .ref h21, .ref h22, .int 0, .ref h23, .ref h24, .ref h25])), (h2, .inl (a1, 6, .inl (fun _ => 0)))] rfl rfl (vp_in_iff.mpr (by decide)) (upd0 _) rfl dX12_clashIn_19 (fun H locs Wd => ?_)
  refine lv_iinc (v := 4) (lv' := [(2, .int 4), (0, .ref h0), (1, .int x0)]) C.1 C.2.1 dX12_clashIn_20 hl (k := 0) rfl (by decide) (by decide) rfl (fun ls hl => ?_)
  refine lv_goto (tgt := 7) C.1 C.2.1 dX12_clashIn_23 (by decide) ?_
  refine lv_iload_n C.1 C.2.1 dX12_clashIn_7 rfl (lv_at hl 0 rfl) ?_
  refine lv_bipush (v := 6) C.1 C.2.1 dX12_clashIn_8 (by decide) ?_
  refine lv_icmp_ge (tgt := 26) C.1 C.2.1 dX12_clashIn_10 (by decide) (fun c5145 => absurd c5145 (by decide)) (fun _ => ?_)
  refine lv_aload_n C.1 C.2.1 dX12_clashIn_13 rfl (lv_at hl 1 rfl) ?_
  refine k_get C Wd KX12 1 54 rfl (by decide) fl_X12_84 rfl dX12_clashIn_14 ?_
  refine lv_iload_n C.1 C.2.1 dX12_clashIn_17 rfl (lv_at hl 0 rfl) ?_
  refine lv_iconst (v := 0) C.1 C.2.1 dX12_clashIn_18 (by decide) ?_
  refine k_iast C Wd 0 1 [(h24, .inl (a23, 6, .inl (fun _ => 0))), (h0, .inr (12, [.ref h1, .ref h2, .ref h3, .ref h4, .int 0, .int 0, .ref h5, .int 0, .int 0, .int 0, .int 0, .int 0, .int 0, .int 0, .int 0, .int 0, .int 0, .int 0, .int 0, .int 0, .int (-1), .int 0, .int 0, .int 0, .ref h6, .ref h7, .ref h8, .ref h9, .ref h10, .ref h11, .int 0, .int 0, .int 0, .int 0, .ref h12, .ref h13, .ref h14, .int 0, .int 0, .int 0, .int 0, .ref h15, .ref h16, .int 0, .ref h17, .ref h18, .int 0, .ref h19, .int 0, .ref h20, .ref h21, .ref h22, .int 0, .ref h23, .ref h24, .ref h25])), (h2, .inl (a1, 6, .inl (fun _ => 0)))] rfl rfl (vp_in_iff.mpr (by decide)) (upd0 _) rfl dX12_clashIn_19 (fun H locs Wd => ?_)
  refine lv_iinc (v := 5) (lv' := [(2, .int 5), (0, .ref h0), (1, .int x0)]) C.1 C.2.1 dX12_clashIn_20 hl (k := 0) rfl (by decide) (by decide) rfl (fun ls hl => ?_)
  refine lv_goto (tgt := 7) C.1 C.2.1 dX12_clashIn_23 (by decide) ?_
  refine lv_iload_n C.1 C.2.1 dX12_clashIn_7 rfl (lv_at hl 0 rfl) ?_
  refine lv_bipush (v := 6) C.1 C.2.1 dX12_clashIn_8 (by decide) ?_
  refine lv_icmp_ge (tgt := 26) C.1 C.2.1 dX12_clashIn_10 (by decide) (fun c5146 => absurd c5146 (by decide)) (fun _ => ?_)
  refine lv_aload_n C.1 C.2.1 dX12_clashIn_13 rfl (lv_at hl 1 rfl) ?_
  refine k_get C Wd KX12 1 54 rfl (by decide) fl_X12_84 rfl dX12_clashIn_14 ?_
  refine lv_iload_n C.1 C.2.1 dX12_clashIn_17 rfl (lv_at hl 0 rfl) ?_
  refine lv_iconst (v := 0) C.1 C.2.1 dX12_clashIn_18 (by decide) ?_
  refine k_iast C Wd 0 1 [(h24, .inl (a23, 6, .inl (fun _ => 0))), (h0, .inr (12, [.ref h1, .ref h2, .ref h3, .ref h4, .int 0, .int 0, .ref h5, .int 0, .int 0, .int 0, .int 0, .int 0, .int 0, .int 0, .int 0, .int 0, .int 0, .int 0, .int 0, .int 0, .int (-1), .int 0, .int 0, .int 0, .ref h6, .ref h7, .ref h8, .ref h9, .ref h10, .ref h11, .int 0, .int 0, .int 0, .int 0, .ref h12, .ref h13, .ref h14, .int 0, .int 0, .int 0, .int 0, .ref h15, .ref h16, .int 0, .ref h17, .ref h18, .int 0, .ref h19, .int 0, .ref h20, .ref h21, .ref h22, .int 0, .ref h23, .ref h24, .ref h25])), (h2, .inl (a1, 6, .inl (fun _ => 0)))] rfl rfl (vp_in_iff.mpr (by decide)) (upd0 _) rfl dX12_clashIn_19 (fun H locs Wd => ?_)
  refine lv_iinc (v := 6) (lv' := [(2, .int 6), (0, .ref h0), (1, .int x0)]) C.1 C.2.1 dX12_clashIn_20 hl (k := 0) rfl (by decide) (by decide) rfl (fun ls hl => ?_)
  refine lv_goto (tgt := 7) C.1 C.2.1 dX12_clashIn_23 (by decide) ?_
  refine lv_iload_n C.1 C.2.1 dX12_clashIn_7 rfl (lv_at hl 0 rfl) ?_
  refine lv_bipush (v := 6) C.1 C.2.1 dX12_clashIn_8 (by decide) ?_
  refine lv_icmp_ge (tgt := 26) C.1 C.2.1 dX12_clashIn_10 (by decide) (fun _ => ?_) (fun c5147 => absurd c5147 (by decide))
  refine lv_aload_n C.1 C.2.1 dX12_clashIn_26 rfl (lv_at hl 1 rfl) ?_
  refine lv_iconst (v := 0) C.1 C.2.1 dX12_clashIn_27 (by decide) ?_
  refine lv_iconst (v := 0) C.1 C.2.1 dX12_clashIn_28 (by decide) ?_
  refine k_pv (k_runV (rest := []) C aks Wd cs_X12_463 (kcX12_clashFrom l D h0 h1 h2 h3 h4 h5 h6 h7 h8 h9 h10 h11 h12 h13 h14 h15 h16 h17 h18 h19 h20 h21 h22 h23 h24 h25 _ ) [1] rfl (by decide) [] rfl 1 12 rfl rfl rfl rfl rfl ⟨(Nat.le_of_ble_eq_true rfl), (Nat.le_of_ble_eq_true rfl)⟩ hl.1 rfl rfl (Nat.le_of_ble_eq_true rfl) ⟨(Nat.le_of_ble_eq_true rfl), (Nat.le_of_ble_eq_true rfl)⟩ dX12_clashIn_29) (fun w5148 => ?_)
  exact k_vret C hr hlk Wd () trivial [1, 2, 0] rfl (by decide) [] rfl (by decide) (by decide) dX12_clashIn_32
set_option maxHeartbeats 4000000 in
set_option maxRecDepth 100000 in
theorem kcX12_reads (l : Launch) (D : va_G) (h0 : Nat) (sz : Nat)  : Met l yX12_reads (Cond.code yX12_reads cX12_reads 5 (some .int) :: gG) { frames := 1, cells := 0, slots := 0, locals := 64 } (cPre D [] [] sz [.ref h0, .int 0, .int 0]) (vp_Si (fun r => r = 0)) 0 0 (fun _ => False) := by
  refine Met.ofW (cc := cX12_reads) (maxL := 5) (ret := (some .int)) (by decide) rfl ?_
  intro p e s m args below meth c s₁ B hml hv
  obtain ⟨rfl, aks, rfl, Wd⟩ := k_enter hv
  have C : CallFix p m c cX12_reads 5 s _ gG RX12 := ⟨B.exec, B.bytes, hml, findClass_of_methodNamed B.named, fun w h => atoms_spec (ws := Cond.code yX12_reads cX12_reads 5 (some .int) :: gG) B.pre w (List.mem_cons_of_mem _ h)⟩
  have hr := B.returns
  have hlk := B.notSynchronized
  obtain ⟨A, Wd⟩ : ∃ A, wX D [] s [] s.heap A s.heap [] := ⟨_, Wd⟩
  refine k_locals (Nat.le_of_ble_eq_true rfl) [(0, .ref h0), (1, .int 0), (2, .int 0)] rfl (fun ls hl => ?_)
  refine lv_iconst (v := 0) C.1 C.2.1 dX12_reads_0 (by decide) ?_
  refine lv_istore_n (lv' := [(3, .int 0), (0, .ref h0), (1, .int 0), (2, .int 0)]) C.1 C.2.1 dX12_reads_1 rfl hl (by decide) rfl (fun ls hl => ?_)
  refine lv_iload_n C.1 C.2.1 dX12_reads_2 rfl (lv_at hl 2 rfl) ?_
  refine lv_istore (lv' := [(4, .int 0), (3, .int 0), (0, .ref h0), (1, .int 0), (2, .int 0)]) C.1 C.2.1 dX12_reads_3 hl (by decide) rfl (fun ls hl => ?_)
  refine lv_iload C.1 C.2.1 dX12_reads_5 (lv_at hl 0 rfl) ?_
  refine lv_iload_n C.1 C.2.1 dX12_reads_7 rfl (lv_at hl 4 rfl) ?_
  refine lv_icmp_ge (tgt := 53) C.1 C.2.1 dX12_reads_8 (by decide) (fun _ => ?_) (fun c5151 => absurd c5151 (by decide))
  refine lv_iload_n C.1 C.2.1 dX12_reads_53 rfl (lv_at hl 1 rfl) ?_
  exact k_zretP C hr hlk rfl rfl dX12_reads_54
set_option maxHeartbeats 4000000 in
set_option maxRecDepth 100000 in
theorem kcX12_sets (l : Launch) (D : va_G) (h0 : Nat) (sz : Nat)  : Met l yX12_sets (Cond.code yX12_sets cX12_sets 6 (some .boolean) :: gG) { frames := 1, cells := 0, slots := 0, locals := 64 } (cPre D [] [] sz [.ref h0, .int 0, .int 0, .int 0]) (vp_Si (fun r => r = 0)) 0 0 (fun _ => False) := by
  refine Met.ofW (cc := cX12_sets) (maxL := 6) (ret := (some .boolean)) (by decide) rfl ?_
  intro p e s m args below meth c s₁ B hml hv
  obtain ⟨rfl, aks, rfl, Wd⟩ := k_enter hv
  have C : CallFix p m c cX12_sets 6 s _ gG RX12 := ⟨B.exec, B.bytes, hml, findClass_of_methodNamed B.named, fun w h => atoms_spec (ws := Cond.code yX12_sets cX12_sets 6 (some .boolean) :: gG) B.pre w (List.mem_cons_of_mem _ h)⟩
  have hr := B.returns
  have hlk := B.notSynchronized
  obtain ⟨A, Wd⟩ : ∃ A, wX D [] s [] s.heap A s.heap [] := ⟨_, Wd⟩
  refine k_locals (Nat.le_of_ble_eq_true rfl) [(0, .ref h0), (1, .int 0), (2, .int 0), (3, .int 0)] rfl (fun ls hl => ?_)
  refine lv_iconst (v := 0) C.1 C.2.1 dX12_sets_0 (by decide) ?_
  refine lv_istore (lv' := [(4, .int 0), (0, .ref h0), (1, .int 0), (2, .int 0), (3, .int 0)]) C.1 C.2.1 dX12_sets_1 hl (by decide) rfl (fun ls hl => ?_)
  refine lv_iload_n C.1 C.2.1 dX12_sets_3 rfl (lv_at hl 2 rfl) ?_
  refine lv_istore (lv' := [(5, .int 0), (4, .int 0), (0, .ref h0), (1, .int 0), (2, .int 0), (3, .int 0)]) C.1 C.2.1 dX12_sets_4 hl (by decide) rfl (fun ls hl => ?_)
  refine lv_iload C.1 C.2.1 dX12_sets_6 (lv_at hl 0 rfl) ?_
  refine lv_iload_n C.1 C.2.1 dX12_sets_8 rfl (lv_at hl 4 rfl) ?_
  refine lv_icmp_ge (tgt := 44) C.1 C.2.1 dX12_sets_9 (by decide) (fun _ => ?_) (fun c5155 => absurd c5155 (by decide))
  refine lv_iload C.1 C.2.1 dX12_sets_44 (lv_at hl 1 rfl) ?_
  exact k_zretP C hr hlk rfl rfl dX12_sets_46
set_option maxHeartbeats 4000000 in
set_option maxRecDepth 100000 in
theorem kcX12_sets_v1 (l : Launch) (D : va_G) (h0 : Nat) (sz : Nat)  : Met l yX12_sets (Cond.code yX12_sets cX12_sets 6 (some .boolean) :: gG) { frames := 1, cells := 0, slots := 0, locals := 64 } (cPre D [] [] sz [.ref h0, .int 0, .int 0, .int 1]) (vp_Si (fun r => r = 0)) 0 0 (fun _ => False) := by
  refine Met.ofW (cc := cX12_sets) (maxL := 6) (ret := (some .boolean)) (by decide) rfl ?_
  intro p e s m args below meth c s₁ B hml hv
  obtain ⟨rfl, aks, rfl, Wd⟩ := k_enter hv
  have C : CallFix p m c cX12_sets 6 s _ gG RX12 := ⟨B.exec, B.bytes, hml, findClass_of_methodNamed B.named, fun w h => atoms_spec (ws := Cond.code yX12_sets cX12_sets 6 (some .boolean) :: gG) B.pre w (List.mem_cons_of_mem _ h)⟩
  have hr := B.returns
  have hlk := B.notSynchronized
  obtain ⟨A, Wd⟩ : ∃ A, wX D [] s [] s.heap A s.heap [] := ⟨_, Wd⟩
  refine k_locals (Nat.le_of_ble_eq_true rfl) [(0, .ref h0), (1, .int 0), (2, .int 0), (3, .int 1)] rfl (fun ls hl => ?_)
  refine lv_iconst (v := 0) C.1 C.2.1 dX12_sets_0 (by decide) ?_
  refine lv_istore (lv' := [(4, .int 0), (0, .ref h0), (1, .int 0), (2, .int 0), (3, .int 1)]) C.1 C.2.1 dX12_sets_1 hl (by decide) rfl (fun ls hl => ?_)
  refine lv_iload_n C.1 C.2.1 dX12_sets_3 rfl (lv_at hl 2 rfl) ?_
  refine lv_istore (lv' := [(5, .int 0), (4, .int 0), (0, .ref h0), (1, .int 0), (2, .int 0), (3, .int 1)]) C.1 C.2.1 dX12_sets_4 hl (by decide) rfl (fun ls hl => ?_)
  refine lv_iload C.1 C.2.1 dX12_sets_6 (lv_at hl 0 rfl) ?_
  refine lv_iload_n C.1 C.2.1 dX12_sets_8 rfl (lv_at hl 4 rfl) ?_
  refine lv_icmp_ge (tgt := 44) C.1 C.2.1 dX12_sets_9 (by decide) (fun _ => ?_) (fun c5160 => absurd c5160 (by decide))
  refine lv_iload C.1 C.2.1 dX12_sets_44 (lv_at hl 1 rfl) ?_
  exact k_zretP C hr hlk rfl rfl dX12_sets_46
set_option maxHeartbeats 4000000 in
set_option maxRecDepth 100000 in
theorem kcX12_sets_v2 (l : Launch) (D : va_G) (h0 : Nat) (sz : Nat)  : Met l yX12_sets (Cond.code yX12_sets cX12_sets 6 (some .boolean) :: gG) { frames := 1, cells := 0, slots := 0, locals := 64 } (cPre D [] [] sz [.ref h0, .int 0, .int 0, .int 2]) (vp_Si (fun r => r = 0)) 0 0 (fun _ => False) := by
  refine Met.ofW (cc := cX12_sets) (maxL := 6) (ret := (some .boolean)) (by decide) rfl ?_
  intro p e s m args below meth c s₁ B hml hv
  obtain ⟨rfl, aks, rfl, Wd⟩ := k_enter hv
  have C : CallFix p m c cX12_sets 6 s _ gG RX12 := ⟨B.exec, B.bytes, hml, findClass_of_methodNamed B.named, fun w h => atoms_spec (ws := Cond.code yX12_sets cX12_sets 6 (some .boolean) :: gG) B.pre w (List.mem_cons_of_mem _ h)⟩
  have hr := B.returns
  have hlk := B.notSynchronized
  obtain ⟨A, Wd⟩ : ∃ A, wX D [] s [] s.heap A s.heap [] := ⟨_, Wd⟩
  refine k_locals (Nat.le_of_ble_eq_true rfl) [(0, .ref h0), (1, .int 0), (2, .int 0), (3, .int 2)] rfl (fun ls hl => ?_)
  refine lv_iconst (v := 0) C.1 C.2.1 dX12_sets_0 (by decide) ?_
  refine lv_istore (lv' := [(4, .int 0), (0, .ref h0), (1, .int 0), (2, .int 0), (3, .int 2)]) C.1 C.2.1 dX12_sets_1 hl (by decide) rfl (fun ls hl => ?_)
  refine lv_iload_n C.1 C.2.1 dX12_sets_3 rfl (lv_at hl 2 rfl) ?_
  refine lv_istore (lv' := [(5, .int 0), (4, .int 0), (0, .ref h0), (1, .int 0), (2, .int 0), (3, .int 2)]) C.1 C.2.1 dX12_sets_4 hl (by decide) rfl (fun ls hl => ?_)
  refine lv_iload C.1 C.2.1 dX12_sets_6 (lv_at hl 0 rfl) ?_
  refine lv_iload_n C.1 C.2.1 dX12_sets_8 rfl (lv_at hl 4 rfl) ?_
  refine lv_icmp_ge (tgt := 44) C.1 C.2.1 dX12_sets_9 (by decide) (fun _ => ?_) (fun c5165 => absurd c5165 (by decide))
  refine lv_iload C.1 C.2.1 dX12_sets_44 (lv_at hl 1 rfl) ?_
  exact k_zretP C hr hlk rfl rfl dX12_sets_46
set_option maxHeartbeats 4000000 in
set_option maxRecDepth 100000 in
theorem kcX12_sets_v3 (l : Launch) (D : va_G) (h0 : Nat) (sz : Nat)  : Met l yX12_sets (Cond.code yX12_sets cX12_sets 6 (some .boolean) :: gG) { frames := 1, cells := 0, slots := 0, locals := 64 } (cPre D [] [] sz [.ref h0, .int 0, .int 0, .int 3]) (vp_Si (fun r => r = 0)) 0 0 (fun _ => False) := by
  refine Met.ofW (cc := cX12_sets) (maxL := 6) (ret := (some .boolean)) (by decide) rfl ?_
  intro p e s m args below meth c s₁ B hml hv
  obtain ⟨rfl, aks, rfl, Wd⟩ := k_enter hv
  have C : CallFix p m c cX12_sets 6 s _ gG RX12 := ⟨B.exec, B.bytes, hml, findClass_of_methodNamed B.named, fun w h => atoms_spec (ws := Cond.code yX12_sets cX12_sets 6 (some .boolean) :: gG) B.pre w (List.mem_cons_of_mem _ h)⟩
  have hr := B.returns
  have hlk := B.notSynchronized
  obtain ⟨A, Wd⟩ : ∃ A, wX D [] s [] s.heap A s.heap [] := ⟨_, Wd⟩
  refine k_locals (Nat.le_of_ble_eq_true rfl) [(0, .ref h0), (1, .int 0), (2, .int 0), (3, .int 3)] rfl (fun ls hl => ?_)
  refine lv_iconst (v := 0) C.1 C.2.1 dX12_sets_0 (by decide) ?_
  refine lv_istore (lv' := [(4, .int 0), (0, .ref h0), (1, .int 0), (2, .int 0), (3, .int 3)]) C.1 C.2.1 dX12_sets_1 hl (by decide) rfl (fun ls hl => ?_)
  refine lv_iload_n C.1 C.2.1 dX12_sets_3 rfl (lv_at hl 2 rfl) ?_
  refine lv_istore (lv' := [(5, .int 0), (4, .int 0), (0, .ref h0), (1, .int 0), (2, .int 0), (3, .int 3)]) C.1 C.2.1 dX12_sets_4 hl (by decide) rfl (fun ls hl => ?_)
  refine lv_iload C.1 C.2.1 dX12_sets_6 (lv_at hl 0 rfl) ?_
  refine lv_iload_n C.1 C.2.1 dX12_sets_8 rfl (lv_at hl 4 rfl) ?_
  refine lv_icmp_ge (tgt := 44) C.1 C.2.1 dX12_sets_9 (by decide) (fun _ => ?_) (fun c5170 => absurd c5170 (by decide))
  refine lv_iload C.1 C.2.1 dX12_sets_44 (lv_at hl 1 rfl) ?_
  exact k_zretP C hr hlk rfl rfl dX12_sets_46
set_option maxHeartbeats 4000000 in
set_option maxRecDepth 100000 in
theorem kcX12_sets_v4 (l : Launch) (D : va_G) (h0 : Nat) (sz : Nat)  : Met l yX12_sets (Cond.code yX12_sets cX12_sets 6 (some .boolean) :: gG) { frames := 1, cells := 0, slots := 0, locals := 64 } (cPre D [] [] sz [.ref h0, .int 0, .int 0, .int 4]) (vp_Si (fun r => r = 0)) 0 0 (fun _ => False) := by
  refine Met.ofW (cc := cX12_sets) (maxL := 6) (ret := (some .boolean)) (by decide) rfl ?_
  intro p e s m args below meth c s₁ B hml hv
  obtain ⟨rfl, aks, rfl, Wd⟩ := k_enter hv
  have C : CallFix p m c cX12_sets 6 s _ gG RX12 := ⟨B.exec, B.bytes, hml, findClass_of_methodNamed B.named, fun w h => atoms_spec (ws := Cond.code yX12_sets cX12_sets 6 (some .boolean) :: gG) B.pre w (List.mem_cons_of_mem _ h)⟩
  have hr := B.returns
  have hlk := B.notSynchronized
  obtain ⟨A, Wd⟩ : ∃ A, wX D [] s [] s.heap A s.heap [] := ⟨_, Wd⟩
  refine k_locals (Nat.le_of_ble_eq_true rfl) [(0, .ref h0), (1, .int 0), (2, .int 0), (3, .int 4)] rfl (fun ls hl => ?_)
  refine lv_iconst (v := 0) C.1 C.2.1 dX12_sets_0 (by decide) ?_
  refine lv_istore (lv' := [(4, .int 0), (0, .ref h0), (1, .int 0), (2, .int 0), (3, .int 4)]) C.1 C.2.1 dX12_sets_1 hl (by decide) rfl (fun ls hl => ?_)
  refine lv_iload_n C.1 C.2.1 dX12_sets_3 rfl (lv_at hl 2 rfl) ?_
  refine lv_istore (lv' := [(5, .int 0), (4, .int 0), (0, .ref h0), (1, .int 0), (2, .int 0), (3, .int 4)]) C.1 C.2.1 dX12_sets_4 hl (by decide) rfl (fun ls hl => ?_)
  refine lv_iload C.1 C.2.1 dX12_sets_6 (lv_at hl 0 rfl) ?_
  refine lv_iload_n C.1 C.2.1 dX12_sets_8 rfl (lv_at hl 4 rfl) ?_
  refine lv_icmp_ge (tgt := 44) C.1 C.2.1 dX12_sets_9 (by decide) (fun _ => ?_) (fun c5175 => absurd c5175 (by decide))
  refine lv_iload C.1 C.2.1 dX12_sets_44 (lv_at hl 1 rfl) ?_
  exact k_zretP C hr hlk rfl rfl dX12_sets_46
set_option maxHeartbeats 4000000 in
set_option maxRecDepth 100000 in
theorem kcX12_sets_v5 (l : Launch) (D : va_G) (h0 : Nat) (sz : Nat)  : Met l yX12_sets (Cond.code yX12_sets cX12_sets 6 (some .boolean) :: gG) { frames := 1, cells := 0, slots := 0, locals := 64 } (cPre D [] [] sz [.ref h0, .int 0, .int 0, .int 5]) (vp_Si (fun r => r = 0)) 0 0 (fun _ => False) := by
  refine Met.ofW (cc := cX12_sets) (maxL := 6) (ret := (some .boolean)) (by decide) rfl ?_
  intro p e s m args below meth c s₁ B hml hv
  obtain ⟨rfl, aks, rfl, Wd⟩ := k_enter hv
  have C : CallFix p m c cX12_sets 6 s _ gG RX12 := ⟨B.exec, B.bytes, hml, findClass_of_methodNamed B.named, fun w h => atoms_spec (ws := Cond.code yX12_sets cX12_sets 6 (some .boolean) :: gG) B.pre w (List.mem_cons_of_mem _ h)⟩
  have hr := B.returns
  have hlk := B.notSynchronized
  obtain ⟨A, Wd⟩ : ∃ A, wX D [] s [] s.heap A s.heap [] := ⟨_, Wd⟩
  refine k_locals (Nat.le_of_ble_eq_true rfl) [(0, .ref h0), (1, .int 0), (2, .int 0), (3, .int 5)] rfl (fun ls hl => ?_)
  refine lv_iconst (v := 0) C.1 C.2.1 dX12_sets_0 (by decide) ?_
  refine lv_istore (lv' := [(4, .int 0), (0, .ref h0), (1, .int 0), (2, .int 0), (3, .int 5)]) C.1 C.2.1 dX12_sets_1 hl (by decide) rfl (fun ls hl => ?_)
  refine lv_iload_n C.1 C.2.1 dX12_sets_3 rfl (lv_at hl 2 rfl) ?_
  refine lv_istore (lv' := [(5, .int 0), (4, .int 0), (0, .ref h0), (1, .int 0), (2, .int 0), (3, .int 5)]) C.1 C.2.1 dX12_sets_4 hl (by decide) rfl (fun ls hl => ?_)
  refine lv_iload C.1 C.2.1 dX12_sets_6 (lv_at hl 0 rfl) ?_
  refine lv_iload_n C.1 C.2.1 dX12_sets_8 rfl (lv_at hl 4 rfl) ?_
  refine lv_icmp_ge (tgt := 44) C.1 C.2.1 dX12_sets_9 (by decide) (fun _ => ?_) (fun c5180 => absurd c5180 (by decide))
  refine lv_iload C.1 C.2.1 dX12_sets_44 (lv_at hl 1 rfl) ?_
  exact k_zretP C hr hlk rfl rfl dX12_sets_46
set_option maxHeartbeats 4000000 in
set_option maxRecDepth 100000 in
theorem kcX12_inRow (l : Launch) (D : va_G) (h0 h1 h2 h3 h4 h5 h6 h7 h8 h9 h10 h11 h12 h13 h14 h15 h16 h17 h18 h19 h20 h21 h22 h23 h24 h25 : Nat) (sz : Nat)  : Met l yX12_inRow (Cond.code yX12_inRow cX12_inRow 3 (some .int) :: gG) { frames := 2, cells := 0, slots := 0, locals := 89 } (cPre D [] [(h0, .inr (12, [.ref h1, .ref h2, .ref h3, .ref h4, .int 0, .int 0, .ref h5, .int 0, .int 0, .int 0, .int 0, .int 0, .int 0, .int 0, .int 0, .int 0, .int 0, .int 0, .int 0, .int 0, .int (-1), .int 0, .int 0, .int 0, .ref h6, .ref h7, .ref h8, .ref h9, .ref h10, .ref h11, .int 0, .int 0, .int 0, .int 0, .ref h12, .ref h13, .ref h14, .int 0, .int 0, .int 0, .int 0, .ref h15, .ref h16, .int 0, .ref h17, .ref h18, .int 0, .ref h19, .int 0, .ref h20, .ref h21, .ref h22, .int 0, .ref h23, .ref h24, .ref h25]))] sz [.ref h0]) (vp_Si (fun r => r = 0)) 0 0 (fun _ => False) := by
  refine Met.ofW (cc := cX12_inRow) (maxL := 3) (ret := (some .int)) (by decide) rfl ?_
  intro p e s m args below meth c s₁ B hml hv
  obtain ⟨rfl, aks, rfl, Wd⟩ := k_enter hv
  have C : CallFix p m c cX12_inRow 3 s _ gG RX12 := ⟨B.exec, B.bytes, hml, findClass_of_methodNamed B.named, fun w h => atoms_spec (ws := Cond.code yX12_inRow cX12_inRow 3 (some .int) :: gG) B.pre w (List.mem_cons_of_mem _ h)⟩
  have hr := B.returns
  have hlk := B.notSynchronized
  obtain ⟨A, Wd⟩ : ∃ A, wX D [] s [(h0, .inr (12, [.ref h1, .ref h2, .ref h3, .ref h4, .int 0, .int 0, .ref h5, .int 0, .int 0, .int 0, .int 0, .int 0, .int 0, .int 0, .int 0, .int 0, .int 0, .int 0, .int 0, .int 0, .int (-1), .int 0, .int 0, .int 0, .ref h6, .ref h7, .ref h8, .ref h9, .ref h10, .ref h11, .int 0, .int 0, .int 0, .int 0, .ref h12, .ref h13, .ref h14, .int 0, .int 0, .int 0, .int 0, .ref h15, .ref h16, .int 0, .ref h17, .ref h18, .int 0, .ref h19, .int 0, .ref h20, .ref h21, .ref h22, .int 0, .ref h23, .ref h24, .ref h25]))] s.heap A s.heap [] := ⟨_, Wd⟩
  refine k_locals (Nat.le_of_ble_eq_true rfl) [(0, .ref h0)] rfl (fun ls hl => ?_)
  refine lv_aload_n C.1 C.2.1 dX12_inRow_0 rfl (lv_at hl 0 rfl) ?_
  refine lv_iconst (v := 0) C.1 C.2.1 dX12_inRow_1 (by decide) ?_
  refine lv_aload_n C.1 C.2.1 dX12_inRow_2 rfl (lv_at hl 0 rfl) ?_
  refine k_get C Wd KX12 0 4 rfl (by decide) fl_X12_98 rfl dX12_inRow_3 ?_
  refine k_pi (k_runV (rest := []) C aks Wd cs_X12_379 (kcX12_reads l D h0 _ ) [] rfl (by decide) [] rfl 0 12 rfl rfl rfl rfl rfl ⟨(Nat.le_of_ble_eq_true rfl), (Nat.le_of_ble_eq_true rfl)⟩ hl.1 rfl rfl (Nat.le_of_ble_eq_true rfl) ⟨(Nat.le_of_ble_eq_true rfl), (Nat.le_of_ble_eq_true rfl)⟩ dX12_inRow_6) (fun r w5184 => ?_)
  obtain rfl := w5184
  refine lv_istore_n (lv' := [(1, .int 0), (0, .ref h0)]) C.1 C.2.1 dX12_inRow_9 rfl hl (by decide) rfl (fun ls hl => ?_)
  refine lv_iconst (v := 0) C.1 C.2.1 dX12_inRow_10 (by decide) ?_
  refine lv_istore_n (lv' := [(2, .int 0), (1, .int 0), (0, .ref h0)]) C.1 C.2.1 dX12_inRow_11 rfl hl (by decide) rfl (fun ls hl => ?_)
  refine lv_iload_n C.1 C.2.1 dX12_inRow_12 rfl (lv_at hl 0 rfl) ?_
  refine lv_bipush (v := 6) C.1 C.2.1 dX12_inRow_13 (by decide) ?_
  refine lv_icmp_ge (tgt := 47) C.1 C.2.1 dX12_inRow_15 (by decide) (fun c5185 => absurd c5185 (by decide)) (fun _ => ?_)
  refine lv_iload_n C.1 C.2.1 dX12_inRow_18 rfl (lv_at hl 1 rfl) ?_
  refine lv_aload_n C.1 C.2.1 dX12_inRow_19 rfl (lv_at hl 2 rfl) ?_
  refine lv_iconst (v := 0) C.1 C.2.1 dX12_inRow_20 (by decide) ?_
  refine lv_aload_n C.1 C.2.1 dX12_inRow_21 rfl (lv_at hl 2 rfl) ?_
  refine k_get C Wd KX12 0 4 rfl (by decide) fl_X12_98 rfl dX12_inRow_22 ?_
  refine lv_iload_n C.1 C.2.1 dX12_inRow_25 rfl (lv_at hl 0 rfl) ?_
  refine k_pi (k_runV (rest := [.int 0]) C aks Wd cs_X12_409 (kcX12_sets l D h0 _ ) [] rfl (by decide) [] rfl 0 12 rfl rfl rfl rfl rfl ⟨(Nat.le_of_ble_eq_true rfl), (Nat.le_of_ble_eq_true rfl)⟩ hl.1 rfl rfl (Nat.le_of_ble_eq_true rfl) ⟨(Nat.le_of_ble_eq_true rfl), (Nat.le_of_ble_eq_true rfl)⟩ dX12_inRow_26) (fun r w5186 => ?_)
  obtain rfl := w5186
  refine lv_if_eq (tgt := 38) C.1 C.2.1 dX12_inRow_29 (by decide) (fun _ => ?_) (fun c5187 => absurd c5187 (by decide))
  refine lv_iconst (v := 0) C.1 C.2.1 dX12_inRow_38 (by decide) ?_
  refine k_ior (v := 0) C (by decide) dX12_inRow_39 ?_
  refine lv_istore_n (lv' := [(1, .int 0), (2, .int 0), (0, .ref h0)]) C.1 C.2.1 dX12_inRow_40 rfl hl (by decide) rfl (fun ls hl => ?_)
  refine lv_iinc (v := 1) (lv' := [(2, .int 1), (1, .int 0), (0, .ref h0)]) C.1 C.2.1 dX12_inRow_41 hl (k := 1) rfl (by decide) (by decide) rfl (fun ls hl => ?_)
  refine lv_goto (tgt := 12) C.1 C.2.1 dX12_inRow_44 (by decide) ?_
  refine lv_iload_n C.1 C.2.1 dX12_inRow_12 rfl (lv_at hl 0 rfl) ?_
  refine lv_bipush (v := 6) C.1 C.2.1 dX12_inRow_13 (by decide) ?_
  refine lv_icmp_ge (tgt := 47) C.1 C.2.1 dX12_inRow_15 (by decide) (fun c5188 => absurd c5188 (by decide)) (fun _ => ?_)
  refine lv_iload_n C.1 C.2.1 dX12_inRow_18 rfl (lv_at hl 1 rfl) ?_
  refine lv_aload_n C.1 C.2.1 dX12_inRow_19 rfl (lv_at hl 2 rfl) ?_
  refine lv_iconst (v := 0) C.1 C.2.1 dX12_inRow_20 (by decide) ?_
  refine lv_aload_n C.1 C.2.1 dX12_inRow_21 rfl (lv_at hl 2 rfl) ?_
  refine k_get C Wd KX12 0 4 rfl (by decide) fl_X12_98 rfl dX12_inRow_22 ?_
  refine lv_iload_n C.1 C.2.1 dX12_inRow_25 rfl (lv_at hl 0 rfl) ?_
  refine k_pi (k_runV (rest := [.int 0]) C aks Wd cs_X12_409 (kcX12_sets_v1 l D h0 _ ) [] rfl (by decide) [] rfl 0 12 rfl rfl rfl rfl rfl ⟨(Nat.le_of_ble_eq_true rfl), (Nat.le_of_ble_eq_true rfl)⟩ hl.1 rfl rfl (Nat.le_of_ble_eq_true rfl) ⟨(Nat.le_of_ble_eq_true rfl), (Nat.le_of_ble_eq_true rfl)⟩ dX12_inRow_26) (fun r w5189 => ?_)
  obtain rfl := w5189
  refine lv_if_eq (tgt := 38) C.1 C.2.1 dX12_inRow_29 (by decide) (fun _ => ?_) (fun c5190 => absurd c5190 (by decide))
  refine lv_iconst (v := 0) C.1 C.2.1 dX12_inRow_38 (by decide) ?_
  refine k_ior (v := 0) C (by decide) dX12_inRow_39 ?_
  refine lv_istore_n (lv' := [(1, .int 0), (2, .int 1), (0, .ref h0)]) C.1 C.2.1 dX12_inRow_40 rfl hl (by decide) rfl (fun ls hl => ?_)
  refine lv_iinc (v := 2) (lv' := [(2, .int 2), (1, .int 0), (0, .ref h0)]) C.1 C.2.1 dX12_inRow_41 hl (k := 1) rfl (by decide) (by decide) rfl (fun ls hl => ?_)
  refine lv_goto (tgt := 12) C.1 C.2.1 dX12_inRow_44 (by decide) ?_
  refine lv_iload_n C.1 C.2.1 dX12_inRow_12 rfl (lv_at hl 0 rfl) ?_
  refine lv_bipush (v := 6) C.1 C.2.1 dX12_inRow_13 (by decide) ?_
  refine lv_icmp_ge (tgt := 47) C.1 C.2.1 dX12_inRow_15 (by decide) (fun c5191 => absurd c5191 (by decide)) (fun _ => ?_)
  refine lv_iload_n C.1 C.2.1 dX12_inRow_18 rfl (lv_at hl 1 rfl) ?_
  refine lv_aload_n C.1 C.2.1 dX12_inRow_19 rfl (lv_at hl 2 rfl) ?_
  refine lv_iconst (v := 0) C.1 C.2.1 dX12_inRow_20 (by decide) ?_
  refine lv_aload_n C.1 C.2.1 dX12_inRow_21 rfl (lv_at hl 2 rfl) ?_
  refine k_get C Wd KX12 0 4 rfl (by decide) fl_X12_98 rfl dX12_inRow_22 ?_
  refine lv_iload_n C.1 C.2.1 dX12_inRow_25 rfl (lv_at hl 0 rfl) ?_
  refine k_pi (k_runV (rest := [.int 0]) C aks Wd cs_X12_409 (kcX12_sets_v2 l D h0 _ ) [] rfl (by decide) [] rfl 0 12 rfl rfl rfl rfl rfl ⟨(Nat.le_of_ble_eq_true rfl), (Nat.le_of_ble_eq_true rfl)⟩ hl.1 rfl rfl (Nat.le_of_ble_eq_true rfl) ⟨(Nat.le_of_ble_eq_true rfl), (Nat.le_of_ble_eq_true rfl)⟩ dX12_inRow_26) (fun r w5192 => ?_)
  obtain rfl := w5192
  refine lv_if_eq (tgt := 38) C.1 C.2.1 dX12_inRow_29 (by decide) (fun _ => ?_) (fun c5193 => absurd c5193 (by decide))
  refine lv_iconst (v := 0) C.1 C.2.1 dX12_inRow_38 (by decide) ?_
  refine k_ior (v := 0) C (by decide) dX12_inRow_39 ?_
  refine lv_istore_n (lv' := [(1, .int 0), (2, .int 2), (0, .ref h0)]) C.1 C.2.1 dX12_inRow_40 rfl hl (by decide) rfl (fun ls hl => ?_)
  refine lv_iinc (v := 3) (lv' := [(2, .int 3), (1, .int 0), (0, .ref h0)]) C.1 C.2.1 dX12_inRow_41 hl (k := 1) rfl (by decide) (by decide) rfl (fun ls hl => ?_)
  refine lv_goto (tgt := 12) C.1 C.2.1 dX12_inRow_44 (by decide) ?_
  refine lv_iload_n C.1 C.2.1 dX12_inRow_12 rfl (lv_at hl 0 rfl) ?_
  refine lv_bipush (v := 6) C.1 C.2.1 dX12_inRow_13 (by decide) ?_
  refine lv_icmp_ge (tgt := 47) C.1 C.2.1 dX12_inRow_15 (by decide) (fun c5194 => absurd c5194 (by decide)) (fun _ => ?_)
  refine lv_iload_n C.1 C.2.1 dX12_inRow_18 rfl (lv_at hl 1 rfl) ?_
  refine lv_aload_n C.1 C.2.1 dX12_inRow_19 rfl (lv_at hl 2 rfl) ?_
  refine lv_iconst (v := 0) C.1 C.2.1 dX12_inRow_20 (by decide) ?_
  refine lv_aload_n C.1 C.2.1 dX12_inRow_21 rfl (lv_at hl 2 rfl) ?_
  refine k_get C Wd KX12 0 4 rfl (by decide) fl_X12_98 rfl dX12_inRow_22 ?_
  refine lv_iload_n C.1 C.2.1 dX12_inRow_25 rfl (lv_at hl 0 rfl) ?_
  refine k_pi (k_runV (rest := [.int 0]) C aks Wd cs_X12_409 (kcX12_sets_v3 l D h0 _ ) [] rfl (by decide) [] rfl 0 12 rfl rfl rfl rfl rfl ⟨(Nat.le_of_ble_eq_true rfl), (Nat.le_of_ble_eq_true rfl)⟩ hl.1 rfl rfl (Nat.le_of_ble_eq_true rfl) ⟨(Nat.le_of_ble_eq_true rfl), (Nat.le_of_ble_eq_true rfl)⟩ dX12_inRow_26) (fun r w5195 => ?_)
  obtain rfl := w5195
  refine lv_if_eq (tgt := 38) C.1 C.2.1 dX12_inRow_29 (by decide) (fun _ => ?_) (fun c5196 => absurd c5196 (by decide))
  refine lv_iconst (v := 0) C.1 C.2.1 dX12_inRow_38 (by decide) ?_
  refine k_ior (v := 0) C (by decide) dX12_inRow_39 ?_
  refine lv_istore_n (lv' := [(1, .int 0), (2, .int 3), (0, .ref h0)]) C.1 C.2.1 dX12_inRow_40 rfl hl (by decide) rfl (fun ls hl => ?_)
  refine lv_iinc (v := 4) (lv' := [(2, .int 4), (1, .int 0), (0, .ref h0)]) C.1 C.2.1 dX12_inRow_41 hl (k := 1) rfl (by decide) (by decide) rfl (fun ls hl => ?_)
  refine lv_goto (tgt := 12) C.1 C.2.1 dX12_inRow_44 (by decide) ?_
  refine lv_iload_n C.1 C.2.1 dX12_inRow_12 rfl (lv_at hl 0 rfl) ?_
  refine lv_bipush (v := 6) C.1 C.2.1 dX12_inRow_13 (by decide) ?_
  refine lv_icmp_ge (tgt := 47) C.1 C.2.1 dX12_inRow_15 (by decide) (fun c5197 => absurd c5197 (by decide)) (fun _ => ?_)
  refine lv_iload_n C.1 C.2.1 dX12_inRow_18 rfl (lv_at hl 1 rfl) ?_
  refine lv_aload_n C.1 C.2.1 dX12_inRow_19 rfl (lv_at hl 2 rfl) ?_
  refine lv_iconst (v := 0) C.1 C.2.1 dX12_inRow_20 (by decide) ?_
  refine lv_aload_n C.1 C.2.1 dX12_inRow_21 rfl (lv_at hl 2 rfl) ?_
  refine k_get C Wd KX12 0 4 rfl (by decide) fl_X12_98 rfl dX12_inRow_22 ?_
  refine lv_iload_n C.1 C.2.1 dX12_inRow_25 rfl (lv_at hl 0 rfl) ?_
  refine k_pi (k_runV (rest := [.int 0]) C aks Wd cs_X12_409 (kcX12_sets_v4 l D h0 _ ) [] rfl (by decide) [] rfl 0 12 rfl rfl rfl rfl rfl ⟨(Nat.le_of_ble_eq_true rfl), (Nat.le_of_ble_eq_true rfl)⟩ hl.1 rfl rfl (Nat.le_of_ble_eq_true rfl) ⟨(Nat.le_of_ble_eq_true rfl), (Nat.le_of_ble_eq_true rfl)⟩ dX12_inRow_26) (fun r w5198 => ?_)
  obtain rfl := w5198
  refine lv_if_eq (tgt := 38) C.1 C.2.1 dX12_inRow_29 (by decide) (fun _ => ?_) (fun c5199 => absurd c5199 (by decide))
  refine lv_iconst (v := 0) C.1 C.2.1 dX12_inRow_38 (by decide) ?_
  refine k_ior (v := 0) C (by decide) dX12_inRow_39 ?_
  refine lv_istore_n (lv' := [(1, .int 0), (2, .int 4), (0, .ref h0)]) C.1 C.2.1 dX12_inRow_40 rfl hl (by decide) rfl (fun ls hl => ?_)
  refine lv_iinc (v := 5) (lv' := [(2, .int 5), (1, .int 0), (0, .ref h0)]) C.1 C.2.1 dX12_inRow_41 hl (k := 1) rfl (by decide) (by decide) rfl (fun ls hl => ?_)
  refine lv_goto (tgt := 12) C.1 C.2.1 dX12_inRow_44 (by decide) ?_
  refine lv_iload_n C.1 C.2.1 dX12_inRow_12 rfl (lv_at hl 0 rfl) ?_
  refine lv_bipush (v := 6) C.1 C.2.1 dX12_inRow_13 (by decide) ?_
  refine lv_icmp_ge (tgt := 47) C.1 C.2.1 dX12_inRow_15 (by decide) (fun c5200 => absurd c5200 (by decide)) (fun _ => ?_)
  refine lv_iload_n C.1 C.2.1 dX12_inRow_18 rfl (lv_at hl 1 rfl) ?_
  refine lv_aload_n C.1 C.2.1 dX12_inRow_19 rfl (lv_at hl 2 rfl) ?_
  refine lv_iconst (v := 0) C.1 C.2.1 dX12_inRow_20 (by decide) ?_
  refine lv_aload_n C.1 C.2.1 dX12_inRow_21 rfl (lv_at hl 2 rfl) ?_
  refine k_get C Wd KX12 0 4 rfl (by decide) fl_X12_98 rfl dX12_inRow_22 ?_
  refine lv_iload_n C.1 C.2.1 dX12_inRow_25 rfl (lv_at hl 0 rfl) ?_
  refine k_pi (k_runV (rest := [.int 0]) C aks Wd cs_X12_409 (kcX12_sets_v5 l D h0 _ ) [] rfl (by decide) [] rfl 0 12 rfl rfl rfl rfl rfl ⟨(Nat.le_of_ble_eq_true rfl), (Nat.le_of_ble_eq_true rfl)⟩ hl.1 rfl rfl (Nat.le_of_ble_eq_true rfl) ⟨(Nat.le_of_ble_eq_true rfl), (Nat.le_of_ble_eq_true rfl)⟩ dX12_inRow_26) (fun r w5201 => ?_)
  obtain rfl := w5201
  refine lv_if_eq (tgt := 38) C.1 C.2.1 dX12_inRow_29 (by decide) (fun _ => ?_) (fun c5202 => absurd c5202 (by decide))
  refine lv_iconst (v := 0) C.1 C.2.1 dX12_inRow_38 (by decide) ?_
  refine k_ior (v := 0) C (by decide) dX12_inRow_39 ?_
  refine lv_istore_n (lv' := [(1, .int 0), (2, .int 5), (0, .ref h0)]) C.1 C.2.1 dX12_inRow_40 rfl hl (by decide) rfl (fun ls hl => ?_)
  refine lv_iinc (v := 6) (lv' := [(2, .int 6), (1, .int 0), (0, .ref h0)]) C.1 C.2.1 dX12_inRow_41 hl (k := 1) rfl (by decide) (by decide) rfl (fun ls hl => ?_)
  refine lv_goto (tgt := 12) C.1 C.2.1 dX12_inRow_44 (by decide) ?_
  refine lv_iload_n C.1 C.2.1 dX12_inRow_12 rfl (lv_at hl 0 rfl) ?_
  refine lv_bipush (v := 6) C.1 C.2.1 dX12_inRow_13 (by decide) ?_
  refine lv_icmp_ge (tgt := 47) C.1 C.2.1 dX12_inRow_15 (by decide) (fun _ => ?_) (fun c5203 => absurd c5203 (by decide))
  refine lv_iload_n C.1 C.2.1 dX12_inRow_47 rfl (lv_at hl 1 rfl) ?_
  exact k_zretP C hr hlk rfl rfl dX12_inRow_48
set_option maxHeartbeats 4000000 in
set_option maxRecDepth 100000 in
theorem kcX12_deals (l : Launch) (D : va_G) (h0 h1 h2 h3 h4 h5 h6 h7 h8 h9 h10 h11 h12 h13 h14 h15 h16 h17 h18 h19 h20 h21 h22 h23 h24 h25 : Nat) (a24 : ClassId) (sz : Nat)  : Met l yX12_deals (Cond.code yX12_deals cX12_deals 9 (some .boolean) :: gG) { frames := 1, cells := 0, slots := 0, locals := 64 } (cPre D [(a24, .int)] [(h0, .inr (12, [.ref h1, .ref h2, .ref h3, .ref h4, .int 0, .int 0, .ref h5, .int 0, .int 0, .int 0, .int 0, .int 0, .int 0, .int 0, .int 0, .int 0, .int 0, .int 0, .int 0, .int 0, .int (-1), .int 0, .int 0, .int 0, .ref h6, .ref h7, .ref h8, .ref h9, .ref h10, .ref h11, .int 0, .int 0, .int 0, .int 0, .ref h12, .ref h13, .ref h14, .int 0, .int 0, .int 0, .int 0, .ref h15, .ref h16, .int 0, .ref h17, .ref h18, .int 0, .ref h19, .int 0, .ref h20, .ref h21, .ref h22, .int 0, .ref h23, .ref h24, .ref h25])), (h25, .inl (a24, 6, .inl (fun _ => 0)))] sz [.ref h0, .int 0, .int 0]) (va_Qi (fun (r : Int32) (_ : Unit) => r = 1) (fun u t => cB D (va_A [(h0, .inr (12, [.ref h1, .ref h2, .ref h3, .ref h4, .int 0, .int 0, .ref h5, .int 0, .int 0, .int 0, .int 0, .int 0, .int 0, .int 0, .int 0, .int 0, .int 0, .int 0, .int 0, .int 0, .int (-1), .int 0, .int 0, .int 0, .ref h6, .ref h7, .ref h8, .ref h9, .ref h10, .ref h11, .int 0, .int 0, .int 0, .int 0, .ref h12, .ref h13, .ref h14, .int 0, .int 0, .int 0, .int 0, .ref h15, .ref h16, .int 0, .ref h17, .ref h18, .int 0, .ref h19, .int 0, .ref h20, .ref h21, .ref h22, .int 0, .ref h23, .ref h24, .ref h25])), (h25, .inl (a24, 6, .inl (fun _ => 0)))] sz) ((fun (_ : Unit) => ([] : List (ClassId × FieldType))) u) ((fun (_ : Unit) => ([(h0, .inr (12, [.ref h1, .ref h2, .ref h3, .ref h4, .int 0, .int 0, .ref h5, .int 0, .int 0, .int 0, .int 0, .int 0, .int 0, .int 0, .int 0, .int 0, .int 0, .int 0, .int 0, .int 0, .int (-1), .int 0, .int 0, .int 0, .ref h6, .ref h7, .ref h8, .ref h9, .ref h10, .ref h11, .int 0, .int 0, .int 0, .int 0, .ref h12, .ref h13, .ref h14, .int 0, .int 0, .int 0, .int 0, .ref h15, .ref h16, .int 0, .ref h17, .ref h18, .int 0, .ref h19, .int 0, .ref h20, .ref h21, .ref h22, .int 0, .ref h23, .ref h24, .ref h25])), (h25, .inl (a24, 6, .inl (upd (upd (upd (upd (upd (upd (fun _ => 0) 5 (-1)) 4 (-1)) 3 (-1)) 2 (-1)) 1 (-1)) 0 (-1))))] : va_W)) u) t) (va_A [(h0, .inr (12, [.ref h1, .ref h2, .ref h3, .ref h4, .int 0, .int 0, .ref h5, .int 0, .int 0, .int 0, .int 0, .int 0, .int 0, .int 0, .int 0, .int 0, .int 0, .int 0, .int 0, .int 0, .int (-1), .int 0, .int 0, .int 0, .ref h6, .ref h7, .ref h8, .ref h9, .ref h10, .ref h11, .int 0, .int 0, .int 0, .int 0, .ref h12, .ref h13, .ref h14, .int 0, .int 0, .int 0, .int 0, .ref h15, .ref h16, .int 0, .ref h17, .ref h18, .int 0, .ref h19, .int 0, .ref h20, .ref h21, .ref h22, .int 0, .ref h23, .ref h24, .ref h25])), (h25, .inl (a24, 6, .inl (fun _ => 0)))] sz)) 0 0 (va_A [(h0, .inr (12, [.ref h1, .ref h2, .ref h3, .ref h4, .int 0, .int 0, .ref h5, .int 0, .int 0, .int 0, .int 0, .int 0, .int 0, .int 0, .int 0, .int 0, .int 0, .int 0, .int 0, .int 0, .int (-1), .int 0, .int 0, .int 0, .ref h6, .ref h7, .ref h8, .ref h9, .ref h10, .ref h11, .int 0, .int 0, .int 0, .int 0, .ref h12, .ref h13, .ref h14, .int 0, .int 0, .int 0, .int 0, .ref h15, .ref h16, .int 0, .ref h17, .ref h18, .int 0, .ref h19, .int 0, .ref h20, .ref h21, .ref h22, .int 0, .ref h23, .ref h24, .ref h25])), (h25, .inl (a24, 6, .inl (fun _ => 0)))] sz) := by
  refine Met.ofW (cc := cX12_deals) (maxL := 9) (ret := (some .boolean)) (by decide) rfl ?_
  intro p e s m args below meth c s₁ B hml hv
  obtain ⟨rfl, aks, rfl, Wd⟩ := k_enter hv
  have C : CallFix p m c cX12_deals 9 s _ gG RX12 := ⟨B.exec, B.bytes, hml, findClass_of_methodNamed B.named, fun w h => atoms_spec (ws := Cond.code yX12_deals cX12_deals 9 (some .boolean) :: gG) B.pre w (List.mem_cons_of_mem _ h)⟩
  have hr := B.returns
  have hlk := B.notSynchronized
  generalize va_A [(h0, .inr (12, [.ref h1, .ref h2, .ref h3, .ref h4, .int 0, .int 0, .ref h5, .int 0, .int 0, .int 0, .int 0, .int 0, .int 0, .int 0, .int 0, .int 0, .int 0, .int 0, .int 0, .int 0, .int (-1), .int 0, .int 0, .int 0, .ref h6, .ref h7, .ref h8, .ref h9, .ref h10, .ref h11, .int 0, .int 0, .int 0, .int 0, .ref h12, .ref h13, .ref h14, .int 0, .int 0, .int 0, .int 0, .ref h15, .ref h16, .int 0, .ref h17, .ref h18, .int 0, .ref h19, .int 0, .ref h20, .ref h21, .ref h22, .int 0, .ref h23, .ref h24, .ref h25])), (h25, .inl (a24, 6, .inl (fun _ => 0)))] s.heap.size = A at Wd ⊢
  refine k_locals (Nat.le_of_ble_eq_true rfl) [(0, .ref h0), (1, .int 0), (2, .int 0)] rfl (fun ls hl => ?_)
  refine lv_iconst (v := 1) C.1 C.2.1 dX12_deals_0 (by decide) ?_
  refine lv_istore_n (lv' := [(3, .int 1), (0, .ref h0), (1, .int 0), (2, .int 0)]) C.1 C.2.1 dX12_deals_1 rfl hl (by decide) rfl (fun ls hl => ?_)
  refine lv_iconst (v := 0) C.1 C.2.1 dX12_deals_2 (by decide) ?_
  refine lv_istore (lv' := [(4, .int 0), (3, .int 1), (0, .ref h0), (1, .int 0), (2, .int 0)]) C.1 C.2.1 dX12_deals_3 hl (by decide) rfl (fun ls hl => ?_)
  refine lv_iload C.1 C.2.1 dX12_deals_5 (lv_at hl 0 rfl) ?_
  refine lv_bipush (v := 6) C.1 C.2.1 dX12_deals_7 (by decide) ?_
  refine lv_icmp_ge (tgt := 36) C.1 C.2.1 dX12_deals_9 (by decide) (fun c5292 => absurd c5292 (by decide)) (fun _ => ?_)
  refine lv_iload_n C.1 C.2.1 dX12_deals_12 rfl (lv_at hl 1 rfl) ?_
  refine lv_iload_n C.1 C.2.1 dX12_deals_13 rfl (lv_at hl 3 rfl) ?_
  refine lv_iload C.1 C.2.1 dX12_deals_14 (lv_at hl 0 rfl) ?_
  refine k_ishr (v := 0) C (by decide) dX12_deals_16 ?_
  refine lv_iconst (v := 1) C.1 C.2.1 dX12_deals_17 (by decide) ?_
  refine k_iand (v := 0) C (by decide) dX12_deals_18 ?_
  refine lv_iconst (v := 1) C.1 C.2.1 dX12_deals_19 (by decide) ?_
  refine lv_icmp_ne (tgt := 27) C.1 C.2.1 dX12_deals_20 (by decide) (fun _ => ?_) (fun c5293 => absurd c5293 (by decide))
  refine lv_iconst (v := 1) C.1 C.2.1 dX12_deals_27 (by decide) ?_
  refine k_imul (v := 1) C (by decide) dX12_deals_28 ?_
  refine lv_istore_n (lv' := [(3, .int 1), (4, .int 0), (0, .ref h0), (1, .int 0), (2, .int 0)]) C.1 C.2.1 dX12_deals_29 rfl hl (by decide) rfl (fun ls hl => ?_)
  refine lv_iinc (v := 1) (lv' := [(4, .int 1), (3, .int 1), (0, .ref h0), (1, .int 0), (2, .int 0)]) C.1 C.2.1 dX12_deals_30 hl (k := 1) rfl (by decide) (by decide) rfl (fun ls hl => ?_)
  refine lv_goto (tgt := 5) C.1 C.2.1 dX12_deals_33 (by decide) ?_
  refine lv_iload C.1 C.2.1 dX12_deals_5 (lv_at hl 0 rfl) ?_
  refine lv_bipush (v := 6) C.1 C.2.1 dX12_deals_7 (by decide) ?_
  refine lv_icmp_ge (tgt := 36) C.1 C.2.1 dX12_deals_9 (by decide) (fun c5294 => absurd c5294 (by decide)) (fun _ => ?_)
  refine lv_iload_n C.1 C.2.1 dX12_deals_12 rfl (lv_at hl 1 rfl) ?_
  refine lv_iload_n C.1 C.2.1 dX12_deals_13 rfl (lv_at hl 3 rfl) ?_
  refine lv_iload C.1 C.2.1 dX12_deals_14 (lv_at hl 0 rfl) ?_
  refine k_ishr (v := 0) C (by decide) dX12_deals_16 ?_
  refine lv_iconst (v := 1) C.1 C.2.1 dX12_deals_17 (by decide) ?_
  refine k_iand (v := 0) C (by decide) dX12_deals_18 ?_
  refine lv_iconst (v := 1) C.1 C.2.1 dX12_deals_19 (by decide) ?_
  refine lv_icmp_ne (tgt := 27) C.1 C.2.1 dX12_deals_20 (by decide) (fun _ => ?_) (fun c5295 => absurd c5295 (by decide))
  refine lv_iconst (v := 1) C.1 C.2.1 dX12_deals_27 (by decide) ?_
  refine k_imul (v := 1) C (by decide) dX12_deals_28 ?_
  refine lv_istore_n (lv' := [(3, .int 1), (4, .int 1), (0, .ref h0), (1, .int 0), (2, .int 0)]) C.1 C.2.1 dX12_deals_29 rfl hl (by decide) rfl (fun ls hl => ?_)
  refine lv_iinc (v := 2) (lv' := [(4, .int 2), (3, .int 1), (0, .ref h0), (1, .int 0), (2, .int 0)]) C.1 C.2.1 dX12_deals_30 hl (k := 1) rfl (by decide) (by decide) rfl (fun ls hl => ?_)
  refine lv_goto (tgt := 5) C.1 C.2.1 dX12_deals_33 (by decide) ?_
  refine lv_iload C.1 C.2.1 dX12_deals_5 (lv_at hl 0 rfl) ?_
  refine lv_bipush (v := 6) C.1 C.2.1 dX12_deals_7 (by decide) ?_
  refine lv_icmp_ge (tgt := 36) C.1 C.2.1 dX12_deals_9 (by decide) (fun c5296 => absurd c5296 (by decide)) (fun _ => ?_)
  refine lv_iload_n C.1 C.2.1 dX12_deals_12 rfl (lv_at hl 1 rfl) ?_
  refine lv_iload_n C.1 C.2.1 dX12_deals_13 rfl (lv_at hl 3 rfl) ?_
  refine lv_iload C.1 C.2.1 dX12_deals_14 (lv_at hl 0 rfl) ?_
  refine k_ishr (v := 0) C (by decide) dX12_deals_16 ?_
  refine lv_iconst (v := 1) C.1 C.2.1 dX12_deals_17 (by decide) ?_
  refine k_iand (v := 0) C (by decide) dX12_deals_18 ?_
  refine lv_iconst (v := 1) C.1 C.2.1 dX12_deals_19 (by decide) ?_
  refine lv_icmp_ne (tgt := 27) C.1 C.2.1 dX12_deals_20 (by decide) (fun _ => ?_) (fun c5297 => absurd c5297 (by decide))
  refine lv_iconst (v := 1) C.1 C.2.1 dX12_deals_27 (by decide) ?_
  refine k_imul (v := 1) C (by decide) dX12_deals_28 ?_
  refine lv_istore_n (lv' := [(3, .int 1), (4, .int 2), (0, .ref h0), (1, .int 0), (2, .int 0)]) C.1 C.2.1 dX12_deals_29 rfl hl (by decide) rfl (fun ls hl => ?_)
  refine lv_iinc (v := 3) (lv' := [(4, .int 3), (3, .int 1), (0, .ref h0), (1, .int 0), (2, .int 0)]) C.1 C.2.1 dX12_deals_30 hl (k := 1) rfl (by decide) (by decide) rfl (fun ls hl => ?_)
  refine lv_goto (tgt := 5) C.1 C.2.1 dX12_deals_33 (by decide) ?_
  refine lv_iload C.1 C.2.1 dX12_deals_5 (lv_at hl 0 rfl) ?_
  refine lv_bipush (v := 6) C.1 C.2.1 dX12_deals_7 (by decide) ?_
  refine lv_icmp_ge (tgt := 36) C.1 C.2.1 dX12_deals_9 (by decide) (fun c5298 => absurd c5298 (by decide)) (fun _ => ?_)
  refine lv_iload_n C.1 C.2.1 dX12_deals_12 rfl (lv_at hl 1 rfl) ?_
  refine lv_iload_n C.1 C.2.1 dX12_deals_13 rfl (lv_at hl 3 rfl) ?_
  refine lv_iload C.1 C.2.1 dX12_deals_14 (lv_at hl 0 rfl) ?_
  refine k_ishr (v := 0) C (by decide) dX12_deals_16 ?_
  refine lv_iconst (v := 1) C.1 C.2.1 dX12_deals_17 (by decide) ?_
  refine k_iand (v := 0) C (by decide) dX12_deals_18 ?_
  refine lv_iconst (v := 1) C.1 C.2.1 dX12_deals_19 (by decide) ?_
  refine lv_icmp_ne (tgt := 27) C.1 C.2.1 dX12_deals_20 (by decide) (fun _ => ?_) (fun c5299 => absurd c5299 (by decide))
  refine lv_iconst (v := 1) C.1 C.2.1 dX12_deals_27 (by decide) ?_
  refine k_imul (v := 1) C (by decide) dX12_deals_28 ?_
  refine lv_istore_n (lv' := [(3, .int 1), (4, .int 3), (0, .ref h0), (1, .int 0), (2, .int 0)]) C.1 C.2.1 dX12_deals_29 rfl hl (by decide) rfl (fun ls hl => ?_)
  refine lv_iinc (v := 4) (lv' := [(4, .int 4), (3, .int 1), (0, .ref h0), (1, .int 0), (2, .int 0)]) C.1 C.2.1 dX12_deals_30 hl (k := 1) rfl (by decide) (by decide) rfl (fun ls hl => ?_)
  refine lv_goto (tgt := 5) C.1 C.2.1 dX12_deals_33 (by decide) ?_
  refine lv_iload C.1 C.2.1 dX12_deals_5 (lv_at hl 0 rfl) ?_
  refine lv_bipush (v := 6) C.1 C.2.1 dX12_deals_7 (by decide) ?_
  refine lv_icmp_ge (tgt := 36) C.1 C.2.1 dX12_deals_9 (by decide) (fun c5300 => absurd c5300 (by decide)) (fun _ => ?_)
  refine lv_iload_n C.1 C.2.1 dX12_deals_12 rfl (lv_at hl 1 rfl) ?_
  refine lv_iload_n C.1 C.2.1 dX12_deals_13 rfl (lv_at hl 3 rfl) ?_
  refine lv_iload C.1 C.2.1 dX12_deals_14 (lv_at hl 0 rfl) ?_
  refine k_ishr (v := 0) C (by decide) dX12_deals_16 ?_
  refine lv_iconst (v := 1) C.1 C.2.1 dX12_deals_17 (by decide) ?_
  refine k_iand (v := 0) C (by decide) dX12_deals_18 ?_
  refine lv_iconst (v := 1) C.1 C.2.1 dX12_deals_19 (by decide) ?_
  refine lv_icmp_ne (tgt := 27) C.1 C.2.1 dX12_deals_20 (by decide) (fun _ => ?_) (fun c5301 => absurd c5301 (by decide))
  refine lv_iconst (v := 1) C.1 C.2.1 dX12_deals_27 (by decide) ?_
  refine k_imul (v := 1) C (by decide) dX12_deals_28 ?_
  refine lv_istore_n (lv' := [(3, .int 1), (4, .int 4), (0, .ref h0), (1, .int 0), (2, .int 0)]) C.1 C.2.1 dX12_deals_29 rfl hl (by decide) rfl (fun ls hl => ?_)
  refine lv_iinc (v := 5) (lv' := [(4, .int 5), (3, .int 1), (0, .ref h0), (1, .int 0), (2, .int 0)]) C.1 C.2.1 dX12_deals_30 hl (k := 1) rfl (by decide) (by decide) rfl (fun ls hl => ?_)
  refine lv_goto (tgt := 5) C.1 C.2.1 dX12_deals_33 (by decide) ?_
  refine lv_iload C.1 C.2.1 dX12_deals_5 (lv_at hl 0 rfl) ?_
  refine lv_bipush (v := 6) C.1 C.2.1 dX12_deals_7 (by decide) ?_
  refine lv_icmp_ge (tgt := 36) C.1 C.2.1 dX12_deals_9 (by decide) (fun c5302 => absurd c5302 (by decide)) (fun _ => ?_)
  refine lv_iload_n C.1 C.2.1 dX12_deals_12 rfl (lv_at hl 1 rfl) ?_
  refine lv_iload_n C.1 C.2.1 dX12_deals_13 rfl (lv_at hl 3 rfl) ?_
  refine lv_iload C.1 C.2.1 dX12_deals_14 (lv_at hl 0 rfl) ?_
  refine k_ishr (v := 0) C (by decide) dX12_deals_16 ?_
  refine lv_iconst (v := 1) C.1 C.2.1 dX12_deals_17 (by decide) ?_
  refine k_iand (v := 0) C (by decide) dX12_deals_18 ?_
  refine lv_iconst (v := 1) C.1 C.2.1 dX12_deals_19 (by decide) ?_
  refine lv_icmp_ne (tgt := 27) C.1 C.2.1 dX12_deals_20 (by decide) (fun _ => ?_) (fun c5303 => absurd c5303 (by decide))
  refine lv_iconst (v := 1) C.1 C.2.1 dX12_deals_27 (by decide) ?_
  refine k_imul (v := 1) C (by decide) dX12_deals_28 ?_
  refine lv_istore_n (lv' := [(3, .int 1), (4, .int 5), (0, .ref h0), (1, .int 0), (2, .int 0)]) C.1 C.2.1 dX12_deals_29 rfl hl (by decide) rfl (fun ls hl => ?_)
  refine lv_iinc (v := 6) (lv' := [(4, .int 6), (3, .int 1), (0, .ref h0), (1, .int 0), (2, .int 0)]) C.1 C.2.1 dX12_deals_30 hl (k := 1) rfl (by decide) (by decide) rfl (fun ls hl => ?_)
  refine lv_goto (tgt := 5) C.1 C.2.1 dX12_deals_33 (by decide) ?_
  refine lv_iload C.1 C.2.1 dX12_deals_5 (lv_at hl 0 rfl) ?_
  refine lv_bipush (v := 6) C.1 C.2.1 dX12_deals_7 (by decide) ?_
  refine lv_icmp_ge (tgt := 36) C.1 C.2.1 dX12_deals_9 (by decide) (fun _ => ?_) (fun c5304 => absurd c5304 (by decide))
  refine lv_iconst (v := 0) C.1 C.2.1 dX12_deals_36 (by decide) ?_
  refine lv_istore (lv' := [(4, .int 0), (3, .int 1), (0, .ref h0), (1, .int 0), (2, .int 0)]) C.1 C.2.1 dX12_deals_37 hl (by decide) rfl (fun ls hl => ?_)
  refine lv_iload C.1 C.2.1 dX12_deals_39 (lv_at hl 0 rfl) ?_
  refine lv_iload_n C.1 C.2.1 dX12_deals_41 rfl (lv_at hl 1 rfl) ?_
  refine lv_icmp_ge (tgt := 203) C.1 C.2.1 dX12_deals_42 (by decide) (fun c5305 => absurd c5305 (by decide)) (fun _ => ?_)
  refine lv_iload C.1 C.2.1 dX12_deals_45 (lv_at hl 0 rfl) ?_
  refine lv_istore (lv' := [(5, .int 0), (4, .int 0), (3, .int 1), (0, .ref h0), (1, .int 0), (2, .int 0)]) C.1 C.2.1 dX12_deals_47 hl (by decide) rfl (fun ls hl => ?_)
  refine lv_iconst (v := 5) C.1 C.2.1 dX12_deals_49 (by decide) ?_
  refine lv_istore (lv' := [(6, .int 5), (5, .int 0), (4, .int 0), (3, .int 1), (0, .ref h0), (1, .int 0), (2, .int 0)]) C.1 C.2.1 dX12_deals_50 hl (by decide) rfl (fun ls hl => ?_)
  refine lv_iload C.1 C.2.1 dX12_deals_52 (lv_at hl 0 rfl) ?_
  refine lv_if_lt (tgt := 100) C.1 C.2.1 dX12_deals_54 (by decide) (fun c5306 => absurd c5306 (by decide)) (fun _ => ?_)
  refine lv_aload_n C.1 C.2.1 dX12_deals_57 rfl (lv_at hl 4 rfl) ?_
  refine k_get C Wd KX12 0 55 rfl (by decide) fl_X12_87 rfl dX12_deals_58 ?_
  refine lv_iload C.1 C.2.1 dX12_deals_61 (lv_at hl 0 rfl) ?_
  refine lv_iconst (v := (-1)) C.1 C.2.1 dX12_deals_63 (by decide) ?_
  refine k_iast C Wd 1 0 [(h0, .inr (12, [.ref h1, .ref h2, .ref h3, .ref h4, .int 0, .int 0, .ref h5, .int 0, .int 0, .int 0, .int 0, .int 0, .int 0, .int 0, .int 0, .int 0, .int 0, .int 0, .int 0, .int 0, .int (-1), .int 0, .int 0, .int 0, .ref h6, .ref h7, .ref h8, .ref h9, .ref h10, .ref h11, .int 0, .int 0, .int 0, .int 0, .ref h12, .ref h13, .ref h14, .int 0, .int 0, .int 0, .int 0, .ref h15, .ref h16, .int 0, .ref h17, .ref h18, .int 0, .ref h19, .int 0, .ref h20, .ref h21, .ref h22, .int 0, .ref h23, .ref h24, .ref h25])), (h25, .inl (a24, 6, .inl (upd (fun _ => 0) 5 (-1))))] rfl rfl (vp_in_iff.mpr (by decide)) rfl rfl dX12_deals_64 (fun H locs Wd => ?_)
  refine lv_iload_n C.1 C.2.1 dX12_deals_65 rfl (lv_at hl 5 rfl) ?_
  refine lv_iload C.1 C.2.1 dX12_deals_66 (lv_at hl 0 rfl) ?_
  refine k_ishr (v := 0) C (by decide) dX12_deals_68 ?_
  refine lv_iconst (v := 1) C.1 C.2.1 dX12_deals_69 (by decide) ?_
  refine k_iand (v := 0) C (by decide) dX12_deals_70 ?_
  refine lv_if_ne (tgt := 77) C.1 C.2.1 dX12_deals_71 (by decide) (fun c5307 => absurd c5307 (by decide)) (fun _ => ?_)
  refine lv_goto (tgt := 94) C.1 C.2.1 dX12_deals_74 (by decide) ?_
  refine lv_iinc (v := 4) (lv' := [(6, .int 4), (5, .int 0), (4, .int 0), (3, .int 1), (0, .ref h0), (1, .int 0), (2, .int 0)]) C.1 C.2.1 dX12_deals_94 hl (k := 0) rfl (by decide) (by decide) rfl (fun ls hl => ?_)
  refine lv_goto (tgt := 52) C.1 C.2.1 dX12_deals_97 (by decide) ?_
  refine lv_iload C.1 C.2.1 dX12_deals_52 (lv_at hl 0 rfl) ?_
  refine lv_if_lt (tgt := 100) C.1 C.2.1 dX12_deals_54 (by decide) (fun c5308 => absurd c5308 (by decide)) (fun _ => ?_)
  refine lv_aload_n C.1 C.2.1 dX12_deals_57 rfl (lv_at hl 4 rfl) ?_
  refine k_get C Wd KX12 0 55 rfl (by decide) fl_X12_87 rfl dX12_deals_58 ?_
  refine lv_iload C.1 C.2.1 dX12_deals_61 (lv_at hl 0 rfl) ?_
  refine lv_iconst (v := (-1)) C.1 C.2.1 dX12_deals_63 (by decide) ?_
  refine k_iast C Wd 1 0 [(h0, .inr (12, [.ref h1, .ref h2, .ref h3, .ref h4, .int 0, .int 0, .ref h5, .int 0, .int 0, .int 0, .int 0, .int 0, .int 0, .int 0, .int 0, .int 0, .int 0, .int 0, .int 0, .int 0, .int (-1), .int 0, .int 0, .int 0, .ref h6, .ref h7, .ref h8, .ref h9, .ref h10, .ref h11, .int 0, .int 0, .int 0, .int 0, .ref h12, .ref h13, .ref h14, .int 0, .int 0, .int 0, .int 0, .ref h15, .ref h16, .int 0, .ref h17, .ref h18, .int 0, .ref h19, .int 0, .ref h20, .ref h21, .ref h22, .int 0, .ref h23, .ref h24, .ref h25])), (h25, .inl (a24, 6, .inl (upd (upd (fun _ => 0) 5 (-1)) 4 (-1))))] rfl rfl (vp_in_iff.mpr (by decide)) rfl rfl dX12_deals_64 (fun H locs Wd => ?_)
  refine lv_iload_n C.1 C.2.1 dX12_deals_65 rfl (lv_at hl 5 rfl) ?_
  refine lv_iload C.1 C.2.1 dX12_deals_66 (lv_at hl 0 rfl) ?_
  refine k_ishr (v := 0) C (by decide) dX12_deals_68 ?_
  refine lv_iconst (v := 1) C.1 C.2.1 dX12_deals_69 (by decide) ?_
  refine k_iand (v := 0) C (by decide) dX12_deals_70 ?_
  refine lv_if_ne (tgt := 77) C.1 C.2.1 dX12_deals_71 (by decide) (fun c5309 => absurd c5309 (by decide)) (fun _ => ?_)
  refine lv_goto (tgt := 94) C.1 C.2.1 dX12_deals_74 (by decide) ?_
  refine lv_iinc (v := 3) (lv' := [(6, .int 3), (5, .int 0), (4, .int 0), (3, .int 1), (0, .ref h0), (1, .int 0), (2, .int 0)]) C.1 C.2.1 dX12_deals_94 hl (k := 0) rfl (by decide) (by decide) rfl (fun ls hl => ?_)
  refine lv_goto (tgt := 52) C.1 C.2.1 dX12_deals_97 (by decide) ?_
  refine lv_iload C.1 C.2.1 dX12_deals_52 (lv_at hl 0 rfl) ?_
  refine lv_if_lt (tgt := 100) C.1 C.2.1 dX12_deals_54 (by decide) (fun c5310 => absurd c5310 (by decide)) (fun _ => ?_)
  refine lv_aload_n C.1 C.2.1 dX12_deals_57 rfl (lv_at hl 4 rfl) ?_
  refine k_get C Wd KX12 0 55 rfl (by decide) fl_X12_87 rfl dX12_deals_58 ?_
  refine lv_iload C.1 C.2.1 dX12_deals_61 (lv_at hl 0 rfl) ?_
  refine lv_iconst (v := (-1)) C.1 C.2.1 dX12_deals_63 (by decide) ?_
  refine k_iast C Wd 1 0 [(h0, .inr (12, [.ref h1, .ref h2, .ref h3, .ref h4, .int 0, .int 0, .ref h5, .int 0, .int 0, .int 0, .int 0, .int 0, .int 0, .int 0, .int 0, .int 0, .int 0, .int 0, .int 0, .int 0, .int (-1), .int 0, .int 0, .int 0, .ref h6, .ref h7, .ref h8, .ref h9, .ref h10, .ref h11, .int 0, .int 0, .int 0, .int 0, .ref h12, .ref h13, .ref h14, .int 0, .int 0, .int 0, .int 0, .ref h15, .ref h16, .int 0, .ref h17, .ref h18, .int 0, .ref h19, .int 0, .ref h20, .ref h21, .ref h22, .int 0, .ref h23, .ref h24, .ref h25])), (h25, .inl (a24, 6, .inl (upd (upd (upd (fun _ => 0) 5 (-1)) 4 (-1)) 3 (-1))))] rfl rfl (vp_in_iff.mpr (by decide)) rfl rfl dX12_deals_64 (fun H locs Wd => ?_)
  refine lv_iload_n C.1 C.2.1 dX12_deals_65 rfl (lv_at hl 5 rfl) ?_
  refine lv_iload C.1 C.2.1 dX12_deals_66 (lv_at hl 0 rfl) ?_
  refine k_ishr (v := 0) C (by decide) dX12_deals_68 ?_
  refine lv_iconst (v := 1) C.1 C.2.1 dX12_deals_69 (by decide) ?_
  refine k_iand (v := 0) C (by decide) dX12_deals_70 ?_
  refine lv_if_ne (tgt := 77) C.1 C.2.1 dX12_deals_71 (by decide) (fun c5311 => absurd c5311 (by decide)) (fun _ => ?_)
  refine lv_goto (tgt := 94) C.1 C.2.1 dX12_deals_74 (by decide) ?_
  refine lv_iinc (v := 2) (lv' := [(6, .int 2), (5, .int 0), (4, .int 0), (3, .int 1), (0, .ref h0), (1, .int 0), (2, .int 0)]) C.1 C.2.1 dX12_deals_94 hl (k := 0) rfl (by decide) (by decide) rfl (fun ls hl => ?_)
  refine lv_goto (tgt := 52) C.1 C.2.1 dX12_deals_97 (by decide) ?_
  refine lv_iload C.1 C.2.1 dX12_deals_52 (lv_at hl 0 rfl) ?_
  refine lv_if_lt (tgt := 100) C.1 C.2.1 dX12_deals_54 (by decide) (fun c5312 => absurd c5312 (by decide)) (fun _ => ?_)
  refine lv_aload_n C.1 C.2.1 dX12_deals_57 rfl (lv_at hl 4 rfl) ?_
  refine k_get C Wd KX12 0 55 rfl (by decide) fl_X12_87 rfl dX12_deals_58 ?_
  refine lv_iload C.1 C.2.1 dX12_deals_61 (lv_at hl 0 rfl) ?_
  refine lv_iconst (v := (-1)) C.1 C.2.1 dX12_deals_63 (by decide) ?_
  refine k_iast C Wd 1 0 [(h0, .inr (12, [.ref h1, .ref h2, .ref h3, .ref h4, .int 0, .int 0, .ref h5, .int 0, .int 0, .int 0, .int 0, .int 0, .int 0, .int 0, .int 0, .int 0, .int 0, .int 0, .int 0, .int 0, .int (-1), .int 0, .int 0, .int 0, .ref h6, .ref h7, .ref h8, .ref h9, .ref h10, .ref h11, .int 0, .int 0, .int 0, .int 0, .ref h12, .ref h13, .ref h14, .int 0, .int 0, .int 0, .int 0, .ref h15, .ref h16, .int 0, .ref h17, .ref h18, .int 0, .ref h19, .int 0, .ref h20, .ref h21, .ref h22, .int 0, .ref h23, .ref h24, .ref h25])), (h25, .inl (a24, 6, .inl (upd (upd (upd (upd (fun _ => 0) 5 (-1)) 4 (-1)) 3 (-1)) 2 (-1))))] rfl rfl (vp_in_iff.mpr (by decide)) rfl rfl dX12_deals_64 (fun H locs Wd => ?_)
  refine lv_iload_n C.1 C.2.1 dX12_deals_65 rfl (lv_at hl 5 rfl) ?_
  refine lv_iload C.1 C.2.1 dX12_deals_66 (lv_at hl 0 rfl) ?_
  refine k_ishr (v := 0) C (by decide) dX12_deals_68 ?_
  refine lv_iconst (v := 1) C.1 C.2.1 dX12_deals_69 (by decide) ?_
  refine k_iand (v := 0) C (by decide) dX12_deals_70 ?_
  refine lv_if_ne (tgt := 77) C.1 C.2.1 dX12_deals_71 (by decide) (fun c5313 => absurd c5313 (by decide)) (fun _ => ?_)
  refine lv_goto (tgt := 94) C.1 C.2.1 dX12_deals_74 (by decide) ?_
  refine lv_iinc (v := 1) (lv' := [(6, .int 1), (5, .int 0), (4, .int 0), (3, .int 1), (0, .ref h0), (1, .int 0), (2, .int 0)]) C.1 C.2.1 dX12_deals_94 hl (k := 0) rfl (by decide) (by decide) rfl (fun ls hl => ?_)
  refine lv_goto (tgt := 52) C.1 C.2.1 dX12_deals_97 (by decide) ?_
  refine lv_iload C.1 C.2.1 dX12_deals_52 (lv_at hl 0 rfl) ?_
  refine lv_if_lt (tgt := 100) C.1 C.2.1 dX12_deals_54 (by decide) (fun c5314 => absurd c5314 (by decide)) (fun _ => ?_)
  refine lv_aload_n C.1 C.2.1 dX12_deals_57 rfl (lv_at hl 4 rfl) ?_
  refine k_get C Wd KX12 0 55 rfl (by decide) fl_X12_87 rfl dX12_deals_58 ?_
  refine lv_iload C.1 C.2.1 dX12_deals_61 (lv_at hl 0 rfl) ?_
  refine lv_iconst (v := (-1)) C.1 C.2.1 dX12_deals_63 (by decide) ?_
  refine k_iast C Wd 1 0 [(h0, .inr (12, [.ref h1, .ref h2, .ref h3, .ref h4, .int 0, .int 0, .ref h5, .int 0, .int 0, .int 0, .int 0, .int 0, .int 0, .int 0, .int 0, .int 0, .int 0, .int 0, .int 0, .int 0, .int (-1), .int 0, .int 0, .int 0, .ref h6, .ref h7, .ref h8, .ref h9, .ref h10, .ref h11, .int 0, .int 0, .int 0, .int 0, .ref h12, .ref h13, .ref h14, .int 0, .int 0, .int 0, .int 0, .ref h15, .ref h16, .int 0, .ref h17, .ref h18, .int 0, .ref h19, .int 0, .ref h20, .ref h21, .ref h22, .int 0, .ref h23, .ref h24, .ref h25])), (h25, .inl (a24, 6, .inl (upd (upd (upd (upd (upd (fun _ => 0) 5 (-1)) 4 (-1)) 3 (-1)) 2 (-1)) 1 (-1))))] rfl rfl (vp_in_iff.mpr (by decide)) rfl rfl dX12_deals_64 (fun H locs Wd => ?_)
  refine lv_iload_n C.1 C.2.1 dX12_deals_65 rfl (lv_at hl 5 rfl) ?_
  refine lv_iload C.1 C.2.1 dX12_deals_66 (lv_at hl 0 rfl) ?_
  refine k_ishr (v := 0) C (by decide) dX12_deals_68 ?_
  refine lv_iconst (v := 1) C.1 C.2.1 dX12_deals_69 (by decide) ?_
  refine k_iand (v := 0) C (by decide) dX12_deals_70 ?_
  refine lv_if_ne (tgt := 77) C.1 C.2.1 dX12_deals_71 (by decide) (fun c5315 => absurd c5315 (by decide)) (fun _ => ?_)
  refine lv_goto (tgt := 94) C.1 C.2.1 dX12_deals_74 (by decide) ?_
  refine lv_iinc (v := 0) (lv' := [(6, .int 0), (5, .int 0), (4, .int 0), (3, .int 1), (0, .ref h0), (1, .int 0), (2, .int 0)]) C.1 C.2.1 dX12_deals_94 hl (k := 0) rfl (by decide) (by decide) rfl (fun ls hl => ?_)
  refine lv_goto (tgt := 52) C.1 C.2.1 dX12_deals_97 (by decide) ?_
  refine lv_iload C.1 C.2.1 dX12_deals_52 (lv_at hl 0 rfl) ?_
  refine lv_if_lt (tgt := 100) C.1 C.2.1 dX12_deals_54 (by decide) (fun c5316 => absurd c5316 (by decide)) (fun _ => ?_)
  refine lv_aload_n C.1 C.2.1 dX12_deals_57 rfl (lv_at hl 4 rfl) ?_
  refine k_get C Wd KX12 0 55 rfl (by decide) fl_X12_87 rfl dX12_deals_58 ?_
  refine lv_iload C.1 C.2.1 dX12_deals_61 (lv_at hl 0 rfl) ?_
  refine lv_iconst (v := (-1)) C.1 C.2.1 dX12_deals_63 (by decide) ?_
  refine k_iast C Wd 1 0 [(h0, .inr (12, [.ref h1, .ref h2, .ref h3, .ref h4, .int 0, .int 0, .ref h5, .int 0, .int 0, .int 0, .int 0, .int 0, .int 0, .int 0, .int 0, .int 0, .int 0, .int 0, .int 0, .int 0, .int (-1), .int 0, .int 0, .int 0, .ref h6, .ref h7, .ref h8, .ref h9, .ref h10, .ref h11, .int 0, .int 0, .int 0, .int 0, .ref h12, .ref h13, .ref h14, .int 0, .int 0, .int 0, .int 0, .ref h15, .ref h16, .int 0, .ref h17, .ref h18, .int 0, .ref h19, .int 0, .ref h20, .ref h21, .ref h22, .int 0, .ref h23, .ref h24, .ref h25])), (h25, .inl (a24, 6, .inl (upd (upd (upd (upd (upd (upd (fun _ => 0) 5 (-1)) 4 (-1)) 3 (-1)) 2 (-1)) 1 (-1)) 0 (-1))))] rfl rfl (vp_in_iff.mpr (by decide)) rfl rfl dX12_deals_64 (fun H locs Wd => ?_)
  refine lv_iload_n C.1 C.2.1 dX12_deals_65 rfl (lv_at hl 5 rfl) ?_
  refine lv_iload C.1 C.2.1 dX12_deals_66 (lv_at hl 0 rfl) ?_
  refine k_ishr (v := 0) C (by decide) dX12_deals_68 ?_
  refine lv_iconst (v := 1) C.1 C.2.1 dX12_deals_69 (by decide) ?_
  refine k_iand (v := 0) C (by decide) dX12_deals_70 ?_
  refine lv_if_ne (tgt := 77) C.1 C.2.1 dX12_deals_71 (by decide) (fun c5317 => absurd c5317 (by decide)) (fun _ => ?_)
  refine lv_goto (tgt := 94) C.1 C.2.1 dX12_deals_74 (by decide) ?_
  refine lv_iinc (v := (-1)) (lv' := [(6, .int (-1)), (5, .int 0), (4, .int 0), (3, .int 1), (0, .ref h0), (1, .int 0), (2, .int 0)]) C.1 C.2.1 dX12_deals_94 hl (k := 0) rfl (by decide) (by decide) rfl (fun ls hl => ?_)
  refine lv_goto (tgt := 52) C.1 C.2.1 dX12_deals_97 (by decide) ?_
  refine lv_iload C.1 C.2.1 dX12_deals_52 (lv_at hl 0 rfl) ?_
  refine lv_if_lt (tgt := 100) C.1 C.2.1 dX12_deals_54 (by decide) (fun _ => ?_) (fun c5318 => absurd c5318 (by decide))
  refine lv_iconst (v := 1) C.1 C.2.1 dX12_deals_100 (by decide) ?_
  refine lv_istore (lv' := [(6, .int 1), (5, .int 0), (4, .int 0), (3, .int 1), (0, .ref h0), (1, .int 0), (2, .int 0)]) C.1 C.2.1 dX12_deals_101 hl (by decide) rfl (fun ls hl => ?_)
  refine lv_iconst (v := 0) C.1 C.2.1 dX12_deals_103 (by decide) ?_
  refine lv_istore (lv' := [(7, .int 0), (6, .int 1), (5, .int 0), (4, .int 0), (3, .int 1), (0, .ref h0), (1, .int 0), (2, .int 0)]) C.1 C.2.1 dX12_deals_104 hl (by decide) rfl (fun ls hl => ?_)
  refine lv_iload C.1 C.2.1 dX12_deals_106 (lv_at hl 0 rfl) ?_
  refine lv_bipush (v := 6) C.1 C.2.1 dX12_deals_108 (by decide) ?_
  refine lv_icmp_ge (tgt := 190) C.1 C.2.1 dX12_deals_110 (by decide) (fun c5319 => absurd c5319 (by decide)) (fun _ => ?_)
  refine lv_iconst (v := 0) C.1 C.2.1 dX12_deals_113 (by decide) ?_
  refine lv_istore (lv' := [(8, .int 0), (7, .int 0), (6, .int 1), (5, .int 0), (4, .int 0), (3, .int 1), (0, .ref h0), (1, .int 0), (2, .int 0)]) C.1 C.2.1 dX12_deals_114 hl (by decide) rfl (fun ls hl => ?_)
  refine lv_iload C.1 C.2.1 dX12_deals_116 (lv_at hl 0 rfl) ?_
  refine lv_iload C.1 C.2.1 dX12_deals_118 (lv_at hl 1 rfl) ?_
  refine lv_icmp_ge (tgt := 184) C.1 C.2.1 dX12_deals_120 (by decide) (fun _ => ?_) (fun c5320 => absurd c5320 (by decide))
  refine lv_iinc (v := 1) (lv' := [(7, .int 1), (8, .int 0), (6, .int 1), (5, .int 0), (4, .int 0), (3, .int 1), (0, .ref h0), (1, .int 0), (2, .int 0)]) C.1 C.2.1 dX12_deals_184 hl (k := 1) rfl (by decide) (by decide) rfl (fun ls hl => ?_)
  refine lv_goto (tgt := 106) C.1 C.2.1 dX12_deals_187 (by decide) ?_
  refine lv_iload C.1 C.2.1 dX12_deals_106 (lv_at hl 0 rfl) ?_
  refine lv_bipush (v := 6) C.1 C.2.1 dX12_deals_108 (by decide) ?_
  refine lv_icmp_ge (tgt := 190) C.1 C.2.1 dX12_deals_110 (by decide) (fun c5321 => absurd c5321 (by decide)) (fun _ => ?_)
  refine lv_iconst (v := 0) C.1 C.2.1 dX12_deals_113 (by decide) ?_
  refine lv_istore (lv' := [(8, .int 0), (7, .int 1), (6, .int 1), (5, .int 0), (4, .int 0), (3, .int 1), (0, .ref h0), (1, .int 0), (2, .int 0)]) C.1 C.2.1 dX12_deals_114 hl (by decide) rfl (fun ls hl => ?_)
  refine lv_iload C.1 C.2.1 dX12_deals_116 (lv_at hl 0 rfl) ?_
  refine lv_iload C.1 C.2.1 dX12_deals_118 (lv_at hl 1 rfl) ?_
  refine lv_icmp_ge (tgt := 184) C.1 C.2.1 dX12_deals_120 (by decide) (fun c5322 => absurd c5322 (by decide)) (fun _ => ?_)
  refine lv_iload C.1 C.2.1 dX12_deals_123 (lv_at hl 2 rfl) ?_
  refine lv_if_eq (tgt := 175) C.1 C.2.1 dX12_deals_125 (by decide) (fun c5323 => absurd c5323 (by decide)) (fun _ => ?_)
  refine lv_aload_n C.1 C.2.1 dX12_deals_128 rfl (lv_at hl 6 rfl) ?_
  refine k_get C Wd KX12 0 55 rfl (by decide) fl_X12_87 rfl dX12_deals_129 ?_
  refine lv_iload C.1 C.2.1 dX12_deals_132 (lv_at hl 1 rfl) ?_
  refine k_iald (v := (-1)) C Wd 1 0 rfl rfl (vp_in_iff.mpr (by decide)) rfl dX12_deals_134 ?_
  refine lv_iconst (v := (-1)) C.1 C.2.1 dX12_deals_135 (by decide) ?_
  refine lv_icmp_eq (tgt := 171) C.1 C.2.1 dX12_deals_136 (by decide) (fun _ => ?_) (fun c5324 => absurd c5324 (by decide))
  refine lv_iconst (v := 1) C.1 C.2.1 dX12_deals_171 (by decide) ?_
  refine lv_goto (tgt := 176) C.1 C.2.1 dX12_deals_172 (by decide) ?_
  refine lv_istore (lv' := [(6, .int 1), (8, .int 0), (7, .int 1), (5, .int 0), (4, .int 0), (3, .int 1), (0, .ref h0), (1, .int 0), (2, .int 0)]) C.1 C.2.1 dX12_deals_176 hl (by decide) rfl (fun ls hl => ?_)
  refine lv_iinc (v := 1) (lv' := [(8, .int 1), (6, .int 1), (7, .int 1), (5, .int 0), (4, .int 0), (3, .int 1), (0, .ref h0), (1, .int 0), (2, .int 0)]) C.1 C.2.1 dX12_deals_178 hl (k := 1) rfl (by decide) (by decide) rfl (fun ls hl => ?_)
  refine lv_goto (tgt := 116) C.1 C.2.1 dX12_deals_181 (by decide) ?_
  refine lv_iload C.1 C.2.1 dX12_deals_116 (lv_at hl 0 rfl) ?_
  refine lv_iload C.1 C.2.1 dX12_deals_118 (lv_at hl 2 rfl) ?_
  refine lv_icmp_ge (tgt := 184) C.1 C.2.1 dX12_deals_120 (by decide) (fun _ => ?_) (fun c5325 => absurd c5325 (by decide))
  refine lv_iinc (v := 2) (lv' := [(7, .int 2), (8, .int 1), (6, .int 1), (5, .int 0), (4, .int 0), (3, .int 1), (0, .ref h0), (1, .int 0), (2, .int 0)]) C.1 C.2.1 dX12_deals_184 hl (k := 2) rfl (by decide) (by decide) rfl (fun ls hl => ?_)
  refine lv_goto (tgt := 106) C.1 C.2.1 dX12_deals_187 (by decide) ?_
  refine lv_iload C.1 C.2.1 dX12_deals_106 (lv_at hl 0 rfl) ?_
  refine lv_bipush (v := 6) C.1 C.2.1 dX12_deals_108 (by decide) ?_
  refine lv_icmp_ge (tgt := 190) C.1 C.2.1 dX12_deals_110 (by decide) (fun c5326 => absurd c5326 (by decide)) (fun _ => ?_)
  refine lv_iconst (v := 0) C.1 C.2.1 dX12_deals_113 (by decide) ?_
  refine lv_istore (lv' := [(8, .int 0), (7, .int 2), (6, .int 1), (5, .int 0), (4, .int 0), (3, .int 1), (0, .ref h0), (1, .int 0), (2, .int 0)]) C.1 C.2.1 dX12_deals_114 hl (by decide) rfl (fun ls hl => ?_)
  refine lv_iload C.1 C.2.1 dX12_deals_116 (lv_at hl 0 rfl) ?_
  refine lv_iload C.1 C.2.1 dX12_deals_118 (lv_at hl 1 rfl) ?_
  refine lv_icmp_ge (tgt := 184) C.1 C.2.1 dX12_deals_120 (by decide) (fun c5327 => absurd c5327 (by decide)) (fun _ => ?_)
  refine lv_iload C.1 C.2.1 dX12_deals_123 (lv_at hl 2 rfl) ?_
  refine lv_if_eq (tgt := 175) C.1 C.2.1 dX12_deals_125 (by decide) (fun c5328 => absurd c5328 (by decide)) (fun _ => ?_)
  refine lv_aload_n C.1 C.2.1 dX12_deals_128 rfl (lv_at hl 6 rfl) ?_
  refine k_get C Wd KX12 0 55 rfl (by decide) fl_X12_87 rfl dX12_deals_129 ?_
  refine lv_iload C.1 C.2.1 dX12_deals_132 (lv_at hl 1 rfl) ?_
  refine k_iald (v := (-1)) C Wd 1 0 rfl rfl (vp_in_iff.mpr (by decide)) rfl dX12_deals_134 ?_
  refine lv_iconst (v := (-1)) C.1 C.2.1 dX12_deals_135 (by decide) ?_
  refine lv_icmp_eq (tgt := 171) C.1 C.2.1 dX12_deals_136 (by decide) (fun _ => ?_) (fun c5329 => absurd c5329 (by decide))
  refine lv_iconst (v := 1) C.1 C.2.1 dX12_deals_171 (by decide) ?_
  refine lv_goto (tgt := 176) C.1 C.2.1 dX12_deals_172 (by decide) ?_
  refine lv_istore (lv' := [(6, .int 1), (8, .int 0), (7, .int 2), (5, .int 0), (4, .int 0), (3, .int 1), (0, .ref h0), (1, .int 0), (2, .int 0)]) C.1 C.2.1 dX12_deals_176 hl (by decide) rfl (fun ls hl => ?_)
  refine lv_iinc (v := 1) (lv' := [(8, .int 1), (6, .int 1), (7, .int 2), (5, .int 0), (4, .int 0), (3, .int 1), (0, .ref h0), (1, .int 0), (2, .int 0)]) C.1 C.2.1 dX12_deals_178 hl (k := 1) rfl (by decide) (by decide) rfl (fun ls hl => ?_)
  refine lv_goto (tgt := 116) C.1 C.2.1 dX12_deals_181 (by decide) ?_
  refine lv_iload C.1 C.2.1 dX12_deals_116 (lv_at hl 0 rfl) ?_
  refine lv_iload C.1 C.2.1 dX12_deals_118 (lv_at hl 2 rfl) ?_
  refine lv_icmp_ge (tgt := 184) C.1 C.2.1 dX12_deals_120 (by decide) (fun c5330 => absurd c5330 (by decide)) (fun _ => ?_)
  refine lv_iload C.1 C.2.1 dX12_deals_123 (lv_at hl 1 rfl) ?_
  refine lv_if_eq (tgt := 175) C.1 C.2.1 dX12_deals_125 (by decide) (fun c5331 => absurd c5331 (by decide)) (fun _ => ?_)
  refine lv_aload_n C.1 C.2.1 dX12_deals_128 rfl (lv_at hl 6 rfl) ?_
  refine k_get C Wd KX12 0 55 rfl (by decide) fl_X12_87 rfl dX12_deals_129 ?_
  refine lv_iload C.1 C.2.1 dX12_deals_132 (lv_at hl 2 rfl) ?_
  refine k_iald (v := (-1)) C Wd 1 0 rfl rfl (vp_in_iff.mpr (by decide)) rfl dX12_deals_134 ?_
  refine lv_iconst (v := (-1)) C.1 C.2.1 dX12_deals_135 (by decide) ?_
  refine lv_icmp_eq (tgt := 171) C.1 C.2.1 dX12_deals_136 (by decide) (fun _ => ?_) (fun c5332 => absurd c5332 (by decide))
  refine lv_iconst (v := 1) C.1 C.2.1 dX12_deals_171 (by decide) ?_
  refine lv_goto (tgt := 176) C.1 C.2.1 dX12_deals_172 (by decide) ?_
  refine lv_istore (lv' := [(6, .int 1), (8, .int 1), (7, .int 2), (5, .int 0), (4, .int 0), (3, .int 1), (0, .ref h0), (1, .int 0), (2, .int 0)]) C.1 C.2.1 dX12_deals_176 hl (by decide) rfl (fun ls hl => ?_)
  refine lv_iinc (v := 2) (lv' := [(8, .int 2), (6, .int 1), (7, .int 2), (5, .int 0), (4, .int 0), (3, .int 1), (0, .ref h0), (1, .int 0), (2, .int 0)]) C.1 C.2.1 dX12_deals_178 hl (k := 1) rfl (by decide) (by decide) rfl (fun ls hl => ?_)
  refine lv_goto (tgt := 116) C.1 C.2.1 dX12_deals_181 (by decide) ?_
  refine lv_iload C.1 C.2.1 dX12_deals_116 (lv_at hl 0 rfl) ?_
  refine lv_iload C.1 C.2.1 dX12_deals_118 (lv_at hl 2 rfl) ?_
  refine lv_icmp_ge (tgt := 184) C.1 C.2.1 dX12_deals_120 (by decide) (fun _ => ?_) (fun c5333 => absurd c5333 (by decide))
  refine lv_iinc (v := 3) (lv' := [(7, .int 3), (8, .int 2), (6, .int 1), (5, .int 0), (4, .int 0), (3, .int 1), (0, .ref h0), (1, .int 0), (2, .int 0)]) C.1 C.2.1 dX12_deals_184 hl (k := 2) rfl (by decide) (by decide) rfl (fun ls hl => ?_)
  refine lv_goto (tgt := 106) C.1 C.2.1 dX12_deals_187 (by decide) ?_
  refine lv_iload C.1 C.2.1 dX12_deals_106 (lv_at hl 0 rfl) ?_
  refine lv_bipush (v := 6) C.1 C.2.1 dX12_deals_108 (by decide) ?_
  refine lv_icmp_ge (tgt := 190) C.1 C.2.1 dX12_deals_110 (by decide) (fun c5334 => absurd c5334 (by decide)) (fun _ => ?_)
  refine lv_iconst (v := 0) C.1 C.2.1 dX12_deals_113 (by decide) ?_
  refine lv_istore (lv' := [(8, .int 0), (7, .int 3), (6, .int 1), (5, .int 0), (4, .int 0), (3, .int 1), (0, .ref h0), (1, .int 0), (2, .int 0)]) C.1 C.2.1 dX12_deals_114 hl (by decide) rfl (fun ls hl => ?_)
  refine lv_iload C.1 C.2.1 dX12_deals_116 (lv_at hl 0 rfl) ?_
  refine lv_iload C.1 C.2.1 dX12_deals_118 (lv_at hl 1 rfl) ?_
  refine lv_icmp_ge (tgt := 184) C.1 C.2.1 dX12_deals_120 (by decide) (fun c5335 => absurd c5335 (by decide)) (fun _ => ?_)
  refine lv_iload C.1 C.2.1 dX12_deals_123 (lv_at hl 2 rfl) ?_
  refine lv_if_eq (tgt := 175) C.1 C.2.1 dX12_deals_125 (by decide) (fun c5336 => absurd c5336 (by decide)) (fun _ => ?_)
  refine lv_aload_n C.1 C.2.1 dX12_deals_128 rfl (lv_at hl 6 rfl) ?_
  refine k_get C Wd KX12 0 55 rfl (by decide) fl_X12_87 rfl dX12_deals_129 ?_
  refine lv_iload C.1 C.2.1 dX12_deals_132 (lv_at hl 1 rfl) ?_
  refine k_iald (v := (-1)) C Wd 1 0 rfl rfl (vp_in_iff.mpr (by decide)) rfl dX12_deals_134 ?_
  refine lv_iconst (v := (-1)) C.1 C.2.1 dX12_deals_135 (by decide) ?_
  refine lv_icmp_eq (tgt := 171) C.1 C.2.1 dX12_deals_136 (by decide) (fun _ => ?_) (fun c5337 => absurd c5337 (by decide))
  refine lv_iconst (v := 1) C.1 C.2.1 dX12_deals_171 (by decide) ?_
  refine lv_goto (tgt := 176) C.1 C.2.1 dX12_deals_172 (by decide) ?_
  refine lv_istore (lv' := [(6, .int 1), (8, .int 0), (7, .int 3), (5, .int 0), (4, .int 0), (3, .int 1), (0, .ref h0), (1, .int 0), (2, .int 0)]) C.1 C.2.1 dX12_deals_176 hl (by decide) rfl (fun ls hl => ?_)
  refine lv_iinc (v := 1) (lv' := [(8, .int 1), (6, .int 1), (7, .int 3), (5, .int 0), (4, .int 0), (3, .int 1), (0, .ref h0), (1, .int 0), (2, .int 0)]) C.1 C.2.1 dX12_deals_178 hl (k := 1) rfl (by decide) (by decide) rfl (fun ls hl => ?_)
  refine lv_goto (tgt := 116) C.1 C.2.1 dX12_deals_181 (by decide) ?_
  refine lv_iload C.1 C.2.1 dX12_deals_116 (lv_at hl 0 rfl) ?_
  refine lv_iload C.1 C.2.1 dX12_deals_118 (lv_at hl 2 rfl) ?_
  refine lv_icmp_ge (tgt := 184) C.1 C.2.1 dX12_deals_120 (by decide) (fun c5338 => absurd c5338 (by decide)) (fun _ => ?_)
  refine lv_iload C.1 C.2.1 dX12_deals_123 (lv_at hl 1 rfl) ?_
  refine lv_if_eq (tgt := 175) C.1 C.2.1 dX12_deals_125 (by decide) (fun c5339 => absurd c5339 (by decide)) (fun _ => ?_)
  refine lv_aload_n C.1 C.2.1 dX12_deals_128 rfl (lv_at hl 6 rfl) ?_
  refine k_get C Wd KX12 0 55 rfl (by decide) fl_X12_87 rfl dX12_deals_129 ?_
  refine lv_iload C.1 C.2.1 dX12_deals_132 (lv_at hl 2 rfl) ?_
  refine k_iald (v := (-1)) C Wd 1 0 rfl rfl (vp_in_iff.mpr (by decide)) rfl dX12_deals_134 ?_
  refine lv_iconst (v := (-1)) C.1 C.2.1 dX12_deals_135 (by decide) ?_
  refine lv_icmp_eq (tgt := 171) C.1 C.2.1 dX12_deals_136 (by decide) (fun _ => ?_) (fun c5340 => absurd c5340 (by decide))
  refine lv_iconst (v := 1) C.1 C.2.1 dX12_deals_171 (by decide) ?_
  refine lv_goto (tgt := 176) C.1 C.2.1 dX12_deals_172 (by decide) ?_
  refine lv_istore (lv' := [(6, .int 1), (8, .int 1), (7, .int 3), (5, .int 0), (4, .int 0), (3, .int 1), (0, .ref h0), (1, .int 0), (2, .int 0)]) C.1 C.2.1 dX12_deals_176 hl (by decide) rfl (fun ls hl => ?_)
  refine lv_iinc (v := 2) (lv' := [(8, .int 2), (6, .int 1), (7, .int 3), (5, .int 0), (4, .int 0), (3, .int 1), (0, .ref h0), (1, .int 0), (2, .int 0)]) C.1 C.2.1 dX12_deals_178 hl (k := 1) rfl (by decide) (by decide) rfl (fun ls hl => ?_)
  refine lv_goto (tgt := 116) C.1 C.2.1 dX12_deals_181 (by decide) ?_
  refine lv_iload C.1 C.2.1 dX12_deals_116 (lv_at hl 0 rfl) ?_
  refine lv_iload C.1 C.2.1 dX12_deals_118 (lv_at hl 2 rfl) ?_
  refine lv_icmp_ge (tgt := 184) C.1 C.2.1 dX12_deals_120 (by decide) (fun c5341 => absurd c5341 (by decide)) (fun _ => ?_)
  refine lv_iload C.1 C.2.1 dX12_deals_123 (lv_at hl 1 rfl) ?_
  refine lv_if_eq (tgt := 175) C.1 C.2.1 dX12_deals_125 (by decide) (fun c5342 => absurd c5342 (by decide)) (fun _ => ?_)
  refine lv_aload_n C.1 C.2.1 dX12_deals_128 rfl (lv_at hl 6 rfl) ?_
  refine k_get C Wd KX12 0 55 rfl (by decide) fl_X12_87 rfl dX12_deals_129 ?_
  refine lv_iload C.1 C.2.1 dX12_deals_132 (lv_at hl 2 rfl) ?_
  refine k_iald (v := (-1)) C Wd 1 0 rfl rfl (vp_in_iff.mpr (by decide)) rfl dX12_deals_134 ?_
  refine lv_iconst (v := (-1)) C.1 C.2.1 dX12_deals_135 (by decide) ?_
  refine lv_icmp_eq (tgt := 171) C.1 C.2.1 dX12_deals_136 (by decide) (fun _ => ?_) (fun c5343 => absurd c5343 (by decide))
  refine lv_iconst (v := 1) C.1 C.2.1 dX12_deals_171 (by decide) ?_
  refine lv_goto (tgt := 176) C.1 C.2.1 dX12_deals_172 (by decide) ?_
  refine lv_istore (lv' := [(6, .int 1), (8, .int 2), (7, .int 3), (5, .int 0), (4, .int 0), (3, .int 1), (0, .ref h0), (1, .int 0), (2, .int 0)]) C.1 C.2.1 dX12_deals_176 hl (by decide) rfl (fun ls hl => ?_)
  refine lv_iinc (v := 3) (lv' := [(8, .int 3), (6, .int 1), (7, .int 3), (5, .int 0), (4, .int 0), (3, .int 1), (0, .ref h0), (1, .int 0), (2, .int 0)]) C.1 C.2.1 dX12_deals_178 hl (k := 1) rfl (by decide) (by decide) rfl (fun ls hl => ?_)
  refine lv_goto (tgt := 116) C.1 C.2.1 dX12_deals_181 (by decide) ?_
  refine lv_iload C.1 C.2.1 dX12_deals_116 (lv_at hl 0 rfl) ?_
  refine lv_iload C.1 C.2.1 dX12_deals_118 (lv_at hl 2 rfl) ?_
  refine lv_icmp_ge (tgt := 184) C.1 C.2.1 dX12_deals_120 (by decide) (fun _ => ?_) (fun c5344 => absurd c5344 (by decide))
  refine lv_iinc (v := 4) (lv' := [(7, .int 4), (8, .int 3), (6, .int 1), (5, .int 0), (4, .int 0), (3, .int 1), (0, .ref h0), (1, .int 0), (2, .int 0)]) C.1 C.2.1 dX12_deals_184 hl (k := 2) rfl (by decide) (by decide) rfl (fun ls hl => ?_)
  refine lv_goto (tgt := 106) C.1 C.2.1 dX12_deals_187 (by decide) ?_
  refine lv_iload C.1 C.2.1 dX12_deals_106 (lv_at hl 0 rfl) ?_
  refine lv_bipush (v := 6) C.1 C.2.1 dX12_deals_108 (by decide) ?_
  refine lv_icmp_ge (tgt := 190) C.1 C.2.1 dX12_deals_110 (by decide) (fun c5345 => absurd c5345 (by decide)) (fun _ => ?_)
  refine lv_iconst (v := 0) C.1 C.2.1 dX12_deals_113 (by decide) ?_
  refine lv_istore (lv' := [(8, .int 0), (7, .int 4), (6, .int 1), (5, .int 0), (4, .int 0), (3, .int 1), (0, .ref h0), (1, .int 0), (2, .int 0)]) C.1 C.2.1 dX12_deals_114 hl (by decide) rfl (fun ls hl => ?_)
  refine lv_iload C.1 C.2.1 dX12_deals_116 (lv_at hl 0 rfl) ?_
  refine lv_iload C.1 C.2.1 dX12_deals_118 (lv_at hl 1 rfl) ?_
  refine lv_icmp_ge (tgt := 184) C.1 C.2.1 dX12_deals_120 (by decide) (fun c5346 => absurd c5346 (by decide)) (fun _ => ?_)
  refine lv_iload C.1 C.2.1 dX12_deals_123 (lv_at hl 2 rfl) ?_
  refine lv_if_eq (tgt := 175) C.1 C.2.1 dX12_deals_125 (by decide) (fun c5347 => absurd c5347 (by decide)) (fun _ => ?_)
  refine lv_aload_n C.1 C.2.1 dX12_deals_128 rfl (lv_at hl 6 rfl) ?_
  refine k_get C Wd KX12 0 55 rfl (by decide) fl_X12_87 rfl dX12_deals_129 ?_
  refine lv_iload C.1 C.2.1 dX12_deals_132 (lv_at hl 1 rfl) ?_
  refine k_iald (v := (-1)) C Wd 1 0 rfl rfl (vp_in_iff.mpr (by decide)) rfl dX12_deals_134 ?_
  refine lv_iconst (v := (-1)) C.1 C.2.1 dX12_deals_135 (by decide) ?_
  refine lv_icmp_eq (tgt := 171) C.1 C.2.1 dX12_deals_136 (by decide) (fun _ => ?_) (fun c5348 => absurd c5348 (by decide))
  refine lv_iconst (v := 1) C.1 C.2.1 dX12_deals_171 (by decide) ?_
  refine lv_goto (tgt := 176) C.1 C.2.1 dX12_deals_172 (by decide) ?_
  refine lv_istore (lv' := [(6, .int 1), (8, .int 0), (7, .int 4), (5, .int 0), (4, .int 0), (3, .int 1), (0, .ref h0), (1, .int 0), (2, .int 0)]) C.1 C.2.1 dX12_deals_176 hl (by decide) rfl (fun ls hl => ?_)
  refine lv_iinc (v := 1) (lv' := [(8, .int 1), (6, .int 1), (7, .int 4), (5, .int 0), (4, .int 0), (3, .int 1), (0, .ref h0), (1, .int 0), (2, .int 0)]) C.1 C.2.1 dX12_deals_178 hl (k := 1) rfl (by decide) (by decide) rfl (fun ls hl => ?_)
  refine lv_goto (tgt := 116) C.1 C.2.1 dX12_deals_181 (by decide) ?_
  refine lv_iload C.1 C.2.1 dX12_deals_116 (lv_at hl 0 rfl) ?_
  refine lv_iload C.1 C.2.1 dX12_deals_118 (lv_at hl 2 rfl) ?_
  refine lv_icmp_ge (tgt := 184) C.1 C.2.1 dX12_deals_120 (by decide) (fun c5349 => absurd c5349 (by decide)) (fun _ => ?_)
  refine lv_iload C.1 C.2.1 dX12_deals_123 (lv_at hl 1 rfl) ?_
  refine lv_if_eq (tgt := 175) C.1 C.2.1 dX12_deals_125 (by decide) (fun c5350 => absurd c5350 (by decide)) (fun _ => ?_)
  refine lv_aload_n C.1 C.2.1 dX12_deals_128 rfl (lv_at hl 6 rfl) ?_
  refine k_get C Wd KX12 0 55 rfl (by decide) fl_X12_87 rfl dX12_deals_129 ?_
  refine lv_iload C.1 C.2.1 dX12_deals_132 (lv_at hl 2 rfl) ?_
  refine k_iald (v := (-1)) C Wd 1 0 rfl rfl (vp_in_iff.mpr (by decide)) rfl dX12_deals_134 ?_
  refine lv_iconst (v := (-1)) C.1 C.2.1 dX12_deals_135 (by decide) ?_
  refine lv_icmp_eq (tgt := 171) C.1 C.2.1 dX12_deals_136 (by decide) (fun _ => ?_) (fun c5351 => absurd c5351 (by decide))
  refine lv_iconst (v := 1) C.1 C.2.1 dX12_deals_171 (by decide) ?_
  refine lv_goto (tgt := 176) C.1 C.2.1 dX12_deals_172 (by decide) ?_
  refine lv_istore (lv' := [(6, .int 1), (8, .int 1), (7, .int 4), (5, .int 0), (4, .int 0), (3, .int 1), (0, .ref h0), (1, .int 0), (2, .int 0)]) C.1 C.2.1 dX12_deals_176 hl (by decide) rfl (fun ls hl => ?_)
  refine lv_iinc (v := 2) (lv' := [(8, .int 2), (6, .int 1), (7, .int 4), (5, .int 0), (4, .int 0), (3, .int 1), (0, .ref h0), (1, .int 0), (2, .int 0)]) C.1 C.2.1 dX12_deals_178 hl (k := 1) rfl (by decide) (by decide) rfl (fun ls hl => ?_)
  refine lv_goto (tgt := 116) C.1 C.2.1 dX12_deals_181 (by decide) ?_
  refine lv_iload C.1 C.2.1 dX12_deals_116 (lv_at hl 0 rfl) ?_
  refine lv_iload C.1 C.2.1 dX12_deals_118 (lv_at hl 2 rfl) ?_
  refine lv_icmp_ge (tgt := 184) C.1 C.2.1 dX12_deals_120 (by decide) (fun c5352 => absurd c5352 (by decide)) (fun _ => ?_)
  refine lv_iload C.1 C.2.1 dX12_deals_123 (lv_at hl 1 rfl) ?_
  refine lv_if_eq (tgt := 175) C.1 C.2.1 dX12_deals_125 (by decide) (fun c5353 => absurd c5353 (by decide)) (fun _ => ?_)
  refine lv_aload_n C.1 C.2.1 dX12_deals_128 rfl (lv_at hl 6 rfl) ?_
  refine k_get C Wd KX12 0 55 rfl (by decide) fl_X12_87 rfl dX12_deals_129 ?_
  refine lv_iload C.1 C.2.1 dX12_deals_132 (lv_at hl 2 rfl) ?_
  refine k_iald (v := (-1)) C Wd 1 0 rfl rfl (vp_in_iff.mpr (by decide)) rfl dX12_deals_134 ?_
  refine lv_iconst (v := (-1)) C.1 C.2.1 dX12_deals_135 (by decide) ?_
  refine lv_icmp_eq (tgt := 171) C.1 C.2.1 dX12_deals_136 (by decide) (fun _ => ?_) (fun c5354 => absurd c5354 (by decide))
  refine lv_iconst (v := 1) C.1 C.2.1 dX12_deals_171 (by decide) ?_
  refine lv_goto (tgt := 176) C.1 C.2.1 dX12_deals_172 (by decide) ?_
  refine lv_istore (lv' := [(6, .int 1), (8, .int 2), (7, .int 4), (5, .int 0), (4, .int 0), (3, .int 1), (0, .ref h0), (1, .int 0), (2, .int 0)]) C.1 C.2.1 dX12_deals_176 hl (by decide) rfl (fun ls hl => ?_)
  refine lv_iinc (v := 3) (lv' := [(8, .int 3), (6, .int 1), (7, .int 4), (5, .int 0), (4, .int 0), (3, .int 1), (0, .ref h0), (1, .int 0), (2, .int 0)]) C.1 C.2.1 dX12_deals_178 hl (k := 1) rfl (by decide) (by decide) rfl (fun ls hl => ?_)
  refine lv_goto (tgt := 116) C.1 C.2.1 dX12_deals_181 (by decide) ?_
  refine lv_iload C.1 C.2.1 dX12_deals_116 (lv_at hl 0 rfl) ?_
  refine lv_iload C.1 C.2.1 dX12_deals_118 (lv_at hl 2 rfl) ?_
  refine lv_icmp_ge (tgt := 184) C.1 C.2.1 dX12_deals_120 (by decide) (fun c5355 => absurd c5355 (by decide)) (fun _ => ?_)
  refine lv_iload C.1 C.2.1 dX12_deals_123 (lv_at hl 1 rfl) ?_
  refine lv_if_eq (tgt := 175) C.1 C.2.1 dX12_deals_125 (by decide) (fun c5356 => absurd c5356 (by decide)) (fun _ => ?_)
  refine lv_aload_n C.1 C.2.1 dX12_deals_128 rfl (lv_at hl 6 rfl) ?_
  refine k_get C Wd KX12 0 55 rfl (by decide) fl_X12_87 rfl dX12_deals_129 ?_
  refine lv_iload C.1 C.2.1 dX12_deals_132 (lv_at hl 2 rfl) ?_
  refine k_iald (v := (-1)) C Wd 1 0 rfl rfl (vp_in_iff.mpr (by decide)) rfl dX12_deals_134 ?_
  refine lv_iconst (v := (-1)) C.1 C.2.1 dX12_deals_135 (by decide) ?_
  refine lv_icmp_eq (tgt := 171) C.1 C.2.1 dX12_deals_136 (by decide) (fun _ => ?_) (fun c5357 => absurd c5357 (by decide))
  refine lv_iconst (v := 1) C.1 C.2.1 dX12_deals_171 (by decide) ?_
  refine lv_goto (tgt := 176) C.1 C.2.1 dX12_deals_172 (by decide) ?_
  refine lv_istore (lv' := [(6, .int 1), (8, .int 3), (7, .int 4), (5, .int 0), (4, .int 0), (3, .int 1), (0, .ref h0), (1, .int 0), (2, .int 0)]) C.1 C.2.1 dX12_deals_176 hl (by decide) rfl (fun ls hl => ?_)
  refine lv_iinc (v := 4) (lv' := [(8, .int 4), (6, .int 1), (7, .int 4), (5, .int 0), (4, .int 0), (3, .int 1), (0, .ref h0), (1, .int 0), (2, .int 0)]) C.1 C.2.1 dX12_deals_178 hl (k := 1) rfl (by decide) (by decide) rfl (fun ls hl => ?_)
  refine lv_goto (tgt := 116) C.1 C.2.1 dX12_deals_181 (by decide) ?_
  refine lv_iload C.1 C.2.1 dX12_deals_116 (lv_at hl 0 rfl) ?_
  refine lv_iload C.1 C.2.1 dX12_deals_118 (lv_at hl 2 rfl) ?_
  refine lv_icmp_ge (tgt := 184) C.1 C.2.1 dX12_deals_120 (by decide) (fun _ => ?_) (fun c5358 => absurd c5358 (by decide))
  refine lv_iinc (v := 5) (lv' := [(7, .int 5), (8, .int 4), (6, .int 1), (5, .int 0), (4, .int 0), (3, .int 1), (0, .ref h0), (1, .int 0), (2, .int 0)]) C.1 C.2.1 dX12_deals_184 hl (k := 2) rfl (by decide) (by decide) rfl (fun ls hl => ?_)
  refine lv_goto (tgt := 106) C.1 C.2.1 dX12_deals_187 (by decide) ?_
  refine lv_iload C.1 C.2.1 dX12_deals_106 (lv_at hl 0 rfl) ?_
  refine lv_bipush (v := 6) C.1 C.2.1 dX12_deals_108 (by decide) ?_
  refine lv_icmp_ge (tgt := 190) C.1 C.2.1 dX12_deals_110 (by decide) (fun c5359 => absurd c5359 (by decide)) (fun _ => ?_)
  refine lv_iconst (v := 0) C.1 C.2.1 dX12_deals_113 (by decide) ?_
  refine lv_istore (lv' := [(8, .int 0), (7, .int 5), (6, .int 1), (5, .int 0), (4, .int 0), (3, .int 1), (0, .ref h0), (1, .int 0), (2, .int 0)]) C.1 C.2.1 dX12_deals_114 hl (by decide) rfl (fun ls hl => ?_)
  refine lv_iload C.1 C.2.1 dX12_deals_116 (lv_at hl 0 rfl) ?_
  refine lv_iload C.1 C.2.1 dX12_deals_118 (lv_at hl 1 rfl) ?_
  refine lv_icmp_ge (tgt := 184) C.1 C.2.1 dX12_deals_120 (by decide) (fun c5360 => absurd c5360 (by decide)) (fun _ => ?_)
  refine lv_iload C.1 C.2.1 dX12_deals_123 (lv_at hl 2 rfl) ?_
  refine lv_if_eq (tgt := 175) C.1 C.2.1 dX12_deals_125 (by decide) (fun c5361 => absurd c5361 (by decide)) (fun _ => ?_)
  refine lv_aload_n C.1 C.2.1 dX12_deals_128 rfl (lv_at hl 6 rfl) ?_
  refine k_get C Wd KX12 0 55 rfl (by decide) fl_X12_87 rfl dX12_deals_129 ?_
  refine lv_iload C.1 C.2.1 dX12_deals_132 (lv_at hl 1 rfl) ?_
  refine k_iald (v := (-1)) C Wd 1 0 rfl rfl (vp_in_iff.mpr (by decide)) rfl dX12_deals_134 ?_
  refine lv_iconst (v := (-1)) C.1 C.2.1 dX12_deals_135 (by decide) ?_
  refine lv_icmp_eq (tgt := 171) C.1 C.2.1 dX12_deals_136 (by decide) (fun _ => ?_) (fun c5362 => absurd c5362 (by decide))
  refine lv_iconst (v := 1) C.1 C.2.1 dX12_deals_171 (by decide) ?_
  refine lv_goto (tgt := 176) C.1 C.2.1 dX12_deals_172 (by decide) ?_
  refine lv_istore (lv' := [(6, .int 1), (8, .int 0), (7, .int 5), (5, .int 0), (4, .int 0), (3, .int 1), (0, .ref h0), (1, .int 0), (2, .int 0)]) C.1 C.2.1 dX12_deals_176 hl (by decide) rfl (fun ls hl => ?_)
  refine lv_iinc (v := 1) (lv' := [(8, .int 1), (6, .int 1), (7, .int 5), (5, .int 0), (4, .int 0), (3, .int 1), (0, .ref h0), (1, .int 0), (2, .int 0)]) C.1 C.2.1 dX12_deals_178 hl (k := 1) rfl (by decide) (by decide) rfl (fun ls hl => ?_)
  refine lv_goto (tgt := 116) C.1 C.2.1 dX12_deals_181 (by decide) ?_
  refine lv_iload C.1 C.2.1 dX12_deals_116 (lv_at hl 0 rfl) ?_
  refine lv_iload C.1 C.2.1 dX12_deals_118 (lv_at hl 2 rfl) ?_
  refine lv_icmp_ge (tgt := 184) C.1 C.2.1 dX12_deals_120 (by decide) (fun c5363 => absurd c5363 (by decide)) (fun _ => ?_)
  refine lv_iload C.1 C.2.1 dX12_deals_123 (lv_at hl 1 rfl) ?_
  refine lv_if_eq (tgt := 175) C.1 C.2.1 dX12_deals_125 (by decide) (fun c5364 => absurd c5364 (by decide)) (fun _ => ?_)
  refine lv_aload_n C.1 C.2.1 dX12_deals_128 rfl (lv_at hl 6 rfl) ?_
  refine k_get C Wd KX12 0 55 rfl (by decide) fl_X12_87 rfl dX12_deals_129 ?_
  refine lv_iload C.1 C.2.1 dX12_deals_132 (lv_at hl 2 rfl) ?_
  refine k_iald (v := (-1)) C Wd 1 0 rfl rfl (vp_in_iff.mpr (by decide)) rfl dX12_deals_134 ?_
  refine lv_iconst (v := (-1)) C.1 C.2.1 dX12_deals_135 (by decide) ?_
  refine lv_icmp_eq (tgt := 171) C.1 C.2.1 dX12_deals_136 (by decide) (fun _ => ?_) (fun c5365 => absurd c5365 (by decide))
  refine lv_iconst (v := 1) C.1 C.2.1 dX12_deals_171 (by decide) ?_
  refine lv_goto (tgt := 176) C.1 C.2.1 dX12_deals_172 (by decide) ?_
  refine lv_istore (lv' := [(6, .int 1), (8, .int 1), (7, .int 5), (5, .int 0), (4, .int 0), (3, .int 1), (0, .ref h0), (1, .int 0), (2, .int 0)]) C.1 C.2.1 dX12_deals_176 hl (by decide) rfl (fun ls hl => ?_)
  refine lv_iinc (v := 2) (lv' := [(8, .int 2), (6, .int 1), (7, .int 5), (5, .int 0), (4, .int 0), (3, .int 1), (0, .ref h0), (1, .int 0), (2, .int 0)]) C.1 C.2.1 dX12_deals_178 hl (k := 1) rfl (by decide) (by decide) rfl (fun ls hl => ?_)
  refine lv_goto (tgt := 116) C.1 C.2.1 dX12_deals_181 (by decide) ?_
  refine lv_iload C.1 C.2.1 dX12_deals_116 (lv_at hl 0 rfl) ?_
  refine lv_iload C.1 C.2.1 dX12_deals_118 (lv_at hl 2 rfl) ?_
  refine lv_icmp_ge (tgt := 184) C.1 C.2.1 dX12_deals_120 (by decide) (fun c5366 => absurd c5366 (by decide)) (fun _ => ?_)
  refine lv_iload C.1 C.2.1 dX12_deals_123 (lv_at hl 1 rfl) ?_
  refine lv_if_eq (tgt := 175) C.1 C.2.1 dX12_deals_125 (by decide) (fun c5367 => absurd c5367 (by decide)) (fun _ => ?_)
  refine lv_aload_n C.1 C.2.1 dX12_deals_128 rfl (lv_at hl 6 rfl) ?_
  refine k_get C Wd KX12 0 55 rfl (by decide) fl_X12_87 rfl dX12_deals_129 ?_
  refine lv_iload C.1 C.2.1 dX12_deals_132 (lv_at hl 2 rfl) ?_
  refine k_iald (v := (-1)) C Wd 1 0 rfl rfl (vp_in_iff.mpr (by decide)) rfl dX12_deals_134 ?_
  refine lv_iconst (v := (-1)) C.1 C.2.1 dX12_deals_135 (by decide) ?_
  refine lv_icmp_eq (tgt := 171) C.1 C.2.1 dX12_deals_136 (by decide) (fun _ => ?_) (fun c5368 => absurd c5368 (by decide))
  refine lv_iconst (v := 1) C.1 C.2.1 dX12_deals_171 (by decide) ?_
  refine lv_goto (tgt := 176) C.1 C.2.1 dX12_deals_172 (by decide) ?_
  refine lv_istore (lv' := [(6, .int 1), (8, .int 2), (7, .int 5), (5, .int 0), (4, .int 0), (3, .int 1), (0, .ref h0), (1, .int 0), (2, .int 0)]) C.1 C.2.1 dX12_deals_176 hl (by decide) rfl (fun ls hl => ?_)
  refine lv_iinc (v := 3) (lv' := [(8, .int 3), (6, .int 1), (7, .int 5), (5, .int 0), (4, .int 0), (3, .int 1), (0, .ref h0), (1, .int 0), (2, .int 0)]) C.1 C.2.1 dX12_deals_178 hl (k := 1) rfl (by decide) (by decide) rfl (fun ls hl => ?_)
  refine lv_goto (tgt := 116) C.1 C.2.1 dX12_deals_181 (by decide) ?_
  refine lv_iload C.1 C.2.1 dX12_deals_116 (lv_at hl 0 rfl) ?_
  refine lv_iload C.1 C.2.1 dX12_deals_118 (lv_at hl 2 rfl) ?_
  refine lv_icmp_ge (tgt := 184) C.1 C.2.1 dX12_deals_120 (by decide) (fun c5369 => absurd c5369 (by decide)) (fun _ => ?_)
  refine lv_iload C.1 C.2.1 dX12_deals_123 (lv_at hl 1 rfl) ?_
  refine lv_if_eq (tgt := 175) C.1 C.2.1 dX12_deals_125 (by decide) (fun c5370 => absurd c5370 (by decide)) (fun _ => ?_)
  refine lv_aload_n C.1 C.2.1 dX12_deals_128 rfl (lv_at hl 6 rfl) ?_
  refine k_get C Wd KX12 0 55 rfl (by decide) fl_X12_87 rfl dX12_deals_129 ?_
  refine lv_iload C.1 C.2.1 dX12_deals_132 (lv_at hl 2 rfl) ?_
  refine k_iald (v := (-1)) C Wd 1 0 rfl rfl (vp_in_iff.mpr (by decide)) rfl dX12_deals_134 ?_
  refine lv_iconst (v := (-1)) C.1 C.2.1 dX12_deals_135 (by decide) ?_
  refine lv_icmp_eq (tgt := 171) C.1 C.2.1 dX12_deals_136 (by decide) (fun _ => ?_) (fun c5371 => absurd c5371 (by decide))
  refine lv_iconst (v := 1) C.1 C.2.1 dX12_deals_171 (by decide) ?_
  refine lv_goto (tgt := 176) C.1 C.2.1 dX12_deals_172 (by decide) ?_
  refine lv_istore (lv' := [(6, .int 1), (8, .int 3), (7, .int 5), (5, .int 0), (4, .int 0), (3, .int 1), (0, .ref h0), (1, .int 0), (2, .int 0)]) C.1 C.2.1 dX12_deals_176 hl (by decide) rfl (fun ls hl => ?_)
  refine lv_iinc (v := 4) (lv' := [(8, .int 4), (6, .int 1), (7, .int 5), (5, .int 0), (4, .int 0), (3, .int 1), (0, .ref h0), (1, .int 0), (2, .int 0)]) C.1 C.2.1 dX12_deals_178 hl (k := 1) rfl (by decide) (by decide) rfl (fun ls hl => ?_)
  refine lv_goto (tgt := 116) C.1 C.2.1 dX12_deals_181 (by decide) ?_
  refine lv_iload C.1 C.2.1 dX12_deals_116 (lv_at hl 0 rfl) ?_
  refine lv_iload C.1 C.2.1 dX12_deals_118 (lv_at hl 2 rfl) ?_
  refine lv_icmp_ge (tgt := 184) C.1 C.2.1 dX12_deals_120 (by decide) (fun c5372 => absurd c5372 (by decide)) (fun _ => ?_)
  refine lv_iload C.1 C.2.1 dX12_deals_123 (lv_at hl 1 rfl) ?_
  refine lv_if_eq (tgt := 175) C.1 C.2.1 dX12_deals_125 (by decide) (fun c5373 => absurd c5373 (by decide)) (fun _ => ?_)
  refine lv_aload_n C.1 C.2.1 dX12_deals_128 rfl (lv_at hl 6 rfl) ?_
  refine k_get C Wd KX12 0 55 rfl (by decide) fl_X12_87 rfl dX12_deals_129 ?_
  refine lv_iload C.1 C.2.1 dX12_deals_132 (lv_at hl 2 rfl) ?_
  refine k_iald (v := (-1)) C Wd 1 0 rfl rfl (vp_in_iff.mpr (by decide)) rfl dX12_deals_134 ?_
  refine lv_iconst (v := (-1)) C.1 C.2.1 dX12_deals_135 (by decide) ?_
  refine lv_icmp_eq (tgt := 171) C.1 C.2.1 dX12_deals_136 (by decide) (fun _ => ?_) (fun c5374 => absurd c5374 (by decide))
  refine lv_iconst (v := 1) C.1 C.2.1 dX12_deals_171 (by decide) ?_
  refine lv_goto (tgt := 176) C.1 C.2.1 dX12_deals_172 (by decide) ?_
  refine lv_istore (lv' := [(6, .int 1), (8, .int 4), (7, .int 5), (5, .int 0), (4, .int 0), (3, .int 1), (0, .ref h0), (1, .int 0), (2, .int 0)]) C.1 C.2.1 dX12_deals_176 hl (by decide) rfl (fun ls hl => ?_)
  refine lv_iinc (v := 5) (lv' := [(8, .int 5), (6, .int 1), (7, .int 5), (5, .int 0), (4, .int 0), (3, .int 1), (0, .ref h0), (1, .int 0), (2, .int 0)]) C.1 C.2.1 dX12_deals_178 hl (k := 1) rfl (by decide) (by decide) rfl (fun ls hl => ?_)
  refine lv_goto (tgt := 116) C.1 C.2.1 dX12_deals_181 (by decide) ?_
  refine lv_iload C.1 C.2.1 dX12_deals_116 (lv_at hl 0 rfl) ?_
  refine lv_iload C.1 C.2.1 dX12_deals_118 (lv_at hl 2 rfl) ?_
  refine lv_icmp_ge (tgt := 184) C.1 C.2.1 dX12_deals_120 (by decide) (fun _ => ?_) (fun c5375 => absurd c5375 (by decide))
  refine lv_iinc (v := 6) (lv' := [(7, .int 6), (8, .int 5), (6, .int 1), (5, .int 0), (4, .int 0), (3, .int 1), (0, .ref h0), (1, .int 0), (2, .int 0)]) C.1 C.2.1 dX12_deals_184 hl (k := 2) rfl (by decide) (by decide) rfl (fun ls hl => ?_)
  refine lv_goto (tgt := 106) C.1 C.2.1 dX12_deals_187 (by decide) ?_
  refine lv_iload C.1 C.2.1 dX12_deals_106 (lv_at hl 0 rfl) ?_
  refine lv_bipush (v := 6) C.1 C.2.1 dX12_deals_108 (by decide) ?_
  refine lv_icmp_ge (tgt := 190) C.1 C.2.1 dX12_deals_110 (by decide) (fun _ => ?_) (fun c5376 => absurd c5376 (by decide))
  refine lv_iload C.1 C.2.1 dX12_deals_190 (lv_at hl 2 rfl) ?_
  refine lv_if_eq (tgt := 197) C.1 C.2.1 dX12_deals_192 (by decide) (fun c5377 => absurd c5377 (by decide)) (fun _ => ?_)
  refine lv_iconst (v := 1) C.1 C.2.1 dX12_deals_195 (by decide) ?_
  exact k_zret C hr hlk rfl Wd () rfl [0, 1] rfl (by decide) [] rfl (by decide) (by decide) dX12_deals_196
set_option maxHeartbeats 4000000 in
set_option maxRecDepth 100000 in
theorem kcX12_enough (l : Launch) (D : va_G) (h0 h1 h2 h3 h4 h5 h6 h7 h8 h9 h10 h11 h12 h13 h14 h15 h16 h17 h18 h19 h20 h21 h22 h23 h24 h25 : Nat) (a24 : ClassId) (sz : Nat)  : Met l yX12_enough (Cond.code yX12_enough cX12_enough 3 (some .int) :: gG) { frames := 2, cells := 0, slots := 0, locals := 92 } (cPre D [(a24, .int)] [(h0, .inr (12, [.ref h1, .ref h2, .ref h3, .ref h4, .int 0, .int 0, .ref h5, .int 0, .int 0, .int 0, .int 0, .int 0, .int 0, .int 0, .int 0, .int 0, .int 0, .int 0, .int 0, .int 0, .int (-1), .int 0, .int 0, .int 0, .ref h6, .ref h7, .ref h8, .ref h9, .ref h10, .ref h11, .int 0, .int 0, .int 0, .int 0, .ref h12, .ref h13, .ref h14, .int 0, .int 0, .int 0, .int 0, .ref h15, .ref h16, .int 0, .ref h17, .ref h18, .int 0, .ref h19, .int 0, .ref h20, .ref h21, .ref h22, .int 0, .ref h23, .ref h24, .ref h25])), (h25, .inl (a24, 6, .inl (fun _ => 0)))] sz [.ref h0, .int 0]) (va_Qi (fun (r : Int32) (_ : Unit) => r = 0) (fun u t => cB D (va_A [(h0, .inr (12, [.ref h1, .ref h2, .ref h3, .ref h4, .int 0, .int 0, .ref h5, .int 0, .int 0, .int 0, .int 0, .int 0, .int 0, .int 0, .int 0, .int 0, .int 0, .int 0, .int 0, .int 0, .int (-1), .int 0, .int 0, .int 0, .ref h6, .ref h7, .ref h8, .ref h9, .ref h10, .ref h11, .int 0, .int 0, .int 0, .int 0, .ref h12, .ref h13, .ref h14, .int 0, .int 0, .int 0, .int 0, .ref h15, .ref h16, .int 0, .ref h17, .ref h18, .int 0, .ref h19, .int 0, .ref h20, .ref h21, .ref h22, .int 0, .ref h23, .ref h24, .ref h25])), (h25, .inl (a24, 6, .inl (fun _ => 0)))] sz) ((fun (_ : Unit) => ([] : List (ClassId × FieldType))) u) ((fun (_ : Unit) => ([(h0, .inr (12, [.ref h1, .ref h2, .ref h3, .ref h4, .int 0, .int 0, .ref h5, .int 0, .int 0, .int 0, .int 0, .int 0, .int 0, .int 0, .int 0, .int 0, .int 0, .int 0, .int 0, .int 0, .int (-1), .int 0, .int 0, .int 0, .ref h6, .ref h7, .ref h8, .ref h9, .ref h10, .ref h11, .int 0, .int 0, .int 0, .int 0, .ref h12, .ref h13, .ref h14, .int 0, .int 0, .int 0, .int 0, .ref h15, .ref h16, .int 0, .ref h17, .ref h18, .int 0, .ref h19, .int 0, .ref h20, .ref h21, .ref h22, .int 0, .ref h23, .ref h24, .ref h25])), (h25, .inl (a24, 6, .inl (upd (upd (upd (upd (upd (upd (fun _ => 0) 5 (-1)) 4 (-1)) 3 (-1)) 2 (-1)) 1 (-1)) 0 (-1))))] : va_W)) u) t) (va_A [(h0, .inr (12, [.ref h1, .ref h2, .ref h3, .ref h4, .int 0, .int 0, .ref h5, .int 0, .int 0, .int 0, .int 0, .int 0, .int 0, .int 0, .int 0, .int 0, .int 0, .int 0, .int 0, .int 0, .int (-1), .int 0, .int 0, .int 0, .ref h6, .ref h7, .ref h8, .ref h9, .ref h10, .ref h11, .int 0, .int 0, .int 0, .int 0, .ref h12, .ref h13, .ref h14, .int 0, .int 0, .int 0, .int 0, .ref h15, .ref h16, .int 0, .ref h17, .ref h18, .int 0, .ref h19, .int 0, .ref h20, .ref h21, .ref h22, .int 0, .ref h23, .ref h24, .ref h25])), (h25, .inl (a24, 6, .inl (fun _ => 0)))] sz)) 0 0 (va_A [(h0, .inr (12, [.ref h1, .ref h2, .ref h3, .ref h4, .int 0, .int 0, .ref h5, .int 0, .int 0, .int 0, .int 0, .int 0, .int 0, .int 0, .int 0, .int 0, .int 0, .int 0, .int 0, .int 0, .int (-1), .int 0, .int 0, .int 0, .ref h6, .ref h7, .ref h8, .ref h9, .ref h10, .ref h11, .int 0, .int 0, .int 0, .int 0, .ref h12, .ref h13, .ref h14, .int 0, .int 0, .int 0, .int 0, .ref h15, .ref h16, .int 0, .ref h17, .ref h18, .int 0, .ref h19, .int 0, .ref h20, .ref h21, .ref h22, .int 0, .ref h23, .ref h24, .ref h25])), (h25, .inl (a24, 6, .inl (fun _ => 0)))] sz) := by
  refine Met.ofW (cc := cX12_enough) (maxL := 3) (ret := (some .int)) (by decide) rfl ?_
  intro p e s m args below meth c s₁ B hml hv
  obtain ⟨rfl, aks, rfl, Wd⟩ := k_enter hv
  have C : CallFix p m c cX12_enough 3 s _ gG RX12 := ⟨B.exec, B.bytes, hml, findClass_of_methodNamed B.named, fun w h => atoms_spec (ws := Cond.code yX12_enough cX12_enough 3 (some .int) :: gG) B.pre w (List.mem_cons_of_mem _ h)⟩
  have hr := B.returns
  have hlk := B.notSynchronized
  generalize va_A [(h0, .inr (12, [.ref h1, .ref h2, .ref h3, .ref h4, .int 0, .int 0, .ref h5, .int 0, .int 0, .int 0, .int 0, .int 0, .int 0, .int 0, .int 0, .int 0, .int 0, .int 0, .int 0, .int 0, .int (-1), .int 0, .int 0, .int 0, .ref h6, .ref h7, .ref h8, .ref h9, .ref h10, .ref h11, .int 0, .int 0, .int 0, .int 0, .ref h12, .ref h13, .ref h14, .int 0, .int 0, .int 0, .int 0, .ref h15, .ref h16, .int 0, .ref h17, .ref h18, .int 0, .ref h19, .int 0, .ref h20, .ref h21, .ref h22, .int 0, .ref h23, .ref h24, .ref h25])), (h25, .inl (a24, 6, .inl (fun _ => 0)))] s.heap.size = A at Wd ⊢
  refine k_locals (Nat.le_of_ble_eq_true rfl) [(0, .ref h0), (1, .int 0)] rfl (fun ls hl => ?_)
  refine lv_iconst (v := 0) C.1 C.2.1 dX12_enough_0 (by decide) ?_
  refine lv_istore_n (lv' := [(2, .int 0), (0, .ref h0), (1, .int 0)]) C.1 C.2.1 dX12_enough_1 rfl hl (by decide) rfl (fun ls hl => ?_)
  refine lv_aload_n C.1 C.2.1 dX12_enough_2 rfl (lv_at hl 1 rfl) ?_
  refine lv_iload_n C.1 C.2.1 dX12_enough_3 rfl (lv_at hl 2 rfl) ?_
  refine lv_iload_n C.1 C.2.1 dX12_enough_4 rfl (lv_at hl 0 rfl) ?_
  refine k_ci Wd [0, 1] [] rfl (wr := []) rfl (by decide) (by decide) (cells' := 0) (slots' := 0) (by decide) (by decide) (k_runV (rest := []) C aks Wd cs_X12_466 (kcX12_deals l D h0 h1 h2 h3 h4 h5 h6 h7 h8 h9 h10 h11 h12 h13 h14 h15 h16 h17 h18 h19 h20 h21 h22 h23 h24 h25 a24 _ ) [0, 1] rfl (by decide) [0] rfl 0 12 rfl rfl rfl rfl rfl ⟨(Nat.le_of_ble_eq_true rfl), (Nat.le_of_ble_eq_true rfl)⟩ hl.1 rfl rfl (Nat.le_of_ble_eq_true rfl) ⟨(Nat.le_of_ble_eq_true rfl), (Nat.le_of_ble_eq_true rfl)⟩ dX12_enough_5) (fun r _ H locs w5380 Wd => ?_)
  have Wd : wX D [(a24, .int)] s [(h0, .inr (12, [.ref h1, .ref h2, .ref h3, .ref h4, .int 0, .int 0, .ref h5, .int 0, .int 0, .int 0, .int 0, .int 0, .int 0, .int 0, .int 0, .int 0, .int 0, .int 0, .int 0, .int 0, .int (-1), .int 0, .int 0, .int 0, .ref h6, .ref h7, .ref h8, .ref h9, .ref h10, .ref h11, .int 0, .int 0, .int 0, .int 0, .ref h12, .ref h13, .ref h14, .int 0, .int 0, .int 0, .int 0, .ref h15, .ref h16, .int 0, .ref h17, .ref h18, .int 0, .ref h19, .int 0, .ref h20, .ref h21, .ref h22, .int 0, .ref h23, .ref h24, .ref h25])), (h25, .inl (a24, 6, .inl (upd (upd (upd (upd (upd (upd (fun _ => 0) 5 (-1)) 4 (-1)) 3 (-1)) 2 (-1)) 1 (-1)) 0 (-1))))] _ A s.heap _ := Wd
  obtain rfl := w5380
  refine lv_if_ne (tgt := 17) C.1 C.2.1 dX12_enough_8 (by decide) (fun _ => ?_) (fun c5381 => absurd c5381 (by decide))
  refine lv_iload_n C.1 C.2.1 dX12_enough_17 rfl (lv_at hl 0 rfl) ?_
  exact k_zret C hr hlk rfl Wd () rfl [0, 1] rfl (by decide) [] rfl (by decide) (by decide) dX12_enough_18
set_option maxHeartbeats 4000000 in
set_option maxRecDepth 100000 in
theorem kcX12_deals_v1 (l : Launch) (D : va_G) (h0 h1 h2 h3 h4 h5 h6 h7 h8 h9 h10 h11 h12 h13 h14 h15 h16 h17 h18 h19 h20 h21 h22 h23 h24 h25 : Nat) (x0 : Int32) (a24 : ClassId) (sz : Nat)  : Met l yX12_deals (Cond.code yX12_deals cX12_deals 9 (some .boolean) :: gG) { frames := 1, cells := 0, slots := 0, locals := 64 } (cPre D [(a24, .int)] [(h0, .inr (12, [.ref h1, .ref h2, .ref h3, .ref h4, .int 0, .int 0, .ref h5, .int 0, .int 0, .int 0, .int 0, .int 0, .int 0, .int 0, .int 0, .int 0, .int 0, .int 0, .int 0, .int 0, .int (-1), .int 0, .int 0, .int 0, .ref h6, .ref h7, .ref h8, .ref h9, .ref h10, .ref h11, .int 0, .int 0, .int 0, .int 0, .ref h12, .ref h13, .ref h14, .int 0, .int 0, .int 0, .int 0, .ref h15, .ref h16, .int 0, .ref h17, .ref h18, .int 0, .ref h19, .int 0, .ref h20, .ref h21, .ref h22, .int 0, .ref h23, .ref h24, .ref h25])), (h25, .inl (a24, 6, .inl (fun _ => 0)))] sz [.ref h0, .int 0, .int x0]) (va_Qi (fun (r : Int32) (_ : Unit) => r = 1) (fun u t => cB D (va_A [(h0, .inr (12, [.ref h1, .ref h2, .ref h3, .ref h4, .int 0, .int 0, .ref h5, .int 0, .int 0, .int 0, .int 0, .int 0, .int 0, .int 0, .int 0, .int 0, .int 0, .int 0, .int 0, .int 0, .int (-1), .int 0, .int 0, .int 0, .ref h6, .ref h7, .ref h8, .ref h9, .ref h10, .ref h11, .int 0, .int 0, .int 0, .int 0, .ref h12, .ref h13, .ref h14, .int 0, .int 0, .int 0, .int 0, .ref h15, .ref h16, .int 0, .ref h17, .ref h18, .int 0, .ref h19, .int 0, .ref h20, .ref h21, .ref h22, .int 0, .ref h23, .ref h24, .ref h25])), (h25, .inl (a24, 6, .inl (fun _ => 0)))] sz) ((fun (_ : Unit) => ([] : List (ClassId × FieldType))) u) ((fun (_ : Unit) => ([(h0, .inr (12, [.ref h1, .ref h2, .ref h3, .ref h4, .int 0, .int 0, .ref h5, .int 0, .int 0, .int 0, .int 0, .int 0, .int 0, .int 0, .int 0, .int 0, .int 0, .int 0, .int 0, .int 0, .int (-1), .int 0, .int 0, .int 0, .ref h6, .ref h7, .ref h8, .ref h9, .ref h10, .ref h11, .int 0, .int 0, .int 0, .int 0, .ref h12, .ref h13, .ref h14, .int 0, .int 0, .int 0, .int 0, .ref h15, .ref h16, .int 0, .ref h17, .ref h18, .int 0, .ref h19, .int 0, .ref h20, .ref h21, .ref h22, .int 0, .ref h23, .ref h24, .ref h25])), (h25, .inl (a24, 6, .inl (upd (upd (upd (upd (upd (upd (fun _ => 0) 5 (-1)) 4 (-1)) 3 (-1)) 2 (-1)) 1 (-1)) 0 (-1))))] : va_W)) u) t) (va_A [(h0, .inr (12, [.ref h1, .ref h2, .ref h3, .ref h4, .int 0, .int 0, .ref h5, .int 0, .int 0, .int 0, .int 0, .int 0, .int 0, .int 0, .int 0, .int 0, .int 0, .int 0, .int 0, .int 0, .int (-1), .int 0, .int 0, .int 0, .ref h6, .ref h7, .ref h8, .ref h9, .ref h10, .ref h11, .int 0, .int 0, .int 0, .int 0, .ref h12, .ref h13, .ref h14, .int 0, .int 0, .int 0, .int 0, .ref h15, .ref h16, .int 0, .ref h17, .ref h18, .int 0, .ref h19, .int 0, .ref h20, .ref h21, .ref h22, .int 0, .ref h23, .ref h24, .ref h25])), (h25, .inl (a24, 6, .inl (fun _ => 0)))] sz)) 0 0 (va_A [(h0, .inr (12, [.ref h1, .ref h2, .ref h3, .ref h4, .int 0, .int 0, .ref h5, .int 0, .int 0, .int 0, .int 0, .int 0, .int 0, .int 0, .int 0, .int 0, .int 0, .int 0, .int 0, .int 0, .int (-1), .int 0, .int 0, .int 0, .ref h6, .ref h7, .ref h8, .ref h9, .ref h10, .ref h11, .int 0, .int 0, .int 0, .int 0, .ref h12, .ref h13, .ref h14, .int 0, .int 0, .int 0, .int 0, .ref h15, .ref h16, .int 0, .ref h17, .ref h18, .int 0, .ref h19, .int 0, .ref h20, .ref h21, .ref h22, .int 0, .ref h23, .ref h24, .ref h25])), (h25, .inl (a24, 6, .inl (fun _ => 0)))] sz) := by
  refine Met.ofW (cc := cX12_deals) (maxL := 9) (ret := (some .boolean)) (by decide) rfl ?_
  intro p e s m args below meth c s₁ B hml hv
  obtain ⟨rfl, aks, rfl, Wd⟩ := k_enter hv
  have C : CallFix p m c cX12_deals 9 s _ gG RX12 := ⟨B.exec, B.bytes, hml, findClass_of_methodNamed B.named, fun w h => atoms_spec (ws := Cond.code yX12_deals cX12_deals 9 (some .boolean) :: gG) B.pre w (List.mem_cons_of_mem _ h)⟩
  have hr := B.returns
  have hlk := B.notSynchronized
  generalize va_A [(h0, .inr (12, [.ref h1, .ref h2, .ref h3, .ref h4, .int 0, .int 0, .ref h5, .int 0, .int 0, .int 0, .int 0, .int 0, .int 0, .int 0, .int 0, .int 0, .int 0, .int 0, .int 0, .int 0, .int (-1), .int 0, .int 0, .int 0, .ref h6, .ref h7, .ref h8, .ref h9, .ref h10, .ref h11, .int 0, .int 0, .int 0, .int 0, .ref h12, .ref h13, .ref h14, .int 0, .int 0, .int 0, .int 0, .ref h15, .ref h16, .int 0, .ref h17, .ref h18, .int 0, .ref h19, .int 0, .ref h20, .ref h21, .ref h22, .int 0, .ref h23, .ref h24, .ref h25])), (h25, .inl (a24, 6, .inl (fun _ => 0)))] s.heap.size = A at Wd ⊢
  refine k_locals (Nat.le_of_ble_eq_true rfl) [(0, .ref h0), (1, .int 0), (2, .int x0)] rfl (fun ls hl => ?_)
  refine lv_iconst (v := 1) C.1 C.2.1 dX12_deals_0 (by decide) ?_
  refine lv_istore_n (lv' := [(3, .int 1), (0, .ref h0), (1, .int 0), (2, .int x0)]) C.1 C.2.1 dX12_deals_1 rfl hl (by decide) rfl (fun ls hl => ?_)
  refine lv_iconst (v := 0) C.1 C.2.1 dX12_deals_2 (by decide) ?_
  refine lv_istore (lv' := [(4, .int 0), (3, .int 1), (0, .ref h0), (1, .int 0), (2, .int x0)]) C.1 C.2.1 dX12_deals_3 hl (by decide) rfl (fun ls hl => ?_)
  refine lv_iload C.1 C.2.1 dX12_deals_5 (lv_at hl 0 rfl) ?_
  refine lv_bipush (v := 6) C.1 C.2.1 dX12_deals_7 (by decide) ?_
  refine lv_icmp_ge (tgt := 36) C.1 C.2.1 dX12_deals_9 (by decide) (fun c5500 => absurd c5500 (by decide)) (fun _ => ?_)
  refine lv_iload_n C.1 C.2.1 dX12_deals_12 rfl (lv_at hl 1 rfl) ?_
  refine lv_iload_n C.1 C.2.1 dX12_deals_13 rfl (lv_at hl 3 rfl) ?_
  refine lv_iload C.1 C.2.1 dX12_deals_14 (lv_at hl 0 rfl) ?_
  refine k_ishr (v := 0) C (by decide) dX12_deals_16 ?_
  refine lv_iconst (v := 1) C.1 C.2.1 dX12_deals_17 (by decide) ?_
  refine k_iand (v := 0) C (by decide) dX12_deals_18 ?_
  refine lv_iconst (v := 1) C.1 C.2.1 dX12_deals_19 (by decide) ?_
  refine lv_icmp_ne (tgt := 27) C.1 C.2.1 dX12_deals_20 (by decide) (fun _ => ?_) (fun c5501 => absurd c5501 (by decide))
  refine lv_iconst (v := 1) C.1 C.2.1 dX12_deals_27 (by decide) ?_
  refine k_imul (v := 1) C (by decide) dX12_deals_28 ?_
  refine lv_istore_n (lv' := [(3, .int 1), (4, .int 0), (0, .ref h0), (1, .int 0), (2, .int x0)]) C.1 C.2.1 dX12_deals_29 rfl hl (by decide) rfl (fun ls hl => ?_)
  refine lv_iinc (v := 1) (lv' := [(4, .int 1), (3, .int 1), (0, .ref h0), (1, .int 0), (2, .int x0)]) C.1 C.2.1 dX12_deals_30 hl (k := 1) rfl (by decide) (by decide) rfl (fun ls hl => ?_)
  refine lv_goto (tgt := 5) C.1 C.2.1 dX12_deals_33 (by decide) ?_
  refine lv_iload C.1 C.2.1 dX12_deals_5 (lv_at hl 0 rfl) ?_
  refine lv_bipush (v := 6) C.1 C.2.1 dX12_deals_7 (by decide) ?_
  refine lv_icmp_ge (tgt := 36) C.1 C.2.1 dX12_deals_9 (by decide) (fun c5502 => absurd c5502 (by decide)) (fun _ => ?_)
  refine lv_iload_n C.1 C.2.1 dX12_deals_12 rfl (lv_at hl 1 rfl) ?_
  refine lv_iload_n C.1 C.2.1 dX12_deals_13 rfl (lv_at hl 3 rfl) ?_
  refine lv_iload C.1 C.2.1 dX12_deals_14 (lv_at hl 0 rfl) ?_
  refine k_ishr (v := 0) C (by decide) dX12_deals_16 ?_
  refine lv_iconst (v := 1) C.1 C.2.1 dX12_deals_17 (by decide) ?_
  refine k_iand (v := 0) C (by decide) dX12_deals_18 ?_
  refine lv_iconst (v := 1) C.1 C.2.1 dX12_deals_19 (by decide) ?_
  refine lv_icmp_ne (tgt := 27) C.1 C.2.1 dX12_deals_20 (by decide) (fun _ => ?_) (fun c5503 => absurd c5503 (by decide))
  refine lv_iconst (v := 1) C.1 C.2.1 dX12_deals_27 (by decide) ?_
  refine k_imul (v := 1) C (by decide) dX12_deals_28 ?_
  refine lv_istore_n (lv' := [(3, .int 1), (4, .int 1), (0, .ref h0), (1, .int 0), (2, .int x0)]) C.1 C.2.1 dX12_deals_29 rfl hl (by decide) rfl (fun ls hl => ?_)
  refine lv_iinc (v := 2) (lv' := [(4, .int 2), (3, .int 1), (0, .ref h0), (1, .int 0), (2, .int x0)]) C.1 C.2.1 dX12_deals_30 hl (k := 1) rfl (by decide) (by decide) rfl (fun ls hl => ?_)
  refine lv_goto (tgt := 5) C.1 C.2.1 dX12_deals_33 (by decide) ?_
  refine lv_iload C.1 C.2.1 dX12_deals_5 (lv_at hl 0 rfl) ?_
  refine lv_bipush (v := 6) C.1 C.2.1 dX12_deals_7 (by decide) ?_
  refine lv_icmp_ge (tgt := 36) C.1 C.2.1 dX12_deals_9 (by decide) (fun c5504 => absurd c5504 (by decide)) (fun _ => ?_)
  refine lv_iload_n C.1 C.2.1 dX12_deals_12 rfl (lv_at hl 1 rfl) ?_
  refine lv_iload_n C.1 C.2.1 dX12_deals_13 rfl (lv_at hl 3 rfl) ?_
  refine lv_iload C.1 C.2.1 dX12_deals_14 (lv_at hl 0 rfl) ?_
  refine k_ishr (v := 0) C (by decide) dX12_deals_16 ?_
  refine lv_iconst (v := 1) C.1 C.2.1 dX12_deals_17 (by decide) ?_
  refine k_iand (v := 0) C (by decide) dX12_deals_18 ?_
  refine lv_iconst (v := 1) C.1 C.2.1 dX12_deals_19 (by decide) ?_
  refine lv_icmp_ne (tgt := 27) C.1 C.2.1 dX12_deals_20 (by decide) (fun _ => ?_) (fun c5505 => absurd c5505 (by decide))
  refine lv_iconst (v := 1) C.1 C.2.1 dX12_deals_27 (by decide) ?_
  refine k_imul (v := 1) C (by decide) dX12_deals_28 ?_
  refine lv_istore_n (lv' := [(3, .int 1), (4, .int 2), (0, .ref h0), (1, .int 0), (2, .int x0)]) C.1 C.2.1 dX12_deals_29 rfl hl (by decide) rfl (fun ls hl => ?_)
  refine lv_iinc (v := 3) (lv' := [(4, .int 3), (3, .int 1), (0, .ref h0), (1, .int 0), (2, .int x0)]) C.1 C.2.1 dX12_deals_30 hl (k := 1) rfl (by decide) (by decide) rfl (fun ls hl => ?_)
  refine lv_goto (tgt := 5) C.1 C.2.1 dX12_deals_33 (by decide) ?_
  refine lv_iload C.1 C.2.1 dX12_deals_5 (lv_at hl 0 rfl) ?_
  refine lv_bipush (v := 6) C.1 C.2.1 dX12_deals_7 (by decide) ?_
  refine lv_icmp_ge (tgt := 36) C.1 C.2.1 dX12_deals_9 (by decide) (fun c5506 => absurd c5506 (by decide)) (fun _ => ?_)
  refine lv_iload_n C.1 C.2.1 dX12_deals_12 rfl (lv_at hl 1 rfl) ?_
  refine lv_iload_n C.1 C.2.1 dX12_deals_13 rfl (lv_at hl 3 rfl) ?_
  refine lv_iload C.1 C.2.1 dX12_deals_14 (lv_at hl 0 rfl) ?_
  refine k_ishr (v := 0) C (by decide) dX12_deals_16 ?_
  refine lv_iconst (v := 1) C.1 C.2.1 dX12_deals_17 (by decide) ?_
  refine k_iand (v := 0) C (by decide) dX12_deals_18 ?_
  refine lv_iconst (v := 1) C.1 C.2.1 dX12_deals_19 (by decide) ?_
  refine lv_icmp_ne (tgt := 27) C.1 C.2.1 dX12_deals_20 (by decide) (fun _ => ?_) (fun c5507 => absurd c5507 (by decide))
  refine lv_iconst (v := 1) C.1 C.2.1 dX12_deals_27 (by decide) ?_
  refine k_imul (v := 1) C (by decide) dX12_deals_28 ?_
  refine lv_istore_n (lv' := [(3, .int 1), (4, .int 3), (0, .ref h0), (1, .int 0), (2, .int x0)]) C.1 C.2.1 dX12_deals_29 rfl hl (by decide) rfl (fun ls hl => ?_)
  refine lv_iinc (v := 4) (lv' := [(4, .int 4), (3, .int 1), (0, .ref h0), (1, .int 0), (2, .int x0)]) C.1 C.2.1 dX12_deals_30 hl (k := 1) rfl (by decide) (by decide) rfl (fun ls hl => ?_)
  refine lv_goto (tgt := 5) C.1 C.2.1 dX12_deals_33 (by decide) ?_
  refine lv_iload C.1 C.2.1 dX12_deals_5 (lv_at hl 0 rfl) ?_
  refine lv_bipush (v := 6) C.1 C.2.1 dX12_deals_7 (by decide) ?_
  refine lv_icmp_ge (tgt := 36) C.1 C.2.1 dX12_deals_9 (by decide) (fun c5508 => absurd c5508 (by decide)) (fun _ => ?_)
  refine lv_iload_n C.1 C.2.1 dX12_deals_12 rfl (lv_at hl 1 rfl) ?_
  refine lv_iload_n C.1 C.2.1 dX12_deals_13 rfl (lv_at hl 3 rfl) ?_
  refine lv_iload C.1 C.2.1 dX12_deals_14 (lv_at hl 0 rfl) ?_
  refine k_ishr (v := 0) C (by decide) dX12_deals_16 ?_
  refine lv_iconst (v := 1) C.1 C.2.1 dX12_deals_17 (by decide) ?_
  refine k_iand (v := 0) C (by decide) dX12_deals_18 ?_
  refine lv_iconst (v := 1) C.1 C.2.1 dX12_deals_19 (by decide) ?_
  refine lv_icmp_ne (tgt := 27) C.1 C.2.1 dX12_deals_20 (by decide) (fun _ => ?_) (fun c5509 => absurd c5509 (by decide))
  refine lv_iconst (v := 1) C.1 C.2.1 dX12_deals_27 (by decide) ?_
  refine k_imul (v := 1) C (by decide) dX12_deals_28 ?_
  refine lv_istore_n (lv' := [(3, .int 1), (4, .int 4), (0, .ref h0), (1, .int 0), (2, .int x0)]) C.1 C.2.1 dX12_deals_29 rfl hl (by decide) rfl (fun ls hl => ?_)
  refine lv_iinc (v := 5) (lv' := [(4, .int 5), (3, .int 1), (0, .ref h0), (1, .int 0), (2, .int x0)]) C.1 C.2.1 dX12_deals_30 hl (k := 1) rfl (by decide) (by decide) rfl (fun ls hl => ?_)
  refine lv_goto (tgt := 5) C.1 C.2.1 dX12_deals_33 (by decide) ?_
  refine lv_iload C.1 C.2.1 dX12_deals_5 (lv_at hl 0 rfl) ?_
  refine lv_bipush (v := 6) C.1 C.2.1 dX12_deals_7 (by decide) ?_
  refine lv_icmp_ge (tgt := 36) C.1 C.2.1 dX12_deals_9 (by decide) (fun c5510 => absurd c5510 (by decide)) (fun _ => ?_)
  refine lv_iload_n C.1 C.2.1 dX12_deals_12 rfl (lv_at hl 1 rfl) ?_
  refine lv_iload_n C.1 C.2.1 dX12_deals_13 rfl (lv_at hl 3 rfl) ?_
  refine lv_iload C.1 C.2.1 dX12_deals_14 (lv_at hl 0 rfl) ?_
  refine k_ishr (v := 0) C (by decide) dX12_deals_16 ?_
  refine lv_iconst (v := 1) C.1 C.2.1 dX12_deals_17 (by decide) ?_
  refine k_iand (v := 0) C (by decide) dX12_deals_18 ?_
  refine lv_iconst (v := 1) C.1 C.2.1 dX12_deals_19 (by decide) ?_
  refine lv_icmp_ne (tgt := 27) C.1 C.2.1 dX12_deals_20 (by decide) (fun _ => ?_) (fun c5511 => absurd c5511 (by decide))
  refine lv_iconst (v := 1) C.1 C.2.1 dX12_deals_27 (by decide) ?_
  refine k_imul (v := 1) C (by decide) dX12_deals_28 ?_
  refine lv_istore_n (lv' := [(3, .int 1), (4, .int 5), (0, .ref h0), (1, .int 0), (2, .int x0)]) C.1 C.2.1 dX12_deals_29 rfl hl (by decide) rfl (fun ls hl => ?_)
  refine lv_iinc (v := 6) (lv' := [(4, .int 6), (3, .int 1), (0, .ref h0), (1, .int 0), (2, .int x0)]) C.1 C.2.1 dX12_deals_30 hl (k := 1) rfl (by decide) (by decide) rfl (fun ls hl => ?_)
  refine lv_goto (tgt := 5) C.1 C.2.1 dX12_deals_33 (by decide) ?_
  refine lv_iload C.1 C.2.1 dX12_deals_5 (lv_at hl 0 rfl) ?_
  refine lv_bipush (v := 6) C.1 C.2.1 dX12_deals_7 (by decide) ?_
  refine lv_icmp_ge (tgt := 36) C.1 C.2.1 dX12_deals_9 (by decide) (fun _ => ?_) (fun c5512 => absurd c5512 (by decide))
  refine lv_iconst (v := 0) C.1 C.2.1 dX12_deals_36 (by decide) ?_
  refine lv_istore (lv' := [(4, .int 0), (3, .int 1), (0, .ref h0), (1, .int 0), (2, .int x0)]) C.1 C.2.1 dX12_deals_37 hl (by decide) rfl (fun ls hl => ?_)
  refine lv_iload C.1 C.2.1 dX12_deals_39 (lv_at hl 0 rfl) ?_
  refine lv_iload_n C.1 C.2.1 dX12_deals_41 rfl (lv_at hl 1 rfl) ?_
  refine lv_icmp_ge (tgt := 203) C.1 C.2.1 dX12_deals_42 (by decide) (fun c5513 => absurd c5513 (by decide)) (fun _ => ?_)
  refine lv_iload C.1 C.2.1 dX12_deals_45 (lv_at hl 0 rfl) ?_
  refine lv_istore (lv' := [(5, .int 0), (4, .int 0), (3, .int 1), (0, .ref h0), (1, .int 0), (2, .int x0)]) C.1 C.2.1 dX12_deals_47 hl (by decide) rfl (fun ls hl => ?_)
  refine lv_iconst (v := 5) C.1 C.2.1 dX12_deals_49 (by decide) ?_
  refine lv_istore (lv' := [(6, .int 5), (5, .int 0), (4, .int 0), (3, .int 1), (0, .ref h0), (1, .int 0), (2, .int x0)]) C.1 C.2.1 dX12_deals_50 hl (by decide) rfl (fun ls hl => ?_)
  refine lv_iload C.1 C.2.1 dX12_deals_52 (lv_at hl 0 rfl) ?_
  refine lv_if_lt (tgt := 100) C.1 C.2.1 dX12_deals_54 (by decide) (fun c5514 => absurd c5514 (by decide)) (fun _ => ?_)
  refine lv_aload_n C.1 C.2.1 dX12_deals_57 rfl (lv_at hl 4 rfl) ?_
  refine k_get C Wd KX12 0 55 rfl (by decide) fl_X12_87 rfl dX12_deals_58 ?_
  refine lv_iload C.1 C.2.1 dX12_deals_61 (lv_at hl 0 rfl) ?_
  refine lv_iconst (v := (-1)) C.1 C.2.1 dX12_deals_63 (by decide) ?_
  refine k_iast C Wd 1 0 [(h0, .inr (12, [.ref h1, .ref h2, .ref h3, .ref h4, .int 0, .int 0, .ref h5, .int 0, .int 0, .int 0, .int 0, .int 0, .int 0, .int 0, .int 0, .int 0, .int 0, .int 0, .int 0, .int 0, .int (-1), .int 0, .int 0, .int 0, .ref h6, .ref h7, .ref h8, .ref h9, .ref h10, .ref h11, .int 0, .int 0, .int 0, .int 0, .ref h12, .ref h13, .ref h14, .int 0, .int 0, .int 0, .int 0, .ref h15, .ref h16, .int 0, .ref h17, .ref h18, .int 0, .ref h19, .int 0, .ref h20, .ref h21, .ref h22, .int 0, .ref h23, .ref h24, .ref h25])), (h25, .inl (a24, 6, .inl (upd (fun _ => 0) 5 (-1))))] rfl rfl (vp_in_iff.mpr (by decide)) rfl rfl dX12_deals_64 (fun H locs Wd => ?_)
  refine lv_iload_n C.1 C.2.1 dX12_deals_65 rfl (lv_at hl 5 rfl) ?_
  refine lv_iload C.1 C.2.1 dX12_deals_66 (lv_at hl 0 rfl) ?_
  refine k_ishr (v := 0) C (by decide) dX12_deals_68 ?_
  refine lv_iconst (v := 1) C.1 C.2.1 dX12_deals_69 (by decide) ?_
  refine k_iand (v := 0) C (by decide) dX12_deals_70 ?_
  refine lv_if_ne (tgt := 77) C.1 C.2.1 dX12_deals_71 (by decide) (fun c5515 => absurd c5515 (by decide)) (fun _ => ?_)
  refine lv_goto (tgt := 94) C.1 C.2.1 dX12_deals_74 (by decide) ?_
  refine lv_iinc (v := 4) (lv' := [(6, .int 4), (5, .int 0), (4, .int 0), (3, .int 1), (0, .ref h0), (1, .int 0), (2, .int x0)]) C.1 C.2.1 dX12_deals_94 hl (k := 0) rfl (by decide) (by decide) rfl (fun ls hl => ?_)
  refine lv_goto (tgt := 52) C.1 C.2.1 dX12_deals_97 (by decide) ?_
  refine lv_iload C.1 C.2.1 dX12_deals_52 (lv_at hl 0 rfl) ?_
  refine lv_if_lt (tgt := 100) C.1 C.2.1 dX12_deals_54 (by decide) (fun c5516 => absurd c5516 (by decide)) (fun _ => ?_)
  refine lv_aload_n C.1 C.2.1 dX12_deals_57 rfl (lv_at hl 4 rfl) ?_
  refine k_get C Wd KX12 0 55 rfl (by decide) fl_X12_87 rfl dX12_deals_58 ?_
  refine lv_iload C.1 C.2.1 dX12_deals_61 (lv_at hl 0 rfl) ?_
  refine lv_iconst (v := (-1)) C.1 C.2.1 dX12_deals_63 (by decide) ?_
  refine k_iast C Wd 1 0 [(h0, .inr (12, [.ref h1, .ref h2, .ref h3, .ref h4, .int 0, .int 0, .ref h5, .int 0, .int 0, .int 0, .int 0, .int 0, .int 0, .int 0, .int 0, .int 0, .int 0, .int 0, .int 0, .int 0, .int (-1), .int 0, .int 0, .int 0, .ref h6, .ref h7, .ref h8, .ref h9, .ref h10, .ref h11, .int 0, .int 0, .int 0, .int 0, .ref h12, .ref h13, .ref h14, .int 0, .int 0, .int 0, .int 0, .ref h15, .ref h16, .int 0, .ref h17, .ref h18, .int 0, .ref h19, .int 0, .ref h20, .ref h21, .ref h22, .int 0, .ref h23, .ref h24, .ref h25])), (h25, .inl (a24, 6, .inl (upd (upd (fun _ => 0) 5 (-1)) 4 (-1))))] rfl rfl (vp_in_iff.mpr (by decide)) rfl rfl dX12_deals_64 (fun H locs Wd => ?_)
  refine lv_iload_n C.1 C.2.1 dX12_deals_65 rfl (lv_at hl 5 rfl) ?_
  refine lv_iload C.1 C.2.1 dX12_deals_66 (lv_at hl 0 rfl) ?_
  refine k_ishr (v := 0) C (by decide) dX12_deals_68 ?_
  refine lv_iconst (v := 1) C.1 C.2.1 dX12_deals_69 (by decide) ?_
  refine k_iand (v := 0) C (by decide) dX12_deals_70 ?_
  refine lv_if_ne (tgt := 77) C.1 C.2.1 dX12_deals_71 (by decide) (fun c5517 => absurd c5517 (by decide)) (fun _ => ?_)
  refine lv_goto (tgt := 94) C.1 C.2.1 dX12_deals_74 (by decide) ?_
  refine lv_iinc (v := 3) (lv' := [(6, .int 3), (5, .int 0), (4, .int 0), (3, .int 1), (0, .ref h0), (1, .int 0), (2, .int x0)]) C.1 C.2.1 dX12_deals_94 hl (k := 0) rfl (by decide) (by decide) rfl (fun ls hl => ?_)
  refine lv_goto (tgt := 52) C.1 C.2.1 dX12_deals_97 (by decide) ?_
  refine lv_iload C.1 C.2.1 dX12_deals_52 (lv_at hl 0 rfl) ?_
  refine lv_if_lt (tgt := 100) C.1 C.2.1 dX12_deals_54 (by decide) (fun c5518 => absurd c5518 (by decide)) (fun _ => ?_)
  refine lv_aload_n C.1 C.2.1 dX12_deals_57 rfl (lv_at hl 4 rfl) ?_
  refine k_get C Wd KX12 0 55 rfl (by decide) fl_X12_87 rfl dX12_deals_58 ?_
  refine lv_iload C.1 C.2.1 dX12_deals_61 (lv_at hl 0 rfl) ?_
  refine lv_iconst (v := (-1)) C.1 C.2.1 dX12_deals_63 (by decide) ?_
  refine k_iast C Wd 1 0 [(h0, .inr (12, [.ref h1, .ref h2, .ref h3, .ref h4, .int 0, .int 0, .ref h5, .int 0, .int 0, .int 0, .int 0, .int 0, .int 0, .int 0, .int 0, .int 0, .int 0, .int 0, .int 0, .int 0, .int (-1), .int 0, .int 0, .int 0, .ref h6, .ref h7, .ref h8, .ref h9, .ref h10, .ref h11, .int 0, .int 0, .int 0, .int 0, .ref h12, .ref h13, .ref h14, .int 0, .int 0, .int 0, .int 0, .ref h15, .ref h16, .int 0, .ref h17, .ref h18, .int 0, .ref h19, .int 0, .ref h20, .ref h21, .ref h22, .int 0, .ref h23, .ref h24, .ref h25])), (h25, .inl (a24, 6, .inl (upd (upd (upd (fun _ => 0) 5 (-1)) 4 (-1)) 3 (-1))))] rfl rfl (vp_in_iff.mpr (by decide)) rfl rfl dX12_deals_64 (fun H locs Wd => ?_)
  refine lv_iload_n C.1 C.2.1 dX12_deals_65 rfl (lv_at hl 5 rfl) ?_
  refine lv_iload C.1 C.2.1 dX12_deals_66 (lv_at hl 0 rfl) ?_
  refine k_ishr (v := 0) C (by decide) dX12_deals_68 ?_
  refine lv_iconst (v := 1) C.1 C.2.1 dX12_deals_69 (by decide) ?_
  refine k_iand (v := 0) C (by decide) dX12_deals_70 ?_
  refine lv_if_ne (tgt := 77) C.1 C.2.1 dX12_deals_71 (by decide) (fun c5519 => absurd c5519 (by decide)) (fun _ => ?_)
  refine lv_goto (tgt := 94) C.1 C.2.1 dX12_deals_74 (by decide) ?_
  refine lv_iinc (v := 2) (lv' := [(6, .int 2), (5, .int 0), (4, .int 0), (3, .int 1), (0, .ref h0), (1, .int 0), (2, .int x0)]) C.1 C.2.1 dX12_deals_94 hl (k := 0) rfl (by decide) (by decide) rfl (fun ls hl => ?_)
  refine lv_goto (tgt := 52) C.1 C.2.1 dX12_deals_97 (by decide) ?_
  refine lv_iload C.1 C.2.1 dX12_deals_52 (lv_at hl 0 rfl) ?_
  refine lv_if_lt (tgt := 100) C.1 C.2.1 dX12_deals_54 (by decide) (fun c5520 => absurd c5520 (by decide)) (fun _ => ?_)
  refine lv_aload_n C.1 C.2.1 dX12_deals_57 rfl (lv_at hl 4 rfl) ?_
  refine k_get C Wd KX12 0 55 rfl (by decide) fl_X12_87 rfl dX12_deals_58 ?_
  refine lv_iload C.1 C.2.1 dX12_deals_61 (lv_at hl 0 rfl) ?_
  refine lv_iconst (v := (-1)) C.1 C.2.1 dX12_deals_63 (by decide) ?_
  refine k_iast C Wd 1 0 [(h0, .inr (12, [.ref h1, .ref h2, .ref h3, .ref h4, .int 0, .int 0, .ref h5, .int 0, .int 0, .int 0, .int 0, .int 0, .int 0, .int 0, .int 0, .int 0, .int 0, .int 0, .int 0, .int 0, .int (-1), .int 0, .int 0, .int 0, .ref h6, .ref h7, .ref h8, .ref h9, .ref h10, .ref h11, .int 0, .int 0, .int 0, .int 0, .ref h12, .ref h13, .ref h14, .int 0, .int 0, .int 0, .int 0, .ref h15, .ref h16, .int 0, .ref h17, .ref h18, .int 0, .ref h19, .int 0, .ref h20, .ref h21, .ref h22, .int 0, .ref h23, .ref h24, .ref h25])), (h25, .inl (a24, 6, .inl (upd (upd (upd (upd (fun _ => 0) 5 (-1)) 4 (-1)) 3 (-1)) 2 (-1))))] rfl rfl (vp_in_iff.mpr (by decide)) rfl rfl dX12_deals_64 (fun H locs Wd => ?_)
  refine lv_iload_n C.1 C.2.1 dX12_deals_65 rfl (lv_at hl 5 rfl) ?_
  refine lv_iload C.1 C.2.1 dX12_deals_66 (lv_at hl 0 rfl) ?_
  refine k_ishr (v := 0) C (by decide) dX12_deals_68 ?_
  refine lv_iconst (v := 1) C.1 C.2.1 dX12_deals_69 (by decide) ?_
  refine k_iand (v := 0) C (by decide) dX12_deals_70 ?_
  refine lv_if_ne (tgt := 77) C.1 C.2.1 dX12_deals_71 (by decide) (fun c5521 => absurd c5521 (by decide)) (fun _ => ?_)
  refine lv_goto (tgt := 94) C.1 C.2.1 dX12_deals_74 (by decide) ?_
  refine lv_iinc (v := 1) (lv' := [(6, .int 1), (5, .int 0), (4, .int 0), (3, .int 1), (0, .ref h0), (1, .int 0), (2, .int x0)]) C.1 C.2.1 dX12_deals_94 hl (k := 0) rfl (by decide) (by decide) rfl (fun ls hl => ?_)
  refine lv_goto (tgt := 52) C.1 C.2.1 dX12_deals_97 (by decide) ?_
  refine lv_iload C.1 C.2.1 dX12_deals_52 (lv_at hl 0 rfl) ?_
  refine lv_if_lt (tgt := 100) C.1 C.2.1 dX12_deals_54 (by decide) (fun c5522 => absurd c5522 (by decide)) (fun _ => ?_)
  refine lv_aload_n C.1 C.2.1 dX12_deals_57 rfl (lv_at hl 4 rfl) ?_
  refine k_get C Wd KX12 0 55 rfl (by decide) fl_X12_87 rfl dX12_deals_58 ?_
  refine lv_iload C.1 C.2.1 dX12_deals_61 (lv_at hl 0 rfl) ?_
  refine lv_iconst (v := (-1)) C.1 C.2.1 dX12_deals_63 (by decide) ?_
  refine k_iast C Wd 1 0 [(h0, .inr (12, [.ref h1, .ref h2, .ref h3, .ref h4, .int 0, .int 0, .ref h5, .int 0, .int 0, .int 0, .int 0, .int 0, .int 0, .int 0, .int 0, .int 0, .int 0, .int 0, .int 0, .int 0, .int (-1), .int 0, .int 0, .int 0, .ref h6, .ref h7, .ref h8, .ref h9, .ref h10, .ref h11, .int 0, .int 0, .int 0, .int 0, .ref h12, .ref h13, .ref h14, .int 0, .int 0, .int 0, .int 0, .ref h15, .ref h16, .int 0, .ref h17, .ref h18, .int 0, .ref h19, .int 0, .ref h20, .ref h21, .ref h22, .int 0, .ref h23, .ref h24, .ref h25])), (h25, .inl (a24, 6, .inl (upd (upd (upd (upd (upd (fun _ => 0) 5 (-1)) 4 (-1)) 3 (-1)) 2 (-1)) 1 (-1))))] rfl rfl (vp_in_iff.mpr (by decide)) rfl rfl dX12_deals_64 (fun H locs Wd => ?_)
  refine lv_iload_n C.1 C.2.1 dX12_deals_65 rfl (lv_at hl 5 rfl) ?_
  refine lv_iload C.1 C.2.1 dX12_deals_66 (lv_at hl 0 rfl) ?_
  refine k_ishr (v := 0) C (by decide) dX12_deals_68 ?_
  refine lv_iconst (v := 1) C.1 C.2.1 dX12_deals_69 (by decide) ?_
  refine k_iand (v := 0) C (by decide) dX12_deals_70 ?_
  refine lv_if_ne (tgt := 77) C.1 C.2.1 dX12_deals_71 (by decide) (fun c5523 => absurd c5523 (by decide)) (fun _ => ?_)
  refine lv_goto (tgt := 94) C.1 C.2.1 dX12_deals_74 (by decide) ?_
  refine lv_iinc (v := 0) (lv' := [(6, .int 0), (5, .int 0), (4, .int 0), (3, .int 1), (0, .ref h0), (1, .int 0), (2, .int x0)]) C.1 C.2.1 dX12_deals_94 hl (k := 0) rfl (by decide) (by decide) rfl (fun ls hl => ?_)
  refine lv_goto (tgt := 52) C.1 C.2.1 dX12_deals_97 (by decide) ?_
  refine lv_iload C.1 C.2.1 dX12_deals_52 (lv_at hl 0 rfl) ?_
  refine lv_if_lt (tgt := 100) C.1 C.2.1 dX12_deals_54 (by decide) (fun c5524 => absurd c5524 (by decide)) (fun _ => ?_)
  refine lv_aload_n C.1 C.2.1 dX12_deals_57 rfl (lv_at hl 4 rfl) ?_
  refine k_get C Wd KX12 0 55 rfl (by decide) fl_X12_87 rfl dX12_deals_58 ?_
  refine lv_iload C.1 C.2.1 dX12_deals_61 (lv_at hl 0 rfl) ?_
  refine lv_iconst (v := (-1)) C.1 C.2.1 dX12_deals_63 (by decide) ?_
  refine k_iast C Wd 1 0 [(h0, .inr (12, [.ref h1, .ref h2, .ref h3, .ref h4, .int 0, .int 0, .ref h5, .int 0, .int 0, .int 0, .int 0, .int 0, .int 0, .int 0, .int 0, .int 0, .int 0, .int 0, .int 0, .int 0, .int (-1), .int 0, .int 0, .int 0, .ref h6, .ref h7, .ref h8, .ref h9, .ref h10, .ref h11, .int 0, .int 0, .int 0, .int 0, .ref h12, .ref h13, .ref h14, .int 0, .int 0, .int 0, .int 0, .ref h15, .ref h16, .int 0, .ref h17, .ref h18, .int 0, .ref h19, .int 0, .ref h20, .ref h21, .ref h22, .int 0, .ref h23, .ref h24, .ref h25])), (h25, .inl (a24, 6, .inl (upd (upd (upd (upd (upd (upd (fun _ => 0) 5 (-1)) 4 (-1)) 3 (-1)) 2 (-1)) 1 (-1)) 0 (-1))))] rfl rfl (vp_in_iff.mpr (by decide)) rfl rfl dX12_deals_64 (fun H locs Wd => ?_)
  refine lv_iload_n C.1 C.2.1 dX12_deals_65 rfl (lv_at hl 5 rfl) ?_
  refine lv_iload C.1 C.2.1 dX12_deals_66 (lv_at hl 0 rfl) ?_
  refine k_ishr (v := 0) C (by decide) dX12_deals_68 ?_
  refine lv_iconst (v := 1) C.1 C.2.1 dX12_deals_69 (by decide) ?_
  refine k_iand (v := 0) C (by decide) dX12_deals_70 ?_
  refine lv_if_ne (tgt := 77) C.1 C.2.1 dX12_deals_71 (by decide) (fun c5525 => absurd c5525 (by decide)) (fun _ => ?_)
  refine lv_goto (tgt := 94) C.1 C.2.1 dX12_deals_74 (by decide) ?_
  refine lv_iinc (v := (-1)) (lv' := [(6, .int (-1)), (5, .int 0), (4, .int 0), (3, .int 1), (0, .ref h0), (1, .int 0), (2, .int x0)]) C.1 C.2.1 dX12_deals_94 hl (k := 0) rfl (by decide) (by decide) rfl (fun ls hl => ?_)
  refine lv_goto (tgt := 52) C.1 C.2.1 dX12_deals_97 (by decide) ?_
  refine lv_iload C.1 C.2.1 dX12_deals_52 (lv_at hl 0 rfl) ?_
  refine lv_if_lt (tgt := 100) C.1 C.2.1 dX12_deals_54 (by decide) (fun _ => ?_) (fun c5526 => absurd c5526 (by decide))
  refine lv_iconst (v := 1) C.1 C.2.1 dX12_deals_100 (by decide) ?_
  refine lv_istore (lv' := [(6, .int 1), (5, .int 0), (4, .int 0), (3, .int 1), (0, .ref h0), (1, .int 0), (2, .int x0)]) C.1 C.2.1 dX12_deals_101 hl (by decide) rfl (fun ls hl => ?_)
  refine lv_iconst (v := 0) C.1 C.2.1 dX12_deals_103 (by decide) ?_
  refine lv_istore (lv' := [(7, .int 0), (6, .int 1), (5, .int 0), (4, .int 0), (3, .int 1), (0, .ref h0), (1, .int 0), (2, .int x0)]) C.1 C.2.1 dX12_deals_104 hl (by decide) rfl (fun ls hl => ?_)
  refine lv_iload C.1 C.2.1 dX12_deals_106 (lv_at hl 0 rfl) ?_
  refine lv_bipush (v := 6) C.1 C.2.1 dX12_deals_108 (by decide) ?_
  refine lv_icmp_ge (tgt := 190) C.1 C.2.1 dX12_deals_110 (by decide) (fun c5527 => absurd c5527 (by decide)) (fun _ => ?_)
  refine lv_iconst (v := 0) C.1 C.2.1 dX12_deals_113 (by decide) ?_
  refine lv_istore (lv' := [(8, .int 0), (7, .int 0), (6, .int 1), (5, .int 0), (4, .int 0), (3, .int 1), (0, .ref h0), (1, .int 0), (2, .int x0)]) C.1 C.2.1 dX12_deals_114 hl (by decide) rfl (fun ls hl => ?_)
  refine lv_iload C.1 C.2.1 dX12_deals_116 (lv_at hl 0 rfl) ?_
  refine lv_iload C.1 C.2.1 dX12_deals_118 (lv_at hl 1 rfl) ?_
  refine lv_icmp_ge (tgt := 184) C.1 C.2.1 dX12_deals_120 (by decide) (fun _ => ?_) (fun c5528 => absurd c5528 (by decide))
  refine lv_iinc (v := 1) (lv' := [(7, .int 1), (8, .int 0), (6, .int 1), (5, .int 0), (4, .int 0), (3, .int 1), (0, .ref h0), (1, .int 0), (2, .int x0)]) C.1 C.2.1 dX12_deals_184 hl (k := 1) rfl (by decide) (by decide) rfl (fun ls hl => ?_)
  refine lv_goto (tgt := 106) C.1 C.2.1 dX12_deals_187 (by decide) ?_
  refine lv_iload C.1 C.2.1 dX12_deals_106 (lv_at hl 0 rfl) ?_
  refine lv_bipush (v := 6) C.1 C.2.1 dX12_deals_108 (by decide) ?_
  refine lv_icmp_ge (tgt := 190) C.1 C.2.1 dX12_deals_110 (by decide) (fun c5529 => absurd c5529 (by decide)) (fun _ => ?_)
  refine lv_iconst (v := 0) C.1 C.2.1 dX12_deals_113 (by decide) ?_
  refine lv_istore (lv' := [(8, .int 0), (7, .int 1), (6, .int 1), (5, .int 0), (4, .int 0), (3, .int 1), (0, .ref h0), (1, .int 0), (2, .int x0)]) C.1 C.2.1 dX12_deals_114 hl (by decide) rfl (fun ls hl => ?_)
  refine lv_iload C.1 C.2.1 dX12_deals_116 (lv_at hl 0 rfl) ?_
  refine lv_iload C.1 C.2.1 dX12_deals_118 (lv_at hl 1 rfl) ?_
  refine lv_icmp_ge (tgt := 184) C.1 C.2.1 dX12_deals_120 (by decide) (fun c5530 => absurd c5530 (by decide)) (fun _ => ?_)
  refine lv_iload C.1 C.2.1 dX12_deals_123 (lv_at hl 2 rfl) ?_
  refine lv_if_eq (tgt := 175) C.1 C.2.1 dX12_deals_125 (by decide) (fun c5531 => absurd c5531 (by decide)) (fun _ => ?_)
  refine lv_aload_n C.1 C.2.1 dX12_deals_128 rfl (lv_at hl 6 rfl) ?_
  refine k_get C Wd KX12 0 55 rfl (by decide) fl_X12_87 rfl dX12_deals_129 ?_
  refine lv_iload C.1 C.2.1 dX12_deals_132 (lv_at hl 1 rfl) ?_
  refine k_iald (v := (-1)) C Wd 1 0 rfl rfl (vp_in_iff.mpr (by decide)) rfl dX12_deals_134 ?_
  refine lv_iconst (v := (-1)) C.1 C.2.1 dX12_deals_135 (by decide) ?_
  refine lv_icmp_eq (tgt := 171) C.1 C.2.1 dX12_deals_136 (by decide) (fun _ => ?_) (fun c5532 => absurd c5532 (by decide))
  refine lv_iconst (v := 1) C.1 C.2.1 dX12_deals_171 (by decide) ?_
  refine lv_goto (tgt := 176) C.1 C.2.1 dX12_deals_172 (by decide) ?_
  refine lv_istore (lv' := [(6, .int 1), (8, .int 0), (7, .int 1), (5, .int 0), (4, .int 0), (3, .int 1), (0, .ref h0), (1, .int 0), (2, .int x0)]) C.1 C.2.1 dX12_deals_176 hl (by decide) rfl (fun ls hl => ?_)
  refine lv_iinc (v := 1) (lv' := [(8, .int 1), (6, .int 1), (7, .int 1), (5, .int 0), (4, .int 0), (3, .int 1), (0, .ref h0), (1, .int 0), (2, .int x0)]) C.1 C.2.1 dX12_deals_178 hl (k := 1) rfl (by decide) (by decide) rfl (fun ls hl => ?_)
  refine lv_goto (tgt := 116) C.1 C.2.1 dX12_deals_181 (by decide) ?_
  refine lv_iload C.1 C.2.1 dX12_deals_116 (lv_at hl 0 rfl) ?_
  refine lv_iload C.1 C.2.1 dX12_deals_118 (lv_at hl 2 rfl) ?_
  refine lv_icmp_ge (tgt := 184) C.1 C.2.1 dX12_deals_120 (by decide) (fun _ => ?_) (fun c5533 => absurd c5533 (by decide))
  refine lv_iinc (v := 2) (lv' := [(7, .int 2), (8, .int 1), (6, .int 1), (5, .int 0), (4, .int 0), (3, .int 1), (0, .ref h0), (1, .int 0), (2, .int x0)]) C.1 C.2.1 dX12_deals_184 hl (k := 2) rfl (by decide) (by decide) rfl (fun ls hl => ?_)
  refine lv_goto (tgt := 106) C.1 C.2.1 dX12_deals_187 (by decide) ?_
  refine lv_iload C.1 C.2.1 dX12_deals_106 (lv_at hl 0 rfl) ?_
  refine lv_bipush (v := 6) C.1 C.2.1 dX12_deals_108 (by decide) ?_
  refine lv_icmp_ge (tgt := 190) C.1 C.2.1 dX12_deals_110 (by decide) (fun c5534 => absurd c5534 (by decide)) (fun _ => ?_)
  refine lv_iconst (v := 0) C.1 C.2.1 dX12_deals_113 (by decide) ?_
  refine lv_istore (lv' := [(8, .int 0), (7, .int 2), (6, .int 1), (5, .int 0), (4, .int 0), (3, .int 1), (0, .ref h0), (1, .int 0), (2, .int x0)]) C.1 C.2.1 dX12_deals_114 hl (by decide) rfl (fun ls hl => ?_)
  refine lv_iload C.1 C.2.1 dX12_deals_116 (lv_at hl 0 rfl) ?_
  refine lv_iload C.1 C.2.1 dX12_deals_118 (lv_at hl 1 rfl) ?_
  refine lv_icmp_ge (tgt := 184) C.1 C.2.1 dX12_deals_120 (by decide) (fun c5535 => absurd c5535 (by decide)) (fun _ => ?_)
  refine lv_iload C.1 C.2.1 dX12_deals_123 (lv_at hl 2 rfl) ?_
  refine lv_if_eq (tgt := 175) C.1 C.2.1 dX12_deals_125 (by decide) (fun c5536 => absurd c5536 (by decide)) (fun _ => ?_)
  refine lv_aload_n C.1 C.2.1 dX12_deals_128 rfl (lv_at hl 6 rfl) ?_
  refine k_get C Wd KX12 0 55 rfl (by decide) fl_X12_87 rfl dX12_deals_129 ?_
  refine lv_iload C.1 C.2.1 dX12_deals_132 (lv_at hl 1 rfl) ?_
  refine k_iald (v := (-1)) C Wd 1 0 rfl rfl (vp_in_iff.mpr (by decide)) rfl dX12_deals_134 ?_
  refine lv_iconst (v := (-1)) C.1 C.2.1 dX12_deals_135 (by decide) ?_
  refine lv_icmp_eq (tgt := 171) C.1 C.2.1 dX12_deals_136 (by decide) (fun _ => ?_) (fun c5537 => absurd c5537 (by decide))
  refine lv_iconst (v := 1) C.1 C.2.1 dX12_deals_171 (by decide) ?_
  refine lv_goto (tgt := 176) C.1 C.2.1 dX12_deals_172 (by decide) ?_
  refine lv_istore (lv' := [(6, .int 1), (8, .int 0), (7, .int 2), (5, .int 0), (4, .int 0), (3, .int 1), (0, .ref h0), (1, .int 0), (2, .int x0)]) C.1 C.2.1 dX12_deals_176 hl (by decide) rfl (fun ls hl => ?_)
  refine lv_iinc (v := 1) (lv' := [(8, .int 1), (6, .int 1), (7, .int 2), (5, .int 0), (4, .int 0), (3, .int 1), (0, .ref h0), (1, .int 0), (2, .int x0)]) C.1 C.2.1 dX12_deals_178 hl (k := 1) rfl (by decide) (by decide) rfl (fun ls hl => ?_)
  refine lv_goto (tgt := 116) C.1 C.2.1 dX12_deals_181 (by decide) ?_
  refine lv_iload C.1 C.2.1 dX12_deals_116 (lv_at hl 0 rfl) ?_
  refine lv_iload C.1 C.2.1 dX12_deals_118 (lv_at hl 2 rfl) ?_
  refine lv_icmp_ge (tgt := 184) C.1 C.2.1 dX12_deals_120 (by decide) (fun c5538 => absurd c5538 (by decide)) (fun _ => ?_)
  refine lv_iload C.1 C.2.1 dX12_deals_123 (lv_at hl 1 rfl) ?_
  refine lv_if_eq (tgt := 175) C.1 C.2.1 dX12_deals_125 (by decide) (fun c5539 => absurd c5539 (by decide)) (fun _ => ?_)
  refine lv_aload_n C.1 C.2.1 dX12_deals_128 rfl (lv_at hl 6 rfl) ?_
  refine k_get C Wd KX12 0 55 rfl (by decide) fl_X12_87 rfl dX12_deals_129 ?_
  refine lv_iload C.1 C.2.1 dX12_deals_132 (lv_at hl 2 rfl) ?_
  refine k_iald (v := (-1)) C Wd 1 0 rfl rfl (vp_in_iff.mpr (by decide)) rfl dX12_deals_134 ?_
  refine lv_iconst (v := (-1)) C.1 C.2.1 dX12_deals_135 (by decide) ?_
  refine lv_icmp_eq (tgt := 171) C.1 C.2.1 dX12_deals_136 (by decide) (fun _ => ?_) (fun c5540 => absurd c5540 (by decide))
  refine lv_iconst (v := 1) C.1 C.2.1 dX12_deals_171 (by decide) ?_
  refine lv_goto (tgt := 176) C.1 C.2.1 dX12_deals_172 (by decide) ?_
  refine lv_istore (lv' := [(6, .int 1), (8, .int 1), (7, .int 2), (5, .int 0), (4, .int 0), (3, .int 1), (0, .ref h0), (1, .int 0), (2, .int x0)]) C.1 C.2.1 dX12_deals_176 hl (by decide) rfl (fun ls hl => ?_)
  refine lv_iinc (v := 2) (lv' := [(8, .int 2), (6, .int 1), (7, .int 2), (5, .int 0), (4, .int 0), (3, .int 1), (0, .ref h0), (1, .int 0), (2, .int x0)]) C.1 C.2.1 dX12_deals_178 hl (k := 1) rfl (by decide) (by decide) rfl (fun ls hl => ?_)
  refine lv_goto (tgt := 116) C.1 C.2.1 dX12_deals_181 (by decide) ?_
  refine lv_iload C.1 C.2.1 dX12_deals_116 (lv_at hl 0 rfl) ?_
  refine lv_iload C.1 C.2.1 dX12_deals_118 (lv_at hl 2 rfl) ?_
  refine lv_icmp_ge (tgt := 184) C.1 C.2.1 dX12_deals_120 (by decide) (fun _ => ?_) (fun c5541 => absurd c5541 (by decide))
  refine lv_iinc (v := 3) (lv' := [(7, .int 3), (8, .int 2), (6, .int 1), (5, .int 0), (4, .int 0), (3, .int 1), (0, .ref h0), (1, .int 0), (2, .int x0)]) C.1 C.2.1 dX12_deals_184 hl (k := 2) rfl (by decide) (by decide) rfl (fun ls hl => ?_)
  refine lv_goto (tgt := 106) C.1 C.2.1 dX12_deals_187 (by decide) ?_
  refine lv_iload C.1 C.2.1 dX12_deals_106 (lv_at hl 0 rfl) ?_
  refine lv_bipush (v := 6) C.1 C.2.1 dX12_deals_108 (by decide) ?_
  refine lv_icmp_ge (tgt := 190) C.1 C.2.1 dX12_deals_110 (by decide) (fun c5542 => absurd c5542 (by decide)) (fun _ => ?_)
  refine lv_iconst (v := 0) C.1 C.2.1 dX12_deals_113 (by decide) ?_
  refine lv_istore (lv' := [(8, .int 0), (7, .int 3), (6, .int 1), (5, .int 0), (4, .int 0), (3, .int 1), (0, .ref h0), (1, .int 0), (2, .int x0)]) C.1 C.2.1 dX12_deals_114 hl (by decide) rfl (fun ls hl => ?_)
  refine lv_iload C.1 C.2.1 dX12_deals_116 (lv_at hl 0 rfl) ?_
  refine lv_iload C.1 C.2.1 dX12_deals_118 (lv_at hl 1 rfl) ?_
  refine lv_icmp_ge (tgt := 184) C.1 C.2.1 dX12_deals_120 (by decide) (fun c5543 => absurd c5543 (by decide)) (fun _ => ?_)
  refine lv_iload C.1 C.2.1 dX12_deals_123 (lv_at hl 2 rfl) ?_
  refine lv_if_eq (tgt := 175) C.1 C.2.1 dX12_deals_125 (by decide) (fun c5544 => absurd c5544 (by decide)) (fun _ => ?_)
  refine lv_aload_n C.1 C.2.1 dX12_deals_128 rfl (lv_at hl 6 rfl) ?_
  refine k_get C Wd KX12 0 55 rfl (by decide) fl_X12_87 rfl dX12_deals_129 ?_
  refine lv_iload C.1 C.2.1 dX12_deals_132 (lv_at hl 1 rfl) ?_
  refine k_iald (v := (-1)) C Wd 1 0 rfl rfl (vp_in_iff.mpr (by decide)) rfl dX12_deals_134 ?_
  refine lv_iconst (v := (-1)) C.1 C.2.1 dX12_deals_135 (by decide) ?_
  refine lv_icmp_eq (tgt := 171) C.1 C.2.1 dX12_deals_136 (by decide) (fun _ => ?_) (fun c5545 => absurd c5545 (by decide))
  refine lv_iconst (v := 1) C.1 C.2.1 dX12_deals_171 (by decide) ?_
  refine lv_goto (tgt := 176) C.1 C.2.1 dX12_deals_172 (by decide) ?_
  refine lv_istore (lv' := [(6, .int 1), (8, .int 0), (7, .int 3), (5, .int 0), (4, .int 0), (3, .int 1), (0, .ref h0), (1, .int 0), (2, .int x0)]) C.1 C.2.1 dX12_deals_176 hl (by decide) rfl (fun ls hl => ?_)
  refine lv_iinc (v := 1) (lv' := [(8, .int 1), (6, .int 1), (7, .int 3), (5, .int 0), (4, .int 0), (3, .int 1), (0, .ref h0), (1, .int 0), (2, .int x0)]) C.1 C.2.1 dX12_deals_178 hl (k := 1) rfl (by decide) (by decide) rfl (fun ls hl => ?_)
  refine lv_goto (tgt := 116) C.1 C.2.1 dX12_deals_181 (by decide) ?_
  refine lv_iload C.1 C.2.1 dX12_deals_116 (lv_at hl 0 rfl) ?_
  refine lv_iload C.1 C.2.1 dX12_deals_118 (lv_at hl 2 rfl) ?_
  refine lv_icmp_ge (tgt := 184) C.1 C.2.1 dX12_deals_120 (by decide) (fun c5546 => absurd c5546 (by decide)) (fun _ => ?_)
  refine lv_iload C.1 C.2.1 dX12_deals_123 (lv_at hl 1 rfl) ?_
  refine lv_if_eq (tgt := 175) C.1 C.2.1 dX12_deals_125 (by decide) (fun c5547 => absurd c5547 (by decide)) (fun _ => ?_)
  refine lv_aload_n C.1 C.2.1 dX12_deals_128 rfl (lv_at hl 6 rfl) ?_
  refine k_get C Wd KX12 0 55 rfl (by decide) fl_X12_87 rfl dX12_deals_129 ?_
  refine lv_iload C.1 C.2.1 dX12_deals_132 (lv_at hl 2 rfl) ?_
  refine k_iald (v := (-1)) C Wd 1 0 rfl rfl (vp_in_iff.mpr (by decide)) rfl dX12_deals_134 ?_
  refine lv_iconst (v := (-1)) C.1 C.2.1 dX12_deals_135 (by decide) ?_
  refine lv_icmp_eq (tgt := 171) C.1 C.2.1 dX12_deals_136 (by decide) (fun _ => ?_) (fun c5548 => absurd c5548 (by decide))
  refine lv_iconst (v := 1) C.1 C.2.1 dX12_deals_171 (by decide) ?_
  refine lv_goto (tgt := 176) C.1 C.2.1 dX12_deals_172 (by decide) ?_
  refine lv_istore (lv' := [(6, .int 1), (8, .int 1), (7, .int 3), (5, .int 0), (4, .int 0), (3, .int 1), (0, .ref h0), (1, .int 0), (2, .int x0)]) C.1 C.2.1 dX12_deals_176 hl (by decide) rfl (fun ls hl => ?_)
  refine lv_iinc (v := 2) (lv' := [(8, .int 2), (6, .int 1), (7, .int 3), (5, .int 0), (4, .int 0), (3, .int 1), (0, .ref h0), (1, .int 0), (2, .int x0)]) C.1 C.2.1 dX12_deals_178 hl (k := 1) rfl (by decide) (by decide) rfl (fun ls hl => ?_)
  refine lv_goto (tgt := 116) C.1 C.2.1 dX12_deals_181 (by decide) ?_
  refine lv_iload C.1 C.2.1 dX12_deals_116 (lv_at hl 0 rfl) ?_
  refine lv_iload C.1 C.2.1 dX12_deals_118 (lv_at hl 2 rfl) ?_
  refine lv_icmp_ge (tgt := 184) C.1 C.2.1 dX12_deals_120 (by decide) (fun c5549 => absurd c5549 (by decide)) (fun _ => ?_)
  refine lv_iload C.1 C.2.1 dX12_deals_123 (lv_at hl 1 rfl) ?_
  refine lv_if_eq (tgt := 175) C.1 C.2.1 dX12_deals_125 (by decide) (fun c5550 => absurd c5550 (by decide)) (fun _ => ?_)
  refine lv_aload_n C.1 C.2.1 dX12_deals_128 rfl (lv_at hl 6 rfl) ?_
  refine k_get C Wd KX12 0 55 rfl (by decide) fl_X12_87 rfl dX12_deals_129 ?_
  refine lv_iload C.1 C.2.1 dX12_deals_132 (lv_at hl 2 rfl) ?_
  refine k_iald (v := (-1)) C Wd 1 0 rfl rfl (vp_in_iff.mpr (by decide)) rfl dX12_deals_134 ?_
  refine lv_iconst (v := (-1)) C.1 C.2.1 dX12_deals_135 (by decide) ?_
  refine lv_icmp_eq (tgt := 171) C.1 C.2.1 dX12_deals_136 (by decide) (fun _ => ?_) (fun c5551 => absurd c5551 (by decide))
  refine lv_iconst (v := 1) C.1 C.2.1 dX12_deals_171 (by decide) ?_
  refine lv_goto (tgt := 176) C.1 C.2.1 dX12_deals_172 (by decide) ?_
  refine lv_istore (lv' := [(6, .int 1), (8, .int 2), (7, .int 3), (5, .int 0), (4, .int 0), (3, .int 1), (0, .ref h0), (1, .int 0), (2, .int x0)]) C.1 C.2.1 dX12_deals_176 hl (by decide) rfl (fun ls hl => ?_)
  refine lv_iinc (v := 3) (lv' := [(8, .int 3), (6, .int 1), (7, .int 3), (5, .int 0), (4, .int 0), (3, .int 1), (0, .ref h0), (1, .int 0), (2, .int x0)]) C.1 C.2.1 dX12_deals_178 hl (k := 1) rfl (by decide) (by decide) rfl (fun ls hl => ?_)
  refine lv_goto (tgt := 116) C.1 C.2.1 dX12_deals_181 (by decide) ?_
  refine lv_iload C.1 C.2.1 dX12_deals_116 (lv_at hl 0 rfl) ?_
  refine lv_iload C.1 C.2.1 dX12_deals_118 (lv_at hl 2 rfl) ?_
  refine lv_icmp_ge (tgt := 184) C.1 C.2.1 dX12_deals_120 (by decide) (fun _ => ?_) (fun c5552 => absurd c5552 (by decide))
  refine lv_iinc (v := 4) (lv' := [(7, .int 4), (8, .int 3), (6, .int 1), (5, .int 0), (4, .int 0), (3, .int 1), (0, .ref h0), (1, .int 0), (2, .int x0)]) C.1 C.2.1 dX12_deals_184 hl (k := 2) rfl (by decide) (by decide) rfl (fun ls hl => ?_)
  refine lv_goto (tgt := 106) C.1 C.2.1 dX12_deals_187 (by decide) ?_
  refine lv_iload C.1 C.2.1 dX12_deals_106 (lv_at hl 0 rfl) ?_
  refine lv_bipush (v := 6) C.1 C.2.1 dX12_deals_108 (by decide) ?_
  refine lv_icmp_ge (tgt := 190) C.1 C.2.1 dX12_deals_110 (by decide) (fun c5553 => absurd c5553 (by decide)) (fun _ => ?_)
  refine lv_iconst (v := 0) C.1 C.2.1 dX12_deals_113 (by decide) ?_
  refine lv_istore (lv' := [(8, .int 0), (7, .int 4), (6, .int 1), (5, .int 0), (4, .int 0), (3, .int 1), (0, .ref h0), (1, .int 0), (2, .int x0)]) C.1 C.2.1 dX12_deals_114 hl (by decide) rfl (fun ls hl => ?_)
  refine lv_iload C.1 C.2.1 dX12_deals_116 (lv_at hl 0 rfl) ?_
  refine lv_iload C.1 C.2.1 dX12_deals_118 (lv_at hl 1 rfl) ?_
  refine lv_icmp_ge (tgt := 184) C.1 C.2.1 dX12_deals_120 (by decide) (fun c5554 => absurd c5554 (by decide)) (fun _ => ?_)
  refine lv_iload C.1 C.2.1 dX12_deals_123 (lv_at hl 2 rfl) ?_
  refine lv_if_eq (tgt := 175) C.1 C.2.1 dX12_deals_125 (by decide) (fun c5555 => absurd c5555 (by decide)) (fun _ => ?_)
  refine lv_aload_n C.1 C.2.1 dX12_deals_128 rfl (lv_at hl 6 rfl) ?_
  refine k_get C Wd KX12 0 55 rfl (by decide) fl_X12_87 rfl dX12_deals_129 ?_
  refine lv_iload C.1 C.2.1 dX12_deals_132 (lv_at hl 1 rfl) ?_
  refine k_iald (v := (-1)) C Wd 1 0 rfl rfl (vp_in_iff.mpr (by decide)) rfl dX12_deals_134 ?_
  refine lv_iconst (v := (-1)) C.1 C.2.1 dX12_deals_135 (by decide) ?_
  refine lv_icmp_eq (tgt := 171) C.1 C.2.1 dX12_deals_136 (by decide) (fun _ => ?_) (fun c5556 => absurd c5556 (by decide))
  refine lv_iconst (v := 1) C.1 C.2.1 dX12_deals_171 (by decide) ?_
  refine lv_goto (tgt := 176) C.1 C.2.1 dX12_deals_172 (by decide) ?_
  refine lv_istore (lv' := [(6, .int 1), (8, .int 0), (7, .int 4), (5, .int 0), (4, .int 0), (3, .int 1), (0, .ref h0), (1, .int 0), (2, .int x0)]) C.1 C.2.1 dX12_deals_176 hl (by decide) rfl (fun ls hl => ?_)
  refine lv_iinc (v := 1) (lv' := [(8, .int 1), (6, .int 1), (7, .int 4), (5, .int 0), (4, .int 0), (3, .int 1), (0, .ref h0), (1, .int 0), (2, .int x0)]) C.1 C.2.1 dX12_deals_178 hl (k := 1) rfl (by decide) (by decide) rfl (fun ls hl => ?_)
  refine lv_goto (tgt := 116) C.1 C.2.1 dX12_deals_181 (by decide) ?_
  refine lv_iload C.1 C.2.1 dX12_deals_116 (lv_at hl 0 rfl) ?_
  refine lv_iload C.1 C.2.1 dX12_deals_118 (lv_at hl 2 rfl) ?_
  refine lv_icmp_ge (tgt := 184) C.1 C.2.1 dX12_deals_120 (by decide) (fun c5557 => absurd c5557 (by decide)) (fun _ => ?_)
  refine lv_iload C.1 C.2.1 dX12_deals_123 (lv_at hl 1 rfl) ?_
  refine lv_if_eq (tgt := 175) C.1 C.2.1 dX12_deals_125 (by decide) (fun c5558 => absurd c5558 (by decide)) (fun _ => ?_)
  refine lv_aload_n C.1 C.2.1 dX12_deals_128 rfl (lv_at hl 6 rfl) ?_
  refine k_get C Wd KX12 0 55 rfl (by decide) fl_X12_87 rfl dX12_deals_129 ?_
  refine lv_iload C.1 C.2.1 dX12_deals_132 (lv_at hl 2 rfl) ?_
  refine k_iald (v := (-1)) C Wd 1 0 rfl rfl (vp_in_iff.mpr (by decide)) rfl dX12_deals_134 ?_
  refine lv_iconst (v := (-1)) C.1 C.2.1 dX12_deals_135 (by decide) ?_
  refine lv_icmp_eq (tgt := 171) C.1 C.2.1 dX12_deals_136 (by decide) (fun _ => ?_) (fun c5559 => absurd c5559 (by decide))
  refine lv_iconst (v := 1) C.1 C.2.1 dX12_deals_171 (by decide) ?_
  refine lv_goto (tgt := 176) C.1 C.2.1 dX12_deals_172 (by decide) ?_
  refine lv_istore (lv' := [(6, .int 1), (8, .int 1), (7, .int 4), (5, .int 0), (4, .int 0), (3, .int 1), (0, .ref h0), (1, .int 0), (2, .int x0)]) C.1 C.2.1 dX12_deals_176 hl (by decide) rfl (fun ls hl => ?_)
  refine lv_iinc (v := 2) (lv' := [(8, .int 2), (6, .int 1), (7, .int 4), (5, .int 0), (4, .int 0), (3, .int 1), (0, .ref h0), (1, .int 0), (2, .int x0)]) C.1 C.2.1 dX12_deals_178 hl (k := 1) rfl (by decide) (by decide) rfl (fun ls hl => ?_)
  refine lv_goto (tgt := 116) C.1 C.2.1 dX12_deals_181 (by decide) ?_
  refine lv_iload C.1 C.2.1 dX12_deals_116 (lv_at hl 0 rfl) ?_
  refine lv_iload C.1 C.2.1 dX12_deals_118 (lv_at hl 2 rfl) ?_
  refine lv_icmp_ge (tgt := 184) C.1 C.2.1 dX12_deals_120 (by decide) (fun c5560 => absurd c5560 (by decide)) (fun _ => ?_)
  refine lv_iload C.1 C.2.1 dX12_deals_123 (lv_at hl 1 rfl) ?_
  refine lv_if_eq (tgt := 175) C.1 C.2.1 dX12_deals_125 (by decide) (fun c5561 => absurd c5561 (by decide)) (fun _ => ?_)
  refine lv_aload_n C.1 C.2.1 dX12_deals_128 rfl (lv_at hl 6 rfl) ?_
  refine k_get C Wd KX12 0 55 rfl (by decide) fl_X12_87 rfl dX12_deals_129 ?_
  refine lv_iload C.1 C.2.1 dX12_deals_132 (lv_at hl 2 rfl) ?_
  refine k_iald (v := (-1)) C Wd 1 0 rfl rfl (vp_in_iff.mpr (by decide)) rfl dX12_deals_134 ?_
  refine lv_iconst (v := (-1)) C.1 C.2.1 dX12_deals_135 (by decide) ?_
  refine lv_icmp_eq (tgt := 171) C.1 C.2.1 dX12_deals_136 (by decide) (fun _ => ?_) (fun c5562 => absurd c5562 (by decide))
  refine lv_iconst (v := 1) C.1 C.2.1 dX12_deals_171 (by decide) ?_
  refine lv_goto (tgt := 176) C.1 C.2.1 dX12_deals_172 (by decide) ?_
  refine lv_istore (lv' := [(6, .int 1), (8, .int 2), (7, .int 4), (5, .int 0), (4, .int 0), (3, .int 1), (0, .ref h0), (1, .int 0), (2, .int x0)]) C.1 C.2.1 dX12_deals_176 hl (by decide) rfl (fun ls hl => ?_)
  refine lv_iinc (v := 3) (lv' := [(8, .int 3), (6, .int 1), (7, .int 4), (5, .int 0), (4, .int 0), (3, .int 1), (0, .ref h0), (1, .int 0), (2, .int x0)]) C.1 C.2.1 dX12_deals_178 hl (k := 1) rfl (by decide) (by decide) rfl (fun ls hl => ?_)
  refine lv_goto (tgt := 116) C.1 C.2.1 dX12_deals_181 (by decide) ?_
  refine lv_iload C.1 C.2.1 dX12_deals_116 (lv_at hl 0 rfl) ?_
  refine lv_iload C.1 C.2.1 dX12_deals_118 (lv_at hl 2 rfl) ?_
  refine lv_icmp_ge (tgt := 184) C.1 C.2.1 dX12_deals_120 (by decide) (fun c5563 => absurd c5563 (by decide)) (fun _ => ?_)
  refine lv_iload C.1 C.2.1 dX12_deals_123 (lv_at hl 1 rfl) ?_
  refine lv_if_eq (tgt := 175) C.1 C.2.1 dX12_deals_125 (by decide) (fun c5564 => absurd c5564 (by decide)) (fun _ => ?_)
  refine lv_aload_n C.1 C.2.1 dX12_deals_128 rfl (lv_at hl 6 rfl) ?_
  refine k_get C Wd KX12 0 55 rfl (by decide) fl_X12_87 rfl dX12_deals_129 ?_
  refine lv_iload C.1 C.2.1 dX12_deals_132 (lv_at hl 2 rfl) ?_
  refine k_iald (v := (-1)) C Wd 1 0 rfl rfl (vp_in_iff.mpr (by decide)) rfl dX12_deals_134 ?_
  refine lv_iconst (v := (-1)) C.1 C.2.1 dX12_deals_135 (by decide) ?_
  refine lv_icmp_eq (tgt := 171) C.1 C.2.1 dX12_deals_136 (by decide) (fun _ => ?_) (fun c5565 => absurd c5565 (by decide))
  refine lv_iconst (v := 1) C.1 C.2.1 dX12_deals_171 (by decide) ?_
  refine lv_goto (tgt := 176) C.1 C.2.1 dX12_deals_172 (by decide) ?_
  refine lv_istore (lv' := [(6, .int 1), (8, .int 3), (7, .int 4), (5, .int 0), (4, .int 0), (3, .int 1), (0, .ref h0), (1, .int 0), (2, .int x0)]) C.1 C.2.1 dX12_deals_176 hl (by decide) rfl (fun ls hl => ?_)
  refine lv_iinc (v := 4) (lv' := [(8, .int 4), (6, .int 1), (7, .int 4), (5, .int 0), (4, .int 0), (3, .int 1), (0, .ref h0), (1, .int 0), (2, .int x0)]) C.1 C.2.1 dX12_deals_178 hl (k := 1) rfl (by decide) (by decide) rfl (fun ls hl => ?_)
  refine lv_goto (tgt := 116) C.1 C.2.1 dX12_deals_181 (by decide) ?_
  refine lv_iload C.1 C.2.1 dX12_deals_116 (lv_at hl 0 rfl) ?_
  refine lv_iload C.1 C.2.1 dX12_deals_118 (lv_at hl 2 rfl) ?_
  refine lv_icmp_ge (tgt := 184) C.1 C.2.1 dX12_deals_120 (by decide) (fun _ => ?_) (fun c5566 => absurd c5566 (by decide))
  refine lv_iinc (v := 5) (lv' := [(7, .int 5), (8, .int 4), (6, .int 1), (5, .int 0), (4, .int 0), (3, .int 1), (0, .ref h0), (1, .int 0), (2, .int x0)]) C.1 C.2.1 dX12_deals_184 hl (k := 2) rfl (by decide) (by decide) rfl (fun ls hl => ?_)
  refine lv_goto (tgt := 106) C.1 C.2.1 dX12_deals_187 (by decide) ?_
  refine lv_iload C.1 C.2.1 dX12_deals_106 (lv_at hl 0 rfl) ?_
  refine lv_bipush (v := 6) C.1 C.2.1 dX12_deals_108 (by decide) ?_
  refine lv_icmp_ge (tgt := 190) C.1 C.2.1 dX12_deals_110 (by decide) (fun c5567 => absurd c5567 (by decide)) (fun _ => ?_)
  refine lv_iconst (v := 0) C.1 C.2.1 dX12_deals_113 (by decide) ?_
  refine lv_istore (lv' := [(8, .int 0), (7, .int 5), (6, .int 1), (5, .int 0), (4, .int 0), (3, .int 1), (0, .ref h0), (1, .int 0), (2, .int x0)]) C.1 C.2.1 dX12_deals_114 hl (by decide) rfl (fun ls hl => ?_)
  refine lv_iload C.1 C.2.1 dX12_deals_116 (lv_at hl 0 rfl) ?_
  refine lv_iload C.1 C.2.1 dX12_deals_118 (lv_at hl 1 rfl) ?_
  refine lv_icmp_ge (tgt := 184) C.1 C.2.1 dX12_deals_120 (by decide) (fun c5568 => absurd c5568 (by decide)) (fun _ => ?_)
  refine lv_iload C.1 C.2.1 dX12_deals_123 (lv_at hl 2 rfl) ?_
  refine lv_if_eq (tgt := 175) C.1 C.2.1 dX12_deals_125 (by decide) (fun c5569 => absurd c5569 (by decide)) (fun _ => ?_)
  refine lv_aload_n C.1 C.2.1 dX12_deals_128 rfl (lv_at hl 6 rfl) ?_
  refine k_get C Wd KX12 0 55 rfl (by decide) fl_X12_87 rfl dX12_deals_129 ?_
  refine lv_iload C.1 C.2.1 dX12_deals_132 (lv_at hl 1 rfl) ?_
  refine k_iald (v := (-1)) C Wd 1 0 rfl rfl (vp_in_iff.mpr (by decide)) rfl dX12_deals_134 ?_
  refine lv_iconst (v := (-1)) C.1 C.2.1 dX12_deals_135 (by decide) ?_
  refine lv_icmp_eq (tgt := 171) C.1 C.2.1 dX12_deals_136 (by decide) (fun _ => ?_) (fun c5570 => absurd c5570 (by decide))
  refine lv_iconst (v := 1) C.1 C.2.1 dX12_deals_171 (by decide) ?_
  refine lv_goto (tgt := 176) C.1 C.2.1 dX12_deals_172 (by decide) ?_
  refine lv_istore (lv' := [(6, .int 1), (8, .int 0), (7, .int 5), (5, .int 0), (4, .int 0), (3, .int 1), (0, .ref h0), (1, .int 0), (2, .int x0)]) C.1 C.2.1 dX12_deals_176 hl (by decide) rfl (fun ls hl => ?_)
  refine lv_iinc (v := 1) (lv' := [(8, .int 1), (6, .int 1), (7, .int 5), (5, .int 0), (4, .int 0), (3, .int 1), (0, .ref h0), (1, .int 0), (2, .int x0)]) C.1 C.2.1 dX12_deals_178 hl (k := 1) rfl (by decide) (by decide) rfl (fun ls hl => ?_)
  refine lv_goto (tgt := 116) C.1 C.2.1 dX12_deals_181 (by decide) ?_
  refine lv_iload C.1 C.2.1 dX12_deals_116 (lv_at hl 0 rfl) ?_
  refine lv_iload C.1 C.2.1 dX12_deals_118 (lv_at hl 2 rfl) ?_
  refine lv_icmp_ge (tgt := 184) C.1 C.2.1 dX12_deals_120 (by decide) (fun c5571 => absurd c5571 (by decide)) (fun _ => ?_)
  refine lv_iload C.1 C.2.1 dX12_deals_123 (lv_at hl 1 rfl) ?_
  refine lv_if_eq (tgt := 175) C.1 C.2.1 dX12_deals_125 (by decide) (fun c5572 => absurd c5572 (by decide)) (fun _ => ?_)
  refine lv_aload_n C.1 C.2.1 dX12_deals_128 rfl (lv_at hl 6 rfl) ?_
  refine k_get C Wd KX12 0 55 rfl (by decide) fl_X12_87 rfl dX12_deals_129 ?_
  refine lv_iload C.1 C.2.1 dX12_deals_132 (lv_at hl 2 rfl) ?_
  refine k_iald (v := (-1)) C Wd 1 0 rfl rfl (vp_in_iff.mpr (by decide)) rfl dX12_deals_134 ?_
  refine lv_iconst (v := (-1)) C.1 C.2.1 dX12_deals_135 (by decide) ?_
  refine lv_icmp_eq (tgt := 171) C.1 C.2.1 dX12_deals_136 (by decide) (fun _ => ?_) (fun c5573 => absurd c5573 (by decide))
  refine lv_iconst (v := 1) C.1 C.2.1 dX12_deals_171 (by decide) ?_
  refine lv_goto (tgt := 176) C.1 C.2.1 dX12_deals_172 (by decide) ?_
  refine lv_istore (lv' := [(6, .int 1), (8, .int 1), (7, .int 5), (5, .int 0), (4, .int 0), (3, .int 1), (0, .ref h0), (1, .int 0), (2, .int x0)]) C.1 C.2.1 dX12_deals_176 hl (by decide) rfl (fun ls hl => ?_)
  refine lv_iinc (v := 2) (lv' := [(8, .int 2), (6, .int 1), (7, .int 5), (5, .int 0), (4, .int 0), (3, .int 1), (0, .ref h0), (1, .int 0), (2, .int x0)]) C.1 C.2.1 dX12_deals_178 hl (k := 1) rfl (by decide) (by decide) rfl (fun ls hl => ?_)
  refine lv_goto (tgt := 116) C.1 C.2.1 dX12_deals_181 (by decide) ?_
  refine lv_iload C.1 C.2.1 dX12_deals_116 (lv_at hl 0 rfl) ?_
  refine lv_iload C.1 C.2.1 dX12_deals_118 (lv_at hl 2 rfl) ?_
  refine lv_icmp_ge (tgt := 184) C.1 C.2.1 dX12_deals_120 (by decide) (fun c5574 => absurd c5574 (by decide)) (fun _ => ?_)
  refine lv_iload C.1 C.2.1 dX12_deals_123 (lv_at hl 1 rfl) ?_
  refine lv_if_eq (tgt := 175) C.1 C.2.1 dX12_deals_125 (by decide) (fun c5575 => absurd c5575 (by decide)) (fun _ => ?_)
  refine lv_aload_n C.1 C.2.1 dX12_deals_128 rfl (lv_at hl 6 rfl) ?_
  refine k_get C Wd KX12 0 55 rfl (by decide) fl_X12_87 rfl dX12_deals_129 ?_
  refine lv_iload C.1 C.2.1 dX12_deals_132 (lv_at hl 2 rfl) ?_
  refine k_iald (v := (-1)) C Wd 1 0 rfl rfl (vp_in_iff.mpr (by decide)) rfl dX12_deals_134 ?_
  refine lv_iconst (v := (-1)) C.1 C.2.1 dX12_deals_135 (by decide) ?_
  refine lv_icmp_eq (tgt := 171) C.1 C.2.1 dX12_deals_136 (by decide) (fun _ => ?_) (fun c5576 => absurd c5576 (by decide))
  refine lv_iconst (v := 1) C.1 C.2.1 dX12_deals_171 (by decide) ?_
  refine lv_goto (tgt := 176) C.1 C.2.1 dX12_deals_172 (by decide) ?_
  refine lv_istore (lv' := [(6, .int 1), (8, .int 2), (7, .int 5), (5, .int 0), (4, .int 0), (3, .int 1), (0, .ref h0), (1, .int 0), (2, .int x0)]) C.1 C.2.1 dX12_deals_176 hl (by decide) rfl (fun ls hl => ?_)
  refine lv_iinc (v := 3) (lv' := [(8, .int 3), (6, .int 1), (7, .int 5), (5, .int 0), (4, .int 0), (3, .int 1), (0, .ref h0), (1, .int 0), (2, .int x0)]) C.1 C.2.1 dX12_deals_178 hl (k := 1) rfl (by decide) (by decide) rfl (fun ls hl => ?_)
  refine lv_goto (tgt := 116) C.1 C.2.1 dX12_deals_181 (by decide) ?_
  refine lv_iload C.1 C.2.1 dX12_deals_116 (lv_at hl 0 rfl) ?_
  refine lv_iload C.1 C.2.1 dX12_deals_118 (lv_at hl 2 rfl) ?_
  refine lv_icmp_ge (tgt := 184) C.1 C.2.1 dX12_deals_120 (by decide) (fun c5577 => absurd c5577 (by decide)) (fun _ => ?_)
  refine lv_iload C.1 C.2.1 dX12_deals_123 (lv_at hl 1 rfl) ?_
  refine lv_if_eq (tgt := 175) C.1 C.2.1 dX12_deals_125 (by decide) (fun c5578 => absurd c5578 (by decide)) (fun _ => ?_)
  refine lv_aload_n C.1 C.2.1 dX12_deals_128 rfl (lv_at hl 6 rfl) ?_
  refine k_get C Wd KX12 0 55 rfl (by decide) fl_X12_87 rfl dX12_deals_129 ?_
  refine lv_iload C.1 C.2.1 dX12_deals_132 (lv_at hl 2 rfl) ?_
  refine k_iald (v := (-1)) C Wd 1 0 rfl rfl (vp_in_iff.mpr (by decide)) rfl dX12_deals_134 ?_
  refine lv_iconst (v := (-1)) C.1 C.2.1 dX12_deals_135 (by decide) ?_
  refine lv_icmp_eq (tgt := 171) C.1 C.2.1 dX12_deals_136 (by decide) (fun _ => ?_) (fun c5579 => absurd c5579 (by decide))
  refine lv_iconst (v := 1) C.1 C.2.1 dX12_deals_171 (by decide) ?_
  refine lv_goto (tgt := 176) C.1 C.2.1 dX12_deals_172 (by decide) ?_
  refine lv_istore (lv' := [(6, .int 1), (8, .int 3), (7, .int 5), (5, .int 0), (4, .int 0), (3, .int 1), (0, .ref h0), (1, .int 0), (2, .int x0)]) C.1 C.2.1 dX12_deals_176 hl (by decide) rfl (fun ls hl => ?_)
  refine lv_iinc (v := 4) (lv' := [(8, .int 4), (6, .int 1), (7, .int 5), (5, .int 0), (4, .int 0), (3, .int 1), (0, .ref h0), (1, .int 0), (2, .int x0)]) C.1 C.2.1 dX12_deals_178 hl (k := 1) rfl (by decide) (by decide) rfl (fun ls hl => ?_)
  refine lv_goto (tgt := 116) C.1 C.2.1 dX12_deals_181 (by decide) ?_
  refine lv_iload C.1 C.2.1 dX12_deals_116 (lv_at hl 0 rfl) ?_
  refine lv_iload C.1 C.2.1 dX12_deals_118 (lv_at hl 2 rfl) ?_
  refine lv_icmp_ge (tgt := 184) C.1 C.2.1 dX12_deals_120 (by decide) (fun c5580 => absurd c5580 (by decide)) (fun _ => ?_)
  refine lv_iload C.1 C.2.1 dX12_deals_123 (lv_at hl 1 rfl) ?_
  refine lv_if_eq (tgt := 175) C.1 C.2.1 dX12_deals_125 (by decide) (fun c5581 => absurd c5581 (by decide)) (fun _ => ?_)
  refine lv_aload_n C.1 C.2.1 dX12_deals_128 rfl (lv_at hl 6 rfl) ?_
  refine k_get C Wd KX12 0 55 rfl (by decide) fl_X12_87 rfl dX12_deals_129 ?_
  refine lv_iload C.1 C.2.1 dX12_deals_132 (lv_at hl 2 rfl) ?_
  refine k_iald (v := (-1)) C Wd 1 0 rfl rfl (vp_in_iff.mpr (by decide)) rfl dX12_deals_134 ?_
  refine lv_iconst (v := (-1)) C.1 C.2.1 dX12_deals_135 (by decide) ?_
  refine lv_icmp_eq (tgt := 171) C.1 C.2.1 dX12_deals_136 (by decide) (fun _ => ?_) (fun c5582 => absurd c5582 (by decide))
  refine lv_iconst (v := 1) C.1 C.2.1 dX12_deals_171 (by decide) ?_
  refine lv_goto (tgt := 176) C.1 C.2.1 dX12_deals_172 (by decide) ?_
  refine lv_istore (lv' := [(6, .int 1), (8, .int 4), (7, .int 5), (5, .int 0), (4, .int 0), (3, .int 1), (0, .ref h0), (1, .int 0), (2, .int x0)]) C.1 C.2.1 dX12_deals_176 hl (by decide) rfl (fun ls hl => ?_)
  refine lv_iinc (v := 5) (lv' := [(8, .int 5), (6, .int 1), (7, .int 5), (5, .int 0), (4, .int 0), (3, .int 1), (0, .ref h0), (1, .int 0), (2, .int x0)]) C.1 C.2.1 dX12_deals_178 hl (k := 1) rfl (by decide) (by decide) rfl (fun ls hl => ?_)
  refine lv_goto (tgt := 116) C.1 C.2.1 dX12_deals_181 (by decide) ?_
  refine lv_iload C.1 C.2.1 dX12_deals_116 (lv_at hl 0 rfl) ?_
  refine lv_iload C.1 C.2.1 dX12_deals_118 (lv_at hl 2 rfl) ?_
  refine lv_icmp_ge (tgt := 184) C.1 C.2.1 dX12_deals_120 (by decide) (fun _ => ?_) (fun c5583 => absurd c5583 (by decide))
  refine lv_iinc (v := 6) (lv' := [(7, .int 6), (8, .int 5), (6, .int 1), (5, .int 0), (4, .int 0), (3, .int 1), (0, .ref h0), (1, .int 0), (2, .int x0)]) C.1 C.2.1 dX12_deals_184 hl (k := 2) rfl (by decide) (by decide) rfl (fun ls hl => ?_)
  refine lv_goto (tgt := 106) C.1 C.2.1 dX12_deals_187 (by decide) ?_
  refine lv_iload C.1 C.2.1 dX12_deals_106 (lv_at hl 0 rfl) ?_
  refine lv_bipush (v := 6) C.1 C.2.1 dX12_deals_108 (by decide) ?_
  refine lv_icmp_ge (tgt := 190) C.1 C.2.1 dX12_deals_110 (by decide) (fun _ => ?_) (fun c5584 => absurd c5584 (by decide))
  refine lv_iload C.1 C.2.1 dX12_deals_190 (lv_at hl 2 rfl) ?_
  refine lv_if_eq (tgt := 197) C.1 C.2.1 dX12_deals_192 (by decide) (fun c5585 => absurd c5585 (by decide)) (fun _ => ?_)
  refine lv_iconst (v := 1) C.1 C.2.1 dX12_deals_195 (by decide) ?_
  exact k_zret C hr hlk rfl Wd () rfl [0, 1] rfl (by decide) [] rfl (by decide) (by decide) dX12_deals_196
set_option maxHeartbeats 4000000 in
set_option maxRecDepth 100000 in
theorem kcX12_spills (l : Launch) (D : va_G) (h0 h1 h2 h3 h4 h5 h6 h7 h8 h9 h10 h11 h12 h13 h14 h15 h16 h17 h18 h19 h20 h21 h22 h23 h24 h25 : Nat) (x0 : Int32) (a24 : ClassId) (sz : Nat)  : Met l yX12_spills (Cond.code yX12_spills cX12_spills 5 (some .int) :: gG) { frames := 2, cells := 0, slots := 0, locals := 92 } (cPre D [(a24, .int)] [(h0, .inr (12, [.ref h1, .ref h2, .ref h3, .ref h4, .int 0, .int 0, .ref h5, .int 0, .int 0, .int 0, .int 0, .int 0, .int 0, .int 0, .int 0, .int 0, .int 0, .int 0, .int 0, .int 0, .int (-1), .int 0, .int 0, .int 0, .ref h6, .ref h7, .ref h8, .ref h9, .ref h10, .ref h11, .int 0, .int 0, .int 0, .int 0, .ref h12, .ref h13, .ref h14, .int 0, .int 0, .int 0, .int 0, .ref h15, .ref h16, .int 0, .ref h17, .ref h18, .int 0, .ref h19, .int 0, .ref h20, .ref h21, .ref h22, .int 0, .ref h23, .ref h24, .ref h25])), (h25, .inl (a24, 6, .inl (fun _ => 0)))] sz [.ref h0, .int 0, .int x0]) (va_Qi (fun (r : Int32) (_ : Unit) => r = 0) (fun u t => cB D (va_A [(h0, .inr (12, [.ref h1, .ref h2, .ref h3, .ref h4, .int 0, .int 0, .ref h5, .int 0, .int 0, .int 0, .int 0, .int 0, .int 0, .int 0, .int 0, .int 0, .int 0, .int 0, .int 0, .int 0, .int (-1), .int 0, .int 0, .int 0, .ref h6, .ref h7, .ref h8, .ref h9, .ref h10, .ref h11, .int 0, .int 0, .int 0, .int 0, .ref h12, .ref h13, .ref h14, .int 0, .int 0, .int 0, .int 0, .ref h15, .ref h16, .int 0, .ref h17, .ref h18, .int 0, .ref h19, .int 0, .ref h20, .ref h21, .ref h22, .int 0, .ref h23, .ref h24, .ref h25])), (h25, .inl (a24, 6, .inl (fun _ => 0)))] sz) ((fun (_ : Unit) => ([] : List (ClassId × FieldType))) u) ((fun (_ : Unit) => ([(h0, .inr (12, [.ref h1, .ref h2, .ref h3, .ref h4, .int 0, .int 0, .ref h5, .int 0, .int 0, .int 0, .int 0, .int 0, .int 0, .int 0, .int 0, .int 0, .int 0, .int 0, .int 0, .int 0, .int (-1), .int 0, .int 0, .int 0, .ref h6, .ref h7, .ref h8, .ref h9, .ref h10, .ref h11, .int 0, .int 0, .int 0, .int 0, .ref h12, .ref h13, .ref h14, .int 0, .int 0, .int 0, .int 0, .ref h15, .ref h16, .int 0, .ref h17, .ref h18, .int 0, .ref h19, .int 0, .ref h20, .ref h21, .ref h22, .int 0, .ref h23, .ref h24, .ref h25])), (h25, .inl (a24, 6, .inl (upd (upd (upd (upd (upd (upd (fun _ => 0) 5 (-1)) 4 (-1)) 3 (-1)) 2 (-1)) 1 (-1)) 0 (-1))))] : va_W)) u) t) (va_A [(h0, .inr (12, [.ref h1, .ref h2, .ref h3, .ref h4, .int 0, .int 0, .ref h5, .int 0, .int 0, .int 0, .int 0, .int 0, .int 0, .int 0, .int 0, .int 0, .int 0, .int 0, .int 0, .int 0, .int (-1), .int 0, .int 0, .int 0, .ref h6, .ref h7, .ref h8, .ref h9, .ref h10, .ref h11, .int 0, .int 0, .int 0, .int 0, .ref h12, .ref h13, .ref h14, .int 0, .int 0, .int 0, .int 0, .ref h15, .ref h16, .int 0, .ref h17, .ref h18, .int 0, .ref h19, .int 0, .ref h20, .ref h21, .ref h22, .int 0, .ref h23, .ref h24, .ref h25])), (h25, .inl (a24, 6, .inl (fun _ => 0)))] sz)) 0 0 (va_A [(h0, .inr (12, [.ref h1, .ref h2, .ref h3, .ref h4, .int 0, .int 0, .ref h5, .int 0, .int 0, .int 0, .int 0, .int 0, .int 0, .int 0, .int 0, .int 0, .int 0, .int 0, .int 0, .int 0, .int (-1), .int 0, .int 0, .int 0, .ref h6, .ref h7, .ref h8, .ref h9, .ref h10, .ref h11, .int 0, .int 0, .int 0, .int 0, .ref h12, .ref h13, .ref h14, .int 0, .int 0, .int 0, .int 0, .ref h15, .ref h16, .int 0, .ref h17, .ref h18, .int 0, .ref h19, .int 0, .ref h20, .ref h21, .ref h22, .int 0, .ref h23, .ref h24, .ref h25])), (h25, .inl (a24, 6, .inl (fun _ => 0)))] sz) := by
  refine Met.ofW (cc := cX12_spills) (maxL := 5) (ret := (some .int)) (by decide) rfl ?_
  intro p e s m args below meth c s₁ B hml hv
  obtain ⟨rfl, aks, rfl, Wd⟩ := k_enter hv
  have C : CallFix p m c cX12_spills 5 s _ gG RX12 := ⟨B.exec, B.bytes, hml, findClass_of_methodNamed B.named, fun w h => atoms_spec (ws := Cond.code yX12_spills cX12_spills 5 (some .int) :: gG) B.pre w (List.mem_cons_of_mem _ h)⟩
  have hr := B.returns
  have hlk := B.notSynchronized
  generalize va_A [(h0, .inr (12, [.ref h1, .ref h2, .ref h3, .ref h4, .int 0, .int 0, .ref h5, .int 0, .int 0, .int 0, .int 0, .int 0, .int 0, .int 0, .int 0, .int 0, .int 0, .int 0, .int 0, .int 0, .int (-1), .int 0, .int 0, .int 0, .ref h6, .ref h7, .ref h8, .ref h9, .ref h10, .ref h11, .int 0, .int 0, .int 0, .int 0, .ref h12, .ref h13, .ref h14, .int 0, .int 0, .int 0, .int 0, .ref h15, .ref h16, .int 0, .ref h17, .ref h18, .int 0, .ref h19, .int 0, .ref h20, .ref h21, .ref h22, .int 0, .ref h23, .ref h24, .ref h25])), (h25, .inl (a24, 6, .inl (fun _ => 0)))] s.heap.size = A at Wd ⊢
  refine k_locals (Nat.le_of_ble_eq_true rfl) [(0, .ref h0), (1, .int 0), (2, .int x0)] rfl (fun ls hl => ?_)
  refine lv_iconst (v := (-1)) C.1 C.2.1 dX12_spills_0 (by decide) ?_
  refine lv_istore_n (lv' := [(3, .int (-1)), (0, .ref h0), (1, .int 0), (2, .int x0)]) C.1 C.2.1 dX12_spills_1 rfl hl (by decide) rfl (fun ls hl => ?_)
  refine lv_iconst (v := 0) C.1 C.2.1 dX12_spills_2 (by decide) ?_
  refine lv_istore (lv' := [(4, .int 0), (3, .int (-1)), (0, .ref h0), (1, .int 0), (2, .int x0)]) C.1 C.2.1 dX12_spills_3 hl (by decide) rfl (fun ls hl => ?_)
  refine lv_iload C.1 C.2.1 dX12_spills_5 (lv_at hl 0 rfl) ?_
  refine lv_bipush (v := 64) C.1 C.2.1 dX12_spills_7 (by decide) ?_
  refine lv_icmp_ge (tgt := 63) C.1 C.2.1 dX12_spills_9 (by decide) (fun c5715 => absurd c5715 (by decide)) (fun _ => ?_)
  refine lv_iload C.1 C.2.1 dX12_spills_12 (lv_at hl 0 rfl) ?_
  refine lv_iload_n C.1 C.2.1 dX12_spills_14 rfl (lv_at hl 3 rfl) ?_
  refine lv_iconst (v := (-1)) C.1 C.2.1 dX12_spills_15 (by decide) ?_
  refine k_ixor (v := (-1)) C (by decide) dX12_spills_16 ?_
  refine k_iand (v := 0) C (by decide) dX12_spills_17 ?_
  refine lv_if_ne (tgt := 57) C.1 C.2.1 dX12_spills_18 (by decide) (fun c5716 => absurd c5716 (by decide)) (fun _ => ?_)
  refine lv_iload_n C.1 C.2.1 dX12_spills_21 rfl (lv_at hl 1 rfl) ?_
  refine lv_iconst (v := (-1)) C.1 C.2.1 dX12_spills_22 (by decide) ?_
  refine lv_icmp_eq (tgt := 40) C.1 C.2.1 dX12_spills_23 (by decide) (fun _ => ?_) (fun c5717 => absurd c5717 (by decide))
  refine lv_aload_n C.1 C.2.1 dX12_spills_40 rfl (lv_at hl 2 rfl) ?_
  refine lv_iload_n C.1 C.2.1 dX12_spills_41 rfl (lv_at hl 3 rfl) ?_
  refine lv_iload C.1 C.2.1 dX12_spills_42 (lv_at hl 0 rfl) ?_
  refine lv_iconst (v := (-1)) C.1 C.2.1 dX12_spills_44 (by decide) ?_
  refine k_ixor (v := (-1)) C (by decide) dX12_spills_45 ?_
  refine k_iand (v := 0) C (by decide) dX12_spills_46 ?_
  refine lv_iload_n C.1 C.2.1 dX12_spills_47 rfl (lv_at hl 4 rfl) ?_
  refine k_ci Wd [0, 1] [] rfl (wr := []) rfl (by decide) (by decide) (cells' := 0) (slots' := 0) (by decide) (by decide) (k_runV (rest := []) C aks Wd cs_X12_466 (kcX12_deals_v1 l D h0 h1 h2 h3 h4 h5 h6 h7 h8 h9 h10 h11 h12 h13 h14 h15 h16 h17 h18 h19 h20 h21 h22 h23 h24 h25 x0 a24 _ ) [0, 1] rfl (by decide) [0] rfl 0 12 rfl rfl rfl rfl rfl ⟨(Nat.le_of_ble_eq_true rfl), (Nat.le_of_ble_eq_true rfl)⟩ hl.1 rfl rfl (Nat.le_of_ble_eq_true rfl) ⟨(Nat.le_of_ble_eq_true rfl), (Nat.le_of_ble_eq_true rfl)⟩ dX12_spills_48) (fun r _ H locs w5718 Wd => ?_)
  have Wd : wX D [(a24, .int)] s [(h0, .inr (12, [.ref h1, .ref h2, .ref h3, .ref h4, .int 0, .int 0, .ref h5, .int 0, .int 0, .int 0, .int 0, .int 0, .int 0, .int 0, .int 0, .int 0, .int 0, .int 0, .int 0, .int 0, .int (-1), .int 0, .int 0, .int 0, .ref h6, .ref h7, .ref h8, .ref h9, .ref h10, .ref h11, .int 0, .int 0, .int 0, .int 0, .ref h12, .ref h13, .ref h14, .int 0, .int 0, .int 0, .int 0, .ref h15, .ref h16, .int 0, .ref h17, .ref h18, .int 0, .ref h19, .int 0, .ref h20, .ref h21, .ref h22, .int 0, .ref h23, .ref h24, .ref h25])), (h25, .inl (a24, 6, .inl (upd (upd (upd (upd (upd (upd (fun _ => 0) 5 (-1)) 4 (-1)) 3 (-1)) 2 (-1)) 1 (-1)) 0 (-1))))] _ A s.heap _ := Wd
  obtain rfl := w5718
  refine lv_if_eq (tgt := 57) C.1 C.2.1 dX12_spills_51 (by decide) (fun c5719 => absurd c5719 (by decide)) (fun _ => ?_)
  refine lv_iload C.1 C.2.1 dX12_spills_54 (lv_at hl 0 rfl) ?_
  refine lv_istore_n (lv' := [(3, .int 0), (4, .int 0), (0, .ref h0), (1, .int 0), (2, .int x0)]) C.1 C.2.1 dX12_spills_56 rfl hl (by decide) rfl (fun ls hl => ?_)
  refine lv_iinc (v := 1) (lv' := [(4, .int 1), (3, .int 0), (0, .ref h0), (1, .int 0), (2, .int x0)]) C.1 C.2.1 dX12_spills_57 hl (k := 1) rfl (by decide) (by decide) rfl (fun ls hl => ?_)
  refine lv_goto (tgt := 5) C.1 C.2.1 dX12_spills_60 (by decide) ?_
  refine lv_iload C.1 C.2.1 dX12_spills_5 (lv_at hl 0 rfl) ?_
  refine lv_bipush (v := 64) C.1 C.2.1 dX12_spills_7 (by decide) ?_
  refine lv_icmp_ge (tgt := 63) C.1 C.2.1 dX12_spills_9 (by decide) (fun c5720 => absurd c5720 (by decide)) (fun _ => ?_)
  refine lv_iload C.1 C.2.1 dX12_spills_12 (lv_at hl 0 rfl) ?_
  refine lv_iload_n C.1 C.2.1 dX12_spills_14 rfl (lv_at hl 3 rfl) ?_
  refine lv_iconst (v := (-1)) C.1 C.2.1 dX12_spills_15 (by decide) ?_
  refine k_ixor (v := (-1)) C (by decide) dX12_spills_16 ?_
  refine k_iand (v := 1) C (by decide) dX12_spills_17 ?_
  refine lv_if_ne (tgt := 57) C.1 C.2.1 dX12_spills_18 (by decide) (fun _ => ?_) (fun c5721 => absurd c5721 (by decide))
  refine lv_iinc (v := 2) (lv' := [(4, .int 2), (3, .int 0), (0, .ref h0), (1, .int 0), (2, .int x0)]) C.1 C.2.1 dX12_spills_57 hl (k := 0) rfl (by decide) (by decide) rfl (fun ls hl => ?_)
  refine lv_goto (tgt := 5) C.1 C.2.1 dX12_spills_60 (by decide) ?_
  refine lv_iload C.1 C.2.1 dX12_spills_5 (lv_at hl 0 rfl) ?_
  refine lv_bipush (v := 64) C.1 C.2.1 dX12_spills_7 (by decide) ?_
  refine lv_icmp_ge (tgt := 63) C.1 C.2.1 dX12_spills_9 (by decide) (fun c5722 => absurd c5722 (by decide)) (fun _ => ?_)
  refine lv_iload C.1 C.2.1 dX12_spills_12 (lv_at hl 0 rfl) ?_
  refine lv_iload_n C.1 C.2.1 dX12_spills_14 rfl (lv_at hl 3 rfl) ?_
  refine lv_iconst (v := (-1)) C.1 C.2.1 dX12_spills_15 (by decide) ?_
  refine k_ixor (v := (-1)) C (by decide) dX12_spills_16 ?_
  refine k_iand (v := 2) C (by decide) dX12_spills_17 ?_
  refine lv_if_ne (tgt := 57) C.1 C.2.1 dX12_spills_18 (by decide) (fun _ => ?_) (fun c5723 => absurd c5723 (by decide))
  refine lv_iinc (v := 3) (lv' := [(4, .int 3), (3, .int 0), (0, .ref h0), (1, .int 0), (2, .int x0)]) C.1 C.2.1 dX12_spills_57 hl (k := 0) rfl (by decide) (by decide) rfl (fun ls hl => ?_)
  refine lv_goto (tgt := 5) C.1 C.2.1 dX12_spills_60 (by decide) ?_
  refine lv_iload C.1 C.2.1 dX12_spills_5 (lv_at hl 0 rfl) ?_
  refine lv_bipush (v := 64) C.1 C.2.1 dX12_spills_7 (by decide) ?_
  refine lv_icmp_ge (tgt := 63) C.1 C.2.1 dX12_spills_9 (by decide) (fun c5724 => absurd c5724 (by decide)) (fun _ => ?_)
  refine lv_iload C.1 C.2.1 dX12_spills_12 (lv_at hl 0 rfl) ?_
  refine lv_iload_n C.1 C.2.1 dX12_spills_14 rfl (lv_at hl 3 rfl) ?_
  refine lv_iconst (v := (-1)) C.1 C.2.1 dX12_spills_15 (by decide) ?_
  refine k_ixor (v := (-1)) C (by decide) dX12_spills_16 ?_
  refine k_iand (v := 3) C (by decide) dX12_spills_17 ?_
  refine lv_if_ne (tgt := 57) C.1 C.2.1 dX12_spills_18 (by decide) (fun _ => ?_) (fun c5725 => absurd c5725 (by decide))
  refine lv_iinc (v := 4) (lv' := [(4, .int 4), (3, .int 0), (0, .ref h0), (1, .int 0), (2, .int x0)]) C.1 C.2.1 dX12_spills_57 hl (k := 0) rfl (by decide) (by decide) rfl (fun ls hl => ?_)
  refine lv_goto (tgt := 5) C.1 C.2.1 dX12_spills_60 (by decide) ?_
  refine lv_iload C.1 C.2.1 dX12_spills_5 (lv_at hl 0 rfl) ?_
  refine lv_bipush (v := 64) C.1 C.2.1 dX12_spills_7 (by decide) ?_
  refine lv_icmp_ge (tgt := 63) C.1 C.2.1 dX12_spills_9 (by decide) (fun c5726 => absurd c5726 (by decide)) (fun _ => ?_)
  refine lv_iload C.1 C.2.1 dX12_spills_12 (lv_at hl 0 rfl) ?_
  refine lv_iload_n C.1 C.2.1 dX12_spills_14 rfl (lv_at hl 3 rfl) ?_
  refine lv_iconst (v := (-1)) C.1 C.2.1 dX12_spills_15 (by decide) ?_
  refine k_ixor (v := (-1)) C (by decide) dX12_spills_16 ?_
  refine k_iand (v := 4) C (by decide) dX12_spills_17 ?_
  refine lv_if_ne (tgt := 57) C.1 C.2.1 dX12_spills_18 (by decide) (fun _ => ?_) (fun c5727 => absurd c5727 (by decide))
  refine lv_iinc (v := 5) (lv' := [(4, .int 5), (3, .int 0), (0, .ref h0), (1, .int 0), (2, .int x0)]) C.1 C.2.1 dX12_spills_57 hl (k := 0) rfl (by decide) (by decide) rfl (fun ls hl => ?_)
  refine lv_goto (tgt := 5) C.1 C.2.1 dX12_spills_60 (by decide) ?_
  refine lv_iload C.1 C.2.1 dX12_spills_5 (lv_at hl 0 rfl) ?_
  refine lv_bipush (v := 64) C.1 C.2.1 dX12_spills_7 (by decide) ?_
  refine lv_icmp_ge (tgt := 63) C.1 C.2.1 dX12_spills_9 (by decide) (fun c5728 => absurd c5728 (by decide)) (fun _ => ?_)
  refine lv_iload C.1 C.2.1 dX12_spills_12 (lv_at hl 0 rfl) ?_
  refine lv_iload_n C.1 C.2.1 dX12_spills_14 rfl (lv_at hl 3 rfl) ?_
  refine lv_iconst (v := (-1)) C.1 C.2.1 dX12_spills_15 (by decide) ?_
  refine k_ixor (v := (-1)) C (by decide) dX12_spills_16 ?_
  refine k_iand (v := 5) C (by decide) dX12_spills_17 ?_
  refine lv_if_ne (tgt := 57) C.1 C.2.1 dX12_spills_18 (by decide) (fun _ => ?_) (fun c5729 => absurd c5729 (by decide))
  refine lv_iinc (v := 6) (lv' := [(4, .int 6), (3, .int 0), (0, .ref h0), (1, .int 0), (2, .int x0)]) C.1 C.2.1 dX12_spills_57 hl (k := 0) rfl (by decide) (by decide) rfl (fun ls hl => ?_)
  refine lv_goto (tgt := 5) C.1 C.2.1 dX12_spills_60 (by decide) ?_
  refine lv_iload C.1 C.2.1 dX12_spills_5 (lv_at hl 0 rfl) ?_
  refine lv_bipush (v := 64) C.1 C.2.1 dX12_spills_7 (by decide) ?_
  refine lv_icmp_ge (tgt := 63) C.1 C.2.1 dX12_spills_9 (by decide) (fun c5730 => absurd c5730 (by decide)) (fun _ => ?_)
  refine lv_iload C.1 C.2.1 dX12_spills_12 (lv_at hl 0 rfl) ?_
  refine lv_iload_n C.1 C.2.1 dX12_spills_14 rfl (lv_at hl 3 rfl) ?_
  refine lv_iconst (v := (-1)) C.1 C.2.1 dX12_spills_15 (by decide) ?_
  refine k_ixor (v := (-1)) C (by decide) dX12_spills_16 ?_
  refine k_iand (v := 6) C (by decide) dX12_spills_17 ?_
  refine lv_if_ne (tgt := 57) C.1 C.2.1 dX12_spills_18 (by decide) (fun _ => ?_) (fun c5731 => absurd c5731 (by decide))
  refine lv_iinc (v := 7) (lv' := [(4, .int 7), (3, .int 0), (0, .ref h0), (1, .int 0), (2, .int x0)]) C.1 C.2.1 dX12_spills_57 hl (k := 0) rfl (by decide) (by decide) rfl (fun ls hl => ?_)
  refine lv_goto (tgt := 5) C.1 C.2.1 dX12_spills_60 (by decide) ?_
  refine lv_iload C.1 C.2.1 dX12_spills_5 (lv_at hl 0 rfl) ?_
  refine lv_bipush (v := 64) C.1 C.2.1 dX12_spills_7 (by decide) ?_
  refine lv_icmp_ge (tgt := 63) C.1 C.2.1 dX12_spills_9 (by decide) (fun c5732 => absurd c5732 (by decide)) (fun _ => ?_)
  refine lv_iload C.1 C.2.1 dX12_spills_12 (lv_at hl 0 rfl) ?_
  refine lv_iload_n C.1 C.2.1 dX12_spills_14 rfl (lv_at hl 3 rfl) ?_
  refine lv_iconst (v := (-1)) C.1 C.2.1 dX12_spills_15 (by decide) ?_
  refine k_ixor (v := (-1)) C (by decide) dX12_spills_16 ?_
  refine k_iand (v := 7) C (by decide) dX12_spills_17 ?_
  refine lv_if_ne (tgt := 57) C.1 C.2.1 dX12_spills_18 (by decide) (fun _ => ?_) (fun c5733 => absurd c5733 (by decide))
  refine lv_iinc (v := 8) (lv' := [(4, .int 8), (3, .int 0), (0, .ref h0), (1, .int 0), (2, .int x0)]) C.1 C.2.1 dX12_spills_57 hl (k := 0) rfl (by decide) (by decide) rfl (fun ls hl => ?_)
  refine lv_goto (tgt := 5) C.1 C.2.1 dX12_spills_60 (by decide) ?_
  refine lv_iload C.1 C.2.1 dX12_spills_5 (lv_at hl 0 rfl) ?_
  refine lv_bipush (v := 64) C.1 C.2.1 dX12_spills_7 (by decide) ?_
  refine lv_icmp_ge (tgt := 63) C.1 C.2.1 dX12_spills_9 (by decide) (fun c5734 => absurd c5734 (by decide)) (fun _ => ?_)
  refine lv_iload C.1 C.2.1 dX12_spills_12 (lv_at hl 0 rfl) ?_
  refine lv_iload_n C.1 C.2.1 dX12_spills_14 rfl (lv_at hl 3 rfl) ?_
  refine lv_iconst (v := (-1)) C.1 C.2.1 dX12_spills_15 (by decide) ?_
  refine k_ixor (v := (-1)) C (by decide) dX12_spills_16 ?_
  refine k_iand (v := 8) C (by decide) dX12_spills_17 ?_
  refine lv_if_ne (tgt := 57) C.1 C.2.1 dX12_spills_18 (by decide) (fun _ => ?_) (fun c5735 => absurd c5735 (by decide))
  refine lv_iinc (v := 9) (lv' := [(4, .int 9), (3, .int 0), (0, .ref h0), (1, .int 0), (2, .int x0)]) C.1 C.2.1 dX12_spills_57 hl (k := 0) rfl (by decide) (by decide) rfl (fun ls hl => ?_)
  refine lv_goto (tgt := 5) C.1 C.2.1 dX12_spills_60 (by decide) ?_
  refine lv_iload C.1 C.2.1 dX12_spills_5 (lv_at hl 0 rfl) ?_
  refine lv_bipush (v := 64) C.1 C.2.1 dX12_spills_7 (by decide) ?_
  refine lv_icmp_ge (tgt := 63) C.1 C.2.1 dX12_spills_9 (by decide) (fun c5736 => absurd c5736 (by decide)) (fun _ => ?_)
  refine lv_iload C.1 C.2.1 dX12_spills_12 (lv_at hl 0 rfl) ?_
  refine lv_iload_n C.1 C.2.1 dX12_spills_14 rfl (lv_at hl 3 rfl) ?_
  refine lv_iconst (v := (-1)) C.1 C.2.1 dX12_spills_15 (by decide) ?_
  refine k_ixor (v := (-1)) C (by decide) dX12_spills_16 ?_
  refine k_iand (v := 9) C (by decide) dX12_spills_17 ?_
  refine lv_if_ne (tgt := 57) C.1 C.2.1 dX12_spills_18 (by decide) (fun _ => ?_) (fun c5737 => absurd c5737 (by decide))
  refine lv_iinc (v := 10) (lv' := [(4, .int 10), (3, .int 0), (0, .ref h0), (1, .int 0), (2, .int x0)]) C.1 C.2.1 dX12_spills_57 hl (k := 0) rfl (by decide) (by decide) rfl (fun ls hl => ?_)
  refine lv_goto (tgt := 5) C.1 C.2.1 dX12_spills_60 (by decide) ?_
  refine lv_iload C.1 C.2.1 dX12_spills_5 (lv_at hl 0 rfl) ?_
  refine lv_bipush (v := 64) C.1 C.2.1 dX12_spills_7 (by decide) ?_
  refine lv_icmp_ge (tgt := 63) C.1 C.2.1 dX12_spills_9 (by decide) (fun c5738 => absurd c5738 (by decide)) (fun _ => ?_)
  refine lv_iload C.1 C.2.1 dX12_spills_12 (lv_at hl 0 rfl) ?_
  refine lv_iload_n C.1 C.2.1 dX12_spills_14 rfl (lv_at hl 3 rfl) ?_
  refine lv_iconst (v := (-1)) C.1 C.2.1 dX12_spills_15 (by decide) ?_
  refine k_ixor (v := (-1)) C (by decide) dX12_spills_16 ?_
  refine k_iand (v := 10) C (by decide) dX12_spills_17 ?_
  refine lv_if_ne (tgt := 57) C.1 C.2.1 dX12_spills_18 (by decide) (fun _ => ?_) (fun c5739 => absurd c5739 (by decide))
  refine lv_iinc (v := 11) (lv' := [(4, .int 11), (3, .int 0), (0, .ref h0), (1, .int 0), (2, .int x0)]) C.1 C.2.1 dX12_spills_57 hl (k := 0) rfl (by decide) (by decide) rfl (fun ls hl => ?_)
  refine lv_goto (tgt := 5) C.1 C.2.1 dX12_spills_60 (by decide) ?_
  refine lv_iload C.1 C.2.1 dX12_spills_5 (lv_at hl 0 rfl) ?_
  refine lv_bipush (v := 64) C.1 C.2.1 dX12_spills_7 (by decide) ?_
  refine lv_icmp_ge (tgt := 63) C.1 C.2.1 dX12_spills_9 (by decide) (fun c5740 => absurd c5740 (by decide)) (fun _ => ?_)
  refine lv_iload C.1 C.2.1 dX12_spills_12 (lv_at hl 0 rfl) ?_
  refine lv_iload_n C.1 C.2.1 dX12_spills_14 rfl (lv_at hl 3 rfl) ?_
  refine lv_iconst (v := (-1)) C.1 C.2.1 dX12_spills_15 (by decide) ?_
  refine k_ixor (v := (-1)) C (by decide) dX12_spills_16 ?_
  refine k_iand (v := 11) C (by decide) dX12_spills_17 ?_
  refine lv_if_ne (tgt := 57) C.1 C.2.1 dX12_spills_18 (by decide) (fun _ => ?_) (fun c5741 => absurd c5741 (by decide))
  refine lv_iinc (v := 12) (lv' := [(4, .int 12), (3, .int 0), (0, .ref h0), (1, .int 0), (2, .int x0)]) C.1 C.2.1 dX12_spills_57 hl (k := 0) rfl (by decide) (by decide) rfl (fun ls hl => ?_)
  refine lv_goto (tgt := 5) C.1 C.2.1 dX12_spills_60 (by decide) ?_
  refine lv_iload C.1 C.2.1 dX12_spills_5 (lv_at hl 0 rfl) ?_
  refine lv_bipush (v := 64) C.1 C.2.1 dX12_spills_7 (by decide) ?_
  refine lv_icmp_ge (tgt := 63) C.1 C.2.1 dX12_spills_9 (by decide) (fun c5742 => absurd c5742 (by decide)) (fun _ => ?_)
  refine lv_iload C.1 C.2.1 dX12_spills_12 (lv_at hl 0 rfl) ?_
  refine lv_iload_n C.1 C.2.1 dX12_spills_14 rfl (lv_at hl 3 rfl) ?_
  refine lv_iconst (v := (-1)) C.1 C.2.1 dX12_spills_15 (by decide) ?_
  refine k_ixor (v := (-1)) C (by decide) dX12_spills_16 ?_
  refine k_iand (v := 12) C (by decide) dX12_spills_17 ?_
  refine lv_if_ne (tgt := 57) C.1 C.2.1 dX12_spills_18 (by decide) (fun _ => ?_) (fun c5743 => absurd c5743 (by decide))
  refine lv_iinc (v := 13) (lv' := [(4, .int 13), (3, .int 0), (0, .ref h0), (1, .int 0), (2, .int x0)]) C.1 C.2.1 dX12_spills_57 hl (k := 0) rfl (by decide) (by decide) rfl (fun ls hl => ?_)
  refine lv_goto (tgt := 5) C.1 C.2.1 dX12_spills_60 (by decide) ?_
  refine lv_iload C.1 C.2.1 dX12_spills_5 (lv_at hl 0 rfl) ?_
  refine lv_bipush (v := 64) C.1 C.2.1 dX12_spills_7 (by decide) ?_
  refine lv_icmp_ge (tgt := 63) C.1 C.2.1 dX12_spills_9 (by decide) (fun c5744 => absurd c5744 (by decide)) (fun _ => ?_)
  refine lv_iload C.1 C.2.1 dX12_spills_12 (lv_at hl 0 rfl) ?_
  refine lv_iload_n C.1 C.2.1 dX12_spills_14 rfl (lv_at hl 3 rfl) ?_
  refine lv_iconst (v := (-1)) C.1 C.2.1 dX12_spills_15 (by decide) ?_
  refine k_ixor (v := (-1)) C (by decide) dX12_spills_16 ?_
  refine k_iand (v := 13) C (by decide) dX12_spills_17 ?_
  refine lv_if_ne (tgt := 57) C.1 C.2.1 dX12_spills_18 (by decide) (fun _ => ?_) (fun c5745 => absurd c5745 (by decide))
  refine lv_iinc (v := 14) (lv' := [(4, .int 14), (3, .int 0), (0, .ref h0), (1, .int 0), (2, .int x0)]) C.1 C.2.1 dX12_spills_57 hl (k := 0) rfl (by decide) (by decide) rfl (fun ls hl => ?_)
  refine lv_goto (tgt := 5) C.1 C.2.1 dX12_spills_60 (by decide) ?_
  refine lv_iload C.1 C.2.1 dX12_spills_5 (lv_at hl 0 rfl) ?_
  refine lv_bipush (v := 64) C.1 C.2.1 dX12_spills_7 (by decide) ?_
  refine lv_icmp_ge (tgt := 63) C.1 C.2.1 dX12_spills_9 (by decide) (fun c5746 => absurd c5746 (by decide)) (fun _ => ?_)
  refine lv_iload C.1 C.2.1 dX12_spills_12 (lv_at hl 0 rfl) ?_
  refine lv_iload_n C.1 C.2.1 dX12_spills_14 rfl (lv_at hl 3 rfl) ?_
  refine lv_iconst (v := (-1)) C.1 C.2.1 dX12_spills_15 (by decide) ?_
  refine k_ixor (v := (-1)) C (by decide) dX12_spills_16 ?_
  refine k_iand (v := 14) C (by decide) dX12_spills_17 ?_
  refine lv_if_ne (tgt := 57) C.1 C.2.1 dX12_spills_18 (by decide) (fun _ => ?_) (fun c5747 => absurd c5747 (by decide))
  refine lv_iinc (v := 15) (lv' := [(4, .int 15), (3, .int 0), (0, .ref h0), (1, .int 0), (2, .int x0)]) C.1 C.2.1 dX12_spills_57 hl (k := 0) rfl (by decide) (by decide) rfl (fun ls hl => ?_)
  refine lv_goto (tgt := 5) C.1 C.2.1 dX12_spills_60 (by decide) ?_
  refine lv_iload C.1 C.2.1 dX12_spills_5 (lv_at hl 0 rfl) ?_
  refine lv_bipush (v := 64) C.1 C.2.1 dX12_spills_7 (by decide) ?_
  refine lv_icmp_ge (tgt := 63) C.1 C.2.1 dX12_spills_9 (by decide) (fun c5748 => absurd c5748 (by decide)) (fun _ => ?_)
  refine lv_iload C.1 C.2.1 dX12_spills_12 (lv_at hl 0 rfl) ?_
  refine lv_iload_n C.1 C.2.1 dX12_spills_14 rfl (lv_at hl 3 rfl) ?_
  refine lv_iconst (v := (-1)) C.1 C.2.1 dX12_spills_15 (by decide) ?_
  refine k_ixor (v := (-1)) C (by decide) dX12_spills_16 ?_
  refine k_iand (v := 15) C (by decide) dX12_spills_17 ?_
  refine lv_if_ne (tgt := 57) C.1 C.2.1 dX12_spills_18 (by decide) (fun _ => ?_) (fun c5749 => absurd c5749 (by decide))
  refine lv_iinc (v := 16) (lv' := [(4, .int 16), (3, .int 0), (0, .ref h0), (1, .int 0), (2, .int x0)]) C.1 C.2.1 dX12_spills_57 hl (k := 0) rfl (by decide) (by decide) rfl (fun ls hl => ?_)
  refine lv_goto (tgt := 5) C.1 C.2.1 dX12_spills_60 (by decide) ?_
  refine lv_iload C.1 C.2.1 dX12_spills_5 (lv_at hl 0 rfl) ?_
  refine lv_bipush (v := 64) C.1 C.2.1 dX12_spills_7 (by decide) ?_
  refine lv_icmp_ge (tgt := 63) C.1 C.2.1 dX12_spills_9 (by decide) (fun c5750 => absurd c5750 (by decide)) (fun _ => ?_)
  refine lv_iload C.1 C.2.1 dX12_spills_12 (lv_at hl 0 rfl) ?_
  refine lv_iload_n C.1 C.2.1 dX12_spills_14 rfl (lv_at hl 3 rfl) ?_
  refine lv_iconst (v := (-1)) C.1 C.2.1 dX12_spills_15 (by decide) ?_
  refine k_ixor (v := (-1)) C (by decide) dX12_spills_16 ?_
  refine k_iand (v := 16) C (by decide) dX12_spills_17 ?_
  refine lv_if_ne (tgt := 57) C.1 C.2.1 dX12_spills_18 (by decide) (fun _ => ?_) (fun c5751 => absurd c5751 (by decide))
  refine lv_iinc (v := 17) (lv' := [(4, .int 17), (3, .int 0), (0, .ref h0), (1, .int 0), (2, .int x0)]) C.1 C.2.1 dX12_spills_57 hl (k := 0) rfl (by decide) (by decide) rfl (fun ls hl => ?_)
  refine lv_goto (tgt := 5) C.1 C.2.1 dX12_spills_60 (by decide) ?_
  refine lv_iload C.1 C.2.1 dX12_spills_5 (lv_at hl 0 rfl) ?_
  refine lv_bipush (v := 64) C.1 C.2.1 dX12_spills_7 (by decide) ?_
  refine lv_icmp_ge (tgt := 63) C.1 C.2.1 dX12_spills_9 (by decide) (fun c5752 => absurd c5752 (by decide)) (fun _ => ?_)
  refine lv_iload C.1 C.2.1 dX12_spills_12 (lv_at hl 0 rfl) ?_
  refine lv_iload_n C.1 C.2.1 dX12_spills_14 rfl (lv_at hl 3 rfl) ?_
  refine lv_iconst (v := (-1)) C.1 C.2.1 dX12_spills_15 (by decide) ?_
  refine k_ixor (v := (-1)) C (by decide) dX12_spills_16 ?_
  refine k_iand (v := 17) C (by decide) dX12_spills_17 ?_
  refine lv_if_ne (tgt := 57) C.1 C.2.1 dX12_spills_18 (by decide) (fun _ => ?_) (fun c5753 => absurd c5753 (by decide))
  refine lv_iinc (v := 18) (lv' := [(4, .int 18), (3, .int 0), (0, .ref h0), (1, .int 0), (2, .int x0)]) C.1 C.2.1 dX12_spills_57 hl (k := 0) rfl (by decide) (by decide) rfl (fun ls hl => ?_)
  refine lv_goto (tgt := 5) C.1 C.2.1 dX12_spills_60 (by decide) ?_
  refine lv_iload C.1 C.2.1 dX12_spills_5 (lv_at hl 0 rfl) ?_
  refine lv_bipush (v := 64) C.1 C.2.1 dX12_spills_7 (by decide) ?_
  refine lv_icmp_ge (tgt := 63) C.1 C.2.1 dX12_spills_9 (by decide) (fun c5754 => absurd c5754 (by decide)) (fun _ => ?_)
  refine lv_iload C.1 C.2.1 dX12_spills_12 (lv_at hl 0 rfl) ?_
  refine lv_iload_n C.1 C.2.1 dX12_spills_14 rfl (lv_at hl 3 rfl) ?_
  refine lv_iconst (v := (-1)) C.1 C.2.1 dX12_spills_15 (by decide) ?_
  refine k_ixor (v := (-1)) C (by decide) dX12_spills_16 ?_
  refine k_iand (v := 18) C (by decide) dX12_spills_17 ?_
  refine lv_if_ne (tgt := 57) C.1 C.2.1 dX12_spills_18 (by decide) (fun _ => ?_) (fun c5755 => absurd c5755 (by decide))
  refine lv_iinc (v := 19) (lv' := [(4, .int 19), (3, .int 0), (0, .ref h0), (1, .int 0), (2, .int x0)]) C.1 C.2.1 dX12_spills_57 hl (k := 0) rfl (by decide) (by decide) rfl (fun ls hl => ?_)
  refine lv_goto (tgt := 5) C.1 C.2.1 dX12_spills_60 (by decide) ?_
  refine lv_iload C.1 C.2.1 dX12_spills_5 (lv_at hl 0 rfl) ?_
  refine lv_bipush (v := 64) C.1 C.2.1 dX12_spills_7 (by decide) ?_
  refine lv_icmp_ge (tgt := 63) C.1 C.2.1 dX12_spills_9 (by decide) (fun c5756 => absurd c5756 (by decide)) (fun _ => ?_)
  refine lv_iload C.1 C.2.1 dX12_spills_12 (lv_at hl 0 rfl) ?_
  refine lv_iload_n C.1 C.2.1 dX12_spills_14 rfl (lv_at hl 3 rfl) ?_
  refine lv_iconst (v := (-1)) C.1 C.2.1 dX12_spills_15 (by decide) ?_
  refine k_ixor (v := (-1)) C (by decide) dX12_spills_16 ?_
  refine k_iand (v := 19) C (by decide) dX12_spills_17 ?_
  refine lv_if_ne (tgt := 57) C.1 C.2.1 dX12_spills_18 (by decide) (fun _ => ?_) (fun c5757 => absurd c5757 (by decide))
  refine lv_iinc (v := 20) (lv' := [(4, .int 20), (3, .int 0), (0, .ref h0), (1, .int 0), (2, .int x0)]) C.1 C.2.1 dX12_spills_57 hl (k := 0) rfl (by decide) (by decide) rfl (fun ls hl => ?_)
  refine lv_goto (tgt := 5) C.1 C.2.1 dX12_spills_60 (by decide) ?_
  refine lv_iload C.1 C.2.1 dX12_spills_5 (lv_at hl 0 rfl) ?_
  refine lv_bipush (v := 64) C.1 C.2.1 dX12_spills_7 (by decide) ?_
  refine lv_icmp_ge (tgt := 63) C.1 C.2.1 dX12_spills_9 (by decide) (fun c5758 => absurd c5758 (by decide)) (fun _ => ?_)
  refine lv_iload C.1 C.2.1 dX12_spills_12 (lv_at hl 0 rfl) ?_
  refine lv_iload_n C.1 C.2.1 dX12_spills_14 rfl (lv_at hl 3 rfl) ?_
  refine lv_iconst (v := (-1)) C.1 C.2.1 dX12_spills_15 (by decide) ?_
  refine k_ixor (v := (-1)) C (by decide) dX12_spills_16 ?_
  refine k_iand (v := 20) C (by decide) dX12_spills_17 ?_
  refine lv_if_ne (tgt := 57) C.1 C.2.1 dX12_spills_18 (by decide) (fun _ => ?_) (fun c5759 => absurd c5759 (by decide))
  refine lv_iinc (v := 21) (lv' := [(4, .int 21), (3, .int 0), (0, .ref h0), (1, .int 0), (2, .int x0)]) C.1 C.2.1 dX12_spills_57 hl (k := 0) rfl (by decide) (by decide) rfl (fun ls hl => ?_)
  refine lv_goto (tgt := 5) C.1 C.2.1 dX12_spills_60 (by decide) ?_
  refine lv_iload C.1 C.2.1 dX12_spills_5 (lv_at hl 0 rfl) ?_
  refine lv_bipush (v := 64) C.1 C.2.1 dX12_spills_7 (by decide) ?_
  refine lv_icmp_ge (tgt := 63) C.1 C.2.1 dX12_spills_9 (by decide) (fun c5760 => absurd c5760 (by decide)) (fun _ => ?_)
  refine lv_iload C.1 C.2.1 dX12_spills_12 (lv_at hl 0 rfl) ?_
  refine lv_iload_n C.1 C.2.1 dX12_spills_14 rfl (lv_at hl 3 rfl) ?_
  refine lv_iconst (v := (-1)) C.1 C.2.1 dX12_spills_15 (by decide) ?_
  refine k_ixor (v := (-1)) C (by decide) dX12_spills_16 ?_
  refine k_iand (v := 21) C (by decide) dX12_spills_17 ?_
  refine lv_if_ne (tgt := 57) C.1 C.2.1 dX12_spills_18 (by decide) (fun _ => ?_) (fun c5761 => absurd c5761 (by decide))
  refine lv_iinc (v := 22) (lv' := [(4, .int 22), (3, .int 0), (0, .ref h0), (1, .int 0), (2, .int x0)]) C.1 C.2.1 dX12_spills_57 hl (k := 0) rfl (by decide) (by decide) rfl (fun ls hl => ?_)
  refine lv_goto (tgt := 5) C.1 C.2.1 dX12_spills_60 (by decide) ?_
  refine lv_iload C.1 C.2.1 dX12_spills_5 (lv_at hl 0 rfl) ?_
  refine lv_bipush (v := 64) C.1 C.2.1 dX12_spills_7 (by decide) ?_
  refine lv_icmp_ge (tgt := 63) C.1 C.2.1 dX12_spills_9 (by decide) (fun c5762 => absurd c5762 (by decide)) (fun _ => ?_)
  refine lv_iload C.1 C.2.1 dX12_spills_12 (lv_at hl 0 rfl) ?_
  refine lv_iload_n C.1 C.2.1 dX12_spills_14 rfl (lv_at hl 3 rfl) ?_
  refine lv_iconst (v := (-1)) C.1 C.2.1 dX12_spills_15 (by decide) ?_
  refine k_ixor (v := (-1)) C (by decide) dX12_spills_16 ?_
  refine k_iand (v := 22) C (by decide) dX12_spills_17 ?_
  refine lv_if_ne (tgt := 57) C.1 C.2.1 dX12_spills_18 (by decide) (fun _ => ?_) (fun c5763 => absurd c5763 (by decide))
  refine lv_iinc (v := 23) (lv' := [(4, .int 23), (3, .int 0), (0, .ref h0), (1, .int 0), (2, .int x0)]) C.1 C.2.1 dX12_spills_57 hl (k := 0) rfl (by decide) (by decide) rfl (fun ls hl => ?_)
  refine lv_goto (tgt := 5) C.1 C.2.1 dX12_spills_60 (by decide) ?_
  refine lv_iload C.1 C.2.1 dX12_spills_5 (lv_at hl 0 rfl) ?_
  refine lv_bipush (v := 64) C.1 C.2.1 dX12_spills_7 (by decide) ?_
  refine lv_icmp_ge (tgt := 63) C.1 C.2.1 dX12_spills_9 (by decide) (fun c5764 => absurd c5764 (by decide)) (fun _ => ?_)
  refine lv_iload C.1 C.2.1 dX12_spills_12 (lv_at hl 0 rfl) ?_
  refine lv_iload_n C.1 C.2.1 dX12_spills_14 rfl (lv_at hl 3 rfl) ?_
  refine lv_iconst (v := (-1)) C.1 C.2.1 dX12_spills_15 (by decide) ?_
  refine k_ixor (v := (-1)) C (by decide) dX12_spills_16 ?_
  refine k_iand (v := 23) C (by decide) dX12_spills_17 ?_
  refine lv_if_ne (tgt := 57) C.1 C.2.1 dX12_spills_18 (by decide) (fun _ => ?_) (fun c5765 => absurd c5765 (by decide))
  refine lv_iinc (v := 24) (lv' := [(4, .int 24), (3, .int 0), (0, .ref h0), (1, .int 0), (2, .int x0)]) C.1 C.2.1 dX12_spills_57 hl (k := 0) rfl (by decide) (by decide) rfl (fun ls hl => ?_)
  refine lv_goto (tgt := 5) C.1 C.2.1 dX12_spills_60 (by decide) ?_
  refine lv_iload C.1 C.2.1 dX12_spills_5 (lv_at hl 0 rfl) ?_
  refine lv_bipush (v := 64) C.1 C.2.1 dX12_spills_7 (by decide) ?_
  refine lv_icmp_ge (tgt := 63) C.1 C.2.1 dX12_spills_9 (by decide) (fun c5766 => absurd c5766 (by decide)) (fun _ => ?_)
  refine lv_iload C.1 C.2.1 dX12_spills_12 (lv_at hl 0 rfl) ?_
  refine lv_iload_n C.1 C.2.1 dX12_spills_14 rfl (lv_at hl 3 rfl) ?_
  refine lv_iconst (v := (-1)) C.1 C.2.1 dX12_spills_15 (by decide) ?_
  refine k_ixor (v := (-1)) C (by decide) dX12_spills_16 ?_
  refine k_iand (v := 24) C (by decide) dX12_spills_17 ?_
  refine lv_if_ne (tgt := 57) C.1 C.2.1 dX12_spills_18 (by decide) (fun _ => ?_) (fun c5767 => absurd c5767 (by decide))
  refine lv_iinc (v := 25) (lv' := [(4, .int 25), (3, .int 0), (0, .ref h0), (1, .int 0), (2, .int x0)]) C.1 C.2.1 dX12_spills_57 hl (k := 0) rfl (by decide) (by decide) rfl (fun ls hl => ?_)
  refine lv_goto (tgt := 5) C.1 C.2.1 dX12_spills_60 (by decide) ?_
  refine lv_iload C.1 C.2.1 dX12_spills_5 (lv_at hl 0 rfl) ?_
  refine lv_bipush (v := 64) C.1 C.2.1 dX12_spills_7 (by decide) ?_
  refine lv_icmp_ge (tgt := 63) C.1 C.2.1 dX12_spills_9 (by decide) (fun c5768 => absurd c5768 (by decide)) (fun _ => ?_)
  refine lv_iload C.1 C.2.1 dX12_spills_12 (lv_at hl 0 rfl) ?_
  refine lv_iload_n C.1 C.2.1 dX12_spills_14 rfl (lv_at hl 3 rfl) ?_
  refine lv_iconst (v := (-1)) C.1 C.2.1 dX12_spills_15 (by decide) ?_
  refine k_ixor (v := (-1)) C (by decide) dX12_spills_16 ?_
  refine k_iand (v := 25) C (by decide) dX12_spills_17 ?_
  refine lv_if_ne (tgt := 57) C.1 C.2.1 dX12_spills_18 (by decide) (fun _ => ?_) (fun c5769 => absurd c5769 (by decide))
  refine lv_iinc (v := 26) (lv' := [(4, .int 26), (3, .int 0), (0, .ref h0), (1, .int 0), (2, .int x0)]) C.1 C.2.1 dX12_spills_57 hl (k := 0) rfl (by decide) (by decide) rfl (fun ls hl => ?_)
  refine lv_goto (tgt := 5) C.1 C.2.1 dX12_spills_60 (by decide) ?_
  refine lv_iload C.1 C.2.1 dX12_spills_5 (lv_at hl 0 rfl) ?_
  refine lv_bipush (v := 64) C.1 C.2.1 dX12_spills_7 (by decide) ?_
  refine lv_icmp_ge (tgt := 63) C.1 C.2.1 dX12_spills_9 (by decide) (fun c5770 => absurd c5770 (by decide)) (fun _ => ?_)
  refine lv_iload C.1 C.2.1 dX12_spills_12 (lv_at hl 0 rfl) ?_
  refine lv_iload_n C.1 C.2.1 dX12_spills_14 rfl (lv_at hl 3 rfl) ?_
  refine lv_iconst (v := (-1)) C.1 C.2.1 dX12_spills_15 (by decide) ?_
  refine k_ixor (v := (-1)) C (by decide) dX12_spills_16 ?_
  refine k_iand (v := 26) C (by decide) dX12_spills_17 ?_
  refine lv_if_ne (tgt := 57) C.1 C.2.1 dX12_spills_18 (by decide) (fun _ => ?_) (fun c5771 => absurd c5771 (by decide))
  refine lv_iinc (v := 27) (lv' := [(4, .int 27), (3, .int 0), (0, .ref h0), (1, .int 0), (2, .int x0)]) C.1 C.2.1 dX12_spills_57 hl (k := 0) rfl (by decide) (by decide) rfl (fun ls hl => ?_)
  refine lv_goto (tgt := 5) C.1 C.2.1 dX12_spills_60 (by decide) ?_
  refine lv_iload C.1 C.2.1 dX12_spills_5 (lv_at hl 0 rfl) ?_
  refine lv_bipush (v := 64) C.1 C.2.1 dX12_spills_7 (by decide) ?_
  refine lv_icmp_ge (tgt := 63) C.1 C.2.1 dX12_spills_9 (by decide) (fun c5772 => absurd c5772 (by decide)) (fun _ => ?_)
  refine lv_iload C.1 C.2.1 dX12_spills_12 (lv_at hl 0 rfl) ?_
  refine lv_iload_n C.1 C.2.1 dX12_spills_14 rfl (lv_at hl 3 rfl) ?_
  refine lv_iconst (v := (-1)) C.1 C.2.1 dX12_spills_15 (by decide) ?_
  refine k_ixor (v := (-1)) C (by decide) dX12_spills_16 ?_
  refine k_iand (v := 27) C (by decide) dX12_spills_17 ?_
  refine lv_if_ne (tgt := 57) C.1 C.2.1 dX12_spills_18 (by decide) (fun _ => ?_) (fun c5773 => absurd c5773 (by decide))
  refine lv_iinc (v := 28) (lv' := [(4, .int 28), (3, .int 0), (0, .ref h0), (1, .int 0), (2, .int x0)]) C.1 C.2.1 dX12_spills_57 hl (k := 0) rfl (by decide) (by decide) rfl (fun ls hl => ?_)
  refine lv_goto (tgt := 5) C.1 C.2.1 dX12_spills_60 (by decide) ?_
  refine lv_iload C.1 C.2.1 dX12_spills_5 (lv_at hl 0 rfl) ?_
  refine lv_bipush (v := 64) C.1 C.2.1 dX12_spills_7 (by decide) ?_
  refine lv_icmp_ge (tgt := 63) C.1 C.2.1 dX12_spills_9 (by decide) (fun c5774 => absurd c5774 (by decide)) (fun _ => ?_)
  refine lv_iload C.1 C.2.1 dX12_spills_12 (lv_at hl 0 rfl) ?_
  refine lv_iload_n C.1 C.2.1 dX12_spills_14 rfl (lv_at hl 3 rfl) ?_
  refine lv_iconst (v := (-1)) C.1 C.2.1 dX12_spills_15 (by decide) ?_
  refine k_ixor (v := (-1)) C (by decide) dX12_spills_16 ?_
  refine k_iand (v := 28) C (by decide) dX12_spills_17 ?_
  refine lv_if_ne (tgt := 57) C.1 C.2.1 dX12_spills_18 (by decide) (fun _ => ?_) (fun c5775 => absurd c5775 (by decide))
  refine lv_iinc (v := 29) (lv' := [(4, .int 29), (3, .int 0), (0, .ref h0), (1, .int 0), (2, .int x0)]) C.1 C.2.1 dX12_spills_57 hl (k := 0) rfl (by decide) (by decide) rfl (fun ls hl => ?_)
  refine lv_goto (tgt := 5) C.1 C.2.1 dX12_spills_60 (by decide) ?_
  refine lv_iload C.1 C.2.1 dX12_spills_5 (lv_at hl 0 rfl) ?_
  refine lv_bipush (v := 64) C.1 C.2.1 dX12_spills_7 (by decide) ?_
  refine lv_icmp_ge (tgt := 63) C.1 C.2.1 dX12_spills_9 (by decide) (fun c5776 => absurd c5776 (by decide)) (fun _ => ?_)
  refine lv_iload C.1 C.2.1 dX12_spills_12 (lv_at hl 0 rfl) ?_
  refine lv_iload_n C.1 C.2.1 dX12_spills_14 rfl (lv_at hl 3 rfl) ?_
  refine lv_iconst (v := (-1)) C.1 C.2.1 dX12_spills_15 (by decide) ?_
  refine k_ixor (v := (-1)) C (by decide) dX12_spills_16 ?_
  refine k_iand (v := 29) C (by decide) dX12_spills_17 ?_
  refine lv_if_ne (tgt := 57) C.1 C.2.1 dX12_spills_18 (by decide) (fun _ => ?_) (fun c5777 => absurd c5777 (by decide))
  refine lv_iinc (v := 30) (lv' := [(4, .int 30), (3, .int 0), (0, .ref h0), (1, .int 0), (2, .int x0)]) C.1 C.2.1 dX12_spills_57 hl (k := 0) rfl (by decide) (by decide) rfl (fun ls hl => ?_)
  refine lv_goto (tgt := 5) C.1 C.2.1 dX12_spills_60 (by decide) ?_
  refine lv_iload C.1 C.2.1 dX12_spills_5 (lv_at hl 0 rfl) ?_
  refine lv_bipush (v := 64) C.1 C.2.1 dX12_spills_7 (by decide) ?_
  refine lv_icmp_ge (tgt := 63) C.1 C.2.1 dX12_spills_9 (by decide) (fun c5778 => absurd c5778 (by decide)) (fun _ => ?_)
  refine lv_iload C.1 C.2.1 dX12_spills_12 (lv_at hl 0 rfl) ?_
  refine lv_iload_n C.1 C.2.1 dX12_spills_14 rfl (lv_at hl 3 rfl) ?_
  refine lv_iconst (v := (-1)) C.1 C.2.1 dX12_spills_15 (by decide) ?_
  refine k_ixor (v := (-1)) C (by decide) dX12_spills_16 ?_
  refine k_iand (v := 30) C (by decide) dX12_spills_17 ?_
  refine lv_if_ne (tgt := 57) C.1 C.2.1 dX12_spills_18 (by decide) (fun _ => ?_) (fun c5779 => absurd c5779 (by decide))
  refine lv_iinc (v := 31) (lv' := [(4, .int 31), (3, .int 0), (0, .ref h0), (1, .int 0), (2, .int x0)]) C.1 C.2.1 dX12_spills_57 hl (k := 0) rfl (by decide) (by decide) rfl (fun ls hl => ?_)
  refine lv_goto (tgt := 5) C.1 C.2.1 dX12_spills_60 (by decide) ?_
  refine lv_iload C.1 C.2.1 dX12_spills_5 (lv_at hl 0 rfl) ?_
  refine lv_bipush (v := 64) C.1 C.2.1 dX12_spills_7 (by decide) ?_
  refine lv_icmp_ge (tgt := 63) C.1 C.2.1 dX12_spills_9 (by decide) (fun c5780 => absurd c5780 (by decide)) (fun _ => ?_)
  refine lv_iload C.1 C.2.1 dX12_spills_12 (lv_at hl 0 rfl) ?_
  refine lv_iload_n C.1 C.2.1 dX12_spills_14 rfl (lv_at hl 3 rfl) ?_
  refine lv_iconst (v := (-1)) C.1 C.2.1 dX12_spills_15 (by decide) ?_
  refine k_ixor (v := (-1)) C (by decide) dX12_spills_16 ?_
  refine k_iand (v := 31) C (by decide) dX12_spills_17 ?_
  refine lv_if_ne (tgt := 57) C.1 C.2.1 dX12_spills_18 (by decide) (fun _ => ?_) (fun c5781 => absurd c5781 (by decide))
  refine lv_iinc (v := 32) (lv' := [(4, .int 32), (3, .int 0), (0, .ref h0), (1, .int 0), (2, .int x0)]) C.1 C.2.1 dX12_spills_57 hl (k := 0) rfl (by decide) (by decide) rfl (fun ls hl => ?_)
  refine lv_goto (tgt := 5) C.1 C.2.1 dX12_spills_60 (by decide) ?_
  refine lv_iload C.1 C.2.1 dX12_spills_5 (lv_at hl 0 rfl) ?_
  refine lv_bipush (v := 64) C.1 C.2.1 dX12_spills_7 (by decide) ?_
  refine lv_icmp_ge (tgt := 63) C.1 C.2.1 dX12_spills_9 (by decide) (fun c5782 => absurd c5782 (by decide)) (fun _ => ?_)
  refine lv_iload C.1 C.2.1 dX12_spills_12 (lv_at hl 0 rfl) ?_
  refine lv_iload_n C.1 C.2.1 dX12_spills_14 rfl (lv_at hl 3 rfl) ?_
  refine lv_iconst (v := (-1)) C.1 C.2.1 dX12_spills_15 (by decide) ?_
  refine k_ixor (v := (-1)) C (by decide) dX12_spills_16 ?_
  refine k_iand (v := 32) C (by decide) dX12_spills_17 ?_
  refine lv_if_ne (tgt := 57) C.1 C.2.1 dX12_spills_18 (by decide) (fun _ => ?_) (fun c5783 => absurd c5783 (by decide))
  refine lv_iinc (v := 33) (lv' := [(4, .int 33), (3, .int 0), (0, .ref h0), (1, .int 0), (2, .int x0)]) C.1 C.2.1 dX12_spills_57 hl (k := 0) rfl (by decide) (by decide) rfl (fun ls hl => ?_)
  refine lv_goto (tgt := 5) C.1 C.2.1 dX12_spills_60 (by decide) ?_
  refine lv_iload C.1 C.2.1 dX12_spills_5 (lv_at hl 0 rfl) ?_
  refine lv_bipush (v := 64) C.1 C.2.1 dX12_spills_7 (by decide) ?_
  refine lv_icmp_ge (tgt := 63) C.1 C.2.1 dX12_spills_9 (by decide) (fun c5784 => absurd c5784 (by decide)) (fun _ => ?_)
  refine lv_iload C.1 C.2.1 dX12_spills_12 (lv_at hl 0 rfl) ?_
  refine lv_iload_n C.1 C.2.1 dX12_spills_14 rfl (lv_at hl 3 rfl) ?_
  refine lv_iconst (v := (-1)) C.1 C.2.1 dX12_spills_15 (by decide) ?_
  refine k_ixor (v := (-1)) C (by decide) dX12_spills_16 ?_
  refine k_iand (v := 33) C (by decide) dX12_spills_17 ?_
  refine lv_if_ne (tgt := 57) C.1 C.2.1 dX12_spills_18 (by decide) (fun _ => ?_) (fun c5785 => absurd c5785 (by decide))
  refine lv_iinc (v := 34) (lv' := [(4, .int 34), (3, .int 0), (0, .ref h0), (1, .int 0), (2, .int x0)]) C.1 C.2.1 dX12_spills_57 hl (k := 0) rfl (by decide) (by decide) rfl (fun ls hl => ?_)
  refine lv_goto (tgt := 5) C.1 C.2.1 dX12_spills_60 (by decide) ?_
  refine lv_iload C.1 C.2.1 dX12_spills_5 (lv_at hl 0 rfl) ?_
  refine lv_bipush (v := 64) C.1 C.2.1 dX12_spills_7 (by decide) ?_
  refine lv_icmp_ge (tgt := 63) C.1 C.2.1 dX12_spills_9 (by decide) (fun c5786 => absurd c5786 (by decide)) (fun _ => ?_)
  refine lv_iload C.1 C.2.1 dX12_spills_12 (lv_at hl 0 rfl) ?_
  refine lv_iload_n C.1 C.2.1 dX12_spills_14 rfl (lv_at hl 3 rfl) ?_
  refine lv_iconst (v := (-1)) C.1 C.2.1 dX12_spills_15 (by decide) ?_
  refine k_ixor (v := (-1)) C (by decide) dX12_spills_16 ?_
  refine k_iand (v := 34) C (by decide) dX12_spills_17 ?_
  refine lv_if_ne (tgt := 57) C.1 C.2.1 dX12_spills_18 (by decide) (fun _ => ?_) (fun c5787 => absurd c5787 (by decide))
  refine lv_iinc (v := 35) (lv' := [(4, .int 35), (3, .int 0), (0, .ref h0), (1, .int 0), (2, .int x0)]) C.1 C.2.1 dX12_spills_57 hl (k := 0) rfl (by decide) (by decide) rfl (fun ls hl => ?_)
  refine lv_goto (tgt := 5) C.1 C.2.1 dX12_spills_60 (by decide) ?_
  refine lv_iload C.1 C.2.1 dX12_spills_5 (lv_at hl 0 rfl) ?_
  refine lv_bipush (v := 64) C.1 C.2.1 dX12_spills_7 (by decide) ?_
  refine lv_icmp_ge (tgt := 63) C.1 C.2.1 dX12_spills_9 (by decide) (fun c5788 => absurd c5788 (by decide)) (fun _ => ?_)
  refine lv_iload C.1 C.2.1 dX12_spills_12 (lv_at hl 0 rfl) ?_
  refine lv_iload_n C.1 C.2.1 dX12_spills_14 rfl (lv_at hl 3 rfl) ?_
  refine lv_iconst (v := (-1)) C.1 C.2.1 dX12_spills_15 (by decide) ?_
  refine k_ixor (v := (-1)) C (by decide) dX12_spills_16 ?_
  refine k_iand (v := 35) C (by decide) dX12_spills_17 ?_
  refine lv_if_ne (tgt := 57) C.1 C.2.1 dX12_spills_18 (by decide) (fun _ => ?_) (fun c5789 => absurd c5789 (by decide))
  refine lv_iinc (v := 36) (lv' := [(4, .int 36), (3, .int 0), (0, .ref h0), (1, .int 0), (2, .int x0)]) C.1 C.2.1 dX12_spills_57 hl (k := 0) rfl (by decide) (by decide) rfl (fun ls hl => ?_)
  refine lv_goto (tgt := 5) C.1 C.2.1 dX12_spills_60 (by decide) ?_
  refine lv_iload C.1 C.2.1 dX12_spills_5 (lv_at hl 0 rfl) ?_
  refine lv_bipush (v := 64) C.1 C.2.1 dX12_spills_7 (by decide) ?_
  refine lv_icmp_ge (tgt := 63) C.1 C.2.1 dX12_spills_9 (by decide) (fun c5790 => absurd c5790 (by decide)) (fun _ => ?_)
  refine lv_iload C.1 C.2.1 dX12_spills_12 (lv_at hl 0 rfl) ?_
  refine lv_iload_n C.1 C.2.1 dX12_spills_14 rfl (lv_at hl 3 rfl) ?_
  refine lv_iconst (v := (-1)) C.1 C.2.1 dX12_spills_15 (by decide) ?_
  refine k_ixor (v := (-1)) C (by decide) dX12_spills_16 ?_
  refine k_iand (v := 36) C (by decide) dX12_spills_17 ?_
  refine lv_if_ne (tgt := 57) C.1 C.2.1 dX12_spills_18 (by decide) (fun _ => ?_) (fun c5791 => absurd c5791 (by decide))
  refine lv_iinc (v := 37) (lv' := [(4, .int 37), (3, .int 0), (0, .ref h0), (1, .int 0), (2, .int x0)]) C.1 C.2.1 dX12_spills_57 hl (k := 0) rfl (by decide) (by decide) rfl (fun ls hl => ?_)
  refine lv_goto (tgt := 5) C.1 C.2.1 dX12_spills_60 (by decide) ?_
  refine lv_iload C.1 C.2.1 dX12_spills_5 (lv_at hl 0 rfl) ?_
  refine lv_bipush (v := 64) C.1 C.2.1 dX12_spills_7 (by decide) ?_
  refine lv_icmp_ge (tgt := 63) C.1 C.2.1 dX12_spills_9 (by decide) (fun c5792 => absurd c5792 (by decide)) (fun _ => ?_)
  refine lv_iload C.1 C.2.1 dX12_spills_12 (lv_at hl 0 rfl) ?_
  refine lv_iload_n C.1 C.2.1 dX12_spills_14 rfl (lv_at hl 3 rfl) ?_
  refine lv_iconst (v := (-1)) C.1 C.2.1 dX12_spills_15 (by decide) ?_
  refine k_ixor (v := (-1)) C (by decide) dX12_spills_16 ?_
  refine k_iand (v := 37) C (by decide) dX12_spills_17 ?_
  refine lv_if_ne (tgt := 57) C.1 C.2.1 dX12_spills_18 (by decide) (fun _ => ?_) (fun c5793 => absurd c5793 (by decide))
  refine lv_iinc (v := 38) (lv' := [(4, .int 38), (3, .int 0), (0, .ref h0), (1, .int 0), (2, .int x0)]) C.1 C.2.1 dX12_spills_57 hl (k := 0) rfl (by decide) (by decide) rfl (fun ls hl => ?_)
  refine lv_goto (tgt := 5) C.1 C.2.1 dX12_spills_60 (by decide) ?_
  refine lv_iload C.1 C.2.1 dX12_spills_5 (lv_at hl 0 rfl) ?_
  refine lv_bipush (v := 64) C.1 C.2.1 dX12_spills_7 (by decide) ?_
  refine lv_icmp_ge (tgt := 63) C.1 C.2.1 dX12_spills_9 (by decide) (fun c5794 => absurd c5794 (by decide)) (fun _ => ?_)
  refine lv_iload C.1 C.2.1 dX12_spills_12 (lv_at hl 0 rfl) ?_
  refine lv_iload_n C.1 C.2.1 dX12_spills_14 rfl (lv_at hl 3 rfl) ?_
  refine lv_iconst (v := (-1)) C.1 C.2.1 dX12_spills_15 (by decide) ?_
  refine k_ixor (v := (-1)) C (by decide) dX12_spills_16 ?_
  refine k_iand (v := 38) C (by decide) dX12_spills_17 ?_
  refine lv_if_ne (tgt := 57) C.1 C.2.1 dX12_spills_18 (by decide) (fun _ => ?_) (fun c5795 => absurd c5795 (by decide))
  refine lv_iinc (v := 39) (lv' := [(4, .int 39), (3, .int 0), (0, .ref h0), (1, .int 0), (2, .int x0)]) C.1 C.2.1 dX12_spills_57 hl (k := 0) rfl (by decide) (by decide) rfl (fun ls hl => ?_)
  refine lv_goto (tgt := 5) C.1 C.2.1 dX12_spills_60 (by decide) ?_
  refine lv_iload C.1 C.2.1 dX12_spills_5 (lv_at hl 0 rfl) ?_
  refine lv_bipush (v := 64) C.1 C.2.1 dX12_spills_7 (by decide) ?_
  refine lv_icmp_ge (tgt := 63) C.1 C.2.1 dX12_spills_9 (by decide) (fun c5796 => absurd c5796 (by decide)) (fun _ => ?_)
  refine lv_iload C.1 C.2.1 dX12_spills_12 (lv_at hl 0 rfl) ?_
  refine lv_iload_n C.1 C.2.1 dX12_spills_14 rfl (lv_at hl 3 rfl) ?_
  refine lv_iconst (v := (-1)) C.1 C.2.1 dX12_spills_15 (by decide) ?_
  refine k_ixor (v := (-1)) C (by decide) dX12_spills_16 ?_
  refine k_iand (v := 39) C (by decide) dX12_spills_17 ?_
  refine lv_if_ne (tgt := 57) C.1 C.2.1 dX12_spills_18 (by decide) (fun _ => ?_) (fun c5797 => absurd c5797 (by decide))
  refine lv_iinc (v := 40) (lv' := [(4, .int 40), (3, .int 0), (0, .ref h0), (1, .int 0), (2, .int x0)]) C.1 C.2.1 dX12_spills_57 hl (k := 0) rfl (by decide) (by decide) rfl (fun ls hl => ?_)
  refine lv_goto (tgt := 5) C.1 C.2.1 dX12_spills_60 (by decide) ?_
  refine lv_iload C.1 C.2.1 dX12_spills_5 (lv_at hl 0 rfl) ?_
  refine lv_bipush (v := 64) C.1 C.2.1 dX12_spills_7 (by decide) ?_
  refine lv_icmp_ge (tgt := 63) C.1 C.2.1 dX12_spills_9 (by decide) (fun c5798 => absurd c5798 (by decide)) (fun _ => ?_)
  refine lv_iload C.1 C.2.1 dX12_spills_12 (lv_at hl 0 rfl) ?_
  refine lv_iload_n C.1 C.2.1 dX12_spills_14 rfl (lv_at hl 3 rfl) ?_
  refine lv_iconst (v := (-1)) C.1 C.2.1 dX12_spills_15 (by decide) ?_
  refine k_ixor (v := (-1)) C (by decide) dX12_spills_16 ?_
  refine k_iand (v := 40) C (by decide) dX12_spills_17 ?_
  refine lv_if_ne (tgt := 57) C.1 C.2.1 dX12_spills_18 (by decide) (fun _ => ?_) (fun c5799 => absurd c5799 (by decide))
  refine lv_iinc (v := 41) (lv' := [(4, .int 41), (3, .int 0), (0, .ref h0), (1, .int 0), (2, .int x0)]) C.1 C.2.1 dX12_spills_57 hl (k := 0) rfl (by decide) (by decide) rfl (fun ls hl => ?_)
  refine lv_goto (tgt := 5) C.1 C.2.1 dX12_spills_60 (by decide) ?_
  refine lv_iload C.1 C.2.1 dX12_spills_5 (lv_at hl 0 rfl) ?_
  refine lv_bipush (v := 64) C.1 C.2.1 dX12_spills_7 (by decide) ?_
  refine lv_icmp_ge (tgt := 63) C.1 C.2.1 dX12_spills_9 (by decide) (fun c5800 => absurd c5800 (by decide)) (fun _ => ?_)
  refine lv_iload C.1 C.2.1 dX12_spills_12 (lv_at hl 0 rfl) ?_
  refine lv_iload_n C.1 C.2.1 dX12_spills_14 rfl (lv_at hl 3 rfl) ?_
  refine lv_iconst (v := (-1)) C.1 C.2.1 dX12_spills_15 (by decide) ?_
  refine k_ixor (v := (-1)) C (by decide) dX12_spills_16 ?_
  refine k_iand (v := 41) C (by decide) dX12_spills_17 ?_
  refine lv_if_ne (tgt := 57) C.1 C.2.1 dX12_spills_18 (by decide) (fun _ => ?_) (fun c5801 => absurd c5801 (by decide))
  refine lv_iinc (v := 42) (lv' := [(4, .int 42), (3, .int 0), (0, .ref h0), (1, .int 0), (2, .int x0)]) C.1 C.2.1 dX12_spills_57 hl (k := 0) rfl (by decide) (by decide) rfl (fun ls hl => ?_)
  refine lv_goto (tgt := 5) C.1 C.2.1 dX12_spills_60 (by decide) ?_
  refine lv_iload C.1 C.2.1 dX12_spills_5 (lv_at hl 0 rfl) ?_
  refine lv_bipush (v := 64) C.1 C.2.1 dX12_spills_7 (by decide) ?_
  refine lv_icmp_ge (tgt := 63) C.1 C.2.1 dX12_spills_9 (by decide) (fun c5802 => absurd c5802 (by decide)) (fun _ => ?_)
  refine lv_iload C.1 C.2.1 dX12_spills_12 (lv_at hl 0 rfl) ?_
  refine lv_iload_n C.1 C.2.1 dX12_spills_14 rfl (lv_at hl 3 rfl) ?_
  refine lv_iconst (v := (-1)) C.1 C.2.1 dX12_spills_15 (by decide) ?_
  refine k_ixor (v := (-1)) C (by decide) dX12_spills_16 ?_
  refine k_iand (v := 42) C (by decide) dX12_spills_17 ?_
  refine lv_if_ne (tgt := 57) C.1 C.2.1 dX12_spills_18 (by decide) (fun _ => ?_) (fun c5803 => absurd c5803 (by decide))
  refine lv_iinc (v := 43) (lv' := [(4, .int 43), (3, .int 0), (0, .ref h0), (1, .int 0), (2, .int x0)]) C.1 C.2.1 dX12_spills_57 hl (k := 0) rfl (by decide) (by decide) rfl (fun ls hl => ?_)
  refine lv_goto (tgt := 5) C.1 C.2.1 dX12_spills_60 (by decide) ?_
  refine lv_iload C.1 C.2.1 dX12_spills_5 (lv_at hl 0 rfl) ?_
  refine lv_bipush (v := 64) C.1 C.2.1 dX12_spills_7 (by decide) ?_
  refine lv_icmp_ge (tgt := 63) C.1 C.2.1 dX12_spills_9 (by decide) (fun c5804 => absurd c5804 (by decide)) (fun _ => ?_)
  refine lv_iload C.1 C.2.1 dX12_spills_12 (lv_at hl 0 rfl) ?_
  refine lv_iload_n C.1 C.2.1 dX12_spills_14 rfl (lv_at hl 3 rfl) ?_
  refine lv_iconst (v := (-1)) C.1 C.2.1 dX12_spills_15 (by decide) ?_
  refine k_ixor (v := (-1)) C (by decide) dX12_spills_16 ?_
  refine k_iand (v := 43) C (by decide) dX12_spills_17 ?_
  refine lv_if_ne (tgt := 57) C.1 C.2.1 dX12_spills_18 (by decide) (fun _ => ?_) (fun c5805 => absurd c5805 (by decide))
  refine lv_iinc (v := 44) (lv' := [(4, .int 44), (3, .int 0), (0, .ref h0), (1, .int 0), (2, .int x0)]) C.1 C.2.1 dX12_spills_57 hl (k := 0) rfl (by decide) (by decide) rfl (fun ls hl => ?_)
  refine lv_goto (tgt := 5) C.1 C.2.1 dX12_spills_60 (by decide) ?_
  refine lv_iload C.1 C.2.1 dX12_spills_5 (lv_at hl 0 rfl) ?_
  refine lv_bipush (v := 64) C.1 C.2.1 dX12_spills_7 (by decide) ?_
  refine lv_icmp_ge (tgt := 63) C.1 C.2.1 dX12_spills_9 (by decide) (fun c5806 => absurd c5806 (by decide)) (fun _ => ?_)
  refine lv_iload C.1 C.2.1 dX12_spills_12 (lv_at hl 0 rfl) ?_
  refine lv_iload_n C.1 C.2.1 dX12_spills_14 rfl (lv_at hl 3 rfl) ?_
  refine lv_iconst (v := (-1)) C.1 C.2.1 dX12_spills_15 (by decide) ?_
  refine k_ixor (v := (-1)) C (by decide) dX12_spills_16 ?_
  refine k_iand (v := 44) C (by decide) dX12_spills_17 ?_
  refine lv_if_ne (tgt := 57) C.1 C.2.1 dX12_spills_18 (by decide) (fun _ => ?_) (fun c5807 => absurd c5807 (by decide))
  refine lv_iinc (v := 45) (lv' := [(4, .int 45), (3, .int 0), (0, .ref h0), (1, .int 0), (2, .int x0)]) C.1 C.2.1 dX12_spills_57 hl (k := 0) rfl (by decide) (by decide) rfl (fun ls hl => ?_)
  refine lv_goto (tgt := 5) C.1 C.2.1 dX12_spills_60 (by decide) ?_
  refine lv_iload C.1 C.2.1 dX12_spills_5 (lv_at hl 0 rfl) ?_
  refine lv_bipush (v := 64) C.1 C.2.1 dX12_spills_7 (by decide) ?_
  refine lv_icmp_ge (tgt := 63) C.1 C.2.1 dX12_spills_9 (by decide) (fun c5808 => absurd c5808 (by decide)) (fun _ => ?_)
  refine lv_iload C.1 C.2.1 dX12_spills_12 (lv_at hl 0 rfl) ?_
  refine lv_iload_n C.1 C.2.1 dX12_spills_14 rfl (lv_at hl 3 rfl) ?_
  refine lv_iconst (v := (-1)) C.1 C.2.1 dX12_spills_15 (by decide) ?_
  refine k_ixor (v := (-1)) C (by decide) dX12_spills_16 ?_
  refine k_iand (v := 45) C (by decide) dX12_spills_17 ?_
  refine lv_if_ne (tgt := 57) C.1 C.2.1 dX12_spills_18 (by decide) (fun _ => ?_) (fun c5809 => absurd c5809 (by decide))
  refine lv_iinc (v := 46) (lv' := [(4, .int 46), (3, .int 0), (0, .ref h0), (1, .int 0), (2, .int x0)]) C.1 C.2.1 dX12_spills_57 hl (k := 0) rfl (by decide) (by decide) rfl (fun ls hl => ?_)
  refine lv_goto (tgt := 5) C.1 C.2.1 dX12_spills_60 (by decide) ?_
  refine lv_iload C.1 C.2.1 dX12_spills_5 (lv_at hl 0 rfl) ?_
  refine lv_bipush (v := 64) C.1 C.2.1 dX12_spills_7 (by decide) ?_
  refine lv_icmp_ge (tgt := 63) C.1 C.2.1 dX12_spills_9 (by decide) (fun c5810 => absurd c5810 (by decide)) (fun _ => ?_)
  refine lv_iload C.1 C.2.1 dX12_spills_12 (lv_at hl 0 rfl) ?_
  refine lv_iload_n C.1 C.2.1 dX12_spills_14 rfl (lv_at hl 3 rfl) ?_
  refine lv_iconst (v := (-1)) C.1 C.2.1 dX12_spills_15 (by decide) ?_
  refine k_ixor (v := (-1)) C (by decide) dX12_spills_16 ?_
  refine k_iand (v := 46) C (by decide) dX12_spills_17 ?_
  refine lv_if_ne (tgt := 57) C.1 C.2.1 dX12_spills_18 (by decide) (fun _ => ?_) (fun c5811 => absurd c5811 (by decide))
  refine lv_iinc (v := 47) (lv' := [(4, .int 47), (3, .int 0), (0, .ref h0), (1, .int 0), (2, .int x0)]) C.1 C.2.1 dX12_spills_57 hl (k := 0) rfl (by decide) (by decide) rfl (fun ls hl => ?_)
  refine lv_goto (tgt := 5) C.1 C.2.1 dX12_spills_60 (by decide) ?_
  refine lv_iload C.1 C.2.1 dX12_spills_5 (lv_at hl 0 rfl) ?_
  refine lv_bipush (v := 64) C.1 C.2.1 dX12_spills_7 (by decide) ?_
  refine lv_icmp_ge (tgt := 63) C.1 C.2.1 dX12_spills_9 (by decide) (fun c5812 => absurd c5812 (by decide)) (fun _ => ?_)
  refine lv_iload C.1 C.2.1 dX12_spills_12 (lv_at hl 0 rfl) ?_
  refine lv_iload_n C.1 C.2.1 dX12_spills_14 rfl (lv_at hl 3 rfl) ?_
  refine lv_iconst (v := (-1)) C.1 C.2.1 dX12_spills_15 (by decide) ?_
  refine k_ixor (v := (-1)) C (by decide) dX12_spills_16 ?_
  refine k_iand (v := 47) C (by decide) dX12_spills_17 ?_
  refine lv_if_ne (tgt := 57) C.1 C.2.1 dX12_spills_18 (by decide) (fun _ => ?_) (fun c5813 => absurd c5813 (by decide))
  refine lv_iinc (v := 48) (lv' := [(4, .int 48), (3, .int 0), (0, .ref h0), (1, .int 0), (2, .int x0)]) C.1 C.2.1 dX12_spills_57 hl (k := 0) rfl (by decide) (by decide) rfl (fun ls hl => ?_)
  refine lv_goto (tgt := 5) C.1 C.2.1 dX12_spills_60 (by decide) ?_
  refine lv_iload C.1 C.2.1 dX12_spills_5 (lv_at hl 0 rfl) ?_
  refine lv_bipush (v := 64) C.1 C.2.1 dX12_spills_7 (by decide) ?_
  refine lv_icmp_ge (tgt := 63) C.1 C.2.1 dX12_spills_9 (by decide) (fun c5814 => absurd c5814 (by decide)) (fun _ => ?_)
  refine lv_iload C.1 C.2.1 dX12_spills_12 (lv_at hl 0 rfl) ?_
  refine lv_iload_n C.1 C.2.1 dX12_spills_14 rfl (lv_at hl 3 rfl) ?_
  refine lv_iconst (v := (-1)) C.1 C.2.1 dX12_spills_15 (by decide) ?_
  refine k_ixor (v := (-1)) C (by decide) dX12_spills_16 ?_
  refine k_iand (v := 48) C (by decide) dX12_spills_17 ?_
  refine lv_if_ne (tgt := 57) C.1 C.2.1 dX12_spills_18 (by decide) (fun _ => ?_) (fun c5815 => absurd c5815 (by decide))
  refine lv_iinc (v := 49) (lv' := [(4, .int 49), (3, .int 0), (0, .ref h0), (1, .int 0), (2, .int x0)]) C.1 C.2.1 dX12_spills_57 hl (k := 0) rfl (by decide) (by decide) rfl (fun ls hl => ?_)
  refine lv_goto (tgt := 5) C.1 C.2.1 dX12_spills_60 (by decide) ?_
  refine lv_iload C.1 C.2.1 dX12_spills_5 (lv_at hl 0 rfl) ?_
  refine lv_bipush (v := 64) C.1 C.2.1 dX12_spills_7 (by decide) ?_
  refine lv_icmp_ge (tgt := 63) C.1 C.2.1 dX12_spills_9 (by decide) (fun c5816 => absurd c5816 (by decide)) (fun _ => ?_)
  refine lv_iload C.1 C.2.1 dX12_spills_12 (lv_at hl 0 rfl) ?_
  refine lv_iload_n C.1 C.2.1 dX12_spills_14 rfl (lv_at hl 3 rfl) ?_
  refine lv_iconst (v := (-1)) C.1 C.2.1 dX12_spills_15 (by decide) ?_
  refine k_ixor (v := (-1)) C (by decide) dX12_spills_16 ?_
  refine k_iand (v := 49) C (by decide) dX12_spills_17 ?_
  refine lv_if_ne (tgt := 57) C.1 C.2.1 dX12_spills_18 (by decide) (fun _ => ?_) (fun c5817 => absurd c5817 (by decide))
  refine lv_iinc (v := 50) (lv' := [(4, .int 50), (3, .int 0), (0, .ref h0), (1, .int 0), (2, .int x0)]) C.1 C.2.1 dX12_spills_57 hl (k := 0) rfl (by decide) (by decide) rfl (fun ls hl => ?_)
  refine lv_goto (tgt := 5) C.1 C.2.1 dX12_spills_60 (by decide) ?_
  refine lv_iload C.1 C.2.1 dX12_spills_5 (lv_at hl 0 rfl) ?_
  refine lv_bipush (v := 64) C.1 C.2.1 dX12_spills_7 (by decide) ?_
  refine lv_icmp_ge (tgt := 63) C.1 C.2.1 dX12_spills_9 (by decide) (fun c5818 => absurd c5818 (by decide)) (fun _ => ?_)
  refine lv_iload C.1 C.2.1 dX12_spills_12 (lv_at hl 0 rfl) ?_
  refine lv_iload_n C.1 C.2.1 dX12_spills_14 rfl (lv_at hl 3 rfl) ?_
  refine lv_iconst (v := (-1)) C.1 C.2.1 dX12_spills_15 (by decide) ?_
  refine k_ixor (v := (-1)) C (by decide) dX12_spills_16 ?_
  refine k_iand (v := 50) C (by decide) dX12_spills_17 ?_
  refine lv_if_ne (tgt := 57) C.1 C.2.1 dX12_spills_18 (by decide) (fun _ => ?_) (fun c5819 => absurd c5819 (by decide))
  refine lv_iinc (v := 51) (lv' := [(4, .int 51), (3, .int 0), (0, .ref h0), (1, .int 0), (2, .int x0)]) C.1 C.2.1 dX12_spills_57 hl (k := 0) rfl (by decide) (by decide) rfl (fun ls hl => ?_)
  refine lv_goto (tgt := 5) C.1 C.2.1 dX12_spills_60 (by decide) ?_
  refine lv_iload C.1 C.2.1 dX12_spills_5 (lv_at hl 0 rfl) ?_
  refine lv_bipush (v := 64) C.1 C.2.1 dX12_spills_7 (by decide) ?_
  refine lv_icmp_ge (tgt := 63) C.1 C.2.1 dX12_spills_9 (by decide) (fun c5820 => absurd c5820 (by decide)) (fun _ => ?_)
  refine lv_iload C.1 C.2.1 dX12_spills_12 (lv_at hl 0 rfl) ?_
  refine lv_iload_n C.1 C.2.1 dX12_spills_14 rfl (lv_at hl 3 rfl) ?_
  refine lv_iconst (v := (-1)) C.1 C.2.1 dX12_spills_15 (by decide) ?_
  refine k_ixor (v := (-1)) C (by decide) dX12_spills_16 ?_
  refine k_iand (v := 51) C (by decide) dX12_spills_17 ?_
  refine lv_if_ne (tgt := 57) C.1 C.2.1 dX12_spills_18 (by decide) (fun _ => ?_) (fun c5821 => absurd c5821 (by decide))
  refine lv_iinc (v := 52) (lv' := [(4, .int 52), (3, .int 0), (0, .ref h0), (1, .int 0), (2, .int x0)]) C.1 C.2.1 dX12_spills_57 hl (k := 0) rfl (by decide) (by decide) rfl (fun ls hl => ?_)
  refine lv_goto (tgt := 5) C.1 C.2.1 dX12_spills_60 (by decide) ?_
  refine lv_iload C.1 C.2.1 dX12_spills_5 (lv_at hl 0 rfl) ?_
  refine lv_bipush (v := 64) C.1 C.2.1 dX12_spills_7 (by decide) ?_
  refine lv_icmp_ge (tgt := 63) C.1 C.2.1 dX12_spills_9 (by decide) (fun c5822 => absurd c5822 (by decide)) (fun _ => ?_)
  refine lv_iload C.1 C.2.1 dX12_spills_12 (lv_at hl 0 rfl) ?_
  refine lv_iload_n C.1 C.2.1 dX12_spills_14 rfl (lv_at hl 3 rfl) ?_
  refine lv_iconst (v := (-1)) C.1 C.2.1 dX12_spills_15 (by decide) ?_
  refine k_ixor (v := (-1)) C (by decide) dX12_spills_16 ?_
  refine k_iand (v := 52) C (by decide) dX12_spills_17 ?_
  refine lv_if_ne (tgt := 57) C.1 C.2.1 dX12_spills_18 (by decide) (fun _ => ?_) (fun c5823 => absurd c5823 (by decide))
  refine lv_iinc (v := 53) (lv' := [(4, .int 53), (3, .int 0), (0, .ref h0), (1, .int 0), (2, .int x0)]) C.1 C.2.1 dX12_spills_57 hl (k := 0) rfl (by decide) (by decide) rfl (fun ls hl => ?_)
  refine lv_goto (tgt := 5) C.1 C.2.1 dX12_spills_60 (by decide) ?_
  refine lv_iload C.1 C.2.1 dX12_spills_5 (lv_at hl 0 rfl) ?_
  refine lv_bipush (v := 64) C.1 C.2.1 dX12_spills_7 (by decide) ?_
  refine lv_icmp_ge (tgt := 63) C.1 C.2.1 dX12_spills_9 (by decide) (fun c5824 => absurd c5824 (by decide)) (fun _ => ?_)
  refine lv_iload C.1 C.2.1 dX12_spills_12 (lv_at hl 0 rfl) ?_
  refine lv_iload_n C.1 C.2.1 dX12_spills_14 rfl (lv_at hl 3 rfl) ?_
  refine lv_iconst (v := (-1)) C.1 C.2.1 dX12_spills_15 (by decide) ?_
  refine k_ixor (v := (-1)) C (by decide) dX12_spills_16 ?_
  refine k_iand (v := 53) C (by decide) dX12_spills_17 ?_
  refine lv_if_ne (tgt := 57) C.1 C.2.1 dX12_spills_18 (by decide) (fun _ => ?_) (fun c5825 => absurd c5825 (by decide))
  refine lv_iinc (v := 54) (lv' := [(4, .int 54), (3, .int 0), (0, .ref h0), (1, .int 0), (2, .int x0)]) C.1 C.2.1 dX12_spills_57 hl (k := 0) rfl (by decide) (by decide) rfl (fun ls hl => ?_)
  refine lv_goto (tgt := 5) C.1 C.2.1 dX12_spills_60 (by decide) ?_
  refine lv_iload C.1 C.2.1 dX12_spills_5 (lv_at hl 0 rfl) ?_
  refine lv_bipush (v := 64) C.1 C.2.1 dX12_spills_7 (by decide) ?_
  refine lv_icmp_ge (tgt := 63) C.1 C.2.1 dX12_spills_9 (by decide) (fun c5826 => absurd c5826 (by decide)) (fun _ => ?_)
  refine lv_iload C.1 C.2.1 dX12_spills_12 (lv_at hl 0 rfl) ?_
  refine lv_iload_n C.1 C.2.1 dX12_spills_14 rfl (lv_at hl 3 rfl) ?_
  refine lv_iconst (v := (-1)) C.1 C.2.1 dX12_spills_15 (by decide) ?_
  refine k_ixor (v := (-1)) C (by decide) dX12_spills_16 ?_
  refine k_iand (v := 54) C (by decide) dX12_spills_17 ?_
  refine lv_if_ne (tgt := 57) C.1 C.2.1 dX12_spills_18 (by decide) (fun _ => ?_) (fun c5827 => absurd c5827 (by decide))
  refine lv_iinc (v := 55) (lv' := [(4, .int 55), (3, .int 0), (0, .ref h0), (1, .int 0), (2, .int x0)]) C.1 C.2.1 dX12_spills_57 hl (k := 0) rfl (by decide) (by decide) rfl (fun ls hl => ?_)
  refine lv_goto (tgt := 5) C.1 C.2.1 dX12_spills_60 (by decide) ?_
  refine lv_iload C.1 C.2.1 dX12_spills_5 (lv_at hl 0 rfl) ?_
  refine lv_bipush (v := 64) C.1 C.2.1 dX12_spills_7 (by decide) ?_
  refine lv_icmp_ge (tgt := 63) C.1 C.2.1 dX12_spills_9 (by decide) (fun c5828 => absurd c5828 (by decide)) (fun _ => ?_)
  refine lv_iload C.1 C.2.1 dX12_spills_12 (lv_at hl 0 rfl) ?_
  refine lv_iload_n C.1 C.2.1 dX12_spills_14 rfl (lv_at hl 3 rfl) ?_
  refine lv_iconst (v := (-1)) C.1 C.2.1 dX12_spills_15 (by decide) ?_
  refine k_ixor (v := (-1)) C (by decide) dX12_spills_16 ?_
  refine k_iand (v := 55) C (by decide) dX12_spills_17 ?_
  refine lv_if_ne (tgt := 57) C.1 C.2.1 dX12_spills_18 (by decide) (fun _ => ?_) (fun c5829 => absurd c5829 (by decide))
  refine lv_iinc (v := 56) (lv' := [(4, .int 56), (3, .int 0), (0, .ref h0), (1, .int 0), (2, .int x0)]) C.1 C.2.1 dX12_spills_57 hl (k := 0) rfl (by decide) (by decide) rfl (fun ls hl => ?_)
  refine lv_goto (tgt := 5) C.1 C.2.1 dX12_spills_60 (by decide) ?_
  refine lv_iload C.1 C.2.1 dX12_spills_5 (lv_at hl 0 rfl) ?_
  refine lv_bipush (v := 64) C.1 C.2.1 dX12_spills_7 (by decide) ?_
  refine lv_icmp_ge (tgt := 63) C.1 C.2.1 dX12_spills_9 (by decide) (fun c5830 => absurd c5830 (by decide)) (fun _ => ?_)
  refine lv_iload C.1 C.2.1 dX12_spills_12 (lv_at hl 0 rfl) ?_
  refine lv_iload_n C.1 C.2.1 dX12_spills_14 rfl (lv_at hl 3 rfl) ?_
  refine lv_iconst (v := (-1)) C.1 C.2.1 dX12_spills_15 (by decide) ?_
  refine k_ixor (v := (-1)) C (by decide) dX12_spills_16 ?_
  refine k_iand (v := 56) C (by decide) dX12_spills_17 ?_
  refine lv_if_ne (tgt := 57) C.1 C.2.1 dX12_spills_18 (by decide) (fun _ => ?_) (fun c5831 => absurd c5831 (by decide))
  refine lv_iinc (v := 57) (lv' := [(4, .int 57), (3, .int 0), (0, .ref h0), (1, .int 0), (2, .int x0)]) C.1 C.2.1 dX12_spills_57 hl (k := 0) rfl (by decide) (by decide) rfl (fun ls hl => ?_)
  refine lv_goto (tgt := 5) C.1 C.2.1 dX12_spills_60 (by decide) ?_
  refine lv_iload C.1 C.2.1 dX12_spills_5 (lv_at hl 0 rfl) ?_
  refine lv_bipush (v := 64) C.1 C.2.1 dX12_spills_7 (by decide) ?_
  refine lv_icmp_ge (tgt := 63) C.1 C.2.1 dX12_spills_9 (by decide) (fun c5832 => absurd c5832 (by decide)) (fun _ => ?_)
  refine lv_iload C.1 C.2.1 dX12_spills_12 (lv_at hl 0 rfl) ?_
  refine lv_iload_n C.1 C.2.1 dX12_spills_14 rfl (lv_at hl 3 rfl) ?_
  refine lv_iconst (v := (-1)) C.1 C.2.1 dX12_spills_15 (by decide) ?_
  refine k_ixor (v := (-1)) C (by decide) dX12_spills_16 ?_
  refine k_iand (v := 57) C (by decide) dX12_spills_17 ?_
  refine lv_if_ne (tgt := 57) C.1 C.2.1 dX12_spills_18 (by decide) (fun _ => ?_) (fun c5833 => absurd c5833 (by decide))
  refine lv_iinc (v := 58) (lv' := [(4, .int 58), (3, .int 0), (0, .ref h0), (1, .int 0), (2, .int x0)]) C.1 C.2.1 dX12_spills_57 hl (k := 0) rfl (by decide) (by decide) rfl (fun ls hl => ?_)
  refine lv_goto (tgt := 5) C.1 C.2.1 dX12_spills_60 (by decide) ?_
  refine lv_iload C.1 C.2.1 dX12_spills_5 (lv_at hl 0 rfl) ?_
  refine lv_bipush (v := 64) C.1 C.2.1 dX12_spills_7 (by decide) ?_
  refine lv_icmp_ge (tgt := 63) C.1 C.2.1 dX12_spills_9 (by decide) (fun c5834 => absurd c5834 (by decide)) (fun _ => ?_)
  refine lv_iload C.1 C.2.1 dX12_spills_12 (lv_at hl 0 rfl) ?_
  refine lv_iload_n C.1 C.2.1 dX12_spills_14 rfl (lv_at hl 3 rfl) ?_
  refine lv_iconst (v := (-1)) C.1 C.2.1 dX12_spills_15 (by decide) ?_
  refine k_ixor (v := (-1)) C (by decide) dX12_spills_16 ?_
  refine k_iand (v := 58) C (by decide) dX12_spills_17 ?_
  refine lv_if_ne (tgt := 57) C.1 C.2.1 dX12_spills_18 (by decide) (fun _ => ?_) (fun c5835 => absurd c5835 (by decide))
  refine lv_iinc (v := 59) (lv' := [(4, .int 59), (3, .int 0), (0, .ref h0), (1, .int 0), (2, .int x0)]) C.1 C.2.1 dX12_spills_57 hl (k := 0) rfl (by decide) (by decide) rfl (fun ls hl => ?_)
  refine lv_goto (tgt := 5) C.1 C.2.1 dX12_spills_60 (by decide) ?_
  refine lv_iload C.1 C.2.1 dX12_spills_5 (lv_at hl 0 rfl) ?_
  refine lv_bipush (v := 64) C.1 C.2.1 dX12_spills_7 (by decide) ?_
  refine lv_icmp_ge (tgt := 63) C.1 C.2.1 dX12_spills_9 (by decide) (fun c5836 => absurd c5836 (by decide)) (fun _ => ?_)
  refine lv_iload C.1 C.2.1 dX12_spills_12 (lv_at hl 0 rfl) ?_
  refine lv_iload_n C.1 C.2.1 dX12_spills_14 rfl (lv_at hl 3 rfl) ?_
  refine lv_iconst (v := (-1)) C.1 C.2.1 dX12_spills_15 (by decide) ?_
  refine k_ixor (v := (-1)) C (by decide) dX12_spills_16 ?_
  refine k_iand (v := 59) C (by decide) dX12_spills_17 ?_
  refine lv_if_ne (tgt := 57) C.1 C.2.1 dX12_spills_18 (by decide) (fun _ => ?_) (fun c5837 => absurd c5837 (by decide))
  refine lv_iinc (v := 60) (lv' := [(4, .int 60), (3, .int 0), (0, .ref h0), (1, .int 0), (2, .int x0)]) C.1 C.2.1 dX12_spills_57 hl (k := 0) rfl (by decide) (by decide) rfl (fun ls hl => ?_)
  refine lv_goto (tgt := 5) C.1 C.2.1 dX12_spills_60 (by decide) ?_
  refine lv_iload C.1 C.2.1 dX12_spills_5 (lv_at hl 0 rfl) ?_
  refine lv_bipush (v := 64) C.1 C.2.1 dX12_spills_7 (by decide) ?_
  refine lv_icmp_ge (tgt := 63) C.1 C.2.1 dX12_spills_9 (by decide) (fun c5838 => absurd c5838 (by decide)) (fun _ => ?_)
  refine lv_iload C.1 C.2.1 dX12_spills_12 (lv_at hl 0 rfl) ?_
  refine lv_iload_n C.1 C.2.1 dX12_spills_14 rfl (lv_at hl 3 rfl) ?_
  refine lv_iconst (v := (-1)) C.1 C.2.1 dX12_spills_15 (by decide) ?_
  refine k_ixor (v := (-1)) C (by decide) dX12_spills_16 ?_
  refine k_iand (v := 60) C (by decide) dX12_spills_17 ?_
  refine lv_if_ne (tgt := 57) C.1 C.2.1 dX12_spills_18 (by decide) (fun _ => ?_) (fun c5839 => absurd c5839 (by decide))
  refine lv_iinc (v := 61) (lv' := [(4, .int 61), (3, .int 0), (0, .ref h0), (1, .int 0), (2, .int x0)]) C.1 C.2.1 dX12_spills_57 hl (k := 0) rfl (by decide) (by decide) rfl (fun ls hl => ?_)
  refine lv_goto (tgt := 5) C.1 C.2.1 dX12_spills_60 (by decide) ?_
  refine lv_iload C.1 C.2.1 dX12_spills_5 (lv_at hl 0 rfl) ?_
  refine lv_bipush (v := 64) C.1 C.2.1 dX12_spills_7 (by decide) ?_
  refine lv_icmp_ge (tgt := 63) C.1 C.2.1 dX12_spills_9 (by decide) (fun c5840 => absurd c5840 (by decide)) (fun _ => ?_)
  refine lv_iload C.1 C.2.1 dX12_spills_12 (lv_at hl 0 rfl) ?_
  refine lv_iload_n C.1 C.2.1 dX12_spills_14 rfl (lv_at hl 3 rfl) ?_
  refine lv_iconst (v := (-1)) C.1 C.2.1 dX12_spills_15 (by decide) ?_
  refine k_ixor (v := (-1)) C (by decide) dX12_spills_16 ?_
  refine k_iand (v := 61) C (by decide) dX12_spills_17 ?_
  refine lv_if_ne (tgt := 57) C.1 C.2.1 dX12_spills_18 (by decide) (fun _ => ?_) (fun c5841 => absurd c5841 (by decide))
  refine lv_iinc (v := 62) (lv' := [(4, .int 62), (3, .int 0), (0, .ref h0), (1, .int 0), (2, .int x0)]) C.1 C.2.1 dX12_spills_57 hl (k := 0) rfl (by decide) (by decide) rfl (fun ls hl => ?_)
  refine lv_goto (tgt := 5) C.1 C.2.1 dX12_spills_60 (by decide) ?_
  refine lv_iload C.1 C.2.1 dX12_spills_5 (lv_at hl 0 rfl) ?_
  refine lv_bipush (v := 64) C.1 C.2.1 dX12_spills_7 (by decide) ?_
  refine lv_icmp_ge (tgt := 63) C.1 C.2.1 dX12_spills_9 (by decide) (fun c5842 => absurd c5842 (by decide)) (fun _ => ?_)
  refine lv_iload C.1 C.2.1 dX12_spills_12 (lv_at hl 0 rfl) ?_
  refine lv_iload_n C.1 C.2.1 dX12_spills_14 rfl (lv_at hl 3 rfl) ?_
  refine lv_iconst (v := (-1)) C.1 C.2.1 dX12_spills_15 (by decide) ?_
  refine k_ixor (v := (-1)) C (by decide) dX12_spills_16 ?_
  refine k_iand (v := 62) C (by decide) dX12_spills_17 ?_
  refine lv_if_ne (tgt := 57) C.1 C.2.1 dX12_spills_18 (by decide) (fun _ => ?_) (fun c5843 => absurd c5843 (by decide))
  refine lv_iinc (v := 63) (lv' := [(4, .int 63), (3, .int 0), (0, .ref h0), (1, .int 0), (2, .int x0)]) C.1 C.2.1 dX12_spills_57 hl (k := 0) rfl (by decide) (by decide) rfl (fun ls hl => ?_)
  refine lv_goto (tgt := 5) C.1 C.2.1 dX12_spills_60 (by decide) ?_
  refine lv_iload C.1 C.2.1 dX12_spills_5 (lv_at hl 0 rfl) ?_
  refine lv_bipush (v := 64) C.1 C.2.1 dX12_spills_7 (by decide) ?_
  refine lv_icmp_ge (tgt := 63) C.1 C.2.1 dX12_spills_9 (by decide) (fun c5844 => absurd c5844 (by decide)) (fun _ => ?_)
  refine lv_iload C.1 C.2.1 dX12_spills_12 (lv_at hl 0 rfl) ?_
  refine lv_iload_n C.1 C.2.1 dX12_spills_14 rfl (lv_at hl 3 rfl) ?_
  refine lv_iconst (v := (-1)) C.1 C.2.1 dX12_spills_15 (by decide) ?_
  refine k_ixor (v := (-1)) C (by decide) dX12_spills_16 ?_
  refine k_iand (v := 63) C (by decide) dX12_spills_17 ?_
  refine lv_if_ne (tgt := 57) C.1 C.2.1 dX12_spills_18 (by decide) (fun _ => ?_) (fun c5845 => absurd c5845 (by decide))
  refine lv_iinc (v := 64) (lv' := [(4, .int 64), (3, .int 0), (0, .ref h0), (1, .int 0), (2, .int x0)]) C.1 C.2.1 dX12_spills_57 hl (k := 0) rfl (by decide) (by decide) rfl (fun ls hl => ?_)
  refine lv_goto (tgt := 5) C.1 C.2.1 dX12_spills_60 (by decide) ?_
  refine lv_iload C.1 C.2.1 dX12_spills_5 (lv_at hl 0 rfl) ?_
  refine lv_bipush (v := 64) C.1 C.2.1 dX12_spills_7 (by decide) ?_
  refine lv_icmp_ge (tgt := 63) C.1 C.2.1 dX12_spills_9 (by decide) (fun _ => ?_) (fun c5846 => absurd c5846 (by decide))
  refine lv_iload_n C.1 C.2.1 dX12_spills_63 rfl (lv_at hl 1 rfl) ?_
  exact k_zret C hr hlk rfl Wd () rfl [0, 1] rfl (by decide) [] rfl (by decide) (by decide) dX12_spills_64
set_option maxHeartbeats 4000000 in
set_option maxRecDepth 100000 in
theorem kcX12_registers (l : Launch) (D : va_G) (h0 h1 h2 h3 h4 h5 h6 h7 h8 h9 h10 h11 h12 h13 h14 h15 h16 h17 h18 h19 h20 h21 h22 h23 h24 h25 : Nat) (x0 x1 : Int32) (a1 a23 a24 : ClassId) (sz : Nat)  : Met l yX12_registers (Cond.code yX12_registers cX12_registers 5 (some .int) :: gG) { frames := 4, cells := 0, slots := 0, locals := 133 } (cPre D [(a1, .int), (a23, .int), (a24, .int)] [(h0, .inr (12, [.ref h1, .ref h2, .ref h3, .ref h4, .int 0, .int 0, .ref h5, .int 0, .int 0, .int 0, .int 0, .int 0, .int 0, .int 0, .int 0, .int 0, .int 0, .int 0, .int 0, .int 0, .int (-1), .int 0, .int 0, .int 0, .ref h6, .ref h7, .ref h8, .ref h9, .ref h10, .ref h11, .int 0, .int 0, .int 0, .int 0, .ref h12, .ref h13, .ref h14, .int 0, .int 0, .int 0, .int 0, .ref h15, .ref h16, .int 0, .ref h17, .ref h18, .int 0, .ref h19, .int 0, .ref h20, .ref h21, .ref h22, .int 0, .ref h23, .ref h24, .ref h25])), (h2, .inl (a1, 6, .inl (fun _ => 0))), (h24, .inl (a23, 6, .inl (fun _ => 0))), (h25, .inl (a24, 6, .inl (fun _ => 0)))] sz [.ref h0, .int x0, .int x1]) (va_Qi (fun (r : Int32) (_ : Unit) => (x0 < (0 : Int32) ∧ r = (-1)) ∨ (¬ x0 < (0 : Int32) ∧ (5 : Int32) < x0 ∧ r = (-1)) ∨ (¬ x0 < (0 : Int32) ∧ ¬ (5 : Int32) < x0 ∧ x1 = (0 : Int32) ∧ r = 0) ∨ (¬ x0 < (0 : Int32) ∧ ¬ (5 : Int32) < x0 ∧ ¬ x1 = (0 : Int32) ∧ x1 < (10 : Int32) ∧ x1 < (20 : Int32) ∧ r = (-1)) ∨ (¬ x0 < (0 : Int32) ∧ ¬ (5 : Int32) < x0 ∧ ¬ x1 = (0 : Int32) ∧ ¬ x1 < (10 : Int32) ∧ (15 : Int32) < x1 ∧ x1 < (20 : Int32) ∧ r = (-1)) ∨ (¬ x0 < (0 : Int32) ∧ ¬ (5 : Int32) < x0 ∧ ¬ x1 = (0 : Int32) ∧ ¬ x1 < (10 : Int32) ∧ (15 : Int32) < x1 ∧ ¬ x1 < (20 : Int32) ∧ (26 : Int32) < x1 ∧ r = (-1)) ∨ (¬ x0 < (0 : Int32) ∧ ¬ (5 : Int32) < x0 ∧ ¬ x1 = (0 : Int32) ∧ ¬ x1 < (10 : Int32) ∧ (15 : Int32) < x1 ∧ ¬ x1 < (20 : Int32) ∧ ¬ (26 : Int32) < x1 ∧ r = 0) ∨ (¬ x0 < (0 : Int32) ∧ ¬ (5 : Int32) < x0 ∧ ¬ x1 = (0 : Int32) ∧ ¬ x1 < (10 : Int32) ∧ ¬ (15 : Int32) < x1 ∧ r = (-1))) (fun u t => cB D (va_A [(h0, .inr (12, [.ref h1, .ref h2, .ref h3, .ref h4, .int 0, .int 0, .ref h5, .int 0, .int 0, .int 0, .int 0, .int 0, .int 0, .int 0, .int 0, .int 0, .int 0, .int 0, .int 0, .int 0, .int (-1), .int 0, .int 0, .int 0, .ref h6, .ref h7, .ref h8, .ref h9, .ref h10, .ref h11, .int 0, .int 0, .int 0, .int 0, .ref h12, .ref h13, .ref h14, .int 0, .int 0, .int 0, .int 0, .ref h15, .ref h16, .int 0, .ref h17, .ref h18, .int 0, .ref h19, .int 0, .ref h20, .ref h21, .ref h22, .int 0, .ref h23, .ref h24, .ref h25])), (h2, .inl (a1, 6, .inl (fun _ => 0))), (h24, .inl (a23, 6, .inl (fun _ => 0))), (h25, .inl (a24, 6, .inl (fun _ => 0)))] sz) ((fun (_ : Unit) => ([] : List (ClassId × FieldType))) u) ((fun (_ : Unit) => ([] : va_W)) u) t) (va_A [(h0, .inr (12, [.ref h1, .ref h2, .ref h3, .ref h4, .int 0, .int 0, .ref h5, .int 0, .int 0, .int 0, .int 0, .int 0, .int 0, .int 0, .int 0, .int 0, .int 0, .int 0, .int 0, .int 0, .int (-1), .int 0, .int 0, .int 0, .ref h6, .ref h7, .ref h8, .ref h9, .ref h10, .ref h11, .int 0, .int 0, .int 0, .int 0, .ref h12, .ref h13, .ref h14, .int 0, .int 0, .int 0, .int 0, .ref h15, .ref h16, .int 0, .ref h17, .ref h18, .int 0, .ref h19, .int 0, .ref h20, .ref h21, .ref h22, .int 0, .ref h23, .ref h24, .ref h25])), (h2, .inl (a1, 6, .inl (fun _ => 0))), (h24, .inl (a23, 6, .inl (fun _ => 0))), (h25, .inl (a24, 6, .inl (fun _ => 0)))] sz)) 0 0 (va_A [(h0, .inr (12, [.ref h1, .ref h2, .ref h3, .ref h4, .int 0, .int 0, .ref h5, .int 0, .int 0, .int 0, .int 0, .int 0, .int 0, .int 0, .int 0, .int 0, .int 0, .int 0, .int 0, .int 0, .int (-1), .int 0, .int 0, .int 0, .ref h6, .ref h7, .ref h8, .ref h9, .ref h10, .ref h11, .int 0, .int 0, .int 0, .int 0, .ref h12, .ref h13, .ref h14, .int 0, .int 0, .int 0, .int 0, .ref h15, .ref h16, .int 0, .ref h17, .ref h18, .int 0, .ref h19, .int 0, .ref h20, .ref h21, .ref h22, .int 0, .ref h23, .ref h24, .ref h25])), (h2, .inl (a1, 6, .inl (fun _ => 0))), (h24, .inl (a23, 6, .inl (fun _ => 0))), (h25, .inl (a24, 6, .inl (fun _ => 0)))] sz) := by
  refine Met.ofW (cc := cX12_registers) (maxL := 5) (ret := (some .int)) (by decide) rfl ?_
  intro p e s m args below meth c s₁ B hml hv
  obtain ⟨rfl, aks, rfl, Wd⟩ := k_enter hv
  have C : CallFix p m c cX12_registers 5 s _ gG RX12 := ⟨B.exec, B.bytes, hml, findClass_of_methodNamed B.named, fun w h => atoms_spec (ws := Cond.code yX12_registers cX12_registers 5 (some .int) :: gG) B.pre w (List.mem_cons_of_mem _ h)⟩
  have hr := B.returns
  have hlk := B.notSynchronized
  generalize va_A [(h0, .inr (12, [.ref h1, .ref h2, .ref h3, .ref h4, .int 0, .int 0, .ref h5, .int 0, .int 0, .int 0, .int 0, .int 0, .int 0, .int 0, .int 0, .int 0, .int 0, .int 0, .int 0, .int 0, .int (-1), .int 0, .int 0, .int 0, .ref h6, .ref h7, .ref h8, .ref h9, .ref h10, .ref h11, .int 0, .int 0, .int 0, .int 0, .ref h12, .ref h13, .ref h14, .int 0, .int 0, .int 0, .int 0, .ref h15, .ref h16, .int 0, .ref h17, .ref h18, .int 0, .ref h19, .int 0, .ref h20, .ref h21, .ref h22, .int 0, .ref h23, .ref h24, .ref h25])), (h2, .inl (a1, 6, .inl (fun _ => 0))), (h24, .inl (a23, 6, .inl (fun _ => 0))), (h25, .inl (a24, 6, .inl (fun _ => 0)))] s.heap.size = A at Wd ⊢
  refine k_locals (Nat.le_of_ble_eq_true rfl) [(0, .ref h0), (1, .int x0), (2, .int x1)] rfl (fun ls hl => ?_)
  refine lv_iload_n C.1 C.2.1 dX12_registers_0 rfl (lv_at hl 1 rfl) ?_
  refine k_pi (k_runS (rest := []) C aks Wd cs_X12_249 (kcX12_isSlot l D x0 _ ) [] rfl (by decide) [] rfl rfl rfl ⟨(Nat.le_of_ble_eq_true rfl), (Nat.le_of_ble_eq_true rfl)⟩ hl.1 rfl rfl (Nat.le_of_ble_eq_true rfl) ⟨(Nat.le_of_ble_eq_true rfl), (Nat.le_of_ble_eq_true rfl)⟩ dX12_registers_1) (fun r w5854 => ?_)
  rcases w5854 with ⟨c5855, rfl⟩ | ⟨c5856, c5857, rfl⟩ | ⟨c5858, c5859, rfl⟩
  · refine lv_if_eq (tgt := 33) C.1 C.2.1 dX12_registers_4 (by decide) (fun _ => ?_) (fun c5860 => absurd c5860 (by decide))
    refine lv_iconst (v := (-1)) C.1 C.2.1 dX12_registers_33 (by decide) ?_
    exact k_zret C hr hlk rfl Wd () (Or.inl (⟨c5855, rfl⟩)) [] rfl (by decide) [] rfl (by decide) (by decide) dX12_registers_34
  · refine lv_if_eq (tgt := 33) C.1 C.2.1 dX12_registers_4 (by decide) (fun _ => ?_) (fun c5861 => absurd c5861 (by decide))
    refine lv_iconst (v := (-1)) C.1 C.2.1 dX12_registers_33 (by decide) ?_
    exact k_zret C hr hlk rfl Wd () (Or.inr (Or.inl (⟨c5856, c5857, rfl⟩))) [] rfl (by decide) [] rfl (by decide) (by decide) dX12_registers_34
  · refine lv_if_eq (tgt := 33) C.1 C.2.1 dX12_registers_4 (by decide) (fun c5862 => absurd c5862 (by decide)) (fun _ => ?_)
    refine lv_iload_n C.1 C.2.1 dX12_registers_7 rfl (lv_at hl 2 rfl) ?_
    refine lv_if_eq (tgt := 35) C.1 C.2.1 dX12_registers_8 (by decide) (fun c5863 => ?_) (fun c5863 => ?_)
    · subst c5863
      refine lv_aload_n C.1 C.2.1 dX12_registers_35 rfl (lv_at hl 0 rfl) ?_
      refine lv_iload_n C.1 C.2.1 dX12_registers_36 rfl (lv_at hl 1 rfl) ?_
      refine k_cv Wd [0, 1, 2] [3] rfl (wr := [(h25, .inl (a24, 6, .inl (fun _ => 0)))]) rfl (by decide) (by decide) (cells' := 0) (slots' := 0) (by decide) (by decide) (k_runV (rest := []) C aks Wd cs_X12_472 (kcX12_clashIn l D h0 h1 h2 h3 h4 h5 h6 h7 h8 h9 h10 h11 h12 h13 h14 h15 h16 h17 h18 h19 h20 h21 h22 h23 h24 h25 x0 a1 a23 _ c5858 c5859) [0, 1, 2] rfl (by decide) [0, 1] rfl 0 12 rfl rfl rfl rfl rfl ⟨(Nat.le_of_ble_eq_true rfl), (Nat.le_of_ble_eq_true rfl)⟩ hl.1 rfl rfl (Nat.le_of_ble_eq_true rfl) ⟨(Nat.le_of_ble_eq_true rfl), (Nat.le_of_ble_eq_true rfl)⟩ dX12_registers_37) (fun _ H locs w5864 Wd => ?_)
      have Wd : wX D [(a1, .int), (a23, .int), (a24, .int)] s [(h25, .inl (a24, 6, .inl (fun _ => 0))), (h0, .inr (12, [.ref h1, .ref h2, .ref h3, .ref h4, .int 0, .int 0, .ref h5, .int 0, .int 0, .int 0, .int 0, .int 0, .int 0, .int 0, .int 0, .int 0, .int 0, .int 0, .int 0, .int 0, .int (-1), .int 0, .int 0, .int 0, .ref h6, .ref h7, .ref h8, .ref h9, .ref h10, .ref h11, .int 0, .int 0, .int 0, .int 0, .ref h12, .ref h13, .ref h14, .int 0, .int 0, .int 0, .int 0, .ref h15, .ref h16, .int 0, .ref h17, .ref h18, .int 0, .ref h19, .int 0, .ref h20, .ref h21, .ref h22, .int 0, .ref h23, .ref h24, .ref h25])), (h2, .inl (a1, 6, .inl (fun _ => 0))), (h24, .inl (a23, 6, .inl (fun _ => 0)))] _ A s.heap _ := Wd
      refine lv_aload_n C.1 C.2.1 dX12_registers_40 rfl (lv_at hl 0 rfl) ?_
      refine k_pi (k_runV (rest := []) C aks Wd cs_X12_475 (kcX12_inRow l D h0 h1 h2 h3 h4 h5 h6 h7 h8 h9 h10 h11 h12 h13 h14 h15 h16 h17 h18 h19 h20 h21 h22 h23 h24 h25 _ ) [1] rfl (by decide) [] rfl 1 12 rfl rfl rfl rfl rfl ⟨(Nat.le_of_ble_eq_true rfl), (Nat.le_of_ble_eq_true rfl)⟩ hl.1 rfl rfl (Nat.le_of_ble_eq_true rfl) ⟨(Nat.le_of_ble_eq_true rfl), (Nat.le_of_ble_eq_true rfl)⟩ dX12_registers_41) (fun r w5865 => ?_)
      obtain rfl := w5865
      refine lv_istore_n (lv' := [(3, .int 0), (0, .ref h0), (1, .int x0), (2, .int 0)]) C.1 C.2.1 dX12_registers_44 rfl hl (by decide) rfl (fun ls hl => ?_)
      refine lv_iload_n C.1 C.2.1 dX12_registers_45 rfl (lv_at hl 3 rfl) ?_
      refine lv_bipush (v := 15) C.1 C.2.1 dX12_registers_46 (by decide) ?_
      refine lv_icmp_le (tgt := 61) C.1 C.2.1 dX12_registers_48 (by decide) (fun _ => ?_) (fun c5866 => absurd c5866 (by decide))
      refine lv_aload_n C.1 C.2.1 dX12_registers_61 rfl (lv_at hl 1 rfl) ?_
      refine lv_iload_n C.1 C.2.1 dX12_registers_62 rfl (lv_at hl 0 rfl) ?_
      refine k_ci Wd [1, 0] [2, 3] rfl (wr := [(h2, .inl (a1, 6, .inl (fun _ => 0))), (h24, .inl (a23, 6, .inl (fun _ => 0)))]) rfl (by decide) (by decide) (cells' := 0) (slots' := 0) (by decide) (by decide) (k_runV (rest := []) C aks Wd cs_X12_481 (kcX12_enough l D h0 h1 h2 h3 h4 h5 h6 h7 h8 h9 h10 h11 h12 h13 h14 h15 h16 h17 h18 h19 h20 h21 h22 h23 h24 h25 a24 _ ) [1, 0] rfl (by decide) [2] rfl 1 12 rfl rfl rfl rfl rfl ⟨(Nat.le_of_ble_eq_true rfl), (Nat.le_of_ble_eq_true rfl)⟩ hl.1 rfl rfl (Nat.le_of_ble_eq_true rfl) ⟨(Nat.le_of_ble_eq_true rfl), (Nat.le_of_ble_eq_true rfl)⟩ dX12_registers_63) (fun r _ H locs w5867 Wd => ?_)
      have Wd : wX D [(a1, .int), (a23, .int), (a24, .int)] s [(h2, .inl (a1, 6, .inl (fun _ => 0))), (h24, .inl (a23, 6, .inl (fun _ => 0))), (h0, .inr (12, [.ref h1, .ref h2, .ref h3, .ref h4, .int 0, .int 0, .ref h5, .int 0, .int 0, .int 0, .int 0, .int 0, .int 0, .int 0, .int 0, .int 0, .int 0, .int 0, .int 0, .int 0, .int (-1), .int 0, .int 0, .int 0, .ref h6, .ref h7, .ref h8, .ref h9, .ref h10, .ref h11, .int 0, .int 0, .int 0, .int 0, .ref h12, .ref h13, .ref h14, .int 0, .int 0, .int 0, .int 0, .ref h15, .ref h16, .int 0, .ref h17, .ref h18, .int 0, .ref h19, .int 0, .ref h20, .ref h21, .ref h22, .int 0, .ref h23, .ref h24, .ref h25])), (h25, .inl (a24, 6, .inl (upd (upd (upd (upd (upd (upd (fun _ => 0) 5 (-1)) 4 (-1)) 3 (-1)) 2 (-1)) 1 (-1)) 0 (-1))))] _ A s.heap _ := Wd
      obtain rfl := w5867
      refine lv_istore (lv' := [(4, .int 0), (3, .int 0), (0, .ref h0), (1, .int x0), (2, .int 0)]) C.1 C.2.1 dX12_registers_66 hl (by decide) rfl (fun ls hl => ?_)
      refine lv_iload_n C.1 C.2.1 dX12_registers_68 rfl (lv_at hl 4 rfl) ?_
      refine lv_if_ne (tgt := 77) C.1 C.2.1 dX12_registers_69 (by decide) (fun c5868 => absurd c5868 (by decide)) (fun _ => ?_)
      refine lv_iload C.1 C.2.1 dX12_registers_72 (lv_at hl 0 rfl) ?_
      refine lv_goto (tgt := 86) C.1 C.2.1 dX12_registers_74 (by decide) ?_
      exact k_zret C hr hlk rfl Wd () (Or.inr (Or.inr (Or.inl (⟨c5858, c5859, rfl, rfl⟩)))) [] rfl (by decide) [] rfl (by decide) (by decide) dX12_registers_86
    · refine lv_iload_n C.1 C.2.1 dX12_registers_11 rfl (lv_at hl 2 rfl) ?_
      refine lv_bipush (v := 10) C.1 C.2.1 dX12_registers_12 (by decide) ?_
      refine lv_bipush (v := 15) C.1 C.2.1 dX12_registers_14 (by decide) ?_
      refine k_pi (k_runS (rest := []) C aks Wd cs_X12_90 (kcX12_isIn l D x1 10 15 _ ) [] rfl (by decide) [] rfl rfl rfl ⟨(Nat.le_of_ble_eq_true rfl), (Nat.le_of_ble_eq_true rfl)⟩ hl.1 rfl rfl (Nat.le_of_ble_eq_true rfl) ⟨(Nat.le_of_ble_eq_true rfl), (Nat.le_of_ble_eq_true rfl)⟩ dX12_registers_16) (fun r w5869 => ?_)
      rcases w5869 with ⟨c5870, rfl⟩ | ⟨c5871, c5872, rfl⟩ | ⟨c5873, c5874, rfl⟩
      · refine lv_if_ne (tgt := 35) C.1 C.2.1 dX12_registers_19 (by decide) (fun c5875 => absurd c5875 (by decide)) (fun _ => ?_)
        refine lv_iload_n C.1 C.2.1 dX12_registers_22 rfl (lv_at hl 2 rfl) ?_
        refine lv_bipush (v := 20) C.1 C.2.1 dX12_registers_23 (by decide) ?_
        refine lv_bipush (v := 26) C.1 C.2.1 dX12_registers_25 (by decide) ?_
        refine k_pi (k_runS (rest := []) C aks Wd cs_X12_90 (kcX12_isIn l D x1 20 26 _ ) [] rfl (by decide) [] rfl rfl rfl ⟨(Nat.le_of_ble_eq_true rfl), (Nat.le_of_ble_eq_true rfl)⟩ hl.1 rfl rfl (Nat.le_of_ble_eq_true rfl) ⟨(Nat.le_of_ble_eq_true rfl), (Nat.le_of_ble_eq_true rfl)⟩ dX12_registers_27) (fun r w5876 => ?_)
        rcases w5876 with ⟨c5877, rfl⟩ | ⟨c5878, c5879, rfl⟩ | ⟨c5880, c5881, rfl⟩
        · refine lv_if_ne (tgt := 35) C.1 C.2.1 dX12_registers_30 (by decide) (fun c5882 => absurd c5882 (by decide)) (fun _ => ?_)
          refine lv_iconst (v := (-1)) C.1 C.2.1 dX12_registers_33 (by decide) ?_
          exact k_zret C hr hlk rfl Wd () (Or.inr (Or.inr (Or.inr (Or.inl (⟨c5858, c5859, c5863, c5870, c5877, rfl⟩))))) [] rfl (by decide) [] rfl (by decide) (by decide) dX12_registers_34
        · exact False.elim (by have z0 := kz_ne c5863; have z1 := kz_lt c5870; have z2 := kz_nlt c5878; have t0 : (0 : Int32).toInt = 0 := (by decide); have t10 : (10 : Int32).toInt = 10 := (by decide); have t20 : (20 : Int32).toInt = 20 := (by decide); omega)
        · exact False.elim (by have z0 := kz_ne c5863; have z1 := kz_lt c5870; have z2 := kz_nlt c5880; have t0 : (0 : Int32).toInt = 0 := (by decide); have t10 : (10 : Int32).toInt = 10 := (by decide); have t20 : (20 : Int32).toInt = 20 := (by decide); omega)
      · refine lv_if_ne (tgt := 35) C.1 C.2.1 dX12_registers_19 (by decide) (fun c5883 => absurd c5883 (by decide)) (fun _ => ?_)
        refine lv_iload_n C.1 C.2.1 dX12_registers_22 rfl (lv_at hl 2 rfl) ?_
        refine lv_bipush (v := 20) C.1 C.2.1 dX12_registers_23 (by decide) ?_
        refine lv_bipush (v := 26) C.1 C.2.1 dX12_registers_25 (by decide) ?_
        refine k_pi (k_runS (rest := []) C aks Wd cs_X12_90 (kcX12_isIn l D x1 20 26 _ ) [] rfl (by decide) [] rfl rfl rfl ⟨(Nat.le_of_ble_eq_true rfl), (Nat.le_of_ble_eq_true rfl)⟩ hl.1 rfl rfl (Nat.le_of_ble_eq_true rfl) ⟨(Nat.le_of_ble_eq_true rfl), (Nat.le_of_ble_eq_true rfl)⟩ dX12_registers_27) (fun r w5884 => ?_)
        rcases w5884 with ⟨c5885, rfl⟩ | ⟨c5886, c5887, rfl⟩ | ⟨c5888, c5889, rfl⟩
        · refine lv_if_ne (tgt := 35) C.1 C.2.1 dX12_registers_30 (by decide) (fun c5890 => absurd c5890 (by decide)) (fun _ => ?_)
          refine lv_iconst (v := (-1)) C.1 C.2.1 dX12_registers_33 (by decide) ?_
          exact k_zret C hr hlk rfl Wd () (Or.inr (Or.inr (Or.inr (Or.inr (Or.inl (⟨c5858, c5859, c5863, c5871, c5872, c5885, rfl⟩)))))) [] rfl (by decide) [] rfl (by decide) (by decide) dX12_registers_34
        · refine lv_if_ne (tgt := 35) C.1 C.2.1 dX12_registers_30 (by decide) (fun c5891 => absurd c5891 (by decide)) (fun _ => ?_)
          refine lv_iconst (v := (-1)) C.1 C.2.1 dX12_registers_33 (by decide) ?_
          exact k_zret C hr hlk rfl Wd () (Or.inr (Or.inr (Or.inr (Or.inr (Or.inr (Or.inl (⟨c5858, c5859, c5863, c5871, c5872, c5886, c5887, rfl⟩))))))) [] rfl (by decide) [] rfl (by decide) (by decide) dX12_registers_34
        · refine lv_if_ne (tgt := 35) C.1 C.2.1 dX12_registers_30 (by decide) (fun _ => ?_) (fun c5892 => absurd c5892 (by decide))
          refine lv_aload_n C.1 C.2.1 dX12_registers_35 rfl (lv_at hl 0 rfl) ?_
          refine lv_iload_n C.1 C.2.1 dX12_registers_36 rfl (lv_at hl 1 rfl) ?_
          refine k_cv Wd [0, 1, 2] [3] rfl (wr := [(h25, .inl (a24, 6, .inl (fun _ => 0)))]) rfl (by decide) (by decide) (cells' := 0) (slots' := 0) (by decide) (by decide) (k_runV (rest := []) C aks Wd cs_X12_472 (kcX12_clashIn l D h0 h1 h2 h3 h4 h5 h6 h7 h8 h9 h10 h11 h12 h13 h14 h15 h16 h17 h18 h19 h20 h21 h22 h23 h24 h25 x0 a1 a23 _ c5858 c5859) [0, 1, 2] rfl (by decide) [0, 1] rfl 0 12 rfl rfl rfl rfl rfl ⟨(Nat.le_of_ble_eq_true rfl), (Nat.le_of_ble_eq_true rfl)⟩ hl.1 rfl rfl (Nat.le_of_ble_eq_true rfl) ⟨(Nat.le_of_ble_eq_true rfl), (Nat.le_of_ble_eq_true rfl)⟩ dX12_registers_37) (fun _ H locs w5893 Wd => ?_)
          have Wd : wX D [(a1, .int), (a23, .int), (a24, .int)] s [(h25, .inl (a24, 6, .inl (fun _ => 0))), (h0, .inr (12, [.ref h1, .ref h2, .ref h3, .ref h4, .int 0, .int 0, .ref h5, .int 0, .int 0, .int 0, .int 0, .int 0, .int 0, .int 0, .int 0, .int 0, .int 0, .int 0, .int 0, .int 0, .int (-1), .int 0, .int 0, .int 0, .ref h6, .ref h7, .ref h8, .ref h9, .ref h10, .ref h11, .int 0, .int 0, .int 0, .int 0, .ref h12, .ref h13, .ref h14, .int 0, .int 0, .int 0, .int 0, .ref h15, .ref h16, .int 0, .ref h17, .ref h18, .int 0, .ref h19, .int 0, .ref h20, .ref h21, .ref h22, .int 0, .ref h23, .ref h24, .ref h25])), (h2, .inl (a1, 6, .inl (fun _ => 0))), (h24, .inl (a23, 6, .inl (fun _ => 0)))] _ A s.heap _ := Wd
          refine lv_aload_n C.1 C.2.1 dX12_registers_40 rfl (lv_at hl 0 rfl) ?_
          refine k_pi (k_runV (rest := []) C aks Wd cs_X12_475 (kcX12_inRow l D h0 h1 h2 h3 h4 h5 h6 h7 h8 h9 h10 h11 h12 h13 h14 h15 h16 h17 h18 h19 h20 h21 h22 h23 h24 h25 _ ) [1] rfl (by decide) [] rfl 1 12 rfl rfl rfl rfl rfl ⟨(Nat.le_of_ble_eq_true rfl), (Nat.le_of_ble_eq_true rfl)⟩ hl.1 rfl rfl (Nat.le_of_ble_eq_true rfl) ⟨(Nat.le_of_ble_eq_true rfl), (Nat.le_of_ble_eq_true rfl)⟩ dX12_registers_41) (fun r w5894 => ?_)
          obtain rfl := w5894
          refine lv_istore_n (lv' := [(3, .int 0), (0, .ref h0), (1, .int x0), (2, .int x1)]) C.1 C.2.1 dX12_registers_44 rfl hl (by decide) rfl (fun ls hl => ?_)
          refine lv_iload_n C.1 C.2.1 dX12_registers_45 rfl (lv_at hl 3 rfl) ?_
          refine lv_bipush (v := 15) C.1 C.2.1 dX12_registers_46 (by decide) ?_
          refine lv_icmp_le (tgt := 61) C.1 C.2.1 dX12_registers_48 (by decide) (fun c5895 => False.elim (by have z0 := kz_ne c5863; have z1 := kz_nlt c5871; have z2 := kz_lt c5872; have z3 := kz_nlt c5888; have z4 := kz_nlt c5889; have z5 := kz_le c5895; have t0 : (0 : Int32).toInt = 0 := (by decide); have t10 : (10 : Int32).toInt = 10 := (by decide); have t15 : (15 : Int32).toInt = 15 := (by decide); have t20 : (20 : Int32).toInt = 20 := (by decide); have t26 : (26 : Int32).toInt = 26 := (by decide); omega)) (fun _ => ?_)
          refine lv_aload_n C.1 C.2.1 dX12_registers_51 rfl (lv_at hl 1 rfl) ?_
          refine lv_iload_n C.1 C.2.1 dX12_registers_52 rfl (lv_at hl 0 rfl) ?_
          refine lv_iload_n C.1 C.2.1 dX12_registers_53 rfl (lv_at hl 3 rfl) ?_
          refine lv_bipush (v := 20) C.1 C.2.1 dX12_registers_54 (by decide) ?_
          refine k_isub (v := (x1 - 20)) C rfl dX12_registers_56 ?_
          refine k_ci Wd [1, 0] [2, 3] rfl (wr := [(h2, .inl (a1, 6, .inl (fun _ => 0))), (h24, .inl (a23, 6, .inl (fun _ => 0)))]) rfl (by decide) (by decide) (cells' := 0) (slots' := 0) (by decide) (by decide) (k_runV (rest := []) C aks Wd cs_X12_478 (kcX12_spills l D h0 h1 h2 h3 h4 h5 h6 h7 h8 h9 h10 h11 h12 h13 h14 h15 h16 h17 h18 h19 h20 h21 h22 h23 h24 h25 (x1 - 20) a24 _ ) [1, 0] rfl (by decide) [2] rfl 1 12 rfl rfl rfl rfl rfl ⟨(Nat.le_of_ble_eq_true rfl), (Nat.le_of_ble_eq_true rfl)⟩ hl.1 rfl rfl (Nat.le_of_ble_eq_true rfl) ⟨(Nat.le_of_ble_eq_true rfl), (Nat.le_of_ble_eq_true rfl)⟩ dX12_registers_57) (fun r _ H locs w5896 Wd => ?_)
          have Wd : wX D [(a1, .int), (a23, .int), (a24, .int)] s [(h2, .inl (a1, 6, .inl (fun _ => 0))), (h24, .inl (a23, 6, .inl (fun _ => 0))), (h0, .inr (12, [.ref h1, .ref h2, .ref h3, .ref h4, .int 0, .int 0, .ref h5, .int 0, .int 0, .int 0, .int 0, .int 0, .int 0, .int 0, .int 0, .int 0, .int 0, .int 0, .int 0, .int 0, .int (-1), .int 0, .int 0, .int 0, .ref h6, .ref h7, .ref h8, .ref h9, .ref h10, .ref h11, .int 0, .int 0, .int 0, .int 0, .ref h12, .ref h13, .ref h14, .int 0, .int 0, .int 0, .int 0, .ref h15, .ref h16, .int 0, .ref h17, .ref h18, .int 0, .ref h19, .int 0, .ref h20, .ref h21, .ref h22, .int 0, .ref h23, .ref h24, .ref h25])), (h25, .inl (a24, 6, .inl (upd (upd (upd (upd (upd (upd (fun _ => 0) 5 (-1)) 4 (-1)) 3 (-1)) 2 (-1)) 1 (-1)) 0 (-1))))] _ A s.heap _ := Wd
          obtain rfl := w5896
          exact k_zret C hr hlk rfl Wd () (Or.inr (Or.inr (Or.inr (Or.inr (Or.inr (Or.inr (Or.inl (⟨c5858, c5859, c5863, c5871, c5872, c5888, c5889, rfl⟩)))))))) [] rfl (by decide) [] rfl (by decide) (by decide) dX12_registers_60
      · refine lv_if_ne (tgt := 35) C.1 C.2.1 dX12_registers_19 (by decide) (fun _ => ?_) (fun c5897 => absurd c5897 (by decide))
        refine lv_aload_n C.1 C.2.1 dX12_registers_35 rfl (lv_at hl 0 rfl) ?_
        refine lv_iload_n C.1 C.2.1 dX12_registers_36 rfl (lv_at hl 1 rfl) ?_
        refine k_cv Wd [0, 1, 2] [3] rfl (wr := [(h25, .inl (a24, 6, .inl (fun _ => 0)))]) rfl (by decide) (by decide) (cells' := 0) (slots' := 0) (by decide) (by decide) (k_runV (rest := []) C aks Wd cs_X12_472 (kcX12_clashIn l D h0 h1 h2 h3 h4 h5 h6 h7 h8 h9 h10 h11 h12 h13 h14 h15 h16 h17 h18 h19 h20 h21 h22 h23 h24 h25 x0 a1 a23 _ c5858 c5859) [0, 1, 2] rfl (by decide) [0, 1] rfl 0 12 rfl rfl rfl rfl rfl ⟨(Nat.le_of_ble_eq_true rfl), (Nat.le_of_ble_eq_true rfl)⟩ hl.1 rfl rfl (Nat.le_of_ble_eq_true rfl) ⟨(Nat.le_of_ble_eq_true rfl), (Nat.le_of_ble_eq_true rfl)⟩ dX12_registers_37) (fun _ H locs w5898 Wd => ?_)
        have Wd : wX D [(a1, .int), (a23, .int), (a24, .int)] s [(h25, .inl (a24, 6, .inl (fun _ => 0))), (h0, .inr (12, [.ref h1, .ref h2, .ref h3, .ref h4, .int 0, .int 0, .ref h5, .int 0, .int 0, .int 0, .int 0, .int 0, .int 0, .int 0, .int 0, .int 0, .int 0, .int 0, .int 0, .int 0, .int (-1), .int 0, .int 0, .int 0, .ref h6, .ref h7, .ref h8, .ref h9, .ref h10, .ref h11, .int 0, .int 0, .int 0, .int 0, .ref h12, .ref h13, .ref h14, .int 0, .int 0, .int 0, .int 0, .ref h15, .ref h16, .int 0, .ref h17, .ref h18, .int 0, .ref h19, .int 0, .ref h20, .ref h21, .ref h22, .int 0, .ref h23, .ref h24, .ref h25])), (h2, .inl (a1, 6, .inl (fun _ => 0))), (h24, .inl (a23, 6, .inl (fun _ => 0)))] _ A s.heap _ := Wd
        refine lv_aload_n C.1 C.2.1 dX12_registers_40 rfl (lv_at hl 0 rfl) ?_
        refine k_pi (k_runV (rest := []) C aks Wd cs_X12_475 (kcX12_inRow l D h0 h1 h2 h3 h4 h5 h6 h7 h8 h9 h10 h11 h12 h13 h14 h15 h16 h17 h18 h19 h20 h21 h22 h23 h24 h25 _ ) [1] rfl (by decide) [] rfl 1 12 rfl rfl rfl rfl rfl ⟨(Nat.le_of_ble_eq_true rfl), (Nat.le_of_ble_eq_true rfl)⟩ hl.1 rfl rfl (Nat.le_of_ble_eq_true rfl) ⟨(Nat.le_of_ble_eq_true rfl), (Nat.le_of_ble_eq_true rfl)⟩ dX12_registers_41) (fun r w5899 => ?_)
        obtain rfl := w5899
        refine lv_istore_n (lv' := [(3, .int 0), (0, .ref h0), (1, .int x0), (2, .int x1)]) C.1 C.2.1 dX12_registers_44 rfl hl (by decide) rfl (fun ls hl => ?_)
        refine lv_iload_n C.1 C.2.1 dX12_registers_45 rfl (lv_at hl 3 rfl) ?_
        refine lv_bipush (v := 15) C.1 C.2.1 dX12_registers_46 (by decide) ?_
        refine lv_icmp_le (tgt := 61) C.1 C.2.1 dX12_registers_48 (by decide) (fun _ => ?_) (fun c5900 => False.elim (by have z0 := kz_ne c5863; have z1 := kz_nlt c5873; have z2 := kz_nlt c5874; have z3 := kz_nle c5900; have t0 : (0 : Int32).toInt = 0 := (by decide); have t10 : (10 : Int32).toInt = 10 := (by decide); have t15 : (15 : Int32).toInt = 15 := (by decide); omega))
        refine lv_aload_n C.1 C.2.1 dX12_registers_61 rfl (lv_at hl 1 rfl) ?_
        refine lv_iload_n C.1 C.2.1 dX12_registers_62 rfl (lv_at hl 0 rfl) ?_
        refine k_ci Wd [1, 0] [2, 3] rfl (wr := [(h2, .inl (a1, 6, .inl (fun _ => 0))), (h24, .inl (a23, 6, .inl (fun _ => 0)))]) rfl (by decide) (by decide) (cells' := 0) (slots' := 0) (by decide) (by decide) (k_runV (rest := []) C aks Wd cs_X12_481 (kcX12_enough l D h0 h1 h2 h3 h4 h5 h6 h7 h8 h9 h10 h11 h12 h13 h14 h15 h16 h17 h18 h19 h20 h21 h22 h23 h24 h25 a24 _ ) [1, 0] rfl (by decide) [2] rfl 1 12 rfl rfl rfl rfl rfl ⟨(Nat.le_of_ble_eq_true rfl), (Nat.le_of_ble_eq_true rfl)⟩ hl.1 rfl rfl (Nat.le_of_ble_eq_true rfl) ⟨(Nat.le_of_ble_eq_true rfl), (Nat.le_of_ble_eq_true rfl)⟩ dX12_registers_63) (fun r _ H locs w5901 Wd => ?_)
        have Wd : wX D [(a1, .int), (a23, .int), (a24, .int)] s [(h2, .inl (a1, 6, .inl (fun _ => 0))), (h24, .inl (a23, 6, .inl (fun _ => 0))), (h0, .inr (12, [.ref h1, .ref h2, .ref h3, .ref h4, .int 0, .int 0, .ref h5, .int 0, .int 0, .int 0, .int 0, .int 0, .int 0, .int 0, .int 0, .int 0, .int 0, .int 0, .int 0, .int 0, .int (-1), .int 0, .int 0, .int 0, .ref h6, .ref h7, .ref h8, .ref h9, .ref h10, .ref h11, .int 0, .int 0, .int 0, .int 0, .ref h12, .ref h13, .ref h14, .int 0, .int 0, .int 0, .int 0, .ref h15, .ref h16, .int 0, .ref h17, .ref h18, .int 0, .ref h19, .int 0, .ref h20, .ref h21, .ref h22, .int 0, .ref h23, .ref h24, .ref h25])), (h25, .inl (a24, 6, .inl (upd (upd (upd (upd (upd (upd (fun _ => 0) 5 (-1)) 4 (-1)) 3 (-1)) 2 (-1)) 1 (-1)) 0 (-1))))] _ A s.heap _ := Wd
        obtain rfl := w5901
        refine lv_istore (lv' := [(4, .int 0), (3, .int 0), (0, .ref h0), (1, .int x0), (2, .int x1)]) C.1 C.2.1 dX12_registers_66 hl (by decide) rfl (fun ls hl => ?_)
        refine lv_iload_n C.1 C.2.1 dX12_registers_68 rfl (lv_at hl 4 rfl) ?_
        refine lv_if_ne (tgt := 77) C.1 C.2.1 dX12_registers_69 (by decide) (fun _ => ?_) (fun c5902 => absurd c5902 c5863)
        refine lv_aload_n C.1 C.2.1 dX12_registers_77 rfl (lv_at hl 2 rfl) ?_
        refine k_get C Wd KX12 2 55 rfl (by decide) fl_X12_87 rfl dX12_registers_78 ?_
        refine lv_iload_n C.1 C.2.1 dX12_registers_81 rfl (lv_at hl 4 rfl) ?_
        refine lv_bipush (v := 10) C.1 C.2.1 dX12_registers_82 (by decide) ?_
        refine k_isub (v := (x1 - 10)) C rfl dX12_registers_84 ?_
        refine k_iald (v := (-1)) C Wd 3 2 rfl rfl (vp_in_iff.mpr ⟨by have z0 := kz_ne c5863; have z1 := kz_nlt c5873; have z2 := kz_nlt c5874; have zr := kz_rng x1; have z3 := kz_subI (a := x1) (b := 10); have t0 : (0 : Int32).toInt = 0 := (by decide); have t10 : (10 : Int32).toInt = 10 := (by decide); have t15 : (15 : Int32).toInt = 15 := (by decide); omega, by have z0 := kz_ne c5863; have z1 := kz_nlt c5873; have z2 := kz_nlt c5874; have zr := kz_rng x1; have z3 := kz_subI (a := x1) (b := 10); have t0 : (0 : Int32).toInt = 0 := (by decide); have t10 : (10 : Int32).toInt = 10 := (by decide); have t15 : (15 : Int32).toInt = 15 := (by decide); omega⟩) (k_all6 _ _ rfl rfl rfl rfl rfl rfl (vp_in_iff.mpr ⟨by have z0 := kz_ne c5863; have z1 := kz_nlt c5873; have z2 := kz_nlt c5874; have zr := kz_rng x1; have z3 := kz_subI (a := x1) (b := 10); have t0 : (0 : Int32).toInt = 0 := (by decide); have t10 : (10 : Int32).toInt = 10 := (by decide); have t15 : (15 : Int32).toInt = 15 := (by decide); omega, by have z0 := kz_ne c5863; have z1 := kz_nlt c5873; have z2 := kz_nlt c5874; have zr := kz_rng x1; have z3 := kz_subI (a := x1) (b := 10); have t0 : (0 : Int32).toInt = 0 := (by decide); have t10 : (10 : Int32).toInt = 10 := (by decide); have t15 : (15 : Int32).toInt = 15 := (by decide); omega⟩)) dX12_registers_85 ?_
        exact k_zret C hr hlk rfl Wd () (Or.inr (Or.inr (Or.inr (Or.inr (Or.inr (Or.inr (Or.inr (⟨c5858, c5859, c5863, c5873, c5874, rfl⟩)))))))) [] rfl (by decide) [] rfl (by decide) (by decide) dX12_registers_86
set_option maxHeartbeats 4000000 in
set_option maxRecDepth 100000 in
theorem kcX12_clash (l : Launch) (D : va_G) (h0 h1 h2 h3 h4 h5 h6 h7 h8 h9 h10 h11 h12 h13 h14 h15 h16 h17 h18 h19 h20 h21 h22 h23 h24 h25 : Nat) (x0 x1 x2 : Int32) (a1 a23 : ClassId) (sz : Nat)  : Met l yX12_clash (Cond.code yX12_clash cX12_clash 4 (some .int) :: gG) { frames := 4, cells := 0, slots := 0, locals := 133 } (cPre D [(a1, .int), (a23, .int)] [(h0, .inr (12, [.ref h1, .ref h2, .ref h3, .ref h4, .int 0, .int 0, .ref h5, .int 0, .int 0, .int 0, .int 0, .int 0, .int 0, .int 0, .int 0, .int 0, .int 0, .int 0, .int 0, .int 0, .int (-1), .int 0, .int 0, .int 0, .ref h6, .ref h7, .ref h8, .ref h9, .ref h10, .ref h11, .int 0, .int 0, .int 0, .int 0, .ref h12, .ref h13, .ref h14, .int 0, .int 0, .int 0, .int 0, .ref h15, .ref h16, .int 0, .ref h17, .ref h18, .int 0, .ref h19, .int 0, .ref h20, .ref h21, .ref h22, .int 0, .ref h23, .ref h24, .ref h25])), (h2, .inl (a1, 6, .inl (fun _ => 0))), (h24, .inl (a23, 6, .inl (fun _ => 0)))] sz [.ref h0, .int x0, .int x1, .int x2]) (va_Qi (fun (r : Int32) (_ : Unit) => (x0 < (0 : Int32) ∧ r = (-1)) ∨ (¬ x0 < (0 : Int32) ∧ (5 : Int32) < x0 ∧ r = (-1)) ∨ (¬ x0 < (0 : Int32) ∧ ¬ (5 : Int32) < x0 ∧ x1 < (0 : Int32) ∧ r = (-1)) ∨ (¬ x0 < (0 : Int32) ∧ ¬ (5 : Int32) < x0 ∧ ¬ x1 < (0 : Int32) ∧ (5 : Int32) < x1 ∧ r = (-1)) ∨ (¬ x0 < (0 : Int32) ∧ ¬ (5 : Int32) < x0 ∧ ¬ x1 < (0 : Int32) ∧ ¬ (5 : Int32) < x1 ∧ x2 < (0 : Int32) ∧ r = (-1)) ∨ (¬ x0 < (0 : Int32) ∧ ¬ (5 : Int32) < x0 ∧ ¬ x1 < (0 : Int32) ∧ ¬ (5 : Int32) < x1 ∧ ¬ x2 < (0 : Int32) ∧ (5 : Int32) < x2 ∧ r = (-1)) ∨ (¬ x0 < (0 : Int32) ∧ ¬ (5 : Int32) < x0 ∧ ¬ x1 < (0 : Int32) ∧ ¬ (5 : Int32) < x1 ∧ ¬ x2 < (0 : Int32) ∧ ¬ (5 : Int32) < x2 ∧ ¬ x1 = x2 ∧ r = 0) ∨ (¬ x0 < (0 : Int32) ∧ ¬ (5 : Int32) < x0 ∧ ¬ x1 < (0 : Int32) ∧ ¬ (5 : Int32) < x1 ∧ ¬ x2 < (0 : Int32) ∧ ¬ (5 : Int32) < x2 ∧ x1 = x2 ∧ r = (-1))) (fun u t => cB D (va_A [(h0, .inr (12, [.ref h1, .ref h2, .ref h3, .ref h4, .int 0, .int 0, .ref h5, .int 0, .int 0, .int 0, .int 0, .int 0, .int 0, .int 0, .int 0, .int 0, .int 0, .int 0, .int 0, .int 0, .int (-1), .int 0, .int 0, .int 0, .ref h6, .ref h7, .ref h8, .ref h9, .ref h10, .ref h11, .int 0, .int 0, .int 0, .int 0, .ref h12, .ref h13, .ref h14, .int 0, .int 0, .int 0, .int 0, .ref h15, .ref h16, .int 0, .ref h17, .ref h18, .int 0, .ref h19, .int 0, .ref h20, .ref h21, .ref h22, .int 0, .ref h23, .ref h24, .ref h25])), (h2, .inl (a1, 6, .inl (fun _ => 0))), (h24, .inl (a23, 6, .inl (fun _ => 0)))] sz) ((fun (_ : Unit) => ([] : List (ClassId × FieldType))) u) ((fun (_ : Unit) => ([] : va_W)) u) t) (va_A [(h0, .inr (12, [.ref h1, .ref h2, .ref h3, .ref h4, .int 0, .int 0, .ref h5, .int 0, .int 0, .int 0, .int 0, .int 0, .int 0, .int 0, .int 0, .int 0, .int 0, .int 0, .int 0, .int 0, .int (-1), .int 0, .int 0, .int 0, .ref h6, .ref h7, .ref h8, .ref h9, .ref h10, .ref h11, .int 0, .int 0, .int 0, .int 0, .ref h12, .ref h13, .ref h14, .int 0, .int 0, .int 0, .int 0, .ref h15, .ref h16, .int 0, .ref h17, .ref h18, .int 0, .ref h19, .int 0, .ref h20, .ref h21, .ref h22, .int 0, .ref h23, .ref h24, .ref h25])), (h2, .inl (a1, 6, .inl (fun _ => 0))), (h24, .inl (a23, 6, .inl (fun _ => 0)))] sz)) 0 0 (va_A [(h0, .inr (12, [.ref h1, .ref h2, .ref h3, .ref h4, .int 0, .int 0, .ref h5, .int 0, .int 0, .int 0, .int 0, .int 0, .int 0, .int 0, .int 0, .int 0, .int 0, .int 0, .int 0, .int 0, .int (-1), .int 0, .int 0, .int 0, .ref h6, .ref h7, .ref h8, .ref h9, .ref h10, .ref h11, .int 0, .int 0, .int 0, .int 0, .ref h12, .ref h13, .ref h14, .int 0, .int 0, .int 0, .int 0, .ref h15, .ref h16, .int 0, .ref h17, .ref h18, .int 0, .ref h19, .int 0, .ref h20, .ref h21, .ref h22, .int 0, .ref h23, .ref h24, .ref h25])), (h2, .inl (a1, 6, .inl (fun _ => 0))), (h24, .inl (a23, 6, .inl (fun _ => 0)))] sz) := by
  refine Met.ofW (cc := cX12_clash) (maxL := 4) (ret := (some .int)) (by decide) rfl ?_
  intro p e s m args below meth c s₁ B hml hv
  obtain ⟨rfl, aks, rfl, Wd⟩ := k_enter hv
  have C : CallFix p m c cX12_clash 4 s _ gG RX12 := ⟨B.exec, B.bytes, hml, findClass_of_methodNamed B.named, fun w h => atoms_spec (ws := Cond.code yX12_clash cX12_clash 4 (some .int) :: gG) B.pre w (List.mem_cons_of_mem _ h)⟩
  have hr := B.returns
  have hlk := B.notSynchronized
  generalize va_A [(h0, .inr (12, [.ref h1, .ref h2, .ref h3, .ref h4, .int 0, .int 0, .ref h5, .int 0, .int 0, .int 0, .int 0, .int 0, .int 0, .int 0, .int 0, .int 0, .int 0, .int 0, .int 0, .int 0, .int (-1), .int 0, .int 0, .int 0, .ref h6, .ref h7, .ref h8, .ref h9, .ref h10, .ref h11, .int 0, .int 0, .int 0, .int 0, .ref h12, .ref h13, .ref h14, .int 0, .int 0, .int 0, .int 0, .ref h15, .ref h16, .int 0, .ref h17, .ref h18, .int 0, .ref h19, .int 0, .ref h20, .ref h21, .ref h22, .int 0, .ref h23, .ref h24, .ref h25])), (h2, .inl (a1, 6, .inl (fun _ => 0))), (h24, .inl (a23, 6, .inl (fun _ => 0)))] s.heap.size = A at Wd ⊢
  refine k_locals (Nat.le_of_ble_eq_true rfl) [(0, .ref h0), (1, .int x0), (2, .int x1), (3, .int x2)] rfl (fun ls hl => ?_)
  refine lv_iload_n C.1 C.2.1 dX12_clash_0 rfl (lv_at hl 1 rfl) ?_
  refine k_pi (k_runS (rest := []) C aks Wd cs_X12_249 (kcX12_isSlot l D x0 _ ) [] rfl (by decide) [] rfl rfl rfl ⟨(Nat.le_of_ble_eq_true rfl), (Nat.le_of_ble_eq_true rfl)⟩ hl.1 rfl rfl (Nat.le_of_ble_eq_true rfl) ⟨(Nat.le_of_ble_eq_true rfl), (Nat.le_of_ble_eq_true rfl)⟩ dX12_clash_1) (fun r w5932 => ?_)
  rcases w5932 with ⟨c5933, rfl⟩ | ⟨c5934, c5935, rfl⟩ | ⟨c5936, c5937, rfl⟩
  · refine lv_if_eq (tgt := 30) C.1 C.2.1 dX12_clash_4 (by decide) (fun _ => ?_) (fun c5938 => absurd c5938 (by decide))
    refine lv_iconst (v := (-1)) C.1 C.2.1 dX12_clash_30 (by decide) ?_
    exact k_zret C hr hlk rfl Wd () (Or.inl (⟨c5933, rfl⟩)) [] rfl (by decide) [] rfl (by decide) (by decide) dX12_clash_31
  · refine lv_if_eq (tgt := 30) C.1 C.2.1 dX12_clash_4 (by decide) (fun _ => ?_) (fun c5939 => absurd c5939 (by decide))
    refine lv_iconst (v := (-1)) C.1 C.2.1 dX12_clash_30 (by decide) ?_
    exact k_zret C hr hlk rfl Wd () (Or.inr (Or.inl (⟨c5934, c5935, rfl⟩))) [] rfl (by decide) [] rfl (by decide) (by decide) dX12_clash_31
  · refine lv_if_eq (tgt := 30) C.1 C.2.1 dX12_clash_4 (by decide) (fun c5940 => absurd c5940 (by decide)) (fun _ => ?_)
    refine lv_iload_n C.1 C.2.1 dX12_clash_7 rfl (lv_at hl 2 rfl) ?_
    refine lv_iconst (v := 0) C.1 C.2.1 dX12_clash_8 (by decide) ?_
    refine lv_iconst (v := 5) C.1 C.2.1 dX12_clash_9 (by decide) ?_
    refine k_pi (k_runS (rest := []) C aks Wd cs_X12_90 (kcX12_isIn l D x1 0 5 _ ) [] rfl (by decide) [] rfl rfl rfl ⟨(Nat.le_of_ble_eq_true rfl), (Nat.le_of_ble_eq_true rfl)⟩ hl.1 rfl rfl (Nat.le_of_ble_eq_true rfl) ⟨(Nat.le_of_ble_eq_true rfl), (Nat.le_of_ble_eq_true rfl)⟩ dX12_clash_10) (fun r w5941 => ?_)
    rcases w5941 with ⟨c5942, rfl⟩ | ⟨c5943, c5944, rfl⟩ | ⟨c5945, c5946, rfl⟩
    · refine lv_if_eq (tgt := 30) C.1 C.2.1 dX12_clash_13 (by decide) (fun _ => ?_) (fun c5947 => absurd c5947 (by decide))
      refine lv_iconst (v := (-1)) C.1 C.2.1 dX12_clash_30 (by decide) ?_
      exact k_zret C hr hlk rfl Wd () (Or.inr (Or.inr (Or.inl (⟨c5936, c5937, c5942, rfl⟩)))) [] rfl (by decide) [] rfl (by decide) (by decide) dX12_clash_31
    · refine lv_if_eq (tgt := 30) C.1 C.2.1 dX12_clash_13 (by decide) (fun _ => ?_) (fun c5948 => absurd c5948 (by decide))
      refine lv_iconst (v := (-1)) C.1 C.2.1 dX12_clash_30 (by decide) ?_
      exact k_zret C hr hlk rfl Wd () (Or.inr (Or.inr (Or.inr (Or.inl (⟨c5936, c5937, c5943, c5944, rfl⟩))))) [] rfl (by decide) [] rfl (by decide) (by decide) dX12_clash_31
    · refine lv_if_eq (tgt := 30) C.1 C.2.1 dX12_clash_13 (by decide) (fun c5949 => absurd c5949 (by decide)) (fun _ => ?_)
      refine lv_iload_n C.1 C.2.1 dX12_clash_16 rfl (lv_at hl 3 rfl) ?_
      refine lv_iconst (v := 0) C.1 C.2.1 dX12_clash_17 (by decide) ?_
      refine lv_iconst (v := 5) C.1 C.2.1 dX12_clash_18 (by decide) ?_
      refine k_pi (k_runS (rest := []) C aks Wd cs_X12_90 (kcX12_isIn l D x2 0 5 _ ) [] rfl (by decide) [] rfl rfl rfl ⟨(Nat.le_of_ble_eq_true rfl), (Nat.le_of_ble_eq_true rfl)⟩ hl.1 rfl rfl (Nat.le_of_ble_eq_true rfl) ⟨(Nat.le_of_ble_eq_true rfl), (Nat.le_of_ble_eq_true rfl)⟩ dX12_clash_19) (fun r w5950 => ?_)
      rcases w5950 with ⟨c5951, rfl⟩ | ⟨c5952, c5953, rfl⟩ | ⟨c5954, c5955, rfl⟩
      · refine lv_if_eq (tgt := 30) C.1 C.2.1 dX12_clash_22 (by decide) (fun _ => ?_) (fun c5956 => absurd c5956 (by decide))
        refine lv_iconst (v := (-1)) C.1 C.2.1 dX12_clash_30 (by decide) ?_
        exact k_zret C hr hlk rfl Wd () (Or.inr (Or.inr (Or.inr (Or.inr (Or.inl (⟨c5936, c5937, c5945, c5946, c5951, rfl⟩)))))) [] rfl (by decide) [] rfl (by decide) (by decide) dX12_clash_31
      · refine lv_if_eq (tgt := 30) C.1 C.2.1 dX12_clash_22 (by decide) (fun _ => ?_) (fun c5957 => absurd c5957 (by decide))
        refine lv_iconst (v := (-1)) C.1 C.2.1 dX12_clash_30 (by decide) ?_
        exact k_zret C hr hlk rfl Wd () (Or.inr (Or.inr (Or.inr (Or.inr (Or.inr (Or.inl (⟨c5936, c5937, c5945, c5946, c5952, c5953, rfl⟩))))))) [] rfl (by decide) [] rfl (by decide) (by decide) dX12_clash_31
      · refine lv_if_eq (tgt := 30) C.1 C.2.1 dX12_clash_22 (by decide) (fun c5958 => absurd c5958 (by decide)) (fun _ => ?_)
        refine lv_iload_n C.1 C.2.1 dX12_clash_25 rfl (lv_at hl 2 rfl) ?_
        refine lv_iload_n C.1 C.2.1 dX12_clash_26 rfl (lv_at hl 3 rfl) ?_
        refine lv_icmp_ne (tgt := 32) C.1 C.2.1 dX12_clash_27 (by decide) (fun c5959 => ?_) (fun c5959 => ?_)
        · refine lv_aload_n C.1 C.2.1 dX12_clash_32 rfl (lv_at hl 0 rfl) ?_
          refine lv_iload_n C.1 C.2.1 dX12_clash_33 rfl (lv_at hl 1 rfl) ?_
          refine k_cv Wd [0, 1, 2] [] rfl (wr := []) rfl (by decide) (by decide) (cells' := 0) (slots' := 0) (by decide) (by decide) (k_runV (rest := []) C aks Wd cs_X12_472 (kcX12_clashIn l D h0 h1 h2 h3 h4 h5 h6 h7 h8 h9 h10 h11 h12 h13 h14 h15 h16 h17 h18 h19 h20 h21 h22 h23 h24 h25 x0 a1 a23 _ c5936 c5937) [0, 1, 2] rfl (by decide) [0, 1] rfl 0 12 rfl rfl rfl rfl rfl ⟨(Nat.le_of_ble_eq_true rfl), (Nat.le_of_ble_eq_true rfl)⟩ hl.1 rfl rfl (Nat.le_of_ble_eq_true rfl) ⟨(Nat.le_of_ble_eq_true rfl), (Nat.le_of_ble_eq_true rfl)⟩ dX12_clash_34) (fun _ H locs w5960 Wd => ?_)
          have Wd : wX D [(a1, .int), (a23, .int)] s [(h0, .inr (12, [.ref h1, .ref h2, .ref h3, .ref h4, .int 0, .int 0, .ref h5, .int 0, .int 0, .int 0, .int 0, .int 0, .int 0, .int 0, .int 0, .int 0, .int 0, .int 0, .int 0, .int 0, .int (-1), .int 0, .int 0, .int 0, .ref h6, .ref h7, .ref h8, .ref h9, .ref h10, .ref h11, .int 0, .int 0, .int 0, .int 0, .ref h12, .ref h13, .ref h14, .int 0, .int 0, .int 0, .int 0, .ref h15, .ref h16, .int 0, .ref h17, .ref h18, .int 0, .ref h19, .int 0, .ref h20, .ref h21, .ref h22, .int 0, .ref h23, .ref h24, .ref h25])), (h2, .inl (a1, 6, .inl (fun _ => 0))), (h24, .inl (a23, 6, .inl (fun _ => 0)))] _ A s.heap _ := Wd
          refine lv_aload_n C.1 C.2.1 dX12_clash_37 rfl (lv_at hl 0 rfl) ?_
          refine k_get C Wd KX12 0 54 rfl (by decide) fl_X12_84 rfl dX12_clash_38 ?_
          refine lv_iload_n C.1 C.2.1 dX12_clash_41 rfl (lv_at hl 2 rfl) ?_
          refine k_iald (v := 0) C Wd 2 1 rfl rfl (vp_in_iff.mpr ⟨by have z0 := kz_nlt c5945; have z1 := kz_nlt c5946; have z2 := kz_ne c5959; have t0 : (0 : Int32).toInt = 0 := (by decide); have t5 : (5 : Int32).toInt = 5 := (by decide); omega, by have z0 := kz_nlt c5945; have z1 := kz_nlt c5946; have z2 := kz_ne c5959; have t0 : (0 : Int32).toInt = 0 := (by decide); have t5 : (5 : Int32).toInt = 5 := (by decide); omega⟩) rfl dX12_clash_42 ?_
          refine lv_iload_n C.1 C.2.1 dX12_clash_43 rfl (lv_at hl 3 rfl) ?_
          refine k_ishr (v := 0) C (k_shr0 _) dX12_clash_44 ?_
          refine lv_iconst (v := 1) C.1 C.2.1 dX12_clash_45 (by decide) ?_
          refine k_iand (v := 0) C (by decide) dX12_clash_46 ?_
          exact k_zret C hr hlk rfl Wd () (Or.inr (Or.inr (Or.inr (Or.inr (Or.inr (Or.inr (Or.inl (⟨c5936, c5937, c5945, c5946, c5954, c5955, c5959, rfl⟩)))))))) [] rfl (by decide) [] rfl (by decide) (by decide) dX12_clash_47
        · refine lv_iconst (v := (-1)) C.1 C.2.1 dX12_clash_30 (by decide) ?_
          exact k_zret C hr hlk rfl Wd () (Or.inr (Or.inr (Or.inr (Or.inr (Or.inr (Or.inr (Or.inr (⟨c5936, c5937, c5945, c5946, c5954, c5955, c5959, rfl⟩)))))))) [] rfl (by decide) [] rfl (by decide) (by decide) dX12_clash_31
