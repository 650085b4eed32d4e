set_option maxHeartbeats 4000000 in
set_option maxRecDepth 100000 in
theorem kcX12_blame (l : Launch) (D : va_G) (h0 h1 h2 h3 h4 h5 h6 h7 h8 h9 h10 h11 h12 h13 h14 h15 h16 h17 h18 h19 h20 h21 h22 h23 h24 h25 : Nat) (x0 x1 : Int32) (a1 a20 : ClassId) (sz : Nat)  : Met l yX12_blame (Cond.code yX12_blame cX12_blame 4 (some .int) :: gG) { frames := 3, cells := 0, slots := 0, locals := 106 } (cPre D [(a1, .int), (a20, .int)] [(h0, .inr (12, [.ref h1, .ref h2, .ref h3, .ref h4, .int 0, .int 0, .ref h5, .int 0, .int 0, .int 0, .int 0, .int 0, .int 0, .int 0, .int 0, .int 0, .int 0, .int 0, .int 0, .int 0, .int (-1), .int 0, .int 0, .int 0, .ref h6, .ref h7, .ref h8, .ref h9, .ref h10, .ref h11, .int 0, .int 0, .int 0, .int 0, .ref h12, .ref h13, .ref h14, .int 0, .int 0, .int 0, .int 0, .ref h15, .ref h16, .int 0, .ref h17, .ref h18, .int 0, .ref h19, .int 0, .ref h20, .ref h21, .ref h22, .int 0, .ref h23, .ref h24, .ref h25])), (h2, .inl (a1, 6, .inl (fun _ => 0))), (h21, .inl (a20, 6, .inl (fun _ => 0)))] sz [.ref h0, .int x0, .int x1]) (va_Qi (fun (r : Int32) (_ : Unit) => (x0 < (0 : Int32) ∧ r = (-1)) ∨ (¬ x0 < (0 : Int32) ∧ (5 : Int32) < x0 ∧ r = (-1)) ∨ (¬ x0 < (0 : Int32) ∧ ¬ (5 : Int32) < x0 ∧ x1 < (0 : Int32) ∧ r = (-1)) ∨ (¬ x0 < (0 : Int32) ∧ ¬ (5 : Int32) < x0 ∧ ¬ x1 < (0 : Int32) ∧ (1 : Int32) < x1 ∧ r = (-1)) ∨ (¬ x0 < (0 : Int32) ∧ ¬ (5 : Int32) < x0 ∧ ¬ x1 < (0 : Int32) ∧ ¬ (1 : Int32) < x1 ∧ r = (-1))) (fun u t => cB D (va_A [(h0, .inr (12, [.ref h1, .ref h2, .ref h3, .ref h4, .int 0, .int 0, .ref h5, .int 0, .int 0, .int 0, .int 0, .int 0, .int 0, .int 0, .int 0, .int 0, .int 0, .int 0, .int 0, .int 0, .int (-1), .int 0, .int 0, .int 0, .ref h6, .ref h7, .ref h8, .ref h9, .ref h10, .ref h11, .int 0, .int 0, .int 0, .int 0, .ref h12, .ref h13, .ref h14, .int 0, .int 0, .int 0, .int 0, .ref h15, .ref h16, .int 0, .ref h17, .ref h18, .int 0, .ref h19, .int 0, .ref h20, .ref h21, .ref h22, .int 0, .ref h23, .ref h24, .ref h25])), (h2, .inl (a1, 6, .inl (fun _ => 0))), (h21, .inl (a20, 6, .inl (fun _ => 0)))] sz) ((fun (_ : Unit) => ([] : List (ClassId × FieldType))) u) ((fun (_ : Unit) => ([] : va_W)) u) t) (va_A [(h0, .inr (12, [.ref h1, .ref h2, .ref h3, .ref h4, .int 0, .int 0, .ref h5, .int 0, .int 0, .int 0, .int 0, .int 0, .int 0, .int 0, .int 0, .int 0, .int 0, .int 0, .int 0, .int 0, .int (-1), .int 0, .int 0, .int 0, .ref h6, .ref h7, .ref h8, .ref h9, .ref h10, .ref h11, .int 0, .int 0, .int 0, .int 0, .ref h12, .ref h13, .ref h14, .int 0, .int 0, .int 0, .int 0, .ref h15, .ref h16, .int 0, .ref h17, .ref h18, .int 0, .ref h19, .int 0, .ref h20, .ref h21, .ref h22, .int 0, .ref h23, .ref h24, .ref h25])), (h2, .inl (a1, 6, .inl (fun _ => 0))), (h21, .inl (a20, 6, .inl (fun _ => 0)))] sz)) 0 0 (va_A [(h0, .inr (12, [.ref h1, .ref h2, .ref h3, .ref h4, .int 0, .int 0, .ref h5, .int 0, .int 0, .int 0, .int 0, .int 0, .int 0, .int 0, .int 0, .int 0, .int 0, .int 0, .int 0, .int 0, .int (-1), .int 0, .int 0, .int 0, .ref h6, .ref h7, .ref h8, .ref h9, .ref h10, .ref h11, .int 0, .int 0, .int 0, .int 0, .ref h12, .ref h13, .ref h14, .int 0, .int 0, .int 0, .int 0, .ref h15, .ref h16, .int 0, .ref h17, .ref h18, .int 0, .ref h19, .int 0, .ref h20, .ref h21, .ref h22, .int 0, .ref h23, .ref h24, .ref h25])), (h2, .inl (a1, 6, .inl (fun _ => 0))), (h21, .inl (a20, 6, .inl (fun _ => 0)))] sz) := by
  refine Met.ofW (cc := cX12_blame) (maxL := 4) (ret := (some .int)) (by decide) rfl ?_
  intro p e s m args below meth c s₁ B hml hv
  obtain ⟨rfl, aks, rfl, Wd⟩ := k_enter hv
  have C : CallFix p m c cX12_blame 4 s _ gG RX12 := ⟨B.exec, B.bytes, hml, findClass_of_methodNamed B.named, fun w h => atoms_spec (ws := Cond.code yX12_blame cX12_blame 4 (some .int) :: gG) B.pre w (List.mem_cons_of_mem _ h)⟩
  have hr := B.returns
  have hlk := B.notSynchronized
  generalize va_A [(h0, .inr (12, [.ref h1, .ref h2, .ref h3, .ref h4, .int 0, .int 0, .ref h5, .int 0, .int 0, .int 0, .int 0, .int 0, .int 0, .int 0, .int 0, .int 0, .int 0, .int 0, .int 0, .int 0, .int (-1), .int 0, .int 0, .int 0, .ref h6, .ref h7, .ref h8, .ref h9, .ref h10, .ref h11, .int 0, .int 0, .int 0, .int 0, .ref h12, .ref h13, .ref h14, .int 0, .int 0, .int 0, .int 0, .ref h15, .ref h16, .int 0, .ref h17, .ref h18, .int 0, .ref h19, .int 0, .ref h20, .ref h21, .ref h22, .int 0, .ref h23, .ref h24, .ref h25])), (h2, .inl (a1, 6, .inl (fun _ => 0))), (h21, .inl (a20, 6, .inl (fun _ => 0)))] s.heap.size = A at Wd ⊢
  refine k_locals (Nat.le_of_ble_eq_true rfl) [(0, .ref h0), (1, .int x0), (2, .int x1)] rfl (fun ls hl => ?_)
  refine lv_iload_n C.1 C.2.1 dX12_blame_0 rfl (lv_at hl 1 rfl) ?_
  refine k_pi (k_runS (rest := []) C aks Wd cs_X12_249 (kcX12_isSlot l D x0 _ ) [] rfl (by decide) [] rfl rfl rfl ⟨(Nat.le_of_ble_eq_true rfl), (Nat.le_of_ble_eq_true rfl)⟩ hl.1 rfl rfl (Nat.le_of_ble_eq_true rfl) ⟨(Nat.le_of_ble_eq_true rfl), (Nat.le_of_ble_eq_true rfl)⟩ dX12_blame_1) (fun r w5027 => ?_)
  rcases w5027 with ⟨c5028, rfl⟩ | ⟨c5029, c5030, rfl⟩ | ⟨c5031, c5032, rfl⟩
  · refine lv_if_eq (tgt := 16) C.1 C.2.1 dX12_blame_4 (by decide) (fun _ => ?_) (fun c5033 => absurd c5033 (by decide))
    refine lv_iconst (v := (-1)) C.1 C.2.1 dX12_blame_16 (by decide) ?_
    exact k_zret C hr hlk rfl Wd () (Or.inl (⟨c5028, rfl⟩)) [] rfl (by decide) [] rfl (by decide) (by decide) dX12_blame_17
  · refine lv_if_eq (tgt := 16) C.1 C.2.1 dX12_blame_4 (by decide) (fun _ => ?_) (fun c5034 => absurd c5034 (by decide))
    refine lv_iconst (v := (-1)) C.1 C.2.1 dX12_blame_16 (by decide) ?_
    exact k_zret C hr hlk rfl Wd () (Or.inr (Or.inl (⟨c5029, c5030, rfl⟩))) [] rfl (by decide) [] rfl (by decide) (by decide) dX12_blame_17
  · refine lv_if_eq (tgt := 16) C.1 C.2.1 dX12_blame_4 (by decide) (fun c5035 => absurd c5035 (by decide)) (fun _ => ?_)
    refine lv_iload_n C.1 C.2.1 dX12_blame_7 rfl (lv_at hl 2 rfl) ?_
    refine lv_iconst (v := 0) C.1 C.2.1 dX12_blame_8 (by decide) ?_
    refine lv_iconst (v := 1) C.1 C.2.1 dX12_blame_9 (by decide) ?_
    refine k_pi (k_runS (rest := []) C aks Wd cs_X12_90 (kcX12_isIn l D x1 0 1 _ ) [] rfl (by decide) [] rfl rfl rfl ⟨(Nat.le_of_ble_eq_true rfl), (Nat.le_of_ble_eq_true rfl)⟩ hl.1 rfl rfl (Nat.le_of_ble_eq_true rfl) ⟨(Nat.le_of_ble_eq_true rfl), (Nat.le_of_ble_eq_true rfl)⟩ dX12_blame_10) (fun r w5036 => ?_)
    rcases w5036 with ⟨c5037, rfl⟩ | ⟨c5038, c5039, rfl⟩ | ⟨c5040, c5041, rfl⟩
    · refine lv_if_ne (tgt := 18) C.1 C.2.1 dX12_blame_13 (by decide) (fun c5042 => absurd c5042 (by decide)) (fun _ => ?_)
      refine lv_iconst (v := (-1)) C.1 C.2.1 dX12_blame_16 (by decide) ?_
      exact k_zret C hr hlk rfl Wd () (Or.inr (Or.inr (Or.inl (⟨c5031, c5032, c5037, rfl⟩)))) [] rfl (by decide) [] rfl (by decide) (by decide) dX12_blame_17
    · refine lv_if_ne (tgt := 18) C.1 C.2.1 dX12_blame_13 (by decide) (fun c5043 => absurd c5043 (by decide)) (fun _ => ?_)
      refine lv_iconst (v := (-1)) C.1 C.2.1 dX12_blame_16 (by decide) ?_
      exact k_zret C hr hlk rfl Wd () (Or.inr (Or.inr (Or.inr (Or.inl (⟨c5031, c5032, c5038, c5039, rfl⟩))))) [] rfl (by decide) [] rfl (by decide) (by decide) dX12_blame_17
    · refine lv_if_ne (tgt := 18) C.1 C.2.1 dX12_blame_13 (by decide) (fun _ => ?_) (fun c5044 => absurd c5044 (by decide))
      refine lv_aload_n C.1 C.2.1 dX12_blame_18 rfl (lv_at hl 0 rfl) ?_
      refine lv_iload_n C.1 C.2.1 dX12_blame_19 rfl (lv_at hl 1 rfl) ?_
      refine k_cv Wd [0, 1] [2] rfl (wr := [(h21, .inl (a20, 6, .inl (fun _ => 0)))]) rfl (by decide) (by decide) (cells' := 0) (slots' := 0) (by decide) (by decide) (k_runV (rest := []) C aks Wd cs_X12_271 (kcX12_takes l D h0 h1 h2 h3 h4 h5 h6 h7 h8 h9 h10 h11 h12 h13 h14 h15 h16 h17 h18 h19 h20 h21 h22 h23 h24 h25 x0 a1 _ c5031 c5032) [0, 1] rfl (by decide) [0] rfl 0 12 rfl rfl rfl rfl rfl ⟨(Nat.le_of_ble_eq_true rfl), (Nat.le_of_ble_eq_true rfl)⟩ hl.1 rfl rfl (Nat.le_of_ble_eq_true rfl) ⟨(Nat.le_of_ble_eq_true rfl), (Nat.le_of_ble_eq_true rfl)⟩ dX12_blame_20) (fun _ H locs w5045 Wd => ?_)
      have Wd : wX D [(a1, .int), (a20, .int)] s [(h21, .inl (a20, 6, .inl (fun _ => 0))), (h0, .inr (12, [.ref h1, .ref h2, .ref h3, .ref h4, .int 0, .int 0, .ref h5, .int 0, .int 0, .int 0, .int 0, .int 0, .int 0, .int 0, .int 0, .int 0, .int 0, .int 0, .int 0, .int 0, .int (-1), .int 0, .int 0, .int 0, .ref h6, .ref h7, .ref h8, .ref h9, .ref h10, .ref h11, .int 0, .int 0, .int 0, .int 0, .ref h12, .ref h13, .ref h14, .int 0, .int 0, .int 0, .int 0, .ref h15, .ref h16, .int 0, .ref h17, .ref h18, .int 0, .ref h19, .int 0, .ref h20, .ref h21, .ref h22, .int 0, .ref h23, .ref h24, .ref h25])), (h2, .inl (a1, 6, .inl (fun _ => 0)))] _ A s.heap _ := Wd
      refine lv_iconst (v := 0) C.1 C.2.1 dX12_blame_23 (by decide) ?_
      refine lv_istore_n (lv' := [(3, .int 0), (0, .ref h0), (1, .int x0), (2, .int x1)]) C.1 C.2.1 dX12_blame_24 rfl hl (by decide) rfl (fun ls hl => ?_)
      refine lv_iload_n C.1 C.2.1 dX12_blame_25 rfl (lv_at hl 0 rfl) ?_
      refine lv_bipush (v := 6) C.1 C.2.1 dX12_blame_26 (by decide) ?_
      refine lv_icmp_ge (tgt := 96) C.1 C.2.1 dX12_blame_28 (by decide) (fun c5046 => absurd c5046 (by decide)) (fun _ => ?_)
      refine lv_aload_n C.1 C.2.1 dX12_blame_31 rfl (lv_at hl 1 rfl) ?_
      refine k_get C Wd KX12 1 50 rfl (by decide) fl_X12_75 rfl dX12_blame_32 ?_
      refine lv_iload_n C.1 C.2.1 dX12_blame_35 rfl (lv_at hl 0 rfl) ?_
      refine k_iald (v := 0) C Wd 0 1 rfl rfl (vp_in_iff.mpr (by decide)) rfl dX12_blame_36 ?_
      refine lv_if_ne (tgt := 43) C.1 C.2.1 dX12_blame_37 (by decide) (fun c5047 => absurd c5047 (by decide)) (fun _ => ?_)
      refine lv_goto (tgt := 90) C.1 C.2.1 dX12_blame_40 (by decide) ?_
      refine lv_iinc (v := 1) (lv' := [(3, .int 1), (0, .ref h0), (1, .int x0), (2, .int x1)]) C.1 C.2.1 dX12_blame_90 hl (k := 0) rfl (by decide) (by decide) rfl (fun ls hl => ?_)
      refine lv_goto (tgt := 25) C.1 C.2.1 dX12_blame_93 (by decide) ?_
      refine lv_iload_n C.1 C.2.1 dX12_blame_25 rfl (lv_at hl 0 rfl) ?_
      refine lv_bipush (v := 6) C.1 C.2.1 dX12_blame_26 (by decide) ?_
      refine lv_icmp_ge (tgt := 96) C.1 C.2.1 dX12_blame_28 (by decide) (fun c5048 => absurd c5048 (by decide)) (fun _ => ?_)
      refine lv_aload_n C.1 C.2.1 dX12_blame_31 rfl (lv_at hl 1 rfl) ?_
      refine k_get C Wd KX12 1 50 rfl (by decide) fl_X12_75 rfl dX12_blame_32 ?_
      refine lv_iload_n C.1 C.2.1 dX12_blame_35 rfl (lv_at hl 0 rfl) ?_
      refine k_iald (v := 0) C Wd 0 1 rfl rfl (vp_in_iff.mpr (by decide)) rfl dX12_blame_36 ?_
      refine lv_if_ne (tgt := 43) C.1 C.2.1 dX12_blame_37 (by decide) (fun c5049 => absurd c5049 (by decide)) (fun _ => ?_)
      refine lv_goto (tgt := 90) C.1 C.2.1 dX12_blame_40 (by decide) ?_
      refine lv_iinc (v := 2) (lv' := [(3, .int 2), (0, .ref h0), (1, .int x0), (2, .int x1)]) C.1 C.2.1 dX12_blame_90 hl (k := 0) rfl (by decide) (by decide) rfl (fun ls hl => ?_)
      refine lv_goto (tgt := 25) C.1 C.2.1 dX12_blame_93 (by decide) ?_
      refine lv_iload_n C.1 C.2.1 dX12_blame_25 rfl (lv_at hl 0 rfl) ?_
      refine lv_bipush (v := 6) C.1 C.2.1 dX12_blame_26 (by decide) ?_
      refine lv_icmp_ge (tgt := 96) C.1 C.2.1 dX12_blame_28 (by decide) (fun c5050 => absurd c5050 (by decide)) (fun _ => ?_)
      refine lv_aload_n C.1 C.2.1 dX12_blame_31 rfl (lv_at hl 1 rfl) ?_
      refine k_get C Wd KX12 1 50 rfl (by decide) fl_X12_75 rfl dX12_blame_32 ?_
      refine lv_iload_n C.1 C.2.1 dX12_blame_35 rfl (lv_at hl 0 rfl) ?_
      refine k_iald (v := 0) C Wd 0 1 rfl rfl (vp_in_iff.mpr (by decide)) rfl dX12_blame_36 ?_
      refine lv_if_ne (tgt := 43) C.1 C.2.1 dX12_blame_37 (by decide) (fun c5051 => absurd c5051 (by decide)) (fun _ => ?_)
      refine lv_goto (tgt := 90) C.1 C.2.1 dX12_blame_40 (by decide) ?_
      refine lv_iinc (v := 3) (lv' := [(3, .int 3), (0, .ref h0), (1, .int x0), (2, .int x1)]) C.1 C.2.1 dX12_blame_90 hl (k := 0) rfl (by decide) (by decide) rfl (fun ls hl => ?_)
      refine lv_goto (tgt := 25) C.1 C.2.1 dX12_blame_93 (by decide) ?_
      refine lv_iload_n C.1 C.2.1 dX12_blame_25 rfl (lv_at hl 0 rfl) ?_
      refine lv_bipush (v := 6) C.1 C.2.1 dX12_blame_26 (by decide) ?_
      refine lv_icmp_ge (tgt := 96) C.1 C.2.1 dX12_blame_28 (by decide) (fun c5052 => absurd c5052 (by decide)) (fun _ => ?_)
      refine lv_aload_n C.1 C.2.1 dX12_blame_31 rfl (lv_at hl 1 rfl) ?_
      refine k_get C Wd KX12 1 50 rfl (by decide) fl_X12_75 rfl dX12_blame_32 ?_
      refine lv_iload_n C.1 C.2.1 dX12_blame_35 rfl (lv_at hl 0 rfl) ?_
      refine k_iald (v := 0) C Wd 0 1 rfl rfl (vp_in_iff.mpr (by decide)) rfl dX12_blame_36 ?_
      refine lv_if_ne (tgt := 43) C.1 C.2.1 dX12_blame_37 (by decide) (fun c5053 => absurd c5053 (by decide)) (fun _ => ?_)
      refine lv_goto (tgt := 90) C.1 C.2.1 dX12_blame_40 (by decide) ?_
      refine lv_iinc (v := 4) (lv' := [(3, .int 4), (0, .ref h0), (1, .int x0), (2, .int x1)]) C.1 C.2.1 dX12_blame_90 hl (k := 0) rfl (by decide) (by decide) rfl (fun ls hl => ?_)
      refine lv_goto (tgt := 25) C.1 C.2.1 dX12_blame_93 (by decide) ?_
      refine lv_iload_n C.1 C.2.1 dX12_blame_25 rfl (lv_at hl 0 rfl) ?_
      refine lv_bipush (v := 6) C.1 C.2.1 dX12_blame_26 (by decide) ?_
      refine lv_icmp_ge (tgt := 96) C.1 C.2.1 dX12_blame_28 (by decide) (fun c5054 => absurd c5054 (by decide)) (fun _ => ?_)
      refine lv_aload_n C.1 C.2.1 dX12_blame_31 rfl (lv_at hl 1 rfl) ?_
      refine k_get C Wd KX12 1 50 rfl (by decide) fl_X12_75 rfl dX12_blame_32 ?_
      refine lv_iload_n C.1 C.2.1 dX12_blame_35 rfl (lv_at hl 0 rfl) ?_
      refine k_iald (v := 0) C Wd 0 1 rfl rfl (vp_in_iff.mpr (by decide)) rfl dX12_blame_36 ?_
      refine lv_if_ne (tgt := 43) C.1 C.2.1 dX12_blame_37 (by decide) (fun c5055 => absurd c5055 (by decide)) (fun _ => ?_)
      refine lv_goto (tgt := 90) C.1 C.2.1 dX12_blame_40 (by decide) ?_
      refine lv_iinc (v := 5) (lv' := [(3, .int 5), (0, .ref h0), (1, .int x0), (2, .int x1)]) C.1 C.2.1 dX12_blame_90 hl (k := 0) rfl (by decide) (by decide) rfl (fun ls hl => ?_)
      refine lv_goto (tgt := 25) C.1 C.2.1 dX12_blame_93 (by decide) ?_
      refine lv_iload_n C.1 C.2.1 dX12_blame_25 rfl (lv_at hl 0 rfl) ?_
      refine lv_bipush (v := 6) C.1 C.2.1 dX12_blame_26 (by decide) ?_
      refine lv_icmp_ge (tgt := 96) C.1 C.2.1 dX12_blame_28 (by decide) (fun c5056 => absurd c5056 (by decide)) (fun _ => ?_)
      refine lv_aload_n C.1 C.2.1 dX12_blame_31 rfl (lv_at hl 1 rfl) ?_
      refine k_get C Wd KX12 1 50 rfl (by decide) fl_X12_75 rfl dX12_blame_32 ?_
      refine lv_iload_n C.1 C.2.1 dX12_blame_35 rfl (lv_at hl 0 rfl) ?_
      refine k_iald (v := 0) C Wd 0 1 rfl rfl (vp_in_iff.mpr (by decide)) rfl dX12_blame_36 ?_
      refine lv_if_ne (tgt := 43) C.1 C.2.1 dX12_blame_37 (by decide) (fun c5057 => absurd c5057 (by decide)) (fun _ => ?_)
      refine lv_goto (tgt := 90) C.1 C.2.1 dX12_blame_40 (by decide) ?_
      refine lv_iinc (v := 6) (lv' := [(3, .int 6), (0, .ref h0), (1, .int x0), (2, .int x1)]) C.1 C.2.1 dX12_blame_90 hl (k := 0) rfl (by decide) (by decide) rfl (fun ls hl => ?_)
      refine lv_goto (tgt := 25) C.1 C.2.1 dX12_blame_93 (by decide) ?_
      refine lv_iload_n C.1 C.2.1 dX12_blame_25 rfl (lv_at hl 0 rfl) ?_
      refine lv_bipush (v := 6) C.1 C.2.1 dX12_blame_26 (by decide) ?_
      refine lv_icmp_ge (tgt := 96) C.1 C.2.1 dX12_blame_28 (by decide) (fun _ => ?_) (fun c5058 => absurd c5058 (by decide))
      refine lv_iconst (v := (-1)) C.1 C.2.1 dX12_blame_96 (by decide) ?_
      exact k_zret C hr hlk rfl Wd () (Or.inr (Or.inr (Or.inr (Or.inr (⟨c5031, c5032, c5040, c5041, rfl⟩))))) [] rfl (by decide) [] rfl (by decide) (by decide) dX12_blame_97
set_option maxHeartbeats 4000000 in
set_option maxRecDepth 100000 in
theorem kcX12_cut (l : Launch) (D : va_G) (h0 h1 h2 h3 h4 h5 h6 h7 h8 h9 h10 h11 h12 h13 h14 h15 h16 h17 h18 h19 h20 h21 h22 h23 h24 h25 : Nat) (x0 x1 x2 : Int32) (a1 : ClassId) (sz : Nat)  : Met l yX12_cut (Cond.code yX12_cut cX12_cut 5 (some .int) :: gG) { frames := 3, cells := 0, slots := 0, locals := 106 } (cPre D [(a1, .int)] [(h0, .inr (12, [.ref h1, .ref h2, .ref h3, .ref h4, .int 0, .int 0, .ref h5, .int 0, .int 0, .int 0, .int 0, .int 0, .int 0, .int 0, .int 0, .int 0, .int 0, .int 0, .int 0, .int 0, .int (-1), .int 0, .int 0, .int 0, .ref h6, .ref h7, .ref h8, .ref h9, .ref h10, .ref h11, .int 0, .int 0, .int 0, .int 0, .ref h12, .ref h13, .ref h14, .int 0, .int 0, .int 0, .int 0, .ref h15, .ref h16, .int 0, .ref h17, .ref h18, .int 0, .ref h19, .int 0, .ref h20, .ref h21, .ref h22, .int 0, .ref h23, .ref h24, .ref h25])), (h2, .inl (a1, 6, .inl (fun _ => 0)))] sz [.ref h0, .int x0, .int x1, .int x2]) (va_Qi (fun (r : Int32) (_ : Unit) => (x0 < (0 : Int32) ∧ r = (-1)) ∨ (¬ x0 < (0 : Int32) ∧ (5 : Int32) < x0 ∧ r = (-1)) ∨ (¬ x0 < (0 : Int32) ∧ ¬ (5 : Int32) < x0 ∧ x1 < (0 : Int32) ∧ r = (-1)) ∨ (¬ x0 < (0 : Int32) ∧ ¬ (5 : Int32) < x0 ∧ ¬ x1 < (0 : Int32) ∧ (5 : Int32) < x1 ∧ r = (-1)) ∨ (¬ x0 < (0 : Int32) ∧ ¬ (5 : Int32) < x0 ∧ ¬ x1 < (0 : Int32) ∧ ¬ (5 : Int32) < x1 ∧ x2 < (0 : Int32) ∧ r = (-1)) ∨ (¬ x0 < (0 : Int32) ∧ ¬ (5 : Int32) < x0 ∧ ¬ x1 < (0 : Int32) ∧ ¬ (5 : Int32) < x1 ∧ ¬ x2 < (0 : Int32) ∧ (5 : Int32) < x2 ∧ r = (-1)) ∨ (¬ x0 < (0 : Int32) ∧ ¬ (5 : Int32) < x0 ∧ ¬ x1 < (0 : Int32) ∧ ¬ (5 : Int32) < x1 ∧ ¬ x2 < (0 : Int32) ∧ ¬ (5 : Int32) < x2 ∧ r = (-1))) (fun u t => cB D (va_A [(h0, .inr (12, [.ref h1, .ref h2, .ref h3, .ref h4, .int 0, .int 0, .ref h5, .int 0, .int 0, .int 0, .int 0, .int 0, .int 0, .int 0, .int 0, .int 0, .int 0, .int 0, .int 0, .int 0, .int (-1), .int 0, .int 0, .int 0, .ref h6, .ref h7, .ref h8, .ref h9, .ref h10, .ref h11, .int 0, .int 0, .int 0, .int 0, .ref h12, .ref h13, .ref h14, .int 0, .int 0, .int 0, .int 0, .ref h15, .ref h16, .int 0, .ref h17, .ref h18, .int 0, .ref h19, .int 0, .ref h20, .ref h21, .ref h22, .int 0, .ref h23, .ref h24, .ref h25])), (h2, .inl (a1, 6, .inl (fun _ => 0)))] sz) ((fun (_ : Unit) => ([] : List (ClassId × FieldType))) u) ((fun (_ : Unit) => ([] : va_W)) u) t) (va_A [(h0, .inr (12, [.ref h1, .ref h2, .ref h3, .ref h4, .int 0, .int 0, .ref h5, .int 0, .int 0, .int 0, .int 0, .int 0, .int 0, .int 0, .int 0, .int 0, .int 0, .int 0, .int 0, .int 0, .int (-1), .int 0, .int 0, .int 0, .ref h6, .ref h7, .ref h8, .ref h9, .ref h10, .ref h11, .int 0, .int 0, .int 0, .int 0, .ref h12, .ref h13, .ref h14, .int 0, .int 0, .int 0, .int 0, .ref h15, .ref h16, .int 0, .ref h17, .ref h18, .int 0, .ref h19, .int 0, .ref h20, .ref h21, .ref h22, .int 0, .ref h23, .ref h24, .ref h25])), (h2, .inl (a1, 6, .inl (fun _ => 0)))] sz)) 0 0 (va_A [(h0, .inr (12, [.ref h1, .ref h2, .ref h3, .ref h4, .int 0, .int 0, .ref h5, .int 0, .int 0, .int 0, .int 0, .int 0, .int 0, .int 0, .int 0, .int 0, .int 0, .int 0, .int 0, .int 0, .int (-1), .int 0, .int 0, .int 0, .ref h6, .ref h7, .ref h8, .ref h9, .ref h10, .ref h11, .int 0, .int 0, .int 0, .int 0, .ref h12, .ref h13, .ref h14, .int 0, .int 0, .int 0, .int 0, .ref h15, .ref h16, .int 0, .ref h17, .ref h18, .int 0, .ref h19, .int 0, .ref h20, .ref h21, .ref h22, .int 0, .ref h23, .ref h24, .ref h25])), (h2, .inl (a1, 6, .inl (fun _ => 0)))] sz) := by
  refine Met.ofW (cc := cX12_cut) (maxL := 5) (ret := (some .int)) (by decide) rfl ?_
  intro p e s m args below meth c s₁ B hml hv
  obtain ⟨rfl, aks, rfl, Wd⟩ := k_enter hv
  have C : CallFix p m c cX12_cut 5 s _ gG RX12 := ⟨B.exec, B.bytes, hml, findClass_of_methodNamed B.named, fun w h => atoms_spec (ws := Cond.code yX12_cut cX12_cut 5 (some .int) :: gG) B.pre w (List.mem_cons_of_mem _ h)⟩
  have hr := B.returns
  have hlk := B.notSynchronized
  generalize va_A [(h0, .inr (12, [.ref h1, .ref h2, .ref h3, .ref h4, .int 0, .int 0, .ref h5, .int 0, .int 0, .int 0, .int 0, .int 0, .int 0, .int 0, .int 0, .int 0, .int 0, .int 0, .int 0, .int 0, .int (-1), .int 0, .int 0, .int 0, .ref h6, .ref h7, .ref h8, .ref h9, .ref h10, .ref h11, .int 0, .int 0, .int 0, .int 0, .ref h12, .ref h13, .ref h14, .int 0, .int 0, .int 0, .int 0, .ref h15, .ref h16, .int 0, .ref h17, .ref h18, .int 0, .ref h19, .int 0, .ref h20, .ref h21, .ref h22, .int 0, .ref h23, .ref h24, .ref h25])), (h2, .inl (a1, 6, .inl (fun _ => 0)))] s.heap.size = A at Wd ⊢
  refine k_locals (Nat.le_of_ble_eq_true rfl) [(0, .ref h0), (1, .int x0), (2, .int x1), (3, .int x2)] rfl (fun ls hl => ?_)
  refine lv_iload_n C.1 C.2.1 dX12_cut_0 rfl (lv_at hl 1 rfl) ?_
  refine k_pi (k_runS (rest := []) C aks Wd cs_X12_423 (kcX12_isPass l D x0 _ ) [] rfl (by decide) [] rfl rfl rfl ⟨(Nat.le_of_ble_eq_true rfl), (Nat.le_of_ble_eq_true rfl)⟩ hl.1 rfl rfl (Nat.le_of_ble_eq_true rfl) ⟨(Nat.le_of_ble_eq_true rfl), (Nat.le_of_ble_eq_true rfl)⟩ dX12_cut_1) (fun r w5095 => ?_)
  rcases w5095 with ⟨c5096, rfl⟩ | ⟨c5097, c5098, rfl⟩ | ⟨c5099, c5100, rfl⟩
  · refine lv_if_eq (tgt := 21) C.1 C.2.1 dX12_cut_4 (by decide) (fun _ => ?_) (fun c5101 => absurd c5101 (by decide))
    refine lv_iconst (v := (-1)) C.1 C.2.1 dX12_cut_21 (by decide) ?_
    exact k_zret C hr hlk rfl Wd () (Or.inl (⟨c5096, rfl⟩)) [] rfl (by decide) [] rfl (by decide) (by decide) dX12_cut_22
  · refine lv_if_eq (tgt := 21) C.1 C.2.1 dX12_cut_4 (by decide) (fun _ => ?_) (fun c5102 => absurd c5102 (by decide))
    refine lv_iconst (v := (-1)) C.1 C.2.1 dX12_cut_21 (by decide) ?_
    exact k_zret C hr hlk rfl Wd () (Or.inr (Or.inl (⟨c5097, c5098, rfl⟩))) [] rfl (by decide) [] rfl (by decide) (by decide) dX12_cut_22
  · refine lv_if_eq (tgt := 21) C.1 C.2.1 dX12_cut_4 (by decide) (fun c5103 => absurd c5103 (by decide)) (fun _ => ?_)
    refine lv_iload_n C.1 C.2.1 dX12_cut_7 rfl (lv_at hl 2 rfl) ?_
    refine k_pi (k_runS (rest := []) C aks Wd cs_X12_249 (kcX12_isSlot l D x1 _ ) [] rfl (by decide) [] rfl rfl rfl ⟨(Nat.le_of_ble_eq_true rfl), (Nat.le_of_ble_eq_true rfl)⟩ hl.1 rfl rfl (Nat.le_of_ble_eq_true rfl) ⟨(Nat.le_of_ble_eq_true rfl), (Nat.le_of_ble_eq_true rfl)⟩ dX12_cut_8) (fun r w5104 => ?_)
    rcases w5104 with ⟨c5105, rfl⟩ | ⟨c5106, c5107, rfl⟩ | ⟨c5108, c5109, rfl⟩
    · refine lv_if_eq (tgt := 21) C.1 C.2.1 dX12_cut_11 (by decide) (fun _ => ?_) (fun c5110 => absurd c5110 (by decide))
      refine lv_iconst (v := (-1)) C.1 C.2.1 dX12_cut_21 (by decide) ?_
      exact k_zret C hr hlk rfl Wd () (Or.inr (Or.inr (Or.inl (⟨c5099, c5100, c5105, rfl⟩)))) [] rfl (by decide) [] rfl (by decide) (by decide) dX12_cut_22
    · refine lv_if_eq (tgt := 21) C.1 C.2.1 dX12_cut_11 (by decide) (fun _ => ?_) (fun c5111 => absurd c5111 (by decide))
      refine lv_iconst (v := (-1)) C.1 C.2.1 dX12_cut_21 (by decide) ?_
      exact k_zret C hr hlk rfl Wd () (Or.inr (Or.inr (Or.inr (Or.inl (⟨c5099, c5100, c5106, c5107, rfl⟩))))) [] rfl (by decide) [] rfl (by decide) (by decide) dX12_cut_22
    · refine lv_if_eq (tgt := 21) C.1 C.2.1 dX12_cut_11 (by decide) (fun c5112 => absurd c5112 (by decide)) (fun _ => ?_)
      refine lv_iload_n C.1 C.2.1 dX12_cut_14 rfl (lv_at hl 3 rfl) ?_
      refine k_pi (k_runS (rest := []) C aks Wd cs_X12_249 (kcX12_isSlot l D x2 _ ) [] rfl (by decide) [] rfl rfl rfl ⟨(Nat.le_of_ble_eq_true rfl), (Nat.le_of_ble_eq_true rfl)⟩ hl.1 rfl rfl (Nat.le_of_ble_eq_true rfl) ⟨(Nat.le_of_ble_eq_true rfl), (Nat.le_of_ble_eq_true rfl)⟩ dX12_cut_15) (fun r w5113 => ?_)
      rcases w5113 with ⟨c5114, rfl⟩ | ⟨c5115, c5116, rfl⟩ | ⟨c5117, c5118, rfl⟩
      · refine lv_if_ne (tgt := 23) C.1 C.2.1 dX12_cut_18 (by decide) (fun c5119 => absurd c5119 (by decide)) (fun _ => ?_)
        refine lv_iconst (v := (-1)) C.1 C.2.1 dX12_cut_21 (by decide) ?_
        exact k_zret C hr hlk rfl Wd () (Or.inr (Or.inr (Or.inr (Or.inr (Or.inl (⟨c5099, c5100, c5108, c5109, c5114, rfl⟩)))))) [] rfl (by decide) [] rfl (by decide) (by decide) dX12_cut_22
      · refine lv_if_ne (tgt := 23) C.1 C.2.1 dX12_cut_18 (by decide) (fun c5120 => absurd c5120 (by decide)) (fun _ => ?_)
        refine lv_iconst (v := (-1)) C.1 C.2.1 dX12_cut_21 (by decide) ?_
        exact k_zret C hr hlk rfl Wd () (Or.inr (Or.inr (Or.inr (Or.inr (Or.inr (Or.inl (⟨c5099, c5100, c5108, c5109, c5115, c5116, rfl⟩))))))) [] rfl (by decide) [] rfl (by decide) (by decide) dX12_cut_22
      · refine lv_if_ne (tgt := 23) C.1 C.2.1 dX12_cut_18 (by decide) (fun _ => ?_) (fun c5121 => absurd c5121 (by decide))
        refine lv_aload_n C.1 C.2.1 dX12_cut_23 rfl (lv_at hl 0 rfl) ?_
        refine lv_iload_n C.1 C.2.1 dX12_cut_24 rfl (lv_at hl 2 rfl) ?_
        refine k_cv Wd [0, 1] [] rfl (wr := []) rfl (by decide) (by decide) (cells' := 0) (slots' := 0) (by decide) (by decide) (k_runV (rest := []) C aks Wd cs_X12_271 (kcX12_takes l D h0 h1 h2 h3 h4 h5 h6 h7 h8 h9 h10 h11 h12 h13 h14 h15 h16 h17 h18 h19 h20 h21 h22 h23 h24 h25 x1 a1 _ c5108 c5109) [0, 1] rfl (by decide) [0] rfl 0 12 rfl rfl rfl rfl rfl ⟨(Nat.le_of_ble_eq_true rfl), (Nat.le_of_ble_eq_true rfl)⟩ hl.1 rfl rfl (Nat.le_of_ble_eq_true rfl) ⟨(Nat.le_of_ble_eq_true rfl), (Nat.le_of_ble_eq_true rfl)⟩ dX12_cut_25) (fun _ H locs w5122 Wd => ?_)
        have Wd : wX D [(a1, .int)] s [(h0, .inr (12, [.ref h1, .ref h2, .ref h3, .ref h4, .int 0, .int 0, .ref h5, .int 0, .int 0, .int 0, .int 0, .int 0, .int 0, .int 0, .int 0, .int 0, .int 0, .int 0, .int 0, .int 0, .int (-1), .int 0, .int 0, .int 0, .ref h6, .ref h7, .ref h8, .ref h9, .ref h10, .ref h11, .int 0, .int 0, .int 0, .int 0, .ref h12, .ref h13, .ref h14, .int 0, .int 0, .int 0, .int 0, .ref h15, .ref h16, .int 0, .ref h17, .ref h18, .int 0, .ref h19, .int 0, .ref h20, .ref h21, .ref h22, .int 0, .ref h23, .ref h24, .ref h25])), (h2, .inl (a1, 6, .inl (fun _ => 0)))] _ A s.heap _ := Wd
        refine lv_aload_n C.1 C.2.1 dX12_cut_28 rfl (lv_at hl 0 rfl) ?_
        refine k_pi (k_runV (rest := []) C aks Wd cs_X12_265 (kcX12_statements_v1 l D h0 h1 h2 h3 h4 h5 h6 h7 h8 h9 h10 h11 h12 h13 h14 h15 h16 h17 h18 h19 h20 h21 h22 h23 h24 h25 _ ) [0] rfl (by decide) [] rfl 0 12 rfl rfl rfl rfl rfl ⟨(Nat.le_of_ble_eq_true rfl), (Nat.le_of_ble_eq_true rfl)⟩ hl.1 rfl rfl (Nat.le_of_ble_eq_true rfl) ⟨(Nat.le_of_ble_eq_true rfl), (Nat.le_of_ble_eq_true rfl)⟩ dX12_cut_29) (fun r w5123 => ?_)
        obtain rfl := w5123
        refine lv_iconst (v := 1) C.1 C.2.1 dX12_cut_32 (by decide) ?_
        refine lv_bipush (v := 12) C.1 C.2.1 dX12_cut_33 (by decide) ?_
        refine k_pi (k_runS (rest := []) C aks Wd cs_X12_90 (kcX12_isIn l D 0 1 12 _ ) [] rfl (by decide) [] rfl rfl rfl ⟨(Nat.le_of_ble_eq_true rfl), (Nat.le_of_ble_eq_true rfl)⟩ hl.1 rfl rfl (Nat.le_of_ble_eq_true rfl) ⟨(Nat.le_of_ble_eq_true rfl), (Nat.le_of_ble_eq_true rfl)⟩ dX12_cut_35) (fun r w5124 => ?_)
        rcases w5124 with ⟨c5125, rfl⟩ | ⟨c5126, c5127, rfl⟩ | ⟨c5128, c5129, rfl⟩
        · refine lv_if_ne (tgt := 43) C.1 C.2.1 dX12_cut_38 (by decide) (fun c5130 => absurd c5130 (by decide)) (fun _ => ?_)
          refine lv_iconst (v := (-1)) C.1 C.2.1 dX12_cut_41 (by decide) ?_
          exact k_zret C hr hlk rfl Wd () (Or.inr (Or.inr (Or.inr (Or.inr (Or.inr (Or.inr (⟨c5099, c5100, c5108, c5109, c5117, c5118, rfl⟩))))))) [] rfl (by decide) [] rfl (by decide) (by decide) dX12_cut_42
        · exact absurd c5126 (by decide)
        · exact absurd c5128 (by decide)
set_option maxHeartbeats 4000000 in
set_option maxRecDepth 100000 in
theorem kcX12_clashFrom (l : Launch) (D : va_G) (h0 h1 h2 h3 h4 h5 h6 h7 h8 h9 h10 h11 h12 h13 h14 h15 h16 h17 h18 h19 h20 h21 h22 h23 h24 h25 : Nat) (sz : Nat)  : Met l yX12_clashFrom (Cond.code yX12_clashFrom cX12_clashFrom 7 none :: gG) { frames := 2, cells := 0, slots := 0, locals := 85 } (cPre D [] [(h0, .inr (12, [.ref h1, .ref h2, .ref h3, .ref h4, .int 0, .int 0, .ref h5, .int 0, .int 0, .int 0, .int 0, .int 0, .int 0, .int 0, .int 0, .int 0, .int 0, .int 0, .int 0, .int 0, .int (-1), .int 0, .int 0, .int 0, .ref h6, .ref h7, .ref h8, .ref h9, .ref h10, .ref h11, .int 0, .int 0, .int 0, .int 0, .ref h12, .ref h13, .ref h14, .int 0, .int 0, .int 0, .int 0, .ref h15, .ref h16, .int 0, .ref h17, .ref h18, .int 0, .ref h19, .int 0, .ref h20, .ref h21, .ref h22, .int 0, .ref h23, .ref h24, .ref h25]))] sz [.ref h0, .int 0, .int 0]) (va_Sv (fun _ => True)) 0 0 (fun _ => False) := by
  refine Met.ofW (cc := cX12_clashFrom) (maxL := 7) (ret := none) (by decide) rfl ?_
  intro p e s m args below meth c s₁ B hml hv
  obtain ⟨rfl, aks, rfl, Wd⟩ := k_enter hv
  have C : CallFix p m c cX12_clashFrom 7 s _ gG RX12 := ⟨B.exec, B.bytes, hml, findClass_of_methodNamed B.named, fun w h => atoms_spec (ws := Cond.code yX12_clashFrom cX12_clashFrom 7 none :: gG) B.pre w (List.mem_cons_of_mem _ h)⟩
  have hr := B.returns
  have hlk := B.notSynchronized
  obtain ⟨A, Wd⟩ : ∃ A, wX D [] s [(h0, .inr (12, [.ref h1, .ref h2, .ref h3, .ref h4, .int 0, .int 0, .ref h5, .int 0, .int 0, .int 0, .int 0, .int 0, .int 0, .int 0, .int 0, .int 0, .int 0, .int 0, .int 0, .int 0, .int (-1), .int 0, .int 0, .int 0, .ref h6, .ref h7, .ref h8, .ref h9, .ref h10, .ref h11, .int 0, .int 0, .int 0, .int 0, .ref h12, .ref h13, .ref h14, .int 0, .int 0, .int 0, .int 0, .ref h15, .ref h16, .int 0, .ref h17, .ref h18, .int 0, .ref h19, .int 0, .ref h20, .ref h21, .ref h22, .int 0, .ref h23, .ref h24, .ref h25]))] s.heap A s.heap [] := ⟨_, Wd⟩
  refine k_locals (Nat.le_of_ble_eq_true rfl) [(0, .ref h0), (1, .int 0), (2, .int 0)] rfl (fun ls hl => ?_)
  refine lv_iload_n C.1 C.2.1 dX12_clashFrom_0 rfl (lv_at hl 1 rfl) ?_
  refine lv_istore_n (lv' := [(3, .int 0), (0, .ref h0), (1, .int 0), (2, .int 0)]) C.1 C.2.1 dX12_clashFrom_1 rfl hl (by decide) rfl (fun ls hl => ?_)
  refine lv_aload_n C.1 C.2.1 dX12_clashFrom_2 rfl (lv_at hl 1 rfl) ?_
  refine lv_iload_n C.1 C.2.1 dX12_clashFrom_3 rfl (lv_at hl 0 rfl) ?_
  refine k_pi (k_runV (rest := []) C aks Wd cs_X12_107 (kcX12_isLast l D h0 h1 h2 h3 h4 h5 h6 h7 h8 h9 h10 h11 h12 h13 h14 h15 h16 h17 h18 h19 h20 h21 h22 h23 h24 h25 _ ) [0] rfl (by decide) [] rfl 0 12 rfl rfl rfl rfl rfl ⟨(Nat.le_of_ble_eq_true rfl), (Nat.le_of_ble_eq_true rfl)⟩ hl.1 rfl rfl (Nat.le_of_ble_eq_true rfl) ⟨(Nat.le_of_ble_eq_true rfl), (Nat.le_of_ble_eq_true rfl)⟩ dX12_clashFrom_4) (fun r w5151 => ?_)
  obtain rfl := w5151
  refine lv_if_ne (tgt := 150) C.1 C.2.1 dX12_clashFrom_7 (by decide) (fun _ => ?_) (fun c5152 => absurd c5152 (by decide))
  exact k_vretP C hr hlk trivial dX12_clashFrom_150
set_option maxHeartbeats 4000000 in
set_option maxRecDepth 100000 in
theorem kcX12_clashIn (l : Launch) (D : va_G) (h0 h1 h2 h3 h4 h5 h6 h7 h8 h9 h10 h11 h12 h13 h14 h15 h16 h17 h18 h19 h20 h21 h22 h23 h24 h25 : Nat) (x0 : Int32) (a1 a23 : ClassId) (sz : Nat)  (as0 : ¬ x0 < (0 : Int32)) (as1 : ¬ (5 : Int32) < x0): Met l yX12_clashIn (Cond.code yX12_clashIn cX12_clashIn 3 none :: gG) { frames := 3, cells := 0, slots := 0, locals := 111 } (cPre D [(a1, .int), (a23, .int)] [(h0, .inr (12, [.ref h1, .ref h2, .ref h3, .ref h4, .int 0, .int 0, .ref h5, .int 0, .int 0, .int 0, .int 0, .int 0, .int 0, .int 0, .int 0, .int 0, .int 0, .int 0, .int 0, .int 0, .int (-1), .int 0, .int 0, .int 0, .ref h6, .ref h7, .ref h8, .ref h9, .ref h10, .ref h11, .int 0, .int 0, .int 0, .int 0, .ref h12, .ref h13, .ref h14, .int 0, .int 0, .int 0, .int 0, .ref h15, .ref h16, .int 0, .ref h17, .ref h18, .int 0, .ref h19, .int 0, .ref h20, .ref h21, .ref h22, .int 0, .ref h23, .ref h24, .ref h25])), (h2, .inl (a1, 6, .inl (fun _ => 0))), (h24, .inl (a23, 6, .inl (fun _ => 0)))] sz [.ref h0, .int x0]) (va_Qv (fun (_ : Unit) => True) (fun u t => cB D (va_A [(h0, .inr (12, [.ref h1, .ref h2, .ref h3, .ref h4, .int 0, .int 0, .ref h5, .int 0, .int 0, .int 0, .int 0, .int 0, .int 0, .int 0, .int 0, .int 0, .int 0, .int 0, .int 0, .int 0, .int (-1), .int 0, .int 0, .int 0, .ref h6, .ref h7, .ref h8, .ref h9, .ref h10, .ref h11, .int 0, .int 0, .int 0, .int 0, .ref h12, .ref h13, .ref h14, .int 0, .int 0, .int 0, .int 0, .ref h15, .ref h16, .int 0, .ref h17, .ref h18, .int 0, .ref h19, .int 0, .ref h20, .ref h21, .ref h22, .int 0, .ref h23, .ref h24, .ref h25])), (h2, .inl (a1, 6, .inl (fun _ => 0))), (h24, .inl (a23, 6, .inl (fun _ => 0)))] sz) ((fun (_ : Unit) => ([] : List (ClassId × FieldType))) u) ((fun (_ : Unit) => ([(h0, .inr (12, [.ref h1, .ref h2, .ref h3, .ref h4, .int 0, .int 0, .ref h5, .int 0, .int 0, .int 0, .int 0, .int 0, .int 0, .int 0, .int 0, .int 0, .int 0, .int 0, .int 0, .int 0, .int (-1), .int 0, .int 0, .int 0, .ref h6, .ref h7, .ref h8, .ref h9, .ref h10, .ref h11, .int 0, .int 0, .int 0, .int 0, .ref h12, .ref h13, .ref h14, .int 0, .int 0, .int 0, .int 0, .ref h15, .ref h16, .int 0, .ref h17, .ref h18, .int 0, .ref h19, .int 0, .ref h20, .ref h21, .ref h22, .int 0, .ref h23, .ref h24, .ref h25])), (h2, .inl (a1, 6, .inl (fun _ => 0))), (h24, .inl (a23, 6, .inl (fun _ => 0)))] : va_W)) u) t) (va_A [(h0, .inr (12, [.ref h1, .ref h2, .ref h3, .ref h4, .int 0, .int 0, .ref h5, .int 0, .int 0, .int 0, .int 0, .int 0, .int 0, .int 0, .int 0, .int 0, .int 0, .int 0, .int 0, .int 0, .int (-1), .int 0, .int 0, .int 0, .ref h6, .ref h7, .ref h8, .ref h9, .ref h10, .ref h11, .int 0, .int 0, .int 0, .int 0, .ref h12, .ref h13, .ref h14, .int 0, .int 0, .int 0, .int 0, .ref h15, .ref h16, .int 0, .ref h17, .ref h18, .int 0, .ref h19, .int 0, .ref h20, .ref h21, .ref h22, .int 0, .ref h23, .ref h24, .ref h25])), (h2, .inl (a1, 6, .inl (fun _ => 0))), (h24, .inl (a23, 6, .inl (fun _ => 0)))] sz)) 0 0 (va_A [(h0, .inr (12, [.ref h1, .ref h2, .ref h3, .ref h4, .int 0, .int 0, .ref h5, .int 0, .int 0, .int 0, .int 0, .int 0, .int 0, .int 0, .int 0, .int 0, .int 0, .int 0, .int 0, .int 0, .int (-1), .int 0, .int 0, .int 0, .ref h6, .ref h7, .ref h8, .ref h9, .ref h10, .ref h11, .int 0, .int 0, .int 0, .int 0, .ref h12, .ref h13, .ref h14, .int 0, .int 0, .int 0, .int 0, .ref h15, .ref h16, .int 0, .ref h17, .ref h18, .int 0, .ref h19, .int 0, .ref h20, .ref h21, .ref h22, .int 0, .ref h23, .ref h24, .ref h25])), (h2, .inl (a1, 6, .inl (fun _ => 0))), (h24, .inl (a23, 6, .inl (fun _ => 0)))] sz) := by
  refine Met.ofW (cc := cX12_clashIn) (maxL := 3) (ret := none) (by decide) rfl ?_
  intro p e s m args below meth c s₁ B hml hv
  obtain ⟨rfl, aks, rfl, Wd⟩ := k_enter hv
  have C : CallFix p m c cX12_clashIn 3 s _ gG RX12 := ⟨B.exec, B.bytes, hml, findClass_of_methodNamed B.named, fun w h => atoms_spec (ws := Cond.code yX12_clashIn cX12_clashIn 3 none :: gG) B.pre w (List.mem_cons_of_mem _ h)⟩
  have hr := B.returns
  have hlk := B.notSynchronized
  generalize va_A [(h0, .inr (12, [.ref h1, .ref h2, .ref h3, .ref h4, .int 0, .int 0, .ref h5, .int 0, .int 0, .int 0, .int 0, .int 0, .int 0, .int 0, .int 0, .int 0, .int 0, .int 0, .int 0, .int 0, .int (-1), .int 0, .int 0, .int 0, .ref h6, .ref h7, .ref h8, .ref h9, .ref h10, .ref h11, .int 0, .int 0, .int 0, .int 0, .ref h12, .ref h13, .ref h14, .int 0, .int 0, .int 0, .int 0, .ref h15, .ref h16, .int 0, .ref h17, .ref h18, .int 0, .ref h19, .int 0, .ref h20, .ref h21, .ref h22, .int 0, .ref h23, .ref h24, .ref h25])), (h2, .inl (a1, 6, .inl (fun _ => 0))), (h24, .inl (a23, 6, .inl (fun _ => 0)))] s.heap.size = A at Wd ⊢
  refine k_locals (Nat.le_of_ble_eq_true rfl) [(0, .ref h0), (1, .int x0)] rfl (fun ls hl => ?_)
  refine lv_aload_n C.1 C.2.1 dX12_clashIn_0 rfl (lv_at hl 0 rfl) ?_
  refine lv_iload_n C.1 C.2.1 dX12_clashIn_1 rfl (lv_at hl 1 rfl) ?_
  refine k_cv Wd [0, 1] [2] rfl (wr := [(h24, .inl (a23, 6, .inl (fun _ => 0)))]) rfl (by decide) (by decide) (cells' := 0) (slots' := 0) (by decide) (by decide) (k_runV (rest := []) C aks Wd cs_X12_271 (kcX12_takes l D h0 h1 h2 h3 h4 h5 h6 h7 h8 h9 h10 h11 h12 h13 h14 h15 h16 h17 h18 h19 h20 h21 h22 h23 h24 h25 x0 a1 _ as0 as1) [0, 1] rfl (by decide) [0] rfl 0 12 rfl rfl rfl rfl rfl ⟨(Nat.le_of_ble_eq_true rfl), (Nat.le_of_ble_eq_true rfl)⟩ hl.1 rfl rfl (Nat.le_of_ble_eq_true rfl) ⟨(Nat.le_of_ble_eq_true rfl), (Nat.le_of_ble_eq_true rfl)⟩ dX12_clashIn_2) (fun _ H locs w5154 Wd => ?_)
  have Wd : wX D [(a1, .int), (a23, .int)] s [(h24, .inl (a23, 6, .inl (fun _ => 0))), (h0, .inr (12, [.ref h1, .ref h2, .ref h3, .ref h4, .int 0, .int 0, .ref h5, .int 0, .int 0, .int 0, .int 0, .int 0, .int 0, .int 0, .int 0, .int 0, .int 0, .int 0, .int 0, .int 0, .int (-1), .int 0, .int 0, .int 0, .ref h6, .ref h7, .ref h8, .ref h9, .ref h10, .ref h11, .int 0, .int 0, .int 0, .int 0, .ref h12, .ref h13, .ref h14, .int 0, .int 0, .int 0, .int 0, .ref h15, .ref h16, .int 0, .ref h17, .ref h18, .int 0, .ref h19, .int 0, .ref h20, .ref h21, .ref h22, .int 0, .ref h23, .ref h24, .ref h25])), (h2, .inl (a1, 6, .inl (fun _ => 0)))] _ A s.heap _ := Wd
  refine lv_iconst (v := 0) C.1 C.2.1 dX12_clashIn_5 (by decide) ?_
  refine lv_istore_n (lv' := [(2, .int 0), (0, .ref h0), (1, .int x0)]) C.1 C.2.1 dX12_clashIn_6 rfl hl (by decide) rfl (fun ls hl => ?_)
  refine lv_iload_n C.1 C.2.1 dX12_clashIn_7 rfl (lv_at hl 0 rfl) ?_
  refine lv_bipush (v := 6) C.1 C.2.1 dX12_clashIn_8 (by decide) ?_
  refine lv_icmp_ge (tgt := 26) C.1 C.2.1 dX12_clashIn_10 (by decide) (fun c5155 => absurd c5155 (by decide)) (fun _ => ?_)
  refine lv_aload_n C.1 C.2.1 dX12_clashIn_13 rfl (lv_at hl 1 rfl) ?_
  refine k_get C Wd KX12 1 54 rfl (by decide) fl_X12_84 rfl dX12_clashIn_14 ?_
  refine lv_iload_n C.1 C.2.1 dX12_clashIn_17 rfl (lv_at hl 0 rfl) ?_
  refine lv_iconst (v := 0) C.1 C.2.1 dX12_clashIn_18 (by decide) ?_
  refine k_iast C Wd 0 1 [(h24, .inl (a23, 6, .inl (fun _ => 0))), (h0, .inr (12, [.ref h1, .ref h2, .ref h3, .ref h4, .int 0, .int 0, .ref h5, .int 0, .int 0, .int 0, .int 0, .int 0, .int 0, .int 0, .int 0, .int 0, .int 0, .int 0, .int 0, .int 0, .int (-1), .int 0, .int 0, .int 0, .ref h6, .ref h7, .ref h8, .ref h9, .ref h10, .ref h11, .int 0, .int 0, .int 0, .int 0, .ref h12, .ref h13, .ref h14, .int 0, .int 0, .int 0, .int 0, .ref h15, .ref h16, .int 0, .ref h17, .ref h18, .int 0, .ref h19, .int 0, .ref h20, .ref h21, .ref h22, .int 0, .ref h23, .ref h24, .ref h25])), (h2, .inl (a1, 6, .inl (fun _ => 0)))] rfl rfl (vp_in_iff.mpr (by decide)) (upd0 _) rfl dX12_clashIn_19 (fun H locs Wd => ?_)
  refine lv_iinc (v := 1) (lv' := [(2, .int 1), (0, .ref h0), (1, .int x0)]) C.1 C.2.1 dX12_clashIn_20 hl (k := 0) rfl (by decide) (by decide) rfl (fun ls hl => ?_)
  refine lv_goto (tgt := 7) C.1 C.2.1 dX12_clashIn_23 (by decide) ?_
  refine lv_iload_n C.1 C.2.1 dX12_clashIn_7 rfl (lv_at hl 0 rfl) ?_
  refine lv_bipush (v := 6) C.1 C.2.1 dX12_clashIn_8 (by decide) ?_
  refine lv_icmp_ge (tgt := 26) C.1 C.2.1 dX12_clashIn_10 (by decide) (fun c5156 => absurd c5156 (by decide)) (fun _ => ?_)
  refine lv_aload_n C.1 C.2.1 dX12_clashIn_13 rfl (lv_at hl 1 rfl) ?_
  refine k_get C Wd KX12 1 54 rfl (by decide) fl_X12_84 rfl dX12_clashIn_14 ?_
  refine lv_iload_n C.1 C.2.1 dX12_clashIn_17 rfl (lv_at hl 0 rfl) ?_
  refine lv_iconst (v := 0) C.1 C.2.1 dX12_clashIn_18 (by decide) ?_
  refine k_iast C Wd 0 1 [(h24, .inl (a23, 6, .inl (fun _ => 0))), (h0, .inr (12, [.ref h1, .ref h2, .ref h3, .ref h4, .int 0, .int 0, .ref h5, .int 0, .int 0, .int 0, .int 0, .int 0, .int 0, .int 0, .int 0, .int 0, .int 0, .int 0, .int 0, .int 0, .int (-1), .int 0, .int 0, .int 0, .ref h6, .ref h7, .ref h8, .ref h9, .ref h10, .ref h11, .int 0, .int 0, .int 0, .int 0, .ref h12, .ref h13, .ref h14, .int 0, .int 0, .int 0, .int 0, .ref h15, .ref h16, .int 0, .ref h17, .ref h18, .int 0, .ref h19, .int 0, .ref h20, .ref h21, .ref h22, .int 0, .ref h23, .ref h24, .ref h25])), (h2, .inl (a1, 6, .inl (fun _ => 0)))] rfl rfl (vp_in_iff.mpr (by decide)) (upd0 _) rfl dX12_clashIn_19 (fun H locs Wd => ?_)
  refine lv_iinc (v := 2) (lv' := [(2, .int 2), (0, .ref h0), (1, .int x0)]) C.1 C.2.1 dX12_clashIn_20 hl (k := 0) rfl (by decide) (by decide) rfl (fun ls hl => ?_)
  refine lv_goto (tgt := 7) C.1 C.2.1 dX12_clashIn_23 (by decide) ?_
  refine lv_iload_n C.1 C.2.1 dX12_clashIn_7 rfl (lv_at hl 0 rfl) ?_
  refine lv_bipush (v := 6) C.1 C.2.1 dX12_clashIn_8 (by decide) ?_
  refine lv_icmp_ge (tgt := 26) C.1 C.2.1 dX12_clashIn_10 (by decide) (fun c5157 => absurd c5157 (by decide)) (fun _ => ?_)
  refine lv_aload_n C.1 C.2.1 dX12_clashIn_13 rfl (lv_at hl 1 rfl) ?_
  refine k_get C Wd KX12 1 54 rfl (by decide) fl_X12_84 rfl dX12_clashIn_14 ?_
  refine lv_iload_n C.1 C.2.1 dX12_clashIn_17 rfl (lv_at hl 0 rfl) ?_
  refine lv_iconst (v := 0) C.1 C.2.1 dX12_clashIn_18 (by decide) ?_
  refine k_iast C Wd 0 1 [(h24, .inl (a23, 6, .inl (fun _ => 0))), (h0, .inr (12, [.ref h1, .ref h2, .ref h3, .ref h4, .int 0, .int 0, .ref h5, .int 0, .int 0, .int 0, .int 0, .int 0, .int 0, .int 0, .int 0, .int 0, .int 0, .int 0, .int 0, .int 0, .int (-1), .int 0, .int 0, .int 0, .ref h6, .ref h7, .ref h8, .ref h9, .ref h10, .ref h11, .int 0, .int 0, .int 0, .int 0, .ref h12, .ref h13, .ref h14, .int 0, .int 0, .int 0, .int 0, .ref h15, .ref h16, .int 0, .ref h17, .ref h18, .int 0, .ref h19, .int 0, .ref h20, .ref h21, .ref h22, .int 0, .ref h23, .ref h24, .ref h25])), (h2, .inl (a1, 6, .inl (fun _ => 0)))] rfl rfl (vp_in_iff.mpr (by decide)) (upd0 _) rfl dX12_clashIn_19 (fun H locs Wd => ?_)
  refine lv_iinc (v := 3) (lv' := [(2, .int 3), (0, .ref h0), (1, .int x0)]) C.1 C.2.1 dX12_clashIn_20 hl (k := 0) rfl (by decide) (by decide) rfl (fun ls hl => ?_)
  refine lv_goto (tgt := 7) C.1 C.2.1 dX12_clashIn_23 (by decide) ?_
  refine lv_iload_n C.1 C.2.1 dX12_clashIn_7 rfl (lv_at hl 0 rfl) ?_
  refine lv_bipush (v := 6) C.1 C.2.1 dX12_clashIn_8 (by decide) ?_
  refine lv_icmp_ge (tgt := 26) C.1 C.2.1 dX12_clashIn_10 (by decide) (fun c5158 => absurd c5158 (by decide)) (fun _ => ?_)
  refine lv_aload_n C.1 C.2.1 dX12_clashIn_13 rfl (lv_at hl 1 rfl) ?_
  refine k_get C Wd KX12 1 54 rfl (by decide) fl_X12_84 rfl dX12_clashIn_14 ?_
  refine lv_iload_n C.1 C.2.1 dX12_clashIn_17 rfl (lv_at hl 0 rfl) ?_
  refine lv_iconst (v := 0) C.1 C.2.1 dX12_clashIn_18 (by decide) ?_
  refine k_iast C Wd 0 1 [(h24, .inl (a23, 6, .inl (fun _ => 0))), (h0, .inr (12, [.ref h1, .ref h2, .ref h3, .ref h4, .int 0, .int 0, .ref h5, .int 0, .int 0, .int 0, .int 0, .int 0, .int 0, .int 0, .int 0, .int 0, .int 0, .int 0, .int 0, .int 0, .int (-1), .int 0, .int 0, .int 0, .ref h6, .ref h7, .ref h8, .ref h9, .ref h10, .ref h11, .int 0, .int 0, .int 0, .int 0, .ref h12, .ref h13, .ref h14, .int 0, .int 0, .int 0, .int 0, .ref h15, .ref h16, .int 0, .ref h17, .ref h18, .int 0, .ref h19, .int 0, .ref h20, .ref h21, .ref h22, .int 0, .ref h23, .ref h24, .ref h25])), (h2, .inl (a1, 6, .inl (fun _ => 0)))] rfl rfl (vp_in_iff.mpr (by decide)) (upd0 _) rfl dX12_clashIn_19 (fun H locs Wd => ?_)
  refine lv_iinc (v := 4) (lv' := [(2, .int 4), (0, .ref h0), (1, .int x0)]) C.1 C.2.1 dX12_clashIn_20 hl (k := 0) rfl (by decide) (by decide) rfl (fun ls hl => ?_)
  refine lv_goto (tgt := 7) C.1 C.2.1 dX12_clashIn_23 (by decide) ?_
  refine lv_iload_n C.1 C.2.1 dX12_clashIn_7 rfl (lv_at hl 0 rfl) ?_
  refine lv_bipush (v := 6) C.1 C.2.1 dX12_clashIn_8 (by decide) ?_
  refine lv_icmp_ge (tgt := 26) C.1 C.2.1 dX12_clashIn_10 (by decide) (fun c5159 => absurd c5159 (by decide)) (fun _ => ?_)
  refine lv_aload_n C.1 C.2.1 dX12_clashIn_13 rfl (lv_at hl 1 rfl) ?_
  refine k_get C Wd KX12 1 54 rfl (by decide) fl_X12_84 rfl dX12_clashIn_14 ?_
  refine lv_iload_n C.1 C.2.1 dX12_clashIn_17 rfl (lv_at hl 0 rfl) ?_
  refine lv_iconst (v := 0) C.1 C.2.1 dX12_clashIn_18 (by decide) ?_
  refine k_iast C Wd 0 1 [(h24, .inl (a23, 6, .inl (fun _ => 0))), (h0, .inr (12, [.ref h1, .ref h2, .ref h3, .ref h4, .int 0, .int 0, .ref h5, .int 0, .int 0, .int 0, .int 0, .int 0, .int 0, .int 0, .int 0, .int 0, .int 0, .int 0, .int 0, .int 0, .int (-1), .int 0, .int 0, .int 0, .ref h6, .ref h7, .ref h8, .ref h9, .ref h10, .ref h11, .int 0, .int 0, .int 0, .int 0, .ref h12, .ref h13, .ref h14, .int 0, .int 0, .int 0, .int 0, .ref h15, .ref h16, .int 0, .ref h17, .ref h18, .int 0, .ref h19, .int 0, .ref h20, .ref h21, .ref h22, .int 0, .ref h23, .ref h24, .ref h25])), (h2, .inl (a1, 6, .inl (fun _ => 0)))] rfl rfl (vp_in_iff.mpr (by decide)) (upd0 _) rfl dX12_clashIn_19 (fun H locs Wd => ?_)
  refine lv_iinc (v := 5) (lv' := [(2, .int 5), (0, .ref h0), (1, .int x0)]) C.1 C.2.1 dX12_clashIn_20 hl (k := 0) rfl (by decide) (by decide) rfl (fun ls hl => ?_)
  refine lv_goto (tgt := 7) C.1 C.2.1 dX12_clashIn_23 (by decide) ?_
  refine lv_iload_n C.1 C.2.1 dX12_clashIn_7 rfl (lv_at hl 0 rfl) ?_
  refine lv_bipush (v := 6) C.1 C.2.1 dX12_clashIn_8 (by decide) ?_
  refine lv_icmp_ge (tgt := 26) C.1 C.2.1 dX12_clashIn_10 (by decide) (fun c5160 => absurd c5160 (by decide)) (fun _ => ?_)
  refine lv_aload_n C.1 C.2.1 dX12_clashIn_13 rfl (lv_at hl 1 rfl) ?_
  refine k_get C Wd KX12 1 54 rfl (by decide) fl_X12_84 rfl dX12_clashIn_14 ?_
  refine lv_iload_n C.1 C.2.1 dX12_clashIn_17 rfl (lv_at hl 0 rfl) ?_
  refine lv_iconst (v := 0) C.1 C.2.1 dX12_clashIn_18 (by decide) ?_
  refine k_iast C Wd 0 1 [(h24, .inl (a23, 6, .inl (fun _ => 0))), (h0, .inr (12, [.ref h1, .ref h2, .ref h3, .ref h4, .int 0, .int 0, .ref h5, .int 0, .int 0, .int 0, .int 0, .int 0, .int 0, .int 0, .int 0, .int 0, .int 0, .int 0, .int 0, .int 0, .int (-1), .int 0, .int 0, .int 0, .ref h6, .ref h7, .ref h8, .ref h9, .ref h10, .ref h11, .int 0, .int 0, .int 0, .int 0, .ref h12, .ref h13, .ref h14, .int 0, .int 0, .int 0, .int 0, .ref h15, .ref h16, .int 0, .ref h17, .ref h18, .int 0, .ref h19, .int 0, .ref h20, .ref h21, .ref h22, .int 0, .ref h23, .ref h24, .ref h25])), (h2, .inl (a1, 6, .inl (fun _ => 0)))] rfl rfl (vp_in_iff.mpr (by decide)) (upd0 _) rfl dX12_clashIn_19 (fun H locs Wd => ?_)
  refine lv_iinc (v := 6) (lv' := [(2, .int 6), (0, .ref h0), (1, .int x0)]) C.1 C.2.1 dX12_clashIn_20 hl (k := 0) rfl (by decide) (by decide) rfl (fun ls hl => ?_)
  refine lv_goto (tgt := 7) C.1 C.2.1 dX12_clashIn_23 (by decide) ?_
  refine lv_iload_n C.1 C.2.1 dX12_clashIn_7 rfl (lv_at hl 0 rfl) ?_
  refine lv_bipush (v := 6) C.1 C.2.1 dX12_clashIn_8 (by decide) ?_
  refine lv_icmp_ge (tgt := 26) C.1 C.2.1 dX12_clashIn_10 (by decide) (fun _ => ?_) (fun c5161 => absurd c5161 (by decide))
  refine lv_aload_n C.1 C.2.1 dX12_clashIn_26 rfl (lv_at hl 1 rfl) ?_
  refine lv_iconst (v := 0) C.1 C.2.1 dX12_clashIn_27 (by decide) ?_
  refine lv_iconst (v := 0) C.1 C.2.1 dX12_clashIn_28 (by decide) ?_
  refine k_pv (k_runV (rest := []) C aks Wd cs_X12_463 (kcX12_clashFrom l D h0 h1 h2 h3 h4 h5 h6 h7 h8 h9 h10 h11 h12 h13 h14 h15 h16 h17 h18 h19 h20 h21 h22 h23 h24 h25 _ ) [1] rfl (by decide) [] rfl 1 12 rfl rfl rfl rfl rfl ⟨(Nat.le_of_ble_eq_true rfl), (Nat.le_of_ble_eq_true rfl)⟩ hl.1 rfl rfl (Nat.le_of_ble_eq_true rfl) ⟨(Nat.le_of_ble_eq_true rfl), (Nat.le_of_ble_eq_true rfl)⟩ dX12_clashIn_29) (fun w5162 => ?_)
  exact k_vret C hr hlk Wd () trivial [1, 2, 0] rfl (by decide) [] rfl (by decide) (by decide) dX12_clashIn_32
set_option maxHeartbeats 4000000 in
set_option maxRecDepth 100000 in
theorem kcX12_reads (l : Launch) (D : va_G) (h0 : Nat) (sz : Nat)  : Met l yX12_reads (Cond.code yX12_reads cX12_reads 5 (some .int) :: gG) { frames := 1, cells := 0, slots := 0, locals := 64 } (cPre D [] [] sz [.ref h0, .int 0, .int 0]) (vp_Si (fun r => r = 0)) 0 0 (fun _ => False) := by
  refine Met.ofW (cc := cX12_reads) (maxL := 5) (ret := (some .int)) (by decide) rfl ?_
  intro p e s m args below meth c s₁ B hml hv
  obtain ⟨rfl, aks, rfl, Wd⟩ := k_enter hv
  have C : CallFix p m c cX12_reads 5 s _ gG RX12 := ⟨B.exec, B.bytes, hml, findClass_of_methodNamed B.named, fun w h => atoms_spec (ws := Cond.code yX12_reads cX12_reads 5 (some .int) :: gG) B.pre w (List.mem_cons_of_mem _ h)⟩
  have hr := B.returns
  have hlk := B.notSynchronized
  obtain ⟨A, Wd⟩ : ∃ A, wX D [] s [] s.heap A s.heap [] := ⟨_, Wd⟩
  refine k_locals (Nat.le_of_ble_eq_true rfl) [(0, .ref h0), (1, .int 0), (2, .int 0)] rfl (fun ls hl => ?_)
  refine lv_iconst (v := 0) C.1 C.2.1 dX12_reads_0 (by decide) ?_
  refine lv_istore_n (lv' := [(3, .int 0), (0, .ref h0), (1, .int 0), (2, .int 0)]) C.1 C.2.1 dX12_reads_1 rfl hl (by decide) rfl (fun ls hl => ?_)
  refine lv_iload_n C.1 C.2.1 dX12_reads_2 rfl (lv_at hl 2 rfl) ?_
  refine lv_istore (lv' := [(4, .int 0), (3, .int 0), (0, .ref h0), (1, .int 0), (2, .int 0)]) C.1 C.2.1 dX12_reads_3 hl (by decide) rfl (fun ls hl => ?_)
  refine lv_iload C.1 C.2.1 dX12_reads_5 (lv_at hl 0 rfl) ?_
  refine lv_iload_n C.1 C.2.1 dX12_reads_7 rfl (lv_at hl 4 rfl) ?_
  refine lv_icmp_ge (tgt := 53) C.1 C.2.1 dX12_reads_8 (by decide) (fun _ => ?_) (fun c5165 => absurd c5165 (by decide))
  refine lv_iload_n C.1 C.2.1 dX12_reads_53 rfl (lv_at hl 1 rfl) ?_
  exact k_zretP C hr hlk rfl rfl dX12_reads_54
set_option maxHeartbeats 4000000 in
set_option maxRecDepth 100000 in
theorem kcX12_sets (l : Launch) (D : va_G) (h0 : Nat) (sz : Nat)  : Met l yX12_sets (Cond.code yX12_sets cX12_sets 6 (some .boolean) :: gG) { frames := 1, cells := 0, slots := 0, locals := 64 } (cPre D [] [] sz [.ref h0, .int 0, .int 0, .int 0]) (vp_Si (fun r => r = 0)) 0 0 (fun _ => False) := by
  refine Met.ofW (cc := cX12_sets) (maxL := 6) (ret := (some .boolean)) (by decide) rfl ?_
  intro p e s m args below meth c s₁ B hml hv
  obtain ⟨rfl, aks, rfl, Wd⟩ := k_enter hv
  have C : CallFix p m c cX12_sets 6 s _ gG RX12 := ⟨B.exec, B.bytes, hml, findClass_of_methodNamed B.named, fun w h => atoms_spec (ws := Cond.code yX12_sets cX12_sets 6 (some .boolean) :: gG) B.pre w (List.mem_cons_of_mem _ h)⟩
  have hr := B.returns
  have hlk := B.notSynchronized
  obtain ⟨A, Wd⟩ : ∃ A, wX D [] s [] s.heap A s.heap [] := ⟨_, Wd⟩
  refine k_locals (Nat.le_of_ble_eq_true rfl) [(0, .ref h0), (1, .int 0), (2, .int 0), (3, .int 0)] rfl (fun ls hl => ?_)
  refine lv_iconst (v := 0) C.1 C.2.1 dX12_sets_0 (by decide) ?_
  refine lv_istore (lv' := [(4, .int 0), (0, .ref h0), (1, .int 0), (2, .int 0), (3, .int 0)]) C.1 C.2.1 dX12_sets_1 hl (by decide) rfl (fun ls hl => ?_)
  refine lv_iload_n C.1 C.2.1 dX12_sets_3 rfl (lv_at hl 2 rfl) ?_
  refine lv_istore (lv' := [(5, .int 0), (4, .int 0), (0, .ref h0), (1, .int 0), (2, .int 0), (3, .int 0)]) C.1 C.2.1 dX12_sets_4 hl (by decide) rfl (fun ls hl => ?_)
  refine lv_iload C.1 C.2.1 dX12_sets_6 (lv_at hl 0 rfl) ?_
  refine lv_iload_n C.1 C.2.1 dX12_sets_8 rfl (lv_at hl 4 rfl) ?_
  refine lv_icmp_ge (tgt := 44) C.1 C.2.1 dX12_sets_9 (by decide) (fun _ => ?_) (fun c5169 => absurd c5169 (by decide))
  refine lv_iload C.1 C.2.1 dX12_sets_44 (lv_at hl 1 rfl) ?_
  exact k_zretP C hr hlk rfl rfl dX12_sets_46
set_option maxHeartbeats 4000000 in
set_option maxRecDepth 100000 in
theorem kcX12_sets_v1 (l : Launch) (D : va_G) (h0 : Nat) (sz : Nat)  : Met l yX12_sets (Cond.code yX12_sets cX12_sets 6 (some .boolean) :: gG) { frames := 1, cells := 0, slots := 0, locals := 64 } (cPre D [] [] sz [.ref h0, .int 0, .int 0, .int 1]) (vp_Si (fun r => r = 0)) 0 0 (fun _ => False) := by
  refine Met.ofW (cc := cX12_sets) (maxL := 6) (ret := (some .boolean)) (by decide) rfl ?_
  intro p e s m args below meth c s₁ B hml hv
  obtain ⟨rfl, aks, rfl, Wd⟩ := k_enter hv
  have C : CallFix p m c cX12_sets 6 s _ gG RX12 := ⟨B.exec, B.bytes, hml, findClass_of_methodNamed B.named, fun w h => atoms_spec (ws := Cond.code yX12_sets cX12_sets 6 (some .boolean) :: gG) B.pre w (List.mem_cons_of_mem _ h)⟩
  have hr := B.returns
  have hlk := B.notSynchronized
  obtain ⟨A, Wd⟩ : ∃ A, wX D [] s [] s.heap A s.heap [] := ⟨_, Wd⟩
  refine k_locals (Nat.le_of_ble_eq_true rfl) [(0, .ref h0), (1, .int 0), (2, .int 0), (3, .int 1)] rfl (fun ls hl => ?_)
  refine lv_iconst (v := 0) C.1 C.2.1 dX12_sets_0 (by decide) ?_
  refine lv_istore (lv' := [(4, .int 0), (0, .ref h0), (1, .int 0), (2, .int 0), (3, .int 1)]) C.1 C.2.1 dX12_sets_1 hl (by decide) rfl (fun ls hl => ?_)
  refine lv_iload_n C.1 C.2.1 dX12_sets_3 rfl (lv_at hl 2 rfl) ?_
  refine lv_istore (lv' := [(5, .int 0), (4, .int 0), (0, .ref h0), (1, .int 0), (2, .int 0), (3, .int 1)]) C.1 C.2.1 dX12_sets_4 hl (by decide) rfl (fun ls hl => ?_)
  refine lv_iload C.1 C.2.1 dX12_sets_6 (lv_at hl 0 rfl) ?_
  refine lv_iload_n C.1 C.2.1 dX12_sets_8 rfl (lv_at hl 4 rfl) ?_
  refine lv_icmp_ge (tgt := 44) C.1 C.2.1 dX12_sets_9 (by decide) (fun _ => ?_) (fun c5174 => absurd c5174 (by decide))
  refine lv_iload C.1 C.2.1 dX12_sets_44 (lv_at hl 1 rfl) ?_
  exact k_zretP C hr hlk rfl rfl dX12_sets_46
set_option maxHeartbeats 4000000 in
set_option maxRecDepth 100000 in
theorem kcX12_sets_v2 (l : Launch) (D : va_G) (h0 : Nat) (sz : Nat)  : Met l yX12_sets (Cond.code yX12_sets cX12_sets 6 (some .boolean) :: gG) { frames := 1, cells := 0, slots := 0, locals := 64 } (cPre D [] [] sz [.ref h0, .int 0, .int 0, .int 2]) (vp_Si (fun r => r = 0)) 0 0 (fun _ => False) := by
  refine Met.ofW (cc := cX12_sets) (maxL := 6) (ret := (some .boolean)) (by decide) rfl ?_
  intro p e s m args below meth c s₁ B hml hv
  obtain ⟨rfl, aks, rfl, Wd⟩ := k_enter hv
  have C : CallFix p m c cX12_sets 6 s _ gG RX12 := ⟨B.exec, B.bytes, hml, findClass_of_methodNamed B.named, fun w h => atoms_spec (ws := Cond.code yX12_sets cX12_sets 6 (some .boolean) :: gG) B.pre w (List.mem_cons_of_mem _ h)⟩
  have hr := B.returns
  have hlk := B.notSynchronized
  obtain ⟨A, Wd⟩ : ∃ A, wX D [] s [] s.heap A s.heap [] := ⟨_, Wd⟩
  refine k_locals (Nat.le_of_ble_eq_true rfl) [(0, .ref h0), (1, .int 0), (2, .int 0), (3, .int 2)] rfl (fun ls hl => ?_)
  refine lv_iconst (v := 0) C.1 C.2.1 dX12_sets_0 (by decide) ?_
  refine lv_istore (lv' := [(4, .int 0), (0, .ref h0), (1, .int 0), (2, .int 0), (3, .int 2)]) C.1 C.2.1 dX12_sets_1 hl (by decide) rfl (fun ls hl => ?_)
  refine lv_iload_n C.1 C.2.1 dX12_sets_3 rfl (lv_at hl 2 rfl) ?_
  refine lv_istore (lv' := [(5, .int 0), (4, .int 0), (0, .ref h0), (1, .int 0), (2, .int 0), (3, .int 2)]) C.1 C.2.1 dX12_sets_4 hl (by decide) rfl (fun ls hl => ?_)
  refine lv_iload C.1 C.2.1 dX12_sets_6 (lv_at hl 0 rfl) ?_
  refine lv_iload_n C.1 C.2.1 dX12_sets_8 rfl (lv_at hl 4 rfl) ?_
  refine lv_icmp_ge (tgt := 44) C.1 C.2.1 dX12_sets_9 (by decide) (fun _ => ?_) (fun c5179 => absurd c5179 (by decide))
  refine lv_iload C.1 C.2.1 dX12_sets_44 (lv_at hl 1 rfl) ?_
  exact k_zretP C hr hlk rfl rfl dX12_sets_46
set_option maxHeartbeats 4000000 in
set_option maxRecDepth 100000 in
theorem kcX12_sets_v3 (l : Launch) (D : va_G) (h0 : Nat) (sz : Nat)  : Met l yX12_sets (Cond.code yX12_sets cX12_sets 6 (some .boolean) :: gG) { frames := 1, cells := 0, slots := 0, locals := 64 } (cPre D [] [] sz [.ref h0, .int 0, .int 0, .int 3]) (vp_Si (fun r => r = 0)) 0 0 (fun _ => False) := by
  refine Met.ofW (cc := cX12_sets) (maxL := 6) (ret := (some .boolean)) (by decide) rfl ?_
  intro p e s m args below meth c s₁ B hml hv
  obtain ⟨rfl, aks, rfl, Wd⟩ := k_enter hv
  have C : CallFix p m c cX12_sets 6 s _ gG RX12 := ⟨B.exec, B.bytes, hml, findClass_of_methodNamed B.named, fun w h => atoms_spec (ws := Cond.code yX12_sets cX12_sets 6 (some .boolean) :: gG) B.pre w (List.mem_cons_of_mem _ h)⟩
  have hr := B.returns
  have hlk := B.notSynchronized
  obtain ⟨A, Wd⟩ : ∃ A, wX D [] s [] s.heap A s.heap [] := ⟨_, Wd⟩
  refine k_locals (Nat.le_of_ble_eq_true rfl) [(0, .ref h0), (1, .int 0), (2, .int 0), (3, .int 3)] rfl (fun ls hl => ?_)
  refine lv_iconst (v := 0) C.1 C.2.1 dX12_sets_0 (by decide) ?_
  refine lv_istore (lv' := [(4, .int 0), (0, .ref h0), (1, .int 0), (2, .int 0), (3, .int 3)]) C.1 C.2.1 dX12_sets_1 hl (by decide) rfl (fun ls hl => ?_)
  refine lv_iload_n C.1 C.2.1 dX12_sets_3 rfl (lv_at hl 2 rfl) ?_
  refine lv_istore (lv' := [(5, .int 0), (4, .int 0), (0, .ref h0), (1, .int 0), (2, .int 0), (3, .int 3)]) C.1 C.2.1 dX12_sets_4 hl (by decide) rfl (fun ls hl => ?_)
  refine lv_iload C.1 C.2.1 dX12_sets_6 (lv_at hl 0 rfl) ?_
  refine lv_iload_n C.1 C.2.1 dX12_sets_8 rfl (lv_at hl 4 rfl) ?_
  refine lv_icmp_ge (tgt := 44) C.1 C.2.1 dX12_sets_9 (by decide) (fun _ => ?_) (fun c5184 => absurd c5184 (by decide))
  refine lv_iload C.1 C.2.1 dX12_sets_44 (lv_at hl 1 rfl) ?_
  exact k_zretP C hr hlk rfl rfl dX12_sets_46
set_option maxHeartbeats 4000000 in
set_option maxRecDepth 100000 in
theorem kcX12_sets_v4 (l : Launch) (D : va_G) (h0 : Nat) (sz : Nat)  : Met l yX12_sets (Cond.code yX12_sets cX12_sets 6 (some .boolean) :: gG) { frames := 1, cells := 0, slots := 0, locals := 64 } (cPre D [] [] sz [.ref h0, .int 0, .int 0, .int 4]) (vp_Si (fun r => r = 0)) 0 0 (fun _ => False) := by
  refine Met.ofW (cc := cX12_sets) (maxL := 6) (ret := (some .boolean)) (by decide) rfl ?_
  intro p e s m args below meth c s₁ B hml hv
  obtain ⟨rfl, aks, rfl, Wd⟩ := k_enter hv
  have C : CallFix p m c cX12_sets 6 s _ gG RX12 := ⟨B.exec, B.bytes, hml, findClass_of_methodNamed B.named, fun w h => atoms_spec (ws := Cond.code yX12_sets cX12_sets 6 (some .boolean) :: gG) B.pre w (List.mem_cons_of_mem _ h)⟩
  have hr := B.returns
  have hlk := B.notSynchronized
  obtain ⟨A, Wd⟩ : ∃ A, wX D [] s [] s.heap A s.heap [] := ⟨_, Wd⟩
  refine k_locals (Nat.le_of_ble_eq_true rfl) [(0, .ref h0), (1, .int 0), (2, .int 0), (3, .int 4)] rfl (fun ls hl => ?_)
  refine lv_iconst (v := 0) C.1 C.2.1 dX12_sets_0 (by decide) ?_
  refine lv_istore (lv' := [(4, .int 0), (0, .ref h0), (1, .int 0), (2, .int 0), (3, .int 4)]) C.1 C.2.1 dX12_sets_1 hl (by decide) rfl (fun ls hl => ?_)
  refine lv_iload_n C.1 C.2.1 dX12_sets_3 rfl (lv_at hl 2 rfl) ?_
  refine lv_istore (lv' := [(5, .int 0), (4, .int 0), (0, .ref h0), (1, .int 0), (2, .int 0), (3, .int 4)]) C.1 C.2.1 dX12_sets_4 hl (by decide) rfl (fun ls hl => ?_)
  refine lv_iload C.1 C.2.1 dX12_sets_6 (lv_at hl 0 rfl) ?_
  refine lv_iload_n C.1 C.2.1 dX12_sets_8 rfl (lv_at hl 4 rfl) ?_
  refine lv_icmp_ge (tgt := 44) C.1 C.2.1 dX12_sets_9 (by decide) (fun _ => ?_) (fun c5189 => absurd c5189 (by decide))
  refine lv_iload C.1 C.2.1 dX12_sets_44 (lv_at hl 1 rfl) ?_
  exact k_zretP C hr hlk rfl rfl dX12_sets_46
set_option maxHeartbeats 4000000 in
set_option maxRecDepth 100000 in
theorem kcX12_sets_v5 (l : Launch) (D : va_G) (h0 : Nat) (sz : Nat)  : Met l yX12_sets (Cond.code yX12_sets cX12_sets 6 (some .boolean) :: gG) { frames := 1, cells := 0, slots := 0, locals := 64 } (cPre D [] [] sz [.ref h0, .int 0, .int 0, .int 5]) (vp_Si (fun r => r = 0)) 0 0 (fun _ => False) := by
  refine Met.ofW (cc := cX12_sets) (maxL := 6) (ret := (some .boolean)) (by decide) rfl ?_
  intro p e s m args below meth c s₁ B hml hv
  obtain ⟨rfl, aks, rfl, Wd⟩ := k_enter hv
  have C : CallFix p m c cX12_sets 6 s _ gG RX12 := ⟨B.exec, B.bytes, hml, findClass_of_methodNamed B.named, fun w h => atoms_spec (ws := Cond.code yX12_sets cX12_sets 6 (some .boolean) :: gG) B.pre w (List.mem_cons_of_mem _ h)⟩
  have hr := B.returns
  have hlk := B.notSynchronized
  obtain ⟨A, Wd⟩ : ∃ A, wX D [] s [] s.heap A s.heap [] := ⟨_, Wd⟩
  refine k_locals (Nat.le_of_ble_eq_true rfl) [(0, .ref h0), (1, .int 0), (2, .int 0), (3, .int 5)] rfl (fun ls hl => ?_)
  refine lv_iconst (v := 0) C.1 C.2.1 dX12_sets_0 (by decide) ?_
  refine lv_istore (lv' := [(4, .int 0), (0, .ref h0), (1, .int 0), (2, .int 0), (3, .int 5)]) C.1 C.2.1 dX12_sets_1 hl (by decide) rfl (fun ls hl => ?_)
  refine lv_iload_n C.1 C.2.1 dX12_sets_3 rfl (lv_at hl 2 rfl) ?_
  refine lv_istore (lv' := [(5, .int 0), (4, .int 0), (0, .ref h0), (1, .int 0), (2, .int 0), (3, .int 5)]) C.1 C.2.1 dX12_sets_4 hl (by decide) rfl (fun ls hl => ?_)
  refine lv_iload C.1 C.2.1 dX12_sets_6 (lv_at hl 0 rfl) ?_
  refine lv_iload_n C.1 C.2.1 dX12_sets_8 rfl (lv_at hl 4 rfl) ?_
  refine lv_icmp_ge (tgt := 44) C.1 C.2.1 dX12_sets_9 (by decide) (fun _ => ?_) (fun c5194 => absurd c5194 (by decide))
  refine lv_iload C.1 C.2.1 dX12_sets_44 (lv_at hl 1 rfl) ?_
  exact k_zretP C hr hlk rfl rfl dX12_sets_46
set_option maxHeartbeats 4000000 in
set_option maxRecDepth 100000 in
theorem kcX12_inRow (l : Launch) (D : va_G) (h0 h1 h2 h3 h4 h5 h6 h7 h8 h9 h10 h11 h12 h13 h14 h15 h16 h17 h18 h19 h20 h21 h22 h23 h24 h25 : Nat) (sz : Nat)  : Met l yX12_inRow (Cond.code yX12_inRow cX12_inRow 3 (some .int) :: gG) { frames := 2, cells := 0, slots := 0, locals := 89 } (cPre D [] [(h0, .inr (12, [.ref h1, .ref h2, .ref h3, .ref h4, .int 0, .int 0, .ref h5, .int 0, .int 0, .int 0, .int 0, .int 0, .int 0, .int 0, .int 0, .int 0, .int 0, .int 0, .int 0, .int 0, .int (-1), .int 0, .int 0, .int 0, .ref h6, .ref h7, .ref h8, .ref h9, .ref h10, .ref h11, .int 0, .int 0, .int 0, .int 0, .ref h12, .ref h13, .ref h14, .int 0, .int 0, .int 0, .int 0, .ref h15, .ref h16, .int 0, .ref h17, .ref h18, .int 0, .ref h19, .int 0, .ref h20, .ref h21, .ref h22, .int 0, .ref h23, .ref h24, .ref h25]))] sz [.ref h0]) (vp_Si (fun r => r = 0)) 0 0 (fun _ => False) := by
  refine Met.ofW (cc := cX12_inRow) (maxL := 3) (ret := (some .int)) (by decide) rfl ?_
  intro p e s m args below meth c s₁ B hml hv
  obtain ⟨rfl, aks, rfl, Wd⟩ := k_enter hv
  have C : CallFix p m c cX12_inRow 3 s _ gG RX12 := ⟨B.exec, B.bytes, hml, findClass_of_methodNamed B.named, fun w h => atoms_spec (ws := Cond.code yX12_inRow cX12_inRow 3 (some .int) :: gG) B.pre w (List.mem_cons_of_mem _ h)⟩
  have hr := B.returns
  have hlk := B.notSynchronized
  obtain ⟨A, Wd⟩ : ∃ A, wX D [] s [(h0, .inr (12, [.ref h1, .ref h2, .ref h3, .ref h4, .int 0, .int 0, .ref h5, .int 0, .int 0, .int 0, .int 0, .int 0, .int 0, .int 0, .int 0, .int 0, .int 0, .int 0, .int 0, .int 0, .int (-1), .int 0, .int 0, .int 0, .ref h6, .ref h7, .ref h8, .ref h9, .ref h10, .ref h11, .int 0, .int 0, .int 0, .int 0, .ref h12, .ref h13, .ref h14, .int 0, .int 0, .int 0, .int 0, .ref h15, .ref h16, .int 0, .ref h17, .ref h18, .int 0, .ref h19, .int 0, .ref h20, .ref h21, .ref h22, .int 0, .ref h23, .ref h24, .ref h25]))] s.heap A s.heap [] := ⟨_, Wd⟩
  refine k_locals (Nat.le_of_ble_eq_true rfl) [(0, .ref h0)] rfl (fun ls hl => ?_)
  refine lv_aload_n C.1 C.2.1 dX12_inRow_0 rfl (lv_at hl 0 rfl) ?_
  refine lv_iconst (v := 0) C.1 C.2.1 dX12_inRow_1 (by decide) ?_
  refine lv_aload_n C.1 C.2.1 dX12_inRow_2 rfl (lv_at hl 0 rfl) ?_
  refine k_get C Wd KX12 0 4 rfl (by decide) fl_X12_98 rfl dX12_inRow_3 ?_
  refine k_pi (k_runV (rest := []) C aks Wd cs_X12_379 (kcX12_reads l D h0 _ ) [] rfl (by decide) [] rfl 0 12 rfl rfl rfl rfl rfl ⟨(Nat.le_of_ble_eq_true rfl), (Nat.le_of_ble_eq_true rfl)⟩ hl.1 rfl rfl (Nat.le_of_ble_eq_true rfl) ⟨(Nat.le_of_ble_eq_true rfl), (Nat.le_of_ble_eq_true rfl)⟩ dX12_inRow_6) (fun r w5198 => ?_)
  obtain rfl := w5198
  refine lv_istore_n (lv' := [(1, .int 0), (0, .ref h0)]) C.1 C.2.1 dX12_inRow_9 rfl hl (by decide) rfl (fun ls hl => ?_)
  refine lv_iconst (v := 0) C.1 C.2.1 dX12_inRow_10 (by decide) ?_
  refine lv_istore_n (lv' := [(2, .int 0), (1, .int 0), (0, .ref h0)]) C.1 C.2.1 dX12_inRow_11 rfl hl (by decide) rfl (fun ls hl => ?_)
  refine lv_iload_n C.1 C.2.1 dX12_inRow_12 rfl (lv_at hl 0 rfl) ?_
  refine lv_bipush (v := 6) C.1 C.2.1 dX12_inRow_13 (by decide) ?_
  refine lv_icmp_ge (tgt := 47) C.1 C.2.1 dX12_inRow_15 (by decide) (fun c5199 => absurd c5199 (by decide)) (fun _ => ?_)
  refine lv_iload_n C.1 C.2.1 dX12_inRow_18 rfl (lv_at hl 1 rfl) ?_
  refine lv_aload_n C.1 C.2.1 dX12_inRow_19 rfl (lv_at hl 2 rfl) ?_
  refine lv_iconst (v := 0) C.1 C.2.1 dX12_inRow_20 (by decide) ?_
  refine lv_aload_n C.1 C.2.1 dX12_inRow_21 rfl (lv_at hl 2 rfl) ?_
  refine k_get C Wd KX12 0 4 rfl (by decide) fl_X12_98 rfl dX12_inRow_22 ?_
  refine lv_iload_n C.1 C.2.1 dX12_inRow_25 rfl (lv_at hl 0 rfl) ?_
  refine k_pi (k_runV (rest := [.int 0]) C aks Wd cs_X12_409 (kcX12_sets l D h0 _ ) [] rfl (by decide) [] rfl 0 12 rfl rfl rfl rfl rfl ⟨(Nat.le_of_ble_eq_true rfl), (Nat.le_of_ble_eq_true rfl)⟩ hl.1 rfl rfl (Nat.le_of_ble_eq_true rfl) ⟨(Nat.le_of_ble_eq_true rfl), (Nat.le_of_ble_eq_true rfl)⟩ dX12_inRow_26) (fun r w5200 => ?_)
  obtain rfl := w5200
  refine lv_if_eq (tgt := 38) C.1 C.2.1 dX12_inRow_29 (by decide) (fun _ => ?_) (fun c5201 => absurd c5201 (by decide))
  refine lv_iconst (v := 0) C.1 C.2.1 dX12_inRow_38 (by decide) ?_
  refine k_ior (v := 0) C (by decide) dX12_inRow_39 ?_
  refine lv_istore_n (lv' := [(1, .int 0), (2, .int 0), (0, .ref h0)]) C.1 C.2.1 dX12_inRow_40 rfl hl (by decide) rfl (fun ls hl => ?_)
  refine lv_iinc (v := 1) (lv' := [(2, .int 1), (1, .int 0), (0, .ref h0)]) C.1 C.2.1 dX12_inRow_41 hl (k := 1) rfl (by decide) (by decide) rfl (fun ls hl => ?_)
  refine lv_goto (tgt := 12) C.1 C.2.1 dX12_inRow_44 (by decide) ?_
  refine lv_iload_n C.1 C.2.1 dX12_inRow_12 rfl (lv_at hl 0 rfl) ?_
  refine lv_bipush (v := 6) C.1 C.2.1 dX12_inRow_13 (by decide) ?_
  refine lv_icmp_ge (tgt := 47) C.1 C.2.1 dX12_inRow_15 (by decide) (fun c5202 => absurd c5202 (by decide)) (fun _ => ?_)
  refine lv_iload_n C.1 C.2.1 dX12_inRow_18 rfl (lv_at hl 1 rfl) ?_
  refine lv_aload_n C.1 C.2.1 dX12_inRow_19 rfl (lv_at hl 2 rfl) ?_
  refine lv_iconst (v := 0) C.1 C.2.1 dX12_inRow_20 (by decide) ?_
  refine lv_aload_n C.1 C.2.1 dX12_inRow_21 rfl (lv_at hl 2 rfl) ?_
  refine k_get C Wd KX12 0 4 rfl (by decide) fl_X12_98 rfl dX12_inRow_22 ?_
  refine lv_iload_n C.1 C.2.1 dX12_inRow_25 rfl (lv_at hl 0 rfl) ?_
  refine k_pi (k_runV (rest := [.int 0]) C aks Wd cs_X12_409 (kcX12_sets_v1 l D h0 _ ) [] rfl (by decide) [] rfl 0 12 rfl rfl rfl rfl rfl ⟨(Nat.le_of_ble_eq_true rfl), (Nat.le_of_ble_eq_true rfl)⟩ hl.1 rfl rfl (Nat.le_of_ble_eq_true rfl) ⟨(Nat.le_of_ble_eq_true rfl), (Nat.le_of_ble_eq_true rfl)⟩ dX12_inRow_26) (fun r w5203 => ?_)
  obtain rfl := w5203
  refine lv_if_eq (tgt := 38) C.1 C.2.1 dX12_inRow_29 (by decide) (fun _ => ?_) (fun c5204 => absurd c5204 (by decide))
  refine lv_iconst (v := 0) C.1 C.2.1 dX12_inRow_38 (by decide) ?_
  refine k_ior (v := 0) C (by decide) dX12_inRow_39 ?_
  refine lv_istore_n (lv' := [(1, .int 0), (2, .int 1), (0, .ref h0)]) C.1 C.2.1 dX12_inRow_40 rfl hl (by decide) rfl (fun ls hl => ?_)
  refine lv_iinc (v := 2) (lv' := [(2, .int 2), (1, .int 0), (0, .ref h0)]) C.1 C.2.1 dX12_inRow_41 hl (k := 1) rfl (by decide) (by decide) rfl (fun ls hl => ?_)
  refine lv_goto (tgt := 12) C.1 C.2.1 dX12_inRow_44 (by decide) ?_
  refine lv_iload_n C.1 C.2.1 dX12_inRow_12 rfl (lv_at hl 0 rfl) ?_
  refine lv_bipush (v := 6) C.1 C.2.1 dX12_inRow_13 (by decide) ?_
  refine lv_icmp_ge (tgt := 47) C.1 C.2.1 dX12_inRow_15 (by decide) (fun c5205 => absurd c5205 (by decide)) (fun _ => ?_)
  refine lv_iload_n C.1 C.2.1 dX12_inRow_18 rfl (lv_at hl 1 rfl) ?_
  refine lv_aload_n C.1 C.2.1 dX12_inRow_19 rfl (lv_at hl 2 rfl) ?_
  refine lv_iconst (v := 0) C.1 C.2.1 dX12_inRow_20 (by decide) ?_
  refine lv_aload_n C.1 C.2.1 dX12_inRow_21 rfl (lv_at hl 2 rfl) ?_
  refine k_get C Wd KX12 0 4 rfl (by decide) fl_X12_98 rfl dX12_inRow_22 ?_
  refine lv_iload_n C.1 C.2.1 dX12_inRow_25 rfl (lv_at hl 0 rfl) ?_
  refine k_pi (k_runV (rest := [.int 0]) C aks Wd cs_X12_409 (kcX12_sets_v2 l D h0 _ ) [] rfl (by decide) [] rfl 0 12 rfl rfl rfl rfl rfl ⟨(Nat.le_of_ble_eq_true rfl), (Nat.le_of_ble_eq_true rfl)⟩ hl.1 rfl rfl (Nat.le_of_ble_eq_true rfl) ⟨(Nat.le_of_ble_eq_true rfl), (Nat.le_of_ble_eq_true rfl)⟩ dX12_inRow_26) (fun r w5206 => ?_)
  obtain rfl := w5206
  refine lv_if_eq (tgt := 38) C.1 C.2.1 dX12_inRow_29 (by decide) (fun _ => ?_) (fun c5207 => absurd c5207 (by decide))
  refine lv_iconst (v := 0) C.1 C.2.1 dX12_inRow_38 (by decide) ?_
  refine k_ior (v := 0) C (by decide) dX12_inRow_39 ?_
  refine lv_istore_n (lv' := [(1, .int 0), (2, .int 2), (0, .ref h0)]) C.1 C.2.1 dX12_inRow_40 rfl hl (by decide) rfl (fun ls hl => ?_)
  refine lv_iinc (v := 3) (lv' := [(2, .int 3), (1, .int 0), (0, .ref h0)]) C.1 C.2.1 dX12_inRow_41 hl (k := 1) rfl (by decide) (by decide) rfl (fun ls hl => ?_)
  refine lv_goto (tgt := 12) C.1 C.2.1 dX12_inRow_44 (by decide) ?_
  refine lv_iload_n C.1 C.2.1 dX12_inRow_12 rfl (lv_at hl 0 rfl) ?_
  refine lv_bipush (v := 6) C.1 C.2.1 dX12_inRow_13 (by decide) ?_
  refine lv_icmp_ge (tgt := 47) C.1 C.2.1 dX12_inRow_15 (by decide) (fun c5208 => absurd c5208 (by decide)) (fun _ => ?_)
  refine lv_iload_n C.1 C.2.1 dX12_inRow_18 rfl (lv_at hl 1 rfl) ?_
  refine lv_aload_n C.1 C.2.1 dX12_inRow_19 rfl (lv_at hl 2 rfl) ?_
  refine lv_iconst (v := 0) C.1 C.2.1 dX12_inRow_20 (by decide) ?_
  refine lv_aload_n C.1 C.2.1 dX12_inRow_21 rfl (lv_at hl 2 rfl) ?_
  refine k_get C Wd KX12 0 4 rfl (by decide) fl_X12_98 rfl dX12_inRow_22 ?_
  refine lv_iload_n C.1 C.2.1 dX12_inRow_25 rfl (lv_at hl 0 rfl) ?_
  refine k_pi (k_runV (rest := [.int 0]) C aks Wd cs_X12_409 (kcX12_sets_v3 l D h0 _ ) [] rfl (by decide) [] rfl 0 12 rfl rfl rfl rfl rfl ⟨(Nat.le_of_ble_eq_true rfl), (Nat.le_of_ble_eq_true rfl)⟩ hl.1 rfl rfl (Nat.le_of_ble_eq_true rfl) ⟨(Nat.le_of_ble_eq_true rfl), (Nat.le_of_ble_eq_true rfl)⟩ dX12_inRow_26) (fun r w5209 => ?_)
  obtain rfl := w5209
  refine lv_if_eq (tgt := 38) C.1 C.2.1 dX12_inRow_29 (by decide) (fun _ => ?_) (fun c5210 => absurd c5210 (by decide))
  refine lv_iconst (v := 0) C.1 C.2.1 dX12_inRow_38 (by decide) ?_
  refine k_ior (v := 0) C (by decide) dX12_inRow_39 ?_
  refine lv_istore_n (lv' := [(1, .int 0), (2, .int 3), (0, .ref h0)]) C.1 C.2.1 dX12_inRow_40 rfl hl (by decide) rfl (fun ls hl => ?_)
  refine lv_iinc (v := 4) (lv' := [(2, .int 4), (1, .int 0), (0, .ref h0)]) C.1 C.2.1 dX12_inRow_41 hl (k := 1) rfl (by decide) (by decide) rfl (fun ls hl => ?_)
  refine lv_goto (tgt := 12) C.1 C.2.1 dX12_inRow_44 (by decide) ?_
  refine lv_iload_n C.1 C.2.1 dX12_inRow_12 rfl (lv_at hl 0 rfl) ?_
  refine lv_bipush (v := 6) C.1 C.2.1 dX12_inRow_13 (by decide) ?_
  refine lv_icmp_ge (tgt := 47) C.1 C.2.1 dX12_inRow_15 (by decide) (fun c5211 => absurd c5211 (by decide)) (fun _ => ?_)
  refine lv_iload_n C.1 C.2.1 dX12_inRow_18 rfl (lv_at hl 1 rfl) ?_
  refine lv_aload_n C.1 C.2.1 dX12_inRow_19 rfl (lv_at hl 2 rfl) ?_
  refine lv_iconst (v := 0) C.1 C.2.1 dX12_inRow_20 (by decide) ?_
  refine lv_aload_n C.1 C.2.1 dX12_inRow_21 rfl (lv_at hl 2 rfl) ?_
  refine k_get C Wd KX12 0 4 rfl (by decide) fl_X12_98 rfl dX12_inRow_22 ?_
  refine lv_iload_n C.1 C.2.1 dX12_inRow_25 rfl (lv_at hl 0 rfl) ?_
  refine k_pi (k_runV (rest := [.int 0]) C aks Wd cs_X12_409 (kcX12_sets_v4 l D h0 _ ) [] rfl (by decide) [] rfl 0 12 rfl rfl rfl rfl rfl ⟨(Nat.le_of_ble_eq_true rfl), (Nat.le_of_ble_eq_true rfl)⟩ hl.1 rfl rfl (Nat.le_of_ble_eq_true rfl) ⟨(Nat.le_of_ble_eq_true rfl), (Nat.le_of_ble_eq_true rfl)⟩ dX12_inRow_26) (fun r w5212 => ?_)
  obtain rfl := w5212
  refine lv_if_eq (tgt := 38) C.1 C.2.1 dX12_inRow_29 (by decide) (fun _ => ?_) (fun c5213 => absurd c5213 (by decide))
  refine lv_iconst (v := 0) C.1 C.2.1 dX12_inRow_38 (by decide) ?_
  refine k_ior (v := 0) C (by decide) dX12_inRow_39 ?_
  refine lv_istore_n (lv' := [(1, .int 0), (2, .int 4), (0, .ref h0)]) C.1 C.2.1 dX12_inRow_40 rfl hl (by decide) rfl (fun ls hl => ?_)
  refine lv_iinc (v := 5) (lv' := [(2, .int 5), (1, .int 0), (0, .ref h0)]) C.1 C.2.1 dX12_inRow_41 hl (k := 1) rfl (by decide) (by decide) rfl (fun ls hl => ?_)
  refine lv_goto (tgt := 12) C.1 C.2.1 dX12_inRow_44 (by decide) ?_
  refine lv_iload_n C.1 C.2.1 dX12_inRow_12 rfl (lv_at hl 0 rfl) ?_
  refine lv_bipush (v := 6) C.1 C.2.1 dX12_inRow_13 (by decide) ?_
  refine lv_icmp_ge (tgt := 47) C.1 C.2.1 dX12_inRow_15 (by decide) (fun c5214 => absurd c5214 (by decide)) (fun _ => ?_)
  refine lv_iload_n C.1 C.2.1 dX12_inRow_18 rfl (lv_at hl 1 rfl) ?_
  refine lv_aload_n C.1 C.2.1 dX12_inRow_19 rfl (lv_at hl 2 rfl) ?_
  refine lv_iconst (v := 0) C.1 C.2.1 dX12_inRow_20 (by decide) ?_
  refine lv_aload_n C.1 C.2.1 dX12_inRow_21 rfl (lv_at hl 2 rfl) ?_
  refine k_get C Wd KX12 0 4 rfl (by decide) fl_X12_98 rfl dX12_inRow_22 ?_
  refine lv_iload_n C.1 C.2.1 dX12_inRow_25 rfl (lv_at hl 0 rfl) ?_
  refine k_pi (k_runV (rest := [.int 0]) C aks Wd cs_X12_409 (kcX12_sets_v5 l D h0 _ ) [] rfl (by decide) [] rfl 0 12 rfl rfl rfl rfl rfl ⟨(Nat.le_of_ble_eq_true rfl), (Nat.le_of_ble_eq_true rfl)⟩ hl.1 rfl rfl (Nat.le_of_ble_eq_true rfl) ⟨(Nat.le_of_ble_eq_true rfl), (Nat.le_of_ble_eq_true rfl)⟩ dX12_inRow_26) (fun r w5215 => ?_)
  obtain rfl := w5215
  refine lv_if_eq (tgt := 38) C.1 C.2.1 dX12_inRow_29 (by decide) (fun _ => ?_) (fun c5216 => absurd c5216 (by decide))
  refine lv_iconst (v := 0) C.1 C.2.1 dX12_inRow_38 (by decide) ?_
  refine k_ior (v := 0) C (by decide) dX12_inRow_39 ?_
  refine lv_istore_n (lv' := [(1, .int 0), (2, .int 5), (0, .ref h0)]) C.1 C.2.1 dX12_inRow_40 rfl hl (by decide) rfl (fun ls hl => ?_)
  refine lv_iinc (v := 6) (lv' := [(2, .int 6), (1, .int 0), (0, .ref h0)]) C.1 C.2.1 dX12_inRow_41 hl (k := 1) rfl (by decide) (by decide) rfl (fun ls hl => ?_)
  refine lv_goto (tgt := 12) C.1 C.2.1 dX12_inRow_44 (by decide) ?_
  refine lv_iload_n C.1 C.2.1 dX12_inRow_12 rfl (lv_at hl 0 rfl) ?_
  refine lv_bipush (v := 6) C.1 C.2.1 dX12_inRow_13 (by decide) ?_
  refine lv_icmp_ge (tgt := 47) C.1 C.2.1 dX12_inRow_15 (by decide) (fun _ => ?_) (fun c5217 => absurd c5217 (by decide))
  refine lv_iload_n C.1 C.2.1 dX12_inRow_47 rfl (lv_at hl 1 rfl) ?_
  exact k_zretP C hr hlk rfl rfl dX12_inRow_48
set_option maxHeartbeats 4000000 in
set_option maxRecDepth 100000 in
theorem kcX12_deals (l : Launch) (D : va_G) (h0 h1 h2 h3 h4 h5 h6 h7 h8 h9 h10 h11 h12 h13 h14 h15 h16 h17 h18 h19 h20 h21 h22 h23 h24 h25 : Nat) (a24 : ClassId) (sz : Nat)  : Met l yX12_deals (Cond.code yX12_deals cX12_deals 9 (some .boolean) :: gG) { frames := 1, cells := 0, slots := 0, locals := 64 } (cPre D [(a24, .int)] [(h0, .inr (12, [.ref h1, .ref h2, .ref h3, .ref h4, .int 0, .int 0, .ref h5, .int 0, .int 0, .int 0, .int 0, .int 0, .int 0, .int 0, .int 0, .int 0, .int 0, .int 0, .int 0, .int 0, .int (-1), .int 0, .int 0, .int 0, .ref h6, .ref h7, .ref h8, .ref h9, .ref h10, .ref h11, .int 0, .int 0, .int 0, .int 0, .ref h12, .ref h13, .ref h14, .int 0, .int 0, .int 0, .int 0, .ref h15, .ref h16, .int 0, .ref h17, .ref h18, .int 0, .ref h19, .int 0, .ref h20, .ref h21, .ref h22, .int 0, .ref h23, .ref h24, .ref h25])), (h25, .inl (a24, 6, .inl (fun _ => 0)))] sz [.ref h0, .int 0, .int 0]) (va_Qi (fun (r : Int32) (_ : Unit) => r = 1) (fun u t => cB D (va_A [(h0, .inr (12, [.ref h1, .ref h2, .ref h3, .ref h4, .int 0, .int 0, .ref h5, .int 0, .int 0, .int 0, .int 0, .int 0, .int 0, .int 0, .int 0, .int 0, .int 0, .int 0, .int 0, .int 0, .int (-1), .int 0, .int 0, .int 0, .ref h6, .ref h7, .ref h8, .ref h9, .ref h10, .ref h11, .int 0, .int 0, .int 0, .int 0, .ref h12, .ref h13, .ref h14, .int 0, .int 0, .int 0, .int 0, .ref h15, .ref h16, .int 0, .ref h17, .ref h18, .int 0, .ref h19, .int 0, .ref h20, .ref h21, .ref h22, .int 0, .ref h23, .ref h24, .ref h25])), (h25, .inl (a24, 6, .inl (fun _ => 0)))] sz) ((fun (_ : Unit) => ([] : List (ClassId × FieldType))) u) ((fun (_ : Unit) => ([(h0, .inr (12, [.ref h1, .ref h2, .ref h3, .ref h4, .int 0, .int 0, .ref h5, .int 0, .int 0, .int 0, .int 0, .int 0, .int 0, .int 0, .int 0, .int 0, .int 0, .int 0, .int 0, .int 0, .int (-1), .int 0, .int 0, .int 0, .ref h6, .ref h7, .ref h8, .ref h9, .ref h10, .ref h11, .int 0, .int 0, .int 0, .int 0, .ref h12, .ref h13, .ref h14, .int 0, .int 0, .int 0, .int 0, .ref h15, .ref h16, .int 0, .ref h17, .ref h18, .int 0, .ref h19, .int 0, .ref h20, .ref h21, .ref h22, .int 0, .ref h23, .ref h24, .ref h25])), (h25, .inl (a24, 6, .inl (upd (upd (upd (upd (upd (upd (fun _ => 0) 5 (-1)) 4 (-1)) 3 (-1)) 2 (-1)) 1 (-1)) 0 (-1))))] : va_W)) u) t) (va_A [(h0, .inr (12, [.ref h1, .ref h2, .ref h3, .ref h4, .int 0, .int 0, .ref h5, .int 0, .int 0, .int 0, .int 0, .int 0, .int 0, .int 0, .int 0, .int 0, .int 0, .int 0, .int 0, .int 0, .int (-1), .int 0, .int 0, .int 0, .ref h6, .ref h7, .ref h8, .ref h9, .ref h10, .ref h11, .int 0, .int 0, .int 0, .int 0, .ref h12, .ref h13, .ref h14, .int 0, .int 0, .int 0, .int 0, .ref h15, .ref h16, .int 0, .ref h17, .ref h18, .int 0, .ref h19, .int 0, .ref h20, .ref h21, .ref h22, .int 0, .ref h23, .ref h24, .ref h25])), (h25, .inl (a24, 6, .inl (fun _ => 0)))] sz)) 0 0 (va_A [(h0, .inr (12, [.ref h1, .ref h2, .ref h3, .ref h4, .int 0, .int 0, .ref h5, .int 0, .int 0, .int 0, .int 0, .int 0, .int 0, .int 0, .int 0, .int 0, .int 0, .int 0, .int 0, .int 0, .int (-1), .int 0, .int 0, .int 0, .ref h6, .ref h7, .ref h8, .ref h9, .ref h10, .ref h11, .int 0, .int 0, .int 0, .int 0, .ref h12, .ref h13, .ref h14, .int 0, .int 0, .int 0, .int 0, .ref h15, .ref h16, .int 0, .ref h17, .ref h18, .int 0, .ref h19, .int 0, .ref h20, .ref h21, .ref h22, .int 0, .ref h23, .ref h24, .ref h25])), (h25, .inl (a24, 6, .inl (fun _ => 0)))] sz) := by
  refine Met.ofW (cc := cX12_deals) (maxL := 9) (ret := (some .boolean)) (by decide) rfl ?_
  intro p e s m args below meth c s₁ B hml hv
  obtain ⟨rfl, aks, rfl, Wd⟩ := k_enter hv
  have C : CallFix p m c cX12_deals 9 s _ gG RX12 := ⟨B.exec, B.bytes, hml, findClass_of_methodNamed B.named, fun w h => atoms_spec (ws := Cond.code yX12_deals cX12_deals 9 (some .boolean) :: gG) B.pre w (List.mem_cons_of_mem _ h)⟩
  have hr := B.returns
  have hlk := B.notSynchronized
  generalize va_A [(h0, .inr (12, [.ref h1, .ref h2, .ref h3, .ref h4, .int 0, .int 0, .ref h5, .int 0, .int 0, .int 0, .int 0, .int 0, .int 0, .int 0, .int 0, .int 0, .int 0, .int 0, .int 0, .int 0, .int (-1), .int 0, .int 0, .int 0, .ref h6, .ref h7, .ref h8, .ref h9, .ref h10, .ref h11, .int 0, .int 0, .int 0, .int 0, .ref h12, .ref h13, .ref h14, .int 0, .int 0, .int 0, .int 0, .ref h15, .ref h16, .int 0, .ref h17, .ref h18, .int 0, .ref h19, .int 0, .ref h20, .ref h21, .ref h22, .int 0, .ref h23, .ref h24, .ref h25])), (h25, .inl (a24, 6, .inl (fun _ => 0)))] s.heap.size = A at Wd ⊢
  refine k_locals (Nat.le_of_ble_eq_true rfl) [(0, .ref h0), (1, .int 0), (2, .int 0)] rfl (fun ls hl => ?_)
  refine lv_iconst (v := 1) C.1 C.2.1 dX12_deals_0 (by decide) ?_
  refine lv_istore_n (lv' := [(3, .int 1), (0, .ref h0), (1, .int 0), (2, .int 0)]) C.1 C.2.1 dX12_deals_1 rfl hl (by decide) rfl (fun ls hl => ?_)
  refine lv_iconst (v := 0) C.1 C.2.1 dX12_deals_2 (by decide) ?_
  refine lv_istore (lv' := [(4, .int 0), (3, .int 1), (0, .ref h0), (1, .int 0), (2, .int 0)]) C.1 C.2.1 dX12_deals_3 hl (by decide) rfl (fun ls hl => ?_)
  refine lv_iload C.1 C.2.1 dX12_deals_5 (lv_at hl 0 rfl) ?_
  refine lv_bipush (v := 6) C.1 C.2.1 dX12_deals_7 (by decide) ?_
  refine lv_icmp_ge (tgt := 36) C.1 C.2.1 dX12_deals_9 (by decide) (fun c5306 => absurd c5306 (by decide)) (fun _ => ?_)
  refine lv_iload_n C.1 C.2.1 dX12_deals_12 rfl (lv_at hl 1 rfl) ?_
  refine lv_iload_n C.1 C.2.1 dX12_deals_13 rfl (lv_at hl 3 rfl) ?_
  refine lv_iload C.1 C.2.1 dX12_deals_14 (lv_at hl 0 rfl) ?_
  refine k_ishr (v := 0) C (by decide) dX12_deals_16 ?_
  refine lv_iconst (v := 1) C.1 C.2.1 dX12_deals_17 (by decide) ?_
  refine k_iand (v := 0) C (by decide) dX12_deals_18 ?_
  refine lv_iconst (v := 1) C.1 C.2.1 dX12_deals_19 (by decide) ?_
  refine lv_icmp_ne (tgt := 27) C.1 C.2.1 dX12_deals_20 (by decide) (fun _ => ?_) (fun c5307 => absurd c5307 (by decide))
  refine lv_iconst (v := 1) C.1 C.2.1 dX12_deals_27 (by decide) ?_
  refine k_imul (v := 1) C (by decide) dX12_deals_28 ?_
  refine lv_istore_n (lv' := [(3, .int 1), (4, .int 0), (0, .ref h0), (1, .int 0), (2, .int 0)]) C.1 C.2.1 dX12_deals_29 rfl hl (by decide) rfl (fun ls hl => ?_)
  refine lv_iinc (v := 1) (lv' := [(4, .int 1), (3, .int 1), (0, .ref h0), (1, .int 0), (2, .int 0)]) C.1 C.2.1 dX12_deals_30 hl (k := 1) rfl (by decide) (by decide) rfl (fun ls hl => ?_)
  refine lv_goto (tgt := 5) C.1 C.2.1 dX12_deals_33 (by decide) ?_
  refine lv_iload C.1 C.2.1 dX12_deals_5 (lv_at hl 0 rfl) ?_
  refine lv_bipush (v := 6) C.1 C.2.1 dX12_deals_7 (by decide) ?_
  refine lv_icmp_ge (tgt := 36) C.1 C.2.1 dX12_deals_9 (by decide) (fun c5308 => absurd c5308 (by decide)) (fun _ => ?_)
  refine lv_iload_n C.1 C.2.1 dX12_deals_12 rfl (lv_at hl 1 rfl) ?_
  refine lv_iload_n C.1 C.2.1 dX12_deals_13 rfl (lv_at hl 3 rfl) ?_
  refine lv_iload C.1 C.2.1 dX12_deals_14 (lv_at hl 0 rfl) ?_
  refine k_ishr (v := 0) C (by decide) dX12_deals_16 ?_
  refine lv_iconst (v := 1) C.1 C.2.1 dX12_deals_17 (by decide) ?_
  refine k_iand (v := 0) C (by decide) dX12_deals_18 ?_
  refine lv_iconst (v := 1) C.1 C.2.1 dX12_deals_19 (by decide) ?_
  refine lv_icmp_ne (tgt := 27) C.1 C.2.1 dX12_deals_20 (by decide) (fun _ => ?_) (fun c5309 => absurd c5309 (by decide))
  refine lv_iconst (v := 1) C.1 C.2.1 dX12_deals_27 (by decide) ?_
  refine k_imul (v := 1) C (by decide) dX12_deals_28 ?_
  refine lv_istore_n (lv' := [(3, .int 1), (4, .int 1), (0, .ref h0), (1, .int 0), (2, .int 0)]) C.1 C.2.1 dX12_deals_29 rfl hl (by decide) rfl (fun ls hl => ?_)
  refine lv_iinc (v := 2) (lv' := [(4, .int 2), (3, .int 1), (0, .ref h0), (1, .int 0), (2, .int 0)]) C.1 C.2.1 dX12_deals_30 hl (k := 1) rfl (by decide) (by decide) rfl (fun ls hl => ?_)
  refine lv_goto (tgt := 5) C.1 C.2.1 dX12_deals_33 (by decide) ?_
  refine lv_iload C.1 C.2.1 dX12_deals_5 (lv_at hl 0 rfl) ?_
  refine lv_bipush (v := 6) C.1 C.2.1 dX12_deals_7 (by decide) ?_
  refine lv_icmp_ge (tgt := 36) C.1 C.2.1 dX12_deals_9 (by decide) (fun c5310 => absurd c5310 (by decide)) (fun _ => ?_)
  refine lv_iload_n C.1 C.2.1 dX12_deals_12 rfl (lv_at hl 1 rfl) ?_
  refine lv_iload_n C.1 C.2.1 dX12_deals_13 rfl (lv_at hl 3 rfl) ?_
  refine lv_iload C.1 C.2.1 dX12_deals_14 (lv_at hl 0 rfl) ?_
  refine k_ishr (v := 0) C (by decide) dX12_deals_16 ?_
  refine lv_iconst (v := 1) C.1 C.2.1 dX12_deals_17 (by decide) ?_
  refine k_iand (v := 0) C (by decide) dX12_deals_18 ?_
  refine lv_iconst (v := 1) C.1 C.2.1 dX12_deals_19 (by decide) ?_
  refine lv_icmp_ne (tgt := 27) C.1 C.2.1 dX12_deals_20 (by decide) (fun _ => ?_) (fun c5311 => absurd c5311 (by decide))
  refine lv_iconst (v := 1) C.1 C.2.1 dX12_deals_27 (by decide) ?_
  refine k_imul (v := 1) C (by decide) dX12_deals_28 ?_
  refine lv_istore_n (lv' := [(3, .int 1), (4, .int 2), (0, .ref h0), (1, .int 0), (2, .int 0)]) C.1 C.2.1 dX12_deals_29 rfl hl (by decide) rfl (fun ls hl => ?_)
  refine lv_iinc (v := 3) (lv' := [(4, .int 3), (3, .int 1), (0, .ref h0), (1, .int 0), (2, .int 0)]) C.1 C.2.1 dX12_deals_30 hl (k := 1) rfl (by decide) (by decide) rfl (fun ls hl => ?_)
  refine lv_goto (tgt := 5) C.1 C.2.1 dX12_deals_33 (by decide) ?_
  refine lv_iload C.1 C.2.1 dX12_deals_5 (lv_at hl 0 rfl) ?_
  refine lv_bipush (v := 6) C.1 C.2.1 dX12_deals_7 (by decide) ?_
  refine lv_icmp_ge (tgt := 36) C.1 C.2.1 dX12_deals_9 (by decide) (fun c5312 => absurd c5312 (by decide)) (fun _ => ?_)
  refine lv_iload_n C.1 C.2.1 dX12_deals_12 rfl (lv_at hl 1 rfl) ?_
  refine lv_iload_n C.1 C.2.1 dX12_deals_13 rfl (lv_at hl 3 rfl) ?_
  refine lv_iload C.1 C.2.1 dX12_deals_14 (lv_at hl 0 rfl) ?_
  refine k_ishr (v := 0) C (by decide) dX12_deals_16 ?_
  refine lv_iconst (v := 1) C.1 C.2.1 dX12_deals_17 (by decide) ?_
  refine k_iand (v := 0) C (by decide) dX12_deals_18 ?_
  refine lv_iconst (v := 1) C.1 C.2.1 dX12_deals_19 (by decide) ?_
  refine lv_icmp_ne (tgt := 27) C.1 C.2.1 dX12_deals_20 (by decide) (fun _ => ?_) (fun c5313 => absurd c5313 (by decide))
  refine lv_iconst (v := 1) C.1 C.2.1 dX12_deals_27 (by decide) ?_
  refine k_imul (v := 1) C (by decide) dX12_deals_28 ?_
  refine lv_istore_n (lv' := [(3, .int 1), (4, .int 3), (0, .ref h0), (1, .int 0), (2, .int 0)]) C.1 C.2.1 dX12_deals_29 rfl hl (by decide) rfl (fun ls hl => ?_)
  refine lv_iinc (v := 4) (lv' := [(4, .int 4), (3, .int 1), (0, .ref h0), (1, .int 0), (2, .int 0)]) C.1 C.2.1 dX12_deals_30 hl (k := 1) rfl (by decide) (by decide) rfl (fun ls hl => ?_)
  refine lv_goto (tgt := 5) C.1 C.2.1 dX12_deals_33 (by decide) ?_
  refine lv_iload C.1 C.2.1 dX12_deals_5 (lv_at hl 0 rfl) ?_
  refine lv_bipush (v := 6) C.1 C.2.1 dX12_deals_7 (by decide) ?_
  refine lv_icmp_ge (tgt := 36) C.1 C.2.1 dX12_deals_9 (by decide) (fun c5314 => absurd c5314 (by decide)) (fun _ => ?_)
  refine lv_iload_n C.1 C.2.1 dX12_deals_12 rfl (lv_at hl 1 rfl) ?_
  refine lv_iload_n C.1 C.2.1 dX12_deals_13 rfl (lv_at hl 3 rfl) ?_
  refine lv_iload C.1 C.2.1 dX12_deals_14 (lv_at hl 0 rfl) ?_
  refine k_ishr (v := 0) C (by decide) dX12_deals_16 ?_
  refine lv_iconst (v := 1) C.1 C.2.1 dX12_deals_17 (by decide) ?_
  refine k_iand (v := 0) C (by decide) dX12_deals_18 ?_
  refine lv_iconst (v := 1) C.1 C.2.1 dX12_deals_19 (by decide) ?_
  refine lv_icmp_ne (tgt := 27) C.1 C.2.1 dX12_deals_20 (by decide) (fun _ => ?_) (fun c5315 => absurd c5315 (by decide))
  refine lv_iconst (v := 1) C.1 C.2.1 dX12_deals_27 (by decide) ?_
  refine k_imul (v := 1) C (by decide) dX12_deals_28 ?_
  refine lv_istore_n (lv' := [(3, .int 1), (4, .int 4), (0, .ref h0), (1, .int 0), (2, .int 0)]) C.1 C.2.1 dX12_deals_29 rfl hl (by decide) rfl (fun ls hl => ?_)
  refine lv_iinc (v := 5) (lv' := [(4, .int 5), (3, .int 1), (0, .ref h0), (1, .int 0), (2, .int 0)]) C.1 C.2.1 dX12_deals_30 hl (k := 1) rfl (by decide) (by decide) rfl (fun ls hl => ?_)
  refine lv_goto (tgt := 5) C.1 C.2.1 dX12_deals_33 (by decide) ?_
  refine lv_iload C.1 C.2.1 dX12_deals_5 (lv_at hl 0 rfl) ?_
  refine lv_bipush (v := 6) C.1 C.2.1 dX12_deals_7 (by decide) ?_
  refine lv_icmp_ge (tgt := 36) C.1 C.2.1 dX12_deals_9 (by decide) (fun c5316 => absurd c5316 (by decide)) (fun _ => ?_)
  refine lv_iload_n C.1 C.2.1 dX12_deals_12 rfl (lv_at hl 1 rfl) ?_
  refine lv_iload_n C.1 C.2.1 dX12_deals_13 rfl (lv_at hl 3 rfl) ?_
  refine lv_iload C.1 C.2.1 dX12_deals_14 (lv_at hl 0 rfl) ?_
  refine k_ishr (v := 0) C (by decide) dX12_deals_16 ?_
  refine lv_iconst (v := 1) C.1 C.2.1 dX12_deals_17 (by decide) ?_
  refine k_iand (v := 0) C (by decide) dX12_deals_18 ?_
  refine lv_iconst (v := 1) C.1 C.2.1 dX12_deals_19 (by decide) ?_
  refine lv_icmp_ne (tgt := 27) C.1 C.2.1 dX12_deals_20 (by decide) (fun _ => ?_) (fun c5317 => absurd c5317 (by decide))
  refine lv_iconst (v := 1) C.1 C.2.1 dX12_deals_27 (by decide) ?_
  refine k_imul (v := 1) C (by decide) dX12_deals_28 ?_
  refine lv_istore_n (lv' := [(3, .int 1), (4, .int 5), (0, .ref h0), (1, .int 0), (2, .int 0)]) C.1 C.2.1 dX12_deals_29 rfl hl (by decide) rfl (fun ls hl => ?_)
  refine lv_iinc (v := 6) (lv' := [(4, .int 6), (3, .int 1), (0, .ref h0), (1, .int 0), (2, .int 0)]) C.1 C.2.1 dX12_deals_30 hl (k := 1) rfl (by decide) (by decide) rfl (fun ls hl => ?_)
  refine lv_goto (tgt := 5) C.1 C.2.1 dX12_deals_33 (by decide) ?_
  refine lv_iload C.1 C.2.1 dX12_deals_5 (lv_at hl 0 rfl) ?_
  refine lv_bipush (v := 6) C.1 C.2.1 dX12_deals_7 (by decide) ?_
  refine lv_icmp_ge (tgt := 36) C.1 C.2.1 dX12_deals_9 (by decide) (fun _ => ?_) (fun c5318 => absurd c5318 (by decide))
  refine lv_iconst (v := 0) C.1 C.2.1 dX12_deals_36 (by decide) ?_
  refine lv_istore (lv' := [(4, .int 0), (3, .int 1), (0, .ref h0), (1, .int 0), (2, .int 0)]) C.1 C.2.1 dX12_deals_37 hl (by decide) rfl (fun ls hl => ?_)
  refine lv_iload C.1 C.2.1 dX12_deals_39 (lv_at hl 0 rfl) ?_
  refine lv_iload_n C.1 C.2.1 dX12_deals_41 rfl (lv_at hl 1 rfl) ?_
  refine lv_icmp_ge (tgt := 203) C.1 C.2.1 dX12_deals_42 (by decide) (fun c5319 => absurd c5319 (by decide)) (fun _ => ?_)
  refine lv_iload C.1 C.2.1 dX12_deals_45 (lv_at hl 0 rfl) ?_
  refine lv_istore (lv' := [(5, .int 0), (4, .int 0), (3, .int 1), (0, .ref h0), (1, .int 0), (2, .int 0)]) C.1 C.2.1 dX12_deals_47 hl (by decide) rfl (fun ls hl => ?_)
  refine lv_iconst (v := 5) C.1 C.2.1 dX12_deals_49 (by decide) ?_
  refine lv_istore (lv' := [(6, .int 5), (5, .int 0), (4, .int 0), (3, .int 1), (0, .ref h0), (1, .int 0), (2, .int 0)]) C.1 C.2.1 dX12_deals_50 hl (by decide) rfl (fun ls hl => ?_)
  refine lv_iload C.1 C.2.1 dX12_deals_52 (lv_at hl 0 rfl) ?_
  refine lv_if_lt (tgt := 100) C.1 C.2.1 dX12_deals_54 (by decide) (fun c5320 => absurd c5320 (by decide)) (fun _ => ?_)
  refine lv_aload_n C.1 C.2.1 dX12_deals_57 rfl (lv_at hl 4 rfl) ?_
  refine k_get C Wd KX12 0 55 rfl (by decide) fl_X12_87 rfl dX12_deals_58 ?_
  refine lv_iload C.1 C.2.1 dX12_deals_61 (lv_at hl 0 rfl) ?_
  refine lv_iconst (v := (-1)) C.1 C.2.1 dX12_deals_63 (by decide) ?_
  refine k_iast C Wd 1 0 [(h0, .inr (12, [.ref h1, .ref h2, .ref h3, .ref h4, .int 0, .int 0, .ref h5, .int 0, .int 0, .int 0, .int 0, .int 0, .int 0, .int 0, .int 0, .int 0, .int 0, .int 0, .int 0, .int 0, .int (-1), .int 0, .int 0, .int 0, .ref h6, .ref h7, .ref h8, .ref h9, .ref h10, .ref h11, .int 0, .int 0, .int 0, .int 0, .ref h12, .ref h13, .ref h14, .int 0, .int 0, .int 0, .int 0, .ref h15, .ref h16, .int 0, .ref h17, .ref h18, .int 0, .ref h19, .int 0, .ref h20, .ref h21, .ref h22, .int 0, .ref h23, .ref h24, .ref h25])), (h25, .inl (a24, 6, .inl (upd (fun _ => 0) 5 (-1))))] rfl rfl (vp_in_iff.mpr (by decide)) rfl rfl dX12_deals_64 (fun H locs Wd => ?_)
  refine lv_iload_n C.1 C.2.1 dX12_deals_65 rfl (lv_at hl 5 rfl) ?_
  refine lv_iload C.1 C.2.1 dX12_deals_66 (lv_at hl 0 rfl) ?_
  refine k_ishr (v := 0) C (by decide) dX12_deals_68 ?_
  refine lv_iconst (v := 1) C.1 C.2.1 dX12_deals_69 (by decide) ?_
  refine k_iand (v := 0) C (by decide) dX12_deals_70 ?_
  refine lv_if_ne (tgt := 77) C.1 C.2.1 dX12_deals_71 (by decide) (fun c5321 => absurd c5321 (by decide)) (fun _ => ?_)
  refine lv_goto (tgt := 94) C.1 C.2.1 dX12_deals_74 (by decide) ?_
  refine lv_iinc (v := 4) (lv' := [(6, .int 4), (5, .int 0), (4, .int 0), (3, .int 1), (0, .ref h0), (1, .int 0), (2, .int 0)]) C.1 C.2.1 dX12_deals_94 hl (k := 0) rfl (by decide) (by decide) rfl (fun ls hl => ?_)
  refine lv_goto (tgt := 52) C.1 C.2.1 dX12_deals_97 (by decide) ?_
  refine lv_iload C.1 C.2.1 dX12_deals_52 (lv_at hl 0 rfl) ?_
  refine lv_if_lt (tgt := 100) C.1 C.2.1 dX12_deals_54 (by decide) (fun c5322 => absurd c5322 (by decide)) (fun _ => ?_)
  refine lv_aload_n C.1 C.2.1 dX12_deals_57 rfl (lv_at hl 4 rfl) ?_
  refine k_get C Wd KX12 0 55 rfl (by decide) fl_X12_87 rfl dX12_deals_58 ?_
  refine lv_iload C.1 C.2.1 dX12_deals_61 (lv_at hl 0 rfl) ?_
  refine lv_iconst (v := (-1)) C.1 C.2.1 dX12_deals_63 (by decide) ?_
  refine k_iast C Wd 1 0 [(h0, .inr (12, [.ref h1, .ref h2, .ref h3, .ref h4, .int 0, .int 0, .ref h5, .int 0, .int 0, .int 0, .int 0, .int 0, .int 0, .int 0, .int 0, .int 0, .int 0, .int 0, .int 0, .int 0, .int (-1), .int 0, .int 0, .int 0, .ref h6, .ref h7, .ref h8, .ref h9, .ref h10, .ref h11, .int 0, .int 0, .int 0, .int 0, .ref h12, .ref h13, .ref h14, .int 0, .int 0, .int 0, .int 0, .ref h15, .ref h16, .int 0, .ref h17, .ref h18, .int 0, .ref h19, .int 0, .ref h20, .ref h21, .ref h22, .int 0, .ref h23, .ref h24, .ref h25])), (h25, .inl (a24, 6, .inl (upd (upd (fun _ => 0) 5 (-1)) 4 (-1))))] rfl rfl (vp_in_iff.mpr (by decide)) rfl rfl dX12_deals_64 (fun H locs Wd => ?_)
  refine lv_iload_n C.1 C.2.1 dX12_deals_65 rfl (lv_at hl 5 rfl) ?_
  refine lv_iload C.1 C.2.1 dX12_deals_66 (lv_at hl 0 rfl) ?_
  refine k_ishr (v := 0) C (by decide) dX12_deals_68 ?_
  refine lv_iconst (v := 1) C.1 C.2.1 dX12_deals_69 (by decide) ?_
  refine k_iand (v := 0) C (by decide) dX12_deals_70 ?_
  refine lv_if_ne (tgt := 77) C.1 C.2.1 dX12_deals_71 (by decide) (fun c5323 => absurd c5323 (by decide)) (fun _ => ?_)
  refine lv_goto (tgt := 94) C.1 C.2.1 dX12_deals_74 (by decide) ?_
  refine lv_iinc (v := 3) (lv' := [(6, .int 3), (5, .int 0), (4, .int 0), (3, .int 1), (0, .ref h0), (1, .int 0), (2, .int 0)]) C.1 C.2.1 dX12_deals_94 hl (k := 0) rfl (by decide) (by decide) rfl (fun ls hl => ?_)
  refine lv_goto (tgt := 52) C.1 C.2.1 dX12_deals_97 (by decide) ?_
  refine lv_iload C.1 C.2.1 dX12_deals_52 (lv_at hl 0 rfl) ?_
  refine lv_if_lt (tgt := 100) C.1 C.2.1 dX12_deals_54 (by decide) (fun c5324 => absurd c5324 (by decide)) (fun _ => ?_)
  refine lv_aload_n C.1 C.2.1 dX12_deals_57 rfl (lv_at hl 4 rfl) ?_
  refine k_get C Wd KX12 0 55 rfl (by decide) fl_X12_87 rfl dX12_deals_58 ?_
  refine lv_iload C.1 C.2.1 dX12_deals_61 (lv_at hl 0 rfl) ?_
  refine lv_iconst (v := (-1)) C.1 C.2.1 dX12_deals_63 (by decide) ?_
  refine k_iast C Wd 1 0 [(h0, .inr (12, [.ref h1, .ref h2, .ref h3, .ref h4, .int 0, .int 0, .ref h5, .int 0, .int 0, .int 0, .int 0, .int 0, .int 0, .int 0, .int 0, .int 0, .int 0, .int 0, .int 0, .int 0, .int (-1), .int 0, .int 0, .int 0, .ref h6, .ref h7, .ref h8, .ref h9, .ref h10, .ref h11, .int 0, .int 0, .int 0, .int 0, .ref h12, .ref h13, .ref h14, .int 0, .int 0, .int 0, .int 0, .ref h15, .ref h16, .int 0, .ref h17, .ref h18, .int 0, .ref h19, .int 0, .ref h20, .ref h21, .ref h22, .int 0, .ref h23, .ref h24, .ref h25])), (h25, .inl (a24, 6, .inl (upd (upd (upd (fun _ => 0) 5 (-1)) 4 (-1)) 3 (-1))))] rfl rfl (vp_in_iff.mpr (by decide)) rfl rfl dX12_deals_64 (fun H locs Wd => ?_)
  refine lv_iload_n C.1 C.2.1 dX12_deals_65 rfl (lv_at hl 5 rfl) ?_
  refine lv_iload C.1 C.2.1 dX12_deals_66 (lv_at hl 0 rfl) ?_
  refine k_ishr (v := 0) C (by decide) dX12_deals_68 ?_
  refine lv_iconst (v := 1) C.1 C.2.1 dX12_deals_69 (by decide) ?_
  refine k_iand (v := 0) C (by decide) dX12_deals_70 ?_
  refine lv_if_ne (tgt := 77) C.1 C.2.1 dX12_deals_71 (by decide) (fun c5325 => absurd c5325 (by decide)) (fun _ => ?_)
  refine lv_goto (tgt := 94) C.1 C.2.1 dX12_deals_74 (by decide) ?_
  refine lv_iinc (v := 2) (lv' := [(6, .int 2), (5, .int 0), (4, .int 0), (3, .int 1), (0, .ref h0), (1, .int 0), (2, .int 0)]) C.1 C.2.1 dX12_deals_94 hl (k := 0) rfl (by decide) (by decide) rfl (fun ls hl => ?_)
  refine lv_goto (tgt := 52) C.1 C.2.1 dX12_deals_97 (by decide) ?_
  refine lv_iload C.1 C.2.1 dX12_deals_52 (lv_at hl 0 rfl) ?_
  refine lv_if_lt (tgt := 100) C.1 C.2.1 dX12_deals_54 (by decide) (fun c5326 => absurd c5326 (by decide)) (fun _ => ?_)
  refine lv_aload_n C.1 C.2.1 dX12_deals_57 rfl (lv_at hl 4 rfl) ?_
  refine k_get C Wd KX12 0 55 rfl (by decide) fl_X12_87 rfl dX12_deals_58 ?_
  refine lv_iload C.1 C.2.1 dX12_deals_61 (lv_at hl 0 rfl) ?_
  refine lv_iconst (v := (-1)) C.1 C.2.1 dX12_deals_63 (by decide) ?_
  refine k_iast C Wd 1 0 [(h0, .inr (12, [.ref h1, .ref h2, .ref h3, .ref h4, .int 0, .int 0, .ref h5, .int 0, .int 0, .int 0, .int 0, .int 0, .int 0, .int 0, .int 0, .int 0, .int 0, .int 0, .int 0, .int 0, .int (-1), .int 0, .int 0, .int 0, .ref h6, .ref h7, .ref h8, .ref h9, .ref h10, .ref h11, .int 0, .int 0, .int 0, .int 0, .ref h12, .ref h13, .ref h14, .int 0, .int 0, .int 0, .int 0, .ref h15, .ref h16, .int 0, .ref h17, .ref h18, .int 0, .ref h19, .int 0, .ref h20, .ref h21, .ref h22, .int 0, .ref h23, .ref h24, .ref h25])), (h25, .inl (a24, 6, .inl (upd (upd (upd (upd (fun _ => 0) 5 (-1)) 4 (-1)) 3 (-1)) 2 (-1))))] rfl rfl (vp_in_iff.mpr (by decide)) rfl rfl dX12_deals_64 (fun H locs Wd => ?_)
  refine lv_iload_n C.1 C.2.1 dX12_deals_65 rfl (lv_at hl 5 rfl) ?_
  refine lv_iload C.1 C.2.1 dX12_deals_66 (lv_at hl 0 rfl) ?_
  refine k_ishr (v := 0) C (by decide) dX12_deals_68 ?_
  refine lv_iconst (v := 1) C.1 C.2.1 dX12_deals_69 (by decide) ?_
  refine k_iand (v := 0) C (by decide) dX12_deals_70 ?_
  refine lv_if_ne (tgt := 77) C.1 C.2.1 dX12_deals_71 (by decide) (fun c5327 => absurd c5327 (by decide)) (fun _ => ?_)
  refine lv_goto (tgt := 94) C.1 C.2.1 dX12_deals_74 (by decide) ?_
  refine lv_iinc (v := 1) (lv' := [(6, .int 1), (5, .int 0), (4, .int 0), (3, .int 1), (0, .ref h0), (1, .int 0), (2, .int 0)]) C.1 C.2.1 dX12_deals_94 hl (k := 0) rfl (by decide) (by decide) rfl (fun ls hl => ?_)
  refine lv_goto (tgt := 52) C.1 C.2.1 dX12_deals_97 (by decide) ?_
  refine lv_iload C.1 C.2.1 dX12_deals_52 (lv_at hl 0 rfl) ?_
  refine lv_if_lt (tgt := 100) C.1 C.2.1 dX12_deals_54 (by decide) (fun c5328 => absurd c5328 (by decide)) (fun _ => ?_)
  refine lv_aload_n C.1 C.2.1 dX12_deals_57 rfl (lv_at hl 4 rfl) ?_
  refine k_get C Wd KX12 0 55 rfl (by decide) fl_X12_87 rfl dX12_deals_58 ?_
  refine lv_iload C.1 C.2.1 dX12_deals_61 (lv_at hl 0 rfl) ?_
  refine lv_iconst (v := (-1)) C.1 C.2.1 dX12_deals_63 (by decide) ?_
  refine k_iast C Wd 1 0 [(h0, .inr (12, [.ref h1, .ref h2, .ref h3, .ref h4, .int 0, .int 0, .ref h5, .int 0, .int 0, .int 0, .int 0, .int 0, .int 0, .int 0, .int 0, .int 0, .int 0, .int 0, .int 0, .int 0, .int (-1), .int 0, .int 0, .int 0, .ref h6, .ref h7, .ref h8, .ref h9, .ref h10, .ref h11, .int 0, .int 0, .int 0, .int 0, .ref h12, .ref h13, .ref h14, .int 0, .int 0, .int 0, .int 0, .ref h15, .ref h16, .int 0, .ref h17, .ref h18, .int 0, .ref h19, .int 0, .ref h20, .ref h21, .ref h22, .int 0, .ref h23, .ref h24, .ref h25])), (h25, .inl (a24, 6, .inl (upd (upd (upd (upd (upd (fun _ => 0) 5 (-1)) 4 (-1)) 3 (-1)) 2 (-1)) 1 (-1))))] rfl rfl (vp_in_iff.mpr (by decide)) rfl rfl dX12_deals_64 (fun H locs Wd => ?_)
  refine lv_iload_n C.1 C.2.1 dX12_deals_65 rfl (lv_at hl 5 rfl) ?_
  refine lv_iload C.1 C.2.1 dX12_deals_66 (lv_at hl 0 rfl) ?_
  refine k_ishr (v := 0) C (by decide) dX12_deals_68 ?_
  refine lv_iconst (v := 1) C.1 C.2.1 dX12_deals_69 (by decide) ?_
  refine k_iand (v := 0) C (by decide) dX12_deals_70 ?_
  refine lv_if_ne (tgt := 77) C.1 C.2.1 dX12_deals_71 (by decide) (fun c5329 => absurd c5329 (by decide)) (fun _ => ?_)
  refine lv_goto (tgt := 94) C.1 C.2.1 dX12_deals_74 (by decide) ?_
  refine lv_iinc (v := 0) (lv' := [(6, .int 0), (5, .int 0), (4, .int 0), (3, .int 1), (0, .ref h0), (1, .int 0), (2, .int 0)]) C.1 C.2.1 dX12_deals_94 hl (k := 0) rfl (by decide) (by decide) rfl (fun ls hl => ?_)
  refine lv_goto (tgt := 52) C.1 C.2.1 dX12_deals_97 (by decide) ?_
  refine lv_iload C.1 C.2.1 dX12_deals_52 (lv_at hl 0 rfl) ?_
  refine lv_if_lt (tgt := 100) C.1 C.2.1 dX12_deals_54 (by decide) (fun c5330 => absurd c5330 (by decide)) (fun _ => ?_)
  refine lv_aload_n C.1 C.2.1 dX12_deals_57 rfl (lv_at hl 4 rfl) ?_
  refine k_get C Wd KX12 0 55 rfl (by decide) fl_X12_87 rfl dX12_deals_58 ?_
  refine lv_iload C.1 C.2.1 dX12_deals_61 (lv_at hl 0 rfl) ?_
  refine lv_iconst (v := (-1)) C.1 C.2.1 dX12_deals_63 (by decide) ?_
  refine k_iast C Wd 1 0 [(h0, .inr (12, [.ref h1, .ref h2, .ref h3, .ref h4, .int 0, .int 0, .ref h5, .int 0, .int 0, .int 0, .int 0, .int 0, .int 0, .int 0, .int 0, .int 0, .int 0, .int 0, .int 0, .int 0, .int (-1), .int 0, .int 0, .int 0, .ref h6, .ref h7, .ref h8, .ref h9, .ref h10, .ref h11, .int 0, .int 0, .int 0, .int 0, .ref h12, .ref h13, .ref h14, .int 0, .int 0, .int 0, .int 0, .ref h15, .ref h16, .int 0, .ref h17, .ref h18, .int 0, .ref h19, .int 0, .ref h20, .ref h21, .ref h22, .int 0, .ref h23, .ref h24, .ref h25])), (h25, .inl (a24, 6, .inl (upd (upd (upd (upd (upd (upd (fun _ => 0) 5 (-1)) 4 (-1)) 3 (-1)) 2 (-1)) 1 (-1)) 0 (-1))))] rfl rfl (vp_in_iff.mpr (by decide)) rfl rfl dX12_deals_64 (fun H locs Wd => ?_)
  refine lv_iload_n C.1 C.2.1 dX12_deals_65 rfl (lv_at hl 5 rfl) ?_
  refine lv_iload C.1 C.2.1 dX12_deals_66 (lv_at hl 0 rfl) ?_
  refine k_ishr (v := 0) C (by decide) dX12_deals_68 ?_
  refine lv_iconst (v := 1) C.1 C.2.1 dX12_deals_69 (by decide) ?_
  refine k_iand (v := 0) C (by decide) dX12_deals_70 ?_
  refine lv_if_ne (tgt := 77) C.1 C.2.1 dX12_deals_71 (by decide) (fun c5331 => absurd c5331 (by decide)) (fun _ => ?_)
  refine lv_goto (tgt := 94) C.1 C.2.1 dX12_deals_74 (by decide) ?_
  refine lv_iinc (v := (-1)) (lv' := [(6, .int (-1)), (5, .int 0), (4, .int 0), (3, .int 1), (0, .ref h0), (1, .int 0), (2, .int 0)]) C.1 C.2.1 dX12_deals_94 hl (k := 0) rfl (by decide) (by decide) rfl (fun ls hl => ?_)
  refine lv_goto (tgt := 52) C.1 C.2.1 dX12_deals_97 (by decide) ?_
  refine lv_iload C.1 C.2.1 dX12_deals_52 (lv_at hl 0 rfl) ?_
  refine lv_if_lt (tgt := 100) C.1 C.2.1 dX12_deals_54 (by decide) (fun _ => ?_) (fun c5332 => absurd c5332 (by decide))
  refine lv_iconst (v := 1) C.1 C.2.1 dX12_deals_100 (by decide) ?_
  refine lv_istore (lv' := [(6, .int 1), (5, .int 0), (4, .int 0), (3, .int 1), (0, .ref h0), (1, .int 0), (2, .int 0)]) C.1 C.2.1 dX12_deals_101 hl (by decide) rfl (fun ls hl => ?_)
  refine lv_iconst (v := 0) C.1 C.2.1 dX12_deals_103 (by decide) ?_
  refine lv_istore (lv' := [(7, .int 0), (6, .int 1), (5, .int 0), (4, .int 0), (3, .int 1), (0, .ref h0), (1, .int 0), (2, .int 0)]) C.1 C.2.1 dX12_deals_104 hl (by decide) rfl (fun ls hl => ?_)
  refine lv_iload C.1 C.2.1 dX12_deals_106 (lv_at hl 0 rfl) ?_
  refine lv_bipush (v := 6) C.1 C.2.1 dX12_deals_108 (by decide) ?_
  refine lv_icmp_ge (tgt := 190) C.1 C.2.1 dX12_deals_110 (by decide) (fun c5333 => absurd c5333 (by decide)) (fun _ => ?_)
  refine lv_iconst (v := 0) C.1 C.2.1 dX12_deals_113 (by decide) ?_
  refine lv_istore (lv' := [(8, .int 0), (7, .int 0), (6, .int 1), (5, .int 0), (4, .int 0), (3, .int 1), (0, .ref h0), (1, .int 0), (2, .int 0)]) C.1 C.2.1 dX12_deals_114 hl (by decide) rfl (fun ls hl => ?_)
  refine lv_iload C.1 C.2.1 dX12_deals_116 (lv_at hl 0 rfl) ?_
  refine lv_iload C.1 C.2.1 dX12_deals_118 (lv_at hl 1 rfl) ?_
  refine lv_icmp_ge (tgt := 184) C.1 C.2.1 dX12_deals_120 (by decide) (fun _ => ?_) (fun c5334 => absurd c5334 (by decide))
  refine lv_iinc (v := 1) (lv' := [(7, .int 1), (8, .int 0), (6, .int 1), (5, .int 0), (4, .int 0), (3, .int 1), (0, .ref h0), (1, .int 0), (2, .int 0)]) C.1 C.2.1 dX12_deals_184 hl (k := 1) rfl (by decide) (by decide) rfl (fun ls hl => ?_)
  refine lv_goto (tgt := 106) C.1 C.2.1 dX12_deals_187 (by decide) ?_
  refine lv_iload C.1 C.2.1 dX12_deals_106 (lv_at hl 0 rfl) ?_
  refine lv_bipush (v := 6) C.1 C.2.1 dX12_deals_108 (by decide) ?_
  refine lv_icmp_ge (tgt := 190) C.1 C.2.1 dX12_deals_110 (by decide) (fun c5335 => absurd c5335 (by decide)) (fun _ => ?_)
  refine lv_iconst (v := 0) C.1 C.2.1 dX12_deals_113 (by decide) ?_
  refine lv_istore (lv' := [(8, .int 0), (7, .int 1), (6, .int 1), (5, .int 0), (4, .int 0), (3, .int 1), (0, .ref h0), (1, .int 0), (2, .int 0)]) C.1 C.2.1 dX12_deals_114 hl (by decide) rfl (fun ls hl => ?_)
  refine lv_iload C.1 C.2.1 dX12_deals_116 (lv_at hl 0 rfl) ?_
  refine lv_iload C.1 C.2.1 dX12_deals_118 (lv_at hl 1 rfl) ?_
  refine lv_icmp_ge (tgt := 184) C.1 C.2.1 dX12_deals_120 (by decide) (fun c5336 => absurd c5336 (by decide)) (fun _ => ?_)
  refine lv_iload C.1 C.2.1 dX12_deals_123 (lv_at hl 2 rfl) ?_
  refine lv_if_eq (tgt := 175) C.1 C.2.1 dX12_deals_125 (by decide) (fun c5337 => absurd c5337 (by decide)) (fun _ => ?_)
  refine lv_aload_n C.1 C.2.1 dX12_deals_128 rfl (lv_at hl 6 rfl) ?_
  refine k_get C Wd KX12 0 55 rfl (by decide) fl_X12_87 rfl dX12_deals_129 ?_
  refine lv_iload C.1 C.2.1 dX12_deals_132 (lv_at hl 1 rfl) ?_
  refine k_iald (v := (-1)) C Wd 1 0 rfl rfl (vp_in_iff.mpr (by decide)) rfl dX12_deals_134 ?_
  refine lv_iconst (v := (-1)) C.1 C.2.1 dX12_deals_135 (by decide) ?_
  refine lv_icmp_eq (tgt := 171) C.1 C.2.1 dX12_deals_136 (by decide) (fun _ => ?_) (fun c5338 => absurd c5338 (by decide))
  refine lv_iconst (v := 1) C.1 C.2.1 dX12_deals_171 (by decide) ?_
  refine lv_goto (tgt := 176) C.1 C.2.1 dX12_deals_172 (by decide) ?_
  refine lv_istore (lv' := [(6, .int 1), (8, .int 0), (7, .int 1), (5, .int 0), (4, .int 0), (3, .int 1), (0, .ref h0), (1, .int 0), (2, .int 0)]) C.1 C.2.1 dX12_deals_176 hl (by decide) rfl (fun ls hl => ?_)
  refine lv_iinc (v := 1) (lv' := [(8, .int 1), (6, .int 1), (7, .int 1), (5, .int 0), (4, .int 0), (3, .int 1), (0, .ref h0), (1, .int 0), (2, .int 0)]) C.1 C.2.1 dX12_deals_178 hl (k := 1) rfl (by decide) (by decide) rfl (fun ls hl => ?_)
  refine lv_goto (tgt := 116) C.1 C.2.1 dX12_deals_181 (by decide) ?_
  refine lv_iload C.1 C.2.1 dX12_deals_116 (lv_at hl 0 rfl) ?_
  refine lv_iload C.1 C.2.1 dX12_deals_118 (lv_at hl 2 rfl) ?_
  refine lv_icmp_ge (tgt := 184) C.1 C.2.1 dX12_deals_120 (by decide) (fun _ => ?_) (fun c5339 => absurd c5339 (by decide))
  refine lv_iinc (v := 2) (lv' := [(7, .int 2), (8, .int 1), (6, .int 1), (5, .int 0), (4, .int 0), (3, .int 1), (0, .ref h0), (1, .int 0), (2, .int 0)]) C.1 C.2.1 dX12_deals_184 hl (k := 2) rfl (by decide) (by decide) rfl (fun ls hl => ?_)
  refine lv_goto (tgt := 106) C.1 C.2.1 dX12_deals_187 (by decide) ?_
  refine lv_iload C.1 C.2.1 dX12_deals_106 (lv_at hl 0 rfl) ?_
  refine lv_bipush (v := 6) C.1 C.2.1 dX12_deals_108 (by decide) ?_
  refine lv_icmp_ge (tgt := 190) C.1 C.2.1 dX12_deals_110 (by decide) (fun c5340 => absurd c5340 (by decide)) (fun _ => ?_)
  refine lv_iconst (v := 0) C.1 C.2.1 dX12_deals_113 (by decide) ?_
  refine lv_istore (lv' := [(8, .int 0), (7, .int 2), (6, .int 1), (5, .int 0), (4, .int 0), (3, .int 1), (0, .ref h0), (1, .int 0), (2, .int 0)]) C.1 C.2.1 dX12_deals_114 hl (by decide) rfl (fun ls hl => ?_)
  refine lv_iload C.1 C.2.1 dX12_deals_116 (lv_at hl 0 rfl) ?_
  refine lv_iload C.1 C.2.1 dX12_deals_118 (lv_at hl 1 rfl) ?_
  refine lv_icmp_ge (tgt := 184) C.1 C.2.1 dX12_deals_120 (by decide) (fun c5341 => absurd c5341 (by decide)) (fun _ => ?_)
  refine lv_iload C.1 C.2.1 dX12_deals_123 (lv_at hl 2 rfl) ?_
  refine lv_if_eq (tgt := 175) C.1 C.2.1 dX12_deals_125 (by decide) (fun c5342 => absurd c5342 (by decide)) (fun _ => ?_)
  refine lv_aload_n C.1 C.2.1 dX12_deals_128 rfl (lv_at hl 6 rfl) ?_
  refine k_get C Wd KX12 0 55 rfl (by decide) fl_X12_87 rfl dX12_deals_129 ?_
  refine lv_iload C.1 C.2.1 dX12_deals_132 (lv_at hl 1 rfl) ?_
  refine k_iald (v := (-1)) C Wd 1 0 rfl rfl (vp_in_iff.mpr (by decide)) rfl dX12_deals_134 ?_
  refine lv_iconst (v := (-1)) C.1 C.2.1 dX12_deals_135 (by decide) ?_
  refine lv_icmp_eq (tgt := 171) C.1 C.2.1 dX12_deals_136 (by decide) (fun _ => ?_) (fun c5343 => absurd c5343 (by decide))
  refine lv_iconst (v := 1) C.1 C.2.1 dX12_deals_171 (by decide) ?_
  refine lv_goto (tgt := 176) C.1 C.2.1 dX12_deals_172 (by decide) ?_
  refine lv_istore (lv' := [(6, .int 1), (8, .int 0), (7, .int 2), (5, .int 0), (4, .int 0), (3, .int 1), (0, .ref h0), (1, .int 0), (2, .int 0)]) C.1 C.2.1 dX12_deals_176 hl (by decide) rfl (fun ls hl => ?_)
  refine lv_iinc (v := 1) (lv' := [(8, .int 1), (6, .int 1), (7, .int 2), (5, .int 0), (4, .int 0), (3, .int 1), (0, .ref h0), (1, .int 0), (2, .int 0)]) C.1 C.2.1 dX12_deals_178 hl (k := 1) rfl (by decide) (by decide) rfl (fun ls hl => ?_)
  refine lv_goto (tgt := 116) C.1 C.2.1 dX12_deals_181 (by decide) ?_
  refine lv_iload C.1 C.2.1 dX12_deals_116 (lv_at hl 0 rfl) ?_
  refine lv_iload C.1 C.2.1 dX12_deals_118 (lv_at hl 2 rfl) ?_
  refine lv_icmp_ge (tgt := 184) C.1 C.2.1 dX12_deals_120 (by decide) (fun c5344 => absurd c5344 (by decide)) (fun _ => ?_)
  refine lv_iload C.1 C.2.1 dX12_deals_123 (lv_at hl 1 rfl) ?_
  refine lv_if_eq (tgt := 175) C.1 C.2.1 dX12_deals_125 (by decide) (fun c5345 => absurd c5345 (by decide)) (fun _ => ?_)
  refine lv_aload_n C.1 C.2.1 dX12_deals_128 rfl (lv_at hl 6 rfl) ?_
  refine k_get C Wd KX12 0 55 rfl (by decide) fl_X12_87 rfl dX12_deals_129 ?_
  refine lv_iload C.1 C.2.1 dX12_deals_132 (lv_at hl 2 rfl) ?_
  refine k_iald (v := (-1)) C Wd 1 0 rfl rfl (vp_in_iff.mpr (by decide)) rfl dX12_deals_134 ?_
  refine lv_iconst (v := (-1)) C.1 C.2.1 dX12_deals_135 (by decide) ?_
  refine lv_icmp_eq (tgt := 171) C.1 C.2.1 dX12_deals_136 (by decide) (fun _ => ?_) (fun c5346 => absurd c5346 (by decide))
  refine lv_iconst (v := 1) C.1 C.2.1 dX12_deals_171 (by decide) ?_
  refine lv_goto (tgt := 176) C.1 C.2.1 dX12_deals_172 (by decide) ?_
  refine lv_istore (lv' := [(6, .int 1), (8, .int 1), (7, .int 2), (5, .int 0), (4, .int 0), (3, .int 1), (0, .ref h0), (1, .int 0), (2, .int 0)]) C.1 C.2.1 dX12_deals_176 hl (by decide) rfl (fun ls hl => ?_)
  refine lv_iinc (v := 2) (lv' := [(8, .int 2), (6, .int 1), (7, .int 2), (5, .int 0), (4, .int 0), (3, .int 1), (0, .ref h0), (1, .int 0), (2, .int 0)]) C.1 C.2.1 dX12_deals_178 hl (k := 1) rfl (by decide) (by decide) rfl (fun ls hl => ?_)
  refine lv_goto (tgt := 116) C.1 C.2.1 dX12_deals_181 (by decide) ?_
  refine lv_iload C.1 C.2.1 dX12_deals_116 (lv_at hl 0 rfl) ?_
  refine lv_iload C.1 C.2.1 dX12_deals_118 (lv_at hl 2 rfl) ?_
  refine lv_icmp_ge (tgt := 184) C.1 C.2.1 dX12_deals_120 (by decide) (fun _ => ?_) (fun c5347 => absurd c5347 (by decide))
  refine lv_iinc (v := 3) (lv' := [(7, .int 3), (8, .int 2), (6, .int 1), (5, .int 0), (4, .int 0), (3, .int 1), (0, .ref h0), (1, .int 0), (2, .int 0)]) C.1 C.2.1 dX12_deals_184 hl (k := 2) rfl (by decide) (by decide) rfl (fun ls hl => ?_)
  refine lv_goto (tgt := 106) C.1 C.2.1 dX12_deals_187 (by decide) ?_
  refine lv_iload C.1 C.2.1 dX12_deals_106 (lv_at hl 0 rfl) ?_
  refine lv_bipush (v := 6) C.1 C.2.1 dX12_deals_108 (by decide) ?_
  refine lv_icmp_ge (tgt := 190) C.1 C.2.1 dX12_deals_110 (by decide) (fun c5348 => absurd c5348 (by decide)) (fun _ => ?_)
  refine lv_iconst (v := 0) C.1 C.2.1 dX12_deals_113 (by decide) ?_
  refine lv_istore (lv' := [(8, .int 0), (7, .int 3), (6, .int 1), (5, .int 0), (4, .int 0), (3, .int 1), (0, .ref h0), (1, .int 0), (2, .int 0)]) C.1 C.2.1 dX12_deals_114 hl (by decide) rfl (fun ls hl => ?_)
  refine lv_iload C.1 C.2.1 dX12_deals_116 (lv_at hl 0 rfl) ?_
  refine lv_iload C.1 C.2.1 dX12_deals_118 (lv_at hl 1 rfl) ?_
  refine lv_icmp_ge (tgt := 184) C.1 C.2.1 dX12_deals_120 (by decide) (fun c5349 => absurd c5349 (by decide)) (fun _ => ?_)
  refine lv_iload C.1 C.2.1 dX12_deals_123 (lv_at hl 2 rfl) ?_
  refine lv_if_eq (tgt := 175) C.1 C.2.1 dX12_deals_125 (by decide) (fun c5350 => absurd c5350 (by decide)) (fun _ => ?_)
  refine lv_aload_n C.1 C.2.1 dX12_deals_128 rfl (lv_at hl 6 rfl) ?_
  refine k_get C Wd KX12 0 55 rfl (by decide) fl_X12_87 rfl dX12_deals_129 ?_
  refine lv_iload C.1 C.2.1 dX12_deals_132 (lv_at hl 1 rfl) ?_
  refine k_iald (v := (-1)) C Wd 1 0 rfl rfl (vp_in_iff.mpr (by decide)) rfl dX12_deals_134 ?_
  refine lv_iconst (v := (-1)) C.1 C.2.1 dX12_deals_135 (by decide) ?_
  refine lv_icmp_eq (tgt := 171) C.1 C.2.1 dX12_deals_136 (by decide) (fun _ => ?_) (fun c5351 => absurd c5351 (by decide))
  refine lv_iconst (v := 1) C.1 C.2.1 dX12_deals_171 (by decide) ?_
  refine lv_goto (tgt := 176) C.1 C.2.1 dX12_deals_172 (by decide) ?_
  refine lv_istore (lv' := [(6, .int 1), (8, .int 0), (7, .int 3), (5, .int 0), (4, .int 0), (3, .int 1), (0, .ref h0), (1, .int 0), (2, .int 0)]) C.1 C.2.1 dX12_deals_176 hl (by decide) rfl (fun ls hl => ?_)
  refine lv_iinc (v := 1) (lv' := [(8, .int 1), (6, .int 1), (7, .int 3), (5, .int 0), (4, .int 0), (3, .int 1), (0, .ref h0), (1, .int 0), (2, .int 0)]) C.1 C.2.1 dX12_deals_178 hl (k := 1) rfl (by decide) (by decide) rfl (fun ls hl => ?_)
  refine lv_goto (tgt := 116) C.1 C.2.1 dX12_deals_181 (by decide) ?_
  refine lv_iload C.1 C.2.1 dX12_deals_116 (lv_at hl 0 rfl) ?_
  refine lv_iload C.1 C.2.1 dX12_deals_118 (lv_at hl 2 rfl) ?_
  refine lv_icmp_ge (tgt := 184) C.1 C.2.1 dX12_deals_120 (by decide) (fun c5352 => absurd c5352 (by decide)) (fun _ => ?_)
  refine lv_iload C.1 C.2.1 dX12_deals_123 (lv_at hl 1 rfl) ?_
  refine lv_if_eq (tgt := 175) C.1 C.2.1 dX12_deals_125 (by decide) (fun c5353 => absurd c5353 (by decide)) (fun _ => ?_)
  refine lv_aload_n C.1 C.2.1 dX12_deals_128 rfl (lv_at hl 6 rfl) ?_
  refine k_get C Wd KX12 0 55 rfl (by decide) fl_X12_87 rfl dX12_deals_129 ?_
  refine lv_iload C.1 C.2.1 dX12_deals_132 (lv_at hl 2 rfl) ?_
  refine k_iald (v := (-1)) C Wd 1 0 rfl rfl (vp_in_iff.mpr (by decide)) rfl dX12_deals_134 ?_
  refine lv_iconst (v := (-1)) C.1 C.2.1 dX12_deals_135 (by decide) ?_
  refine lv_icmp_eq (tgt := 171) C.1 C.2.1 dX12_deals_136 (by decide) (fun _ => ?_) (fun c5354 => absurd c5354 (by decide))
  refine lv_iconst (v := 1) C.1 C.2.1 dX12_deals_171 (by decide) ?_
  refine lv_goto (tgt := 176) C.1 C.2.1 dX12_deals_172 (by decide) ?_
  refine lv_istore (lv' := [(6, .int 1), (8, .int 1), (7, .int 3), (5, .int 0), (4, .int 0), (3, .int 1), (0, .ref h0), (1, .int 0), (2, .int 0)]) C.1 C.2.1 dX12_deals_176 hl (by decide) rfl (fun ls hl => ?_)
  refine lv_iinc (v := 2) (lv' := [(8, .int 2), (6, .int 1), (7, .int 3), (5, .int 0), (4, .int 0), (3, .int 1), (0, .ref h0), (1, .int 0), (2, .int 0)]) C.1 C.2.1 dX12_deals_178 hl (k := 1) rfl (by decide) (by decide) rfl (fun ls hl => ?_)
  refine lv_goto (tgt := 116) C.1 C.2.1 dX12_deals_181 (by decide) ?_
  refine lv_iload C.1 C.2.1 dX12_deals_116 (lv_at hl 0 rfl) ?_
  refine lv_iload C.1 C.2.1 dX12_deals_118 (lv_at hl 2 rfl) ?_
  refine lv_icmp_ge (tgt := 184) C.1 C.2.1 dX12_deals_120 (by decide) (fun c5355 => absurd c5355 (by decide)) (fun _ => ?_)
  refine lv_iload C.1 C.2.1 dX12_deals_123 (lv_at hl 1 rfl) ?_
  refine lv_if_eq (tgt := 175) C.1 C.2.1 dX12_deals_125 (by decide) (fun c5356 => absurd c5356 (by decide)) (fun _ => ?_)
  refine lv_aload_n C.1 C.2.1 dX12_deals_128 rfl (lv_at hl 6 rfl) ?_
  refine k_get C Wd KX12 0 55 rfl (by decide) fl_X12_87 rfl dX12_deals_129 ?_
  refine lv_iload C.1 C.2.1 dX12_deals_132 (lv_at hl 2 rfl) ?_
  refine k_iald (v := (-1)) C Wd 1 0 rfl rfl (vp_in_iff.mpr (by decide)) rfl dX12_deals_134 ?_
  refine lv_iconst (v := (-1)) C.1 C.2.1 dX12_deals_135 (by decide) ?_
  refine lv_icmp_eq (tgt := 171) C.1 C.2.1 dX12_deals_136 (by decide) (fun _ => ?_) (fun c5357 => absurd c5357 (by decide))
  refine lv_iconst (v := 1) C.1 C.2.1 dX12_deals_171 (by decide) ?_
  refine lv_goto (tgt := 176) C.1 C.2.1 dX12_deals_172 (by decide) ?_
  refine lv_istore (lv' := [(6, .int 1), (8, .int 2), (7, .int 3), (5, .int 0), (4, .int 0), (3, .int 1), (0, .ref h0), (1, .int 0), (2, .int 0)]) C.1 C.2.1 dX12_deals_176 hl (by decide) rfl (fun ls hl => ?_)
  refine lv_iinc (v := 3) (lv' := [(8, .int 3), (6, .int 1), (7, .int 3), (5, .int 0), (4, .int 0), (3, .int 1), (0, .ref h0), (1, .int 0), (2, .int 0)]) C.1 C.2.1 dX12_deals_178 hl (k := 1) rfl (by decide) (by decide) rfl (fun ls hl => ?_)
  refine lv_goto (tgt := 116) C.1 C.2.1 dX12_deals_181 (by decide) ?_
  refine lv_iload C.1 C.2.1 dX12_deals_116 (lv_at hl 0 rfl) ?_
  refine lv_iload C.1 C.2.1 dX12_deals_118 (lv_at hl 2 rfl) ?_
  refine lv_icmp_ge (tgt := 184) C.1 C.2.1 dX12_deals_120 (by decide) (fun _ => ?_) (fun c5358 => absurd c5358 (by decide))
  refine lv_iinc (v := 4) (lv' := [(7, .int 4), (8, .int 3), (6, .int 1), (5, .int 0), (4, .int 0), (3, .int 1), (0, .ref h0), (1, .int 0), (2, .int 0)]) C.1 C.2.1 dX12_deals_184 hl (k := 2) rfl (by decide) (by decide) rfl (fun ls hl => ?_)
  refine lv_goto (tgt := 106) C.1 C.2.1 dX12_deals_187 (by decide) ?_
  refine lv_iload C.1 C.2.1 dX12_deals_106 (lv_at hl 0 rfl) ?_
  refine lv_bipush (v := 6) C.1 C.2.1 dX12_deals_108 (by decide) ?_
  refine lv_icmp_ge (tgt := 190) C.1 C.2.1 dX12_deals_110 (by decide) (fun c5359 => absurd c5359 (by decide)) (fun _ => ?_)
  refine lv_iconst (v := 0) C.1 C.2.1 dX12_deals_113 (by decide) ?_
  refine lv_istore (lv' := [(8, .int 0), (7, .int 4), (6, .int 1), (5, .int 0), (4, .int 0), (3, .int 1), (0, .ref h0), (1, .int 0), (2, .int 0)]) C.1 C.2.1 dX12_deals_114 hl (by decide) rfl (fun ls hl => ?_)
  refine lv_iload C.1 C.2.1 dX12_deals_116 (lv_at hl 0 rfl) ?_
  refine lv_iload C.1 C.2.1 dX12_deals_118 (lv_at hl 1 rfl) ?_
  refine lv_icmp_ge (tgt := 184) C.1 C.2.1 dX12_deals_120 (by decide) (fun c5360 => absurd c5360 (by decide)) (fun _ => ?_)
  refine lv_iload C.1 C.2.1 dX12_deals_123 (lv_at hl 2 rfl) ?_
  refine lv_if_eq (tgt := 175) C.1 C.2.1 dX12_deals_125 (by decide) (fun c5361 => absurd c5361 (by decide)) (fun _ => ?_)
  refine lv_aload_n C.1 C.2.1 dX12_deals_128 rfl (lv_at hl 6 rfl) ?_
  refine k_get C Wd KX12 0 55 rfl (by decide) fl_X12_87 rfl dX12_deals_129 ?_
  refine lv_iload C.1 C.2.1 dX12_deals_132 (lv_at hl 1 rfl) ?_
  refine k_iald (v := (-1)) C Wd 1 0 rfl rfl (vp_in_iff.mpr (by decide)) rfl dX12_deals_134 ?_
  refine lv_iconst (v := (-1)) C.1 C.2.1 dX12_deals_135 (by decide) ?_
  refine lv_icmp_eq (tgt := 171) C.1 C.2.1 dX12_deals_136 (by decide) (fun _ => ?_) (fun c5362 => absurd c5362 (by decide))
  refine lv_iconst (v := 1) C.1 C.2.1 dX12_deals_171 (by decide) ?_
  refine lv_goto (tgt := 176) C.1 C.2.1 dX12_deals_172 (by decide) ?_
  refine lv_istore (lv' := [(6, .int 1), (8, .int 0), (7, .int 4), (5, .int 0), (4, .int 0), (3, .int 1), (0, .ref h0), (1, .int 0), (2, .int 0)]) C.1 C.2.1 dX12_deals_176 hl (by decide) rfl (fun ls hl => ?_)
  refine lv_iinc (v := 1) (lv' := [(8, .int 1), (6, .int 1), (7, .int 4), (5, .int 0), (4, .int 0), (3, .int 1), (0, .ref h0), (1, .int 0), (2, .int 0)]) C.1 C.2.1 dX12_deals_178 hl (k := 1) rfl (by decide) (by decide) rfl (fun ls hl => ?_)
  refine lv_goto (tgt := 116) C.1 C.2.1 dX12_deals_181 (by decide) ?_
  refine lv_iload C.1 C.2.1 dX12_deals_116 (lv_at hl 0 rfl) ?_
  refine lv_iload C.1 C.2.1 dX12_deals_118 (lv_at hl 2 rfl) ?_
  refine lv_icmp_ge (tgt := 184) C.1 C.2.1 dX12_deals_120 (by decide) (fun c5363 => absurd c5363 (by decide)) (fun _ => ?_)
  refine lv_iload C.1 C.2.1 dX12_deals_123 (lv_at hl 1 rfl) ?_
  refine lv_if_eq (tgt := 175) C.1 C.2.1 dX12_deals_125 (by decide) (fun c5364 => absurd c5364 (by decide)) (fun _ => ?_)
  refine lv_aload_n C.1 C.2.1 dX12_deals_128 rfl (lv_at hl 6 rfl) ?_
  refine k_get C Wd KX12 0 55 rfl (by decide) fl_X12_87 rfl dX12_deals_129 ?_
  refine lv_iload C.1 C.2.1 dX12_deals_132 (lv_at hl 2 rfl) ?_
  refine k_iald (v := (-1)) C Wd 1 0 rfl rfl (vp_in_iff.mpr (by decide)) rfl dX12_deals_134 ?_
  refine lv_iconst (v := (-1)) C.1 C.2.1 dX12_deals_135 (by decide) ?_
  refine lv_icmp_eq (tgt := 171) C.1 C.2.1 dX12_deals_136 (by decide) (fun _ => ?_) (fun c5365 => absurd c5365 (by decide))
  refine lv_iconst (v := 1) C.1 C.2.1 dX12_deals_171 (by decide) ?_
  refine lv_goto (tgt := 176) C.1 C.2.1 dX12_deals_172 (by decide) ?_
  refine lv_istore (lv' := [(6, .int 1), (8, .int 1), (7, .int 4), (5, .int 0), (4, .int 0), (3, .int 1), (0, .ref h0), (1, .int 0), (2, .int 0)]) C.1 C.2.1 dX12_deals_176 hl (by decide) rfl (fun ls hl => ?_)
  refine lv_iinc (v := 2) (lv' := [(8, .int 2), (6, .int 1), (7, .int 4), (5, .int 0), (4, .int 0), (3, .int 1), (0, .ref h0), (1, .int 0), (2, .int 0)]) C.1 C.2.1 dX12_deals_178 hl (k := 1) rfl (by decide) (by decide) rfl (fun ls hl => ?_)
  refine lv_goto (tgt := 116) C.1 C.2.1 dX12_deals_181 (by decide) ?_
  refine lv_iload C.1 C.2.1 dX12_deals_116 (lv_at hl 0 rfl) ?_
  refine lv_iload C.1 C.2.1 dX12_deals_118 (lv_at hl 2 rfl) ?_
  refine lv_icmp_ge (tgt := 184) C.1 C.2.1 dX12_deals_120 (by decide) (fun c5366 => absurd c5366 (by decide)) (fun _ => ?_)
  refine lv_iload C.1 C.2.1 dX12_deals_123 (lv_at hl 1 rfl) ?_
  refine lv_if_eq (tgt := 175) C.1 C.2.1 dX12_deals_125 (by decide) (fun c5367 => absurd c5367 (by decide)) (fun _ => ?_)
  refine lv_aload_n C.1 C.2.1 dX12_deals_128 rfl (lv_at hl 6 rfl) ?_
  refine k_get C Wd KX12 0 55 rfl (by decide) fl_X12_87 rfl dX12_deals_129 ?_
  refine lv_iload C.1 C.2.1 dX12_deals_132 (lv_at hl 2 rfl) ?_
  refine k_iald (v := (-1)) C Wd 1 0 rfl rfl (vp_in_iff.mpr (by decide)) rfl dX12_deals_134 ?_
  refine lv_iconst (v := (-1)) C.1 C.2.1 dX12_deals_135 (by decide) ?_
  refine lv_icmp_eq (tgt := 171) C.1 C.2.1 dX12_deals_136 (by decide) (fun _ => ?_) (fun c5368 => absurd c5368 (by decide))
  refine lv_iconst (v := 1) C.1 C.2.1 dX12_deals_171 (by decide) ?_
  refine lv_goto (tgt := 176) C.1 C.2.1 dX12_deals_172 (by decide) ?_
  refine lv_istore (lv' := [(6, .int 1), (8, .int 2), (7, .int 4), (5, .int 0), (4, .int 0), (3, .int 1), (0, .ref h0), (1, .int 0), (2, .int 0)]) C.1 C.2.1 dX12_deals_176 hl (by decide) rfl (fun ls hl => ?_)
  refine lv_iinc (v := 3) (lv' := [(8, .int 3), (6, .int 1), (7, .int 4), (5, .int 0), (4, .int 0), (3, .int 1), (0, .ref h0), (1, .int 0), (2, .int 0)]) C.1 C.2.1 dX12_deals_178 hl (k := 1) rfl (by decide) (by decide) rfl (fun ls hl => ?_)
  refine lv_goto (tgt := 116) C.1 C.2.1 dX12_deals_181 (by decide) ?_
  refine lv_iload C.1 C.2.1 dX12_deals_116 (lv_at hl 0 rfl) ?_
  refine lv_iload C.1 C.2.1 dX12_deals_118 (lv_at hl 2 rfl) ?_
  refine lv_icmp_ge (tgt := 184) C.1 C.2.1 dX12_deals_120 (by decide) (fun c5369 => absurd c5369 (by decide)) (fun _ => ?_)
  refine lv_iload C.1 C.2.1 dX12_deals_123 (lv_at hl 1 rfl) ?_
  refine lv_if_eq (tgt := 175) C.1 C.2.1 dX12_deals_125 (by decide) (fun c5370 => absurd c5370 (by decide)) (fun _ => ?_)
  refine lv_aload_n C.1 C.2.1 dX12_deals_128 rfl (lv_at hl 6 rfl) ?_
  refine k_get C Wd KX12 0 55 rfl (by decide) fl_X12_87 rfl dX12_deals_129 ?_
  refine lv_iload C.1 C.2.1 dX12_deals_132 (lv_at hl 2 rfl) ?_
  refine k_iald (v := (-1)) C Wd 1 0 rfl rfl (vp_in_iff.mpr (by decide)) rfl dX12_deals_134 ?_
  refine lv_iconst (v := (-1)) C.1 C.2.1 dX12_deals_135 (by decide) ?_
  refine lv_icmp_eq (tgt := 171) C.1 C.2.1 dX12_deals_136 (by decide) (fun _ => ?_) (fun c5371 => absurd c5371 (by decide))
  refine lv_iconst (v := 1) C.1 C.2.1 dX12_deals_171 (by decide) ?_
  refine lv_goto (tgt := 176) C.1 C.2.1 dX12_deals_172 (by decide) ?_
  refine lv_istore (lv' := [(6, .int 1), (8, .int 3), (7, .int 4), (5, .int 0), (4, .int 0), (3, .int 1), (0, .ref h0), (1, .int 0), (2, .int 0)]) C.1 C.2.1 dX12_deals_176 hl (by decide) rfl (fun ls hl => ?_)
  refine lv_iinc (v := 4) (lv' := [(8, .int 4), (6, .int 1), (7, .int 4), (5, .int 0), (4, .int 0), (3, .int 1), (0, .ref h0), (1, .int 0), (2, .int 0)]) C.1 C.2.1 dX12_deals_178 hl (k := 1) rfl (by decide) (by decide) rfl (fun ls hl => ?_)
  refine lv_goto (tgt := 116) C.1 C.2.1 dX12_deals_181 (by decide) ?_
  refine lv_iload C.1 C.2.1 dX12_deals_116 (lv_at hl 0 rfl) ?_
  refine lv_iload C.1 C.2.1 dX12_deals_118 (lv_at hl 2 rfl) ?_
  refine lv_icmp_ge (tgt := 184) C.1 C.2.1 dX12_deals_120 (by decide) (fun _ => ?_) (fun c5372 => absurd c5372 (by decide))
  refine lv_iinc (v := 5) (lv' := [(7, .int 5), (8, .int 4), (6, .int 1), (5, .int 0), (4, .int 0), (3, .int 1), (0, .ref h0), (1, .int 0), (2, .int 0)]) C.1 C.2.1 dX12_deals_184 hl (k := 2) rfl (by decide) (by decide) rfl (fun ls hl => ?_)
  refine lv_goto (tgt := 106) C.1 C.2.1 dX12_deals_187 (by decide) ?_
  refine lv_iload C.1 C.2.1 dX12_deals_106 (lv_at hl 0 rfl) ?_
  refine lv_bipush (v := 6) C.1 C.2.1 dX12_deals_108 (by decide) ?_
  refine lv_icmp_ge (tgt := 190) C.1 C.2.1 dX12_deals_110 (by decide) (fun c5373 => absurd c5373 (by decide)) (fun _ => ?_)
  refine lv_iconst (v := 0) C.1 C.2.1 dX12_deals_113 (by decide) ?_
  refine lv_istore (lv' := [(8, .int 0), (7, .int 5), (6, .int 1), (5, .int 0), (4, .int 0), (3, .int 1), (0, .ref h0), (1, .int 0), (2, .int 0)]) C.1 C.2.1 dX12_deals_114 hl (by decide) rfl (fun ls hl => ?_)
  refine lv_iload C.1 C.2.1 dX12_deals_116 (lv_at hl 0 rfl) ?_
  refine lv_iload C.1 C.2.1 dX12_deals_118 (lv_at hl 1 rfl) ?_
  refine lv_icmp_ge (tgt := 184) C.1 C.2.1 dX12_deals_120 (by decide) (fun c5374 => absurd c5374 (by decide)) (fun _ => ?_)
  refine lv_iload C.1 C.2.1 dX12_deals_123 (lv_at hl 2 rfl) ?_
  refine lv_if_eq (tgt := 175) C.1 C.2.1 dX12_deals_125 (by decide) (fun c5375 => absurd c5375 (by decide)) (fun _ => ?_)
  refine lv_aload_n C.1 C.2.1 dX12_deals_128 rfl (lv_at hl 6 rfl) ?_
  refine k_get C Wd KX12 0 55 rfl (by decide) fl_X12_87 rfl dX12_deals_129 ?_
  refine lv_iload C.1 C.2.1 dX12_deals_132 (lv_at hl 1 rfl) ?_
  refine k_iald (v := (-1)) C Wd 1 0 rfl rfl (vp_in_iff.mpr (by decide)) rfl dX12_deals_134 ?_
  refine lv_iconst (v := (-1)) C.1 C.2.1 dX12_deals_135 (by decide) ?_
  refine lv_icmp_eq (tgt := 171) C.1 C.2.1 dX12_deals_136 (by decide) (fun _ => ?_) (fun c5376 => absurd c5376 (by decide))
  refine lv_iconst (v := 1) C.1 C.2.1 dX12_deals_171 (by decide) ?_
  refine lv_goto (tgt := 176) C.1 C.2.1 dX12_deals_172 (by decide) ?_
  refine lv_istore (lv' := [(6, .int 1), (8, .int 0), (7, .int 5), (5, .int 0), (4, .int 0), (3, .int 1), (0, .ref h0), (1, .int 0), (2, .int 0)]) C.1 C.2.1 dX12_deals_176 hl (by decide) rfl (fun ls hl => ?_)
  refine lv_iinc (v := 1) (lv' := [(8, .int 1), (6, .int 1), (7, .int 5), (5, .int 0), (4, .int 0), (3, .int 1), (0, .ref h0), (1, .int 0), (2, .int 0)]) C.1 C.2.1 dX12_deals_178 hl (k := 1) rfl (by decide) (by decide) rfl (fun ls hl => ?_)
  refine lv_goto (tgt := 116) C.1 C.2.1 dX12_deals_181 (by decide) ?_
  refine lv_iload C.1 C.2.1 dX12_deals_116 (lv_at hl 0 rfl) ?_
  refine lv_iload C.1 C.2.1 dX12_deals_118 (lv_at hl 2 rfl) ?_
  refine lv_icmp_ge (tgt := 184) C.1 C.2.1 dX12_deals_120 (by decide) (fun c5377 => absurd c5377 (by decide)) (fun _ => ?_)
  refine lv_iload C.1 C.2.1 dX12_deals_123 (lv_at hl 1 rfl) ?_
  refine lv_if_eq (tgt := 175) C.1 C.2.1 dX12_deals_125 (by decide) (fun c5378 => absurd c5378 (by decide)) (fun _ => ?_)
  refine lv_aload_n C.1 C.2.1 dX12_deals_128 rfl (lv_at hl 6 rfl) ?_
  refine k_get C Wd KX12 0 55 rfl (by decide) fl_X12_87 rfl dX12_deals_129 ?_
  refine lv_iload C.1 C.2.1 dX12_deals_132 (lv_at hl 2 rfl) ?_
  refine k_iald (v := (-1)) C Wd 1 0 rfl rfl (vp_in_iff.mpr (by decide)) rfl dX12_deals_134 ?_
  refine lv_iconst (v := (-1)) C.1 C.2.1 dX12_deals_135 (by decide) ?_
  refine lv_icmp_eq (tgt := 171) C.1 C.2.1 dX12_deals_136 (by decide) (fun _ => ?_) (fun c5379 => absurd c5379 (by decide))
  refine lv_iconst (v := 1) C.1 C.2.1 dX12_deals_171 (by decide) ?_
  refine lv_goto (tgt := 176) C.1 C.2.1 dX12_deals_172 (by decide) ?_
  refine lv_istore (lv' := [(6, .int 1), (8, .int 1), (7, .int 5), (5, .int 0), (4, .int 0), (3, .int 1), (0, .ref h0), (1, .int 0), (2, .int 0)]) C.1 C.2.1 dX12_deals_176 hl (by decide) rfl (fun ls hl => ?_)
  refine lv_iinc (v := 2) (lv' := [(8, .int 2), (6, .int 1), (7, .int 5), (5, .int 0), (4, .int 0), (3, .int 1), (0, .ref h0), (1, .int 0), (2, .int 0)]) C.1 C.2.1 dX12_deals_178 hl (k := 1) rfl (by decide) (by decide) rfl (fun ls hl => ?_)
  refine lv_goto (tgt := 116) C.1 C.2.1 dX12_deals_181 (by decide) ?_
  refine lv_iload C.1 C.2.1 dX12_deals_116 (lv_at hl 0 rfl) ?_
  refine lv_iload C.1 C.2.1 dX12_deals_118 (lv_at hl 2 rfl) ?_
  refine lv_icmp_ge (tgt := 184) C.1 C.2.1 dX12_deals_120 (by decide) (fun c5380 => absurd c5380 (by decide)) (fun _ => ?_)
  refine lv_iload C.1 C.2.1 dX12_deals_123 (lv_at hl 1 rfl) ?_
  refine lv_if_eq (tgt := 175) C.1 C.2.1 dX12_deals_125 (by decide) (fun c5381 => absurd c5381 (by decide)) (fun _ => ?_)
  refine lv_aload_n C.1 C.2.1 dX12_deals_128 rfl (lv_at hl 6 rfl) ?_
  refine k_get C Wd KX12 0 55 rfl (by decide) fl_X12_87 rfl dX12_deals_129 ?_
  refine lv_iload C.1 C.2.1 dX12_deals_132 (lv_at hl 2 rfl) ?_
  refine k_iald (v := (-1)) C Wd 1 0 rfl rfl (vp_in_iff.mpr (by decide)) rfl dX12_deals_134 ?_
  refine lv_iconst (v := (-1)) C.1 C.2.1 dX12_deals_135 (by decide) ?_
  refine lv_icmp_eq (tgt := 171) C.1 C.2.1 dX12_deals_136 (by decide) (fun _ => ?_) (fun c5382 => absurd c5382 (by decide))
  refine lv_iconst (v := 1) C.1 C.2.1 dX12_deals_171 (by decide) ?_
  refine lv_goto (tgt := 176) C.1 C.2.1 dX12_deals_172 (by decide) ?_
  refine lv_istore (lv' := [(6, .int 1), (8, .int 2), (7, .int 5), (5, .int 0), (4, .int 0), (3, .int 1), (0, .ref h0), (1, .int 0), (2, .int 0)]) C.1 C.2.1 dX12_deals_176 hl (by decide) rfl (fun ls hl => ?_)
  refine lv_iinc (v := 3) (lv' := [(8, .int 3), (6, .int 1), (7, .int 5), (5, .int 0), (4, .int 0), (3, .int 1), (0, .ref h0), (1, .int 0), (2, .int 0)]) C.1 C.2.1 dX12_deals_178 hl (k := 1) rfl (by decide) (by decide) rfl (fun ls hl => ?_)
  refine lv_goto (tgt := 116) C.1 C.2.1 dX12_deals_181 (by decide) ?_
  refine lv_iload C.1 C.2.1 dX12_deals_116 (lv_at hl 0 rfl) ?_
  refine lv_iload C.1 C.2.1 dX12_deals_118 (lv_at hl 2 rfl) ?_
  refine lv_icmp_ge (tgt := 184) C.1 C.2.1 dX12_deals_120 (by decide) (fun c5383 => absurd c5383 (by decide)) (fun _ => ?_)
  refine lv_iload C.1 C.2.1 dX12_deals_123 (lv_at hl 1 rfl) ?_
  refine lv_if_eq (tgt := 175) C.1 C.2.1 dX12_deals_125 (by decide) (fun c5384 => absurd c5384 (by decide)) (fun _ => ?_)
  refine lv_aload_n C.1 C.2.1 dX12_deals_128 rfl (lv_at hl 6 rfl) ?_
  refine k_get C Wd KX12 0 55 rfl (by decide) fl_X12_87 rfl dX12_deals_129 ?_
  refine lv_iload C.1 C.2.1 dX12_deals_132 (lv_at hl 2 rfl) ?_
  refine k_iald (v := (-1)) C Wd 1 0 rfl rfl (vp_in_iff.mpr (by decide)) rfl dX12_deals_134 ?_
  refine lv_iconst (v := (-1)) C.1 C.2.1 dX12_deals_135 (by decide) ?_
  refine lv_icmp_eq (tgt := 171) C.1 C.2.1 dX12_deals_136 (by decide) (fun _ => ?_) (fun c5385 => absurd c5385 (by decide))
  refine lv_iconst (v := 1) C.1 C.2.1 dX12_deals_171 (by decide) ?_
  refine lv_goto (tgt := 176) C.1 C.2.1 dX12_deals_172 (by decide) ?_
  refine lv_istore (lv' := [(6, .int 1), (8, .int 3), (7, .int 5), (5, .int 0), (4, .int 0), (3, .int 1), (0, .ref h0), (1, .int 0), (2, .int 0)]) C.1 C.2.1 dX12_deals_176 hl (by decide) rfl (fun ls hl => ?_)
  refine lv_iinc (v := 4) (lv' := [(8, .int 4), (6, .int 1), (7, .int 5), (5, .int 0), (4, .int 0), (3, .int 1), (0, .ref h0), (1, .int 0), (2, .int 0)]) C.1 C.2.1 dX12_deals_178 hl (k := 1) rfl (by decide) (by decide) rfl (fun ls hl => ?_)
  refine lv_goto (tgt := 116) C.1 C.2.1 dX12_deals_181 (by decide) ?_
  refine lv_iload C.1 C.2.1 dX12_deals_116 (lv_at hl 0 rfl) ?_
  refine lv_iload C.1 C.2.1 dX12_deals_118 (lv_at hl 2 rfl) ?_
  refine lv_icmp_ge (tgt := 184) C.1 C.2.1 dX12_deals_120 (by decide) (fun c5386 => absurd c5386 (by decide)) (fun _ => ?_)
  refine lv_iload C.1 C.2.1 dX12_deals_123 (lv_at hl 1 rfl) ?_
  refine lv_if_eq (tgt := 175) C.1 C.2.1 dX12_deals_125 (by decide) (fun c5387 => absurd c5387 (by decide)) (fun _ => ?_)
  refine lv_aload_n C.1 C.2.1 dX12_deals_128 rfl (lv_at hl 6 rfl) ?_
  refine k_get C Wd KX12 0 55 rfl (by decide) fl_X12_87 rfl dX12_deals_129 ?_
  refine lv_iload C.1 C.2.1 dX12_deals_132 (lv_at hl 2 rfl) ?_
  refine k_iald (v := (-1)) C Wd 1 0 rfl rfl (vp_in_iff.mpr (by decide)) rfl dX12_deals_134 ?_
  refine lv_iconst (v := (-1)) C.1 C.2.1 dX12_deals_135 (by decide) ?_
  refine lv_icmp_eq (tgt := 171) C.1 C.2.1 dX12_deals_136 (by decide) (fun _ => ?_) (fun c5388 => absurd c5388 (by decide))
  refine lv_iconst (v := 1) C.1 C.2.1 dX12_deals_171 (by decide) ?_
  refine lv_goto (tgt := 176) C.1 C.2.1 dX12_deals_172 (by decide) ?_
  refine lv_istore (lv' := [(6, .int 1), (8, .int 4), (7, .int 5), (5, .int 0), (4, .int 0), (3, .int 1), (0, .ref h0), (1, .int 0), (2, .int 0)]) C.1 C.2.1 dX12_deals_176 hl (by decide) rfl (fun ls hl => ?_)
  refine lv_iinc (v := 5) (lv' := [(8, .int 5), (6, .int 1), (7, .int 5), (5, .int 0), (4, .int 0), (3, .int 1), (0, .ref h0), (1, .int 0), (2, .int 0)]) C.1 C.2.1 dX12_deals_178 hl (k := 1) rfl (by decide) (by decide) rfl (fun ls hl => ?_)
  refine lv_goto (tgt := 116) C.1 C.2.1 dX12_deals_181 (by decide) ?_
  refine lv_iload C.1 C.2.1 dX12_deals_116 (lv_at hl 0 rfl) ?_
  refine lv_iload C.1 C.2.1 dX12_deals_118 (lv_at hl 2 rfl) ?_
  refine lv_icmp_ge (tgt := 184) C.1 C.2.1 dX12_deals_120 (by decide) (fun _ => ?_) (fun c5389 => absurd c5389 (by decide))
  refine lv_iinc (v := 6) (lv' := [(7, .int 6), (8, .int 5), (6, .int 1), (5, .int 0), (4, .int 0), (3, .int 1), (0, .ref h0), (1, .int 0), (2, .int 0)]) C.1 C.2.1 dX12_deals_184 hl (k := 2) rfl (by decide) (by decide) rfl (fun ls hl => ?_)
  refine lv_goto (tgt := 106) C.1 C.2.1 dX12_deals_187 (by decide) ?_
  refine lv_iload C.1 C.2.1 dX12_deals_106 (lv_at hl 0 rfl) ?_
  refine lv_bipush (v := 6) C.1 C.2.1 dX12_deals_108 (by decide) ?_
  refine lv_icmp_ge (tgt := 190) C.1 C.2.1 dX12_deals_110 (by decide) (fun _ => ?_) (fun c5390 => absurd c5390 (by decide))
  refine lv_iload C.1 C.2.1 dX12_deals_190 (lv_at hl 2 rfl) ?_
  refine lv_if_eq (tgt := 197) C.1 C.2.1 dX12_deals_192 (by decide) (fun c5391 => absurd c5391 (by decide)) (fun _ => ?_)
  refine lv_iconst (v := 1) C.1 C.2.1 dX12_deals_195 (by decide) ?_
  exact k_zret C hr hlk rfl Wd () rfl [0, 1] rfl (by decide) [] rfl (by decide) (by decide) dX12_deals_196
set_option maxHeartbeats 4000000 in
set_option maxRecDepth 100000 in
theorem kcX12_enough (l : Launch) (D : va_G) (h0 h1 h2 h3 h4 h5 h6 h7 h8 h9 h10 h11 h12 h13 h14 h15 h16 h17 h18 h19 h20 h21 h22 h23 h24 h25 : Nat) (a24 : ClassId) (sz : Nat)  : Met l yX12_enough (Cond.code yX12_enough cX12_enough 3 (some .int) :: gG) { frames := 2, cells := 0, slots := 0, locals := 92 } (cPre D [(a24, .int)] [(h0, .inr (12, [.ref h1, .ref h2, .ref h3, .ref h4, .int 0, .int 0, .ref h5, .int 0, .int 0, .int 0, .int 0, .int 0, .int 0, .int 0, .int 0, .int 0, .int 0, .int 0, .int 0, .int 0, .int (-1), .int 0, .int 0, .int 0, .ref h6, .ref h7, .ref h8, .ref h9, .ref h10, .ref h11, .int 0, .int 0, .int 0, .int 0, .ref h12, .ref h13, .ref h14, .int 0, .int 0, .int 0, .int 0, .ref h15, .ref h16, .int 0, .ref h17, .ref h18, .int 0, .ref h19, .int 0, .ref h20, .ref h21, .ref h22, .int 0, .ref h23, .ref h24, .ref h25])), (h25, .inl (a24, 6, .inl (fun _ => 0)))] sz [.ref h0, .int 0]) (va_Qi (fun (r : Int32) (_ : Unit) => r = 0) (fun u t => cB D (va_A [(h0, .inr (12, [.ref h1, .ref h2, .ref h3, .ref h4, .int 0, .int 0, .ref h5, .int 0, .int 0, .int 0, .int 0, .int 0, .int 0, .int 0, .int 0, .int 0, .int 0, .int 0, .int 0, .int 0, .int (-1), .int 0, .int 0, .int 0, .ref h6, .ref h7, .ref h8, .ref h9, .ref h10, .ref h11, .int 0, .int 0, .int 0, .int 0, .ref h12, .ref h13, .ref h14, .int 0, .int 0, .int 0, .int 0, .ref h15, .ref h16, .int 0, .ref h17, .ref h18, .int 0, .ref h19, .int 0, .ref h20, .ref h21, .ref h22, .int 0, .ref h23, .ref h24, .ref h25])), (h25, .inl (a24, 6, .inl (fun _ => 0)))] sz) ((fun (_ : Unit) => ([] : List (ClassId × FieldType))) u) ((fun (_ : Unit) => ([(h0, .inr (12, [.ref h1, .ref h2, .ref h3, .ref h4, .int 0, .int 0, .ref h5, .int 0, .int 0, .int 0, .int 0, .int 0, .int 0, .int 0, .int 0, .int 0, .int 0, .int 0, .int 0, .int 0, .int (-1), .int 0, .int 0, .int 0, .ref h6, .ref h7, .ref h8, .ref h9, .ref h10, .ref h11, .int 0, .int 0, .int 0, .int 0, .ref h12, .ref h13, .ref h14, .int 0, .int 0, .int 0, .int 0, .ref h15, .ref h16, .int 0, .ref h17, .ref h18, .int 0, .ref h19, .int 0, .ref h20, .ref h21, .ref h22, .int 0, .ref h23, .ref h24, .ref h25])), (h25, .inl (a24, 6, .inl (upd (upd (upd (upd (upd (upd (fun _ => 0) 5 (-1)) 4 (-1)) 3 (-1)) 2 (-1)) 1 (-1)) 0 (-1))))] : va_W)) u) t) (va_A [(h0, .inr (12, [.ref h1, .ref h2, .ref h3, .ref h4, .int 0, .int 0, .ref h5, .int 0, .int 0, .int 0, .int 0, .int 0, .int 0, .int 0, .int 0, .int 0, .int 0, .int 0, .int 0, .int 0, .int (-1), .int 0, .int 0, .int 0, .ref h6, .ref h7, .ref h8, .ref h9, .ref h10, .ref h11, .int 0, .int 0, .int 0, .int 0, .ref h12, .ref h13, .ref h14, .int 0, .int 0, .int 0, .int 0, .ref h15, .ref h16, .int 0, .ref h17, .ref h18, .int 0, .ref h19, .int 0, .ref h20, .ref h21, .ref h22, .int 0, .ref h23, .ref h24, .ref h25])), (h25, .inl (a24, 6, .inl (fun _ => 0)))] sz)) 0 0 (va_A [(h0, .inr (12, [.ref h1, .ref h2, .ref h3, .ref h4, .int 0, .int 0, .ref h5, .int 0, .int 0, .int 0, .int 0, .int 0, .int 0, .int 0, .int 0, .int 0, .int 0, .int 0, .int 0, .int 0, .int (-1), .int 0, .int 0, .int 0, .ref h6, .ref h7, .ref h8, .ref h9, .ref h10, .ref h11, .int 0, .int 0, .int 0, .int 0, .ref h12, .ref h13, .ref h14, .int 0, .int 0, .int 0, .int 0, .ref h15, .ref h16, .int 0, .ref h17, .ref h18, .int 0, .ref h19, .int 0, .ref h20, .ref h21, .ref h22, .int 0, .ref h23, .ref h24, .ref h25])), (h25, .inl (a24, 6, .inl (fun _ => 0)))] sz) := by
  refine Met.ofW (cc := cX12_enough) (maxL := 3) (ret := (some .int)) (by decide) rfl ?_
  intro p e s m args below meth c s₁ B hml hv
  obtain ⟨rfl, aks, rfl, Wd⟩ := k_enter hv
  have C : CallFix p m c cX12_enough 3 s _ gG RX12 := ⟨B.exec, B.bytes, hml, findClass_of_methodNamed B.named, fun w h => atoms_spec (ws := Cond.code yX12_enough cX12_enough 3 (some .int) :: gG) B.pre w (List.mem_cons_of_mem _ h)⟩
  have hr := B.returns
  have hlk := B.notSynchronized
  generalize va_A [(h0, .inr (12, [.ref h1, .ref h2, .ref h3, .ref h4, .int 0, .int 0, .ref h5, .int 0, .int 0, .int 0, .int 0, .int 0, .int 0, .int 0, .int 0, .int 0, .int 0, .int 0, .int 0, .int 0, .int (-1), .int 0, .int 0, .int 0, .ref h6, .ref h7, .ref h8, .ref h9, .ref h10, .ref h11, .int 0, .int 0, .int 0, .int 0, .ref h12, .ref h13, .ref h14, .int 0, .int 0, .int 0, .int 0, .ref h15, .ref h16, .int 0, .ref h17, .ref h18, .int 0, .ref h19, .int 0, .ref h20, .ref h21, .ref h22, .int 0, .ref h23, .ref h24, .ref h25])), (h25, .inl (a24, 6, .inl (fun _ => 0)))] s.heap.size = A at Wd ⊢
  refine k_locals (Nat.le_of_ble_eq_true rfl) [(0, .ref h0), (1, .int 0)] rfl (fun ls hl => ?_)
  refine lv_iconst (v := 0) C.1 C.2.1 dX12_enough_0 (by decide) ?_
  refine lv_istore_n (lv' := [(2, .int 0), (0, .ref h0), (1, .int 0)]) C.1 C.2.1 dX12_enough_1 rfl hl (by decide) rfl (fun ls hl => ?_)
  refine lv_aload_n C.1 C.2.1 dX12_enough_2 rfl (lv_at hl 1 rfl) ?_
  refine lv_iload_n C.1 C.2.1 dX12_enough_3 rfl (lv_at hl 2 rfl) ?_
  refine lv_iload_n C.1 C.2.1 dX12_enough_4 rfl (lv_at hl 0 rfl) ?_
  refine k_ci Wd [0, 1] [] rfl (wr := []) rfl (by decide) (by decide) (cells' := 0) (slots' := 0) (by decide) (by decide) (k_runV (rest := []) C aks Wd cs_X12_466 (kcX12_deals l D h0 h1 h2 h3 h4 h5 h6 h7 h8 h9 h10 h11 h12 h13 h14 h15 h16 h17 h18 h19 h20 h21 h22 h23 h24 h25 a24 _ ) [0, 1] rfl (by decide) [0] rfl 0 12 rfl rfl rfl rfl rfl ⟨(Nat.le_of_ble_eq_true rfl), (Nat.le_of_ble_eq_true rfl)⟩ hl.1 rfl rfl (Nat.le_of_ble_eq_true rfl) ⟨(Nat.le_of_ble_eq_true rfl), (Nat.le_of_ble_eq_true rfl)⟩ dX12_enough_5) (fun r _ H locs w5394 Wd => ?_)
  have Wd : wX D [(a24, .int)] s [(h0, .inr (12, [.ref h1, .ref h2, .ref h3, .ref h4, .int 0, .int 0, .ref h5, .int 0, .int 0, .int 0, .int 0, .int 0, .int 0, .int 0, .int 0, .int 0, .int 0, .int 0, .int 0, .int 0, .int (-1), .int 0, .int 0, .int 0, .ref h6, .ref h7, .ref h8, .ref h9, .ref h10, .ref h11, .int 0, .int 0, .int 0, .int 0, .ref h12, .ref h13, .ref h14, .int 0, .int 0, .int 0, .int 0, .ref h15, .ref h16, .int 0, .ref h17, .ref h18, .int 0, .ref h19, .int 0, .ref h20, .ref h21, .ref h22, .int 0, .ref h23, .ref h24, .ref h25])), (h25, .inl (a24, 6, .inl (upd (upd (upd (upd (upd (upd (fun _ => 0) 5 (-1)) 4 (-1)) 3 (-1)) 2 (-1)) 1 (-1)) 0 (-1))))] _ A s.heap _ := Wd
  obtain rfl := w5394
  refine lv_if_ne (tgt := 17) C.1 C.2.1 dX12_enough_8 (by decide) (fun _ => ?_) (fun c5395 => absurd c5395 (by decide))
  refine lv_iload_n C.1 C.2.1 dX12_enough_17 rfl (lv_at hl 0 rfl) ?_
  exact k_zret C hr hlk rfl Wd () rfl [0, 1] rfl (by decide) [] rfl (by decide) (by decide) dX12_enough_18
set_option maxHeartbeats 4000000 in
set_option maxRecDepth 100000 in
theorem kcX12_deals_v1 (l : Launch) (D : va_G) (h0 h1 h2 h3 h4 h5 h6 h7 h8 h9 h10 h11 h12 h13 h14 h15 h16 h17 h18 h19 h20 h21 h22 h23 h24 h25 : Nat) (x0 : Int32) (a24 : ClassId) (sz : Nat)  : Met l yX12_deals (Cond.code yX12_deals cX12_deals 9 (some .boolean) :: gG) { frames := 1, cells := 0, slots := 0, locals := 64 } (cPre D [(a24, .int)] [(h0, .inr (12, [.ref h1, .ref h2, .ref h3, .ref h4, .int 0, .int 0, .ref h5, .int 0, .int 0, .int 0, .int 0, .int 0, .int 0, .int 0, .int 0, .int 0, .int 0, .int 0, .int 0, .int 0, .int (-1), .int 0, .int 0, .int 0, .ref h6, .ref h7, .ref h8, .ref h9, .ref h10, .ref h11, .int 0, .int 0, .int 0, .int 0, .ref h12, .ref h13, .ref h14, .int 0, .int 0, .int 0, .int 0, .ref h15, .ref h16, .int 0, .ref h17, .ref h18, .int 0, .ref h19, .int 0, .ref h20, .ref h21, .ref h22, .int 0, .ref h23, .ref h24, .ref h25])), (h25, .inl (a24, 6, .inl (fun _ => 0)))] sz [.ref h0, .int 0, .int x0]) (va_Qi (fun (r : Int32) (_ : Unit) => r = 1) (fun u t => cB D (va_A [(h0, .inr (12, [.ref h1, .ref h2, .ref h3, .ref h4, .int 0, .int 0, .ref h5, .int 0, .int 0, .int 0, .int 0, .int 0, .int 0, .int 0, .int 0, .int 0, .int 0, .int 0, .int 0, .int 0, .int (-1), .int 0, .int 0, .int 0, .ref h6, .ref h7, .ref h8, .ref h9, .ref h10, .ref h11, .int 0, .int 0, .int 0, .int 0, .ref h12, .ref h13, .ref h14, .int 0, .int 0, .int 0, .int 0, .ref h15, .ref h16, .int 0, .ref h17, .ref h18, .int 0, .ref h19, .int 0, .ref h20, .ref h21, .ref h22, .int 0, .ref h23, .ref h24, .ref h25])), (h25, .inl (a24, 6, .inl (fun _ => 0)))] sz) ((fun (_ : Unit) => ([] : List (ClassId × FieldType))) u) ((fun (_ : Unit) => ([(h0, .inr (12, [.ref h1, .ref h2, .ref h3, .ref h4, .int 0, .int 0, .ref h5, .int 0, .int 0, .int 0, .int 0, .int 0, .int 0, .int 0, .int 0, .int 0, .int 0, .int 0, .int 0, .int 0, .int (-1), .int 0, .int 0, .int 0, .ref h6, .ref h7, .ref h8, .ref h9, .ref h10, .ref h11, .int 0, .int 0, .int 0, .int 0, .ref h12, .ref h13, .ref h14, .int 0, .int 0, .int 0, .int 0, .ref h15, .ref h16, .int 0, .ref h17, .ref h18, .int 0, .ref h19, .int 0, .ref h20, .ref h21, .ref h22, .int 0, .ref h23, .ref h24, .ref h25])), (h25, .inl (a24, 6, .inl (upd (upd (upd (upd (upd (upd (fun _ => 0) 5 (-1)) 4 (-1)) 3 (-1)) 2 (-1)) 1 (-1)) 0 (-1))))] : va_W)) u) t) (va_A [(h0, .inr (12, [.ref h1, .ref h2, .ref h3, .ref h4, .int 0, .int 0, .ref h5, .int 0, .int 0, .int 0, .int 0, .int 0, .int 0, .int 0, .int 0, .int 0, .int 0, .int 0, .int 0, .int 0, .int (-1), .int 0, .int 0, .int 0, .ref h6, .ref h7, .ref h8, .ref h9, .ref h10, .ref h11, .int 0, .int 0, .int 0, .int 0, .ref h12, .ref h13, .ref h14, .int 0, .int 0, .int 0, .int 0, .ref h15, .ref h16, .int 0, .ref h17, .ref h18, .int 0, .ref h19, .int 0, .ref h20, .ref h21, .ref h22, .int 0, .ref h23, .ref h24, .ref h25])), (h25, .inl (a24, 6, .inl (fun _ => 0)))] sz)) 0 0 (va_A [(h0, .inr (12, [.ref h1, .ref h2, .ref h3, .ref h4, .int 0, .int 0, .ref h5, .int 0, .int 0, .int 0, .int 0, .int 0, .int 0, .int 0, .int 0, .int 0, .int 0, .int 0, .int 0, .int 0, .int (-1), .int 0, .int 0, .int 0, .ref h6, .ref h7, .ref h8, .ref h9, .ref h10, .ref h11, .int 0, .int 0, .int 0, .int 0, .ref h12, .ref h13, .ref h14, .int 0, .int 0, .int 0, .int 0, .ref h15, .ref h16, .int 0, .ref h17, .ref h18, .int 0, .ref h19, .int 0, .ref h20, .ref h21, .ref h22, .int 0, .ref h23, .ref h24, .ref h25])), (h25, .inl (a24, 6, .inl (fun _ => 0)))] sz) := by
  refine Met.ofW (cc := cX12_deals) (maxL := 9) (ret := (some .boolean)) (by decide) rfl ?_
  intro p e s m args below meth c s₁ B hml hv
  obtain ⟨rfl, aks, rfl, Wd⟩ := k_enter hv
  have C : CallFix p m c cX12_deals 9 s _ gG RX12 := ⟨B.exec, B.bytes, hml, findClass_of_methodNamed B.named, fun w h => atoms_spec (ws := Cond.code yX12_deals cX12_deals 9 (some .boolean) :: gG) B.pre w (List.mem_cons_of_mem _ h)⟩
  have hr := B.returns
  have hlk := B.notSynchronized
  generalize va_A [(h0, .inr (12, [.ref h1, .ref h2, .ref h3, .ref h4, .int 0, .int 0, .ref h5, .int 0, .int 0, .int 0, .int 0, .int 0, .int 0, .int 0, .int 0, .int 0, .int 0, .int 0, .int 0, .int 0, .int (-1), .int 0, .int 0, .int 0, .ref h6, .ref h7, .ref h8, .ref h9, .ref h10, .ref h11, .int 0, .int 0, .int 0, .int 0, .ref h12, .ref h13, .ref h14, .int 0, .int 0, .int 0, .int 0, .ref h15, .ref h16, .int 0, .ref h17, .ref h18, .int 0, .ref h19, .int 0, .ref h20, .ref h21, .ref h22, .int 0, .ref h23, .ref h24, .ref h25])), (h25, .inl (a24, 6, .inl (fun _ => 0)))] s.heap.size = A at Wd ⊢
  refine k_locals (Nat.le_of_ble_eq_true rfl) [(0, .ref h0), (1, .int 0), (2, .int x0)] rfl (fun ls hl => ?_)
  refine lv_iconst (v := 1) C.1 C.2.1 dX12_deals_0 (by decide) ?_
  refine lv_istore_n (lv' := [(3, .int 1), (0, .ref h0), (1, .int 0), (2, .int x0)]) C.1 C.2.1 dX12_deals_1 rfl hl (by decide) rfl (fun ls hl => ?_)
  refine lv_iconst (v := 0) C.1 C.2.1 dX12_deals_2 (by decide) ?_
  refine lv_istore (lv' := [(4, .int 0), (3, .int 1), (0, .ref h0), (1, .int 0), (2, .int x0)]) C.1 C.2.1 dX12_deals_3 hl (by decide) rfl (fun ls hl => ?_)
  refine lv_iload C.1 C.2.1 dX12_deals_5 (lv_at hl 0 rfl) ?_
  refine lv_bipush (v := 6) C.1 C.2.1 dX12_deals_7 (by decide) ?_
  refine lv_icmp_ge (tgt := 36) C.1 C.2.1 dX12_deals_9 (by decide) (fun c5514 => absurd c5514 (by decide)) (fun _ => ?_)
  refine lv_iload_n C.1 C.2.1 dX12_deals_12 rfl (lv_at hl 1 rfl) ?_
  refine lv_iload_n C.1 C.2.1 dX12_deals_13 rfl (lv_at hl 3 rfl) ?_
  refine lv_iload C.1 C.2.1 dX12_deals_14 (lv_at hl 0 rfl) ?_
  refine k_ishr (v := 0) C (by decide) dX12_deals_16 ?_
  refine lv_iconst (v := 1) C.1 C.2.1 dX12_deals_17 (by decide) ?_
  refine k_iand (v := 0) C (by decide) dX12_deals_18 ?_
  refine lv_iconst (v := 1) C.1 C.2.1 dX12_deals_19 (by decide) ?_
  refine lv_icmp_ne (tgt := 27) C.1 C.2.1 dX12_deals_20 (by decide) (fun _ => ?_) (fun c5515 => absurd c5515 (by decide))
  refine lv_iconst (v := 1) C.1 C.2.1 dX12_deals_27 (by decide) ?_
  refine k_imul (v := 1) C (by decide) dX12_deals_28 ?_
  refine lv_istore_n (lv' := [(3, .int 1), (4, .int 0), (0, .ref h0), (1, .int 0), (2, .int x0)]) C.1 C.2.1 dX12_deals_29 rfl hl (by decide) rfl (fun ls hl => ?_)
  refine lv_iinc (v := 1) (lv' := [(4, .int 1), (3, .int 1), (0, .ref h0), (1, .int 0), (2, .int x0)]) C.1 C.2.1 dX12_deals_30 hl (k := 1) rfl (by decide) (by decide) rfl (fun ls hl => ?_)
  refine lv_goto (tgt := 5) C.1 C.2.1 dX12_deals_33 (by decide) ?_
  refine lv_iload C.1 C.2.1 dX12_deals_5 (lv_at hl 0 rfl) ?_
  refine lv_bipush (v := 6) C.1 C.2.1 dX12_deals_7 (by decide) ?_
  refine lv_icmp_ge (tgt := 36) C.1 C.2.1 dX12_deals_9 (by decide) (fun c5516 => absurd c5516 (by decide)) (fun _ => ?_)
  refine lv_iload_n C.1 C.2.1 dX12_deals_12 rfl (lv_at hl 1 rfl) ?_
  refine lv_iload_n C.1 C.2.1 dX12_deals_13 rfl (lv_at hl 3 rfl) ?_
  refine lv_iload C.1 C.2.1 dX12_deals_14 (lv_at hl 0 rfl) ?_
  refine k_ishr (v := 0) C (by decide) dX12_deals_16 ?_
  refine lv_iconst (v := 1) C.1 C.2.1 dX12_deals_17 (by decide) ?_
  refine k_iand (v := 0) C (by decide) dX12_deals_18 ?_
  refine lv_iconst (v := 1) C.1 C.2.1 dX12_deals_19 (by decide) ?_
  refine lv_icmp_ne (tgt := 27) C.1 C.2.1 dX12_deals_20 (by decide) (fun _ => ?_) (fun c5517 => absurd c5517 (by decide))
  refine lv_iconst (v := 1) C.1 C.2.1 dX12_deals_27 (by decide) ?_
  refine k_imul (v := 1) C (by decide) dX12_deals_28 ?_
  refine lv_istore_n (lv' := [(3, .int 1), (4, .int 1), (0, .ref h0), (1, .int 0), (2, .int x0)]) C.1 C.2.1 dX12_deals_29 rfl hl (by decide) rfl (fun ls hl => ?_)
  refine lv_iinc (v := 2) (lv' := [(4, .int 2), (3, .int 1), (0, .ref h0), (1, .int 0), (2, .int x0)]) C.1 C.2.1 dX12_deals_30 hl (k := 1) rfl (by decide) (by decide) rfl (fun ls hl => ?_)
  refine lv_goto (tgt := 5) C.1 C.2.1 dX12_deals_33 (by decide) ?_
  refine lv_iload C.1 C.2.1 dX12_deals_5 (lv_at hl 0 rfl) ?_
  refine lv_bipush (v := 6) C.1 C.2.1 dX12_deals_7 (by decide) ?_
  refine lv_icmp_ge (tgt := 36) C.1 C.2.1 dX12_deals_9 (by decide) (fun c5518 => absurd c5518 (by decide)) (fun _ => ?_)
  refine lv_iload_n C.1 C.2.1 dX12_deals_12 rfl (lv_at hl 1 rfl) ?_
  refine lv_iload_n C.1 C.2.1 dX12_deals_13 rfl (lv_at hl 3 rfl) ?_
  refine lv_iload C.1 C.2.1 dX12_deals_14 (lv_at hl 0 rfl) ?_
  refine k_ishr (v := 0) C (by decide) dX12_deals_16 ?_
  refine lv_iconst (v := 1) C.1 C.2.1 dX12_deals_17 (by decide) ?_
  refine k_iand (v := 0) C (by decide) dX12_deals_18 ?_
  refine lv_iconst (v := 1) C.1 C.2.1 dX12_deals_19 (by decide) ?_
  refine lv_icmp_ne (tgt := 27) C.1 C.2.1 dX12_deals_20 (by decide) (fun _ => ?_) (fun c5519 => absurd c5519 (by decide))
  refine lv_iconst (v := 1) C.1 C.2.1 dX12_deals_27 (by decide) ?_
  refine k_imul (v := 1) C (by decide) dX12_deals_28 ?_
  refine lv_istore_n (lv' := [(3, .int 1), (4, .int 2), (0, .ref h0), (1, .int 0), (2, .int x0)]) C.1 C.2.1 dX12_deals_29 rfl hl (by decide) rfl (fun ls hl => ?_)
  refine lv_iinc (v := 3) (lv' := [(4, .int 3), (3, .int 1), (0, .ref h0), (1, .int 0), (2, .int x0)]) C.1 C.2.1 dX12_deals_30 hl (k := 1) rfl (by decide) (by decide) rfl (fun ls hl => ?_)
  refine lv_goto (tgt := 5) C.1 C.2.1 dX12_deals_33 (by decide) ?_
  refine lv_iload C.1 C.2.1 dX12_deals_5 (lv_at hl 0 rfl) ?_
  refine lv_bipush (v := 6) C.1 C.2.1 dX12_deals_7 (by decide) ?_
  refine lv_icmp_ge (tgt := 36) C.1 C.2.1 dX12_deals_9 (by decide) (fun c5520 => absurd c5520 (by decide)) (fun _ => ?_)
  refine lv_iload_n C.1 C.2.1 dX12_deals_12 rfl (lv_at hl 1 rfl) ?_
  refine lv_iload_n C.1 C.2.1 dX12_deals_13 rfl (lv_at hl 3 rfl) ?_
  refine lv_iload C.1 C.2.1 dX12_deals_14 (lv_at hl 0 rfl) ?_
  refine k_ishr (v := 0) C (by decide) dX12_deals_16 ?_
  refine lv_iconst (v := 1) C.1 C.2.1 dX12_deals_17 (by decide) ?_
  refine k_iand (v := 0) C (by decide) dX12_deals_18 ?_
  refine lv_iconst (v := 1) C.1 C.2.1 dX12_deals_19 (by decide) ?_
  refine lv_icmp_ne (tgt := 27) C.1 C.2.1 dX12_deals_20 (by decide) (fun _ => ?_) (fun c5521 => absurd c5521 (by decide))
  refine lv_iconst (v := 1) C.1 C.2.1 dX12_deals_27 (by decide) ?_
  refine k_imul (v := 1) C (by decide) dX12_deals_28 ?_
  refine lv_istore_n (lv' := [(3, .int 1), (4, .int 3), (0, .ref h0), (1, .int 0), (2, .int x0)]) C.1 C.2.1 dX12_deals_29 rfl hl (by decide) rfl (fun ls hl => ?_)
  refine lv_iinc (v := 4) (lv' := [(4, .int 4), (3, .int 1), (0, .ref h0), (1, .int 0), (2, .int x0)]) C.1 C.2.1 dX12_deals_30 hl (k := 1) rfl (by decide) (by decide) rfl (fun ls hl => ?_)
  refine lv_goto (tgt := 5) C.1 C.2.1 dX12_deals_33 (by decide) ?_
  refine lv_iload C.1 C.2.1 dX12_deals_5 (lv_at hl 0 rfl) ?_
  refine lv_bipush (v := 6) C.1 C.2.1 dX12_deals_7 (by decide) ?_
  refine lv_icmp_ge (tgt := 36) C.1 C.2.1 dX12_deals_9 (by decide) (fun c5522 => absurd c5522 (by decide)) (fun _ => ?_)
  refine lv_iload_n C.1 C.2.1 dX12_deals_12 rfl (lv_at hl 1 rfl) ?_
  refine lv_iload_n C.1 C.2.1 dX12_deals_13 rfl (lv_at hl 3 rfl) ?_
  refine lv_iload C.1 C.2.1 dX12_deals_14 (lv_at hl 0 rfl) ?_
  refine k_ishr (v := 0) C (by decide) dX12_deals_16 ?_
  refine lv_iconst (v := 1) C.1 C.2.1 dX12_deals_17 (by decide) ?_
  refine k_iand (v := 0) C (by decide) dX12_deals_18 ?_
  refine lv_iconst (v := 1) C.1 C.2.1 dX12_deals_19 (by decide) ?_
  refine lv_icmp_ne (tgt := 27) C.1 C.2.1 dX12_deals_20 (by decide) (fun _ => ?_) (fun c5523 => absurd c5523 (by decide))
  refine lv_iconst (v := 1) C.1 C.2.1 dX12_deals_27 (by decide) ?_
  refine k_imul (v := 1) C (by decide) dX12_deals_28 ?_
  refine lv_istore_n (lv' := [(3, .int 1), (4, .int 4), (0, .ref h0), (1, .int 0), (2, .int x0)]) C.1 C.2.1 dX12_deals_29 rfl hl (by decide) rfl (fun ls hl => ?_)
  refine lv_iinc (v := 5) (lv' := [(4, .int 5), (3, .int 1), (0, .ref h0), (1, .int 0), (2, .int x0)]) C.1 C.2.1 dX12_deals_30 hl (k := 1) rfl (by decide) (by decide) rfl (fun ls hl => ?_)
  refine lv_goto (tgt := 5) C.1 C.2.1 dX12_deals_33 (by decide) ?_
  refine lv_iload C.1 C.2.1 dX12_deals_5 (lv_at hl 0 rfl) ?_
  refine lv_bipush (v := 6) C.1 C.2.1 dX12_deals_7 (by decide) ?_
  refine lv_icmp_ge (tgt := 36) C.1 C.2.1 dX12_deals_9 (by decide) (fun c5524 => absurd c5524 (by decide)) (fun _ => ?_)
  refine lv_iload_n C.1 C.2.1 dX12_deals_12 rfl (lv_at hl 1 rfl) ?_
  refine lv_iload_n C.1 C.2.1 dX12_deals_13 rfl (lv_at hl 3 rfl) ?_
  refine lv_iload C.1 C.2.1 dX12_deals_14 (lv_at hl 0 rfl) ?_
  refine k_ishr (v := 0) C (by decide) dX12_deals_16 ?_
  refine lv_iconst (v := 1) C.1 C.2.1 dX12_deals_17 (by decide) ?_
  refine k_iand (v := 0) C (by decide) dX12_deals_18 ?_
  refine lv_iconst (v := 1) C.1 C.2.1 dX12_deals_19 (by decide) ?_
  refine lv_icmp_ne (tgt := 27) C.1 C.2.1 dX12_deals_20 (by decide) (fun _ => ?_) (fun c5525 => absurd c5525 (by decide))
  refine lv_iconst (v := 1) C.1 C.2.1 dX12_deals_27 (by decide) ?_
  refine k_imul (v := 1) C (by decide) dX12_deals_28 ?_
  refine lv_istore_n (lv' := [(3, .int 1), (4, .int 5), (0, .ref h0), (1, .int 0), (2, .int x0)]) C.1 C.2.1 dX12_deals_29 rfl hl (by decide) rfl (fun ls hl => ?_)
  refine lv_iinc (v := 6) (lv' := [(4, .int 6), (3, .int 1), (0, .ref h0), (1, .int 0), (2, .int x0)]) C.1 C.2.1 dX12_deals_30 hl (k := 1) rfl (by decide) (by decide) rfl (fun ls hl => ?_)
  refine lv_goto (tgt := 5) C.1 C.2.1 dX12_deals_33 (by decide) ?_
  refine lv_iload C.1 C.2.1 dX12_deals_5 (lv_at hl 0 rfl) ?_
  refine lv_bipush (v := 6) C.1 C.2.1 dX12_deals_7 (by decide) ?_
  refine lv_icmp_ge (tgt := 36) C.1 C.2.1 dX12_deals_9 (by decide) (fun _ => ?_) (fun c5526 => absurd c5526 (by decide))
  refine lv_iconst (v := 0) C.1 C.2.1 dX12_deals_36 (by decide) ?_
  refine lv_istore (lv' := [(4, .int 0), (3, .int 1), (0, .ref h0), (1, .int 0), (2, .int x0)]) C.1 C.2.1 dX12_deals_37 hl (by decide) rfl (fun ls hl => ?_)
  refine lv_iload C.1 C.2.1 dX12_deals_39 (lv_at hl 0 rfl) ?_
  refine lv_iload_n C.1 C.2.1 dX12_deals_41 rfl (lv_at hl 1 rfl) ?_
  refine lv_icmp_ge (tgt := 203) C.1 C.2.1 dX12_deals_42 (by decide) (fun c5527 => absurd c5527 (by decide)) (fun _ => ?_)
  refine lv_iload C.1 C.2.1 dX12_deals_45 (lv_at hl 0 rfl) ?_
  refine lv_istore (lv' := [(5, .int 0), (4, .int 0), (3, .int 1), (0, .ref h0), (1, .int 0), (2, .int x0)]) C.1 C.2.1 dX12_deals_47 hl (by decide) rfl (fun ls hl => ?_)
  refine lv_iconst (v := 5) C.1 C.2.1 dX12_deals_49 (by decide) ?_
  refine lv_istore (lv' := [(6, .int 5), (5, .int 0), (4, .int 0), (3, .int 1), (0, .ref h0), (1, .int 0), (2, .int x0)]) C.1 C.2.1 dX12_deals_50 hl (by decide) rfl (fun ls hl => ?_)
  refine lv_iload C.1 C.2.1 dX12_deals_52 (lv_at hl 0 rfl) ?_
  refine lv_if_lt (tgt := 100) C.1 C.2.1 dX12_deals_54 (by decide) (fun c5528 => absurd c5528 (by decide)) (fun _ => ?_)
  refine lv_aload_n C.1 C.2.1 dX12_deals_57 rfl (lv_at hl 4 rfl) ?_
  refine k_get C Wd KX12 0 55 rfl (by decide) fl_X12_87 rfl dX12_deals_58 ?_
  refine lv_iload C.1 C.2.1 dX12_deals_61 (lv_at hl 0 rfl) ?_
  refine lv_iconst (v := (-1)) C.1 C.2.1 dX12_deals_63 (by decide) ?_
  refine k_iast C Wd 1 0 [(h0, .inr (12, [.ref h1, .ref h2, .ref h3, .ref h4, .int 0, .int 0, .ref h5, .int 0, .int 0, .int 0, .int 0, .int 0, .int 0, .int 0, .int 0, .int 0, .int 0, .int 0, .int 0, .int 0, .int (-1), .int 0, .int 0, .int 0, .ref h6, .ref h7, .ref h8, .ref h9, .ref h10, .ref h11, .int 0, .int 0, .int 0, .int 0, .ref h12, .ref h13, .ref h14, .int 0, .int 0, .int 0, .int 0, .ref h15, .ref h16, .int 0, .ref h17, .ref h18, .int 0, .ref h19, .int 0, .ref h20, .ref h21, .ref h22, .int 0, .ref h23, .ref h24, .ref h25])), (h25, .inl (a24, 6, .inl (upd (fun _ => 0) 5 (-1))))] rfl rfl (vp_in_iff.mpr (by decide)) rfl rfl dX12_deals_64 (fun H locs Wd => ?_)
  refine lv_iload_n C.1 C.2.1 dX12_deals_65 rfl (lv_at hl 5 rfl) ?_
  refine lv_iload C.1 C.2.1 dX12_deals_66 (lv_at hl 0 rfl) ?_
  refine k_ishr (v := 0) C (by decide) dX12_deals_68 ?_
  refine lv_iconst (v := 1) C.1 C.2.1 dX12_deals_69 (by decide) ?_
  refine k_iand (v := 0) C (by decide) dX12_deals_70 ?_
  refine lv_if_ne (tgt := 77) C.1 C.2.1 dX12_deals_71 (by decide) (fun c5529 => absurd c5529 (by decide)) (fun _ => ?_)
  refine lv_goto (tgt := 94) C.1 C.2.1 dX12_deals_74 (by decide) ?_
  refine lv_iinc (v := 4) (lv' := [(6, .int 4), (5, .int 0), (4, .int 0), (3, .int 1), (0, .ref h0), (1, .int 0), (2, .int x0)]) C.1 C.2.1 dX12_deals_94 hl (k := 0) rfl (by decide) (by decide) rfl (fun ls hl => ?_)
  refine lv_goto (tgt := 52) C.1 C.2.1 dX12_deals_97 (by decide) ?_
  refine lv_iload C.1 C.2.1 dX12_deals_52 (lv_at hl 0 rfl) ?_
  refine lv_if_lt (tgt := 100) C.1 C.2.1 dX12_deals_54 (by decide) (fun c5530 => absurd c5530 (by decide)) (fun _ => ?_)
  refine lv_aload_n C.1 C.2.1 dX12_deals_57 rfl (lv_at hl 4 rfl) ?_
  refine k_get C Wd KX12 0 55 rfl (by decide) fl_X12_87 rfl dX12_deals_58 ?_
  refine lv_iload C.1 C.2.1 dX12_deals_61 (lv_at hl 0 rfl) ?_
  refine lv_iconst (v := (-1)) C.1 C.2.1 dX12_deals_63 (by decide) ?_
  refine k_iast C Wd 1 0 [(h0, .inr (12, [.ref h1, .ref h2, .ref h3, .ref h4, .int 0, .int 0, .ref h5, .int 0, .int 0, .int 0, .int 0, .int 0, .int 0, .int 0, .int 0, .int 0, .int 0, .int 0, .int 0, .int 0, .int (-1), .int 0, .int 0, .int 0, .ref h6, .ref h7, .ref h8, .ref h9, .ref h10, .ref h11, .int 0, .int 0, .int 0, .int 0, .ref h12, .ref h13, .ref h14, .int 0, .int 0, .int 0, .int 0, .ref h15, .ref h16, .int 0, .ref h17, .ref h18, .int 0, .ref h19, .int 0, .ref h20, .ref h21, .ref h22, .int 0, .ref h23, .ref h24, .ref h25])), (h25, .inl (a24, 6, .inl (upd (upd (fun _ => 0) 5 (-1)) 4 (-1))))] rfl rfl (vp_in_iff.mpr (by decide)) rfl rfl dX12_deals_64 (fun H locs Wd => ?_)
  refine lv_iload_n C.1 C.2.1 dX12_deals_65 rfl (lv_at hl 5 rfl) ?_
  refine lv_iload C.1 C.2.1 dX12_deals_66 (lv_at hl 0 rfl) ?_
  refine k_ishr (v := 0) C (by decide) dX12_deals_68 ?_
  refine lv_iconst (v := 1) C.1 C.2.1 dX12_deals_69 (by decide) ?_
  refine k_iand (v := 0) C (by decide) dX12_deals_70 ?_
  refine lv_if_ne (tgt := 77) C.1 C.2.1 dX12_deals_71 (by decide) (fun c5531 => absurd c5531 (by decide)) (fun _ => ?_)
  refine lv_goto (tgt := 94) C.1 C.2.1 dX12_deals_74 (by decide) ?_
  refine lv_iinc (v := 3) (lv' := [(6, .int 3), (5, .int 0), (4, .int 0), (3, .int 1), (0, .ref h0), (1, .int 0), (2, .int x0)]) C.1 C.2.1 dX12_deals_94 hl (k := 0) rfl (by decide) (by decide) rfl (fun ls hl => ?_)
  refine lv_goto (tgt := 52) C.1 C.2.1 dX12_deals_97 (by decide) ?_
  refine lv_iload C.1 C.2.1 dX12_deals_52 (lv_at hl 0 rfl) ?_
  refine lv_if_lt (tgt := 100) C.1 C.2.1 dX12_deals_54 (by decide) (fun c5532 => absurd c5532 (by decide)) (fun _ => ?_)
  refine lv_aload_n C.1 C.2.1 dX12_deals_57 rfl (lv_at hl 4 rfl) ?_
  refine k_get C Wd KX12 0 55 rfl (by decide) fl_X12_87 rfl dX12_deals_58 ?_
  refine lv_iload C.1 C.2.1 dX12_deals_61 (lv_at hl 0 rfl) ?_
  refine lv_iconst (v := (-1)) C.1 C.2.1 dX12_deals_63 (by decide) ?_
  refine k_iast C Wd 1 0 [(h0, .inr (12, [.ref h1, .ref h2, .ref h3, .ref h4, .int 0, .int 0, .ref h5, .int 0, .int 0, .int 0, .int 0, .int 0, .int 0, .int 0, .int 0, .int 0, .int 0, .int 0, .int 0, .int 0, .int (-1), .int 0, .int 0, .int 0, .ref h6, .ref h7, .ref h8, .ref h9, .ref h10, .ref h11, .int 0, .int 0, .int 0, .int 0, .ref h12, .ref h13, .ref h14, .int 0, .int 0, .int 0, .int 0, .ref h15, .ref h16, .int 0, .ref h17, .ref h18, .int 0, .ref h19, .int 0, .ref h20, .ref h21, .ref h22, .int 0, .ref h23, .ref h24, .ref h25])), (h25, .inl (a24, 6, .inl (upd (upd (upd (fun _ => 0) 5 (-1)) 4 (-1)) 3 (-1))))] rfl rfl (vp_in_iff.mpr (by decide)) rfl rfl dX12_deals_64 (fun H locs Wd => ?_)
  refine lv_iload_n C.1 C.2.1 dX12_deals_65 rfl (lv_at hl 5 rfl) ?_
  refine lv_iload C.1 C.2.1 dX12_deals_66 (lv_at hl 0 rfl) ?_
  refine k_ishr (v := 0) C (by decide) dX12_deals_68 ?_
  refine lv_iconst (v := 1) C.1 C.2.1 dX12_deals_69 (by decide) ?_
  refine k_iand (v := 0) C (by decide) dX12_deals_70 ?_
  refine lv_if_ne (tgt := 77) C.1 C.2.1 dX12_deals_71 (by decide) (fun c5533 => absurd c5533 (by decide)) (fun _ => ?_)
  refine lv_goto (tgt := 94) C.1 C.2.1 dX12_deals_74 (by decide) ?_
  refine lv_iinc (v := 2) (lv' := [(6, .int 2), (5, .int 0), (4, .int 0), (3, .int 1), (0, .ref h0), (1, .int 0), (2, .int x0)]) C.1 C.2.1 dX12_deals_94 hl (k := 0) rfl (by decide) (by decide) rfl (fun ls hl => ?_)
  refine lv_goto (tgt := 52) C.1 C.2.1 dX12_deals_97 (by decide) ?_
  refine lv_iload C.1 C.2.1 dX12_deals_52 (lv_at hl 0 rfl) ?_
  refine lv_if_lt (tgt := 100) C.1 C.2.1 dX12_deals_54 (by decide) (fun c5534 => absurd c5534 (by decide)) (fun _ => ?_)
  refine lv_aload_n C.1 C.2.1 dX12_deals_57 rfl (lv_at hl 4 rfl) ?_
  refine k_get C Wd KX12 0 55 rfl (by decide) fl_X12_87 rfl dX12_deals_58 ?_
  refine lv_iload C.1 C.2.1 dX12_deals_61 (lv_at hl 0 rfl) ?_
  refine lv_iconst (v := (-1)) C.1 C.2.1 dX12_deals_63 (by decide) ?_
  refine k_iast C Wd 1 0 [(h0, .inr (12, [.ref h1, .ref h2, .ref h3, .ref h4, .int 0, .int 0, .ref h5, .int 0, .int 0, .int 0, .int 0, .int 0, .int 0, .int 0, .int 0, .int 0, .int 0, .int 0, .int 0, .int 0, .int (-1), .int 0, .int 0, .int 0, .ref h6, .ref h7, .ref h8, .ref h9, .ref h10, .ref h11, .int 0, .int 0, .int 0, .int 0, .ref h12, .ref h13, .ref h14, .int 0, .int 0, .int 0, .int 0, .ref h15, .ref h16, .int 0, .ref h17, .ref h18, .int 0, .ref h19, .int 0, .ref h20, .ref h21, .ref h22, .int 0, .ref h23, .ref h24, .ref h25])), (h25, .inl (a24, 6, .inl (upd (upd (upd (upd (fun _ => 0) 5 (-1)) 4 (-1)) 3 (-1)) 2 (-1))))] rfl rfl (vp_in_iff.mpr (by decide)) rfl rfl dX12_deals_64 (fun H locs Wd => ?_)
  refine lv_iload_n C.1 C.2.1 dX12_deals_65 rfl (lv_at hl 5 rfl) ?_
  refine lv_iload C.1 C.2.1 dX12_deals_66 (lv_at hl 0 rfl) ?_
  refine k_ishr (v := 0) C (by decide) dX12_deals_68 ?_
  refine lv_iconst (v := 1) C.1 C.2.1 dX12_deals_69 (by decide) ?_
  refine k_iand (v := 0) C (by decide) dX12_deals_70 ?_
  refine lv_if_ne (tgt := 77) C.1 C.2.1 dX12_deals_71 (by decide) (fun c5535 => absurd c5535 (by decide)) (fun _ => ?_)
  refine lv_goto (tgt := 94) C.1 C.2.1 dX12_deals_74 (by decide) ?_
  refine lv_iinc (v := 1) (lv' := [(6, .int 1), (5, .int 0), (4, .int 0), (3, .int 1), (0, .ref h0), (1, .int 0), (2, .int x0)]) C.1 C.2.1 dX12_deals_94 hl (k := 0) rfl (by decide) (by decide) rfl (fun ls hl => ?_)
  refine lv_goto (tgt := 52) C.1 C.2.1 dX12_deals_97 (by decide) ?_
  refine lv_iload C.1 C.2.1 dX12_deals_52 (lv_at hl 0 rfl) ?_
  refine lv_if_lt (tgt := 100) C.1 C.2.1 dX12_deals_54 (by decide) (fun c5536 => absurd c5536 (by decide)) (fun _ => ?_)
  refine lv_aload_n C.1 C.2.1 dX12_deals_57 rfl (lv_at hl 4 rfl) ?_
  refine k_get C Wd KX12 0 55 rfl (by decide) fl_X12_87 rfl dX12_deals_58 ?_
  refine lv_iload C.1 C.2.1 dX12_deals_61 (lv_at hl 0 rfl) ?_
  refine lv_iconst (v := (-1)) C.1 C.2.1 dX12_deals_63 (by decide) ?_
  refine k_iast C Wd 1 0 [(h0, .inr (12, [.ref h1, .ref h2, .ref h3, .ref h4, .int 0, .int 0, .ref h5, .int 0, .int 0, .int 0, .int 0, .int 0, .int 0, .int 0, .int 0, .int 0, .int 0, .int 0, .int 0, .int 0, .int (-1), .int 0, .int 0, .int 0, .ref h6, .ref h7, .ref h8, .ref h9, .ref h10, .ref h11, .int 0, .int 0, .int 0, .int 0, .ref h12, .ref h13, .ref h14, .int 0, .int 0, .int 0, .int 0, .ref h15, .ref h16, .int 0, .ref h17, .ref h18, .int 0, .ref h19, .int 0, .ref h20, .ref h21, .ref h22, .int 0, .ref h23, .ref h24, .ref h25])), (h25, .inl (a24, 6, .inl (upd (upd (upd (upd (upd (fun _ => 0) 5 (-1)) 4 (-1)) 3 (-1)) 2 (-1)) 1 (-1))))] rfl rfl (vp_in_iff.mpr (by decide)) rfl rfl dX12_deals_64 (fun H locs Wd => ?_)
  refine lv_iload_n C.1 C.2.1 dX12_deals_65 rfl (lv_at hl 5 rfl) ?_
  refine lv_iload C.1 C.2.1 dX12_deals_66 (lv_at hl 0 rfl) ?_
  refine k_ishr (v := 0) C (by decide) dX12_deals_68 ?_
  refine lv_iconst (v := 1) C.1 C.2.1 dX12_deals_69 (by decide) ?_
  refine k_iand (v := 0) C (by decide) dX12_deals_70 ?_
  refine lv_if_ne (tgt := 77) C.1 C.2.1 dX12_deals_71 (by decide) (fun c5537 => absurd c5537 (by decide)) (fun _ => ?_)
  refine lv_goto (tgt := 94) C.1 C.2.1 dX12_deals_74 (by decide) ?_
  refine lv_iinc (v := 0) (lv' := [(6, .int 0), (5, .int 0), (4, .int 0), (3, .int 1), (0, .ref h0), (1, .int 0), (2, .int x0)]) C.1 C.2.1 dX12_deals_94 hl (k := 0) rfl (by decide) (by decide) rfl (fun ls hl => ?_)
  refine lv_goto (tgt := 52) C.1 C.2.1 dX12_deals_97 (by decide) ?_
  refine lv_iload C.1 C.2.1 dX12_deals_52 (lv_at hl 0 rfl) ?_
  refine lv_if_lt (tgt := 100) C.1 C.2.1 dX12_deals_54 (by decide) (fun c5538 => absurd c5538 (by decide)) (fun _ => ?_)
  refine lv_aload_n C.1 C.2.1 dX12_deals_57 rfl (lv_at hl 4 rfl) ?_
  refine k_get C Wd KX12 0 55 rfl (by decide) fl_X12_87 rfl dX12_deals_58 ?_
  refine lv_iload C.1 C.2.1 dX12_deals_61 (lv_at hl 0 rfl) ?_
  refine lv_iconst (v := (-1)) C.1 C.2.1 dX12_deals_63 (by decide) ?_
  refine k_iast C Wd 1 0 [(h0, .inr (12, [.ref h1, .ref h2, .ref h3, .ref h4, .int 0, .int 0, .ref h5, .int 0, .int 0, .int 0, .int 0, .int 0, .int 0, .int 0, .int 0, .int 0, .int 0, .int 0, .int 0, .int 0, .int (-1), .int 0, .int 0, .int 0, .ref h6, .ref h7, .ref h8, .ref h9, .ref h10, .ref h11, .int 0, .int 0, .int 0, .int 0, .ref h12, .ref h13, .ref h14, .int 0, .int 0, .int 0, .int 0, .ref h15, .ref h16, .int 0, .ref h17, .ref h18, .int 0, .ref h19, .int 0, .ref h20, .ref h21, .ref h22, .int 0, .ref h23, .ref h24, .ref h25])), (h25, .inl (a24, 6, .inl (upd (upd (upd (upd (upd (upd (fun _ => 0) 5 (-1)) 4 (-1)) 3 (-1)) 2 (-1)) 1 (-1)) 0 (-1))))] rfl rfl (vp_in_iff.mpr (by decide)) rfl rfl dX12_deals_64 (fun H locs Wd => ?_)
  refine lv_iload_n C.1 C.2.1 dX12_deals_65 rfl (lv_at hl 5 rfl) ?_
  refine lv_iload C.1 C.2.1 dX12_deals_66 (lv_at hl 0 rfl) ?_
  refine k_ishr (v := 0) C (by decide) dX12_deals_68 ?_
  refine lv_iconst (v := 1) C.1 C.2.1 dX12_deals_69 (by decide) ?_
  refine k_iand (v := 0) C (by decide) dX12_deals_70 ?_
  refine lv_if_ne (tgt := 77) C.1 C.2.1 dX12_deals_71 (by decide) (fun c5539 => absurd c5539 (by decide)) (fun _ => ?_)
  refine lv_goto (tgt := 94) C.1 C.2.1 dX12_deals_74 (by decide) ?_
  refine lv_iinc (v := (-1)) (lv' := [(6, .int (-1)), (5, .int 0), (4, .int 0), (3, .int 1), (0, .ref h0), (1, .int 0), (2, .int x0)]) C.1 C.2.1 dX12_deals_94 hl (k := 0) rfl (by decide) (by decide) rfl (fun ls hl => ?_)
  refine lv_goto (tgt := 52) C.1 C.2.1 dX12_deals_97 (by decide) ?_
  refine lv_iload C.1 C.2.1 dX12_deals_52 (lv_at hl 0 rfl) ?_
  refine lv_if_lt (tgt := 100) C.1 C.2.1 dX12_deals_54 (by decide) (fun _ => ?_) (fun c5540 => absurd c5540 (by decide))
  refine lv_iconst (v := 1) C.1 C.2.1 dX12_deals_100 (by decide) ?_
  refine lv_istore (lv' := [(6, .int 1), (5, .int 0), (4, .int 0), (3, .int 1), (0, .ref h0), (1, .int 0), (2, .int x0)]) C.1 C.2.1 dX12_deals_101 hl (by decide) rfl (fun ls hl => ?_)
  refine lv_iconst (v := 0) C.1 C.2.1 dX12_deals_103 (by decide) ?_
  refine lv_istore (lv' := [(7, .int 0), (6, .int 1), (5, .int 0), (4, .int 0), (3, .int 1), (0, .ref h0), (1, .int 0), (2, .int x0)]) C.1 C.2.1 dX12_deals_104 hl (by decide) rfl (fun ls hl => ?_)
  refine lv_iload C.1 C.2.1 dX12_deals_106 (lv_at hl 0 rfl) ?_
  refine lv_bipush (v := 6) C.1 C.2.1 dX12_deals_108 (by decide) ?_
  refine lv_icmp_ge (tgt := 190) C.1 C.2.1 dX12_deals_110 (by decide) (fun c5541 => absurd c5541 (by decide)) (fun _ => ?_)
  refine lv_iconst (v := 0) C.1 C.2.1 dX12_deals_113 (by decide) ?_
  refine lv_istore (lv' := [(8, .int 0), (7, .int 0), (6, .int 1), (5, .int 0), (4, .int 0), (3, .int 1), (0, .ref h0), (1, .int 0), (2, .int x0)]) C.1 C.2.1 dX12_deals_114 hl (by decide) rfl (fun ls hl => ?_)
  refine lv_iload C.1 C.2.1 dX12_deals_116 (lv_at hl 0 rfl) ?_
  refine lv_iload C.1 C.2.1 dX12_deals_118 (lv_at hl 1 rfl) ?_
  refine lv_icmp_ge (tgt := 184) C.1 C.2.1 dX12_deals_120 (by decide) (fun _ => ?_) (fun c5542 => absurd c5542 (by decide))
  refine lv_iinc (v := 1) (lv' := [(7, .int 1), (8, .int 0), (6, .int 1), (5, .int 0), (4, .int 0), (3, .int 1), (0, .ref h0), (1, .int 0), (2, .int x0)]) C.1 C.2.1 dX12_deals_184 hl (k := 1) rfl (by decide) (by decide) rfl (fun ls hl => ?_)
  refine lv_goto (tgt := 106) C.1 C.2.1 dX12_deals_187 (by decide) ?_
  refine lv_iload C.1 C.2.1 dX12_deals_106 (lv_at hl 0 rfl) ?_
  refine lv_bipush (v := 6) C.1 C.2.1 dX12_deals_108 (by decide) ?_
  refine lv_icmp_ge (tgt := 190) C.1 C.2.1 dX12_deals_110 (by decide) (fun c5543 => absurd c5543 (by decide)) (fun _ => ?_)
  refine lv_iconst (v := 0) C.1 C.2.1 dX12_deals_113 (by decide) ?_
  refine lv_istore (lv' := [(8, .int 0), (7, .int 1), (6, .int 1), (5, .int 0), (4, .int 0), (3, .int 1), (0, .ref h0), (1, .int 0), (2, .int x0)]) C.1 C.2.1 dX12_deals_114 hl (by decide) rfl (fun ls hl => ?_)
  refine lv_iload C.1 C.2.1 dX12_deals_116 (lv_at hl 0 rfl) ?_
  refine lv_iload C.1 C.2.1 dX12_deals_118 (lv_at hl 1 rfl) ?_
  refine lv_icmp_ge (tgt := 184) C.1 C.2.1 dX12_deals_120 (by decide) (fun c5544 => absurd c5544 (by decide)) (fun _ => ?_)
  refine lv_iload C.1 C.2.1 dX12_deals_123 (lv_at hl 2 rfl) ?_
  refine lv_if_eq (tgt := 175) C.1 C.2.1 dX12_deals_125 (by decide) (fun c5545 => absurd c5545 (by decide)) (fun _ => ?_)
  refine lv_aload_n C.1 C.2.1 dX12_deals_128 rfl (lv_at hl 6 rfl) ?_
  refine k_get C Wd KX12 0 55 rfl (by decide) fl_X12_87 rfl dX12_deals_129 ?_
  refine lv_iload C.1 C.2.1 dX12_deals_132 (lv_at hl 1 rfl) ?_
  refine k_iald (v := (-1)) C Wd 1 0 rfl rfl (vp_in_iff.mpr (by decide)) rfl dX12_deals_134 ?_
  refine lv_iconst (v := (-1)) C.1 C.2.1 dX12_deals_135 (by decide) ?_
  refine lv_icmp_eq (tgt := 171) C.1 C.2.1 dX12_deals_136 (by decide) (fun _ => ?_) (fun c5546 => absurd c5546 (by decide))
  refine lv_iconst (v := 1) C.1 C.2.1 dX12_deals_171 (by decide) ?_
  refine lv_goto (tgt := 176) C.1 C.2.1 dX12_deals_172 (by decide) ?_
  refine lv_istore (lv' := [(6, .int 1), (8, .int 0), (7, .int 1), (5, .int 0), (4, .int 0), (3, .int 1), (0, .ref h0), (1, .int 0), (2, .int x0)]) C.1 C.2.1 dX12_deals_176 hl (by decide) rfl (fun ls hl => ?_)
  refine lv_iinc (v := 1) (lv' := [(8, .int 1), (6, .int 1), (7, .int 1), (5, .int 0), (4, .int 0), (3, .int 1), (0, .ref h0), (1, .int 0), (2, .int x0)]) C.1 C.2.1 dX12_deals_178 hl (k := 1) rfl (by decide) (by decide) rfl (fun ls hl => ?_)
  refine lv_goto (tgt := 116) C.1 C.2.1 dX12_deals_181 (by decide) ?_
  refine lv_iload C.1 C.2.1 dX12_deals_116 (lv_at hl 0 rfl) ?_
  refine lv_iload C.1 C.2.1 dX12_deals_118 (lv_at hl 2 rfl) ?_
  refine lv_icmp_ge (tgt := 184) C.1 C.2.1 dX12_deals_120 (by decide) (fun _ => ?_) (fun c5547 => absurd c5547 (by decide))
  refine lv_iinc (v := 2) (lv' := [(7, .int 2), (8, .int 1), (6, .int 1), (5, .int 0), (4, .int 0), (3, .int 1), (0, .ref h0), (1, .int 0), (2, .int x0)]) C.1 C.2.1 dX12_deals_184 hl (k := 2) rfl (by decide) (by decide) rfl (fun ls hl => ?_)
  refine lv_goto (tgt := 106) C.1 C.2.1 dX12_deals_187 (by decide) ?_
  refine lv_iload C.1 C.2.1 dX12_deals_106 (lv_at hl 0 rfl) ?_
  refine lv_bipush (v := 6) C.1 C.2.1 dX12_deals_108 (by decide) ?_
  refine lv_icmp_ge (tgt := 190) C.1 C.2.1 dX12_deals_110 (by decide) (fun c5548 => absurd c5548 (by decide)) (fun _ => ?_)
  refine lv_iconst (v := 0) C.1 C.2.1 dX12_deals_113 (by decide) ?_
  refine lv_istore (lv' := [(8, .int 0), (7, .int 2), (6, .int 1), (5, .int 0), (4, .int 0), (3, .int 1), (0, .ref h0), (1, .int 0), (2, .int x0)]) C.1 C.2.1 dX12_deals_114 hl (by decide) rfl (fun ls hl => ?_)
  refine lv_iload C.1 C.2.1 dX12_deals_116 (lv_at hl 0 rfl) ?_
  refine lv_iload C.1 C.2.1 dX12_deals_118 (lv_at hl 1 rfl) ?_
  refine lv_icmp_ge (tgt := 184) C.1 C.2.1 dX12_deals_120 (by decide) (fun c5549 => absurd c5549 (by decide)) (fun _ => ?_)
  refine lv_iload C.1 C.2.1 dX12_deals_123 (lv_at hl 2 rfl) ?_
  refine lv_if_eq (tgt := 175) C.1 C.2.1 dX12_deals_125 (by decide) (fun c5550 => absurd c5550 (by decide)) (fun _ => ?_)
  refine lv_aload_n C.1 C.2.1 dX12_deals_128 rfl (lv_at hl 6 rfl) ?_
  refine k_get C Wd KX12 0 55 rfl (by decide) fl_X12_87 rfl dX12_deals_129 ?_
  refine lv_iload C.1 C.2.1 dX12_deals_132 (lv_at hl 1 rfl) ?_
  refine k_iald (v := (-1)) C Wd 1 0 rfl rfl (vp_in_iff.mpr (by decide)) rfl dX12_deals_134 ?_
  refine lv_iconst (v := (-1)) C.1 C.2.1 dX12_deals_135 (by decide) ?_
  refine lv_icmp_eq (tgt := 171) C.1 C.2.1 dX12_deals_136 (by decide) (fun _ => ?_) (fun c5551 => absurd c5551 (by decide))
  refine lv_iconst (v := 1) C.1 C.2.1 dX12_deals_171 (by decide) ?_
  refine lv_goto (tgt := 176) C.1 C.2.1 dX12_deals_172 (by decide) ?_
  refine lv_istore (lv' := [(6, .int 1), (8, .int 0), (7, .int 2), (5, .int 0), (4, .int 0), (3, .int 1), (0, .ref h0), (1, .int 0), (2, .int x0)]) C.1 C.2.1 dX12_deals_176 hl (by decide) rfl (fun ls hl => ?_)
  refine lv_iinc (v := 1) (lv' := [(8, .int 1), (6, .int 1), (7, .int 2), (5, .int 0), (4, .int 0), (3, .int 1), (0, .ref h0), (1, .int 0), (2, .int x0)]) C.1 C.2.1 dX12_deals_178 hl (k := 1) rfl (by decide) (by decide) rfl (fun ls hl => ?_)
  refine lv_goto (tgt := 116) C.1 C.2.1 dX12_deals_181 (by decide) ?_
  refine lv_iload C.1 C.2.1 dX12_deals_116 (lv_at hl 0 rfl) ?_
  refine lv_iload C.1 C.2.1 dX12_deals_118 (lv_at hl 2 rfl) ?_
  refine lv_icmp_ge (tgt := 184) C.1 C.2.1 dX12_deals_120 (by decide) (fun c5552 => absurd c5552 (by decide)) (fun _ => ?_)
  refine lv_iload C.1 C.2.1 dX12_deals_123 (lv_at hl 1 rfl) ?_
  refine lv_if_eq (tgt := 175) C.1 C.2.1 dX12_deals_125 (by decide) (fun c5553 => absurd c5553 (by decide)) (fun _ => ?_)
  refine lv_aload_n C.1 C.2.1 dX12_deals_128 rfl (lv_at hl 6 rfl) ?_
  refine k_get C Wd KX12 0 55 rfl (by decide) fl_X12_87 rfl dX12_deals_129 ?_
  refine lv_iload C.1 C.2.1 dX12_deals_132 (lv_at hl 2 rfl) ?_
  refine k_iald (v := (-1)) C Wd 1 0 rfl rfl (vp_in_iff.mpr (by decide)) rfl dX12_deals_134 ?_
  refine lv_iconst (v := (-1)) C.1 C.2.1 dX12_deals_135 (by decide) ?_
  refine lv_icmp_eq (tgt := 171) C.1 C.2.1 dX12_deals_136 (by decide) (fun _ => ?_) (fun c5554 => absurd c5554 (by decide))
  refine lv_iconst (v := 1) C.1 C.2.1 dX12_deals_171 (by decide) ?_
  refine lv_goto (tgt := 176) C.1 C.2.1 dX12_deals_172 (by decide) ?_
  refine lv_istore (lv' := [(6, .int 1), (8, .int 1), (7, .int 2), (5, .int 0), (4, .int 0), (3, .int 1), (0, .ref h0), (1, .int 0), (2, .int x0)]) C.1 C.2.1 dX12_deals_176 hl (by decide) rfl (fun ls hl => ?_)
  refine lv_iinc (v := 2) (lv' := [(8, .int 2), (6, .int 1), (7, .int 2), (5, .int 0), (4, .int 0), (3, .int 1), (0, .ref h0), (1, .int 0), (2, .int x0)]) C.1 C.2.1 dX12_deals_178 hl (k := 1) rfl (by decide) (by decide) rfl (fun ls hl => ?_)
  refine lv_goto (tgt := 116) C.1 C.2.1 dX12_deals_181 (by decide) ?_
  refine lv_iload C.1 C.2.1 dX12_deals_116 (lv_at hl 0 rfl) ?_
  refine lv_iload C.1 C.2.1 dX12_deals_118 (lv_at hl 2 rfl) ?_
  refine lv_icmp_ge (tgt := 184) C.1 C.2.1 dX12_deals_120 (by decide) (fun _ => ?_) (fun c5555 => absurd c5555 (by decide))
  refine lv_iinc (v := 3) (lv' := [(7, .int 3), (8, .int 2), (6, .int 1), (5, .int 0), (4, .int 0), (3, .int 1), (0, .ref h0), (1, .int 0), (2, .int x0)]) C.1 C.2.1 dX12_deals_184 hl (k := 2) rfl (by decide) (by decide) rfl (fun ls hl => ?_)
  refine lv_goto (tgt := 106) C.1 C.2.1 dX12_deals_187 (by decide) ?_
  refine lv_iload C.1 C.2.1 dX12_deals_106 (lv_at hl 0 rfl) ?_
  refine lv_bipush (v := 6) C.1 C.2.1 dX12_deals_108 (by decide) ?_
  refine lv_icmp_ge (tgt := 190) C.1 C.2.1 dX12_deals_110 (by decide) (fun c5556 => absurd c5556 (by decide)) (fun _ => ?_)
  refine lv_iconst (v := 0) C.1 C.2.1 dX12_deals_113 (by decide) ?_
  refine lv_istore (lv' := [(8, .int 0), (7, .int 3), (6, .int 1), (5, .int 0), (4, .int 0), (3, .int 1), (0, .ref h0), (1, .int 0), (2, .int x0)]) C.1 C.2.1 dX12_deals_114 hl (by decide) rfl (fun ls hl => ?_)
  refine lv_iload C.1 C.2.1 dX12_deals_116 (lv_at hl 0 rfl) ?_
  refine lv_iload C.1 C.2.1 dX12_deals_118 (lv_at hl 1 rfl) ?_
  refine lv_icmp_ge (tgt := 184) C.1 C.2.1 dX12_deals_120 (by decide) (fun c5557 => absurd c5557 (by decide)) (fun _ => ?_)
  refine lv_iload C.1 C.2.1 dX12_deals_123 (lv_at hl 2 rfl) ?_
  refine lv_if_eq (tgt := 175) C.1 C.2.1 dX12_deals_125 (by decide) (fun c5558 => absurd c5558 (by decide)) (fun _ => ?_)
  refine lv_aload_n C.1 C.2.1 dX12_deals_128 rfl (lv_at hl 6 rfl) ?_
  refine k_get C Wd KX12 0 55 rfl (by decide) fl_X12_87 rfl dX12_deals_129 ?_
  refine lv_iload C.1 C.2.1 dX12_deals_132 (lv_at hl 1 rfl) ?_
  refine k_iald (v := (-1)) C Wd 1 0 rfl rfl (vp_in_iff.mpr (by decide)) rfl dX12_deals_134 ?_
  refine lv_iconst (v := (-1)) C.1 C.2.1 dX12_deals_135 (by decide) ?_
  refine lv_icmp_eq (tgt := 171) C.1 C.2.1 dX12_deals_136 (by decide) (fun _ => ?_) (fun c5559 => absurd c5559 (by decide))
  refine lv_iconst (v := 1) C.1 C.2.1 dX12_deals_171 (by decide) ?_
  refine lv_goto (tgt := 176) C.1 C.2.1 dX12_deals_172 (by decide) ?_
  refine lv_istore (lv' := [(6, .int 1), (8, .int 0), (7, .int 3), (5, .int 0), (4, .int 0), (3, .int 1), (0, .ref h0), (1, .int 0), (2, .int x0)]) C.1 C.2.1 dX12_deals_176 hl (by decide) rfl (fun ls hl => ?_)
  refine lv_iinc (v := 1) (lv' := [(8, .int 1), (6, .int 1), (7, .int 3), (5, .int 0), (4, .int 0), (3, .int 1), (0, .ref h0), (1, .int 0), (2, .int x0)]) C.1 C.2.1 dX12_deals_178 hl (k := 1) rfl (by decide) (by decide) rfl (fun ls hl => ?_)
  refine lv_goto (tgt := 116) C.1 C.2.1 dX12_deals_181 (by decide) ?_
  refine lv_iload C.1 C.2.1 dX12_deals_116 (lv_at hl 0 rfl) ?_
  refine lv_iload C.1 C.2.1 dX12_deals_118 (lv_at hl 2 rfl) ?_
  refine lv_icmp_ge (tgt := 184) C.1 C.2.1 dX12_deals_120 (by decide) (fun c5560 => absurd c5560 (by decide)) (fun _ => ?_)
  refine lv_iload C.1 C.2.1 dX12_deals_123 (lv_at hl 1 rfl) ?_
  refine lv_if_eq (tgt := 175) C.1 C.2.1 dX12_deals_125 (by decide) (fun c5561 => absurd c5561 (by decide)) (fun _ => ?_)
  refine lv_aload_n C.1 C.2.1 dX12_deals_128 rfl (lv_at hl 6 rfl) ?_
  refine k_get C Wd KX12 0 55 rfl (by decide) fl_X12_87 rfl dX12_deals_129 ?_
  refine lv_iload C.1 C.2.1 dX12_deals_132 (lv_at hl 2 rfl) ?_
  refine k_iald (v := (-1)) C Wd 1 0 rfl rfl (vp_in_iff.mpr (by decide)) rfl dX12_deals_134 ?_
  refine lv_iconst (v := (-1)) C.1 C.2.1 dX12_deals_135 (by decide) ?_
  refine lv_icmp_eq (tgt := 171) C.1 C.2.1 dX12_deals_136 (by decide) (fun _ => ?_) (fun c5562 => absurd c5562 (by decide))
  refine lv_iconst (v := 1) C.1 C.2.1 dX12_deals_171 (by decide) ?_
  refine lv_goto (tgt := 176) C.1 C.2.1 dX12_deals_172 (by decide) ?_
  refine lv_istore (lv' := [(6, .int 1), (8, .int 1), (7, .int 3), (5, .int 0), (4, .int 0), (3, .int 1), (0, .ref h0), (1, .int 0), (2, .int x0)]) C.1 C.2.1 dX12_deals_176 hl (by decide) rfl (fun ls hl => ?_)
  refine lv_iinc (v := 2) (lv' := [(8, .int 2), (6, .int 1), (7, .int 3), (5, .int 0), (4, .int 0), (3, .int 1), (0, .ref h0), (1, .int 0), (2, .int x0)]) C.1 C.2.1 dX12_deals_178 hl (k := 1) rfl (by decide) (by decide) rfl (fun ls hl => ?_)
  refine lv_goto (tgt := 116) C.1 C.2.1 dX12_deals_181 (by decide) ?_
  refine lv_iload C.1 C.2.1 dX12_deals_116 (lv_at hl 0 rfl) ?_
  refine lv_iload C.1 C.2.1 dX12_deals_118 (lv_at hl 2 rfl) ?_
  refine lv_icmp_ge (tgt := 184) C.1 C.2.1 dX12_deals_120 (by decide) (fun c5563 => absurd c5563 (by decide)) (fun _ => ?_)
  refine lv_iload C.1 C.2.1 dX12_deals_123 (lv_at hl 1 rfl) ?_
  refine lv_if_eq (tgt := 175) C.1 C.2.1 dX12_deals_125 (by decide) (fun c5564 => absurd c5564 (by decide)) (fun _ => ?_)
  refine lv_aload_n C.1 C.2.1 dX12_deals_128 rfl (lv_at hl 6 rfl) ?_
  refine k_get C Wd KX12 0 55 rfl (by decide) fl_X12_87 rfl dX12_deals_129 ?_
  refine lv_iload C.1 C.2.1 dX12_deals_132 (lv_at hl 2 rfl) ?_
  refine k_iald (v := (-1)) C Wd 1 0 rfl rfl (vp_in_iff.mpr (by decide)) rfl dX12_deals_134 ?_
  refine lv_iconst (v := (-1)) C.1 C.2.1 dX12_deals_135 (by decide) ?_
  refine lv_icmp_eq (tgt := 171) C.1 C.2.1 dX12_deals_136 (by decide) (fun _ => ?_) (fun c5565 => absurd c5565 (by decide))
  refine lv_iconst (v := 1) C.1 C.2.1 dX12_deals_171 (by decide) ?_
  refine lv_goto (tgt := 176) C.1 C.2.1 dX12_deals_172 (by decide) ?_
  refine lv_istore (lv' := [(6, .int 1), (8, .int 2), (7, .int 3), (5, .int 0), (4, .int 0), (3, .int 1), (0, .ref h0), (1, .int 0), (2, .int x0)]) C.1 C.2.1 dX12_deals_176 hl (by decide) rfl (fun ls hl => ?_)
  refine lv_iinc (v := 3) (lv' := [(8, .int 3), (6, .int 1), (7, .int 3), (5, .int 0), (4, .int 0), (3, .int 1), (0, .ref h0), (1, .int 0), (2, .int x0)]) C.1 C.2.1 dX12_deals_178 hl (k := 1) rfl (by decide) (by decide) rfl (fun ls hl => ?_)
  refine lv_goto (tgt := 116) C.1 C.2.1 dX12_deals_181 (by decide) ?_
  refine lv_iload C.1 C.2.1 dX12_deals_116 (lv_at hl 0 rfl) ?_
  refine lv_iload C.1 C.2.1 dX12_deals_118 (lv_at hl 2 rfl) ?_
  refine lv_icmp_ge (tgt := 184) C.1 C.2.1 dX12_deals_120 (by decide) (fun _ => ?_) (fun c5566 => absurd c5566 (by decide))
  refine lv_iinc (v := 4) (lv' := [(7, .int 4), (8, .int 3), (6, .int 1), (5, .int 0), (4, .int 0), (3, .int 1), (0, .ref h0), (1, .int 0), (2, .int x0)]) C.1 C.2.1 dX12_deals_184 hl (k := 2) rfl (by decide) (by decide) rfl (fun ls hl => ?_)
  refine lv_goto (tgt := 106) C.1 C.2.1 dX12_deals_187 (by decide) ?_
  refine lv_iload C.1 C.2.1 dX12_deals_106 (lv_at hl 0 rfl) ?_
  refine lv_bipush (v := 6) C.1 C.2.1 dX12_deals_108 (by decide) ?_
  refine lv_icmp_ge (tgt := 190) C.1 C.2.1 dX12_deals_110 (by decide) (fun c5567 => absurd c5567 (by decide)) (fun _ => ?_)
  refine lv_iconst (v := 0) C.1 C.2.1 dX12_deals_113 (by decide) ?_
  refine lv_istore (lv' := [(8, .int 0), (7, .int 4), (6, .int 1), (5, .int 0), (4, .int 0), (3, .int 1), (0, .ref h0), (1, .int 0), (2, .int x0)]) C.1 C.2.1 dX12_deals_114 hl (by decide) rfl (fun ls hl => ?_)
  refine lv_iload C.1 C.2.1 dX12_deals_116 (lv_at hl 0 rfl) ?_
  refine lv_iload C.1 C.2.1 dX12_deals_118 (lv_at hl 1 rfl) ?_
  refine lv_icmp_ge (tgt := 184) C.1 C.2.1 dX12_deals_120 (by decide) (fun c5568 => absurd c5568 (by decide)) (fun _ => ?_)
  refine lv_iload C.1 C.2.1 dX12_deals_123 (lv_at hl 2 rfl) ?_
  refine lv_if_eq (tgt := 175) C.1 C.2.1 dX12_deals_125 (by decide) (fun c5569 => absurd c5569 (by decide)) (fun _ => ?_)
  refine lv_aload_n C.1 C.2.1 dX12_deals_128 rfl (lv_at hl 6 rfl) ?_
  refine k_get C Wd KX12 0 55 rfl (by decide) fl_X12_87 rfl dX12_deals_129 ?_
  refine lv_iload C.1 C.2.1 dX12_deals_132 (lv_at hl 1 rfl) ?_
  refine k_iald (v := (-1)) C Wd 1 0 rfl rfl (vp_in_iff.mpr (by decide)) rfl dX12_deals_134 ?_
  refine lv_iconst (v := (-1)) C.1 C.2.1 dX12_deals_135 (by decide) ?_
  refine lv_icmp_eq (tgt := 171) C.1 C.2.1 dX12_deals_136 (by decide) (fun _ => ?_) (fun c5570 => absurd c5570 (by decide))
  refine lv_iconst (v := 1) C.1 C.2.1 dX12_deals_171 (by decide) ?_
  refine lv_goto (tgt := 176) C.1 C.2.1 dX12_deals_172 (by decide) ?_
  refine lv_istore (lv' := [(6, .int 1), (8, .int 0), (7, .int 4), (5, .int 0), (4, .int 0), (3, .int 1), (0, .ref h0), (1, .int 0), (2, .int x0)]) C.1 C.2.1 dX12_deals_176 hl (by decide) rfl (fun ls hl => ?_)
  refine lv_iinc (v := 1) (lv' := [(8, .int 1), (6, .int 1), (7, .int 4), (5, .int 0), (4, .int 0), (3, .int 1), (0, .ref h0), (1, .int 0), (2, .int x0)]) C.1 C.2.1 dX12_deals_178 hl (k := 1) rfl (by decide) (by decide) rfl (fun ls hl => ?_)
  refine lv_goto (tgt := 116) C.1 C.2.1 dX12_deals_181 (by decide) ?_
  refine lv_iload C.1 C.2.1 dX12_deals_116 (lv_at hl 0 rfl) ?_
  refine lv_iload C.1 C.2.1 dX12_deals_118 (lv_at hl 2 rfl) ?_
  refine lv_icmp_ge (tgt := 184) C.1 C.2.1 dX12_deals_120 (by decide) (fun c5571 => absurd c5571 (by decide)) (fun _ => ?_)
  refine lv_iload C.1 C.2.1 dX12_deals_123 (lv_at hl 1 rfl) ?_
  refine lv_if_eq (tgt := 175) C.1 C.2.1 dX12_deals_125 (by decide) (fun c5572 => absurd c5572 (by decide)) (fun _ => ?_)
  refine lv_aload_n C.1 C.2.1 dX12_deals_128 rfl (lv_at hl 6 rfl) ?_
  refine k_get C Wd KX12 0 55 rfl (by decide) fl_X12_87 rfl dX12_deals_129 ?_
  refine lv_iload C.1 C.2.1 dX12_deals_132 (lv_at hl 2 rfl) ?_
  refine k_iald (v := (-1)) C Wd 1 0 rfl rfl (vp_in_iff.mpr (by decide)) rfl dX12_deals_134 ?_
  refine lv_iconst (v := (-1)) C.1 C.2.1 dX12_deals_135 (by decide) ?_
  refine lv_icmp_eq (tgt := 171) C.1 C.2.1 dX12_deals_136 (by decide) (fun _ => ?_) (fun c5573 => absurd c5573 (by decide))
  refine lv_iconst (v := 1) C.1 C.2.1 dX12_deals_171 (by decide) ?_
  refine lv_goto (tgt := 176) C.1 C.2.1 dX12_deals_172 (by decide) ?_
  refine lv_istore (lv' := [(6, .int 1), (8, .int 1), (7, .int 4), (5, .int 0), (4, .int 0), (3, .int 1), (0, .ref h0), (1, .int 0), (2, .int x0)]) C.1 C.2.1 dX12_deals_176 hl (by decide) rfl (fun ls hl => ?_)
  refine lv_iinc (v := 2) (lv' := [(8, .int 2), (6, .int 1), (7, .int 4), (5, .int 0), (4, .int 0), (3, .int 1), (0, .ref h0), (1, .int 0), (2, .int x0)]) C.1 C.2.1 dX12_deals_178 hl (k := 1) rfl (by decide) (by decide) rfl (fun ls hl => ?_)
  refine lv_goto (tgt := 116) C.1 C.2.1 dX12_deals_181 (by decide) ?_
  refine lv_iload C.1 C.2.1 dX12_deals_116 (lv_at hl 0 rfl) ?_
  refine lv_iload C.1 C.2.1 dX12_deals_118 (lv_at hl 2 rfl) ?_
  refine lv_icmp_ge (tgt := 184) C.1 C.2.1 dX12_deals_120 (by decide) (fun c5574 => absurd c5574 (by decide)) (fun _ => ?_)
  refine lv_iload C.1 C.2.1 dX12_deals_123 (lv_at hl 1 rfl) ?_
  refine lv_if_eq (tgt := 175) C.1 C.2.1 dX12_deals_125 (by decide) (fun c5575 => absurd c5575 (by decide)) (fun _ => ?_)
  refine lv_aload_n C.1 C.2.1 dX12_deals_128 rfl (lv_at hl 6 rfl) ?_
  refine k_get C Wd KX12 0 55 rfl (by decide) fl_X12_87 rfl dX12_deals_129 ?_
  refine lv_iload C.1 C.2.1 dX12_deals_132 (lv_at hl 2 rfl) ?_
  refine k_iald (v := (-1)) C Wd 1 0 rfl rfl (vp_in_iff.mpr (by decide)) rfl dX12_deals_134 ?_
  refine lv_iconst (v := (-1)) C.1 C.2.1 dX12_deals_135 (by decide) ?_
  refine lv_icmp_eq (tgt := 171) C.1 C.2.1 dX12_deals_136 (by decide) (fun _ => ?_) (fun c5576 => absurd c5576 (by decide))
  refine lv_iconst (v := 1) C.1 C.2.1 dX12_deals_171 (by decide) ?_
  refine lv_goto (tgt := 176) C.1 C.2.1 dX12_deals_172 (by decide) ?_
  refine lv_istore (lv' := [(6, .int 1), (8, .int 2), (7, .int 4), (5, .int 0), (4, .int 0), (3, .int 1), (0, .ref h0), (1, .int 0), (2, .int x0)]) C.1 C.2.1 dX12_deals_176 hl (by decide) rfl (fun ls hl => ?_)
  refine lv_iinc (v := 3) (lv' := [(8, .int 3), (6, .int 1), (7, .int 4), (5, .int 0), (4, .int 0), (3, .int 1), (0, .ref h0), (1, .int 0), (2, .int x0)]) C.1 C.2.1 dX12_deals_178 hl (k := 1) rfl (by decide) (by decide) rfl (fun ls hl => ?_)
  refine lv_goto (tgt := 116) C.1 C.2.1 dX12_deals_181 (by decide) ?_
  refine lv_iload C.1 C.2.1 dX12_deals_116 (lv_at hl 0 rfl) ?_
  refine lv_iload C.1 C.2.1 dX12_deals_118 (lv_at hl 2 rfl) ?_
  refine lv_icmp_ge (tgt := 184) C.1 C.2.1 dX12_deals_120 (by decide) (fun c5577 => absurd c5577 (by decide)) (fun _ => ?_)
  refine lv_iload C.1 C.2.1 dX12_deals_123 (lv_at hl 1 rfl) ?_
  refine lv_if_eq (tgt := 175) C.1 C.2.1 dX12_deals_125 (by decide) (fun c5578 => absurd c5578 (by decide)) (fun _ => ?_)
  refine lv_aload_n C.1 C.2.1 dX12_deals_128 rfl (lv_at hl 6 rfl) ?_
  refine k_get C Wd KX12 0 55 rfl (by decide) fl_X12_87 rfl dX12_deals_129 ?_
  refine lv_iload C.1 C.2.1 dX12_deals_132 (lv_at hl 2 rfl) ?_
  refine k_iald (v := (-1)) C Wd 1 0 rfl rfl (vp_in_iff.mpr (by decide)) rfl dX12_deals_134 ?_
  refine lv_iconst (v := (-1)) C.1 C.2.1 dX12_deals_135 (by decide) ?_
  refine lv_icmp_eq (tgt := 171) C.1 C.2.1 dX12_deals_136 (by decide) (fun _ => ?_) (fun c5579 => absurd c5579 (by decide))
  refine lv_iconst (v := 1) C.1 C.2.1 dX12_deals_171 (by decide) ?_
  refine lv_goto (tgt := 176) C.1 C.2.1 dX12_deals_172 (by decide) ?_
  refine lv_istore (lv' := [(6, .int 1), (8, .int 3), (7, .int 4), (5, .int 0), (4, .int 0), (3, .int 1), (0, .ref h0), (1, .int 0), (2, .int x0)]) C.1 C.2.1 dX12_deals_176 hl (by decide) rfl (fun ls hl => ?_)
  refine lv_iinc (v := 4) (lv' := [(8, .int 4), (6, .int 1), (7, .int 4), (5, .int 0), (4, .int 0), (3, .int 1), (0, .ref h0), (1, .int 0), (2, .int x0)]) C.1 C.2.1 dX12_deals_178 hl (k := 1) rfl (by decide) (by decide) rfl (fun ls hl => ?_)
  refine lv_goto (tgt := 116) C.1 C.2.1 dX12_deals_181 (by decide) ?_
  refine lv_iload C.1 C.2.1 dX12_deals_116 (lv_at hl 0 rfl) ?_
  refine lv_iload C.1 C.2.1 dX12_deals_118 (lv_at hl 2 rfl) ?_
  refine lv_icmp_ge (tgt := 184) C.1 C.2.1 dX12_deals_120 (by decide) (fun _ => ?_) (fun c5580 => absurd c5580 (by decide))
  refine lv_iinc (v := 5) (lv' := [(7, .int 5), (8, .int 4), (6, .int 1), (5, .int 0), (4, .int 0), (3, .int 1), (0, .ref h0), (1, .int 0), (2, .int x0)]) C.1 C.2.1 dX12_deals_184 hl (k := 2) rfl (by decide) (by decide) rfl (fun ls hl => ?_)
  refine lv_goto (tgt := 106) C.1 C.2.1 dX12_deals_187 (by decide) ?_
  refine lv_iload C.1 C.2.1 dX12_deals_106 (lv_at hl 0 rfl) ?_
  refine lv_bipush (v := 6) C.1 C.2.1 dX12_deals_108 (by decide) ?_
  refine lv_icmp_ge (tgt := 190) C.1 C.2.1 dX12_deals_110 (by decide) (fun c5581 => absurd c5581 (by decide)) (fun _ => ?_)
  refine lv_iconst (v := 0) C.1 C.2.1 dX12_deals_113 (by decide) ?_
  refine lv_istore (lv' := [(8, .int 0), (7, .int 5), (6, .int 1), (5, .int 0), (4, .int 0), (3, .int 1), (0, .ref h0), (1, .int 0), (2, .int x0)]) C.1 C.2.1 dX12_deals_114 hl (by decide) rfl (fun ls hl => ?_)
  refine lv_iload C.1 C.2.1 dX12_deals_116 (lv_at hl 0 rfl) ?_
  refine lv_iload C.1 C.2.1 dX12_deals_118 (lv_at hl 1 rfl) ?_
  refine lv_icmp_ge (tgt := 184) C.1 C.2.1 dX12_deals_120 (by decide) (fun c5582 => absurd c5582 (by decide)) (fun _ => ?_)
  refine lv_iload C.1 C.2.1 dX12_deals_123 (lv_at hl 2 rfl) ?_
  refine lv_if_eq (tgt := 175) C.1 C.2.1 dX12_deals_125 (by decide) (fun c5583 => absurd c5583 (by decide)) (fun _ => ?_)
  refine lv_aload_n C.1 C.2.1 dX12_deals_128 rfl (lv_at hl 6 rfl) ?_
  refine k_get C Wd KX12 0 55 rfl (by decide) fl_X12_87 rfl dX12_deals_129 ?_
  refine lv_iload C.1 C.2.1 dX12_deals_132 (lv_at hl 1 rfl) ?_
  refine k_iald (v := (-1)) C Wd 1 0 rfl rfl (vp_in_iff.mpr (by decide)) rfl dX12_deals_134 ?_
  refine lv_iconst (v := (-1)) C.1 C.2.1 dX12_deals_135 (by decide) ?_
  refine lv_icmp_eq (tgt := 171) C.1 C.2.1 dX12_deals_136 (by decide) (fun _ => ?_) (fun c5584 => absurd c5584 (by decide))
  refine lv_iconst (v := 1) C.1 C.2.1 dX12_deals_171 (by decide) ?_
  refine lv_goto (tgt := 176) C.1 C.2.1 dX12_deals_172 (by decide) ?_
  refine lv_istore (lv' := [(6, .int 1), (8, .int 0), (7, .int 5), (5, .int 0), (4, .int 0), (3, .int 1), (0, .ref h0), (1, .int 0), (2, .int x0)]) C.1 C.2.1 dX12_deals_176 hl (by decide) rfl (fun ls hl => ?_)
  refine lv_iinc (v := 1) (lv' := [(8, .int 1), (6, .int 1), (7, .int 5), (5, .int 0), (4, .int 0), (3, .int 1), (0, .ref h0), (1, .int 0), (2, .int x0)]) C.1 C.2.1 dX12_deals_178 hl (k := 1) rfl (by decide) (by decide) rfl (fun ls hl => ?_)
  refine lv_goto (tgt := 116) C.1 C.2.1 dX12_deals_181 (by decide) ?_
  refine lv_iload C.1 C.2.1 dX12_deals_116 (lv_at hl 0 rfl) ?_
  refine lv_iload C.1 C.2.1 dX12_deals_118 (lv_at hl 2 rfl) ?_
  refine lv_icmp_ge (tgt := 184) C.1 C.2.1 dX12_deals_120 (by decide) (fun c5585 => absurd c5585 (by decide)) (fun _ => ?_)
  refine lv_iload C.1 C.2.1 dX12_deals_123 (lv_at hl 1 rfl) ?_
  refine lv_if_eq (tgt := 175) C.1 C.2.1 dX12_deals_125 (by decide) (fun c5586 => absurd c5586 (by decide)) (fun _ => ?_)
  refine lv_aload_n C.1 C.2.1 dX12_deals_128 rfl (lv_at hl 6 rfl) ?_
  refine k_get C Wd KX12 0 55 rfl (by decide) fl_X12_87 rfl dX12_deals_129 ?_
  refine lv_iload C.1 C.2.1 dX12_deals_132 (lv_at hl 2 rfl) ?_
  refine k_iald (v := (-1)) C Wd 1 0 rfl rfl (vp_in_iff.mpr (by decide)) rfl dX12_deals_134 ?_
  refine lv_iconst (v := (-1)) C.1 C.2.1 dX12_deals_135 (by decide) ?_
  refine lv_icmp_eq (tgt := 171) C.1 C.2.1 dX12_deals_136 (by decide) (fun _ => ?_) (fun c5587 => absurd c5587 (by decide))
  refine lv_iconst (v := 1) C.1 C.2.1 dX12_deals_171 (by decide) ?_
  refine lv_goto (tgt := 176) C.1 C.2.1 dX12_deals_172 (by decide) ?_
  refine lv_istore (lv' := [(6, .int 1), (8, .int 1), (7, .int 5), (5, .int 0), (4, .int 0), (3, .int 1), (0, .ref h0), (1, .int 0), (2, .int x0)]) C.1 C.2.1 dX12_deals_176 hl (by decide) rfl (fun ls hl => ?_)
  refine lv_iinc (v := 2) (lv' := [(8, .int 2), (6, .int 1), (7, .int 5), (5, .int 0), (4, .int 0), (3, .int 1), (0, .ref h0), (1, .int 0), (2, .int x0)]) C.1 C.2.1 dX12_deals_178 hl (k := 1) rfl (by decide) (by decide) rfl (fun ls hl => ?_)
  refine lv_goto (tgt := 116) C.1 C.2.1 dX12_deals_181 (by decide) ?_
  refine lv_iload C.1 C.2.1 dX12_deals_116 (lv_at hl 0 rfl) ?_
  refine lv_iload C.1 C.2.1 dX12_deals_118 (lv_at hl 2 rfl) ?_
  refine lv_icmp_ge (tgt := 184) C.1 C.2.1 dX12_deals_120 (by decide) (fun c5588 => absurd c5588 (by decide)) (fun _ => ?_)
  refine lv_iload C.1 C.2.1 dX12_deals_123 (lv_at hl 1 rfl) ?_
  refine lv_if_eq (tgt := 175) C.1 C.2.1 dX12_deals_125 (by decide) (fun c5589 => absurd c5589 (by decide)) (fun _ => ?_)
  refine lv_aload_n C.1 C.2.1 dX12_deals_128 rfl (lv_at hl 6 rfl) ?_
  refine k_get C Wd KX12 0 55 rfl (by decide) fl_X12_87 rfl dX12_deals_129 ?_
  refine lv_iload C.1 C.2.1 dX12_deals_132 (lv_at hl 2 rfl) ?_
  refine k_iald (v := (-1)) C Wd 1 0 rfl rfl (vp_in_iff.mpr (by decide)) rfl dX12_deals_134 ?_
  refine lv_iconst (v := (-1)) C.1 C.2.1 dX12_deals_135 (by decide) ?_
  refine lv_icmp_eq (tgt := 171) C.1 C.2.1 dX12_deals_136 (by decide) (fun _ => ?_) (fun c5590 => absurd c5590 (by decide))
  refine lv_iconst (v := 1) C.1 C.2.1 dX12_deals_171 (by decide) ?_
  refine lv_goto (tgt := 176) C.1 C.2.1 dX12_deals_172 (by decide) ?_
  refine lv_istore (lv' := [(6, .int 1), (8, .int 2), (7, .int 5), (5, .int 0), (4, .int 0), (3, .int 1), (0, .ref h0), (1, .int 0), (2, .int x0)]) C.1 C.2.1 dX12_deals_176 hl (by decide) rfl (fun ls hl => ?_)
  refine lv_iinc (v := 3) (lv' := [(8, .int 3), (6, .int 1), (7, .int 5), (5, .int 0), (4, .int 0), (3, .int 1), (0, .ref h0), (1, .int 0), (2, .int x0)]) C.1 C.2.1 dX12_deals_178 hl (k := 1) rfl (by decide) (by decide) rfl (fun ls hl => ?_)
  refine lv_goto (tgt := 116) C.1 C.2.1 dX12_deals_181 (by decide) ?_
  refine lv_iload C.1 C.2.1 dX12_deals_116 (lv_at hl 0 rfl) ?_
  refine lv_iload C.1 C.2.1 dX12_deals_118 (lv_at hl 2 rfl) ?_
  refine lv_icmp_ge (tgt := 184) C.1 C.2.1 dX12_deals_120 (by decide) (fun c5591 => absurd c5591 (by decide)) (fun _ => ?_)
  refine lv_iload C.1 C.2.1 dX12_deals_123 (lv_at hl 1 rfl) ?_
  refine lv_if_eq (tgt := 175) C.1 C.2.1 dX12_deals_125 (by decide) (fun c5592 => absurd c5592 (by decide)) (fun _ => ?_)
  refine lv_aload_n C.1 C.2.1 dX12_deals_128 rfl (lv_at hl 6 rfl) ?_
  refine k_get C Wd KX12 0 55 rfl (by decide) fl_X12_87 rfl dX12_deals_129 ?_
  refine lv_iload C.1 C.2.1 dX12_deals_132 (lv_at hl 2 rfl) ?_
  refine k_iald (v := (-1)) C Wd 1 0 rfl rfl (vp_in_iff.mpr (by decide)) rfl dX12_deals_134 ?_
  refine lv_iconst (v := (-1)) C.1 C.2.1 dX12_deals_135 (by decide) ?_
  refine lv_icmp_eq (tgt := 171) C.1 C.2.1 dX12_deals_136 (by decide) (fun _ => ?_) (fun c5593 => absurd c5593 (by decide))
  refine lv_iconst (v := 1) C.1 C.2.1 dX12_deals_171 (by decide) ?_
  refine lv_goto (tgt := 176) C.1 C.2.1 dX12_deals_172 (by decide) ?_
  refine lv_istore (lv' := [(6, .int 1), (8, .int 3), (7, .int 5), (5, .int 0), (4, .int 0), (3, .int 1), (0, .ref h0), (1, .int 0), (2, .int x0)]) C.1 C.2.1 dX12_deals_176 hl (by decide) rfl (fun ls hl => ?_)
  refine lv_iinc (v := 4) (lv' := [(8, .int 4), (6, .int 1), (7, .int 5), (5, .int 0), (4, .int 0), (3, .int 1), (0, .ref h0), (1, .int 0), (2, .int x0)]) C.1 C.2.1 dX12_deals_178 hl (k := 1) rfl (by decide) (by decide) rfl (fun ls hl => ?_)
  refine lv_goto (tgt := 116) C.1 C.2.1 dX12_deals_181 (by decide) ?_
  refine lv_iload C.1 C.2.1 dX12_deals_116 (lv_at hl 0 rfl) ?_
  refine lv_iload C.1 C.2.1 dX12_deals_118 (lv_at hl 2 rfl) ?_
  refine lv_icmp_ge (tgt := 184) C.1 C.2.1 dX12_deals_120 (by decide) (fun c5594 => absurd c5594 (by decide)) (fun _ => ?_)
  refine lv_iload C.1 C.2.1 dX12_deals_123 (lv_at hl 1 rfl) ?_
  refine lv_if_eq (tgt := 175) C.1 C.2.1 dX12_deals_125 (by decide) (fun c5595 => absurd c5595 (by decide)) (fun _ => ?_)
  refine lv_aload_n C.1 C.2.1 dX12_deals_128 rfl (lv_at hl 6 rfl) ?_
  refine k_get C Wd KX12 0 55 rfl (by decide) fl_X12_87 rfl dX12_deals_129 ?_
  refine lv_iload C.1 C.2.1 dX12_deals_132 (lv_at hl 2 rfl) ?_
  refine k_iald (v := (-1)) C Wd 1 0 rfl rfl (vp_in_iff.mpr (by decide)) rfl dX12_deals_134 ?_
  refine lv_iconst (v := (-1)) C.1 C.2.1 dX12_deals_135 (by decide) ?_
  refine lv_icmp_eq (tgt := 171) C.1 C.2.1 dX12_deals_136 (by decide) (fun _ => ?_) (fun c5596 => absurd c5596 (by decide))
  refine lv_iconst (v := 1) C.1 C.2.1 dX12_deals_171 (by decide) ?_
  refine lv_goto (tgt := 176) C.1 C.2.1 dX12_deals_172 (by decide) ?_
  refine lv_istore (lv' := [(6, .int 1), (8, .int 4), (7, .int 5), (5, .int 0), (4, .int 0), (3, .int 1), (0, .ref h0), (1, .int 0), (2, .int x0)]) C.1 C.2.1 dX12_deals_176 hl (by decide) rfl (fun ls hl => ?_)
  refine lv_iinc (v := 5) (lv' := [(8, .int 5), (6, .int 1), (7, .int 5), (5, .int 0), (4, .int 0), (3, .int 1), (0, .ref h0), (1, .int 0), (2, .int x0)]) C.1 C.2.1 dX12_deals_178 hl (k := 1) rfl (by decide) (by decide) rfl (fun ls hl => ?_)
  refine lv_goto (tgt := 116) C.1 C.2.1 dX12_deals_181 (by decide) ?_
  refine lv_iload C.1 C.2.1 dX12_deals_116 (lv_at hl 0 rfl) ?_
  refine lv_iload C.1 C.2.1 dX12_deals_118 (lv_at hl 2 rfl) ?_
  refine lv_icmp_ge (tgt := 184) C.1 C.2.1 dX12_deals_120 (by decide) (fun _ => ?_) (fun c5597 => absurd c5597 (by decide))
  refine lv_iinc (v := 6) (lv' := [(7, .int 6), (8, .int 5), (6, .int 1), (5, .int 0), (4, .int 0), (3, .int 1), (0, .ref h0), (1, .int 0), (2, .int x0)]) C.1 C.2.1 dX12_deals_184 hl (k := 2) rfl (by decide) (by decide) rfl (fun ls hl => ?_)
  refine lv_goto (tgt := 106) C.1 C.2.1 dX12_deals_187 (by decide) ?_
  refine lv_iload C.1 C.2.1 dX12_deals_106 (lv_at hl 0 rfl) ?_
  refine lv_bipush (v := 6) C.1 C.2.1 dX12_deals_108 (by decide) ?_
  refine lv_icmp_ge (tgt := 190) C.1 C.2.1 dX12_deals_110 (by decide) (fun _ => ?_) (fun c5598 => absurd c5598 (by decide))
  refine lv_iload C.1 C.2.1 dX12_deals_190 (lv_at hl 2 rfl) ?_
  refine lv_if_eq (tgt := 197) C.1 C.2.1 dX12_deals_192 (by decide) (fun c5599 => absurd c5599 (by decide)) (fun _ => ?_)
  refine lv_iconst (v := 1) C.1 C.2.1 dX12_deals_195 (by decide) ?_
  exact k_zret C hr hlk rfl Wd () rfl [0, 1] rfl (by decide) [] rfl (by decide) (by decide) dX12_deals_196
set_option maxHeartbeats 4000000 in
set_option maxRecDepth 100000 in
theorem kcX12_spills (l : Launch) (D : va_G) (h0 h1 h2 h3 h4 h5 h6 h7 h8 h9 h10 h11 h12 h13 h14 h15 h16 h17 h18 h19 h20 h21 h22 h23 h24 h25 : Nat) (x0 : Int32) (a24 : ClassId) (sz : Nat)  : Met l yX12_spills (Cond.code yX12_spills cX12_spills 5 (some .int) :: gG) { frames := 2, cells := 0, slots := 0, locals := 92 } (cPre D [(a24, .int)] [(h0, .inr (12, [.ref h1, .ref h2, .ref h3, .ref h4, .int 0, .int 0, .ref h5, .int 0, .int 0, .int 0, .int 0, .int 0, .int 0, .int 0, .int 0, .int 0, .int 0, .int 0, .int 0, .int 0, .int (-1), .int 0, .int 0, .int 0, .ref h6, .ref h7, .ref h8, .ref h9, .ref h10, .ref h11, .int 0, .int 0, .int 0, .int 0, .ref h12, .ref h13, .ref h14, .int 0, .int 0, .int 0, .int 0, .ref h15, .ref h16, .int 0, .ref h17, .ref h18, .int 0, .ref h19, .int 0, .ref h20, .ref h21, .ref h22, .int 0, .ref h23, .ref h24, .ref h25])), (h25, .inl (a24, 6, .inl (fun _ => 0)))] sz [.ref h0, .int 0, .int x0]) (va_Qi (fun (r : Int32) (_ : Unit) => r = 0) (fun u t => cB D (va_A [(h0, .inr (12, [.ref h1, .ref h2, .ref h3, .ref h4, .int 0, .int 0, .ref h5, .int 0, .int 0, .int 0, .int 0, .int 0, .int 0, .int 0, .int 0, .int 0, .int 0, .int 0, .int 0, .int 0, .int (-1), .int 0, .int 0, .int 0, .ref h6, .ref h7, .ref h8, .ref h9, .ref h10, .ref h11, .int 0, .int 0, .int 0, .int 0, .ref h12, .ref h13, .ref h14, .int 0, .int 0, .int 0, .int 0, .ref h15, .ref h16, .int 0, .ref h17, .ref h18, .int 0, .ref h19, .int 0, .ref h20, .ref h21, .ref h22, .int 0, .ref h23, .ref h24, .ref h25])), (h25, .inl (a24, 6, .inl (fun _ => 0)))] sz) ((fun (_ : Unit) => ([] : List (ClassId × FieldType))) u) ((fun (_ : Unit) => ([(h0, .inr (12, [.ref h1, .ref h2, .ref h3, .ref h4, .int 0, .int 0, .ref h5, .int 0, .int 0, .int 0, .int 0, .int 0, .int 0, .int 0, .int 0, .int 0, .int 0, .int 0, .int 0, .int 0, .int (-1), .int 0, .int 0, .int 0, .ref h6, .ref h7, .ref h8, .ref h9, .ref h10, .ref h11, .int 0, .int 0, .int 0, .int 0, .ref h12, .ref h13, .ref h14, .int 0, .int 0, .int 0, .int 0, .ref h15, .ref h16, .int 0, .ref h17, .ref h18, .int 0, .ref h19, .int 0, .ref h20, .ref h21, .ref h22, .int 0, .ref h23, .ref h24, .ref h25])), (h25, .inl (a24, 6, .inl (upd (upd (upd (upd (upd (upd (fun _ => 0) 5 (-1)) 4 (-1)) 3 (-1)) 2 (-1)) 1 (-1)) 0 (-1))))] : va_W)) u) t) (va_A [(h0, .inr (12, [.ref h1, .ref h2, .ref h3, .ref h4, .int 0, .int 0, .ref h5, .int 0, .int 0, .int 0, .int 0, .int 0, .int 0, .int 0, .int 0, .int 0, .int 0, .int 0, .int 0, .int 0, .int (-1), .int 0, .int 0, .int 0, .ref h6, .ref h7, .ref h8, .ref h9, .ref h10, .ref h11, .int 0, .int 0, .int 0, .int 0, .ref h12, .ref h13, .ref h14, .int 0, .int 0, .int 0, .int 0, .ref h15, .ref h16, .int 0, .ref h17, .ref h18, .int 0, .ref h19, .int 0, .ref h20, .ref h21, .ref h22, .int 0, .ref h23, .ref h24, .ref h25])), (h25, .inl (a24, 6, .inl (fun _ => 0)))] sz)) 0 0 (va_A [(h0, .inr (12, [.ref h1, .ref h2, .ref h3, .ref h4, .int 0, .int 0, .ref h5, .int 0, .int 0, .int 0, .int 0, .int 0, .int 0, .int 0, .int 0, .int 0, .int 0, .int 0, .int 0, .int 0, .int (-1), .int 0, .int 0, .int 0, .ref h6, .ref h7, .ref h8, .ref h9, .ref h10, .ref h11, .int 0, .int 0, .int 0, .int 0, .ref h12, .ref h13, .ref h14, .int 0, .int 0, .int 0, .int 0, .ref h15, .ref h16, .int 0, .ref h17, .ref h18, .int 0, .ref h19, .int 0, .ref h20, .ref h21, .ref h22, .int 0, .ref h23, .ref h24, .ref h25])), (h25, .inl (a24, 6, .inl (fun _ => 0)))] sz) := by
  refine Met.ofW (cc := cX12_spills) (maxL := 5) (ret := (some .int)) (by decide) rfl ?_
  intro p e s m args below meth c s₁ B hml hv
  obtain ⟨rfl, aks, rfl, Wd⟩ := k_enter hv
  have C : CallFix p m c cX12_spills 5 s _ gG RX12 := ⟨B.exec, B.bytes, hml, findClass_of_methodNamed B.named, fun w h => atoms_spec (ws := Cond.code yX12_spills cX12_spills 5 (some .int) :: gG) B.pre w (List.mem_cons_of_mem _ h)⟩
  have hr := B.returns
  have hlk := B.notSynchronized
  generalize va_A [(h0, .inr (12, [.ref h1, .ref h2, .ref h3, .ref h4, .int 0, .int 0, .ref h5, .int 0, .int 0, .int 0, .int 0, .int 0, .int 0, .int 0, .int 0, .int 0, .int 0, .int 0, .int 0, .int 0, .int (-1), .int 0, .int 0, .int 0, .ref h6, .ref h7, .ref h8, .ref h9, .ref h10, .ref h11, .int 0, .int 0, .int 0, .int 0, .ref h12, .ref h13, .ref h14, .int 0, .int 0, .int 0, .int 0, .ref h15, .ref h16, .int 0, .ref h17, .ref h18, .int 0, .ref h19, .int 0, .ref h20, .ref h21, .ref h22, .int 0, .ref h23, .ref h24, .ref h25])), (h25, .inl (a24, 6, .inl (fun _ => 0)))] s.heap.size = A at Wd ⊢
  refine k_locals (Nat.le_of_ble_eq_true rfl) [(0, .ref h0), (1, .int 0), (2, .int x0)] rfl (fun ls hl => ?_)
  refine lv_iconst (v := (-1)) C.1 C.2.1 dX12_spills_0 (by decide) ?_
  refine lv_istore_n (lv' := [(3, .int (-1)), (0, .ref h0), (1, .int 0), (2, .int x0)]) C.1 C.2.1 dX12_spills_1 rfl hl (by decide) rfl (fun ls hl => ?_)
  refine lv_iconst (v := 0) C.1 C.2.1 dX12_spills_2 (by decide) ?_
  refine lv_istore (lv' := [(4, .int 0), (3, .int (-1)), (0, .ref h0), (1, .int 0), (2, .int x0)]) C.1 C.2.1 dX12_spills_3 hl (by decide) rfl (fun ls hl => ?_)
  refine lv_iload C.1 C.2.1 dX12_spills_5 (lv_at hl 0 rfl) ?_
  refine lv_bipush (v := 64) C.1 C.2.1 dX12_spills_7 (by decide) ?_
  refine lv_icmp_ge (tgt := 63) C.1 C.2.1 dX12_spills_9 (by decide) (fun c5729 => absurd c5729 (by decide)) (fun _ => ?_)
  refine lv_iload C.1 C.2.1 dX12_spills_12 (lv_at hl 0 rfl) ?_
  refine lv_iload_n C.1 C.2.1 dX12_spills_14 rfl (lv_at hl 3 rfl) ?_
  refine lv_iconst (v := (-1)) C.1 C.2.1 dX12_spills_15 (by decide) ?_
  refine k_ixor (v := (-1)) C (by decide) dX12_spills_16 ?_
  refine k_iand (v := 0) C (by decide) dX12_spills_17 ?_
  refine lv_if_ne (tgt := 57) C.1 C.2.1 dX12_spills_18 (by decide) (fun c5730 => absurd c5730 (by decide)) (fun _ => ?_)
  refine lv_iload_n C.1 C.2.1 dX12_spills_21 rfl (lv_at hl 1 rfl) ?_
  refine lv_iconst (v := (-1)) C.1 C.2.1 dX12_spills_22 (by decide) ?_
  refine lv_icmp_eq (tgt := 40) C.1 C.2.1 dX12_spills_23 (by decide) (fun _ => ?_) (fun c5731 => absurd c5731 (by decide))
  refine lv_aload_n C.1 C.2.1 dX12_spills_40 rfl (lv_at hl 2 rfl) ?_
  refine lv_iload_n C.1 C.2.1 dX12_spills_41 rfl (lv_at hl 3 rfl) ?_
  refine lv_iload C.1 C.2.1 dX12_spills_42 (lv_at hl 0 rfl) ?_
  refine lv_iconst (v := (-1)) C.1 C.2.1 dX12_spills_44 (by decide) ?_
  refine k_ixor (v := (-1)) C (by decide) dX12_spills_45 ?_
  refine k_iand (v := 0) C (by decide) dX12_spills_46 ?_
  refine lv_iload_n C.1 C.2.1 dX12_spills_47 rfl (lv_at hl 4 rfl) ?_
  refine k_ci Wd [0, 1] [] rfl (wr := []) rfl (by decide) (by decide) (cells' := 0) (slots' := 0) (by decide) (by decide) (k_runV (rest := []) C aks Wd cs_X12_466 (kcX12_deals_v1 l D h0 h1 h2 h3 h4 h5 h6 h7 h8 h9 h10 h11 h12 h13 h14 h15 h16 h17 h18 h19 h20 h21 h22 h23 h24 h25 x0 a24 _ ) [0, 1] rfl (by decide) [0] rfl 0 12 rfl rfl rfl rfl rfl ⟨(Nat.le_of_ble_eq_true rfl), (Nat.le_of_ble_eq_true rfl)⟩ hl.1 rfl rfl (Nat.le_of_ble_eq_true rfl) ⟨(Nat.le_of_ble_eq_true rfl), (Nat.le_of_ble_eq_true rfl)⟩ dX12_spills_48) (fun r _ H locs w5732 Wd => ?_)
  have Wd : wX D [(a24, .int)] s [(h0, .inr (12, [.ref h1, .ref h2, .ref h3, .ref h4, .int 0, .int 0, .ref h5, .int 0, .int 0, .int 0, .int 0, .int 0, .int 0, .int 0, .int 0, .int 0, .int 0, .int 0, .int 0, .int 0, .int (-1), .int 0, .int 0, .int 0, .ref h6, .ref h7, .ref h8, .ref h9, .ref h10, .ref h11, .int 0, .int 0, .int 0, .int 0, .ref h12, .ref h13, .ref h14, .int 0, .int 0, .int 0, .int 0, .ref h15, .ref h16, .int 0, .ref h17, .ref h18, .int 0, .ref h19, .int 0, .ref h20, .ref h21, .ref h22, .int 0, .ref h23, .ref h24, .ref h25])), (h25, .inl (a24, 6, .inl (upd (upd (upd (upd (upd (upd (fun _ => 0) 5 (-1)) 4 (-1)) 3 (-1)) 2 (-1)) 1 (-1)) 0 (-1))))] _ A s.heap _ := Wd
  obtain rfl := w5732
  refine lv_if_eq (tgt := 57) C.1 C.2.1 dX12_spills_51 (by decide) (fun c5733 => absurd c5733 (by decide)) (fun _ => ?_)
  refine lv_iload C.1 C.2.1 dX12_spills_54 (lv_at hl 0 rfl) ?_
  refine lv_istore_n (lv' := [(3, .int 0), (4, .int 0), (0, .ref h0), (1, .int 0), (2, .int x0)]) C.1 C.2.1 dX12_spills_56 rfl hl (by decide) rfl (fun ls hl => ?_)
  refine lv_iinc (v := 1) (lv' := [(4, .int 1), (3, .int 0), (0, .ref h0), (1, .int 0), (2, .int x0)]) C.1 C.2.1 dX12_spills_57 hl (k := 1) rfl (by decide) (by decide) rfl (fun ls hl => ?_)
  refine lv_goto (tgt := 5) C.1 C.2.1 dX12_spills_60 (by decide) ?_
  refine lv_iload C.1 C.2.1 dX12_spills_5 (lv_at hl 0 rfl) ?_
  refine lv_bipush (v := 64) C.1 C.2.1 dX12_spills_7 (by decide) ?_
  refine lv_icmp_ge (tgt := 63) C.1 C.2.1 dX12_spills_9 (by decide) (fun c5734 => absurd c5734 (by decide)) (fun _ => ?_)
  refine lv_iload C.1 C.2.1 dX12_spills_12 (lv_at hl 0 rfl) ?_
  refine lv_iload_n C.1 C.2.1 dX12_spills_14 rfl (lv_at hl 3 rfl) ?_
  refine lv_iconst (v := (-1)) C.1 C.2.1 dX12_spills_15 (by decide) ?_
  refine k_ixor (v := (-1)) C (by decide) dX12_spills_16 ?_
  refine k_iand (v := 1) C (by decide) dX12_spills_17 ?_
  refine lv_if_ne (tgt := 57) C.1 C.2.1 dX12_spills_18 (by decide) (fun _ => ?_) (fun c5735 => absurd c5735 (by decide))
  refine lv_iinc (v := 2) (lv' := [(4, .int 2), (3, .int 0), (0, .ref h0), (1, .int 0), (2, .int x0)]) C.1 C.2.1 dX12_spills_57 hl (k := 0) rfl (by decide) (by decide) rfl (fun ls hl => ?_)
  refine lv_goto (tgt := 5) C.1 C.2.1 dX12_spills_60 (by decide) ?_
  refine lv_iload C.1 C.2.1 dX12_spills_5 (lv_at hl 0 rfl) ?_
  refine lv_bipush (v := 64) C.1 C.2.1 dX12_spills_7 (by decide) ?_
  refine lv_icmp_ge (tgt := 63) C.1 C.2.1 dX12_spills_9 (by decide) (fun c5736 => absurd c5736 (by decide)) (fun _ => ?_)
  refine lv_iload C.1 C.2.1 dX12_spills_12 (lv_at hl 0 rfl) ?_
  refine lv_iload_n C.1 C.2.1 dX12_spills_14 rfl (lv_at hl 3 rfl) ?_
  refine lv_iconst (v := (-1)) C.1 C.2.1 dX12_spills_15 (by decide) ?_
  refine k_ixor (v := (-1)) C (by decide) dX12_spills_16 ?_
  refine k_iand (v := 2) C (by decide) dX12_spills_17 ?_
  refine lv_if_ne (tgt := 57) C.1 C.2.1 dX12_spills_18 (by decide) (fun _ => ?_) (fun c5737 => absurd c5737 (by decide))
  refine lv_iinc (v := 3) (lv' := [(4, .int 3), (3, .int 0), (0, .ref h0), (1, .int 0), (2, .int x0)]) C.1 C.2.1 dX12_spills_57 hl (k := 0) rfl (by decide) (by decide) rfl (fun ls hl => ?_)
  refine lv_goto (tgt := 5) C.1 C.2.1 dX12_spills_60 (by decide) ?_
  refine lv_iload C.1 C.2.1 dX12_spills_5 (lv_at hl 0 rfl) ?_
  refine lv_bipush (v := 64) C.1 C.2.1 dX12_spills_7 (by decide) ?_
  refine lv_icmp_ge (tgt := 63) C.1 C.2.1 dX12_spills_9 (by decide) (fun c5738 => absurd c5738 (by decide)) (fun _ => ?_)
  refine lv_iload C.1 C.2.1 dX12_spills_12 (lv_at hl 0 rfl) ?_
  refine lv_iload_n C.1 C.2.1 dX12_spills_14 rfl (lv_at hl 3 rfl) ?_
  refine lv_iconst (v := (-1)) C.1 C.2.1 dX12_spills_15 (by decide) ?_
  refine k_ixor (v := (-1)) C (by decide) dX12_spills_16 ?_
  refine k_iand (v := 3) C (by decide) dX12_spills_17 ?_
  refine lv_if_ne (tgt := 57) C.1 C.2.1 dX12_spills_18 (by decide) (fun _ => ?_) (fun c5739 => absurd c5739 (by decide))
  refine lv_iinc (v := 4) (lv' := [(4, .int 4), (3, .int 0), (0, .ref h0), (1, .int 0), (2, .int x0)]) C.1 C.2.1 dX12_spills_57 hl (k := 0) rfl (by decide) (by decide) rfl (fun ls hl => ?_)
  refine lv_goto (tgt := 5) C.1 C.2.1 dX12_spills_60 (by decide) ?_
  refine lv_iload C.1 C.2.1 dX12_spills_5 (lv_at hl 0 rfl) ?_
  refine lv_bipush (v := 64) C.1 C.2.1 dX12_spills_7 (by decide) ?_
  refine lv_icmp_ge (tgt := 63) C.1 C.2.1 dX12_spills_9 (by decide) (fun c5740 => absurd c5740 (by decide)) (fun _ => ?_)
  refine lv_iload C.1 C.2.1 dX12_spills_12 (lv_at hl 0 rfl) ?_
  refine lv_iload_n C.1 C.2.1 dX12_spills_14 rfl (lv_at hl 3 rfl) ?_
  refine lv_iconst (v := (-1)) C.1 C.2.1 dX12_spills_15 (by decide) ?_
  refine k_ixor (v := (-1)) C (by decide) dX12_spills_16 ?_
  refine k_iand (v := 4) C (by decide) dX12_spills_17 ?_
  refine lv_if_ne (tgt := 57) C.1 C.2.1 dX12_spills_18 (by decide) (fun _ => ?_) (fun c5741 => absurd c5741 (by decide))
  refine lv_iinc (v := 5) (lv' := [(4, .int 5), (3, .int 0), (0, .ref h0), (1, .int 0), (2, .int x0)]) C.1 C.2.1 dX12_spills_57 hl (k := 0) rfl (by decide) (by decide) rfl (fun ls hl => ?_)
  refine lv_goto (tgt := 5) C.1 C.2.1 dX12_spills_60 (by decide) ?_
  refine lv_iload C.1 C.2.1 dX12_spills_5 (lv_at hl 0 rfl) ?_
  refine lv_bipush (v := 64) C.1 C.2.1 dX12_spills_7 (by decide) ?_
  refine lv_icmp_ge (tgt := 63) C.1 C.2.1 dX12_spills_9 (by decide) (fun c5742 => absurd c5742 (by decide)) (fun _ => ?_)
  refine lv_iload C.1 C.2.1 dX12_spills_12 (lv_at hl 0 rfl) ?_
  refine lv_iload_n C.1 C.2.1 dX12_spills_14 rfl (lv_at hl 3 rfl) ?_
  refine lv_iconst (v := (-1)) C.1 C.2.1 dX12_spills_15 (by decide) ?_
  refine k_ixor (v := (-1)) C (by decide) dX12_spills_16 ?_
  refine k_iand (v := 5) C (by decide) dX12_spills_17 ?_
  refine lv_if_ne (tgt := 57) C.1 C.2.1 dX12_spills_18 (by decide) (fun _ => ?_) (fun c5743 => absurd c5743 (by decide))
  refine lv_iinc (v := 6) (lv' := [(4, .int 6), (3, .int 0), (0, .ref h0), (1, .int 0), (2, .int x0)]) C.1 C.2.1 dX12_spills_57 hl (k := 0) rfl (by decide) (by decide) rfl (fun ls hl => ?_)
  refine lv_goto (tgt := 5) C.1 C.2.1 dX12_spills_60 (by decide) ?_
  refine lv_iload C.1 C.2.1 dX12_spills_5 (lv_at hl 0 rfl) ?_
  refine lv_bipush (v := 64) C.1 C.2.1 dX12_spills_7 (by decide) ?_
  refine lv_icmp_ge (tgt := 63) C.1 C.2.1 dX12_spills_9 (by decide) (fun c5744 => absurd c5744 (by decide)) (fun _ => ?_)
  refine lv_iload C.1 C.2.1 dX12_spills_12 (lv_at hl 0 rfl) ?_
  refine lv_iload_n C.1 C.2.1 dX12_spills_14 rfl (lv_at hl 3 rfl) ?_
  refine lv_iconst (v := (-1)) C.1 C.2.1 dX12_spills_15 (by decide) ?_
  refine k_ixor (v := (-1)) C (by decide) dX12_spills_16 ?_
  refine k_iand (v := 6) C (by decide) dX12_spills_17 ?_
  refine lv_if_ne (tgt := 57) C.1 C.2.1 dX12_spills_18 (by decide) (fun _ => ?_) (fun c5745 => absurd c5745 (by decide))
  refine lv_iinc (v := 7) (lv' := [(4, .int 7), (3, .int 0), (0, .ref h0), (1, .int 0), (2, .int x0)]) C.1 C.2.1 dX12_spills_57 hl (k := 0) rfl (by decide) (by decide) rfl (fun ls hl => ?_)
  refine lv_goto (tgt := 5) C.1 C.2.1 dX12_spills_60 (by decide) ?_
  refine lv_iload C.1 C.2.1 dX12_spills_5 (lv_at hl 0 rfl) ?_
  refine lv_bipush (v := 64) C.1 C.2.1 dX12_spills_7 (by decide) ?_
  refine lv_icmp_ge (tgt := 63) C.1 C.2.1 dX12_spills_9 (by decide) (fun c5746 => absurd c5746 (by decide)) (fun _ => ?_)
  refine lv_iload C.1 C.2.1 dX12_spills_12 (lv_at hl 0 rfl) ?_
  refine lv_iload_n C.1 C.2.1 dX12_spills_14 rfl (lv_at hl 3 rfl) ?_
  refine lv_iconst (v := (-1)) C.1 C.2.1 dX12_spills_15 (by decide) ?_
  refine k_ixor (v := (-1)) C (by decide) dX12_spills_16 ?_
  refine k_iand (v := 7) C (by decide) dX12_spills_17 ?_
  refine lv_if_ne (tgt := 57) C.1 C.2.1 dX12_spills_18 (by decide) (fun _ => ?_) (fun c5747 => absurd c5747 (by decide))
  refine lv_iinc (v := 8) (lv' := [(4, .int 8), (3, .int 0), (0, .ref h0), (1, .int 0), (2, .int x0)]) C.1 C.2.1 dX12_spills_57 hl (k := 0) rfl (by decide) (by decide) rfl (fun ls hl => ?_)
  refine lv_goto (tgt := 5) C.1 C.2.1 dX12_spills_60 (by decide) ?_
  refine lv_iload C.1 C.2.1 dX12_spills_5 (lv_at hl 0 rfl) ?_
  refine lv_bipush (v := 64) C.1 C.2.1 dX12_spills_7 (by decide) ?_
  refine lv_icmp_ge (tgt := 63) C.1 C.2.1 dX12_spills_9 (by decide) (fun c5748 => absurd c5748 (by decide)) (fun _ => ?_)
  refine lv_iload C.1 C.2.1 dX12_spills_12 (lv_at hl 0 rfl) ?_
  refine lv_iload_n C.1 C.2.1 dX12_spills_14 rfl (lv_at hl 3 rfl) ?_
  refine lv_iconst (v := (-1)) C.1 C.2.1 dX12_spills_15 (by decide) ?_
  refine k_ixor (v := (-1)) C (by decide) dX12_spills_16 ?_
  refine k_iand (v := 8) C (by decide) dX12_spills_17 ?_
  refine lv_if_ne (tgt := 57) C.1 C.2.1 dX12_spills_18 (by decide) (fun _ => ?_) (fun c5749 => absurd c5749 (by decide))
  refine lv_iinc (v := 9) (lv' := [(4, .int 9), (3, .int 0), (0, .ref h0), (1, .int 0), (2, .int x0)]) C.1 C.2.1 dX12_spills_57 hl (k := 0) rfl (by decide) (by decide) rfl (fun ls hl => ?_)
  refine lv_goto (tgt := 5) C.1 C.2.1 dX12_spills_60 (by decide) ?_
  refine lv_iload C.1 C.2.1 dX12_spills_5 (lv_at hl 0 rfl) ?_
  refine lv_bipush (v := 64) C.1 C.2.1 dX12_spills_7 (by decide) ?_
  refine lv_icmp_ge (tgt := 63) C.1 C.2.1 dX12_spills_9 (by decide) (fun c5750 => absurd c5750 (by decide)) (fun _ => ?_)
  refine lv_iload C.1 C.2.1 dX12_spills_12 (lv_at hl 0 rfl) ?_
  refine lv_iload_n C.1 C.2.1 dX12_spills_14 rfl (lv_at hl 3 rfl) ?_
  refine lv_iconst (v := (-1)) C.1 C.2.1 dX12_spills_15 (by decide) ?_
  refine k_ixor (v := (-1)) C (by decide) dX12_spills_16 ?_
  refine k_iand (v := 9) C (by decide) dX12_spills_17 ?_
  refine lv_if_ne (tgt := 57) C.1 C.2.1 dX12_spills_18 (by decide) (fun _ => ?_) (fun c5751 => absurd c5751 (by decide))
  refine lv_iinc (v := 10) (lv' := [(4, .int 10), (3, .int 0), (0, .ref h0), (1, .int 0), (2, .int x0)]) C.1 C.2.1 dX12_spills_57 hl (k := 0) rfl (by decide) (by decide) rfl (fun ls hl => ?_)
  refine lv_goto (tgt := 5) C.1 C.2.1 dX12_spills_60 (by decide) ?_
  refine lv_iload C.1 C.2.1 dX12_spills_5 (lv_at hl 0 rfl) ?_
  refine lv_bipush (v := 64) C.1 C.2.1 dX12_spills_7 (by decide) ?_
  refine lv_icmp_ge (tgt := 63) C.1 C.2.1 dX12_spills_9 (by decide) (fun c5752 => absurd c5752 (by decide)) (fun _ => ?_)
  refine lv_iload C.1 C.2.1 dX12_spills_12 (lv_at hl 0 rfl) ?_
  refine lv_iload_n C.1 C.2.1 dX12_spills_14 rfl (lv_at hl 3 rfl) ?_
  refine lv_iconst (v := (-1)) C.1 C.2.1 dX12_spills_15 (by decide) ?_
  refine k_ixor (v := (-1)) C (by decide) dX12_spills_16 ?_
  refine k_iand (v := 10) C (by decide) dX12_spills_17 ?_
  refine lv_if_ne (tgt := 57) C.1 C.2.1 dX12_spills_18 (by decide) (fun _ => ?_) (fun c5753 => absurd c5753 (by decide))
  refine lv_iinc (v := 11) (lv' := [(4, .int 11), (3, .int 0), (0, .ref h0), (1, .int 0), (2, .int x0)]) C.1 C.2.1 dX12_spills_57 hl (k := 0) rfl (by decide) (by decide) rfl (fun ls hl => ?_)
  refine lv_goto (tgt := 5) C.1 C.2.1 dX12_spills_60 (by decide) ?_
  refine lv_iload C.1 C.2.1 dX12_spills_5 (lv_at hl 0 rfl) ?_
  refine lv_bipush (v := 64) C.1 C.2.1 dX12_spills_7 (by decide) ?_
  refine lv_icmp_ge (tgt := 63) C.1 C.2.1 dX12_spills_9 (by decide) (fun c5754 => absurd c5754 (by decide)) (fun _ => ?_)
  refine lv_iload C.1 C.2.1 dX12_spills_12 (lv_at hl 0 rfl) ?_
  refine lv_iload_n C.1 C.2.1 dX12_spills_14 rfl (lv_at hl 3 rfl) ?_
  refine lv_iconst (v := (-1)) C.1 C.2.1 dX12_spills_15 (by decide) ?_
  refine k_ixor (v := (-1)) C (by decide) dX12_spills_16 ?_
  refine k_iand (v := 11) C (by decide) dX12_spills_17 ?_
  refine lv_if_ne (tgt := 57) C.1 C.2.1 dX12_spills_18 (by decide) (fun _ => ?_) (fun c5755 => absurd c5755 (by decide))
  refine lv_iinc (v := 12) (lv' := [(4, .int 12), (3, .int 0), (0, .ref h0), (1, .int 0), (2, .int x0)]) C.1 C.2.1 dX12_spills_57 hl (k := 0) rfl (by decide) (by decide) rfl (fun ls hl => ?_)
  refine lv_goto (tgt := 5) C.1 C.2.1 dX12_spills_60 (by decide) ?_
  refine lv_iload C.1 C.2.1 dX12_spills_5 (lv_at hl 0 rfl) ?_
  refine lv_bipush (v := 64) C.1 C.2.1 dX12_spills_7 (by decide) ?_
  refine lv_icmp_ge (tgt := 63) C.1 C.2.1 dX12_spills_9 (by decide) (fun c5756 => absurd c5756 (by decide)) (fun _ => ?_)
  refine lv_iload C.1 C.2.1 dX12_spills_12 (lv_at hl 0 rfl) ?_
  refine lv_iload_n C.1 C.2.1 dX12_spills_14 rfl (lv_at hl 3 rfl) ?_
  refine lv_iconst (v := (-1)) C.1 C.2.1 dX12_spills_15 (by decide) ?_
  refine k_ixor (v := (-1)) C (by decide) dX12_spills_16 ?_
  refine k_iand (v := 12) C (by decide) dX12_spills_17 ?_
  refine lv_if_ne (tgt := 57) C.1 C.2.1 dX12_spills_18 (by decide) (fun _ => ?_) (fun c5757 => absurd c5757 (by decide))
  refine lv_iinc (v := 13) (lv' := [(4, .int 13), (3, .int 0), (0, .ref h0), (1, .int 0), (2, .int x0)]) C.1 C.2.1 dX12_spills_57 hl (k := 0) rfl (by decide) (by decide) rfl (fun ls hl => ?_)
  refine lv_goto (tgt := 5) C.1 C.2.1 dX12_spills_60 (by decide) ?_
  refine lv_iload C.1 C.2.1 dX12_spills_5 (lv_at hl 0 rfl) ?_
  refine lv_bipush (v := 64) C.1 C.2.1 dX12_spills_7 (by decide) ?_
  refine lv_icmp_ge (tgt := 63) C.1 C.2.1 dX12_spills_9 (by decide) (fun c5758 => absurd c5758 (by decide)) (fun _ => ?_)
  refine lv_iload C.1 C.2.1 dX12_spills_12 (lv_at hl 0 rfl) ?_
  refine lv_iload_n C.1 C.2.1 dX12_spills_14 rfl (lv_at hl 3 rfl) ?_
  refine lv_iconst (v := (-1)) C.1 C.2.1 dX12_spills_15 (by decide) ?_
  refine k_ixor (v := (-1)) C (by decide) dX12_spills_16 ?_
  refine k_iand (v := 13) C (by decide) dX12_spills_17 ?_
  refine lv_if_ne (tgt := 57) C.1 C.2.1 dX12_spills_18 (by decide) (fun _ => ?_) (fun c5759 => absurd c5759 (by decide))
  refine lv_iinc (v := 14) (lv' := [(4, .int 14), (3, .int 0), (0, .ref h0), (1, .int 0), (2, .int x0)]) C.1 C.2.1 dX12_spills_57 hl (k := 0) rfl (by decide) (by decide) rfl (fun ls hl => ?_)
  refine lv_goto (tgt := 5) C.1 C.2.1 dX12_spills_60 (by decide) ?_
  refine lv_iload C.1 C.2.1 dX12_spills_5 (lv_at hl 0 rfl) ?_
  refine lv_bipush (v := 64) C.1 C.2.1 dX12_spills_7 (by decide) ?_
  refine lv_icmp_ge (tgt := 63) C.1 C.2.1 dX12_spills_9 (by decide) (fun c5760 => absurd c5760 (by decide)) (fun _ => ?_)
  refine lv_iload C.1 C.2.1 dX12_spills_12 (lv_at hl 0 rfl) ?_
  refine lv_iload_n C.1 C.2.1 dX12_spills_14 rfl (lv_at hl 3 rfl) ?_
  refine lv_iconst (v := (-1)) C.1 C.2.1 dX12_spills_15 (by decide) ?_
  refine k_ixor (v := (-1)) C (by decide) dX12_spills_16 ?_
  refine k_iand (v := 14) C (by decide) dX12_spills_17 ?_
  refine lv_if_ne (tgt := 57) C.1 C.2.1 dX12_spills_18 (by decide) (fun _ => ?_) (fun c5761 => absurd c5761 (by decide))
  refine lv_iinc (v := 15) (lv' := [(4, .int 15), (3, .int 0), (0, .ref h0), (1, .int 0), (2, .int x0)]) C.1 C.2.1 dX12_spills_57 hl (k := 0) rfl (by decide) (by decide) rfl (fun ls hl => ?_)
  refine lv_goto (tgt := 5) C.1 C.2.1 dX12_spills_60 (by decide) ?_
  refine lv_iload C.1 C.2.1 dX12_spills_5 (lv_at hl 0 rfl) ?_
  refine lv_bipush (v := 64) C.1 C.2.1 dX12_spills_7 (by decide) ?_
  refine lv_icmp_ge (tgt := 63) C.1 C.2.1 dX12_spills_9 (by decide) (fun c5762 => absurd c5762 (by decide)) (fun _ => ?_)
  refine lv_iload C.1 C.2.1 dX12_spills_12 (lv_at hl 0 rfl) ?_
  refine lv_iload_n C.1 C.2.1 dX12_spills_14 rfl (lv_at hl 3 rfl) ?_
  refine lv_iconst (v := (-1)) C.1 C.2.1 dX12_spills_15 (by decide) ?_
  refine k_ixor (v := (-1)) C (by decide) dX12_spills_16 ?_
  refine k_iand (v := 15) C (by decide) dX12_spills_17 ?_
  refine lv_if_ne (tgt := 57) C.1 C.2.1 dX12_spills_18 (by decide) (fun _ => ?_) (fun c5763 => absurd c5763 (by decide))
  refine lv_iinc (v := 16) (lv' := [(4, .int 16), (3, .int 0), (0, .ref h0), (1, .int 0), (2, .int x0)]) C.1 C.2.1 dX12_spills_57 hl (k := 0) rfl (by decide) (by decide) rfl (fun ls hl => ?_)
  refine lv_goto (tgt := 5) C.1 C.2.1 dX12_spills_60 (by decide) ?_
  refine lv_iload C.1 C.2.1 dX12_spills_5 (lv_at hl 0 rfl) ?_
  refine lv_bipush (v := 64) C.1 C.2.1 dX12_spills_7 (by decide) ?_
  refine lv_icmp_ge (tgt := 63) C.1 C.2.1 dX12_spills_9 (by decide) (fun c5764 => absurd c5764 (by decide)) (fun _ => ?_)
  refine lv_iload C.1 C.2.1 dX12_spills_12 (lv_at hl 0 rfl) ?_
  refine lv_iload_n C.1 C.2.1 dX12_spills_14 rfl (lv_at hl 3 rfl) ?_
  refine lv_iconst (v := (-1)) C.1 C.2.1 dX12_spills_15 (by decide) ?_
  refine k_ixor (v := (-1)) C (by decide) dX12_spills_16 ?_
  refine k_iand (v := 16) C (by decide) dX12_spills_17 ?_
  refine lv_if_ne (tgt := 57) C.1 C.2.1 dX12_spills_18 (by decide) (fun _ => ?_) (fun c5765 => absurd c5765 (by decide))
  refine lv_iinc (v := 17) (lv' := [(4, .int 17), (3, .int 0), (0, .ref h0), (1, .int 0), (2, .int x0)]) C.1 C.2.1 dX12_spills_57 hl (k := 0) rfl (by decide) (by decide) rfl (fun ls hl => ?_)
  refine lv_goto (tgt := 5) C.1 C.2.1 dX12_spills_60 (by decide) ?_
  refine lv_iload C.1 C.2.1 dX12_spills_5 (lv_at hl 0 rfl) ?_
  refine lv_bipush (v := 64) C.1 C.2.1 dX12_spills_7 (by decide) ?_
  refine lv_icmp_ge (tgt := 63) C.1 C.2.1 dX12_spills_9 (by decide) (fun c5766 => absurd c5766 (by decide)) (fun _ => ?_)
  refine lv_iload C.1 C.2.1 dX12_spills_12 (lv_at hl 0 rfl) ?_
  refine lv_iload_n C.1 C.2.1 dX12_spills_14 rfl (lv_at hl 3 rfl) ?_
  refine lv_iconst (v := (-1)) C.1 C.2.1 dX12_spills_15 (by decide) ?_
  refine k_ixor (v := (-1)) C (by decide) dX12_spills_16 ?_
  refine k_iand (v := 17) C (by decide) dX12_spills_17 ?_
  refine lv_if_ne (tgt := 57) C.1 C.2.1 dX12_spills_18 (by decide) (fun _ => ?_) (fun c5767 => absurd c5767 (by decide))
  refine lv_iinc (v := 18) (lv' := [(4, .int 18), (3, .int 0), (0, .ref h0), (1, .int 0), (2, .int x0)]) C.1 C.2.1 dX12_spills_57 hl (k := 0) rfl (by decide) (by decide) rfl (fun ls hl => ?_)
  refine lv_goto (tgt := 5) C.1 C.2.1 dX12_spills_60 (by decide) ?_
  refine lv_iload C.1 C.2.1 dX12_spills_5 (lv_at hl 0 rfl) ?_
  refine lv_bipush (v := 64) C.1 C.2.1 dX12_spills_7 (by decide) ?_
  refine lv_icmp_ge (tgt := 63) C.1 C.2.1 dX12_spills_9 (by decide) (fun c5768 => absurd c5768 (by decide)) (fun _ => ?_)
  refine lv_iload C.1 C.2.1 dX12_spills_12 (lv_at hl 0 rfl) ?_
  refine lv_iload_n C.1 C.2.1 dX12_spills_14 rfl (lv_at hl 3 rfl) ?_
  refine lv_iconst (v := (-1)) C.1 C.2.1 dX12_spills_15 (by decide) ?_
  refine k_ixor (v := (-1)) C (by decide) dX12_spills_16 ?_
  refine k_iand (v := 18) C (by decide) dX12_spills_17 ?_
  refine lv_if_ne (tgt := 57) C.1 C.2.1 dX12_spills_18 (by decide) (fun _ => ?_) (fun c5769 => absurd c5769 (by decide))
  refine lv_iinc (v := 19) (lv' := [(4, .int 19), (3, .int 0), (0, .ref h0), (1, .int 0), (2, .int x0)]) C.1 C.2.1 dX12_spills_57 hl (k := 0) rfl (by decide) (by decide) rfl (fun ls hl => ?_)
  refine lv_goto (tgt := 5) C.1 C.2.1 dX12_spills_60 (by decide) ?_
  refine lv_iload C.1 C.2.1 dX12_spills_5 (lv_at hl 0 rfl) ?_
  refine lv_bipush (v := 64) C.1 C.2.1 dX12_spills_7 (by decide) ?_
  refine lv_icmp_ge (tgt := 63) C.1 C.2.1 dX12_spills_9 (by decide) (fun c5770 => absurd c5770 (by decide)) (fun _ => ?_)
  refine lv_iload C.1 C.2.1 dX12_spills_12 (lv_at hl 0 rfl) ?_
  refine lv_iload_n C.1 C.2.1 dX12_spills_14 rfl (lv_at hl 3 rfl) ?_
  refine lv_iconst (v := (-1)) C.1 C.2.1 dX12_spills_15 (by decide) ?_
  refine k_ixor (v := (-1)) C (by decide) dX12_spills_16 ?_
  refine k_iand (v := 19) C (by decide) dX12_spills_17 ?_
  refine lv_if_ne (tgt := 57) C.1 C.2.1 dX12_spills_18 (by decide) (fun _ => ?_) (fun c5771 => absurd c5771 (by decide))
  refine lv_iinc (v := 20) (lv' := [(4, .int 20), (3, .int 0), (0, .ref h0), (1, .int 0), (2, .int x0)]) C.1 C.2.1 dX12_spills_57 hl (k := 0) rfl (by decide) (by decide) rfl (fun ls hl => ?_)
  refine lv_goto (tgt := 5) C.1 C.2.1 dX12_spills_60 (by decide) ?_
  refine lv_iload C.1 C.2.1 dX12_spills_5 (lv_at hl 0 rfl) ?_
  refine lv_bipush (v := 64) C.1 C.2.1 dX12_spills_7 (by decide) ?_
  refine lv_icmp_ge (tgt := 63) C.1 C.2.1 dX12_spills_9 (by decide) (fun c5772 => absurd c5772 (by decide)) (fun _ => ?_)
  refine lv_iload C.1 C.2.1 dX12_spills_12 (lv_at hl 0 rfl) ?_
  refine lv_iload_n C.1 C.2.1 dX12_spills_14 rfl (lv_at hl 3 rfl) ?_
  refine lv_iconst (v := (-1)) C.1 C.2.1 dX12_spills_15 (by decide) ?_
  refine k_ixor (v := (-1)) C (by decide) dX12_spills_16 ?_
  refine k_iand (v := 20) C (by decide) dX12_spills_17 ?_
  refine lv_if_ne (tgt := 57) C.1 C.2.1 dX12_spills_18 (by decide) (fun _ => ?_) (fun c5773 => absurd c5773 (by decide))
  refine lv_iinc (v := 21) (lv' := [(4, .int 21), (3, .int 0), (0, .ref h0), (1, .int 0), (2, .int x0)]) C.1 C.2.1 dX12_spills_57 hl (k := 0) rfl (by decide) (by decide) rfl (fun ls hl => ?_)
  refine lv_goto (tgt := 5) C.1 C.2.1 dX12_spills_60 (by decide) ?_
  refine lv_iload C.1 C.2.1 dX12_spills_5 (lv_at hl 0 rfl) ?_
  refine lv_bipush (v := 64) C.1 C.2.1 dX12_spills_7 (by decide) ?_
  refine lv_icmp_ge (tgt := 63) C.1 C.2.1 dX12_spills_9 (by decide) (fun c5774 => absurd c5774 (by decide)) (fun _ => ?_)
  refine lv_iload C.1 C.2.1 dX12_spills_12 (lv_at hl 0 rfl) ?_
  refine lv_iload_n C.1 C.2.1 dX12_spills_14 rfl (lv_at hl 3 rfl) ?_
  refine lv_iconst (v := (-1)) C.1 C.2.1 dX12_spills_15 (by decide) ?_
  refine k_ixor (v := (-1)) C (by decide) dX12_spills_16 ?_
  refine k_iand (v := 21) C (by decide) dX12_spills_17 ?_
  refine lv_if_ne (tgt := 57) C.1 C.2.1 dX12_spills_18 (by decide) (fun _ => ?_) (fun c5775 => absurd c5775 (by decide))
  refine lv_iinc (v := 22) (lv' := [(4, .int 22), (3, .int 0), (0, .ref h0), (1, .int 0), (2, .int x0)]) C.1 C.2.1 dX12_spills_57 hl (k := 0) rfl (by decide) (by decide) rfl (fun ls hl => ?_)
  refine lv_goto (tgt := 5) C.1 C.2.1 dX12_spills_60 (by decide) ?_
  refine lv_iload C.1 C.2.1 dX12_spills_5 (lv_at hl 0 rfl) ?_
  refine lv_bipush (v := 64) C.1 C.2.1 dX12_spills_7 (by decide) ?_
  refine lv_icmp_ge (tgt := 63) C.1 C.2.1 dX12_spills_9 (by decide) (fun c5776 => absurd c5776 (by decide)) (fun _ => ?_)
  refine lv_iload C.1 C.2.1 dX12_spills_12 (lv_at hl 0 rfl) ?_
  refine lv_iload_n C.1 C.2.1 dX12_spills_14 rfl (lv_at hl 3 rfl) ?_
  refine lv_iconst (v := (-1)) C.1 C.2.1 dX12_spills_15 (by decide) ?_
  refine k_ixor (v := (-1)) C (by decide) dX12_spills_16 ?_
  refine k_iand (v := 22) C (by decide) dX12_spills_17 ?_
  refine lv_if_ne (tgt := 57) C.1 C.2.1 dX12_spills_18 (by decide) (fun _ => ?_) (fun c5777 => absurd c5777 (by decide))
  refine lv_iinc (v := 23) (lv' := [(4, .int 23), (3, .int 0), (0, .ref h0), (1, .int 0), (2, .int x0)]) C.1 C.2.1 dX12_spills_57 hl (k := 0) rfl (by decide) (by decide) rfl (fun ls hl => ?_)
  refine lv_goto (tgt := 5) C.1 C.2.1 dX12_spills_60 (by decide) ?_
  refine lv_iload C.1 C.2.1 dX12_spills_5 (lv_at hl 0 rfl) ?_
  refine lv_bipush (v := 64) C.1 C.2.1 dX12_spills_7 (by decide) ?_
  refine lv_icmp_ge (tgt := 63) C.1 C.2.1 dX12_spills_9 (by decide) (fun c5778 => absurd c5778 (by decide)) (fun _ => ?_)
  refine lv_iload C.1 C.2.1 dX12_spills_12 (lv_at hl 0 rfl) ?_
  refine lv_iload_n C.1 C.2.1 dX12_spills_14 rfl (lv_at hl 3 rfl) ?_
  refine lv_iconst (v := (-1)) C.1 C.2.1 dX12_spills_15 (by decide) ?_
  refine k_ixor (v := (-1)) C (by decide) dX12_spills_16 ?_
  refine k_iand (v := 23) C (by decide) dX12_spills_17 ?_
  refine lv_if_ne (tgt := 57) C.1 C.2.1 dX12_spills_18 (by decide) (fun _ => ?_) (fun c5779 => absurd c5779 (by decide))
  refine lv_iinc (v := 24) (lv' := [(4, .int 24), (3, .int 0), (0, .ref h0), (1, .int 0), (2, .int x0)]) C.1 C.2.1 dX12_spills_57 hl (k := 0) rfl (by decide) (by decide) rfl (fun ls hl => ?_)
  refine lv_goto (tgt := 5) C.1 C.2.1 dX12_spills_60 (by decide) ?_
  refine lv_iload C.1 C.2.1 dX12_spills_5 (lv_at hl 0 rfl) ?_
  refine lv_bipush (v := 64) C.1 C.2.1 dX12_spills_7 (by decide) ?_
  refine lv_icmp_ge (tgt := 63) C.1 C.2.1 dX12_spills_9 (by decide) (fun c5780 => absurd c5780 (by decide)) (fun _ => ?_)
  refine lv_iload C.1 C.2.1 dX12_spills_12 (lv_at hl 0 rfl) ?_
  refine lv_iload_n C.1 C.2.1 dX12_spills_14 rfl (lv_at hl 3 rfl) ?_
  refine lv_iconst (v := (-1)) C.1 C.2.1 dX12_spills_15 (by decide) ?_
  refine k_ixor (v := (-1)) C (by decide) dX12_spills_16 ?_
  refine k_iand (v := 24) C (by decide) dX12_spills_17 ?_
  refine lv_if_ne (tgt := 57) C.1 C.2.1 dX12_spills_18 (by decide) (fun _ => ?_) (fun c5781 => absurd c5781 (by decide))
  refine lv_iinc (v := 25) (lv' := [(4, .int 25), (3, .int 0), (0, .ref h0), (1, .int 0), (2, .int x0)]) C.1 C.2.1 dX12_spills_57 hl (k := 0) rfl (by decide) (by decide) rfl (fun ls hl => ?_)
  refine lv_goto (tgt := 5) C.1 C.2.1 dX12_spills_60 (by decide) ?_
  refine lv_iload C.1 C.2.1 dX12_spills_5 (lv_at hl 0 rfl) ?_
  refine lv_bipush (v := 64) C.1 C.2.1 dX12_spills_7 (by decide) ?_
  refine lv_icmp_ge (tgt := 63) C.1 C.2.1 dX12_spills_9 (by decide) (fun c5782 => absurd c5782 (by decide)) (fun _ => ?_)
  refine lv_iload C.1 C.2.1 dX12_spills_12 (lv_at hl 0 rfl) ?_
  refine lv_iload_n C.1 C.2.1 dX12_spills_14 rfl (lv_at hl 3 rfl) ?_
  refine lv_iconst (v := (-1)) C.1 C.2.1 dX12_spills_15 (by decide) ?_
  refine k_ixor (v := (-1)) C (by decide) dX12_spills_16 ?_
  refine k_iand (v := 25) C (by decide) dX12_spills_17 ?_
  refine lv_if_ne (tgt := 57) C.1 C.2.1 dX12_spills_18 (by decide) (fun _ => ?_) (fun c5783 => absurd c5783 (by decide))
  refine lv_iinc (v := 26) (lv' := [(4, .int 26), (3, .int 0), (0, .ref h0), (1, .int 0), (2, .int x0)]) C.1 C.2.1 dX12_spills_57 hl (k := 0) rfl (by decide) (by decide) rfl (fun ls hl => ?_)
  refine lv_goto (tgt := 5) C.1 C.2.1 dX12_spills_60 (by decide) ?_
  refine lv_iload C.1 C.2.1 dX12_spills_5 (lv_at hl 0 rfl) ?_
  refine lv_bipush (v := 64) C.1 C.2.1 dX12_spills_7 (by decide) ?_
  refine lv_icmp_ge (tgt := 63) C.1 C.2.1 dX12_spills_9 (by decide) (fun c5784 => absurd c5784 (by decide)) (fun _ => ?_)
  refine lv_iload C.1 C.2.1 dX12_spills_12 (lv_at hl 0 rfl) ?_
  refine lv_iload_n C.1 C.2.1 dX12_spills_14 rfl (lv_at hl 3 rfl) ?_
  refine lv_iconst (v := (-1)) C.1 C.2.1 dX12_spills_15 (by decide) ?_
  refine k_ixor (v := (-1)) C (by decide) dX12_spills_16 ?_
  refine k_iand (v := 26) C (by decide) dX12_spills_17 ?_
  refine lv_if_ne (tgt := 57) C.1 C.2.1 dX12_spills_18 (by decide) (fun _ => ?_) (fun c5785 => absurd c5785 (by decide))
  refine lv_iinc (v := 27) (lv' := [(4, .int 27), (3, .int 0), (0, .ref h0), (1, .int 0), (2, .int x0)]) C.1 C.2.1 dX12_spills_57 hl (k := 0) rfl (by decide) (by decide) rfl (fun ls hl => ?_)
  refine lv_goto (tgt := 5) C.1 C.2.1 dX12_spills_60 (by decide) ?_
  refine lv_iload C.1 C.2.1 dX12_spills_5 (lv_at hl 0 rfl) ?_
  refine lv_bipush (v := 64) C.1 C.2.1 dX12_spills_7 (by decide) ?_
  refine lv_icmp_ge (tgt := 63) C.1 C.2.1 dX12_spills_9 (by decide) (fun c5786 => absurd c5786 (by decide)) (fun _ => ?_)
  refine lv_iload C.1 C.2.1 dX12_spills_12 (lv_at hl 0 rfl) ?_
  refine lv_iload_n C.1 C.2.1 dX12_spills_14 rfl (lv_at hl 3 rfl) ?_
  refine lv_iconst (v := (-1)) C.1 C.2.1 dX12_spills_15 (by decide) ?_
  refine k_ixor (v := (-1)) C (by decide) dX12_spills_16 ?_
  refine k_iand (v := 27) C (by decide) dX12_spills_17 ?_
  refine lv_if_ne (tgt := 57) C.1 C.2.1 dX12_spills_18 (by decide) (fun _ => ?_) (fun c5787 => absurd c5787 (by decide))
  refine lv_iinc (v := 28) (lv' := [(4, .int 28), (3, .int 0), (0, .ref h0), (1, .int 0), (2, .int x0)]) C.1 C.2.1 dX12_spills_57 hl (k := 0) rfl (by decide) (by decide) rfl (fun ls hl => ?_)
  refine lv_goto (tgt := 5) C.1 C.2.1 dX12_spills_60 (by decide) ?_
  refine lv_iload C.1 C.2.1 dX12_spills_5 (lv_at hl 0 rfl) ?_
  refine lv_bipush (v := 64) C.1 C.2.1 dX12_spills_7 (by decide) ?_
  refine lv_icmp_ge (tgt := 63) C.1 C.2.1 dX12_spills_9 (by decide) (fun c5788 => absurd c5788 (by decide)) (fun _ => ?_)
  refine lv_iload C.1 C.2.1 dX12_spills_12 (lv_at hl 0 rfl) ?_
  refine lv_iload_n C.1 C.2.1 dX12_spills_14 rfl (lv_at hl 3 rfl) ?_
  refine lv_iconst (v := (-1)) C.1 C.2.1 dX12_spills_15 (by decide) ?_
  refine k_ixor (v := (-1)) C (by decide) dX12_spills_16 ?_
  refine k_iand (v := 28) C (by decide) dX12_spills_17 ?_
  refine lv_if_ne (tgt := 57) C.1 C.2.1 dX12_spills_18 (by decide) (fun _ => ?_) (fun c5789 => absurd c5789 (by decide))
  refine lv_iinc (v := 29) (lv' := [(4, .int 29), (3, .int 0), (0, .ref h0), (1, .int 0), (2, .int x0)]) C.1 C.2.1 dX12_spills_57 hl (k := 0) rfl (by decide) (by decide) rfl (fun ls hl => ?_)
  refine lv_goto (tgt := 5) C.1 C.2.1 dX12_spills_60 (by decide) ?_
  refine lv_iload C.1 C.2.1 dX12_spills_5 (lv_at hl 0 rfl) ?_
  refine lv_bipush (v := 64) C.1 C.2.1 dX12_spills_7 (by decide) ?_
  refine lv_icmp_ge (tgt := 63) C.1 C.2.1 dX12_spills_9 (by decide) (fun c5790 => absurd c5790 (by decide)) (fun _ => ?_)
  refine lv_iload C.1 C.2.1 dX12_spills_12 (lv_at hl 0 rfl) ?_
  refine lv_iload_n C.1 C.2.1 dX12_spills_14 rfl (lv_at hl 3 rfl) ?_
  refine lv_iconst (v := (-1)) C.1 C.2.1 dX12_spills_15 (by decide) ?_
  refine k_ixor (v := (-1)) C (by decide) dX12_spills_16 ?_
  refine k_iand (v := 29) C (by decide) dX12_spills_17 ?_
  refine lv_if_ne (tgt := 57) C.1 C.2.1 dX12_spills_18 (by decide) (fun _ => ?_) (fun c5791 => absurd c5791 (by decide))
  refine lv_iinc (v := 30) (lv' := [(4, .int 30), (3, .int 0), (0, .ref h0), (1, .int 0), (2, .int x0)]) C.1 C.2.1 dX12_spills_57 hl (k := 0) rfl (by decide) (by decide) rfl (fun ls hl => ?_)
  refine lv_goto (tgt := 5) C.1 C.2.1 dX12_spills_60 (by decide) ?_
  refine lv_iload C.1 C.2.1 dX12_spills_5 (lv_at hl 0 rfl) ?_
  refine lv_bipush (v := 64) C.1 C.2.1 dX12_spills_7 (by decide) ?_
  refine lv_icmp_ge (tgt := 63) C.1 C.2.1 dX12_spills_9 (by decide) (fun c5792 => absurd c5792 (by decide)) (fun _ => ?_)
  refine lv_iload C.1 C.2.1 dX12_spills_12 (lv_at hl 0 rfl) ?_
  refine lv_iload_n C.1 C.2.1 dX12_spills_14 rfl (lv_at hl 3 rfl) ?_
  refine lv_iconst (v := (-1)) C.1 C.2.1 dX12_spills_15 (by decide) ?_
  refine k_ixor (v := (-1)) C (by decide) dX12_spills_16 ?_
  refine k_iand (v := 30) C (by decide) dX12_spills_17 ?_
  refine lv_if_ne (tgt := 57) C.1 C.2.1 dX12_spills_18 (by decide) (fun _ => ?_) (fun c5793 => absurd c5793 (by decide))
  refine lv_iinc (v := 31) (lv' := [(4, .int 31), (3, .int 0), (0, .ref h0), (1, .int 0), (2, .int x0)]) C.1 C.2.1 dX12_spills_57 hl (k := 0) rfl (by decide) (by decide) rfl (fun ls hl => ?_)
  refine lv_goto (tgt := 5) C.1 C.2.1 dX12_spills_60 (by decide) ?_
  refine lv_iload C.1 C.2.1 dX12_spills_5 (lv_at hl 0 rfl) ?_
  refine lv_bipush (v := 64) C.1 C.2.1 dX12_spills_7 (by decide) ?_
  refine lv_icmp_ge (tgt := 63) C.1 C.2.1 dX12_spills_9 (by decide) (fun c5794 => absurd c5794 (by decide)) (fun _ => ?_)
  refine lv_iload C.1 C.2.1 dX12_spills_12 (lv_at hl 0 rfl) ?_
  refine lv_iload_n C.1 C.2.1 dX12_spills_14 rfl (lv_at hl 3 rfl) ?_
  refine lv_iconst (v := (-1)) C.1 C.2.1 dX12_spills_15 (by decide) ?_
  refine k_ixor (v := (-1)) C (by decide) dX12_spills_16 ?_
  refine k_iand (v := 31) C (by decide) dX12_spills_17 ?_
  refine lv_if_ne (tgt := 57) C.1 C.2.1 dX12_spills_18 (by decide) (fun _ => ?_) (fun c5795 => absurd c5795 (by decide))
  refine lv_iinc (v := 32) (lv' := [(4, .int 32), (3, .int 0), (0, .ref h0), (1, .int 0), (2, .int x0)]) C.1 C.2.1 dX12_spills_57 hl (k := 0) rfl (by decide) (by decide) rfl (fun ls hl => ?_)
  refine lv_goto (tgt := 5) C.1 C.2.1 dX12_spills_60 (by decide) ?_
  refine lv_iload C.1 C.2.1 dX12_spills_5 (lv_at hl 0 rfl) ?_
  refine lv_bipush (v := 64) C.1 C.2.1 dX12_spills_7 (by decide) ?_
  refine lv_icmp_ge (tgt := 63) C.1 C.2.1 dX12_spills_9 (by decide) (fun c5796 => absurd c5796 (by decide)) (fun _ => ?_)
  refine lv_iload C.1 C.2.1 dX12_spills_12 (lv_at hl 0 rfl) ?_
  refine lv_iload_n C.1 C.2.1 dX12_spills_14 rfl (lv_at hl 3 rfl) ?_
  refine lv_iconst (v := (-1)) C.1 C.2.1 dX12_spills_15 (by decide) ?_
  refine k_ixor (v := (-1)) C (by decide) dX12_spills_16 ?_
  refine k_iand (v := 32) C (by decide) dX12_spills_17 ?_
  refine lv_if_ne (tgt := 57) C.1 C.2.1 dX12_spills_18 (by decide) (fun _ => ?_) (fun c5797 => absurd c5797 (by decide))
  refine lv_iinc (v := 33) (lv' := [(4, .int 33), (3, .int 0), (0, .ref h0), (1, .int 0), (2, .int x0)]) C.1 C.2.1 dX12_spills_57 hl (k := 0) rfl (by decide) (by decide) rfl (fun ls hl => ?_)
  refine lv_goto (tgt := 5) C.1 C.2.1 dX12_spills_60 (by decide) ?_
  refine lv_iload C.1 C.2.1 dX12_spills_5 (lv_at hl 0 rfl) ?_
  refine lv_bipush (v := 64) C.1 C.2.1 dX12_spills_7 (by decide) ?_
  refine lv_icmp_ge (tgt := 63) C.1 C.2.1 dX12_spills_9 (by decide) (fun c5798 => absurd c5798 (by decide)) (fun _ => ?_)
  refine lv_iload C.1 C.2.1 dX12_spills_12 (lv_at hl 0 rfl) ?_
  refine lv_iload_n C.1 C.2.1 dX12_spills_14 rfl (lv_at hl 3 rfl) ?_
  refine lv_iconst (v := (-1)) C.1 C.2.1 dX12_spills_15 (by decide) ?_
  refine k_ixor (v := (-1)) C (by decide) dX12_spills_16 ?_
  refine k_iand (v := 33) C (by decide) dX12_spills_17 ?_
  refine lv_if_ne (tgt := 57) C.1 C.2.1 dX12_spills_18 (by decide) (fun _ => ?_) (fun c5799 => absurd c5799 (by decide))
  refine lv_iinc (v := 34) (lv' := [(4, .int 34), (3, .int 0), (0, .ref h0), (1, .int 0), (2, .int x0)]) C.1 C.2.1 dX12_spills_57 hl (k := 0) rfl (by decide) (by decide) rfl (fun ls hl => ?_)
  refine lv_goto (tgt := 5) C.1 C.2.1 dX12_spills_60 (by decide) ?_
  refine lv_iload C.1 C.2.1 dX12_spills_5 (lv_at hl 0 rfl) ?_
  refine lv_bipush (v := 64) C.1 C.2.1 dX12_spills_7 (by decide) ?_
  refine lv_icmp_ge (tgt := 63) C.1 C.2.1 dX12_spills_9 (by decide) (fun c5800 => absurd c5800 (by decide)) (fun _ => ?_)
  refine lv_iload C.1 C.2.1 dX12_spills_12 (lv_at hl 0 rfl) ?_
  refine lv_iload_n C.1 C.2.1 dX12_spills_14 rfl (lv_at hl 3 rfl) ?_
  refine lv_iconst (v := (-1)) C.1 C.2.1 dX12_spills_15 (by decide) ?_
  refine k_ixor (v := (-1)) C (by decide) dX12_spills_16 ?_
  refine k_iand (v := 34) C (by decide) dX12_spills_17 ?_
  refine lv_if_ne (tgt := 57) C.1 C.2.1 dX12_spills_18 (by decide) (fun _ => ?_) (fun c5801 => absurd c5801 (by decide))
  refine lv_iinc (v := 35) (lv' := [(4, .int 35), (3, .int 0), (0, .ref h0), (1, .int 0), (2, .int x0)]) C.1 C.2.1 dX12_spills_57 hl (k := 0) rfl (by decide) (by decide) rfl (fun ls hl => ?_)
  refine lv_goto (tgt := 5) C.1 C.2.1 dX12_spills_60 (by decide) ?_
  refine lv_iload C.1 C.2.1 dX12_spills_5 (lv_at hl 0 rfl) ?_
  refine lv_bipush (v := 64) C.1 C.2.1 dX12_spills_7 (by decide) ?_
  refine lv_icmp_ge (tgt := 63) C.1 C.2.1 dX12_spills_9 (by decide) (fun c5802 => absurd c5802 (by decide)) (fun _ => ?_)
  refine lv_iload C.1 C.2.1 dX12_spills_12 (lv_at hl 0 rfl) ?_
  refine lv_iload_n C.1 C.2.1 dX12_spills_14 rfl (lv_at hl 3 rfl) ?_
  refine lv_iconst (v := (-1)) C.1 C.2.1 dX12_spills_15 (by decide) ?_
  refine k_ixor (v := (-1)) C (by decide) dX12_spills_16 ?_
  refine k_iand (v := 35) C (by decide) dX12_spills_17 ?_
  refine lv_if_ne (tgt := 57) C.1 C.2.1 dX12_spills_18 (by decide) (fun _ => ?_) (fun c5803 => absurd c5803 (by decide))
  refine lv_iinc (v := 36) (lv' := [(4, .int 36), (3, .int 0), (0, .ref h0), (1, .int 0), (2, .int x0)]) C.1 C.2.1 dX12_spills_57 hl (k := 0) rfl (by decide) (by decide) rfl (fun ls hl => ?_)
  refine lv_goto (tgt := 5) C.1 C.2.1 dX12_spills_60 (by decide) ?_
  refine lv_iload C.1 C.2.1 dX12_spills_5 (lv_at hl 0 rfl) ?_
  refine lv_bipush (v := 64) C.1 C.2.1 dX12_spills_7 (by decide) ?_
  refine lv_icmp_ge (tgt := 63) C.1 C.2.1 dX12_spills_9 (by decide) (fun c5804 => absurd c5804 (by decide)) (fun _ => ?_)
  refine lv_iload C.1 C.2.1 dX12_spills_12 (lv_at hl 0 rfl) ?_
  refine lv_iload_n C.1 C.2.1 dX12_spills_14 rfl (lv_at hl 3 rfl) ?_
  refine lv_iconst (v := (-1)) C.1 C.2.1 dX12_spills_15 (by decide) ?_
  refine k_ixor (v := (-1)) C (by decide) dX12_spills_16 ?_
  refine k_iand (v := 36) C (by decide) dX12_spills_17 ?_
  refine lv_if_ne (tgt := 57) C.1 C.2.1 dX12_spills_18 (by decide) (fun _ => ?_) (fun c5805 => absurd c5805 (by decide))
  refine lv_iinc (v := 37) (lv' := [(4, .int 37), (3, .int 0), (0, .ref h0), (1, .int 0), (2, .int x0)]) C.1 C.2.1 dX12_spills_57 hl (k := 0) rfl (by decide) (by decide) rfl (fun ls hl => ?_)
  refine lv_goto (tgt := 5) C.1 C.2.1 dX12_spills_60 (by decide) ?_
  refine lv_iload C.1 C.2.1 dX12_spills_5 (lv_at hl 0 rfl) ?_
  refine lv_bipush (v := 64) C.1 C.2.1 dX12_spills_7 (by decide) ?_
  refine lv_icmp_ge (tgt := 63) C.1 C.2.1 dX12_spills_9 (by decide) (fun c5806 => absurd c5806 (by decide)) (fun _ => ?_)
  refine lv_iload C.1 C.2.1 dX12_spills_12 (lv_at hl 0 rfl) ?_
  refine lv_iload_n C.1 C.2.1 dX12_spills_14 rfl (lv_at hl 3 rfl) ?_
  refine lv_iconst (v := (-1)) C.1 C.2.1 dX12_spills_15 (by decide) ?_
  refine k_ixor (v := (-1)) C (by decide) dX12_spills_16 ?_
  refine k_iand (v := 37) C (by decide) dX12_spills_17 ?_
  refine lv_if_ne (tgt := 57) C.1 C.2.1 dX12_spills_18 (by decide) (fun _ => ?_) (fun c5807 => absurd c5807 (by decide))
  refine lv_iinc (v := 38) (lv' := [(4, .int 38), (3, .int 0), (0, .ref h0), (1, .int 0), (2, .int x0)]) C.1 C.2.1 dX12_spills_57 hl (k := 0) rfl (by decide) (by decide) rfl (fun ls hl => ?_)
  refine lv_goto (tgt := 5) C.1 C.2.1 dX12_spills_60 (by decide) ?_
  refine lv_iload C.1 C.2.1 dX12_spills_5 (lv_at hl 0 rfl) ?_
  refine lv_bipush (v := 64) C.1 C.2.1 dX12_spills_7 (by decide) ?_
  refine lv_icmp_ge (tgt := 63) C.1 C.2.1 dX12_spills_9 (by decide) (fun c5808 => absurd c5808 (by decide)) (fun _ => ?_)
  refine lv_iload C.1 C.2.1 dX12_spills_12 (lv_at hl 0 rfl) ?_
  refine lv_iload_n C.1 C.2.1 dX12_spills_14 rfl (lv_at hl 3 rfl) ?_
  refine lv_iconst (v := (-1)) C.1 C.2.1 dX12_spills_15 (by decide) ?_
  refine k_ixor (v := (-1)) C (by decide) dX12_spills_16 ?_
  refine k_iand (v := 38) C (by decide) dX12_spills_17 ?_
  refine lv_if_ne (tgt := 57) C.1 C.2.1 dX12_spills_18 (by decide) (fun _ => ?_) (fun c5809 => absurd c5809 (by decide))
  refine lv_iinc (v := 39) (lv' := [(4, .int 39), (3, .int 0), (0, .ref h0), (1, .int 0), (2, .int x0)]) C.1 C.2.1 dX12_spills_57 hl (k := 0) rfl (by decide) (by decide) rfl (fun ls hl => ?_)
  refine lv_goto (tgt := 5) C.1 C.2.1 dX12_spills_60 (by decide) ?_
  refine lv_iload C.1 C.2.1 dX12_spills_5 (lv_at hl 0 rfl) ?_
  refine lv_bipush (v := 64) C.1 C.2.1 dX12_spills_7 (by decide) ?_
  refine lv_icmp_ge (tgt := 63) C.1 C.2.1 dX12_spills_9 (by decide) (fun c5810 => absurd c5810 (by decide)) (fun _ => ?_)
  refine lv_iload C.1 C.2.1 dX12_spills_12 (lv_at hl 0 rfl) ?_
  refine lv_iload_n C.1 C.2.1 dX12_spills_14 rfl (lv_at hl 3 rfl) ?_
  refine lv_iconst (v := (-1)) C.1 C.2.1 dX12_spills_15 (by decide) ?_
  refine k_ixor (v := (-1)) C (by decide) dX12_spills_16 ?_
  refine k_iand (v := 39) C (by decide) dX12_spills_17 ?_
  refine lv_if_ne (tgt := 57) C.1 C.2.1 dX12_spills_18 (by decide) (fun _ => ?_) (fun c5811 => absurd c5811 (by decide))
  refine lv_iinc (v := 40) (lv' := [(4, .int 40), (3, .int 0), (0, .ref h0), (1, .int 0), (2, .int x0)]) C.1 C.2.1 dX12_spills_57 hl (k := 0) rfl (by decide) (by decide) rfl (fun ls hl => ?_)
  refine lv_goto (tgt := 5) C.1 C.2.1 dX12_spills_60 (by decide) ?_
  refine lv_iload C.1 C.2.1 dX12_spills_5 (lv_at hl 0 rfl) ?_
  refine lv_bipush (v := 64) C.1 C.2.1 dX12_spills_7 (by decide) ?_
  refine lv_icmp_ge (tgt := 63) C.1 C.2.1 dX12_spills_9 (by decide) (fun c5812 => absurd c5812 (by decide)) (fun _ => ?_)
  refine lv_iload C.1 C.2.1 dX12_spills_12 (lv_at hl 0 rfl) ?_
  refine lv_iload_n C.1 C.2.1 dX12_spills_14 rfl (lv_at hl 3 rfl) ?_
  refine lv_iconst (v := (-1)) C.1 C.2.1 dX12_spills_15 (by decide) ?_
  refine k_ixor (v := (-1)) C (by decide) dX12_spills_16 ?_
  refine k_iand (v := 40) C (by decide) dX12_spills_17 ?_
  refine lv_if_ne (tgt := 57) C.1 C.2.1 dX12_spills_18 (by decide) (fun _ => ?_) (fun c5813 => absurd c5813 (by decide))
  refine lv_iinc (v := 41) (lv' := [(4, .int 41), (3, .int 0), (0, .ref h0), (1, .int 0), (2, .int x0)]) C.1 C.2.1 dX12_spills_57 hl (k := 0) rfl (by decide) (by decide) rfl (fun ls hl => ?_)
  refine lv_goto (tgt := 5) C.1 C.2.1 dX12_spills_60 (by decide) ?_
  refine lv_iload C.1 C.2.1 dX12_spills_5 (lv_at hl 0 rfl) ?_
  refine lv_bipush (v := 64) C.1 C.2.1 dX12_spills_7 (by decide) ?_
  refine lv_icmp_ge (tgt := 63) C.1 C.2.1 dX12_spills_9 (by decide) (fun c5814 => absurd c5814 (by decide)) (fun _ => ?_)
  refine lv_iload C.1 C.2.1 dX12_spills_12 (lv_at hl 0 rfl) ?_
  refine lv_iload_n C.1 C.2.1 dX12_spills_14 rfl (lv_at hl 3 rfl) ?_
  refine lv_iconst (v := (-1)) C.1 C.2.1 dX12_spills_15 (by decide) ?_
  refine k_ixor (v := (-1)) C (by decide) dX12_spills_16 ?_
  refine k_iand (v := 41) C (by decide) dX12_spills_17 ?_
  refine lv_if_ne (tgt := 57) C.1 C.2.1 dX12_spills_18 (by decide) (fun _ => ?_) (fun c5815 => absurd c5815 (by decide))
  refine lv_iinc (v := 42) (lv' := [(4, .int 42), (3, .int 0), (0, .ref h0), (1, .int 0), (2, .int x0)]) C.1 C.2.1 dX12_spills_57 hl (k := 0) rfl (by decide) (by decide) rfl (fun ls hl => ?_)
  refine lv_goto (tgt := 5) C.1 C.2.1 dX12_spills_60 (by decide) ?_
  refine lv_iload C.1 C.2.1 dX12_spills_5 (lv_at hl 0 rfl) ?_
  refine lv_bipush (v := 64) C.1 C.2.1 dX12_spills_7 (by decide) ?_
  refine lv_icmp_ge (tgt := 63) C.1 C.2.1 dX12_spills_9 (by decide) (fun c5816 => absurd c5816 (by decide)) (fun _ => ?_)
  refine lv_iload C.1 C.2.1 dX12_spills_12 (lv_at hl 0 rfl) ?_
  refine lv_iload_n C.1 C.2.1 dX12_spills_14 rfl (lv_at hl 3 rfl) ?_
  refine lv_iconst (v := (-1)) C.1 C.2.1 dX12_spills_15 (by decide) ?_
  refine k_ixor (v := (-1)) C (by decide) dX12_spills_16 ?_
  refine k_iand (v := 42) C (by decide) dX12_spills_17 ?_
  refine lv_if_ne (tgt := 57) C.1 C.2.1 dX12_spills_18 (by decide) (fun _ => ?_) (fun c5817 => absurd c5817 (by decide))
  refine lv_iinc (v := 43) (lv' := [(4, .int 43), (3, .int 0), (0, .ref h0), (1, .int 0), (2, .int x0)]) C.1 C.2.1 dX12_spills_57 hl (k := 0) rfl (by decide) (by decide) rfl (fun ls hl => ?_)
  refine lv_goto (tgt := 5) C.1 C.2.1 dX12_spills_60 (by decide) ?_
  refine lv_iload C.1 C.2.1 dX12_spills_5 (lv_at hl 0 rfl) ?_
  refine lv_bipush (v := 64) C.1 C.2.1 dX12_spills_7 (by decide) ?_
  refine lv_icmp_ge (tgt := 63) C.1 C.2.1 dX12_spills_9 (by decide) (fun c5818 => absurd c5818 (by decide)) (fun _ => ?_)
  refine lv_iload C.1 C.2.1 dX12_spills_12 (lv_at hl 0 rfl) ?_
  refine lv_iload_n C.1 C.2.1 dX12_spills_14 rfl (lv_at hl 3 rfl) ?_
  refine lv_iconst (v := (-1)) C.1 C.2.1 dX12_spills_15 (by decide) ?_
  refine k_ixor (v := (-1)) C (by decide) dX12_spills_16 ?_
  refine k_iand (v := 43) C (by decide) dX12_spills_17 ?_
  refine lv_if_ne (tgt := 57) C.1 C.2.1 dX12_spills_18 (by decide) (fun _ => ?_) (fun c5819 => absurd c5819 (by decide))
  refine lv_iinc (v := 44) (lv' := [(4, .int 44), (3, .int 0), (0, .ref h0), (1, .int 0), (2, .int x0)]) C.1 C.2.1 dX12_spills_57 hl (k := 0) rfl (by decide) (by decide) rfl (fun ls hl => ?_)
  refine lv_goto (tgt := 5) C.1 C.2.1 dX12_spills_60 (by decide) ?_
  refine lv_iload C.1 C.2.1 dX12_spills_5 (lv_at hl 0 rfl) ?_
  refine lv_bipush (v := 64) C.1 C.2.1 dX12_spills_7 (by decide) ?_
  refine lv_icmp_ge (tgt := 63) C.1 C.2.1 dX12_spills_9 (by decide) (fun c5820 => absurd c5820 (by decide)) (fun _ => ?_)
  refine lv_iload C.1 C.2.1 dX12_spills_12 (lv_at hl 0 rfl) ?_
  refine lv_iload_n C.1 C.2.1 dX12_spills_14 rfl (lv_at hl 3 rfl) ?_
  refine lv_iconst (v := (-1)) C.1 C.2.1 dX12_spills_15 (by decide) ?_
  refine k_ixor (v := (-1)) C (by decide) dX12_spills_16 ?_
  refine k_iand (v := 44) C (by decide) dX12_spills_17 ?_
  refine lv_if_ne (tgt := 57) C.1 C.2.1 dX12_spills_18 (by decide) (fun _ => ?_) (fun c5821 => absurd c5821 (by decide))
  refine lv_iinc (v := 45) (lv' := [(4, .int 45), (3, .int 0), (0, .ref h0), (1, .int 0), (2, .int x0)]) C.1 C.2.1 dX12_spills_57 hl (k := 0) rfl (by decide) (by decide) rfl (fun ls hl => ?_)
  refine lv_goto (tgt := 5) C.1 C.2.1 dX12_spills_60 (by decide) ?_
  refine lv_iload C.1 C.2.1 dX12_spills_5 (lv_at hl 0 rfl) ?_
  refine lv_bipush (v := 64) C.1 C.2.1 dX12_spills_7 (by decide) ?_
  refine lv_icmp_ge (tgt := 63) C.1 C.2.1 dX12_spills_9 (by decide) (fun c5822 => absurd c5822 (by decide)) (fun _ => ?_)
  refine lv_iload C.1 C.2.1 dX12_spills_12 (lv_at hl 0 rfl) ?_
  refine lv_iload_n C.1 C.2.1 dX12_spills_14 rfl (lv_at hl 3 rfl) ?_
  refine lv_iconst (v := (-1)) C.1 C.2.1 dX12_spills_15 (by decide) ?_
  refine k_ixor (v := (-1)) C (by decide) dX12_spills_16 ?_
  refine k_iand (v := 45) C (by decide) dX12_spills_17 ?_
  refine lv_if_ne (tgt := 57) C.1 C.2.1 dX12_spills_18 (by decide) (fun _ => ?_) (fun c5823 => absurd c5823 (by decide))
  refine lv_iinc (v := 46) (lv' := [(4, .int 46), (3, .int 0), (0, .ref h0), (1, .int 0), (2, .int x0)]) C.1 C.2.1 dX12_spills_57 hl (k := 0) rfl (by decide) (by decide) rfl (fun ls hl => ?_)
  refine lv_goto (tgt := 5) C.1 C.2.1 dX12_spills_60 (by decide) ?_
  refine lv_iload C.1 C.2.1 dX12_spills_5 (lv_at hl 0 rfl) ?_
  refine lv_bipush (v := 64) C.1 C.2.1 dX12_spills_7 (by decide) ?_
  refine lv_icmp_ge (tgt := 63) C.1 C.2.1 dX12_spills_9 (by decide) (fun c5824 => absurd c5824 (by decide)) (fun _ => ?_)
  refine lv_iload C.1 C.2.1 dX12_spills_12 (lv_at hl 0 rfl) ?_
  refine lv_iload_n C.1 C.2.1 dX12_spills_14 rfl (lv_at hl 3 rfl) ?_
  refine lv_iconst (v := (-1)) C.1 C.2.1 dX12_spills_15 (by decide) ?_
  refine k_ixor (v := (-1)) C (by decide) dX12_spills_16 ?_
  refine k_iand (v := 46) C (by decide) dX12_spills_17 ?_
  refine lv_if_ne (tgt := 57) C.1 C.2.1 dX12_spills_18 (by decide) (fun _ => ?_) (fun c5825 => absurd c5825 (by decide))
  refine lv_iinc (v := 47) (lv' := [(4, .int 47), (3, .int 0), (0, .ref h0), (1, .int 0), (2, .int x0)]) C.1 C.2.1 dX12_spills_57 hl (k := 0) rfl (by decide) (by decide) rfl (fun ls hl => ?_)
  refine lv_goto (tgt := 5) C.1 C.2.1 dX12_spills_60 (by decide) ?_
  refine lv_iload C.1 C.2.1 dX12_spills_5 (lv_at hl 0 rfl) ?_
  refine lv_bipush (v := 64) C.1 C.2.1 dX12_spills_7 (by decide) ?_
  refine lv_icmp_ge (tgt := 63) C.1 C.2.1 dX12_spills_9 (by decide) (fun c5826 => absurd c5826 (by decide)) (fun _ => ?_)
  refine lv_iload C.1 C.2.1 dX12_spills_12 (lv_at hl 0 rfl) ?_
  refine lv_iload_n C.1 C.2.1 dX12_spills_14 rfl (lv_at hl 3 rfl) ?_
  refine lv_iconst (v := (-1)) C.1 C.2.1 dX12_spills_15 (by decide) ?_
  refine k_ixor (v := (-1)) C (by decide) dX12_spills_16 ?_
  refine k_iand (v := 47) C (by decide) dX12_spills_17 ?_
  refine lv_if_ne (tgt := 57) C.1 C.2.1 dX12_spills_18 (by decide) (fun _ => ?_) (fun c5827 => absurd c5827 (by decide))
  refine lv_iinc (v := 48) (lv' := [(4, .int 48), (3, .int 0), (0, .ref h0), (1, .int 0), (2, .int x0)]) C.1 C.2.1 dX12_spills_57 hl (k := 0) rfl (by decide) (by decide) rfl (fun ls hl => ?_)
  refine lv_goto (tgt := 5) C.1 C.2.1 dX12_spills_60 (by decide) ?_
  refine lv_iload C.1 C.2.1 dX12_spills_5 (lv_at hl 0 rfl) ?_
  refine lv_bipush (v := 64) C.1 C.2.1 dX12_spills_7 (by decide) ?_
  refine lv_icmp_ge (tgt := 63) C.1 C.2.1 dX12_spills_9 (by decide) (fun c5828 => absurd c5828 (by decide)) (fun _ => ?_)
  refine lv_iload C.1 C.2.1 dX12_spills_12 (lv_at hl 0 rfl) ?_
  refine lv_iload_n C.1 C.2.1 dX12_spills_14 rfl (lv_at hl 3 rfl) ?_
  refine lv_iconst (v := (-1)) C.1 C.2.1 dX12_spills_15 (by decide) ?_
  refine k_ixor (v := (-1)) C (by decide) dX12_spills_16 ?_
  refine k_iand (v := 48) C (by decide) dX12_spills_17 ?_
  refine lv_if_ne (tgt := 57) C.1 C.2.1 dX12_spills_18 (by decide) (fun _ => ?_) (fun c5829 => absurd c5829 (by decide))
  refine lv_iinc (v := 49) (lv' := [(4, .int 49), (3, .int 0), (0, .ref h0), (1, .int 0), (2, .int x0)]) C.1 C.2.1 dX12_spills_57 hl (k := 0) rfl (by decide) (by decide) rfl (fun ls hl => ?_)
  refine lv_goto (tgt := 5) C.1 C.2.1 dX12_spills_60 (by decide) ?_
  refine lv_iload C.1 C.2.1 dX12_spills_5 (lv_at hl 0 rfl) ?_
  refine lv_bipush (v := 64) C.1 C.2.1 dX12_spills_7 (by decide) ?_
  refine lv_icmp_ge (tgt := 63) C.1 C.2.1 dX12_spills_9 (by decide) (fun c5830 => absurd c5830 (by decide)) (fun _ => ?_)
  refine lv_iload C.1 C.2.1 dX12_spills_12 (lv_at hl 0 rfl) ?_
  refine lv_iload_n C.1 C.2.1 dX12_spills_14 rfl (lv_at hl 3 rfl) ?_
  refine lv_iconst (v := (-1)) C.1 C.2.1 dX12_spills_15 (by decide) ?_
  refine k_ixor (v := (-1)) C (by decide) dX12_spills_16 ?_
  refine k_iand (v := 49) C (by decide) dX12_spills_17 ?_
  refine lv_if_ne (tgt := 57) C.1 C.2.1 dX12_spills_18 (by decide) (fun _ => ?_) (fun c5831 => absurd c5831 (by decide))
  refine lv_iinc (v := 50) (lv' := [(4, .int 50), (3, .int 0), (0, .ref h0), (1, .int 0), (2, .int x0)]) C.1 C.2.1 dX12_spills_57 hl (k := 0) rfl (by decide) (by decide) rfl (fun ls hl => ?_)
  refine lv_goto (tgt := 5) C.1 C.2.1 dX12_spills_60 (by decide) ?_
  refine lv_iload C.1 C.2.1 dX12_spills_5 (lv_at hl 0 rfl) ?_
  refine lv_bipush (v := 64) C.1 C.2.1 dX12_spills_7 (by decide) ?_
  refine lv_icmp_ge (tgt := 63) C.1 C.2.1 dX12_spills_9 (by decide) (fun c5832 => absurd c5832 (by decide)) (fun _ => ?_)
  refine lv_iload C.1 C.2.1 dX12_spills_12 (lv_at hl 0 rfl) ?_
  refine lv_iload_n C.1 C.2.1 dX12_spills_14 rfl (lv_at hl 3 rfl) ?_
  refine lv_iconst (v := (-1)) C.1 C.2.1 dX12_spills_15 (by decide) ?_
  refine k_ixor (v := (-1)) C (by decide) dX12_spills_16 ?_
  refine k_iand (v := 50) C (by decide) dX12_spills_17 ?_
  refine lv_if_ne (tgt := 57) C.1 C.2.1 dX12_spills_18 (by decide) (fun _ => ?_) (fun c5833 => absurd c5833 (by decide))
  refine lv_iinc (v := 51) (lv' := [(4, .int 51), (3, .int 0), (0, .ref h0), (1, .int 0), (2, .int x0)]) C.1 C.2.1 dX12_spills_57 hl (k := 0) rfl (by decide) (by decide) rfl (fun ls hl => ?_)
  refine lv_goto (tgt := 5) C.1 C.2.1 dX12_spills_60 (by decide) ?_
  refine lv_iload C.1 C.2.1 dX12_spills_5 (lv_at hl 0 rfl) ?_
  refine lv_bipush (v := 64) C.1 C.2.1 dX12_spills_7 (by decide) ?_
  refine lv_icmp_ge (tgt := 63) C.1 C.2.1 dX12_spills_9 (by decide) (fun c5834 => absurd c5834 (by decide)) (fun _ => ?_)
  refine lv_iload C.1 C.2.1 dX12_spills_12 (lv_at hl 0 rfl) ?_
  refine lv_iload_n C.1 C.2.1 dX12_spills_14 rfl (lv_at hl 3 rfl) ?_
  refine lv_iconst (v := (-1)) C.1 C.2.1 dX12_spills_15 (by decide) ?_
  refine k_ixor (v := (-1)) C (by decide) dX12_spills_16 ?_
  refine k_iand (v := 51) C (by decide) dX12_spills_17 ?_
  refine lv_if_ne (tgt := 57) C.1 C.2.1 dX12_spills_18 (by decide) (fun _ => ?_) (fun c5835 => absurd c5835 (by decide))
  refine lv_iinc (v := 52) (lv' := [(4, .int 52), (3, .int 0), (0, .ref h0), (1, .int 0), (2, .int x0)]) C.1 C.2.1 dX12_spills_57 hl (k := 0) rfl (by decide) (by decide) rfl (fun ls hl => ?_)
  refine lv_goto (tgt := 5) C.1 C.2.1 dX12_spills_60 (by decide) ?_
  refine lv_iload C.1 C.2.1 dX12_spills_5 (lv_at hl 0 rfl) ?_
  refine lv_bipush (v := 64) C.1 C.2.1 dX12_spills_7 (by decide) ?_
  refine lv_icmp_ge (tgt := 63) C.1 C.2.1 dX12_spills_9 (by decide) (fun c5836 => absurd c5836 (by decide)) (fun _ => ?_)
  refine lv_iload C.1 C.2.1 dX12_spills_12 (lv_at hl 0 rfl) ?_
  refine lv_iload_n C.1 C.2.1 dX12_spills_14 rfl (lv_at hl 3 rfl) ?_
  refine lv_iconst (v := (-1)) C.1 C.2.1 dX12_spills_15 (by decide) ?_
  refine k_ixor (v := (-1)) C (by decide) dX12_spills_16 ?_
  refine k_iand (v := 52) C (by decide) dX12_spills_17 ?_
  refine lv_if_ne (tgt := 57) C.1 C.2.1 dX12_spills_18 (by decide) (fun _ => ?_) (fun c5837 => absurd c5837 (by decide))
  refine lv_iinc (v := 53) (lv' := [(4, .int 53), (3, .int 0), (0, .ref h0), (1, .int 0), (2, .int x0)]) C.1 C.2.1 dX12_spills_57 hl (k := 0) rfl (by decide) (by decide) rfl (fun ls hl => ?_)
  refine lv_goto (tgt := 5) C.1 C.2.1 dX12_spills_60 (by decide) ?_
  refine lv_iload C.1 C.2.1 dX12_spills_5 (lv_at hl 0 rfl) ?_
  refine lv_bipush (v := 64) C.1 C.2.1 dX12_spills_7 (by decide) ?_
  refine lv_icmp_ge (tgt := 63) C.1 C.2.1 dX12_spills_9 (by decide) (fun c5838 => absurd c5838 (by decide)) (fun _ => ?_)
  refine lv_iload C.1 C.2.1 dX12_spills_12 (lv_at hl 0 rfl) ?_
  refine lv_iload_n C.1 C.2.1 dX12_spills_14 rfl (lv_at hl 3 rfl) ?_
  refine lv_iconst (v := (-1)) C.1 C.2.1 dX12_spills_15 (by decide) ?_
  refine k_ixor (v := (-1)) C (by decide) dX12_spills_16 ?_
  refine k_iand (v := 53) C (by decide) dX12_spills_17 ?_
  refine lv_if_ne (tgt := 57) C.1 C.2.1 dX12_spills_18 (by decide) (fun _ => ?_) (fun c5839 => absurd c5839 (by decide))
  refine lv_iinc (v := 54) (lv' := [(4, .int 54), (3, .int 0), (0, .ref h0), (1, .int 0), (2, .int x0)]) C.1 C.2.1 dX12_spills_57 hl (k := 0) rfl (by decide) (by decide) rfl (fun ls hl => ?_)
  refine lv_goto (tgt := 5) C.1 C.2.1 dX12_spills_60 (by decide) ?_
  refine lv_iload C.1 C.2.1 dX12_spills_5 (lv_at hl 0 rfl) ?_
  refine lv_bipush (v := 64) C.1 C.2.1 dX12_spills_7 (by decide) ?_
  refine lv_icmp_ge (tgt := 63) C.1 C.2.1 dX12_spills_9 (by decide) (fun c5840 => absurd c5840 (by decide)) (fun _ => ?_)
  refine lv_iload C.1 C.2.1 dX12_spills_12 (lv_at hl 0 rfl) ?_
  refine lv_iload_n C.1 C.2.1 dX12_spills_14 rfl (lv_at hl 3 rfl) ?_
  refine lv_iconst (v := (-1)) C.1 C.2.1 dX12_spills_15 (by decide) ?_
  refine k_ixor (v := (-1)) C (by decide) dX12_spills_16 ?_
  refine k_iand (v := 54) C (by decide) dX12_spills_17 ?_
  refine lv_if_ne (tgt := 57) C.1 C.2.1 dX12_spills_18 (by decide) (fun _ => ?_) (fun c5841 => absurd c5841 (by decide))
  refine lv_iinc (v := 55) (lv' := [(4, .int 55), (3, .int 0), (0, .ref h0), (1, .int 0), (2, .int x0)]) C.1 C.2.1 dX12_spills_57 hl (k := 0) rfl (by decide) (by decide) rfl (fun ls hl => ?_)
  refine lv_goto (tgt := 5) C.1 C.2.1 dX12_spills_60 (by decide) ?_
  refine lv_iload C.1 C.2.1 dX12_spills_5 (lv_at hl 0 rfl) ?_
  refine lv_bipush (v := 64) C.1 C.2.1 dX12_spills_7 (by decide) ?_
  refine lv_icmp_ge (tgt := 63) C.1 C.2.1 dX12_spills_9 (by decide) (fun c5842 => absurd c5842 (by decide)) (fun _ => ?_)
  refine lv_iload C.1 C.2.1 dX12_spills_12 (lv_at hl 0 rfl) ?_
  refine lv_iload_n C.1 C.2.1 dX12_spills_14 rfl (lv_at hl 3 rfl) ?_
  refine lv_iconst (v := (-1)) C.1 C.2.1 dX12_spills_15 (by decide) ?_
  refine k_ixor (v := (-1)) C (by decide) dX12_spills_16 ?_
  refine k_iand (v := 55) C (by decide) dX12_spills_17 ?_
  refine lv_if_ne (tgt := 57) C.1 C.2.1 dX12_spills_18 (by decide) (fun _ => ?_) (fun c5843 => absurd c5843 (by decide))
  refine lv_iinc (v := 56) (lv' := [(4, .int 56), (3, .int 0), (0, .ref h0), (1, .int 0), (2, .int x0)]) C.1 C.2.1 dX12_spills_57 hl (k := 0) rfl (by decide) (by decide) rfl (fun ls hl => ?_)
  refine lv_goto (tgt := 5) C.1 C.2.1 dX12_spills_60 (by decide) ?_
  refine lv_iload C.1 C.2.1 dX12_spills_5 (lv_at hl 0 rfl) ?_
  refine lv_bipush (v := 64) C.1 C.2.1 dX12_spills_7 (by decide) ?_
  refine lv_icmp_ge (tgt := 63) C.1 C.2.1 dX12_spills_9 (by decide) (fun c5844 => absurd c5844 (by decide)) (fun _ => ?_)
  refine lv_iload C.1 C.2.1 dX12_spills_12 (lv_at hl 0 rfl) ?_
  refine lv_iload_n C.1 C.2.1 dX12_spills_14 rfl (lv_at hl 3 rfl) ?_
  refine lv_iconst (v := (-1)) C.1 C.2.1 dX12_spills_15 (by decide) ?_
  refine k_ixor (v := (-1)) C (by decide) dX12_spills_16 ?_
  refine k_iand (v := 56) C (by decide) dX12_spills_17 ?_
  refine lv_if_ne (tgt := 57) C.1 C.2.1 dX12_spills_18 (by decide) (fun _ => ?_) (fun c5845 => absurd c5845 (by decide))
  refine lv_iinc (v := 57) (lv' := [(4, .int 57), (3, .int 0), (0, .ref h0), (1, .int 0), (2, .int x0)]) C.1 C.2.1 dX12_spills_57 hl (k := 0) rfl (by decide) (by decide) rfl (fun ls hl => ?_)
  refine lv_goto (tgt := 5) C.1 C.2.1 dX12_spills_60 (by decide) ?_
  refine lv_iload C.1 C.2.1 dX12_spills_5 (lv_at hl 0 rfl) ?_
  refine lv_bipush (v := 64) C.1 C.2.1 dX12_spills_7 (by decide) ?_
  refine lv_icmp_ge (tgt := 63) C.1 C.2.1 dX12_spills_9 (by decide) (fun c5846 => absurd c5846 (by decide)) (fun _ => ?_)
  refine lv_iload C.1 C.2.1 dX12_spills_12 (lv_at hl 0 rfl) ?_
  refine lv_iload_n C.1 C.2.1 dX12_spills_14 rfl (lv_at hl 3 rfl) ?_
  refine lv_iconst (v := (-1)) C.1 C.2.1 dX12_spills_15 (by decide) ?_
  refine k_ixor (v := (-1)) C (by decide) dX12_spills_16 ?_
  refine k_iand (v := 57) C (by decide) dX12_spills_17 ?_
  refine lv_if_ne (tgt := 57) C.1 C.2.1 dX12_spills_18 (by decide) (fun _ => ?_) (fun c5847 => absurd c5847 (by decide))
  refine lv_iinc (v := 58) (lv' := [(4, .int 58), (3, .int 0), (0, .ref h0), (1, .int 0), (2, .int x0)]) C.1 C.2.1 dX12_spills_57 hl (k := 0) rfl (by decide) (by decide) rfl (fun ls hl => ?_)
  refine lv_goto (tgt := 5) C.1 C.2.1 dX12_spills_60 (by decide) ?_
  refine lv_iload C.1 C.2.1 dX12_spills_5 (lv_at hl 0 rfl) ?_
  refine lv_bipush (v := 64) C.1 C.2.1 dX12_spills_7 (by decide) ?_
  refine lv_icmp_ge (tgt := 63) C.1 C.2.1 dX12_spills_9 (by decide) (fun c5848 => absurd c5848 (by decide)) (fun _ => ?_)
  refine lv_iload C.1 C.2.1 dX12_spills_12 (lv_at hl 0 rfl) ?_
  refine lv_iload_n C.1 C.2.1 dX12_spills_14 rfl (lv_at hl 3 rfl) ?_
  refine lv_iconst (v := (-1)) C.1 C.2.1 dX12_spills_15 (by decide) ?_
  refine k_ixor (v := (-1)) C (by decide) dX12_spills_16 ?_
  refine k_iand (v := 58) C (by decide) dX12_spills_17 ?_
  refine lv_if_ne (tgt := 57) C.1 C.2.1 dX12_spills_18 (by decide) (fun _ => ?_) (fun c5849 => absurd c5849 (by decide))
  refine lv_iinc (v := 59) (lv' := [(4, .int 59), (3, .int 0), (0, .ref h0), (1, .int 0), (2, .int x0)]) C.1 C.2.1 dX12_spills_57 hl (k := 0) rfl (by decide) (by decide) rfl (fun ls hl => ?_)
  refine lv_goto (tgt := 5) C.1 C.2.1 dX12_spills_60 (by decide) ?_
  refine lv_iload C.1 C.2.1 dX12_spills_5 (lv_at hl 0 rfl) ?_
  refine lv_bipush (v := 64) C.1 C.2.1 dX12_spills_7 (by decide) ?_
  refine lv_icmp_ge (tgt := 63) C.1 C.2.1 dX12_spills_9 (by decide) (fun c5850 => absurd c5850 (by decide)) (fun _ => ?_)
  refine lv_iload C.1 C.2.1 dX12_spills_12 (lv_at hl 0 rfl) ?_
  refine lv_iload_n C.1 C.2.1 dX12_spills_14 rfl (lv_at hl 3 rfl) ?_
  refine lv_iconst (v := (-1)) C.1 C.2.1 dX12_spills_15 (by decide) ?_
  refine k_ixor (v := (-1)) C (by decide) dX12_spills_16 ?_
  refine k_iand (v := 59) C (by decide) dX12_spills_17 ?_
  refine lv_if_ne (tgt := 57) C.1 C.2.1 dX12_spills_18 (by decide) (fun _ => ?_) (fun c5851 => absurd c5851 (by decide))
  refine lv_iinc (v := 60) (lv' := [(4, .int 60), (3, .int 0), (0, .ref h0), (1, .int 0), (2, .int x0)]) C.1 C.2.1 dX12_spills_57 hl (k := 0) rfl (by decide) (by decide) rfl (fun ls hl => ?_)
  refine lv_goto (tgt := 5) C.1 C.2.1 dX12_spills_60 (by decide) ?_
  refine lv_iload C.1 C.2.1 dX12_spills_5 (lv_at hl 0 rfl) ?_
  refine lv_bipush (v := 64) C.1 C.2.1 dX12_spills_7 (by decide) ?_
  refine lv_icmp_ge (tgt := 63) C.1 C.2.1 dX12_spills_9 (by decide) (fun c5852 => absurd c5852 (by decide)) (fun _ => ?_)
  refine lv_iload C.1 C.2.1 dX12_spills_12 (lv_at hl 0 rfl) ?_
  refine lv_iload_n C.1 C.2.1 dX12_spills_14 rfl (lv_at hl 3 rfl) ?_
  refine lv_iconst (v := (-1)) C.1 C.2.1 dX12_spills_15 (by decide) ?_
  refine k_ixor (v := (-1)) C (by decide) dX12_spills_16 ?_
  refine k_iand (v := 60) C (by decide) dX12_spills_17 ?_
  refine lv_if_ne (tgt := 57) C.1 C.2.1 dX12_spills_18 (by decide) (fun _ => ?_) (fun c5853 => absurd c5853 (by decide))
  refine lv_iinc (v := 61) (lv' := [(4, .int 61), (3, .int 0), (0, .ref h0), (1, .int 0), (2, .int x0)]) C.1 C.2.1 dX12_spills_57 hl (k := 0) rfl (by decide) (by decide) rfl (fun ls hl => ?_)
  refine lv_goto (tgt := 5) C.1 C.2.1 dX12_spills_60 (by decide) ?_
  refine lv_iload C.1 C.2.1 dX12_spills_5 (lv_at hl 0 rfl) ?_
  refine lv_bipush (v := 64) C.1 C.2.1 dX12_spills_7 (by decide) ?_
  refine lv_icmp_ge (tgt := 63) C.1 C.2.1 dX12_spills_9 (by decide) (fun c5854 => absurd c5854 (by decide)) (fun _ => ?_)
  refine lv_iload C.1 C.2.1 dX12_spills_12 (lv_at hl 0 rfl) ?_
  refine lv_iload_n C.1 C.2.1 dX12_spills_14 rfl (lv_at hl 3 rfl) ?_
  refine lv_iconst (v := (-1)) C.1 C.2.1 dX12_spills_15 (by decide) ?_
  refine k_ixor (v := (-1)) C (by decide) dX12_spills_16 ?_
  refine k_iand (v := 61) C (by decide) dX12_spills_17 ?_
  refine lv_if_ne (tgt := 57) C.1 C.2.1 dX12_spills_18 (by decide) (fun _ => ?_) (fun c5855 => absurd c5855 (by decide))
  refine lv_iinc (v := 62) (lv' := [(4, .int 62), (3, .int 0), (0, .ref h0), (1, .int 0), (2, .int x0)]) C.1 C.2.1 dX12_spills_57 hl (k := 0) rfl (by decide) (by decide) rfl (fun ls hl => ?_)
  refine lv_goto (tgt := 5) C.1 C.2.1 dX12_spills_60 (by decide) ?_
  refine lv_iload C.1 C.2.1 dX12_spills_5 (lv_at hl 0 rfl) ?_
  refine lv_bipush (v := 64) C.1 C.2.1 dX12_spills_7 (by decide) ?_
  refine lv_icmp_ge (tgt := 63) C.1 C.2.1 dX12_spills_9 (by decide) (fun c5856 => absurd c5856 (by decide)) (fun _ => ?_)
  refine lv_iload C.1 C.2.1 dX12_spills_12 (lv_at hl 0 rfl) ?_
  refine lv_iload_n C.1 C.2.1 dX12_spills_14 rfl (lv_at hl 3 rfl) ?_
  refine lv_iconst (v := (-1)) C.1 C.2.1 dX12_spills_15 (by decide) ?_
  refine k_ixor (v := (-1)) C (by decide) dX12_spills_16 ?_
  refine k_iand (v := 62) C (by decide) dX12_spills_17 ?_
  refine lv_if_ne (tgt := 57) C.1 C.2.1 dX12_spills_18 (by decide) (fun _ => ?_) (fun c5857 => absurd c5857 (by decide))
  refine lv_iinc (v := 63) (lv' := [(4, .int 63), (3, .int 0), (0, .ref h0), (1, .int 0), (2, .int x0)]) C.1 C.2.1 dX12_spills_57 hl (k := 0) rfl (by decide) (by decide) rfl (fun ls hl => ?_)
  refine lv_goto (tgt := 5) C.1 C.2.1 dX12_spills_60 (by decide) ?_
  refine lv_iload C.1 C.2.1 dX12_spills_5 (lv_at hl 0 rfl) ?_
  refine lv_bipush (v := 64) C.1 C.2.1 dX12_spills_7 (by decide) ?_
  refine lv_icmp_ge (tgt := 63) C.1 C.2.1 dX12_spills_9 (by decide) (fun c5858 => absurd c5858 (by decide)) (fun _ => ?_)
  refine lv_iload C.1 C.2.1 dX12_spills_12 (lv_at hl 0 rfl) ?_
  refine lv_iload_n C.1 C.2.1 dX12_spills_14 rfl (lv_at hl 3 rfl) ?_
  refine lv_iconst (v := (-1)) C.1 C.2.1 dX12_spills_15 (by decide) ?_
  refine k_ixor (v := (-1)) C (by decide) dX12_spills_16 ?_
  refine k_iand (v := 63) C (by decide) dX12_spills_17 ?_
  refine lv_if_ne (tgt := 57) C.1 C.2.1 dX12_spills_18 (by decide) (fun _ => ?_) (fun c5859 => absurd c5859 (by decide))
  refine lv_iinc (v := 64) (lv' := [(4, .int 64), (3, .int 0), (0, .ref h0), (1, .int 0), (2, .int x0)]) C.1 C.2.1 dX12_spills_57 hl (k := 0) rfl (by decide) (by decide) rfl (fun ls hl => ?_)
  refine lv_goto (tgt := 5) C.1 C.2.1 dX12_spills_60 (by decide) ?_
  refine lv_iload C.1 C.2.1 dX12_spills_5 (lv_at hl 0 rfl) ?_
  refine lv_bipush (v := 64) C.1 C.2.1 dX12_spills_7 (by decide) ?_
  refine lv_icmp_ge (tgt := 63) C.1 C.2.1 dX12_spills_9 (by decide) (fun _ => ?_) (fun c5860 => absurd c5860 (by decide))
  refine lv_iload_n C.1 C.2.1 dX12_spills_63 rfl (lv_at hl 1 rfl) ?_
  exact k_zret C hr hlk rfl Wd () rfl [0, 1] rfl (by decide) [] rfl (by decide) (by decide) dX12_spills_64
set_option maxHeartbeats 4000000 in
set_option maxRecDepth 100000 in
theorem kcX12_registers (l : Launch) (D : va_G) (h0 h1 h2 h3 h4 h5 h6 h7 h8 h9 h10 h11 h12 h13 h14 h15 h16 h17 h18 h19 h20 h21 h22 h23 h24 h25 : Nat) (x0 x1 : Int32) (a1 a23 a24 : ClassId) (sz : Nat)  : Met l yX12_registers (Cond.code yX12_registers cX12_registers 5 (some .int) :: gG) { frames := 4, cells := 0, slots := 0, locals := 133 } (cPre D [(a1, .int), (a23, .int), (a24, .int)] [(h0, .inr (12, [.ref h1, .ref h2, .ref h3, .ref h4, .int 0, .int 0, .ref h5, .int 0, .int 0, .int 0, .int 0, .int 0, .int 0, .int 0, .int 0, .int 0, .int 0, .int 0, .int 0, .int 0, .int (-1), .int 0, .int 0, .int 0, .ref h6, .ref h7, .ref h8, .ref h9, .ref h10, .ref h11, .int 0, .int 0, .int 0, .int 0, .ref h12, .ref h13, .ref h14, .int 0, .int 0, .int 0, .int 0, .ref h15, .ref h16, .int 0, .ref h17, .ref h18, .int 0, .ref h19, .int 0, .ref h20, .ref h21, .ref h22, .int 0, .ref h23, .ref h24, .ref h25])), (h2, .inl (a1, 6, .inl (fun _ => 0))), (h24, .inl (a23, 6, .inl (fun _ => 0))), (h25, .inl (a24, 6, .inl (fun _ => 0)))] sz [.ref h0, .int x0, .int x1]) (va_Qi (fun (r : Int32) (_ : Unit) => (x0 < (0 : Int32) ∧ r = (-1)) ∨ (¬ x0 < (0 : Int32) ∧ (5 : Int32) < x0 ∧ r = (-1)) ∨ (¬ x0 < (0 : Int32) ∧ ¬ (5 : Int32) < x0 ∧ x1 = (0 : Int32) ∧ r = 0) ∨ (¬ x0 < (0 : Int32) ∧ ¬ (5 : Int32) < x0 ∧ ¬ x1 = (0 : Int32) ∧ x1 < (10 : Int32) ∧ x1 < (20 : Int32) ∧ r = (-1)) ∨ (¬ x0 < (0 : Int32) ∧ ¬ (5 : Int32) < x0 ∧ ¬ x1 = (0 : Int32) ∧ ¬ x1 < (10 : Int32) ∧ (15 : Int32) < x1 ∧ x1 < (20 : Int32) ∧ r = (-1)) ∨ (¬ x0 < (0 : Int32) ∧ ¬ (5 : Int32) < x0 ∧ ¬ x1 = (0 : Int32) ∧ ¬ x1 < (10 : Int32) ∧ (15 : Int32) < x1 ∧ ¬ x1 < (20 : Int32) ∧ (26 : Int32) < x1 ∧ r = (-1)) ∨ (¬ x0 < (0 : Int32) ∧ ¬ (5 : Int32) < x0 ∧ ¬ x1 = (0 : Int32) ∧ ¬ x1 < (10 : Int32) ∧ (15 : Int32) < x1 ∧ ¬ x1 < (20 : Int32) ∧ ¬ (26 : Int32) < x1 ∧ r = 0) ∨ (¬ x0 < (0 : Int32) ∧ ¬ (5 : Int32) < x0 ∧ ¬ x1 = (0 : Int32) ∧ ¬ x1 < (10 : Int32) ∧ ¬ (15 : Int32) < x1 ∧ r = ((upd (upd (upd (upd (upd (upd (fun _ => 0) 5 (-1)) 4 (-1)) 3 (-1)) 2 (-1)) 1 (-1)) 0 (-1)) (x1 - 10).toNatClampNeg))) (fun u t => cB D (va_A [(h0, .inr (12, [.ref h1, .ref h2, .ref h3, .ref h4, .int 0, .int 0, .ref h5, .int 0, .int 0, .int 0, .int 0, .int 0, .int 0, .int 0, .int 0, .int 0, .int 0, .int 0, .int 0, .int 0, .int (-1), .int 0, .int 0, .int 0, .ref h6, .ref h7, .ref h8, .ref h9, .ref h10, .ref h11, .int 0, .int 0, .int 0, .int 0, .ref h12, .ref h13, .ref h14, .int 0, .int 0, .int 0, .int 0, .ref h15, .ref h16, .int 0, .ref h17, .ref h18, .int 0, .ref h19, .int 0, .ref h20, .ref h21, .ref h22, .int 0, .ref h23, .ref h24, .ref h25])), (h2, .inl (a1, 6, .inl (fun _ => 0))), (h24, .inl (a23, 6, .inl (fun _ => 0))), (h25, .inl (a24, 6, .inl (fun _ => 0)))] sz) ((fun (_ : Unit) => ([] : List (ClassId × FieldType))) u) ((fun (_ : Unit) => ([] : va_W)) u) t) (va_A [(h0, .inr (12, [.ref h1, .ref h2, .ref h3, .ref h4, .int 0, .int 0, .ref h5, .int 0, .int 0, .int 0, .int 0, .int 0, .int 0, .int 0, .int 0, .int 0, .int 0, .int 0, .int 0, .int 0, .int (-1), .int 0, .int 0, .int 0, .ref h6, .ref h7, .ref h8, .ref h9, .ref h10, .ref h11, .int 0, .int 0, .int 0, .int 0, .ref h12, .ref h13, .ref h14, .int 0, .int 0, .int 0, .int 0, .ref h15, .ref h16, .int 0, .ref h17, .ref h18, .int 0, .ref h19, .int 0, .ref h20, .ref h21, .ref h22, .int 0, .ref h23, .ref h24, .ref h25])), (h2, .inl (a1, 6, .inl (fun _ => 0))), (h24, .inl (a23, 6, .inl (fun _ => 0))), (h25, .inl (a24, 6, .inl (fun _ => 0)))] sz)) 0 0 (va_A [(h0, .inr (12, [.ref h1, .ref h2, .ref h3, .ref h4, .int 0, .int 0, .ref h5, .int 0, .int 0, .int 0, .int 0, .int 0, .int 0, .int 0, .int 0, .int 0, .int 0, .int 0, .int 0, .int 0, .int (-1), .int 0, .int 0, .int 0, .ref h6, .ref h7, .ref h8, .ref h9, .ref h10, .ref h11, .int 0, .int 0, .int 0, .int 0, .ref h12, .ref h13, .ref h14, .int 0, .int 0, .int 0, .int 0, .ref h15, .ref h16, .int 0, .ref h17, .ref h18, .int 0, .ref h19, .int 0, .ref h20, .ref h21, .ref h22, .int 0, .ref h23, .ref h24, .ref h25])), (h2, .inl (a1, 6, .inl (fun _ => 0))), (h24, .inl (a23, 6, .inl (fun _ => 0))), (h25, .inl (a24, 6, .inl (fun _ => 0)))] sz) := by
  refine Met.ofW (cc := cX12_registers) (maxL := 5) (ret := (some .int)) (by decide) rfl ?_
  intro p e s m args below meth c s₁ B hml hv
  obtain ⟨rfl, aks, rfl, Wd⟩ := k_enter hv
  have C : CallFix p m c cX12_registers 5 s _ gG RX12 := ⟨B.exec, B.bytes, hml, findClass_of_methodNamed B.named, fun w h => atoms_spec (ws := Cond.code yX12_registers cX12_registers 5 (some .int) :: gG) B.pre w (List.mem_cons_of_mem _ h)⟩
  have hr := B.returns
  have hlk := B.notSynchronized
  generalize va_A [(h0, .inr (12, [.ref h1, .ref h2, .ref h3, .ref h4, .int 0, .int 0, .ref h5, .int 0, .int 0, .int 0, .int 0, .int 0, .int 0, .int 0, .int 0, .int 0, .int 0, .int 0, .int 0, .int 0, .int (-1), .int 0, .int 0, .int 0, .ref h6, .ref h7, .ref h8, .ref h9, .ref h10, .ref h11, .int 0, .int 0, .int 0, .int 0, .ref h12, .ref h13, .ref h14, .int 0, .int 0, .int 0, .int 0, .ref h15, .ref h16, .int 0, .ref h17, .ref h18, .int 0, .ref h19, .int 0, .ref h20, .ref h21, .ref h22, .int 0, .ref h23, .ref h24, .ref h25])), (h2, .inl (a1, 6, .inl (fun _ => 0))), (h24, .inl (a23, 6, .inl (fun _ => 0))), (h25, .inl (a24, 6, .inl (fun _ => 0)))] s.heap.size = A at Wd ⊢
  refine k_locals (Nat.le_of_ble_eq_true rfl) [(0, .ref h0), (1, .int x0), (2, .int x1)] rfl (fun ls hl => ?_)
  refine lv_iload_n C.1 C.2.1 dX12_registers_0 rfl (lv_at hl 1 rfl) ?_
  refine k_pi (k_runS (rest := []) C aks Wd cs_X12_249 (kcX12_isSlot l D x0 _ ) [] rfl (by decide) [] rfl rfl rfl ⟨(Nat.le_of_ble_eq_true rfl), (Nat.le_of_ble_eq_true rfl)⟩ hl.1 rfl rfl (Nat.le_of_ble_eq_true rfl) ⟨(Nat.le_of_ble_eq_true rfl), (Nat.le_of_ble_eq_true rfl)⟩ dX12_registers_1) (fun r w5868 => ?_)
  rcases w5868 with ⟨c5869, rfl⟩ | ⟨c5870, c5871, rfl⟩ | ⟨c5872, c5873, rfl⟩
  · refine lv_if_eq (tgt := 33) C.1 C.2.1 dX12_registers_4 (by decide) (fun _ => ?_) (fun c5874 => absurd c5874 (by decide))
    refine lv_iconst (v := (-1)) C.1 C.2.1 dX12_registers_33 (by decide) ?_
    exact k_zret C hr hlk rfl Wd () (Or.inl (⟨c5869, rfl⟩)) [] rfl (by decide) [] rfl (by decide) (by decide) dX12_registers_34
  · refine lv_if_eq (tgt := 33) C.1 C.2.1 dX12_registers_4 (by decide) (fun _ => ?_) (fun c5875 => absurd c5875 (by decide))
    refine lv_iconst (v := (-1)) C.1 C.2.1 dX12_registers_33 (by decide) ?_
    exact k_zret C hr hlk rfl Wd () (Or.inr (Or.inl (⟨c5870, c5871, rfl⟩))) [] rfl (by decide) [] rfl (by decide) (by decide) dX12_registers_34
  · refine lv_if_eq (tgt := 33) C.1 C.2.1 dX12_registers_4 (by decide) (fun c5876 => absurd c5876 (by decide)) (fun _ => ?_)
    refine lv_iload_n C.1 C.2.1 dX12_registers_7 rfl (lv_at hl 2 rfl) ?_
    refine lv_if_eq (tgt := 35) C.1 C.2.1 dX12_registers_8 (by decide) (fun c5877 => ?_) (fun c5877 => ?_)
    · subst c5877
      refine lv_aload_n C.1 C.2.1 dX12_registers_35 rfl (lv_at hl 0 rfl) ?_
      refine lv_iload_n C.1 C.2.1 dX12_registers_36 rfl (lv_at hl 1 rfl) ?_
      refine k_cv Wd [0, 1, 2] [3] rfl (wr := [(h25, .inl (a24, 6, .inl (fun _ => 0)))]) rfl (by decide) (by decide) (cells' := 0) (slots' := 0) (by decide) (by decide) (k_runV (rest := []) C aks Wd cs_X12_472 (kcX12_clashIn l D h0 h1 h2 h3 h4 h5 h6 h7 h8 h9 h10 h11 h12 h13 h14 h15 h16 h17 h18 h19 h20 h21 h22 h23 h24 h25 x0 a1 a23 _ c5872 c5873) [0, 1, 2] rfl (by decide) [0, 1] rfl 0 12 rfl rfl rfl rfl rfl ⟨(Nat.le_of_ble_eq_true rfl), (Nat.le_of_ble_eq_true rfl)⟩ hl.1 rfl rfl (Nat.le_of_ble_eq_true rfl) ⟨(Nat.le_of_ble_eq_true rfl), (Nat.le_of_ble_eq_true rfl)⟩ dX12_registers_37) (fun _ H locs w5878 Wd => ?_)
      have Wd : wX D [(a1, .int), (a23, .int), (a24, .int)] s [(h25, .inl (a24, 6, .inl (fun _ => 0))), (h0, .inr (12, [.ref h1, .ref h2, .ref h3, .ref h4, .int 0, .int 0, .ref h5, .int 0, .int 0, .int 0, .int 0, .int 0, .int 0, .int 0, .int 0, .int 0, .int 0, .int 0, .int 0, .int 0, .int (-1), .int 0, .int 0, .int 0, .ref h6, .ref h7, .ref h8, .ref h9, .ref h10, .ref h11, .int 0, .int 0, .int 0, .int 0, .ref h12, .ref h13, .ref h14, .int 0, .int 0, .int 0, .int 0, .ref h15, .ref h16, .int 0, .ref h17, .ref h18, .int 0, .ref h19, .int 0, .ref h20, .ref h21, .ref h22, .int 0, .ref h23, .ref h24, .ref h25])), (h2, .inl (a1, 6, .inl (fun _ => 0))), (h24, .inl (a23, 6, .inl (fun _ => 0)))] _ A s.heap _ := Wd
      refine lv_aload_n C.1 C.2.1 dX12_registers_40 rfl (lv_at hl 0 rfl) ?_
      refine k_pi (k_runV (rest := []) C aks Wd cs_X12_475 (kcX12_inRow l D h0 h1 h2 h3 h4 h5 h6 h7 h8 h9 h10 h11 h12 h13 h14 h15 h16 h17 h18 h19 h20 h21 h22 h23 h24 h25 _ ) [1] rfl (by decide) [] rfl 1 12 rfl rfl rfl rfl rfl ⟨(Nat.le_of_ble_eq_true rfl), (Nat.le_of_ble_eq_true rfl)⟩ hl.1 rfl rfl (Nat.le_of_ble_eq_true rfl) ⟨(Nat.le_of_ble_eq_true rfl), (Nat.le_of_ble_eq_true rfl)⟩ dX12_registers_41) (fun r w5879 => ?_)
      obtain rfl := w5879
      refine lv_istore_n (lv' := [(3, .int 0), (0, .ref h0), (1, .int x0), (2, .int 0)]) C.1 C.2.1 dX12_registers_44 rfl hl (by decide) rfl (fun ls hl => ?_)
      refine lv_iload_n C.1 C.2.1 dX12_registers_45 rfl (lv_at hl 3 rfl) ?_
      refine lv_bipush (v := 15) C.1 C.2.1 dX12_registers_46 (by decide) ?_
      refine lv_icmp_le (tgt := 61) C.1 C.2.1 dX12_registers_48 (by decide) (fun _ => ?_) (fun c5880 => absurd c5880 (by decide))
      refine lv_aload_n C.1 C.2.1 dX12_registers_61 rfl (lv_at hl 1 rfl) ?_
      refine lv_iload_n C.1 C.2.1 dX12_registers_62 rfl (lv_at hl 0 rfl) ?_
      refine k_ci Wd [1, 0] [2, 3] rfl (wr := [(h2, .inl (a1, 6, .inl (fun _ => 0))), (h24, .inl (a23, 6, .inl (fun _ => 0)))]) rfl (by decide) (by decide) (cells' := 0) (slots' := 0) (by decide) (by decide) (k_runV (rest := []) C aks Wd cs_X12_481 (kcX12_enough l D h0 h1 h2 h3 h4 h5 h6 h7 h8 h9 h10 h11 h12 h13 h14 h15 h16 h17 h18 h19 h20 h21 h22 h23 h24 h25 a24 _ ) [1, 0] rfl (by decide) [2] rfl 1 12 rfl rfl rfl rfl rfl ⟨(Nat.le_of_ble_eq_true rfl), (Nat.le_of_ble_eq_true rfl)⟩ hl.1 rfl rfl (Nat.le_of_ble_eq_true rfl) ⟨(Nat.le_of_ble_eq_true rfl), (Nat.le_of_ble_eq_true rfl)⟩ dX12_registers_63) (fun r _ H locs w5881 Wd => ?_)
      have Wd : wX D [(a1, .int), (a23, .int), (a24, .int)] s [(h2, .inl (a1, 6, .inl (fun _ => 0))), (h24, .inl (a23, 6, .inl (fun _ => 0))), (h0, .inr (12, [.ref h1, .ref h2, .ref h3, .ref h4, .int 0, .int 0, .ref h5, .int 0, .int 0, .int 0, .int 0, .int 0, .int 0, .int 0, .int 0, .int 0, .int 0, .int 0, .int 0, .int 0, .int (-1), .int 0, .int 0, .int 0, .ref h6, .ref h7, .ref h8, .ref h9, .ref h10, .ref h11, .int 0, .int 0, .int 0, .int 0, .ref h12, .ref h13, .ref h14, .int 0, .int 0, .int 0, .int 0, .ref h15, .ref h16, .int 0, .ref h17, .ref h18, .int 0, .ref h19, .int 0, .ref h20, .ref h21, .ref h22, .int 0, .ref h23, .ref h24, .ref h25])), (h25, .inl (a24, 6, .inl (upd (upd (upd (upd (upd (upd (fun _ => 0) 5 (-1)) 4 (-1)) 3 (-1)) 2 (-1)) 1 (-1)) 0 (-1))))] _ A s.heap _ := Wd
      obtain rfl := w5881
      refine lv_istore (lv' := [(4, .int 0), (3, .int 0), (0, .ref h0), (1, .int x0), (2, .int 0)]) C.1 C.2.1 dX12_registers_66 hl (by decide) rfl (fun ls hl => ?_)
      refine lv_iload_n C.1 C.2.1 dX12_registers_68 rfl (lv_at hl 4 rfl) ?_
      refine lv_if_ne (tgt := 77) C.1 C.2.1 dX12_registers_69 (by decide) (fun c5882 => absurd c5882 (by decide)) (fun _ => ?_)
      refine lv_iload C.1 C.2.1 dX12_registers_72 (lv_at hl 0 rfl) ?_
      refine lv_goto (tgt := 86) C.1 C.2.1 dX12_registers_74 (by decide) ?_
      exact k_zret C hr hlk rfl Wd () (Or.inr (Or.inr (Or.inl (⟨c5872, c5873, rfl, rfl⟩)))) [] rfl (by decide) [] rfl (by decide) (by decide) dX12_registers_86
    · refine lv_iload_n C.1 C.2.1 dX12_registers_11 rfl (lv_at hl 2 rfl) ?_
      refine lv_bipush (v := 10) C.1 C.2.1 dX12_registers_12 (by decide) ?_
      refine lv_bipush (v := 15) C.1 C.2.1 dX12_registers_14 (by decide) ?_
      refine k_pi (k_runS (rest := []) C aks Wd cs_X12_90 (kcX12_isIn l D x1 10 15 _ ) [] rfl (by decide) [] rfl rfl rfl ⟨(Nat.le_of_ble_eq_true rfl), (Nat.le_of_ble_eq_true rfl)⟩ hl.1 rfl rfl (Nat.le_of_ble_eq_true rfl) ⟨(Nat.le_of_ble_eq_true rfl), (Nat.le_of_ble_eq_true rfl)⟩ dX12_registers_16) (fun r w5883 => ?_)
      rcases w5883 with ⟨c5884, rfl⟩ | ⟨c5885, c5886, rfl⟩ | ⟨c5887, c5888, rfl⟩
      · refine lv_if_ne (tgt := 35) C.1 C.2.1 dX12_registers_19 (by decide) (fun c5889 => absurd c5889 (by decide)) (fun _ => ?_)
        refine lv_iload_n C.1 C.2.1 dX12_registers_22 rfl (lv_at hl 2 rfl) ?_
        refine lv_bipush (v := 20) C.1 C.2.1 dX12_registers_23 (by decide) ?_
        refine lv_bipush (v := 26) C.1 C.2.1 dX12_registers_25 (by decide) ?_
        refine k_pi (k_runS (rest := []) C aks Wd cs_X12_90 (kcX12_isIn l D x1 20 26 _ ) [] rfl (by decide) [] rfl rfl rfl ⟨(Nat.le_of_ble_eq_true rfl), (Nat.le_of_ble_eq_true rfl)⟩ hl.1 rfl rfl (Nat.le_of_ble_eq_true rfl) ⟨(Nat.le_of_ble_eq_true rfl), (Nat.le_of_ble_eq_true rfl)⟩ dX12_registers_27) (fun r w5890 => ?_)
        rcases w5890 with ⟨c5891, rfl⟩ | ⟨c5892, c5893, rfl⟩ | ⟨c5894, c5895, rfl⟩
        · refine lv_if_ne (tgt := 35) C.1 C.2.1 dX12_registers_30 (by decide) (fun c5896 => absurd c5896 (by decide)) (fun _ => ?_)
          refine lv_iconst (v := (-1)) C.1 C.2.1 dX12_registers_33 (by decide) ?_
          exact k_zret C hr hlk rfl Wd () (Or.inr (Or.inr (Or.inr (Or.inl (⟨c5872, c5873, c5877, c5884, c5891, rfl⟩))))) [] rfl (by decide) [] rfl (by decide) (by decide) dX12_registers_34
        · exact False.elim (by have z0 := kz_ne c5877; have z1 := kz_lt c5884; have z2 := kz_nlt c5892; have t0 : (0 : Int32).toInt = 0 := (by decide); have t10 : (10 : Int32).toInt = 10 := (by decide); have t20 : (20 : Int32).toInt = 20 := (by decide); omega)
        · exact False.elim (by have z0 := kz_ne c5877; have z1 := kz_lt c5884; have z2 := kz_nlt c5894; have t0 : (0 : Int32).toInt = 0 := (by decide); have t10 : (10 : Int32).toInt = 10 := (by decide); have t20 : (20 : Int32).toInt = 20 := (by decide); omega)
      · refine lv_if_ne (tgt := 35) C.1 C.2.1 dX12_registers_19 (by decide) (fun c5897 => absurd c5897 (by decide)) (fun _ => ?_)
        refine lv_iload_n C.1 C.2.1 dX12_registers_22 rfl (lv_at hl 2 rfl) ?_
        refine lv_bipush (v := 20) C.1 C.2.1 dX12_registers_23 (by decide) ?_
        refine lv_bipush (v := 26) C.1 C.2.1 dX12_registers_25 (by decide) ?_
        refine k_pi (k_runS (rest := []) C aks Wd cs_X12_90 (kcX12_isIn l D x1 20 26 _ ) [] rfl (by decide) [] rfl rfl rfl ⟨(Nat.le_of_ble_eq_true rfl), (Nat.le_of_ble_eq_true rfl)⟩ hl.1 rfl rfl (Nat.le_of_ble_eq_true rfl) ⟨(Nat.le_of_ble_eq_true rfl), (Nat.le_of_ble_eq_true rfl)⟩ dX12_registers_27) (fun r w5898 => ?_)
        rcases w5898 with ⟨c5899, rfl⟩ | ⟨c5900, c5901, rfl⟩ | ⟨c5902, c5903, rfl⟩
        · refine lv_if_ne (tgt := 35) C.1 C.2.1 dX12_registers_30 (by decide) (fun c5904 => absurd c5904 (by decide)) (fun _ => ?_)
          refine lv_iconst (v := (-1)) C.1 C.2.1 dX12_registers_33 (by decide) ?_
          exact k_zret C hr hlk rfl Wd () (Or.inr (Or.inr (Or.inr (Or.inr (Or.inl (⟨c5872, c5873, c5877, c5885, c5886, c5899, rfl⟩)))))) [] rfl (by decide) [] rfl (by decide) (by decide) dX12_registers_34
        · refine lv_if_ne (tgt := 35) C.1 C.2.1 dX12_registers_30 (by decide) (fun c5905 => absurd c5905 (by decide)) (fun _ => ?_)
          refine lv_iconst (v := (-1)) C.1 C.2.1 dX12_registers_33 (by decide) ?_
          exact k_zret C hr hlk rfl Wd () (Or.inr (Or.inr (Or.inr (Or.inr (Or.inr (Or.inl (⟨c5872, c5873, c5877, c5885, c5886, c5900, c5901, rfl⟩))))))) [] rfl (by decide) [] rfl (by decide) (by decide) dX12_registers_34
        · refine lv_if_ne (tgt := 35) C.1 C.2.1 dX12_registers_30 (by decide) (fun _ => ?_) (fun c5906 => absurd c5906 (by decide))
          refine lv_aload_n C.1 C.2.1 dX12_registers_35 rfl (lv_at hl 0 rfl) ?_
          refine lv_iload_n C.1 C.2.1 dX12_registers_36 rfl (lv_at hl 1 rfl) ?_
          refine k_cv Wd [0, 1, 2] [3] rfl (wr := [(h25, .inl (a24, 6, .inl (fun _ => 0)))]) rfl (by decide) (by decide) (cells' := 0) (slots' := 0) (by decide) (by decide) (k_runV (rest := []) C aks Wd cs_X12_472 (kcX12_clashIn l D h0 h1 h2 h3 h4 h5 h6 h7 h8 h9 h10 h11 h12 h13 h14 h15 h16 h17 h18 h19 h20 h21 h22 h23 h24 h25 x0 a1 a23 _ c5872 c5873) [0, 1, 2] rfl (by decide) [0, 1] rfl 0 12 rfl rfl rfl rfl rfl ⟨(Nat.le_of_ble_eq_true rfl), (Nat.le_of_ble_eq_true rfl)⟩ hl.1 rfl rfl (Nat.le_of_ble_eq_true rfl) ⟨(Nat.le_of_ble_eq_true rfl), (Nat.le_of_ble_eq_true rfl)⟩ dX12_registers_37) (fun _ H locs w5907 Wd => ?_)
          have Wd : wX D [(a1, .int), (a23, .int), (a24, .int)] s [(h25, .inl (a24, 6, .inl (fun _ => 0))), (h0, .inr (12, [.ref h1, .ref h2, .ref h3, .ref h4, .int 0, .int 0, .ref h5, .int 0, .int 0, .int 0, .int 0, .int 0, .int 0, .int 0, .int 0, .int 0, .int 0, .int 0, .int 0, .int 0, .int (-1), .int 0, .int 0, .int 0, .ref h6, .ref h7, .ref h8, .ref h9, .ref h10, .ref h11, .int 0, .int 0, .int 0, .int 0, .ref h12, .ref h13, .ref h14, .int 0, .int 0, .int 0, .int 0, .ref h15, .ref h16, .int 0, .ref h17, .ref h18, .int 0, .ref h19, .int 0, .ref h20, .ref h21, .ref h22, .int 0, .ref h23, .ref h24, .ref h25])), (h2, .inl (a1, 6, .inl (fun _ => 0))), (h24, .inl (a23, 6, .inl (fun _ => 0)))] _ A s.heap _ := Wd
          refine lv_aload_n C.1 C.2.1 dX12_registers_40 rfl (lv_at hl 0 rfl) ?_
          refine k_pi (k_runV (rest := []) C aks Wd cs_X12_475 (kcX12_inRow l D h0 h1 h2 h3 h4 h5 h6 h7 h8 h9 h10 h11 h12 h13 h14 h15 h16 h17 h18 h19 h20 h21 h22 h23 h24 h25 _ ) [1] rfl (by decide) [] rfl 1 12 rfl rfl rfl rfl rfl ⟨(Nat.le_of_ble_eq_true rfl), (Nat.le_of_ble_eq_true rfl)⟩ hl.1 rfl rfl (Nat.le_of_ble_eq_true rfl) ⟨(Nat.le_of_ble_eq_true rfl), (Nat.le_of_ble_eq_true rfl)⟩ dX12_registers_41) (fun r w5908 => ?_)
          obtain rfl := w5908
          refine lv_istore_n (lv' := [(3, .int 0), (0, .ref h0), (1, .int x0), (2, .int x1)]) C.1 C.2.1 dX12_registers_44 rfl hl (by decide) rfl (fun ls hl => ?_)
          refine lv_iload_n C.1 C.2.1 dX12_registers_45 rfl (lv_at hl 3 rfl) ?_
          refine lv_bipush (v := 15) C.1 C.2.1 dX12_registers_46 (by decide) ?_
          refine lv_icmp_le (tgt := 61) C.1 C.2.1 dX12_registers_48 (by decide) (fun c5909 => False.elim (by have z0 := kz_ne c5877; have z1 := kz_nlt c5885; have z2 := kz_lt c5886; have z3 := kz_nlt c5902; have z4 := kz_nlt c5903; have z5 := kz_le c5909; have t0 : (0 : Int32).toInt = 0 := (by decide); have t10 : (10 : Int32).toInt = 10 := (by decide); have t15 : (15 : Int32).toInt = 15 := (by decide); have t20 : (20 : Int32).toInt = 20 := (by decide); have t26 : (26 : Int32).toInt = 26 := (by decide); omega)) (fun _ => ?_)
          refine lv_aload_n C.1 C.2.1 dX12_registers_51 rfl (lv_at hl 1 rfl) ?_
          refine lv_iload_n C.1 C.2.1 dX12_registers_52 rfl (lv_at hl 0 rfl) ?_
          refine lv_iload_n C.1 C.2.1 dX12_registers_53 rfl (lv_at hl 3 rfl) ?_
          refine lv_bipush (v := 20) C.1 C.2.1 dX12_registers_54 (by decide) ?_
          refine k_isub (v := (x1 - 20)) C rfl dX12_registers_56 ?_
          refine k_ci Wd [1, 0] [2, 3] rfl (wr := [(h2, .inl (a1, 6, .inl (fun _ => 0))), (h24, .inl (a23, 6, .inl (fun _ => 0)))]) rfl (by decide) (by decide) (cells' := 0) (slots' := 0) (by decide) (by decide) (k_runV (rest := []) C aks Wd cs_X12_478 (kcX12_spills l D h0 h1 h2 h3 h4 h5 h6 h7 h8 h9 h10 h11 h12 h13 h14 h15 h16 h17 h18 h19 h20 h21 h22 h23 h24 h25 (x1 - 20) a24 _ ) [1, 0] rfl (by decide) [2] rfl 1 12 rfl rfl rfl rfl rfl ⟨(Nat.le_of_ble_eq_true rfl), (Nat.le_of_ble_eq_true rfl)⟩ hl.1 rfl rfl (Nat.le_of_ble_eq_true rfl) ⟨(Nat.le_of_ble_eq_true rfl), (Nat.le_of_ble_eq_true rfl)⟩ dX12_registers_57) (fun r _ H locs w5910 Wd => ?_)
          have Wd : wX D [(a1, .int), (a23, .int), (a24, .int)] s [(h2, .inl (a1, 6, .inl (fun _ => 0))), (h24, .inl (a23, 6, .inl (fun _ => 0))), (h0, .inr (12, [.ref h1, .ref h2, .ref h3, .ref h4, .int 0, .int 0, .ref h5, .int 0, .int 0, .int 0, .int 0, .int 0, .int 0, .int 0, .int 0, .int 0, .int 0, .int 0, .int 0, .int 0, .int (-1), .int 0, .int 0, .int 0, .ref h6, .ref h7, .ref h8, .ref h9, .ref h10, .ref h11, .int 0, .int 0, .int 0, .int 0, .ref h12, .ref h13, .ref h14, .int 0, .int 0, .int 0, .int 0, .ref h15, .ref h16, .int 0, .ref h17, .ref h18, .int 0, .ref h19, .int 0, .ref h20, .ref h21, .ref h22, .int 0, .ref h23, .ref h24, .ref h25])), (h25, .inl (a24, 6, .inl (upd (upd (upd (upd (upd (upd (fun _ => 0) 5 (-1)) 4 (-1)) 3 (-1)) 2 (-1)) 1 (-1)) 0 (-1))))] _ A s.heap _ := Wd
          obtain rfl := w5910
          exact k_zret C hr hlk rfl Wd () (Or.inr (Or.inr (Or.inr (Or.inr (Or.inr (Or.inr (Or.inl (⟨c5872, c5873, c5877, c5885, c5886, c5902, c5903, rfl⟩)))))))) [] rfl (by decide) [] rfl (by decide) (by decide) dX12_registers_60
      · refine lv_if_ne (tgt := 35) C.1 C.2.1 dX12_registers_19 (by decide) (fun _ => ?_) (fun c5911 => absurd c5911 (by decide))
        refine lv_aload_n C.1 C.2.1 dX12_registers_35 rfl (lv_at hl 0 rfl) ?_
        refine lv_iload_n C.1 C.2.1 dX12_registers_36 rfl (lv_at hl 1 rfl) ?_
        refine k_cv Wd [0, 1, 2] [3] rfl (wr := [(h25, .inl (a24, 6, .inl (fun _ => 0)))]) rfl (by decide) (by decide) (cells' := 0) (slots' := 0) (by decide) (by decide) (k_runV (rest := []) C aks Wd cs_X12_472 (kcX12_clashIn l D h0 h1 h2 h3 h4 h5 h6 h7 h8 h9 h10 h11 h12 h13 h14 h15 h16 h17 h18 h19 h20 h21 h22 h23 h24 h25 x0 a1 a23 _ c5872 c5873) [0, 1, 2] rfl (by decide) [0, 1] rfl 0 12 rfl rfl rfl rfl rfl ⟨(Nat.le_of_ble_eq_true rfl), (Nat.le_of_ble_eq_true rfl)⟩ hl.1 rfl rfl (Nat.le_of_ble_eq_true rfl) ⟨(Nat.le_of_ble_eq_true rfl), (Nat.le_of_ble_eq_true rfl)⟩ dX12_registers_37) (fun _ H locs w5912 Wd => ?_)
        have Wd : wX D [(a1, .int), (a23, .int), (a24, .int)] s [(h25, .inl (a24, 6, .inl (fun _ => 0))), (h0, .inr (12, [.ref h1, .ref h2, .ref h3, .ref h4, .int 0, .int 0, .ref h5, .int 0, .int 0, .int 0, .int 0, .int 0, .int 0, .int 0, .int 0, .int 0, .int 0, .int 0, .int 0, .int 0, .int (-1), .int 0, .int 0, .int 0, .ref h6, .ref h7, .ref h8, .ref h9, .ref h10, .ref h11, .int 0, .int 0, .int 0, .int 0, .ref h12, .ref h13, .ref h14, .int 0, .int 0, .int 0, .int 0, .ref h15, .ref h16, .int 0, .ref h17, .ref h18, .int 0, .ref h19, .int 0, .ref h20, .ref h21, .ref h22, .int 0, .ref h23, .ref h24, .ref h25])), (h2, .inl (a1, 6, .inl (fun _ => 0))), (h24, .inl (a23, 6, .inl (fun _ => 0)))] _ A s.heap _ := Wd
        refine lv_aload_n C.1 C.2.1 dX12_registers_40 rfl (lv_at hl 0 rfl) ?_
        refine k_pi (k_runV (rest := []) C aks Wd cs_X12_475 (kcX12_inRow l D h0 h1 h2 h3 h4 h5 h6 h7 h8 h9 h10 h11 h12 h13 h14 h15 h16 h17 h18 h19 h20 h21 h22 h23 h24 h25 _ ) [1] rfl (by decide) [] rfl 1 12 rfl rfl rfl rfl rfl ⟨(Nat.le_of_ble_eq_true rfl), (Nat.le_of_ble_eq_true rfl)⟩ hl.1 rfl rfl (Nat.le_of_ble_eq_true rfl) ⟨(Nat.le_of_ble_eq_true rfl), (Nat.le_of_ble_eq_true rfl)⟩ dX12_registers_41) (fun r w5913 => ?_)
        obtain rfl := w5913
        refine lv_istore_n (lv' := [(3, .int 0), (0, .ref h0), (1, .int x0), (2, .int x1)]) C.1 C.2.1 dX12_registers_44 rfl hl (by decide) rfl (fun ls hl => ?_)
        refine lv_iload_n C.1 C.2.1 dX12_registers_45 rfl (lv_at hl 3 rfl) ?_
        refine lv_bipush (v := 15) C.1 C.2.1 dX12_registers_46 (by decide) ?_
        refine lv_icmp_le (tgt := 61) C.1 C.2.1 dX12_registers_48 (by decide) (fun _ => ?_) (fun c5914 => False.elim (by have z0 := kz_ne c5877; have z1 := kz_nlt c5887; have z2 := kz_nlt c5888; have z3 := kz_nle c5914; have t0 : (0 : Int32).toInt = 0 := (by decide); have t10 : (10 : Int32).toInt = 10 := (by decide); have t15 : (15 : Int32).toInt = 15 := (by decide); omega))
        refine lv_aload_n C.1 C.2.1 dX12_registers_61 rfl (lv_at hl 1 rfl) ?_
        refine lv_iload_n C.1 C.2.1 dX12_registers_62 rfl (lv_at hl 0 rfl) ?_
        refine k_ci Wd [1, 0] [2, 3] rfl (wr := [(h2, .inl (a1, 6, .inl (fun _ => 0))), (h24, .inl (a23, 6, .inl (fun _ => 0)))]) rfl (by decide) (by decide) (cells' := 0) (slots' := 0) (by decide) (by decide) (k_runV (rest := []) C aks Wd cs_X12_481 (kcX12_enough l D h0 h1 h2 h3 h4 h5 h6 h7 h8 h9 h10 h11 h12 h13 h14 h15 h16 h17 h18 h19 h20 h21 h22 h23 h24 h25 a24 _ ) [1, 0] rfl (by decide) [2] rfl 1 12 rfl rfl rfl rfl rfl ⟨(Nat.le_of_ble_eq_true rfl), (Nat.le_of_ble_eq_true rfl)⟩ hl.1 rfl rfl (Nat.le_of_ble_eq_true rfl) ⟨(Nat.le_of_ble_eq_true rfl), (Nat.le_of_ble_eq_true rfl)⟩ dX12_registers_63) (fun r _ H locs w5915 Wd => ?_)
        have Wd : wX D [(a1, .int), (a23, .int), (a24, .int)] s [(h2, .inl (a1, 6, .inl (fun _ => 0))), (h24, .inl (a23, 6, .inl (fun _ => 0))), (h0, .inr (12, [.ref h1, .ref h2, .ref h3, .ref h4, .int 0, .int 0, .ref h5, .int 0, .int 0, .int 0, .int 0, .int 0, .int 0, .int 0, .int 0, .int 0, .int 0, .int 0, .int 0, .int 0, .int (-1), .int 0, .int 0, .int 0, .ref h6, .ref h7, .ref h8, .ref h9, .ref h10, .ref h11, .int 0, .int 0, .int 0, .int 0, .ref h12, .ref h13, .ref h14, .int 0, .int 0, .int 0, .int 0, .ref h15, .ref h16, .int 0, .ref h17, .ref h18, .int 0, .ref h19, .int 0, .ref h20, .ref h21, .ref h22, .int 0, .ref h23, .ref h24, .ref h25])), (h25, .inl (a24, 6, .inl (upd (upd (upd (upd (upd (upd (fun _ => 0) 5 (-1)) 4 (-1)) 3 (-1)) 2 (-1)) 1 (-1)) 0 (-1))))] _ A s.heap _ := Wd
        obtain rfl := w5915
        refine lv_istore (lv' := [(4, .int 0), (3, .int 0), (0, .ref h0), (1, .int x0), (2, .int x1)]) C.1 C.2.1 dX12_registers_66 hl (by decide) rfl (fun ls hl => ?_)
        refine lv_iload_n C.1 C.2.1 dX12_registers_68 rfl (lv_at hl 4 rfl) ?_
        refine lv_if_ne (tgt := 77) C.1 C.2.1 dX12_registers_69 (by decide) (fun _ => ?_) (fun c5916 => False.elim (by have z0 := kz_ne c5877; have z1 := kz_nlt c5887; have z2 := kz_nlt c5888; have z3 := kz_eq c5916; have t0 : (0 : Int32).toInt = 0 := (by decide); have t10 : (10 : Int32).toInt = 10 := (by decide); have t15 : (15 : Int32).toInt = 15 := (by decide); omega))
        refine lv_aload_n C.1 C.2.1 dX12_registers_77 rfl (lv_at hl 2 rfl) ?_
        refine k_get C Wd KX12 2 55 rfl (by decide) fl_X12_87 rfl dX12_registers_78 ?_
        refine lv_iload_n C.1 C.2.1 dX12_registers_81 rfl (lv_at hl 4 rfl) ?_
        refine lv_bipush (v := 10) C.1 C.2.1 dX12_registers_82 (by decide) ?_
        refine k_isub (v := (x1 - 10)) C rfl dX12_registers_84 ?_
        refine k_iald (v := ((upd (upd (upd (upd (upd (upd (fun _ => 0) 5 (-1)) 4 (-1)) 3 (-1)) 2 (-1)) 1 (-1)) 0 (-1)) (x1 - 10).toNatClampNeg)) C Wd 3 2 rfl rfl (vp_in_iff.mpr ⟨by have z0 := kz_ne c5877; have z1 := kz_nlt c5887; have z2 := kz_nlt c5888; have zr := kz_rng x1; have z3 := kz_subI (a := x1) (b := 10); have t0 : (0 : Int32).toInt = 0 := (by decide); have t10 : (10 : Int32).toInt = 10 := (by decide); have t15 : (15 : Int32).toInt = 15 := (by decide); omega, by have z0 := kz_ne c5877; have z1 := kz_nlt c5887; have z2 := kz_nlt c5888; have zr := kz_rng x1; have z3 := kz_subI (a := x1) (b := 10); have t0 : (0 : Int32).toInt = 0 := (by decide); have t10 : (10 : Int32).toInt = 10 := (by decide); have t15 : (15 : Int32).toInt = 15 := (by decide); omega⟩) rfl dX12_registers_85 ?_
        exact k_zret C hr hlk rfl Wd () (Or.inr (Or.inr (Or.inr (Or.inr (Or.inr (Or.inr (Or.inr (⟨c5872, c5873, c5877, c5887, c5888, rfl⟩)))))))) [] rfl (by decide) [] rfl (by decide) (by decide) dX12_registers_86
set_option maxHeartbeats 4000000 in
set_option maxRecDepth 100000 in
theorem kcX12_clash (l : Launch) (D : va_G) (h0 h1 h2 h3 h4 h5 h6 h7 h8 h9 h10 h11 h12 h13 h14 h15 h16 h17 h18 h19 h20 h21 h22 h23 h24 h25 : Nat) (x0 x1 x2 : Int32) (a1 a23 : ClassId) (sz : Nat)  : Met l yX12_clash (Cond.code yX12_clash cX12_clash 4 (some .int) :: gG) { frames := 4, cells := 0, slots := 0, locals := 133 } (cPre D [(a1, .int), (a23, .int)] [(h0, .inr (12, [.ref h1, .ref h2, .ref h3, .ref h4, .int 0, .int 0, .ref h5, .int 0, .int 0, .int 0, .int 0, .int 0, .int 0, .int 0, .int 0, .int 0, .int 0, .int 0, .int 0, .int 0, .int (-1), .int 0, .int 0, .int 0, .ref h6, .ref h7, .ref h8, .ref h9, .ref h10, .ref h11, .int 0, .int 0, .int 0, .int 0, .ref h12, .ref h13, .ref h14, .int 0, .int 0, .int 0, .int 0, .ref h15, .ref h16, .int 0, .ref h17, .ref h18, .int 0, .ref h19, .int 0, .ref h20, .ref h21, .ref h22, .int 0, .ref h23, .ref h24, .ref h25])), (h2, .inl (a1, 6, .inl (fun _ => 0))), (h24, .inl (a23, 6, .inl (fun _ => 0)))] sz [.ref h0, .int x0, .int x1, .int x2]) (va_Qi (fun (r : Int32) (_ : Unit) => (x0 < (0 : Int32) ∧ r = (-1)) ∨ (¬ x0 < (0 : Int32) ∧ (5 : Int32) < x0 ∧ r = (-1)) ∨ (¬ x0 < (0 : Int32) ∧ ¬ (5 : Int32) < x0 ∧ x1 < (0 : Int32) ∧ r = (-1)) ∨ (¬ x0 < (0 : Int32) ∧ ¬ (5 : Int32) < x0 ∧ ¬ x1 < (0 : Int32) ∧ (5 : Int32) < x1 ∧ r = (-1)) ∨ (¬ x0 < (0 : Int32) ∧ ¬ (5 : Int32) < x0 ∧ ¬ x1 < (0 : Int32) ∧ ¬ (5 : Int32) < x1 ∧ x2 < (0 : Int32) ∧ r = (-1)) ∨ (¬ x0 < (0 : Int32) ∧ ¬ (5 : Int32) < x0 ∧ ¬ x1 < (0 : Int32) ∧ ¬ (5 : Int32) < x1 ∧ ¬ x2 < (0 : Int32) ∧ (5 : Int32) < x2 ∧ r = (-1)) ∨ (¬ x0 < (0 : Int32) ∧ ¬ (5 : Int32) < x0 ∧ ¬ x1 < (0 : Int32) ∧ ¬ (5 : Int32) < x1 ∧ ¬ x2 < (0 : Int32) ∧ ¬ (5 : Int32) < x2 ∧ ¬ x1 = x2 ∧ r = ((0 >>> (x2 &&& 31)) &&& 1)) ∨ (¬ x0 < (0 : Int32) ∧ ¬ (5 : Int32) < x0 ∧ ¬ x1 < (0 : Int32) ∧ ¬ (5 : Int32) < x1 ∧ ¬ x2 < (0 : Int32) ∧ ¬ (5 : Int32) < x2 ∧ x1 = x2 ∧ r = (-1))) (fun u t => cB D (va_A [(h0, .inr (12, [.ref h1, .ref h2, .ref h3, .ref h4, .int 0, .int 0, .ref h5, .int 0, .int 0, .int 0, .int 0, .int 0, .int 0, .int 0, .int 0, .int 0, .int 0, .int 0, .int 0, .int 0, .int (-1), .int 0, .int 0, .int 0, .ref h6, .ref h7, .ref h8, .ref h9, .ref h10, .ref h11, .int 0, .int 0, .int 0, .int 0, .ref h12, .ref h13, .ref h14, .int 0, .int 0, .int 0, .int 0, .ref h15, .ref h16, .int 0, .ref h17, .ref h18, .int 0, .ref h19, .int 0, .ref h20, .ref h21, .ref h22, .int 0, .ref h23, .ref h24, .ref h25])), (h2, .inl (a1, 6, .inl (fun _ => 0))), (h24, .inl (a23, 6, .inl (fun _ => 0)))] sz) ((fun (_ : Unit) => ([] : List (ClassId × FieldType))) u) ((fun (_ : Unit) => ([] : va_W)) u) t) (va_A [(h0, .inr (12, [.ref h1, .ref h2, .ref h3, .ref h4, .int 0, .int 0, .ref h5, .int 0, .int 0, .int 0, .int 0, .int 0, .int 0, .int 0, .int 0, .int 0, .int 0, .int 0, .int 0, .int 0, .int (-1), .int 0, .int 0, .int 0, .ref h6, .ref h7, .ref h8, .ref h9, .ref h10, .ref h11, .int 0, .int 0, .int 0, .int 0, .ref h12, .ref h13, .ref h14, .int 0, .int 0, .int 0, .int 0, .ref h15, .ref h16, .int 0, .ref h17, .ref h18, .int 0, .ref h19, .int 0, .ref h20, .ref h21, .ref h22, .int 0, .ref h23, .ref h24, .ref h25])), (h2, .inl (a1, 6, .inl (fun _ => 0))), (h24, .inl (a23, 6, .inl (fun _ => 0)))] sz)) 0 0 (va_A [(h0, .inr (12, [.ref h1, .ref h2, .ref h3, .ref h4, .int 0, .int 0, .ref h5, .int 0, .int 0, .int 0, .int 0, .int 0, .int 0, .int 0, .int 0, .int 0, .int 0, .int 0, .int 0, .int 0, .int (-1), .int 0, .int 0, .int 0, .ref h6, .ref h7, .ref h8, .ref h9, .ref h10, .ref h11, .int 0, .int 0, .int 0, .int 0, .ref h12, .ref h13, .ref h14, .int 0, .int 0, .int 0, .int 0, .ref h15, .ref h16, .int 0, .ref h17, .ref h18, .int 0, .ref h19, .int 0, .ref h20, .ref h21, .ref h22, .int 0, .ref h23, .ref h24, .ref h25])), (h2, .inl (a1, 6, .inl (fun _ => 0))), (h24, .inl (a23, 6, .inl (fun _ => 0)))] sz) := by
  refine Met.ofW (cc := cX12_clash) (maxL := 4) (ret := (some .int)) (by decide) rfl ?_
  intro p e s m args below meth c s₁ B hml hv
  obtain ⟨rfl, aks, rfl, Wd⟩ := k_enter hv
  have C : CallFix p m c cX12_clash 4 s _ gG RX12 := ⟨B.exec, B.bytes, hml, findClass_of_methodNamed B.named, fun w h => atoms_spec (ws := Cond.code yX12_clash cX12_clash 4 (some .int) :: gG) B.pre w (List.mem_cons_of_mem _ h)⟩
  have hr := B.returns
  have hlk := B.notSynchronized
  generalize va_A [(h0, .inr (12, [.ref h1, .ref h2, .ref h3, .ref h4, .int 0, .int 0, .ref h5, .int 0, .int 0, .int 0, .int 0, .int 0, .int 0, .int 0, .int 0, .int 0, .int 0, .int 0, .int 0, .int 0, .int (-1), .int 0, .int 0, .int 0, .ref h6, .ref h7, .ref h8, .ref h9, .ref h10, .ref h11, .int 0, .int 0, .int 0, .int 0, .ref h12, .ref h13, .ref h14, .int 0, .int 0, .int 0, .int 0, .ref h15, .ref h16, .int 0, .ref h17, .ref h18, .int 0, .ref h19, .int 0, .ref h20, .ref h21, .ref h22, .int 0, .ref h23, .ref h24, .ref h25])), (h2, .inl (a1, 6, .inl (fun _ => 0))), (h24, .inl (a23, 6, .inl (fun _ => 0)))] s.heap.size = A at Wd ⊢
  refine k_locals (Nat.le_of_ble_eq_true rfl) [(0, .ref h0), (1, .int x0), (2, .int x1), (3, .int x2)] rfl (fun ls hl => ?_)
  refine lv_iload_n C.1 C.2.1 dX12_clash_0 rfl (lv_at hl 1 rfl) ?_
  refine k_pi (k_runS (rest := []) C aks Wd cs_X12_249 (kcX12_isSlot l D x0 _ ) [] rfl (by decide) [] rfl rfl rfl ⟨(Nat.le_of_ble_eq_true rfl), (Nat.le_of_ble_eq_true rfl)⟩ hl.1 rfl rfl (Nat.le_of_ble_eq_true rfl) ⟨(Nat.le_of_ble_eq_true rfl), (Nat.le_of_ble_eq_true rfl)⟩ dX12_clash_1) (fun r w5946 => ?_)
  rcases w5946 with ⟨c5947, rfl⟩ | ⟨c5948, c5949, rfl⟩ | ⟨c5950, c5951, rfl⟩
  · refine lv_if_eq (tgt := 30) C.1 C.2.1 dX12_clash_4 (by decide) (fun _ => ?_) (fun c5952 => absurd c5952 (by decide))
    refine lv_iconst (v := (-1)) C.1 C.2.1 dX12_clash_30 (by decide) ?_
    exact k_zret C hr hlk rfl Wd () (Or.inl (⟨c5947, rfl⟩)) [] rfl (by decide) [] rfl (by decide) (by decide) dX12_clash_31
  · refine lv_if_eq (tgt := 30) C.1 C.2.1 dX12_clash_4 (by decide) (fun _ => ?_) (fun c5953 => absurd c5953 (by decide))
    refine lv_iconst (v := (-1)) C.1 C.2.1 dX12_clash_30 (by decide) ?_
    exact k_zret C hr hlk rfl Wd () (Or.inr (Or.inl (⟨c5948, c5949, rfl⟩))) [] rfl (by decide) [] rfl (by decide) (by decide) dX12_clash_31
  · refine lv_if_eq (tgt := 30) C.1 C.2.1 dX12_clash_4 (by decide) (fun c5954 => absurd c5954 (by decide)) (fun _ => ?_)
    refine lv_iload_n C.1 C.2.1 dX12_clash_7 rfl (lv_at hl 2 rfl) ?_
    refine lv_iconst (v := 0) C.1 C.2.1 dX12_clash_8 (by decide) ?_
    refine lv_iconst (v := 5) C.1 C.2.1 dX12_clash_9 (by decide) ?_
    refine k_pi (k_runS (rest := []) C aks Wd cs_X12_90 (kcX12_isIn l D x1 0 5 _ ) [] rfl (by decide) [] rfl rfl rfl ⟨(Nat.le_of_ble_eq_true rfl), (Nat.le_of_ble_eq_true rfl)⟩ hl.1 rfl rfl (Nat.le_of_ble_eq_true rfl) ⟨(Nat.le_of_ble_eq_true rfl), (Nat.le_of_ble_eq_true rfl)⟩ dX12_clash_10) (fun r w5955 => ?_)
    rcases w5955 with ⟨c5956, rfl⟩ | ⟨c5957, c5958, rfl⟩ | ⟨c5959, c5960, rfl⟩
    · refine lv_if_eq (tgt := 30) C.1 C.2.1 dX12_clash_13 (by decide) (fun _ => ?_) (fun c5961 => absurd c5961 (by decide))
      refine lv_iconst (v := (-1)) C.1 C.2.1 dX12_clash_30 (by decide) ?_
      exact k_zret C hr hlk rfl Wd () (Or.inr (Or.inr (Or.inl (⟨c5950, c5951, c5956, rfl⟩)))) [] rfl (by decide) [] rfl (by decide) (by decide) dX12_clash_31
    · refine lv_if_eq (tgt := 30) C.1 C.2.1 dX12_clash_13 (by decide) (fun _ => ?_) (fun c5962 => absurd c5962 (by decide))
      refine lv_iconst (v := (-1)) C.1 C.2.1 dX12_clash_30 (by decide) ?_
      exact k_zret C hr hlk rfl Wd () (Or.inr (Or.inr (Or.inr (Or.inl (⟨c5950, c5951, c5957, c5958, rfl⟩))))) [] rfl (by decide) [] rfl (by decide) (by decide) dX12_clash_31
    · refine lv_if_eq (tgt := 30) C.1 C.2.1 dX12_clash_13 (by decide) (fun c5963 => absurd c5963 (by decide)) (fun _ => ?_)
      refine lv_iload_n C.1 C.2.1 dX12_clash_16 rfl (lv_at hl 3 rfl) ?_
      refine lv_iconst (v := 0) C.1 C.2.1 dX12_clash_17 (by decide) ?_
      refine lv_iconst (v := 5) C.1 C.2.1 dX12_clash_18 (by decide) ?_
      refine k_pi (k_runS (rest := []) C aks Wd cs_X12_90 (kcX12_isIn l D x2 0 5 _ ) [] rfl (by decide) [] rfl rfl rfl ⟨(Nat.le_of_ble_eq_true rfl), (Nat.le_of_ble_eq_true rfl)⟩ hl.1 rfl rfl (Nat.le_of_ble_eq_true rfl) ⟨(Nat.le_of_ble_eq_true rfl), (Nat.le_of_ble_eq_true rfl)⟩ dX12_clash_19) (fun r w5964 => ?_)
      rcases w5964 with ⟨c5965, rfl⟩ | ⟨c5966, c5967, rfl⟩ | ⟨c5968, c5969, rfl⟩
      · refine lv_if_eq (tgt := 30) C.1 C.2.1 dX12_clash_22 (by decide) (fun _ => ?_) (fun c5970 => absurd c5970 (by decide))
        refine lv_iconst (v := (-1)) C.1 C.2.1 dX12_clash_30 (by decide) ?_
        exact k_zret C hr hlk rfl Wd () (Or.inr (Or.inr (Or.inr (Or.inr (Or.inl (⟨c5950, c5951, c5959, c5960, c5965, rfl⟩)))))) [] rfl (by decide) [] rfl (by decide) (by decide) dX12_clash_31
      · refine lv_if_eq (tgt := 30) C.1 C.2.1 dX12_clash_22 (by decide) (fun _ => ?_) (fun c5971 => absurd c5971 (by decide))
        refine lv_iconst (v := (-1)) C.1 C.2.1 dX12_clash_30 (by decide) ?_
        exact k_zret C hr hlk rfl Wd () (Or.inr (Or.inr (Or.inr (Or.inr (Or.inr (Or.inl (⟨c5950, c5951, c5959, c5960, c5966, c5967, rfl⟩))))))) [] rfl (by decide) [] rfl (by decide) (by decide) dX12_clash_31
      · refine lv_if_eq (tgt := 30) C.1 C.2.1 dX12_clash_22 (by decide) (fun c5972 => absurd c5972 (by decide)) (fun _ => ?_)
        refine lv_iload_n C.1 C.2.1 dX12_clash_25 rfl (lv_at hl 2 rfl) ?_
        refine lv_iload_n C.1 C.2.1 dX12_clash_26 rfl (lv_at hl 3 rfl) ?_
        refine lv_icmp_ne (tgt := 32) C.1 C.2.1 dX12_clash_27 (by decide) (fun c5973 => ?_) (fun c5973 => ?_)
        · refine lv_aload_n C.1 C.2.1 dX12_clash_32 rfl (lv_at hl 0 rfl) ?_
          refine lv_iload_n C.1 C.2.1 dX12_clash_33 rfl (lv_at hl 1 rfl) ?_
          refine k_cv Wd [0, 1, 2] [] rfl (wr := []) rfl (by decide) (by decide) (cells' := 0) (slots' := 0) (by decide) (by decide) (k_runV (rest := []) C aks Wd cs_X12_472 (kcX12_clashIn l D h0 h1 h2 h3 h4 h5 h6 h7 h8 h9 h10 h11 h12 h13 h14 h15 h16 h17 h18 h19 h20 h21 h22 h23 h24 h25 x0 a1 a23 _ c5950 c5951) [0, 1, 2] rfl (by decide) [0, 1] rfl 0 12 rfl rfl rfl rfl rfl ⟨(Nat.le_of_ble_eq_true rfl), (Nat.le_of_ble_eq_true rfl)⟩ hl.1 rfl rfl (Nat.le_of_ble_eq_true rfl) ⟨(Nat.le_of_ble_eq_true rfl), (Nat.le_of_ble_eq_true rfl)⟩ dX12_clash_34) (fun _ H locs w5974 Wd => ?_)
          have Wd : wX D [(a1, .int), (a23, .int)] s [(h0, .inr (12, [.ref h1, .ref h2, .ref h3, .ref h4, .int 0, .int 0, .ref h5, .int 0, .int 0, .int 0, .int 0, .int 0, .int 0, .int 0, .int 0, .int 0, .int 0, .int 0, .int 0, .int 0, .int (-1), .int 0, .int 0, .int 0, .ref h6, .ref h7, .ref h8, .ref h9, .ref h10, .ref h11, .int 0, .int 0, .int 0, .int 0, .ref h12, .ref h13, .ref h14, .int 0, .int 0, .int 0, .int 0, .ref h15, .ref h16, .int 0, .ref h17, .ref h18, .int 0, .ref h19, .int 0, .ref h20, .ref h21, .ref h22, .int 0, .ref h23, .ref h24, .ref h25])), (h2, .inl (a1, 6, .inl (fun _ => 0))), (h24, .inl (a23, 6, .inl (fun _ => 0)))] _ A s.heap _ := Wd
          refine lv_aload_n C.1 C.2.1 dX12_clash_37 rfl (lv_at hl 0 rfl) ?_
          refine k_get C Wd KX12 0 54 rfl (by decide) fl_X12_84 rfl dX12_clash_38 ?_
          refine lv_iload_n C.1 C.2.1 dX12_clash_41 rfl (lv_at hl 2 rfl) ?_
          refine k_iald (v := 0) C Wd 2 1 rfl rfl (vp_in_iff.mpr ⟨by have z0 := kz_nlt c5959; have z1 := kz_nlt c5960; have z2 := kz_ne c5973; have t0 : (0 : Int32).toInt = 0 := (by decide); have t5 : (5 : Int32).toInt = 5 := (by decide); omega, by have z0 := kz_nlt c5959; have z1 := kz_nlt c5960; have z2 := kz_ne c5973; have t0 : (0 : Int32).toInt = 0 := (by decide); have t5 : (5 : Int32).toInt = 5 := (by decide); omega⟩) rfl dX12_clash_42 ?_
          refine lv_iload_n C.1 C.2.1 dX12_clash_43 rfl (lv_at hl 3 rfl) ?_
          refine k_ishr (v := (0 >>> (x2 &&& 31))) C rfl dX12_clash_44 ?_
          refine lv_iconst (v := 1) C.1 C.2.1 dX12_clash_45 (by decide) ?_
          refine k_iand (v := ((0 >>> (x2 &&& 31)) &&& 1)) C rfl dX12_clash_46 ?_
          exact k_zret C hr hlk rfl Wd () (Or.inr (Or.inr (Or.inr (Or.inr (Or.inr (Or.inr (Or.inl (⟨c5950, c5951, c5959, c5960, c5968, c5969, c5973, rfl⟩)))))))) [] rfl (by decide) [] rfl (by decide) (by decide) dX12_clash_47
        · refine lv_iconst (v := (-1)) C.1 C.2.1 dX12_clash_30 (by decide) ?_
          exact k_zret C hr hlk rfl Wd () (Or.inr (Or.inr (Or.inr (Or.inr (Or.inr (Or.inr (Or.inr (⟨c5950, c5951, c5959, c5960, c5968, c5969, c5973, rfl⟩)))))))) [] rfl (by decide) [] rfl (by decide) (by decide) dX12_clash_31
