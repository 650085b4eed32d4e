set_option maxHeartbeats 4000000 in
set_option maxRecDepth 100000 in
theorem sX1_trace (l : Launch) (D : va_G) (h : Nat) (h0 : Nat) (h_0 : Value) (h_1 : Int32) (h_2 : Nat) (h_3 : Nat) (h_4 : Nat) (h_5 : Nat) (h_6 : Nat) (h_7 : Nat) (h_8 : Nat) (h_9 : Nat) (h_10 : Nat) (h_11 : Nat) (h_12 : Nat) (h_13 : Nat) (h0_0 : Nat) (h0_1 : Int32) (n_h0_0 : Nat) (a_h0_0 : ClassId) (f_h0_0 : Nat → Int32) (a_h_13 : ClassId) (f_h_13 : Nat → Int32) (a_h_12 : ClassId) (f_h_12 : Nat → Int32) (a_h_2 : ClassId) (f_h_2 : Nat → Int32) (a_h_3 : ClassId) (f_h_3 : Nat → Int32) (a_h_9 : ClassId) (f_h_9 : Nat → Int32) (a_h_4 : ClassId) (f_h_4 : Nat → Int32) (a_h_5 : ClassId) (f_h_5 : Nat → Int32) (a_h_8 : ClassId) (f_h_8 : Nat → Int32) (a_h_6 : ClassId) (f_h_6 : Nat → Int32) (a_h_7 : ClassId) (f_h_7 : Nat → Int32) (a_h_11 : ClassId) (f_h_11 : Nat → Int32) (a_h_10 : ClassId) (f_h_10 : Nat → Int32) (sz : Nat) (k_h_1_lo : 0 ≤ h_1.toInt) (k_h_1_hi : h_1.toInt ≤ 40) (k_h0_1_lo : 0 ≤ h0_1.toInt) (k_n_h0_0 : n_h0_0 ≤ 1000) (k_p_h0_0 : 1 ≤ n_h0_0) (k_h0_1_hi : h0_1.toInt ≤ (n_h0_0 : Int)) (q_f_h_4 : ∀ j : Nat, 0 ≤ (f_h_4 j).toInt ∧ (f_h_4 j).toInt ≤ 2000) (q_f_h_5 : ∀ j : Nat, 0 ≤ (f_h_5 j).toInt ∧ (f_h_5 j).toInt ≤ 2000) : Met l yX1_trace (Cond.code yX1_trace cX1_trace 2 none :: gG) { frames := 4, cells := 0, slots := 0, locals := 131 } (cPre D [(a_h0_0, .int), (a_h_13, .int), (a_h_12, .int), (a_h_2, .int), (a_h_3, .int), (a_h_9, .int), (a_h_4, .int), (a_h_5, .int), (a_h_8, .int), (a_h_6, .int), (a_h_7, .int), (a_h_11, .int), (a_h_10, .int)] [(h, .inr (1, [h_0, .int h_1, .ref h_2, .ref h_3, .ref h_4, .ref h_5, .ref h_6, .ref h_7, .ref h_8, .ref h_9, .ref h_10, .ref h_11, .ref h_12, .ref h_13])), (h0, .inr (8, [.ref h0_0, .int h0_1])), (h0_0, .inl (a_h0_0, n_h0_0, .inl f_h0_0)), (h_13, .inl (a_h_13, 480, .inl f_h_13)), (h_12, .inl (a_h_12, 40, .inl f_h_12)), (h_2, .inl (a_h_2, 40, .inl f_h_2)), (h_3, .inl (a_h_3, 40, .inl f_h_3)), (h_9, .inl (a_h_9, 40, .inl f_h_9)), (h_4, .inl (a_h_4, 40, .inl f_h_4)), (h_5, .inl (a_h_5, 40, .inl f_h_5)), (h_8, .inl (a_h_8, 40, .inl f_h_8)), (h_6, .inl (a_h_6, 40, .inl f_h_6)), (h_7, .inl (a_h_7, 40, .inl f_h_7)), (h_11, .inl (a_h_11, 40, .inl f_h_11)), (h_10, .inl (a_h_10, 40, .inl f_h_10))] sz [.ref h, .ref h0]) (va_Qv (fun (u : (Int32) × (Nat → Int32) × (Nat → Int32) × (Nat → Int32) × (Nat → Int32) × (Nat → Int32) × (Nat → Int32) × (Nat → Int32) × (Nat → Int32) × (Nat → Int32) × (Nat → Int32) × (Nat → Int32) × (Nat → Int32)) => match u with | (jX_F_h_1, jX_C_h_13, jX_C_h_12, jX_C_h_2, jX_C_h_3, jX_C_h_9, jX_C_h_4, jX_C_h_5, jX_C_h_8, jX_C_h_6, jX_C_h_7, jX_C_h_11, jX_C_h_10) => 0 ≤ jX_F_h_1.toInt ∧ jX_F_h_1.toInt ≤ 40 ∧ jX_F_h_1.toInt ≤ (n_h0_0 : Int) ∧ jX_F_h_1.toInt ≤ h0_1.toInt ∧ (∀ j : Nat, 0 ≤ (jX_C_h_4 j).toInt ∧ (jX_C_h_4 j).toInt ≤ 2000) ∧ (∀ j : Nat, 0 ≤ (jX_C_h_5 j).toInt ∧ (jX_C_h_5 j).toInt ≤ 2000)) (fun u t => cB D (va_A [(h, .inr (1, [h_0, .int h_1, .ref h_2, .ref h_3, .ref h_4, .ref h_5, .ref h_6, .ref h_7, .ref h_8, .ref h_9, .ref h_10, .ref h_11, .ref h_12, .ref h_13])), (h0, .inr (8, [.ref h0_0, .int h0_1])), (h0_0, .inl (a_h0_0, n_h0_0, .inl f_h0_0)), (h_13, .inl (a_h_13, 480, .inl f_h_13)), (h_12, .inl (a_h_12, 40, .inl f_h_12)), (h_2, .inl (a_h_2, 40, .inl f_h_2)), (h_3, .inl (a_h_3, 40, .inl f_h_3)), (h_9, .inl (a_h_9, 40, .inl f_h_9)), (h_4, .inl (a_h_4, 40, .inl f_h_4)), (h_5, .inl (a_h_5, 40, .inl f_h_5)), (h_8, .inl (a_h_8, 40, .inl f_h_8)), (h_6, .inl (a_h_6, 40, .inl f_h_6)), (h_7, .inl (a_h_7, 40, .inl f_h_7)), (h_11, .inl (a_h_11, 40, .inl f_h_11)), (h_10, .inl (a_h_10, 40, .inl f_h_10))] sz) ((fun (_ : (Int32) × (Nat → Int32) × (Nat → Int32) × (Nat → Int32) × (Nat → Int32) × (Nat → Int32) × (Nat → Int32) × (Nat → Int32) × (Nat → Int32) × (Nat → Int32) × (Nat → Int32) × (Nat → Int32) × (Nat → Int32)) => ([] : List (ClassId × FieldType))) u) ((fun (u : (Int32) × (Nat → Int32) × (Nat → Int32) × (Nat → Int32) × (Nat → Int32) × (Nat → Int32) × (Nat → Int32) × (Nat → Int32) × (Nat → Int32) × (Nat → Int32) × (Nat → Int32) × (Nat → Int32) × (Nat → Int32)) => match u with | (jX_F_h_1, jX_C_h_13, jX_C_h_12, jX_C_h_2, jX_C_h_3, jX_C_h_9, jX_C_h_4, jX_C_h_5, jX_C_h_8, jX_C_h_6, jX_C_h_7, jX_C_h_11, jX_C_h_10) => ([(h, .inr (1, [.ref h0, .int jX_F_h_1, .ref h_2, .ref h_3, .ref h_4, .ref h_5, .ref h_6, .ref h_7, .ref h_8, .ref h_9, .ref h_10, .ref h_11, .ref h_12, .ref h_13])), (h0, .inr (8, [.ref h0_0, .int h0_1])), (h0_0, .inl (a_h0_0, n_h0_0, .inl f_h0_0)), (h_13, .inl (a_h_13, 480, .inl jX_C_h_13)), (h_12, .inl (a_h_12, 40, .inl jX_C_h_12)), (h_2, .inl (a_h_2, 40, .inl jX_C_h_2)), (h_3, .inl (a_h_3, 40, .inl jX_C_h_3)), (h_9, .inl (a_h_9, 40, .inl jX_C_h_9)), (h_4, .inl (a_h_4, 40, .inl jX_C_h_4)), (h_5, .inl (a_h_5, 40, .inl jX_C_h_5)), (h_8, .inl (a_h_8, 40, .inl jX_C_h_8)), (h_6, .inl (a_h_6, 40, .inl jX_C_h_6)), (h_7, .inl (a_h_7, 40, .inl jX_C_h_7)), (h_11, .inl (a_h_11, 40, .inl jX_C_h_11)), (h_10, .inl (a_h_10, 40, .inl jX_C_h_10))] : va_W)) u) t) (va_A [(h, .inr (1, [h_0, .int h_1, .ref h_2, .ref h_3, .ref h_4, .ref h_5, .ref h_6, .ref h_7, .ref h_8, .ref h_9, .ref h_10, .ref h_11, .ref h_12, .ref h_13])), (h0, .inr (8, [.ref h0_0, .int h0_1])), (h0_0, .inl (a_h0_0, n_h0_0, .inl f_h0_0)), (h_13, .inl (a_h_13, 480, .inl f_h_13)), (h_12, .inl (a_h_12, 40, .inl f_h_12)), (h_2, .inl (a_h_2, 40, .inl f_h_2)), (h_3, .inl (a_h_3, 40, .inl f_h_3)), (h_9, .inl (a_h_9, 40, .inl f_h_9)), (h_4, .inl (a_h_4, 40, .inl f_h_4)), (h_5, .inl (a_h_5, 40, .inl f_h_5)), (h_8, .inl (a_h_8, 40, .inl f_h_8)), (h_6, .inl (a_h_6, 40, .inl f_h_6)), (h_7, .inl (a_h_7, 40, .inl f_h_7)), (h_11, .inl (a_h_11, 40, .inl f_h_11)), (h_10, .inl (a_h_10, 40, .inl f_h_10))] sz)) 0 0 (va_A [(h, .inr (1, [h_0, .int h_1, .ref h_2, .ref h_3, .ref h_4, .ref h_5, .ref h_6, .ref h_7, .ref h_8, .ref h_9, .ref h_10, .ref h_11, .ref h_12, .ref h_13])), (h0, .inr (8, [.ref h0_0, .int h0_1])), (h0_0, .inl (a_h0_0, n_h0_0, .inl f_h0_0)), (h_13, .inl (a_h_13, 480, .inl f_h_13)), (h_12, .inl (a_h_12, 40, .inl f_h_12)), (h_2, .inl (a_h_2, 40, .inl f_h_2)), (h_3, .inl (a_h_3, 40, .inl f_h_3)), (h_9, .inl (a_h_9, 40, .inl f_h_9)), (h_4, .inl (a_h_4, 40, .inl f_h_4)), (h_5, .inl (a_h_5, 40, .inl f_h_5)), (h_8, .inl (a_h_8, 40, .inl f_h_8)), (h_6, .inl (a_h_6, 40, .inl f_h_6)), (h_7, .inl (a_h_7, 40, .inl f_h_7)), (h_11, .inl (a_h_11, 40, .inl f_h_11)), (h_10, .inl (a_h_10, 40, .inl f_h_10))] sz) := by
  refine Met.ofW (cc := cX1_trace) (maxL := 2) (ret := none) (by decide) rfl ?_
  intro p e s m args below meth c s₁ B hml hv
  obtain ⟨rfl, aks, rfl, Wd⟩ := k_enter hv
  have C : CallFix p m c cX1_trace 2 s _ gG RX1 := ⟨B.exec, B.bytes, hml, findClass_of_methodNamed B.named, fun w h => atoms_spec (ws := Cond.code yX1_trace cX1_trace 2 none :: gG) B.pre w (List.mem_cons_of_mem _ h)⟩
  have hr := B.returns
  have hlk := B.notSynchronized
  generalize va_A [(h, .inr (1, [h_0, .int h_1, .ref h_2, .ref h_3, .ref h_4, .ref h_5, .ref h_6, .ref h_7, .ref h_8, .ref h_9, .ref h_10, .ref h_11, .ref h_12, .ref h_13])), (h0, .inr (8, [.ref h0_0, .int h0_1])), (h0_0, .inl (a_h0_0, n_h0_0, .inl f_h0_0)), (h_13, .inl (a_h_13, 480, .inl f_h_13)), (h_12, .inl (a_h_12, 40, .inl f_h_12)), (h_2, .inl (a_h_2, 40, .inl f_h_2)), (h_3, .inl (a_h_3, 40, .inl f_h_3)), (h_9, .inl (a_h_9, 40, .inl f_h_9)), (h_4, .inl (a_h_4, 40, .inl f_h_4)), (h_5, .inl (a_h_5, 40, .inl f_h_5)), (h_8, .inl (a_h_8, 40, .inl f_h_8)), (h_6, .inl (a_h_6, 40, .inl f_h_6)), (h_7, .inl (a_h_7, 40, .inl f_h_7)), (h_11, .inl (a_h_11, 40, .inl f_h_11)), (h_10, .inl (a_h_10, 40, .inl f_h_10))] s.heap.size = A at Wd ⊢
  refine k_locals (Nat.le_of_ble_eq_true rfl) [(0, .ref h), (1, .ref h0)] rfl (fun ls hl => ?_)
  refine lv_aload_n C.1 C.2.1 dX1_trace_0 rfl (lv_at hl 0 rfl) ?_
  refine lv_aload_n C.1 C.2.1 dX1_trace_1 rfl (lv_at hl 1 rfl) ?_
  refine k_put C Wd KX1 0 0 [(h, .inr (1, [.ref h0, .int h_1, .ref h_2, .ref h_3, .ref h_4, .ref h_5, .ref h_6, .ref h_7, .ref h_8, .ref h_9, .ref h_10, .ref h_11, .ref h_12, .ref h_13])), (h0, .inr (8, [.ref h0_0, .int h0_1])), (h0_0, .inl (a_h0_0, n_h0_0, .inl f_h0_0)), (h_13, .inl (a_h_13, 480, .inl f_h_13)), (h_12, .inl (a_h_12, 40, .inl f_h_12)), (h_2, .inl (a_h_2, 40, .inl f_h_2)), (h_3, .inl (a_h_3, 40, .inl f_h_3)), (h_9, .inl (a_h_9, 40, .inl f_h_9)), (h_4, .inl (a_h_4, 40, .inl f_h_4)), (h_5, .inl (a_h_5, 40, .inl f_h_5)), (h_8, .inl (a_h_8, 40, .inl f_h_8)), (h_6, .inl (a_h_6, 40, .inl f_h_6)), (h_7, .inl (a_h_7, 40, .inl f_h_7)), (h_11, .inl (a_h_11, 40, .inl f_h_11)), (h_10, .inl (a_h_10, 40, .inl f_h_10))] rfl (by decide) fl_X1_14 rfl rfl rfl (Nat.le_of_ble_eq_true rfl) rfl dX1_trace_2 (fun H locs Wd => ?_)
  refine lv_aload_n C.1 C.2.1 dX1_trace_5 rfl (lv_at hl 0 rfl) ?_
  refine k_cv Wd [0, 1, 2, 3, 4, 5, 6, 7, 8, 9, 10, 11, 12] [13, 14] rfl (wr := [(h_11, .inl (a_h_11, 40, .inl f_h_11)), (h_10, .inl (a_h_10, 40, .inl f_h_10))]) rfl (by decide) (by decide) (cells' := 0) (slots' := 0) (by decide) (by decide) (k_runV (rest := []) C aks Wd cs_X1_61 (sX1_number l D h h0 h_1 h_2 h_3 h_4 h_5 h_6 h_7 h_8 h_9 h_10 h_11 h_12 h_13 h0_0 h0_1 n_h0_0 a_h0_0 f_h0_0 a_h_13 f_h_13 a_h_12 f_h_12 a_h_2 f_h_2 a_h_3 f_h_3 a_h_9 f_h_9 a_h_4 f_h_4 a_h_5 f_h_5 a_h_8 f_h_8 a_h_6 f_h_6 a_h_7 f_h_7 _ (by omega) (by omega) (by omega) (by omega) (by omega) (by omega) q_f_h_4 q_f_h_5) [0, 1, 2, 3, 4, 5, 6, 7, 8, 9, 10, 11, 12] rfl (by decide) [0, 1, 2, 3, 4, 5, 6, 7, 8, 9, 10] rfl 0 1 rfl rfl rfl rfl rfl ⟨(Nat.le_of_ble_eq_true rfl), (Nat.le_of_ble_eq_true rfl)⟩ hl.1 rfl rfl (Nat.le_of_ble_eq_true rfl) ⟨(Nat.le_of_ble_eq_true rfl), (Nat.le_of_ble_eq_true rfl)⟩ dX1_trace_6) (fun u H locs w6 Wd => ?_)
  obtain ⟨s6_0, s6_1, s6_2, s6_3, s6_4, s6_5, s6_6, s6_7, s6_8, s6_9, s6_10⟩ := u
  have Wd : wX D [(a_h0_0, .int), (a_h_13, .int), (a_h_12, .int), (a_h_2, .int), (a_h_3, .int), (a_h_9, .int), (a_h_4, .int), (a_h_5, .int), (a_h_8, .int), (a_h_6, .int), (a_h_7, .int), (a_h_11, .int), (a_h_10, .int)] s [(h, .inr (1, [.ref h0, .int s6_0, .ref h_2, .ref h_3, .ref h_4, .ref h_5, .ref h_6, .ref h_7, .ref h_8, .ref h_9, .ref h_10, .ref h_11, .ref h_12, .ref h_13])), (h0, .inr (8, [.ref h0_0, .int h0_1])), (h0_0, .inl (a_h0_0, n_h0_0, .inl f_h0_0)), (h_13, .inl (a_h_13, 480, .inl s6_1)), (h_12, .inl (a_h_12, 40, .inl s6_2)), (h_2, .inl (a_h_2, 40, .inl s6_3)), (h_3, .inl (a_h_3, 40, .inl s6_4)), (h_9, .inl (a_h_9, 40, .inl s6_5)), (h_4, .inl (a_h_4, 40, .inl s6_6)), (h_5, .inl (a_h_5, 40, .inl s6_7)), (h_8, .inl (a_h_8, 40, .inl s6_8)), (h_6, .inl (a_h_6, 40, .inl s6_9)), (h_7, .inl (a_h_7, 40, .inl s6_10)), (h_11, .inl (a_h_11, 40, .inl f_h_11)), (h_10, .inl (a_h_10, 40, .inl f_h_10))] _ A s.heap _ := k_sub Wd [2, 3, 4, 5, 6, 7, 8, 9, 10, 11, 12, 13, 14, 0, 1] rfl (by decide) [0, 1, 2, 3, 4, 5, 6, 7, 8, 9, 10, 11, 12] rfl
  obtain ⟨g6_0, g6_1, g6_2, g6_3, q_s6_6, q_s6_7⟩ := w6
  have g6_0 : 0 ≤ s6_0.toInt := g6_0
  have g6_1 : s6_0.toInt ≤ 40 := g6_1
  have g6_2 : s6_0.toInt ≤ (n_h0_0 : Int) := g6_2
  have g6_3 : s6_0.toInt ≤ h0_1.toInt := g6_3
  refine lv_aload_n C.1 C.2.1 dX1_trace_9 rfl (lv_at hl 0 rfl) ?_
  refine k_cv Wd [0, 1, 2, 3, 11, 12, 13, 6] [4, 5, 7, 8, 9, 10, 14] rfl (wr := [(h_12, .inl (a_h_12, 40, .inl s6_2)), (h_2, .inl (a_h_2, 40, .inl s6_3)), (h_9, .inl (a_h_9, 40, .inl s6_5)), (h_4, .inl (a_h_4, 40, .inl s6_6)), (h_5, .inl (a_h_5, 40, .inl s6_7)), (h_8, .inl (a_h_8, 40, .inl s6_8)), (h_10, .inl (a_h_10, 40, .inl f_h_10))]) rfl (by decide) (by decide) (cells' := 0) (slots' := 0) (by decide) (by decide) (k_runV (rest := []) C aks Wd cs_X1_64 (sX1_link l D h h0 s6_0 h_2 h_3 h_4 h_5 h_6 h_7 h_8 h_9 h_10 h_11 h_12 h_13 h0_0 h0_1 n_h0_0 a_h0_0 f_h0_0 a_h_13 s6_1 a_h_6 s6_9 a_h_7 s6_10 a_h_11 f_h_11 a_h_3 s6_4 _ (by omega) (by omega) (by omega) (by omega) (by omega) (by omega)) [0, 1, 2, 3, 11, 12, 13, 6] rfl (by decide) [0, 1, 9, 10, 11, 4] rfl 0 1 rfl rfl rfl rfl rfl ⟨(Nat.le_of_ble_eq_true rfl), (Nat.le_of_ble_eq_true rfl)⟩ hl.1 rfl rfl (Nat.le_of_ble_eq_true rfl) ⟨(Nat.le_of_ble_eq_true rfl), (Nat.le_of_ble_eq_true rfl)⟩ dX1_trace_10) (fun u H locs w10 Wd => ?_)
  obtain ⟨s10_0, s10_1, s10_2⟩ := u
  have Wd : wX D [(a_h0_0, .int), (a_h_13, .int), (a_h_12, .int), (a_h_2, .int), (a_h_3, .int), (a_h_9, .int), (a_h_4, .int), (a_h_5, .int), (a_h_8, .int), (a_h_6, .int), (a_h_7, .int), (a_h_11, .int), (a_h_10, .int)] s [(h, .inr (1, [.ref h0, .int s6_0, .ref h_2, .ref h_3, .ref h_4, .ref h_5, .ref h_6, .ref h_7, .ref h_8, .ref h_9, .ref h_10, .ref h_11, .ref h_12, .ref h_13])), (h0, .inr (8, [.ref h0_0, .int h0_1])), (h0_0, .inl (a_h0_0, n_h0_0, .inl f_h0_0)), (h_13, .inl (a_h_13, 480, .inl s6_1)), (h_12, .inl (a_h_12, 40, .inl s6_2)), (h_2, .inl (a_h_2, 40, .inl s6_3)), (h_3, .inl (a_h_3, 40, .inl s6_4)), (h_9, .inl (a_h_9, 40, .inl s6_5)), (h_4, .inl (a_h_4, 40, .inl s6_6)), (h_5, .inl (a_h_5, 40, .inl s6_7)), (h_8, .inl (a_h_8, 40, .inl s6_8)), (h_6, .inl (a_h_6, 40, .inl s10_0)), (h_7, .inl (a_h_7, 40, .inl s10_1)), (h_11, .inl (a_h_11, 40, .inl s10_2)), (h_10, .inl (a_h_10, 40, .inl f_h_10))] _ A s.heap _ := k_sub Wd [7, 8, 9, 10, 0, 1, 14, 2, 3, 4, 5, 11, 12, 13, 6] rfl (by decide) [0, 1, 2, 3, 4, 5, 6, 7, 8, 9, 10, 11, 12] rfl
  refine lv_aload_n C.1 C.2.1 dX1_trace_13 rfl (lv_at hl 0 rfl) ?_
  refine k_cv Wd [0, 14, 10, 11, 12, 7] [1, 2, 3, 4, 5, 6, 8, 9, 13] rfl (wr := [(h0, .inr (8, [.ref h0_0, .int h0_1])), (h0_0, .inl (a_h0_0, n_h0_0, .inl f_h0_0)), (h_13, .inl (a_h_13, 480, .inl s6_1)), (h_12, .inl (a_h_12, 40, .inl s6_2)), (h_2, .inl (a_h_2, 40, .inl s6_3)), (h_3, .inl (a_h_3, 40, .inl s6_4)), (h_4, .inl (a_h_4, 40, .inl s6_6)), (h_5, .inl (a_h_5, 40, .inl s6_7)), (h_11, .inl (a_h_11, 40, .inl s10_2))]) rfl (by decide) (by decide) (cells' := 0) (slots' := 0) (by decide) (by decide) (k_runV (rest := []) C aks Wd cs_X1_67 (sX1_settle l D h (.ref h0 : Value) s6_0 h_2 h_3 h_4 h_5 h_6 h_7 h_8 h_9 h_10 h_11 h_12 h_13 a_h_10 f_h_10 a_h_8 s6_8 a_h_6 s10_0 a_h_7 s10_1 a_h_9 s6_5 _ (by omega) (by omega)) [0, 14, 10, 11, 12, 7] rfl (by decide) [12, 8, 9, 10, 5] rfl 0 1 rfl rfl rfl rfl rfl ⟨(Nat.le_of_ble_eq_true rfl), (Nat.le_of_ble_eq_true rfl)⟩ hl.1 rfl rfl (Nat.le_of_ble_eq_true rfl) ⟨(Nat.le_of_ble_eq_true rfl), (Nat.le_of_ble_eq_true rfl)⟩ dX1_trace_14) (fun s14_0 H locs w14 Wd => ?_)
  have Wd : wX D [(a_h0_0, .int), (a_h_13, .int), (a_h_12, .int), (a_h_2, .int), (a_h_3, .int), (a_h_9, .int), (a_h_4, .int), (a_h_5, .int), (a_h_8, .int), (a_h_6, .int), (a_h_7, .int), (a_h_11, .int), (a_h_10, .int)] s [(h, .inr (1, [.ref h0, .int s6_0, .ref h_2, .ref h_3, .ref h_4, .ref h_5, .ref h_6, .ref h_7, .ref h_8, .ref h_9, .ref h_10, .ref h_11, .ref h_12, .ref h_13])), (h0, .inr (8, [.ref h0_0, .int h0_1])), (h0_0, .inl (a_h0_0, n_h0_0, .inl f_h0_0)), (h_13, .inl (a_h_13, 480, .inl s6_1)), (h_12, .inl (a_h_12, 40, .inl s6_2)), (h_2, .inl (a_h_2, 40, .inl s6_3)), (h_3, .inl (a_h_3, 40, .inl s6_4)), (h_9, .inl (a_h_9, 40, .inl s6_5)), (h_4, .inl (a_h_4, 40, .inl s6_6)), (h_5, .inl (a_h_5, 40, .inl s6_7)), (h_8, .inl (a_h_8, 40, .inl s6_8)), (h_6, .inl (a_h_6, 40, .inl s10_0)), (h_7, .inl (a_h_7, 40, .inl s10_1)), (h_11, .inl (a_h_11, 40, .inl s10_2)), (h_10, .inl (a_h_10, 40, .inl s14_0))] _ A s.heap _ := k_sub Wd [9, 0, 1, 2, 3, 4, 5, 14, 6, 7, 11, 12, 13, 8, 10] rfl (by decide) [0, 1, 2, 3, 4, 5, 6, 7, 8, 9, 10, 11, 12] rfl
  exact k_vret C hr hlk Wd (s6_0, s6_1, s6_2, s6_3, s6_4, s6_5, s6_6, s6_7, s6_8, s10_0, s10_1, s10_2, s14_0) (by exact ⟨by omega, by omega, by omega, by omega, q_s6_6, q_s6_7⟩) [0, 1, 2, 3, 4, 5, 6, 7, 8, 9, 10, 11, 12, 13, 14] rfl (by decide) [] rfl (by decide) (by decide) dX1_trace_17
set_option maxHeartbeats 4000000 in
set_option maxRecDepth 100000 in
theorem sX1_setBy (l : Launch) (D : va_G) (h : Nat) (x0 : Int32) (h_0 : Value) (h_1 : Int32) (h_2 : Nat) (h_3 : Nat) (h_4 : Nat) (h_5 : Nat) (h_6 : Nat) (h_7 : Nat) (h_8 : Nat) (h_9 : Nat) (h_10 : Nat) (h_11 : Nat) (h_12 : Nat) (h_13 : Nat) (a_h_9 : ClassId) (f_h_9 : Nat → Int32) (sz : Nat) (k_h_1_lo : 0 ≤ h_1.toInt) (k_h_1_hi : h_1.toInt ≤ 40)  : Met l yX1_setBy (Cond.code yX1_setBy cX1_setBy 2 (some .int) :: gG) { frames := 2, cells := 0, slots := 0, locals := 85 } (cPre D [(a_h_9, .int)] [(h, .inr (1, [h_0, .int h_1, .ref h_2, .ref h_3, .ref h_4, .ref h_5, .ref h_6, .ref h_7, .ref h_8, .ref h_9, .ref h_10, .ref h_11, .ref h_12, .ref h_13])), (h_9, .inl (a_h_9, 40, .inl f_h_9))] sz [.ref h, .int x0]) (vp_Si (fun r => True)) 0 0 (fun _ => False) := by
  refine Met.ofW (cc := cX1_setBy) (maxL := 2) (ret := (some .int)) (by decide) rfl ?_
  intro p e s m args below meth c s₁ B hml hv
  obtain ⟨rfl, aks, rfl, Wd⟩ := k_enter hv
  have C : CallFix p m c cX1_setBy 2 s _ gG RX1 := ⟨B.exec, B.bytes, hml, findClass_of_methodNamed B.named, fun w h => atoms_spec (ws := Cond.code yX1_setBy cX1_setBy 2 (some .int) :: gG) B.pre w (List.mem_cons_of_mem _ h)⟩
  have hr := B.returns
  have hlk := B.notSynchronized
  obtain ⟨A, Wd⟩ : ∃ A, wX D [(a_h_9, .int)] s [(h, .inr (1, [h_0, .int h_1, .ref h_2, .ref h_3, .ref h_4, .ref h_5, .ref h_6, .ref h_7, .ref h_8, .ref h_9, .ref h_10, .ref h_11, .ref h_12, .ref h_13])), (h_9, .inl (a_h_9, 40, .inl f_h_9))] s.heap A s.heap [] := ⟨_, Wd⟩
  refine k_locals (Nat.le_of_ble_eq_true rfl) [(0, .ref h), (1, .int x0)] rfl (fun ls hl => ?_)
  refine lv_aload_n C.1 C.2.1 dX1_setBy_0 rfl (lv_at hl 0 rfl) ?_
  refine lv_iload_n C.1 C.2.1 dX1_setBy_1 rfl (lv_at hl 1 rfl) ?_
  refine k_cutA (fun (j18_S_0 : Int32) H locs ls => H = s.heap ∧ locs = [] ∧ wX D [(a_h_9, .int)] s [(h, .inr (1, [h_0, .int h_1, .ref h_2, .ref h_3, .ref h_4, .ref h_5, .ref h_6, .ref h_7, .ref h_8, .ref h_9, .ref h_10, .ref h_11, .ref h_12, .ref h_13])), (h_9, .inl (a_h_9, 40, .inl f_h_9))] H A s.heap locs ∧ lv_has ls 2 [(0, .ref h), (1, .int x0)]) (fun (j18_S_0 : Int32) ls => F0 m 18 ls [.int j18_S_0]) (fun j18_S_0 H locs ls hi => ?_) (fun J18 => ?_)
  · obtain ⟨rfl, rfl, Wd, hl⟩ := hi
    exact k_zretP C hr hlk rfl trivial dX1_setBy_18
  refine k_pi (k_runV (rest := []) C aks Wd cs_X1_70 (sX1_isHere l D h x0 (h_0 : Value) h_1 h_2 h_3 h_4 h_5 h_6 h_7 h_8 h_9 h_10 h_11 h_12 h_13 _ (by omega) (by omega)) [0] rfl (by decide) [] rfl 0 1 rfl rfl rfl rfl rfl ⟨(Nat.le_of_ble_eq_true rfl), (Nat.le_of_ble_eq_true rfl)⟩ hl.1 rfl rfl (Nat.le_of_ble_eq_true rfl) ⟨(Nat.le_of_ble_eq_true rfl), (Nat.le_of_ble_eq_true rfl)⟩ dX1_setBy_2) (fun r2 w2 => ?_)
  rcases w2 with rfl | ⟨g2_1_0, g2_1_1, g2_1_2, g2_1_3, rfl⟩
  · refine lv_if_eq (tgt := 17) C.1 C.2.1 dX1_setBy_5 (by decide) (fun _ => ?_) (fun c5 => absurd c5 (by decide))
    refine lv_iconst (v := 0) C.1 C.2.1 dX1_setBy_17 (by decide) ?_
    exact J18 0 _ _ _ ⟨rfl, rfl, Wd, lv_sub hl [0, 1] rfl⟩
  · have g2_1_0 : 0 ≤ x0.toInt := g2_1_0
    have g2_1_1 : 1 ≤ h_1.toInt := g2_1_1
    have g2_1_2 : x0.toInt ≤ 39 := g2_1_2
    have g2_1_3 : x0.toInt + 1 ≤ h_1.toInt := g2_1_3
    refine lv_if_eq (tgt := 17) C.1 C.2.1 dX1_setBy_5 (by decide) (fun c5 => absurd c5 (by decide)) (fun _ => ?_)
    refine lv_aload_n C.1 C.2.1 dX1_setBy_8 rfl (lv_at hl 0 rfl) ?_
    refine k_get C Wd KX1 0 9 rfl (by decide) fl_X1_42 rfl dX1_setBy_9 ?_
    refine lv_iload_n C.1 C.2.1 dX1_setBy_12 rfl (lv_at hl 1 rfl) ?_
    obtain ⟨v13, ev13⟩ : ∃ z : Int32, f_h_9 x0.toNatClampNeg = z := ⟨_, rfl⟩
    refine k_iald (v := v13) C Wd 1 0 rfl rfl (vp_in_iff.mpr ⟨by omega, by omega⟩) ev13 dX1_setBy_13 ?_
    refine lv_goto (tgt := 18) C.1 C.2.1 dX1_setBy_14 (by decide) ?_
    exact J18 v13 _ _ _ ⟨rfl, rfl, Wd, lv_sub hl [0, 1] rfl⟩
set_option maxHeartbeats 4000000 in
set_option maxRecDepth 100000 in
theorem sX1_behind (l : Launch) (D : va_G) (h : Nat) (x0 : Int32) (h_0 : Value) (h_1 : Int32) (h_2 : Nat) (h_3 : Nat) (h_4 : Nat) (h_5 : Nat) (h_6 : Nat) (h_7 : Nat) (h_8 : Nat) (h_9 : Nat) (h_10 : Nat) (h_11 : Nat) (h_12 : Nat) (h_13 : Nat) (a_h_6 : ClassId) (f_h_6 : Nat → Int32) (a_h_10 : ClassId) (f_h_10 : Nat → Int32) (a_h_7 : ClassId) (f_h_7 : Nat → Int32) (sz : Nat) (k_h_1_lo : 0 ≤ h_1.toInt) (k_h_1_hi : h_1.toInt ≤ 40)  : Met l yX1_behind (Cond.code yX1_behind cX1_behind 2 (some .int) :: gG) { frames := 3, cells := 0, slots := 0, locals := 106 } (cPre D [(a_h_6, .int), (a_h_10, .int), (a_h_7, .int)] [(h, .inr (1, [h_0, .int h_1, .ref h_2, .ref h_3, .ref h_4, .ref h_5, .ref h_6, .ref h_7, .ref h_8, .ref h_9, .ref h_10, .ref h_11, .ref h_12, .ref h_13])), (h_6, .inl (a_h_6, 40, .inl f_h_6)), (h_10, .inl (a_h_10, 40, .inl f_h_10)), (h_7, .inl (a_h_7, 40, .inl f_h_7))] sz [.ref h, .int x0]) (vp_Si (fun r => True)) 0 0 (fun _ => False) := by
  refine Met.ofW (cc := cX1_behind) (maxL := 2) (ret := (some .int)) (by decide) rfl ?_
  intro p e s m args below meth c s₁ B hml hv
  obtain ⟨rfl, aks, rfl, Wd⟩ := k_enter hv
  have C : CallFix p m c cX1_behind 2 s _ gG RX1 := ⟨B.exec, B.bytes, hml, findClass_of_methodNamed B.named, fun w h => atoms_spec (ws := Cond.code yX1_behind cX1_behind 2 (some .int) :: gG) B.pre w (List.mem_cons_of_mem _ h)⟩
  have hr := B.returns
  have hlk := B.notSynchronized
  obtain ⟨A, Wd⟩ : ∃ A, wX D [(a_h_6, .int), (a_h_10, .int), (a_h_7, .int)] s [(h, .inr (1, [h_0, .int h_1, .ref h_2, .ref h_3, .ref h_4, .ref h_5, .ref h_6, .ref h_7, .ref h_8, .ref h_9, .ref h_10, .ref h_11, .ref h_12, .ref h_13])), (h_6, .inl (a_h_6, 40, .inl f_h_6)), (h_10, .inl (a_h_10, 40, .inl f_h_10)), (h_7, .inl (a_h_7, 40, .inl f_h_7))] s.heap A s.heap [] := ⟨_, Wd⟩
  refine k_locals (Nat.le_of_ble_eq_true rfl) [(0, .ref h), (1, .int x0)] rfl (fun ls hl => ?_)
  refine lv_aload_n C.1 C.2.1 dX1_behind_0 rfl (lv_at hl 0 rfl) ?_
  refine lv_iload_n C.1 C.2.1 dX1_behind_1 rfl (lv_at hl 1 rfl) ?_
  refine k_cutA (fun (j33_S_0 : Int32) H locs ls => H = s.heap ∧ locs = [] ∧ wX D [(a_h_6, .int), (a_h_10, .int), (a_h_7, .int)] s [(h, .inr (1, [h_0, .int h_1, .ref h_2, .ref h_3, .ref h_4, .ref h_5, .ref h_6, .ref h_7, .ref h_8, .ref h_9, .ref h_10, .ref h_11, .ref h_12, .ref h_13])), (h_6, .inl (a_h_6, 40, .inl f_h_6)), (h_10, .inl (a_h_10, 40, .inl f_h_10)), (h_7, .inl (a_h_7, 40, .inl f_h_7))] H A s.heap locs ∧ lv_has ls 2 [(0, .ref h), (1, .int x0)]) (fun (j33_S_0 : Int32) ls => F0 m 33 ls [.int j33_S_0]) (fun j33_S_0 H locs ls hi => ?_) (fun J33 => ?_)
  · obtain ⟨rfl, rfl, Wd, hl⟩ := hi
    exact k_zretP C hr hlk rfl trivial dX1_behind_33
  refine k_pi (k_runV (rest := []) C aks Wd cs_X1_70 (sX1_isHere l D h x0 (h_0 : Value) h_1 h_2 h_3 h_4 h_5 h_6 h_7 h_8 h_9 h_10 h_11 h_12 h_13 _ (by omega) (by omega)) [0] rfl (by decide) [] rfl 0 1 rfl rfl rfl rfl rfl ⟨(Nat.le_of_ble_eq_true rfl), (Nat.le_of_ble_eq_true rfl)⟩ hl.1 rfl rfl (Nat.le_of_ble_eq_true rfl) ⟨(Nat.le_of_ble_eq_true rfl), (Nat.le_of_ble_eq_true rfl)⟩ dX1_behind_2) (fun r2 w2 => ?_)
  rcases w2 with rfl | ⟨g2_1_0, g2_1_1, g2_1_2, g2_1_3, rfl⟩
  · refine lv_if_eq (tgt := 32) C.1 C.2.1 dX1_behind_5 (by decide) (fun _ => ?_) (fun c5 => absurd c5 (by decide))
    refine lv_iconst (v := 0) C.1 C.2.1 dX1_behind_32 (by decide) ?_
    exact J33 0 _ _ _ ⟨rfl, rfl, Wd, lv_sub hl [0, 1] rfl⟩
  · have g2_1_0 : 0 ≤ x0.toInt := g2_1_0
    have g2_1_1 : 1 ≤ h_1.toInt := g2_1_1
    have g2_1_2 : x0.toInt ≤ 39 := g2_1_2
    have g2_1_3 : x0.toInt + 1 ≤ h_1.toInt := g2_1_3
    refine lv_if_eq (tgt := 32) C.1 C.2.1 dX1_behind_5 (by decide) (fun c5 => absurd c5 (by decide)) (fun _ => ?_)
    refine lv_aload_n C.1 C.2.1 dX1_behind_8 rfl (lv_at hl 0 rfl) ?_
    refine lv_aload_n C.1 C.2.1 dX1_behind_9 rfl (lv_at hl 0 rfl) ?_
    refine k_get C Wd KX1 0 6 rfl (by decide) fl_X1_33 rfl dX1_behind_10 ?_
    refine lv_iload_n C.1 C.2.1 dX1_behind_13 rfl (lv_at hl 1 rfl) ?_
    obtain ⟨v14, ev14⟩ : ∃ z : Int32, f_h_6 x0.toNatClampNeg = z := ⟨_, rfl⟩
    refine k_iald (v := v14) C Wd 1 0 rfl rfl (vp_in_iff.mpr ⟨by omega, by omega⟩) ev14 dX1_behind_14 ?_
    refine k_pi (k_runV (rest := []) C aks Wd cs_X1_74 (sX1_aheadOf l D h v14 (h_0 : Value) h_1 h_2 h_3 h_4 h_5 h_6 h_7 h_8 h_9 h_10 h_11 h_12 h_13 a_h_10 f_h_10 _ (by omega) (by omega)) [0, 2] rfl (by decide) [1] rfl 0 1 rfl rfl rfl rfl rfl ⟨(Nat.le_of_ble_eq_true rfl), (Nat.le_of_ble_eq_true rfl)⟩ hl.1 rfl rfl (Nat.le_of_ble_eq_true rfl) ⟨(Nat.le_of_ble_eq_true rfl), (Nat.le_of_ble_eq_true rfl)⟩ dX1_behind_15) (fun r15 w15 => ?_)
    refine lv_aload_n C.1 C.2.1 dX1_behind_18 rfl (lv_at hl 0 rfl) ?_
    refine lv_aload_n C.1 C.2.1 dX1_behind_19 rfl (lv_at hl 0 rfl) ?_
    refine k_get C Wd KX1 0 7 rfl (by decide) fl_X1_36 rfl dX1_behind_20 ?_
    refine lv_iload_n C.1 C.2.1 dX1_behind_23 rfl (lv_at hl 1 rfl) ?_
    obtain ⟨v24, ev24⟩ : ∃ z : Int32, f_h_7 x0.toNatClampNeg = z := ⟨_, rfl⟩
    refine k_iald (v := v24) C Wd 3 2 rfl rfl (vp_in_iff.mpr ⟨by omega, by omega⟩) ev24 dX1_behind_24 ?_
    refine k_pi (k_runV (rest := [.int r15]) C aks Wd cs_X1_74 (sX1_aheadOf l D h v24 (h_0 : Value) h_1 h_2 h_3 h_4 h_5 h_6 h_7 h_8 h_9 h_10 h_11 h_12 h_13 a_h_10 f_h_10 _ (by omega) (by omega)) [0, 2] rfl (by decide) [1] rfl 0 1 rfl rfl rfl rfl rfl ⟨(Nat.le_of_ble_eq_true rfl), (Nat.le_of_ble_eq_true rfl)⟩ hl.1 rfl rfl (Nat.le_of_ble_eq_true rfl) ⟨(Nat.le_of_ble_eq_true rfl), (Nat.le_of_ble_eq_true rfl)⟩ dX1_behind_25) (fun r25 w25 => ?_)
    obtain ⟨v28, ev28⟩ : ∃ z : Int32, r15 ||| r25 = z := ⟨_, rfl⟩
    refine k_ior (v := v28) C ev28 dX1_behind_28 ?_
    refine lv_goto (tgt := 33) C.1 C.2.1 dX1_behind_29 (by decide) ?_
    exact J33 v28 _ _ _ ⟨rfl, rfl, Wd, lv_sub hl [0, 1] rfl⟩
set_option maxHeartbeats 4000000 in
set_option maxRecDepth 100000 in
theorem sX9_forget (l : Launch) (D : va_G) (h : Nat) (h_0 : Nat) (h_1 : Nat) (h_2 : Int32) (h_3 : Nat) (h_4 : Nat) (h_0_0 : Nat) (h_0_1 : Int32) (n_h_0_0 : Nat) (a_h_0_0 : ClassId) (f_h_0_0 : Nat → Int32) (h_1_0 : Nat) (h_1_1 : Int32) (n_h_1_0 : Nat) (a_h_1_0 : ClassId) (f_h_1_0 : Nat → Int32) (sz : Nat) (k_h_0_1_lo : 0 ≤ h_0_1.toInt) (k_n_h_0_0 : n_h_0_0 ≤ 1000) (k_p_h_0_0 : 1 ≤ n_h_0_0) (k_h_0_1_hi : h_0_1.toInt ≤ (n_h_0_0 : Int)) (k_h_1_1_lo : 0 ≤ h_1_1.toInt) (k_n_h_1_0 : n_h_1_0 ≤ 1000) (k_p_h_1_0 : 1 ≤ n_h_1_0) (k_h_1_1_hi : h_1_1.toInt ≤ (n_h_1_0 : Int))  : Met l yX9_forget (Cond.code yX9_forget cX9_forget 1 none :: gG) { frames := 1, cells := 0, slots := 0, locals := 64 } (cPre D [(a_h_0_0, .int), (a_h_1_0, .int)] [(h, .inr (9, [.ref h_0, .ref h_1, .int h_2, .ref h_3, .ref h_4])), (h_0, .inr (8, [.ref h_0_0, .int h_0_1])), (h_0_0, .inl (a_h_0_0, n_h_0_0, .inl f_h_0_0)), (h_1, .inr (8, [.ref h_1_0, .int h_1_1])), (h_1_0, .inl (a_h_1_0, n_h_1_0, .inl f_h_1_0))] sz [.ref h]) (va_Qv (fun (_ : Unit) => True) (fun u t => cB D (va_A [(h, .inr (9, [.ref h_0, .ref h_1, .int h_2, .ref h_3, .ref h_4])), (h_0, .inr (8, [.ref h_0_0, .int h_0_1])), (h_0_0, .inl (a_h_0_0, n_h_0_0, .inl f_h_0_0)), (h_1, .inr (8, [.ref h_1_0, .int h_1_1])), (h_1_0, .inl (a_h_1_0, n_h_1_0, .inl f_h_1_0))] sz) ((fun (_ : Unit) => ([] : List (ClassId × FieldType))) u) ((fun (_ : Unit) => ([(h, .inr (9, [.ref h_0, .ref h_1, .int 0, .ref h_3, .ref h_4])), (h_0, .inr (8, [.ref h_0_0, .int 0])), (h_0_0, .inl (a_h_0_0, n_h_0_0, .inl f_h_0_0)), (h_1, .inr (8, [.ref h_1_0, .int 0])), (h_1_0, .inl (a_h_1_0, n_h_1_0, .inl f_h_1_0))] : va_W)) u) t) (va_A [(h, .inr (9, [.ref h_0, .ref h_1, .int h_2, .ref h_3, .ref h_4])), (h_0, .inr (8, [.ref h_0_0, .int h_0_1])), (h_0_0, .inl (a_h_0_0, n_h_0_0, .inl f_h_0_0)), (h_1, .inr (8, [.ref h_1_0, .int h_1_1])), (h_1_0, .inl (a_h_1_0, n_h_1_0, .inl f_h_1_0))] sz)) 0 0 (va_A [(h, .inr (9, [.ref h_0, .ref h_1, .int h_2, .ref h_3, .ref h_4])), (h_0, .inr (8, [.ref h_0_0, .int h_0_1])), (h_0_0, .inl (a_h_0_0, n_h_0_0, .inl f_h_0_0)), (h_1, .inr (8, [.ref h_1_0, .int h_1_1])), (h_1_0, .inl (a_h_1_0, n_h_1_0, .inl f_h_1_0))] sz) := by
  refine Met.ofW (cc := cX9_forget) (maxL := 1) (ret := none) (by decide) rfl ?_
  intro p e s m args below meth c s₁ B hml hv
  obtain ⟨rfl, aks, rfl, Wd⟩ := k_enter hv
  have C : CallFix p m c cX9_forget 1 s _ gG RX9 := ⟨B.exec, B.bytes, hml, findClass_of_methodNamed B.named, fun w h => atoms_spec (ws := Cond.code yX9_forget cX9_forget 1 none :: gG) B.pre w (List.mem_cons_of_mem _ h)⟩
  have hr := B.returns
  have hlk := B.notSynchronized
  generalize va_A [(h, .inr (9, [.ref h_0, .ref h_1, .int h_2, .ref h_3, .ref h_4])), (h_0, .inr (8, [.ref h_0_0, .int h_0_1])), (h_0_0, .inl (a_h_0_0, n_h_0_0, .inl f_h_0_0)), (h_1, .inr (8, [.ref h_1_0, .int h_1_1])), (h_1_0, .inl (a_h_1_0, n_h_1_0, .inl f_h_1_0))] s.heap.size = A at Wd ⊢
  refine k_locals (Nat.le_of_ble_eq_true rfl) [(0, .ref h)] rfl (fun ls hl => ?_)
  refine lv_aload_n C.1 C.2.1 dX9_forget_0 rfl (lv_at hl 0 rfl) ?_
  refine k_get C Wd KX9 0 0 rfl (by decide) fl_X9_14 rfl dX9_forget_1 ?_
  refine lv_iconst (v := 0) C.1 C.2.1 dX9_forget_4 (by decide) ?_
  refine k_put C Wd KX8 1 1 [(h, .inr (9, [.ref h_0, .ref h_1, .int h_2, .ref h_3, .ref h_4])), (h_0, .inr (8, [.ref h_0_0, .int 0])), (h_0_0, .inl (a_h_0_0, n_h_0_0, .inl f_h_0_0)), (h_1, .inr (8, [.ref h_1_0, .int h_1_1])), (h_1_0, .inl (a_h_1_0, n_h_1_0, .inl f_h_1_0))] rfl (by decide) fl_X9_34 rfl rfl rfl (Nat.le_of_ble_eq_true rfl) rfl dX9_forget_5 (fun H locs Wd => ?_)
  refine lv_aload_n C.1 C.2.1 dX9_forget_8 rfl (lv_at hl 0 rfl) ?_
  refine k_get C Wd KX9 0 1 rfl (by decide) fl_X9_20 rfl dX9_forget_9 ?_
  refine lv_iconst (v := 0) C.1 C.2.1 dX9_forget_12 (by decide) ?_
  refine k_put C Wd KX8 3 1 [(h, .inr (9, [.ref h_0, .ref h_1, .int h_2, .ref h_3, .ref h_4])), (h_0, .inr (8, [.ref h_0_0, .int 0])), (h_0_0, .inl (a_h_0_0, n_h_0_0, .inl f_h_0_0)), (h_1, .inr (8, [.ref h_1_0, .int 0])), (h_1_0, .inl (a_h_1_0, n_h_1_0, .inl f_h_1_0))] rfl (by decide) fl_X9_34 rfl rfl rfl (Nat.le_of_ble_eq_true rfl) rfl dX9_forget_13 (fun H locs Wd => ?_)
  refine lv_aload_n C.1 C.2.1 dX9_forget_16 rfl (lv_at hl 0 rfl) ?_
  refine lv_iconst (v := 0) C.1 C.2.1 dX9_forget_17 (by decide) ?_
  refine k_put C Wd KX9 0 2 [(h, .inr (9, [.ref h_0, .ref h_1, .int 0, .ref h_3, .ref h_4])), (h_0, .inr (8, [.ref h_0_0, .int 0])), (h_0_0, .inl (a_h_0_0, n_h_0_0, .inl f_h_0_0)), (h_1, .inr (8, [.ref h_1_0, .int 0])), (h_1_0, .inl (a_h_1_0, n_h_1_0, .inl f_h_1_0))] rfl (by decide) fl_X9_30 rfl rfl rfl (Nat.le_of_ble_eq_true rfl) rfl dX9_forget_18 (fun H locs Wd => ?_)
  exact k_vret C hr hlk Wd () trivial [0, 1, 2, 3, 4] rfl (by decide) [] rfl (by decide) (by decide) dX9_forget_21
set_option maxHeartbeats 4000000 in
set_option maxRecDepth 100000 in
theorem sX9_letterOf (l : Launch) (D : va_G) (x0 : Int32) (sz : Nat)   : Met l yX9_letterOf (Cond.code yX9_letterOf cX9_letterOf 1 (some .int) :: gG) { frames := 1, cells := 0, slots := 0, locals := 64 } (cPre D [] [] sz [.int x0]) (vp_Si (fun r => (r = (-1)) ∨ (0 ≤ r.toInt ∧ r.toInt ≤ 2 ∧ r.toInt + 20 ≤ x0.toInt ∧ x0.toInt ≤ r.toInt + 20))) 0 0 (fun _ => False) := by
  refine Met.ofW (cc := cX9_letterOf) (maxL := 1) (ret := (some .int)) (by decide) rfl ?_
  intro p e s m args below meth c s₁ B hml hv
  obtain ⟨rfl, aks, rfl, Wd⟩ := k_enter hv
  have C : CallFix p m c cX9_letterOf 1 s _ gG RX9 := ⟨B.exec, B.bytes, hml, findClass_of_methodNamed B.named, fun w h => atoms_spec (ws := Cond.code yX9_letterOf cX9_letterOf 1 (some .int) :: gG) B.pre w (List.mem_cons_of_mem _ h)⟩
  have hr := B.returns
  have hlk := B.notSynchronized
  obtain ⟨A, Wd⟩ : ∃ A, wX D [] s [] s.heap A s.heap [] := ⟨_, Wd⟩
  refine k_locals (Nat.le_of_ble_eq_true rfl) [(0, .int x0)] rfl (fun ls hl => ?_)
  refine lv_iload_n C.1 C.2.1 dX9_letterOf_0 rfl (lv_at hl 0 rfl) ?_
  refine lv_bipush (v := 20) C.1 C.2.1 dX9_letterOf_1 (by decide) ?_
  refine lv_icmp_lt (tgt := 19) C.1 C.2.1 dX9_letterOf_3 (by decide) (fun c3 => ?_) (fun c3 => ?_)
  · have i3 : x0.toInt < 20 := kz_lt c3
    refine lv_iconst (v := (-1)) C.1 C.2.1 dX9_letterOf_19 (by decide) ?_
    exact k_zretP C hr hlk rfl (by exact Or.inl rfl) dX9_letterOf_20
  · have i3 : 20 ≤ x0.toInt := kz_nlt c3
    refine lv_iload_n C.1 C.2.1 dX9_letterOf_6 rfl (lv_at hl 0 rfl) ?_
    refine lv_bipush (v := 23) C.1 C.2.1 dX9_letterOf_7 (by decide) ?_
    refine lv_icmp_ge (tgt := 19) C.1 C.2.1 dX9_letterOf_9 (by decide) (fun c9 => ?_) (fun c9 => ?_)
    · have i9 : 23 ≤ x0.toInt := kz_le c9
      refine lv_iconst (v := (-1)) C.1 C.2.1 dX9_letterOf_19 (by decide) ?_
      exact k_zretP C hr hlk rfl (by exact Or.inl rfl) dX9_letterOf_20
    · have i9 : x0.toInt < 23 := kz_nle c9
      refine lv_iload_n C.1 C.2.1 dX9_letterOf_12 rfl (lv_at hl 0 rfl) ?_
      refine lv_bipush (v := 20) C.1 C.2.1 dX9_letterOf_13 (by decide) ?_
      obtain ⟨v15, ev15⟩ : ∃ z : Int32, x0 - 20 = z := ⟨_, rfl⟩
      have iv15 : v15.toInt = x0.toInt - 20 := kz_subc ev15 (by decide) (by have zr0 := kz_rng x0; omega) (by have zr0 := kz_rng x0; omega)
      refine k_isub (v := v15) C ev15 dX9_letterOf_15 ?_
      refine lv_goto (tgt := 20) C.1 C.2.1 dX9_letterOf_16 (by decide) ?_
      exact k_zretP C hr hlk rfl (by exact Or.inr (⟨by omega, by omega, by omega, by omega⟩)) dX9_letterOf_20
set_option maxHeartbeats 4000000 in
set_option maxRecDepth 100000 in
theorem sX9_noteLetters (l : Launch) (D : va_G) (h : Nat) (h_0 : Nat) (h_1 : Nat) (h_2 : Int32) (h_3 : Nat) (h_4 : Nat) (h_0_0 : Nat) (h_0_1 : Int32) (n_h_0_0 : Nat) (a_h_0_0 : ClassId) (f_h_0_0 : Nat → Int32) (sz : Nat) (k_h_0_1_lo : 0 ≤ h_0_1.toInt) (k_n_h_0_0 : n_h_0_0 ≤ 1000) (k_p_h_0_0 : 1 ≤ n_h_0_0) (k_h_0_1_hi : h_0_1.toInt ≤ (n_h_0_0 : Int))  : Met l yX9_noteLetters (Cond.code yX9_noteLetters cX9_noteLetters 3 none :: gG) { frames := 2, cells := 0, slots := 0, locals := 85 } (cPre D [(a_h_0_0, .int)] [(h, .inr (9, [.ref h_0, .ref h_1, .int h_2, .ref h_3, .ref h_4])), (h_0, .inr (8, [.ref h_0_0, .int h_0_1])), (h_0_0, .inl (a_h_0_0, n_h_0_0, .inl f_h_0_0))] sz [.ref h]) (va_Qv (fun (jX_F_h_2 : Int32) => True) (fun u t => cB D (va_A [(h, .inr (9, [.ref h_0, .ref h_1, .int h_2, .ref h_3, .ref h_4])), (h_0, .inr (8, [.ref h_0_0, .int h_0_1])), (h_0_0, .inl (a_h_0_0, n_h_0_0, .inl f_h_0_0))] sz) ((fun (_ : (Int32)) => ([] : List (ClassId × FieldType))) u) ((fun (jX_F_h_2 : Int32) => ([(h, .inr (9, [.ref h_0, .ref h_1, .int jX_F_h_2, .ref h_3, .ref h_4])), (h_0, .inr (8, [.ref h_0_0, .int h_0_1])), (h_0_0, .inl (a_h_0_0, n_h_0_0, .inl f_h_0_0))] : va_W)) u) t) (va_A [(h, .inr (9, [.ref h_0, .ref h_1, .int h_2, .ref h_3, .ref h_4])), (h_0, .inr (8, [.ref h_0_0, .int h_0_1])), (h_0_0, .inl (a_h_0_0, n_h_0_0, .inl f_h_0_0))] sz)) 0 0 (va_A [(h, .inr (9, [.ref h_0, .ref h_1, .int h_2, .ref h_3, .ref h_4])), (h_0, .inr (8, [.ref h_0_0, .int h_0_1])), (h_0_0, .inl (a_h_0_0, n_h_0_0, .inl f_h_0_0))] sz) := by
  refine Met.ofW (cc := cX9_noteLetters) (maxL := 3) (ret := none) (by decide) rfl ?_
  intro p e s m args below meth c s₁ B hml hv
  obtain ⟨rfl, aks, rfl, Wd⟩ := k_enter hv
  have C : CallFix p m c cX9_noteLetters 3 s _ gG RX9 := ⟨B.exec, B.bytes, hml, findClass_of_methodNamed B.named, fun w h => atoms_spec (ws := Cond.code yX9_noteLetters cX9_noteLetters 3 none :: gG) B.pre w (List.mem_cons_of_mem _ h)⟩
  have hr := B.returns
  have hlk := B.notSynchronized
  generalize va_A [(h, .inr (9, [.ref h_0, .ref h_1, .int h_2, .ref h_3, .ref h_4])), (h_0, .inr (8, [.ref h_0_0, .int h_0_1])), (h_0_0, .inl (a_h_0_0, n_h_0_0, .inl f_h_0_0))] s.heap.size = A at Wd ⊢
  refine k_locals (Nat.le_of_ble_eq_true rfl) [(0, .ref h)] rfl (fun ls hl => ?_)
  refine lv_aload_n C.1 C.2.1 dX9_noteLetters_0 rfl (lv_at hl 0 rfl) ?_
  refine lv_iconst (v := 0) C.1 C.2.1 dX9_noteLetters_1 (by decide) ?_
  refine k_put C Wd KX9 0 2 [(h, .inr (9, [.ref h_0, .ref h_1, .int 0, .ref h_3, .ref h_4])), (h_0, .inr (8, [.ref h_0_0, .int h_0_1])), (h_0_0, .inl (a_h_0_0, n_h_0_0, .inl f_h_0_0))] rfl (by decide) fl_X9_30 rfl rfl rfl (Nat.le_of_ble_eq_true rfl) rfl dX9_noteLetters_2 (fun H locs Wd => ?_)
  refine lv_iconst (v := 0) C.1 C.2.1 dX9_noteLetters_5 (by decide) ?_
  refine lv_istore_n (lv' := [(1, .int 0), (0, .ref h)]) C.1 C.2.1 dX9_noteLetters_6 rfl hl (by decide) rfl (fun ls hl => ?_)
  refine k_loopA (fun (u : (Int32) × (Int32)) H locs ls => match u with | (j7_F_h_2, j7_L_1) => 0 ≤ j7_L_1.toInt ∧ j7_L_1.toInt ≤ 1000 ∧ j7_L_1.toInt ≤ (n_h_0_0 : Int) ∧ j7_L_1.toInt ≤ h_0_1.toInt ∧ wX D [(a_h_0_0, .int)] s [(h, .inr (9, [.ref h_0, .ref h_1, .int j7_F_h_2, .ref h_3, .ref h_4])), (h_0, .inr (8, [.ref h_0_0, .int h_0_1])), (h_0_0, .inl (a_h_0_0, n_h_0_0, .inl f_h_0_0))] H A s.heap locs ∧ lv_has ls 3 [(1, .int j7_L_1), (0, .ref h)]) (fun (u : (Int32) × (Int32)) ls => match u with | (j7_F_h_2, j7_L_1) => F0 m 7 ls []) (fun (u : (Int32) × (Int32)) => match u with | (j7_F_h_2, j7_L_1) => (1001 - j7_L_1.toInt).toNat) (fun u H locs ls hi ih7 => ?_) (0, 0) _ _ _ ⟨by have zq0 : (0 : Int32).toInt = 0 := (by decide); omega, by have zq0 : (0 : Int32).toInt = 0 := (by decide); omega, by have zq0 : (0 : Int32).toInt = 0 := (by decide); omega, by have zq0 : (0 : Int32).toInt = 0 := (by decide); omega, Wd, lv_sub hl [0, 1] rfl⟩
  obtain ⟨j7_F_h_2, j7_L_1⟩ := u
  obtain ⟨i7_0, i7_1, i7_2, i7_3, Wd, hl⟩ := hi
  refine lv_iload_n C.1 C.2.1 dX9_noteLetters_7 rfl (lv_at hl 0 rfl) ?_
  refine lv_aload_n C.1 C.2.1 dX9_noteLetters_8 rfl (lv_at hl 1 rfl) ?_
  refine k_get C Wd KX9 0 0 rfl (by decide) fl_X9_14 rfl dX9_noteLetters_9 ?_
  refine k_get C Wd KX8 1 1 rfl (by decide) fl_X9_34 rfl dX9_noteLetters_12 ?_
  refine lv_icmp_ge (tgt := 57) C.1 C.2.1 dX9_noteLetters_15 (by decide) (fun c15 => ?_) (fun c15 => ?_)
  · have i15 : h_0_1.toInt ≤ j7_L_1.toInt := kz_le c15
    exact k_vret C hr hlk Wd j7_F_h_2 trivial [0, 1, 2] rfl (by decide) [] rfl (by decide) (by decide) dX9_noteLetters_57
  · have i15 : j7_L_1.toInt < h_0_1.toInt := kz_nle c15
    refine lv_aload_n C.1 C.2.1 dX9_noteLetters_18 rfl (lv_at hl 1 rfl) ?_
    refine k_get C Wd KX9 0 0 rfl (by decide) fl_X9_14 rfl dX9_noteLetters_19 ?_
    refine lv_iload_n C.1 C.2.1 dX9_noteLetters_22 rfl (lv_at hl 0 rfl) ?_
    refine k_pi (k_runV (rest := []) C aks Wd cs_X9_37 (sX8_cell l D h_0 j7_L_1 h_0_0 h_0_1 n_h_0_0 a_h_0_0 f_h_0_0 _ (by omega) (by omega) (by omega) (by omega)) [1, 2] rfl (by decide) [0] rfl 1 8 rfl rfl rfl rfl rfl ⟨(Nat.le_of_ble_eq_true rfl), (Nat.le_of_ble_eq_true rfl)⟩ hl.1 rfl rfl (Nat.le_of_ble_eq_true rfl) ⟨(Nat.le_of_ble_eq_true rfl), (Nat.le_of_ble_eq_true rfl)⟩ dX9_noteLetters_23) (fun r23 w23 => ?_)
    refine k_cutA (fun (u : (Int32) × (Int32)) H locs ls => match u with | (j47_L_2, j47_S_0) => -1 ≤ j47_L_2.toInt ∧ j47_L_2.toInt ≤ 2 ∧ wX D [(a_h_0_0, .int)] s [(h, .inr (9, [.ref h_0, .ref h_1, .int j7_F_h_2, .ref h_3, .ref h_4])), (h_0, .inr (8, [.ref h_0_0, .int h_0_1])), (h_0_0, .inl (a_h_0_0, n_h_0_0, .inl f_h_0_0))] H A s.heap locs ∧ lv_has ls 3 [(2, .int j47_L_2), (1, .int j7_L_1), (0, .ref h)]) (fun (u : (Int32) × (Int32)) ls => match u with | (j47_L_2, j47_S_0) => F0 m 47 ls [.int j47_S_0, .int j7_F_h_2, .ref h]) (fun u H locs ls hi => ?_) (fun J47 => ?_)
    · obtain ⟨j47_L_2, j47_S_0⟩ := u
      obtain ⟨i47_0, i47_1, Wd, hl⟩ := hi
      obtain ⟨v47, ev47⟩ : ∃ z : Int32, j7_F_h_2 ||| j47_S_0 = z := ⟨_, rfl⟩
      refine k_ior (v := v47) C ev47 dX9_noteLetters_47 ?_
      refine k_put C Wd KX9 0 2 [(h, .inr (9, [.ref h_0, .ref h_1, .int v47, .ref h_3, .ref h_4])), (h_0, .inr (8, [.ref h_0_0, .int h_0_1])), (h_0_0, .inl (a_h_0_0, n_h_0_0, .inl f_h_0_0))] rfl (by decide) fl_X9_30 rfl rfl rfl (Nat.le_of_ble_eq_true rfl) rfl dX9_noteLetters_48 (fun H locs Wd => ?_)
      obtain ⟨v51, ev51⟩ : ∃ z : Int32, j7_L_1 + 1 = z := ⟨_, rfl⟩
      have iv51 : v51.toInt = j7_L_1.toInt + 1 := kz_addc ev51 (by decide) (by have zr0 := kz_rng j7_L_1; omega) (by have zr0 := kz_rng j7_L_1; omega)
      refine lv_iinc (v := v51) (lv' := [(1, .int v51), (2, .int j47_L_2), (0, .ref h)]) C.1 C.2.1 dX9_noteLetters_51 hl (k := 1) rfl ev51 (by decide) rfl (fun ls hl => ?_)
      refine lv_goto (tgt := 7) C.1 C.2.1 dX9_noteLetters_54 (by decide) ?_
      exact ih7 (v47, v51) _ _ _ ⟨by omega, by omega, by omega, by omega, Wd, lv_sub hl [0, 2] rfl⟩ (by show (1001 - v51.toInt).toNat < (1001 - j7_L_1.toInt).toNat; omega)
    refine k_pi (k_runS (rest := []) C aks Wd cs_X9_41 (sX9_letterOf l D r23 _ ) [] rfl (by decide) [] rfl rfl rfl ⟨(Nat.le_of_ble_eq_true rfl), (Nat.le_of_ble_eq_true rfl)⟩ hl.1 rfl rfl (Nat.le_of_ble_eq_true rfl) ⟨(Nat.le_of_ble_eq_true rfl), (Nat.le_of_ble_eq_true rfl)⟩ dX9_noteLetters_26) (fun r26 w26 => ?_)
    rcases w26 with rfl | ⟨g26_1_0, g26_1_1, g26_1_2, g26_1_3⟩
    · refine lv_istore_n (lv' := [(2, .int (-1)), (1, .int j7_L_1), (0, .ref h)]) C.1 C.2.1 dX9_noteLetters_29 rfl hl (by decide) rfl (fun ls hl => ?_)
      refine lv_aload_n C.1 C.2.1 dX9_noteLetters_30 rfl (lv_at hl 2 rfl) ?_
      refine lv_dup C.1 C.2.1 dX9_noteLetters_31 rfl ?_
      refine k_get C Wd KX9 0 2 rfl (by decide) fl_X9_30 rfl dX9_noteLetters_32 ?_
      refine lv_iload_n C.1 C.2.1 dX9_noteLetters_35 rfl (lv_at hl 0 rfl) ?_
      refine lv_iconst (v := (-1)) C.1 C.2.1 dX9_noteLetters_36 (by decide) ?_
      refine lv_icmp_ne (tgt := 44) C.1 C.2.1 dX9_noteLetters_37 (by decide) (fun c37 => absurd c37 (by decide)) (fun _ => ?_)
      refine lv_iconst (v := 0) C.1 C.2.1 dX9_noteLetters_40 (by decide) ?_
      refine lv_goto (tgt := 47) C.1 C.2.1 dX9_noteLetters_41 (by decide) ?_
      exact J47 ((-1), 0) _ _ _ ⟨by have zqm1 : (-1 : Int32).toInt = -1 := (by decide); omega, by have zqm1 : (-1 : Int32).toInt = -1 := (by decide); omega, Wd, lv_sub hl [0, 1, 2] rfl⟩
    · have g26_1_0 : 0 ≤ r26.toInt := g26_1_0
      have g26_1_1 : r26.toInt ≤ 2 := g26_1_1
      have g26_1_2 : r26.toInt + 20 ≤ r23.toInt := g26_1_2
      have g26_1_3 : r23.toInt ≤ r26.toInt + 20 := g26_1_3
      refine lv_istore_n (lv' := [(2, .int r26), (1, .int j7_L_1), (0, .ref h)]) C.1 C.2.1 dX9_noteLetters_29 rfl hl (by decide) rfl (fun ls hl => ?_)
      refine lv_aload_n C.1 C.2.1 dX9_noteLetters_30 rfl (lv_at hl 2 rfl) ?_
      refine lv_dup C.1 C.2.1 dX9_noteLetters_31 rfl ?_
      refine k_get C Wd KX9 0 2 rfl (by decide) fl_X9_30 rfl dX9_noteLetters_32 ?_
      refine lv_iload_n C.1 C.2.1 dX9_noteLetters_35 rfl (lv_at hl 0 rfl) ?_
      refine lv_iconst (v := (-1)) C.1 C.2.1 dX9_noteLetters_36 (by decide) ?_
      refine lv_icmp_ne (tgt := 44) C.1 C.2.1 dX9_noteLetters_37 (by decide) (fun _ => ?_) (fun c37 => False.elim (by have i37 : r26.toInt = (-1) := kz_eq c37; omega))
      refine lv_iconst (v := 1) C.1 C.2.1 dX9_noteLetters_44 (by decide) ?_
      refine lv_iload_n C.1 C.2.1 dX9_noteLetters_45 rfl (lv_at hl 0 rfl) ?_
      obtain ⟨v46, ev46⟩ : ∃ z : Int32, 1 <<< (r26 &&& 31) = z := ⟨_, rfl⟩
      refine k_ishl (v := v46) C ev46 dX9_noteLetters_46 ?_
      exact J47 (r26, v46) _ _ _ ⟨by omega, by omega, Wd, lv_sub hl [0, 1, 2] rfl⟩
set_option maxHeartbeats 4000000 in
set_option maxRecDepth 100000 in
theorem sX9_hasLetter (l : Launch) (D : va_G) (h : Nat) (x0 : Int32) (h_0 : Nat) (h_1 : Nat) (h_2 : Int32) (h_3 : Nat) (h_4 : Nat) (sz : Nat)   : Met l yX9_hasLetter (Cond.code yX9_hasLetter cX9_hasLetter 2 (some .boolean) :: gG) { frames := 1, cells := 0, slots := 0, locals := 64 } (cPre D [] [(h, .inr (9, [.ref h_0, .ref h_1, .int h_2, .ref h_3, .ref h_4]))] sz [.ref h, .int x0]) (vp_Si (fun r => 0 ≤ r.toInt ∧ r.toInt ≤ 1)) 0 0 (fun _ => False) := by
  refine Met.ofW (cc := cX9_hasLetter) (maxL := 2) (ret := (some .boolean)) (by decide) rfl ?_
  intro p e s m args below meth c s₁ B hml hv
  obtain ⟨rfl, aks, rfl, Wd⟩ := k_enter hv
  have C : CallFix p m c cX9_hasLetter 2 s _ gG RX9 := ⟨B.exec, B.bytes, hml, findClass_of_methodNamed B.named, fun w h => atoms_spec (ws := Cond.code yX9_hasLetter cX9_hasLetter 2 (some .boolean) :: gG) B.pre w (List.mem_cons_of_mem _ h)⟩
  have hr := B.returns
  have hlk := B.notSynchronized
  obtain ⟨A, Wd⟩ : ∃ A, wX D [] s [(h, .inr (9, [.ref h_0, .ref h_1, .int h_2, .ref h_3, .ref h_4]))] s.heap A s.heap [] := ⟨_, Wd⟩
  refine k_locals (Nat.le_of_ble_eq_true rfl) [(0, .ref h), (1, .int x0)] rfl (fun ls hl => ?_)
  refine lv_iload_n C.1 C.2.1 dX9_hasLetter_0 rfl (lv_at hl 1 rfl) ?_
  refine k_cutA (fun (j25_S_0 : Int32) H locs ls => 0 ≤ j25_S_0.toInt ∧ j25_S_0.toInt ≤ 1 ∧ H = s.heap ∧ locs = [] ∧ wX D [] s [(h, .inr (9, [.ref h_0, .ref h_1, .int h_2, .ref h_3, .ref h_4]))] H A s.heap locs ∧ lv_has ls 2 [(0, .ref h), (1, .int x0)]) (fun (j25_S_0 : Int32) ls => F0 m 25 ls [.int j25_S_0]) (fun j25_S_0 H locs ls hi => ?_) (fun J25 => ?_)
  · obtain ⟨i25_0, i25_1, rfl, rfl, Wd, hl⟩ := hi
    exact k_zretP C hr hlk (k_nb (by omega) (by omega)) (by exact ⟨by omega, by omega⟩) dX9_hasLetter_25
  refine k_cutA (fun (_ : Unit) H locs ls => H = s.heap ∧ locs = [] ∧ wX D [] s [(h, .inr (9, [.ref h_0, .ref h_1, .int h_2, .ref h_3, .ref h_4]))] H A s.heap locs ∧ lv_has ls 2 [(0, .ref h), (1, .int x0)]) (fun (_ : Unit) ls => F0 m 24 ls []) (fun _ H locs ls hi => ?_) (fun J24 => ?_)
  · obtain ⟨rfl, rfl, Wd, hl⟩ := hi
    refine lv_iconst (v := 0) C.1 C.2.1 dX9_hasLetter_24 (by decide) ?_
    exact J25 0 _ _ _ ⟨by have zq0 : (0 : Int32).toInt = 0 := (by decide); omega, by have zq0 : (0 : Int32).toInt = 0 := (by decide); omega, rfl, rfl, Wd, lv_sub hl [0, 1] rfl⟩
  refine lv_if_lt (tgt := 24) C.1 C.2.1 dX9_hasLetter_1 (by decide) (fun c1 => ?_) (fun c1 => ?_)
  · have i1 : x0.toInt < 0 := kz_lt c1
    exact J24 () _ _ _ ⟨rfl, rfl, Wd, lv_sub hl [0, 1] rfl⟩
  · have i1 : 0 ≤ x0.toInt := kz_nlt c1
    refine lv_iload_n C.1 C.2.1 dX9_hasLetter_4 rfl (lv_at hl 1 rfl) ?_
    refine lv_iconst (v := 3) C.1 C.2.1 dX9_hasLetter_5 (by decide) ?_
    refine lv_icmp_ge (tgt := 24) C.1 C.2.1 dX9_hasLetter_6 (by decide) (fun c6 => ?_) (fun c6 => ?_)
    · have i6 : 3 ≤ x0.toInt := kz_le c6
      exact J24 () _ _ _ ⟨rfl, rfl, Wd, lv_sub hl [0, 1] rfl⟩
    · have i6 : x0.toInt < 3 := kz_nle c6
      refine lv_aload_n C.1 C.2.1 dX9_hasLetter_9 rfl (lv_at hl 0 rfl) ?_
      refine k_get C Wd KX9 0 2 rfl (by decide) fl_X9_30 rfl dX9_hasLetter_10 ?_
      refine lv_iload_n C.1 C.2.1 dX9_hasLetter_13 rfl (lv_at hl 1 rfl) ?_
      obtain ⟨v14, ev14⟩ : ∃ z : Int32, h_2 >>> (x0 &&& 31) = z := ⟨_, rfl⟩
      refine k_ishr (v := v14) C ev14 dX9_hasLetter_14 ?_
      refine lv_iconst (v := 1) C.1 C.2.1 dX9_hasLetter_15 (by decide) ?_
      obtain ⟨v16, ev16⟩ : ∃ z : Int32, v14 &&& 1 = z := ⟨_, rfl⟩
      refine k_iand (v := v16) C ev16 dX9_hasLetter_16 ?_
      refine lv_if_eq (tgt := 24) C.1 C.2.1 dX9_hasLetter_17 (by decide) (fun c17 => ?_) (fun c17 => ?_)
      · have i17 : v16.toInt = 0 := kz_eq c17
        exact J24 () _ _ _ ⟨rfl, rfl, Wd, lv_sub hl [0, 1] rfl⟩
      · have i17 : ¬ v16.toInt = 0 := kz_ne c17
        refine lv_iconst (v := 1) C.1 C.2.1 dX9_hasLetter_20 (by decide) ?_
        refine lv_goto (tgt := 25) C.1 C.2.1 dX9_hasLetter_21 (by decide) ?_
        exact J25 1 _ _ _ ⟨by have zq1 : (1 : Int32).toInt = 1 := (by decide); omega, by have zq1 : (1 : Int32).toInt = 1 := (by decide); omega, rfl, rfl, Wd, lv_sub hl [0, 1] rfl⟩
set_option maxHeartbeats 4000000 in
set_option maxRecDepth 100000 in
theorem sX9_bind (l : Launch) (D : va_G) (h : Nat) (h0 : Nat) (x1 : Int32) (x2 : Int32) (x3 : Int32) (h_0 : Nat) (h_1 : Nat) (h_2 : Int32) (h_3 : Nat) (h_4 : Nat) (a_h_3 : ClassId) (f_h_3 : Nat → Int32) (a_h_4 : ClassId) (f_h_4 : Nat → Int32) (h0_0 : Nat) (h0_1 : Int32) (n_h0_0 : Nat) (a_h0_0 : ClassId) (f_h0_0 : Nat → Int32) (sz : Nat) (k_x2_lo : -1 ≤ x2.toInt) (k_x2_hi : x2.toInt ≤ 5000) (k_x3_lo : -1 ≤ x3.toInt) (k_x3_hi : x3.toInt ≤ 5000) (k_h0_1_lo : 0 ≤ h0_1.toInt) (k_n_h0_0 : n_h0_0 ≤ 1000) (k_p_h0_0 : 1 ≤ n_h0_0) (k_h0_1_hi : h0_1.toInt ≤ (n_h0_0 : Int)) (q_f_h_3 : ∀ j : Nat, -1 ≤ (f_h_3 j).toInt ∧ (f_h_3 j).toInt ≤ 5000) (q_f_h_4 : ∀ j : Nat, -1 ≤ (f_h_4 j).toInt ∧ (f_h_4 j).toInt ≤ 5000) : Met l yX9_bind (Cond.code yX9_bind cX9_bind 6 (some .boolean) :: gG) { frames := 2, cells := 0, slots := 0, locals := 88 } (cPre D [(a_h_3, .int), (a_h_4, .int), (a_h0_0, .int)] [(h, .inr (9, [.ref h_0, .ref h_1, .int h_2, .ref h_3, .ref h_4])), (h_3, .inl (a_h_3, 3, .inl f_h_3)), (h_4, .inl (a_h_4, 3, .inl f_h_4)), (h0, .inr (8, [.ref h0_0, .int h0_1])), (h0_0, .inl (a_h0_0, n_h0_0, .inl f_h0_0))] sz [.ref h, .ref h0, .int x1, .int x2, .int x3]) (va_Qi (fun (r : Int32) (u : (Nat → Int32) × (Nat → Int32)) => match u with | (jX_C_h_3, jX_C_h_4) => 0 ≤ r.toInt ∧ r.toInt ≤ 1 ∧ (∀ j : Nat, -1 ≤ (jX_C_h_3 j).toInt ∧ (jX_C_h_3 j).toInt ≤ 5000) ∧ (∀ j : Nat, -1 ≤ (jX_C_h_4 j).toInt ∧ (jX_C_h_4 j).toInt ≤ 5000)) (fun u t => cB D (va_A [(h, .inr (9, [.ref h_0, .ref h_1, .int h_2, .ref h_3, .ref h_4])), (h_3, .inl (a_h_3, 3, .inl f_h_3)), (h_4, .inl (a_h_4, 3, .inl f_h_4)), (h0, .inr (8, [.ref h0_0, .int h0_1])), (h0_0, .inl (a_h0_0, n_h0_0, .inl f_h0_0))] sz) ((fun (_ : (Nat → Int32) × (Nat → Int32)) => ([] : List (ClassId × FieldType))) u) ((fun (u : (Nat → Int32) × (Nat → Int32)) => match u with | (jX_C_h_3, jX_C_h_4) => ([(h, .inr (9, [.ref h_0, .ref h_1, .int h_2, .ref h_3, .ref h_4])), (h_3, .inl (a_h_3, 3, .inl jX_C_h_3)), (h_4, .inl (a_h_4, 3, .inl jX_C_h_4)), (h0, .inr (8, [.ref h0_0, .int h0_1])), (h0_0, .inl (a_h0_0, n_h0_0, .inl f_h0_0))] : va_W)) u) t) (va_A [(h, .inr (9, [.ref h_0, .ref h_1, .int h_2, .ref h_3, .ref h_4])), (h_3, .inl (a_h_3, 3, .inl f_h_3)), (h_4, .inl (a_h_4, 3, .inl f_h_4)), (h0, .inr (8, [.ref h0_0, .int h0_1])), (h0_0, .inl (a_h0_0, n_h0_0, .inl f_h0_0))] sz)) 0 0 (va_A [(h, .inr (9, [.ref h_0, .ref h_1, .int h_2, .ref h_3, .ref h_4])), (h_3, .inl (a_h_3, 3, .inl f_h_3)), (h_4, .inl (a_h_4, 3, .inl f_h_4)), (h0, .inr (8, [.ref h0_0, .int h0_1])), (h0_0, .inl (a_h0_0, n_h0_0, .inl f_h0_0))] sz) := by
  refine Met.ofW (cc := cX9_bind) (maxL := 6) (ret := (some .boolean)) (by decide) rfl ?_
  intro p e s m args below meth c s₁ B hml hv
  obtain ⟨rfl, aks, rfl, Wd⟩ := k_enter hv
  have C : CallFix p m c cX9_bind 6 s _ gG RX9 := ⟨B.exec, B.bytes, hml, findClass_of_methodNamed B.named, fun w h => atoms_spec (ws := Cond.code yX9_bind cX9_bind 6 (some .boolean) :: gG) B.pre w (List.mem_cons_of_mem _ h)⟩
  have hr := B.returns
  have hlk := B.notSynchronized
  generalize va_A [(h, .inr (9, [.ref h_0, .ref h_1, .int h_2, .ref h_3, .ref h_4])), (h_3, .inl (a_h_3, 3, .inl f_h_3)), (h_4, .inl (a_h_4, 3, .inl f_h_4)), (h0, .inr (8, [.ref h0_0, .int h0_1])), (h0_0, .inl (a_h0_0, n_h0_0, .inl f_h0_0))] s.heap.size = A at Wd ⊢
  refine k_locals (Nat.le_of_ble_eq_true rfl) [(0, .ref h), (1, .ref h0), (2, .int x1), (3, .int x2), (4, .int x3)] rfl (fun ls hl => ?_)
  refine lv_iload_n C.1 C.2.1 dX9_bind_0 rfl (lv_at hl 2 rfl) ?_
  refine k_cutA (fun (_ : Unit) H locs ls => wX D [(a_h_3, .int), (a_h_4, .int), (a_h0_0, .int)] s [(h, .inr (9, [.ref h_0, .ref h_1, .int h_2, .ref h_3, .ref h_4])), (h_3, .inl (a_h_3, 3, .inl f_h_3)), (h_4, .inl (a_h_4, 3, .inl f_h_4)), (h0, .inr (8, [.ref h0_0, .int h0_1])), (h0_0, .inl (a_h0_0, n_h0_0, .inl f_h0_0))] H A s.heap locs ∧ lv_has ls 6 [(0, .ref h), (1, .ref h0), (2, .int x1), (3, .int x2), (4, .int x3)]) (fun (_ : Unit) ls => F0 m 9 ls []) (fun _ H locs ls hi => ?_) (fun J9 => ?_)
  · obtain ⟨Wd, hl⟩ := hi
    refine lv_iconst (v := 0) C.1 C.2.1 dX9_bind_9 (by decide) ?_
    exact k_zret C hr hlk rfl Wd (f_h_3, f_h_4) (by exact ⟨by have zq0 : (0 : Int32).toInt = 0 := (by decide); omega, by have zq0 : (0 : Int32).toInt = 0 := (by decide); omega, q_f_h_3, q_f_h_4⟩) [0, 1, 2, 3, 4] rfl (by decide) [] rfl (by decide) (by decide) dX9_bind_10
  refine lv_if_lt (tgt := 9) C.1 C.2.1 dX9_bind_1 (by decide) (fun c1 => ?_) (fun c1 => ?_)
  · have i1 : x1.toInt < 0 := kz_lt c1
    exact J9 () _ _ _ ⟨Wd, lv_sub hl [0, 1, 2, 3, 4] rfl⟩
  · have i1 : 0 ≤ x1.toInt := kz_nlt c1
    refine lv_iload_n C.1 C.2.1 dX9_bind_4 rfl (lv_at hl 2 rfl) ?_
    refine lv_iconst (v := 3) C.1 C.2.1 dX9_bind_5 (by decide) ?_
    refine lv_icmp_lt (tgt := 11) C.1 C.2.1 dX9_bind_6 (by decide) (fun c6 => ?_) (fun c6 => ?_)
    · have i6 : x1.toInt < 3 := kz_lt c6
      refine lv_aload_n C.1 C.2.1 dX9_bind_11 rfl (lv_at hl 0 rfl) ?_
      refine k_get C Wd KX9 0 3 rfl (by decide) fl_X9_23 rfl dX9_bind_12 ?_
      refine lv_iload_n C.1 C.2.1 dX9_bind_15 rfl (lv_at hl 2 rfl) ?_
      obtain ⟨v16, ev16⟩ : ∃ z : Int32, f_h_3 x1.toNatClampNeg = z := ⟨_, rfl⟩
      refine k_iald (v := v16) C Wd 1 0 rfl rfl (vp_in_iff.mpr ⟨by omega, by omega⟩) ev16 dX9_bind_16 ?_
      have iv16 : -1 ≤ v16.toInt ∧ v16.toInt ≤ 5000 := by rw [← ev16]; exact q_f_h_3 _
      refine lv_iconst (v := (-1)) C.1 C.2.1 dX9_bind_17 (by decide) ?_
      refine lv_icmp_eq (tgt := 67) C.1 C.2.1 dX9_bind_18 (by decide) (fun c18 => ?_) (fun c18 => ?_)
      · have i18 : v16.toInt = (-1) := kz_eq c18
        refine lv_aload_n C.1 C.2.1 dX9_bind_67 rfl (lv_at hl 0 rfl) ?_
        refine k_get C Wd KX9 0 3 rfl (by decide) fl_X9_23 rfl dX9_bind_68 ?_
        refine lv_iload_n C.1 C.2.1 dX9_bind_71 rfl (lv_at hl 2 rfl) ?_
        refine lv_iload_n C.1 C.2.1 dX9_bind_72 rfl (lv_at hl 3 rfl) ?_
        obtain ⟨f73, ef73⟩ : ∃ z : Nat → Int32, upd f_h_3 x1.toNatClampNeg x2 = z := ⟨_, rfl⟩
        have q_f73 : ∀ j : Nat, -1 ≤ (f73 j).toInt ∧ (f73 j).toInt ≤ 5000 := cr_upd q_f_h_3 ef73 (by omega) (by omega)
        refine k_iast C Wd 1 0 [(h, .inr (9, [.ref h_0, .ref h_1, .int h_2, .ref h_3, .ref h_4])), (h_3, .inl (a_h_3, 3, .inl f73)), (h_4, .inl (a_h_4, 3, .inl f_h_4)), (h0, .inr (8, [.ref h0_0, .int h0_1])), (h0_0, .inl (a_h0_0, n_h0_0, .inl f_h0_0))] rfl rfl (vp_in_iff.mpr ⟨by omega, by omega⟩) ef73 rfl dX9_bind_73 (fun H locs Wd => ?_)
        refine lv_aload_n C.1 C.2.1 dX9_bind_74 rfl (lv_at hl 0 rfl) ?_
        refine k_get C Wd KX9 0 4 rfl (by decide) fl_X9_27 rfl dX9_bind_75 ?_
        refine lv_iload_n C.1 C.2.1 dX9_bind_78 rfl (lv_at hl 2 rfl) ?_
        refine lv_iload C.1 C.2.1 dX9_bind_79 (lv_at hl 4 rfl) ?_
        obtain ⟨f81, ef81⟩ : ∃ z : Nat → Int32, upd f_h_4 x1.toNatClampNeg x3 = z := ⟨_, rfl⟩
        have q_f81 : ∀ j : Nat, -1 ≤ (f81 j).toInt ∧ (f81 j).toInt ≤ 5000 := cr_upd q_f_h_4 ef81 (by omega) (by omega)
        refine k_iast C Wd 2 1 [(h, .inr (9, [.ref h_0, .ref h_1, .int h_2, .ref h_3, .ref h_4])), (h_3, .inl (a_h_3, 3, .inl f73)), (h_4, .inl (a_h_4, 3, .inl f81)), (h0, .inr (8, [.ref h0_0, .int h0_1])), (h0_0, .inl (a_h0_0, n_h0_0, .inl f_h0_0))] rfl rfl (vp_in_iff.mpr ⟨by omega, by omega⟩) ef81 rfl dX9_bind_81 (fun H locs Wd => ?_)
        refine lv_iconst (v := 1) C.1 C.2.1 dX9_bind_82 (by decide) ?_
        exact k_zret C hr hlk rfl Wd (f73, f81) (by exact ⟨by have zq1 : (1 : Int32).toInt = 1 := (by decide); omega, by have zq1 : (1 : Int32).toInt = 1 := (by decide); omega, q_f73, q_f81⟩) [0, 1, 2, 3, 4] rfl (by decide) [] rfl (by decide) (by decide) dX9_bind_83
      · have i18 : ¬ v16.toInt = (-1) := kz_ne c18
        refine lv_iload C.1 C.2.1 dX9_bind_21 (lv_at hl 4 rfl) ?_
        refine lv_iload_n C.1 C.2.1 dX9_bind_23 rfl (lv_at hl 3 rfl) ?_
        obtain ⟨v24, ev24⟩ : ∃ z : Int32, x3 - x2 = z := ⟨_, rfl⟩
        have iv24 : v24.toInt = x3.toInt - x2.toInt := kz_subv ev24 (by have zr0 := kz_rng x3; have zr1 := kz_rng x2; omega) (by have zr0 := kz_rng x3; have zr1 := kz_rng x2; omega)
        refine k_isub (v := v24) C ev24 dX9_bind_24 ?_
        refine lv_istore (lv' := [(5, .int v24), (0, .ref h), (1, .ref h0), (2, .int x1), (3, .int x2), (4, .int x3)]) C.1 C.2.1 dX9_bind_25 hl (by decide) rfl (fun ls hl => ?_)
        refine lv_aload_n C.1 C.2.1 dX9_bind_27 rfl (lv_at hl 1 rfl) ?_
        refine k_get C Wd KX9 0 4 rfl (by decide) fl_X9_27 rfl dX9_bind_28 ?_
        refine lv_iload_n C.1 C.2.1 dX9_bind_31 rfl (lv_at hl 3 rfl) ?_
        obtain ⟨v32, ev32⟩ : ∃ z : Int32, f_h_4 x1.toNatClampNeg = z := ⟨_, rfl⟩
        refine k_iald (v := v32) C Wd 2 1 rfl rfl (vp_in_iff.mpr ⟨by omega, by omega⟩) ev32 dX9_bind_32 ?_
        have iv32 : -1 ≤ v32.toInt ∧ v32.toInt ≤ 5000 := by rw [← ev32]; exact q_f_h_4 _
        refine lv_aload_n C.1 C.2.1 dX9_bind_33 rfl (lv_at hl 1 rfl) ?_
        refine k_get C Wd KX9 0 3 rfl (by decide) fl_X9_23 rfl dX9_bind_34 ?_
        refine lv_iload_n C.1 C.2.1 dX9_bind_37 rfl (lv_at hl 3 rfl) ?_
        obtain ⟨v38, ev38⟩ : ∃ z : Int32, f_h_3 x1.toNatClampNeg = z := ⟨_, rfl⟩
        refine k_iald (v := v38) C Wd 1 0 rfl rfl (vp_in_iff.mpr ⟨by omega, by omega⟩) ev38 dX9_bind_38 ?_
        have iv38 : -1 ≤ v38.toInt ∧ v38.toInt ≤ 5000 := by rw [← ev38]; exact q_f_h_3 _
        obtain ⟨v39, ev39⟩ : ∃ z : Int32, v32 - v38 = z := ⟨_, rfl⟩
        have iv39 : v39.toInt = v32.toInt - v38.toInt := kz_subv ev39 (by have zr0 := kz_rng v32; have zr1 := kz_rng v38; omega) (by have zr0 := kz_rng v32; have zr1 := kz_rng v38; omega)
        refine k_isub (v := v39) C ev39 dX9_bind_39 ?_
        refine lv_iload C.1 C.2.1 dX9_bind_40 (lv_at hl 0 rfl) ?_
        refine k_cutA (fun (j66_S_0 : Int32) H locs ls => 0 ≤ j66_S_0.toInt ∧ j66_S_0.toInt ≤ 1 ∧ wX D [(a_h_3, .int), (a_h_4, .int), (a_h0_0, .int)] s [(h, .inr (9, [.ref h_0, .ref h_1, .int h_2, .ref h_3, .ref h_4])), (h_3, .inl (a_h_3, 3, .inl f_h_3)), (h_4, .inl (a_h_4, 3, .inl f_h_4)), (h0, .inr (8, [.ref h0_0, .int h0_1])), (h0_0, .inl (a_h0_0, n_h0_0, .inl f_h0_0))] H A s.heap locs ∧ lv_has ls 6 [(5, .int v24), (0, .ref h), (1, .ref h0), (2, .int x1), (3, .int x2), (4, .int x3)]) (fun (j66_S_0 : Int32) ls => F0 m 66 ls [.int j66_S_0]) (fun j66_S_0 H locs ls hi => ?_) (fun J66 => ?_)
        · obtain ⟨i66_0, i66_1, Wd, hl⟩ := hi
          exact k_zret C hr hlk (k_nb (by omega) (by omega)) Wd (f_h_3, f_h_4) (by exact ⟨by omega, by omega, q_f_h_3, q_f_h_4⟩) [0, 1, 2, 3, 4] rfl (by decide) [] rfl (by decide) (by decide) dX9_bind_66
        refine k_cutA (fun (_ : Unit) H locs ls => wX D [(a_h_3, .int), (a_h_4, .int), (a_h0_0, .int)] s [(h, .inr (9, [.ref h_0, .ref h_1, .int h_2, .ref h_3, .ref h_4])), (h_3, .inl (a_h_3, 3, .inl f_h_3)), (h_4, .inl (a_h_4, 3, .inl f_h_4)), (h0, .inr (8, [.ref h0_0, .int h0_1])), (h0_0, .inl (a_h0_0, n_h0_0, .inl f_h0_0))] H A s.heap locs ∧ lv_has ls 6 [(5, .int v24), (0, .ref h), (1, .ref h0), (2, .int x1), (3, .int x2), (4, .int x3)]) (fun (_ : Unit) ls => F0 m 65 ls []) (fun _ H locs ls hi => ?_) (fun J65 => ?_)
        · obtain ⟨Wd, hl⟩ := hi
          refine lv_iconst (v := 0) C.1 C.2.1 dX9_bind_65 (by decide) ?_
          exact J66 0 _ _ _ ⟨by have zq0 : (0 : Int32).toInt = 0 := (by decide); omega, by have zq0 : (0 : Int32).toInt = 0 := (by decide); omega, Wd, lv_sub hl [0, 1, 2, 3, 4, 5] rfl⟩
        refine lv_icmp_ne (tgt := 65) C.1 C.2.1 dX9_bind_42 (by decide) (fun c42 => ?_) (fun c42 => ?_)
        · have i42 : ¬ v39.toInt = v24.toInt := kz_ne c42
          exact J65 () _ _ _ ⟨Wd, lv_sub hl [0, 1, 2, 3, 4, 5] rfl⟩
        · have i42 : v39.toInt = v24.toInt := kz_eq c42
          refine lv_aload_n C.1 C.2.1 dX9_bind_45 rfl (lv_at hl 2 rfl) ?_
          refine lv_aload_n C.1 C.2.1 dX9_bind_46 rfl (lv_at hl 1 rfl) ?_
          refine k_get C Wd KX9 0 3 rfl (by decide) fl_X9_23 rfl dX9_bind_47 ?_
          refine lv_iload_n C.1 C.2.1 dX9_bind_50 rfl (lv_at hl 3 rfl) ?_
          obtain ⟨v51, ev51⟩ : ∃ z : Int32, f_h_3 x1.toNatClampNeg = z := ⟨_, rfl⟩
          refine k_iald (v := v51) C Wd 1 0 rfl rfl (vp_in_iff.mpr ⟨by omega, by omega⟩) ev51 dX9_bind_51 ?_
          have iv51 : -1 ≤ v51.toInt ∧ v51.toInt ≤ 5000 := by rw [← ev51]; exact q_f_h_3 _
          refine lv_iload_n C.1 C.2.1 dX9_bind_52 rfl (lv_at hl 4 rfl) ?_
          refine lv_iload C.1 C.2.1 dX9_bind_53 (lv_at hl 0 rfl) ?_
          refine k_pi (k_runV (rest := []) C aks Wd cs_X9_59 (sX8_repeats l D h0 v51 x2 v24 h0_0 h0_1 n_h0_0 a_h0_0 f_h0_0 _ (by omega) (by omega) (by omega) (by omega)) [3, 4] rfl (by decide) [2] rfl 3 8 rfl rfl rfl rfl rfl ⟨(Nat.le_of_ble_eq_true rfl), (Nat.le_of_ble_eq_true rfl)⟩ hl.1 rfl rfl (Nat.le_of_ble_eq_true rfl) ⟨(Nat.le_of_ble_eq_true rfl), (Nat.le_of_ble_eq_true rfl)⟩ dX9_bind_55) (fun r55 w55 => ?_)
          obtain ⟨g55_0, g55_1⟩ := w55
          have g55_0 : 0 ≤ r55.toInt := g55_0
          have g55_1 : r55.toInt ≤ 1 := g55_1
          refine lv_if_eq (tgt := 65) C.1 C.2.1 dX9_bind_58 (by decide) (fun c58 => ?_) (fun c58 => ?_)
          · have i58 : r55.toInt = 0 := kz_eq c58
            exact J65 () _ _ _ ⟨Wd, lv_sub hl [0, 1, 2, 3, 4, 5] rfl⟩
          · have i58 : ¬ r55.toInt = 0 := kz_ne c58
            refine lv_iconst (v := 1) C.1 C.2.1 dX9_bind_61 (by decide) ?_
            refine lv_goto (tgt := 66) C.1 C.2.1 dX9_bind_62 (by decide) ?_
            exact J66 1 _ _ _ ⟨by have zq1 : (1 : Int32).toInt = 1 := (by decide); omega, by have zq1 : (1 : Int32).toInt = 1 := (by decide); omega, Wd, lv_sub hl [0, 1, 2, 3, 4, 5] rfl⟩
    · have i6 : 3 ≤ x1.toInt := kz_nlt c6
      exact J9 () _ _ _ ⟨Wd, lv_sub hl [0, 1, 2, 3, 4] rfl⟩
set_option maxHeartbeats 4000000 in
set_option maxRecDepth 100000 in
theorem sX9_matches (l : Launch) (D : va_G) (h : Nat) (h0 : Nat) (x1 : Int32) (h0_0 : Nat) (h0_1 : Int32) (n_h0_0 : Nat) (a_h0_0 : ClassId) (f_h0_0 : Nat → Int32) (h_0 : Nat) (h_1 : Nat) (h_2 : Int32) (h_3 : Nat) (h_4 : Nat) (a_h_3 : ClassId) (f_h_3 : Nat → Int32) (a_h_4 : ClassId) (f_h_4 : Nat → Int32) (h_0_0 : Nat) (h_0_1 : Int32) (n_h_0_0 : Nat) (a_h_0_0 : ClassId) (f_h_0_0 : Nat → Int32) (sz : Nat) (k_x1_lo : 0 ≤ x1.toInt) (k_x1_hi : x1.toInt ≤ 1000) (k_h0_1_lo : 0 ≤ h0_1.toInt) (k_n_h0_0 : n_h0_0 ≤ 1000) (k_p_h0_0 : 1 ≤ n_h0_0) (k_h0_1_hi : h0_1.toInt ≤ (n_h0_0 : Int)) (k_h_0_1_lo : 0 ≤ h_0_1.toInt) (k_n_h_0_0 : n_h_0_0 ≤ 1000) (k_p_h_0_0 : 1 ≤ n_h_0_0) (k_h_0_1_hi : h_0_1.toInt ≤ (n_h_0_0 : Int)) (q_f_h_3 : ∀ j : Nat, -1 ≤ (f_h_3 j).toInt ∧ (f_h_3 j).toInt ≤ 5000) (q_f_h_4 : ∀ j : Nat, -1 ≤ (f_h_4 j).toInt ∧ (f_h_4 j).toInt ≤ 5000) : Met l yX9_matches (Cond.code yX9_matches cX9_matches 7 (some .boolean) :: gG) { frames := 3, cells := 0, slots := 0, locals := 113 } (cPre D [(a_h0_0, .int), (a_h_3, .int), (a_h_4, .int), (a_h_0_0, .int)] [(h0, .inr (8, [.ref h0_0, .int h0_1])), (h0_0, .inl (a_h0_0, n_h0_0, .inl f_h0_0)), (h, .inr (9, [.ref h_0, .ref h_1, .int h_2, .ref h_3, .ref h_4])), (h_3, .inl (a_h_3, 3, .inl f_h_3)), (h_4, .inl (a_h_4, 3, .inl f_h_4)), (h_0, .inr (8, [.ref h_0_0, .int h_0_1])), (h_0_0, .inl (a_h_0_0, n_h_0_0, .inl f_h_0_0))] sz [.ref h, .ref h0, .int x1]) (va_Qi (fun (r : Int32) (u : (Nat → Int32) × (Nat → Int32)) => match u with | (jX_C_h_3, jX_C_h_4) => 0 ≤ r.toInt ∧ r.toInt ≤ 1 ∧ (∀ j : Nat, -1 ≤ (jX_C_h_3 j).toInt ∧ (jX_C_h_3 j).toInt ≤ 5000) ∧ (∀ j : Nat, -1 ≤ (jX_C_h_4 j).toInt ∧ (jX_C_h_4 j).toInt ≤ 5000)) (fun u t => cB D (va_A [(h0, .inr (8, [.ref h0_0, .int h0_1])), (h0_0, .inl (a_h0_0, n_h0_0, .inl f_h0_0)), (h, .inr (9, [.ref h_0, .ref h_1, .int h_2, .ref h_3, .ref h_4])), (h_3, .inl (a_h_3, 3, .inl f_h_3)), (h_4, .inl (a_h_4, 3, .inl f_h_4)), (h_0, .inr (8, [.ref h_0_0, .int h_0_1])), (h_0_0, .inl (a_h_0_0, n_h_0_0, .inl f_h_0_0))] sz) ((fun (_ : (Nat → Int32) × (Nat → Int32)) => ([] : List (ClassId × FieldType))) u) ((fun (u : (Nat → Int32) × (Nat → Int32)) => match u with | (jX_C_h_3, jX_C_h_4) => ([(h0, .inr (8, [.ref h0_0, .int h0_1])), (h0_0, .inl (a_h0_0, n_h0_0, .inl f_h0_0)), (h, .inr (9, [.ref h_0, .ref h_1, .int h_2, .ref h_3, .ref h_4])), (h_3, .inl (a_h_3, 3, .inl jX_C_h_3)), (h_4, .inl (a_h_4, 3, .inl jX_C_h_4)), (h_0, .inr (8, [.ref h_0_0, .int h_0_1])), (h_0_0, .inl (a_h_0_0, n_h_0_0, .inl f_h_0_0))] : va_W)) u) t) (va_A [(h0, .inr (8, [.ref h0_0, .int h0_1])), (h0_0, .inl (a_h0_0, n_h0_0, .inl f_h0_0)), (h, .inr (9, [.ref h_0, .ref h_1, .int h_2, .ref h_3, .ref h_4])), (h_3, .inl (a_h_3, 3, .inl f_h_3)), (h_4, .inl (a_h_4, 3, .inl f_h_4)), (h_0, .inr (8, [.ref h_0_0, .int h_0_1])), (h_0_0, .inl (a_h_0_0, n_h_0_0, .inl f_h_0_0))] sz)) 0 0 (va_A [(h0, .inr (8, [.ref h0_0, .int h0_1])), (h0_0, .inl (a_h0_0, n_h0_0, .inl f_h0_0)), (h, .inr (9, [.ref h_0, .ref h_1, .int h_2, .ref h_3, .ref h_4])), (h_3, .inl (a_h_3, 3, .inl f_h_3)), (h_4, .inl (a_h_4, 3, .inl f_h_4)), (h_0, .inr (8, [.ref h_0_0, .int h_0_1])), (h_0_0, .inl (a_h_0_0, n_h_0_0, .inl f_h_0_0))] sz) := by
  refine Met.ofW (cc := cX9_matches) (maxL := 7) (ret := (some .boolean)) (by decide) rfl ?_
  intro p e s m args below meth c s₁ B hml hv
  obtain ⟨rfl, aks, rfl, Wd⟩ := k_enter hv
  have C : CallFix p m c cX9_matches 7 s _ gG RX9 := ⟨B.exec, B.bytes, hml, findClass_of_methodNamed B.named, fun w h => atoms_spec (ws := Cond.code yX9_matches cX9_matches 7 (some .boolean) :: gG) B.pre w (List.mem_cons_of_mem _ h)⟩
  have hr := B.returns
  have hlk := B.notSynchronized
  generalize va_A [(h0, .inr (8, [.ref h0_0, .int h0_1])), (h0_0, .inl (a_h0_0, n_h0_0, .inl f_h0_0)), (h, .inr (9, [.ref h_0, .ref h_1, .int h_2, .ref h_3, .ref h_4])), (h_3, .inl (a_h_3, 3, .inl f_h_3)), (h_4, .inl (a_h_4, 3, .inl f_h_4)), (h_0, .inr (8, [.ref h_0_0, .int h_0_1])), (h_0_0, .inl (a_h_0_0, n_h_0_0, .inl f_h_0_0))] s.heap.size = A at Wd ⊢
  refine k_locals (Nat.le_of_ble_eq_true rfl) [(0, .ref h), (1, .ref h0), (2, .int x1)] rfl (fun ls hl => ?_)
  refine lv_aload_n C.1 C.2.1 dX9_matches_0 rfl (lv_at hl 1 rfl) ?_
  refine lv_iload_n C.1 C.2.1 dX9_matches_1 rfl (lv_at hl 2 rfl) ?_
  refine k_pi (k_runV (rest := []) C aks Wd cs_X9_37 (sX8_cell l D h0 x1 h0_0 h0_1 n_h0_0 a_h0_0 f_h0_0 _ (by omega) (by omega) (by omega) (by omega)) [0, 1] rfl (by decide) [0] rfl 0 8 rfl rfl rfl rfl rfl ⟨(Nat.le_of_ble_eq_true rfl), (Nat.le_of_ble_eq_true rfl)⟩ hl.1 rfl rfl (Nat.le_of_ble_eq_true rfl) ⟨(Nat.le_of_ble_eq_true rfl), (Nat.le_of_ble_eq_true rfl)⟩ dX9_matches_2) (fun r2 w2 => ?_)
  refine k_pi (k_runS (rest := []) C aks Wd cs_X9_48 (sX8_isExpression l D r2 _ ) [] rfl (by decide) [] rfl rfl rfl ⟨(Nat.le_of_ble_eq_true rfl), (Nat.le_of_ble_eq_true rfl)⟩ hl.1 rfl rfl (Nat.le_of_ble_eq_true rfl) ⟨(Nat.le_of_ble_eq_true rfl), (Nat.le_of_ble_eq_true rfl)⟩ dX9_matches_5) (fun r5 w5 => ?_)
  obtain ⟨g5_0, g5_1⟩ := w5
  have g5_0 : 0 ≤ r5.toInt := g5_0
  have g5_1 : r5.toInt ≤ 1 := g5_1
  refine lv_if_ne (tgt := 13) C.1 C.2.1 dX9_matches_8 (by decide) (fun c8 => ?_) (fun c8 => ?_)
  · have i8 : ¬ r5.toInt = 0 := kz_ne c8
    refine lv_iconst (v := 0) C.1 C.2.1 dX9_matches_13 (by decide) ?_
    refine lv_istore_n (lv' := [(3, .int 0), (0, .ref h), (1, .ref h0), (2, .int x1)]) C.1 C.2.1 dX9_matches_14 rfl hl (by decide) rfl (fun ls hl => ?_)
    refine k_loopA (fun (u : (Nat → Int32) × (Nat → Int32) × (Int32)) H locs ls => match u with | (j15_C_h_3, j15_C_h_4, j15_L_3) => 0 ≤ j15_L_3.toInt ∧ j15_L_3.toInt ≤ 3 ∧ (∀ j : Nat, -1 ≤ (j15_C_h_3 j).toInt ∧ (j15_C_h_3 j).toInt ≤ 5000) ∧ (∀ j : Nat, -1 ≤ (j15_C_h_4 j).toInt ∧ (j15_C_h_4 j).toInt ≤ 5000) ∧ wX D [(a_h0_0, .int), (a_h_3, .int), (a_h_4, .int), (a_h_0_0, .int)] s [(h0, .inr (8, [.ref h0_0, .int h0_1])), (h0_0, .inl (a_h0_0, n_h0_0, .inl f_h0_0)), (h, .inr (9, [.ref h_0, .ref h_1, .int h_2, .ref h_3, .ref h_4])), (h_3, .inl (a_h_3, 3, .inl j15_C_h_3)), (h_4, .inl (a_h_4, 3, .inl j15_C_h_4)), (h_0, .inr (8, [.ref h_0_0, .int h_0_1])), (h_0_0, .inl (a_h_0_0, n_h_0_0, .inl f_h_0_0))] H A s.heap locs ∧ lv_has ls 7 [(3, .int j15_L_3), (0, .ref h), (1, .ref h0), (2, .int x1)]) (fun (u : (Nat → Int32) × (Nat → Int32) × (Int32)) ls => match u with | (j15_C_h_3, j15_C_h_4, j15_L_3) => F0 m 15 ls []) (fun (u : (Nat → Int32) × (Nat → Int32) × (Int32)) => match u with | (j15_C_h_3, j15_C_h_4, j15_L_3) => (4 - j15_L_3.toInt).toNat) (fun u H locs ls hi ih15 => ?_) (f_h_3, f_h_4, 0) _ _ _ ⟨by have zq0 : (0 : Int32).toInt = 0 := (by decide); omega, by have zq0 : (0 : Int32).toInt = 0 := (by decide); omega, q_f_h_3, q_f_h_4, Wd, lv_sub hl [0, 1, 2, 3] rfl⟩
    obtain ⟨j15_C_h_3, j15_C_h_4, j15_L_3⟩ := u
    obtain ⟨i15_0, i15_1, q_j15_C_h_3, q_j15_C_h_4, Wd, hl⟩ := hi
    refine lv_iload_n C.1 C.2.1 dX9_matches_15 rfl (lv_at hl 0 rfl) ?_
    refine lv_iconst (v := 3) C.1 C.2.1 dX9_matches_16 (by decide) ?_
    refine lv_icmp_ge (tgt := 40) C.1 C.2.1 dX9_matches_17 (by decide) (fun c17 => ?_) (fun c17 => ?_)
    · have i17 : 3 ≤ j15_L_3.toInt := kz_le c17
      refine lv_iload_n C.1 C.2.1 dX9_matches_40 rfl (lv_at hl 3 rfl) ?_
      refine lv_istore_n (lv' := [(3, .int x1), (0, .ref h), (1, .ref h0), (2, .int x1)]) C.1 C.2.1 dX9_matches_41 rfl hl (by decide) rfl (fun ls hl => ?_)
      refine lv_iconst (v := 0) C.1 C.2.1 dX9_matches_42 (by decide) ?_
      refine lv_istore (lv' := [(4, .int 0), (3, .int x1), (0, .ref h), (1, .ref h0), (2, .int x1)]) C.1 C.2.1 dX9_matches_43 hl (by decide) rfl (fun ls hl => ?_)
      refine k_loopA (fun (u : (Nat → Int32) × (Nat → Int32) × (Int32) × (Int32)) H locs ls => match u with | (j45_C_h_3, j45_C_h_4, j45_L_3, j45_L_4) => 0 ≤ j45_L_3.toInt ∧ 0 ≤ j45_L_4.toInt ∧ j45_L_4.toInt ≤ 1000 ∧ j45_L_3.toInt ≤ 2000 ∧ j45_L_4.toInt ≤ (n_h_0_0 : Int) ∧ j45_L_4.toInt ≤ h_0_1.toInt ∧ x1.toInt ≤ j45_L_3.toInt ∧ j45_L_3.toInt ≤ (n_h_0_0 : Int) + 1000 ∧ j45_L_3.toInt ≤ h_0_1.toInt + 1000 ∧ j45_L_3.toInt ≤ j45_L_4.toInt + 1000 ∧ (∀ j : Nat, -1 ≤ (j45_C_h_3 j).toInt ∧ (j45_C_h_3 j).toInt ≤ 5000) ∧ (∀ j : Nat, -1 ≤ (j45_C_h_4 j).toInt ∧ (j45_C_h_4 j).toInt ≤ 5000) ∧ wX D [(a_h0_0, .int), (a_h_3, .int), (a_h_4, .int), (a_h_0_0, .int)] s [(h0, .inr (8, [.ref h0_0, .int h0_1])), (h0_0, .inl (a_h0_0, n_h0_0, .inl f_h0_0)), (h, .inr (9, [.ref h_0, .ref h_1, .int h_2, .ref h_3, .ref h_4])), (h_3, .inl (a_h_3, 3, .inl j45_C_h_3)), (h_4, .inl (a_h_4, 3, .inl j45_C_h_4)), (h_0, .inr (8, [.ref h_0_0, .int h_0_1])), (h_0_0, .inl (a_h_0_0, n_h_0_0, .inl f_h_0_0))] H A s.heap locs ∧ lv_has ls 7 [(4, .int j45_L_4), (3, .int j45_L_3), (0, .ref h), (1, .ref h0), (2, .int x1)]) (fun (u : (Nat → Int32) × (Nat → Int32) × (Int32) × (Int32)) ls => match u with | (j45_C_h_3, j45_C_h_4, j45_L_3, j45_L_4) => F0 m 45 ls []) (fun (u : (Nat → Int32) × (Nat → Int32) × (Int32) × (Int32)) => match u with | (j45_C_h_3, j45_C_h_4, j45_L_3, j45_L_4) => (1001 - j45_L_4.toInt).toNat) (fun u H locs ls hi ih45 => ?_) (j15_C_h_3, j15_C_h_4, x1, 0) _ _ _ ⟨by omega, by have zq0 : (0 : Int32).toInt = 0 := (by decide); omega, by have zq0 : (0 : Int32).toInt = 0 := (by decide); omega, by omega, by have zq0 : (0 : Int32).toInt = 0 := (by decide); omega, by have zq0 : (0 : Int32).toInt = 0 := (by decide); omega, by omega, by omega, by omega, by have zq0 : (0 : Int32).toInt = 0 := (by decide); omega, q_j15_C_h_3, q_j15_C_h_4, Wd, lv_sub hl [0, 1, 2, 3, 4] rfl⟩
      obtain ⟨j45_C_h_3, j45_C_h_4, j45_L_3, j45_L_4⟩ := u
      obtain ⟨i45_0, i45_1, i45_2, i45_3, i45_4, i45_5, i45_6, i45_7, i45_8, i45_9, q_j45_C_h_3, q_j45_C_h_4, Wd, hl⟩ := hi
      refine lv_iload C.1 C.2.1 dX9_matches_45 (lv_at hl 0 rfl) ?_
      refine lv_aload_n C.1 C.2.1 dX9_matches_47 rfl (lv_at hl 2 rfl) ?_
      refine k_get C Wd KX9 2 0 rfl (by decide) fl_X9_14 rfl dX9_matches_48 ?_
      refine k_get C Wd KX8 5 1 rfl (by decide) fl_X9_34 rfl dX9_matches_51 ?_
      refine lv_icmp_ge (tgt := 136) C.1 C.2.1 dX9_matches_54 (by decide) (fun c54 => ?_) (fun c54 => ?_)
      · have i54 : h_0_1.toInt ≤ j45_L_4.toInt := kz_le c54
        refine lv_iconst (v := 1) C.1 C.2.1 dX9_matches_136 (by decide) ?_
        exact k_zret C hr hlk rfl Wd (j45_C_h_3, j45_C_h_4) (by exact ⟨by have zq1 : (1 : Int32).toInt = 1 := (by decide); omega, by have zq1 : (1 : Int32).toInt = 1 := (by decide); omega, q_j45_C_h_3, q_j45_C_h_4⟩) [0, 1, 2, 3, 4, 5, 6] rfl (by decide) [] rfl (by decide) (by decide) dX9_matches_137
      · have i54 : j45_L_4.toInt < h_0_1.toInt := kz_nle c54
        refine lv_aload_n C.1 C.2.1 dX9_matches_57 rfl (lv_at hl 2 rfl) ?_
        refine k_get C Wd KX9 2 0 rfl (by decide) fl_X9_14 rfl dX9_matches_58 ?_
        refine lv_iload C.1 C.2.1 dX9_matches_61 (lv_at hl 0 rfl) ?_
        refine k_pi (k_runV (rest := []) C aks Wd cs_X9_37 (sX8_cell l D h_0 j45_L_4 h_0_0 h_0_1 n_h_0_0 a_h_0_0 f_h_0_0 _ (by omega) (by omega) (by omega) (by omega)) [5, 6] rfl (by decide) [3] rfl 5 8 rfl rfl rfl rfl rfl ⟨(Nat.le_of_ble_eq_true rfl), (Nat.le_of_ble_eq_true rfl)⟩ hl.1 rfl rfl (Nat.le_of_ble_eq_true rfl) ⟨(Nat.le_of_ble_eq_true rfl), (Nat.le_of_ble_eq_true rfl)⟩ dX9_matches_63) (fun r63 w63 => ?_)
        refine k_cutA (fun (u : (Int32) × (Int32) × (Nat → Int32) × (Nat → Int32)) H locs ls => match u with | (j130_L_3, j130_L_5, j130_C_h_3, j130_C_h_4) => 0 ≤ j130_L_3.toInt ∧ -1 ≤ j130_L_5.toInt ∧ j130_L_5.toInt ≤ 2 ∧ j130_L_3.toInt ≤ 2000 ∧ j45_L_3.toInt ≤ j130_L_3.toInt ∧ j130_L_3.toInt ≤ (n_h_0_0 : Int) + 1000 ∧ j130_L_3.toInt ≤ h_0_1.toInt + 1000 ∧ j130_L_3.toInt ≤ j45_L_3.toInt + 1000 ∧ j130_L_3.toInt ≤ j45_L_4.toInt + 1001 ∧ (∀ j : Nat, -1 ≤ (j130_C_h_3 j).toInt ∧ (j130_C_h_3 j).toInt ≤ 5000) ∧ (∀ j : Nat, -1 ≤ (j130_C_h_4 j).toInt ∧ (j130_C_h_4 j).toInt ≤ 5000) ∧ wX D [(a_h0_0, .int), (a_h_3, .int), (a_h_4, .int), (a_h_0_0, .int)] s [(h0, .inr (8, [.ref h0_0, .int h0_1])), (h0_0, .inl (a_h0_0, n_h0_0, .inl f_h0_0)), (h, .inr (9, [.ref h_0, .ref h_1, .int h_2, .ref h_3, .ref h_4])), (h_3, .inl (a_h_3, 3, .inl j130_C_h_3)), (h_4, .inl (a_h_4, 3, .inl j130_C_h_4)), (h_0, .inr (8, [.ref h_0_0, .int h_0_1])), (h_0_0, .inl (a_h_0_0, n_h_0_0, .inl f_h_0_0))] H A s.heap locs ∧ lv_has ls 7 [(3, .int j130_L_3), (5, .int j130_L_5), (4, .int j45_L_4), (0, .ref h), (1, .ref h0), (2, .int x1)]) (fun (u : (Int32) × (Int32) × (Nat → Int32) × (Nat → Int32)) ls => match u with | (j130_L_3, j130_L_5, j130_C_h_3, j130_C_h_4) => F0 m 130 ls []) (fun u H locs ls hi => ?_) (fun J130 => ?_)
        · obtain ⟨j130_L_3, j130_L_5, j130_C_h_3, j130_C_h_4⟩ := u
          obtain ⟨i130_0, i130_1, i130_2, i130_3, i130_4, i130_5, i130_6, i130_7, i130_8, q_j130_C_h_3, q_j130_C_h_4, Wd, hl⟩ := hi
          obtain ⟨v130, ev130⟩ : ∃ z : Int32, j45_L_4 + 1 = z := ⟨_, rfl⟩
          have iv130 : v130.toInt = j45_L_4.toInt + 1 := kz_addc ev130 (by decide) (by have zr0 := kz_rng j45_L_4; omega) (by have zr0 := kz_rng j45_L_4; omega)
          refine lv_iinc (v := v130) (lv' := [(4, .int v130), (3, .int j130_L_3), (5, .int j130_L_5), (0, .ref h), (1, .ref h0), (2, .int x1)]) C.1 C.2.1 dX9_matches_130 hl (k := 2) rfl ev130 (by decide) rfl (fun ls hl => ?_)
          refine lv_goto (tgt := 45) C.1 C.2.1 dX9_matches_133 (by decide) ?_
          exact ih45 (j130_C_h_3, j130_C_h_4, j130_L_3, v130) _ _ _ ⟨by omega, by omega, by omega, by omega, by omega, by omega, by omega, by omega, by omega, by omega, q_j130_C_h_3, q_j130_C_h_4, Wd, lv_sub hl [0, 1, 3, 4, 5] rfl⟩ (by show (1001 - v130.toInt).toNat < (1001 - j45_L_4.toInt).toNat; omega)
        refine k_pi (k_runS (rest := []) C aks Wd cs_X9_41 (sX9_letterOf l D r63 _ ) [] rfl (by decide) [] rfl rfl rfl ⟨(Nat.le_of_ble_eq_true rfl), (Nat.le_of_ble_eq_true rfl)⟩ hl.1 rfl rfl (Nat.le_of_ble_eq_true rfl) ⟨(Nat.le_of_ble_eq_true rfl), (Nat.le_of_ble_eq_true rfl)⟩ dX9_matches_66) (fun r66 w66 => ?_)
        rcases w66 with rfl | ⟨g66_1_0, g66_1_1, g66_1_2, g66_1_3⟩
        · refine lv_istore (lv' := [(5, .int (-1)), (4, .int j45_L_4), (3, .int j45_L_3), (0, .ref h), (1, .ref h0), (2, .int x1)]) C.1 C.2.1 dX9_matches_69 hl (by decide) rfl (fun ls hl => ?_)
          refine lv_iload C.1 C.2.1 dX9_matches_71 (lv_at hl 0 rfl) ?_
          refine lv_iconst (v := (-1)) C.1 C.2.1 dX9_matches_73 (by decide) ?_
          refine lv_icmp_eq (tgt := 105) C.1 C.2.1 dX9_matches_74 (by decide) (fun _ => ?_) (fun c74 => absurd c74 (by decide))
          refine lv_aload_n C.1 C.2.1 dX9_matches_105 rfl (lv_at hl 3 rfl) ?_
          refine k_get C Wd KX9 2 0 rfl (by decide) fl_X9_14 rfl dX9_matches_106 ?_
          refine lv_iload C.1 C.2.1 dX9_matches_109 (lv_at hl 1 rfl) ?_
          refine k_pi (k_runV (rest := []) C aks Wd cs_X9_37 (sX8_cell l D h_0 j45_L_4 h_0_0 h_0_1 n_h_0_0 a_h_0_0 f_h_0_0 _ (by omega) (by omega) (by omega) (by omega)) [5, 6] rfl (by decide) [3] rfl 5 8 rfl rfl rfl rfl rfl ⟨(Nat.le_of_ble_eq_true rfl), (Nat.le_of_ble_eq_true rfl)⟩ hl.1 rfl rfl (Nat.le_of_ble_eq_true rfl) ⟨(Nat.le_of_ble_eq_true rfl), (Nat.le_of_ble_eq_true rfl)⟩ dX9_matches_111) (fun r111 w111 => ?_)
          refine lv_aload_n C.1 C.2.1 dX9_matches_114 rfl (lv_at hl 4 rfl) ?_
          refine lv_iload_n C.1 C.2.1 dX9_matches_115 rfl (lv_at hl 2 rfl) ?_
          refine k_pi (k_runV (rest := [.int r111]) C aks Wd cs_X9_37 (sX8_cell l D h0 j45_L_3 h0_0 h0_1 n_h0_0 a_h0_0 f_h0_0 _ (by omega) (by omega) (by omega) (by omega)) [0, 1] rfl (by decide) [0] rfl 0 8 rfl rfl rfl rfl rfl ⟨(Nat.le_of_ble_eq_true rfl), (Nat.le_of_ble_eq_true rfl)⟩ hl.1 rfl rfl (Nat.le_of_ble_eq_true rfl) ⟨(Nat.le_of_ble_eq_true rfl), (Nat.le_of_ble_eq_true rfl)⟩ dX9_matches_116) (fun r116 w116 => ?_)
          refine lv_icmp_ne (tgt := 128) C.1 C.2.1 dX9_matches_119 (by decide) (fun c119 => ?_) (fun c119 => ?_)
          · have i119 : ¬ r111.toInt = r116.toInt := kz_ne c119
            refine lv_iconst (v := 0) C.1 C.2.1 dX9_matches_128 (by decide) ?_
            exact k_zret C hr hlk rfl Wd (j45_C_h_3, j45_C_h_4) (by exact ⟨by have zq0 : (0 : Int32).toInt = 0 := (by decide); omega, by have zq0 : (0 : Int32).toInt = 0 := (by decide); omega, q_j45_C_h_3, q_j45_C_h_4⟩) [0, 1, 2, 3, 4, 5, 6] rfl (by decide) [] rfl (by decide) (by decide) dX9_matches_129
          · have i119 : r111.toInt = r116.toInt := kz_eq c119
            obtain ⟨v122, ev122⟩ : ∃ z : Int32, j45_L_3 + 1 = z := ⟨_, rfl⟩
            have iv122 : v122.toInt = j45_L_3.toInt + 1 := kz_addc ev122 (by decide) (by have zr0 := kz_rng j45_L_3; omega) (by have zr0 := kz_rng j45_L_3; omega)
            refine lv_iinc (v := v122) (lv' := [(3, .int v122), (5, .int (-1)), (4, .int j45_L_4), (0, .ref h), (1, .ref h0), (2, .int x1)]) C.1 C.2.1 dX9_matches_122 hl (k := 2) rfl ev122 (by decide) rfl (fun ls hl => ?_)
            refine lv_goto (tgt := 130) C.1 C.2.1 dX9_matches_125 (by decide) ?_
            exact J130 (v122, (-1), j45_C_h_3, j45_C_h_4) _ _ _ ⟨by omega, by have zqm1 : (-1 : Int32).toInt = -1 := (by decide); omega, by have zqm1 : (-1 : Int32).toInt = -1 := (by decide); omega, by omega, by omega, by omega, by omega, by omega, by omega, q_j45_C_h_3, q_j45_C_h_4, Wd, lv_sub hl [0, 1, 2, 3, 4, 5] rfl⟩
        · have g66_1_0 : 0 ≤ r66.toInt := g66_1_0
          have g66_1_1 : r66.toInt ≤ 2 := g66_1_1
          have g66_1_2 : r66.toInt + 20 ≤ r63.toInt := g66_1_2
          have g66_1_3 : r63.toInt ≤ r66.toInt + 20 := g66_1_3
          refine lv_istore (lv' := [(5, .int r66), (4, .int j45_L_4), (3, .int j45_L_3), (0, .ref h), (1, .ref h0), (2, .int x1)]) C.1 C.2.1 dX9_matches_69 hl (by decide) rfl (fun ls hl => ?_)
          refine lv_iload C.1 C.2.1 dX9_matches_71 (lv_at hl 0 rfl) ?_
          refine lv_iconst (v := (-1)) C.1 C.2.1 dX9_matches_73 (by decide) ?_
          refine lv_icmp_eq (tgt := 105) C.1 C.2.1 dX9_matches_74 (by decide) (fun c74 => False.elim (by have i74 : r66.toInt = (-1) := kz_eq c74; omega)) (fun _ => ?_)
          refine lv_aload_n C.1 C.2.1 dX9_matches_77 rfl (lv_at hl 4 rfl) ?_
          refine lv_iload_n C.1 C.2.1 dX9_matches_78 rfl (lv_at hl 2 rfl) ?_
          refine k_pi (k_runV (rest := []) C aks Wd cs_X9_52 (sX8_expressionEnd l D h0 j45_L_3 h0_0 h0_1 n_h0_0 a_h0_0 f_h0_0 _ (by omega) (by omega) (by omega) (by omega)) [0, 1] rfl (by decide) [0] rfl 0 8 rfl rfl rfl rfl rfl ⟨(Nat.le_of_ble_eq_true rfl), (Nat.le_of_ble_eq_true rfl)⟩ hl.1 rfl rfl (Nat.le_of_ble_eq_true rfl) ⟨(Nat.le_of_ble_eq_true rfl), (Nat.le_of_ble_eq_true rfl)⟩ dX9_matches_79) (fun r79 w79 => ?_)
          obtain ⟨g79_0, g79_1, gx79_0⟩ := w79
          have g79_0 : 0 ≤ r79.toInt := g79_0
          have g79_1 : j45_L_3.toInt ≤ r79.toInt := g79_1
          have gx79_0 : r79.toInt ≤ j45_L_3.toInt ∨ r79.toInt ≤ h0_1.toInt ∨ r79.toInt ≤ 0 := gx79_0
          refine lv_istore (lv' := [(6, .int r79), (5, .int r66), (4, .int j45_L_4), (3, .int j45_L_3), (0, .ref h), (1, .ref h0), (2, .int x1)]) C.1 C.2.1 dX9_matches_82 hl (by decide) rfl (fun ls hl => ?_)
          refine lv_aload_n C.1 C.2.1 dX9_matches_84 rfl (lv_at hl 4 rfl) ?_
          refine lv_aload_n C.1 C.2.1 dX9_matches_85 rfl (lv_at hl 5 rfl) ?_
          refine lv_iload C.1 C.2.1 dX9_matches_86 (lv_at hl 1 rfl) ?_
          refine lv_iload_n C.1 C.2.1 dX9_matches_88 rfl (lv_at hl 3 rfl) ?_
          refine lv_iload C.1 C.2.1 dX9_matches_89 (lv_at hl 0 rfl) ?_
          refine k_ci Wd [2, 3, 4, 0, 1] [5, 6] rfl (wr := [(h_0, .inr (8, [.ref h_0_0, .int h_0_1])), (h_0_0, .inl (a_h_0_0, n_h_0_0, .inl f_h_0_0))]) rfl (by decide) (by decide) (cells' := 0) (slots' := 0) (by decide) (by decide) (k_runV (rest := []) C aks Wd cs_X9_55 (sX9_bind l D h h0 r66 j45_L_3 r79 h_0 h_1 h_2 h_3 h_4 a_h_3 j45_C_h_3 a_h_4 j45_C_h_4 h0_0 h0_1 n_h0_0 a_h0_0 f_h0_0 _ (by omega) (by omega) (by omega) (by omega) (by omega) (by omega) (by omega) (by omega) q_j45_C_h_3 q_j45_C_h_4) [2, 3, 4, 0, 1] rfl (by decide) [1, 2, 0] rfl 2 9 rfl rfl rfl rfl rfl ⟨(Nat.le_of_ble_eq_true rfl), (Nat.le_of_ble_eq_true rfl)⟩ hl.1 rfl rfl (Nat.le_of_ble_eq_true rfl) ⟨(Nat.le_of_ble_eq_true rfl), (Nat.le_of_ble_eq_true rfl)⟩ dX9_matches_91) (fun r91 u H locs w91 Wd => ?_)
          obtain ⟨s91_0, s91_1⟩ := u
          have Wd : wX D [(a_h0_0, .int), (a_h_3, .int), (a_h_4, .int), (a_h_0_0, .int)] s [(h0, .inr (8, [.ref h0_0, .int h0_1])), (h0_0, .inl (a_h0_0, n_h0_0, .inl f_h0_0)), (h, .inr (9, [.ref h_0, .ref h_1, .int h_2, .ref h_3, .ref h_4])), (h_3, .inl (a_h_3, 3, .inl s91_0)), (h_4, .inl (a_h_4, 3, .inl s91_1)), (h_0, .inr (8, [.ref h_0_0, .int h_0_1])), (h_0_0, .inl (a_h_0_0, n_h_0_0, .inl f_h_0_0))] _ A s.heap _ := k_sub Wd [5, 6, 2, 3, 4, 0, 1] rfl (by decide) [0, 1, 2, 3] rfl
          obtain ⟨g91_0, g91_1, q_s91_0, q_s91_1⟩ := w91
          have g91_0 : 0 ≤ r91.toInt := g91_0
          have g91_1 : r91.toInt ≤ 1 := g91_1
          refine lv_if_ne (tgt := 99) C.1 C.2.1 dX9_matches_94 (by decide) (fun c94 => ?_) (fun c94 => ?_)
          · have i94 : ¬ r91.toInt = 0 := kz_ne c94
            refine lv_iload C.1 C.2.1 dX9_matches_99 (lv_at hl 0 rfl) ?_
            refine lv_istore_n (lv' := [(3, .int r79), (6, .int r79), (5, .int r66), (4, .int j45_L_4), (0, .ref h), (1, .ref h0), (2, .int x1)]) C.1 C.2.1 dX9_matches_101 rfl hl (by decide) rfl (fun ls hl => ?_)
            refine lv_goto (tgt := 130) C.1 C.2.1 dX9_matches_102 (by decide) ?_
            exact J130 (r79, r66, s91_0, s91_1) _ _ _ ⟨by omega, by omega, by omega, by omega, by omega, by omega, by omega, by omega, by omega, q_s91_0, q_s91_1, Wd, lv_sub hl [0, 2, 3, 4, 5, 6] rfl⟩
          · have i94 : r91.toInt = 0 := kz_eq c94
            refine lv_iconst (v := 0) C.1 C.2.1 dX9_matches_97 (by decide) ?_
            exact k_zret C hr hlk rfl Wd (s91_0, s91_1) (by exact ⟨by have zq0 : (0 : Int32).toInt = 0 := (by decide); omega, by have zq0 : (0 : Int32).toInt = 0 := (by decide); omega, q_s91_0, q_s91_1⟩) [0, 1, 2, 3, 4, 5, 6] rfl (by decide) [] rfl (by decide) (by decide) dX9_matches_98
    · have i17 : j15_L_3.toInt < 3 := kz_nle c17
      refine lv_aload_n C.1 C.2.1 dX9_matches_20 rfl (lv_at hl 1 rfl) ?_
      refine k_get C Wd KX9 2 3 rfl (by decide) fl_X9_23 rfl dX9_matches_21 ?_
      refine lv_iload_n C.1 C.2.1 dX9_matches_24 rfl (lv_at hl 0 rfl) ?_
      refine lv_iconst (v := (-1)) C.1 C.2.1 dX9_matches_25 (by decide) ?_
      obtain ⟨f26, ef26⟩ : ∃ z : Nat → Int32, upd j15_C_h_3 j15_L_3.toNatClampNeg (-1) = z := ⟨_, rfl⟩
      have q_f26 : ∀ j : Nat, -1 ≤ (f26 j).toInt ∧ (f26 j).toInt ≤ 5000 := cr_upd q_j15_C_h_3 ef26 (by have zqm1 : (-1 : Int32).toInt = -1 := (by decide); omega) (by have zqm1 : (-1 : Int32).toInt = -1 := (by decide); omega)
      refine k_iast C Wd 3 1 [(h0, .inr (8, [.ref h0_0, .int h0_1])), (h0_0, .inl (a_h0_0, n_h0_0, .inl f_h0_0)), (h, .inr (9, [.ref h_0, .ref h_1, .int h_2, .ref h_3, .ref h_4])), (h_3, .inl (a_h_3, 3, .inl f26)), (h_4, .inl (a_h_4, 3, .inl j15_C_h_4)), (h_0, .inr (8, [.ref h_0_0, .int h_0_1])), (h_0_0, .inl (a_h_0_0, n_h_0_0, .inl f_h_0_0))] rfl rfl (vp_in_iff.mpr ⟨by omega, by omega⟩) ef26 rfl dX9_matches_26 (fun H locs Wd => ?_)
      refine lv_aload_n C.1 C.2.1 dX9_matches_27 rfl (lv_at hl 1 rfl) ?_
      refine k_get C Wd KX9 2 4 rfl (by decide) fl_X9_27 rfl dX9_matches_28 ?_
      refine lv_iload_n C.1 C.2.1 dX9_matches_31 rfl (lv_at hl 0 rfl) ?_
      refine lv_iconst (v := (-1)) C.1 C.2.1 dX9_matches_32 (by decide) ?_
      obtain ⟨f33, ef33⟩ : ∃ z : Nat → Int32, upd j15_C_h_4 j15_L_3.toNatClampNeg (-1) = z := ⟨_, rfl⟩
      have q_f33 : ∀ j : Nat, -1 ≤ (f33 j).toInt ∧ (f33 j).toInt ≤ 5000 := cr_upd q_j15_C_h_4 ef33 (by have zqm1 : (-1 : Int32).toInt = -1 := (by decide); omega) (by have zqm1 : (-1 : Int32).toInt = -1 := (by decide); omega)
      refine k_iast C Wd 4 2 [(h0, .inr (8, [.ref h0_0, .int h0_1])), (h0_0, .inl (a_h0_0, n_h0_0, .inl f_h0_0)), (h, .inr (9, [.ref h_0, .ref h_1, .int h_2, .ref h_3, .ref h_4])), (h_3, .inl (a_h_3, 3, .inl f26)), (h_4, .inl (a_h_4, 3, .inl f33)), (h_0, .inr (8, [.ref h_0_0, .int h_0_1])), (h_0_0, .inl (a_h_0_0, n_h_0_0, .inl f_h_0_0))] rfl rfl (vp_in_iff.mpr ⟨by omega, by omega⟩) ef33 rfl dX9_matches_33 (fun H locs Wd => ?_)
      obtain ⟨v34, ev34⟩ : ∃ z : Int32, j15_L_3 + 1 = z := ⟨_, rfl⟩
      have iv34 : v34.toInt = j15_L_3.toInt + 1 := kz_addc ev34 (by decide) (by have zr0 := kz_rng j15_L_3; omega) (by have zr0 := kz_rng j15_L_3; omega)
      refine lv_iinc (v := v34) (lv' := [(3, .int v34), (0, .ref h), (1, .ref h0), (2, .int x1)]) C.1 C.2.1 dX9_matches_34 hl (k := 0) rfl ev34 (by decide) rfl (fun ls hl => ?_)
      refine lv_goto (tgt := 15) C.1 C.2.1 dX9_matches_37 (by decide) ?_
      exact ih15 (f26, f33, v34) _ _ _ ⟨by omega, by omega, q_f26, q_f33, Wd, lv_sub hl [0, 1, 2, 3] rfl⟩ (by show (4 - v34.toInt).toNat < (4 - j15_L_3.toInt).toNat; omega)
  · have i8 : r5.toInt = 0 := kz_eq c8
    refine lv_iconst (v := 0) C.1 C.2.1 dX9_matches_11 (by decide) ?_
    exact k_zret C hr hlk rfl Wd (f_h_3, f_h_4) (by exact ⟨by have zq0 : (0 : Int32).toInt = 0 := (by decide); omega, by have zq0 : (0 : Int32).toInt = 0 := (by decide); omega, q_f_h_3, q_f_h_4⟩) [0, 1, 2, 3, 4, 5, 6] rfl (by decide) [] rfl (by decide) (by decide) dX9_matches_12
set_option maxHeartbeats 4000000 in
set_option maxRecDepth 100000 in
theorem sX9_countIn (l : Launch) (D : va_G) (h : Nat) (h0 : Nat) (h0_0 : Nat) (h0_1 : Int32) (n_h0_0 : Nat) (a_h0_0 : ClassId) (f_h0_0 : Nat → Int32) (h_0 : Nat) (h_1 : Nat) (h_2 : Int32) (h_3 : Nat) (h_4 : Nat) (a_h_3 : ClassId) (f_h_3 : Nat → Int32) (a_h_4 : ClassId) (f_h_4 : Nat → Int32) (h_0_0 : Nat) (h_0_1 : Int32) (n_h_0_0 : Nat) (a_h_0_0 : ClassId) (f_h_0_0 : Nat → Int32) (sz : Nat) (k_h0_1_lo : 0 ≤ h0_1.toInt) (k_n_h0_0 : n_h0_0 ≤ 1000) (k_p_h0_0 : 1 ≤ n_h0_0) (k_h0_1_hi : h0_1.toInt ≤ (n_h0_0 : Int)) (k_h_0_1_lo : 0 ≤ h_0_1.toInt) (k_n_h_0_0 : n_h_0_0 ≤ 1000) (k_p_h_0_0 : 1 ≤ n_h_0_0) (k_h_0_1_hi : h_0_1.toInt ≤ (n_h_0_0 : Int)) (q_f_h_3 : ∀ j : Nat, -1 ≤ (f_h_3 j).toInt ∧ (f_h_3 j).toInt ≤ 5000) (q_f_h_4 : ∀ j : Nat, -1 ≤ (f_h_4 j).toInt ∧ (f_h_4 j).toInt ≤ 5000) : Met l yX9_countIn (Cond.code yX9_countIn cX9_countIn 4 (some .int) :: gG) { frames := 4, cells := 0, slots := 0, locals := 139 } (cPre D [(a_h0_0, .int), (a_h_3, .int), (a_h_4, .int), (a_h_0_0, .int)] [(h0, .inr (8, [.ref h0_0, .int h0_1])), (h0_0, .inl (a_h0_0, n_h0_0, .inl f_h0_0)), (h, .inr (9, [.ref h_0, .ref h_1, .int h_2, .ref h_3, .ref h_4])), (h_3, .inl (a_h_3, 3, .inl f_h_3)), (h_4, .inl (a_h_4, 3, .inl f_h_4)), (h_0, .inr (8, [.ref h_0_0, .int h_0_1])), (h_0_0, .inl (a_h_0_0, n_h_0_0, .inl f_h_0_0))] sz [.ref h, .ref h0]) (va_Qi (fun (r : Int32) (u : (Nat → Int32) × (Nat → Int32)) => match u with | (jX_C_h_3, jX_C_h_4) => 0 ≤ r.toInt ∧ r.toInt ≤ 1000 ∧ r.toInt ≤ (n_h0_0 : Int) ∧ r.toInt ≤ h0_1.toInt ∧ (∀ j : Nat, -1 ≤ (jX_C_h_3 j).toInt ∧ (jX_C_h_3 j).toInt ≤ 5000) ∧ (∀ j : Nat, -1 ≤ (jX_C_h_4 j).toInt ∧ (jX_C_h_4 j).toInt ≤ 5000)) (fun u t => cB D (va_A [(h0, .inr (8, [.ref h0_0, .int h0_1])), (h0_0, .inl (a_h0_0, n_h0_0, .inl f_h0_0)), (h, .inr (9, [.ref h_0, .ref h_1, .int h_2, .ref h_3, .ref h_4])), (h_3, .inl (a_h_3, 3, .inl f_h_3)), (h_4, .inl (a_h_4, 3, .inl f_h_4)), (h_0, .inr (8, [.ref h_0_0, .int h_0_1])), (h_0_0, .inl (a_h_0_0, n_h_0_0, .inl f_h_0_0))] sz) ((fun (_ : (Nat → Int32) × (Nat → Int32)) => ([] : List (ClassId × FieldType))) u) ((fun (u : (Nat → Int32) × (Nat → Int32)) => match u with | (jX_C_h_3, jX_C_h_4) => ([(h0, .inr (8, [.ref h0_0, .int h0_1])), (h0_0, .inl (a_h0_0, n_h0_0, .inl f_h0_0)), (h, .inr (9, [.ref h_0, .ref h_1, .int h_2, .ref h_3, .ref h_4])), (h_3, .inl (a_h_3, 3, .inl jX_C_h_3)), (h_4, .inl (a_h_4, 3, .inl jX_C_h_4)), (h_0, .inr (8, [.ref h_0_0, .int h_0_1])), (h_0_0, .inl (a_h_0_0, n_h_0_0, .inl f_h_0_0))] : va_W)) u) t) (va_A [(h0, .inr (8, [.ref h0_0, .int h0_1])), (h0_0, .inl (a_h0_0, n_h0_0, .inl f_h0_0)), (h, .inr (9, [.ref h_0, .ref h_1, .int h_2, .ref h_3, .ref h_4])), (h_3, .inl (a_h_3, 3, .inl f_h_3)), (h_4, .inl (a_h_4, 3, .inl f_h_4)), (h_0, .inr (8, [.ref h_0_0, .int h_0_1])), (h_0_0, .inl (a_h_0_0, n_h_0_0, .inl f_h_0_0))] sz)) 0 0 (va_A [(h0, .inr (8, [.ref h0_0, .int h0_1])), (h0_0, .inl (a_h0_0, n_h0_0, .inl f_h0_0)), (h, .inr (9, [.ref h_0, .ref h_1, .int h_2, .ref h_3, .ref h_4])), (h_3, .inl (a_h_3, 3, .inl f_h_3)), (h_4, .inl (a_h_4, 3, .inl f_h_4)), (h_0, .inr (8, [.ref h_0_0, .int h_0_1])), (h_0_0, .inl (a_h_0_0, n_h_0_0, .inl f_h_0_0))] sz) := by
  refine Met.ofW (cc := cX9_countIn) (maxL := 4) (ret := (some .int)) (by decide) rfl ?_
  intro p e s m args below meth c s₁ B hml hv
  obtain ⟨rfl, aks, rfl, Wd⟩ := k_enter hv
  have C : CallFix p m c cX9_countIn 4 s _ gG RX9 := ⟨B.exec, B.bytes, hml, findClass_of_methodNamed B.named, fun w h => atoms_spec (ws := Cond.code yX9_countIn cX9_countIn 4 (some .int) :: gG) B.pre w (List.mem_cons_of_mem _ h)⟩
  have hr := B.returns
  have hlk := B.notSynchronized
  generalize va_A [(h0, .inr (8, [.ref h0_0, .int h0_1])), (h0_0, .inl (a_h0_0, n_h0_0, .inl f_h0_0)), (h, .inr (9, [.ref h_0, .ref h_1, .int h_2, .ref h_3, .ref h_4])), (h_3, .inl (a_h_3, 3, .inl f_h_3)), (h_4, .inl (a_h_4, 3, .inl f_h_4)), (h_0, .inr (8, [.ref h_0_0, .int h_0_1])), (h_0_0, .inl (a_h_0_0, n_h_0_0, .inl f_h_0_0))] s.heap.size = A at Wd ⊢
  refine k_locals (Nat.le_of_ble_eq_true rfl) [(0, .ref h), (1, .ref h0)] rfl (fun ls hl => ?_)
  refine lv_iconst (v := 0) C.1 C.2.1 dX9_countIn_0 (by decide) ?_
  refine lv_istore_n (lv' := [(2, .int 0), (0, .ref h), (1, .ref h0)]) C.1 C.2.1 dX9_countIn_1 rfl hl (by decide) rfl (fun ls hl => ?_)
  refine lv_iconst (v := 0) C.1 C.2.1 dX9_countIn_2 (by decide) ?_
  refine lv_istore_n (lv' := [(3, .int 0), (2, .int 0), (0, .ref h), (1, .ref h0)]) C.1 C.2.1 dX9_countIn_3 rfl hl (by decide) rfl (fun ls hl => ?_)
  refine k_loopA (fun (u : (Nat → Int32) × (Nat → Int32) × (Int32) × (Int32)) H locs ls => match u with | (j4_C_h_3, j4_C_h_4, j4_L_2, j4_L_3) => 0 ≤ j4_L_2.toInt ∧ 0 ≤ j4_L_3.toInt ∧ j4_L_2.toInt ≤ 1000 ∧ j4_L_3.toInt ≤ 1000 ∧ j4_L_2.toInt ≤ (n_h0_0 : Int) ∧ j4_L_2.toInt ≤ h0_1.toInt ∧ j4_L_2.toInt ≤ j4_L_3.toInt ∧ j4_L_3.toInt ≤ (n_h0_0 : Int) ∧ j4_L_3.toInt ≤ h0_1.toInt ∧ (∀ j : Nat, -1 ≤ (j4_C_h_3 j).toInt ∧ (j4_C_h_3 j).toInt ≤ 5000) ∧ (∀ j : Nat, -1 ≤ (j4_C_h_4 j).toInt ∧ (j4_C_h_4 j).toInt ≤ 5000) ∧ wX D [(a_h0_0, .int), (a_h_3, .int), (a_h_4, .int), (a_h_0_0, .int)] s [(h0, .inr (8, [.ref h0_0, .int h0_1])), (h0_0, .inl (a_h0_0, n_h0_0, .inl f_h0_0)), (h, .inr (9, [.ref h_0, .ref h_1, .int h_2, .ref h_3, .ref h_4])), (h_3, .inl (a_h_3, 3, .inl j4_C_h_3)), (h_4, .inl (a_h_4, 3, .inl j4_C_h_4)), (h_0, .inr (8, [.ref h_0_0, .int h_0_1])), (h_0_0, .inl (a_h_0_0, n_h_0_0, .inl f_h_0_0))] H A s.heap locs ∧ lv_has ls 4 [(3, .int j4_L_3), (2, .int j4_L_2), (0, .ref h), (1, .ref h0)]) (fun (u : (Nat → Int32) × (Nat → Int32) × (Int32) × (Int32)) ls => match u with | (j4_C_h_3, j4_C_h_4, j4_L_2, j4_L_3) => F0 m 4 ls []) (fun (u : (Nat → Int32) × (Nat → Int32) × (Int32) × (Int32)) => match u with | (j4_C_h_3, j4_C_h_4, j4_L_2, j4_L_3) => (1001 - j4_L_3.toInt).toNat) (fun u H locs ls hi ih4 => ?_) (f_h_3, f_h_4, 0, 0) _ _ _ ⟨by have zq0 : (0 : Int32).toInt = 0 := (by decide); omega, by have zq0 : (0 : Int32).toInt = 0 := (by decide); omega, by have zq0 : (0 : Int32).toInt = 0 := (by decide); omega, by have zq0 : (0 : Int32).toInt = 0 := (by decide); omega, by have zq0 : (0 : Int32).toInt = 0 := (by decide); omega, by have zq0 : (0 : Int32).toInt = 0 := (by decide); omega, by have zq0 : (0 : Int32).toInt = 0 := (by decide); omega, by have zq0 : (0 : Int32).toInt = 0 := (by decide); omega, by have zq0 : (0 : Int32).toInt = 0 := (by decide); omega, q_f_h_3, q_f_h_4, Wd, lv_sub hl [0, 1, 2, 3] rfl⟩
  obtain ⟨j4_C_h_3, j4_C_h_4, j4_L_2, j4_L_3⟩ := u
  obtain ⟨i4_0, i4_1, i4_2, i4_3, i4_4, i4_5, i4_6, i4_7, i4_8, q_j4_C_h_3, q_j4_C_h_4, Wd, hl⟩ := hi
  refine lv_iload_n C.1 C.2.1 dX9_countIn_4 rfl (lv_at hl 0 rfl) ?_
  refine lv_aload_n C.1 C.2.1 dX9_countIn_5 rfl (lv_at hl 3 rfl) ?_
  refine k_get C Wd KX8 0 1 rfl (by decide) fl_X9_34 rfl dX9_countIn_6 ?_
  refine lv_icmp_ge (tgt := 30) C.1 C.2.1 dX9_countIn_9 (by decide) (fun c9 => ?_) (fun c9 => ?_)
  · have i9 : h0_1.toInt ≤ j4_L_3.toInt := kz_le c9
    refine lv_iload_n C.1 C.2.1 dX9_countIn_30 rfl (lv_at hl 1 rfl) ?_
    exact k_zret C hr hlk rfl Wd (j4_C_h_3, j4_C_h_4) (by exact ⟨by omega, by omega, by omega, by omega, q_j4_C_h_3, q_j4_C_h_4⟩) [0, 1, 2, 3, 4, 5, 6] rfl (by decide) [] rfl (by decide) (by decide) dX9_countIn_31
  · have i9 : j4_L_3.toInt < h0_1.toInt := kz_nle c9
    refine lv_aload_n C.1 C.2.1 dX9_countIn_12 rfl (lv_at hl 2 rfl) ?_
    refine lv_aload_n C.1 C.2.1 dX9_countIn_13 rfl (lv_at hl 3 rfl) ?_
    refine lv_iload_n C.1 C.2.1 dX9_countIn_14 rfl (lv_at hl 0 rfl) ?_
    refine k_ci Wd [0, 1, 2, 3, 4, 5, 6] [] rfl (wr := []) rfl (by decide) (by decide) (cells' := 0) (slots' := 0) (by decide) (by decide) (k_runV (rest := []) C aks Wd cs_X9_44 (sX9_matches l D h h0 j4_L_3 h0_0 h0_1 n_h0_0 a_h0_0 f_h0_0 h_0 h_1 h_2 h_3 h_4 a_h_3 j4_C_h_3 a_h_4 j4_C_h_4 h_0_0 h_0_1 n_h_0_0 a_h_0_0 f_h_0_0 _ (by omega) (by omega) (by omega) (by omega) (by omega) (by omega) (by omega) (by omega) (by omega) (by omega) q_j4_C_h_3 q_j4_C_h_4) [0, 1, 2, 3, 4, 5, 6] rfl (by decide) [0, 1, 2, 3] rfl 2 9 rfl rfl rfl rfl rfl ⟨(Nat.le_of_ble_eq_true rfl), (Nat.le_of_ble_eq_true rfl)⟩ hl.1 rfl rfl (Nat.le_of_ble_eq_true rfl) ⟨(Nat.le_of_ble_eq_true rfl), (Nat.le_of_ble_eq_true rfl)⟩ dX9_countIn_15) (fun r15 u H locs w15 Wd => ?_)
    obtain ⟨s15_0, s15_1⟩ := u
    have Wd : wX D [(a_h0_0, .int), (a_h_3, .int), (a_h_4, .int), (a_h_0_0, .int)] s [(h0, .inr (8, [.ref h0_0, .int h0_1])), (h0_0, .inl (a_h0_0, n_h0_0, .inl f_h0_0)), (h, .inr (9, [.ref h_0, .ref h_1, .int h_2, .ref h_3, .ref h_4])), (h_3, .inl (a_h_3, 3, .inl s15_0)), (h_4, .inl (a_h_4, 3, .inl s15_1)), (h_0, .inr (8, [.ref h_0_0, .int h_0_1])), (h_0_0, .inl (a_h_0_0, n_h_0_0, .inl f_h_0_0))] _ A s.heap _ := k_sub Wd [0, 1, 2, 3, 4, 5, 6] rfl (by decide) [0, 1, 2, 3] rfl
    obtain ⟨g15_0, g15_1, q_s15_0, q_s15_1⟩ := w15
    have g15_0 : 0 ≤ r15.toInt := g15_0
    have g15_1 : r15.toInt ≤ 1 := g15_1
    refine k_cutA (fun (j24_L_2 : Int32) H locs ls => 0 ≤ j24_L_2.toInt ∧ j24_L_2.toInt ≤ 1000 ∧ j24_L_2.toInt ≤ (n_h0_0 : Int) ∧ j24_L_2.toInt ≤ h0_1.toInt ∧ j4_L_2.toInt ≤ j24_L_2.toInt ∧ r15.toInt ≤ j24_L_2.toInt ∧ j24_L_2.toInt ≤ j4_L_2.toInt + 1 ∧ j24_L_2.toInt ≤ r15.toInt + 999 ∧ wX D [(a_h0_0, .int), (a_h_3, .int), (a_h_4, .int), (a_h_0_0, .int)] s [(h0, .inr (8, [.ref h0_0, .int h0_1])), (h0_0, .inl (a_h0_0, n_h0_0, .inl f_h0_0)), (h, .inr (9, [.ref h_0, .ref h_1, .int h_2, .ref h_3, .ref h_4])), (h_3, .inl (a_h_3, 3, .inl s15_0)), (h_4, .inl (a_h_4, 3, .inl s15_1)), (h_0, .inr (8, [.ref h_0_0, .int h_0_1])), (h_0_0, .inl (a_h_0_0, n_h_0_0, .inl f_h_0_0))] H A s.heap locs ∧ lv_has ls 4 [(3, .int j4_L_3), (2, .int j24_L_2), (0, .ref h), (1, .ref h0)]) (fun (j24_L_2 : Int32) ls => F0 m 24 ls []) (fun j24_L_2 H locs ls hi => ?_) (fun J24 => ?_)
    · obtain ⟨i24_0, i24_1, i24_2, i24_3, i24_4, i24_5, i24_6, i24_7, Wd, hl⟩ := hi
      obtain ⟨v24, ev24⟩ : ∃ z : Int32, j4_L_3 + 1 = z := ⟨_, rfl⟩
      have iv24 : v24.toInt = j4_L_3.toInt + 1 := kz_addc ev24 (by decide) (by have zr0 := kz_rng j4_L_3; omega) (by have zr0 := kz_rng j4_L_3; omega)
      refine lv_iinc (v := v24) (lv' := [(3, .int v24), (2, .int j24_L_2), (0, .ref h), (1, .ref h0)]) C.1 C.2.1 dX9_countIn_24 hl (k := 0) rfl ev24 (by decide) rfl (fun ls hl => ?_)
      refine lv_goto (tgt := 4) C.1 C.2.1 dX9_countIn_27 (by decide) ?_
      exact ih4 (s15_0, s15_1, j24_L_2, v24) _ _ _ ⟨by omega, by omega, by omega, by omega, by omega, by omega, by omega, by omega, by omega, q_s15_0, q_s15_1, Wd, lv_sub hl [0, 1, 2, 3] rfl⟩ (by show (1001 - v24.toInt).toNat < (1001 - j4_L_3.toInt).toNat; omega)
    refine lv_if_eq (tgt := 24) C.1 C.2.1 dX9_countIn_18 (by decide) (fun c18 => ?_) (fun c18 => ?_)
    · have i18 : r15.toInt = 0 := kz_eq c18
      exact J24 j4_L_2 _ _ _ ⟨by omega, by omega, by omega, by omega, by omega, by omega, by omega, by omega, Wd, lv_sub hl [0, 1, 2, 3] rfl⟩
    · have i18 : ¬ r15.toInt = 0 := kz_ne c18
      obtain ⟨v21, ev21⟩ : ∃ z : Int32, j4_L_2 + 1 = z := ⟨_, rfl⟩
      have iv21 : v21.toInt = j4_L_2.toInt + 1 := kz_addc ev21 (by decide) (by have zr0 := kz_rng j4_L_2; omega) (by have zr0 := kz_rng j4_L_2; omega)
      refine lv_iinc (v := v21) (lv' := [(2, .int v21), (3, .int j4_L_3), (0, .ref h), (1, .ref h0)]) C.1 C.2.1 dX9_countIn_21 hl (k := 1) rfl ev21 (by decide) rfl (fun ls hl => ?_)
      exact J24 v21 _ _ _ ⟨by omega, by omega, by omega, by omega, by omega, by omega, by omega, by omega, Wd, lv_sub hl [1, 0, 2, 3] rfl⟩
set_option maxHeartbeats 4000000 in
set_option maxRecDepth 100000 in
theorem sX9_placeIn (l : Launch) (D : va_G) (h : Nat) (h0 : Nat) (x1 : Int32) (h0_0 : Nat) (h0_1 : Int32) (n_h0_0 : Nat) (a_h0_0 : ClassId) (f_h0_0 : Nat → Int32) (h_0 : Nat) (h_1 : Nat) (h_2 : Int32) (h_3 : Nat) (h_4 : Nat) (a_h_3 : ClassId) (f_h_3 : Nat → Int32) (a_h_4 : ClassId) (f_h_4 : Nat → Int32) (h_0_0 : Nat) (h_0_1 : Int32) (n_h_0_0 : Nat) (a_h_0_0 : ClassId) (f_h_0_0 : Nat → Int32) (sz : Nat) (k_h0_1_lo : 0 ≤ h0_1.toInt) (k_n_h0_0 : n_h0_0 ≤ 1000) (k_p_h0_0 : 1 ≤ n_h0_0) (k_h0_1_hi : h0_1.toInt ≤ (n_h0_0 : Int)) (k_h_0_1_lo : 0 ≤ h_0_1.toInt) (k_n_h_0_0 : n_h_0_0 ≤ 1000) (k_p_h_0_0 : 1 ≤ n_h_0_0) (k_h_0_1_hi : h_0_1.toInt ≤ (n_h_0_0 : Int)) (q_f_h_3 : ∀ j : Nat, -1 ≤ (f_h_3 j).toInt ∧ (f_h_3 j).toInt ≤ 5000) (q_f_h_4 : ∀ j : Nat, -1 ≤ (f_h_4 j).toInt ∧ (f_h_4 j).toInt ≤ 5000) : Met l yX9_placeIn (Cond.code yX9_placeIn cX9_placeIn 5 (some .int) :: gG) { frames := 4, cells := 0, slots := 0, locals := 139 } (cPre D [(a_h0_0, .int), (a_h_3, .int), (a_h_4, .int), (a_h_0_0, .int)] [(h0, .inr (8, [.ref h0_0, .int h0_1])), (h0_0, .inl (a_h0_0, n_h0_0, .inl f_h0_0)), (h, .inr (9, [.ref h_0, .ref h_1, .int h_2, .ref h_3, .ref h_4])), (h_3, .inl (a_h_3, 3, .inl f_h_3)), (h_4, .inl (a_h_4, 3, .inl f_h_4)), (h_0, .inr (8, [.ref h_0_0, .int h_0_1])), (h_0_0, .inl (a_h_0_0, n_h_0_0, .inl f_h_0_0))] sz [.ref h, .ref h0, .int x1]) (va_Qi (fun (r : Int32) (u : (Nat → Int32) × (Nat → Int32)) => match u with | (jX_C_h_3, jX_C_h_4) => -1 ≤ r.toInt ∧ r.toInt ≤ 999 ∧ r.toInt + 1 ≤ (n_h0_0 : Int) ∧ r.toInt + 1 ≤ h0_1.toInt ∧ (∀ j : Nat, -1 ≤ (jX_C_h_3 j).toInt ∧ (jX_C_h_3 j).toInt ≤ 5000) ∧ (∀ j : Nat, -1 ≤ (jX_C_h_4 j).toInt ∧ (jX_C_h_4 j).toInt ≤ 5000)) (fun u t => cB D (va_A [(h0, .inr (8, [.ref h0_0, .int h0_1])), (h0_0, .inl (a_h0_0, n_h0_0, .inl f_h0_0)), (h, .inr (9, [.ref h_0, .ref h_1, .int h_2, .ref h_3, .ref h_4])), (h_3, .inl (a_h_3, 3, .inl f_h_3)), (h_4, .inl (a_h_4, 3, .inl f_h_4)), (h_0, .inr (8, [.ref h_0_0, .int h_0_1])), (h_0_0, .inl (a_h_0_0, n_h_0_0, .inl f_h_0_0))] sz) ((fun (_ : (Nat → Int32) × (Nat → Int32)) => ([] : List (ClassId × FieldType))) u) ((fun (u : (Nat → Int32) × (Nat → Int32)) => match u with | (jX_C_h_3, jX_C_h_4) => ([(h0, .inr (8, [.ref h0_0, .int h0_1])), (h0_0, .inl (a_h0_0, n_h0_0, .inl f_h0_0)), (h, .inr (9, [.ref h_0, .ref h_1, .int h_2, .ref h_3, .ref h_4])), (h_3, .inl (a_h_3, 3, .inl jX_C_h_3)), (h_4, .inl (a_h_4, 3, .inl jX_C_h_4)), (h_0, .inr (8, [.ref h_0_0, .int h_0_1])), (h_0_0, .inl (a_h_0_0, n_h_0_0, .inl f_h_0_0))] : va_W)) u) t) (va_A [(h0, .inr (8, [.ref h0_0, .int h0_1])), (h0_0, .inl (a_h0_0, n_h0_0, .inl f_h0_0)), (h, .inr (9, [.ref h_0, .ref h_1, .int h_2, .ref h_3, .ref h_4])), (h_3, .inl (a_h_3, 3, .inl f_h_3)), (h_4, .inl (a_h_4, 3, .inl f_h_4)), (h_0, .inr (8, [.ref h_0_0, .int h_0_1])), (h_0_0, .inl (a_h_0_0, n_h_0_0, .inl f_h_0_0))] sz)) 0 0 (va_A [(h0, .inr (8, [.ref h0_0, .int h0_1])), (h0_0, .inl (a_h0_0, n_h0_0, .inl f_h0_0)), (h, .inr (9, [.ref h_0, .ref h_1, .int h_2, .ref h_3, .ref h_4])), (h_3, .inl (a_h_3, 3, .inl f_h_3)), (h_4, .inl (a_h_4, 3, .inl f_h_4)), (h_0, .inr (8, [.ref h_0_0, .int h_0_1])), (h_0_0, .inl (a_h_0_0, n_h_0_0, .inl f_h_0_0))] sz) := by
  refine Met.ofW (cc := cX9_placeIn) (maxL := 5) (ret := (some .int)) (by decide) rfl ?_
  intro p e s m args below meth c s₁ B hml hv
  obtain ⟨rfl, aks, rfl, Wd⟩ := k_enter hv
  have C : CallFix p m c cX9_placeIn 5 s _ gG RX9 := ⟨B.exec, B.bytes, hml, findClass_of_methodNamed B.named, fun w h => atoms_spec (ws := Cond.code yX9_placeIn cX9_placeIn 5 (some .int) :: gG) B.pre w (List.mem_cons_of_mem _ h)⟩
  have hr := B.returns
  have hlk := B.notSynchronized
  generalize va_A [(h0, .inr (8, [.ref h0_0, .int h0_1])), (h0_0, .inl (a_h0_0, n_h0_0, .inl f_h0_0)), (h, .inr (9, [.ref h_0, .ref h_1, .int h_2, .ref h_3, .ref h_4])), (h_3, .inl (a_h_3, 3, .inl f_h_3)), (h_4, .inl (a_h_4, 3, .inl f_h_4)), (h_0, .inr (8, [.ref h_0_0, .int h_0_1])), (h_0_0, .inl (a_h_0_0, n_h_0_0, .inl f_h_0_0))] s.heap.size = A at Wd ⊢
  refine k_locals (Nat.le_of_ble_eq_true rfl) [(0, .ref h), (1, .ref h0), (2, .int x1)] rfl (fun ls hl => ?_)
  refine lv_iconst (v := 0) C.1 C.2.1 dX9_placeIn_0 (by decide) ?_
  refine lv_istore_n (lv' := [(3, .int 0), (0, .ref h), (1, .ref h0), (2, .int x1)]) C.1 C.2.1 dX9_placeIn_1 rfl hl (by decide) rfl (fun ls hl => ?_)
  refine lv_iconst (v := 0) C.1 C.2.1 dX9_placeIn_2 (by decide) ?_
  refine lv_istore (lv' := [(4, .int 0), (3, .int 0), (0, .ref h), (1, .ref h0), (2, .int x1)]) C.1 C.2.1 dX9_placeIn_3 hl (by decide) rfl (fun ls hl => ?_)
  refine k_loopA (fun (u : (Nat → Int32) × (Nat → Int32) × (Int32) × (Int32)) H locs ls => match u with | (j5_C_h_3, j5_C_h_4, j5_L_3, j5_L_4) => 0 ≤ j5_L_3.toInt ∧ 0 ≤ j5_L_4.toInt ∧ j5_L_3.toInt ≤ 1000 ∧ j5_L_4.toInt ≤ 1000 ∧ j5_L_3.toInt ≤ (n_h0_0 : Int) ∧ j5_L_3.toInt ≤ h0_1.toInt ∧ j5_L_3.toInt ≤ j5_L_4.toInt ∧ j5_L_4.toInt ≤ (n_h0_0 : Int) ∧ j5_L_4.toInt ≤ h0_1.toInt ∧ (∀ j : Nat, -1 ≤ (j5_C_h_3 j).toInt ∧ (j5_C_h_3 j).toInt ≤ 5000) ∧ (∀ j : Nat, -1 ≤ (j5_C_h_4 j).toInt ∧ (j5_C_h_4 j).toInt ≤ 5000) ∧ wX D [(a_h0_0, .int), (a_h_3, .int), (a_h_4, .int), (a_h_0_0, .int)] s [(h0, .inr (8, [.ref h0_0, .int h0_1])), (h0_0, .inl (a_h0_0, n_h0_0, .inl f_h0_0)), (h, .inr (9, [.ref h_0, .ref h_1, .int h_2, .ref h_3, .ref h_4])), (h_3, .inl (a_h_3, 3, .inl j5_C_h_3)), (h_4, .inl (a_h_4, 3, .inl j5_C_h_4)), (h_0, .inr (8, [.ref h_0_0, .int h_0_1])), (h_0_0, .inl (a_h_0_0, n_h_0_0, .inl f_h_0_0))] H A s.heap locs ∧ lv_has ls 5 [(4, .int j5_L_4), (3, .int j5_L_3), (0, .ref h), (1, .ref h0), (2, .int x1)]) (fun (u : (Nat → Int32) × (Nat → Int32) × (Int32) × (Int32)) ls => match u with | (j5_C_h_3, j5_C_h_4, j5_L_3, j5_L_4) => F0 m 5 ls []) (fun (u : (Nat → Int32) × (Nat → Int32) × (Int32) × (Int32)) => match u with | (j5_C_h_3, j5_C_h_4, j5_L_3, j5_L_4) => (1001 - j5_L_4.toInt).toNat) (fun u H locs ls hi ih5 => ?_) (f_h_3, f_h_4, 0, 0) _ _ _ ⟨by have zq0 : (0 : Int32).toInt = 0 := (by decide); omega, by have zq0 : (0 : Int32).toInt = 0 := (by decide); omega, by have zq0 : (0 : Int32).toInt = 0 := (by decide); omega, by have zq0 : (0 : Int32).toInt = 0 := (by decide); omega, by have zq0 : (0 : Int32).toInt = 0 := (by decide); omega, by have zq0 : (0 : Int32).toInt = 0 := (by decide); omega, by have zq0 : (0 : Int32).toInt = 0 := (by decide); omega, by have zq0 : (0 : Int32).toInt = 0 := (by decide); omega, by have zq0 : (0 : Int32).toInt = 0 := (by decide); omega, q_f_h_3, q_f_h_4, Wd, lv_sub hl [0, 1, 2, 3, 4] rfl⟩
  obtain ⟨j5_C_h_3, j5_C_h_4, j5_L_3, j5_L_4⟩ := u
  obtain ⟨i5_0, i5_1, i5_2, i5_3, i5_4, i5_5, i5_6, i5_7, i5_8, q_j5_C_h_3, q_j5_C_h_4, Wd, hl⟩ := hi
  refine lv_iload C.1 C.2.1 dX9_placeIn_5 (lv_at hl 0 rfl) ?_
  refine lv_aload_n C.1 C.2.1 dX9_placeIn_7 rfl (lv_at hl 3 rfl) ?_
  refine k_get C Wd KX8 0 1 rfl (by decide) fl_X9_34 rfl dX9_placeIn_8 ?_
  refine k_cutA (fun (_ : Unit) H locs ls => wX D [(a_h0_0, .int), (a_h_3, .int), (a_h_4, .int), (a_h_0_0, .int)] s [(h0, .inr (8, [.ref h0_0, .int h0_1])), (h0_0, .inl (a_h0_0, n_h0_0, .inl f_h0_0)), (h, .inr (9, [.ref h_0, .ref h_1, .int h_2, .ref h_3, .ref h_4])), (h_3, .inl (a_h_3, 3, .inl j5_C_h_3)), (h_4, .inl (a_h_4, 3, .inl j5_C_h_4)), (h_0, .inr (8, [.ref h_0_0, .int h_0_1])), (h_0_0, .inl (a_h_0_0, n_h_0_0, .inl f_h_0_0))] H A s.heap locs ∧ lv_has ls 5 [(4, .int j5_L_4), (3, .int j5_L_3), (0, .ref h), (1, .ref h0), (2, .int x1)]) (fun (_ : Unit) ls => F0 m 45 ls []) (fun _ H locs ls hi => ?_) (fun J45 => ?_)
  · obtain ⟨Wd, hl⟩ := hi
    refine lv_iconst (v := (-1)) C.1 C.2.1 dX9_placeIn_45 (by decide) ?_
    exact k_zret C hr hlk rfl Wd (j5_C_h_3, j5_C_h_4) (by exact ⟨by have zqm1 : (-1 : Int32).toInt = -1 := (by decide); omega, by have zqm1 : (-1 : Int32).toInt = -1 := (by decide); omega, by have zqm1 : (-1 : Int32).toInt = -1 := (by decide); omega, by have zqm1 : (-1 : Int32).toInt = -1 := (by decide); omega, q_j5_C_h_3, q_j5_C_h_4⟩) [0, 1, 2, 3, 4, 5, 6] rfl (by decide) [] rfl (by decide) (by decide) dX9_placeIn_46
  refine lv_icmp_ge (tgt := 45) C.1 C.2.1 dX9_placeIn_11 (by decide) (fun c11 => ?_) (fun c11 => ?_)
  · have i11 : h0_1.toInt ≤ j5_L_4.toInt := kz_le c11
    exact J45 () _ _ _ ⟨Wd, lv_sub hl [0, 1, 2, 3, 4] rfl⟩
  · have i11 : j5_L_4.toInt < h0_1.toInt := kz_nle c11
    refine lv_iload_n C.1 C.2.1 dX9_placeIn_14 rfl (lv_at hl 4 rfl) ?_
    refine lv_if_lt (tgt := 45) C.1 C.2.1 dX9_placeIn_15 (by decide) (fun c15 => ?_) (fun c15 => ?_)
    · have i15 : x1.toInt < 0 := kz_lt c15
      exact J45 () _ _ _ ⟨Wd, lv_sub hl [0, 1, 2, 3, 4] rfl⟩
    · have i15 : 0 ≤ x1.toInt := kz_nlt c15
      refine lv_aload_n C.1 C.2.1 dX9_placeIn_18 rfl (lv_at hl 2 rfl) ?_
      refine lv_aload_n C.1 C.2.1 dX9_placeIn_19 rfl (lv_at hl 3 rfl) ?_
      refine lv_iload C.1 C.2.1 dX9_placeIn_20 (lv_at hl 0 rfl) ?_
      refine k_ci Wd [0, 1, 2, 3, 4, 5, 6] [] rfl (wr := []) rfl (by decide) (by decide) (cells' := 0) (slots' := 0) (by decide) (by decide) (k_runV (rest := []) C aks Wd cs_X9_44 (sX9_matches l D h h0 j5_L_4 h0_0 h0_1 n_h0_0 a_h0_0 f_h0_0 h_0 h_1 h_2 h_3 h_4 a_h_3 j5_C_h_3 a_h_4 j5_C_h_4 h_0_0 h_0_1 n_h_0_0 a_h_0_0 f_h_0_0 _ (by omega) (by omega) (by omega) (by omega) (by omega) (by omega) (by omega) (by omega) (by omega) (by omega) q_j5_C_h_3 q_j5_C_h_4) [0, 1, 2, 3, 4, 5, 6] rfl (by decide) [0, 1, 2, 3] rfl 2 9 rfl rfl rfl rfl rfl ⟨(Nat.le_of_ble_eq_true rfl), (Nat.le_of_ble_eq_true rfl)⟩ hl.1 rfl rfl (Nat.le_of_ble_eq_true rfl) ⟨(Nat.le_of_ble_eq_true rfl), (Nat.le_of_ble_eq_true rfl)⟩ dX9_placeIn_22) (fun r22 u H locs w22 Wd => ?_)
      obtain ⟨s22_0, s22_1⟩ := u
      have Wd : wX D [(a_h0_0, .int), (a_h_3, .int), (a_h_4, .int), (a_h_0_0, .int)] s [(h0, .inr (8, [.ref h0_0, .int h0_1])), (h0_0, .inl (a_h0_0, n_h0_0, .inl f_h0_0)), (h, .inr (9, [.ref h_0, .ref h_1, .int h_2, .ref h_3, .ref h_4])), (h_3, .inl (a_h_3, 3, .inl s22_0)), (h_4, .inl (a_h_4, 3, .inl s22_1)), (h_0, .inr (8, [.ref h_0_0, .int h_0_1])), (h_0_0, .inl (a_h_0_0, n_h_0_0, .inl f_h_0_0))] _ A s.heap _ := k_sub Wd [0, 1, 2, 3, 4, 5, 6] rfl (by decide) [0, 1, 2, 3] rfl
      obtain ⟨g22_0, g22_1, q_s22_0, q_s22_1⟩ := w22
      have g22_0 : 0 ≤ r22.toInt := g22_0
      have g22_1 : r22.toInt ≤ 1 := g22_1
      refine k_cutA (fun (j39_L_3 : Int32) H locs ls => 0 ≤ j39_L_3.toInt ∧ j39_L_3.toInt ≤ 1000 ∧ j39_L_3.toInt ≤ (n_h0_0 : Int) ∧ j39_L_3.toInt ≤ h0_1.toInt ∧ j5_L_3.toInt ≤ j39_L_3.toInt ∧ r22.toInt ≤ j39_L_3.toInt ∧ j39_L_3.toInt ≤ j5_L_3.toInt + 1 ∧ j39_L_3.toInt ≤ r22.toInt + 999 ∧ wX D [(a_h0_0, .int), (a_h_3, .int), (a_h_4, .int), (a_h_0_0, .int)] s [(h0, .inr (8, [.ref h0_0, .int h0_1])), (h0_0, .inl (a_h0_0, n_h0_0, .inl f_h0_0)), (h, .inr (9, [.ref h_0, .ref h_1, .int h_2, .ref h_3, .ref h_4])), (h_3, .inl (a_h_3, 3, .inl s22_0)), (h_4, .inl (a_h_4, 3, .inl s22_1)), (h_0, .inr (8, [.ref h_0_0, .int h_0_1])), (h_0_0, .inl (a_h_0_0, n_h_0_0, .inl f_h_0_0))] H A s.heap locs ∧ lv_has ls 5 [(4, .int j5_L_4), (3, .int j39_L_3), (0, .ref h), (1, .ref h0), (2, .int x1)]) (fun (j39_L_3 : Int32) ls => F0 m 39 ls []) (fun j39_L_3 H locs ls hi => ?_) (fun J39 => ?_)
      · obtain ⟨i39_0, i39_1, i39_2, i39_3, i39_4, i39_5, i39_6, i39_7, Wd, hl⟩ := hi
        obtain ⟨v39, ev39⟩ : ∃ z : Int32, j5_L_4 + 1 = z := ⟨_, rfl⟩
        have iv39 : v39.toInt = j5_L_4.toInt + 1 := kz_addc ev39 (by decide) (by have zr0 := kz_rng j5_L_4; omega) (by have zr0 := kz_rng j5_L_4; omega)
        refine lv_iinc (v := v39) (lv' := [(4, .int v39), (3, .int j39_L_3), (0, .ref h), (1, .ref h0), (2, .int x1)]) C.1 C.2.1 dX9_placeIn_39 hl (k := 0) rfl ev39 (by decide) rfl (fun ls hl => ?_)
        refine lv_goto (tgt := 5) C.1 C.2.1 dX9_placeIn_42 (by decide) ?_
        exact ih5 (s22_0, s22_1, j39_L_3, v39) _ _ _ ⟨by omega, by omega, by omega, by omega, by omega, by omega, by omega, by omega, by omega, q_s22_0, q_s22_1, Wd, lv_sub hl [0, 1, 2, 3, 4] rfl⟩ (by show (1001 - v39.toInt).toNat < (1001 - j5_L_4.toInt).toNat; omega)
      refine lv_if_eq (tgt := 39) C.1 C.2.1 dX9_placeIn_25 (by decide) (fun c25 => ?_) (fun c25 => ?_)
      · have i25 : r22.toInt = 0 := kz_eq c25
        exact J39 j5_L_3 _ _ _ ⟨by omega, by omega, by omega, by omega, by omega, by omega, by omega, by omega, Wd, lv_sub hl [0, 1, 2, 3, 4] rfl⟩
      · have i25 : ¬ r22.toInt = 0 := kz_ne c25
        refine lv_iload_n C.1 C.2.1 dX9_placeIn_28 rfl (lv_at hl 1 rfl) ?_
        refine lv_iload_n C.1 C.2.1 dX9_placeIn_29 rfl (lv_at hl 4 rfl) ?_
        refine lv_icmp_ne (tgt := 36) C.1 C.2.1 dX9_placeIn_30 (by decide) (fun c30 => ?_) (fun c30 => ?_)
        · have i30 : ¬ j5_L_3.toInt = x1.toInt := kz_ne c30
          obtain ⟨v36, ev36⟩ : ∃ z : Int32, j5_L_3 + 1 = z := ⟨_, rfl⟩
          have iv36 : v36.toInt = j5_L_3.toInt + 1 := kz_addc ev36 (by decide) (by have zr0 := kz_rng j5_L_3; omega) (by have zr0 := kz_rng j5_L_3; omega)
          refine lv_iinc (v := v36) (lv' := [(3, .int v36), (4, .int j5_L_4), (0, .ref h), (1, .ref h0), (2, .int x1)]) C.1 C.2.1 dX9_placeIn_36 hl (k := 1) rfl ev36 (by decide) rfl (fun ls hl => ?_)
          exact J39 v36 _ _ _ ⟨by omega, by omega, by omega, by omega, by omega, by omega, by omega, by omega, Wd, lv_sub hl [1, 0, 2, 3, 4] rfl⟩
        · have i30 : j5_L_3.toInt = x1.toInt := kz_eq c30
          refine lv_iload C.1 C.2.1 dX9_placeIn_33 (lv_at hl 0 rfl) ?_
          exact k_zret C hr hlk rfl Wd (s22_0, s22_1) (by exact ⟨by omega, by omega, by omega, by omega, q_s22_0, q_s22_1⟩) [0, 1, 2, 3, 4, 5, 6] rfl (by decide) [] rfl (by decide) (by decide) dX9_placeIn_35
set_option maxHeartbeats 4000000 in
set_option maxRecDepth 100000 in
theorem sX9_lengthOfRight (l : Launch) (D : va_G) (h : Nat) (h_0 : Nat) (h_1 : Nat) (h_2 : Int32) (h_3 : Nat) (h_4 : Nat) (h_1_0 : Nat) (h_1_1 : Int32) (n_h_1_0 : Nat) (a_h_1_0 : ClassId) (f_h_1_0 : Nat → Int32) (a_h_4 : ClassId) (f_h_4 : Nat → Int32) (a_h_3 : ClassId) (f_h_3 : Nat → Int32) (sz : Nat) (k_h_1_1_lo : 0 ≤ h_1_1.toInt) (k_n_h_1_0 : n_h_1_0 ≤ 1000) (k_p_h_1_0 : 1 ≤ n_h_1_0) (k_h_1_1_hi : h_1_1.toInt ≤ (n_h_1_0 : Int)) (q_f_h_4 : ∀ j : Nat, -1 ≤ (f_h_4 j).toInt ∧ (f_h_4 j).toInt ≤ 5000) (q_f_h_3 : ∀ j : Nat, -1 ≤ (f_h_3 j).toInt ∧ (f_h_3 j).toInt ≤ 5000) : Met l yX9_lengthOfRight (Cond.code yX9_lengthOfRight cX9_lengthOfRight 4 (some .int) :: gG) { frames := 2, cells := 0, slots := 0, locals := 85 } (cPre D [(a_h_1_0, .int), (a_h_4, .int), (a_h_3, .int)] [(h, .inr (9, [.ref h_0, .ref h_1, .int h_2, .ref h_3, .ref h_4])), (h_1, .inr (8, [.ref h_1_0, .int h_1_1])), (h_1_0, .inl (a_h_1_0, n_h_1_0, .inl f_h_1_0)), (h_4, .inl (a_h_4, 3, .inl f_h_4)), (h_3, .inl (a_h_3, 3, .inl f_h_3))] sz [.ref h]) (vp_Si (fun r => True)) 0 0 (fun _ => False) := by
  refine Met.ofW (cc := cX9_lengthOfRight) (maxL := 4) (ret := (some .int)) (by decide) rfl ?_
  intro p e s m args below meth c s₁ B hml hv
  obtain ⟨rfl, aks, rfl, Wd⟩ := k_enter hv
  have C : CallFix p m c cX9_lengthOfRight 4 s _ gG RX9 := ⟨B.exec, B.bytes, hml, findClass_of_methodNamed B.named, fun w h => atoms_spec (ws := Cond.code yX9_lengthOfRight cX9_lengthOfRight 4 (some .int) :: gG) B.pre w (List.mem_cons_of_mem _ h)⟩
  have hr := B.returns
  have hlk := B.notSynchronized
  obtain ⟨A, Wd⟩ : ∃ A, wX D [(a_h_1_0, .int), (a_h_4, .int), (a_h_3, .int)] s [(h, .inr (9, [.ref h_0, .ref h_1, .int h_2, .ref h_3, .ref h_4])), (h_1, .inr (8, [.ref h_1_0, .int h_1_1])), (h_1_0, .inl (a_h_1_0, n_h_1_0, .inl f_h_1_0)), (h_4, .inl (a_h_4, 3, .inl f_h_4)), (h_3, .inl (a_h_3, 3, .inl f_h_3))] s.heap A s.heap [] := ⟨_, Wd⟩
  refine k_locals (Nat.le_of_ble_eq_true rfl) [(0, .ref h)] rfl (fun ls hl => ?_)
  refine lv_iconst (v := 0) C.1 C.2.1 dX9_lengthOfRight_0 (by decide) ?_
  refine lv_istore_n (lv' := [(1, .int 0), (0, .ref h)]) C.1 C.2.1 dX9_lengthOfRight_1 rfl hl (by decide) rfl (fun ls hl => ?_)
  refine lv_iconst (v := 0) C.1 C.2.1 dX9_lengthOfRight_2 (by decide) ?_
  refine lv_istore_n (lv' := [(2, .int 0), (1, .int 0), (0, .ref h)]) C.1 C.2.1 dX9_lengthOfRight_3 rfl hl (by decide) rfl (fun ls hl => ?_)
  refine k_loopA (fun (u : (Int32) × (Int32)) H locs ls => match u with | (j4_L_1, j4_L_2) => 0 ≤ j4_L_2.toInt ∧ j4_L_2.toInt ≤ 1000 ∧ j4_L_2.toInt ≤ (n_h_1_0 : Int) ∧ j4_L_2.toInt ≤ h_1_1.toInt ∧ H = s.heap ∧ locs = [] ∧ wX D [(a_h_1_0, .int), (a_h_4, .int), (a_h_3, .int)] s [(h, .inr (9, [.ref h_0, .ref h_1, .int h_2, .ref h_3, .ref h_4])), (h_1, .inr (8, [.ref h_1_0, .int h_1_1])), (h_1_0, .inl (a_h_1_0, n_h_1_0, .inl f_h_1_0)), (h_4, .inl (a_h_4, 3, .inl f_h_4)), (h_3, .inl (a_h_3, 3, .inl f_h_3))] H A s.heap locs ∧ lv_has ls 4 [(2, .int j4_L_2), (1, .int j4_L_1), (0, .ref h)]) (fun (u : (Int32) × (Int32)) ls => match u with | (j4_L_1, j4_L_2) => F0 m 4 ls []) (fun (u : (Int32) × (Int32)) => match u with | (j4_L_1, j4_L_2) => (1001 - j4_L_2.toInt).toNat) (fun u H locs ls hi ih4 => ?_) (0, 0) _ _ _ ⟨by have zq0 : (0 : Int32).toInt = 0 := (by decide); omega, by have zq0 : (0 : Int32).toInt = 0 := (by decide); omega, by have zq0 : (0 : Int32).toInt = 0 := (by decide); omega, by have zq0 : (0 : Int32).toInt = 0 := (by decide); omega, rfl, rfl, Wd, lv_sub hl [0, 1, 2] rfl⟩
  obtain ⟨j4_L_1, j4_L_2⟩ := u
  obtain ⟨i4_0, i4_1, i4_2, i4_3, rfl, rfl, Wd, hl⟩ := hi
  refine lv_iload_n C.1 C.2.1 dX9_lengthOfRight_4 rfl (lv_at hl 0 rfl) ?_
  refine lv_aload_n C.1 C.2.1 dX9_lengthOfRight_5 rfl (lv_at hl 2 rfl) ?_
  refine k_get C Wd KX9 0 1 rfl (by decide) fl_X9_20 rfl dX9_lengthOfRight_6 ?_
  refine k_get C Wd KX8 1 1 rfl (by decide) fl_X9_34 rfl dX9_lengthOfRight_9 ?_
  refine lv_icmp_ge (tgt := 58) C.1 C.2.1 dX9_lengthOfRight_12 (by decide) (fun c12 => ?_) (fun c12 => ?_)
  · have i12 : h_1_1.toInt ≤ j4_L_2.toInt := kz_le c12
    refine lv_iload_n C.1 C.2.1 dX9_lengthOfRight_58 rfl (lv_at hl 1 rfl) ?_
    exact k_zretP C hr hlk rfl trivial dX9_lengthOfRight_59
  · have i12 : j4_L_2.toInt < h_1_1.toInt := kz_nle c12
    refine lv_aload_n C.1 C.2.1 dX9_lengthOfRight_15 rfl (lv_at hl 2 rfl) ?_
    refine k_get C Wd KX9 0 1 rfl (by decide) fl_X9_20 rfl dX9_lengthOfRight_16 ?_
    refine lv_iload_n C.1 C.2.1 dX9_lengthOfRight_19 rfl (lv_at hl 0 rfl) ?_
    refine k_pi (k_runV (rest := []) C aks Wd cs_X9_37 (sX8_cell l D h_1 j4_L_2 h_1_0 h_1_1 n_h_1_0 a_h_1_0 f_h_1_0 _ (by omega) (by omega) (by omega) (by omega)) [1, 2] rfl (by decide) [0] rfl 1 8 rfl rfl rfl rfl rfl ⟨(Nat.le_of_ble_eq_true rfl), (Nat.le_of_ble_eq_true rfl)⟩ hl.1 rfl rfl (Nat.le_of_ble_eq_true rfl) ⟨(Nat.le_of_ble_eq_true rfl), (Nat.le_of_ble_eq_true rfl)⟩ dX9_lengthOfRight_20) (fun r20 w20 => ?_)
    refine k_cutA (fun (u : (Int32) × (Int32)) H locs ls => match u with | (j50_L_3, j50_S_0) => -1 ≤ j50_L_3.toInt ∧ j50_L_3.toInt ≤ 2 ∧ -5001 ≤ j50_S_0.toInt ∧ j50_S_0.toInt ≤ 5001 ∧ j50_S_0.toInt ≤ j50_L_3.toInt + 5001 ∧ H = s.heap ∧ locs = [] ∧ wX D [(a_h_1_0, .int), (a_h_4, .int), (a_h_3, .int)] s [(h, .inr (9, [.ref h_0, .ref h_1, .int h_2, .ref h_3, .ref h_4])), (h_1, .inr (8, [.ref h_1_0, .int h_1_1])), (h_1_0, .inl (a_h_1_0, n_h_1_0, .inl f_h_1_0)), (h_4, .inl (a_h_4, 3, .inl f_h_4)), (h_3, .inl (a_h_3, 3, .inl f_h_3))] H A s.heap locs ∧ lv_has ls 4 [(3, .int j50_L_3), (2, .int j4_L_2), (1, .int j4_L_1), (0, .ref h)]) (fun (u : (Int32) × (Int32)) ls => match u with | (j50_L_3, j50_S_0) => F0 m 50 ls [.int j50_S_0, .int j4_L_1]) (fun u H locs ls hi => ?_) (fun J50 => ?_)
    · obtain ⟨j50_L_3, j50_S_0⟩ := u
      obtain ⟨i50_0, i50_1, i50_2, i50_3, i50_4, rfl, rfl, Wd, hl⟩ := hi
      obtain ⟨v50, ev50⟩ : ∃ z : Int32, j4_L_1 + j50_S_0 = z := ⟨_, rfl⟩
      refine k_iadd (v := v50) C ev50 dX9_lengthOfRight_50 ?_
      refine lv_istore_n (lv' := [(1, .int v50), (3, .int j50_L_3), (2, .int j4_L_2), (0, .ref h)]) C.1 C.2.1 dX9_lengthOfRight_51 rfl hl (by decide) rfl (fun ls hl => ?_)
      obtain ⟨v52, ev52⟩ : ∃ z : Int32, j4_L_2 + 1 = z := ⟨_, rfl⟩
      have iv52 : v52.toInt = j4_L_2.toInt + 1 := kz_addc ev52 (by decide) (by have zr0 := kz_rng j4_L_2; omega) (by have zr0 := kz_rng j4_L_2; omega)
      refine lv_iinc (v := v52) (lv' := [(2, .int v52), (1, .int v50), (3, .int j50_L_3), (0, .ref h)]) C.1 C.2.1 dX9_lengthOfRight_52 hl (k := 2) rfl ev52 (by decide) rfl (fun ls hl => ?_)
      refine lv_goto (tgt := 4) C.1 C.2.1 dX9_lengthOfRight_55 (by decide) ?_
      exact ih4 (v50, v52) _ _ _ ⟨by omega, by omega, by omega, by omega, rfl, rfl, Wd, lv_sub hl [0, 1, 3] rfl⟩ (by show (1001 - v52.toInt).toNat < (1001 - j4_L_2.toInt).toNat; omega)
    refine k_pi (k_runS (rest := []) C aks Wd cs_X9_41 (sX9_letterOf l D r20 _ ) [] rfl (by decide) [] rfl rfl rfl ⟨(Nat.le_of_ble_eq_true rfl), (Nat.le_of_ble_eq_true rfl)⟩ hl.1 rfl rfl (Nat.le_of_ble_eq_true rfl) ⟨(Nat.le_of_ble_eq_true rfl), (Nat.le_of_ble_eq_true rfl)⟩ dX9_lengthOfRight_23) (fun r23 w23 => ?_)
    rcases w23 with rfl | ⟨g23_1_0, g23_1_1, g23_1_2, g23_1_3⟩
    · refine lv_istore_n (lv' := [(3, .int (-1)), (2, .int j4_L_2), (1, .int j4_L_1), (0, .ref h)]) C.1 C.2.1 dX9_lengthOfRight_26 rfl hl (by decide) rfl (fun ls hl => ?_)
      refine lv_iload_n C.1 C.2.1 dX9_lengthOfRight_27 rfl (lv_at hl 2 rfl) ?_
      refine lv_iload_n C.1 C.2.1 dX9_lengthOfRight_28 rfl (lv_at hl 0 rfl) ?_
      refine lv_iconst (v := (-1)) C.1 C.2.1 dX9_lengthOfRight_29 (by decide) ?_
      refine lv_icmp_ne (tgt := 37) C.1 C.2.1 dX9_lengthOfRight_30 (by decide) (fun c30 => absurd c30 (by decide)) (fun _ => ?_)
      refine lv_iconst (v := 1) C.1 C.2.1 dX9_lengthOfRight_33 (by decide) ?_
      refine lv_goto (tgt := 50) C.1 C.2.1 dX9_lengthOfRight_34 (by decide) ?_
      exact J50 ((-1), 1) _ _ _ ⟨by have zqm1 : (-1 : Int32).toInt = -1 := (by decide); omega, by have zqm1 : (-1 : Int32).toInt = -1 := (by decide); omega, by have zq1 : (1 : Int32).toInt = 1 := (by decide); omega, by have zq1 : (1 : Int32).toInt = 1 := (by decide); omega, by have zqm1 : (-1 : Int32).toInt = -1 := (by decide); have zq1 : (1 : Int32).toInt = 1 := (by decide); omega, rfl, rfl, Wd, lv_sub hl [0, 1, 2, 3] rfl⟩
    · have g23_1_0 : 0 ≤ r23.toInt := g23_1_0
      have g23_1_1 : r23.toInt ≤ 2 := g23_1_1
      have g23_1_2 : r23.toInt + 20 ≤ r20.toInt := g23_1_2
      have g23_1_3 : r20.toInt ≤ r23.toInt + 20 := g23_1_3
      refine lv_istore_n (lv' := [(3, .int r23), (2, .int j4_L_2), (1, .int j4_L_1), (0, .ref h)]) C.1 C.2.1 dX9_lengthOfRight_26 rfl hl (by decide) rfl (fun ls hl => ?_)
      refine lv_iload_n C.1 C.2.1 dX9_lengthOfRight_27 rfl (lv_at hl 2 rfl) ?_
      refine lv_iload_n C.1 C.2.1 dX9_lengthOfRight_28 rfl (lv_at hl 0 rfl) ?_
      refine lv_iconst (v := (-1)) C.1 C.2.1 dX9_lengthOfRight_29 (by decide) ?_
      refine lv_icmp_ne (tgt := 37) C.1 C.2.1 dX9_lengthOfRight_30 (by decide) (fun _ => ?_) (fun c30 => False.elim (by have i30 : r23.toInt = (-1) := kz_eq c30; omega))
      refine lv_aload_n C.1 C.2.1 dX9_lengthOfRight_37 rfl (lv_at hl 3 rfl) ?_
      refine k_get C Wd KX9 0 4 rfl (by decide) fl_X9_27 rfl dX9_lengthOfRight_38 ?_
      refine lv_iload_n C.1 C.2.1 dX9_lengthOfRight_41 rfl (lv_at hl 0 rfl) ?_
      obtain ⟨v42, ev42⟩ : ∃ z : Int32, f_h_4 r23.toNatClampNeg = z := ⟨_, rfl⟩
      refine k_iald (v := v42) C Wd 3 1 rfl rfl (vp_in_iff.mpr ⟨by omega, by omega⟩) ev42 dX9_lengthOfRight_42 ?_
      have iv42 : -1 ≤ v42.toInt ∧ v42.toInt ≤ 5000 := by rw [← ev42]; exact q_f_h_4 _
      refine lv_aload_n C.1 C.2.1 dX9_lengthOfRight_43 rfl (lv_at hl 3 rfl) ?_
      refine k_get C Wd KX9 0 3 rfl (by decide) fl_X9_23 rfl dX9_lengthOfRight_44 ?_
      refine lv_iload_n C.1 C.2.1 dX9_lengthOfRight_47 rfl (lv_at hl 0 rfl) ?_
      obtain ⟨v48, ev48⟩ : ∃ z : Int32, f_h_3 r23.toNatClampNeg = z := ⟨_, rfl⟩
      refine k_iald (v := v48) C Wd 4 2 rfl rfl (vp_in_iff.mpr ⟨by omega, by omega⟩) ev48 dX9_lengthOfRight_48 ?_
      have iv48 : -1 ≤ v48.toInt ∧ v48.toInt ≤ 5000 := by rw [← ev48]; exact q_f_h_3 _
      obtain ⟨v49, ev49⟩ : ∃ z : Int32, v42 - v48 = z := ⟨_, rfl⟩
      have iv49 : v49.toInt = v42.toInt - v48.toInt := kz_subv ev49 (by have zr0 := kz_rng v42; have zr1 := kz_rng v48; omega) (by have zr0 := kz_rng v42; have zr1 := kz_rng v48; omega)
      refine k_isub (v := v49) C ev49 dX9_lengthOfRight_49 ?_
      exact J50 (r23, v49) _ _ _ ⟨by omega, by omega, by omega, by omega, by omega, rfl, rfl, Wd, lv_sub hl [0, 1, 2, 3] rfl⟩
set_option maxHeartbeats 4000000 in
set_option maxRecDepth 100000 in
theorem sX9_rewrite (l : Launch) (D : va_G) (h : Nat) (h0 : Nat) (x1 : Int32) (h2 : Nat) (h_0 : Nat) (h_1 : Nat) (h_2 : Int32) (h_3 : Nat) (h_4 : Nat) (h0_0 : Nat) (h0_1 : Int32) (n_h0_0 : Nat) (a_h0_0 : ClassId) (f_h0_0 : Nat → Int32) (a_h_3 : ClassId) (f_h_3 : Nat → Int32) (a_h_4 : ClassId) (f_h_4 : Nat → Int32) (h_0_0 : Nat) (h_0_1 : Int32) (n_h_0_0 : Nat) (a_h_0_0 : ClassId) (f_h_0_0 : Nat → Int32) (h_1_0 : Nat) (h_1_1 : Int32) (n_h_1_0 : Nat) (a_h_1_0 : ClassId) (f_h_1_0 : Nat → Int32) (h2_0 : Nat) (h2_1 : Int32) (n_h2_0 : Nat) (a_h2_0 : ClassId) (f_h2_0 : Nat → Int32) (sz : Nat) (k_x1_lo : 0 ≤ x1.toInt) (k_x1_hi : x1.toInt ≤ 1000) (k_h0_1_lo : 0 ≤ h0_1.toInt) (k_n_h0_0 : n_h0_0 ≤ 1000) (k_p_h0_0 : 1 ≤ n_h0_0) (k_h0_1_hi : h0_1.toInt ≤ (n_h0_0 : Int)) (k_h_0_1_lo : 0 ≤ h_0_1.toInt) (k_n_h_0_0 : n_h_0_0 ≤ 1000) (k_p_h_0_0 : 1 ≤ n_h_0_0) (k_h_0_1_hi : h_0_1.toInt ≤ (n_h_0_0 : Int)) (k_h_1_1_lo : 0 ≤ h_1_1.toInt) (k_n_h_1_0 : n_h_1_0 ≤ 1000) (k_p_h_1_0 : 1 ≤ n_h_1_0) (k_h_1_1_hi : h_1_1.toInt ≤ (n_h_1_0 : Int)) (k_h2_1_lo : 0 ≤ h2_1.toInt) (k_n_h2_0 : n_h2_0 ≤ 1000) (k_p_h2_0 : 1 ≤ n_h2_0) (k_h2_1_hi : h2_1.toInt ≤ (n_h2_0 : Int)) (q_f_h_3 : ∀ j : Nat, -1 ≤ (f_h_3 j).toInt ∧ (f_h_3 j).toInt ≤ 5000) (q_f_h_4 : ∀ j : Nat, -1 ≤ (f_h_4 j).toInt ∧ (f_h_4 j).toInt ≤ 5000) : Met l yX9_rewrite (Cond.code yX9_rewrite cX9_rewrite 7 (some .boolean) :: gG) { frames := 4, cells := 0, slots := 0, locals := 139 } (cPre D [(a_h0_0, .int), (a_h_3, .int), (a_h_4, .int), (a_h_0_0, .int), (a_h_1_0, .int), (a_h2_0, .int)] [(h, .inr (9, [.ref h_0, .ref h_1, .int h_2, .ref h_3, .ref h_4])), (h0, .inr (8, [.ref h0_0, .int h0_1])), (h0_0, .inl (a_h0_0, n_h0_0, .inl f_h0_0)), (h_3, .inl (a_h_3, 3, .inl f_h_3)), (h_4, .inl (a_h_4, 3, .inl f_h_4)), (h_0, .inr (8, [.ref h_0_0, .int h_0_1])), (h_0_0, .inl (a_h_0_0, n_h_0_0, .inl f_h_0_0)), (h_1, .inr (8, [.ref h_1_0, .int h_1_1])), (h_1_0, .inl (a_h_1_0, n_h_1_0, .inl f_h_1_0)), (h2, .inr (8, [.ref h2_0, .int h2_1])), (h2_0, .inl (a_h2_0, n_h2_0, .inl f_h2_0))] sz [.ref h, .ref h0, .int x1, .ref h2]) (va_Qi (fun (r : Int32) (u : (Nat → Int32) × (Nat → Int32) × (Int32) × (Nat → Int32)) => match u with | (jX_C_h_3, jX_C_h_4, jX_F_h2_1, jX_C_h2_0) => 0 ≤ jX_F_h2_1.toInt ∧ 0 ≤ r.toInt ∧ r.toInt ≤ 1 ∧ jX_F_h2_1.toInt ≤ 1000 ∧ jX_F_h2_1.toInt ≤ (n_h2_0 : Int) ∧ (∀ j : Nat, -1 ≤ (jX_C_h_3 j).toInt ∧ (jX_C_h_3 j).toInt ≤ 5000) ∧ (∀ j : Nat, -1 ≤ (jX_C_h_4 j).toInt ∧ (jX_C_h_4 j).toInt ≤ 5000)) (fun u t => cB D (va_A [(h, .inr (9, [.ref h_0, .ref h_1, .int h_2, .ref h_3, .ref h_4])), (h0, .inr (8, [.ref h0_0, .int h0_1])), (h0_0, .inl (a_h0_0, n_h0_0, .inl f_h0_0)), (h_3, .inl (a_h_3, 3, .inl f_h_3)), (h_4, .inl (a_h_4, 3, .inl f_h_4)), (h_0, .inr (8, [.ref h_0_0, .int h_0_1])), (h_0_0, .inl (a_h_0_0, n_h_0_0, .inl f_h_0_0)), (h_1, .inr (8, [.ref h_1_0, .int h_1_1])), (h_1_0, .inl (a_h_1_0, n_h_1_0, .inl f_h_1_0)), (h2, .inr (8, [.ref h2_0, .int h2_1])), (h2_0, .inl (a_h2_0, n_h2_0, .inl f_h2_0))] sz) ((fun (_ : (Nat → Int32) × (Nat → Int32) × (Int32) × (Nat → Int32)) => ([] : List (ClassId × FieldType))) u) ((fun (u : (Nat → Int32) × (Nat → Int32) × (Int32) × (Nat → Int32)) => match u with | (jX_C_h_3, jX_C_h_4, jX_F_h2_1, jX_C_h2_0) => ([(h, .inr (9, [.ref h_0, .ref h_1, .int h_2, .ref h_3, .ref h_4])), (h0, .inr (8, [.ref h0_0, .int h0_1])), (h0_0, .inl (a_h0_0, n_h0_0, .inl f_h0_0)), (h_3, .inl (a_h_3, 3, .inl jX_C_h_3)), (h_4, .inl (a_h_4, 3, .inl jX_C_h_4)), (h_0, .inr (8, [.ref h_0_0, .int h_0_1])), (h_0_0, .inl (a_h_0_0, n_h_0_0, .inl f_h_0_0)), (h_1, .inr (8, [.ref h_1_0, .int h_1_1])), (h_1_0, .inl (a_h_1_0, n_h_1_0, .inl f_h_1_0)), (h2, .inr (8, [.ref h2_0, .int jX_F_h2_1])), (h2_0, .inl (a_h2_0, n_h2_0, .inl jX_C_h2_0))] : va_W)) u) t) (va_A [(h, .inr (9, [.ref h_0, .ref h_1, .int h_2, .ref h_3, .ref h_4])), (h0, .inr (8, [.ref h0_0, .int h0_1])), (h0_0, .inl (a_h0_0, n_h0_0, .inl f_h0_0)), (h_3, .inl (a_h_3, 3, .inl f_h_3)), (h_4, .inl (a_h_4, 3, .inl f_h_4)), (h_0, .inr (8, [.ref h_0_0, .int h_0_1])), (h_0_0, .inl (a_h_0_0, n_h_0_0, .inl f_h_0_0)), (h_1, .inr (8, [.ref h_1_0, .int h_1_1])), (h_1_0, .inl (a_h_1_0, n_h_1_0, .inl f_h_1_0)), (h2, .inr (8, [.ref h2_0, .int h2_1])), (h2_0, .inl (a_h2_0, n_h2_0, .inl f_h2_0))] sz)) 0 0 (va_A [(h, .inr (9, [.ref h_0, .ref h_1, .int h_2, .ref h_3, .ref h_4])), (h0, .inr (8, [.ref h0_0, .int h0_1])), (h0_0, .inl (a_h0_0, n_h0_0, .inl f_h0_0)), (h_3, .inl (a_h_3, 3, .inl f_h_3)), (h_4, .inl (a_h_4, 3, .inl f_h_4)), (h_0, .inr (8, [.ref h_0_0, .int h_0_1])), (h_0_0, .inl (a_h_0_0, n_h_0_0, .inl f_h_0_0)), (h_1, .inr (8, [.ref h_1_0, .int h_1_1])), (h_1_0, .inl (a_h_1_0, n_h_1_0, .inl f_h_1_0)), (h2, .inr (8, [.ref h2_0, .int h2_1])), (h2_0, .inl (a_h2_0, n_h2_0, .inl f_h2_0))] sz) := by
  refine Met.ofW (cc := cX9_rewrite) (maxL := 7) (ret := (some .boolean)) (by decide) rfl ?_
  intro p e s m args below meth c s₁ B hml hv
  obtain ⟨rfl, aks, rfl, Wd⟩ := k_enter hv
  have C : CallFix p m c cX9_rewrite 7 s _ gG RX9 := ⟨B.exec, B.bytes, hml, findClass_of_methodNamed B.named, fun w h => atoms_spec (ws := Cond.code yX9_rewrite cX9_rewrite 7 (some .boolean) :: gG) B.pre w (List.mem_cons_of_mem _ h)⟩
  have hr := B.returns
  have hlk := B.notSynchronized
  generalize va_A [(h, .inr (9, [.ref h_0, .ref h_1, .int h_2, .ref h_3, .ref h_4])), (h0, .inr (8, [.ref h0_0, .int h0_1])), (h0_0, .inl (a_h0_0, n_h0_0, .inl f_h0_0)), (h_3, .inl (a_h_3, 3, .inl f_h_3)), (h_4, .inl (a_h_4, 3, .inl f_h_4)), (h_0, .inr (8, [.ref h_0_0, .int h_0_1])), (h_0_0, .inl (a_h_0_0, n_h_0_0, .inl f_h_0_0)), (h_1, .inr (8, [.ref h_1_0, .int h_1_1])), (h_1_0, .inl (a_h_1_0, n_h_1_0, .inl f_h_1_0)), (h2, .inr (8, [.ref h2_0, .int h2_1])), (h2_0, .inl (a_h2_0, n_h2_0, .inl f_h2_0))] s.heap.size = A at Wd ⊢
  refine k_locals (Nat.le_of_ble_eq_true rfl) [(0, .ref h), (1, .ref h0), (2, .int x1), (3, .ref h2)] rfl (fun ls hl => ?_)
  refine lv_aload_n C.1 C.2.1 dX9_rewrite_0 rfl (lv_at hl 0 rfl) ?_
  refine lv_aload_n C.1 C.2.1 dX9_rewrite_1 rfl (lv_at hl 1 rfl) ?_
  refine lv_iload_n C.1 C.2.1 dX9_rewrite_2 rfl (lv_at hl 2 rfl) ?_
  refine k_ci Wd [1, 2, 0, 3, 4, 5, 6] [7, 8, 9, 10] rfl (wr := [(h_1, .inr (8, [.ref h_1_0, .int h_1_1])), (h_1_0, .inl (a_h_1_0, n_h_1_0, .inl f_h_1_0)), (h2, .inr (8, [.ref h2_0, .int h2_1])), (h2_0, .inl (a_h2_0, n_h2_0, .inl f_h2_0))]) rfl (by decide) (by decide) (cells' := 0) (slots' := 0) (by decide) (by decide) (k_runV (rest := []) C aks Wd cs_X9_44 (sX9_matches l D h h0 x1 h0_0 h0_1 n_h0_0 a_h0_0 f_h0_0 h_0 h_1 h_2 h_3 h_4 a_h_3 f_h_3 a_h_4 f_h_4 h_0_0 h_0_1 n_h_0_0 a_h_0_0 f_h_0_0 _ (by omega) (by omega) (by omega) (by omega) (by omega) (by omega) (by omega) (by omega) (by omega) (by omega) q_f_h_3 q_f_h_4) [1, 2, 0, 3, 4, 5, 6] rfl (by decide) [0, 1, 2, 3] rfl 0 9 rfl rfl rfl rfl rfl ⟨(Nat.le_of_ble_eq_true rfl), (Nat.le_of_ble_eq_true rfl)⟩ hl.1 rfl rfl (Nat.le_of_ble_eq_true rfl) ⟨(Nat.le_of_ble_eq_true rfl), (Nat.le_of_ble_eq_true rfl)⟩ dX9_rewrite_3) (fun r3 u H locs w3 Wd => ?_)
  obtain ⟨s3_0, s3_1⟩ := u
  have Wd : wX D [(a_h0_0, .int), (a_h_3, .int), (a_h_4, .int), (a_h_0_0, .int), (a_h_1_0, .int), (a_h2_0, .int)] s [(h, .inr (9, [.ref h_0, .ref h_1, .int h_2, .ref h_3, .ref h_4])), (h0, .inr (8, [.ref h0_0, .int h0_1])), (h0_0, .inl (a_h0_0, n_h0_0, .inl f_h0_0)), (h_3, .inl (a_h_3, 3, .inl s3_0)), (h_4, .inl (a_h_4, 3, .inl s3_1)), (h_0, .inr (8, [.ref h_0_0, .int h_0_1])), (h_0_0, .inl (a_h_0_0, n_h_0_0, .inl f_h_0_0)), (h_1, .inr (8, [.ref h_1_0, .int h_1_1])), (h_1_0, .inl (a_h_1_0, n_h_1_0, .inl f_h_1_0)), (h2, .inr (8, [.ref h2_0, .int h2_1])), (h2_0, .inl (a_h2_0, n_h2_0, .inl f_h2_0))] _ A s.heap _ := k_sub Wd [6, 4, 5, 7, 8, 9, 10, 0, 1, 2, 3] rfl (by decide) [0, 1, 2, 3, 4, 5] rfl
  obtain ⟨g3_0, g3_1, q_s3_0, q_s3_1⟩ := w3
  have g3_0 : 0 ≤ r3.toInt := g3_0
  have g3_1 : r3.toInt ≤ 1 := g3_1
  refine lv_if_ne (tgt := 11) C.1 C.2.1 dX9_rewrite_6 (by decide) (fun c6 => ?_) (fun c6 => ?_)
  · have i6 : ¬ r3.toInt = 0 := kz_ne c6
    refine lv_aload_n C.1 C.2.1 dX9_rewrite_11 rfl (lv_at hl 1 rfl) ?_
    refine lv_iload_n C.1 C.2.1 dX9_rewrite_12 rfl (lv_at hl 2 rfl) ?_
    refine k_pi (k_runV (rest := []) C aks Wd cs_X9_52 (sX8_expressionEnd l D h0 x1 h0_0 h0_1 n_h0_0 a_h0_0 f_h0_0 _ (by omega) (by omega) (by omega) (by omega)) [1, 2] rfl (by decide) [0] rfl 1 8 rfl rfl rfl rfl rfl ⟨(Nat.le_of_ble_eq_true rfl), (Nat.le_of_ble_eq_true rfl)⟩ hl.1 rfl rfl (Nat.le_of_ble_eq_true rfl) ⟨(Nat.le_of_ble_eq_true rfl), (Nat.le_of_ble_eq_true rfl)⟩ dX9_rewrite_13) (fun r13 w13 => ?_)
    obtain ⟨g13_0, g13_1, gx13_0⟩ := w13
    have g13_0 : 0 ≤ r13.toInt := g13_0
    have g13_1 : x1.toInt ≤ r13.toInt := g13_1
    have gx13_0 : r13.toInt ≤ x1.toInt ∨ r13.toInt ≤ h0_1.toInt ∨ r13.toInt ≤ 0 := gx13_0
    refine lv_istore (lv' := [(4, .int r13), (0, .ref h), (1, .ref h0), (2, .int x1), (3, .ref h2)]) C.1 C.2.1 dX9_rewrite_16 hl (by decide) rfl (fun ls hl => ?_)
    refine lv_aload_n C.1 C.2.1 dX9_rewrite_18 rfl (lv_at hl 2 rfl) ?_
    refine k_pi (k_runV (rest := []) C aks Wd cs_X9_63 (sX8_expressions l D h0 h0_0 h0_1 n_h0_0 a_h0_0 f_h0_0 _ (by omega) (by omega) (by omega) (by omega)) [1, 2] rfl (by decide) [0] rfl 1 8 rfl rfl rfl rfl rfl ⟨(Nat.le_of_ble_eq_true rfl), (Nat.le_of_ble_eq_true rfl)⟩ hl.1 rfl rfl (Nat.le_of_ble_eq_true rfl) ⟨(Nat.le_of_ble_eq_true rfl), (Nat.le_of_ble_eq_true rfl)⟩ dX9_rewrite_19) (fun r19 w19 => ?_)
    obtain ⟨g19_0, g19_1, g19_2, g19_3⟩ := w19
    have g19_0 : 0 ≤ r19.toInt := g19_0
    have g19_1 : r19.toInt ≤ 1000 := g19_1
    have g19_2 : r19.toInt ≤ (n_h0_0 : Int) := g19_2
    have g19_3 : r19.toInt ≤ h0_1.toInt := g19_3
    refine lv_iload C.1 C.2.1 dX9_rewrite_22 (lv_at hl 0 rfl) ?_
    refine lv_iload_n C.1 C.2.1 dX9_rewrite_24 rfl (lv_at hl 3 rfl) ?_
    obtain ⟨v25, ev25⟩ : ∃ z : Int32, r13 - x1 = z := ⟨_, rfl⟩
    have iv25 : v25.toInt = r13.toInt - x1.toInt := kz_subv ev25 (by have zr0 := kz_rng r13; have zr1 := kz_rng x1; omega) (by have zr0 := kz_rng r13; have zr1 := kz_rng x1; omega)
    refine k_isub (v := v25) C ev25 dX9_rewrite_25 ?_
    obtain ⟨v26, ev26⟩ : ∃ z : Int32, r19 - v25 = z := ⟨_, rfl⟩
    have iv26 : v26.toInt = r19.toInt - v25.toInt := kz_subv ev26 (by have zr0 := kz_rng r19; have zr1 := kz_rng v25; omega) (by have zr0 := kz_rng r19; have zr1 := kz_rng v25; omega)
    refine k_isub (v := v26) C ev26 dX9_rewrite_26 ?_
    refine lv_aload_n C.1 C.2.1 dX9_rewrite_27 rfl (lv_at hl 1 rfl) ?_
    refine k_pi (k_runV (rest := [.int v26]) C aks Wd cs_X9_67 (sX9_lengthOfRight l D h h_0 h_1 h_2 h_3 h_4 h_1_0 h_1_1 n_h_1_0 a_h_1_0 f_h_1_0 a_h_4 s3_1 a_h_3 s3_0 _ (by omega) (by omega) (by omega) (by omega) q_s3_1 q_s3_0) [0, 7, 8, 4, 3] rfl (by decide) [4, 2, 1] rfl 0 9 rfl rfl rfl rfl rfl ⟨(Nat.le_of_ble_eq_true rfl), (Nat.le_of_ble_eq_true rfl)⟩ hl.1 rfl rfl (Nat.le_of_ble_eq_true rfl) ⟨(Nat.le_of_ble_eq_true rfl), (Nat.le_of_ble_eq_true rfl)⟩ dX9_rewrite_28) (fun r28 w28 => ?_)
    obtain ⟨v31, ev31⟩ : ∃ z : Int32, v26 + r28 = z := ⟨_, rfl⟩
    refine k_iadd (v := v31) C ev31 dX9_rewrite_31 ?_
    refine lv_sipush (v := 300) C.1 C.2.1 dX9_rewrite_32 (by decide) ?_
    refine lv_icmp_le (tgt := 40) C.1 C.2.1 dX9_rewrite_35 (by decide) (fun c35 => ?_) (fun c35 => ?_)
    · have i35 : v31.toInt ≤ 300 := kz_le c35
      refine lv_aload_n C.1 C.2.1 dX9_rewrite_40 rfl (lv_at hl 4 rfl) ?_
      refine lv_iconst (v := 0) C.1 C.2.1 dX9_rewrite_41 (by decide) ?_
      refine k_put C Wd KX8 9 1 [(h, .inr (9, [.ref h_0, .ref h_1, .int h_2, .ref h_3, .ref h_4])), (h0, .inr (8, [.ref h0_0, .int h0_1])), (h0_0, .inl (a_h0_0, n_h0_0, .inl f_h0_0)), (h_3, .inl (a_h_3, 3, .inl s3_0)), (h_4, .inl (a_h_4, 3, .inl s3_1)), (h_0, .inr (8, [.ref h_0_0, .int h_0_1])), (h_0_0, .inl (a_h_0_0, n_h_0_0, .inl f_h_0_0)), (h_1, .inr (8, [.ref h_1_0, .int h_1_1])), (h_1_0, .inl (a_h_1_0, n_h_1_0, .inl f_h_1_0)), (h2, .inr (8, [.ref h2_0, .int 0])), (h2_0, .inl (a_h2_0, n_h2_0, .inl f_h2_0))] rfl (by decide) fl_X9_34 rfl rfl rfl (Nat.le_of_ble_eq_true rfl) rfl dX9_rewrite_42 (fun H locs Wd => ?_)
      refine lv_aload_n C.1 C.2.1 dX9_rewrite_45 rfl (lv_at hl 4 rfl) ?_
      refine lv_aload_n C.1 C.2.1 dX9_rewrite_46 rfl (lv_at hl 2 rfl) ?_
      refine lv_iconst (v := 0) C.1 C.2.1 dX9_rewrite_47 (by decide) ?_
      refine lv_iload_n C.1 C.2.1 dX9_rewrite_48 rfl (lv_at hl 3 rfl) ?_
      refine k_cv Wd [1, 2, 9, 10] [0, 3, 4, 5, 6, 7, 8] rfl (wr := [(h, .inr (9, [.ref h_0, .ref h_1, .int h_2, .ref h_3, .ref h_4])), (h_3, .inl (a_h_3, 3, .inl s3_0)), (h_4, .inl (a_h_4, 3, .inl s3_1)), (h_0, .inr (8, [.ref h_0_0, .int h_0_1])), (h_0_0, .inl (a_h_0_0, n_h_0_0, .inl f_h_0_0)), (h_1, .inr (8, [.ref h_1_0, .int h_1_1])), (h_1_0, .inl (a_h_1_0, n_h_1_0, .inl f_h_1_0))]) rfl (by decide) (by decide) (cells' := 0) (slots' := 0) (by decide) (by decide) (k_runV (rest := []) C aks Wd cs_X9_70 (sX8_addPart l D h2 h0 0 x1 h0_0 h0_1 n_h0_0 a_h0_0 f_h0_0 h2_0 0 n_h2_0 a_h2_0 f_h2_0 _ (by have zq0 : (0 : Int32).toInt = 0 := (by decide); omega) (by have zq0 : (0 : Int32).toInt = 0 := (by decide); omega) (by omega) (by omega) (by omega) (by omega) (by omega) (by omega) (by have zq0 : (0 : Int32).toInt = 0 := (by decide); omega) (by omega) (by omega) (by have zq0 : (0 : Int32).toInt = 0 := (by decide); omega)) [1, 2, 9, 10] rfl (by decide) [0, 5] rfl 9 8 rfl rfl rfl rfl rfl ⟨(Nat.le_of_ble_eq_true rfl), (Nat.le_of_ble_eq_true rfl)⟩ hl.1 rfl rfl (Nat.le_of_ble_eq_true rfl) ⟨(Nat.le_of_ble_eq_true rfl), (Nat.le_of_ble_eq_true rfl)⟩ dX9_rewrite_49) (fun u H locs w49 Wd => ?_)
      obtain ⟨s49_0, s49_1⟩ := u
      have Wd : wX D [(a_h0_0, .int), (a_h_3, .int), (a_h_4, .int), (a_h_0_0, .int), (a_h_1_0, .int), (a_h2_0, .int)] s [(h, .inr (9, [.ref h_0, .ref h_1, .int h_2, .ref h_3, .ref h_4])), (h0, .inr (8, [.ref h0_0, .int h0_1])), (h0_0, .inl (a_h0_0, n_h0_0, .inl f_h0_0)), (h_3, .inl (a_h_3, 3, .inl s3_0)), (h_4, .inl (a_h_4, 3, .inl s3_1)), (h_0, .inr (8, [.ref h_0_0, .int h_0_1])), (h_0_0, .inl (a_h_0_0, n_h_0_0, .inl f_h_0_0)), (h_1, .inr (8, [.ref h_1_0, .int h_1_1])), (h_1_0, .inl (a_h_1_0, n_h_1_0, .inl f_h_1_0)), (h2, .inr (8, [.ref h2_0, .int s49_0])), (h2_0, .inl (a_h2_0, n_h2_0, .inl s49_1))] _ A s.heap _ := k_sub Wd [0, 7, 8, 1, 2, 3, 4, 5, 6, 9, 10] rfl (by decide) [0, 1, 2, 3, 4, 5] rfl
      obtain ⟨g49_0, g49_1, g49_2, g49_3⟩ := w49
      have g49_0 : 0 ≤ s49_0.toInt := g49_0
      have g49_1 : s49_0.toInt ≤ 1000 := g49_1
      have g49_2 : 0 ≤ s49_0.toInt := g49_2
      have g49_3 : s49_0.toInt ≤ (n_h2_0 : Int) := g49_3
      refine lv_iconst (v := 0) C.1 C.2.1 dX9_rewrite_52 (by decide) ?_
      refine lv_istore (lv' := [(5, .int 0), (4, .int r13), (0, .ref h), (1, .ref h0), (2, .int x1), (3, .ref h2)]) C.1 C.2.1 dX9_rewrite_53 hl (by decide) rfl (fun ls hl => ?_)
      refine k_loopA (fun (u : (Nat → Int32) × (Int32) × (Int32)) H locs ls => match u with | (j55_C_h2_0, j55_F_h2_1, j55_L_5) => 0 ≤ j55_F_h2_1.toInt ∧ 0 ≤ j55_L_5.toInt ∧ j55_F_h2_1.toInt ≤ 1000 ∧ j55_L_5.toInt ≤ 1000 ∧ j55_F_h2_1.toInt ≤ (n_h2_0 : Int) ∧ j55_L_5.toInt ≤ (n_h_1_0 : Int) ∧ j55_L_5.toInt ≤ h_1_1.toInt ∧ s49_0.toInt ≤ j55_F_h2_1.toInt ∧ wX D [(a_h0_0, .int), (a_h_3, .int), (a_h_4, .int), (a_h_0_0, .int), (a_h_1_0, .int), (a_h2_0, .int)] s [(h, .inr (9, [.ref h_0, .ref h_1, .int h_2, .ref h_3, .ref h_4])), (h0, .inr (8, [.ref h0_0, .int h0_1])), (h0_0, .inl (a_h0_0, n_h0_0, .inl f_h0_0)), (h_3, .inl (a_h_3, 3, .inl s3_0)), (h_4, .inl (a_h_4, 3, .inl s3_1)), (h_0, .inr (8, [.ref h_0_0, .int h_0_1])), (h_0_0, .inl (a_h_0_0, n_h_0_0, .inl f_h_0_0)), (h_1, .inr (8, [.ref h_1_0, .int h_1_1])), (h_1_0, .inl (a_h_1_0, n_h_1_0, .inl f_h_1_0)), (h2, .inr (8, [.ref h2_0, .int j55_F_h2_1])), (h2_0, .inl (a_h2_0, n_h2_0, .inl j55_C_h2_0))] H A s.heap locs ∧ lv_has ls 7 [(5, .int j55_L_5), (4, .int r13), (0, .ref h), (1, .ref h0), (2, .int x1), (3, .ref h2)]) (fun (u : (Nat → Int32) × (Int32) × (Int32)) ls => match u with | (j55_C_h2_0, j55_F_h2_1, j55_L_5) => F0 m 55 ls []) (fun (u : (Nat → Int32) × (Int32) × (Int32)) => match u with | (j55_C_h2_0, j55_F_h2_1, j55_L_5) => (1001 - j55_L_5.toInt).toNat) (fun u H locs ls hi ih55 => ?_) (s49_1, s49_0, 0) _ _ _ ⟨by omega, by have zq0 : (0 : Int32).toInt = 0 := (by decide); omega, by omega, by have zq0 : (0 : Int32).toInt = 0 := (by decide); omega, by omega, by have zq0 : (0 : Int32).toInt = 0 := (by decide); omega, by have zq0 : (0 : Int32).toInt = 0 := (by decide); omega, by omega, Wd, lv_sub hl [0, 1, 2, 3, 4, 5] rfl⟩
      obtain ⟨j55_C_h2_0, j55_F_h2_1, j55_L_5⟩ := u
      obtain ⟨i55_0, i55_1, i55_2, i55_3, i55_4, i55_5, i55_6, i55_7, Wd, hl⟩ := hi
      refine lv_iload C.1 C.2.1 dX9_rewrite_55 (lv_at hl 0 rfl) ?_
      refine lv_aload_n C.1 C.2.1 dX9_rewrite_57 rfl (lv_at hl 2 rfl) ?_
      refine k_get C Wd KX9 0 1 rfl (by decide) fl_X9_20 rfl dX9_rewrite_58 ?_
      refine k_get C Wd KX8 7 1 rfl (by decide) fl_X9_34 rfl dX9_rewrite_61 ?_
      refine lv_icmp_ge (tgt := 128) C.1 C.2.1 dX9_rewrite_64 (by decide) (fun c64 => ?_) (fun c64 => ?_)
      · have i64 : h_1_1.toInt ≤ j55_L_5.toInt := kz_le c64
        refine lv_aload_n C.1 C.2.1 dX9_rewrite_128 rfl (lv_at hl 5 rfl) ?_
        refine lv_aload_n C.1 C.2.1 dX9_rewrite_129 rfl (lv_at hl 3 rfl) ?_
        refine lv_iload C.1 C.2.1 dX9_rewrite_130 (lv_at hl 1 rfl) ?_
        refine lv_aload_n C.1 C.2.1 dX9_rewrite_132 rfl (lv_at hl 3 rfl) ?_
        refine k_get C Wd KX8 1 1 rfl (by decide) fl_X9_34 rfl dX9_rewrite_133 ?_
        refine k_cv Wd [1, 2, 9, 10] [0, 3, 4, 5, 6, 7, 8] rfl (wr := [(h, .inr (9, [.ref h_0, .ref h_1, .int h_2, .ref h_3, .ref h_4])), (h_3, .inl (a_h_3, 3, .inl s3_0)), (h_4, .inl (a_h_4, 3, .inl s3_1)), (h_0, .inr (8, [.ref h_0_0, .int h_0_1])), (h_0_0, .inl (a_h_0_0, n_h_0_0, .inl f_h_0_0)), (h_1, .inr (8, [.ref h_1_0, .int h_1_1])), (h_1_0, .inl (a_h_1_0, n_h_1_0, .inl f_h_1_0))]) rfl (by decide) (by decide) (cells' := 0) (slots' := 0) (by decide) (by decide) (k_runV (rest := []) C aks Wd cs_X9_70 (sX8_addPart l D h2 h0 r13 h0_1 h0_0 h0_1 n_h0_0 a_h0_0 f_h0_0 h2_0 j55_F_h2_1 n_h2_0 a_h2_0 j55_C_h2_0 _ (by omega) (by omega) (by omega) (by omega) (by omega) (by omega) (by omega) (by omega) (by omega) (by omega) (by omega) (by omega)) [1, 2, 9, 10] rfl (by decide) [0, 5] rfl 9 8 rfl rfl rfl rfl rfl ⟨(Nat.le_of_ble_eq_true rfl), (Nat.le_of_ble_eq_true rfl)⟩ hl.1 rfl rfl (Nat.le_of_ble_eq_true rfl) ⟨(Nat.le_of_ble_eq_true rfl), (Nat.le_of_ble_eq_true rfl)⟩ dX9_rewrite_136) (fun u H locs w136 Wd => ?_)
        obtain ⟨s136_0, s136_1⟩ := u
        have Wd : wX D [(a_h0_0, .int), (a_h_3, .int), (a_h_4, .int), (a_h_0_0, .int), (a_h_1_0, .int), (a_h2_0, .int)] s [(h, .inr (9, [.ref h_0, .ref h_1, .int h_2, .ref h_3, .ref h_4])), (h0, .inr (8, [.ref h0_0, .int h0_1])), (h0_0, .inl (a_h0_0, n_h0_0, .inl f_h0_0)), (h_3, .inl (a_h_3, 3, .inl s3_0)), (h_4, .inl (a_h_4, 3, .inl s3_1)), (h_0, .inr (8, [.ref h_0_0, .int h_0_1])), (h_0_0, .inl (a_h_0_0, n_h_0_0, .inl f_h_0_0)), (h_1, .inr (8, [.ref h_1_0, .int h_1_1])), (h_1_0, .inl (a_h_1_0, n_h_1_0, .inl f_h_1_0)), (h2, .inr (8, [.ref h2_0, .int s136_0])), (h2_0, .inl (a_h2_0, n_h2_0, .inl s136_1))] _ A s.heap _ := k_sub Wd [0, 7, 8, 1, 2, 3, 4, 5, 6, 9, 10] rfl (by decide) [0, 1, 2, 3, 4, 5] rfl
        obtain ⟨g136_0, g136_1, g136_2, g136_3⟩ := w136
        have g136_0 : 0 ≤ s136_0.toInt := g136_0
        have g136_1 : s136_0.toInt ≤ 1000 := g136_1
        have g136_2 : j55_F_h2_1.toInt ≤ s136_0.toInt := g136_2
        have g136_3 : s136_0.toInt ≤ (n_h2_0 : Int) := g136_3
        refine lv_iconst (v := 1) C.1 C.2.1 dX9_rewrite_139 (by decide) ?_
        exact k_zret C hr hlk rfl Wd (s3_0, s3_1, s136_0, s136_1) (by exact ⟨by omega, by have zq1 : (1 : Int32).toInt = 1 := (by decide); omega, by have zq1 : (1 : Int32).toInt = 1 := (by decide); omega, by omega, by omega, q_s3_0, q_s3_1⟩) [0, 1, 2, 3, 4, 5, 6, 7, 8, 9, 10] rfl (by decide) [] rfl (by decide) (by decide) dX9_rewrite_140
      · have i64 : j55_L_5.toInt < h_1_1.toInt := kz_nle c64
        refine lv_aload_n C.1 C.2.1 dX9_rewrite_67 rfl (lv_at hl 2 rfl) ?_
        refine k_get C Wd KX9 0 1 rfl (by decide) fl_X9_20 rfl dX9_rewrite_68 ?_
        refine lv_iload C.1 C.2.1 dX9_rewrite_71 (lv_at hl 0 rfl) ?_
        refine k_pi (k_runV (rest := []) C aks Wd cs_X9_37 (sX8_cell l D h_1 j55_L_5 h_1_0 h_1_1 n_h_1_0 a_h_1_0 f_h_1_0 _ (by omega) (by omega) (by omega) (by omega)) [7, 8] rfl (by decide) [4] rfl 7 8 rfl rfl rfl rfl rfl ⟨(Nat.le_of_ble_eq_true rfl), (Nat.le_of_ble_eq_true rfl)⟩ hl.1 rfl rfl (Nat.le_of_ble_eq_true rfl) ⟨(Nat.le_of_ble_eq_true rfl), (Nat.le_of_ble_eq_true rfl)⟩ dX9_rewrite_73) (fun r73 w73 => ?_)
        refine k_cutA (fun (u : (Int32) × (Int32) × (Nat → Int32)) H locs ls => match u with | (j122_L_6, j122_F_h2_1, j122_C_h2_0) => 0 ≤ j122_F_h2_1.toInt ∧ -1 ≤ j122_L_6.toInt ∧ j122_L_6.toInt ≤ 2 ∧ j122_F_h2_1.toInt ≤ 1000 ∧ j122_F_h2_1.toInt ≤ (n_h2_0 : Int) ∧ j55_F_h2_1.toInt ≤ j122_F_h2_1.toInt ∧ wX D [(a_h0_0, .int), (a_h_3, .int), (a_h_4, .int), (a_h_0_0, .int), (a_h_1_0, .int), (a_h2_0, .int)] s [(h, .inr (9, [.ref h_0, .ref h_1, .int h_2, .ref h_3, .ref h_4])), (h0, .inr (8, [.ref h0_0, .int h0_1])), (h0_0, .inl (a_h0_0, n_h0_0, .inl f_h0_0)), (h_3, .inl (a_h_3, 3, .inl s3_0)), (h_4, .inl (a_h_4, 3, .inl s3_1)), (h_0, .inr (8, [.ref h_0_0, .int h_0_1])), (h_0_0, .inl (a_h_0_0, n_h_0_0, .inl f_h_0_0)), (h_1, .inr (8, [.ref h_1_0, .int h_1_1])), (h_1_0, .inl (a_h_1_0, n_h_1_0, .inl f_h_1_0)), (h2, .inr (8, [.ref h2_0, .int j122_F_h2_1])), (h2_0, .inl (a_h2_0, n_h2_0, .inl j122_C_h2_0))] H A s.heap locs ∧ lv_has ls 7 [(6, .int j122_L_6), (5, .int j55_L_5), (4, .int r13), (0, .ref h), (1, .ref h0), (2, .int x1), (3, .ref h2)]) (fun (u : (Int32) × (Int32) × (Nat → Int32)) ls => match u with | (j122_L_6, j122_F_h2_1, j122_C_h2_0) => F0 m 122 ls []) (fun u H locs ls hi => ?_) (fun J122 => ?_)
        · obtain ⟨j122_L_6, j122_F_h2_1, j122_C_h2_0⟩ := u
          obtain ⟨i122_0, i122_1, i122_2, i122_3, i122_4, i122_5, Wd, hl⟩ := hi
          obtain ⟨v122, ev122⟩ : ∃ z : Int32, j55_L_5 + 1 = z := ⟨_, rfl⟩
          have iv122 : v122.toInt = j55_L_5.toInt + 1 := kz_addc ev122 (by decide) (by have zr0 := kz_rng j55_L_5; omega) (by have zr0 := kz_rng j55_L_5; omega)
          refine lv_iinc (v := v122) (lv' := [(5, .int v122), (6, .int j122_L_6), (4, .int r13), (0, .ref h), (1, .ref h0), (2, .int x1), (3, .ref h2)]) C.1 C.2.1 dX9_rewrite_122 hl (k := 1) rfl ev122 (by decide) rfl (fun ls hl => ?_)
          refine lv_goto (tgt := 55) C.1 C.2.1 dX9_rewrite_125 (by decide) ?_
          exact ih55 (j122_C_h2_0, j122_F_h2_1, v122) _ _ _ ⟨by omega, by omega, by omega, by omega, by omega, by omega, by omega, by omega, Wd, lv_sub hl [0, 2, 3, 4, 5, 6] rfl⟩ (by show (1001 - v122.toInt).toNat < (1001 - j55_L_5.toInt).toNat; omega)
        refine k_pi (k_runS (rest := []) C aks Wd cs_X9_41 (sX9_letterOf l D r73 _ ) [] rfl (by decide) [] rfl rfl rfl ⟨(Nat.le_of_ble_eq_true rfl), (Nat.le_of_ble_eq_true rfl)⟩ hl.1 rfl rfl (Nat.le_of_ble_eq_true rfl) ⟨(Nat.le_of_ble_eq_true rfl), (Nat.le_of_ble_eq_true rfl)⟩ dX9_rewrite_76) (fun r76 w76 => ?_)
        rcases w76 with rfl | ⟨g76_1_0, g76_1_1, g76_1_2, g76_1_3⟩
        · refine lv_istore (lv' := [(6, .int (-1)), (5, .int j55_L_5), (4, .int r13), (0, .ref h), (1, .ref h0), (2, .int x1), (3, .ref h2)]) C.1 C.2.1 dX9_rewrite_79 hl (by decide) rfl (fun ls hl => ?_)
          refine lv_iload C.1 C.2.1 dX9_rewrite_81 (lv_at hl 0 rfl) ?_
          refine lv_iconst (v := (-1)) C.1 C.2.1 dX9_rewrite_83 (by decide) ?_
          refine lv_icmp_ne (tgt := 103) C.1 C.2.1 dX9_rewrite_84 (by decide) (fun c84 => absurd c84 (by decide)) (fun _ => ?_)
          refine lv_aload_n C.1 C.2.1 dX9_rewrite_87 rfl (lv_at hl 6 rfl) ?_
          refine lv_aload_n C.1 C.2.1 dX9_rewrite_88 rfl (lv_at hl 3 rfl) ?_
          refine k_get C Wd KX9 0 1 rfl (by decide) fl_X9_20 rfl dX9_rewrite_89 ?_
          refine lv_iload C.1 C.2.1 dX9_rewrite_92 (lv_at hl 1 rfl) ?_
          refine k_pi (k_runV (rest := [.ref h2]) C aks Wd cs_X9_37 (sX8_cell l D h_1 j55_L_5 h_1_0 h_1_1 n_h_1_0 a_h_1_0 f_h_1_0 _ (by omega) (by omega) (by omega) (by omega)) [7, 8] rfl (by decide) [4] rfl 7 8 rfl rfl rfl rfl rfl ⟨(Nat.le_of_ble_eq_true rfl), (Nat.le_of_ble_eq_true rfl)⟩ hl.1 rfl rfl (Nat.le_of_ble_eq_true rfl) ⟨(Nat.le_of_ble_eq_true rfl), (Nat.le_of_ble_eq_true rfl)⟩ dX9_rewrite_94) (fun r94 w94 => ?_)
          refine k_cv Wd [9, 10] [0, 1, 2, 3, 4, 5, 6, 7, 8] rfl (wr := [(h, .inr (9, [.ref h_0, .ref h_1, .int h_2, .ref h_3, .ref h_4])), (h0, .inr (8, [.ref h0_0, .int h0_1])), (h0_0, .inl (a_h0_0, n_h0_0, .inl f_h0_0)), (h_3, .inl (a_h_3, 3, .inl s3_0)), (h_4, .inl (a_h_4, 3, .inl s3_1)), (h_0, .inr (8, [.ref h_0_0, .int h_0_1])), (h_0_0, .inl (a_h_0_0, n_h_0_0, .inl f_h_0_0)), (h_1, .inr (8, [.ref h_1_0, .int h_1_1])), (h_1_0, .inl (a_h_1_0, n_h_1_0, .inl f_h_1_0))]) rfl (by decide) (by decide) (cells' := 0) (slots' := 0) (by decide) (by decide) (k_runV (rest := []) C aks Wd cs_X9_74 (sX8_add l D h2 r94 h2_0 j55_F_h2_1 n_h2_0 a_h2_0 j55_C_h2_0 _ (by omega) (by omega) (by omega) (by omega)) [9, 10] rfl (by decide) [5] rfl 9 8 rfl rfl rfl rfl rfl ⟨(Nat.le_of_ble_eq_true rfl), (Nat.le_of_ble_eq_true rfl)⟩ hl.1 rfl rfl (Nat.le_of_ble_eq_true rfl) ⟨(Nat.le_of_ble_eq_true rfl), (Nat.le_of_ble_eq_true rfl)⟩ dX9_rewrite_97) (fun u H locs w97 Wd => ?_)
          obtain ⟨s97_0, s97_1⟩ := u
          have Wd : wX D [(a_h0_0, .int), (a_h_3, .int), (a_h_4, .int), (a_h_0_0, .int), (a_h_1_0, .int), (a_h2_0, .int)] s [(h, .inr (9, [.ref h_0, .ref h_1, .int h_2, .ref h_3, .ref h_4])), (h0, .inr (8, [.ref h0_0, .int h0_1])), (h0_0, .inl (a_h0_0, n_h0_0, .inl f_h0_0)), (h_3, .inl (a_h_3, 3, .inl s3_0)), (h_4, .inl (a_h_4, 3, .inl s3_1)), (h_0, .inr (8, [.ref h_0_0, .int h_0_1])), (h_0_0, .inl (a_h_0_0, n_h_0_0, .inl f_h_0_0)), (h_1, .inr (8, [.ref h_1_0, .int h_1_1])), (h_1_0, .inl (a_h_1_0, n_h_1_0, .inl f_h_1_0)), (h2, .inr (8, [.ref h2_0, .int s97_0])), (h2_0, .inl (a_h2_0, n_h2_0, .inl s97_1))] _ A s.heap _ := k_sub Wd [0, 1, 2, 3, 4, 5, 6, 7, 8, 9, 10] rfl (by decide) [0, 1, 2, 3, 4, 5] rfl
          obtain ⟨g97_0, g97_1, g97_2, g97_3, g97_4⟩ := w97
          have g97_0 : 1 ≤ s97_0.toInt := g97_0
          have g97_1 : s97_0.toInt ≤ 1000 := g97_1
          have g97_2 : j55_F_h2_1.toInt ≤ s97_0.toInt := g97_2
          have g97_3 : s97_0.toInt ≤ (n_h2_0 : Int) := g97_3
          have g97_4 : s97_0.toInt ≤ j55_F_h2_1.toInt + 1 := g97_4
          refine lv_goto (tgt := 122) C.1 C.2.1 dX9_rewrite_100 (by decide) ?_
          exact J122 ((-1), s97_0, s97_1) _ _ _ ⟨by omega, by have zqm1 : (-1 : Int32).toInt = -1 := (by decide); omega, by have zqm1 : (-1 : Int32).toInt = -1 := (by decide); omega, by omega, by omega, by omega, Wd, lv_sub hl [0, 1, 2, 3, 4, 5, 6] rfl⟩
        · have g76_1_0 : 0 ≤ r76.toInt := g76_1_0
          have g76_1_1 : r76.toInt ≤ 2 := g76_1_1
          have g76_1_2 : r76.toInt + 20 ≤ r73.toInt := g76_1_2
          have g76_1_3 : r73.toInt ≤ r76.toInt + 20 := g76_1_3
          refine lv_istore (lv' := [(6, .int r76), (5, .int j55_L_5), (4, .int r13), (0, .ref h), (1, .ref h0), (2, .int x1), (3, .ref h2)]) C.1 C.2.1 dX9_rewrite_79 hl (by decide) rfl (fun ls hl => ?_)
          refine lv_iload C.1 C.2.1 dX9_rewrite_81 (lv_at hl 0 rfl) ?_
          refine lv_iconst (v := (-1)) C.1 C.2.1 dX9_rewrite_83 (by decide) ?_
          refine lv_icmp_ne (tgt := 103) C.1 C.2.1 dX9_rewrite_84 (by decide) (fun _ => ?_) (fun c84 => False.elim (by have i84 : r76.toInt = (-1) := kz_eq c84; omega))
          refine lv_aload_n C.1 C.2.1 dX9_rewrite_103 rfl (lv_at hl 6 rfl) ?_
          refine lv_aload_n C.1 C.2.1 dX9_rewrite_104 rfl (lv_at hl 4 rfl) ?_
          refine lv_aload_n C.1 C.2.1 dX9_rewrite_105 rfl (lv_at hl 3 rfl) ?_
          refine k_get C Wd KX9 0 3 rfl (by decide) fl_X9_23 rfl dX9_rewrite_106 ?_
          refine lv_iload C.1 C.2.1 dX9_rewrite_109 (lv_at hl 0 rfl) ?_
          obtain ⟨v111, ev111⟩ : ∃ z : Int32, s3_0 r76.toNatClampNeg = z := ⟨_, rfl⟩
          refine k_iald (v := v111) C Wd 3 1 rfl rfl (vp_in_iff.mpr ⟨by omega, by omega⟩) ev111 dX9_rewrite_111 ?_
          have iv111 : -1 ≤ v111.toInt ∧ v111.toInt ≤ 5000 := by rw [← ev111]; exact q_s3_0 _
          refine lv_aload_n C.1 C.2.1 dX9_rewrite_112 rfl (lv_at hl 3 rfl) ?_
          refine k_get C Wd KX9 0 4 rfl (by decide) fl_X9_27 rfl dX9_rewrite_113 ?_
          refine lv_iload C.1 C.2.1 dX9_rewrite_116 (lv_at hl 0 rfl) ?_
          obtain ⟨v118, ev118⟩ : ∃ z : Int32, s3_1 r76.toNatClampNeg = z := ⟨_, rfl⟩
          refine k_iald (v := v118) C Wd 4 2 rfl rfl (vp_in_iff.mpr ⟨by omega, by omega⟩) ev118 dX9_rewrite_118 ?_
          have iv118 : -1 ≤ v118.toInt ∧ v118.toInt ≤ 5000 := by rw [← ev118]; exact q_s3_1 _
          refine k_cv Wd [1, 2, 9, 10] [0, 3, 4, 5, 6, 7, 8] rfl (wr := [(h, .inr (9, [.ref h_0, .ref h_1, .int h_2, .ref h_3, .ref h_4])), (h_3, .inl (a_h_3, 3, .inl s3_0)), (h_4, .inl (a_h_4, 3, .inl s3_1)), (h_0, .inr (8, [.ref h_0_0, .int h_0_1])), (h_0_0, .inl (a_h_0_0, n_h_0_0, .inl f_h_0_0)), (h_1, .inr (8, [.ref h_1_0, .int h_1_1])), (h_1_0, .inl (a_h_1_0, n_h_1_0, .inl f_h_1_0))]) rfl (by decide) (by decide) (cells' := 0) (slots' := 0) (by decide) (by decide) (k_runV (rest := []) C aks Wd cs_X9_70 (sX8_addPart l D h2 h0 v111 v118 h0_0 h0_1 n_h0_0 a_h0_0 f_h0_0 h2_0 j55_F_h2_1 n_h2_0 a_h2_0 j55_C_h2_0 _ (by omega) (by omega) (by omega) (by omega) (by omega) (by omega) (by omega) (by omega) (by omega) (by omega) (by omega) (by omega)) [1, 2, 9, 10] rfl (by decide) [0, 5] rfl 9 8 rfl rfl rfl rfl rfl ⟨(Nat.le_of_ble_eq_true rfl), (Nat.le_of_ble_eq_true rfl)⟩ hl.1 rfl rfl (Nat.le_of_ble_eq_true rfl) ⟨(Nat.le_of_ble_eq_true rfl), (Nat.le_of_ble_eq_true rfl)⟩ dX9_rewrite_119) (fun u H locs w119 Wd => ?_)
          obtain ⟨s119_0, s119_1⟩ := u
          have Wd : wX D [(a_h0_0, .int), (a_h_3, .int), (a_h_4, .int), (a_h_0_0, .int), (a_h_1_0, .int), (a_h2_0, .int)] s [(h, .inr (9, [.ref h_0, .ref h_1, .int h_2, .ref h_3, .ref h_4])), (h0, .inr (8, [.ref h0_0, .int h0_1])), (h0_0, .inl (a_h0_0, n_h0_0, .inl f_h0_0)), (h_3, .inl (a_h_3, 3, .inl s3_0)), (h_4, .inl (a_h_4, 3, .inl s3_1)), (h_0, .inr (8, [.ref h_0_0, .int h_0_1])), (h_0_0, .inl (a_h_0_0, n_h_0_0, .inl f_h_0_0)), (h_1, .inr (8, [.ref h_1_0, .int h_1_1])), (h_1_0, .inl (a_h_1_0, n_h_1_0, .inl f_h_1_0)), (h2, .inr (8, [.ref h2_0, .int s119_0])), (h2_0, .inl (a_h2_0, n_h2_0, .inl s119_1))] _ A s.heap _ := k_sub Wd [0, 7, 8, 1, 2, 3, 4, 5, 6, 9, 10] rfl (by decide) [0, 1, 2, 3, 4, 5] rfl
          obtain ⟨g119_0, g119_1, g119_2, g119_3⟩ := w119
          have g119_0 : 0 ≤ s119_0.toInt := g119_0
          have g119_1 : s119_0.toInt ≤ 1000 := g119_1
          have g119_2 : j55_F_h2_1.toInt ≤ s119_0.toInt := g119_2
          have g119_3 : s119_0.toInt ≤ (n_h2_0 : Int) := g119_3
          exact J122 (r76, s119_0, s119_1) _ _ _ ⟨by omega, by omega, by omega, by omega, by omega, by omega, Wd, lv_sub hl [0, 1, 2, 3, 4, 5, 6] rfl⟩
    · have i35 : 300 < v31.toInt := kz_nle c35
      refine lv_iconst (v := 0) C.1 C.2.1 dX9_rewrite_38 (by decide) ?_
      exact k_zret C hr hlk rfl Wd (s3_0, s3_1, h2_1, f_h2_0) (by exact ⟨by omega, by have zq0 : (0 : Int32).toInt = 0 := (by decide); omega, by have zq0 : (0 : Int32).toInt = 0 := (by decide); omega, by omega, by omega, q_s3_0, q_s3_1⟩) [0, 1, 2, 3, 4, 5, 6, 7, 8, 9, 10] rfl (by decide) [] rfl (by decide) (by decide) dX9_rewrite_39
  · have i6 : r3.toInt = 0 := kz_eq c6
    refine lv_iconst (v := 0) C.1 C.2.1 dX9_rewrite_9 (by decide) ?_
    exact k_zret C hr hlk rfl Wd (s3_0, s3_1, h2_1, f_h2_0) (by exact ⟨by omega, by have zq0 : (0 : Int32).toInt = 0 := (by decide); omega, by have zq0 : (0 : Int32).toInt = 0 := (by decide); omega, by omega, by omega, q_s3_0, q_s3_1⟩) [0, 1, 2, 3, 4, 5, 6, 7, 8, 9, 10] rfl (by decide) [] rfl (by decide) (by decide) dX9_rewrite_10
set_option maxHeartbeats 4000000 in
set_option maxRecDepth 100000 in
theorem sX3_doStatement (l : Launch) (D : va_G) (h : Nat) (x0 : Int32) (h_0 : Nat) (h_1 : Nat) (h_2 : Int32) (h_3 : Int32) (h_4 : Int32) (h_5 : Nat) (h_6 : Nat) (h_0_0 : Nat) (h_0_1 : Int32) (h_0_2 : Nat) (h_0_3 : Nat) (h_0_4 : Nat) (h_0_5 : Nat) (h_0_6 : Nat) (h_0_7 : Nat) (h_0_8 : Nat) (h_0_9 : Nat) (h_0_10 : Nat) (h_0_11 : Nat) (h_0_12 : Nat) (h_0_13 : Nat) (a_h_0_3 : ClassId) (f_h_0_3 : Nat → Int32) (a_h_0_4 : ClassId) (f_h_0_4 : Nat → Int32) (a_h_0_5 : ClassId) (f_h_0_5 : Nat → Int32) (h_0_0_0 : Nat) (h_0_0_1 : Int32) (n_h_0_0_0 : Nat) (a_h_0_0_0 : ClassId) (f_h_0_0_0 : Nat → Int32) (a_h_6 : ClassId) (f_h_6 : Nat → Int32) (a_h_5 : ClassId) (f_h_5 : Nat → Int32) (a_h_1 : ClassId) (f_h_1 : Nat → Int32) (a_h_0_2 : ClassId) (f_h_0_2 : Nat → Int32) (a_h_0_7 : ClassId) (f_h_0_7 : Nat → Int32) (a_h_0_6 : ClassId) (f_h_0_6 : Nat → Int32) (sz : Nat) (k_h_2_lo : 0 ≤ h_2.toInt) (k_h_2_hi : h_2.toInt ≤ 100) (k_h_0_1_lo : 0 ≤ h_0_1.toInt) (k_h_0_1_hi : h_0_1.toInt ≤ 40) (k_h_0_0_1_lo : 0 ≤ h_0_0_1.toInt) (k_n_h_0_0_0 : n_h_0_0_0 ≤ 1000) (k_p_h_0_0_0 : 1 ≤ n_h_0_0_0) (k_h_0_0_1_hi : h_0_0_1.toInt ≤ (n_h_0_0_0 : Int)) (q_f_h_0_4 : ∀ j : Nat, 0 ≤ (f_h_0_4 j).toInt ∧ (f_h_0_4 j).toInt ≤ 2000) (q_f_h_0_5 : ∀ j : Nat, 0 ≤ (f_h_0_5 j).toInt ∧ (f_h_0_5 j).toInt ≤ 2000) : Met l yX3_doStatement (Cond.code yX3_doStatement cX3_doStatement 4 (some .int) :: gG) { frames := 3, cells := 0, slots := 0, locals := 115 } (cPre D [(a_h_0_3, .int), (a_h_0_4, .int), (a_h_0_5, .int), (a_h_0_0_0, .int), (a_h_6, .int), (a_h_5, .int), (a_h_1, .int), (a_h_0_2, .int), (a_h_0_7, .int), (a_h_0_6, .int)] [(h, .inr (3, [.ref h_0, .ref h_1, .int h_2, .int h_3, .int h_4, .ref h_5, .ref h_6])), (h_0, .inr (1, [.ref h_0_0, .int h_0_1, .ref h_0_2, .ref h_0_3, .ref h_0_4, .ref h_0_5, .ref h_0_6, .ref h_0_7, .ref h_0_8, .ref h_0_9, .ref h_0_10, .ref h_0_11, .ref h_0_12, .ref h_0_13])), (h_0_3, .inl (a_h_0_3, 40, .inl f_h_0_3)), (h_0_4, .inl (a_h_0_4, 40, .inl f_h_0_4)), (h_0_5, .inl (a_h_0_5, 40, .inl f_h_0_5)), (h_0_0, .inr (8, [.ref h_0_0_0, .int h_0_0_1])), (h_0_0_0, .inl (a_h_0_0_0, n_h_0_0_0, .inl f_h_0_0_0)), (h_6, .inl (a_h_6, 300, .inl f_h_6)), (h_5, .inl (a_h_5, 6, .inl f_h_5)), (h_1, .inl (a_h_1, 100, .inl f_h_1)), (h_0_2, .inl (a_h_0_2, 40, .inl f_h_0_2)), (h_0_7, .inl (a_h_0_7, 40, .inl f_h_0_7)), (h_0_6, .inl (a_h_0_6, 40, .inl f_h_0_6))] sz [.ref h, .int x0]) (va_Qi (fun (r : Int32) (u : (Nat → Int32) × (Int32) × (Nat → Int32) × (Nat → Int32)) => match u with | (jX_C_h_6, jX_F_h_2, jX_C_h_5, jX_C_h_1) => 0 ≤ jX_F_h_2.toInt ∧ jX_F_h_2.toInt ≤ 100 ∧ h_2.toInt ≤ jX_F_h_2.toInt ∧ jX_F_h_2.toInt ≤ h_2.toInt + 1) (fun u t => cB D (va_A [(h, .inr (3, [.ref h_0, .ref h_1, .int h_2, .int h_3, .int h_4, .ref h_5, .ref h_6])), (h_0, .inr (1, [.ref h_0_0, .int h_0_1, .ref h_0_2, .ref h_0_3, .ref h_0_4, .ref h_0_5, .ref h_0_6, .ref h_0_7, .ref h_0_8, .ref h_0_9, .ref h_0_10, .ref h_0_11, .ref h_0_12, .ref h_0_13])), (h_0_3, .inl (a_h_0_3, 40, .inl f_h_0_3)), (h_0_4, .inl (a_h_0_4, 40, .inl f_h_0_4)), (h_0_5, .inl (a_h_0_5, 40, .inl f_h_0_5)), (h_0_0, .inr (8, [.ref h_0_0_0, .int h_0_0_1])), (h_0_0_0, .inl (a_h_0_0_0, n_h_0_0_0, .inl f_h_0_0_0)), (h_6, .inl (a_h_6, 300, .inl f_h_6)), (h_5, .inl (a_h_5, 6, .inl f_h_5)), (h_1, .inl (a_h_1, 100, .inl f_h_1)), (h_0_2, .inl (a_h_0_2, 40, .inl f_h_0_2)), (h_0_7, .inl (a_h_0_7, 40, .inl f_h_0_7)), (h_0_6, .inl (a_h_0_6, 40, .inl f_h_0_6))] sz) ((fun (_ : (Nat → Int32) × (Int32) × (Nat → Int32) × (Nat → Int32)) => ([] : List (ClassId × FieldType))) u) ((fun (u : (Nat → Int32) × (Int32) × (Nat → Int32) × (Nat → Int32)) => match u with | (jX_C_h_6, jX_F_h_2, jX_C_h_5, jX_C_h_1) => ([(h, .inr (3, [.ref h_0, .ref h_1, .int jX_F_h_2, .int h_3, .int h_4, .ref h_5, .ref h_6])), (h_0, .inr (1, [.ref h_0_0, .int h_0_1, .ref h_0_2, .ref h_0_3, .ref h_0_4, .ref h_0_5, .ref h_0_6, .ref h_0_7, .ref h_0_8, .ref h_0_9, .ref h_0_10, .ref h_0_11, .ref h_0_12, .ref h_0_13])), (h_0_3, .inl (a_h_0_3, 40, .inl f_h_0_3)), (h_0_4, .inl (a_h_0_4, 40, .inl f_h_0_4)), (h_0_5, .inl (a_h_0_5, 40, .inl f_h_0_5)), (h_0_0, .inr (8, [.ref h_0_0_0, .int h_0_0_1])), (h_0_0_0, .inl (a_h_0_0_0, n_h_0_0_0, .inl f_h_0_0_0)), (h_6, .inl (a_h_6, 300, .inl jX_C_h_6)), (h_5, .inl (a_h_5, 6, .inl jX_C_h_5)), (h_1, .inl (a_h_1, 100, .inl jX_C_h_1)), (h_0_2, .inl (a_h_0_2, 40, .inl f_h_0_2)), (h_0_7, .inl (a_h_0_7, 40, .inl f_h_0_7)), (h_0_6, .inl (a_h_0_6, 40, .inl f_h_0_6))] : va_W)) u) t) (va_A [(h, .inr (3, [.ref h_0, .ref h_1, .int h_2, .int h_3, .int h_4, .ref h_5, .ref h_6])), (h_0, .inr (1, [.ref h_0_0, .int h_0_1, .ref h_0_2, .ref h_0_3, .ref h_0_4, .ref h_0_5, .ref h_0_6, .ref h_0_7, .ref h_0_8, .ref h_0_9, .ref h_0_10, .ref h_0_11, .ref h_0_12, .ref h_0_13])), (h_0_3, .inl (a_h_0_3, 40, .inl f_h_0_3)), (h_0_4, .inl (a_h_0_4, 40, .inl f_h_0_4)), (h_0_5, .inl (a_h_0_5, 40, .inl f_h_0_5)), (h_0_0, .inr (8, [.ref h_0_0_0, .int h_0_0_1])), (h_0_0_0, .inl (a_h_0_0_0, n_h_0_0_0, .inl f_h_0_0_0)), (h_6, .inl (a_h_6, 300, .inl f_h_6)), (h_5, .inl (a_h_5, 6, .inl f_h_5)), (h_1, .inl (a_h_1, 100, .inl f_h_1)), (h_0_2, .inl (a_h_0_2, 40, .inl f_h_0_2)), (h_0_7, .inl (a_h_0_7, 40, .inl f_h_0_7)), (h_0_6, .inl (a_h_0_6, 40, .inl f_h_0_6))] sz)) 0 0 (va_A [(h, .inr (3, [.ref h_0, .ref h_1, .int h_2, .int h_3, .int h_4, .ref h_5, .ref h_6])), (h_0, .inr (1, [.ref h_0_0, .int h_0_1, .ref h_0_2, .ref h_0_3, .ref h_0_4, .ref h_0_5, .ref h_0_6, .ref h_0_7, .ref h_0_8, .ref h_0_9, .ref h_0_10, .ref h_0_11, .ref h_0_12, .ref h_0_13])), (h_0_3, .inl (a_h_0_3, 40, .inl f_h_0_3)), (h_0_4, .inl (a_h_0_4, 40, .inl f_h_0_4)), (h_0_5, .inl (a_h_0_5, 40, .inl f_h_0_5)), (h_0_0, .inr (8, [.ref h_0_0_0, .int h_0_0_1])), (h_0_0_0, .inl (a_h_0_0_0, n_h_0_0_0, .inl f_h_0_0_0)), (h_6, .inl (a_h_6, 300, .inl f_h_6)), (h_5, .inl (a_h_5, 6, .inl f_h_5)), (h_1, .inl (a_h_1, 100, .inl f_h_1)), (h_0_2, .inl (a_h_0_2, 40, .inl f_h_0_2)), (h_0_7, .inl (a_h_0_7, 40, .inl f_h_0_7)), (h_0_6, .inl (a_h_0_6, 40, .inl f_h_0_6))] sz) := by
  refine Met.ofW (cc := cX3_doStatement) (maxL := 4) (ret := (some .int)) (by decide) rfl ?_
  intro p e s m args below meth c s₁ B hml hv
  obtain ⟨rfl, aks, rfl, Wd⟩ := k_enter hv
  have C : CallFix p m c cX3_doStatement 4 s _ gG RX3 := ⟨B.exec, B.bytes, hml, findClass_of_methodNamed B.named, fun w h => atoms_spec (ws := Cond.code yX3_doStatement cX3_doStatement 4 (some .int) :: gG) B.pre w (List.mem_cons_of_mem _ h)⟩
  have hr := B.returns
  have hlk := B.notSynchronized
  generalize va_A [(h, .inr (3, [.ref h_0, .ref h_1, .int h_2, .int h_3, .int h_4, .ref h_5, .ref h_6])), (h_0, .inr (1, [.ref h_0_0, .int h_0_1, .ref h_0_2, .ref h_0_3, .ref h_0_4, .ref h_0_5, .ref h_0_6, .ref h_0_7, .ref h_0_8, .ref h_0_9, .ref h_0_10, .ref h_0_11, .ref h_0_12, .ref h_0_13])), (h_0_3, .inl (a_h_0_3, 40, .inl f_h_0_3)), (h_0_4, .inl (a_h_0_4, 40, .inl f_h_0_4)), (h_0_5, .inl (a_h_0_5, 40, .inl f_h_0_5)), (h_0_0, .inr (8, [.ref h_0_0_0, .int h_0_0_1])), (h_0_0_0, .inl (a_h_0_0_0, n_h_0_0_0, .inl f_h_0_0_0)), (h_6, .inl (a_h_6, 300, .inl f_h_6)), (h_5, .inl (a_h_5, 6, .inl f_h_5)), (h_1, .inl (a_h_1, 100, .inl f_h_1)), (h_0_2, .inl (a_h_0_2, 40, .inl f_h_0_2)), (h_0_7, .inl (a_h_0_7, 40, .inl f_h_0_7)), (h_0_6, .inl (a_h_0_6, 40, .inl f_h_0_6))] s.heap.size = A at Wd ⊢
  refine k_locals (Nat.le_of_ble_eq_true rfl) [(0, .ref h), (1, .int x0)] rfl (fun ls hl => ?_)
  refine lv_aload_n C.1 C.2.1 dX3_doStatement_0 rfl (lv_at hl 0 rfl) ?_
  refine k_get C Wd KX3 0 0 rfl (by decide) fl_X3_12 rfl dX3_doStatement_1 ?_
  refine lv_iload_n C.1 C.2.1 dX3_doStatement_4 rfl (lv_at hl 1 rfl) ?_
  refine k_pi (k_runV (rest := []) C aks Wd cs_X3_48 (sX1_isHere l D h_0 x0 (.ref h_0_0 : Value) h_0_1 h_0_2 h_0_3 h_0_4 h_0_5 h_0_6 h_0_7 h_0_8 h_0_9 h_0_10 h_0_11 h_0_12 h_0_13 _ (by omega) (by omega)) [1] rfl (by decide) [] rfl 1 1 rfl rfl rfl rfl rfl ⟨(Nat.le_of_ble_eq_true rfl), (Nat.le_of_ble_eq_true rfl)⟩ hl.1 rfl rfl (Nat.le_of_ble_eq_true rfl) ⟨(Nat.le_of_ble_eq_true rfl), (Nat.le_of_ble_eq_true rfl)⟩ dX3_doStatement_5) (fun r5 w5 => ?_)
  rcases w5 with rfl | ⟨g5_1_0, g5_1_1, g5_1_2, g5_1_3, rfl⟩
  · refine lv_if_ne (tgt := 13) C.1 C.2.1 dX3_doStatement_8 (by decide) (fun c8 => absurd c8 (by decide)) (fun _ => ?_)
    refine lv_iconst (v := (-1)) C.1 C.2.1 dX3_doStatement_11 (by decide) ?_
    exact k_zret C hr hlk rfl Wd (f_h_6, h_2, f_h_5, f_h_1) (by exact ⟨by omega, by omega, by omega, by omega⟩) [0, 1, 2, 3, 4, 5, 6, 7, 8, 9, 10, 11, 12] rfl (by decide) [] rfl (by decide) (by decide) dX3_doStatement_12
  · have g5_1_0 : 0 ≤ x0.toInt := g5_1_0
    have g5_1_1 : 1 ≤ h_0_1.toInt := g5_1_1
    have g5_1_2 : x0.toInt ≤ 39 := g5_1_2
    have g5_1_3 : x0.toInt + 1 ≤ h_0_1.toInt := g5_1_3
    refine lv_if_ne (tgt := 13) C.1 C.2.1 dX3_doStatement_8 (by decide) (fun _ => ?_) (fun c8 => absurd c8 (by decide))
    refine lv_aload_n C.1 C.2.1 dX3_doStatement_13 rfl (lv_at hl 0 rfl) ?_
    refine k_get C Wd KX3 0 0 rfl (by decide) fl_X3_12 rfl dX3_doStatement_14 ?_
    refine k_get C Wd KX1 1 3 rfl (by decide) fl_X3_52 rfl dX3_doStatement_17 ?_
    refine lv_iload_n C.1 C.2.1 dX3_doStatement_20 rfl (lv_at hl 1 rfl) ?_
    obtain ⟨v21, ev21⟩ : ∃ z : Int32, f_h_0_3 x0.toNatClampNeg = z := ⟨_, rfl⟩
    refine k_iald (v := v21) C Wd 2 0 rfl rfl (vp_in_iff.mpr ⟨by omega, by omega⟩) ev21 dX3_doStatement_21 ?_
    refine lv_istore_n (lv' := [(2, .int v21), (0, .ref h), (1, .int x0)]) C.1 C.2.1 dX3_doStatement_22 rfl hl (by decide) rfl (fun ls hl => ?_)
    refine lv_iload_n C.1 C.2.1 dX3_doStatement_23 rfl (lv_at hl 0 rfl) ?_
    refine lv_bipush (v := 111) C.1 C.2.1 dX3_doStatement_24 (by decide) ?_
    refine lv_icmp_ne (tgt := 32) C.1 C.2.1 dX3_doStatement_26 (by decide) (fun c26 => ?_) (fun c26 => ?_)
    · have i26 : ¬ v21.toInt = 111 := kz_ne c26
      refine lv_aload_n C.1 C.2.1 dX3_doStatement_32 rfl (lv_at hl 1 rfl) ?_
      refine k_get C Wd KX3 0 0 rfl (by decide) fl_X3_12 rfl dX3_doStatement_33 ?_
      refine k_get C Wd KX1 1 0 rfl (by decide) fl_X3_55 rfl dX3_doStatement_36 ?_
      refine lv_aload_n C.1 C.2.1 dX3_doStatement_39 rfl (lv_at hl 1 rfl) ?_
      refine k_get C Wd KX3 0 0 rfl (by decide) fl_X3_12 rfl dX3_doStatement_40 ?_
      refine k_get C Wd KX1 1 4 rfl (by decide) fl_X3_59 rfl dX3_doStatement_43 ?_
      refine lv_iload_n C.1 C.2.1 dX3_doStatement_46 rfl (lv_at hl 2 rfl) ?_
      obtain ⟨v47, ev47⟩ : ∃ z : Int32, f_h_0_4 x0.toNatClampNeg = z := ⟨_, rfl⟩
      refine k_iald (v := v47) C Wd 3 1 rfl rfl (vp_in_iff.mpr ⟨by omega, by omega⟩) ev47 dX3_doStatement_47 ?_
      have iv47 : 0 ≤ v47.toInt ∧ v47.toInt ≤ 2000 := by rw [← ev47]; exact q_f_h_0_4 _
      refine lv_aload_n C.1 C.2.1 dX3_doStatement_48 rfl (lv_at hl 1 rfl) ?_
      refine k_get C Wd KX3 0 0 rfl (by decide) fl_X3_12 rfl dX3_doStatement_49 ?_
      refine k_get C Wd KX1 1 5 rfl (by decide) fl_X3_62 rfl dX3_doStatement_52 ?_
      refine lv_iload_n C.1 C.2.1 dX3_doStatement_55 rfl (lv_at hl 2 rfl) ?_
      obtain ⟨v56, ev56⟩ : ∃ z : Int32, f_h_0_5 x0.toNatClampNeg = z := ⟨_, rfl⟩
      refine k_iald (v := v56) C Wd 4 2 rfl rfl (vp_in_iff.mpr ⟨by omega, by omega⟩) ev56 dX3_doStatement_56 ?_
      have iv56 : 0 ≤ v56.toInt ∧ v56.toInt ≤ 2000 := by rw [← ev56]; exact q_f_h_0_5 _
      refine lv_aload_n C.1 C.2.1 dX3_doStatement_57 rfl (lv_at hl 1 rfl) ?_
      refine k_get C Wd KX3 0 5 rfl (by decide) fl_X3_22 rfl dX3_doStatement_58 ?_
      refine lv_aload_n C.1 C.2.1 dX3_doStatement_61 rfl (lv_at hl 1 rfl) ?_
      refine k_get C Wd KX3 0 6 rfl (by decide) fl_X3_25 rfl dX3_doStatement_62 ?_
      refine k_cv Wd [5, 6, 7, 8] [0, 1, 2, 3, 4, 9, 10, 11, 12] rfl (wr := [(h, .inr (3, [.ref h_0, .ref h_1, .int h_2, .int h_3, .int h_4, .ref h_5, .ref h_6])), (h_0, .inr (1, [.ref h_0_0, .int h_0_1, .ref h_0_2, .ref h_0_3, .ref h_0_4, .ref h_0_5, .ref h_0_6, .ref h_0_7, .ref h_0_8, .ref h_0_9, .ref h_0_10, .ref h_0_11, .ref h_0_12, .ref h_0_13])), (h_0_3, .inl (a_h_0_3, 40, .inl f_h_0_3)), (h_0_4, .inl (a_h_0_4, 40, .inl f_h_0_4)), (h_0_5, .inl (a_h_0_5, 40, .inl f_h_0_5)), (h_1, .inl (a_h_1, 100, .inl f_h_1)), (h_0_2, .inl (a_h_0_2, 40, .inl f_h_0_2)), (h_0_7, .inl (a_h_0_7, 40, .inl f_h_0_7)), (h_0_6, .inl (a_h_0_6, 40, .inl f_h_0_6))]) rfl (by decide) (by decide) (cells' := 0) (slots' := 0) (by decide) (by decide) (k_runV (rest := []) C aks Wd cs_X3_65 (sX8_reckon l D h_0_0 v47 v56 h_5 h_6 h_0_0_0 h_0_0_1 n_h_0_0_0 a_h_0_0_0 f_h_0_0_0 300 a_h_6 f_h_6 6 a_h_5 f_h_5 _ (by omega) (by omega) (by omega) (by omega) (by omega) (by omega) (by omega) (by omega) (by omega) (by omega)) [5, 6, 7, 8] rfl (by decide) [3, 4, 5] rfl 5 8 rfl rfl rfl rfl rfl ⟨(Nat.le_of_ble_eq_true rfl), (Nat.le_of_ble_eq_true rfl)⟩ hl.1 rfl rfl (Nat.le_of_ble_eq_true rfl) ⟨(Nat.le_of_ble_eq_true rfl), (Nat.le_of_ble_eq_true rfl)⟩ dX3_doStatement_65) (fun s65_0 H locs w65 Wd => ?_)
      have Wd : wX D [(a_h_0_3, .int), (a_h_0_4, .int), (a_h_0_5, .int), (a_h_0_0_0, .int), (a_h_6, .int), (a_h_5, .int), (a_h_1, .int), (a_h_0_2, .int), (a_h_0_7, .int), (a_h_0_6, .int)] s [(h, .inr (3, [.ref h_0, .ref h_1, .int h_2, .int h_3, .int h_4, .ref h_5, .ref h_6])), (h_0, .inr (1, [.ref h_0_0, .int h_0_1, .ref h_0_2, .ref h_0_3, .ref h_0_4, .ref h_0_5, .ref h_0_6, .ref h_0_7, .ref h_0_8, .ref h_0_9, .ref h_0_10, .ref h_0_11, .ref h_0_12, .ref h_0_13])), (h_0_3, .inl (a_h_0_3, 40, .inl f_h_0_3)), (h_0_4, .inl (a_h_0_4, 40, .inl f_h_0_4)), (h_0_5, .inl (a_h_0_5, 40, .inl f_h_0_5)), (h_0_0, .inr (8, [.ref h_0_0_0, .int h_0_0_1])), (h_0_0_0, .inl (a_h_0_0_0, n_h_0_0_0, .inl f_h_0_0_0)), (h_6, .inl (a_h_6, 300, .inl s65_0)), (h_5, .inl (a_h_5, 6, .inl f_h_5)), (h_1, .inl (a_h_1, 100, .inl f_h_1)), (h_0_2, .inl (a_h_0_2, 40, .inl f_h_0_2)), (h_0_7, .inl (a_h_0_7, 40, .inl f_h_0_7)), (h_0_6, .inl (a_h_0_6, 40, .inl f_h_0_6))] _ A s.heap _ := k_sub Wd [0, 1, 2, 3, 4, 9, 10, 11, 12, 5, 6, 7, 8] rfl (by decide) [0, 1, 2, 3, 4, 5, 6, 7, 8, 9] rfl
      refine lv_iload_n C.1 C.2.1 dX3_doStatement_68 rfl (lv_at hl 0 rfl) ?_
      refine k_pi (k_runS (rest := []) C aks Wd cs_X3_71 (sX8_isBranch l D v21 _ ) [] rfl (by decide) [] rfl rfl rfl ⟨(Nat.le_of_ble_eq_true rfl), (Nat.le_of_ble_eq_true rfl)⟩ hl.1 rfl rfl (Nat.le_of_ble_eq_true rfl) ⟨(Nat.le_of_ble_eq_true rfl), (Nat.le_of_ble_eq_true rfl)⟩ dX3_doStatement_69) (fun r69 w69 => ?_)
      obtain ⟨g69_0, g69_1⟩ := w69
      have g69_0 : 0 ≤ r69.toInt := g69_0
      have g69_1 : r69.toInt ≤ 1 := g69_1
      refine lv_if_eq (tgt := 138) C.1 C.2.1 dX3_doStatement_72 (by decide) (fun c72 => ?_) (fun c72 => ?_)
      · have i72 : r69.toInt = 0 := kz_eq c72
        refine lv_iload_n C.1 C.2.1 dX3_doStatement_138 rfl (lv_at hl 0 rfl) ?_
        refine lv_bipush (v := 110) C.1 C.2.1 dX3_doStatement_139 (by decide) ?_
        refine k_cutA (fun (u : (Int32) × (Nat → Int32) × (Nat → Int32)) H locs ls => match u with | (j206_F_h_2, j206_C_h_1, j206_C_h_5) => 0 ≤ j206_F_h_2.toInt ∧ j206_F_h_2.toInt ≤ 100 ∧ h_2.toInt ≤ j206_F_h_2.toInt ∧ j206_F_h_2.toInt ≤ h_2.toInt + 1 ∧ wX D [(a_h_0_3, .int), (a_h_0_4, .int), (a_h_0_5, .int), (a_h_0_0_0, .int), (a_h_6, .int), (a_h_5, .int), (a_h_1, .int), (a_h_0_2, .int), (a_h_0_7, .int), (a_h_0_6, .int)] s [(h, .inr (3, [.ref h_0, .ref h_1, .int j206_F_h_2, .int h_3, .int h_4, .ref h_5, .ref h_6])), (h_0, .inr (1, [.ref h_0_0, .int h_0_1, .ref h_0_2, .ref h_0_3, .ref h_0_4, .ref h_0_5, .ref h_0_6, .ref h_0_7, .ref h_0_8, .ref h_0_9, .ref h_0_10, .ref h_0_11, .ref h_0_12, .ref h_0_13])), (h_0_3, .inl (a_h_0_3, 40, .inl f_h_0_3)), (h_0_4, .inl (a_h_0_4, 40, .inl f_h_0_4)), (h_0_5, .inl (a_h_0_5, 40, .inl f_h_0_5)), (h_0_0, .inr (8, [.ref h_0_0_0, .int h_0_0_1])), (h_0_0_0, .inl (a_h_0_0_0, n_h_0_0_0, .inl f_h_0_0_0)), (h_6, .inl (a_h_6, 300, .inl s65_0)), (h_5, .inl (a_h_5, 6, .inl j206_C_h_5)), (h_1, .inl (a_h_1, 100, .inl j206_C_h_1)), (h_0_2, .inl (a_h_0_2, 40, .inl f_h_0_2)), (h_0_7, .inl (a_h_0_7, 40, .inl f_h_0_7)), (h_0_6, .inl (a_h_0_6, 40, .inl f_h_0_6))] H A s.heap locs ∧ lv_has ls 4 [(2, .int v21), (0, .ref h), (1, .int x0)]) (fun (u : (Int32) × (Nat → Int32) × (Nat → Int32)) ls => match u with | (j206_F_h_2, j206_C_h_1, j206_C_h_5) => F0 m 206 ls []) (fun u H locs ls hi => ?_) (fun J206 => ?_)
        · obtain ⟨j206_F_h_2, j206_C_h_1, j206_C_h_5⟩ := u
          obtain ⟨i206_0, i206_1, i206_2, i206_3, Wd, hl⟩ := hi
          refine lv_aload_n C.1 C.2.1 dX3_doStatement_206 rfl (lv_at hl 1 rfl) ?_
          refine k_get C Wd KX3 0 0 rfl (by decide) fl_X3_12 rfl dX3_doStatement_207 ?_
          refine k_get C Wd KX1 1 6 rfl (by decide) fl_X3_84 rfl dX3_doStatement_210 ?_
          refine lv_iload_n C.1 C.2.1 dX3_doStatement_213 rfl (lv_at hl 2 rfl) ?_
          obtain ⟨v214, ev214⟩ : ∃ z : Int32, f_h_0_6 x0.toNatClampNeg = z := ⟨_, rfl⟩
          refine k_iald (v := v214) C Wd 12 9 rfl rfl (vp_in_iff.mpr ⟨by omega, by omega⟩) ev214 dX3_doStatement_214 ?_
          exact k_zret C hr hlk rfl Wd (s65_0, j206_F_h_2, j206_C_h_5, j206_C_h_1) (by exact ⟨by omega, by omega, by omega, by omega⟩) [0, 1, 2, 3, 4, 5, 6, 7, 8, 9, 10, 11, 12] rfl (by decide) [] rfl (by decide) (by decide) dX3_doStatement_215
        refine k_cutA (fun (_ : Unit) H locs ls => wX D [(a_h_0_3, .int), (a_h_0_4, .int), (a_h_0_5, .int), (a_h_0_0_0, .int), (a_h_6, .int), (a_h_5, .int), (a_h_1, .int), (a_h_0_2, .int), (a_h_0_7, .int), (a_h_0_6, .int)] s [(h, .inr (3, [.ref h_0, .ref h_1, .int h_2, .int h_3, .int h_4, .ref h_5, .ref h_6])), (h_0, .inr (1, [.ref h_0_0, .int h_0_1, .ref h_0_2, .ref h_0_3, .ref h_0_4, .ref h_0_5, .ref h_0_6, .ref h_0_7, .ref h_0_8, .ref h_0_9, .ref h_0_10, .ref h_0_11, .ref h_0_12, .ref h_0_13])), (h_0_3, .inl (a_h_0_3, 40, .inl f_h_0_3)), (h_0_4, .inl (a_h_0_4, 40, .inl f_h_0_4)), (h_0_5, .inl (a_h_0_5, 40, .inl f_h_0_5)), (h_0_0, .inr (8, [.ref h_0_0_0, .int h_0_0_1])), (h_0_0_0, .inl (a_h_0_0_0, n_h_0_0_0, .inl f_h_0_0_0)), (h_6, .inl (a_h_6, 300, .inl s65_0)), (h_5, .inl (a_h_5, 6, .inl f_h_5)), (h_1, .inl (a_h_1, 100, .inl f_h_1)), (h_0_2, .inl (a_h_0_2, 40, .inl f_h_0_2)), (h_0_7, .inl (a_h_0_7, 40, .inl f_h_0_7)), (h_0_6, .inl (a_h_0_6, 40, .inl f_h_0_6))] H A s.heap locs ∧ lv_has ls 4 [(2, .int v21), (0, .ref h), (1, .int x0)]) (fun (_ : Unit) ls => F0 m 184 ls []) (fun _ H locs ls hi => ?_) (fun J184 => ?_)
        · obtain ⟨Wd, hl⟩ := hi
          refine lv_iload_n C.1 C.2.1 dX3_doStatement_184 rfl (lv_at hl 0 rfl) ?_
          refine k_pi (k_runS (rest := []) C aks Wd cs_X3_90 (sX8_isSet l D v21 _ ) [] rfl (by decide) [] rfl rfl rfl ⟨(Nat.le_of_ble_eq_true rfl), (Nat.le_of_ble_eq_true rfl)⟩ hl.1 rfl rfl (Nat.le_of_ble_eq_true rfl) ⟨(Nat.le_of_ble_eq_true rfl), (Nat.le_of_ble_eq_true rfl)⟩ dX3_doStatement_185) (fun r185 w185 => ?_)
          rcases w185 with rfl | ⟨g185_1_0, g185_1_1, rfl⟩
          · refine lv_if_eq (tgt := 206) C.1 C.2.1 dX3_doStatement_188 (by decide) (fun _ => ?_) (fun c188 => absurd c188 (by decide))
            exact J206 (h_2, f_h_1, f_h_5) _ _ _ ⟨by omega, by omega, by omega, by omega, Wd, lv_sub hl [0, 1, 2] rfl⟩
          · have g185_1_0 : 100 ≤ v21.toInt := g185_1_0
            have g185_1_1 : v21.toInt ≤ 105 := g185_1_1
            refine lv_if_eq (tgt := 206) C.1 C.2.1 dX3_doStatement_188 (by decide) (fun c188 => absurd c188 (by decide)) (fun _ => ?_)
            refine lv_aload_n C.1 C.2.1 dX3_doStatement_191 rfl (lv_at hl 1 rfl) ?_
            refine k_get C Wd KX3 0 5 rfl (by decide) fl_X3_22 rfl dX3_doStatement_192 ?_
            refine lv_iload_n C.1 C.2.1 dX3_doStatement_195 rfl (lv_at hl 0 rfl) ?_
            refine lv_bipush (v := 100) C.1 C.2.1 dX3_doStatement_196 (by decide) ?_
            obtain ⟨v198, ev198⟩ : ∃ z : Int32, v21 - 100 = z := ⟨_, rfl⟩
            have iv198 : v198.toInt = v21.toInt - 100 := kz_subc ev198 (by decide) (by have zr0 := kz_rng v21; omega) (by have zr0 := kz_rng v21; omega)
            refine k_isub (v := v198) C ev198 dX3_doStatement_198 ?_
            refine lv_aload_n C.1 C.2.1 dX3_doStatement_199 rfl (lv_at hl 1 rfl) ?_
            refine k_get C Wd KX3 0 6 rfl (by decide) fl_X3_25 rfl dX3_doStatement_200 ?_
            refine lv_iconst (v := 0) C.1 C.2.1 dX3_doStatement_203 (by decide) ?_
            obtain ⟨v204, ev204⟩ : ∃ z : Int32, s65_0 (0 : Int32).toNatClampNeg = z := ⟨_, rfl⟩
            refine k_iald (v := v204) C Wd 7 4 rfl rfl (vp_in_iff.mpr (by decide)) ev204 dX3_doStatement_204 ?_
            obtain ⟨f205, ef205⟩ : ∃ z : Nat → Int32, upd f_h_5 v198.toNatClampNeg v204 = z := ⟨_, rfl⟩
            refine k_iast C Wd 8 5 [(h, .inr (3, [.ref h_0, .ref h_1, .int h_2, .int h_3, .int h_4, .ref h_5, .ref h_6])), (h_0, .inr (1, [.ref h_0_0, .int h_0_1, .ref h_0_2, .ref h_0_3, .ref h_0_4, .ref h_0_5, .ref h_0_6, .ref h_0_7, .ref h_0_8, .ref h_0_9, .ref h_0_10, .ref h_0_11, .ref h_0_12, .ref h_0_13])), (h_0_3, .inl (a_h_0_3, 40, .inl f_h_0_3)), (h_0_4, .inl (a_h_0_4, 40, .inl f_h_0_4)), (h_0_5, .inl (a_h_0_5, 40, .inl f_h_0_5)), (h_0_0, .inr (8, [.ref h_0_0_0, .int h_0_0_1])), (h_0_0_0, .inl (a_h_0_0_0, n_h_0_0_0, .inl f_h_0_0_0)), (h_6, .inl (a_h_6, 300, .inl s65_0)), (h_5, .inl (a_h_5, 6, .inl f205)), (h_1, .inl (a_h_1, 100, .inl f_h_1)), (h_0_2, .inl (a_h_0_2, 40, .inl f_h_0_2)), (h_0_7, .inl (a_h_0_7, 40, .inl f_h_0_7)), (h_0_6, .inl (a_h_0_6, 40, .inl f_h_0_6))] rfl rfl (vp_in_iff.mpr ⟨by omega, by omega⟩) ef205 rfl dX3_doStatement_205 (fun H locs Wd => ?_)
            exact J206 (h_2, f_h_1, f205) _ _ _ ⟨by omega, by omega, by omega, by omega, Wd, lv_sub hl [0, 1, 2] rfl⟩
        refine lv_icmp_ne (tgt := 184) C.1 C.2.1 dX3_doStatement_141 (by decide) (fun c141 => ?_) (fun c141 => ?_)
        · have i141 : ¬ v21.toInt = 110 := kz_ne c141
          exact J184 () _ _ _ ⟨Wd, lv_sub hl [0, 1, 2] rfl⟩
        · have i141 : v21.toInt = 110 := kz_eq c141
          refine lv_aload_n C.1 C.2.1 dX3_doStatement_144 rfl (lv_at hl 1 rfl) ?_
          refine k_get C Wd KX3 0 2 rfl (by decide) fl_X3_28 rfl dX3_doStatement_145 ?_
          refine lv_aload_n C.1 C.2.1 dX3_doStatement_148 rfl (lv_at hl 1 rfl) ?_
          refine k_get C Wd KX3 0 1 rfl (by decide) fl_X3_18 rfl dX3_doStatement_149 ?_
          refine k_alen (v := 100) C Wd 9 6 rfl rfl rfl dX3_doStatement_152 ?_
          refine lv_icmp_ge (tgt := 184) C.1 C.2.1 dX3_doStatement_153 (by decide) (fun c153 => ?_) (fun c153 => ?_)
          · have i153 : 100 ≤ h_2.toInt := kz_le c153
            exact J184 () _ _ _ ⟨Wd, lv_sub hl [0, 1, 2] rfl⟩
          · have i153 : h_2.toInt < 100 := kz_nle c153
            refine lv_aload_n C.1 C.2.1 dX3_doStatement_156 rfl (lv_at hl 1 rfl) ?_
            refine k_get C Wd KX3 0 1 rfl (by decide) fl_X3_18 rfl dX3_doStatement_157 ?_
            refine lv_aload_n C.1 C.2.1 dX3_doStatement_160 rfl (lv_at hl 1 rfl) ?_
            refine k_get C Wd KX3 0 2 rfl (by decide) fl_X3_28 rfl dX3_doStatement_161 ?_
            refine lv_aload_n C.1 C.2.1 dX3_doStatement_164 rfl (lv_at hl 1 rfl) ?_
            refine k_get C Wd KX3 0 6 rfl (by decide) fl_X3_25 rfl dX3_doStatement_165 ?_
            refine lv_iconst (v := 0) C.1 C.2.1 dX3_doStatement_168 (by decide) ?_
            obtain ⟨v169, ev169⟩ : ∃ z : Int32, s65_0 (0 : Int32).toNatClampNeg = z := ⟨_, rfl⟩
            refine k_iald (v := v169) C Wd 7 4 rfl rfl (vp_in_iff.mpr (by decide)) ev169 dX3_doStatement_169 ?_
            obtain ⟨f170, ef170⟩ : ∃ z : Nat → Int32, upd f_h_1 h_2.toNatClampNeg v169 = z := ⟨_, rfl⟩
            refine k_iast C Wd 9 6 [(h, .inr (3, [.ref h_0, .ref h_1, .int h_2, .int h_3, .int h_4, .ref h_5, .ref h_6])), (h_0, .inr (1, [.ref h_0_0, .int h_0_1, .ref h_0_2, .ref h_0_3, .ref h_0_4, .ref h_0_5, .ref h_0_6, .ref h_0_7, .ref h_0_8, .ref h_0_9, .ref h_0_10, .ref h_0_11, .ref h_0_12, .ref h_0_13])), (h_0_3, .inl (a_h_0_3, 40, .inl f_h_0_3)), (h_0_4, .inl (a_h_0_4, 40, .inl f_h_0_4)), (h_0_5, .inl (a_h_0_5, 40, .inl f_h_0_5)), (h_0_0, .inr (8, [.ref h_0_0_0, .int h_0_0_1])), (h_0_0_0, .inl (a_h_0_0_0, n_h_0_0_0, .inl f_h_0_0_0)), (h_6, .inl (a_h_6, 300, .inl s65_0)), (h_5, .inl (a_h_5, 6, .inl f_h_5)), (h_1, .inl (a_h_1, 100, .inl f170)), (h_0_2, .inl (a_h_0_2, 40, .inl f_h_0_2)), (h_0_7, .inl (a_h_0_7, 40, .inl f_h_0_7)), (h_0_6, .inl (a_h_0_6, 40, .inl f_h_0_6))] rfl rfl (vp_in_iff.mpr ⟨by omega, by omega⟩) ef170 rfl dX3_doStatement_170 (fun H locs Wd => ?_)
            refine lv_aload_n C.1 C.2.1 dX3_doStatement_171 rfl (lv_at hl 1 rfl) ?_
            refine lv_dup C.1 C.2.1 dX3_doStatement_172 rfl ?_
            refine k_get C Wd KX3 0 2 rfl (by decide) fl_X3_28 rfl dX3_doStatement_173 ?_
            refine lv_iconst (v := 1) C.1 C.2.1 dX3_doStatement_176 (by decide) ?_
            obtain ⟨v177, ev177⟩ : ∃ z : Int32, h_2 + 1 = z := ⟨_, rfl⟩
            have iv177 : v177.toInt = h_2.toInt + 1 := kz_addc ev177 (by decide) (by have zr0 := kz_rng h_2; omega) (by have zr0 := kz_rng h_2; omega)
            refine k_iadd (v := v177) C ev177 dX3_doStatement_177 ?_
            refine k_put C Wd KX3 0 2 [(h, .inr (3, [.ref h_0, .ref h_1, .int v177, .int h_3, .int h_4, .ref h_5, .ref h_6])), (h_0, .inr (1, [.ref h_0_0, .int h_0_1, .ref h_0_2, .ref h_0_3, .ref h_0_4, .ref h_0_5, .ref h_0_6, .ref h_0_7, .ref h_0_8, .ref h_0_9, .ref h_0_10, .ref h_0_11, .ref h_0_12, .ref h_0_13])), (h_0_3, .inl (a_h_0_3, 40, .inl f_h_0_3)), (h_0_4, .inl (a_h_0_4, 40, .inl f_h_0_4)), (h_0_5, .inl (a_h_0_5, 40, .inl f_h_0_5)), (h_0_0, .inr (8, [.ref h_0_0_0, .int h_0_0_1])), (h_0_0_0, .inl (a_h_0_0_0, n_h_0_0_0, .inl f_h_0_0_0)), (h_6, .inl (a_h_6, 300, .inl s65_0)), (h_5, .inl (a_h_5, 6, .inl f_h_5)), (h_1, .inl (a_h_1, 100, .inl f170)), (h_0_2, .inl (a_h_0_2, 40, .inl f_h_0_2)), (h_0_7, .inl (a_h_0_7, 40, .inl f_h_0_7)), (h_0_6, .inl (a_h_0_6, 40, .inl f_h_0_6))] rfl (by decide) fl_X3_28 rfl rfl rfl (Nat.le_of_ble_eq_true rfl) rfl dX3_doStatement_178 (fun H locs Wd => ?_)
            refine lv_goto (tgt := 206) C.1 C.2.1 dX3_doStatement_181 (by decide) ?_
            exact J206 (v177, f170, f_h_5) _ _ _ ⟨by omega, by omega, by omega, by omega, Wd, lv_sub hl [0, 1, 2] rfl⟩
      · have i72 : ¬ r69.toInt = 0 := kz_ne c72
        refine lv_aload_n C.1 C.2.1 dX3_doStatement_75 rfl (lv_at hl 1 rfl) ?_
        refine k_get C Wd KX3 0 0 rfl (by decide) fl_X3_12 rfl dX3_doStatement_76 ?_
        refine k_get C Wd KX1 1 0 rfl (by decide) fl_X3_55 rfl dX3_doStatement_79 ?_
        refine lv_aload_n C.1 C.2.1 dX3_doStatement_82 rfl (lv_at hl 1 rfl) ?_
        refine k_get C Wd KX3 0 0 rfl (by decide) fl_X3_12 rfl dX3_doStatement_83 ?_
        refine k_get C Wd KX1 1 2 rfl (by decide) fl_X3_74 rfl dX3_doStatement_86 ?_
        refine lv_iload_n C.1 C.2.1 dX3_doStatement_89 rfl (lv_at hl 2 rfl) ?_
        obtain ⟨v90, ev90⟩ : ∃ z : Int32, f_h_0_2 x0.toNatClampNeg = z := ⟨_, rfl⟩
        refine k_iald (v := v90) C Wd 10 7 rfl rfl (vp_in_iff.mpr ⟨by omega, by omega⟩) ev90 dX3_doStatement_90 ?_
        refine lv_iconst (v := 1) C.1 C.2.1 dX3_doStatement_91 (by decide) ?_
        obtain ⟨v92, ev92⟩ : ∃ z : Int32, v90 + 1 = z := ⟨_, rfl⟩
        refine k_iadd (v := v92) C ev92 dX3_doStatement_92 ?_
        refine k_pi (k_runV (rest := []) C aks Wd cs_X3_77 (sX8_cell l D h_0_0 v92 h_0_0_0 h_0_0_1 n_h_0_0_0 a_h_0_0_0 f_h_0_0_0 _ (by omega) (by omega) (by omega) (by omega)) [5, 6] rfl (by decide) [3] rfl 5 8 rfl rfl rfl rfl rfl ⟨(Nat.le_of_ble_eq_true rfl), (Nat.le_of_ble_eq_true rfl)⟩ hl.1 rfl rfl (Nat.le_of_ble_eq_true rfl) ⟨(Nat.le_of_ble_eq_true rfl), (Nat.le_of_ble_eq_true rfl)⟩ dX3_doStatement_93) (fun r93 w93 => ?_)
        refine lv_aload_n C.1 C.2.1 dX3_doStatement_96 rfl (lv_at hl 1 rfl) ?_
        refine k_get C Wd KX3 0 6 rfl (by decide) fl_X3_25 rfl dX3_doStatement_97 ?_
        refine lv_iconst (v := 1) C.1 C.2.1 dX3_doStatement_100 (by decide) ?_
        obtain ⟨v101, ev101⟩ : ∃ z : Int32, s65_0 (1 : Int32).toNatClampNeg = z := ⟨_, rfl⟩
        refine k_iald (v := v101) C Wd 7 4 rfl rfl (vp_in_iff.mpr (by decide)) ev101 dX3_doStatement_101 ?_
        refine lv_aload_n C.1 C.2.1 dX3_doStatement_102 rfl (lv_at hl 1 rfl) ?_
        refine k_get C Wd KX3 0 6 rfl (by decide) fl_X3_25 rfl dX3_doStatement_103 ?_
        refine lv_iconst (v := 0) C.1 C.2.1 dX3_doStatement_106 (by decide) ?_
        obtain ⟨v107, ev107⟩ : ∃ z : Int32, s65_0 (0 : Int32).toNatClampNeg = z := ⟨_, rfl⟩
        refine k_iald (v := v107) C Wd 7 4 rfl rfl (vp_in_iff.mpr (by decide)) ev107 dX3_doStatement_107 ?_
        refine k_pi (k_runS (rest := []) C aks Wd cs_X3_80 (sX8_holds l D r93 v101 v107 _ ) [] rfl (by decide) [] rfl rfl rfl ⟨(Nat.le_of_ble_eq_true rfl), (Nat.le_of_ble_eq_true rfl)⟩ hl.1 rfl rfl (Nat.le_of_ble_eq_true rfl) ⟨(Nat.le_of_ble_eq_true rfl), (Nat.le_of_ble_eq_true rfl)⟩ dX3_doStatement_108) (fun r108 w108 => ?_)
        obtain ⟨g108_0, g108_1⟩ := w108
        have g108_0 : 0 ≤ r108.toInt := g108_0
        have g108_1 : r108.toInt ≤ 1 := g108_1
        refine lv_istore_n (lv' := [(3, .int r108), (2, .int v21), (0, .ref h), (1, .int x0)]) C.1 C.2.1 dX3_doStatement_111 rfl hl (by decide) rfl (fun ls hl => ?_)
        refine lv_iload_n C.1 C.2.1 dX3_doStatement_112 rfl (lv_at hl 0 rfl) ?_
        refine k_cutA (fun (j137_S_0 : Int32) H locs ls => wX D [(a_h_0_3, .int), (a_h_0_4, .int), (a_h_0_5, .int), (a_h_0_0_0, .int), (a_h_6, .int), (a_h_5, .int), (a_h_1, .int), (a_h_0_2, .int), (a_h_0_7, .int), (a_h_0_6, .int)] s [(h, .inr (3, [.ref h_0, .ref h_1, .int h_2, .int h_3, .int h_4, .ref h_5, .ref h_6])), (h_0, .inr (1, [.ref h_0_0, .int h_0_1, .ref h_0_2, .ref h_0_3, .ref h_0_4, .ref h_0_5, .ref h_0_6, .ref h_0_7, .ref h_0_8, .ref h_0_9, .ref h_0_10, .ref h_0_11, .ref h_0_12, .ref h_0_13])), (h_0_3, .inl (a_h_0_3, 40, .inl f_h_0_3)), (h_0_4, .inl (a_h_0_4, 40, .inl f_h_0_4)), (h_0_5, .inl (a_h_0_5, 40, .inl f_h_0_5)), (h_0_0, .inr (8, [.ref h_0_0_0, .int h_0_0_1])), (h_0_0_0, .inl (a_h_0_0_0, n_h_0_0_0, .inl f_h_0_0_0)), (h_6, .inl (a_h_6, 300, .inl s65_0)), (h_5, .inl (a_h_5, 6, .inl f_h_5)), (h_1, .inl (a_h_1, 100, .inl f_h_1)), (h_0_2, .inl (a_h_0_2, 40, .inl f_h_0_2)), (h_0_7, .inl (a_h_0_7, 40, .inl f_h_0_7)), (h_0_6, .inl (a_h_0_6, 40, .inl f_h_0_6))] H A s.heap locs ∧ lv_has ls 4 [(3, .int r108), (2, .int v21), (0, .ref h), (1, .int x0)]) (fun (j137_S_0 : Int32) ls => F0 m 137 ls [.int j137_S_0]) (fun j137_S_0 H locs ls hi => ?_) (fun J137 => ?_)
        · obtain ⟨Wd, hl⟩ := hi
          exact k_zret C hr hlk rfl Wd (s65_0, h_2, f_h_5, f_h_1) (by exact ⟨by omega, by omega, by omega, by omega⟩) [0, 1, 2, 3, 4, 5, 6, 7, 8, 9, 10, 11, 12] rfl (by decide) [] rfl (by decide) (by decide) dX3_doStatement_137
        refine lv_if_eq (tgt := 128) C.1 C.2.1 dX3_doStatement_113 (by decide) (fun c113 => ?_) (fun c113 => ?_)
        · have i113 : r108.toInt = 0 := kz_eq c113
          refine lv_aload_n C.1 C.2.1 dX3_doStatement_128 rfl (lv_at hl 2 rfl) ?_
          refine k_get C Wd KX3 0 0 rfl (by decide) fl_X3_12 rfl dX3_doStatement_129 ?_
          refine k_get C Wd KX1 1 7 rfl (by decide) fl_X3_87 rfl dX3_doStatement_132 ?_
          refine lv_iload_n C.1 C.2.1 dX3_doStatement_135 rfl (lv_at hl 3 rfl) ?_
          obtain ⟨v136, ev136⟩ : ∃ z : Int32, f_h_0_7 x0.toNatClampNeg = z := ⟨_, rfl⟩
          refine k_iald (v := v136) C Wd 11 8 rfl rfl (vp_in_iff.mpr ⟨by omega, by omega⟩) ev136 dX3_doStatement_136 ?_
          exact J137 v136 _ _ _ ⟨Wd, lv_sub hl [0, 1, 2, 3] rfl⟩
        · have i113 : ¬ r108.toInt = 0 := kz_ne c113
          refine lv_aload_n C.1 C.2.1 dX3_doStatement_116 rfl (lv_at hl 2 rfl) ?_
          refine k_get C Wd KX3 0 0 rfl (by decide) fl_X3_12 rfl dX3_doStatement_117 ?_
          refine k_get C Wd KX1 1 6 rfl (by decide) fl_X3_84 rfl dX3_doStatement_120 ?_
          refine lv_iload_n C.1 C.2.1 dX3_doStatement_123 rfl (lv_at hl 3 rfl) ?_
          obtain ⟨v124, ev124⟩ : ∃ z : Int32, f_h_0_6 x0.toNatClampNeg = z := ⟨_, rfl⟩
          refine k_iald (v := v124) C Wd 12 9 rfl rfl (vp_in_iff.mpr ⟨by omega, by omega⟩) ev124 dX3_doStatement_124 ?_
          refine lv_goto (tgt := 137) C.1 C.2.1 dX3_doStatement_125 (by decide) ?_
          exact J137 v124 _ _ _ ⟨Wd, lv_sub hl [0, 1, 2, 3] rfl⟩
    · have i26 : v21.toInt = 111 := kz_eq c26
      refine lv_bipush (v := (-2)) C.1 C.2.1 dX3_doStatement_29 (by decide) ?_
      exact k_zret C hr hlk rfl Wd (f_h_6, h_2, f_h_5, f_h_1) (by exact ⟨by omega, by omega, by omega, by omega⟩) [0, 1, 2, 3, 4, 5, 6, 7, 8, 9, 10, 11, 12] rfl (by decide) [] rfl (by decide) (by decide) dX3_doStatement_31
set_option maxHeartbeats 4000000 in
set_option maxRecDepth 100000 in
theorem sX3_go (l : Launch) (D : va_G) (h : Nat) (x0 : Int32) (x1 : Int32) (h_0 : Nat) (h_1 : Nat) (h_2 : Int32) (h_3 : Int32) (h_4 : Int32) (h_5 : Nat) (h_6 : Nat) (a_h_5 : ClassId) (f_h_5 : Nat → Int32) (h_0_0 : Nat) (h_0_1 : Int32) (h_0_2 : Nat) (h_0_3 : Nat) (h_0_4 : Nat) (h_0_5 : Nat) (h_0_6 : Nat) (h_0_7 : Nat) (h_0_8 : Nat) (h_0_9 : Nat) (h_0_10 : Nat) (h_0_11 : Nat) (h_0_12 : Nat) (h_0_13 : Nat) (a_h_0_3 : ClassId) (f_h_0_3 : Nat → Int32) (a_h_0_4 : ClassId) (f_h_0_4 : Nat → Int32) (a_h_0_5 : ClassId) (f_h_0_5 : Nat → Int32) (h_0_0_0 : Nat) (h_0_0_1 : Int32) (n_h_0_0_0 : Nat) (a_h_0_0_0 : ClassId) (f_h_0_0_0 : Nat → Int32) (a_h_6 : ClassId) (f_h_6 : Nat → Int32) (a_h_1 : ClassId) (f_h_1 : Nat → Int32) (a_h_0_2 : ClassId) (f_h_0_2 : Nat → Int32) (a_h_0_7 : ClassId) (f_h_0_7 : Nat → Int32) (a_h_0_6 : ClassId) (f_h_0_6 : Nat → Int32) (sz : Nat) (k_h_2_lo : 0 ≤ h_2.toInt) (k_h_2_hi : h_2.toInt ≤ 100) (k_h_0_1_lo : 0 ≤ h_0_1.toInt) (k_h_0_1_hi : h_0_1.toInt ≤ 40) (k_h_0_0_1_lo : 0 ≤ h_0_0_1.toInt) (k_n_h_0_0_0 : n_h_0_0_0 ≤ 1000) (k_p_h_0_0_0 : 1 ≤ n_h_0_0_0) (k_h_0_0_1_hi : h_0_0_1.toInt ≤ (n_h_0_0_0 : Int)) (q_f_h_0_4 : ∀ j : Nat, 0 ≤ (f_h_0_4 j).toInt ∧ (f_h_0_4 j).toInt ≤ 2000) (q_f_h_0_5 : ∀ j : Nat, 0 ≤ (f_h_0_5 j).toInt ∧ (f_h_0_5 j).toInt ≤ 2000) : Met l yX3_go (Cond.code yX3_go cX3_go 4 none :: gG) { frames := 4, cells := 0, slots := 0, locals := 138 } (cPre D [(a_h_5, .int), (a_h_0_3, .int), (a_h_0_4, .int), (a_h_0_5, .int), (a_h_0_0_0, .int), (a_h_6, .int), (a_h_1, .int), (a_h_0_2, .int), (a_h_0_7, .int), (a_h_0_6, .int)] [(h, .inr (3, [.ref h_0, .ref h_1, .int h_2, .int h_3, .int h_4, .ref h_5, .ref h_6])), (h_5, .inl (a_h_5, 6, .inl f_h_5)), (h_0, .inr (1, [.ref h_0_0, .int h_0_1, .ref h_0_2, .ref h_0_3, .ref h_0_4, .ref h_0_5, .ref h_0_6, .ref h_0_7, .ref h_0_8, .ref h_0_9, .ref h_0_10, .ref h_0_11, .ref h_0_12, .ref h_0_13])), (h_0_3, .inl (a_h_0_3, 40, .inl f_h_0_3)), (h_0_4, .inl (a_h_0_4, 40, .inl f_h_0_4)), (h_0_5, .inl (a_h_0_5, 40, .inl f_h_0_5)), (h_0_0, .inr (8, [.ref h_0_0_0, .int h_0_0_1])), (h_0_0_0, .inl (a_h_0_0_0, n_h_0_0_0, .inl f_h_0_0_0)), (h_6, .inl (a_h_6, 300, .inl f_h_6)), (h_1, .inl (a_h_1, 100, .inl f_h_1)), (h_0_2, .inl (a_h_0_2, 40, .inl f_h_0_2)), (h_0_7, .inl (a_h_0_7, 40, .inl f_h_0_7)), (h_0_6, .inl (a_h_0_6, 40, .inl f_h_0_6))] sz [.ref h, .int x0, .int x1]) (va_Qv (fun (u : (Int32) × (Int32) × (Int32) × (Nat → Int32) × (Nat → Int32) × (Nat → Int32)) => match u with | (jX_F_h_2, jX_F_h_3, jX_F_h_4, jX_C_h_5, jX_C_h_6, jX_C_h_1) => 0 ≤ jX_F_h_2.toInt ∧ 0 ≤ jX_F_h_3.toInt ∧ 0 ≤ jX_F_h_4.toInt ∧ jX_F_h_4.toInt ≤ 2 ∧ jX_F_h_2.toInt ≤ 100 ∧ jX_F_h_3.toInt ≤ 100 ∧ jX_F_h_2.toInt ≤ jX_F_h_3.toInt) (fun u t => cB D (va_A [(h, .inr (3, [.ref h_0, .ref h_1, .int h_2, .int h_3, .int h_4, .ref h_5, .ref h_6])), (h_5, .inl (a_h_5, 6, .inl f_h_5)), (h_0, .inr (1, [.ref h_0_0, .int h_0_1, .ref h_0_2, .ref h_0_3, .ref h_0_4, .ref h_0_5, .ref h_0_6, .ref h_0_7, .ref h_0_8, .ref h_0_9, .ref h_0_10, .ref h_0_11, .ref h_0_12, .ref h_0_13])), (h_0_3, .inl (a_h_0_3, 40, .inl f_h_0_3)), (h_0_4, .inl (a_h_0_4, 40, .inl f_h_0_4)), (h_0_5, .inl (a_h_0_5, 40, .inl f_h_0_5)), (h_0_0, .inr (8, [.ref h_0_0_0, .int h_0_0_1])), (h_0_0_0, .inl (a_h_0_0_0, n_h_0_0_0, .inl f_h_0_0_0)), (h_6, .inl (a_h_6, 300, .inl f_h_6)), (h_1, .inl (a_h_1, 100, .inl f_h_1)), (h_0_2, .inl (a_h_0_2, 40, .inl f_h_0_2)), (h_0_7, .inl (a_h_0_7, 40, .inl f_h_0_7)), (h_0_6, .inl (a_h_0_6, 40, .inl f_h_0_6))] sz) ((fun (_ : (Int32) × (Int32) × (Int32) × (Nat → Int32) × (Nat → Int32) × (Nat → Int32)) => ([] : List (ClassId × FieldType))) u) ((fun (u : (Int32) × (Int32) × (Int32) × (Nat → Int32) × (Nat → Int32) × (Nat → Int32)) => match u with | (jX_F_h_2, jX_F_h_3, jX_F_h_4, jX_C_h_5, jX_C_h_6, jX_C_h_1) => ([(h, .inr (3, [.ref h_0, .ref h_1, .int jX_F_h_2, .int jX_F_h_3, .int jX_F_h_4, .ref h_5, .ref h_6])), (h_5, .inl (a_h_5, 6, .inl jX_C_h_5)), (h_0, .inr (1, [.ref h_0_0, .int h_0_1, .ref h_0_2, .ref h_0_3, .ref h_0_4, .ref h_0_5, .ref h_0_6, .ref h_0_7, .ref h_0_8, .ref h_0_9, .ref h_0_10, .ref h_0_11, .ref h_0_12, .ref h_0_13])), (h_0_3, .inl (a_h_0_3, 40, .inl f_h_0_3)), (h_0_4, .inl (a_h_0_4, 40, .inl f_h_0_4)), (h_0_5, .inl (a_h_0_5, 40, .inl f_h_0_5)), (h_0_0, .inr (8, [.ref h_0_0_0, .int h_0_0_1])), (h_0_0_0, .inl (a_h_0_0_0, n_h_0_0_0, .inl f_h_0_0_0)), (h_6, .inl (a_h_6, 300, .inl jX_C_h_6)), (h_1, .inl (a_h_1, 100, .inl jX_C_h_1)), (h_0_2, .inl (a_h_0_2, 40, .inl f_h_0_2)), (h_0_7, .inl (a_h_0_7, 40, .inl f_h_0_7)), (h_0_6, .inl (a_h_0_6, 40, .inl f_h_0_6))] : va_W)) u) t) (va_A [(h, .inr (3, [.ref h_0, .ref h_1, .int h_2, .int h_3, .int h_4, .ref h_5, .ref h_6])), (h_5, .inl (a_h_5, 6, .inl f_h_5)), (h_0, .inr (1, [.ref h_0_0, .int h_0_1, .ref h_0_2, .ref h_0_3, .ref h_0_4, .ref h_0_5, .ref h_0_6, .ref h_0_7, .ref h_0_8, .ref h_0_9, .ref h_0_10, .ref h_0_11, .ref h_0_12, .ref h_0_13])), (h_0_3, .inl (a_h_0_3, 40, .inl f_h_0_3)), (h_0_4, .inl (a_h_0_4, 40, .inl f_h_0_4)), (h_0_5, .inl (a_h_0_5, 40, .inl f_h_0_5)), (h_0_0, .inr (8, [.ref h_0_0_0, .int h_0_0_1])), (h_0_0_0, .inl (a_h_0_0_0, n_h_0_0_0, .inl f_h_0_0_0)), (h_6, .inl (a_h_6, 300, .inl f_h_6)), (h_1, .inl (a_h_1, 100, .inl f_h_1)), (h_0_2, .inl (a_h_0_2, 40, .inl f_h_0_2)), (h_0_7, .inl (a_h_0_7, 40, .inl f_h_0_7)), (h_0_6, .inl (a_h_0_6, 40, .inl f_h_0_6))] sz)) 0 0 (va_A [(h, .inr (3, [.ref h_0, .ref h_1, .int h_2, .int h_3, .int h_4, .ref h_5, .ref h_6])), (h_5, .inl (a_h_5, 6, .inl f_h_5)), (h_0, .inr (1, [.ref h_0_0, .int h_0_1, .ref h_0_2, .ref h_0_3, .ref h_0_4, .ref h_0_5, .ref h_0_6, .ref h_0_7, .ref h_0_8, .ref h_0_9, .ref h_0_10, .ref h_0_11, .ref h_0_12, .ref h_0_13])), (h_0_3, .inl (a_h_0_3, 40, .inl f_h_0_3)), (h_0_4, .inl (a_h_0_4, 40, .inl f_h_0_4)), (h_0_5, .inl (a_h_0_5, 40, .inl f_h_0_5)), (h_0_0, .inr (8, [.ref h_0_0_0, .int h_0_0_1])), (h_0_0_0, .inl (a_h_0_0_0, n_h_0_0_0, .inl f_h_0_0_0)), (h_6, .inl (a_h_6, 300, .inl f_h_6)), (h_1, .inl (a_h_1, 100, .inl f_h_1)), (h_0_2, .inl (a_h_0_2, 40, .inl f_h_0_2)), (h_0_7, .inl (a_h_0_7, 40, .inl f_h_0_7)), (h_0_6, .inl (a_h_0_6, 40, .inl f_h_0_6))] sz) := by
  refine Met.ofW (cc := cX3_go) (maxL := 4) (ret := none) (by decide) rfl ?_
  intro p e s m args below meth c s₁ B hml hv
  obtain ⟨rfl, aks, rfl, Wd⟩ := k_enter hv
  have C : CallFix p m c cX3_go 4 s _ gG RX3 := ⟨B.exec, B.bytes, hml, findClass_of_methodNamed B.named, fun w h => atoms_spec (ws := Cond.code yX3_go cX3_go 4 none :: gG) B.pre w (List.mem_cons_of_mem _ h)⟩
  have hr := B.returns
  have hlk := B.notSynchronized
  generalize va_A [(h, .inr (3, [.ref h_0, .ref h_1, .int h_2, .int h_3, .int h_4, .ref h_5, .ref h_6])), (h_5, .inl (a_h_5, 6, .inl f_h_5)), (h_0, .inr (1, [.ref h_0_0, .int h_0_1, .ref h_0_2, .ref h_0_3, .ref h_0_4, .ref h_0_5, .ref h_0_6, .ref h_0_7, .ref h_0_8, .ref h_0_9, .ref h_0_10, .ref h_0_11, .ref h_0_12, .ref h_0_13])), (h_0_3, .inl (a_h_0_3, 40, .inl f_h_0_3)), (h_0_4, .inl (a_h_0_4, 40, .inl f_h_0_4)), (h_0_5, .inl (a_h_0_5, 40, .inl f_h_0_5)), (h_0_0, .inr (8, [.ref h_0_0_0, .int h_0_0_1])), (h_0_0_0, .inl (a_h_0_0_0, n_h_0_0_0, .inl f_h_0_0_0)), (h_6, .inl (a_h_6, 300, .inl f_h_6)), (h_1, .inl (a_h_1, 100, .inl f_h_1)), (h_0_2, .inl (a_h_0_2, 40, .inl f_h_0_2)), (h_0_7, .inl (a_h_0_7, 40, .inl f_h_0_7)), (h_0_6, .inl (a_h_0_6, 40, .inl f_h_0_6))] s.heap.size = A at Wd ⊢
  refine k_locals (Nat.le_of_ble_eq_true rfl) [(0, .ref h), (1, .int x0), (2, .int x1)] rfl (fun ls hl => ?_)
  refine lv_iconst (v := 0) C.1 C.2.1 dX3_go_0 (by decide) ?_
  refine lv_istore_n (lv' := [(3, .int 0), (0, .ref h), (1, .int x0), (2, .int x1)]) C.1 C.2.1 dX3_go_1 rfl hl (by decide) rfl (fun ls hl => ?_)
  refine k_loopA (fun (u : (Nat → Int32) × (Int32)) H locs ls => match u with | (j2_C_h_5, j2_L_3) => 0 ≤ j2_L_3.toInt ∧ j2_L_3.toInt ≤ 6 ∧ wX D [(a_h_5, .int), (a_h_0_3, .int), (a_h_0_4, .int), (a_h_0_5, .int), (a_h_0_0_0, .int), (a_h_6, .int), (a_h_1, .int), (a_h_0_2, .int), (a_h_0_7, .int), (a_h_0_6, .int)] s [(h, .inr (3, [.ref h_0, .ref h_1, .int h_2, .int h_3, .int h_4, .ref h_5, .ref h_6])), (h_5, .inl (a_h_5, 6, .inl j2_C_h_5)), (h_0, .inr (1, [.ref h_0_0, .int h_0_1, .ref h_0_2, .ref h_0_3, .ref h_0_4, .ref h_0_5, .ref h_0_6, .ref h_0_7, .ref h_0_8, .ref h_0_9, .ref h_0_10, .ref h_0_11, .ref h_0_12, .ref h_0_13])), (h_0_3, .inl (a_h_0_3, 40, .inl f_h_0_3)), (h_0_4, .inl (a_h_0_4, 40, .inl f_h_0_4)), (h_0_5, .inl (a_h_0_5, 40, .inl f_h_0_5)), (h_0_0, .inr (8, [.ref h_0_0_0, .int h_0_0_1])), (h_0_0_0, .inl (a_h_0_0_0, n_h_0_0_0, .inl f_h_0_0_0)), (h_6, .inl (a_h_6, 300, .inl f_h_6)), (h_1, .inl (a_h_1, 100, .inl f_h_1)), (h_0_2, .inl (a_h_0_2, 40, .inl f_h_0_2)), (h_0_7, .inl (a_h_0_7, 40, .inl f_h_0_7)), (h_0_6, .inl (a_h_0_6, 40, .inl f_h_0_6))] H A s.heap locs ∧ lv_has ls 4 [(3, .int j2_L_3), (0, .ref h), (1, .int x0), (2, .int x1)]) (fun (u : (Nat → Int32) × (Int32)) ls => match u with | (j2_C_h_5, j2_L_3) => F0 m 2 ls []) (fun (u : (Nat → Int32) × (Int32)) => match u with | (j2_C_h_5, j2_L_3) => (7 - j2_L_3.toInt).toNat) (fun u H locs ls hi ih2 => ?_) (f_h_5, 0) _ _ _ ⟨by have zq0 : (0 : Int32).toInt = 0 := (by decide); omega, by have zq0 : (0 : Int32).toInt = 0 := (by decide); omega, Wd, lv_sub hl [0, 1, 2, 3] rfl⟩
  obtain ⟨j2_C_h_5, j2_L_3⟩ := u
  obtain ⟨i2_0, i2_1, Wd, hl⟩ := hi
  refine lv_iload_n C.1 C.2.1 dX3_go_2 rfl (lv_at hl 0 rfl) ?_
  refine lv_aload_n C.1 C.2.1 dX3_go_3 rfl (lv_at hl 1 rfl) ?_
  refine k_get C Wd KX3 0 5 rfl (by decide) fl_X3_22 rfl dX3_go_4 ?_
  refine k_alen (v := 6) C Wd 1 0 rfl rfl rfl dX3_go_7 ?_
  refine lv_icmp_ge (tgt := 41) C.1 C.2.1 dX3_go_8 (by decide) (fun c8 => ?_) (fun c8 => ?_)
  · have i8 : 6 ≤ j2_L_3.toInt := kz_le c8
    refine lv_aload_n C.1 C.2.1 dX3_go_41 rfl (lv_at hl 1 rfl) ?_
    refine lv_iconst (v := 0) C.1 C.2.1 dX3_go_42 (by decide) ?_
    refine k_put C Wd KX3 0 2 [(h, .inr (3, [.ref h_0, .ref h_1, .int 0, .int h_3, .int h_4, .ref h_5, .ref h_6])), (h_5, .inl (a_h_5, 6, .inl j2_C_h_5)), (h_0, .inr (1, [.ref h_0_0, .int h_0_1, .ref h_0_2, .ref h_0_3, .ref h_0_4, .ref h_0_5, .ref h_0_6, .ref h_0_7, .ref h_0_8, .ref h_0_9, .ref h_0_10, .ref h_0_11, .ref h_0_12, .ref h_0_13])), (h_0_3, .inl (a_h_0_3, 40, .inl f_h_0_3)), (h_0_4, .inl (a_h_0_4, 40, .inl f_h_0_4)), (h_0_5, .inl (a_h_0_5, 40, .inl f_h_0_5)), (h_0_0, .inr (8, [.ref h_0_0_0, .int h_0_0_1])), (h_0_0_0, .inl (a_h_0_0_0, n_h_0_0_0, .inl f_h_0_0_0)), (h_6, .inl (a_h_6, 300, .inl f_h_6)), (h_1, .inl (a_h_1, 100, .inl f_h_1)), (h_0_2, .inl (a_h_0_2, 40, .inl f_h_0_2)), (h_0_7, .inl (a_h_0_7, 40, .inl f_h_0_7)), (h_0_6, .inl (a_h_0_6, 40, .inl f_h_0_6))] rfl (by decide) fl_X3_28 rfl rfl rfl (Nat.le_of_ble_eq_true rfl) rfl dX3_go_43 (fun H locs Wd => ?_)
    refine lv_aload_n C.1 C.2.1 dX3_go_46 rfl (lv_at hl 1 rfl) ?_
    refine k_get C Wd KX3 0 0 rfl (by decide) fl_X3_12 rfl dX3_go_47 ?_
    refine k_get C Wd KX1 2 1 rfl (by decide) fl_X3_32 rfl dX3_go_50 ?_
    refine k_cutA (fun (j61_S_0 : Int32) H locs ls => j61_S_0.toInt ≤ 0 ∧ -1 ≤ j61_S_0.toInt ∧ j61_S_0.toInt + 1 ≤ h_0_1.toInt ∧ h_0_1.toInt ≤ j61_S_0.toInt + 40 ∧ wX D [(a_h_5, .int), (a_h_0_3, .int), (a_h_0_4, .int), (a_h_0_5, .int), (a_h_0_0_0, .int), (a_h_6, .int), (a_h_1, .int), (a_h_0_2, .int), (a_h_0_7, .int), (a_h_0_6, .int)] s [(h, .inr (3, [.ref h_0, .ref h_1, .int 0, .int h_3, .int h_4, .ref h_5, .ref h_6])), (h_5, .inl (a_h_5, 6, .inl j2_C_h_5)), (h_0, .inr (1, [.ref h_0_0, .int h_0_1, .ref h_0_2, .ref h_0_3, .ref h_0_4, .ref h_0_5, .ref h_0_6, .ref h_0_7, .ref h_0_8, .ref h_0_9, .ref h_0_10, .ref h_0_11, .ref h_0_12, .ref h_0_13])), (h_0_3, .inl (a_h_0_3, 40, .inl f_h_0_3)), (h_0_4, .inl (a_h_0_4, 40, .inl f_h_0_4)), (h_0_5, .inl (a_h_0_5, 40, .inl f_h_0_5)), (h_0_0, .inr (8, [.ref h_0_0_0, .int h_0_0_1])), (h_0_0_0, .inl (a_h_0_0_0, n_h_0_0_0, .inl f_h_0_0_0)), (h_6, .inl (a_h_6, 300, .inl f_h_6)), (h_1, .inl (a_h_1, 100, .inl f_h_1)), (h_0_2, .inl (a_h_0_2, 40, .inl f_h_0_2)), (h_0_7, .inl (a_h_0_7, 40, .inl f_h_0_7)), (h_0_6, .inl (a_h_0_6, 40, .inl f_h_0_6))] H A s.heap locs ∧ lv_has ls 4 [(3, .int j2_L_3), (0, .ref h), (1, .int x0), (2, .int x1)]) (fun (j61_S_0 : Int32) ls => F0 m 61 ls [.int j61_S_0]) (fun j61_S_0 H locs ls hi => ?_) (fun J61 => ?_)
    · obtain ⟨i61_0, i61_1, i61_2, i61_3, Wd, hl⟩ := hi
      refine lv_istore_n (lv' := [(3, .int j61_S_0), (0, .ref h), (1, .int x0), (2, .int x1)]) C.1 C.2.1 dX3_go_61 rfl hl (by decide) rfl (fun ls hl => ?_)
      refine lv_aload_n C.1 C.2.1 dX3_go_62 rfl (lv_at hl 1 rfl) ?_
      refine lv_iconst (v := 0) C.1 C.2.1 dX3_go_63 (by decide) ?_
      refine k_put C Wd KX3 0 3 [(h, .inr (3, [.ref h_0, .ref h_1, .int 0, .int 0, .int h_4, .ref h_5, .ref h_6])), (h_5, .inl (a_h_5, 6, .inl j2_C_h_5)), (h_0, .inr (1, [.ref h_0_0, .int h_0_1, .ref h_0_2, .ref h_0_3, .ref h_0_4, .ref h_0_5, .ref h_0_6, .ref h_0_7, .ref h_0_8, .ref h_0_9, .ref h_0_10, .ref h_0_11, .ref h_0_12, .ref h_0_13])), (h_0_3, .inl (a_h_0_3, 40, .inl f_h_0_3)), (h_0_4, .inl (a_h_0_4, 40, .inl f_h_0_4)), (h_0_5, .inl (a_h_0_5, 40, .inl f_h_0_5)), (h_0_0, .inr (8, [.ref h_0_0_0, .int h_0_0_1])), (h_0_0_0, .inl (a_h_0_0_0, n_h_0_0_0, .inl f_h_0_0_0)), (h_6, .inl (a_h_6, 300, .inl f_h_6)), (h_1, .inl (a_h_1, 100, .inl f_h_1)), (h_0_2, .inl (a_h_0_2, 40, .inl f_h_0_2)), (h_0_7, .inl (a_h_0_7, 40, .inl f_h_0_7)), (h_0_6, .inl (a_h_0_6, 40, .inl f_h_0_6))] rfl (by decide) fl_X3_35 rfl rfl rfl (Nat.le_of_ble_eq_true rfl) rfl dX3_go_64 (fun H locs Wd => ?_)
      refine k_loopA (fun (u : (Nat → Int32) × (Nat → Int32) × (Nat → Int32) × (Int32) × (Int32) × (Int32)) H locs ls => match u with | (j67_C_h_1, j67_C_h_5, j67_C_h_6, j67_F_h_2, j67_F_h_3, j67_L_3) => 0 ≤ j67_F_h_2.toInt ∧ 0 ≤ j67_F_h_3.toInt ∧ j67_F_h_2.toInt ≤ 100 ∧ j67_F_h_3.toInt ≤ 100 ∧ j67_F_h_2.toInt ≤ j67_F_h_3.toInt ∧ wX D [(a_h_5, .int), (a_h_0_3, .int), (a_h_0_4, .int), (a_h_0_5, .int), (a_h_0_0_0, .int), (a_h_6, .int), (a_h_1, .int), (a_h_0_2, .int), (a_h_0_7, .int), (a_h_0_6, .int)] s [(h, .inr (3, [.ref h_0, .ref h_1, .int j67_F_h_2, .int j67_F_h_3, .int h_4, .ref h_5, .ref h_6])), (h_5, .inl (a_h_5, 6, .inl j67_C_h_5)), (h_0, .inr (1, [.ref h_0_0, .int h_0_1, .ref h_0_2, .ref h_0_3, .ref h_0_4, .ref h_0_5, .ref h_0_6, .ref h_0_7, .ref h_0_8, .ref h_0_9, .ref h_0_10, .ref h_0_11, .ref h_0_12, .ref h_0_13])), (h_0_3, .inl (a_h_0_3, 40, .inl f_h_0_3)), (h_0_4, .inl (a_h_0_4, 40, .inl f_h_0_4)), (h_0_5, .inl (a_h_0_5, 40, .inl f_h_0_5)), (h_0_0, .inr (8, [.ref h_0_0_0, .int h_0_0_1])), (h_0_0_0, .inl (a_h_0_0_0, n_h_0_0_0, .inl f_h_0_0_0)), (h_6, .inl (a_h_6, 300, .inl j67_C_h_6)), (h_1, .inl (a_h_1, 100, .inl j67_C_h_1)), (h_0_2, .inl (a_h_0_2, 40, .inl f_h_0_2)), (h_0_7, .inl (a_h_0_7, 40, .inl f_h_0_7)), (h_0_6, .inl (a_h_0_6, 40, .inl f_h_0_6))] H A s.heap locs ∧ lv_has ls 4 [(3, .int j67_L_3), (0, .ref h), (1, .int x0), (2, .int x1)]) (fun (u : (Nat → Int32) × (Nat → Int32) × (Nat → Int32) × (Int32) × (Int32) × (Int32)) ls => match u with | (j67_C_h_1, j67_C_h_5, j67_C_h_6, j67_F_h_2, j67_F_h_3, j67_L_3) => F0 m 67 ls []) (fun (u : (Nat → Int32) × (Nat → Int32) × (Nat → Int32) × (Int32) × (Int32) × (Int32)) => match u with | (j67_C_h_1, j67_C_h_5, j67_C_h_6, j67_F_h_2, j67_F_h_3, j67_L_3) => (101 - j67_F_h_3.toInt).toNat) (fun u H locs ls hi ih67 => ?_) (f_h_1, j2_C_h_5, f_h_6, 0, 0, j61_S_0) _ _ _ ⟨by have zq0 : (0 : Int32).toInt = 0 := (by decide); omega, by have zq0 : (0 : Int32).toInt = 0 := (by decide); omega, by have zq0 : (0 : Int32).toInt = 0 := (by decide); omega, by have zq0 : (0 : Int32).toInt = 0 := (by decide); omega, by have zq0 : (0 : Int32).toInt = 0 := (by decide); omega, Wd, lv_sub hl [0, 1, 2, 3] rfl⟩
      obtain ⟨j67_C_h_1, j67_C_h_5, j67_C_h_6, j67_F_h_2, j67_F_h_3, j67_L_3⟩ := u
      obtain ⟨i67_0, i67_1, i67_2, i67_3, i67_4, Wd, hl⟩ := hi
      refine lv_aload_n C.1 C.2.1 dX3_go_67 rfl (lv_at hl 1 rfl) ?_
      refine k_get C Wd KX3 0 3 rfl (by decide) fl_X3_35 rfl dX3_go_68 ?_
      refine lv_bipush (v := 100) C.1 C.2.1 dX3_go_71 (by decide) ?_
      refine k_cutA (fun (_ : Unit) H locs ls => wX D [(a_h_5, .int), (a_h_0_3, .int), (a_h_0_4, .int), (a_h_0_5, .int), (a_h_0_0_0, .int), (a_h_6, .int), (a_h_1, .int), (a_h_0_2, .int), (a_h_0_7, .int), (a_h_0_6, .int)] s [(h, .inr (3, [.ref h_0, .ref h_1, .int j67_F_h_2, .int j67_F_h_3, .int h_4, .ref h_5, .ref h_6])), (h_5, .inl (a_h_5, 6, .inl j67_C_h_5)), (h_0, .inr (1, [.ref h_0_0, .int h_0_1, .ref h_0_2, .ref h_0_3, .ref h_0_4, .ref h_0_5, .ref h_0_6, .ref h_0_7, .ref h_0_8, .ref h_0_9, .ref h_0_10, .ref h_0_11, .ref h_0_12, .ref h_0_13])), (h_0_3, .inl (a_h_0_3, 40, .inl f_h_0_3)), (h_0_4, .inl (a_h_0_4, 40, .inl f_h_0_4)), (h_0_5, .inl (a_h_0_5, 40, .inl f_h_0_5)), (h_0_0, .inr (8, [.ref h_0_0_0, .int h_0_0_1])), (h_0_0_0, .inl (a_h_0_0_0, n_h_0_0_0, .inl f_h_0_0_0)), (h_6, .inl (a_h_6, 300, .inl j67_C_h_6)), (h_1, .inl (a_h_1, 100, .inl j67_C_h_1)), (h_0_2, .inl (a_h_0_2, 40, .inl f_h_0_2)), (h_0_7, .inl (a_h_0_7, 40, .inl f_h_0_7)), (h_0_6, .inl (a_h_0_6, 40, .inl f_h_0_6))] H A s.heap locs ∧ lv_has ls 4 [(3, .int j67_L_3), (0, .ref h), (1, .int x0), (2, .int x1)]) (fun (_ : Unit) ls => F0 m 99 ls []) (fun _ H locs ls hi => ?_) (fun J99 => ?_)
      · obtain ⟨Wd, hl⟩ := hi
        refine lv_aload_n C.1 C.2.1 dX3_go_99 rfl (lv_at hl 1 rfl) ?_
        refine lv_iload_n C.1 C.2.1 dX3_go_100 rfl (lv_at hl 0 rfl) ?_
        refine lv_bipush (v := (-2)) C.1 C.2.1 dX3_go_101 (by decide) ?_
        refine k_cutA (fun (j119_S_0 : Int32) H locs ls => 0 ≤ j119_S_0.toInt ∧ j119_S_0.toInt ≤ 2 ∧ wX D [(a_h_5, .int), (a_h_0_3, .int), (a_h_0_4, .int), (a_h_0_5, .int), (a_h_0_0_0, .int), (a_h_6, .int), (a_h_1, .int), (a_h_0_2, .int), (a_h_0_7, .int), (a_h_0_6, .int)] s [(h, .inr (3, [.ref h_0, .ref h_1, .int j67_F_h_2, .int j67_F_h_3, .int h_4, .ref h_5, .ref h_6])), (h_5, .inl (a_h_5, 6, .inl j67_C_h_5)), (h_0, .inr (1, [.ref h_0_0, .int h_0_1, .ref h_0_2, .ref h_0_3, .ref h_0_4, .ref h_0_5, .ref h_0_6, .ref h_0_7, .ref h_0_8, .ref h_0_9, .ref h_0_10, .ref h_0_11, .ref h_0_12, .ref h_0_13])), (h_0_3, .inl (a_h_0_3, 40, .inl f_h_0_3)), (h_0_4, .inl (a_h_0_4, 40, .inl f_h_0_4)), (h_0_5, .inl (a_h_0_5, 40, .inl f_h_0_5)), (h_0_0, .inr (8, [.ref h_0_0_0, .int h_0_0_1])), (h_0_0_0, .inl (a_h_0_0_0, n_h_0_0_0, .inl f_h_0_0_0)), (h_6, .inl (a_h_6, 300, .inl j67_C_h_6)), (h_1, .inl (a_h_1, 100, .inl j67_C_h_1)), (h_0_2, .inl (a_h_0_2, 40, .inl f_h_0_2)), (h_0_7, .inl (a_h_0_7, 40, .inl f_h_0_7)), (h_0_6, .inl (a_h_0_6, 40, .inl f_h_0_6))] H A s.heap locs ∧ lv_has ls 4 [(3, .int j67_L_3), (0, .ref h), (1, .int x0), (2, .int x1)]) (fun (j119_S_0 : Int32) ls => F0 m 119 ls [.int j119_S_0, .ref h]) (fun j119_S_0 H locs ls hi => ?_) (fun J119 => ?_)
        · obtain ⟨i119_0, i119_1, Wd, hl⟩ := hi
          refine k_put C Wd KX3 0 4 [(h, .inr (3, [.ref h_0, .ref h_1, .int j67_F_h_2, .int j67_F_h_3, .int j119_S_0, .ref h_5, .ref h_6])), (h_5, .inl (a_h_5, 6, .inl j67_C_h_5)), (h_0, .inr (1, [.ref h_0_0, .int h_0_1, .ref h_0_2, .ref h_0_3, .ref h_0_4, .ref h_0_5, .ref h_0_6, .ref h_0_7, .ref h_0_8, .ref h_0_9, .ref h_0_10, .ref h_0_11, .ref h_0_12, .ref h_0_13])), (h_0_3, .inl (a_h_0_3, 40, .inl f_h_0_3)), (h_0_4, .inl (a_h_0_4, 40, .inl f_h_0_4)), (h_0_5, .inl (a_h_0_5, 40, .inl f_h_0_5)), (h_0_0, .inr (8, [.ref h_0_0_0, .int h_0_0_1])), (h_0_0_0, .inl (a_h_0_0_0, n_h_0_0_0, .inl f_h_0_0_0)), (h_6, .inl (a_h_6, 300, .inl j67_C_h_6)), (h_1, .inl (a_h_1, 100, .inl j67_C_h_1)), (h_0_2, .inl (a_h_0_2, 40, .inl f_h_0_2)), (h_0_7, .inl (a_h_0_7, 40, .inl f_h_0_7)), (h_0_6, .inl (a_h_0_6, 40, .inl f_h_0_6))] rfl (by decide) fl_X3_42 rfl rfl rfl (Nat.le_of_ble_eq_true rfl) rfl dX3_go_119 (fun H locs Wd => ?_)
          exact k_vret C hr hlk Wd (j67_F_h_2, j67_F_h_3, j119_S_0, j67_C_h_5, j67_C_h_6, j67_C_h_1) (by exact ⟨by omega, by omega, by omega, by omega, by omega, by omega, by omega⟩) [0, 1, 2, 3, 4, 5, 6, 7, 8, 9, 10, 11, 12] rfl (by decide) [] rfl (by decide) (by decide) dX3_go_122
        refine lv_icmp_ne (tgt := 110) C.1 C.2.1 dX3_go_103 (by decide) (fun c103 => ?_) (fun c103 => ?_)
        · have i103 : ¬ j67_L_3.toInt = (-2) := kz_ne c103
          refine lv_iload_n C.1 C.2.1 dX3_go_110 rfl (lv_at hl 0 rfl) ?_
          refine lv_if_lt (tgt := 118) C.1 C.2.1 dX3_go_111 (by decide) (fun c111 => ?_) (fun c111 => ?_)
          · have i111 : j67_L_3.toInt < 0 := kz_lt c111
            refine lv_iconst (v := 0) C.1 C.2.1 dX3_go_118 (by decide) ?_
            exact J119 0 _ _ _ ⟨by have zq0 : (0 : Int32).toInt = 0 := (by decide); omega, by have zq0 : (0 : Int32).toInt = 0 := (by decide); omega, Wd, lv_sub hl [0, 1, 2, 3] rfl⟩
          · have i111 : 0 ≤ j67_L_3.toInt := kz_nlt c111
            refine lv_iconst (v := 2) C.1 C.2.1 dX3_go_114 (by decide) ?_
            refine lv_goto (tgt := 119) C.1 C.2.1 dX3_go_115 (by decide) ?_
            exact J119 2 _ _ _ ⟨by have zq2 : (2 : Int32).toInt = 2 := (by decide); omega, by have zq2 : (2 : Int32).toInt = 2 := (by decide); omega, Wd, lv_sub hl [0, 1, 2, 3] rfl⟩
        · have i103 : j67_L_3.toInt = (-2) := kz_eq c103
          refine lv_iconst (v := 1) C.1 C.2.1 dX3_go_106 (by decide) ?_
          refine lv_goto (tgt := 119) C.1 C.2.1 dX3_go_107 (by decide) ?_
          exact J119 1 _ _ _ ⟨by have zq1 : (1 : Int32).toInt = 1 := (by decide); omega, by have zq1 : (1 : Int32).toInt = 1 := (by decide); omega, Wd, lv_sub hl [0, 1, 2, 3] rfl⟩
      refine lv_icmp_ge (tgt := 99) C.1 C.2.1 dX3_go_73 (by decide) (fun c73 => ?_) (fun c73 => ?_)
      · have i73 : 100 ≤ j67_F_h_3.toInt := kz_le c73
        exact J99 () _ _ _ ⟨Wd, lv_sub hl [0, 1, 2, 3] rfl⟩
      · have i73 : j67_F_h_3.toInt < 100 := kz_nle c73
        refine lv_iload_n C.1 C.2.1 dX3_go_76 rfl (lv_at hl 0 rfl) ?_
        refine lv_if_lt (tgt := 99) C.1 C.2.1 dX3_go_77 (by decide) (fun c77 => ?_) (fun c77 => ?_)
        · have i77 : j67_L_3.toInt < 0 := kz_lt c77
          exact J99 () _ _ _ ⟨Wd, lv_sub hl [0, 1, 2, 3] rfl⟩
        · have i77 : 0 ≤ j67_L_3.toInt := kz_nlt c77
          refine lv_aload_n C.1 C.2.1 dX3_go_80 rfl (lv_at hl 1 rfl) ?_
          refine lv_iload_n C.1 C.2.1 dX3_go_81 rfl (lv_at hl 0 rfl) ?_
          refine k_ci Wd [0, 2, 3, 4, 5, 6, 7, 8, 1, 9, 10, 11, 12] [] rfl (wr := []) rfl (by decide) (by decide) (cells' := 0) (slots' := 0) (by decide) (by decide) (k_runV (rest := []) C aks Wd cs_X3_38 (sX3_doStatement l D h j67_L_3 h_0 h_1 j67_F_h_2 j67_F_h_3 h_4 h_5 h_6 h_0_0 h_0_1 h_0_2 h_0_3 h_0_4 h_0_5 h_0_6 h_0_7 h_0_8 h_0_9 h_0_10 h_0_11 h_0_12 h_0_13 a_h_0_3 f_h_0_3 a_h_0_4 f_h_0_4 a_h_0_5 f_h_0_5 h_0_0_0 h_0_0_1 n_h_0_0_0 a_h_0_0_0 f_h_0_0_0 a_h_6 j67_C_h_6 a_h_5 j67_C_h_5 a_h_1 j67_C_h_1 a_h_0_2 f_h_0_2 a_h_0_7 f_h_0_7 a_h_0_6 f_h_0_6 _ (by omega) (by omega) (by omega) (by omega) (by omega) (by omega) (by omega) (by omega) q_f_h_0_4 q_f_h_0_5) [0, 2, 3, 4, 5, 6, 7, 8, 1, 9, 10, 11, 12] rfl (by decide) [1, 2, 3, 4, 5, 0, 6, 7, 8, 9] rfl 0 3 rfl rfl rfl rfl rfl ⟨(Nat.le_of_ble_eq_true rfl), (Nat.le_of_ble_eq_true rfl)⟩ hl.1 rfl rfl (Nat.le_of_ble_eq_true rfl) ⟨(Nat.le_of_ble_eq_true rfl), (Nat.le_of_ble_eq_true rfl)⟩ dX3_go_82) (fun r82 u H locs w82 Wd => ?_)
          obtain ⟨s82_0, s82_1, s82_2, s82_3⟩ := u
          have Wd : wX D [(a_h_5, .int), (a_h_0_3, .int), (a_h_0_4, .int), (a_h_0_5, .int), (a_h_0_0_0, .int), (a_h_6, .int), (a_h_1, .int), (a_h_0_2, .int), (a_h_0_7, .int), (a_h_0_6, .int)] s [(h, .inr (3, [.ref h_0, .ref h_1, .int s82_1, .int j67_F_h_3, .int h_4, .ref h_5, .ref h_6])), (h_5, .inl (a_h_5, 6, .inl s82_2)), (h_0, .inr (1, [.ref h_0_0, .int h_0_1, .ref h_0_2, .ref h_0_3, .ref h_0_4, .ref h_0_5, .ref h_0_6, .ref h_0_7, .ref h_0_8, .ref h_0_9, .ref h_0_10, .ref h_0_11, .ref h_0_12, .ref h_0_13])), (h_0_3, .inl (a_h_0_3, 40, .inl f_h_0_3)), (h_0_4, .inl (a_h_0_4, 40, .inl f_h_0_4)), (h_0_5, .inl (a_h_0_5, 40, .inl f_h_0_5)), (h_0_0, .inr (8, [.ref h_0_0_0, .int h_0_0_1])), (h_0_0_0, .inl (a_h_0_0_0, n_h_0_0_0, .inl f_h_0_0_0)), (h_6, .inl (a_h_6, 300, .inl s82_0)), (h_1, .inl (a_h_1, 100, .inl s82_3)), (h_0_2, .inl (a_h_0_2, 40, .inl f_h_0_2)), (h_0_7, .inl (a_h_0_7, 40, .inl f_h_0_7)), (h_0_6, .inl (a_h_0_6, 40, .inl f_h_0_6))] _ A s.heap _ := k_sub Wd [0, 8, 1, 2, 3, 4, 5, 6, 7, 9, 10, 11, 12] rfl (by decide) [0, 1, 2, 3, 4, 5, 6, 7, 8, 9] rfl
          obtain ⟨g82_0, g82_1, g82_2, g82_3⟩ := w82
          have g82_0 : 0 ≤ s82_1.toInt := g82_0
          have g82_1 : s82_1.toInt ≤ 100 := g82_1
          have g82_2 : j67_F_h_2.toInt ≤ s82_1.toInt := g82_2
          have g82_3 : s82_1.toInt ≤ j67_F_h_2.toInt + 1 := g82_3
          refine lv_istore_n (lv' := [(3, .int r82), (0, .ref h), (1, .int x0), (2, .int x1)]) C.1 C.2.1 dX3_go_85 rfl hl (by decide) rfl (fun ls hl => ?_)
          refine lv_aload_n C.1 C.2.1 dX3_go_86 rfl (lv_at hl 1 rfl) ?_
          refine lv_dup C.1 C.2.1 dX3_go_87 rfl ?_
          refine k_get C Wd KX3 0 3 rfl (by decide) fl_X3_35 rfl dX3_go_88 ?_
          refine lv_iconst (v := 1) C.1 C.2.1 dX3_go_91 (by decide) ?_
          obtain ⟨v92, ev92⟩ : ∃ z : Int32, j67_F_h_3 + 1 = z := ⟨_, rfl⟩
          have iv92 : v92.toInt = j67_F_h_3.toInt + 1 := kz_addc ev92 (by decide) (by have zr0 := kz_rng j67_F_h_3; omega) (by have zr0 := kz_rng j67_F_h_3; omega)
          refine k_iadd (v := v92) C ev92 dX3_go_92 ?_
          refine k_put C Wd KX3 0 3 [(h, .inr (3, [.ref h_0, .ref h_1, .int s82_1, .int v92, .int h_4, .ref h_5, .ref h_6])), (h_5, .inl (a_h_5, 6, .inl s82_2)), (h_0, .inr (1, [.ref h_0_0, .int h_0_1, .ref h_0_2, .ref h_0_3, .ref h_0_4, .ref h_0_5, .ref h_0_6, .ref h_0_7, .ref h_0_8, .ref h_0_9, .ref h_0_10, .ref h_0_11, .ref h_0_12, .ref h_0_13])), (h_0_3, .inl (a_h_0_3, 40, .inl f_h_0_3)), (h_0_4, .inl (a_h_0_4, 40, .inl f_h_0_4)), (h_0_5, .inl (a_h_0_5, 40, .inl f_h_0_5)), (h_0_0, .inr (8, [.ref h_0_0_0, .int h_0_0_1])), (h_0_0_0, .inl (a_h_0_0_0, n_h_0_0_0, .inl f_h_0_0_0)), (h_6, .inl (a_h_6, 300, .inl s82_0)), (h_1, .inl (a_h_1, 100, .inl s82_3)), (h_0_2, .inl (a_h_0_2, 40, .inl f_h_0_2)), (h_0_7, .inl (a_h_0_7, 40, .inl f_h_0_7)), (h_0_6, .inl (a_h_0_6, 40, .inl f_h_0_6))] rfl (by decide) fl_X3_35 rfl rfl rfl (Nat.le_of_ble_eq_true rfl) rfl dX3_go_93 (fun H locs Wd => ?_)
          refine lv_goto (tgt := 67) C.1 C.2.1 dX3_go_96 (by decide) ?_
          exact ih67 (s82_3, s82_2, s82_0, s82_1, v92, r82) _ _ _ ⟨by omega, by omega, by omega, by omega, by omega, Wd, lv_sub hl [0, 1, 2, 3] rfl⟩ (by show (101 - v92.toInt).toNat < (101 - j67_F_h_3.toInt).toNat; omega)
    refine lv_if_le (tgt := 60) C.1 C.2.1 dX3_go_53 (by decide) (fun c53 => ?_) (fun c53 => ?_)
    · have i53 : h_0_1.toInt ≤ 0 := kz_le c53
      refine lv_iconst (v := (-1)) C.1 C.2.1 dX3_go_60 (by decide) ?_
      exact J61 (-1) _ _ _ ⟨by have zqm1 : (-1 : Int32).toInt = -1 := (by decide); omega, by have zqm1 : (-1 : Int32).toInt = -1 := (by decide); omega, by have zqm1 : (-1 : Int32).toInt = -1 := (by decide); omega, by have zqm1 : (-1 : Int32).toInt = -1 := (by decide); omega, Wd, lv_sub hl [0, 1, 2, 3] rfl⟩
    · have i53 : 0 < h_0_1.toInt := kz_nle c53
      refine lv_iconst (v := 0) C.1 C.2.1 dX3_go_56 (by decide) ?_
      refine lv_goto (tgt := 61) C.1 C.2.1 dX3_go_57 (by decide) ?_
      exact J61 0 _ _ _ ⟨by have zq0 : (0 : Int32).toInt = 0 := (by decide); omega, by have zq0 : (0 : Int32).toInt = 0 := (by decide); omega, by have zq0 : (0 : Int32).toInt = 0 := (by decide); omega, by have zq0 : (0 : Int32).toInt = 0 := (by decide); omega, Wd, lv_sub hl [0, 1, 2, 3] rfl⟩
  · have i8 : j2_L_3.toInt < 6 := kz_nle c8
    refine lv_aload_n C.1 C.2.1 dX3_go_11 rfl (lv_at hl 1 rfl) ?_
    refine k_get C Wd KX3 0 5 rfl (by decide) fl_X3_22 rfl dX3_go_12 ?_
    refine lv_iload_n C.1 C.2.1 dX3_go_15 rfl (lv_at hl 0 rfl) ?_
    refine lv_iload_n C.1 C.2.1 dX3_go_16 rfl (lv_at hl 0 rfl) ?_
    refine k_cutA (fun (j34_S_0 : Int32) H locs ls => wX D [(a_h_5, .int), (a_h_0_3, .int), (a_h_0_4, .int), (a_h_0_5, .int), (a_h_0_0_0, .int), (a_h_6, .int), (a_h_1, .int), (a_h_0_2, .int), (a_h_0_7, .int), (a_h_0_6, .int)] s [(h, .inr (3, [.ref h_0, .ref h_1, .int h_2, .int h_3, .int h_4, .ref h_5, .ref h_6])), (h_5, .inl (a_h_5, 6, .inl j2_C_h_5)), (h_0, .inr (1, [.ref h_0_0, .int h_0_1, .ref h_0_2, .ref h_0_3, .ref h_0_4, .ref h_0_5, .ref h_0_6, .ref h_0_7, .ref h_0_8, .ref h_0_9, .ref h_0_10, .ref h_0_11, .ref h_0_12, .ref h_0_13])), (h_0_3, .inl (a_h_0_3, 40, .inl f_h_0_3)), (h_0_4, .inl (a_h_0_4, 40, .inl f_h_0_4)), (h_0_5, .inl (a_h_0_5, 40, .inl f_h_0_5)), (h_0_0, .inr (8, [.ref h_0_0_0, .int h_0_0_1])), (h_0_0_0, .inl (a_h_0_0_0, n_h_0_0_0, .inl f_h_0_0_0)), (h_6, .inl (a_h_6, 300, .inl f_h_6)), (h_1, .inl (a_h_1, 100, .inl f_h_1)), (h_0_2, .inl (a_h_0_2, 40, .inl f_h_0_2)), (h_0_7, .inl (a_h_0_7, 40, .inl f_h_0_7)), (h_0_6, .inl (a_h_0_6, 40, .inl f_h_0_6))] H A s.heap locs ∧ lv_has ls 4 [(3, .int j2_L_3), (0, .ref h), (1, .int x0), (2, .int x1)]) (fun (j34_S_0 : Int32) ls => F0 m 34 ls [.int j34_S_0, .int j2_L_3, .ref h_5]) (fun j34_S_0 H locs ls hi => ?_) (fun J34 => ?_)
    · obtain ⟨Wd, hl⟩ := hi
      obtain ⟨f34, ef34⟩ : ∃ z : Nat → Int32, upd j2_C_h_5 j2_L_3.toNatClampNeg j34_S_0 = z := ⟨_, rfl⟩
      refine k_iast C Wd 1 0 [(h, .inr (3, [.ref h_0, .ref h_1, .int h_2, .int h_3, .int h_4, .ref h_5, .ref h_6])), (h_5, .inl (a_h_5, 6, .inl f34)), (h_0, .inr (1, [.ref h_0_0, .int h_0_1, .ref h_0_2, .ref h_0_3, .ref h_0_4, .ref h_0_5, .ref h_0_6, .ref h_0_7, .ref h_0_8, .ref h_0_9, .ref h_0_10, .ref h_0_11, .ref h_0_12, .ref h_0_13])), (h_0_3, .inl (a_h_0_3, 40, .inl f_h_0_3)), (h_0_4, .inl (a_h_0_4, 40, .inl f_h_0_4)), (h_0_5, .inl (a_h_0_5, 40, .inl f_h_0_5)), (h_0_0, .inr (8, [.ref h_0_0_0, .int h_0_0_1])), (h_0_0_0, .inl (a_h_0_0_0, n_h_0_0_0, .inl f_h_0_0_0)), (h_6, .inl (a_h_6, 300, .inl f_h_6)), (h_1, .inl (a_h_1, 100, .inl f_h_1)), (h_0_2, .inl (a_h_0_2, 40, .inl f_h_0_2)), (h_0_7, .inl (a_h_0_7, 40, .inl f_h_0_7)), (h_0_6, .inl (a_h_0_6, 40, .inl f_h_0_6))] rfl rfl (vp_in_iff.mpr ⟨by omega, by omega⟩) ef34 rfl dX3_go_34 (fun H locs Wd => ?_)
      obtain ⟨v35, ev35⟩ : ∃ z : Int32, j2_L_3 + 1 = z := ⟨_, rfl⟩
      have iv35 : v35.toInt = j2_L_3.toInt + 1 := kz_addc ev35 (by decide) (by have zr0 := kz_rng j2_L_3; omega) (by have zr0 := kz_rng j2_L_3; omega)
      refine lv_iinc (v := v35) (lv' := [(3, .int v35), (0, .ref h), (1, .int x0), (2, .int x1)]) C.1 C.2.1 dX3_go_35 hl (k := 0) rfl ev35 (by decide) rfl (fun ls hl => ?_)
      refine lv_goto (tgt := 2) C.1 C.2.1 dX3_go_38 (by decide) ?_
      exact ih2 (f34, v35) _ _ _ ⟨by omega, by omega, Wd, lv_sub hl [0, 1, 2, 3] rfl⟩ (by show (7 - v35.toInt).toNat < (7 - j2_L_3.toInt).toNat; omega)
    refine lv_if_ne (tgt := 24) C.1 C.2.1 dX3_go_17 (by decide) (fun c17 => ?_) (fun c17 => ?_)
    · have i17 : ¬ j2_L_3.toInt = 0 := kz_ne c17
      refine lv_iload_n C.1 C.2.1 dX3_go_24 rfl (lv_at hl 0 rfl) ?_
      refine lv_iconst (v := 1) C.1 C.2.1 dX3_go_25 (by decide) ?_
      refine lv_icmp_ne (tgt := 33) C.1 C.2.1 dX3_go_26 (by decide) (fun c26 => ?_) (fun c26 => ?_)
      · have i26 : ¬ j2_L_3.toInt = 1 := kz_ne c26
        refine lv_iconst (v := 0) C.1 C.2.1 dX3_go_33 (by decide) ?_
        exact J34 0 _ _ _ ⟨Wd, lv_sub hl [0, 1, 2, 3] rfl⟩
      · have i26 : j2_L_3.toInt = 1 := kz_eq c26
        refine lv_iload_n C.1 C.2.1 dX3_go_29 rfl (lv_at hl 3 rfl) ?_
        refine lv_goto (tgt := 34) C.1 C.2.1 dX3_go_30 (by decide) ?_
        exact J34 x1 _ _ _ ⟨Wd, lv_sub hl [0, 1, 2, 3] rfl⟩
    · have i17 : j2_L_3.toInt = 0 := kz_eq c17
      refine lv_iload_n C.1 C.2.1 dX3_go_20 rfl (lv_at hl 2 rfl) ?_
      refine lv_goto (tgt := 34) C.1 C.2.1 dX3_go_21 (by decide) ?_
      exact J34 x0 _ _ _ ⟨Wd, lv_sub hl [0, 1, 2, 3] rfl⟩
