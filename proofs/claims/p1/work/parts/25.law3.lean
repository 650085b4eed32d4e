set_option maxHeartbeats 4000000 in
set_option maxRecDepth 100000 in
theorem law_clear {p : Program} {l : Launch} {e : Env} {s : State} {m : MethodId} {below : List Frame} {meth : Method} {c : Code} {b : Nat} {xs : Nat → Int32} {D : va_G} {A : Nat → Prop} {e6040 : ClassId} {e6151 : ClassId} {q5961 : Nat} {q5963 : Nat} {q5964 : Nat} {q5965 : Nat} {q5966 : Nat} {q5967 : Nat} {q5968 : Nat} {q5969 : Nat} {q6010 : Nat} {q6011 : Nat} {q6012 : Nat} {q6013 : Nat} {q6014 : Nat} {q6015 : Nat} {q6016 : Nat} {q6017 : Nat} {q6104 : Nat} {q6106 : Nat} {q6107 : Nat} {q6108 : Nat} {q6109 : Nat} {q6110 : Nat} {q6111 : Nat} {q6112 : Nat} {q6113 : Nat} {q6114 : Nat} {q6115 : Nat} {q6116 : Nat} {q6117 : Nat} {q6118 : Nat} {q6119 : Nat} {q6120 : Nat} {q6121 : Nat} {q6122 : Nat} {q6123 : Nat} {q6124 : Nat} {q6125 : Nat} {q6126 : Nat} {q6127 : Nat} {q6128 : Nat} {q6129 : Nat} {q6130 : Nat} {y1 : Int32} (hy1 : xs 1 = y1) {H : Heap} {locs : List Loc} {ls : Array Slot} (C : CallFix p m c cL_law 4 s #[Value.ref b] gG RL) (aks : aK s) (hX : va_X b 6 xs s s.heap) (hbl : b < s.heap.size) (hbA : ¬ A b) (hrt : meth.sig.returnType = ret) (hlocks : meth.locks = false) (hAe : A = fun q => s.heap.size ≤ q) (tail : (∀ (H : Heap) (locs : List Loc) (ls : Array Slot), wX D [] s [] H A s.heap locs → lv_has ls 4 [(3, .int 0), (0, .ref b)] → W p l e room_1 s m #[Value.ref b] below meth c H locs 271 91330 (lw_Z below #[Value.ref b] s) (F0 m 801 ls []))) (Wd : wX D [(e6040, .int), (e6151, .int)] s [(q5961, .inr (11, [.ref q5963, .int 0, .ref q5964, .ref q5965, .ref q5966, .ref q5967, .ref q5968, .ref q5969])), (q5968, .inr (4, [.ref q6010, .ref q6011, .ref q6012, .int (-1), .int (-1), .ref q6013, .ref q6014, .ref q6015, .ref q6016, .ref q6017])), (q6015, .inl (e6040, 6, .inl (fun _ => 0))), (q6104, .inr (12, [.ref q6106, .ref q6107, .ref q6108, .ref q6109, .int 0, .int 0, .ref q6110, .int 0, .int 0, .int 0, .int 0, .int 0, .int 0, .int 0, .int 0, .int 0, .int 0, .int 0, .int 0, .int 0, .int (-1), .int 0, .int 0, .int 0, .ref q6111, .ref q6112, .ref q6113, .ref q6114, .ref q6115, .ref q6116, .int 0, .int 0, .int 0, .int 0, .ref q6117, .ref q6118, .ref q6119, .int 0, .int 0, .int 0, .int 0, .ref q6120, .ref q6121, .int 0, .ref q6122, .ref q6123, .int 0, .ref q6124, .int 0, .ref q6125, .ref q6126, .ref q6127, .int 0, .ref q6128, .ref q6129, .ref q6130])), (q6126, .inl (e6151, 6, .inl (fun _ => 0)))] H A s.heap locs) (hl : lv_has ls 4 [(3, .int 0), (2, .ref q6104), (1, .ref q5961), (0, .ref b)]) : W p l e room_1 s m #[Value.ref b] below meth c H locs 271 91330 (lw_Z below #[Value.ref b] s) (F0 m 583 ls []) := by
  refine lv_aload_n C.1 C.2.1 dL_law_583 rfl (lv_at hl 2 rfl) ?_
  refine lv_aload_n C.1 C.2.1 dL_law_584 rfl (lv_at hl 3 rfl) ?_
  refine lv_iload_n C.1 C.2.1 dL_law_585 rfl (lv_at hl 0 rfl) ?_
  refine lv_iconst (v := 1) C.1 C.2.1 dL_law_586 (by decide) ?_
  refine k_iadd (v := 1) C (by decide) dL_law_587 ?_
  refine k_sld (v := y1) C hX hbl hbA Wd (vp_in_iff.mpr (by decide)) hy1 dL_law_588 ?_
  refine k_ci Wd [0, 1, 2] [3, 4] rfl (wr := [(q6104, .inr (12, [.ref q6106, .ref q6107, .ref q6108, .ref q6109, .int 0, .int 0, .ref q6110, .int 0, .int 0, .int 0, .int 0, .int 0, .int 0, .int 0, .int 0, .int 0, .int 0, .int 0, .int 0, .int 0, .int (-1), .int 0, .int 0, .int 0, .ref q6111, .ref q6112, .ref q6113, .ref q6114, .ref q6115, .ref q6116, .int 0, .int 0, .int 0, .int 0, .ref q6117, .ref q6118, .ref q6119, .int 0, .int 0, .int 0, .int 0, .ref q6120, .ref q6121, .int 0, .ref q6122, .ref q6123, .int 0, .ref q6124, .int 0, .ref q6125, .ref q6126, .ref q6127, .int 0, .ref q6128, .ref q6129, .ref q6130])), (q6126, .inl (e6151, 6, .inl (fun _ => 0)))]) rfl (by decide) (by decide) (cells' := 271) (slots' := 91330) (by decide) (by decide) (k_runV (rest := []) C aks Wd cs_L_73 (kcX11_clear l D q5961 q5963 q5964 q5965 q5966 q5967 q5968 q5969 q6010 q6011 q6012 q6013 q6014 q6015 q6016 q6017 y1 e6040 _ ) [0, 1, 2] rfl (by decide) [0] rfl 0 11 rfl rfl rfl rfl rfl ⟨(Nat.le_of_ble_eq_true rfl), (Nat.le_of_ble_eq_true rfl)⟩ hl.1 rfl rfl (Nat.le_of_ble_eq_true rfl) ⟨(Nat.le_of_ble_eq_true rfl), (Nat.le_of_ble_eq_true rfl)⟩ dL_law_589) (fun r _ H locs w10643 Wd => ?_)
  have Wd : wX D [(e6040, .int), (e6151, .int)] s [(q6104, .inr (12, [.ref q6106, .ref q6107, .ref q6108, .ref q6109, .int 0, .int 0, .ref q6110, .int 0, .int 0, .int 0, .int 0, .int 0, .int 0, .int 0, .int 0, .int 0, .int 0, .int 0, .int 0, .int 0, .int (-1), .int 0, .int 0, .int 0, .ref q6111, .ref q6112, .ref q6113, .ref q6114, .ref q6115, .ref q6116, .int 0, .int 0, .int 0, .int 0, .ref q6117, .ref q6118, .ref q6119, .int 0, .int 0, .int 0, .int 0, .ref q6120, .ref q6121, .int 0, .ref q6122, .ref q6123, .int 0, .ref q6124, .int 0, .ref q6125, .ref q6126, .ref q6127, .int 0, .ref q6128, .ref q6129, .ref q6130])), (q6126, .inl (e6151, 6, .inl (fun _ => 0)))] _ A s.heap _ := Wd
  rcases w10643 with ⟨c10644, rfl⟩ | ⟨c10645, c10646, rfl⟩ | ⟨c10647, c10648, rfl⟩
  · refine lv_aload_n C.1 C.2.1 dL_law_592 rfl (lv_at hl 1 rfl) ?_
    refine lv_aload_n C.1 C.2.1 dL_law_593 rfl (lv_at hl 3 rfl) ?_
    refine lv_iload_n C.1 C.2.1 dL_law_594 rfl (lv_at hl 0 rfl) ?_
    refine lv_iconst (v := 1) C.1 C.2.1 dL_law_595 (by decide) ?_
    refine k_iadd (v := 1) C (by decide) dL_law_596 ?_
    refine k_sld (v := y1) C hX hbl hbA Wd (vp_in_iff.mpr (by decide)) hy1 dL_law_597 ?_
    refine k_ci Wd [0, 1] [] rfl (wr := []) rfl (by decide) (by decide) (cells' := 271) (slots' := 91330) (by decide) (by decide) (k_runV (rest := [.int 0]) C aks Wd cs_L_76 (kcX12_clear l D q6104 q6106 q6107 q6108 q6109 q6110 q6111 q6112 q6113 q6114 q6115 q6116 q6117 q6118 q6119 q6120 q6121 q6122 q6123 q6124 q6125 q6126 q6127 q6128 q6129 q6130 y1 e6151 _ ) [0, 1] rfl (by decide) [1] rfl 0 12 rfl rfl rfl rfl rfl ⟨(Nat.le_of_ble_eq_true rfl), (Nat.le_of_ble_eq_true rfl)⟩ hl.1 rfl rfl (Nat.le_of_ble_eq_true rfl) ⟨(Nat.le_of_ble_eq_true rfl), (Nat.le_of_ble_eq_true rfl)⟩ dL_law_598) (fun r _ H locs w10649 Wd => ?_)
    have Wd : wX D [(e6040, .int), (e6151, .int)] s [] _ A s.heap _ := Wd
    rcases w10649 with ⟨c10650, rfl⟩ | ⟨c10651, c10652, rfl⟩ | ⟨c10653, c10654, rfl⟩
    · refine lv_icmp_eq (tgt := 801) C.1 C.2.1 dL_law_601 (by decide) (fun _ => ?_) (fun c10655 => absurd c10655 (by decide))
      exact tail _ _ _ (k_sub Wd [] rfl (by decide) [] rfl) (lv_sub hl [0, 3] rfl)
    · exact absurd c10644 c10651
    · exact absurd c10644 c10653
  · refine lv_aload_n C.1 C.2.1 dL_law_592 rfl (lv_at hl 1 rfl) ?_
    refine lv_aload_n C.1 C.2.1 dL_law_593 rfl (lv_at hl 3 rfl) ?_
    refine lv_iload_n C.1 C.2.1 dL_law_594 rfl (lv_at hl 0 rfl) ?_
    refine lv_iconst (v := 1) C.1 C.2.1 dL_law_595 (by decide) ?_
    refine k_iadd (v := 1) C (by decide) dL_law_596 ?_
    refine k_sld (v := y1) C hX hbl hbA Wd (vp_in_iff.mpr (by decide)) hy1 dL_law_597 ?_
    refine k_ci Wd [0, 1] [] rfl (wr := []) rfl (by decide) (by decide) (cells' := 271) (slots' := 91330) (by decide) (by decide) (k_runV (rest := [.int 0]) C aks Wd cs_L_76 (kcX12_clear l D q6104 q6106 q6107 q6108 q6109 q6110 q6111 q6112 q6113 q6114 q6115 q6116 q6117 q6118 q6119 q6120 q6121 q6122 q6123 q6124 q6125 q6126 q6127 q6128 q6129 q6130 y1 e6151 _ ) [0, 1] rfl (by decide) [1] rfl 0 12 rfl rfl rfl rfl rfl ⟨(Nat.le_of_ble_eq_true rfl), (Nat.le_of_ble_eq_true rfl)⟩ hl.1 rfl rfl (Nat.le_of_ble_eq_true rfl) ⟨(Nat.le_of_ble_eq_true rfl), (Nat.le_of_ble_eq_true rfl)⟩ dL_law_598) (fun r _ H locs w10656 Wd => ?_)
    have Wd : wX D [(e6040, .int), (e6151, .int)] s [] _ A s.heap _ := Wd
    rcases w10656 with ⟨c10657, rfl⟩ | ⟨c10658, c10659, rfl⟩ | ⟨c10660, c10661, rfl⟩
    · exact absurd c10657 c10645
    · refine lv_icmp_eq (tgt := 801) C.1 C.2.1 dL_law_601 (by decide) (fun _ => ?_) (fun c10662 => absurd c10662 (by decide))
      exact tail _ _ _ (k_sub Wd [] rfl (by decide) [] rfl) (lv_sub hl [0, 3] rfl)
    · exact False.elim (by have z0 := kz_nlt c10645; have z1 := kz_le c10646; have z2 := kz_nlt c10660; have z3 := kz_nlt c10661; have t0 : (0 : Int32).toInt = 0 := (by decide); have t6 : (6 : Int32).toInt = 6 := (by decide); have t5 : (5 : Int32).toInt = 5 := (by decide); omega)
  · refine lv_aload_n C.1 C.2.1 dL_law_592 rfl (lv_at hl 1 rfl) ?_
    refine lv_aload_n C.1 C.2.1 dL_law_593 rfl (lv_at hl 3 rfl) ?_
    refine lv_iload_n C.1 C.2.1 dL_law_594 rfl (lv_at hl 0 rfl) ?_
    refine lv_iconst (v := 1) C.1 C.2.1 dL_law_595 (by decide) ?_
    refine k_iadd (v := 1) C (by decide) dL_law_596 ?_
    refine k_sld (v := y1) C hX hbl hbA Wd (vp_in_iff.mpr (by decide)) hy1 dL_law_597 ?_
    refine k_ci Wd [0, 1] [] rfl (wr := []) rfl (by decide) (by decide) (cells' := 271) (slots' := 91330) (by decide) (by decide) (k_runV (rest := [.int 1]) C aks Wd cs_L_76 (kcX12_clear l D q6104 q6106 q6107 q6108 q6109 q6110 q6111 q6112 q6113 q6114 q6115 q6116 q6117 q6118 q6119 q6120 q6121 q6122 q6123 q6124 q6125 q6126 q6127 q6128 q6129 q6130 y1 e6151 _ ) [0, 1] rfl (by decide) [1] rfl 0 12 rfl rfl rfl rfl rfl ⟨(Nat.le_of_ble_eq_true rfl), (Nat.le_of_ble_eq_true rfl)⟩ hl.1 rfl rfl (Nat.le_of_ble_eq_true rfl) ⟨(Nat.le_of_ble_eq_true rfl), (Nat.le_of_ble_eq_true rfl)⟩ dL_law_598) (fun r _ H locs w10663 Wd => ?_)
    have Wd : wX D [(e6040, .int), (e6151, .int)] s [] _ A s.heap _ := Wd
    rcases w10663 with ⟨c10664, rfl⟩ | ⟨c10665, c10666, rfl⟩ | ⟨c10667, c10668, rfl⟩
    · exact absurd c10664 c10647
    · exact False.elim (by have z0 := kz_nlt c10647; have z1 := kz_nle c10648; have z2 := kz_nlt c10665; have z3 := kz_lt c10666; have t0 : (0 : Int32).toInt = 0 := (by decide); have t6 : (6 : Int32).toInt = 6 := (by decide); have t5 : (5 : Int32).toInt = 5 := (by decide); omega)
    · refine lv_icmp_eq (tgt := 801) C.1 C.2.1 dL_law_601 (by decide) (fun _ => ?_) (fun c10669 => absurd c10669 (by decide))
      exact tail _ _ _ (k_sub Wd [] rfl (by decide) [] rfl) (lv_sub hl [0, 3] rfl)
set_option maxHeartbeats 4000000 in
set_option maxRecDepth 100000 in
theorem law_make {p : Program} {l : Launch} {e : Env} {s : State} {m : MethodId} {below : List Frame} {meth : Method} {c : Code} {b : Nat} {xs : Nat → Int32} {D : va_G} {A : Nat → Prop} {e5970 : ClassId} {e6040 : ClassId} {e6132 : ClassId} {e6151 : ClassId} {q5961 : Nat} {q5963 : Nat} {q5964 : Nat} {q5965 : Nat} {q5966 : Nat} {q5967 : Nat} {q5968 : Nat} {q5969 : Nat} {q5971 : Nat} {q5972 : Nat} {q5973 : Nat} {q5974 : Nat} {q5975 : Nat} {q5976 : Nat} {q5977 : Nat} {q5978 : Nat} {q5979 : Nat} {q5980 : Nat} {q5981 : Nat} {q5982 : Nat} {q6010 : Nat} {q6011 : Nat} {q6012 : Nat} {q6013 : Nat} {q6014 : Nat} {q6015 : Nat} {q6016 : Nat} {q6017 : Nat} {q6041 : Nat} {q6104 : Nat} {q6106 : Nat} {q6107 : Nat} {q6108 : Nat} {q6109 : Nat} {q6110 : Nat} {q6111 : Nat} {q6112 : Nat} {q6113 : Nat} {q6114 : Nat} {q6115 : Nat} {q6116 : Nat} {q6117 : Nat} {q6118 : Nat} {q6119 : Nat} {q6120 : Nat} {q6121 : Nat} {q6122 : Nat} {q6123 : Nat} {q6124 : Nat} {q6125 : Nat} {q6126 : Nat} {q6127 : Nat} {q6128 : Nat} {q6129 : Nat} {q6130 : Nat} {y1 : Int32} (hy1 : xs 1 = y1) {y2 : Int32} (hy2 : xs 2 = y2) {y3 : Int32} (hy3 : xs 3 = y3) {H : Heap} {locs : List Loc} {ls : Array Slot} (C : CallFix p m c cL_law 4 s #[Value.ref b] gG RL) (aks : aK s) (hX : va_X b 6 xs s s.heap) (hbl : b < s.heap.size) (hbA : ¬ A b) (hrt : meth.sig.returnType = ret) (hlocks : meth.locks = false) (hAe : A = fun q => s.heap.size ≤ q) (tail : (∀ (H : Heap) (locs : List Loc) (ls : Array Slot), wX D [] s [] H A s.heap locs → lv_has ls 4 [(3, .int 0), (0, .ref b)] → W p l e room_1 s m #[Value.ref b] below meth c H locs 271 91330 (lw_Z below #[Value.ref b] s) (F0 m 801 ls []))) (Wd : wX D [(e5970, .object RX8), (e6040, .int), (e6132, .int), (e6151, .int)] s [(q5961, .inr (11, [.ref q5963, .int 0, .ref q5964, .ref q5965, .ref q5966, .ref q5967, .ref q5968, .ref q5969])), (q5963, .inl (e5970, 6, .inr (.inr (.inr (.inr (va_up (va_up (va_up (va_up (va_up (va_up (fun _ => none) 0 (some q5971)) 1 (some q5972)) 2 (some q5973)) 3 (some q5974)) 4 (some q5975)) 5 (some q5976))))))), (q5971, .inr (8, [.ref q5977, .int 0])), (q5972, .inr (8, [.ref q5978, .int 0])), (q5973, .inr (8, [.ref q5979, .int 0])), (q5974, .inr (8, [.ref q5980, .int 0])), (q5975, .inr (8, [.ref q5981, .int 0])), (q5976, .inr (8, [.ref q5982, .int 0])), (q5968, .inr (4, [.ref q6010, .ref q6011, .ref q6012, .int (-1), .int (-1), .ref q6013, .ref q6014, .ref q6015, .ref q6016, .ref q6017])), (q6015, .inl (e6040, 6, .inl (fun _ => 0))), (q6011, .inr (8, [.ref q6041, .int 0])), (q6104, .inr (12, [.ref q6106, .ref q6107, .ref q6108, .ref q6109, .int 0, .int 0, .ref q6110, .int 0, .int 0, .int 0, .int 0, .int 0, .int 0, .int 0, .int 0, .int 0, .int 0, .int 0, .int 0, .int 0, .int (-1), .int 0, .int 0, .int 0, .ref q6111, .ref q6112, .ref q6113, .ref q6114, .ref q6115, .ref q6116, .int 0, .int 0, .int 0, .int 0, .ref q6117, .ref q6118, .ref q6119, .int 0, .int 0, .int 0, .int 0, .ref q6120, .ref q6121, .int 0, .ref q6122, .ref q6123, .int 0, .ref q6124, .int 0, .ref q6125, .ref q6126, .ref q6127, .int 0, .ref q6128, .ref q6129, .ref q6130])), (q6107, .inl (e6132, 6, .inl (fun _ => 0))), (q6126, .inl (e6151, 6, .inl (fun _ => 0)))] H A s.heap locs) (hl : lv_has ls 4 [(3, .int 0), (2, .ref q6104), (1, .ref q5961), (0, .ref b)]) : W p l e room_1 s m #[Value.ref b] below meth c H locs 271 91330 (lw_Z below #[Value.ref b] s) (F0 m 606 ls []) := by
  by_cases c10670 : y2 < 0
  · refine lv_aload_n C.1 C.2.1 dL_law_606 rfl (lv_at hl 2 rfl) ?_
    refine lv_aload_n C.1 C.2.1 dL_law_607 rfl (lv_at hl 3 rfl) ?_
    refine lv_iload_n C.1 C.2.1 dL_law_608 rfl (lv_at hl 0 rfl) ?_
    refine lv_iconst (v := 1) C.1 C.2.1 dL_law_609 (by decide) ?_
    refine k_iadd (v := 1) C (by decide) dL_law_610 ?_
    refine k_sld (v := y1) C hX hbl hbA Wd (vp_in_iff.mpr (by decide)) hy1 dL_law_611 ?_
    refine lv_aload_n C.1 C.2.1 dL_law_612 rfl (lv_at hl 3 rfl) ?_
    refine lv_iload_n C.1 C.2.1 dL_law_613 rfl (lv_at hl 0 rfl) ?_
    refine lv_iconst (v := 2) C.1 C.2.1 dL_law_614 (by decide) ?_
    refine k_iadd (v := 2) C (by decide) dL_law_615 ?_
    refine k_sld (v := y2) C hX hbl hbA Wd (vp_in_iff.mpr (by decide)) hy2 dL_law_616 ?_
    refine lv_aload_n C.1 C.2.1 dL_law_617 rfl (lv_at hl 3 rfl) ?_
    refine lv_iload_n C.1 C.2.1 dL_law_618 rfl (lv_at hl 0 rfl) ?_
    refine lv_iconst (v := 3) C.1 C.2.1 dL_law_619 (by decide) ?_
    refine k_iadd (v := 3) C (by decide) dL_law_620 ?_
    refine k_sld (v := y3) C hX hbl hbA Wd (vp_in_iff.mpr (by decide)) hy3 dL_law_621 ?_
    refine k_pi (k_runV (rest := []) C aks Wd cs_L_77 (kcX11_make l D q5961 q5963 q5964 q5965 q5966 q5967 q5968 q5969 y1 y2 y3 (va_up (va_up (va_up (va_up (va_up (va_up (fun _ => none) 0 (some q5971)) 1 (some q5972)) 2 (some q5973)) 3 (some q5974)) 4 (some q5975)) 5 (some q5976)) e5970 _ c10670) [0, 1] rfl (by decide) [0] rfl 0 11 rfl rfl rfl rfl rfl ⟨(Nat.le_of_ble_eq_true rfl), (Nat.le_of_ble_eq_true rfl)⟩ hl.1 rfl rfl (Nat.le_of_ble_eq_true rfl) ⟨(Nat.le_of_ble_eq_true rfl), (Nat.le_of_ble_eq_true rfl)⟩ dL_law_622) (fun r w10671 => ?_)
    rcases w10671 with ⟨c10672, c10673, rfl⟩ | ⟨c10674, c10675, c10676, rfl⟩ | ⟨c10677, c10678, c10679, rfl⟩ | ⟨c10680, c10681, c10682, rfl⟩
    · refine lv_aload_n C.1 C.2.1 dL_law_625 rfl (lv_at hl 1 rfl) ?_
      refine lv_aload_n C.1 C.2.1 dL_law_626 rfl (lv_at hl 3 rfl) ?_
      refine lv_iload_n C.1 C.2.1 dL_law_627 rfl (lv_at hl 0 rfl) ?_
      refine lv_iconst (v := 1) C.1 C.2.1 dL_law_628 (by decide) ?_
      refine k_iadd (v := 1) C (by decide) dL_law_629 ?_
      refine k_sld (v := y1) C hX hbl hbA Wd (vp_in_iff.mpr (by decide)) hy1 dL_law_630 ?_
      refine lv_aload_n C.1 C.2.1 dL_law_631 rfl (lv_at hl 3 rfl) ?_
      refine lv_iload_n C.1 C.2.1 dL_law_632 rfl (lv_at hl 0 rfl) ?_
      refine lv_iconst (v := 2) C.1 C.2.1 dL_law_633 (by decide) ?_
      refine k_iadd (v := 2) C (by decide) dL_law_634 ?_
      refine k_sld (v := y2) C hX hbl hbA Wd (vp_in_iff.mpr (by decide)) hy2 dL_law_635 ?_
      refine lv_aload_n C.1 C.2.1 dL_law_636 rfl (lv_at hl 3 rfl) ?_
      refine lv_iload_n C.1 C.2.1 dL_law_637 rfl (lv_at hl 0 rfl) ?_
      refine lv_iconst (v := 3) C.1 C.2.1 dL_law_638 (by decide) ?_
      refine k_iadd (v := 3) C (by decide) dL_law_639 ?_
      refine k_sld (v := y3) C hX hbl hbA Wd (vp_in_iff.mpr (by decide)) hy3 dL_law_640 ?_
      refine k_ci Wd [11, 12, 13] [0, 1, 2, 3, 4, 5, 6, 7, 8, 9, 10] rfl (wr := [(q5961, .inr (11, [.ref q5963, .int 0, .ref q5964, .ref q5965, .ref q5966, .ref q5967, .ref q5968, .ref q5969])), (q5963, .inl (e5970, 6, .inr (.inr (.inr (.inr (va_up (va_up (va_up (va_up (va_up (va_up (fun _ => none) 0 (some q5971)) 1 (some q5972)) 2 (some q5973)) 3 (some q5974)) 4 (some q5975)) 5 (some q5976))))))), (q5971, .inr (8, [.ref q5977, .int 0])), (q5972, .inr (8, [.ref q5978, .int 0])), (q5973, .inr (8, [.ref q5979, .int 0])), (q5974, .inr (8, [.ref q5980, .int 0])), (q5975, .inr (8, [.ref q5981, .int 0])), (q5976, .inr (8, [.ref q5982, .int 0])), (q5968, .inr (4, [.ref q6010, .ref q6011, .ref q6012, .int (-1), .int (-1), .ref q6013, .ref q6014, .ref q6015, .ref q6016, .ref q6017])), (q6015, .inl (e6040, 6, .inl (fun _ => 0))), (q6011, .inr (8, [.ref q6041, .int 0]))]) rfl (by decide) (by decide) (cells' := 271) (slots' := 91330) (by decide) (by decide) (k_runV (rest := [.int (-1)]) C aks Wd cs_L_80 (kcX12_make l D q6104 q6106 q6107 q6108 q6109 q6110 q6111 q6112 q6113 q6114 q6115 q6116 q6117 q6118 q6119 q6120 q6121 q6122 q6123 q6124 q6125 q6126 q6127 q6128 q6129 q6130 y1 y2 y3 e6132 e6151 _ ) [11, 12, 13] rfl (by decide) [2, 3] rfl 11 12 rfl rfl rfl rfl rfl ⟨(Nat.le_of_ble_eq_true rfl), (Nat.le_of_ble_eq_true rfl)⟩ hl.1 rfl rfl (Nat.le_of_ble_eq_true rfl) ⟨(Nat.le_of_ble_eq_true rfl), (Nat.le_of_ble_eq_true rfl)⟩ dL_law_641) (fun r _ H locs w10683 Wd => ?_)
      have Wd : wX D [(e5970, .object RX8), (e6040, .int), (e6132, .int), (e6151, .int)] s [(q5961, .inr (11, [.ref q5963, .int 0, .ref q5964, .ref q5965, .ref q5966, .ref q5967, .ref q5968, .ref q5969])), (q5963, .inl (e5970, 6, .inr (.inr (.inr (.inr (va_up (va_up (va_up (va_up (va_up (va_up (fun _ => none) 0 (some q5971)) 1 (some q5972)) 2 (some q5973)) 3 (some q5974)) 4 (some q5975)) 5 (some q5976))))))), (q5971, .inr (8, [.ref q5977, .int 0])), (q5972, .inr (8, [.ref q5978, .int 0])), (q5973, .inr (8, [.ref q5979, .int 0])), (q5974, .inr (8, [.ref q5980, .int 0])), (q5975, .inr (8, [.ref q5981, .int 0])), (q5976, .inr (8, [.ref q5982, .int 0])), (q5968, .inr (4, [.ref q6010, .ref q6011, .ref q6012, .int (-1), .int (-1), .ref q6013, .ref q6014, .ref q6015, .ref q6016, .ref q6017])), (q6015, .inl (e6040, 6, .inl (fun _ => 0))), (q6011, .inr (8, [.ref q6041, .int 0]))] _ A s.heap _ := Wd
      rcases w10683 with ⟨c10684, rfl⟩ | ⟨c10685, c10686, rfl⟩ | ⟨c10687, c10688, c10689, rfl⟩ | ⟨c10690, c10691, c10692, c10693, rfl⟩ | ⟨c10694, c10695, c10696, c10697, c10698, rfl⟩ | ⟨c10699, c10700, c10701, c10702, c10703, c10704, rfl⟩ | ⟨c10705, c10706, c10707, c10708, c10709, c10710, rfl⟩
      · refine lv_icmp_eq (tgt := 801) C.1 C.2.1 dL_law_644 (by decide) (fun _ => ?_) (fun c10711 => absurd c10711 (by decide))
        exact tail _ _ _ (k_sub Wd [] rfl (by decide) [] rfl) (lv_sub hl [0, 3] rfl)
      · refine lv_icmp_eq (tgt := 801) C.1 C.2.1 dL_law_644 (by decide) (fun _ => ?_) (fun c10712 => absurd c10712 (by decide))
        exact tail _ _ _ (k_sub Wd [] rfl (by decide) [] rfl) (lv_sub hl [0, 3] rfl)
      · refine lv_icmp_eq (tgt := 801) C.1 C.2.1 dL_law_644 (by decide) (fun _ => ?_) (fun c10713 => absurd c10713 (by decide))
        exact tail _ _ _ (k_sub Wd [] rfl (by decide) [] rfl) (lv_sub hl [0, 3] rfl)
      · exact absurd c10670 c10692
      · exact absurd c10670 c10696
      · exact absurd c10670 c10701
      · exact absurd c10670 c10707
    · refine lv_aload_n C.1 C.2.1 dL_law_625 rfl (lv_at hl 1 rfl) ?_
      refine lv_aload_n C.1 C.2.1 dL_law_626 rfl (lv_at hl 3 rfl) ?_
      refine lv_iload_n C.1 C.2.1 dL_law_627 rfl (lv_at hl 0 rfl) ?_
      refine lv_iconst (v := 1) C.1 C.2.1 dL_law_628 (by decide) ?_
      refine k_iadd (v := 1) C (by decide) dL_law_629 ?_
      refine k_sld (v := y1) C hX hbl hbA Wd (vp_in_iff.mpr (by decide)) hy1 dL_law_630 ?_
      refine lv_aload_n C.1 C.2.1 dL_law_631 rfl (lv_at hl 3 rfl) ?_
      refine lv_iload_n C.1 C.2.1 dL_law_632 rfl (lv_at hl 0 rfl) ?_
      refine lv_iconst (v := 2) C.1 C.2.1 dL_law_633 (by decide) ?_
      refine k_iadd (v := 2) C (by decide) dL_law_634 ?_
      refine k_sld (v := y2) C hX hbl hbA Wd (vp_in_iff.mpr (by decide)) hy2 dL_law_635 ?_
      refine lv_aload_n C.1 C.2.1 dL_law_636 rfl (lv_at hl 3 rfl) ?_
      refine lv_iload_n C.1 C.2.1 dL_law_637 rfl (lv_at hl 0 rfl) ?_
      refine lv_iconst (v := 3) C.1 C.2.1 dL_law_638 (by decide) ?_
      refine k_iadd (v := 3) C (by decide) dL_law_639 ?_
      refine k_sld (v := y3) C hX hbl hbA Wd (vp_in_iff.mpr (by decide)) hy3 dL_law_640 ?_
      refine k_ci Wd [11, 12, 13] [0, 1, 2, 3, 4, 5, 6, 7, 8, 9, 10] rfl (wr := [(q5961, .inr (11, [.ref q5963, .int 0, .ref q5964, .ref q5965, .ref q5966, .ref q5967, .ref q5968, .ref q5969])), (q5963, .inl (e5970, 6, .inr (.inr (.inr (.inr (va_up (va_up (va_up (va_up (va_up (va_up (fun _ => none) 0 (some q5971)) 1 (some q5972)) 2 (some q5973)) 3 (some q5974)) 4 (some q5975)) 5 (some q5976))))))), (q5971, .inr (8, [.ref q5977, .int 0])), (q5972, .inr (8, [.ref q5978, .int 0])), (q5973, .inr (8, [.ref q5979, .int 0])), (q5974, .inr (8, [.ref q5980, .int 0])), (q5975, .inr (8, [.ref q5981, .int 0])), (q5976, .inr (8, [.ref q5982, .int 0])), (q5968, .inr (4, [.ref q6010, .ref q6011, .ref q6012, .int (-1), .int (-1), .ref q6013, .ref q6014, .ref q6015, .ref q6016, .ref q6017])), (q6015, .inl (e6040, 6, .inl (fun _ => 0))), (q6011, .inr (8, [.ref q6041, .int 0]))]) rfl (by decide) (by decide) (cells' := 271) (slots' := 91330) (by decide) (by decide) (k_runV (rest := [.int (-1)]) C aks Wd cs_L_80 (kcX12_make l D q6104 q6106 q6107 q6108 q6109 q6110 q6111 q6112 q6113 q6114 q6115 q6116 q6117 q6118 q6119 q6120 q6121 q6122 q6123 q6124 q6125 q6126 q6127 q6128 q6129 q6130 y1 y2 y3 e6132 e6151 _ ) [11, 12, 13] rfl (by decide) [2, 3] rfl 11 12 rfl rfl rfl rfl rfl ⟨(Nat.le_of_ble_eq_true rfl), (Nat.le_of_ble_eq_true rfl)⟩ hl.1 rfl rfl (Nat.le_of_ble_eq_true rfl) ⟨(Nat.le_of_ble_eq_true rfl), (Nat.le_of_ble_eq_true rfl)⟩ dL_law_641) (fun r _ H locs w10714 Wd => ?_)
      have Wd : wX D [(e5970, .object RX8), (e6040, .int), (e6132, .int), (e6151, .int)] s [(q5961, .inr (11, [.ref q5963, .int 0, .ref q5964, .ref q5965, .ref q5966, .ref q5967, .ref q5968, .ref q5969])), (q5963, .inl (e5970, 6, .inr (.inr (.inr (.inr (va_up (va_up (va_up (va_up (va_up (va_up (fun _ => none) 0 (some q5971)) 1 (some q5972)) 2 (some q5973)) 3 (some q5974)) 4 (some q5975)) 5 (some q5976))))))), (q5971, .inr (8, [.ref q5977, .int 0])), (q5972, .inr (8, [.ref q5978, .int 0])), (q5973, .inr (8, [.ref q5979, .int 0])), (q5974, .inr (8, [.ref q5980, .int 0])), (q5975, .inr (8, [.ref q5981, .int 0])), (q5976, .inr (8, [.ref q5982, .int 0])), (q5968, .inr (4, [.ref q6010, .ref q6011, .ref q6012, .int (-1), .int (-1), .ref q6013, .ref q6014, .ref q6015, .ref q6016, .ref q6017])), (q6015, .inl (e6040, 6, .inl (fun _ => 0))), (q6011, .inr (8, [.ref q6041, .int 0]))] _ A s.heap _ := Wd
      rcases w10714 with ⟨c10715, rfl⟩ | ⟨c10716, c10717, rfl⟩ | ⟨c10718, c10719, c10720, rfl⟩ | ⟨c10721, c10722, c10723, c10724, rfl⟩ | ⟨c10725, c10726, c10727, c10728, c10729, rfl⟩ | ⟨c10730, c10731, c10732, c10733, c10734, c10735, rfl⟩ | ⟨c10736, c10737, c10738, c10739, c10740, c10741, rfl⟩
      · refine lv_icmp_eq (tgt := 801) C.1 C.2.1 dL_law_644 (by decide) (fun _ => ?_) (fun c10742 => absurd c10742 (by decide))
        exact tail _ _ _ (k_sub Wd [] rfl (by decide) [] rfl) (lv_sub hl [0, 3] rfl)
      · refine lv_icmp_eq (tgt := 801) C.1 C.2.1 dL_law_644 (by decide) (fun _ => ?_) (fun c10743 => absurd c10743 (by decide))
        exact tail _ _ _ (k_sub Wd [] rfl (by decide) [] rfl) (lv_sub hl [0, 3] rfl)
      · refine lv_icmp_eq (tgt := 801) C.1 C.2.1 dL_law_644 (by decide) (fun _ => ?_) (fun c10744 => absurd c10744 (by decide))
        exact tail _ _ _ (k_sub Wd [] rfl (by decide) [] rfl) (lv_sub hl [0, 3] rfl)
      · exact absurd c10670 c10723
      · exact absurd c10670 c10727
      · exact absurd c10670 c10732
      · exact absurd c10670 c10738
    · refine lv_aload_n C.1 C.2.1 dL_law_625 rfl (lv_at hl 1 rfl) ?_
      refine lv_aload_n C.1 C.2.1 dL_law_626 rfl (lv_at hl 3 rfl) ?_
      refine lv_iload_n C.1 C.2.1 dL_law_627 rfl (lv_at hl 0 rfl) ?_
      refine lv_iconst (v := 1) C.1 C.2.1 dL_law_628 (by decide) ?_
      refine k_iadd (v := 1) C (by decide) dL_law_629 ?_
      refine k_sld (v := y1) C hX hbl hbA Wd (vp_in_iff.mpr (by decide)) hy1 dL_law_630 ?_
      refine lv_aload_n C.1 C.2.1 dL_law_631 rfl (lv_at hl 3 rfl) ?_
      refine lv_iload_n C.1 C.2.1 dL_law_632 rfl (lv_at hl 0 rfl) ?_
      refine lv_iconst (v := 2) C.1 C.2.1 dL_law_633 (by decide) ?_
      refine k_iadd (v := 2) C (by decide) dL_law_634 ?_
      refine k_sld (v := y2) C hX hbl hbA Wd (vp_in_iff.mpr (by decide)) hy2 dL_law_635 ?_
      refine lv_aload_n C.1 C.2.1 dL_law_636 rfl (lv_at hl 3 rfl) ?_
      refine lv_iload_n C.1 C.2.1 dL_law_637 rfl (lv_at hl 0 rfl) ?_
      refine lv_iconst (v := 3) C.1 C.2.1 dL_law_638 (by decide) ?_
      refine k_iadd (v := 3) C (by decide) dL_law_639 ?_
      refine k_sld (v := y3) C hX hbl hbA Wd (vp_in_iff.mpr (by decide)) hy3 dL_law_640 ?_
      refine k_ci Wd [11, 12, 13] [0, 1, 2, 3, 4, 5, 6, 7, 8, 9, 10] rfl (wr := [(q5961, .inr (11, [.ref q5963, .int 0, .ref q5964, .ref q5965, .ref q5966, .ref q5967, .ref q5968, .ref q5969])), (q5963, .inl (e5970, 6, .inr (.inr (.inr (.inr (va_up (va_up (va_up (va_up (va_up (va_up (fun _ => none) 0 (some q5971)) 1 (some q5972)) 2 (some q5973)) 3 (some q5974)) 4 (some q5975)) 5 (some q5976))))))), (q5971, .inr (8, [.ref q5977, .int 0])), (q5972, .inr (8, [.ref q5978, .int 0])), (q5973, .inr (8, [.ref q5979, .int 0])), (q5974, .inr (8, [.ref q5980, .int 0])), (q5975, .inr (8, [.ref q5981, .int 0])), (q5976, .inr (8, [.ref q5982, .int 0])), (q5968, .inr (4, [.ref q6010, .ref q6011, .ref q6012, .int (-1), .int (-1), .ref q6013, .ref q6014, .ref q6015, .ref q6016, .ref q6017])), (q6015, .inl (e6040, 6, .inl (fun _ => 0))), (q6011, .inr (8, [.ref q6041, .int 0]))]) rfl (by decide) (by decide) (cells' := 271) (slots' := 91330) (by decide) (by decide) (k_runV (rest := [.int (-1)]) C aks Wd cs_L_80 (kcX12_make l D q6104 q6106 q6107 q6108 q6109 q6110 q6111 q6112 q6113 q6114 q6115 q6116 q6117 q6118 q6119 q6120 q6121 q6122 q6123 q6124 q6125 q6126 q6127 q6128 q6129 q6130 y1 y2 y3 e6132 e6151 _ ) [11, 12, 13] rfl (by decide) [2, 3] rfl 11 12 rfl rfl rfl rfl rfl ⟨(Nat.le_of_ble_eq_true rfl), (Nat.le_of_ble_eq_true rfl)⟩ hl.1 rfl rfl (Nat.le_of_ble_eq_true rfl) ⟨(Nat.le_of_ble_eq_true rfl), (Nat.le_of_ble_eq_true rfl)⟩ dL_law_641) (fun r _ H locs w10745 Wd => ?_)
      have Wd : wX D [(e5970, .object RX8), (e6040, .int), (e6132, .int), (e6151, .int)] s [(q5961, .inr (11, [.ref q5963, .int 0, .ref q5964, .ref q5965, .ref q5966, .ref q5967, .ref q5968, .ref q5969])), (q5963, .inl (e5970, 6, .inr (.inr (.inr (.inr (va_up (va_up (va_up (va_up (va_up (va_up (fun _ => none) 0 (some q5971)) 1 (some q5972)) 2 (some q5973)) 3 (some q5974)) 4 (some q5975)) 5 (some q5976))))))), (q5971, .inr (8, [.ref q5977, .int 0])), (q5972, .inr (8, [.ref q5978, .int 0])), (q5973, .inr (8, [.ref q5979, .int 0])), (q5974, .inr (8, [.ref q5980, .int 0])), (q5975, .inr (8, [.ref q5981, .int 0])), (q5976, .inr (8, [.ref q5982, .int 0])), (q5968, .inr (4, [.ref q6010, .ref q6011, .ref q6012, .int (-1), .int (-1), .ref q6013, .ref q6014, .ref q6015, .ref q6016, .ref q6017])), (q6015, .inl (e6040, 6, .inl (fun _ => 0))), (q6011, .inr (8, [.ref q6041, .int 0]))] _ A s.heap _ := Wd
      rcases w10745 with ⟨c10746, rfl⟩ | ⟨c10747, c10748, rfl⟩ | ⟨c10749, c10750, c10751, rfl⟩ | ⟨c10752, c10753, c10754, c10755, rfl⟩ | ⟨c10756, c10757, c10758, c10759, c10760, rfl⟩ | ⟨c10761, c10762, c10763, c10764, c10765, c10766, rfl⟩ | ⟨c10767, c10768, c10769, c10770, c10771, c10772, rfl⟩
      · refine lv_icmp_eq (tgt := 801) C.1 C.2.1 dL_law_644 (by decide) (fun _ => ?_) (fun c10773 => absurd c10773 (by decide))
        exact tail _ _ _ (k_sub Wd [] rfl (by decide) [] rfl) (lv_sub hl [0, 3] rfl)
      · refine lv_icmp_eq (tgt := 801) C.1 C.2.1 dL_law_644 (by decide) (fun _ => ?_) (fun c10774 => absurd c10774 (by decide))
        exact tail _ _ _ (k_sub Wd [] rfl (by decide) [] rfl) (lv_sub hl [0, 3] rfl)
      · refine lv_icmp_eq (tgt := 801) C.1 C.2.1 dL_law_644 (by decide) (fun _ => ?_) (fun c10775 => absurd c10775 (by decide))
        exact tail _ _ _ (k_sub Wd [] rfl (by decide) [] rfl) (lv_sub hl [0, 3] rfl)
      · exact absurd c10670 c10754
      · exact absurd c10670 c10758
      · exact absurd c10670 c10763
      · exact absurd c10670 c10769
    · refine lv_aload_n C.1 C.2.1 dL_law_625 rfl (lv_at hl 1 rfl) ?_
      refine lv_aload_n C.1 C.2.1 dL_law_626 rfl (lv_at hl 3 rfl) ?_
      refine lv_iload_n C.1 C.2.1 dL_law_627 rfl (lv_at hl 0 rfl) ?_
      refine lv_iconst (v := 1) C.1 C.2.1 dL_law_628 (by decide) ?_
      refine k_iadd (v := 1) C (by decide) dL_law_629 ?_
      refine k_sld (v := y1) C hX hbl hbA Wd (vp_in_iff.mpr (by decide)) hy1 dL_law_630 ?_
      refine lv_aload_n C.1 C.2.1 dL_law_631 rfl (lv_at hl 3 rfl) ?_
      refine lv_iload_n C.1 C.2.1 dL_law_632 rfl (lv_at hl 0 rfl) ?_
      refine lv_iconst (v := 2) C.1 C.2.1 dL_law_633 (by decide) ?_
      refine k_iadd (v := 2) C (by decide) dL_law_634 ?_
      refine k_sld (v := y2) C hX hbl hbA Wd (vp_in_iff.mpr (by decide)) hy2 dL_law_635 ?_
      refine lv_aload_n C.1 C.2.1 dL_law_636 rfl (lv_at hl 3 rfl) ?_
      refine lv_iload_n C.1 C.2.1 dL_law_637 rfl (lv_at hl 0 rfl) ?_
      refine lv_iconst (v := 3) C.1 C.2.1 dL_law_638 (by decide) ?_
      refine k_iadd (v := 3) C (by decide) dL_law_639 ?_
      refine k_sld (v := y3) C hX hbl hbA Wd (vp_in_iff.mpr (by decide)) hy3 dL_law_640 ?_
      refine k_ci Wd [11, 12, 13] [0, 1, 2, 3, 4, 5, 6, 7, 8, 9, 10] rfl (wr := [(q5961, .inr (11, [.ref q5963, .int 0, .ref q5964, .ref q5965, .ref q5966, .ref q5967, .ref q5968, .ref q5969])), (q5963, .inl (e5970, 6, .inr (.inr (.inr (.inr (va_up (va_up (va_up (va_up (va_up (va_up (fun _ => none) 0 (some q5971)) 1 (some q5972)) 2 (some q5973)) 3 (some q5974)) 4 (some q5975)) 5 (some q5976))))))), (q5971, .inr (8, [.ref q5977, .int 0])), (q5972, .inr (8, [.ref q5978, .int 0])), (q5973, .inr (8, [.ref q5979, .int 0])), (q5974, .inr (8, [.ref q5980, .int 0])), (q5975, .inr (8, [.ref q5981, .int 0])), (q5976, .inr (8, [.ref q5982, .int 0])), (q5968, .inr (4, [.ref q6010, .ref q6011, .ref q6012, .int (-1), .int (-1), .ref q6013, .ref q6014, .ref q6015, .ref q6016, .ref q6017])), (q6015, .inl (e6040, 6, .inl (fun _ => 0))), (q6011, .inr (8, [.ref q6041, .int 0]))]) rfl (by decide) (by decide) (cells' := 271) (slots' := 91330) (by decide) (by decide) (k_runV (rest := [.int (-1)]) C aks Wd cs_L_80 (kcX12_make l D q6104 q6106 q6107 q6108 q6109 q6110 q6111 q6112 q6113 q6114 q6115 q6116 q6117 q6118 q6119 q6120 q6121 q6122 q6123 q6124 q6125 q6126 q6127 q6128 q6129 q6130 y1 y2 y3 e6132 e6151 _ ) [11, 12, 13] rfl (by decide) [2, 3] rfl 11 12 rfl rfl rfl rfl rfl ⟨(Nat.le_of_ble_eq_true rfl), (Nat.le_of_ble_eq_true rfl)⟩ hl.1 rfl rfl (Nat.le_of_ble_eq_true rfl) ⟨(Nat.le_of_ble_eq_true rfl), (Nat.le_of_ble_eq_true rfl)⟩ dL_law_641) (fun r _ H locs w10776 Wd => ?_)
      have Wd : wX D [(e5970, .object RX8), (e6040, .int), (e6132, .int), (e6151, .int)] s [(q5961, .inr (11, [.ref q5963, .int 0, .ref q5964, .ref q5965, .ref q5966, .ref q5967, .ref q5968, .ref q5969])), (q5963, .inl (e5970, 6, .inr (.inr (.inr (.inr (va_up (va_up (va_up (va_up (va_up (va_up (fun _ => none) 0 (some q5971)) 1 (some q5972)) 2 (some q5973)) 3 (some q5974)) 4 (some q5975)) 5 (some q5976))))))), (q5971, .inr (8, [.ref q5977, .int 0])), (q5972, .inr (8, [.ref q5978, .int 0])), (q5973, .inr (8, [.ref q5979, .int 0])), (q5974, .inr (8, [.ref q5980, .int 0])), (q5975, .inr (8, [.ref q5981, .int 0])), (q5976, .inr (8, [.ref q5982, .int 0])), (q5968, .inr (4, [.ref q6010, .ref q6011, .ref q6012, .int (-1), .int (-1), .ref q6013, .ref q6014, .ref q6015, .ref q6016, .ref q6017])), (q6015, .inl (e6040, 6, .inl (fun _ => 0))), (q6011, .inr (8, [.ref q6041, .int 0]))] _ A s.heap _ := Wd
      rcases w10776 with ⟨c10777, rfl⟩ | ⟨c10778, c10779, rfl⟩ | ⟨c10780, c10781, c10782, rfl⟩ | ⟨c10783, c10784, c10785, c10786, rfl⟩ | ⟨c10787, c10788, c10789, c10790, c10791, rfl⟩ | ⟨c10792, c10793, c10794, c10795, c10796, c10797, rfl⟩ | ⟨c10798, c10799, c10800, c10801, c10802, c10803, rfl⟩
      · refine lv_icmp_eq (tgt := 801) C.1 C.2.1 dL_law_644 (by decide) (fun _ => ?_) (fun c10804 => absurd c10804 (by decide))
        exact tail _ _ _ (k_sub Wd [] rfl (by decide) [] rfl) (lv_sub hl [0, 3] rfl)
      · refine lv_icmp_eq (tgt := 801) C.1 C.2.1 dL_law_644 (by decide) (fun _ => ?_) (fun c10805 => absurd c10805 (by decide))
        exact tail _ _ _ (k_sub Wd [] rfl (by decide) [] rfl) (lv_sub hl [0, 3] rfl)
      · refine lv_icmp_eq (tgt := 801) C.1 C.2.1 dL_law_644 (by decide) (fun _ => ?_) (fun c10806 => absurd c10806 (by decide))
        exact tail _ _ _ (k_sub Wd [] rfl (by decide) [] rfl) (lv_sub hl [0, 3] rfl)
      · exact absurd c10670 c10785
      · exact absurd c10670 c10789
      · exact absurd c10670 c10794
      · exact absurd c10670 c10800
  by_cases c10807 : y2 < 6
  · by_cases c10808 : y3 < 0
    · have hsel : ∃ (q10809 q10810 : Nat), (va_up (va_up (va_up (va_up (va_up (va_up (fun _ => none) 0 (some q5971)) 1 (some q5972)) 2 (some q5973)) 3 (some q5974)) 4 (some q5975)) 5 (some q5976)) y2.toNatClampNeg = some q10809 ∧ wX D [(e5970, .object RX8), (e6040, .int), (e6132, .int), (e6151, .int)] s [(q5961, .inr (11, [.ref q5963, .int 0, .ref q5964, .ref q5965, .ref q5966, .ref q5967, .ref q5968, .ref q5969])), (q5963, .inl (e5970, 6, .inr (.inr (.inr (.inr (va_up (va_up (va_up (va_up (va_up (va_up (fun _ => none) 0 (some q5971)) 1 (some q5972)) 2 (some q5973)) 3 (some q5974)) 4 (some q5975)) 5 (some q5976))))))), (q5968, .inr (4, [.ref q6010, .ref q6011, .ref q6012, .int (-1), .int (-1), .ref q6013, .ref q6014, .ref q6015, .ref q6016, .ref q6017])), (q6015, .inl (e6040, 6, .inl (fun _ => 0))), (q6011, .inr (8, [.ref q6041, .int 0])), (q6104, .inr (12, [.ref q6106, .ref q6107, .ref q6108, .ref q6109, .int 0, .int 0, .ref q6110, .int 0, .int 0, .int 0, .int 0, .int 0, .int 0, .int 0, .int 0, .int 0, .int 0, .int 0, .int 0, .int 0, .int (-1), .int 0, .int 0, .int 0, .ref q6111, .ref q6112, .ref q6113, .ref q6114, .ref q6115, .ref q6116, .int 0, .int 0, .int 0, .int 0, .ref q6117, .ref q6118, .ref q6119, .int 0, .int 0, .int 0, .int 0, .ref q6120, .ref q6121, .int 0, .ref q6122, .ref q6123, .int 0, .ref q6124, .int 0, .ref q6125, .ref q6126, .ref q6127, .int 0, .ref q6128, .ref q6129, .ref q6130])), (q6107, .inl (e6132, 6, .inl (fun _ => 0))), (q6126, .inl (e6151, 6, .inl (fun _ => 0))), (q10809, .inr (8, [.ref q10810, .int 0]))] H A s.heap locs := by
        rcases kf6 c10670 c10807 with rfl | rfl | rfl | rfl | rfl | rfl
        · exact ⟨q5971, q5977, rfl, k_sub Wd [0, 1, 8, 9, 10, 11, 12, 13, 2] rfl (by decide) [0, 1, 2, 3] rfl⟩
        · exact ⟨q5972, q5978, rfl, k_sub Wd [0, 1, 8, 9, 10, 11, 12, 13, 3] rfl (by decide) [0, 1, 2, 3] rfl⟩
        · exact ⟨q5973, q5979, rfl, k_sub Wd [0, 1, 8, 9, 10, 11, 12, 13, 4] rfl (by decide) [0, 1, 2, 3] rfl⟩
        · exact ⟨q5974, q5980, rfl, k_sub Wd [0, 1, 8, 9, 10, 11, 12, 13, 5] rfl (by decide) [0, 1, 2, 3] rfl⟩
        · exact ⟨q5975, q5981, rfl, k_sub Wd [0, 1, 8, 9, 10, 11, 12, 13, 6] rfl (by decide) [0, 1, 2, 3] rfl⟩
        · exact ⟨q5976, q5982, rfl, k_sub Wd [0, 1, 8, 9, 10, 11, 12, 13, 7] rfl (by decide) [0, 1, 2, 3] rfl⟩
      obtain ⟨q10809, q10810, hk10811, Wd⟩ := hsel
      refine lv_aload_n C.1 C.2.1 dL_law_606 rfl (lv_at hl 2 rfl) ?_
      refine lv_aload_n C.1 C.2.1 dL_law_607 rfl (lv_at hl 3 rfl) ?_
      refine lv_iload_n C.1 C.2.1 dL_law_608 rfl (lv_at hl 0 rfl) ?_
      refine lv_iconst (v := 1) C.1 C.2.1 dL_law_609 (by decide) ?_
      refine k_iadd (v := 1) C (by decide) dL_law_610 ?_
      refine k_sld (v := y1) C hX hbl hbA Wd (vp_in_iff.mpr (by decide)) hy1 dL_law_611 ?_
      refine lv_aload_n C.1 C.2.1 dL_law_612 rfl (lv_at hl 3 rfl) ?_
      refine lv_iload_n C.1 C.2.1 dL_law_613 rfl (lv_at hl 0 rfl) ?_
      refine lv_iconst (v := 2) C.1 C.2.1 dL_law_614 (by decide) ?_
      refine k_iadd (v := 2) C (by decide) dL_law_615 ?_
      refine k_sld (v := y2) C hX hbl hbA Wd (vp_in_iff.mpr (by decide)) hy2 dL_law_616 ?_
      refine lv_aload_n C.1 C.2.1 dL_law_617 rfl (lv_at hl 3 rfl) ?_
      refine lv_iload_n C.1 C.2.1 dL_law_618 rfl (lv_at hl 0 rfl) ?_
      refine lv_iconst (v := 3) C.1 C.2.1 dL_law_619 (by decide) ?_
      refine k_iadd (v := 3) C (by decide) dL_law_620 ?_
      refine k_sld (v := y3) C hX hbl hbA Wd (vp_in_iff.mpr (by decide)) hy3 dL_law_621 ?_
      refine k_pi (k_runV (rest := []) C aks Wd cs_L_77 (kcX11_make_v2 l D q5961 q5963 q5964 q5965 q5966 q5967 q5968 q5969 q10809 y1 y2 y3 (va_up (va_up (va_up (va_up (va_up (va_up (fun _ => none) 0 (some q5971)) 1 (some q5972)) 2 (some q5973)) 3 (some q5974)) 4 (some q5975)) 5 (some q5976)) e5970 _ hk10811 c10670 c10807 c10808) [0, 1] rfl (by decide) [0] rfl 0 11 rfl rfl rfl rfl rfl ⟨(Nat.le_of_ble_eq_true rfl), (Nat.le_of_ble_eq_true rfl)⟩ hl.1 rfl rfl (Nat.le_of_ble_eq_true rfl) ⟨(Nat.le_of_ble_eq_true rfl), (Nat.le_of_ble_eq_true rfl)⟩ dL_law_622) (fun r w10812 => ?_)
      obtain ⟨c10813, c10814, c10815, rfl⟩ := w10812
      refine lv_aload_n C.1 C.2.1 dL_law_625 rfl (lv_at hl 1 rfl) ?_
      refine lv_aload_n C.1 C.2.1 dL_law_626 rfl (lv_at hl 3 rfl) ?_
      refine lv_iload_n C.1 C.2.1 dL_law_627 rfl (lv_at hl 0 rfl) ?_
      refine lv_iconst (v := 1) C.1 C.2.1 dL_law_628 (by decide) ?_
      refine k_iadd (v := 1) C (by decide) dL_law_629 ?_
      refine k_sld (v := y1) C hX hbl hbA Wd (vp_in_iff.mpr (by decide)) hy1 dL_law_630 ?_
      refine lv_aload_n C.1 C.2.1 dL_law_631 rfl (lv_at hl 3 rfl) ?_
      refine lv_iload_n C.1 C.2.1 dL_law_632 rfl (lv_at hl 0 rfl) ?_
      refine lv_iconst (v := 2) C.1 C.2.1 dL_law_633 (by decide) ?_
      refine k_iadd (v := 2) C (by decide) dL_law_634 ?_
      refine k_sld (v := y2) C hX hbl hbA Wd (vp_in_iff.mpr (by decide)) hy2 dL_law_635 ?_
      refine lv_aload_n C.1 C.2.1 dL_law_636 rfl (lv_at hl 3 rfl) ?_
      refine lv_iload_n C.1 C.2.1 dL_law_637 rfl (lv_at hl 0 rfl) ?_
      refine lv_iconst (v := 3) C.1 C.2.1 dL_law_638 (by decide) ?_
      refine k_iadd (v := 3) C (by decide) dL_law_639 ?_
      refine k_sld (v := y3) C hX hbl hbA Wd (vp_in_iff.mpr (by decide)) hy3 dL_law_640 ?_
      refine k_ci Wd [5, 6, 7] [0, 1, 2, 3, 4, 8] rfl (wr := [(q5961, .inr (11, [.ref q5963, .int 0, .ref q5964, .ref q5965, .ref q5966, .ref q5967, .ref q5968, .ref q5969])), (q5963, .inl (e5970, 6, .inr (.inr (.inr (.inr (va_up (va_up (va_up (va_up (va_up (va_up (fun _ => none) 0 (some q5971)) 1 (some q5972)) 2 (some q5973)) 3 (some q5974)) 4 (some q5975)) 5 (some q5976))))))), (q5968, .inr (4, [.ref q6010, .ref q6011, .ref q6012, .int (-1), .int (-1), .ref q6013, .ref q6014, .ref q6015, .ref q6016, .ref q6017])), (q6015, .inl (e6040, 6, .inl (fun _ => 0))), (q6011, .inr (8, [.ref q6041, .int 0])), (q10809, .inr (8, [.ref q10810, .int 0]))]) rfl (by decide) (by decide) (cells' := 271) (slots' := 91330) (by decide) (by decide) (k_runV (rest := [.int (-1)]) C aks Wd cs_L_80 (kcX12_make l D q6104 q6106 q6107 q6108 q6109 q6110 q6111 q6112 q6113 q6114 q6115 q6116 q6117 q6118 q6119 q6120 q6121 q6122 q6123 q6124 q6125 q6126 q6127 q6128 q6129 q6130 y1 y2 y3 e6132 e6151 _ ) [5, 6, 7] rfl (by decide) [2, 3] rfl 5 12 rfl rfl rfl rfl rfl ⟨(Nat.le_of_ble_eq_true rfl), (Nat.le_of_ble_eq_true rfl)⟩ hl.1 rfl rfl (Nat.le_of_ble_eq_true rfl) ⟨(Nat.le_of_ble_eq_true rfl), (Nat.le_of_ble_eq_true rfl)⟩ dL_law_641) (fun r _ H locs w10816 Wd => ?_)
      have Wd : wX D [(e5970, .object RX8), (e6040, .int), (e6132, .int), (e6151, .int)] s [(q5961, .inr (11, [.ref q5963, .int 0, .ref q5964, .ref q5965, .ref q5966, .ref q5967, .ref q5968, .ref q5969])), (q5963, .inl (e5970, 6, .inr (.inr (.inr (.inr (va_up (va_up (va_up (va_up (va_up (va_up (fun _ => none) 0 (some q5971)) 1 (some q5972)) 2 (some q5973)) 3 (some q5974)) 4 (some q5975)) 5 (some q5976))))))), (q5968, .inr (4, [.ref q6010, .ref q6011, .ref q6012, .int (-1), .int (-1), .ref q6013, .ref q6014, .ref q6015, .ref q6016, .ref q6017])), (q6015, .inl (e6040, 6, .inl (fun _ => 0))), (q6011, .inr (8, [.ref q6041, .int 0])), (q10809, .inr (8, [.ref q10810, .int 0]))] _ A s.heap _ := Wd
      rcases w10816 with ⟨c10817, rfl⟩ | ⟨c10818, c10819, rfl⟩ | ⟨c10820, c10821, c10822, rfl⟩ | ⟨c10823, c10824, c10825, c10826, rfl⟩ | ⟨c10827, c10828, c10829, c10830, c10831, rfl⟩ | ⟨c10832, c10833, c10834, c10835, c10836, c10837, rfl⟩ | ⟨c10838, c10839, c10840, c10841, c10842, c10843, rfl⟩
      · refine lv_icmp_eq (tgt := 801) C.1 C.2.1 dL_law_644 (by decide) (fun _ => ?_) (fun c10844 => absurd c10844 (by decide))
        exact tail _ _ _ (k_sub Wd [] rfl (by decide) [] rfl) (lv_sub hl [0, 3] rfl)
      · refine lv_icmp_eq (tgt := 801) C.1 C.2.1 dL_law_644 (by decide) (fun _ => ?_) (fun c10845 => absurd c10845 (by decide))
        exact tail _ _ _ (k_sub Wd [] rfl (by decide) [] rfl) (lv_sub hl [0, 3] rfl)
      · exact absurd c10822 c10670
      · exact False.elim (by have z0 := kz_nlt c10670; have z1 := kz_lt c10807; have z2 := kz_nlt c10813; have z3 := kz_nle c10814; have z4 := kz_nlt c10825; have z5 := kz_lt c10826; have t0 : (0 : Int32).toInt = 0 := (by decide); have t6 : (6 : Int32).toInt = 6 := (by decide); have t5 : (5 : Int32).toInt = 5 := (by decide); omega)
      · refine lv_icmp_eq (tgt := 801) C.1 C.2.1 dL_law_644 (by decide) (fun _ => ?_) (fun c10846 => absurd c10846 (by decide))
        exact tail _ _ _ (k_sub Wd [] rfl (by decide) [] rfl) (lv_sub hl [0, 3] rfl)
      · exact absurd c10808 c10836
      · exact absurd c10808 c10842
    by_cases c10847 : y3 < 6
    · by_cases c10848 : y2 = y3
      · have hsel : ∃ (q10849 q10850 : Nat), (va_up (va_up (va_up (va_up (va_up (va_up (fun _ => none) 0 (some q5971)) 1 (some q5972)) 2 (some q5973)) 3 (some q5974)) 4 (some q5975)) 5 (some q5976)) y2.toNatClampNeg = some q10849 ∧ wX D [(e5970, .object RX8), (e6040, .int), (e6132, .int), (e6151, .int)] s [(q5961, .inr (11, [.ref q5963, .int 0, .ref q5964, .ref q5965, .ref q5966, .ref q5967, .ref q5968, .ref q5969])), (q5963, .inl (e5970, 6, .inr (.inr (.inr (.inr (va_up (va_up (va_up (va_up (va_up (va_up (fun _ => none) 0 (some q5971)) 1 (some q5972)) 2 (some q5973)) 3 (some q5974)) 4 (some q5975)) 5 (some q5976))))))), (q5968, .inr (4, [.ref q6010, .ref q6011, .ref q6012, .int (-1), .int (-1), .ref q6013, .ref q6014, .ref q6015, .ref q6016, .ref q6017])), (q6015, .inl (e6040, 6, .inl (fun _ => 0))), (q6011, .inr (8, [.ref q6041, .int 0])), (q6104, .inr (12, [.ref q6106, .ref q6107, .ref q6108, .ref q6109, .int 0, .int 0, .ref q6110, .int 0, .int 0, .int 0, .int 0, .int 0, .int 0, .int 0, .int 0, .int 0, .int 0, .int 0, .int 0, .int 0, .int (-1), .int 0, .int 0, .int 0, .ref q6111, .ref q6112, .ref q6113, .ref q6114, .ref q6115, .ref q6116, .int 0, .int 0, .int 0, .int 0, .ref q6117, .ref q6118, .ref q6119, .int 0, .int 0, .int 0, .int 0, .ref q6120, .ref q6121, .int 0, .ref q6122, .ref q6123, .int 0, .ref q6124, .int 0, .ref q6125, .ref q6126, .ref q6127, .int 0, .ref q6128, .ref q6129, .ref q6130])), (q6107, .inl (e6132, 6, .inl (fun _ => 0))), (q6126, .inl (e6151, 6, .inl (fun _ => 0))), (q10849, .inr (8, [.ref q10850, .int 0]))] H A s.heap locs := by
          rcases kf6 c10670 c10807 with rfl | rfl | rfl | rfl | rfl | rfl
          · exact ⟨q5971, q5977, rfl, k_sub Wd [0, 1, 8, 9, 10, 11, 12, 13, 2] rfl (by decide) [0, 1, 2, 3] rfl⟩
          · exact ⟨q5972, q5978, rfl, k_sub Wd [0, 1, 8, 9, 10, 11, 12, 13, 3] rfl (by decide) [0, 1, 2, 3] rfl⟩
          · exact ⟨q5973, q5979, rfl, k_sub Wd [0, 1, 8, 9, 10, 11, 12, 13, 4] rfl (by decide) [0, 1, 2, 3] rfl⟩
          · exact ⟨q5974, q5980, rfl, k_sub Wd [0, 1, 8, 9, 10, 11, 12, 13, 5] rfl (by decide) [0, 1, 2, 3] rfl⟩
          · exact ⟨q5975, q5981, rfl, k_sub Wd [0, 1, 8, 9, 10, 11, 12, 13, 6] rfl (by decide) [0, 1, 2, 3] rfl⟩
          · exact ⟨q5976, q5982, rfl, k_sub Wd [0, 1, 8, 9, 10, 11, 12, 13, 7] rfl (by decide) [0, 1, 2, 3] rfl⟩
        obtain ⟨q10849, q10850, hk10851, Wd⟩ := hsel
        have hk10852 : (va_up (va_up (va_up (va_up (va_up (va_up (fun _ => none) 0 (some q5971)) 1 (some q5972)) 2 (some q5973)) 3 (some q5974)) 4 (some q5975)) 5 (some q5976)) y3.toNatClampNeg = some q10849 := by rw [← c10848]; exact hk10851
        refine lv_aload_n C.1 C.2.1 dL_law_606 rfl (lv_at hl 2 rfl) ?_
        refine lv_aload_n C.1 C.2.1 dL_law_607 rfl (lv_at hl 3 rfl) ?_
        refine lv_iload_n C.1 C.2.1 dL_law_608 rfl (lv_at hl 0 rfl) ?_
        refine lv_iconst (v := 1) C.1 C.2.1 dL_law_609 (by decide) ?_
        refine k_iadd (v := 1) C (by decide) dL_law_610 ?_
        refine k_sld (v := y1) C hX hbl hbA Wd (vp_in_iff.mpr (by decide)) hy1 dL_law_611 ?_
        refine lv_aload_n C.1 C.2.1 dL_law_612 rfl (lv_at hl 3 rfl) ?_
        refine lv_iload_n C.1 C.2.1 dL_law_613 rfl (lv_at hl 0 rfl) ?_
        refine lv_iconst (v := 2) C.1 C.2.1 dL_law_614 (by decide) ?_
        refine k_iadd (v := 2) C (by decide) dL_law_615 ?_
        refine k_sld (v := y2) C hX hbl hbA Wd (vp_in_iff.mpr (by decide)) hy2 dL_law_616 ?_
        refine lv_aload_n C.1 C.2.1 dL_law_617 rfl (lv_at hl 3 rfl) ?_
        refine lv_iload_n C.1 C.2.1 dL_law_618 rfl (lv_at hl 0 rfl) ?_
        refine lv_iconst (v := 3) C.1 C.2.1 dL_law_619 (by decide) ?_
        refine k_iadd (v := 3) C (by decide) dL_law_620 ?_
        refine k_sld (v := y3) C hX hbl hbA Wd (vp_in_iff.mpr (by decide)) hy3 dL_law_621 ?_
        refine k_ci Wd [0, 1, 2, 8, 4, 3] [5, 6, 7] rfl (wr := [(q6104, .inr (12, [.ref q6106, .ref q6107, .ref q6108, .ref q6109, .int 0, .int 0, .ref q6110, .int 0, .int 0, .int 0, .int 0, .int 0, .int 0, .int 0, .int 0, .int 0, .int 0, .int 0, .int 0, .int 0, .int (-1), .int 0, .int 0, .int 0, .ref q6111, .ref q6112, .ref q6113, .ref q6114, .ref q6115, .ref q6116, .int 0, .int 0, .int 0, .int 0, .ref q6117, .ref q6118, .ref q6119, .int 0, .int 0, .int 0, .int 0, .ref q6120, .ref q6121, .int 0, .ref q6122, .ref q6123, .int 0, .ref q6124, .int 0, .ref q6125, .ref q6126, .ref q6127, .int 0, .ref q6128, .ref q6129, .ref q6130])), (q6107, .inl (e6132, 6, .inl (fun _ => 0))), (q6126, .inl (e6151, 6, .inl (fun _ => 0)))]) rfl (by decide) (by decide) (cells' := 271) (slots' := 91330) (by decide) (by decide) (k_runV (rest := []) C aks Wd cs_L_77 (kcX11_make_v5 l D q5961 q5963 q5964 q5965 q5966 q5967 q5968 q5969 q10849 q6010 q6011 q6012 q6013 q6014 q6015 q6016 q6017 q10850 q6041 y1 y2 y3 (va_up (va_up (va_up (va_up (va_up (va_up (fun _ => none) 0 (some q5971)) 1 (some q5972)) 2 (some q5973)) 3 (some q5974)) 4 (some q5975)) 5 (some q5976)) e5970 e6040 _ hk10851 hk10852 c10670 c10807 c10808 c10847) [0, 1, 2, 8, 4, 3] rfl (by decide) [0, 1] rfl 0 11 rfl rfl rfl rfl rfl ⟨(Nat.le_of_ble_eq_true rfl), (Nat.le_of_ble_eq_true rfl)⟩ hl.1 rfl rfl (Nat.le_of_ble_eq_true rfl) ⟨(Nat.le_of_ble_eq_true rfl), (Nat.le_of_ble_eq_true rfl)⟩ dL_law_622) (fun r _ H locs w10853 Wd => ?_)
        have Wd : wX D [(e5970, .object RX8), (e6040, .int), (e6132, .int), (e6151, .int)] s [(q6104, .inr (12, [.ref q6106, .ref q6107, .ref q6108, .ref q6109, .int 0, .int 0, .ref q6110, .int 0, .int 0, .int 0, .int 0, .int 0, .int 0, .int 0, .int 0, .int 0, .int 0, .int 0, .int 0, .int 0, .int (-1), .int 0, .int 0, .int 0, .ref q6111, .ref q6112, .ref q6113, .ref q6114, .ref q6115, .ref q6116, .int 0, .int 0, .int 0, .int 0, .ref q6117, .ref q6118, .ref q6119, .int 0, .int 0, .int 0, .int 0, .ref q6120, .ref q6121, .int 0, .ref q6122, .ref q6123, .int 0, .ref q6124, .int 0, .ref q6125, .ref q6126, .ref q6127, .int 0, .ref q6128, .ref q6129, .ref q6130])), (q6107, .inl (e6132, 6, .inl (fun _ => 0))), (q6126, .inl (e6151, 6, .inl (fun _ => 0)))] _ A s.heap _ := Wd
        rcases w10853 with ⟨c10854, c10855, c10856, c10857, c10858, rfl⟩ | ⟨c10859, c10860, c10861, c10862, c10863, c10864, rfl⟩ | ⟨c10865, c10866, c10867, c10868, c10869, c10870, rfl⟩
        · refine lv_aload_n C.1 C.2.1 dL_law_625 rfl (lv_at hl 1 rfl) ?_
          refine lv_aload_n C.1 C.2.1 dL_law_626 rfl (lv_at hl 3 rfl) ?_
          refine lv_iload_n C.1 C.2.1 dL_law_627 rfl (lv_at hl 0 rfl) ?_
          refine lv_iconst (v := 1) C.1 C.2.1 dL_law_628 (by decide) ?_
          refine k_iadd (v := 1) C (by decide) dL_law_629 ?_
          refine k_sld (v := y1) C hX hbl hbA Wd (vp_in_iff.mpr (by decide)) hy1 dL_law_630 ?_
          refine lv_aload_n C.1 C.2.1 dL_law_631 rfl (lv_at hl 3 rfl) ?_
          refine lv_iload_n C.1 C.2.1 dL_law_632 rfl (lv_at hl 0 rfl) ?_
          refine lv_iconst (v := 2) C.1 C.2.1 dL_law_633 (by decide) ?_
          refine k_iadd (v := 2) C (by decide) dL_law_634 ?_
          refine k_sld (v := y2) C hX hbl hbA Wd (vp_in_iff.mpr (by decide)) hy2 dL_law_635 ?_
          refine lv_aload_n C.1 C.2.1 dL_law_636 rfl (lv_at hl 3 rfl) ?_
          refine lv_iload_n C.1 C.2.1 dL_law_637 rfl (lv_at hl 0 rfl) ?_
          refine lv_iconst (v := 3) C.1 C.2.1 dL_law_638 (by decide) ?_
          refine k_iadd (v := 3) C (by decide) dL_law_639 ?_
          refine k_sld (v := y3) C hX hbl hbA Wd (vp_in_iff.mpr (by decide)) hy3 dL_law_640 ?_
          refine k_ci Wd [0, 1, 2] [] rfl (wr := []) rfl (by decide) (by decide) (cells' := 271) (slots' := 91330) (by decide) (by decide) (k_runV (rest := [.int (-1)]) C aks Wd cs_L_80 (kcX12_make l D q6104 q6106 q6107 q6108 q6109 q6110 q6111 q6112 q6113 q6114 q6115 q6116 q6117 q6118 q6119 q6120 q6121 q6122 q6123 q6124 q6125 q6126 q6127 q6128 q6129 q6130 y1 y2 y3 e6132 e6151 _ ) [0, 1, 2] rfl (by decide) [2, 3] rfl 0 12 rfl rfl rfl rfl rfl ⟨(Nat.le_of_ble_eq_true rfl), (Nat.le_of_ble_eq_true rfl)⟩ hl.1 rfl rfl (Nat.le_of_ble_eq_true rfl) ⟨(Nat.le_of_ble_eq_true rfl), (Nat.le_of_ble_eq_true rfl)⟩ dL_law_641) (fun r _ H locs w10871 Wd => ?_)
          have Wd : wX D [(e5970, .object RX8), (e6040, .int), (e6132, .int), (e6151, .int)] s [] _ A s.heap _ := Wd
          rcases w10871 with ⟨c10872, rfl⟩ | ⟨c10873, c10874, rfl⟩ | ⟨c10875, c10876, c10877, rfl⟩ | ⟨c10878, c10879, c10880, c10881, rfl⟩ | ⟨c10882, c10883, c10884, c10885, c10886, rfl⟩ | ⟨c10887, c10888, c10889, c10890, c10891, c10892, rfl⟩ | ⟨c10893, c10894, c10895, c10896, c10897, c10898, rfl⟩
          · refine lv_icmp_eq (tgt := 801) C.1 C.2.1 dL_law_644 (by decide) (fun _ => ?_) (fun c10899 => absurd c10899 (by decide))
            exact tail _ _ _ (k_sub Wd [] rfl (by decide) [] rfl) (lv_sub hl [0, 3] rfl)
          · exact absurd c10858 c10873
          · exact absurd c10858 c10875
          · exact absurd c10858 c10878
          · exact absurd c10858 c10882
          · exact absurd c10858 c10887
          · exact absurd c10858 c10893
        · refine lv_aload_n C.1 C.2.1 dL_law_625 rfl (lv_at hl 1 rfl) ?_
          refine lv_aload_n C.1 C.2.1 dL_law_626 rfl (lv_at hl 3 rfl) ?_
          refine lv_iload_n C.1 C.2.1 dL_law_627 rfl (lv_at hl 0 rfl) ?_
          refine lv_iconst (v := 1) C.1 C.2.1 dL_law_628 (by decide) ?_
          refine k_iadd (v := 1) C (by decide) dL_law_629 ?_
          refine k_sld (v := y1) C hX hbl hbA Wd (vp_in_iff.mpr (by decide)) hy1 dL_law_630 ?_
          refine lv_aload_n C.1 C.2.1 dL_law_631 rfl (lv_at hl 3 rfl) ?_
          refine lv_iload_n C.1 C.2.1 dL_law_632 rfl (lv_at hl 0 rfl) ?_
          refine lv_iconst (v := 2) C.1 C.2.1 dL_law_633 (by decide) ?_
          refine k_iadd (v := 2) C (by decide) dL_law_634 ?_
          refine k_sld (v := y2) C hX hbl hbA Wd (vp_in_iff.mpr (by decide)) hy2 dL_law_635 ?_
          refine lv_aload_n C.1 C.2.1 dL_law_636 rfl (lv_at hl 3 rfl) ?_
          refine lv_iload_n C.1 C.2.1 dL_law_637 rfl (lv_at hl 0 rfl) ?_
          refine lv_iconst (v := 3) C.1 C.2.1 dL_law_638 (by decide) ?_
          refine k_iadd (v := 3) C (by decide) dL_law_639 ?_
          refine k_sld (v := y3) C hX hbl hbA Wd (vp_in_iff.mpr (by decide)) hy3 dL_law_640 ?_
          refine k_ci Wd [0, 1, 2] [] rfl (wr := []) rfl (by decide) (by decide) (cells' := 271) (slots' := 91330) (by decide) (by decide) (k_runV (rest := [.int (-1)]) C aks Wd cs_L_80 (kcX12_make l D q6104 q6106 q6107 q6108 q6109 q6110 q6111 q6112 q6113 q6114 q6115 q6116 q6117 q6118 q6119 q6120 q6121 q6122 q6123 q6124 q6125 q6126 q6127 q6128 q6129 q6130 y1 y2 y3 e6132 e6151 _ ) [0, 1, 2] rfl (by decide) [2, 3] rfl 0 12 rfl rfl rfl rfl rfl ⟨(Nat.le_of_ble_eq_true rfl), (Nat.le_of_ble_eq_true rfl)⟩ hl.1 rfl rfl (Nat.le_of_ble_eq_true rfl) ⟨(Nat.le_of_ble_eq_true rfl), (Nat.le_of_ble_eq_true rfl)⟩ dL_law_641) (fun r _ H locs w10900 Wd => ?_)
          have Wd : wX D [(e5970, .object RX8), (e6040, .int), (e6132, .int), (e6151, .int)] s [] _ A s.heap _ := Wd
          rcases w10900 with ⟨c10901, rfl⟩ | ⟨c10902, c10903, rfl⟩ | ⟨c10904, c10905, c10906, rfl⟩ | ⟨c10907, c10908, c10909, c10910, rfl⟩ | ⟨c10911, c10912, c10913, c10914, c10915, rfl⟩ | ⟨c10916, c10917, c10918, c10919, c10920, c10921, rfl⟩ | ⟨c10922, c10923, c10924, c10925, c10926, c10927, rfl⟩
          · exact absurd c10901 c10863
          · refine lv_icmp_eq (tgt := 801) C.1 C.2.1 dL_law_644 (by decide) (fun _ => ?_) (fun c10928 => absurd c10928 (by decide))
            exact tail _ _ _ (k_sub Wd [] rfl (by decide) [] rfl) (lv_sub hl [0, 3] rfl)
          · exact False.elim (by have z0 := kz_nlt c10863; have z1 := kz_le c10864; have z2 := kz_nlt c10904; have z3 := kz_nlt c10905; have t0 : (0 : Int32).toInt = 0 := (by decide); have t6 : (6 : Int32).toInt = 6 := (by decide); have t5 : (5 : Int32).toInt = 5 := (by decide); omega)
          · exact False.elim (by have z0 := kz_nlt c10863; have z1 := kz_le c10864; have z2 := kz_nlt c10907; have z3 := kz_nlt c10908; have t0 : (0 : Int32).toInt = 0 := (by decide); have t6 : (6 : Int32).toInt = 6 := (by decide); have t5 : (5 : Int32).toInt = 5 := (by decide); omega)
          · exact False.elim (by have z0 := kz_nlt c10863; have z1 := kz_le c10864; have z2 := kz_nlt c10911; have z3 := kz_nlt c10912; have t0 : (0 : Int32).toInt = 0 := (by decide); have t6 : (6 : Int32).toInt = 6 := (by decide); have t5 : (5 : Int32).toInt = 5 := (by decide); omega)
          · exact False.elim (by have z0 := kz_nlt c10863; have z1 := kz_le c10864; have z2 := kz_nlt c10916; have z3 := kz_nlt c10917; have t0 : (0 : Int32).toInt = 0 := (by decide); have t6 : (6 : Int32).toInt = 6 := (by decide); have t5 : (5 : Int32).toInt = 5 := (by decide); omega)
          · exact False.elim (by have z0 := kz_nlt c10863; have z1 := kz_le c10864; have z2 := kz_nlt c10922; have z3 := kz_nlt c10923; have t0 : (0 : Int32).toInt = 0 := (by decide); have t6 : (6 : Int32).toInt = 6 := (by decide); have t5 : (5 : Int32).toInt = 5 := (by decide); omega)
        · refine lv_aload_n C.1 C.2.1 dL_law_625 rfl (lv_at hl 1 rfl) ?_
          refine lv_aload_n C.1 C.2.1 dL_law_626 rfl (lv_at hl 3 rfl) ?_
          refine lv_iload_n C.1 C.2.1 dL_law_627 rfl (lv_at hl 0 rfl) ?_
          refine lv_iconst (v := 1) C.1 C.2.1 dL_law_628 (by decide) ?_
          refine k_iadd (v := 1) C (by decide) dL_law_629 ?_
          refine k_sld (v := y1) C hX hbl hbA Wd (vp_in_iff.mpr (by decide)) hy1 dL_law_630 ?_
          refine lv_aload_n C.1 C.2.1 dL_law_631 rfl (lv_at hl 3 rfl) ?_
          refine lv_iload_n C.1 C.2.1 dL_law_632 rfl (lv_at hl 0 rfl) ?_
          refine lv_iconst (v := 2) C.1 C.2.1 dL_law_633 (by decide) ?_
          refine k_iadd (v := 2) C (by decide) dL_law_634 ?_
          refine k_sld (v := y2) C hX hbl hbA Wd (vp_in_iff.mpr (by decide)) hy2 dL_law_635 ?_
          refine lv_aload_n C.1 C.2.1 dL_law_636 rfl (lv_at hl 3 rfl) ?_
          refine lv_iload_n C.1 C.2.1 dL_law_637 rfl (lv_at hl 0 rfl) ?_
          refine lv_iconst (v := 3) C.1 C.2.1 dL_law_638 (by decide) ?_
          refine k_iadd (v := 3) C (by decide) dL_law_639 ?_
          refine k_sld (v := y3) C hX hbl hbA Wd (vp_in_iff.mpr (by decide)) hy3 dL_law_640 ?_
          refine k_ci Wd [0, 1, 2] [] rfl (wr := []) rfl (by decide) (by decide) (cells' := 271) (slots' := 91330) (by decide) (by decide) (k_runV (rest := [.int 0]) C aks Wd cs_L_80 (kcX12_make l D q6104 q6106 q6107 q6108 q6109 q6110 q6111 q6112 q6113 q6114 q6115 q6116 q6117 q6118 q6119 q6120 q6121 q6122 q6123 q6124 q6125 q6126 q6127 q6128 q6129 q6130 y1 y2 y3 e6132 e6151 _ ) [0, 1, 2] rfl (by decide) [2, 3] rfl 0 12 rfl rfl rfl rfl rfl ⟨(Nat.le_of_ble_eq_true rfl), (Nat.le_of_ble_eq_true rfl)⟩ hl.1 rfl rfl (Nat.le_of_ble_eq_true rfl) ⟨(Nat.le_of_ble_eq_true rfl), (Nat.le_of_ble_eq_true rfl)⟩ dL_law_641) (fun r _ H locs w10929 Wd => ?_)
          have Wd : wX D [(e5970, .object RX8), (e6040, .int), (e6132, .int), (e6151, .int)] s [] _ A s.heap _ := Wd
          rcases w10929 with ⟨c10930, rfl⟩ | ⟨c10931, c10932, rfl⟩ | ⟨c10933, c10934, c10935, rfl⟩ | ⟨c10936, c10937, c10938, c10939, rfl⟩ | ⟨c10940, c10941, c10942, c10943, c10944, rfl⟩ | ⟨c10945, c10946, c10947, c10948, c10949, c10950, rfl⟩ | ⟨c10951, c10952, c10953, c10954, c10955, c10956, rfl⟩
          · exact absurd c10930 c10869
          · exact False.elim (by have z0 := kz_nlt c10869; have z1 := kz_nle c10870; have z2 := kz_nlt c10931; have z3 := kz_lt c10932; have t0 : (0 : Int32).toInt = 0 := (by decide); have t6 : (6 : Int32).toInt = 6 := (by decide); have t5 : (5 : Int32).toInt = 5 := (by decide); omega)
          · exact absurd c10935 c10670
          · exact False.elim (by have z0 := kz_nlt c10670; have z1 := kz_lt c10807; have z2 := kz_nlt c10865; have z3 := kz_nle c10866; have z4 := kz_nlt c10938; have z5 := kz_lt c10939; have t0 : (0 : Int32).toInt = 0 := (by decide); have t6 : (6 : Int32).toInt = 6 := (by decide); have t5 : (5 : Int32).toInt = 5 := (by decide); omega)
          · exact absurd c10944 c10808
          · exact False.elim (by have z0 := kz_nlt c10808; have z1 := kz_lt c10847; have z2 := kz_nlt c10867; have z3 := kz_nle c10868; have z4 := kz_nlt c10949; have z5 := kz_lt c10950; have t0 : (0 : Int32).toInt = 0 := (by decide); have t6 : (6 : Int32).toInt = 6 := (by decide); have t5 : (5 : Int32).toInt = 5 := (by decide); omega)
          · refine lv_icmp_eq (tgt := 801) C.1 C.2.1 dL_law_644 (by decide) (fun _ => ?_) (fun c10957 => absurd c10957 (by decide))
            exact tail _ _ _ (k_sub Wd [] rfl (by decide) [] rfl) (lv_sub hl [0, 3] rfl)
      have hsel : ∃ (q10958 q10959 q10960 q10961 : Nat), (va_up (va_up (va_up (va_up (va_up (va_up (fun _ => none) 0 (some q5971)) 1 (some q5972)) 2 (some q5973)) 3 (some q5974)) 4 (some q5975)) 5 (some q5976)) y2.toNatClampNeg = some q10958 ∧ (va_up (va_up (va_up (va_up (va_up (va_up (fun _ => none) 0 (some q5971)) 1 (some q5972)) 2 (some q5973)) 3 (some q5974)) 4 (some q5975)) 5 (some q5976)) y3.toNatClampNeg = some q10960 ∧ wX D [(e5970, .object RX8), (e6040, .int), (e6132, .int), (e6151, .int)] s [(q5961, .inr (11, [.ref q5963, .int 0, .ref q5964, .ref q5965, .ref q5966, .ref q5967, .ref q5968, .ref q5969])), (q5963, .inl (e5970, 6, .inr (.inr (.inr (.inr (va_up (va_up (va_up (va_up (va_up (va_up (fun _ => none) 0 (some q5971)) 1 (some q5972)) 2 (some q5973)) 3 (some q5974)) 4 (some q5975)) 5 (some q5976))))))), (q5968, .inr (4, [.ref q6010, .ref q6011, .ref q6012, .int (-1), .int (-1), .ref q6013, .ref q6014, .ref q6015, .ref q6016, .ref q6017])), (q6015, .inl (e6040, 6, .inl (fun _ => 0))), (q6011, .inr (8, [.ref q6041, .int 0])), (q6104, .inr (12, [.ref q6106, .ref q6107, .ref q6108, .ref q6109, .int 0, .int 0, .ref q6110, .int 0, .int 0, .int 0, .int 0, .int 0, .int 0, .int 0, .int 0, .int 0, .int 0, .int 0, .int 0, .int 0, .int (-1), .int 0, .int 0, .int 0, .ref q6111, .ref q6112, .ref q6113, .ref q6114, .ref q6115, .ref q6116, .int 0, .int 0, .int 0, .int 0, .ref q6117, .ref q6118, .ref q6119, .int 0, .int 0, .int 0, .int 0, .ref q6120, .ref q6121, .int 0, .ref q6122, .ref q6123, .int 0, .ref q6124, .int 0, .ref q6125, .ref q6126, .ref q6127, .int 0, .ref q6128, .ref q6129, .ref q6130])), (q6107, .inl (e6132, 6, .inl (fun _ => 0))), (q6126, .inl (e6151, 6, .inl (fun _ => 0))), (q10958, .inr (8, [.ref q10959, .int 0])), (q10960, .inr (8, [.ref q10961, .int 0]))] H A s.heap locs := by
        rcases kf6 c10670 c10807 with rfl | rfl | rfl | rfl | rfl | rfl
        · rcases kf6 c10808 c10847 with rfl | rfl | rfl | rfl | rfl | rfl
          · exact absurd rfl c10848
          · exact ⟨q5971, q5977, q5972, q5978, rfl, rfl, k_sub Wd [0, 1, 8, 9, 10, 11, 12, 13, 2, 3] rfl (by decide) [0, 1, 2, 3] rfl⟩
          · exact ⟨q5971, q5977, q5973, q5979, rfl, rfl, k_sub Wd [0, 1, 8, 9, 10, 11, 12, 13, 2, 4] rfl (by decide) [0, 1, 2, 3] rfl⟩
          · exact ⟨q5971, q5977, q5974, q5980, rfl, rfl, k_sub Wd [0, 1, 8, 9, 10, 11, 12, 13, 2, 5] rfl (by decide) [0, 1, 2, 3] rfl⟩
          · exact ⟨q5971, q5977, q5975, q5981, rfl, rfl, k_sub Wd [0, 1, 8, 9, 10, 11, 12, 13, 2, 6] rfl (by decide) [0, 1, 2, 3] rfl⟩
          · exact ⟨q5971, q5977, q5976, q5982, rfl, rfl, k_sub Wd [0, 1, 8, 9, 10, 11, 12, 13, 2, 7] rfl (by decide) [0, 1, 2, 3] rfl⟩
        · rcases kf6 c10808 c10847 with rfl | rfl | rfl | rfl | rfl | rfl
          · exact ⟨q5972, q5978, q5971, q5977, rfl, rfl, k_sub Wd [0, 1, 8, 9, 10, 11, 12, 13, 3, 2] rfl (by decide) [0, 1, 2, 3] rfl⟩
          · exact absurd rfl c10848
          · exact ⟨q5972, q5978, q5973, q5979, rfl, rfl, k_sub Wd [0, 1, 8, 9, 10, 11, 12, 13, 3, 4] rfl (by decide) [0, 1, 2, 3] rfl⟩
          · exact ⟨q5972, q5978, q5974, q5980, rfl, rfl, k_sub Wd [0, 1, 8, 9, 10, 11, 12, 13, 3, 5] rfl (by decide) [0, 1, 2, 3] rfl⟩
          · exact ⟨q5972, q5978, q5975, q5981, rfl, rfl, k_sub Wd [0, 1, 8, 9, 10, 11, 12, 13, 3, 6] rfl (by decide) [0, 1, 2, 3] rfl⟩
          · exact ⟨q5972, q5978, q5976, q5982, rfl, rfl, k_sub Wd [0, 1, 8, 9, 10, 11, 12, 13, 3, 7] rfl (by decide) [0, 1, 2, 3] rfl⟩
        · rcases kf6 c10808 c10847 with rfl | rfl | rfl | rfl | rfl | rfl
          · exact ⟨q5973, q5979, q5971, q5977, rfl, rfl, k_sub Wd [0, 1, 8, 9, 10, 11, 12, 13, 4, 2] rfl (by decide) [0, 1, 2, 3] rfl⟩
          · exact ⟨q5973, q5979, q5972, q5978, rfl, rfl, k_sub Wd [0, 1, 8, 9, 10, 11, 12, 13, 4, 3] rfl (by decide) [0, 1, 2, 3] rfl⟩
          · exact absurd rfl c10848
          · exact ⟨q5973, q5979, q5974, q5980, rfl, rfl, k_sub Wd [0, 1, 8, 9, 10, 11, 12, 13, 4, 5] rfl (by decide) [0, 1, 2, 3] rfl⟩
          · exact ⟨q5973, q5979, q5975, q5981, rfl, rfl, k_sub Wd [0, 1, 8, 9, 10, 11, 12, 13, 4, 6] rfl (by decide) [0, 1, 2, 3] rfl⟩
          · exact ⟨q5973, q5979, q5976, q5982, rfl, rfl, k_sub Wd [0, 1, 8, 9, 10, 11, 12, 13, 4, 7] rfl (by decide) [0, 1, 2, 3] rfl⟩
        · rcases kf6 c10808 c10847 with rfl | rfl | rfl | rfl | rfl | rfl
          · exact ⟨q5974, q5980, q5971, q5977, rfl, rfl, k_sub Wd [0, 1, 8, 9, 10, 11, 12, 13, 5, 2] rfl (by decide) [0, 1, 2, 3] rfl⟩
          · exact ⟨q5974, q5980, q5972, q5978, rfl, rfl, k_sub Wd [0, 1, 8, 9, 10, 11, 12, 13, 5, 3] rfl (by decide) [0, 1, 2, 3] rfl⟩
          · exact ⟨q5974, q5980, q5973, q5979, rfl, rfl, k_sub Wd [0, 1, 8, 9, 10, 11, 12, 13, 5, 4] rfl (by decide) [0, 1, 2, 3] rfl⟩
          · exact absurd rfl c10848
          · exact ⟨q5974, q5980, q5975, q5981, rfl, rfl, k_sub Wd [0, 1, 8, 9, 10, 11, 12, 13, 5, 6] rfl (by decide) [0, 1, 2, 3] rfl⟩
          · exact ⟨q5974, q5980, q5976, q5982, rfl, rfl, k_sub Wd [0, 1, 8, 9, 10, 11, 12, 13, 5, 7] rfl (by decide) [0, 1, 2, 3] rfl⟩
        · rcases kf6 c10808 c10847 with rfl | rfl | rfl | rfl | rfl | rfl
          · exact ⟨q5975, q5981, q5971, q5977, rfl, rfl, k_sub Wd [0, 1, 8, 9, 10, 11, 12, 13, 6, 2] rfl (by decide) [0, 1, 2, 3] rfl⟩
          · exact ⟨q5975, q5981, q5972, q5978, rfl, rfl, k_sub Wd [0, 1, 8, 9, 10, 11, 12, 13, 6, 3] rfl (by decide) [0, 1, 2, 3] rfl⟩
          · exact ⟨q5975, q5981, q5973, q5979, rfl, rfl, k_sub Wd [0, 1, 8, 9, 10, 11, 12, 13, 6, 4] rfl (by decide) [0, 1, 2, 3] rfl⟩
          · exact ⟨q5975, q5981, q5974, q5980, rfl, rfl, k_sub Wd [0, 1, 8, 9, 10, 11, 12, 13, 6, 5] rfl (by decide) [0, 1, 2, 3] rfl⟩
          · exact absurd rfl c10848
          · exact ⟨q5975, q5981, q5976, q5982, rfl, rfl, k_sub Wd [0, 1, 8, 9, 10, 11, 12, 13, 6, 7] rfl (by decide) [0, 1, 2, 3] rfl⟩
        · rcases kf6 c10808 c10847 with rfl | rfl | rfl | rfl | rfl | rfl
          · exact ⟨q5976, q5982, q5971, q5977, rfl, rfl, k_sub Wd [0, 1, 8, 9, 10, 11, 12, 13, 7, 2] rfl (by decide) [0, 1, 2, 3] rfl⟩
          · exact ⟨q5976, q5982, q5972, q5978, rfl, rfl, k_sub Wd [0, 1, 8, 9, 10, 11, 12, 13, 7, 3] rfl (by decide) [0, 1, 2, 3] rfl⟩
          · exact ⟨q5976, q5982, q5973, q5979, rfl, rfl, k_sub Wd [0, 1, 8, 9, 10, 11, 12, 13, 7, 4] rfl (by decide) [0, 1, 2, 3] rfl⟩
          · exact ⟨q5976, q5982, q5974, q5980, rfl, rfl, k_sub Wd [0, 1, 8, 9, 10, 11, 12, 13, 7, 5] rfl (by decide) [0, 1, 2, 3] rfl⟩
          · exact ⟨q5976, q5982, q5975, q5981, rfl, rfl, k_sub Wd [0, 1, 8, 9, 10, 11, 12, 13, 7, 6] rfl (by decide) [0, 1, 2, 3] rfl⟩
          · exact absurd rfl c10848
      obtain ⟨q10958, q10959, q10960, q10961, hk10962, hk10963, Wd⟩ := hsel
      refine lv_aload_n C.1 C.2.1 dL_law_606 rfl (lv_at hl 2 rfl) ?_
      refine lv_aload_n C.1 C.2.1 dL_law_607 rfl (lv_at hl 3 rfl) ?_
      refine lv_iload_n C.1 C.2.1 dL_law_608 rfl (lv_at hl 0 rfl) ?_
      refine lv_iconst (v := 1) C.1 C.2.1 dL_law_609 (by decide) ?_
      refine k_iadd (v := 1) C (by decide) dL_law_610 ?_
      refine k_sld (v := y1) C hX hbl hbA Wd (vp_in_iff.mpr (by decide)) hy1 dL_law_611 ?_
      refine lv_aload_n C.1 C.2.1 dL_law_612 rfl (lv_at hl 3 rfl) ?_
      refine lv_iload_n C.1 C.2.1 dL_law_613 rfl (lv_at hl 0 rfl) ?_
      refine lv_iconst (v := 2) C.1 C.2.1 dL_law_614 (by decide) ?_
      refine k_iadd (v := 2) C (by decide) dL_law_615 ?_
      refine k_sld (v := y2) C hX hbl hbA Wd (vp_in_iff.mpr (by decide)) hy2 dL_law_616 ?_
      refine lv_aload_n C.1 C.2.1 dL_law_617 rfl (lv_at hl 3 rfl) ?_
      refine lv_iload_n C.1 C.2.1 dL_law_618 rfl (lv_at hl 0 rfl) ?_
      refine lv_iconst (v := 3) C.1 C.2.1 dL_law_619 (by decide) ?_
      refine k_iadd (v := 3) C (by decide) dL_law_620 ?_
      refine k_sld (v := y3) C hX hbl hbA Wd (vp_in_iff.mpr (by decide)) hy3 dL_law_621 ?_
      refine k_ci Wd [0, 1, 2, 8, 4, 3, 9] [5, 6, 7] rfl (wr := [(q6104, .inr (12, [.ref q6106, .ref q6107, .ref q6108, .ref q6109, .int 0, .int 0, .ref q6110, .int 0, .int 0, .int 0, .int 0, .int 0, .int 0, .int 0, .int 0, .int 0, .int 0, .int 0, .int 0, .int 0, .int (-1), .int 0, .int 0, .int 0, .ref q6111, .ref q6112, .ref q6113, .ref q6114, .ref q6115, .ref q6116, .int 0, .int 0, .int 0, .int 0, .ref q6117, .ref q6118, .ref q6119, .int 0, .int 0, .int 0, .int 0, .ref q6120, .ref q6121, .int 0, .ref q6122, .ref q6123, .int 0, .ref q6124, .int 0, .ref q6125, .ref q6126, .ref q6127, .int 0, .ref q6128, .ref q6129, .ref q6130])), (q6107, .inl (e6132, 6, .inl (fun _ => 0))), (q6126, .inl (e6151, 6, .inl (fun _ => 0)))]) rfl (by decide) (by decide) (cells' := 271) (slots' := 91330) (by decide) (by decide) (k_runV (rest := []) C aks Wd cs_L_77 (kcX11_make_v4 l D q5961 q5963 q5964 q5965 q5966 q5967 q5968 q5969 q10958 q10960 q6010 q6011 q6012 q6013 q6014 q6015 q6016 q6017 q10959 q10961 q6041 y1 y2 y3 (va_up (va_up (va_up (va_up (va_up (va_up (fun _ => none) 0 (some q5971)) 1 (some q5972)) 2 (some q5973)) 3 (some q5974)) 4 (some q5975)) 5 (some q5976)) e5970 e6040 _ hk10962 hk10963 c10670 c10807 c10808 c10847) [0, 1, 2, 8, 4, 3, 9] rfl (by decide) [0, 1] rfl 0 11 rfl rfl rfl rfl rfl ⟨(Nat.le_of_ble_eq_true rfl), (Nat.le_of_ble_eq_true rfl)⟩ hl.1 rfl rfl (Nat.le_of_ble_eq_true rfl) ⟨(Nat.le_of_ble_eq_true rfl), (Nat.le_of_ble_eq_true rfl)⟩ dL_law_622) (fun r _ H locs w10964 Wd => ?_)
      have Wd : wX D [(e5970, .object RX8), (e6040, .int), (e6132, .int), (e6151, .int)] s [(q6104, .inr (12, [.ref q6106, .ref q6107, .ref q6108, .ref q6109, .int 0, .int 0, .ref q6110, .int 0, .int 0, .int 0, .int 0, .int 0, .int 0, .int 0, .int 0, .int 0, .int 0, .int 0, .int 0, .int 0, .int (-1), .int 0, .int 0, .int 0, .ref q6111, .ref q6112, .ref q6113, .ref q6114, .ref q6115, .ref q6116, .int 0, .int 0, .int 0, .int 0, .ref q6117, .ref q6118, .ref q6119, .int 0, .int 0, .int 0, .int 0, .ref q6120, .ref q6121, .int 0, .ref q6122, .ref q6123, .int 0, .ref q6124, .int 0, .ref q6125, .ref q6126, .ref q6127, .int 0, .ref q6128, .ref q6129, .ref q6130])), (q6107, .inl (e6132, 6, .inl (fun _ => 0))), (q6126, .inl (e6151, 6, .inl (fun _ => 0)))] _ A s.heap _ := Wd
      rcases w10964 with ⟨c10965, c10966, c10967, c10968, c10969, rfl⟩ | ⟨c10970, c10971, c10972, c10973, c10974, c10975, rfl⟩ | ⟨c10976, c10977, c10978, c10979, c10980, c10981, rfl⟩
      · refine lv_aload_n C.1 C.2.1 dL_law_625 rfl (lv_at hl 1 rfl) ?_
        refine lv_aload_n C.1 C.2.1 dL_law_626 rfl (lv_at hl 3 rfl) ?_
        refine lv_iload_n C.1 C.2.1 dL_law_627 rfl (lv_at hl 0 rfl) ?_
        refine lv_iconst (v := 1) C.1 C.2.1 dL_law_628 (by decide) ?_
        refine k_iadd (v := 1) C (by decide) dL_law_629 ?_
        refine k_sld (v := y1) C hX hbl hbA Wd (vp_in_iff.mpr (by decide)) hy1 dL_law_630 ?_
        refine lv_aload_n C.1 C.2.1 dL_law_631 rfl (lv_at hl 3 rfl) ?_
        refine lv_iload_n C.1 C.2.1 dL_law_632 rfl (lv_at hl 0 rfl) ?_
        refine lv_iconst (v := 2) C.1 C.2.1 dL_law_633 (by decide) ?_
        refine k_iadd (v := 2) C (by decide) dL_law_634 ?_
        refine k_sld (v := y2) C hX hbl hbA Wd (vp_in_iff.mpr (by decide)) hy2 dL_law_635 ?_
        refine lv_aload_n C.1 C.2.1 dL_law_636 rfl (lv_at hl 3 rfl) ?_
        refine lv_iload_n C.1 C.2.1 dL_law_637 rfl (lv_at hl 0 rfl) ?_
        refine lv_iconst (v := 3) C.1 C.2.1 dL_law_638 (by decide) ?_
        refine k_iadd (v := 3) C (by decide) dL_law_639 ?_
        refine k_sld (v := y3) C hX hbl hbA Wd (vp_in_iff.mpr (by decide)) hy3 dL_law_640 ?_
        refine k_ci Wd [0, 1, 2] [] rfl (wr := []) rfl (by decide) (by decide) (cells' := 271) (slots' := 91330) (by decide) (by decide) (k_runV (rest := [.int (-1)]) C aks Wd cs_L_80 (kcX12_make l D q6104 q6106 q6107 q6108 q6109 q6110 q6111 q6112 q6113 q6114 q6115 q6116 q6117 q6118 q6119 q6120 q6121 q6122 q6123 q6124 q6125 q6126 q6127 q6128 q6129 q6130 y1 y2 y3 e6132 e6151 _ ) [0, 1, 2] rfl (by decide) [2, 3] rfl 0 12 rfl rfl rfl rfl rfl ⟨(Nat.le_of_ble_eq_true rfl), (Nat.le_of_ble_eq_true rfl)⟩ hl.1 rfl rfl (Nat.le_of_ble_eq_true rfl) ⟨(Nat.le_of_ble_eq_true rfl), (Nat.le_of_ble_eq_true rfl)⟩ dL_law_641) (fun r _ H locs w10982 Wd => ?_)
        have Wd : wX D [(e5970, .object RX8), (e6040, .int), (e6132, .int), (e6151, .int)] s [] _ A s.heap _ := Wd
        rcases w10982 with ⟨c10983, rfl⟩ | ⟨c10984, c10985, rfl⟩ | ⟨c10986, c10987, c10988, rfl⟩ | ⟨c10989, c10990, c10991, c10992, rfl⟩ | ⟨c10993, c10994, c10995, c10996, c10997, rfl⟩ | ⟨c10998, c10999, c11000, c11001, c11002, c11003, rfl⟩ | ⟨c11004, c11005, c11006, c11007, c11008, c11009, rfl⟩
        · refine lv_icmp_eq (tgt := 801) C.1 C.2.1 dL_law_644 (by decide) (fun _ => ?_) (fun c11010 => absurd c11010 (by decide))
          exact tail _ _ _ (k_sub Wd [] rfl (by decide) [] rfl) (lv_sub hl [0, 3] rfl)
        · exact absurd c10969 c10984
        · exact absurd c10969 c10986
        · exact absurd c10969 c10989
        · exact absurd c10969 c10993
        · exact absurd c10969 c10998
        · exact absurd c10969 c11004
      · refine lv_aload_n C.1 C.2.1 dL_law_625 rfl (lv_at hl 1 rfl) ?_
        refine lv_aload_n C.1 C.2.1 dL_law_626 rfl (lv_at hl 3 rfl) ?_
        refine lv_iload_n C.1 C.2.1 dL_law_627 rfl (lv_at hl 0 rfl) ?_
        refine lv_iconst (v := 1) C.1 C.2.1 dL_law_628 (by decide) ?_
        refine k_iadd (v := 1) C (by decide) dL_law_629 ?_
        refine k_sld (v := y1) C hX hbl hbA Wd (vp_in_iff.mpr (by decide)) hy1 dL_law_630 ?_
        refine lv_aload_n C.1 C.2.1 dL_law_631 rfl (lv_at hl 3 rfl) ?_
        refine lv_iload_n C.1 C.2.1 dL_law_632 rfl (lv_at hl 0 rfl) ?_
        refine lv_iconst (v := 2) C.1 C.2.1 dL_law_633 (by decide) ?_
        refine k_iadd (v := 2) C (by decide) dL_law_634 ?_
        refine k_sld (v := y2) C hX hbl hbA Wd (vp_in_iff.mpr (by decide)) hy2 dL_law_635 ?_
        refine lv_aload_n C.1 C.2.1 dL_law_636 rfl (lv_at hl 3 rfl) ?_
        refine lv_iload_n C.1 C.2.1 dL_law_637 rfl (lv_at hl 0 rfl) ?_
        refine lv_iconst (v := 3) C.1 C.2.1 dL_law_638 (by decide) ?_
        refine k_iadd (v := 3) C (by decide) dL_law_639 ?_
        refine k_sld (v := y3) C hX hbl hbA Wd (vp_in_iff.mpr (by decide)) hy3 dL_law_640 ?_
        refine k_ci Wd [0, 1, 2] [] rfl (wr := []) rfl (by decide) (by decide) (cells' := 271) (slots' := 91330) (by decide) (by decide) (k_runV (rest := [.int (-1)]) C aks Wd cs_L_80 (kcX12_make l D q6104 q6106 q6107 q6108 q6109 q6110 q6111 q6112 q6113 q6114 q6115 q6116 q6117 q6118 q6119 q6120 q6121 q6122 q6123 q6124 q6125 q6126 q6127 q6128 q6129 q6130 y1 y2 y3 e6132 e6151 _ ) [0, 1, 2] rfl (by decide) [2, 3] rfl 0 12 rfl rfl rfl rfl rfl ⟨(Nat.le_of_ble_eq_true rfl), (Nat.le_of_ble_eq_true rfl)⟩ hl.1 rfl rfl (Nat.le_of_ble_eq_true rfl) ⟨(Nat.le_of_ble_eq_true rfl), (Nat.le_of_ble_eq_true rfl)⟩ dL_law_641) (fun r _ H locs w11011 Wd => ?_)
        have Wd : wX D [(e5970, .object RX8), (e6040, .int), (e6132, .int), (e6151, .int)] s [] _ A s.heap _ := Wd
        rcases w11011 with ⟨c11012, rfl⟩ | ⟨c11013, c11014, rfl⟩ | ⟨c11015, c11016, c11017, rfl⟩ | ⟨c11018, c11019, c11020, c11021, rfl⟩ | ⟨c11022, c11023, c11024, c11025, c11026, rfl⟩ | ⟨c11027, c11028, c11029, c11030, c11031, c11032, rfl⟩ | ⟨c11033, c11034, c11035, c11036, c11037, c11038, rfl⟩
        · exact absurd c11012 c10974
        · refine lv_icmp_eq (tgt := 801) C.1 C.2.1 dL_law_644 (by decide) (fun _ => ?_) (fun c11039 => absurd c11039 (by decide))
          exact tail _ _ _ (k_sub Wd [] rfl (by decide) [] rfl) (lv_sub hl [0, 3] rfl)
        · exact False.elim (by have z0 := kz_nlt c10974; have z1 := kz_le c10975; have z2 := kz_nlt c11015; have z3 := kz_nlt c11016; have t0 : (0 : Int32).toInt = 0 := (by decide); have t6 : (6 : Int32).toInt = 6 := (by decide); have t5 : (5 : Int32).toInt = 5 := (by decide); omega)
        · exact False.elim (by have z0 := kz_nlt c10974; have z1 := kz_le c10975; have z2 := kz_nlt c11018; have z3 := kz_nlt c11019; have t0 : (0 : Int32).toInt = 0 := (by decide); have t6 : (6 : Int32).toInt = 6 := (by decide); have t5 : (5 : Int32).toInt = 5 := (by decide); omega)
        · exact False.elim (by have z0 := kz_nlt c10974; have z1 := kz_le c10975; have z2 := kz_nlt c11022; have z3 := kz_nlt c11023; have t0 : (0 : Int32).toInt = 0 := (by decide); have t6 : (6 : Int32).toInt = 6 := (by decide); have t5 : (5 : Int32).toInt = 5 := (by decide); omega)
        · exact False.elim (by have z0 := kz_nlt c10974; have z1 := kz_le c10975; have z2 := kz_nlt c11027; have z3 := kz_nlt c11028; have t0 : (0 : Int32).toInt = 0 := (by decide); have t6 : (6 : Int32).toInt = 6 := (by decide); have t5 : (5 : Int32).toInt = 5 := (by decide); omega)
        · exact False.elim (by have z0 := kz_nlt c10974; have z1 := kz_le c10975; have z2 := kz_nlt c11033; have z3 := kz_nlt c11034; have t0 : (0 : Int32).toInt = 0 := (by decide); have t6 : (6 : Int32).toInt = 6 := (by decide); have t5 : (5 : Int32).toInt = 5 := (by decide); omega)
      · refine lv_aload_n C.1 C.2.1 dL_law_625 rfl (lv_at hl 1 rfl) ?_
        refine lv_aload_n C.1 C.2.1 dL_law_626 rfl (lv_at hl 3 rfl) ?_
        refine lv_iload_n C.1 C.2.1 dL_law_627 rfl (lv_at hl 0 rfl) ?_
        refine lv_iconst (v := 1) C.1 C.2.1 dL_law_628 (by decide) ?_
        refine k_iadd (v := 1) C (by decide) dL_law_629 ?_
        refine k_sld (v := y1) C hX hbl hbA Wd (vp_in_iff.mpr (by decide)) hy1 dL_law_630 ?_
        refine lv_aload_n C.1 C.2.1 dL_law_631 rfl (lv_at hl 3 rfl) ?_
        refine lv_iload_n C.1 C.2.1 dL_law_632 rfl (lv_at hl 0 rfl) ?_
        refine lv_iconst (v := 2) C.1 C.2.1 dL_law_633 (by decide) ?_
        refine k_iadd (v := 2) C (by decide) dL_law_634 ?_
        refine k_sld (v := y2) C hX hbl hbA Wd (vp_in_iff.mpr (by decide)) hy2 dL_law_635 ?_
        refine lv_aload_n C.1 C.2.1 dL_law_636 rfl (lv_at hl 3 rfl) ?_
        refine lv_iload_n C.1 C.2.1 dL_law_637 rfl (lv_at hl 0 rfl) ?_
        refine lv_iconst (v := 3) C.1 C.2.1 dL_law_638 (by decide) ?_
        refine k_iadd (v := 3) C (by decide) dL_law_639 ?_
        refine k_sld (v := y3) C hX hbl hbA Wd (vp_in_iff.mpr (by decide)) hy3 dL_law_640 ?_
        refine k_ci Wd [0, 1, 2] [] rfl (wr := []) rfl (by decide) (by decide) (cells' := 271) (slots' := 91330) (by decide) (by decide) (k_runV (rest := [.int 0]) C aks Wd cs_L_80 (kcX12_make l D q6104 q6106 q6107 q6108 q6109 q6110 q6111 q6112 q6113 q6114 q6115 q6116 q6117 q6118 q6119 q6120 q6121 q6122 q6123 q6124 q6125 q6126 q6127 q6128 q6129 q6130 y1 y2 y3 e6132 e6151 _ ) [0, 1, 2] rfl (by decide) [2, 3] rfl 0 12 rfl rfl rfl rfl rfl ⟨(Nat.le_of_ble_eq_true rfl), (Nat.le_of_ble_eq_true rfl)⟩ hl.1 rfl rfl (Nat.le_of_ble_eq_true rfl) ⟨(Nat.le_of_ble_eq_true rfl), (Nat.le_of_ble_eq_true rfl)⟩ dL_law_641) (fun r _ H locs w11040 Wd => ?_)
        have Wd : wX D [(e5970, .object RX8), (e6040, .int), (e6132, .int), (e6151, .int)] s [] _ A s.heap _ := Wd
        rcases w11040 with ⟨c11041, rfl⟩ | ⟨c11042, c11043, rfl⟩ | ⟨c11044, c11045, c11046, rfl⟩ | ⟨c11047, c11048, c11049, c11050, rfl⟩ | ⟨c11051, c11052, c11053, c11054, c11055, rfl⟩ | ⟨c11056, c11057, c11058, c11059, c11060, c11061, rfl⟩ | ⟨c11062, c11063, c11064, c11065, c11066, c11067, rfl⟩
        · exact absurd c11041 c10980
        · exact False.elim (by have z0 := kz_nlt c10980; have z1 := kz_nle c10981; have z2 := kz_nlt c11042; have z3 := kz_lt c11043; have t0 : (0 : Int32).toInt = 0 := (by decide); have t6 : (6 : Int32).toInt = 6 := (by decide); have t5 : (5 : Int32).toInt = 5 := (by decide); omega)
        · exact absurd c11046 c10670
        · exact False.elim (by have z0 := kz_nlt c10670; have z1 := kz_lt c10807; have z2 := kz_nlt c10976; have z3 := kz_nle c10977; have z4 := kz_nlt c11049; have z5 := kz_lt c11050; have t0 : (0 : Int32).toInt = 0 := (by decide); have t6 : (6 : Int32).toInt = 6 := (by decide); have t5 : (5 : Int32).toInt = 5 := (by decide); omega)
        · exact absurd c11055 c10808
        · exact False.elim (by have z0 := kz_nlt c10808; have z1 := kz_lt c10847; have z2 := kz_nlt c10978; have z3 := kz_nle c10979; have z4 := kz_nlt c11060; have z5 := kz_lt c11061; have t0 : (0 : Int32).toInt = 0 := (by decide); have t6 : (6 : Int32).toInt = 6 := (by decide); have t5 : (5 : Int32).toInt = 5 := (by decide); omega)
        · refine lv_icmp_eq (tgt := 801) C.1 C.2.1 dL_law_644 (by decide) (fun _ => ?_) (fun c11068 => absurd c11068 (by decide))
          exact tail _ _ _ (k_sub Wd [] rfl (by decide) [] rfl) (lv_sub hl [0, 3] rfl)
    have hsel : ∃ (q11069 q11070 : Nat), (va_up (va_up (va_up (va_up (va_up (va_up (fun _ => none) 0 (some q5971)) 1 (some q5972)) 2 (some q5973)) 3 (some q5974)) 4 (some q5975)) 5 (some q5976)) y2.toNatClampNeg = some q11069 ∧ wX D [(e5970, .object RX8), (e6040, .int), (e6132, .int), (e6151, .int)] s [(q5961, .inr (11, [.ref q5963, .int 0, .ref q5964, .ref q5965, .ref q5966, .ref q5967, .ref q5968, .ref q5969])), (q5963, .inl (e5970, 6, .inr (.inr (.inr (.inr (va_up (va_up (va_up (va_up (va_up (va_up (fun _ => none) 0 (some q5971)) 1 (some q5972)) 2 (some q5973)) 3 (some q5974)) 4 (some q5975)) 5 (some q5976))))))), (q5968, .inr (4, [.ref q6010, .ref q6011, .ref q6012, .int (-1), .int (-1), .ref q6013, .ref q6014, .ref q6015, .ref q6016, .ref q6017])), (q6015, .inl (e6040, 6, .inl (fun _ => 0))), (q6011, .inr (8, [.ref q6041, .int 0])), (q6104, .inr (12, [.ref q6106, .ref q6107, .ref q6108, .ref q6109, .int 0, .int 0, .ref q6110, .int 0, .int 0, .int 0, .int 0, .int 0, .int 0, .int 0, .int 0, .int 0, .int 0, .int 0, .int 0, .int 0, .int (-1), .int 0, .int 0, .int 0, .ref q6111, .ref q6112, .ref q6113, .ref q6114, .ref q6115, .ref q6116, .int 0, .int 0, .int 0, .int 0, .ref q6117, .ref q6118, .ref q6119, .int 0, .int 0, .int 0, .int 0, .ref q6120, .ref q6121, .int 0, .ref q6122, .ref q6123, .int 0, .ref q6124, .int 0, .ref q6125, .ref q6126, .ref q6127, .int 0, .ref q6128, .ref q6129, .ref q6130])), (q6107, .inl (e6132, 6, .inl (fun _ => 0))), (q6126, .inl (e6151, 6, .inl (fun _ => 0))), (q11069, .inr (8, [.ref q11070, .int 0]))] H A s.heap locs := by
      rcases kf6 c10670 c10807 with rfl | rfl | rfl | rfl | rfl | rfl
      · exact ⟨q5971, q5977, rfl, k_sub Wd [0, 1, 8, 9, 10, 11, 12, 13, 2] rfl (by decide) [0, 1, 2, 3] rfl⟩
      · exact ⟨q5972, q5978, rfl, k_sub Wd [0, 1, 8, 9, 10, 11, 12, 13, 3] rfl (by decide) [0, 1, 2, 3] rfl⟩
      · exact ⟨q5973, q5979, rfl, k_sub Wd [0, 1, 8, 9, 10, 11, 12, 13, 4] rfl (by decide) [0, 1, 2, 3] rfl⟩
      · exact ⟨q5974, q5980, rfl, k_sub Wd [0, 1, 8, 9, 10, 11, 12, 13, 5] rfl (by decide) [0, 1, 2, 3] rfl⟩
      · exact ⟨q5975, q5981, rfl, k_sub Wd [0, 1, 8, 9, 10, 11, 12, 13, 6] rfl (by decide) [0, 1, 2, 3] rfl⟩
      · exact ⟨q5976, q5982, rfl, k_sub Wd [0, 1, 8, 9, 10, 11, 12, 13, 7] rfl (by decide) [0, 1, 2, 3] rfl⟩
    obtain ⟨q11069, q11070, hk11071, Wd⟩ := hsel
    refine lv_aload_n C.1 C.2.1 dL_law_606 rfl (lv_at hl 2 rfl) ?_
    refine lv_aload_n C.1 C.2.1 dL_law_607 rfl (lv_at hl 3 rfl) ?_
    refine lv_iload_n C.1 C.2.1 dL_law_608 rfl (lv_at hl 0 rfl) ?_
    refine lv_iconst (v := 1) C.1 C.2.1 dL_law_609 (by decide) ?_
    refine k_iadd (v := 1) C (by decide) dL_law_610 ?_
    refine k_sld (v := y1) C hX hbl hbA Wd (vp_in_iff.mpr (by decide)) hy1 dL_law_611 ?_
    refine lv_aload_n C.1 C.2.1 dL_law_612 rfl (lv_at hl 3 rfl) ?_
    refine lv_iload_n C.1 C.2.1 dL_law_613 rfl (lv_at hl 0 rfl) ?_
    refine lv_iconst (v := 2) C.1 C.2.1 dL_law_614 (by decide) ?_
    refine k_iadd (v := 2) C (by decide) dL_law_615 ?_
    refine k_sld (v := y2) C hX hbl hbA Wd (vp_in_iff.mpr (by decide)) hy2 dL_law_616 ?_
    refine lv_aload_n C.1 C.2.1 dL_law_617 rfl (lv_at hl 3 rfl) ?_
    refine lv_iload_n C.1 C.2.1 dL_law_618 rfl (lv_at hl 0 rfl) ?_
    refine lv_iconst (v := 3) C.1 C.2.1 dL_law_619 (by decide) ?_
    refine k_iadd (v := 3) C (by decide) dL_law_620 ?_
    refine k_sld (v := y3) C hX hbl hbA Wd (vp_in_iff.mpr (by decide)) hy3 dL_law_621 ?_
    refine k_pi (k_runV (rest := []) C aks Wd cs_L_77 (kcX11_make_v3 l D q5961 q5963 q5964 q5965 q5966 q5967 q5968 q5969 q11069 y1 y2 y3 (va_up (va_up (va_up (va_up (va_up (va_up (fun _ => none) 0 (some q5971)) 1 (some q5972)) 2 (some q5973)) 3 (some q5974)) 4 (some q5975)) 5 (some q5976)) e5970 _ hk11071 c10670 c10807 c10847) [0, 1] rfl (by decide) [0] rfl 0 11 rfl rfl rfl rfl rfl ⟨(Nat.le_of_ble_eq_true rfl), (Nat.le_of_ble_eq_true rfl)⟩ hl.1 rfl rfl (Nat.le_of_ble_eq_true rfl) ⟨(Nat.le_of_ble_eq_true rfl), (Nat.le_of_ble_eq_true rfl)⟩ dL_law_622) (fun r w11072 => ?_)
    obtain ⟨c11073, c11074, c11075, c11076, rfl⟩ := w11072
    refine lv_aload_n C.1 C.2.1 dL_law_625 rfl (lv_at hl 1 rfl) ?_
    refine lv_aload_n C.1 C.2.1 dL_law_626 rfl (lv_at hl 3 rfl) ?_
    refine lv_iload_n C.1 C.2.1 dL_law_627 rfl (lv_at hl 0 rfl) ?_
    refine lv_iconst (v := 1) C.1 C.2.1 dL_law_628 (by decide) ?_
    refine k_iadd (v := 1) C (by decide) dL_law_629 ?_
    refine k_sld (v := y1) C hX hbl hbA Wd (vp_in_iff.mpr (by decide)) hy1 dL_law_630 ?_
    refine lv_aload_n C.1 C.2.1 dL_law_631 rfl (lv_at hl 3 rfl) ?_
    refine lv_iload_n C.1 C.2.1 dL_law_632 rfl (lv_at hl 0 rfl) ?_
    refine lv_iconst (v := 2) C.1 C.2.1 dL_law_633 (by decide) ?_
    refine k_iadd (v := 2) C (by decide) dL_law_634 ?_
    refine k_sld (v := y2) C hX hbl hbA Wd (vp_in_iff.mpr (by decide)) hy2 dL_law_635 ?_
    refine lv_aload_n C.1 C.2.1 dL_law_636 rfl (lv_at hl 3 rfl) ?_
    refine lv_iload_n C.1 C.2.1 dL_law_637 rfl (lv_at hl 0 rfl) ?_
    refine lv_iconst (v := 3) C.1 C.2.1 dL_law_638 (by decide) ?_
    refine k_iadd (v := 3) C (by decide) dL_law_639 ?_
    refine k_sld (v := y3) C hX hbl hbA Wd (vp_in_iff.mpr (by decide)) hy3 dL_law_640 ?_
    refine k_ci Wd [5, 6, 7] [0, 1, 2, 3, 4, 8] rfl (wr := [(q5961, .inr (11, [.ref q5963, .int 0, .ref q5964, .ref q5965, .ref q5966, .ref q5967, .ref q5968, .ref q5969])), (q5963, .inl (e5970, 6, .inr (.inr (.inr (.inr (va_up (va_up (va_up (va_up (va_up (va_up (fun _ => none) 0 (some q5971)) 1 (some q5972)) 2 (some q5973)) 3 (some q5974)) 4 (some q5975)) 5 (some q5976))))))), (q5968, .inr (4, [.ref q6010, .ref q6011, .ref q6012, .int (-1), .int (-1), .ref q6013, .ref q6014, .ref q6015, .ref q6016, .ref q6017])), (q6015, .inl (e6040, 6, .inl (fun _ => 0))), (q6011, .inr (8, [.ref q6041, .int 0])), (q11069, .inr (8, [.ref q11070, .int 0]))]) rfl (by decide) (by decide) (cells' := 271) (slots' := 91330) (by decide) (by decide) (k_runV (rest := [.int (-1)]) C aks Wd cs_L_80 (kcX12_make l D q6104 q6106 q6107 q6108 q6109 q6110 q6111 q6112 q6113 q6114 q6115 q6116 q6117 q6118 q6119 q6120 q6121 q6122 q6123 q6124 q6125 q6126 q6127 q6128 q6129 q6130 y1 y2 y3 e6132 e6151 _ ) [5, 6, 7] rfl (by decide) [2, 3] rfl 5 12 rfl rfl rfl rfl rfl ⟨(Nat.le_of_ble_eq_true rfl), (Nat.le_of_ble_eq_true rfl)⟩ hl.1 rfl rfl (Nat.le_of_ble_eq_true rfl) ⟨(Nat.le_of_ble_eq_true rfl), (Nat.le_of_ble_eq_true rfl)⟩ dL_law_641) (fun r _ H locs w11077 Wd => ?_)
    have Wd : wX D [(e5970, .object RX8), (e6040, .int), (e6132, .int), (e6151, .int)] s [(q5961, .inr (11, [.ref q5963, .int 0, .ref q5964, .ref q5965, .ref q5966, .ref q5967, .ref q5968, .ref q5969])), (q5963, .inl (e5970, 6, .inr (.inr (.inr (.inr (va_up (va_up (va_up (va_up (va_up (va_up (fun _ => none) 0 (some q5971)) 1 (some q5972)) 2 (some q5973)) 3 (some q5974)) 4 (some q5975)) 5 (some q5976))))))), (q5968, .inr (4, [.ref q6010, .ref q6011, .ref q6012, .int (-1), .int (-1), .ref q6013, .ref q6014, .ref q6015, .ref q6016, .ref q6017])), (q6015, .inl (e6040, 6, .inl (fun _ => 0))), (q6011, .inr (8, [.ref q6041, .int 0])), (q11069, .inr (8, [.ref q11070, .int 0]))] _ A s.heap _ := Wd
    rcases w11077 with ⟨c11078, rfl⟩ | ⟨c11079, c11080, rfl⟩ | ⟨c11081, c11082, c11083, rfl⟩ | ⟨c11084, c11085, c11086, c11087, rfl⟩ | ⟨c11088, c11089, c11090, c11091, c11092, rfl⟩ | ⟨c11093, c11094, c11095, c11096, c11097, c11098, rfl⟩ | ⟨c11099, c11100, c11101, c11102, c11103, c11104, rfl⟩
    · refine lv_icmp_eq (tgt := 801) C.1 C.2.1 dL_law_644 (by decide) (fun _ => ?_) (fun c11105 => absurd c11105 (by decide))
      exact tail _ _ _ (k_sub Wd [] rfl (by decide) [] rfl) (lv_sub hl [0, 3] rfl)
    · refine lv_icmp_eq (tgt := 801) C.1 C.2.1 dL_law_644 (by decide) (fun _ => ?_) (fun c11106 => absurd c11106 (by decide))
      exact tail _ _ _ (k_sub Wd [] rfl (by decide) [] rfl) (lv_sub hl [0, 3] rfl)
    · exact absurd c11083 c10670
    · exact False.elim (by have z0 := kz_nlt c10670; have z1 := kz_lt c10807; have z2 := kz_nlt c11073; have z3 := kz_nle c11074; have z4 := kz_nlt c11086; have z5 := kz_lt c11087; have t0 : (0 : Int32).toInt = 0 := (by decide); have t6 : (6 : Int32).toInt = 6 := (by decide); have t5 : (5 : Int32).toInt = 5 := (by decide); omega)
    · exact absurd c11092 c10808
    · refine lv_icmp_eq (tgt := 801) C.1 C.2.1 dL_law_644 (by decide) (fun _ => ?_) (fun c11107 => absurd c11107 (by decide))
      exact tail _ _ _ (k_sub Wd [] rfl (by decide) [] rfl) (lv_sub hl [0, 3] rfl)
    · exact False.elim (by have z0 := kz_nlt c10808; have z1 := kz_nlt c10847; have z2 := kz_nlt c11075; have z3 := kz_le c11076; have z4 := kz_nlt c11103; have z5 := kz_nlt c11104; have t0 : (0 : Int32).toInt = 0 := (by decide); have t6 : (6 : Int32).toInt = 6 := (by decide); have t5 : (5 : Int32).toInt = 5 := (by decide); omega)
  refine lv_aload_n C.1 C.2.1 dL_law_606 rfl (lv_at hl 2 rfl) ?_
  refine lv_aload_n C.1 C.2.1 dL_law_607 rfl (lv_at hl 3 rfl) ?_
  refine lv_iload_n C.1 C.2.1 dL_law_608 rfl (lv_at hl 0 rfl) ?_
  refine lv_iconst (v := 1) C.1 C.2.1 dL_law_609 (by decide) ?_
  refine k_iadd (v := 1) C (by decide) dL_law_610 ?_
  refine k_sld (v := y1) C hX hbl hbA Wd (vp_in_iff.mpr (by decide)) hy1 dL_law_611 ?_
  refine lv_aload_n C.1 C.2.1 dL_law_612 rfl (lv_at hl 3 rfl) ?_
  refine lv_iload_n C.1 C.2.1 dL_law_613 rfl (lv_at hl 0 rfl) ?_
  refine lv_iconst (v := 2) C.1 C.2.1 dL_law_614 (by decide) ?_
  refine k_iadd (v := 2) C (by decide) dL_law_615 ?_
  refine k_sld (v := y2) C hX hbl hbA Wd (vp_in_iff.mpr (by decide)) hy2 dL_law_616 ?_
  refine lv_aload_n C.1 C.2.1 dL_law_617 rfl (lv_at hl 3 rfl) ?_
  refine lv_iload_n C.1 C.2.1 dL_law_618 rfl (lv_at hl 0 rfl) ?_
  refine lv_iconst (v := 3) C.1 C.2.1 dL_law_619 (by decide) ?_
  refine k_iadd (v := 3) C (by decide) dL_law_620 ?_
  refine k_sld (v := y3) C hX hbl hbA Wd (vp_in_iff.mpr (by decide)) hy3 dL_law_621 ?_
  refine k_pi (k_runV (rest := []) C aks Wd cs_L_77 (kcX11_make_v1 l D q5961 q5963 q5964 q5965 q5966 q5967 q5968 q5969 y1 y2 y3 (va_up (va_up (va_up (va_up (va_up (va_up (fun _ => none) 0 (some q5971)) 1 (some q5972)) 2 (some q5973)) 3 (some q5974)) 4 (some q5975)) 5 (some q5976)) e5970 _ c10807) [0, 1] rfl (by decide) [0] rfl 0 11 rfl rfl rfl rfl rfl ⟨(Nat.le_of_ble_eq_true rfl), (Nat.le_of_ble_eq_true rfl)⟩ hl.1 rfl rfl (Nat.le_of_ble_eq_true rfl) ⟨(Nat.le_of_ble_eq_true rfl), (Nat.le_of_ble_eq_true rfl)⟩ dL_law_622) (fun r w11108 => ?_)
  rcases w11108 with ⟨c11109, c11110, c11111, rfl⟩ | ⟨c11112, c11113, c11114, c11115, rfl⟩ | ⟨c11116, c11117, c11118, c11119, rfl⟩ | ⟨c11120, c11121, c11122, c11123, rfl⟩
  · refine lv_aload_n C.1 C.2.1 dL_law_625 rfl (lv_at hl 1 rfl) ?_
    refine lv_aload_n C.1 C.2.1 dL_law_626 rfl (lv_at hl 3 rfl) ?_
    refine lv_iload_n C.1 C.2.1 dL_law_627 rfl (lv_at hl 0 rfl) ?_
    refine lv_iconst (v := 1) C.1 C.2.1 dL_law_628 (by decide) ?_
    refine k_iadd (v := 1) C (by decide) dL_law_629 ?_
    refine k_sld (v := y1) C hX hbl hbA Wd (vp_in_iff.mpr (by decide)) hy1 dL_law_630 ?_
    refine lv_aload_n C.1 C.2.1 dL_law_631 rfl (lv_at hl 3 rfl) ?_
    refine lv_iload_n C.1 C.2.1 dL_law_632 rfl (lv_at hl 0 rfl) ?_
    refine lv_iconst (v := 2) C.1 C.2.1 dL_law_633 (by decide) ?_
    refine k_iadd (v := 2) C (by decide) dL_law_634 ?_
    refine k_sld (v := y2) C hX hbl hbA Wd (vp_in_iff.mpr (by decide)) hy2 dL_law_635 ?_
    refine lv_aload_n C.1 C.2.1 dL_law_636 rfl (lv_at hl 3 rfl) ?_
    refine lv_iload_n C.1 C.2.1 dL_law_637 rfl (lv_at hl 0 rfl) ?_
    refine lv_iconst (v := 3) C.1 C.2.1 dL_law_638 (by decide) ?_
    refine k_iadd (v := 3) C (by decide) dL_law_639 ?_
    refine k_sld (v := y3) C hX hbl hbA Wd (vp_in_iff.mpr (by decide)) hy3 dL_law_640 ?_
    refine k_ci Wd [11, 12, 13] [0, 1, 2, 3, 4, 5, 6, 7, 8, 9, 10] rfl (wr := [(q5961, .inr (11, [.ref q5963, .int 0, .ref q5964, .ref q5965, .ref q5966, .ref q5967, .ref q5968, .ref q5969])), (q5963, .inl (e5970, 6, .inr (.inr (.inr (.inr (va_up (va_up (va_up (va_up (va_up (va_up (fun _ => none) 0 (some q5971)) 1 (some q5972)) 2 (some q5973)) 3 (some q5974)) 4 (some q5975)) 5 (some q5976))))))), (q5971, .inr (8, [.ref q5977, .int 0])), (q5972, .inr (8, [.ref q5978, .int 0])), (q5973, .inr (8, [.ref q5979, .int 0])), (q5974, .inr (8, [.ref q5980, .int 0])), (q5975, .inr (8, [.ref q5981, .int 0])), (q5976, .inr (8, [.ref q5982, .int 0])), (q5968, .inr (4, [.ref q6010, .ref q6011, .ref q6012, .int (-1), .int (-1), .ref q6013, .ref q6014, .ref q6015, .ref q6016, .ref q6017])), (q6015, .inl (e6040, 6, .inl (fun _ => 0))), (q6011, .inr (8, [.ref q6041, .int 0]))]) rfl (by decide) (by decide) (cells' := 271) (slots' := 91330) (by decide) (by decide) (k_runV (rest := [.int (-1)]) C aks Wd cs_L_80 (kcX12_make l D q6104 q6106 q6107 q6108 q6109 q6110 q6111 q6112 q6113 q6114 q6115 q6116 q6117 q6118 q6119 q6120 q6121 q6122 q6123 q6124 q6125 q6126 q6127 q6128 q6129 q6130 y1 y2 y3 e6132 e6151 _ ) [11, 12, 13] rfl (by decide) [2, 3] rfl 11 12 rfl rfl rfl rfl rfl ⟨(Nat.le_of_ble_eq_true rfl), (Nat.le_of_ble_eq_true rfl)⟩ hl.1 rfl rfl (Nat.le_of_ble_eq_true rfl) ⟨(Nat.le_of_ble_eq_true rfl), (Nat.le_of_ble_eq_true rfl)⟩ dL_law_641) (fun r _ H locs w11124 Wd => ?_)
    have Wd : wX D [(e5970, .object RX8), (e6040, .int), (e6132, .int), (e6151, .int)] s [(q5961, .inr (11, [.ref q5963, .int 0, .ref q5964, .ref q5965, .ref q5966, .ref q5967, .ref q5968, .ref q5969])), (q5963, .inl (e5970, 6, .inr (.inr (.inr (.inr (va_up (va_up (va_up (va_up (va_up (va_up (fun _ => none) 0 (some q5971)) 1 (some q5972)) 2 (some q5973)) 3 (some q5974)) 4 (some q5975)) 5 (some q5976))))))), (q5971, .inr (8, [.ref q5977, .int 0])), (q5972, .inr (8, [.ref q5978, .int 0])), (q5973, .inr (8, [.ref q5979, .int 0])), (q5974, .inr (8, [.ref q5980, .int 0])), (q5975, .inr (8, [.ref q5981, .int 0])), (q5976, .inr (8, [.ref q5982, .int 0])), (q5968, .inr (4, [.ref q6010, .ref q6011, .ref q6012, .int (-1), .int (-1), .ref q6013, .ref q6014, .ref q6015, .ref q6016, .ref q6017])), (q6015, .inl (e6040, 6, .inl (fun _ => 0))), (q6011, .inr (8, [.ref q6041, .int 0]))] _ A s.heap _ := Wd
    rcases w11124 with ⟨c11125, rfl⟩ | ⟨c11126, c11127, rfl⟩ | ⟨c11128, c11129, c11130, rfl⟩ | ⟨c11131, c11132, c11133, c11134, rfl⟩ | ⟨c11135, c11136, c11137, c11138, c11139, rfl⟩ | ⟨c11140, c11141, c11142, c11143, c11144, c11145, rfl⟩ | ⟨c11146, c11147, c11148, c11149, c11150, c11151, rfl⟩
    · refine lv_icmp_eq (tgt := 801) C.1 C.2.1 dL_law_644 (by decide) (fun _ => ?_) (fun c11152 => absurd c11152 (by decide))
      exact tail _ _ _ (k_sub Wd [] rfl (by decide) [] rfl) (lv_sub hl [0, 3] rfl)
    · refine lv_icmp_eq (tgt := 801) C.1 C.2.1 dL_law_644 (by decide) (fun _ => ?_) (fun c11153 => absurd c11153 (by decide))
      exact tail _ _ _ (k_sub Wd [] rfl (by decide) [] rfl) (lv_sub hl [0, 3] rfl)
    · exact absurd c11130 c10670
    · refine lv_icmp_eq (tgt := 801) C.1 C.2.1 dL_law_644 (by decide) (fun _ => ?_) (fun c11154 => absurd c11154 (by decide))
      exact tail _ _ _ (k_sub Wd [] rfl (by decide) [] rfl) (lv_sub hl [0, 3] rfl)
    · exact False.elim (by have z0 := kz_nlt c10670; have z1 := kz_nlt c10807; have z2 := kz_nlt c11109; have z3 := kz_le c11110; have z4 := kz_nlt c11137; have z5 := kz_nlt c11138; have t0 : (0 : Int32).toInt = 0 := (by decide); have t6 : (6 : Int32).toInt = 6 := (by decide); have t5 : (5 : Int32).toInt = 5 := (by decide); omega)
    · exact False.elim (by have z0 := kz_nlt c10670; have z1 := kz_nlt c10807; have z2 := kz_nlt c11109; have z3 := kz_le c11110; have z4 := kz_nlt c11142; have z5 := kz_nlt c11143; have t0 : (0 : Int32).toInt = 0 := (by decide); have t6 : (6 : Int32).toInt = 6 := (by decide); have t5 : (5 : Int32).toInt = 5 := (by decide); omega)
    · exact False.elim (by have z0 := kz_nlt c10670; have z1 := kz_nlt c10807; have z2 := kz_nlt c11109; have z3 := kz_le c11110; have z4 := kz_nlt c11148; have z5 := kz_nlt c11149; have t0 : (0 : Int32).toInt = 0 := (by decide); have t6 : (6 : Int32).toInt = 6 := (by decide); have t5 : (5 : Int32).toInt = 5 := (by decide); omega)
  · refine lv_aload_n C.1 C.2.1 dL_law_625 rfl (lv_at hl 1 rfl) ?_
    refine lv_aload_n C.1 C.2.1 dL_law_626 rfl (lv_at hl 3 rfl) ?_
    refine lv_iload_n C.1 C.2.1 dL_law_627 rfl (lv_at hl 0 rfl) ?_
    refine lv_iconst (v := 1) C.1 C.2.1 dL_law_628 (by decide) ?_
    refine k_iadd (v := 1) C (by decide) dL_law_629 ?_
    refine k_sld (v := y1) C hX hbl hbA Wd (vp_in_iff.mpr (by decide)) hy1 dL_law_630 ?_
    refine lv_aload_n C.1 C.2.1 dL_law_631 rfl (lv_at hl 3 rfl) ?_
    refine lv_iload_n C.1 C.2.1 dL_law_632 rfl (lv_at hl 0 rfl) ?_
    refine lv_iconst (v := 2) C.1 C.2.1 dL_law_633 (by decide) ?_
    refine k_iadd (v := 2) C (by decide) dL_law_634 ?_
    refine k_sld (v := y2) C hX hbl hbA Wd (vp_in_iff.mpr (by decide)) hy2 dL_law_635 ?_
    refine lv_aload_n C.1 C.2.1 dL_law_636 rfl (lv_at hl 3 rfl) ?_
    refine lv_iload_n C.1 C.2.1 dL_law_637 rfl (lv_at hl 0 rfl) ?_
    refine lv_iconst (v := 3) C.1 C.2.1 dL_law_638 (by decide) ?_
    refine k_iadd (v := 3) C (by decide) dL_law_639 ?_
    refine k_sld (v := y3) C hX hbl hbA Wd (vp_in_iff.mpr (by decide)) hy3 dL_law_640 ?_
    refine k_ci Wd [11, 12, 13] [0, 1, 2, 3, 4, 5, 6, 7, 8, 9, 10] rfl (wr := [(q5961, .inr (11, [.ref q5963, .int 0, .ref q5964, .ref q5965, .ref q5966, .ref q5967, .ref q5968, .ref q5969])), (q5963, .inl (e5970, 6, .inr (.inr (.inr (.inr (va_up (va_up (va_up (va_up (va_up (va_up (fun _ => none) 0 (some q5971)) 1 (some q5972)) 2 (some q5973)) 3 (some q5974)) 4 (some q5975)) 5 (some q5976))))))), (q5971, .inr (8, [.ref q5977, .int 0])), (q5972, .inr (8, [.ref q5978, .int 0])), (q5973, .inr (8, [.ref q5979, .int 0])), (q5974, .inr (8, [.ref q5980, .int 0])), (q5975, .inr (8, [.ref q5981, .int 0])), (q5976, .inr (8, [.ref q5982, .int 0])), (q5968, .inr (4, [.ref q6010, .ref q6011, .ref q6012, .int (-1), .int (-1), .ref q6013, .ref q6014, .ref q6015, .ref q6016, .ref q6017])), (q6015, .inl (e6040, 6, .inl (fun _ => 0))), (q6011, .inr (8, [.ref q6041, .int 0]))]) rfl (by decide) (by decide) (cells' := 271) (slots' := 91330) (by decide) (by decide) (k_runV (rest := [.int (-1)]) C aks Wd cs_L_80 (kcX12_make l D q6104 q6106 q6107 q6108 q6109 q6110 q6111 q6112 q6113 q6114 q6115 q6116 q6117 q6118 q6119 q6120 q6121 q6122 q6123 q6124 q6125 q6126 q6127 q6128 q6129 q6130 y1 y2 y3 e6132 e6151 _ ) [11, 12, 13] rfl (by decide) [2, 3] rfl 11 12 rfl rfl rfl rfl rfl ⟨(Nat.le_of_ble_eq_true rfl), (Nat.le_of_ble_eq_true rfl)⟩ hl.1 rfl rfl (Nat.le_of_ble_eq_true rfl) ⟨(Nat.le_of_ble_eq_true rfl), (Nat.le_of_ble_eq_true rfl)⟩ dL_law_641) (fun r _ H locs w11155 Wd => ?_)
    have Wd : wX D [(e5970, .object RX8), (e6040, .int), (e6132, .int), (e6151, .int)] s [(q5961, .inr (11, [.ref q5963, .int 0, .ref q5964, .ref q5965, .ref q5966, .ref q5967, .ref q5968, .ref q5969])), (q5963, .inl (e5970, 6, .inr (.inr (.inr (.inr (va_up (va_up (va_up (va_up (va_up (va_up (fun _ => none) 0 (some q5971)) 1 (some q5972)) 2 (some q5973)) 3 (some q5974)) 4 (some q5975)) 5 (some q5976))))))), (q5971, .inr (8, [.ref q5977, .int 0])), (q5972, .inr (8, [.ref q5978, .int 0])), (q5973, .inr (8, [.ref q5979, .int 0])), (q5974, .inr (8, [.ref q5980, .int 0])), (q5975, .inr (8, [.ref q5981, .int 0])), (q5976, .inr (8, [.ref q5982, .int 0])), (q5968, .inr (4, [.ref q6010, .ref q6011, .ref q6012, .int (-1), .int (-1), .ref q6013, .ref q6014, .ref q6015, .ref q6016, .ref q6017])), (q6015, .inl (e6040, 6, .inl (fun _ => 0))), (q6011, .inr (8, [.ref q6041, .int 0]))] _ A s.heap _ := Wd
    rcases w11155 with ⟨c11156, rfl⟩ | ⟨c11157, c11158, rfl⟩ | ⟨c11159, c11160, c11161, rfl⟩ | ⟨c11162, c11163, c11164, c11165, rfl⟩ | ⟨c11166, c11167, c11168, c11169, c11170, rfl⟩ | ⟨c11171, c11172, c11173, c11174, c11175, c11176, rfl⟩ | ⟨c11177, c11178, c11179, c11180, c11181, c11182, rfl⟩
    · refine lv_icmp_eq (tgt := 801) C.1 C.2.1 dL_law_644 (by decide) (fun _ => ?_) (fun c11183 => absurd c11183 (by decide))
      exact tail _ _ _ (k_sub Wd [] rfl (by decide) [] rfl) (lv_sub hl [0, 3] rfl)
    · refine lv_icmp_eq (tgt := 801) C.1 C.2.1 dL_law_644 (by decide) (fun _ => ?_) (fun c11184 => absurd c11184 (by decide))
      exact tail _ _ _ (k_sub Wd [] rfl (by decide) [] rfl) (lv_sub hl [0, 3] rfl)
    · exact absurd c11161 c10670
    · refine lv_icmp_eq (tgt := 801) C.1 C.2.1 dL_law_644 (by decide) (fun _ => ?_) (fun c11185 => absurd c11185 (by decide))
      exact tail _ _ _ (k_sub Wd [] rfl (by decide) [] rfl) (lv_sub hl [0, 3] rfl)
    · exact False.elim (by have z0 := kz_nlt c10670; have z1 := kz_nlt c10807; have z2 := kz_nlt c11112; have z3 := kz_le c11113; have z4 := kz_nlt c11168; have z5 := kz_nlt c11169; have t0 : (0 : Int32).toInt = 0 := (by decide); have t6 : (6 : Int32).toInt = 6 := (by decide); have t5 : (5 : Int32).toInt = 5 := (by decide); omega)
    · exact False.elim (by have z0 := kz_nlt c10670; have z1 := kz_nlt c10807; have z2 := kz_nlt c11112; have z3 := kz_le c11113; have z4 := kz_nlt c11173; have z5 := kz_nlt c11174; have t0 : (0 : Int32).toInt = 0 := (by decide); have t6 : (6 : Int32).toInt = 6 := (by decide); have t5 : (5 : Int32).toInt = 5 := (by decide); omega)
    · exact False.elim (by have z0 := kz_nlt c10670; have z1 := kz_nlt c10807; have z2 := kz_nlt c11112; have z3 := kz_le c11113; have z4 := kz_nlt c11179; have z5 := kz_nlt c11180; have t0 : (0 : Int32).toInt = 0 := (by decide); have t6 : (6 : Int32).toInt = 6 := (by decide); have t5 : (5 : Int32).toInt = 5 := (by decide); omega)
  · refine lv_aload_n C.1 C.2.1 dL_law_625 rfl (lv_at hl 1 rfl) ?_
    refine lv_aload_n C.1 C.2.1 dL_law_626 rfl (lv_at hl 3 rfl) ?_
    refine lv_iload_n C.1 C.2.1 dL_law_627 rfl (lv_at hl 0 rfl) ?_
    refine lv_iconst (v := 1) C.1 C.2.1 dL_law_628 (by decide) ?_
    refine k_iadd (v := 1) C (by decide) dL_law_629 ?_
    refine k_sld (v := y1) C hX hbl hbA Wd (vp_in_iff.mpr (by decide)) hy1 dL_law_630 ?_
    refine lv_aload_n C.1 C.2.1 dL_law_631 rfl (lv_at hl 3 rfl) ?_
    refine lv_iload_n C.1 C.2.1 dL_law_632 rfl (lv_at hl 0 rfl) ?_
    refine lv_iconst (v := 2) C.1 C.2.1 dL_law_633 (by decide) ?_
    refine k_iadd (v := 2) C (by decide) dL_law_634 ?_
    refine k_sld (v := y2) C hX hbl hbA Wd (vp_in_iff.mpr (by decide)) hy2 dL_law_635 ?_
    refine lv_aload_n C.1 C.2.1 dL_law_636 rfl (lv_at hl 3 rfl) ?_
    refine lv_iload_n C.1 C.2.1 dL_law_637 rfl (lv_at hl 0 rfl) ?_
    refine lv_iconst (v := 3) C.1 C.2.1 dL_law_638 (by decide) ?_
    refine k_iadd (v := 3) C (by decide) dL_law_639 ?_
    refine k_sld (v := y3) C hX hbl hbA Wd (vp_in_iff.mpr (by decide)) hy3 dL_law_640 ?_
    refine k_ci Wd [11, 12, 13] [0, 1, 2, 3, 4, 5, 6, 7, 8, 9, 10] rfl (wr := [(q5961, .inr (11, [.ref q5963, .int 0, .ref q5964, .ref q5965, .ref q5966, .ref q5967, .ref q5968, .ref q5969])), (q5963, .inl (e5970, 6, .inr (.inr (.inr (.inr (va_up (va_up (va_up (va_up (va_up (va_up (fun _ => none) 0 (some q5971)) 1 (some q5972)) 2 (some q5973)) 3 (some q5974)) 4 (some q5975)) 5 (some q5976))))))), (q5971, .inr (8, [.ref q5977, .int 0])), (q5972, .inr (8, [.ref q5978, .int 0])), (q5973, .inr (8, [.ref q5979, .int 0])), (q5974, .inr (8, [.ref q5980, .int 0])), (q5975, .inr (8, [.ref q5981, .int 0])), (q5976, .inr (8, [.ref q5982, .int 0])), (q5968, .inr (4, [.ref q6010, .ref q6011, .ref q6012, .int (-1), .int (-1), .ref q6013, .ref q6014, .ref q6015, .ref q6016, .ref q6017])), (q6015, .inl (e6040, 6, .inl (fun _ => 0))), (q6011, .inr (8, [.ref q6041, .int 0]))]) rfl (by decide) (by decide) (cells' := 271) (slots' := 91330) (by decide) (by decide) (k_runV (rest := [.int (-1)]) C aks Wd cs_L_80 (kcX12_make l D q6104 q6106 q6107 q6108 q6109 q6110 q6111 q6112 q6113 q6114 q6115 q6116 q6117 q6118 q6119 q6120 q6121 q6122 q6123 q6124 q6125 q6126 q6127 q6128 q6129 q6130 y1 y2 y3 e6132 e6151 _ ) [11, 12, 13] rfl (by decide) [2, 3] rfl 11 12 rfl rfl rfl rfl rfl ⟨(Nat.le_of_ble_eq_true rfl), (Nat.le_of_ble_eq_true rfl)⟩ hl.1 rfl rfl (Nat.le_of_ble_eq_true rfl) ⟨(Nat.le_of_ble_eq_true rfl), (Nat.le_of_ble_eq_true rfl)⟩ dL_law_641) (fun r _ H locs w11186 Wd => ?_)
    have Wd : wX D [(e5970, .object RX8), (e6040, .int), (e6132, .int), (e6151, .int)] s [(q5961, .inr (11, [.ref q5963, .int 0, .ref q5964, .ref q5965, .ref q5966, .ref q5967, .ref q5968, .ref q5969])), (q5963, .inl (e5970, 6, .inr (.inr (.inr (.inr (va_up (va_up (va_up (va_up (va_up (va_up (fun _ => none) 0 (some q5971)) 1 (some q5972)) 2 (some q5973)) 3 (some q5974)) 4 (some q5975)) 5 (some q5976))))))), (q5971, .inr (8, [.ref q5977, .int 0])), (q5972, .inr (8, [.ref q5978, .int 0])), (q5973, .inr (8, [.ref q5979, .int 0])), (q5974, .inr (8, [.ref q5980, .int 0])), (q5975, .inr (8, [.ref q5981, .int 0])), (q5976, .inr (8, [.ref q5982, .int 0])), (q5968, .inr (4, [.ref q6010, .ref q6011, .ref q6012, .int (-1), .int (-1), .ref q6013, .ref q6014, .ref q6015, .ref q6016, .ref q6017])), (q6015, .inl (e6040, 6, .inl (fun _ => 0))), (q6011, .inr (8, [.ref q6041, .int 0]))] _ A s.heap _ := Wd
    rcases w11186 with ⟨c11187, rfl⟩ | ⟨c11188, c11189, rfl⟩ | ⟨c11190, c11191, c11192, rfl⟩ | ⟨c11193, c11194, c11195, c11196, rfl⟩ | ⟨c11197, c11198, c11199, c11200, c11201, rfl⟩ | ⟨c11202, c11203, c11204, c11205, c11206, c11207, rfl⟩ | ⟨c11208, c11209, c11210, c11211, c11212, c11213, rfl⟩
    · refine lv_icmp_eq (tgt := 801) C.1 C.2.1 dL_law_644 (by decide) (fun _ => ?_) (fun c11214 => absurd c11214 (by decide))
      exact tail _ _ _ (k_sub Wd [] rfl (by decide) [] rfl) (lv_sub hl [0, 3] rfl)
    · refine lv_icmp_eq (tgt := 801) C.1 C.2.1 dL_law_644 (by decide) (fun _ => ?_) (fun c11215 => absurd c11215 (by decide))
      exact tail _ _ _ (k_sub Wd [] rfl (by decide) [] rfl) (lv_sub hl [0, 3] rfl)
    · exact absurd c11192 c10670
    · refine lv_icmp_eq (tgt := 801) C.1 C.2.1 dL_law_644 (by decide) (fun _ => ?_) (fun c11216 => absurd c11216 (by decide))
      exact tail _ _ _ (k_sub Wd [] rfl (by decide) [] rfl) (lv_sub hl [0, 3] rfl)
    · exact False.elim (by have z0 := kz_nlt c10670; have z1 := kz_nlt c10807; have z2 := kz_nlt c11116; have z3 := kz_le c11117; have z4 := kz_nlt c11199; have z5 := kz_nlt c11200; have t0 : (0 : Int32).toInt = 0 := (by decide); have t6 : (6 : Int32).toInt = 6 := (by decide); have t5 : (5 : Int32).toInt = 5 := (by decide); omega)
    · exact False.elim (by have z0 := kz_nlt c10670; have z1 := kz_nlt c10807; have z2 := kz_nlt c11116; have z3 := kz_le c11117; have z4 := kz_nlt c11204; have z5 := kz_nlt c11205; have t0 : (0 : Int32).toInt = 0 := (by decide); have t6 : (6 : Int32).toInt = 6 := (by decide); have t5 : (5 : Int32).toInt = 5 := (by decide); omega)
    · exact False.elim (by have z0 := kz_nlt c10670; have z1 := kz_nlt c10807; have z2 := kz_nlt c11116; have z3 := kz_le c11117; have z4 := kz_nlt c11210; have z5 := kz_nlt c11211; have t0 : (0 : Int32).toInt = 0 := (by decide); have t6 : (6 : Int32).toInt = 6 := (by decide); have t5 : (5 : Int32).toInt = 5 := (by decide); omega)
  · refine lv_aload_n C.1 C.2.1 dL_law_625 rfl (lv_at hl 1 rfl) ?_
    refine lv_aload_n C.1 C.2.1 dL_law_626 rfl (lv_at hl 3 rfl) ?_
    refine lv_iload_n C.1 C.2.1 dL_law_627 rfl (lv_at hl 0 rfl) ?_
    refine lv_iconst (v := 1) C.1 C.2.1 dL_law_628 (by decide) ?_
    refine k_iadd (v := 1) C (by decide) dL_law_629 ?_
    refine k_sld (v := y1) C hX hbl hbA Wd (vp_in_iff.mpr (by decide)) hy1 dL_law_630 ?_
    refine lv_aload_n C.1 C.2.1 dL_law_631 rfl (lv_at hl 3 rfl) ?_
    refine lv_iload_n C.1 C.2.1 dL_law_632 rfl (lv_at hl 0 rfl) ?_
    refine lv_iconst (v := 2) C.1 C.2.1 dL_law_633 (by decide) ?_
    refine k_iadd (v := 2) C (by decide) dL_law_634 ?_
    refine k_sld (v := y2) C hX hbl hbA Wd (vp_in_iff.mpr (by decide)) hy2 dL_law_635 ?_
    refine lv_aload_n C.1 C.2.1 dL_law_636 rfl (lv_at hl 3 rfl) ?_
    refine lv_iload_n C.1 C.2.1 dL_law_637 rfl (lv_at hl 0 rfl) ?_
    refine lv_iconst (v := 3) C.1 C.2.1 dL_law_638 (by decide) ?_
    refine k_iadd (v := 3) C (by decide) dL_law_639 ?_
    refine k_sld (v := y3) C hX hbl hbA Wd (vp_in_iff.mpr (by decide)) hy3 dL_law_640 ?_
    refine k_ci Wd [11, 12, 13] [0, 1, 2, 3, 4, 5, 6, 7, 8, 9, 10] rfl (wr := [(q5961, .inr (11, [.ref q5963, .int 0, .ref q5964, .ref q5965, .ref q5966, .ref q5967, .ref q5968, .ref q5969])), (q5963, .inl (e5970, 6, .inr (.inr (.inr (.inr (va_up (va_up (va_up (va_up (va_up (va_up (fun _ => none) 0 (some q5971)) 1 (some q5972)) 2 (some q5973)) 3 (some q5974)) 4 (some q5975)) 5 (some q5976))))))), (q5971, .inr (8, [.ref q5977, .int 0])), (q5972, .inr (8, [.ref q5978, .int 0])), (q5973, .inr (8, [.ref q5979, .int 0])), (q5974, .inr (8, [.ref q5980, .int 0])), (q5975, .inr (8, [.ref q5981, .int 0])), (q5976, .inr (8, [.ref q5982, .int 0])), (q5968, .inr (4, [.ref q6010, .ref q6011, .ref q6012, .int (-1), .int (-1), .ref q6013, .ref q6014, .ref q6015, .ref q6016, .ref q6017])), (q6015, .inl (e6040, 6, .inl (fun _ => 0))), (q6011, .inr (8, [.ref q6041, .int 0]))]) rfl (by decide) (by decide) (cells' := 271) (slots' := 91330) (by decide) (by decide) (k_runV (rest := [.int (-1)]) C aks Wd cs_L_80 (kcX12_make l D q6104 q6106 q6107 q6108 q6109 q6110 q6111 q6112 q6113 q6114 q6115 q6116 q6117 q6118 q6119 q6120 q6121 q6122 q6123 q6124 q6125 q6126 q6127 q6128 q6129 q6130 y1 y2 y3 e6132 e6151 _ ) [11, 12, 13] rfl (by decide) [2, 3] rfl 11 12 rfl rfl rfl rfl rfl ⟨(Nat.le_of_ble_eq_true rfl), (Nat.le_of_ble_eq_true rfl)⟩ hl.1 rfl rfl (Nat.le_of_ble_eq_true rfl) ⟨(Nat.le_of_ble_eq_true rfl), (Nat.le_of_ble_eq_true rfl)⟩ dL_law_641) (fun r _ H locs w11217 Wd => ?_)
    have Wd : wX D [(e5970, .object RX8), (e6040, .int), (e6132, .int), (e6151, .int)] s [(q5961, .inr (11, [.ref q5963, .int 0, .ref q5964, .ref q5965, .ref q5966, .ref q5967, .ref q5968, .ref q5969])), (q5963, .inl (e5970, 6, .inr (.inr (.inr (.inr (va_up (va_up (va_up (va_up (va_up (va_up (fun _ => none) 0 (some q5971)) 1 (some q5972)) 2 (some q5973)) 3 (some q5974)) 4 (some q5975)) 5 (some q5976))))))), (q5971, .inr (8, [.ref q5977, .int 0])), (q5972, .inr (8, [.ref q5978, .int 0])), (q5973, .inr (8, [.ref q5979, .int 0])), (q5974, .inr (8, [.ref q5980, .int 0])), (q5975, .inr (8, [.ref q5981, .int 0])), (q5976, .inr (8, [.ref q5982, .int 0])), (q5968, .inr (4, [.ref q6010, .ref q6011, .ref q6012, .int (-1), .int (-1), .ref q6013, .ref q6014, .ref q6015, .ref q6016, .ref q6017])), (q6015, .inl (e6040, 6, .inl (fun _ => 0))), (q6011, .inr (8, [.ref q6041, .int 0]))] _ A s.heap _ := Wd
    rcases w11217 with ⟨c11218, rfl⟩ | ⟨c11219, c11220, rfl⟩ | ⟨c11221, c11222, c11223, rfl⟩ | ⟨c11224, c11225, c11226, c11227, rfl⟩ | ⟨c11228, c11229, c11230, c11231, c11232, rfl⟩ | ⟨c11233, c11234, c11235, c11236, c11237, c11238, rfl⟩ | ⟨c11239, c11240, c11241, c11242, c11243, c11244, rfl⟩
    · refine lv_icmp_eq (tgt := 801) C.1 C.2.1 dL_law_644 (by decide) (fun _ => ?_) (fun c11245 => absurd c11245 (by decide))
      exact tail _ _ _ (k_sub Wd [] rfl (by decide) [] rfl) (lv_sub hl [0, 3] rfl)
    · refine lv_icmp_eq (tgt := 801) C.1 C.2.1 dL_law_644 (by decide) (fun _ => ?_) (fun c11246 => absurd c11246 (by decide))
      exact tail _ _ _ (k_sub Wd [] rfl (by decide) [] rfl) (lv_sub hl [0, 3] rfl)
    · exact absurd c11223 c10670
    · refine lv_icmp_eq (tgt := 801) C.1 C.2.1 dL_law_644 (by decide) (fun _ => ?_) (fun c11247 => absurd c11247 (by decide))
      exact tail _ _ _ (k_sub Wd [] rfl (by decide) [] rfl) (lv_sub hl [0, 3] rfl)
    · exact False.elim (by have z0 := kz_nlt c10670; have z1 := kz_nlt c10807; have z2 := kz_nlt c11120; have z3 := kz_le c11121; have z4 := kz_nlt c11230; have z5 := kz_nlt c11231; have t0 : (0 : Int32).toInt = 0 := (by decide); have t6 : (6 : Int32).toInt = 6 := (by decide); have t5 : (5 : Int32).toInt = 5 := (by decide); omega)
    · exact False.elim (by have z0 := kz_nlt c10670; have z1 := kz_nlt c10807; have z2 := kz_nlt c11120; have z3 := kz_le c11121; have z4 := kz_nlt c11235; have z5 := kz_nlt c11236; have t0 : (0 : Int32).toInt = 0 := (by decide); have t6 : (6 : Int32).toInt = 6 := (by decide); have t5 : (5 : Int32).toInt = 5 := (by decide); omega)
    · exact False.elim (by have z0 := kz_nlt c10670; have z1 := kz_nlt c10807; have z2 := kz_nlt c11120; have z3 := kz_le c11121; have z4 := kz_nlt c11241; have z5 := kz_nlt c11242; have t0 : (0 : Int32).toInt = 0 := (by decide); have t6 : (6 : Int32).toInt = 6 := (by decide); have t5 : (5 : Int32).toInt = 5 := (by decide); omega)
set_option maxHeartbeats 4000000 in
set_option maxRecDepth 100000 in
theorem law_blame {p : Program} {l : Launch} {e : Env} {s : State} {m : MethodId} {below : List Frame} {meth : Method} {c : Code} {b : Nat} {xs : Nat → Int32} {D : va_G} {A : Nat → Prop} {e5970 : ClassId} {e6040 : ClassId} {e6132 : ClassId} {e6151 : ClassId} {q5961 : Nat} {q5963 : Nat} {q5964 : Nat} {q5965 : Nat} {q5966 : Nat} {q5967 : Nat} {q5968 : Nat} {q5969 : Nat} {q5971 : Nat} {q5972 : Nat} {q5973 : Nat} {q5974 : Nat} {q5975 : Nat} {q5976 : Nat} {q5977 : Nat} {q5978 : Nat} {q5979 : Nat} {q5980 : Nat} {q5981 : Nat} {q5982 : Nat} {q6010 : Nat} {q6011 : Nat} {q6012 : Nat} {q6013 : Nat} {q6014 : Nat} {q6015 : Nat} {q6016 : Nat} {q6017 : Nat} {q6041 : Nat} {q6042 : Nat} {q6104 : Nat} {q6106 : Nat} {q6107 : Nat} {q6108 : Nat} {q6109 : Nat} {q6110 : Nat} {q6111 : Nat} {q6112 : Nat} {q6113 : Nat} {q6114 : Nat} {q6115 : Nat} {q6116 : Nat} {q6117 : Nat} {q6118 : Nat} {q6119 : Nat} {q6120 : Nat} {q6121 : Nat} {q6122 : Nat} {q6123 : Nat} {q6124 : Nat} {q6125 : Nat} {q6126 : Nat} {q6127 : Nat} {q6128 : Nat} {q6129 : Nat} {q6130 : Nat} {y1 : Int32} (hy1 : xs 1 = y1) {y2 : Int32} (hy2 : xs 2 = y2) {H : Heap} {locs : List Loc} {ls : Array Slot} (C : CallFix p m c cL_law 4 s #[Value.ref b] gG RL) (aks : aK s) (hX : va_X b 6 xs s s.heap) (hbl : b < s.heap.size) (hbA : ¬ A b) (hrt : meth.sig.returnType = ret) (hlocks : meth.locks = false) (hAe : A = fun q => s.heap.size ≤ q) (tail : (∀ (H : Heap) (locs : List Loc) (ls : Array Slot), wX D [] s [] H A s.heap locs → lv_has ls 4 [(3, .int 0), (0, .ref b)] → W p l e room_1 s m #[Value.ref b] below meth c H locs 271 91330 (lw_Z below #[Value.ref b] s) (F0 m 801 ls []))) (Wd : wX D [(e5970, .object RX8), (e6040, .int), (e6132, .int), (e6151, .int)] s [(q5961, .inr (11, [.ref q5963, .int 0, .ref q5964, .ref q5965, .ref q5966, .ref q5967, .ref q5968, .ref q5969])), (q5963, .inl (e5970, 6, .inr (.inr (.inr (.inr (va_up (va_up (va_up (va_up (va_up (va_up (fun _ => none) 0 (some q5971)) 1 (some q5972)) 2 (some q5973)) 3 (some q5974)) 4 (some q5975)) 5 (some q5976))))))), (q5971, .inr (8, [.ref q5977, .int 0])), (q5972, .inr (8, [.ref q5978, .int 0])), (q5973, .inr (8, [.ref q5979, .int 0])), (q5974, .inr (8, [.ref q5980, .int 0])), (q5975, .inr (8, [.ref q5981, .int 0])), (q5976, .inr (8, [.ref q5982, .int 0])), (q5968, .inr (4, [.ref q6010, .ref q6011, .ref q6012, .int (-1), .int (-1), .ref q6013, .ref q6014, .ref q6015, .ref q6016, .ref q6017])), (q6015, .inl (e6040, 6, .inl (fun _ => 0))), (q6011, .inr (8, [.ref q6041, .int 0])), (q6012, .inr (8, [.ref q6042, .int 0])), (q6104, .inr (12, [.ref q6106, .ref q6107, .ref q6108, .ref q6109, .int 0, .int 0, .ref q6110, .int 0, .int 0, .int 0, .int 0, .int 0, .int 0, .int 0, .int 0, .int 0, .int 0, .int 0, .int 0, .int 0, .int (-1), .int 0, .int 0, .int 0, .ref q6111, .ref q6112, .ref q6113, .ref q6114, .ref q6115, .ref q6116, .int 0, .int 0, .int 0, .int 0, .ref q6117, .ref q6118, .ref q6119, .int 0, .int 0, .int 0, .int 0, .ref q6120, .ref q6121, .int 0, .ref q6122, .ref q6123, .int 0, .ref q6124, .int 0, .ref q6125, .ref q6126, .ref q6127, .int 0, .ref q6128, .ref q6129, .ref q6130])), (q6107, .inl (e6132, 6, .inl (fun _ => 0))), (q6126, .inl (e6151, 6, .inl (fun _ => 0)))] H A s.heap locs) (hl : lv_has ls 4 [(3, .int 0), (2, .ref q6104), (1, .ref q5961), (0, .ref b)]) : W p l e room_1 s m #[Value.ref b] below meth c H locs 271 91330 (lw_Z below #[Value.ref b] s) (F0 m 649 ls []) := by
  by_cases c11248 : y1 < 0
  · refine lv_aload_n C.1 C.2.1 dL_law_649 rfl (lv_at hl 2 rfl) ?_
    refine lv_aload_n C.1 C.2.1 dL_law_650 rfl (lv_at hl 3 rfl) ?_
    refine lv_iload_n C.1 C.2.1 dL_law_651 rfl (lv_at hl 0 rfl) ?_
    refine lv_iconst (v := 1) C.1 C.2.1 dL_law_652 (by decide) ?_
    refine k_iadd (v := 1) C (by decide) dL_law_653 ?_
    refine k_sld (v := y1) C hX hbl hbA Wd (vp_in_iff.mpr (by decide)) hy1 dL_law_654 ?_
    refine lv_aload_n C.1 C.2.1 dL_law_655 rfl (lv_at hl 3 rfl) ?_
    refine lv_iload_n C.1 C.2.1 dL_law_656 rfl (lv_at hl 0 rfl) ?_
    refine lv_iconst (v := 2) C.1 C.2.1 dL_law_657 (by decide) ?_
    refine k_iadd (v := 2) C (by decide) dL_law_658 ?_
    refine k_sld (v := y2) C hX hbl hbA Wd (vp_in_iff.mpr (by decide)) hy2 dL_law_659 ?_
    refine k_pi (k_runV (rest := []) C aks Wd cs_L_81 (kcX11_blame l D q5961 q5963 q5964 q5965 q5966 q5967 q5968 q5969 y1 y2 (va_up (va_up (va_up (va_up (va_up (va_up (fun _ => none) 0 (some q5971)) 1 (some q5972)) 2 (some q5973)) 3 (some q5974)) 4 (some q5975)) 5 (some q5976)) e5970 _ c11248) [0, 1] rfl (by decide) [0] rfl 0 11 rfl rfl rfl rfl rfl ⟨(Nat.le_of_ble_eq_true rfl), (Nat.le_of_ble_eq_true rfl)⟩ hl.1 rfl rfl (Nat.le_of_ble_eq_true rfl) ⟨(Nat.le_of_ble_eq_true rfl), (Nat.le_of_ble_eq_true rfl)⟩ dL_law_660) (fun r w11249 => ?_)
    obtain ⟨c11250, rfl⟩ := w11249
    refine lv_aload_n C.1 C.2.1 dL_law_663 rfl (lv_at hl 1 rfl) ?_
    refine lv_aload_n C.1 C.2.1 dL_law_664 rfl (lv_at hl 3 rfl) ?_
    refine lv_iload_n C.1 C.2.1 dL_law_665 rfl (lv_at hl 0 rfl) ?_
    refine lv_iconst (v := 1) C.1 C.2.1 dL_law_666 (by decide) ?_
    refine k_iadd (v := 1) C (by decide) dL_law_667 ?_
    refine k_sld (v := y1) C hX hbl hbA Wd (vp_in_iff.mpr (by decide)) hy1 dL_law_668 ?_
    refine lv_aload_n C.1 C.2.1 dL_law_669 rfl (lv_at hl 3 rfl) ?_
    refine lv_iload_n C.1 C.2.1 dL_law_670 rfl (lv_at hl 0 rfl) ?_
    refine lv_iconst (v := 2) C.1 C.2.1 dL_law_671 (by decide) ?_
    refine k_iadd (v := 2) C (by decide) dL_law_672 ?_
    refine k_sld (v := y2) C hX hbl hbA Wd (vp_in_iff.mpr (by decide)) hy2 dL_law_673 ?_
    refine k_ci Wd [12, 13, 14] [0, 1, 2, 3, 4, 5, 6, 7, 8, 9, 10, 11] rfl (wr := [(q5961, .inr (11, [.ref q5963, .int 0, .ref q5964, .ref q5965, .ref q5966, .ref q5967, .ref q5968, .ref q5969])), (q5963, .inl (e5970, 6, .inr (.inr (.inr (.inr (va_up (va_up (va_up (va_up (va_up (va_up (fun _ => none) 0 (some q5971)) 1 (some q5972)) 2 (some q5973)) 3 (some q5974)) 4 (some q5975)) 5 (some q5976))))))), (q5971, .inr (8, [.ref q5977, .int 0])), (q5972, .inr (8, [.ref q5978, .int 0])), (q5973, .inr (8, [.ref q5979, .int 0])), (q5974, .inr (8, [.ref q5980, .int 0])), (q5975, .inr (8, [.ref q5981, .int 0])), (q5976, .inr (8, [.ref q5982, .int 0])), (q5968, .inr (4, [.ref q6010, .ref q6011, .ref q6012, .int (-1), .int (-1), .ref q6013, .ref q6014, .ref q6015, .ref q6016, .ref q6017])), (q6015, .inl (e6040, 6, .inl (fun _ => 0))), (q6011, .inr (8, [.ref q6041, .int 0])), (q6012, .inr (8, [.ref q6042, .int 0]))]) rfl (by decide) (by decide) (cells' := 271) (slots' := 91330) (by decide) (by decide) (k_runV (rest := [.int (-1)]) C aks Wd cs_L_84 (kcX12_blame l D q6104 q6106 q6107 q6108 q6109 q6110 q6111 q6112 q6113 q6114 q6115 q6116 q6117 q6118 q6119 q6120 q6121 q6122 q6123 q6124 q6125 q6126 q6127 q6128 q6129 q6130 y1 y2 e6132 e6151 _ ) [12, 13, 14] rfl (by decide) [2, 3] rfl 12 12 rfl rfl rfl rfl rfl ⟨(Nat.le_of_ble_eq_true rfl), (Nat.le_of_ble_eq_true rfl)⟩ hl.1 rfl rfl (Nat.le_of_ble_eq_true rfl) ⟨(Nat.le_of_ble_eq_true rfl), (Nat.le_of_ble_eq_true rfl)⟩ dL_law_674) (fun r _ H locs w11251 Wd => ?_)
    have Wd : wX D [(e5970, .object RX8), (e6040, .int), (e6132, .int), (e6151, .int)] s [(q5961, .inr (11, [.ref q5963, .int 0, .ref q5964, .ref q5965, .ref q5966, .ref q5967, .ref q5968, .ref q5969])), (q5963, .inl (e5970, 6, .inr (.inr (.inr (.inr (va_up (va_up (va_up (va_up (va_up (va_up (fun _ => none) 0 (some q5971)) 1 (some q5972)) 2 (some q5973)) 3 (some q5974)) 4 (some q5975)) 5 (some q5976))))))), (q5971, .inr (8, [.ref q5977, .int 0])), (q5972, .inr (8, [.ref q5978, .int 0])), (q5973, .inr (8, [.ref q5979, .int 0])), (q5974, .inr (8, [.ref q5980, .int 0])), (q5975, .inr (8, [.ref q5981, .int 0])), (q5976, .inr (8, [.ref q5982, .int 0])), (q5968, .inr (4, [.ref q6010, .ref q6011, .ref q6012, .int (-1), .int (-1), .ref q6013, .ref q6014, .ref q6015, .ref q6016, .ref q6017])), (q6015, .inl (e6040, 6, .inl (fun _ => 0))), (q6011, .inr (8, [.ref q6041, .int 0])), (q6012, .inr (8, [.ref q6042, .int 0]))] _ A s.heap _ := Wd
    rcases w11251 with ⟨c11252, rfl⟩ | ⟨c11253, c11254, rfl⟩ | ⟨c11255, c11256, c11257, rfl⟩ | ⟨c11258, c11259, c11260, c11261, rfl⟩ | ⟨c11262, c11263, c11264, c11265, rfl⟩
    · refine lv_icmp_eq (tgt := 801) C.1 C.2.1 dL_law_677 (by decide) (fun _ => ?_) (fun c11266 => absurd c11266 (by decide))
      exact tail _ _ _ (k_sub Wd [] rfl (by decide) [] rfl) (lv_sub hl [0, 3] rfl)
    · exact absurd c11248 c11253
    · exact absurd c11248 c11255
    · exact absurd c11248 c11258
    · exact absurd c11248 c11262
  by_cases c11267 : y1 < 6
  · have hsel : ∃ (q11268 q11269 : Nat), (va_up (va_up (va_up (va_up (va_up (va_up (fun _ => none) 0 (some q5971)) 1 (some q5972)) 2 (some q5973)) 3 (some q5974)) 4 (some q5975)) 5 (some q5976)) y1.toNatClampNeg = some q11268 ∧ wX D [(e5970, .object RX8), (e6040, .int), (e6132, .int), (e6151, .int)] s [(q5961, .inr (11, [.ref q5963, .int 0, .ref q5964, .ref q5965, .ref q5966, .ref q5967, .ref q5968, .ref q5969])), (q5963, .inl (e5970, 6, .inr (.inr (.inr (.inr (va_up (va_up (va_up (va_up (va_up (va_up (fun _ => none) 0 (some q5971)) 1 (some q5972)) 2 (some q5973)) 3 (some q5974)) 4 (some q5975)) 5 (some q5976))))))), (q5968, .inr (4, [.ref q6010, .ref q6011, .ref q6012, .int (-1), .int (-1), .ref q6013, .ref q6014, .ref q6015, .ref q6016, .ref q6017])), (q6015, .inl (e6040, 6, .inl (fun _ => 0))), (q6011, .inr (8, [.ref q6041, .int 0])), (q6012, .inr (8, [.ref q6042, .int 0])), (q6104, .inr (12, [.ref q6106, .ref q6107, .ref q6108, .ref q6109, .int 0, .int 0, .ref q6110, .int 0, .int 0, .int 0, .int 0, .int 0, .int 0, .int 0, .int 0, .int 0, .int 0, .int 0, .int 0, .int 0, .int (-1), .int 0, .int 0, .int 0, .ref q6111, .ref q6112, .ref q6113, .ref q6114, .ref q6115, .ref q6116, .int 0, .int 0, .int 0, .int 0, .ref q6117, .ref q6118, .ref q6119, .int 0, .int 0, .int 0, .int 0, .ref q6120, .ref q6121, .int 0, .ref q6122, .ref q6123, .int 0, .ref q6124, .int 0, .ref q6125, .ref q6126, .ref q6127, .int 0, .ref q6128, .ref q6129, .ref q6130])), (q6107, .inl (e6132, 6, .inl (fun _ => 0))), (q6126, .inl (e6151, 6, .inl (fun _ => 0))), (q11268, .inr (8, [.ref q11269, .int 0]))] H A s.heap locs := by
      rcases kf6 c11248 c11267 with rfl | rfl | rfl | rfl | rfl | rfl
      · exact ⟨q5971, q5977, rfl, k_sub Wd [0, 1, 8, 9, 10, 11, 12, 13, 14, 2] rfl (by decide) [0, 1, 2, 3] rfl⟩
      · exact ⟨q5972, q5978, rfl, k_sub Wd [0, 1, 8, 9, 10, 11, 12, 13, 14, 3] rfl (by decide) [0, 1, 2, 3] rfl⟩
      · exact ⟨q5973, q5979, rfl, k_sub Wd [0, 1, 8, 9, 10, 11, 12, 13, 14, 4] rfl (by decide) [0, 1, 2, 3] rfl⟩
      · exact ⟨q5974, q5980, rfl, k_sub Wd [0, 1, 8, 9, 10, 11, 12, 13, 14, 5] rfl (by decide) [0, 1, 2, 3] rfl⟩
      · exact ⟨q5975, q5981, rfl, k_sub Wd [0, 1, 8, 9, 10, 11, 12, 13, 14, 6] rfl (by decide) [0, 1, 2, 3] rfl⟩
      · exact ⟨q5976, q5982, rfl, k_sub Wd [0, 1, 8, 9, 10, 11, 12, 13, 14, 7] rfl (by decide) [0, 1, 2, 3] rfl⟩
    obtain ⟨q11268, q11269, hk11270, Wd⟩ := hsel
    refine lv_aload_n C.1 C.2.1 dL_law_649 rfl (lv_at hl 2 rfl) ?_
    refine lv_aload_n C.1 C.2.1 dL_law_650 rfl (lv_at hl 3 rfl) ?_
    refine lv_iload_n C.1 C.2.1 dL_law_651 rfl (lv_at hl 0 rfl) ?_
    refine lv_iconst (v := 1) C.1 C.2.1 dL_law_652 (by decide) ?_
    refine k_iadd (v := 1) C (by decide) dL_law_653 ?_
    refine k_sld (v := y1) C hX hbl hbA Wd (vp_in_iff.mpr (by decide)) hy1 dL_law_654 ?_
    refine lv_aload_n C.1 C.2.1 dL_law_655 rfl (lv_at hl 3 rfl) ?_
    refine lv_iload_n C.1 C.2.1 dL_law_656 rfl (lv_at hl 0 rfl) ?_
    refine lv_iconst (v := 2) C.1 C.2.1 dL_law_657 (by decide) ?_
    refine k_iadd (v := 2) C (by decide) dL_law_658 ?_
    refine k_sld (v := y2) C hX hbl hbA Wd (vp_in_iff.mpr (by decide)) hy2 dL_law_659 ?_
    refine k_ci Wd [0, 1, 2, 9, 5, 4, 3] [6, 7, 8] rfl (wr := [(q6104, .inr (12, [.ref q6106, .ref q6107, .ref q6108, .ref q6109, .int 0, .int 0, .ref q6110, .int 0, .int 0, .int 0, .int 0, .int 0, .int 0, .int 0, .int 0, .int 0, .int 0, .int 0, .int 0, .int 0, .int (-1), .int 0, .int 0, .int 0, .ref q6111, .ref q6112, .ref q6113, .ref q6114, .ref q6115, .ref q6116, .int 0, .int 0, .int 0, .int 0, .ref q6117, .ref q6118, .ref q6119, .int 0, .int 0, .int 0, .int 0, .ref q6120, .ref q6121, .int 0, .ref q6122, .ref q6123, .int 0, .ref q6124, .int 0, .ref q6125, .ref q6126, .ref q6127, .int 0, .ref q6128, .ref q6129, .ref q6130])), (q6107, .inl (e6132, 6, .inl (fun _ => 0))), (q6126, .inl (e6151, 6, .inl (fun _ => 0)))]) rfl (by decide) (by decide) (cells' := 271) (slots' := 91330) (by decide) (by decide) (k_runV (rest := []) C aks Wd cs_L_81 (kcX11_blame_v2 l D q5961 q5963 q5964 q5965 q5966 q5967 q5968 q5969 q11268 q6010 q6011 q6012 q6013 q6014 q6015 q6016 q6017 q11269 q6041 q6042 y1 y2 (va_up (va_up (va_up (va_up (va_up (va_up (fun _ => none) 0 (some q5971)) 1 (some q5972)) 2 (some q5973)) 3 (some q5974)) 4 (some q5975)) 5 (some q5976)) e5970 e6040 _ hk11270 c11248 c11267) [0, 1, 2, 9, 5, 4, 3] rfl (by decide) [0, 1] rfl 0 11 rfl rfl rfl rfl rfl ⟨(Nat.le_of_ble_eq_true rfl), (Nat.le_of_ble_eq_true rfl)⟩ hl.1 rfl rfl (Nat.le_of_ble_eq_true rfl) ⟨(Nat.le_of_ble_eq_true rfl), (Nat.le_of_ble_eq_true rfl)⟩ dL_law_660) (fun r _ H locs w11271 Wd => ?_)
    have Wd : wX D [(e5970, .object RX8), (e6040, .int), (e6132, .int), (e6151, .int)] s [(q6104, .inr (12, [.ref q6106, .ref q6107, .ref q6108, .ref q6109, .int 0, .int 0, .ref q6110, .int 0, .int 0, .int 0, .int 0, .int 0, .int 0, .int 0, .int 0, .int 0, .int 0, .int 0, .int 0, .int 0, .int (-1), .int 0, .int 0, .int 0, .ref q6111, .ref q6112, .ref q6113, .ref q6114, .ref q6115, .ref q6116, .int 0, .int 0, .int 0, .int 0, .ref q6117, .ref q6118, .ref q6119, .int 0, .int 0, .int 0, .int 0, .ref q6120, .ref q6121, .int 0, .ref q6122, .ref q6123, .int 0, .ref q6124, .int 0, .ref q6125, .ref q6126, .ref q6127, .int 0, .ref q6128, .ref q6129, .ref q6130])), (q6107, .inl (e6132, 6, .inl (fun _ => 0))), (q6126, .inl (e6151, 6, .inl (fun _ => 0)))] _ A s.heap _ := Wd
    rcases w11271 with ⟨c11272, c11273, c11274, rfl⟩ | ⟨c11275, c11276, c11277, c11278, c11279, rfl⟩ | ⟨c11280, c11281, c11282, c11283, c11284, rfl⟩ | ⟨c11285, c11286, c11287, c11288, rfl⟩
    · refine lv_aload_n C.1 C.2.1 dL_law_663 rfl (lv_at hl 1 rfl) ?_
      refine lv_aload_n C.1 C.2.1 dL_law_664 rfl (lv_at hl 3 rfl) ?_
      refine lv_iload_n C.1 C.2.1 dL_law_665 rfl (lv_at hl 0 rfl) ?_
      refine lv_iconst (v := 1) C.1 C.2.1 dL_law_666 (by decide) ?_
      refine k_iadd (v := 1) C (by decide) dL_law_667 ?_
      refine k_sld (v := y1) C hX hbl hbA Wd (vp_in_iff.mpr (by decide)) hy1 dL_law_668 ?_
      refine lv_aload_n C.1 C.2.1 dL_law_669 rfl (lv_at hl 3 rfl) ?_
      refine lv_iload_n C.1 C.2.1 dL_law_670 rfl (lv_at hl 0 rfl) ?_
      refine lv_iconst (v := 2) C.1 C.2.1 dL_law_671 (by decide) ?_
      refine k_iadd (v := 2) C (by decide) dL_law_672 ?_
      refine k_sld (v := y2) C hX hbl hbA Wd (vp_in_iff.mpr (by decide)) hy2 dL_law_673 ?_
      refine k_ci Wd [0, 1, 2] [] rfl (wr := []) rfl (by decide) (by decide) (cells' := 271) (slots' := 91330) (by decide) (by decide) (k_runV (rest := [.int (-1)]) C aks Wd cs_L_84 (kcX12_blame l D q6104 q6106 q6107 q6108 q6109 q6110 q6111 q6112 q6113 q6114 q6115 q6116 q6117 q6118 q6119 q6120 q6121 q6122 q6123 q6124 q6125 q6126 q6127 q6128 q6129 q6130 y1 y2 e6132 e6151 _ ) [0, 1, 2] rfl (by decide) [2, 3] rfl 0 12 rfl rfl rfl rfl rfl ⟨(Nat.le_of_ble_eq_true rfl), (Nat.le_of_ble_eq_true rfl)⟩ hl.1 rfl rfl (Nat.le_of_ble_eq_true rfl) ⟨(Nat.le_of_ble_eq_true rfl), (Nat.le_of_ble_eq_true rfl)⟩ dL_law_674) (fun r _ H locs w11289 Wd => ?_)
      have Wd : wX D [(e5970, .object RX8), (e6040, .int), (e6132, .int), (e6151, .int)] s [] _ A s.heap _ := Wd
      rcases w11289 with ⟨c11290, rfl⟩ | ⟨c11291, c11292, rfl⟩ | ⟨c11293, c11294, c11295, rfl⟩ | ⟨c11296, c11297, c11298, c11299, rfl⟩ | ⟨c11300, c11301, c11302, c11303, rfl⟩
      · exact absurd c11290 c11248
      · exact False.elim (by have z0 := kz_nlt c11248; have z1 := kz_lt c11267; have z2 := kz_nlt c11272; have z3 := kz_nle c11273; have z4 := kz_nlt c11291; have z5 := kz_lt c11292; have t0 : (0 : Int32).toInt = 0 := (by decide); have t6 : (6 : Int32).toInt = 6 := (by decide); have t5 : (5 : Int32).toInt = 5 := (by decide); omega)
      · refine lv_icmp_eq (tgt := 801) C.1 C.2.1 dL_law_677 (by decide) (fun _ => ?_) (fun c11304 => absurd c11304 (by decide))
        exact tail _ _ _ (k_sub Wd [] rfl (by decide) [] rfl) (lv_sub hl [0, 3] rfl)
      · exact absurd c11274 c11298
      · exact absurd c11274 c11302
    · refine lv_aload_n C.1 C.2.1 dL_law_663 rfl (lv_at hl 1 rfl) ?_
      refine lv_aload_n C.1 C.2.1 dL_law_664 rfl (lv_at hl 3 rfl) ?_
      refine lv_iload_n C.1 C.2.1 dL_law_665 rfl (lv_at hl 0 rfl) ?_
      refine lv_iconst (v := 1) C.1 C.2.1 dL_law_666 (by decide) ?_
      refine k_iadd (v := 1) C (by decide) dL_law_667 ?_
      refine k_sld (v := y1) C hX hbl hbA Wd (vp_in_iff.mpr (by decide)) hy1 dL_law_668 ?_
      refine lv_aload_n C.1 C.2.1 dL_law_669 rfl (lv_at hl 3 rfl) ?_
      refine lv_iload_n C.1 C.2.1 dL_law_670 rfl (lv_at hl 0 rfl) ?_
      refine lv_iconst (v := 2) C.1 C.2.1 dL_law_671 (by decide) ?_
      refine k_iadd (v := 2) C (by decide) dL_law_672 ?_
      refine k_sld (v := y2) C hX hbl hbA Wd (vp_in_iff.mpr (by decide)) hy2 dL_law_673 ?_
      refine k_ci Wd [0, 1, 2] [] rfl (wr := []) rfl (by decide) (by decide) (cells' := 271) (slots' := 91330) (by decide) (by decide) (k_runV (rest := [.int (-1)]) C aks Wd cs_L_84 (kcX12_blame l D q6104 q6106 q6107 q6108 q6109 q6110 q6111 q6112 q6113 q6114 q6115 q6116 q6117 q6118 q6119 q6120 q6121 q6122 q6123 q6124 q6125 q6126 q6127 q6128 q6129 q6130 y1 y2 e6132 e6151 _ ) [0, 1, 2] rfl (by decide) [2, 3] rfl 0 12 rfl rfl rfl rfl rfl ⟨(Nat.le_of_ble_eq_true rfl), (Nat.le_of_ble_eq_true rfl)⟩ hl.1 rfl rfl (Nat.le_of_ble_eq_true rfl) ⟨(Nat.le_of_ble_eq_true rfl), (Nat.le_of_ble_eq_true rfl)⟩ dL_law_674) (fun r _ H locs w11305 Wd => ?_)
      have Wd : wX D [(e5970, .object RX8), (e6040, .int), (e6132, .int), (e6151, .int)] s [] _ A s.heap _ := Wd
      rcases w11305 with ⟨c11306, rfl⟩ | ⟨c11307, c11308, rfl⟩ | ⟨c11309, c11310, c11311, rfl⟩ | ⟨c11312, c11313, c11314, c11315, rfl⟩ | ⟨c11316, c11317, c11318, c11319, rfl⟩
      · exact absurd c11306 c11248
      · exact False.elim (by have z0 := kz_nlt c11248; have z1 := kz_lt c11267; have z2 := kz_nlt c11275; have z3 := kz_nle c11276; have z4 := kz_nlt c11307; have z5 := kz_lt c11308; have t0 : (0 : Int32).toInt = 0 := (by decide); have t6 : (6 : Int32).toInt = 6 := (by decide); have t5 : (5 : Int32).toInt = 5 := (by decide); omega)
      · exact absurd c11311 c11277
      · exact False.elim (by have z0 := kz_nlt c11277; have z1 := kz_le c11278; have z2 := kz_ne c11279; have z3 := kz_nlt c11314; have z4 := kz_lt c11315; have t0 : (0 : Int32).toInt = 0 := (by decide); have t1 : (1 : Int32).toInt = 1 := (by decide); omega)
      · refine lv_icmp_eq (tgt := 801) C.1 C.2.1 dL_law_677 (by decide) (fun _ => ?_) (fun c11320 => absurd c11320 (by decide))
        exact tail _ _ _ (k_sub Wd [] rfl (by decide) [] rfl) (lv_sub hl [0, 3] rfl)
    · refine lv_aload_n C.1 C.2.1 dL_law_663 rfl (lv_at hl 1 rfl) ?_
      refine lv_aload_n C.1 C.2.1 dL_law_664 rfl (lv_at hl 3 rfl) ?_
      refine lv_iload_n C.1 C.2.1 dL_law_665 rfl (lv_at hl 0 rfl) ?_
      refine lv_iconst (v := 1) C.1 C.2.1 dL_law_666 (by decide) ?_
      refine k_iadd (v := 1) C (by decide) dL_law_667 ?_
      refine k_sld (v := y1) C hX hbl hbA Wd (vp_in_iff.mpr (by decide)) hy1 dL_law_668 ?_
      refine lv_aload_n C.1 C.2.1 dL_law_669 rfl (lv_at hl 3 rfl) ?_
      refine lv_iload_n C.1 C.2.1 dL_law_670 rfl (lv_at hl 0 rfl) ?_
      refine lv_iconst (v := 2) C.1 C.2.1 dL_law_671 (by decide) ?_
      refine k_iadd (v := 2) C (by decide) dL_law_672 ?_
      refine k_sld (v := y2) C hX hbl hbA Wd (vp_in_iff.mpr (by decide)) hy2 dL_law_673 ?_
      refine k_ci Wd [0, 1, 2] [] rfl (wr := []) rfl (by decide) (by decide) (cells' := 271) (slots' := 91330) (by decide) (by decide) (k_runV (rest := [.int (-1)]) C aks Wd cs_L_84 (kcX12_blame l D q6104 q6106 q6107 q6108 q6109 q6110 q6111 q6112 q6113 q6114 q6115 q6116 q6117 q6118 q6119 q6120 q6121 q6122 q6123 q6124 q6125 q6126 q6127 q6128 q6129 q6130 y1 y2 e6132 e6151 _ ) [0, 1, 2] rfl (by decide) [2, 3] rfl 0 12 rfl rfl rfl rfl rfl ⟨(Nat.le_of_ble_eq_true rfl), (Nat.le_of_ble_eq_true rfl)⟩ hl.1 rfl rfl (Nat.le_of_ble_eq_true rfl) ⟨(Nat.le_of_ble_eq_true rfl), (Nat.le_of_ble_eq_true rfl)⟩ dL_law_674) (fun r _ H locs w11321 Wd => ?_)
      have Wd : wX D [(e5970, .object RX8), (e6040, .int), (e6132, .int), (e6151, .int)] s [] _ A s.heap _ := Wd
      rcases w11321 with ⟨c11322, rfl⟩ | ⟨c11323, c11324, rfl⟩ | ⟨c11325, c11326, c11327, rfl⟩ | ⟨c11328, c11329, c11330, c11331, rfl⟩ | ⟨c11332, c11333, c11334, c11335, rfl⟩
      · exact absurd c11322 c11248
      · exact False.elim (by have z0 := kz_nlt c11248; have z1 := kz_lt c11267; have z2 := kz_nlt c11280; have z3 := kz_nle c11281; have z4 := kz_nlt c11323; have z5 := kz_lt c11324; have t0 : (0 : Int32).toInt = 0 := (by decide); have t6 : (6 : Int32).toInt = 6 := (by decide); have t5 : (5 : Int32).toInt = 5 := (by decide); omega)
      · exact absurd c11327 c11282
      · exact False.elim (by have z0 := kz_nlt c11282; have z1 := kz_le c11283; have z2 := kz_eq c11284; have z3 := kz_nlt c11330; have z4 := kz_lt c11331; have t0 : (0 : Int32).toInt = 0 := (by decide); have t1 : (1 : Int32).toInt = 1 := (by decide); omega)
      · refine lv_icmp_eq (tgt := 801) C.1 C.2.1 dL_law_677 (by decide) (fun _ => ?_) (fun c11336 => absurd c11336 (by decide))
        exact tail _ _ _ (k_sub Wd [] rfl (by decide) [] rfl) (lv_sub hl [0, 3] rfl)
    · refine lv_aload_n C.1 C.2.1 dL_law_663 rfl (lv_at hl 1 rfl) ?_
      refine lv_aload_n C.1 C.2.1 dL_law_664 rfl (lv_at hl 3 rfl) ?_
      refine lv_iload_n C.1 C.2.1 dL_law_665 rfl (lv_at hl 0 rfl) ?_
      refine lv_iconst (v := 1) C.1 C.2.1 dL_law_666 (by decide) ?_
      refine k_iadd (v := 1) C (by decide) dL_law_667 ?_
      refine k_sld (v := y1) C hX hbl hbA Wd (vp_in_iff.mpr (by decide)) hy1 dL_law_668 ?_
      refine lv_aload_n C.1 C.2.1 dL_law_669 rfl (lv_at hl 3 rfl) ?_
      refine lv_iload_n C.1 C.2.1 dL_law_670 rfl (lv_at hl 0 rfl) ?_
      refine lv_iconst (v := 2) C.1 C.2.1 dL_law_671 (by decide) ?_
      refine k_iadd (v := 2) C (by decide) dL_law_672 ?_
      refine k_sld (v := y2) C hX hbl hbA Wd (vp_in_iff.mpr (by decide)) hy2 dL_law_673 ?_
      refine k_ci Wd [0, 1, 2] [] rfl (wr := []) rfl (by decide) (by decide) (cells' := 271) (slots' := 91330) (by decide) (by decide) (k_runV (rest := [.int (-1)]) C aks Wd cs_L_84 (kcX12_blame l D q6104 q6106 q6107 q6108 q6109 q6110 q6111 q6112 q6113 q6114 q6115 q6116 q6117 q6118 q6119 q6120 q6121 q6122 q6123 q6124 q6125 q6126 q6127 q6128 q6129 q6130 y1 y2 e6132 e6151 _ ) [0, 1, 2] rfl (by decide) [2, 3] rfl 0 12 rfl rfl rfl rfl rfl ⟨(Nat.le_of_ble_eq_true rfl), (Nat.le_of_ble_eq_true rfl)⟩ hl.1 rfl rfl (Nat.le_of_ble_eq_true rfl) ⟨(Nat.le_of_ble_eq_true rfl), (Nat.le_of_ble_eq_true rfl)⟩ dL_law_674) (fun r _ H locs w11337 Wd => ?_)
      have Wd : wX D [(e5970, .object RX8), (e6040, .int), (e6132, .int), (e6151, .int)] s [] _ A s.heap _ := Wd
      rcases w11337 with ⟨c11338, rfl⟩ | ⟨c11339, c11340, rfl⟩ | ⟨c11341, c11342, c11343, rfl⟩ | ⟨c11344, c11345, c11346, c11347, rfl⟩ | ⟨c11348, c11349, c11350, c11351, rfl⟩
      · exact absurd c11338 c11248
      · exact False.elim (by have z0 := kz_nlt c11248; have z1 := kz_lt c11267; have z2 := kz_nlt c11285; have z3 := kz_nle c11286; have z4 := kz_nlt c11339; have z5 := kz_lt c11340; have t0 : (0 : Int32).toInt = 0 := (by decide); have t6 : (6 : Int32).toInt = 6 := (by decide); have t5 : (5 : Int32).toInt = 5 := (by decide); omega)
      · exact absurd c11343 c11287
      · refine lv_icmp_eq (tgt := 801) C.1 C.2.1 dL_law_677 (by decide) (fun _ => ?_) (fun c11352 => absurd c11352 (by decide))
        exact tail _ _ _ (k_sub Wd [] rfl (by decide) [] rfl) (lv_sub hl [0, 3] rfl)
      · exact False.elim (by have z0 := kz_nlt c11287; have z1 := kz_nle c11288; have z2 := kz_nlt c11350; have z3 := kz_nlt c11351; have t0 : (0 : Int32).toInt = 0 := (by decide); have t1 : (1 : Int32).toInt = 1 := (by decide); omega)
  refine lv_aload_n C.1 C.2.1 dL_law_649 rfl (lv_at hl 2 rfl) ?_
  refine lv_aload_n C.1 C.2.1 dL_law_650 rfl (lv_at hl 3 rfl) ?_
  refine lv_iload_n C.1 C.2.1 dL_law_651 rfl (lv_at hl 0 rfl) ?_
  refine lv_iconst (v := 1) C.1 C.2.1 dL_law_652 (by decide) ?_
  refine k_iadd (v := 1) C (by decide) dL_law_653 ?_
  refine k_sld (v := y1) C hX hbl hbA Wd (vp_in_iff.mpr (by decide)) hy1 dL_law_654 ?_
  refine lv_aload_n C.1 C.2.1 dL_law_655 rfl (lv_at hl 3 rfl) ?_
  refine lv_iload_n C.1 C.2.1 dL_law_656 rfl (lv_at hl 0 rfl) ?_
  refine lv_iconst (v := 2) C.1 C.2.1 dL_law_657 (by decide) ?_
  refine k_iadd (v := 2) C (by decide) dL_law_658 ?_
  refine k_sld (v := y2) C hX hbl hbA Wd (vp_in_iff.mpr (by decide)) hy2 dL_law_659 ?_
  refine k_pi (k_runV (rest := []) C aks Wd cs_L_81 (kcX11_blame_v1 l D q5961 q5963 q5964 q5965 q5966 q5967 q5968 q5969 y1 y2 (va_up (va_up (va_up (va_up (va_up (va_up (fun _ => none) 0 (some q5971)) 1 (some q5972)) 2 (some q5973)) 3 (some q5974)) 4 (some q5975)) 5 (some q5976)) e5970 _ c11267) [0, 1] rfl (by decide) [0] rfl 0 11 rfl rfl rfl rfl rfl ⟨(Nat.le_of_ble_eq_true rfl), (Nat.le_of_ble_eq_true rfl)⟩ hl.1 rfl rfl (Nat.le_of_ble_eq_true rfl) ⟨(Nat.le_of_ble_eq_true rfl), (Nat.le_of_ble_eq_true rfl)⟩ dL_law_660) (fun r w11353 => ?_)
  obtain ⟨c11354, c11355, rfl⟩ := w11353
  refine lv_aload_n C.1 C.2.1 dL_law_663 rfl (lv_at hl 1 rfl) ?_
  refine lv_aload_n C.1 C.2.1 dL_law_664 rfl (lv_at hl 3 rfl) ?_
  refine lv_iload_n C.1 C.2.1 dL_law_665 rfl (lv_at hl 0 rfl) ?_
  refine lv_iconst (v := 1) C.1 C.2.1 dL_law_666 (by decide) ?_
  refine k_iadd (v := 1) C (by decide) dL_law_667 ?_
  refine k_sld (v := y1) C hX hbl hbA Wd (vp_in_iff.mpr (by decide)) hy1 dL_law_668 ?_
  refine lv_aload_n C.1 C.2.1 dL_law_669 rfl (lv_at hl 3 rfl) ?_
  refine lv_iload_n C.1 C.2.1 dL_law_670 rfl (lv_at hl 0 rfl) ?_
  refine lv_iconst (v := 2) C.1 C.2.1 dL_law_671 (by decide) ?_
  refine k_iadd (v := 2) C (by decide) dL_law_672 ?_
  refine k_sld (v := y2) C hX hbl hbA Wd (vp_in_iff.mpr (by decide)) hy2 dL_law_673 ?_
  refine k_ci Wd [12, 13, 14] [0, 1, 2, 3, 4, 5, 6, 7, 8, 9, 10, 11] rfl (wr := [(q5961, .inr (11, [.ref q5963, .int 0, .ref q5964, .ref q5965, .ref q5966, .ref q5967, .ref q5968, .ref q5969])), (q5963, .inl (e5970, 6, .inr (.inr (.inr (.inr (va_up (va_up (va_up (va_up (va_up (va_up (fun _ => none) 0 (some q5971)) 1 (some q5972)) 2 (some q5973)) 3 (some q5974)) 4 (some q5975)) 5 (some q5976))))))), (q5971, .inr (8, [.ref q5977, .int 0])), (q5972, .inr (8, [.ref q5978, .int 0])), (q5973, .inr (8, [.ref q5979, .int 0])), (q5974, .inr (8, [.ref q5980, .int 0])), (q5975, .inr (8, [.ref q5981, .int 0])), (q5976, .inr (8, [.ref q5982, .int 0])), (q5968, .inr (4, [.ref q6010, .ref q6011, .ref q6012, .int (-1), .int (-1), .ref q6013, .ref q6014, .ref q6015, .ref q6016, .ref q6017])), (q6015, .inl (e6040, 6, .inl (fun _ => 0))), (q6011, .inr (8, [.ref q6041, .int 0])), (q6012, .inr (8, [.ref q6042, .int 0]))]) rfl (by decide) (by decide) (cells' := 271) (slots' := 91330) (by decide) (by decide) (k_runV (rest := [.int (-1)]) C aks Wd cs_L_84 (kcX12_blame l D q6104 q6106 q6107 q6108 q6109 q6110 q6111 q6112 q6113 q6114 q6115 q6116 q6117 q6118 q6119 q6120 q6121 q6122 q6123 q6124 q6125 q6126 q6127 q6128 q6129 q6130 y1 y2 e6132 e6151 _ ) [12, 13, 14] rfl (by decide) [2, 3] rfl 12 12 rfl rfl rfl rfl rfl ⟨(Nat.le_of_ble_eq_true rfl), (Nat.le_of_ble_eq_true rfl)⟩ hl.1 rfl rfl (Nat.le_of_ble_eq_true rfl) ⟨(Nat.le_of_ble_eq_true rfl), (Nat.le_of_ble_eq_true rfl)⟩ dL_law_674) (fun r _ H locs w11356 Wd => ?_)
  have Wd : wX D [(e5970, .object RX8), (e6040, .int), (e6132, .int), (e6151, .int)] s [(q5961, .inr (11, [.ref q5963, .int 0, .ref q5964, .ref q5965, .ref q5966, .ref q5967, .ref q5968, .ref q5969])), (q5963, .inl (e5970, 6, .inr (.inr (.inr (.inr (va_up (va_up (va_up (va_up (va_up (va_up (fun _ => none) 0 (some q5971)) 1 (some q5972)) 2 (some q5973)) 3 (some q5974)) 4 (some q5975)) 5 (some q5976))))))), (q5971, .inr (8, [.ref q5977, .int 0])), (q5972, .inr (8, [.ref q5978, .int 0])), (q5973, .inr (8, [.ref q5979, .int 0])), (q5974, .inr (8, [.ref q5980, .int 0])), (q5975, .inr (8, [.ref q5981, .int 0])), (q5976, .inr (8, [.ref q5982, .int 0])), (q5968, .inr (4, [.ref q6010, .ref q6011, .ref q6012, .int (-1), .int (-1), .ref q6013, .ref q6014, .ref q6015, .ref q6016, .ref q6017])), (q6015, .inl (e6040, 6, .inl (fun _ => 0))), (q6011, .inr (8, [.ref q6041, .int 0])), (q6012, .inr (8, [.ref q6042, .int 0]))] _ A s.heap _ := Wd
  rcases w11356 with ⟨c11357, rfl⟩ | ⟨c11358, c11359, rfl⟩ | ⟨c11360, c11361, c11362, rfl⟩ | ⟨c11363, c11364, c11365, c11366, rfl⟩ | ⟨c11367, c11368, c11369, c11370, rfl⟩
  · exact absurd c11357 c11248
  · refine lv_icmp_eq (tgt := 801) C.1 C.2.1 dL_law_677 (by decide) (fun _ => ?_) (fun c11371 => absurd c11371 (by decide))
    exact tail _ _ _ (k_sub Wd [] rfl (by decide) [] rfl) (lv_sub hl [0, 3] rfl)
  · exact False.elim (by have z0 := kz_nlt c11248; have z1 := kz_nlt c11267; have z2 := kz_nlt c11354; have z3 := kz_le c11355; have z4 := kz_nlt c11360; have z5 := kz_nlt c11361; have t0 : (0 : Int32).toInt = 0 := (by decide); have t6 : (6 : Int32).toInt = 6 := (by decide); have t5 : (5 : Int32).toInt = 5 := (by decide); omega)
  · exact False.elim (by have z0 := kz_nlt c11248; have z1 := kz_nlt c11267; have z2 := kz_nlt c11354; have z3 := kz_le c11355; have z4 := kz_nlt c11363; have z5 := kz_nlt c11364; have t0 : (0 : Int32).toInt = 0 := (by decide); have t6 : (6 : Int32).toInt = 6 := (by decide); have t5 : (5 : Int32).toInt = 5 := (by decide); omega)
  · exact False.elim (by have z0 := kz_nlt c11248; have z1 := kz_nlt c11267; have z2 := kz_nlt c11354; have z3 := kz_le c11355; have z4 := kz_nlt c11367; have z5 := kz_nlt c11368; have t0 : (0 : Int32).toInt = 0 := (by decide); have t6 : (6 : Int32).toInt = 6 := (by decide); have t5 : (5 : Int32).toInt = 5 := (by decide); omega)
set_option maxHeartbeats 4000000 in
set_option maxRecDepth 100000 in
theorem law_cut {p : Program} {l : Launch} {e : Env} {s : State} {m : MethodId} {below : List Frame} {meth : Method} {c : Code} {b : Nat} {xs : Nat → Int32} {D : va_G} {A : Nat → Prop} {e5970 : ClassId} {e6132 : ClassId} {q5961 : Nat} {q5963 : Nat} {q5964 : Nat} {q5965 : Nat} {q5966 : Nat} {q5967 : Nat} {q5968 : Nat} {q5969 : Nat} {q5971 : Nat} {q5972 : Nat} {q5973 : Nat} {q5974 : Nat} {q5975 : Nat} {q5976 : Nat} {q5977 : Nat} {q5978 : Nat} {q5979 : Nat} {q5980 : Nat} {q5981 : Nat} {q5982 : Nat} {q6010 : Nat} {q6011 : Nat} {q6012 : Nat} {q6013 : Nat} {q6014 : Nat} {q6015 : Nat} {q6016 : Nat} {q6017 : Nat} {q6104 : Nat} {q6106 : Nat} {q6107 : Nat} {q6108 : Nat} {q6109 : Nat} {q6110 : Nat} {q6111 : Nat} {q6112 : Nat} {q6113 : Nat} {q6114 : Nat} {q6115 : Nat} {q6116 : Nat} {q6117 : Nat} {q6118 : Nat} {q6119 : Nat} {q6120 : Nat} {q6121 : Nat} {q6122 : Nat} {q6123 : Nat} {q6124 : Nat} {q6125 : Nat} {q6126 : Nat} {q6127 : Nat} {q6128 : Nat} {q6129 : Nat} {q6130 : Nat} {y1 : Int32} (hy1 : xs 1 = y1) {y2 : Int32} (hy2 : xs 2 = y2) {y3 : Int32} (hy3 : xs 3 = y3) {H : Heap} {locs : List Loc} {ls : Array Slot} (C : CallFix p m c cL_law 4 s #[Value.ref b] gG RL) (aks : aK s) (hX : va_X b 6 xs s s.heap) (hbl : b < s.heap.size) (hbA : ¬ A b) (hrt : meth.sig.returnType = ret) (hlocks : meth.locks = false) (hAe : A = fun q => s.heap.size ≤ q) (tail : (∀ (H : Heap) (locs : List Loc) (ls : Array Slot), wX D [] s [] H A s.heap locs → lv_has ls 4 [(3, .int 0), (0, .ref b)] → W p l e room_1 s m #[Value.ref b] below meth c H locs 271 91330 (lw_Z below #[Value.ref b] s) (F0 m 801 ls []))) (Wd : wX D [(e5970, .object RX8), (e6132, .int)] s [(q5961, .inr (11, [.ref q5963, .int 0, .ref q5964, .ref q5965, .ref q5966, .ref q5967, .ref q5968, .ref q5969])), (q5963, .inl (e5970, 6, .inr (.inr (.inr (.inr (va_up (va_up (va_up (va_up (va_up (va_up (fun _ => none) 0 (some q5971)) 1 (some q5972)) 2 (some q5973)) 3 (some q5974)) 4 (some q5975)) 5 (some q5976))))))), (q5971, .inr (8, [.ref q5977, .int 0])), (q5972, .inr (8, [.ref q5978, .int 0])), (q5973, .inr (8, [.ref q5979, .int 0])), (q5974, .inr (8, [.ref q5980, .int 0])), (q5975, .inr (8, [.ref q5981, .int 0])), (q5976, .inr (8, [.ref q5982, .int 0])), (q5968, .inr (4, [.ref q6010, .ref q6011, .ref q6012, .int (-1), .int (-1), .ref q6013, .ref q6014, .ref q6015, .ref q6016, .ref q6017])), (q6104, .inr (12, [.ref q6106, .ref q6107, .ref q6108, .ref q6109, .int 0, .int 0, .ref q6110, .int 0, .int 0, .int 0, .int 0, .int 0, .int 0, .int 0, .int 0, .int 0, .int 0, .int 0, .int 0, .int 0, .int (-1), .int 0, .int 0, .int 0, .ref q6111, .ref q6112, .ref q6113, .ref q6114, .ref q6115, .ref q6116, .int 0, .int 0, .int 0, .int 0, .ref q6117, .ref q6118, .ref q6119, .int 0, .int 0, .int 0, .int 0, .ref q6120, .ref q6121, .int 0, .ref q6122, .ref q6123, .int 0, .ref q6124, .int 0, .ref q6125, .ref q6126, .ref q6127, .int 0, .ref q6128, .ref q6129, .ref q6130])), (q6107, .inl (e6132, 6, .inl (fun _ => 0)))] H A s.heap locs) (hl : lv_has ls 4 [(3, .int 0), (2, .ref q6104), (1, .ref q5961), (0, .ref b)]) : W p l e room_1 s m #[Value.ref b] below meth c H locs 271 91330 (lw_Z below #[Value.ref b] s) (F0 m 682 ls []) := by
  by_cases c11372 : y2 < 0
  · refine lv_aload_n C.1 C.2.1 dL_law_682 rfl (lv_at hl 2 rfl) ?_
    refine lv_aload_n C.1 C.2.1 dL_law_683 rfl (lv_at hl 3 rfl) ?_
    refine lv_iload_n C.1 C.2.1 dL_law_684 rfl (lv_at hl 0 rfl) ?_
    refine lv_iconst (v := 1) C.1 C.2.1 dL_law_685 (by decide) ?_
    refine k_iadd (v := 1) C (by decide) dL_law_686 ?_
    refine k_sld (v := y1) C hX hbl hbA Wd (vp_in_iff.mpr (by decide)) hy1 dL_law_687 ?_
    refine lv_aload_n C.1 C.2.1 dL_law_688 rfl (lv_at hl 3 rfl) ?_
    refine lv_iload_n C.1 C.2.1 dL_law_689 rfl (lv_at hl 0 rfl) ?_
    refine lv_iconst (v := 2) C.1 C.2.1 dL_law_690 (by decide) ?_
    refine k_iadd (v := 2) C (by decide) dL_law_691 ?_
    refine k_sld (v := y2) C hX hbl hbA Wd (vp_in_iff.mpr (by decide)) hy2 dL_law_692 ?_
    refine lv_aload_n C.1 C.2.1 dL_law_693 rfl (lv_at hl 3 rfl) ?_
    refine lv_iload_n C.1 C.2.1 dL_law_694 rfl (lv_at hl 0 rfl) ?_
    refine lv_iconst (v := 3) C.1 C.2.1 dL_law_695 (by decide) ?_
    refine k_iadd (v := 3) C (by decide) dL_law_696 ?_
    refine k_sld (v := y3) C hX hbl hbA Wd (vp_in_iff.mpr (by decide)) hy3 dL_law_697 ?_
    refine k_pi (k_runV (rest := []) C aks Wd cs_L_85 (kcX11_cut l D q5961 q5963 q5964 q5965 q5966 q5967 q5968 q5969 y1 y2 y3 (va_up (va_up (va_up (va_up (va_up (va_up (fun _ => none) 0 (some q5971)) 1 (some q5972)) 2 (some q5973)) 3 (some q5974)) 4 (some q5975)) 5 (some q5976)) e5970 _ c11372) [0, 1] rfl (by decide) [0] rfl 0 11 rfl rfl rfl rfl rfl ⟨(Nat.le_of_ble_eq_true rfl), (Nat.le_of_ble_eq_true rfl)⟩ hl.1 rfl rfl (Nat.le_of_ble_eq_true rfl) ⟨(Nat.le_of_ble_eq_true rfl), (Nat.le_of_ble_eq_true rfl)⟩ dL_law_698) (fun r w11373 => ?_)
    rcases w11373 with ⟨c11374, c11375, rfl⟩ | ⟨c11376, c11377, c11378, rfl⟩ | ⟨c11379, c11380, c11381, rfl⟩ | ⟨c11382, c11383, c11384, rfl⟩
    · refine lv_aload_n C.1 C.2.1 dL_law_701 rfl (lv_at hl 1 rfl) ?_
      refine lv_aload_n C.1 C.2.1 dL_law_702 rfl (lv_at hl 3 rfl) ?_
      refine lv_iload_n C.1 C.2.1 dL_law_703 rfl (lv_at hl 0 rfl) ?_
      refine lv_iconst (v := 1) C.1 C.2.1 dL_law_704 (by decide) ?_
      refine k_iadd (v := 1) C (by decide) dL_law_705 ?_
      refine k_sld (v := y1) C hX hbl hbA Wd (vp_in_iff.mpr (by decide)) hy1 dL_law_706 ?_
      refine lv_aload_n C.1 C.2.1 dL_law_707 rfl (lv_at hl 3 rfl) ?_
      refine lv_iload_n C.1 C.2.1 dL_law_708 rfl (lv_at hl 0 rfl) ?_
      refine lv_iconst (v := 2) C.1 C.2.1 dL_law_709 (by decide) ?_
      refine k_iadd (v := 2) C (by decide) dL_law_710 ?_
      refine k_sld (v := y2) C hX hbl hbA Wd (vp_in_iff.mpr (by decide)) hy2 dL_law_711 ?_
      refine lv_aload_n C.1 C.2.1 dL_law_712 rfl (lv_at hl 3 rfl) ?_
      refine lv_iload_n C.1 C.2.1 dL_law_713 rfl (lv_at hl 0 rfl) ?_
      refine lv_iconst (v := 3) C.1 C.2.1 dL_law_714 (by decide) ?_
      refine k_iadd (v := 3) C (by decide) dL_law_715 ?_
      refine k_sld (v := y3) C hX hbl hbA Wd (vp_in_iff.mpr (by decide)) hy3 dL_law_716 ?_
      refine k_ci Wd [9, 10] [0, 1, 2, 3, 4, 5, 6, 7, 8] rfl (wr := [(q5961, .inr (11, [.ref q5963, .int 0, .ref q5964, .ref q5965, .ref q5966, .ref q5967, .ref q5968, .ref q5969])), (q5963, .inl (e5970, 6, .inr (.inr (.inr (.inr (va_up (va_up (va_up (va_up (va_up (va_up (fun _ => none) 0 (some q5971)) 1 (some q5972)) 2 (some q5973)) 3 (some q5974)) 4 (some q5975)) 5 (some q5976))))))), (q5971, .inr (8, [.ref q5977, .int 0])), (q5972, .inr (8, [.ref q5978, .int 0])), (q5973, .inr (8, [.ref q5979, .int 0])), (q5974, .inr (8, [.ref q5980, .int 0])), (q5975, .inr (8, [.ref q5981, .int 0])), (q5976, .inr (8, [.ref q5982, .int 0])), (q5968, .inr (4, [.ref q6010, .ref q6011, .ref q6012, .int (-1), .int (-1), .ref q6013, .ref q6014, .ref q6015, .ref q6016, .ref q6017]))]) rfl (by decide) (by decide) (cells' := 271) (slots' := 91330) (by decide) (by decide) (k_runV (rest := [.int (-1)]) C aks Wd cs_L_88 (kcX12_cut l D q6104 q6106 q6107 q6108 q6109 q6110 q6111 q6112 q6113 q6114 q6115 q6116 q6117 q6118 q6119 q6120 q6121 q6122 q6123 q6124 q6125 q6126 q6127 q6128 q6129 q6130 y1 y2 y3 e6132 _ ) [9, 10] rfl (by decide) [1] rfl 9 12 rfl rfl rfl rfl rfl ⟨(Nat.le_of_ble_eq_true rfl), (Nat.le_of_ble_eq_true rfl)⟩ hl.1 rfl rfl (Nat.le_of_ble_eq_true rfl) ⟨(Nat.le_of_ble_eq_true rfl), (Nat.le_of_ble_eq_true rfl)⟩ dL_law_717) (fun r _ H locs w11385 Wd => ?_)
      have Wd : wX D [(e5970, .object RX8), (e6132, .int)] s [(q5961, .inr (11, [.ref q5963, .int 0, .ref q5964, .ref q5965, .ref q5966, .ref q5967, .ref q5968, .ref q5969])), (q5963, .inl (e5970, 6, .inr (.inr (.inr (.inr (va_up (va_up (va_up (va_up (va_up (va_up (fun _ => none) 0 (some q5971)) 1 (some q5972)) 2 (some q5973)) 3 (some q5974)) 4 (some q5975)) 5 (some q5976))))))), (q5971, .inr (8, [.ref q5977, .int 0])), (q5972, .inr (8, [.ref q5978, .int 0])), (q5973, .inr (8, [.ref q5979, .int 0])), (q5974, .inr (8, [.ref q5980, .int 0])), (q5975, .inr (8, [.ref q5981, .int 0])), (q5976, .inr (8, [.ref q5982, .int 0])), (q5968, .inr (4, [.ref q6010, .ref q6011, .ref q6012, .int (-1), .int (-1), .ref q6013, .ref q6014, .ref q6015, .ref q6016, .ref q6017]))] _ A s.heap _ := Wd
      rcases w11385 with ⟨c11386, rfl⟩ | ⟨c11387, c11388, rfl⟩ | ⟨c11389, c11390, c11391, rfl⟩ | ⟨c11392, c11393, c11394, c11395, rfl⟩ | ⟨c11396, c11397, c11398, c11399, c11400, rfl⟩ | ⟨c11401, c11402, c11403, c11404, c11405, c11406, rfl⟩ | ⟨c11407, c11408, c11409, c11410, c11411, c11412, rfl⟩
      · refine lv_icmp_eq (tgt := 801) C.1 C.2.1 dL_law_720 (by decide) (fun _ => ?_) (fun c11413 => absurd c11413 (by decide))
        exact tail _ _ _ (k_sub Wd [] rfl (by decide) [] rfl) (lv_sub hl [0, 3] rfl)
      · refine lv_icmp_eq (tgt := 801) C.1 C.2.1 dL_law_720 (by decide) (fun _ => ?_) (fun c11414 => absurd c11414 (by decide))
        exact tail _ _ _ (k_sub Wd [] rfl (by decide) [] rfl) (lv_sub hl [0, 3] rfl)
      · refine lv_icmp_eq (tgt := 801) C.1 C.2.1 dL_law_720 (by decide) (fun _ => ?_) (fun c11415 => absurd c11415 (by decide))
        exact tail _ _ _ (k_sub Wd [] rfl (by decide) [] rfl) (lv_sub hl [0, 3] rfl)
      · exact absurd c11372 c11394
      · exact absurd c11372 c11398
      · exact absurd c11372 c11403
      · exact absurd c11372 c11409
    · refine lv_aload_n C.1 C.2.1 dL_law_701 rfl (lv_at hl 1 rfl) ?_
      refine lv_aload_n C.1 C.2.1 dL_law_702 rfl (lv_at hl 3 rfl) ?_
      refine lv_iload_n C.1 C.2.1 dL_law_703 rfl (lv_at hl 0 rfl) ?_
      refine lv_iconst (v := 1) C.1 C.2.1 dL_law_704 (by decide) ?_
      refine k_iadd (v := 1) C (by decide) dL_law_705 ?_
      refine k_sld (v := y1) C hX hbl hbA Wd (vp_in_iff.mpr (by decide)) hy1 dL_law_706 ?_
      refine lv_aload_n C.1 C.2.1 dL_law_707 rfl (lv_at hl 3 rfl) ?_
      refine lv_iload_n C.1 C.2.1 dL_law_708 rfl (lv_at hl 0 rfl) ?_
      refine lv_iconst (v := 2) C.1 C.2.1 dL_law_709 (by decide) ?_
      refine k_iadd (v := 2) C (by decide) dL_law_710 ?_
      refine k_sld (v := y2) C hX hbl hbA Wd (vp_in_iff.mpr (by decide)) hy2 dL_law_711 ?_
      refine lv_aload_n C.1 C.2.1 dL_law_712 rfl (lv_at hl 3 rfl) ?_
      refine lv_iload_n C.1 C.2.1 dL_law_713 rfl (lv_at hl 0 rfl) ?_
      refine lv_iconst (v := 3) C.1 C.2.1 dL_law_714 (by decide) ?_
      refine k_iadd (v := 3) C (by decide) dL_law_715 ?_
      refine k_sld (v := y3) C hX hbl hbA Wd (vp_in_iff.mpr (by decide)) hy3 dL_law_716 ?_
      refine k_ci Wd [9, 10] [0, 1, 2, 3, 4, 5, 6, 7, 8] rfl (wr := [(q5961, .inr (11, [.ref q5963, .int 0, .ref q5964, .ref q5965, .ref q5966, .ref q5967, .ref q5968, .ref q5969])), (q5963, .inl (e5970, 6, .inr (.inr (.inr (.inr (va_up (va_up (va_up (va_up (va_up (va_up (fun _ => none) 0 (some q5971)) 1 (some q5972)) 2 (some q5973)) 3 (some q5974)) 4 (some q5975)) 5 (some q5976))))))), (q5971, .inr (8, [.ref q5977, .int 0])), (q5972, .inr (8, [.ref q5978, .int 0])), (q5973, .inr (8, [.ref q5979, .int 0])), (q5974, .inr (8, [.ref q5980, .int 0])), (q5975, .inr (8, [.ref q5981, .int 0])), (q5976, .inr (8, [.ref q5982, .int 0])), (q5968, .inr (4, [.ref q6010, .ref q6011, .ref q6012, .int (-1), .int (-1), .ref q6013, .ref q6014, .ref q6015, .ref q6016, .ref q6017]))]) rfl (by decide) (by decide) (cells' := 271) (slots' := 91330) (by decide) (by decide) (k_runV (rest := [.int (-1)]) C aks Wd cs_L_88 (kcX12_cut l D q6104 q6106 q6107 q6108 q6109 q6110 q6111 q6112 q6113 q6114 q6115 q6116 q6117 q6118 q6119 q6120 q6121 q6122 q6123 q6124 q6125 q6126 q6127 q6128 q6129 q6130 y1 y2 y3 e6132 _ ) [9, 10] rfl (by decide) [1] rfl 9 12 rfl rfl rfl rfl rfl ⟨(Nat.le_of_ble_eq_true rfl), (Nat.le_of_ble_eq_true rfl)⟩ hl.1 rfl rfl (Nat.le_of_ble_eq_true rfl) ⟨(Nat.le_of_ble_eq_true rfl), (Nat.le_of_ble_eq_true rfl)⟩ dL_law_717) (fun r _ H locs w11416 Wd => ?_)
      have Wd : wX D [(e5970, .object RX8), (e6132, .int)] s [(q5961, .inr (11, [.ref q5963, .int 0, .ref q5964, .ref q5965, .ref q5966, .ref q5967, .ref q5968, .ref q5969])), (q5963, .inl (e5970, 6, .inr (.inr (.inr (.inr (va_up (va_up (va_up (va_up (va_up (va_up (fun _ => none) 0 (some q5971)) 1 (some q5972)) 2 (some q5973)) 3 (some q5974)) 4 (some q5975)) 5 (some q5976))))))), (q5971, .inr (8, [.ref q5977, .int 0])), (q5972, .inr (8, [.ref q5978, .int 0])), (q5973, .inr (8, [.ref q5979, .int 0])), (q5974, .inr (8, [.ref q5980, .int 0])), (q5975, .inr (8, [.ref q5981, .int 0])), (q5976, .inr (8, [.ref q5982, .int 0])), (q5968, .inr (4, [.ref q6010, .ref q6011, .ref q6012, .int (-1), .int (-1), .ref q6013, .ref q6014, .ref q6015, .ref q6016, .ref q6017]))] _ A s.heap _ := Wd
      rcases w11416 with ⟨c11417, rfl⟩ | ⟨c11418, c11419, rfl⟩ | ⟨c11420, c11421, c11422, rfl⟩ | ⟨c11423, c11424, c11425, c11426, rfl⟩ | ⟨c11427, c11428, c11429, c11430, c11431, rfl⟩ | ⟨c11432, c11433, c11434, c11435, c11436, c11437, rfl⟩ | ⟨c11438, c11439, c11440, c11441, c11442, c11443, rfl⟩
      · refine lv_icmp_eq (tgt := 801) C.1 C.2.1 dL_law_720 (by decide) (fun _ => ?_) (fun c11444 => absurd c11444 (by decide))
        exact tail _ _ _ (k_sub Wd [] rfl (by decide) [] rfl) (lv_sub hl [0, 3] rfl)
      · refine lv_icmp_eq (tgt := 801) C.1 C.2.1 dL_law_720 (by decide) (fun _ => ?_) (fun c11445 => absurd c11445 (by decide))
        exact tail _ _ _ (k_sub Wd [] rfl (by decide) [] rfl) (lv_sub hl [0, 3] rfl)
      · refine lv_icmp_eq (tgt := 801) C.1 C.2.1 dL_law_720 (by decide) (fun _ => ?_) (fun c11446 => absurd c11446 (by decide))
        exact tail _ _ _ (k_sub Wd [] rfl (by decide) [] rfl) (lv_sub hl [0, 3] rfl)
      · exact absurd c11372 c11425
      · exact absurd c11372 c11429
      · exact absurd c11372 c11434
      · exact absurd c11372 c11440
    · refine lv_aload_n C.1 C.2.1 dL_law_701 rfl (lv_at hl 1 rfl) ?_
      refine lv_aload_n C.1 C.2.1 dL_law_702 rfl (lv_at hl 3 rfl) ?_
      refine lv_iload_n C.1 C.2.1 dL_law_703 rfl (lv_at hl 0 rfl) ?_
      refine lv_iconst (v := 1) C.1 C.2.1 dL_law_704 (by decide) ?_
      refine k_iadd (v := 1) C (by decide) dL_law_705 ?_
      refine k_sld (v := y1) C hX hbl hbA Wd (vp_in_iff.mpr (by decide)) hy1 dL_law_706 ?_
      refine lv_aload_n C.1 C.2.1 dL_law_707 rfl (lv_at hl 3 rfl) ?_
      refine lv_iload_n C.1 C.2.1 dL_law_708 rfl (lv_at hl 0 rfl) ?_
      refine lv_iconst (v := 2) C.1 C.2.1 dL_law_709 (by decide) ?_
      refine k_iadd (v := 2) C (by decide) dL_law_710 ?_
      refine k_sld (v := y2) C hX hbl hbA Wd (vp_in_iff.mpr (by decide)) hy2 dL_law_711 ?_
      refine lv_aload_n C.1 C.2.1 dL_law_712 rfl (lv_at hl 3 rfl) ?_
      refine lv_iload_n C.1 C.2.1 dL_law_713 rfl (lv_at hl 0 rfl) ?_
      refine lv_iconst (v := 3) C.1 C.2.1 dL_law_714 (by decide) ?_
      refine k_iadd (v := 3) C (by decide) dL_law_715 ?_
      refine k_sld (v := y3) C hX hbl hbA Wd (vp_in_iff.mpr (by decide)) hy3 dL_law_716 ?_
      refine k_ci Wd [9, 10] [0, 1, 2, 3, 4, 5, 6, 7, 8] rfl (wr := [(q5961, .inr (11, [.ref q5963, .int 0, .ref q5964, .ref q5965, .ref q5966, .ref q5967, .ref q5968, .ref q5969])), (q5963, .inl (e5970, 6, .inr (.inr (.inr (.inr (va_up (va_up (va_up (va_up (va_up (va_up (fun _ => none) 0 (some q5971)) 1 (some q5972)) 2 (some q5973)) 3 (some q5974)) 4 (some q5975)) 5 (some q5976))))))), (q5971, .inr (8, [.ref q5977, .int 0])), (q5972, .inr (8, [.ref q5978, .int 0])), (q5973, .inr (8, [.ref q5979, .int 0])), (q5974, .inr (8, [.ref q5980, .int 0])), (q5975, .inr (8, [.ref q5981, .int 0])), (q5976, .inr (8, [.ref q5982, .int 0])), (q5968, .inr (4, [.ref q6010, .ref q6011, .ref q6012, .int (-1), .int (-1), .ref q6013, .ref q6014, .ref q6015, .ref q6016, .ref q6017]))]) rfl (by decide) (by decide) (cells' := 271) (slots' := 91330) (by decide) (by decide) (k_runV (rest := [.int (-1)]) C aks Wd cs_L_88 (kcX12_cut l D q6104 q6106 q6107 q6108 q6109 q6110 q6111 q6112 q6113 q6114 q6115 q6116 q6117 q6118 q6119 q6120 q6121 q6122 q6123 q6124 q6125 q6126 q6127 q6128 q6129 q6130 y1 y2 y3 e6132 _ ) [9, 10] rfl (by decide) [1] rfl 9 12 rfl rfl rfl rfl rfl ⟨(Nat.le_of_ble_eq_true rfl), (Nat.le_of_ble_eq_true rfl)⟩ hl.1 rfl rfl (Nat.le_of_ble_eq_true rfl) ⟨(Nat.le_of_ble_eq_true rfl), (Nat.le_of_ble_eq_true rfl)⟩ dL_law_717) (fun r _ H locs w11447 Wd => ?_)
      have Wd : wX D [(e5970, .object RX8), (e6132, .int)] s [(q5961, .inr (11, [.ref q5963, .int 0, .ref q5964, .ref q5965, .ref q5966, .ref q5967, .ref q5968, .ref q5969])), (q5963, .inl (e5970, 6, .inr (.inr (.inr (.inr (va_up (va_up (va_up (va_up (va_up (va_up (fun _ => none) 0 (some q5971)) 1 (some q5972)) 2 (some q5973)) 3 (some q5974)) 4 (some q5975)) 5 (some q5976))))))), (q5971, .inr (8, [.ref q5977, .int 0])), (q5972, .inr (8, [.ref q5978, .int 0])), (q5973, .inr (8, [.ref q5979, .int 0])), (q5974, .inr (8, [.ref q5980, .int 0])), (q5975, .inr (8, [.ref q5981, .int 0])), (q5976, .inr (8, [.ref q5982, .int 0])), (q5968, .inr (4, [.ref q6010, .ref q6011, .ref q6012, .int (-1), .int (-1), .ref q6013, .ref q6014, .ref q6015, .ref q6016, .ref q6017]))] _ A s.heap _ := Wd
      rcases w11447 with ⟨c11448, rfl⟩ | ⟨c11449, c11450, rfl⟩ | ⟨c11451, c11452, c11453, rfl⟩ | ⟨c11454, c11455, c11456, c11457, rfl⟩ | ⟨c11458, c11459, c11460, c11461, c11462, rfl⟩ | ⟨c11463, c11464, c11465, c11466, c11467, c11468, rfl⟩ | ⟨c11469, c11470, c11471, c11472, c11473, c11474, rfl⟩
      · refine lv_icmp_eq (tgt := 801) C.1 C.2.1 dL_law_720 (by decide) (fun _ => ?_) (fun c11475 => absurd c11475 (by decide))
        exact tail _ _ _ (k_sub Wd [] rfl (by decide) [] rfl) (lv_sub hl [0, 3] rfl)
      · refine lv_icmp_eq (tgt := 801) C.1 C.2.1 dL_law_720 (by decide) (fun _ => ?_) (fun c11476 => absurd c11476 (by decide))
        exact tail _ _ _ (k_sub Wd [] rfl (by decide) [] rfl) (lv_sub hl [0, 3] rfl)
      · refine lv_icmp_eq (tgt := 801) C.1 C.2.1 dL_law_720 (by decide) (fun _ => ?_) (fun c11477 => absurd c11477 (by decide))
        exact tail _ _ _ (k_sub Wd [] rfl (by decide) [] rfl) (lv_sub hl [0, 3] rfl)
      · exact absurd c11372 c11456
      · exact absurd c11372 c11460
      · exact absurd c11372 c11465
      · exact absurd c11372 c11471
    · refine lv_aload_n C.1 C.2.1 dL_law_701 rfl (lv_at hl 1 rfl) ?_
      refine lv_aload_n C.1 C.2.1 dL_law_702 rfl (lv_at hl 3 rfl) ?_
      refine lv_iload_n C.1 C.2.1 dL_law_703 rfl (lv_at hl 0 rfl) ?_
      refine lv_iconst (v := 1) C.1 C.2.1 dL_law_704 (by decide) ?_
      refine k_iadd (v := 1) C (by decide) dL_law_705 ?_
      refine k_sld (v := y1) C hX hbl hbA Wd (vp_in_iff.mpr (by decide)) hy1 dL_law_706 ?_
      refine lv_aload_n C.1 C.2.1 dL_law_707 rfl (lv_at hl 3 rfl) ?_
      refine lv_iload_n C.1 C.2.1 dL_law_708 rfl (lv_at hl 0 rfl) ?_
      refine lv_iconst (v := 2) C.1 C.2.1 dL_law_709 (by decide) ?_
      refine k_iadd (v := 2) C (by decide) dL_law_710 ?_
      refine k_sld (v := y2) C hX hbl hbA Wd (vp_in_iff.mpr (by decide)) hy2 dL_law_711 ?_
      refine lv_aload_n C.1 C.2.1 dL_law_712 rfl (lv_at hl 3 rfl) ?_
      refine lv_iload_n C.1 C.2.1 dL_law_713 rfl (lv_at hl 0 rfl) ?_
      refine lv_iconst (v := 3) C.1 C.2.1 dL_law_714 (by decide) ?_
      refine k_iadd (v := 3) C (by decide) dL_law_715 ?_
      refine k_sld (v := y3) C hX hbl hbA Wd (vp_in_iff.mpr (by decide)) hy3 dL_law_716 ?_
      refine k_ci Wd [9, 10] [0, 1, 2, 3, 4, 5, 6, 7, 8] rfl (wr := [(q5961, .inr (11, [.ref q5963, .int 0, .ref q5964, .ref q5965, .ref q5966, .ref q5967, .ref q5968, .ref q5969])), (q5963, .inl (e5970, 6, .inr (.inr (.inr (.inr (va_up (va_up (va_up (va_up (va_up (va_up (fun _ => none) 0 (some q5971)) 1 (some q5972)) 2 (some q5973)) 3 (some q5974)) 4 (some q5975)) 5 (some q5976))))))), (q5971, .inr (8, [.ref q5977, .int 0])), (q5972, .inr (8, [.ref q5978, .int 0])), (q5973, .inr (8, [.ref q5979, .int 0])), (q5974, .inr (8, [.ref q5980, .int 0])), (q5975, .inr (8, [.ref q5981, .int 0])), (q5976, .inr (8, [.ref q5982, .int 0])), (q5968, .inr (4, [.ref q6010, .ref q6011, .ref q6012, .int (-1), .int (-1), .ref q6013, .ref q6014, .ref q6015, .ref q6016, .ref q6017]))]) rfl (by decide) (by decide) (cells' := 271) (slots' := 91330) (by decide) (by decide) (k_runV (rest := [.int (-1)]) C aks Wd cs_L_88 (kcX12_cut l D q6104 q6106 q6107 q6108 q6109 q6110 q6111 q6112 q6113 q6114 q6115 q6116 q6117 q6118 q6119 q6120 q6121 q6122 q6123 q6124 q6125 q6126 q6127 q6128 q6129 q6130 y1 y2 y3 e6132 _ ) [9, 10] rfl (by decide) [1] rfl 9 12 rfl rfl rfl rfl rfl ⟨(Nat.le_of_ble_eq_true rfl), (Nat.le_of_ble_eq_true rfl)⟩ hl.1 rfl rfl (Nat.le_of_ble_eq_true rfl) ⟨(Nat.le_of_ble_eq_true rfl), (Nat.le_of_ble_eq_true rfl)⟩ dL_law_717) (fun r _ H locs w11478 Wd => ?_)
      have Wd : wX D [(e5970, .object RX8), (e6132, .int)] s [(q5961, .inr (11, [.ref q5963, .int 0, .ref q5964, .ref q5965, .ref q5966, .ref q5967, .ref q5968, .ref q5969])), (q5963, .inl (e5970, 6, .inr (.inr (.inr (.inr (va_up (va_up (va_up (va_up (va_up (va_up (fun _ => none) 0 (some q5971)) 1 (some q5972)) 2 (some q5973)) 3 (some q5974)) 4 (some q5975)) 5 (some q5976))))))), (q5971, .inr (8, [.ref q5977, .int 0])), (q5972, .inr (8, [.ref q5978, .int 0])), (q5973, .inr (8, [.ref q5979, .int 0])), (q5974, .inr (8, [.ref q5980, .int 0])), (q5975, .inr (8, [.ref q5981, .int 0])), (q5976, .inr (8, [.ref q5982, .int 0])), (q5968, .inr (4, [.ref q6010, .ref q6011, .ref q6012, .int (-1), .int (-1), .ref q6013, .ref q6014, .ref q6015, .ref q6016, .ref q6017]))] _ A s.heap _ := Wd
      rcases w11478 with ⟨c11479, rfl⟩ | ⟨c11480, c11481, rfl⟩ | ⟨c11482, c11483, c11484, rfl⟩ | ⟨c11485, c11486, c11487, c11488, rfl⟩ | ⟨c11489, c11490, c11491, c11492, c11493, rfl⟩ | ⟨c11494, c11495, c11496, c11497, c11498, c11499, rfl⟩ | ⟨c11500, c11501, c11502, c11503, c11504, c11505, rfl⟩
      · refine lv_icmp_eq (tgt := 801) C.1 C.2.1 dL_law_720 (by decide) (fun _ => ?_) (fun c11506 => absurd c11506 (by decide))
        exact tail _ _ _ (k_sub Wd [] rfl (by decide) [] rfl) (lv_sub hl [0, 3] rfl)
      · refine lv_icmp_eq (tgt := 801) C.1 C.2.1 dL_law_720 (by decide) (fun _ => ?_) (fun c11507 => absurd c11507 (by decide))
        exact tail _ _ _ (k_sub Wd [] rfl (by decide) [] rfl) (lv_sub hl [0, 3] rfl)
      · refine lv_icmp_eq (tgt := 801) C.1 C.2.1 dL_law_720 (by decide) (fun _ => ?_) (fun c11508 => absurd c11508 (by decide))
        exact tail _ _ _ (k_sub Wd [] rfl (by decide) [] rfl) (lv_sub hl [0, 3] rfl)
      · exact absurd c11372 c11487
      · exact absurd c11372 c11491
      · exact absurd c11372 c11496
      · exact absurd c11372 c11502
  by_cases c11509 : y2 < 6
  · have hsel : ∃ (q11510 q11511 : Nat), (va_up (va_up (va_up (va_up (va_up (va_up (fun _ => none) 0 (some q5971)) 1 (some q5972)) 2 (some q5973)) 3 (some q5974)) 4 (some q5975)) 5 (some q5976)) y2.toNatClampNeg = some q11510 ∧ wX D [(e5970, .object RX8), (e6132, .int)] s [(q5961, .inr (11, [.ref q5963, .int 0, .ref q5964, .ref q5965, .ref q5966, .ref q5967, .ref q5968, .ref q5969])), (q5963, .inl (e5970, 6, .inr (.inr (.inr (.inr (va_up (va_up (va_up (va_up (va_up (va_up (fun _ => none) 0 (some q5971)) 1 (some q5972)) 2 (some q5973)) 3 (some q5974)) 4 (some q5975)) 5 (some q5976))))))), (q5968, .inr (4, [.ref q6010, .ref q6011, .ref q6012, .int (-1), .int (-1), .ref q6013, .ref q6014, .ref q6015, .ref q6016, .ref q6017])), (q6104, .inr (12, [.ref q6106, .ref q6107, .ref q6108, .ref q6109, .int 0, .int 0, .ref q6110, .int 0, .int 0, .int 0, .int 0, .int 0, .int 0, .int 0, .int 0, .int 0, .int 0, .int 0, .int 0, .int 0, .int (-1), .int 0, .int 0, .int 0, .ref q6111, .ref q6112, .ref q6113, .ref q6114, .ref q6115, .ref q6116, .int 0, .int 0, .int 0, .int 0, .ref q6117, .ref q6118, .ref q6119, .int 0, .int 0, .int 0, .int 0, .ref q6120, .ref q6121, .int 0, .ref q6122, .ref q6123, .int 0, .ref q6124, .int 0, .ref q6125, .ref q6126, .ref q6127, .int 0, .ref q6128, .ref q6129, .ref q6130])), (q6107, .inl (e6132, 6, .inl (fun _ => 0))), (q11510, .inr (8, [.ref q11511, .int 0]))] H A s.heap locs := by
      rcases kf6 c11372 c11509 with rfl | rfl | rfl | rfl | rfl | rfl
      · exact ⟨q5971, q5977, rfl, k_sub Wd [0, 1, 8, 9, 10, 2] rfl (by decide) [0, 1] rfl⟩
      · exact ⟨q5972, q5978, rfl, k_sub Wd [0, 1, 8, 9, 10, 3] rfl (by decide) [0, 1] rfl⟩
      · exact ⟨q5973, q5979, rfl, k_sub Wd [0, 1, 8, 9, 10, 4] rfl (by decide) [0, 1] rfl⟩
      · exact ⟨q5974, q5980, rfl, k_sub Wd [0, 1, 8, 9, 10, 5] rfl (by decide) [0, 1] rfl⟩
      · exact ⟨q5975, q5981, rfl, k_sub Wd [0, 1, 8, 9, 10, 6] rfl (by decide) [0, 1] rfl⟩
      · exact ⟨q5976, q5982, rfl, k_sub Wd [0, 1, 8, 9, 10, 7] rfl (by decide) [0, 1] rfl⟩
    obtain ⟨q11510, q11511, hk11512, Wd⟩ := hsel
    refine lv_aload_n C.1 C.2.1 dL_law_682 rfl (lv_at hl 2 rfl) ?_
    refine lv_aload_n C.1 C.2.1 dL_law_683 rfl (lv_at hl 3 rfl) ?_
    refine lv_iload_n C.1 C.2.1 dL_law_684 rfl (lv_at hl 0 rfl) ?_
    refine lv_iconst (v := 1) C.1 C.2.1 dL_law_685 (by decide) ?_
    refine k_iadd (v := 1) C (by decide) dL_law_686 ?_
    refine k_sld (v := y1) C hX hbl hbA Wd (vp_in_iff.mpr (by decide)) hy1 dL_law_687 ?_
    refine lv_aload_n C.1 C.2.1 dL_law_688 rfl (lv_at hl 3 rfl) ?_
    refine lv_iload_n C.1 C.2.1 dL_law_689 rfl (lv_at hl 0 rfl) ?_
    refine lv_iconst (v := 2) C.1 C.2.1 dL_law_690 (by decide) ?_
    refine k_iadd (v := 2) C (by decide) dL_law_691 ?_
    refine k_sld (v := y2) C hX hbl hbA Wd (vp_in_iff.mpr (by decide)) hy2 dL_law_692 ?_
    refine lv_aload_n C.1 C.2.1 dL_law_693 rfl (lv_at hl 3 rfl) ?_
    refine lv_iload_n C.1 C.2.1 dL_law_694 rfl (lv_at hl 0 rfl) ?_
    refine lv_iconst (v := 3) C.1 C.2.1 dL_law_695 (by decide) ?_
    refine k_iadd (v := 3) C (by decide) dL_law_696 ?_
    refine k_sld (v := y3) C hX hbl hbA Wd (vp_in_iff.mpr (by decide)) hy3 dL_law_697 ?_
    refine k_pi (k_runV (rest := []) C aks Wd cs_L_85 (kcX11_cut_v2 l D q5961 q5963 q5964 q5965 q5966 q5967 q5968 q5969 q11510 q6010 q6011 q6012 q6013 q6014 q6015 q6016 q6017 q11511 y1 y2 y3 (va_up (va_up (va_up (va_up (va_up (va_up (fun _ => none) 0 (some q5971)) 1 (some q5972)) 2 (some q5973)) 3 (some q5974)) 4 (some q5975)) 5 (some q5976)) e5970 _ hk11512 c11372 c11509) [0, 1, 5, 2] rfl (by decide) [0] rfl 0 11 rfl rfl rfl rfl rfl ⟨(Nat.le_of_ble_eq_true rfl), (Nat.le_of_ble_eq_true rfl)⟩ hl.1 rfl rfl (Nat.le_of_ble_eq_true rfl) ⟨(Nat.le_of_ble_eq_true rfl), (Nat.le_of_ble_eq_true rfl)⟩ dL_law_698) (fun r w11513 => ?_)
    rcases w11513 with ⟨c11514, c11515, c11516, rfl⟩ | ⟨c11517, c11518, c11519, c11520, rfl⟩ | ⟨c11521, c11522, c11523, c11524, rfl⟩ | ⟨c11525, c11526, c11527, c11528, rfl⟩
    · refine lv_aload_n C.1 C.2.1 dL_law_701 rfl (lv_at hl 1 rfl) ?_
      refine lv_aload_n C.1 C.2.1 dL_law_702 rfl (lv_at hl 3 rfl) ?_
      refine lv_iload_n C.1 C.2.1 dL_law_703 rfl (lv_at hl 0 rfl) ?_
      refine lv_iconst (v := 1) C.1 C.2.1 dL_law_704 (by decide) ?_
      refine k_iadd (v := 1) C (by decide) dL_law_705 ?_
      refine k_sld (v := y1) C hX hbl hbA Wd (vp_in_iff.mpr (by decide)) hy1 dL_law_706 ?_
      refine lv_aload_n C.1 C.2.1 dL_law_707 rfl (lv_at hl 3 rfl) ?_
      refine lv_iload_n C.1 C.2.1 dL_law_708 rfl (lv_at hl 0 rfl) ?_
      refine lv_iconst (v := 2) C.1 C.2.1 dL_law_709 (by decide) ?_
      refine k_iadd (v := 2) C (by decide) dL_law_710 ?_
      refine k_sld (v := y2) C hX hbl hbA Wd (vp_in_iff.mpr (by decide)) hy2 dL_law_711 ?_
      refine lv_aload_n C.1 C.2.1 dL_law_712 rfl (lv_at hl 3 rfl) ?_
      refine lv_iload_n C.1 C.2.1 dL_law_713 rfl (lv_at hl 0 rfl) ?_
      refine lv_iconst (v := 3) C.1 C.2.1 dL_law_714 (by decide) ?_
      refine k_iadd (v := 3) C (by decide) dL_law_715 ?_
      refine k_sld (v := y3) C hX hbl hbA Wd (vp_in_iff.mpr (by decide)) hy3 dL_law_716 ?_
      refine k_ci Wd [3, 4] [0, 1, 2, 5] rfl (wr := [(q5961, .inr (11, [.ref q5963, .int 0, .ref q5964, .ref q5965, .ref q5966, .ref q5967, .ref q5968, .ref q5969])), (q5963, .inl (e5970, 6, .inr (.inr (.inr (.inr (va_up (va_up (va_up (va_up (va_up (va_up (fun _ => none) 0 (some q5971)) 1 (some q5972)) 2 (some q5973)) 3 (some q5974)) 4 (some q5975)) 5 (some q5976))))))), (q5968, .inr (4, [.ref q6010, .ref q6011, .ref q6012, .int (-1), .int (-1), .ref q6013, .ref q6014, .ref q6015, .ref q6016, .ref q6017])), (q11510, .inr (8, [.ref q11511, .int 0]))]) rfl (by decide) (by decide) (cells' := 271) (slots' := 91330) (by decide) (by decide) (k_runV (rest := [.int (-1)]) C aks Wd cs_L_88 (kcX12_cut l D q6104 q6106 q6107 q6108 q6109 q6110 q6111 q6112 q6113 q6114 q6115 q6116 q6117 q6118 q6119 q6120 q6121 q6122 q6123 q6124 q6125 q6126 q6127 q6128 q6129 q6130 y1 y2 y3 e6132 _ ) [3, 4] rfl (by decide) [1] rfl 3 12 rfl rfl rfl rfl rfl ⟨(Nat.le_of_ble_eq_true rfl), (Nat.le_of_ble_eq_true rfl)⟩ hl.1 rfl rfl (Nat.le_of_ble_eq_true rfl) ⟨(Nat.le_of_ble_eq_true rfl), (Nat.le_of_ble_eq_true rfl)⟩ dL_law_717) (fun r _ H locs w11529 Wd => ?_)
      have Wd : wX D [(e5970, .object RX8), (e6132, .int)] s [(q5961, .inr (11, [.ref q5963, .int 0, .ref q5964, .ref q5965, .ref q5966, .ref q5967, .ref q5968, .ref q5969])), (q5963, .inl (e5970, 6, .inr (.inr (.inr (.inr (va_up (va_up (va_up (va_up (va_up (va_up (fun _ => none) 0 (some q5971)) 1 (some q5972)) 2 (some q5973)) 3 (some q5974)) 4 (some q5975)) 5 (some q5976))))))), (q5968, .inr (4, [.ref q6010, .ref q6011, .ref q6012, .int (-1), .int (-1), .ref q6013, .ref q6014, .ref q6015, .ref q6016, .ref q6017])), (q11510, .inr (8, [.ref q11511, .int 0]))] _ A s.heap _ := Wd
      rcases w11529 with ⟨c11530, rfl⟩ | ⟨c11531, c11532, rfl⟩ | ⟨c11533, c11534, c11535, rfl⟩ | ⟨c11536, c11537, c11538, c11539, rfl⟩ | ⟨c11540, c11541, c11542, c11543, c11544, rfl⟩ | ⟨c11545, c11546, c11547, c11548, c11549, c11550, rfl⟩ | ⟨c11551, c11552, c11553, c11554, c11555, c11556, rfl⟩
      · refine lv_icmp_eq (tgt := 801) C.1 C.2.1 dL_law_720 (by decide) (fun _ => ?_) (fun c11557 => absurd c11557 (by decide))
        exact tail _ _ _ (k_sub Wd [] rfl (by decide) [] rfl) (lv_sub hl [0, 3] rfl)
      · refine lv_icmp_eq (tgt := 801) C.1 C.2.1 dL_law_720 (by decide) (fun _ => ?_) (fun c11558 => absurd c11558 (by decide))
        exact tail _ _ _ (k_sub Wd [] rfl (by decide) [] rfl) (lv_sub hl [0, 3] rfl)
      · exact absurd c11535 c11372
      · exact False.elim (by have z0 := kz_nlt c11372; have z1 := kz_lt c11509; have z2 := kz_nlt c11514; have z3 := kz_nle c11515; have z4 := kz_nlt c11538; have z5 := kz_lt c11539; have t0 : (0 : Int32).toInt = 0 := (by decide); have t6 : (6 : Int32).toInt = 6 := (by decide); have t5 : (5 : Int32).toInt = 5 := (by decide); omega)
      · refine lv_icmp_eq (tgt := 801) C.1 C.2.1 dL_law_720 (by decide) (fun _ => ?_) (fun c11559 => absurd c11559 (by decide))
        exact tail _ _ _ (k_sub Wd [] rfl (by decide) [] rfl) (lv_sub hl [0, 3] rfl)
      · exact absurd c11516 c11549
      · exact absurd c11516 c11555
    · refine lv_aload_n C.1 C.2.1 dL_law_701 rfl (lv_at hl 1 rfl) ?_
      refine lv_aload_n C.1 C.2.1 dL_law_702 rfl (lv_at hl 3 rfl) ?_
      refine lv_iload_n C.1 C.2.1 dL_law_703 rfl (lv_at hl 0 rfl) ?_
      refine lv_iconst (v := 1) C.1 C.2.1 dL_law_704 (by decide) ?_
      refine k_iadd (v := 1) C (by decide) dL_law_705 ?_
      refine k_sld (v := y1) C hX hbl hbA Wd (vp_in_iff.mpr (by decide)) hy1 dL_law_706 ?_
      refine lv_aload_n C.1 C.2.1 dL_law_707 rfl (lv_at hl 3 rfl) ?_
      refine lv_iload_n C.1 C.2.1 dL_law_708 rfl (lv_at hl 0 rfl) ?_
      refine lv_iconst (v := 2) C.1 C.2.1 dL_law_709 (by decide) ?_
      refine k_iadd (v := 2) C (by decide) dL_law_710 ?_
      refine k_sld (v := y2) C hX hbl hbA Wd (vp_in_iff.mpr (by decide)) hy2 dL_law_711 ?_
      refine lv_aload_n C.1 C.2.1 dL_law_712 rfl (lv_at hl 3 rfl) ?_
      refine lv_iload_n C.1 C.2.1 dL_law_713 rfl (lv_at hl 0 rfl) ?_
      refine lv_iconst (v := 3) C.1 C.2.1 dL_law_714 (by decide) ?_
      refine k_iadd (v := 3) C (by decide) dL_law_715 ?_
      refine k_sld (v := y3) C hX hbl hbA Wd (vp_in_iff.mpr (by decide)) hy3 dL_law_716 ?_
      refine k_ci Wd [3, 4] [0, 1, 2, 5] rfl (wr := [(q5961, .inr (11, [.ref q5963, .int 0, .ref q5964, .ref q5965, .ref q5966, .ref q5967, .ref q5968, .ref q5969])), (q5963, .inl (e5970, 6, .inr (.inr (.inr (.inr (va_up (va_up (va_up (va_up (va_up (va_up (fun _ => none) 0 (some q5971)) 1 (some q5972)) 2 (some q5973)) 3 (some q5974)) 4 (some q5975)) 5 (some q5976))))))), (q5968, .inr (4, [.ref q6010, .ref q6011, .ref q6012, .int (-1), .int (-1), .ref q6013, .ref q6014, .ref q6015, .ref q6016, .ref q6017])), (q11510, .inr (8, [.ref q11511, .int 0]))]) rfl (by decide) (by decide) (cells' := 271) (slots' := 91330) (by decide) (by decide) (k_runV (rest := [.int (-1)]) C aks Wd cs_L_88 (kcX12_cut l D q6104 q6106 q6107 q6108 q6109 q6110 q6111 q6112 q6113 q6114 q6115 q6116 q6117 q6118 q6119 q6120 q6121 q6122 q6123 q6124 q6125 q6126 q6127 q6128 q6129 q6130 y1 y2 y3 e6132 _ ) [3, 4] rfl (by decide) [1] rfl 3 12 rfl rfl rfl rfl rfl ⟨(Nat.le_of_ble_eq_true rfl), (Nat.le_of_ble_eq_true rfl)⟩ hl.1 rfl rfl (Nat.le_of_ble_eq_true rfl) ⟨(Nat.le_of_ble_eq_true rfl), (Nat.le_of_ble_eq_true rfl)⟩ dL_law_717) (fun r _ H locs w11560 Wd => ?_)
      have Wd : wX D [(e5970, .object RX8), (e6132, .int)] s [(q5961, .inr (11, [.ref q5963, .int 0, .ref q5964, .ref q5965, .ref q5966, .ref q5967, .ref q5968, .ref q5969])), (q5963, .inl (e5970, 6, .inr (.inr (.inr (.inr (va_up (va_up (va_up (va_up (va_up (va_up (fun _ => none) 0 (some q5971)) 1 (some q5972)) 2 (some q5973)) 3 (some q5974)) 4 (some q5975)) 5 (some q5976))))))), (q5968, .inr (4, [.ref q6010, .ref q6011, .ref q6012, .int (-1), .int (-1), .ref q6013, .ref q6014, .ref q6015, .ref q6016, .ref q6017])), (q11510, .inr (8, [.ref q11511, .int 0]))] _ A s.heap _ := Wd
      rcases w11560 with ⟨c11561, rfl⟩ | ⟨c11562, c11563, rfl⟩ | ⟨c11564, c11565, c11566, rfl⟩ | ⟨c11567, c11568, c11569, c11570, rfl⟩ | ⟨c11571, c11572, c11573, c11574, c11575, rfl⟩ | ⟨c11576, c11577, c11578, c11579, c11580, c11581, rfl⟩ | ⟨c11582, c11583, c11584, c11585, c11586, c11587, rfl⟩
      · refine lv_icmp_eq (tgt := 801) C.1 C.2.1 dL_law_720 (by decide) (fun _ => ?_) (fun c11588 => absurd c11588 (by decide))
        exact tail _ _ _ (k_sub Wd [] rfl (by decide) [] rfl) (lv_sub hl [0, 3] rfl)
      · refine lv_icmp_eq (tgt := 801) C.1 C.2.1 dL_law_720 (by decide) (fun _ => ?_) (fun c11589 => absurd c11589 (by decide))
        exact tail _ _ _ (k_sub Wd [] rfl (by decide) [] rfl) (lv_sub hl [0, 3] rfl)
      · exact absurd c11566 c11372
      · exact False.elim (by have z0 := kz_nlt c11372; have z1 := kz_lt c11509; have z2 := kz_nlt c11517; have z3 := kz_nle c11518; have z4 := kz_nlt c11569; have z5 := kz_lt c11570; have t0 : (0 : Int32).toInt = 0 := (by decide); have t6 : (6 : Int32).toInt = 6 := (by decide); have t5 : (5 : Int32).toInt = 5 := (by decide); omega)
      · exact absurd c11575 c11519
      · refine lv_icmp_eq (tgt := 801) C.1 C.2.1 dL_law_720 (by decide) (fun _ => ?_) (fun c11590 => absurd c11590 (by decide))
        exact tail _ _ _ (k_sub Wd [] rfl (by decide) [] rfl) (lv_sub hl [0, 3] rfl)
      · exact False.elim (by have z0 := kz_nlt c11519; have z1 := kz_le c11520; have z2 := kz_nlt c11586; have z3 := kz_nlt c11587; have t0 : (0 : Int32).toInt = 0 := (by decide); have t6 : (6 : Int32).toInt = 6 := (by decide); have t5 : (5 : Int32).toInt = 5 := (by decide); omega)
    · refine lv_aload_n C.1 C.2.1 dL_law_701 rfl (lv_at hl 1 rfl) ?_
      refine lv_aload_n C.1 C.2.1 dL_law_702 rfl (lv_at hl 3 rfl) ?_
      refine lv_iload_n C.1 C.2.1 dL_law_703 rfl (lv_at hl 0 rfl) ?_
      refine lv_iconst (v := 1) C.1 C.2.1 dL_law_704 (by decide) ?_
      refine k_iadd (v := 1) C (by decide) dL_law_705 ?_
      refine k_sld (v := y1) C hX hbl hbA Wd (vp_in_iff.mpr (by decide)) hy1 dL_law_706 ?_
      refine lv_aload_n C.1 C.2.1 dL_law_707 rfl (lv_at hl 3 rfl) ?_
      refine lv_iload_n C.1 C.2.1 dL_law_708 rfl (lv_at hl 0 rfl) ?_
      refine lv_iconst (v := 2) C.1 C.2.1 dL_law_709 (by decide) ?_
      refine k_iadd (v := 2) C (by decide) dL_law_710 ?_
      refine k_sld (v := y2) C hX hbl hbA Wd (vp_in_iff.mpr (by decide)) hy2 dL_law_711 ?_
      refine lv_aload_n C.1 C.2.1 dL_law_712 rfl (lv_at hl 3 rfl) ?_
      refine lv_iload_n C.1 C.2.1 dL_law_713 rfl (lv_at hl 0 rfl) ?_
      refine lv_iconst (v := 3) C.1 C.2.1 dL_law_714 (by decide) ?_
      refine k_iadd (v := 3) C (by decide) dL_law_715 ?_
      refine k_sld (v := y3) C hX hbl hbA Wd (vp_in_iff.mpr (by decide)) hy3 dL_law_716 ?_
      refine k_ci Wd [3, 4] [0, 1, 2, 5] rfl (wr := [(q5961, .inr (11, [.ref q5963, .int 0, .ref q5964, .ref q5965, .ref q5966, .ref q5967, .ref q5968, .ref q5969])), (q5963, .inl (e5970, 6, .inr (.inr (.inr (.inr (va_up (va_up (va_up (va_up (va_up (va_up (fun _ => none) 0 (some q5971)) 1 (some q5972)) 2 (some q5973)) 3 (some q5974)) 4 (some q5975)) 5 (some q5976))))))), (q5968, .inr (4, [.ref q6010, .ref q6011, .ref q6012, .int (-1), .int (-1), .ref q6013, .ref q6014, .ref q6015, .ref q6016, .ref q6017])), (q11510, .inr (8, [.ref q11511, .int 0]))]) rfl (by decide) (by decide) (cells' := 271) (slots' := 91330) (by decide) (by decide) (k_runV (rest := [.int (-1)]) C aks Wd cs_L_88 (kcX12_cut l D q6104 q6106 q6107 q6108 q6109 q6110 q6111 q6112 q6113 q6114 q6115 q6116 q6117 q6118 q6119 q6120 q6121 q6122 q6123 q6124 q6125 q6126 q6127 q6128 q6129 q6130 y1 y2 y3 e6132 _ ) [3, 4] rfl (by decide) [1] rfl 3 12 rfl rfl rfl rfl rfl ⟨(Nat.le_of_ble_eq_true rfl), (Nat.le_of_ble_eq_true rfl)⟩ hl.1 rfl rfl (Nat.le_of_ble_eq_true rfl) ⟨(Nat.le_of_ble_eq_true rfl), (Nat.le_of_ble_eq_true rfl)⟩ dL_law_717) (fun r _ H locs w11591 Wd => ?_)
      have Wd : wX D [(e5970, .object RX8), (e6132, .int)] s [(q5961, .inr (11, [.ref q5963, .int 0, .ref q5964, .ref q5965, .ref q5966, .ref q5967, .ref q5968, .ref q5969])), (q5963, .inl (e5970, 6, .inr (.inr (.inr (.inr (va_up (va_up (va_up (va_up (va_up (va_up (fun _ => none) 0 (some q5971)) 1 (some q5972)) 2 (some q5973)) 3 (some q5974)) 4 (some q5975)) 5 (some q5976))))))), (q5968, .inr (4, [.ref q6010, .ref q6011, .ref q6012, .int (-1), .int (-1), .ref q6013, .ref q6014, .ref q6015, .ref q6016, .ref q6017])), (q11510, .inr (8, [.ref q11511, .int 0]))] _ A s.heap _ := Wd
      rcases w11591 with ⟨c11592, rfl⟩ | ⟨c11593, c11594, rfl⟩ | ⟨c11595, c11596, c11597, rfl⟩ | ⟨c11598, c11599, c11600, c11601, rfl⟩ | ⟨c11602, c11603, c11604, c11605, c11606, rfl⟩ | ⟨c11607, c11608, c11609, c11610, c11611, c11612, rfl⟩ | ⟨c11613, c11614, c11615, c11616, c11617, c11618, rfl⟩
      · refine lv_icmp_eq (tgt := 801) C.1 C.2.1 dL_law_720 (by decide) (fun _ => ?_) (fun c11619 => absurd c11619 (by decide))
        exact tail _ _ _ (k_sub Wd [] rfl (by decide) [] rfl) (lv_sub hl [0, 3] rfl)
      · refine lv_icmp_eq (tgt := 801) C.1 C.2.1 dL_law_720 (by decide) (fun _ => ?_) (fun c11620 => absurd c11620 (by decide))
        exact tail _ _ _ (k_sub Wd [] rfl (by decide) [] rfl) (lv_sub hl [0, 3] rfl)
      · exact absurd c11597 c11372
      · exact False.elim (by have z0 := kz_nlt c11372; have z1 := kz_lt c11509; have z2 := kz_nlt c11521; have z3 := kz_nle c11522; have z4 := kz_nlt c11600; have z5 := kz_lt c11601; have t0 : (0 : Int32).toInt = 0 := (by decide); have t6 : (6 : Int32).toInt = 6 := (by decide); have t5 : (5 : Int32).toInt = 5 := (by decide); omega)
      · exact absurd c11606 c11523
      · exact False.elim (by have z0 := kz_nlt c11523; have z1 := kz_nle c11524; have z2 := kz_nlt c11611; have z3 := kz_lt c11612; have t0 : (0 : Int32).toInt = 0 := (by decide); have t6 : (6 : Int32).toInt = 6 := (by decide); have t5 : (5 : Int32).toInt = 5 := (by decide); omega)
      · refine lv_icmp_eq (tgt := 801) C.1 C.2.1 dL_law_720 (by decide) (fun _ => ?_) (fun c11621 => absurd c11621 (by decide))
        exact tail _ _ _ (k_sub Wd [] rfl (by decide) [] rfl) (lv_sub hl [0, 3] rfl)
    · refine lv_aload_n C.1 C.2.1 dL_law_701 rfl (lv_at hl 1 rfl) ?_
      refine lv_aload_n C.1 C.2.1 dL_law_702 rfl (lv_at hl 3 rfl) ?_
      refine lv_iload_n C.1 C.2.1 dL_law_703 rfl (lv_at hl 0 rfl) ?_
      refine lv_iconst (v := 1) C.1 C.2.1 dL_law_704 (by decide) ?_
      refine k_iadd (v := 1) C (by decide) dL_law_705 ?_
      refine k_sld (v := y1) C hX hbl hbA Wd (vp_in_iff.mpr (by decide)) hy1 dL_law_706 ?_
      refine lv_aload_n C.1 C.2.1 dL_law_707 rfl (lv_at hl 3 rfl) ?_
      refine lv_iload_n C.1 C.2.1 dL_law_708 rfl (lv_at hl 0 rfl) ?_
      refine lv_iconst (v := 2) C.1 C.2.1 dL_law_709 (by decide) ?_
      refine k_iadd (v := 2) C (by decide) dL_law_710 ?_
      refine k_sld (v := y2) C hX hbl hbA Wd (vp_in_iff.mpr (by decide)) hy2 dL_law_711 ?_
      refine lv_aload_n C.1 C.2.1 dL_law_712 rfl (lv_at hl 3 rfl) ?_
      refine lv_iload_n C.1 C.2.1 dL_law_713 rfl (lv_at hl 0 rfl) ?_
      refine lv_iconst (v := 3) C.1 C.2.1 dL_law_714 (by decide) ?_
      refine k_iadd (v := 3) C (by decide) dL_law_715 ?_
      refine k_sld (v := y3) C hX hbl hbA Wd (vp_in_iff.mpr (by decide)) hy3 dL_law_716 ?_
      refine k_ci Wd [3, 4] [0, 1, 2, 5] rfl (wr := [(q5961, .inr (11, [.ref q5963, .int 0, .ref q5964, .ref q5965, .ref q5966, .ref q5967, .ref q5968, .ref q5969])), (q5963, .inl (e5970, 6, .inr (.inr (.inr (.inr (va_up (va_up (va_up (va_up (va_up (va_up (fun _ => none) 0 (some q5971)) 1 (some q5972)) 2 (some q5973)) 3 (some q5974)) 4 (some q5975)) 5 (some q5976))))))), (q5968, .inr (4, [.ref q6010, .ref q6011, .ref q6012, .int (-1), .int (-1), .ref q6013, .ref q6014, .ref q6015, .ref q6016, .ref q6017])), (q11510, .inr (8, [.ref q11511, .int 0]))]) rfl (by decide) (by decide) (cells' := 271) (slots' := 91330) (by decide) (by decide) (k_runV (rest := [.int (-1)]) C aks Wd cs_L_88 (kcX12_cut l D q6104 q6106 q6107 q6108 q6109 q6110 q6111 q6112 q6113 q6114 q6115 q6116 q6117 q6118 q6119 q6120 q6121 q6122 q6123 q6124 q6125 q6126 q6127 q6128 q6129 q6130 y1 y2 y3 e6132 _ ) [3, 4] rfl (by decide) [1] rfl 3 12 rfl rfl rfl rfl rfl ⟨(Nat.le_of_ble_eq_true rfl), (Nat.le_of_ble_eq_true rfl)⟩ hl.1 rfl rfl (Nat.le_of_ble_eq_true rfl) ⟨(Nat.le_of_ble_eq_true rfl), (Nat.le_of_ble_eq_true rfl)⟩ dL_law_717) (fun r _ H locs w11622 Wd => ?_)
      have Wd : wX D [(e5970, .object RX8), (e6132, .int)] s [(q5961, .inr (11, [.ref q5963, .int 0, .ref q5964, .ref q5965, .ref q5966, .ref q5967, .ref q5968, .ref q5969])), (q5963, .inl (e5970, 6, .inr (.inr (.inr (.inr (va_up (va_up (va_up (va_up (va_up (va_up (fun _ => none) 0 (some q5971)) 1 (some q5972)) 2 (some q5973)) 3 (some q5974)) 4 (some q5975)) 5 (some q5976))))))), (q5968, .inr (4, [.ref q6010, .ref q6011, .ref q6012, .int (-1), .int (-1), .ref q6013, .ref q6014, .ref q6015, .ref q6016, .ref q6017])), (q11510, .inr (8, [.ref q11511, .int 0]))] _ A s.heap _ := Wd
      rcases w11622 with ⟨c11623, rfl⟩ | ⟨c11624, c11625, rfl⟩ | ⟨c11626, c11627, c11628, rfl⟩ | ⟨c11629, c11630, c11631, c11632, rfl⟩ | ⟨c11633, c11634, c11635, c11636, c11637, rfl⟩ | ⟨c11638, c11639, c11640, c11641, c11642, c11643, rfl⟩ | ⟨c11644, c11645, c11646, c11647, c11648, c11649, rfl⟩
      · refine lv_icmp_eq (tgt := 801) C.1 C.2.1 dL_law_720 (by decide) (fun _ => ?_) (fun c11650 => absurd c11650 (by decide))
        exact tail _ _ _ (k_sub Wd [] rfl (by decide) [] rfl) (lv_sub hl [0, 3] rfl)
      · refine lv_icmp_eq (tgt := 801) C.1 C.2.1 dL_law_720 (by decide) (fun _ => ?_) (fun c11651 => absurd c11651 (by decide))
        exact tail _ _ _ (k_sub Wd [] rfl (by decide) [] rfl) (lv_sub hl [0, 3] rfl)
      · exact absurd c11628 c11372
      · exact False.elim (by have z0 := kz_nlt c11372; have z1 := kz_lt c11509; have z2 := kz_nlt c11525; have z3 := kz_nle c11526; have z4 := kz_nlt c11631; have z5 := kz_lt c11632; have t0 : (0 : Int32).toInt = 0 := (by decide); have t6 : (6 : Int32).toInt = 6 := (by decide); have t5 : (5 : Int32).toInt = 5 := (by decide); omega)
      · exact absurd c11637 c11527
      · exact False.elim (by have z0 := kz_nlt c11527; have z1 := kz_nle c11528; have z2 := kz_nlt c11642; have z3 := kz_lt c11643; have t0 : (0 : Int32).toInt = 0 := (by decide); have t6 : (6 : Int32).toInt = 6 := (by decide); have t5 : (5 : Int32).toInt = 5 := (by decide); omega)
      · refine lv_icmp_eq (tgt := 801) C.1 C.2.1 dL_law_720 (by decide) (fun _ => ?_) (fun c11652 => absurd c11652 (by decide))
        exact tail _ _ _ (k_sub Wd [] rfl (by decide) [] rfl) (lv_sub hl [0, 3] rfl)
  refine lv_aload_n C.1 C.2.1 dL_law_682 rfl (lv_at hl 2 rfl) ?_
  refine lv_aload_n C.1 C.2.1 dL_law_683 rfl (lv_at hl 3 rfl) ?_
  refine lv_iload_n C.1 C.2.1 dL_law_684 rfl (lv_at hl 0 rfl) ?_
  refine lv_iconst (v := 1) C.1 C.2.1 dL_law_685 (by decide) ?_
  refine k_iadd (v := 1) C (by decide) dL_law_686 ?_
  refine k_sld (v := y1) C hX hbl hbA Wd (vp_in_iff.mpr (by decide)) hy1 dL_law_687 ?_
  refine lv_aload_n C.1 C.2.1 dL_law_688 rfl (lv_at hl 3 rfl) ?_
  refine lv_iload_n C.1 C.2.1 dL_law_689 rfl (lv_at hl 0 rfl) ?_
  refine lv_iconst (v := 2) C.1 C.2.1 dL_law_690 (by decide) ?_
  refine k_iadd (v := 2) C (by decide) dL_law_691 ?_
  refine k_sld (v := y2) C hX hbl hbA Wd (vp_in_iff.mpr (by decide)) hy2 dL_law_692 ?_
  refine lv_aload_n C.1 C.2.1 dL_law_693 rfl (lv_at hl 3 rfl) ?_
  refine lv_iload_n C.1 C.2.1 dL_law_694 rfl (lv_at hl 0 rfl) ?_
  refine lv_iconst (v := 3) C.1 C.2.1 dL_law_695 (by decide) ?_
  refine k_iadd (v := 3) C (by decide) dL_law_696 ?_
  refine k_sld (v := y3) C hX hbl hbA Wd (vp_in_iff.mpr (by decide)) hy3 dL_law_697 ?_
  refine k_pi (k_runV (rest := []) C aks Wd cs_L_85 (kcX11_cut_v1 l D q5961 q5963 q5964 q5965 q5966 q5967 q5968 q5969 y1 y2 y3 (va_up (va_up (va_up (va_up (va_up (va_up (fun _ => none) 0 (some q5971)) 1 (some q5972)) 2 (some q5973)) 3 (some q5974)) 4 (some q5975)) 5 (some q5976)) e5970 _ c11509) [0, 1] rfl (by decide) [0] rfl 0 11 rfl rfl rfl rfl rfl ⟨(Nat.le_of_ble_eq_true rfl), (Nat.le_of_ble_eq_true rfl)⟩ hl.1 rfl rfl (Nat.le_of_ble_eq_true rfl) ⟨(Nat.le_of_ble_eq_true rfl), (Nat.le_of_ble_eq_true rfl)⟩ dL_law_698) (fun r w11653 => ?_)
  rcases w11653 with ⟨c11654, c11655, c11656, rfl⟩ | ⟨c11657, c11658, c11659, c11660, rfl⟩ | ⟨c11661, c11662, c11663, c11664, rfl⟩ | ⟨c11665, c11666, c11667, c11668, rfl⟩
  · refine lv_aload_n C.1 C.2.1 dL_law_701 rfl (lv_at hl 1 rfl) ?_
    refine lv_aload_n C.1 C.2.1 dL_law_702 rfl (lv_at hl 3 rfl) ?_
    refine lv_iload_n C.1 C.2.1 dL_law_703 rfl (lv_at hl 0 rfl) ?_
    refine lv_iconst (v := 1) C.1 C.2.1 dL_law_704 (by decide) ?_
    refine k_iadd (v := 1) C (by decide) dL_law_705 ?_
    refine k_sld (v := y1) C hX hbl hbA Wd (vp_in_iff.mpr (by decide)) hy1 dL_law_706 ?_
    refine lv_aload_n C.1 C.2.1 dL_law_707 rfl (lv_at hl 3 rfl) ?_
    refine lv_iload_n C.1 C.2.1 dL_law_708 rfl (lv_at hl 0 rfl) ?_
    refine lv_iconst (v := 2) C.1 C.2.1 dL_law_709 (by decide) ?_
    refine k_iadd (v := 2) C (by decide) dL_law_710 ?_
    refine k_sld (v := y2) C hX hbl hbA Wd (vp_in_iff.mpr (by decide)) hy2 dL_law_711 ?_
    refine lv_aload_n C.1 C.2.1 dL_law_712 rfl (lv_at hl 3 rfl) ?_
    refine lv_iload_n C.1 C.2.1 dL_law_713 rfl (lv_at hl 0 rfl) ?_
    refine lv_iconst (v := 3) C.1 C.2.1 dL_law_714 (by decide) ?_
    refine k_iadd (v := 3) C (by decide) dL_law_715 ?_
    refine k_sld (v := y3) C hX hbl hbA Wd (vp_in_iff.mpr (by decide)) hy3 dL_law_716 ?_
    refine k_ci Wd [9, 10] [0, 1, 2, 3, 4, 5, 6, 7, 8] rfl (wr := [(q5961, .inr (11, [.ref q5963, .int 0, .ref q5964, .ref q5965, .ref q5966, .ref q5967, .ref q5968, .ref q5969])), (q5963, .inl (e5970, 6, .inr (.inr (.inr (.inr (va_up (va_up (va_up (va_up (va_up (va_up (fun _ => none) 0 (some q5971)) 1 (some q5972)) 2 (some q5973)) 3 (some q5974)) 4 (some q5975)) 5 (some q5976))))))), (q5971, .inr (8, [.ref q5977, .int 0])), (q5972, .inr (8, [.ref q5978, .int 0])), (q5973, .inr (8, [.ref q5979, .int 0])), (q5974, .inr (8, [.ref q5980, .int 0])), (q5975, .inr (8, [.ref q5981, .int 0])), (q5976, .inr (8, [.ref q5982, .int 0])), (q5968, .inr (4, [.ref q6010, .ref q6011, .ref q6012, .int (-1), .int (-1), .ref q6013, .ref q6014, .ref q6015, .ref q6016, .ref q6017]))]) rfl (by decide) (by decide) (cells' := 271) (slots' := 91330) (by decide) (by decide) (k_runV (rest := [.int (-1)]) C aks Wd cs_L_88 (kcX12_cut l D q6104 q6106 q6107 q6108 q6109 q6110 q6111 q6112 q6113 q6114 q6115 q6116 q6117 q6118 q6119 q6120 q6121 q6122 q6123 q6124 q6125 q6126 q6127 q6128 q6129 q6130 y1 y2 y3 e6132 _ ) [9, 10] rfl (by decide) [1] rfl 9 12 rfl rfl rfl rfl rfl ⟨(Nat.le_of_ble_eq_true rfl), (Nat.le_of_ble_eq_true rfl)⟩ hl.1 rfl rfl (Nat.le_of_ble_eq_true rfl) ⟨(Nat.le_of_ble_eq_true rfl), (Nat.le_of_ble_eq_true rfl)⟩ dL_law_717) (fun r _ H locs w11669 Wd => ?_)
    have Wd : wX D [(e5970, .object RX8), (e6132, .int)] s [(q5961, .inr (11, [.ref q5963, .int 0, .ref q5964, .ref q5965, .ref q5966, .ref q5967, .ref q5968, .ref q5969])), (q5963, .inl (e5970, 6, .inr (.inr (.inr (.inr (va_up (va_up (va_up (va_up (va_up (va_up (fun _ => none) 0 (some q5971)) 1 (some q5972)) 2 (some q5973)) 3 (some q5974)) 4 (some q5975)) 5 (some q5976))))))), (q5971, .inr (8, [.ref q5977, .int 0])), (q5972, .inr (8, [.ref q5978, .int 0])), (q5973, .inr (8, [.ref q5979, .int 0])), (q5974, .inr (8, [.ref q5980, .int 0])), (q5975, .inr (8, [.ref q5981, .int 0])), (q5976, .inr (8, [.ref q5982, .int 0])), (q5968, .inr (4, [.ref q6010, .ref q6011, .ref q6012, .int (-1), .int (-1), .ref q6013, .ref q6014, .ref q6015, .ref q6016, .ref q6017]))] _ A s.heap _ := Wd
    rcases w11669 with ⟨c11670, rfl⟩ | ⟨c11671, c11672, rfl⟩ | ⟨c11673, c11674, c11675, rfl⟩ | ⟨c11676, c11677, c11678, c11679, rfl⟩ | ⟨c11680, c11681, c11682, c11683, c11684, rfl⟩ | ⟨c11685, c11686, c11687, c11688, c11689, c11690, rfl⟩ | ⟨c11691, c11692, c11693, c11694, c11695, c11696, rfl⟩
    · refine lv_icmp_eq (tgt := 801) C.1 C.2.1 dL_law_720 (by decide) (fun _ => ?_) (fun c11697 => absurd c11697 (by decide))
      exact tail _ _ _ (k_sub Wd [] rfl (by decide) [] rfl) (lv_sub hl [0, 3] rfl)
    · refine lv_icmp_eq (tgt := 801) C.1 C.2.1 dL_law_720 (by decide) (fun _ => ?_) (fun c11698 => absurd c11698 (by decide))
      exact tail _ _ _ (k_sub Wd [] rfl (by decide) [] rfl) (lv_sub hl [0, 3] rfl)
    · exact absurd c11675 c11372
    · refine lv_icmp_eq (tgt := 801) C.1 C.2.1 dL_law_720 (by decide) (fun _ => ?_) (fun c11699 => absurd c11699 (by decide))
      exact tail _ _ _ (k_sub Wd [] rfl (by decide) [] rfl) (lv_sub hl [0, 3] rfl)
    · exact False.elim (by have z0 := kz_nlt c11372; have z1 := kz_nlt c11509; have z2 := kz_nlt c11654; have z3 := kz_le c11655; have z4 := kz_nlt c11682; have z5 := kz_nlt c11683; have t0 : (0 : Int32).toInt = 0 := (by decide); have t6 : (6 : Int32).toInt = 6 := (by decide); have t5 : (5 : Int32).toInt = 5 := (by decide); omega)
    · exact False.elim (by have z0 := kz_nlt c11372; have z1 := kz_nlt c11509; have z2 := kz_nlt c11654; have z3 := kz_le c11655; have z4 := kz_nlt c11687; have z5 := kz_nlt c11688; have t0 : (0 : Int32).toInt = 0 := (by decide); have t6 : (6 : Int32).toInt = 6 := (by decide); have t5 : (5 : Int32).toInt = 5 := (by decide); omega)
    · exact False.elim (by have z0 := kz_nlt c11372; have z1 := kz_nlt c11509; have z2 := kz_nlt c11654; have z3 := kz_le c11655; have z4 := kz_nlt c11693; have z5 := kz_nlt c11694; have t0 : (0 : Int32).toInt = 0 := (by decide); have t6 : (6 : Int32).toInt = 6 := (by decide); have t5 : (5 : Int32).toInt = 5 := (by decide); omega)
  · refine lv_aload_n C.1 C.2.1 dL_law_701 rfl (lv_at hl 1 rfl) ?_
    refine lv_aload_n C.1 C.2.1 dL_law_702 rfl (lv_at hl 3 rfl) ?_
    refine lv_iload_n C.1 C.2.1 dL_law_703 rfl (lv_at hl 0 rfl) ?_
    refine lv_iconst (v := 1) C.1 C.2.1 dL_law_704 (by decide) ?_
    refine k_iadd (v := 1) C (by decide) dL_law_705 ?_
    refine k_sld (v := y1) C hX hbl hbA Wd (vp_in_iff.mpr (by decide)) hy1 dL_law_706 ?_
    refine lv_aload_n C.1 C.2.1 dL_law_707 rfl (lv_at hl 3 rfl) ?_
    refine lv_iload_n C.1 C.2.1 dL_law_708 rfl (lv_at hl 0 rfl) ?_
    refine lv_iconst (v := 2) C.1 C.2.1 dL_law_709 (by decide) ?_
    refine k_iadd (v := 2) C (by decide) dL_law_710 ?_
    refine k_sld (v := y2) C hX hbl hbA Wd (vp_in_iff.mpr (by decide)) hy2 dL_law_711 ?_
    refine lv_aload_n C.1 C.2.1 dL_law_712 rfl (lv_at hl 3 rfl) ?_
    refine lv_iload_n C.1 C.2.1 dL_law_713 rfl (lv_at hl 0 rfl) ?_
    refine lv_iconst (v := 3) C.1 C.2.1 dL_law_714 (by decide) ?_
    refine k_iadd (v := 3) C (by decide) dL_law_715 ?_
    refine k_sld (v := y3) C hX hbl hbA Wd (vp_in_iff.mpr (by decide)) hy3 dL_law_716 ?_
    refine k_ci Wd [9, 10] [0, 1, 2, 3, 4, 5, 6, 7, 8] rfl (wr := [(q5961, .inr (11, [.ref q5963, .int 0, .ref q5964, .ref q5965, .ref q5966, .ref q5967, .ref q5968, .ref q5969])), (q5963, .inl (e5970, 6, .inr (.inr (.inr (.inr (va_up (va_up (va_up (va_up (va_up (va_up (fun _ => none) 0 (some q5971)) 1 (some q5972)) 2 (some q5973)) 3 (some q5974)) 4 (some q5975)) 5 (some q5976))))))), (q5971, .inr (8, [.ref q5977, .int 0])), (q5972, .inr (8, [.ref q5978, .int 0])), (q5973, .inr (8, [.ref q5979, .int 0])), (q5974, .inr (8, [.ref q5980, .int 0])), (q5975, .inr (8, [.ref q5981, .int 0])), (q5976, .inr (8, [.ref q5982, .int 0])), (q5968, .inr (4, [.ref q6010, .ref q6011, .ref q6012, .int (-1), .int (-1), .ref q6013, .ref q6014, .ref q6015, .ref q6016, .ref q6017]))]) rfl (by decide) (by decide) (cells' := 271) (slots' := 91330) (by decide) (by decide) (k_runV (rest := [.int (-1)]) C aks Wd cs_L_88 (kcX12_cut l D q6104 q6106 q6107 q6108 q6109 q6110 q6111 q6112 q6113 q6114 q6115 q6116 q6117 q6118 q6119 q6120 q6121 q6122 q6123 q6124 q6125 q6126 q6127 q6128 q6129 q6130 y1 y2 y3 e6132 _ ) [9, 10] rfl (by decide) [1] rfl 9 12 rfl rfl rfl rfl rfl ⟨(Nat.le_of_ble_eq_true rfl), (Nat.le_of_ble_eq_true rfl)⟩ hl.1 rfl rfl (Nat.le_of_ble_eq_true rfl) ⟨(Nat.le_of_ble_eq_true rfl), (Nat.le_of_ble_eq_true rfl)⟩ dL_law_717) (fun r _ H locs w11700 Wd => ?_)
    have Wd : wX D [(e5970, .object RX8), (e6132, .int)] s [(q5961, .inr (11, [.ref q5963, .int 0, .ref q5964, .ref q5965, .ref q5966, .ref q5967, .ref q5968, .ref q5969])), (q5963, .inl (e5970, 6, .inr (.inr (.inr (.inr (va_up (va_up (va_up (va_up (va_up (va_up (fun _ => none) 0 (some q5971)) 1 (some q5972)) 2 (some q5973)) 3 (some q5974)) 4 (some q5975)) 5 (some q5976))))))), (q5971, .inr (8, [.ref q5977, .int 0])), (q5972, .inr (8, [.ref q5978, .int 0])), (q5973, .inr (8, [.ref q5979, .int 0])), (q5974, .inr (8, [.ref q5980, .int 0])), (q5975, .inr (8, [.ref q5981, .int 0])), (q5976, .inr (8, [.ref q5982, .int 0])), (q5968, .inr (4, [.ref q6010, .ref q6011, .ref q6012, .int (-1), .int (-1), .ref q6013, .ref q6014, .ref q6015, .ref q6016, .ref q6017]))] _ A s.heap _ := Wd
    rcases w11700 with ⟨c11701, rfl⟩ | ⟨c11702, c11703, rfl⟩ | ⟨c11704, c11705, c11706, rfl⟩ | ⟨c11707, c11708, c11709, c11710, rfl⟩ | ⟨c11711, c11712, c11713, c11714, c11715, rfl⟩ | ⟨c11716, c11717, c11718, c11719, c11720, c11721, rfl⟩ | ⟨c11722, c11723, c11724, c11725, c11726, c11727, rfl⟩
    · refine lv_icmp_eq (tgt := 801) C.1 C.2.1 dL_law_720 (by decide) (fun _ => ?_) (fun c11728 => absurd c11728 (by decide))
      exact tail _ _ _ (k_sub Wd [] rfl (by decide) [] rfl) (lv_sub hl [0, 3] rfl)
    · refine lv_icmp_eq (tgt := 801) C.1 C.2.1 dL_law_720 (by decide) (fun _ => ?_) (fun c11729 => absurd c11729 (by decide))
      exact tail _ _ _ (k_sub Wd [] rfl (by decide) [] rfl) (lv_sub hl [0, 3] rfl)
    · exact absurd c11706 c11372
    · refine lv_icmp_eq (tgt := 801) C.1 C.2.1 dL_law_720 (by decide) (fun _ => ?_) (fun c11730 => absurd c11730 (by decide))
      exact tail _ _ _ (k_sub Wd [] rfl (by decide) [] rfl) (lv_sub hl [0, 3] rfl)
    · exact False.elim (by have z0 := kz_nlt c11372; have z1 := kz_nlt c11509; have z2 := kz_nlt c11657; have z3 := kz_le c11658; have z4 := kz_nlt c11713; have z5 := kz_nlt c11714; have t0 : (0 : Int32).toInt = 0 := (by decide); have t6 : (6 : Int32).toInt = 6 := (by decide); have t5 : (5 : Int32).toInt = 5 := (by decide); omega)
    · exact False.elim (by have z0 := kz_nlt c11372; have z1 := kz_nlt c11509; have z2 := kz_nlt c11657; have z3 := kz_le c11658; have z4 := kz_nlt c11718; have z5 := kz_nlt c11719; have t0 : (0 : Int32).toInt = 0 := (by decide); have t6 : (6 : Int32).toInt = 6 := (by decide); have t5 : (5 : Int32).toInt = 5 := (by decide); omega)
    · exact False.elim (by have z0 := kz_nlt c11372; have z1 := kz_nlt c11509; have z2 := kz_nlt c11657; have z3 := kz_le c11658; have z4 := kz_nlt c11724; have z5 := kz_nlt c11725; have t0 : (0 : Int32).toInt = 0 := (by decide); have t6 : (6 : Int32).toInt = 6 := (by decide); have t5 : (5 : Int32).toInt = 5 := (by decide); omega)
  · refine lv_aload_n C.1 C.2.1 dL_law_701 rfl (lv_at hl 1 rfl) ?_
    refine lv_aload_n C.1 C.2.1 dL_law_702 rfl (lv_at hl 3 rfl) ?_
    refine lv_iload_n C.1 C.2.1 dL_law_703 rfl (lv_at hl 0 rfl) ?_
    refine lv_iconst (v := 1) C.1 C.2.1 dL_law_704 (by decide) ?_
    refine k_iadd (v := 1) C (by decide) dL_law_705 ?_
    refine k_sld (v := y1) C hX hbl hbA Wd (vp_in_iff.mpr (by decide)) hy1 dL_law_706 ?_
    refine lv_aload_n C.1 C.2.1 dL_law_707 rfl (lv_at hl 3 rfl) ?_
    refine lv_iload_n C.1 C.2.1 dL_law_708 rfl (lv_at hl 0 rfl) ?_
    refine lv_iconst (v := 2) C.1 C.2.1 dL_law_709 (by decide) ?_
    refine k_iadd (v := 2) C (by decide) dL_law_710 ?_
    refine k_sld (v := y2) C hX hbl hbA Wd (vp_in_iff.mpr (by decide)) hy2 dL_law_711 ?_
    refine lv_aload_n C.1 C.2.1 dL_law_712 rfl (lv_at hl 3 rfl) ?_
    refine lv_iload_n C.1 C.2.1 dL_law_713 rfl (lv_at hl 0 rfl) ?_
    refine lv_iconst (v := 3) C.1 C.2.1 dL_law_714 (by decide) ?_
    refine k_iadd (v := 3) C (by decide) dL_law_715 ?_
    refine k_sld (v := y3) C hX hbl hbA Wd (vp_in_iff.mpr (by decide)) hy3 dL_law_716 ?_
    refine k_ci Wd [9, 10] [0, 1, 2, 3, 4, 5, 6, 7, 8] rfl (wr := [(q5961, .inr (11, [.ref q5963, .int 0, .ref q5964, .ref q5965, .ref q5966, .ref q5967, .ref q5968, .ref q5969])), (q5963, .inl (e5970, 6, .inr (.inr (.inr (.inr (va_up (va_up (va_up (va_up (va_up (va_up (fun _ => none) 0 (some q5971)) 1 (some q5972)) 2 (some q5973)) 3 (some q5974)) 4 (some q5975)) 5 (some q5976))))))), (q5971, .inr (8, [.ref q5977, .int 0])), (q5972, .inr (8, [.ref q5978, .int 0])), (q5973, .inr (8, [.ref q5979, .int 0])), (q5974, .inr (8, [.ref q5980, .int 0])), (q5975, .inr (8, [.ref q5981, .int 0])), (q5976, .inr (8, [.ref q5982, .int 0])), (q5968, .inr (4, [.ref q6010, .ref q6011, .ref q6012, .int (-1), .int (-1), .ref q6013, .ref q6014, .ref q6015, .ref q6016, .ref q6017]))]) rfl (by decide) (by decide) (cells' := 271) (slots' := 91330) (by decide) (by decide) (k_runV (rest := [.int (-1)]) C aks Wd cs_L_88 (kcX12_cut l D q6104 q6106 q6107 q6108 q6109 q6110 q6111 q6112 q6113 q6114 q6115 q6116 q6117 q6118 q6119 q6120 q6121 q6122 q6123 q6124 q6125 q6126 q6127 q6128 q6129 q6130 y1 y2 y3 e6132 _ ) [9, 10] rfl (by decide) [1] rfl 9 12 rfl rfl rfl rfl rfl ⟨(Nat.le_of_ble_eq_true rfl), (Nat.le_of_ble_eq_true rfl)⟩ hl.1 rfl rfl (Nat.le_of_ble_eq_true rfl) ⟨(Nat.le_of_ble_eq_true rfl), (Nat.le_of_ble_eq_true rfl)⟩ dL_law_717) (fun r _ H locs w11731 Wd => ?_)
    have Wd : wX D [(e5970, .object RX8), (e6132, .int)] s [(q5961, .inr (11, [.ref q5963, .int 0, .ref q5964, .ref q5965, .ref q5966, .ref q5967, .ref q5968, .ref q5969])), (q5963, .inl (e5970, 6, .inr (.inr (.inr (.inr (va_up (va_up (va_up (va_up (va_up (va_up (fun _ => none) 0 (some q5971)) 1 (some q5972)) 2 (some q5973)) 3 (some q5974)) 4 (some q5975)) 5 (some q5976))))))), (q5971, .inr (8, [.ref q5977, .int 0])), (q5972, .inr (8, [.ref q5978, .int 0])), (q5973, .inr (8, [.ref q5979, .int 0])), (q5974, .inr (8, [.ref q5980, .int 0])), (q5975, .inr (8, [.ref q5981, .int 0])), (q5976, .inr (8, [.ref q5982, .int 0])), (q5968, .inr (4, [.ref q6010, .ref q6011, .ref q6012, .int (-1), .int (-1), .ref q6013, .ref q6014, .ref q6015, .ref q6016, .ref q6017]))] _ A s.heap _ := Wd
    rcases w11731 with ⟨c11732, rfl⟩ | ⟨c11733, c11734, rfl⟩ | ⟨c11735, c11736, c11737, rfl⟩ | ⟨c11738, c11739, c11740, c11741, rfl⟩ | ⟨c11742, c11743, c11744, c11745, c11746, rfl⟩ | ⟨c11747, c11748, c11749, c11750, c11751, c11752, rfl⟩ | ⟨c11753, c11754, c11755, c11756, c11757, c11758, rfl⟩
    · refine lv_icmp_eq (tgt := 801) C.1 C.2.1 dL_law_720 (by decide) (fun _ => ?_) (fun c11759 => absurd c11759 (by decide))
      exact tail _ _ _ (k_sub Wd [] rfl (by decide) [] rfl) (lv_sub hl [0, 3] rfl)
    · refine lv_icmp_eq (tgt := 801) C.1 C.2.1 dL_law_720 (by decide) (fun _ => ?_) (fun c11760 => absurd c11760 (by decide))
      exact tail _ _ _ (k_sub Wd [] rfl (by decide) [] rfl) (lv_sub hl [0, 3] rfl)
    · exact absurd c11737 c11372
    · refine lv_icmp_eq (tgt := 801) C.1 C.2.1 dL_law_720 (by decide) (fun _ => ?_) (fun c11761 => absurd c11761 (by decide))
      exact tail _ _ _ (k_sub Wd [] rfl (by decide) [] rfl) (lv_sub hl [0, 3] rfl)
    · exact False.elim (by have z0 := kz_nlt c11372; have z1 := kz_nlt c11509; have z2 := kz_nlt c11661; have z3 := kz_le c11662; have z4 := kz_nlt c11744; have z5 := kz_nlt c11745; have t0 : (0 : Int32).toInt = 0 := (by decide); have t6 : (6 : Int32).toInt = 6 := (by decide); have t5 : (5 : Int32).toInt = 5 := (by decide); omega)
    · exact False.elim (by have z0 := kz_nlt c11372; have z1 := kz_nlt c11509; have z2 := kz_nlt c11661; have z3 := kz_le c11662; have z4 := kz_nlt c11749; have z5 := kz_nlt c11750; have t0 : (0 : Int32).toInt = 0 := (by decide); have t6 : (6 : Int32).toInt = 6 := (by decide); have t5 : (5 : Int32).toInt = 5 := (by decide); omega)
    · exact False.elim (by have z0 := kz_nlt c11372; have z1 := kz_nlt c11509; have z2 := kz_nlt c11661; have z3 := kz_le c11662; have z4 := kz_nlt c11755; have z5 := kz_nlt c11756; have t0 : (0 : Int32).toInt = 0 := (by decide); have t6 : (6 : Int32).toInt = 6 := (by decide); have t5 : (5 : Int32).toInt = 5 := (by decide); omega)
  · refine lv_aload_n C.1 C.2.1 dL_law_701 rfl (lv_at hl 1 rfl) ?_
    refine lv_aload_n C.1 C.2.1 dL_law_702 rfl (lv_at hl 3 rfl) ?_
    refine lv_iload_n C.1 C.2.1 dL_law_703 rfl (lv_at hl 0 rfl) ?_
    refine lv_iconst (v := 1) C.1 C.2.1 dL_law_704 (by decide) ?_
    refine k_iadd (v := 1) C (by decide) dL_law_705 ?_
    refine k_sld (v := y1) C hX hbl hbA Wd (vp_in_iff.mpr (by decide)) hy1 dL_law_706 ?_
    refine lv_aload_n C.1 C.2.1 dL_law_707 rfl (lv_at hl 3 rfl) ?_
    refine lv_iload_n C.1 C.2.1 dL_law_708 rfl (lv_at hl 0 rfl) ?_
    refine lv_iconst (v := 2) C.1 C.2.1 dL_law_709 (by decide) ?_
    refine k_iadd (v := 2) C (by decide) dL_law_710 ?_
    refine k_sld (v := y2) C hX hbl hbA Wd (vp_in_iff.mpr (by decide)) hy2 dL_law_711 ?_
    refine lv_aload_n C.1 C.2.1 dL_law_712 rfl (lv_at hl 3 rfl) ?_
    refine lv_iload_n C.1 C.2.1 dL_law_713 rfl (lv_at hl 0 rfl) ?_
    refine lv_iconst (v := 3) C.1 C.2.1 dL_law_714 (by decide) ?_
    refine k_iadd (v := 3) C (by decide) dL_law_715 ?_
    refine k_sld (v := y3) C hX hbl hbA Wd (vp_in_iff.mpr (by decide)) hy3 dL_law_716 ?_
    refine k_ci Wd [9, 10] [0, 1, 2, 3, 4, 5, 6, 7, 8] rfl (wr := [(q5961, .inr (11, [.ref q5963, .int 0, .ref q5964, .ref q5965, .ref q5966, .ref q5967, .ref q5968, .ref q5969])), (q5963, .inl (e5970, 6, .inr (.inr (.inr (.inr (va_up (va_up (va_up (va_up (va_up (va_up (fun _ => none) 0 (some q5971)) 1 (some q5972)) 2 (some q5973)) 3 (some q5974)) 4 (some q5975)) 5 (some q5976))))))), (q5971, .inr (8, [.ref q5977, .int 0])), (q5972, .inr (8, [.ref q5978, .int 0])), (q5973, .inr (8, [.ref q5979, .int 0])), (q5974, .inr (8, [.ref q5980, .int 0])), (q5975, .inr (8, [.ref q5981, .int 0])), (q5976, .inr (8, [.ref q5982, .int 0])), (q5968, .inr (4, [.ref q6010, .ref q6011, .ref q6012, .int (-1), .int (-1), .ref q6013, .ref q6014, .ref q6015, .ref q6016, .ref q6017]))]) rfl (by decide) (by decide) (cells' := 271) (slots' := 91330) (by decide) (by decide) (k_runV (rest := [.int (-1)]) C aks Wd cs_L_88 (kcX12_cut l D q6104 q6106 q6107 q6108 q6109 q6110 q6111 q6112 q6113 q6114 q6115 q6116 q6117 q6118 q6119 q6120 q6121 q6122 q6123 q6124 q6125 q6126 q6127 q6128 q6129 q6130 y1 y2 y3 e6132 _ ) [9, 10] rfl (by decide) [1] rfl 9 12 rfl rfl rfl rfl rfl ⟨(Nat.le_of_ble_eq_true rfl), (Nat.le_of_ble_eq_true rfl)⟩ hl.1 rfl rfl (Nat.le_of_ble_eq_true rfl) ⟨(Nat.le_of_ble_eq_true rfl), (Nat.le_of_ble_eq_true rfl)⟩ dL_law_717) (fun r _ H locs w11762 Wd => ?_)
    have Wd : wX D [(e5970, .object RX8), (e6132, .int)] s [(q5961, .inr (11, [.ref q5963, .int 0, .ref q5964, .ref q5965, .ref q5966, .ref q5967, .ref q5968, .ref q5969])), (q5963, .inl (e5970, 6, .inr (.inr (.inr (.inr (va_up (va_up (va_up (va_up (va_up (va_up (fun _ => none) 0 (some q5971)) 1 (some q5972)) 2 (some q5973)) 3 (some q5974)) 4 (some q5975)) 5 (some q5976))))))), (q5971, .inr (8, [.ref q5977, .int 0])), (q5972, .inr (8, [.ref q5978, .int 0])), (q5973, .inr (8, [.ref q5979, .int 0])), (q5974, .inr (8, [.ref q5980, .int 0])), (q5975, .inr (8, [.ref q5981, .int 0])), (q5976, .inr (8, [.ref q5982, .int 0])), (q5968, .inr (4, [.ref q6010, .ref q6011, .ref q6012, .int (-1), .int (-1), .ref q6013, .ref q6014, .ref q6015, .ref q6016, .ref q6017]))] _ A s.heap _ := Wd
    rcases w11762 with ⟨c11763, rfl⟩ | ⟨c11764, c11765, rfl⟩ | ⟨c11766, c11767, c11768, rfl⟩ | ⟨c11769, c11770, c11771, c11772, rfl⟩ | ⟨c11773, c11774, c11775, c11776, c11777, rfl⟩ | ⟨c11778, c11779, c11780, c11781, c11782, c11783, rfl⟩ | ⟨c11784, c11785, c11786, c11787, c11788, c11789, rfl⟩
    · refine lv_icmp_eq (tgt := 801) C.1 C.2.1 dL_law_720 (by decide) (fun _ => ?_) (fun c11790 => absurd c11790 (by decide))
      exact tail _ _ _ (k_sub Wd [] rfl (by decide) [] rfl) (lv_sub hl [0, 3] rfl)
    · refine lv_icmp_eq (tgt := 801) C.1 C.2.1 dL_law_720 (by decide) (fun _ => ?_) (fun c11791 => absurd c11791 (by decide))
      exact tail _ _ _ (k_sub Wd [] rfl (by decide) [] rfl) (lv_sub hl [0, 3] rfl)
    · exact absurd c11768 c11372
    · refine lv_icmp_eq (tgt := 801) C.1 C.2.1 dL_law_720 (by decide) (fun _ => ?_) (fun c11792 => absurd c11792 (by decide))
      exact tail _ _ _ (k_sub Wd [] rfl (by decide) [] rfl) (lv_sub hl [0, 3] rfl)
    · exact False.elim (by have z0 := kz_nlt c11372; have z1 := kz_nlt c11509; have z2 := kz_nlt c11665; have z3 := kz_le c11666; have z4 := kz_nlt c11775; have z5 := kz_nlt c11776; have t0 : (0 : Int32).toInt = 0 := (by decide); have t6 : (6 : Int32).toInt = 6 := (by decide); have t5 : (5 : Int32).toInt = 5 := (by decide); omega)
    · exact False.elim (by have z0 := kz_nlt c11372; have z1 := kz_nlt c11509; have z2 := kz_nlt c11665; have z3 := kz_le c11666; have z4 := kz_nlt c11780; have z5 := kz_nlt c11781; have t0 : (0 : Int32).toInt = 0 := (by decide); have t6 : (6 : Int32).toInt = 6 := (by decide); have t5 : (5 : Int32).toInt = 5 := (by decide); omega)
    · exact False.elim (by have z0 := kz_nlt c11372; have z1 := kz_nlt c11509; have z2 := kz_nlt c11665; have z3 := kz_le c11666; have z4 := kz_nlt c11786; have z5 := kz_nlt c11787; have t0 : (0 : Int32).toInt = 0 := (by decide); have t6 : (6 : Int32).toInt = 6 := (by decide); have t5 : (5 : Int32).toInt = 5 := (by decide); omega)
