set_option maxHeartbeats 4000000 in
set_option maxRecDepth 100000 in
theorem law_registers {p : Program} {l : Launch} {e : Env} {s : State} {m : MethodId} {below : List Frame} {meth : Method} {c : Code} {b : Nat} {xs : Nat → Int32} {D : va_G} {A : Nat → Prop} {e5970 : ClassId} {e6100 : ClassId} {e6101 : ClassId} {e6102 : ClassId} {e6103 : ClassId} {e6132 : ClassId} {e6154 : ClassId} {e6155 : ClassId} {q5961 : Nat} {q5963 : Nat} {q5964 : Nat} {q5965 : Nat} {q5966 : Nat} {q5967 : Nat} {q5968 : Nat} {q5969 : Nat} {q5971 : Nat} {q5972 : Nat} {q5973 : Nat} {q5974 : Nat} {q5975 : Nat} {q5976 : Nat} {q5977 : Nat} {q5978 : Nat} {q5979 : Nat} {q5980 : Nat} {q5981 : Nat} {q5982 : Nat} {q6083 : Nat} {q6084 : Nat} {q6085 : Nat} {q6086 : Nat} {q6087 : Nat} {q6088 : Nat} {q6089 : Nat} {q6090 : Nat} {q6091 : Nat} {q6092 : Nat} {q6093 : Nat} {q6094 : Nat} {q6095 : Nat} {q6096 : Nat} {q6097 : Nat} {q6098 : Nat} {q6099 : Nat} {q6104 : Nat} {q6106 : Nat} {q6107 : Nat} {q6108 : Nat} {q6109 : Nat} {q6110 : Nat} {q6111 : Nat} {q6112 : Nat} {q6113 : Nat} {q6114 : Nat} {q6115 : Nat} {q6116 : Nat} {q6117 : Nat} {q6118 : Nat} {q6119 : Nat} {q6120 : Nat} {q6121 : Nat} {q6122 : Nat} {q6123 : Nat} {q6124 : Nat} {q6125 : Nat} {q6126 : Nat} {q6127 : Nat} {q6128 : Nat} {q6129 : Nat} {q6130 : Nat} {y1 : Int32} (hy1 : xs 1 = y1) {y2 : Int32} (hy2 : xs 2 = y2) {H : Heap} {locs : List Loc} {ls : Array Slot} (C : CallFix p m c cL_law 4 s #[Value.ref b] gG RL) (aks : aK s) (hX : va_X b 6 xs s s.heap) (hbl : b < s.heap.size) (hbA : ¬ A b) (hrt : meth.sig.returnType = ret) (hlocks : meth.locks = false) (hAe : A = fun q => s.heap.size ≤ q) (tail : (∀ (H : Heap) (locs : List Loc) (ls : Array Slot), wX D [] s [] H A s.heap locs → lv_has ls 4 [(3, .int 0), (0, .ref b)] → W p l e room_1 s m #[Value.ref b] below meth c H locs 271 91330 (lw_Z below #[Value.ref b] s) (F0 m 801 ls []))) (Wd : wX D [(e5970, .object RX8), (e6100, .int), (e6101, .int), (e6102, .int), (e6103, .int), (e6132, .int), (e6154, .int), (e6155, .int)] s [(q5961, .inr (11, [.ref q5963, .int 0, .ref q5964, .ref q5965, .ref q5966, .ref q5967, .ref q5968, .ref q5969])), (q5963, .inl (e5970, 6, .inr (.inr (.inr (.inr (va_up (va_up (va_up (va_up (va_up (va_up (fun _ => none) 0 (some q5971)) 1 (some q5972)) 2 (some q5973)) 3 (some q5974)) 4 (some q5975)) 5 (some q5976))))))), (q5971, .inr (8, [.ref q5977, .int 0])), (q5972, .inr (8, [.ref q5978, .int 0])), (q5973, .inr (8, [.ref q5979, .int 0])), (q5974, .inr (8, [.ref q5980, .int 0])), (q5975, .inr (8, [.ref q5981, .int 0])), (q5976, .inr (8, [.ref q5982, .int 0])), (q5969, .inr (7, [.ref q6083, .ref q6084, .ref q6085, .ref q6086, .int 0])), (q6083, .inr (1, [.ref q6087, .int 0, .ref q6088, .ref q6089, .ref q6090, .ref q6091, .ref q6092, .ref q6093, .ref q6094, .ref q6095, .ref q6096, .ref q6097, .ref q6098, .ref q6099])), (q6099, .inl (e6100, 480, .inl (fun _ => 0))), (q6084, .inl (e6101, 6, .inl (fun _ => 0))), (q6085, .inl (e6102, 6, .inl (fun _ => 0))), (q6086, .inl (e6103, 6, .inl (fun _ => 0))), (q6104, .inr (12, [.ref q6106, .ref q6107, .ref q6108, .ref q6109, .int 0, .int 0, .ref q6110, .int 0, .int 0, .int 0, .int 0, .int 0, .int 0, .int 0, .int 0, .int 0, .int 0, .int 0, .int 0, .int 0, .int (-1), .int 0, .int 0, .int 0, .ref q6111, .ref q6112, .ref q6113, .ref q6114, .ref q6115, .ref q6116, .int 0, .int 0, .int 0, .int 0, .ref q6117, .ref q6118, .ref q6119, .int 0, .int 0, .int 0, .int 0, .ref q6120, .ref q6121, .int 0, .ref q6122, .ref q6123, .int 0, .ref q6124, .int 0, .ref q6125, .ref q6126, .ref q6127, .int 0, .ref q6128, .ref q6129, .ref q6130])), (q6107, .inl (e6132, 6, .inl (fun _ => 0))), (q6129, .inl (e6154, 6, .inl (fun _ => 0))), (q6130, .inl (e6155, 6, .inl (fun _ => 0)))] H A s.heap locs) (hl : lv_has ls 4 [(3, .int 0), (2, .ref q6104), (1, .ref q5961), (0, .ref b)]) : W p l e room_1 s m #[Value.ref b] below meth c H locs 271 91330 (lw_Z below #[Value.ref b] s) (F0 m 725 ls []) := by
  by_cases c11793 : y1 < 0
  · refine lv_aload_n C.1 C.2.1 dL_law_725 rfl (lv_at hl 2 rfl) ?_
    refine lv_aload_n C.1 C.2.1 dL_law_726 rfl (lv_at hl 3 rfl) ?_
    refine lv_iload_n C.1 C.2.1 dL_law_727 rfl (lv_at hl 0 rfl) ?_
    refine lv_iconst (v := 1) C.1 C.2.1 dL_law_728 (by decide) ?_
    refine k_iadd (v := 1) C (by decide) dL_law_729 ?_
    refine k_sld (v := y1) C hX hbl hbA Wd (vp_in_iff.mpr (by decide)) hy1 dL_law_730 ?_
    refine lv_aload_n C.1 C.2.1 dL_law_731 rfl (lv_at hl 3 rfl) ?_
    refine lv_iload_n C.1 C.2.1 dL_law_732 rfl (lv_at hl 0 rfl) ?_
    refine lv_iconst (v := 2) C.1 C.2.1 dL_law_733 (by decide) ?_
    refine k_iadd (v := 2) C (by decide) dL_law_734 ?_
    refine k_sld (v := y2) C hX hbl hbA Wd (vp_in_iff.mpr (by decide)) hy2 dL_law_735 ?_
    refine k_pi (k_runV (rest := []) C aks Wd cs_L_89 (kcX11_registers l D q5961 q5963 q5964 q5965 q5966 q5967 q5968 q5969 y1 y2 (va_up (va_up (va_up (va_up (va_up (va_up (fun _ => none) 0 (some q5971)) 1 (some q5972)) 2 (some q5973)) 3 (some q5974)) 4 (some q5975)) 5 (some q5976)) e5970 _ c11793) [0, 1] rfl (by decide) [0] rfl 0 11 rfl rfl rfl rfl rfl ⟨(Nat.le_of_ble_eq_true rfl), (Nat.le_of_ble_eq_true rfl)⟩ hl.1 rfl rfl (Nat.le_of_ble_eq_true rfl) ⟨(Nat.le_of_ble_eq_true rfl), (Nat.le_of_ble_eq_true rfl)⟩ dL_law_736) (fun r w11794 => ?_)
    obtain ⟨c11795, rfl⟩ := w11794
    refine lv_aload_n C.1 C.2.1 dL_law_739 rfl (lv_at hl 1 rfl) ?_
    refine lv_aload_n C.1 C.2.1 dL_law_740 rfl (lv_at hl 3 rfl) ?_
    refine lv_iload_n C.1 C.2.1 dL_law_741 rfl (lv_at hl 0 rfl) ?_
    refine lv_iconst (v := 1) C.1 C.2.1 dL_law_742 (by decide) ?_
    refine k_iadd (v := 1) C (by decide) dL_law_743 ?_
    refine k_sld (v := y1) C hX hbl hbA Wd (vp_in_iff.mpr (by decide)) hy1 dL_law_744 ?_
    refine lv_aload_n C.1 C.2.1 dL_law_745 rfl (lv_at hl 3 rfl) ?_
    refine lv_iload_n C.1 C.2.1 dL_law_746 rfl (lv_at hl 0 rfl) ?_
    refine lv_iconst (v := 2) C.1 C.2.1 dL_law_747 (by decide) ?_
    refine k_iadd (v := 2) C (by decide) dL_law_748 ?_
    refine k_sld (v := y2) C hX hbl hbA Wd (vp_in_iff.mpr (by decide)) hy2 dL_law_749 ?_
    refine k_ci Wd [14, 15, 16, 17] [0, 1, 2, 3, 4, 5, 6, 7, 8, 9, 10, 11, 12, 13] rfl (wr := [(q5961, .inr (11, [.ref q5963, .int 0, .ref q5964, .ref q5965, .ref q5966, .ref q5967, .ref q5968, .ref q5969])), (q5963, .inl (e5970, 6, .inr (.inr (.inr (.inr (va_up (va_up (va_up (va_up (va_up (va_up (fun _ => none) 0 (some q5971)) 1 (some q5972)) 2 (some q5973)) 3 (some q5974)) 4 (some q5975)) 5 (some q5976))))))), (q5971, .inr (8, [.ref q5977, .int 0])), (q5972, .inr (8, [.ref q5978, .int 0])), (q5973, .inr (8, [.ref q5979, .int 0])), (q5974, .inr (8, [.ref q5980, .int 0])), (q5975, .inr (8, [.ref q5981, .int 0])), (q5976, .inr (8, [.ref q5982, .int 0])), (q5969, .inr (7, [.ref q6083, .ref q6084, .ref q6085, .ref q6086, .int 0])), (q6083, .inr (1, [.ref q6087, .int 0, .ref q6088, .ref q6089, .ref q6090, .ref q6091, .ref q6092, .ref q6093, .ref q6094, .ref q6095, .ref q6096, .ref q6097, .ref q6098, .ref q6099])), (q6099, .inl (e6100, 480, .inl (fun _ => 0))), (q6084, .inl (e6101, 6, .inl (fun _ => 0))), (q6085, .inl (e6102, 6, .inl (fun _ => 0))), (q6086, .inl (e6103, 6, .inl (fun _ => 0)))]) rfl (by decide) (by decide) (cells' := 271) (slots' := 91330) (by decide) (by decide) (k_runV (rest := [.int (-1)]) C aks Wd cs_L_92 (kcX12_registers l D q6104 q6106 q6107 q6108 q6109 q6110 q6111 q6112 q6113 q6114 q6115 q6116 q6117 q6118 q6119 q6120 q6121 q6122 q6123 q6124 q6125 q6126 q6127 q6128 q6129 q6130 y1 y2 e6132 e6154 e6155 _ ) [14, 15, 16, 17] rfl (by decide) [5, 6, 7] rfl 14 12 rfl rfl rfl rfl rfl ⟨(Nat.le_of_ble_eq_true rfl), (Nat.le_of_ble_eq_true rfl)⟩ hl.1 rfl rfl (Nat.le_of_ble_eq_true rfl) ⟨(Nat.le_of_ble_eq_true rfl), (Nat.le_of_ble_eq_true rfl)⟩ dL_law_750) (fun r _ H locs w11796 Wd => ?_)
    have Wd : wX D [(e5970, .object RX8), (e6100, .int), (e6101, .int), (e6102, .int), (e6103, .int), (e6132, .int), (e6154, .int), (e6155, .int)] s [(q5961, .inr (11, [.ref q5963, .int 0, .ref q5964, .ref q5965, .ref q5966, .ref q5967, .ref q5968, .ref q5969])), (q5963, .inl (e5970, 6, .inr (.inr (.inr (.inr (va_up (va_up (va_up (va_up (va_up (va_up (fun _ => none) 0 (some q5971)) 1 (some q5972)) 2 (some q5973)) 3 (some q5974)) 4 (some q5975)) 5 (some q5976))))))), (q5971, .inr (8, [.ref q5977, .int 0])), (q5972, .inr (8, [.ref q5978, .int 0])), (q5973, .inr (8, [.ref q5979, .int 0])), (q5974, .inr (8, [.ref q5980, .int 0])), (q5975, .inr (8, [.ref q5981, .int 0])), (q5976, .inr (8, [.ref q5982, .int 0])), (q5969, .inr (7, [.ref q6083, .ref q6084, .ref q6085, .ref q6086, .int 0])), (q6083, .inr (1, [.ref q6087, .int 0, .ref q6088, .ref q6089, .ref q6090, .ref q6091, .ref q6092, .ref q6093, .ref q6094, .ref q6095, .ref q6096, .ref q6097, .ref q6098, .ref q6099])), (q6099, .inl (e6100, 480, .inl (fun _ => 0))), (q6084, .inl (e6101, 6, .inl (fun _ => 0))), (q6085, .inl (e6102, 6, .inl (fun _ => 0))), (q6086, .inl (e6103, 6, .inl (fun _ => 0)))] _ A s.heap _ := Wd
    rcases w11796 with ⟨c11797, rfl⟩ | ⟨c11798, c11799, rfl⟩ | ⟨c11800, c11801, c11802, rfl⟩ | ⟨c11803, c11804, c11805, c11806, c11807, rfl⟩ | ⟨c11808, c11809, c11810, c11811, c11812, c11813, rfl⟩ | ⟨c11814, c11815, c11816, c11817, c11818, c11819, c11820, rfl⟩ | ⟨c11821, c11822, c11823, c11824, c11825, c11826, c11827, rfl⟩ | ⟨c11828, c11829, c11830, c11831, c11832, rfl⟩
    · refine lv_icmp_eq (tgt := 801) C.1 C.2.1 dL_law_753 (by decide) (fun _ => ?_) (fun c11833 => absurd c11833 (by decide))
      exact tail _ _ _ (k_sub Wd [] rfl (by decide) [] rfl) (lv_sub hl [0, 3] rfl)
    · exact absurd c11793 c11798
    · exact absurd c11793 c11800
    · exact absurd c11793 c11803
    · exact absurd c11793 c11808
    · exact absurd c11793 c11814
    · exact absurd c11793 c11821
    · exact absurd c11793 c11828
  by_cases c11834 : y1 < 6
  · have hsel : ∃ (q11835 q11836 : Nat), (va_up (va_up (va_up (va_up (va_up (va_up (fun _ => none) 0 (some q5971)) 1 (some q5972)) 2 (some q5973)) 3 (some q5974)) 4 (some q5975)) 5 (some q5976)) y1.toNatClampNeg = some q11835 ∧ wX D [(e5970, .object RX8), (e6100, .int), (e6101, .int), (e6102, .int), (e6103, .int), (e6132, .int), (e6154, .int), (e6155, .int)] s [(q5961, .inr (11, [.ref q5963, .int 0, .ref q5964, .ref q5965, .ref q5966, .ref q5967, .ref q5968, .ref q5969])), (q5963, .inl (e5970, 6, .inr (.inr (.inr (.inr (va_up (va_up (va_up (va_up (va_up (va_up (fun _ => none) 0 (some q5971)) 1 (some q5972)) 2 (some q5973)) 3 (some q5974)) 4 (some q5975)) 5 (some q5976))))))), (q5969, .inr (7, [.ref q6083, .ref q6084, .ref q6085, .ref q6086, .int 0])), (q6083, .inr (1, [.ref q6087, .int 0, .ref q6088, .ref q6089, .ref q6090, .ref q6091, .ref q6092, .ref q6093, .ref q6094, .ref q6095, .ref q6096, .ref q6097, .ref q6098, .ref q6099])), (q6099, .inl (e6100, 480, .inl (fun _ => 0))), (q6084, .inl (e6101, 6, .inl (fun _ => 0))), (q6085, .inl (e6102, 6, .inl (fun _ => 0))), (q6086, .inl (e6103, 6, .inl (fun _ => 0))), (q6104, .inr (12, [.ref q6106, .ref q6107, .ref q6108, .ref q6109, .int 0, .int 0, .ref q6110, .int 0, .int 0, .int 0, .int 0, .int 0, .int 0, .int 0, .int 0, .int 0, .int 0, .int 0, .int 0, .int 0, .int (-1), .int 0, .int 0, .int 0, .ref q6111, .ref q6112, .ref q6113, .ref q6114, .ref q6115, .ref q6116, .int 0, .int 0, .int 0, .int 0, .ref q6117, .ref q6118, .ref q6119, .int 0, .int 0, .int 0, .int 0, .ref q6120, .ref q6121, .int 0, .ref q6122, .ref q6123, .int 0, .ref q6124, .int 0, .ref q6125, .ref q6126, .ref q6127, .int 0, .ref q6128, .ref q6129, .ref q6130])), (q6107, .inl (e6132, 6, .inl (fun _ => 0))), (q6129, .inl (e6154, 6, .inl (fun _ => 0))), (q6130, .inl (e6155, 6, .inl (fun _ => 0))), (q11835, .inr (8, [.ref q11836, .int 0]))] H A s.heap locs := by
      rcases kf6 c11793 c11834 with rfl | rfl | rfl | rfl | rfl | rfl
      · exact ⟨q5971, q5977, rfl, k_sub Wd [0, 1, 8, 9, 10, 11, 12, 13, 14, 15, 16, 17, 2] rfl (by decide) [0, 1, 2, 3, 4, 5, 6, 7] rfl⟩
      · exact ⟨q5972, q5978, rfl, k_sub Wd [0, 1, 8, 9, 10, 11, 12, 13, 14, 15, 16, 17, 3] rfl (by decide) [0, 1, 2, 3, 4, 5, 6, 7] rfl⟩
      · exact ⟨q5973, q5979, rfl, k_sub Wd [0, 1, 8, 9, 10, 11, 12, 13, 14, 15, 16, 17, 4] rfl (by decide) [0, 1, 2, 3, 4, 5, 6, 7] rfl⟩
      · exact ⟨q5974, q5980, rfl, k_sub Wd [0, 1, 8, 9, 10, 11, 12, 13, 14, 15, 16, 17, 5] rfl (by decide) [0, 1, 2, 3, 4, 5, 6, 7] rfl⟩
      · exact ⟨q5975, q5981, rfl, k_sub Wd [0, 1, 8, 9, 10, 11, 12, 13, 14, 15, 16, 17, 6] rfl (by decide) [0, 1, 2, 3, 4, 5, 6, 7] rfl⟩
      · exact ⟨q5976, q5982, rfl, k_sub Wd [0, 1, 8, 9, 10, 11, 12, 13, 14, 15, 16, 17, 7] rfl (by decide) [0, 1, 2, 3, 4, 5, 6, 7] rfl⟩
    obtain ⟨q11835, q11836, hk11837, Wd⟩ := hsel
    refine lv_aload_n C.1 C.2.1 dL_law_725 rfl (lv_at hl 2 rfl) ?_
    refine lv_aload_n C.1 C.2.1 dL_law_726 rfl (lv_at hl 3 rfl) ?_
    refine lv_iload_n C.1 C.2.1 dL_law_727 rfl (lv_at hl 0 rfl) ?_
    refine lv_iconst (v := 1) C.1 C.2.1 dL_law_728 (by decide) ?_
    refine k_iadd (v := 1) C (by decide) dL_law_729 ?_
    refine k_sld (v := y1) C hX hbl hbA Wd (vp_in_iff.mpr (by decide)) hy1 dL_law_730 ?_
    refine lv_aload_n C.1 C.2.1 dL_law_731 rfl (lv_at hl 3 rfl) ?_
    refine lv_iload_n C.1 C.2.1 dL_law_732 rfl (lv_at hl 0 rfl) ?_
    refine lv_iconst (v := 2) C.1 C.2.1 dL_law_733 (by decide) ?_
    refine k_iadd (v := 2) C (by decide) dL_law_734 ?_
    refine k_sld (v := y2) C hX hbl hbA Wd (vp_in_iff.mpr (by decide)) hy2 dL_law_735 ?_
    refine k_ci Wd [0, 1, 2, 3, 12, 4, 5, 6, 7] [8, 9, 10, 11] rfl (wr := [(q6104, .inr (12, [.ref q6106, .ref q6107, .ref q6108, .ref q6109, .int 0, .int 0, .ref q6110, .int 0, .int 0, .int 0, .int 0, .int 0, .int 0, .int 0, .int 0, .int 0, .int 0, .int 0, .int 0, .int 0, .int (-1), .int 0, .int 0, .int 0, .ref q6111, .ref q6112, .ref q6113, .ref q6114, .ref q6115, .ref q6116, .int 0, .int 0, .int 0, .int 0, .ref q6117, .ref q6118, .ref q6119, .int 0, .int 0, .int 0, .int 0, .ref q6120, .ref q6121, .int 0, .ref q6122, .ref q6123, .int 0, .ref q6124, .int 0, .ref q6125, .ref q6126, .ref q6127, .int 0, .ref q6128, .ref q6129, .ref q6130])), (q6107, .inl (e6132, 6, .inl (fun _ => 0))), (q6129, .inl (e6154, 6, .inl (fun _ => 0))), (q6130, .inl (e6155, 6, .inl (fun _ => 0)))]) rfl (by decide) (by decide) (cells' := 271) (slots' := 91330) (by decide) (by decide) (k_runV (rest := []) C aks Wd cs_L_89 (kcX11_registers_v2 l D q5961 q5963 q5964 q5965 q5966 q5967 q5968 q5969 q11835 q6083 q6084 q6085 q6086 q11836 q6087 q6088 q6089 q6090 q6091 q6092 q6093 q6094 q6095 q6096 q6097 q6098 q6099 y1 y2 (va_up (va_up (va_up (va_up (va_up (va_up (fun _ => none) 0 (some q5971)) 1 (some q5972)) 2 (some q5973)) 3 (some q5974)) 4 (some q5975)) 5 (some q5976)) e5970 e6101 e6102 e6103 e6100 _ hk11837 c11793 c11834) [0, 1, 2, 3, 12, 4, 5, 6, 7] rfl (by decide) [0, 2, 3, 4, 1] rfl 0 11 rfl rfl rfl rfl rfl ⟨(Nat.le_of_ble_eq_true rfl), (Nat.le_of_ble_eq_true rfl)⟩ hl.1 rfl rfl (Nat.le_of_ble_eq_true rfl) ⟨(Nat.le_of_ble_eq_true rfl), (Nat.le_of_ble_eq_true rfl)⟩ dL_law_736) (fun r _ H locs w11838 Wd => ?_)
    have Wd : wX D [(e5970, .object RX8), (e6100, .int), (e6101, .int), (e6102, .int), (e6103, .int), (e6132, .int), (e6154, .int), (e6155, .int)] s [(q6104, .inr (12, [.ref q6106, .ref q6107, .ref q6108, .ref q6109, .int 0, .int 0, .ref q6110, .int 0, .int 0, .int 0, .int 0, .int 0, .int 0, .int 0, .int 0, .int 0, .int 0, .int 0, .int 0, .int 0, .int (-1), .int 0, .int 0, .int 0, .ref q6111, .ref q6112, .ref q6113, .ref q6114, .ref q6115, .ref q6116, .int 0, .int 0, .int 0, .int 0, .ref q6117, .ref q6118, .ref q6119, .int 0, .int 0, .int 0, .int 0, .ref q6120, .ref q6121, .int 0, .ref q6122, .ref q6123, .int 0, .ref q6124, .int 0, .ref q6125, .ref q6126, .ref q6127, .int 0, .ref q6128, .ref q6129, .ref q6130])), (q6107, .inl (e6132, 6, .inl (fun _ => 0))), (q6129, .inl (e6154, 6, .inl (fun _ => 0))), (q6130, .inl (e6155, 6, .inl (fun _ => 0)))] _ A s.heap _ := Wd
    rcases w11838 with ⟨c11839, c11840, c11841, c11842, rfl⟩ | ⟨c11843, c11844, c11845, c11846, c11847, c11848, rfl⟩ | ⟨c11849, c11850, c11851, c11852, c11853, c11854, c11855, rfl⟩ | ⟨c11856, c11857, c11858, c11859, c11860, c11861, c11862, rfl⟩ | ⟨c11863, c11864, c11865, c11866, c11867, c11868, c11869, rfl⟩ | ⟨c11870, c11871, c11872, rfl⟩
    · refine lv_aload_n C.1 C.2.1 dL_law_739 rfl (lv_at hl 1 rfl) ?_
      refine lv_aload_n C.1 C.2.1 dL_law_740 rfl (lv_at hl 3 rfl) ?_
      refine lv_iload_n C.1 C.2.1 dL_law_741 rfl (lv_at hl 0 rfl) ?_
      refine lv_iconst (v := 1) C.1 C.2.1 dL_law_742 (by decide) ?_
      refine k_iadd (v := 1) C (by decide) dL_law_743 ?_
      refine k_sld (v := y1) C hX hbl hbA Wd (vp_in_iff.mpr (by decide)) hy1 dL_law_744 ?_
      refine lv_aload_n C.1 C.2.1 dL_law_745 rfl (lv_at hl 3 rfl) ?_
      refine lv_iload_n C.1 C.2.1 dL_law_746 rfl (lv_at hl 0 rfl) ?_
      refine lv_iconst (v := 2) C.1 C.2.1 dL_law_747 (by decide) ?_
      refine k_iadd (v := 2) C (by decide) dL_law_748 ?_
      refine k_sld (v := y2) C hX hbl hbA Wd (vp_in_iff.mpr (by decide)) hy2 dL_law_749 ?_
      refine k_ci Wd [0, 1, 2, 3] [] rfl (wr := []) rfl (by decide) (by decide) (cells' := 271) (slots' := 91330) (by decide) (by decide) (k_runV (rest := [.int (-1)]) C aks Wd cs_L_92 (kcX12_registers l D q6104 q6106 q6107 q6108 q6109 q6110 q6111 q6112 q6113 q6114 q6115 q6116 q6117 q6118 q6119 q6120 q6121 q6122 q6123 q6124 q6125 q6126 q6127 q6128 q6129 q6130 y1 y2 e6132 e6154 e6155 _ ) [0, 1, 2, 3] rfl (by decide) [5, 6, 7] rfl 0 12 rfl rfl rfl rfl rfl ⟨(Nat.le_of_ble_eq_true rfl), (Nat.le_of_ble_eq_true rfl)⟩ hl.1 rfl rfl (Nat.le_of_ble_eq_true rfl) ⟨(Nat.le_of_ble_eq_true rfl), (Nat.le_of_ble_eq_true rfl)⟩ dL_law_750) (fun r _ H locs w11873 Wd => ?_)
      have Wd : wX D [(e5970, .object RX8), (e6100, .int), (e6101, .int), (e6102, .int), (e6103, .int), (e6132, .int), (e6154, .int), (e6155, .int)] s [] _ A s.heap _ := Wd
      rcases w11873 with ⟨c11874, rfl⟩ | ⟨c11875, c11876, rfl⟩ | ⟨c11877, c11878, c11879, rfl⟩ | ⟨c11880, c11881, c11882, c11883, c11884, rfl⟩ | ⟨c11885, c11886, c11887, c11888, c11889, c11890, rfl⟩ | ⟨c11891, c11892, c11893, c11894, c11895, c11896, c11897, rfl⟩ | ⟨c11898, c11899, c11900, c11901, c11902, c11903, c11904, rfl⟩ | ⟨c11905, c11906, c11907, c11908, c11909, rfl⟩
      · exact absurd c11874 c11793
      · exact False.elim (by have z0 := kz_nlt c11793; have z1 := kz_lt c11834; have z2 := kz_nlt c11839; have z3 := kz_nle c11840; have z4 := kz_nlt c11875; have z5 := kz_lt c11876; have t0 : (0 : Int32).toInt = 0 := (by decide); have t6 : (6 : Int32).toInt = 6 := (by decide); have t5 : (5 : Int32).toInt = 5 := (by decide); omega)
      · exact absurd c11879 c11841
      · refine lv_icmp_eq (tgt := 801) C.1 C.2.1 dL_law_753 (by decide) (fun _ => ?_) (fun c11910 => absurd c11910 (by decide))
        exact tail _ _ _ (k_sub Wd [] rfl (by decide) [] rfl) (lv_sub hl [0, 3] rfl)
      · exact absurd c11842 c11888
      · exact absurd c11842 c11894
      · exact absurd c11842 c11901
      · exact absurd c11842 c11908
    · refine lv_aload_n C.1 C.2.1 dL_law_739 rfl (lv_at hl 1 rfl) ?_
      refine lv_aload_n C.1 C.2.1 dL_law_740 rfl (lv_at hl 3 rfl) ?_
      refine lv_iload_n C.1 C.2.1 dL_law_741 rfl (lv_at hl 0 rfl) ?_
      refine lv_iconst (v := 1) C.1 C.2.1 dL_law_742 (by decide) ?_
      refine k_iadd (v := 1) C (by decide) dL_law_743 ?_
      refine k_sld (v := y1) C hX hbl hbA Wd (vp_in_iff.mpr (by decide)) hy1 dL_law_744 ?_
      refine lv_aload_n C.1 C.2.1 dL_law_745 rfl (lv_at hl 3 rfl) ?_
      refine lv_iload_n C.1 C.2.1 dL_law_746 rfl (lv_at hl 0 rfl) ?_
      refine lv_iconst (v := 2) C.1 C.2.1 dL_law_747 (by decide) ?_
      refine k_iadd (v := 2) C (by decide) dL_law_748 ?_
      refine k_sld (v := y2) C hX hbl hbA Wd (vp_in_iff.mpr (by decide)) hy2 dL_law_749 ?_
      refine k_ci Wd [0, 1, 2, 3] [] rfl (wr := []) rfl (by decide) (by decide) (cells' := 271) (slots' := 91330) (by decide) (by decide) (k_runV (rest := [.int (-1)]) C aks Wd cs_L_92 (kcX12_registers l D q6104 q6106 q6107 q6108 q6109 q6110 q6111 q6112 q6113 q6114 q6115 q6116 q6117 q6118 q6119 q6120 q6121 q6122 q6123 q6124 q6125 q6126 q6127 q6128 q6129 q6130 y1 y2 e6132 e6154 e6155 _ ) [0, 1, 2, 3] rfl (by decide) [5, 6, 7] rfl 0 12 rfl rfl rfl rfl rfl ⟨(Nat.le_of_ble_eq_true rfl), (Nat.le_of_ble_eq_true rfl)⟩ hl.1 rfl rfl (Nat.le_of_ble_eq_true rfl) ⟨(Nat.le_of_ble_eq_true rfl), (Nat.le_of_ble_eq_true rfl)⟩ dL_law_750) (fun r _ H locs w11911 Wd => ?_)
      have Wd : wX D [(e5970, .object RX8), (e6100, .int), (e6101, .int), (e6102, .int), (e6103, .int), (e6132, .int), (e6154, .int), (e6155, .int)] s [] _ A s.heap _ := Wd
      rcases w11911 with ⟨c11912, rfl⟩ | ⟨c11913, c11914, rfl⟩ | ⟨c11915, c11916, c11917, rfl⟩ | ⟨c11918, c11919, c11920, c11921, c11922, rfl⟩ | ⟨c11923, c11924, c11925, c11926, c11927, c11928, rfl⟩ | ⟨c11929, c11930, c11931, c11932, c11933, c11934, c11935, rfl⟩ | ⟨c11936, c11937, c11938, c11939, c11940, c11941, c11942, rfl⟩ | ⟨c11943, c11944, c11945, c11946, c11947, rfl⟩
      · exact absurd c11912 c11793
      · exact False.elim (by have z0 := kz_nlt c11793; have z1 := kz_lt c11834; have z2 := kz_nlt c11843; have z3 := kz_nle c11844; have z4 := kz_nlt c11913; have z5 := kz_lt c11914; have t0 : (0 : Int32).toInt = 0 := (by decide); have t6 : (6 : Int32).toInt = 6 := (by decide); have t5 : (5 : Int32).toInt = 5 := (by decide); omega)
      · exact absurd c11917 c11845
      · exact absurd c11921 c11846
      · refine lv_icmp_eq (tgt := 801) C.1 C.2.1 dL_law_753 (by decide) (fun _ => ?_) (fun c11948 => absurd c11948 (by decide))
        exact tail _ _ _ (k_sub Wd [] rfl (by decide) [] rfl) (lv_sub hl [0, 3] rfl)
      · exact absurd c11848 c11934
      · exact absurd c11848 c11941
      · exact False.elim (by have z0 := kz_ne c11845; have z1 := kz_nlt c11846; have z2 := kz_le c11847; have z3 := kz_lt c11848; have z4 := kz_ne c11945; have z5 := kz_nlt c11946; have z6 := kz_nlt c11947; have t0 : (0 : Int32).toInt = 0 := (by decide); have t10 : (10 : Int32).toInt = 10 := (by decide); have t16 : (16 : Int32).toInt = 16 := (by decide); have t20 : (20 : Int32).toInt = 20 := (by decide); have t15 : (15 : Int32).toInt = 15 := (by decide); omega)
    · refine lv_aload_n C.1 C.2.1 dL_law_739 rfl (lv_at hl 1 rfl) ?_
      refine lv_aload_n C.1 C.2.1 dL_law_740 rfl (lv_at hl 3 rfl) ?_
      refine lv_iload_n C.1 C.2.1 dL_law_741 rfl (lv_at hl 0 rfl) ?_
      refine lv_iconst (v := 1) C.1 C.2.1 dL_law_742 (by decide) ?_
      refine k_iadd (v := 1) C (by decide) dL_law_743 ?_
      refine k_sld (v := y1) C hX hbl hbA Wd (vp_in_iff.mpr (by decide)) hy1 dL_law_744 ?_
      refine lv_aload_n C.1 C.2.1 dL_law_745 rfl (lv_at hl 3 rfl) ?_
      refine lv_iload_n C.1 C.2.1 dL_law_746 rfl (lv_at hl 0 rfl) ?_
      refine lv_iconst (v := 2) C.1 C.2.1 dL_law_747 (by decide) ?_
      refine k_iadd (v := 2) C (by decide) dL_law_748 ?_
      refine k_sld (v := y2) C hX hbl hbA Wd (vp_in_iff.mpr (by decide)) hy2 dL_law_749 ?_
      refine k_ci Wd [0, 1, 2, 3] [] rfl (wr := []) rfl (by decide) (by decide) (cells' := 271) (slots' := 91330) (by decide) (by decide) (k_runV (rest := [.int (-1)]) C aks Wd cs_L_92 (kcX12_registers l D q6104 q6106 q6107 q6108 q6109 q6110 q6111 q6112 q6113 q6114 q6115 q6116 q6117 q6118 q6119 q6120 q6121 q6122 q6123 q6124 q6125 q6126 q6127 q6128 q6129 q6130 y1 y2 e6132 e6154 e6155 _ ) [0, 1, 2, 3] rfl (by decide) [5, 6, 7] rfl 0 12 rfl rfl rfl rfl rfl ⟨(Nat.le_of_ble_eq_true rfl), (Nat.le_of_ble_eq_true rfl)⟩ hl.1 rfl rfl (Nat.le_of_ble_eq_true rfl) ⟨(Nat.le_of_ble_eq_true rfl), (Nat.le_of_ble_eq_true rfl)⟩ dL_law_750) (fun r _ H locs w11949 Wd => ?_)
      have Wd : wX D [(e5970, .object RX8), (e6100, .int), (e6101, .int), (e6102, .int), (e6103, .int), (e6132, .int), (e6154, .int), (e6155, .int)] s [] _ A s.heap _ := Wd
      rcases w11949 with ⟨c11950, rfl⟩ | ⟨c11951, c11952, rfl⟩ | ⟨c11953, c11954, c11955, rfl⟩ | ⟨c11956, c11957, c11958, c11959, c11960, rfl⟩ | ⟨c11961, c11962, c11963, c11964, c11965, c11966, rfl⟩ | ⟨c11967, c11968, c11969, c11970, c11971, c11972, c11973, rfl⟩ | ⟨c11974, c11975, c11976, c11977, c11978, c11979, c11980, rfl⟩ | ⟨c11981, c11982, c11983, c11984, c11985, rfl⟩
      · exact absurd c11950 c11793
      · exact False.elim (by have z0 := kz_nlt c11793; have z1 := kz_lt c11834; have z2 := kz_nlt c11849; have z3 := kz_nle c11850; have z4 := kz_nlt c11951; have z5 := kz_lt c11952; have t0 : (0 : Int32).toInt = 0 := (by decide); have t6 : (6 : Int32).toInt = 6 := (by decide); have t5 : (5 : Int32).toInt = 5 := (by decide); omega)
      · exact absurd c11955 c11851
      · exact absurd c11959 c11852
      · exact absurd c11966 c11854
      · refine lv_icmp_eq (tgt := 801) C.1 C.2.1 dL_law_753 (by decide) (fun _ => ?_) (fun c11986 => absurd c11986 (by decide))
        exact tail _ _ _ (k_sub Wd [] rfl (by decide) [] rfl) (lv_sub hl [0, 3] rfl)
      · exact absurd c11855 c11980
      · exact False.elim (by have z0 := kz_ne c11851; have z1 := kz_nlt c11852; have z2 := kz_le c11853; have z3 := kz_nlt c11854; have z4 := kz_lt c11855; have z5 := kz_ne c11983; have z6 := kz_nlt c11984; have z7 := kz_nlt c11985; have t0 : (0 : Int32).toInt = 0 := (by decide); have t10 : (10 : Int32).toInt = 10 := (by decide); have t16 : (16 : Int32).toInt = 16 := (by decide); have t20 : (20 : Int32).toInt = 20 := (by decide); have t26 : (26 : Int32).toInt = 26 := (by decide); have t15 : (15 : Int32).toInt = 15 := (by decide); omega)
    · refine lv_aload_n C.1 C.2.1 dL_law_739 rfl (lv_at hl 1 rfl) ?_
      refine lv_aload_n C.1 C.2.1 dL_law_740 rfl (lv_at hl 3 rfl) ?_
      refine lv_iload_n C.1 C.2.1 dL_law_741 rfl (lv_at hl 0 rfl) ?_
      refine lv_iconst (v := 1) C.1 C.2.1 dL_law_742 (by decide) ?_
      refine k_iadd (v := 1) C (by decide) dL_law_743 ?_
      refine k_sld (v := y1) C hX hbl hbA Wd (vp_in_iff.mpr (by decide)) hy1 dL_law_744 ?_
      refine lv_aload_n C.1 C.2.1 dL_law_745 rfl (lv_at hl 3 rfl) ?_
      refine lv_iload_n C.1 C.2.1 dL_law_746 rfl (lv_at hl 0 rfl) ?_
      refine lv_iconst (v := 2) C.1 C.2.1 dL_law_747 (by decide) ?_
      refine k_iadd (v := 2) C (by decide) dL_law_748 ?_
      refine k_sld (v := y2) C hX hbl hbA Wd (vp_in_iff.mpr (by decide)) hy2 dL_law_749 ?_
      refine k_ci Wd [0, 1, 2, 3] [] rfl (wr := []) rfl (by decide) (by decide) (cells' := 271) (slots' := 91330) (by decide) (by decide) (k_runV (rest := [.int 0]) C aks Wd cs_L_92 (kcX12_registers l D q6104 q6106 q6107 q6108 q6109 q6110 q6111 q6112 q6113 q6114 q6115 q6116 q6117 q6118 q6119 q6120 q6121 q6122 q6123 q6124 q6125 q6126 q6127 q6128 q6129 q6130 y1 y2 e6132 e6154 e6155 _ ) [0, 1, 2, 3] rfl (by decide) [5, 6, 7] rfl 0 12 rfl rfl rfl rfl rfl ⟨(Nat.le_of_ble_eq_true rfl), (Nat.le_of_ble_eq_true rfl)⟩ hl.1 rfl rfl (Nat.le_of_ble_eq_true rfl) ⟨(Nat.le_of_ble_eq_true rfl), (Nat.le_of_ble_eq_true rfl)⟩ dL_law_750) (fun r _ H locs w11987 Wd => ?_)
      have Wd : wX D [(e5970, .object RX8), (e6100, .int), (e6101, .int), (e6102, .int), (e6103, .int), (e6132, .int), (e6154, .int), (e6155, .int)] s [] _ A s.heap _ := Wd
      rcases w11987 with ⟨c11988, rfl⟩ | ⟨c11989, c11990, rfl⟩ | ⟨c11991, c11992, c11993, rfl⟩ | ⟨c11994, c11995, c11996, c11997, c11998, rfl⟩ | ⟨c11999, c12000, c12001, c12002, c12003, c12004, rfl⟩ | ⟨c12005, c12006, c12007, c12008, c12009, c12010, c12011, rfl⟩ | ⟨c12012, c12013, c12014, c12015, c12016, c12017, c12018, rfl⟩ | ⟨c12019, c12020, c12021, c12022, c12023, rfl⟩
      · exact absurd c11988 c11793
      · exact False.elim (by have z0 := kz_nlt c11793; have z1 := kz_lt c11834; have z2 := kz_nlt c11856; have z3 := kz_nle c11857; have z4 := kz_nlt c11989; have z5 := kz_lt c11990; have t0 : (0 : Int32).toInt = 0 := (by decide); have t6 : (6 : Int32).toInt = 6 := (by decide); have t5 : (5 : Int32).toInt = 5 := (by decide); omega)
      · exact absurd c11993 c11858
      · exact absurd c11997 c11859
      · exact absurd c12004 c11861
      · exact absurd c12011 c11862
      · refine lv_icmp_eq (tgt := 801) C.1 C.2.1 dL_law_753 (by decide) (fun _ => ?_) (fun c12024 => absurd c12024 (by decide))
        exact tail _ _ _ (k_sub Wd [] rfl (by decide) [] rfl) (lv_sub hl [0, 3] rfl)
      · exact False.elim (by have z0 := kz_ne c11858; have z1 := kz_nlt c11859; have z2 := kz_le c11860; have z3 := kz_nlt c11861; have z4 := kz_nlt c11862; have z5 := kz_ne c12021; have z6 := kz_nlt c12022; have z7 := kz_nlt c12023; have t0 : (0 : Int32).toInt = 0 := (by decide); have t10 : (10 : Int32).toInt = 10 := (by decide); have t16 : (16 : Int32).toInt = 16 := (by decide); have t20 : (20 : Int32).toInt = 20 := (by decide); have t26 : (26 : Int32).toInt = 26 := (by decide); have t15 : (15 : Int32).toInt = 15 := (by decide); omega)
    · refine lv_aload_n C.1 C.2.1 dL_law_739 rfl (lv_at hl 1 rfl) ?_
      refine lv_aload_n C.1 C.2.1 dL_law_740 rfl (lv_at hl 3 rfl) ?_
      refine lv_iload_n C.1 C.2.1 dL_law_741 rfl (lv_at hl 0 rfl) ?_
      refine lv_iconst (v := 1) C.1 C.2.1 dL_law_742 (by decide) ?_
      refine k_iadd (v := 1) C (by decide) dL_law_743 ?_
      refine k_sld (v := y1) C hX hbl hbA Wd (vp_in_iff.mpr (by decide)) hy1 dL_law_744 ?_
      refine lv_aload_n C.1 C.2.1 dL_law_745 rfl (lv_at hl 3 rfl) ?_
      refine lv_iload_n C.1 C.2.1 dL_law_746 rfl (lv_at hl 0 rfl) ?_
      refine lv_iconst (v := 2) C.1 C.2.1 dL_law_747 (by decide) ?_
      refine k_iadd (v := 2) C (by decide) dL_law_748 ?_
      refine k_sld (v := y2) C hX hbl hbA Wd (vp_in_iff.mpr (by decide)) hy2 dL_law_749 ?_
      refine k_ci Wd [0, 1, 2, 3] [] rfl (wr := []) rfl (by decide) (by decide) (cells' := 271) (slots' := 91330) (by decide) (by decide) (k_runV (rest := [.int (-1)]) C aks Wd cs_L_92 (kcX12_registers l D q6104 q6106 q6107 q6108 q6109 q6110 q6111 q6112 q6113 q6114 q6115 q6116 q6117 q6118 q6119 q6120 q6121 q6122 q6123 q6124 q6125 q6126 q6127 q6128 q6129 q6130 y1 y2 e6132 e6154 e6155 _ ) [0, 1, 2, 3] rfl (by decide) [5, 6, 7] rfl 0 12 rfl rfl rfl rfl rfl ⟨(Nat.le_of_ble_eq_true rfl), (Nat.le_of_ble_eq_true rfl)⟩ hl.1 rfl rfl (Nat.le_of_ble_eq_true rfl) ⟨(Nat.le_of_ble_eq_true rfl), (Nat.le_of_ble_eq_true rfl)⟩ dL_law_750) (fun r _ H locs w12025 Wd => ?_)
      have Wd : wX D [(e5970, .object RX8), (e6100, .int), (e6101, .int), (e6102, .int), (e6103, .int), (e6132, .int), (e6154, .int), (e6155, .int)] s [] _ A s.heap _ := Wd
      rcases w12025 with ⟨c12026, rfl⟩ | ⟨c12027, c12028, rfl⟩ | ⟨c12029, c12030, c12031, rfl⟩ | ⟨c12032, c12033, c12034, c12035, c12036, rfl⟩ | ⟨c12037, c12038, c12039, c12040, c12041, c12042, rfl⟩ | ⟨c12043, c12044, c12045, c12046, c12047, c12048, c12049, rfl⟩ | ⟨c12050, c12051, c12052, c12053, c12054, c12055, c12056, rfl⟩ | ⟨c12057, c12058, c12059, c12060, c12061, rfl⟩
      · exact absurd c12026 c11793
      · exact False.elim (by have z0 := kz_nlt c11793; have z1 := kz_lt c11834; have z2 := kz_nlt c11863; have z3 := kz_nle c11864; have z4 := kz_nlt c12027; have z5 := kz_lt c12028; have t0 : (0 : Int32).toInt = 0 := (by decide); have t6 : (6 : Int32).toInt = 6 := (by decide); have t5 : (5 : Int32).toInt = 5 := (by decide); omega)
      · exact absurd c12031 c11865
      · exact absurd c12035 c11866
      · exact False.elim (by have z0 := kz_ne c11865; have z1 := kz_nlt c11866; have z2 := kz_nle c11867; have z3 := kz_ne c12039; have z4 := kz_nlt c12040; have z5 := kz_lt c12041; have t0 : (0 : Int32).toInt = 0 := (by decide); have t10 : (10 : Int32).toInt = 10 := (by decide); have t16 : (16 : Int32).toInt = 16 := (by decide); have t15 : (15 : Int32).toInt = 15 := (by decide); omega)
      · exact False.elim (by have z0 := kz_ne c11865; have z1 := kz_nlt c11866; have z2 := kz_nle c11867; have z3 := kz_ne c12045; have z4 := kz_nlt c12046; have z5 := kz_lt c12047; have t0 : (0 : Int32).toInt = 0 := (by decide); have t10 : (10 : Int32).toInt = 10 := (by decide); have t16 : (16 : Int32).toInt = 16 := (by decide); have t15 : (15 : Int32).toInt = 15 := (by decide); omega)
      · exact False.elim (by have z0 := kz_ne c11865; have z1 := kz_nlt c11866; have z2 := kz_nle c11867; have z3 := kz_ne c12052; have z4 := kz_nlt c12053; have z5 := kz_lt c12054; have t0 : (0 : Int32).toInt = 0 := (by decide); have t10 : (10 : Int32).toInt = 10 := (by decide); have t16 : (16 : Int32).toInt = 16 := (by decide); have t15 : (15 : Int32).toInt = 15 := (by decide); omega)
      · refine lv_icmp_eq (tgt := 801) C.1 C.2.1 dL_law_753 (by decide) (fun _ => ?_) (fun c12062 => absurd c12062 (by decide))
        exact tail _ _ _ (k_sub Wd [] rfl (by decide) [] rfl) (lv_sub hl [0, 3] rfl)
    · refine lv_aload_n C.1 C.2.1 dL_law_739 rfl (lv_at hl 1 rfl) ?_
      refine lv_aload_n C.1 C.2.1 dL_law_740 rfl (lv_at hl 3 rfl) ?_
      refine lv_iload_n C.1 C.2.1 dL_law_741 rfl (lv_at hl 0 rfl) ?_
      refine lv_iconst (v := 1) C.1 C.2.1 dL_law_742 (by decide) ?_
      refine k_iadd (v := 1) C (by decide) dL_law_743 ?_
      refine k_sld (v := y1) C hX hbl hbA Wd (vp_in_iff.mpr (by decide)) hy1 dL_law_744 ?_
      refine lv_aload_n C.1 C.2.1 dL_law_745 rfl (lv_at hl 3 rfl) ?_
      refine lv_iload_n C.1 C.2.1 dL_law_746 rfl (lv_at hl 0 rfl) ?_
      refine lv_iconst (v := 2) C.1 C.2.1 dL_law_747 (by decide) ?_
      refine k_iadd (v := 2) C (by decide) dL_law_748 ?_
      refine k_sld (v := y2) C hX hbl hbA Wd (vp_in_iff.mpr (by decide)) hy2 dL_law_749 ?_
      refine k_ci Wd [0, 1, 2, 3] [] rfl (wr := []) rfl (by decide) (by decide) (cells' := 271) (slots' := 91330) (by decide) (by decide) (k_runV (rest := [.int 0]) C aks Wd cs_L_92 (kcX12_registers l D q6104 q6106 q6107 q6108 q6109 q6110 q6111 q6112 q6113 q6114 q6115 q6116 q6117 q6118 q6119 q6120 q6121 q6122 q6123 q6124 q6125 q6126 q6127 q6128 q6129 q6130 y1 y2 e6132 e6154 e6155 _ ) [0, 1, 2, 3] rfl (by decide) [5, 6, 7] rfl 0 12 rfl rfl rfl rfl rfl ⟨(Nat.le_of_ble_eq_true rfl), (Nat.le_of_ble_eq_true rfl)⟩ hl.1 rfl rfl (Nat.le_of_ble_eq_true rfl) ⟨(Nat.le_of_ble_eq_true rfl), (Nat.le_of_ble_eq_true rfl)⟩ dL_law_750) (fun r _ H locs w12063 Wd => ?_)
      have Wd : wX D [(e5970, .object RX8), (e6100, .int), (e6101, .int), (e6102, .int), (e6103, .int), (e6132, .int), (e6154, .int), (e6155, .int)] s [] _ A s.heap _ := Wd
      rcases w12063 with ⟨c12064, rfl⟩ | ⟨c12065, c12066, rfl⟩ | ⟨c12067, c12068, c12069, rfl⟩ | ⟨c12070, c12071, c12072, c12073, c12074, rfl⟩ | ⟨c12075, c12076, c12077, c12078, c12079, c12080, rfl⟩ | ⟨c12081, c12082, c12083, c12084, c12085, c12086, c12087, rfl⟩ | ⟨c12088, c12089, c12090, c12091, c12092, c12093, c12094, rfl⟩ | ⟨c12095, c12096, c12097, c12098, c12099, rfl⟩
      · exact absurd c12064 c11793
      · exact False.elim (by have z0 := kz_nlt c11793; have z1 := kz_lt c11834; have z2 := kz_nlt c11870; have z3 := kz_nle c11871; have z4 := kz_nlt c12065; have z5 := kz_lt c12066; have t0 : (0 : Int32).toInt = 0 := (by decide); have t6 : (6 : Int32).toInt = 6 := (by decide); have t5 : (5 : Int32).toInt = 5 := (by decide); omega)
      · refine lv_icmp_eq (tgt := 801) C.1 C.2.1 dL_law_753 (by decide) (fun _ => ?_) (fun c12100 => absurd c12100 (by decide))
        exact tail _ _ _ (k_sub Wd [] rfl (by decide) [] rfl) (lv_sub hl [0, 3] rfl)
      · exact absurd c11872 c12072
      · exact absurd c11872 c12077
      · exact absurd c11872 c12083
      · exact absurd c11872 c12090
      · exact absurd c11872 c12097
  refine lv_aload_n C.1 C.2.1 dL_law_725 rfl (lv_at hl 2 rfl) ?_
  refine lv_aload_n C.1 C.2.1 dL_law_726 rfl (lv_at hl 3 rfl) ?_
  refine lv_iload_n C.1 C.2.1 dL_law_727 rfl (lv_at hl 0 rfl) ?_
  refine lv_iconst (v := 1) C.1 C.2.1 dL_law_728 (by decide) ?_
  refine k_iadd (v := 1) C (by decide) dL_law_729 ?_
  refine k_sld (v := y1) C hX hbl hbA Wd (vp_in_iff.mpr (by decide)) hy1 dL_law_730 ?_
  refine lv_aload_n C.1 C.2.1 dL_law_731 rfl (lv_at hl 3 rfl) ?_
  refine lv_iload_n C.1 C.2.1 dL_law_732 rfl (lv_at hl 0 rfl) ?_
  refine lv_iconst (v := 2) C.1 C.2.1 dL_law_733 (by decide) ?_
  refine k_iadd (v := 2) C (by decide) dL_law_734 ?_
  refine k_sld (v := y2) C hX hbl hbA Wd (vp_in_iff.mpr (by decide)) hy2 dL_law_735 ?_
  refine k_pi (k_runV (rest := []) C aks Wd cs_L_89 (kcX11_registers_v1 l D q5961 q5963 q5964 q5965 q5966 q5967 q5968 q5969 y1 y2 (va_up (va_up (va_up (va_up (va_up (va_up (fun _ => none) 0 (some q5971)) 1 (some q5972)) 2 (some q5973)) 3 (some q5974)) 4 (some q5975)) 5 (some q5976)) e5970 _ c11834) [0, 1] rfl (by decide) [0] rfl 0 11 rfl rfl rfl rfl rfl ⟨(Nat.le_of_ble_eq_true rfl), (Nat.le_of_ble_eq_true rfl)⟩ hl.1 rfl rfl (Nat.le_of_ble_eq_true rfl) ⟨(Nat.le_of_ble_eq_true rfl), (Nat.le_of_ble_eq_true rfl)⟩ dL_law_736) (fun r w12101 => ?_)
  obtain ⟨c12102, c12103, rfl⟩ := w12101
  refine lv_aload_n C.1 C.2.1 dL_law_739 rfl (lv_at hl 1 rfl) ?_
  refine lv_aload_n C.1 C.2.1 dL_law_740 rfl (lv_at hl 3 rfl) ?_
  refine lv_iload_n C.1 C.2.1 dL_law_741 rfl (lv_at hl 0 rfl) ?_
  refine lv_iconst (v := 1) C.1 C.2.1 dL_law_742 (by decide) ?_
  refine k_iadd (v := 1) C (by decide) dL_law_743 ?_
  refine k_sld (v := y1) C hX hbl hbA Wd (vp_in_iff.mpr (by decide)) hy1 dL_law_744 ?_
  refine lv_aload_n C.1 C.2.1 dL_law_745 rfl (lv_at hl 3 rfl) ?_
  refine lv_iload_n C.1 C.2.1 dL_law_746 rfl (lv_at hl 0 rfl) ?_
  refine lv_iconst (v := 2) C.1 C.2.1 dL_law_747 (by decide) ?_
  refine k_iadd (v := 2) C (by decide) dL_law_748 ?_
  refine k_sld (v := y2) C hX hbl hbA Wd (vp_in_iff.mpr (by decide)) hy2 dL_law_749 ?_
  refine k_ci Wd [14, 15, 16, 17] [0, 1, 2, 3, 4, 5, 6, 7, 8, 9, 10, 11, 12, 13] rfl (wr := [(q5961, .inr (11, [.ref q5963, .int 0, .ref q5964, .ref q5965, .ref q5966, .ref q5967, .ref q5968, .ref q5969])), (q5963, .inl (e5970, 6, .inr (.inr (.inr (.inr (va_up (va_up (va_up (va_up (va_up (va_up (fun _ => none) 0 (some q5971)) 1 (some q5972)) 2 (some q5973)) 3 (some q5974)) 4 (some q5975)) 5 (some q5976))))))), (q5971, .inr (8, [.ref q5977, .int 0])), (q5972, .inr (8, [.ref q5978, .int 0])), (q5973, .inr (8, [.ref q5979, .int 0])), (q5974, .inr (8, [.ref q5980, .int 0])), (q5975, .inr (8, [.ref q5981, .int 0])), (q5976, .inr (8, [.ref q5982, .int 0])), (q5969, .inr (7, [.ref q6083, .ref q6084, .ref q6085, .ref q6086, .int 0])), (q6083, .inr (1, [.ref q6087, .int 0, .ref q6088, .ref q6089, .ref q6090, .ref q6091, .ref q6092, .ref q6093, .ref q6094, .ref q6095, .ref q6096, .ref q6097, .ref q6098, .ref q6099])), (q6099, .inl (e6100, 480, .inl (fun _ => 0))), (q6084, .inl (e6101, 6, .inl (fun _ => 0))), (q6085, .inl (e6102, 6, .inl (fun _ => 0))), (q6086, .inl (e6103, 6, .inl (fun _ => 0)))]) rfl (by decide) (by decide) (cells' := 271) (slots' := 91330) (by decide) (by decide) (k_runV (rest := [.int (-1)]) C aks Wd cs_L_92 (kcX12_registers l D q6104 q6106 q6107 q6108 q6109 q6110 q6111 q6112 q6113 q6114 q6115 q6116 q6117 q6118 q6119 q6120 q6121 q6122 q6123 q6124 q6125 q6126 q6127 q6128 q6129 q6130 y1 y2 e6132 e6154 e6155 _ ) [14, 15, 16, 17] rfl (by decide) [5, 6, 7] rfl 14 12 rfl rfl rfl rfl rfl ⟨(Nat.le_of_ble_eq_true rfl), (Nat.le_of_ble_eq_true rfl)⟩ hl.1 rfl rfl (Nat.le_of_ble_eq_true rfl) ⟨(Nat.le_of_ble_eq_true rfl), (Nat.le_of_ble_eq_true rfl)⟩ dL_law_750) (fun r _ H locs w12104 Wd => ?_)
  have Wd : wX D [(e5970, .object RX8), (e6100, .int), (e6101, .int), (e6102, .int), (e6103, .int), (e6132, .int), (e6154, .int), (e6155, .int)] s [(q5961, .inr (11, [.ref q5963, .int 0, .ref q5964, .ref q5965, .ref q5966, .ref q5967, .ref q5968, .ref q5969])), (q5963, .inl (e5970, 6, .inr (.inr (.inr (.inr (va_up (va_up (va_up (va_up (va_up (va_up (fun _ => none) 0 (some q5971)) 1 (some q5972)) 2 (some q5973)) 3 (some q5974)) 4 (some q5975)) 5 (some q5976))))))), (q5971, .inr (8, [.ref q5977, .int 0])), (q5972, .inr (8, [.ref q5978, .int 0])), (q5973, .inr (8, [.ref q5979, .int 0])), (q5974, .inr (8, [.ref q5980, .int 0])), (q5975, .inr (8, [.ref q5981, .int 0])), (q5976, .inr (8, [.ref q5982, .int 0])), (q5969, .inr (7, [.ref q6083, .ref q6084, .ref q6085, .ref q6086, .int 0])), (q6083, .inr (1, [.ref q6087, .int 0, .ref q6088, .ref q6089, .ref q6090, .ref q6091, .ref q6092, .ref q6093, .ref q6094, .ref q6095, .ref q6096, .ref q6097, .ref q6098, .ref q6099])), (q6099, .inl (e6100, 480, .inl (fun _ => 0))), (q6084, .inl (e6101, 6, .inl (fun _ => 0))), (q6085, .inl (e6102, 6, .inl (fun _ => 0))), (q6086, .inl (e6103, 6, .inl (fun _ => 0)))] _ A s.heap _ := Wd
  rcases w12104 with ⟨c12105, rfl⟩ | ⟨c12106, c12107, rfl⟩ | ⟨c12108, c12109, c12110, rfl⟩ | ⟨c12111, c12112, c12113, c12114, c12115, rfl⟩ | ⟨c12116, c12117, c12118, c12119, c12120, c12121, rfl⟩ | ⟨c12122, c12123, c12124, c12125, c12126, c12127, c12128, rfl⟩ | ⟨c12129, c12130, c12131, c12132, c12133, c12134, c12135, rfl⟩ | ⟨c12136, c12137, c12138, c12139, c12140, rfl⟩
  · exact absurd c12105 c11793
  · refine lv_icmp_eq (tgt := 801) C.1 C.2.1 dL_law_753 (by decide) (fun _ => ?_) (fun c12141 => absurd c12141 (by decide))
    exact tail _ _ _ (k_sub Wd [] rfl (by decide) [] rfl) (lv_sub hl [0, 3] rfl)
  · exact False.elim (by have z0 := kz_nlt c11793; have z1 := kz_nlt c11834; have z2 := kz_nlt c12102; have z3 := kz_le c12103; have z4 := kz_nlt c12108; have z5 := kz_nlt c12109; have t0 : (0 : Int32).toInt = 0 := (by decide); have t6 : (6 : Int32).toInt = 6 := (by decide); have t5 : (5 : Int32).toInt = 5 := (by decide); omega)
  · exact False.elim (by have z0 := kz_nlt c11793; have z1 := kz_nlt c11834; have z2 := kz_nlt c12102; have z3 := kz_le c12103; have z4 := kz_nlt c12111; have z5 := kz_nlt c12112; have t0 : (0 : Int32).toInt = 0 := (by decide); have t6 : (6 : Int32).toInt = 6 := (by decide); have t5 : (5 : Int32).toInt = 5 := (by decide); omega)
  · exact False.elim (by have z0 := kz_nlt c11793; have z1 := kz_nlt c11834; have z2 := kz_nlt c12102; have z3 := kz_le c12103; have z4 := kz_nlt c12116; have z5 := kz_nlt c12117; have t0 : (0 : Int32).toInt = 0 := (by decide); have t6 : (6 : Int32).toInt = 6 := (by decide); have t5 : (5 : Int32).toInt = 5 := (by decide); omega)
  · exact False.elim (by have z0 := kz_nlt c11793; have z1 := kz_nlt c11834; have z2 := kz_nlt c12102; have z3 := kz_le c12103; have z4 := kz_nlt c12122; have z5 := kz_nlt c12123; have t0 : (0 : Int32).toInt = 0 := (by decide); have t6 : (6 : Int32).toInt = 6 := (by decide); have t5 : (5 : Int32).toInt = 5 := (by decide); omega)
  · exact False.elim (by have z0 := kz_nlt c11793; have z1 := kz_nlt c11834; have z2 := kz_nlt c12102; have z3 := kz_le c12103; have z4 := kz_nlt c12129; have z5 := kz_nlt c12130; have t0 : (0 : Int32).toInt = 0 := (by decide); have t6 : (6 : Int32).toInt = 6 := (by decide); have t5 : (5 : Int32).toInt = 5 := (by decide); omega)
  · exact False.elim (by have z0 := kz_nlt c11793; have z1 := kz_nlt c11834; have z2 := kz_nlt c12102; have z3 := kz_le c12103; have z4 := kz_nlt c12136; have z5 := kz_nlt c12137; have t0 : (0 : Int32).toInt = 0 := (by decide); have t6 : (6 : Int32).toInt = 6 := (by decide); have t5 : (5 : Int32).toInt = 5 := (by decide); omega)
set_option maxHeartbeats 4000000 in
set_option maxRecDepth 100000 in
theorem law_clash {p : Program} {l : Launch} {e : Env} {s : State} {m : MethodId} {below : List Frame} {meth : Method} {c : Code} {b : Nat} {xs : Nat → Int32} {D : va_G} {A : Nat → Prop} {e5970 : ClassId} {e6100 : ClassId} {e6101 : ClassId} {e6102 : ClassId} {e6132 : ClassId} {e6154 : ClassId} {q5961 : Nat} {q5963 : Nat} {q5964 : Nat} {q5965 : Nat} {q5966 : Nat} {q5967 : Nat} {q5968 : Nat} {q5969 : Nat} {q5971 : Nat} {q5972 : Nat} {q5973 : Nat} {q5974 : Nat} {q5975 : Nat} {q5976 : Nat} {q5977 : Nat} {q5978 : Nat} {q5979 : Nat} {q5980 : Nat} {q5981 : Nat} {q5982 : Nat} {q6083 : Nat} {q6084 : Nat} {q6085 : Nat} {q6086 : Nat} {q6087 : Nat} {q6088 : Nat} {q6089 : Nat} {q6090 : Nat} {q6091 : Nat} {q6092 : Nat} {q6093 : Nat} {q6094 : Nat} {q6095 : Nat} {q6096 : Nat} {q6097 : Nat} {q6098 : Nat} {q6099 : Nat} {q6104 : Nat} {q6106 : Nat} {q6107 : Nat} {q6108 : Nat} {q6109 : Nat} {q6110 : Nat} {q6111 : Nat} {q6112 : Nat} {q6113 : Nat} {q6114 : Nat} {q6115 : Nat} {q6116 : Nat} {q6117 : Nat} {q6118 : Nat} {q6119 : Nat} {q6120 : Nat} {q6121 : Nat} {q6122 : Nat} {q6123 : Nat} {q6124 : Nat} {q6125 : Nat} {q6126 : Nat} {q6127 : Nat} {q6128 : Nat} {q6129 : Nat} {q6130 : Nat} {y1 : Int32} (hy1 : xs 1 = y1) {y2 : Int32} (hy2 : xs 2 = y2) {y3 : Int32} (hy3 : xs 3 = y3) {H : Heap} {locs : List Loc} {ls : Array Slot} (C : CallFix p m c cL_law 4 s #[Value.ref b] gG RL) (aks : aK s) (hX : va_X b 6 xs s s.heap) (hbl : b < s.heap.size) (hbA : ¬ A b) (hrt : meth.sig.returnType = ret) (hlocks : meth.locks = false) (hAe : A = fun q => s.heap.size ≤ q) (tail : (∀ (H : Heap) (locs : List Loc) (ls : Array Slot), wX D [] s [] H A s.heap locs → lv_has ls 4 [(3, .int 0), (0, .ref b)] → W p l e room_1 s m #[Value.ref b] below meth c H locs 271 91330 (lw_Z below #[Value.ref b] s) (F0 m 801 ls []))) (Wd : wX D [(e5970, .object RX8), (e6100, .int), (e6101, .int), (e6102, .int), (e6132, .int), (e6154, .int)] s [(q5961, .inr (11, [.ref q5963, .int 0, .ref q5964, .ref q5965, .ref q5966, .ref q5967, .ref q5968, .ref q5969])), (q5963, .inl (e5970, 6, .inr (.inr (.inr (.inr (va_up (va_up (va_up (va_up (va_up (va_up (fun _ => none) 0 (some q5971)) 1 (some q5972)) 2 (some q5973)) 3 (some q5974)) 4 (some q5975)) 5 (some q5976))))))), (q5971, .inr (8, [.ref q5977, .int 0])), (q5972, .inr (8, [.ref q5978, .int 0])), (q5973, .inr (8, [.ref q5979, .int 0])), (q5974, .inr (8, [.ref q5980, .int 0])), (q5975, .inr (8, [.ref q5981, .int 0])), (q5976, .inr (8, [.ref q5982, .int 0])), (q5969, .inr (7, [.ref q6083, .ref q6084, .ref q6085, .ref q6086, .int 0])), (q6083, .inr (1, [.ref q6087, .int 0, .ref q6088, .ref q6089, .ref q6090, .ref q6091, .ref q6092, .ref q6093, .ref q6094, .ref q6095, .ref q6096, .ref q6097, .ref q6098, .ref q6099])), (q6099, .inl (e6100, 480, .inl (fun _ => 0))), (q6084, .inl (e6101, 6, .inl (fun _ => 0))), (q6085, .inl (e6102, 6, .inl (fun _ => 0))), (q6104, .inr (12, [.ref q6106, .ref q6107, .ref q6108, .ref q6109, .int 0, .int 0, .ref q6110, .int 0, .int 0, .int 0, .int 0, .int 0, .int 0, .int 0, .int 0, .int 0, .int 0, .int 0, .int 0, .int 0, .int (-1), .int 0, .int 0, .int 0, .ref q6111, .ref q6112, .ref q6113, .ref q6114, .ref q6115, .ref q6116, .int 0, .int 0, .int 0, .int 0, .ref q6117, .ref q6118, .ref q6119, .int 0, .int 0, .int 0, .int 0, .ref q6120, .ref q6121, .int 0, .ref q6122, .ref q6123, .int 0, .ref q6124, .int 0, .ref q6125, .ref q6126, .ref q6127, .int 0, .ref q6128, .ref q6129, .ref q6130])), (q6107, .inl (e6132, 6, .inl (fun _ => 0))), (q6129, .inl (e6154, 6, .inl (fun _ => 0)))] H A s.heap locs) (hl : lv_has ls 4 [(3, .int 0), (2, .ref q6104), (1, .ref q5961), (0, .ref b)]) : W p l e room_1 s m #[Value.ref b] below meth c H locs 271 91330 (lw_Z below #[Value.ref b] s) (F0 m 758 ls []) := by
  by_cases c12142 : y1 < 0
  · refine lv_aload_n C.1 C.2.1 dL_law_758 rfl (lv_at hl 2 rfl) ?_
    refine lv_aload_n C.1 C.2.1 dL_law_759 rfl (lv_at hl 3 rfl) ?_
    refine lv_iload_n C.1 C.2.1 dL_law_760 rfl (lv_at hl 0 rfl) ?_
    refine lv_iconst (v := 1) C.1 C.2.1 dL_law_761 (by decide) ?_
    refine k_iadd (v := 1) C (by decide) dL_law_762 ?_
    refine k_sld (v := y1) C hX hbl hbA Wd (vp_in_iff.mpr (by decide)) hy1 dL_law_763 ?_
    refine lv_aload_n C.1 C.2.1 dL_law_764 rfl (lv_at hl 3 rfl) ?_
    refine lv_iload_n C.1 C.2.1 dL_law_765 rfl (lv_at hl 0 rfl) ?_
    refine lv_iconst (v := 2) C.1 C.2.1 dL_law_766 (by decide) ?_
    refine k_iadd (v := 2) C (by decide) dL_law_767 ?_
    refine k_sld (v := y2) C hX hbl hbA Wd (vp_in_iff.mpr (by decide)) hy2 dL_law_768 ?_
    refine lv_aload_n C.1 C.2.1 dL_law_769 rfl (lv_at hl 3 rfl) ?_
    refine lv_iload_n C.1 C.2.1 dL_law_770 rfl (lv_at hl 0 rfl) ?_
    refine lv_iconst (v := 3) C.1 C.2.1 dL_law_771 (by decide) ?_
    refine k_iadd (v := 3) C (by decide) dL_law_772 ?_
    refine k_sld (v := y3) C hX hbl hbA Wd (vp_in_iff.mpr (by decide)) hy3 dL_law_773 ?_
    refine k_pi (k_runV (rest := []) C aks Wd cs_L_93 (kcX11_clash l D q5961 q5963 q5964 q5965 q5966 q5967 q5968 q5969 y1 y2 y3 (va_up (va_up (va_up (va_up (va_up (va_up (fun _ => none) 0 (some q5971)) 1 (some q5972)) 2 (some q5973)) 3 (some q5974)) 4 (some q5975)) 5 (some q5976)) e5970 _ c12142) [0, 1] rfl (by decide) [0] rfl 0 11 rfl rfl rfl rfl rfl ⟨(Nat.le_of_ble_eq_true rfl), (Nat.le_of_ble_eq_true rfl)⟩ hl.1 rfl rfl (Nat.le_of_ble_eq_true rfl) ⟨(Nat.le_of_ble_eq_true rfl), (Nat.le_of_ble_eq_true rfl)⟩ dL_law_774) (fun r w12143 => ?_)
    obtain ⟨c12144, rfl⟩ := w12143
    refine lv_aload_n C.1 C.2.1 dL_law_777 rfl (lv_at hl 1 rfl) ?_
    refine lv_aload_n C.1 C.2.1 dL_law_778 rfl (lv_at hl 3 rfl) ?_
    refine lv_iload_n C.1 C.2.1 dL_law_779 rfl (lv_at hl 0 rfl) ?_
    refine lv_iconst (v := 1) C.1 C.2.1 dL_law_780 (by decide) ?_
    refine k_iadd (v := 1) C (by decide) dL_law_781 ?_
    refine k_sld (v := y1) C hX hbl hbA Wd (vp_in_iff.mpr (by decide)) hy1 dL_law_782 ?_
    refine lv_aload_n C.1 C.2.1 dL_law_783 rfl (lv_at hl 3 rfl) ?_
    refine lv_iload_n C.1 C.2.1 dL_law_784 rfl (lv_at hl 0 rfl) ?_
    refine lv_iconst (v := 2) C.1 C.2.1 dL_law_785 (by decide) ?_
    refine k_iadd (v := 2) C (by decide) dL_law_786 ?_
    refine k_sld (v := y2) C hX hbl hbA Wd (vp_in_iff.mpr (by decide)) hy2 dL_law_787 ?_
    refine lv_aload_n C.1 C.2.1 dL_law_788 rfl (lv_at hl 3 rfl) ?_
    refine lv_iload_n C.1 C.2.1 dL_law_789 rfl (lv_at hl 0 rfl) ?_
    refine lv_iconst (v := 3) C.1 C.2.1 dL_law_790 (by decide) ?_
    refine k_iadd (v := 3) C (by decide) dL_law_791 ?_
    refine k_sld (v := y3) C hX hbl hbA Wd (vp_in_iff.mpr (by decide)) hy3 dL_law_792 ?_
    refine k_ci Wd [13, 14, 15] [0, 1, 2, 3, 4, 5, 6, 7, 8, 9, 10, 11, 12] rfl (wr := [(q5961, .inr (11, [.ref q5963, .int 0, .ref q5964, .ref q5965, .ref q5966, .ref q5967, .ref q5968, .ref q5969])), (q5963, .inl (e5970, 6, .inr (.inr (.inr (.inr (va_up (va_up (va_up (va_up (va_up (va_up (fun _ => none) 0 (some q5971)) 1 (some q5972)) 2 (some q5973)) 3 (some q5974)) 4 (some q5975)) 5 (some q5976))))))), (q5971, .inr (8, [.ref q5977, .int 0])), (q5972, .inr (8, [.ref q5978, .int 0])), (q5973, .inr (8, [.ref q5979, .int 0])), (q5974, .inr (8, [.ref q5980, .int 0])), (q5975, .inr (8, [.ref q5981, .int 0])), (q5976, .inr (8, [.ref q5982, .int 0])), (q5969, .inr (7, [.ref q6083, .ref q6084, .ref q6085, .ref q6086, .int 0])), (q6083, .inr (1, [.ref q6087, .int 0, .ref q6088, .ref q6089, .ref q6090, .ref q6091, .ref q6092, .ref q6093, .ref q6094, .ref q6095, .ref q6096, .ref q6097, .ref q6098, .ref q6099])), (q6099, .inl (e6100, 480, .inl (fun _ => 0))), (q6084, .inl (e6101, 6, .inl (fun _ => 0))), (q6085, .inl (e6102, 6, .inl (fun _ => 0)))]) rfl (by decide) (by decide) (cells' := 271) (slots' := 91330) (by decide) (by decide) (k_runV (rest := [.int (-1)]) C aks Wd cs_L_96 (kcX12_clash l D q6104 q6106 q6107 q6108 q6109 q6110 q6111 q6112 q6113 q6114 q6115 q6116 q6117 q6118 q6119 q6120 q6121 q6122 q6123 q6124 q6125 q6126 q6127 q6128 q6129 q6130 y1 y2 y3 e6132 e6154 _ ) [13, 14, 15] rfl (by decide) [4, 5] rfl 13 12 rfl rfl rfl rfl rfl ⟨(Nat.le_of_ble_eq_true rfl), (Nat.le_of_ble_eq_true rfl)⟩ hl.1 rfl rfl (Nat.le_of_ble_eq_true rfl) ⟨(Nat.le_of_ble_eq_true rfl), (Nat.le_of_ble_eq_true rfl)⟩ dL_law_793) (fun r _ H locs w12145 Wd => ?_)
    have Wd : wX D [(e5970, .object RX8), (e6100, .int), (e6101, .int), (e6102, .int), (e6132, .int), (e6154, .int)] s [(q5961, .inr (11, [.ref q5963, .int 0, .ref q5964, .ref q5965, .ref q5966, .ref q5967, .ref q5968, .ref q5969])), (q5963, .inl (e5970, 6, .inr (.inr (.inr (.inr (va_up (va_up (va_up (va_up (va_up (va_up (fun _ => none) 0 (some q5971)) 1 (some q5972)) 2 (some q5973)) 3 (some q5974)) 4 (some q5975)) 5 (some q5976))))))), (q5971, .inr (8, [.ref q5977, .int 0])), (q5972, .inr (8, [.ref q5978, .int 0])), (q5973, .inr (8, [.ref q5979, .int 0])), (q5974, .inr (8, [.ref q5980, .int 0])), (q5975, .inr (8, [.ref q5981, .int 0])), (q5976, .inr (8, [.ref q5982, .int 0])), (q5969, .inr (7, [.ref q6083, .ref q6084, .ref q6085, .ref q6086, .int 0])), (q6083, .inr (1, [.ref q6087, .int 0, .ref q6088, .ref q6089, .ref q6090, .ref q6091, .ref q6092, .ref q6093, .ref q6094, .ref q6095, .ref q6096, .ref q6097, .ref q6098, .ref q6099])), (q6099, .inl (e6100, 480, .inl (fun _ => 0))), (q6084, .inl (e6101, 6, .inl (fun _ => 0))), (q6085, .inl (e6102, 6, .inl (fun _ => 0)))] _ A s.heap _ := Wd
    rcases w12145 with ⟨c12146, rfl⟩ | ⟨c12147, c12148, rfl⟩ | ⟨c12149, c12150, c12151, rfl⟩ | ⟨c12152, c12153, c12154, c12155, rfl⟩ | ⟨c12156, c12157, c12158, c12159, c12160, rfl⟩ | ⟨c12161, c12162, c12163, c12164, c12165, c12166, rfl⟩ | ⟨c12167, c12168, c12169, c12170, c12171, c12172, c12173, rfl⟩ | ⟨c12174, c12175, c12176, c12177, c12178, c12179, c12180, rfl⟩
    · refine lv_icmp_eq (tgt := 801) C.1 C.2.1 dL_law_796 (by decide) (fun _ => ?_) (fun c12181 => absurd c12181 (by decide))
      exact tail _ _ _ (k_sub Wd [] rfl (by decide) [] rfl) (lv_sub hl [0, 3] rfl)
    · exact absurd c12142 c12147
    · exact absurd c12142 c12149
    · exact absurd c12142 c12152
    · exact absurd c12142 c12156
    · exact absurd c12142 c12161
    · exact absurd c12142 c12167
    · exact absurd c12142 c12174
  by_cases c12182 : y1 < 6
  · have hsel : ∃ (q12183 q12184 : Nat), (va_up (va_up (va_up (va_up (va_up (va_up (fun _ => none) 0 (some q5971)) 1 (some q5972)) 2 (some q5973)) 3 (some q5974)) 4 (some q5975)) 5 (some q5976)) y1.toNatClampNeg = some q12183 ∧ wX D [(e5970, .object RX8), (e6100, .int), (e6101, .int), (e6102, .int), (e6132, .int), (e6154, .int)] s [(q5961, .inr (11, [.ref q5963, .int 0, .ref q5964, .ref q5965, .ref q5966, .ref q5967, .ref q5968, .ref q5969])), (q5963, .inl (e5970, 6, .inr (.inr (.inr (.inr (va_up (va_up (va_up (va_up (va_up (va_up (fun _ => none) 0 (some q5971)) 1 (some q5972)) 2 (some q5973)) 3 (some q5974)) 4 (some q5975)) 5 (some q5976))))))), (q5969, .inr (7, [.ref q6083, .ref q6084, .ref q6085, .ref q6086, .int 0])), (q6083, .inr (1, [.ref q6087, .int 0, .ref q6088, .ref q6089, .ref q6090, .ref q6091, .ref q6092, .ref q6093, .ref q6094, .ref q6095, .ref q6096, .ref q6097, .ref q6098, .ref q6099])), (q6099, .inl (e6100, 480, .inl (fun _ => 0))), (q6084, .inl (e6101, 6, .inl (fun _ => 0))), (q6085, .inl (e6102, 6, .inl (fun _ => 0))), (q6104, .inr (12, [.ref q6106, .ref q6107, .ref q6108, .ref q6109, .int 0, .int 0, .ref q6110, .int 0, .int 0, .int 0, .int 0, .int 0, .int 0, .int 0, .int 0, .int 0, .int 0, .int 0, .int 0, .int 0, .int (-1), .int 0, .int 0, .int 0, .ref q6111, .ref q6112, .ref q6113, .ref q6114, .ref q6115, .ref q6116, .int 0, .int 0, .int 0, .int 0, .ref q6117, .ref q6118, .ref q6119, .int 0, .int 0, .int 0, .int 0, .ref q6120, .ref q6121, .int 0, .ref q6122, .ref q6123, .int 0, .ref q6124, .int 0, .ref q6125, .ref q6126, .ref q6127, .int 0, .ref q6128, .ref q6129, .ref q6130])), (q6107, .inl (e6132, 6, .inl (fun _ => 0))), (q6129, .inl (e6154, 6, .inl (fun _ => 0))), (q12183, .inr (8, [.ref q12184, .int 0]))] H A s.heap locs := by
      rcases kf6 c12142 c12182 with rfl | rfl | rfl | rfl | rfl | rfl
      · exact ⟨q5971, q5977, rfl, k_sub Wd [0, 1, 8, 9, 10, 11, 12, 13, 14, 15, 2] rfl (by decide) [0, 1, 2, 3, 4, 5] rfl⟩
      · exact ⟨q5972, q5978, rfl, k_sub Wd [0, 1, 8, 9, 10, 11, 12, 13, 14, 15, 3] rfl (by decide) [0, 1, 2, 3, 4, 5] rfl⟩
      · exact ⟨q5973, q5979, rfl, k_sub Wd [0, 1, 8, 9, 10, 11, 12, 13, 14, 15, 4] rfl (by decide) [0, 1, 2, 3, 4, 5] rfl⟩
      · exact ⟨q5974, q5980, rfl, k_sub Wd [0, 1, 8, 9, 10, 11, 12, 13, 14, 15, 5] rfl (by decide) [0, 1, 2, 3, 4, 5] rfl⟩
      · exact ⟨q5975, q5981, rfl, k_sub Wd [0, 1, 8, 9, 10, 11, 12, 13, 14, 15, 6] rfl (by decide) [0, 1, 2, 3, 4, 5] rfl⟩
      · exact ⟨q5976, q5982, rfl, k_sub Wd [0, 1, 8, 9, 10, 11, 12, 13, 14, 15, 7] rfl (by decide) [0, 1, 2, 3, 4, 5] rfl⟩
    obtain ⟨q12183, q12184, hk12185, Wd⟩ := hsel
    refine lv_aload_n C.1 C.2.1 dL_law_758 rfl (lv_at hl 2 rfl) ?_
    refine lv_aload_n C.1 C.2.1 dL_law_759 rfl (lv_at hl 3 rfl) ?_
    refine lv_iload_n C.1 C.2.1 dL_law_760 rfl (lv_at hl 0 rfl) ?_
    refine lv_iconst (v := 1) C.1 C.2.1 dL_law_761 (by decide) ?_
    refine k_iadd (v := 1) C (by decide) dL_law_762 ?_
    refine k_sld (v := y1) C hX hbl hbA Wd (vp_in_iff.mpr (by decide)) hy1 dL_law_763 ?_
    refine lv_aload_n C.1 C.2.1 dL_law_764 rfl (lv_at hl 3 rfl) ?_
    refine lv_iload_n C.1 C.2.1 dL_law_765 rfl (lv_at hl 0 rfl) ?_
    refine lv_iconst (v := 2) C.1 C.2.1 dL_law_766 (by decide) ?_
    refine k_iadd (v := 2) C (by decide) dL_law_767 ?_
    refine k_sld (v := y2) C hX hbl hbA Wd (vp_in_iff.mpr (by decide)) hy2 dL_law_768 ?_
    refine lv_aload_n C.1 C.2.1 dL_law_769 rfl (lv_at hl 3 rfl) ?_
    refine lv_iload_n C.1 C.2.1 dL_law_770 rfl (lv_at hl 0 rfl) ?_
    refine lv_iconst (v := 3) C.1 C.2.1 dL_law_771 (by decide) ?_
    refine k_iadd (v := 3) C (by decide) dL_law_772 ?_
    refine k_sld (v := y3) C hX hbl hbA Wd (vp_in_iff.mpr (by decide)) hy3 dL_law_773 ?_
    refine k_ci Wd [0, 1, 2, 3, 10, 4, 5, 6] [7, 8, 9] rfl (wr := [(q6104, .inr (12, [.ref q6106, .ref q6107, .ref q6108, .ref q6109, .int 0, .int 0, .ref q6110, .int 0, .int 0, .int 0, .int 0, .int 0, .int 0, .int 0, .int 0, .int 0, .int 0, .int 0, .int 0, .int 0, .int (-1), .int 0, .int 0, .int 0, .ref q6111, .ref q6112, .ref q6113, .ref q6114, .ref q6115, .ref q6116, .int 0, .int 0, .int 0, .int 0, .ref q6117, .ref q6118, .ref q6119, .int 0, .int 0, .int 0, .int 0, .ref q6120, .ref q6121, .int 0, .ref q6122, .ref q6123, .int 0, .ref q6124, .int 0, .ref q6125, .ref q6126, .ref q6127, .int 0, .ref q6128, .ref q6129, .ref q6130])), (q6107, .inl (e6132, 6, .inl (fun _ => 0))), (q6129, .inl (e6154, 6, .inl (fun _ => 0)))]) rfl (by decide) (by decide) (cells' := 271) (slots' := 91330) (by decide) (by decide) (k_runV (rest := []) C aks Wd cs_L_93 (kcX11_clash_v2 l D q5961 q5963 q5964 q5965 q5966 q5967 q5968 q5969 q12183 q6083 q6084 q6085 q6086 q12184 q6087 q6088 q6089 q6090 q6091 q6092 q6093 q6094 q6095 q6096 q6097 q6098 q6099 y1 y2 y3 (va_up (va_up (va_up (va_up (va_up (va_up (fun _ => none) 0 (some q5971)) 1 (some q5972)) 2 (some q5973)) 3 (some q5974)) 4 (some q5975)) 5 (some q5976)) e5970 e6101 e6102 e6100 _ hk12185 c12142 c12182) [0, 1, 2, 3, 10, 4, 5, 6] rfl (by decide) [0, 2, 3, 1] rfl 0 11 rfl rfl rfl rfl rfl ⟨(Nat.le_of_ble_eq_true rfl), (Nat.le_of_ble_eq_true rfl)⟩ hl.1 rfl rfl (Nat.le_of_ble_eq_true rfl) ⟨(Nat.le_of_ble_eq_true rfl), (Nat.le_of_ble_eq_true rfl)⟩ dL_law_774) (fun r _ H locs w12186 Wd => ?_)
    have Wd : wX D [(e5970, .object RX8), (e6100, .int), (e6101, .int), (e6102, .int), (e6132, .int), (e6154, .int)] s [(q6104, .inr (12, [.ref q6106, .ref q6107, .ref q6108, .ref q6109, .int 0, .int 0, .ref q6110, .int 0, .int 0, .int 0, .int 0, .int 0, .int 0, .int 0, .int 0, .int 0, .int 0, .int 0, .int 0, .int 0, .int (-1), .int 0, .int 0, .int 0, .ref q6111, .ref q6112, .ref q6113, .ref q6114, .ref q6115, .ref q6116, .int 0, .int 0, .int 0, .int 0, .ref q6117, .ref q6118, .ref q6119, .int 0, .int 0, .int 0, .int 0, .ref q6120, .ref q6121, .int 0, .ref q6122, .ref q6123, .int 0, .ref q6124, .int 0, .ref q6125, .ref q6126, .ref q6127, .int 0, .ref q6128, .ref q6129, .ref q6130])), (q6107, .inl (e6132, 6, .inl (fun _ => 0))), (q6129, .inl (e6154, 6, .inl (fun _ => 0)))] _ A s.heap _ := Wd
    rcases w12186 with ⟨c12187, c12188, c12189, rfl⟩ | ⟨c12190, c12191, c12192, c12193, rfl⟩ | ⟨c12194, c12195, c12196, c12197, c12198, rfl⟩ | ⟨c12199, c12200, c12201, c12202, c12203, c12204, rfl⟩ | ⟨c12205, c12206, c12207, c12208, c12209, c12210, c12211, c12212, c12213, c12214, c12215, rfl⟩ | ⟨c12216, c12217, c12218, c12219, c12220, c12221, c12222, rfl⟩
    · refine lv_aload_n C.1 C.2.1 dL_law_777 rfl (lv_at hl 1 rfl) ?_
      refine lv_aload_n C.1 C.2.1 dL_law_778 rfl (lv_at hl 3 rfl) ?_
      refine lv_iload_n C.1 C.2.1 dL_law_779 rfl (lv_at hl 0 rfl) ?_
      refine lv_iconst (v := 1) C.1 C.2.1 dL_law_780 (by decide) ?_
      refine k_iadd (v := 1) C (by decide) dL_law_781 ?_
      refine k_sld (v := y1) C hX hbl hbA Wd (vp_in_iff.mpr (by decide)) hy1 dL_law_782 ?_
      refine lv_aload_n C.1 C.2.1 dL_law_783 rfl (lv_at hl 3 rfl) ?_
      refine lv_iload_n C.1 C.2.1 dL_law_784 rfl (lv_at hl 0 rfl) ?_
      refine lv_iconst (v := 2) C.1 C.2.1 dL_law_785 (by decide) ?_
      refine k_iadd (v := 2) C (by decide) dL_law_786 ?_
      refine k_sld (v := y2) C hX hbl hbA Wd (vp_in_iff.mpr (by decide)) hy2 dL_law_787 ?_
      refine lv_aload_n C.1 C.2.1 dL_law_788 rfl (lv_at hl 3 rfl) ?_
      refine lv_iload_n C.1 C.2.1 dL_law_789 rfl (lv_at hl 0 rfl) ?_
      refine lv_iconst (v := 3) C.1 C.2.1 dL_law_790 (by decide) ?_
      refine k_iadd (v := 3) C (by decide) dL_law_791 ?_
      refine k_sld (v := y3) C hX hbl hbA Wd (vp_in_iff.mpr (by decide)) hy3 dL_law_792 ?_
      refine k_ci Wd [0, 1, 2] [] rfl (wr := []) rfl (by decide) (by decide) (cells' := 271) (slots' := 91330) (by decide) (by decide) (k_runV (rest := [.int (-1)]) C aks Wd cs_L_96 (kcX12_clash l D q6104 q6106 q6107 q6108 q6109 q6110 q6111 q6112 q6113 q6114 q6115 q6116 q6117 q6118 q6119 q6120 q6121 q6122 q6123 q6124 q6125 q6126 q6127 q6128 q6129 q6130 y1 y2 y3 e6132 e6154 _ ) [0, 1, 2] rfl (by decide) [4, 5] rfl 0 12 rfl rfl rfl rfl rfl ⟨(Nat.le_of_ble_eq_true rfl), (Nat.le_of_ble_eq_true rfl)⟩ hl.1 rfl rfl (Nat.le_of_ble_eq_true rfl) ⟨(Nat.le_of_ble_eq_true rfl), (Nat.le_of_ble_eq_true rfl)⟩ dL_law_793) (fun r _ H locs w12223 Wd => ?_)
      have Wd : wX D [(e5970, .object RX8), (e6100, .int), (e6101, .int), (e6102, .int), (e6132, .int), (e6154, .int)] s [] _ A s.heap _ := Wd
      rcases w12223 with ⟨c12224, rfl⟩ | ⟨c12225, c12226, rfl⟩ | ⟨c12227, c12228, c12229, rfl⟩ | ⟨c12230, c12231, c12232, c12233, rfl⟩ | ⟨c12234, c12235, c12236, c12237, c12238, rfl⟩ | ⟨c12239, c12240, c12241, c12242, c12243, c12244, rfl⟩ | ⟨c12245, c12246, c12247, c12248, c12249, c12250, c12251, rfl⟩ | ⟨c12252, c12253, c12254, c12255, c12256, c12257, c12258, rfl⟩
      · exact absurd c12224 c12142
      · exact False.elim (by have z0 := kz_nlt c12142; have z1 := kz_lt c12182; have z2 := kz_nlt c12187; have z3 := kz_nle c12188; have z4 := kz_nlt c12225; have z5 := kz_lt c12226; have t0 : (0 : Int32).toInt = 0 := (by decide); have t6 : (6 : Int32).toInt = 6 := (by decide); have t5 : (5 : Int32).toInt = 5 := (by decide); omega)
      · refine lv_icmp_eq (tgt := 801) C.1 C.2.1 dL_law_796 (by decide) (fun _ => ?_) (fun c12259 => absurd c12259 (by decide))
        exact tail _ _ _ (k_sub Wd [] rfl (by decide) [] rfl) (lv_sub hl [0, 3] rfl)
      · exact absurd c12189 c12232
      · exact absurd c12189 c12236
      · exact absurd c12189 c12241
      · exact absurd c12189 c12247
      · exact absurd c12189 c12254
    · refine lv_aload_n C.1 C.2.1 dL_law_777 rfl (lv_at hl 1 rfl) ?_
      refine lv_aload_n C.1 C.2.1 dL_law_778 rfl (lv_at hl 3 rfl) ?_
      refine lv_iload_n C.1 C.2.1 dL_law_779 rfl (lv_at hl 0 rfl) ?_
      refine lv_iconst (v := 1) C.1 C.2.1 dL_law_780 (by decide) ?_
      refine k_iadd (v := 1) C (by decide) dL_law_781 ?_
      refine k_sld (v := y1) C hX hbl hbA Wd (vp_in_iff.mpr (by decide)) hy1 dL_law_782 ?_
      refine lv_aload_n C.1 C.2.1 dL_law_783 rfl (lv_at hl 3 rfl) ?_
      refine lv_iload_n C.1 C.2.1 dL_law_784 rfl (lv_at hl 0 rfl) ?_
      refine lv_iconst (v := 2) C.1 C.2.1 dL_law_785 (by decide) ?_
      refine k_iadd (v := 2) C (by decide) dL_law_786 ?_
      refine k_sld (v := y2) C hX hbl hbA Wd (vp_in_iff.mpr (by decide)) hy2 dL_law_787 ?_
      refine lv_aload_n C.1 C.2.1 dL_law_788 rfl (lv_at hl 3 rfl) ?_
      refine lv_iload_n C.1 C.2.1 dL_law_789 rfl (lv_at hl 0 rfl) ?_
      refine lv_iconst (v := 3) C.1 C.2.1 dL_law_790 (by decide) ?_
      refine k_iadd (v := 3) C (by decide) dL_law_791 ?_
      refine k_sld (v := y3) C hX hbl hbA Wd (vp_in_iff.mpr (by decide)) hy3 dL_law_792 ?_
      refine k_ci Wd [0, 1, 2] [] rfl (wr := []) rfl (by decide) (by decide) (cells' := 271) (slots' := 91330) (by decide) (by decide) (k_runV (rest := [.int (-1)]) C aks Wd cs_L_96 (kcX12_clash l D q6104 q6106 q6107 q6108 q6109 q6110 q6111 q6112 q6113 q6114 q6115 q6116 q6117 q6118 q6119 q6120 q6121 q6122 q6123 q6124 q6125 q6126 q6127 q6128 q6129 q6130 y1 y2 y3 e6132 e6154 _ ) [0, 1, 2] rfl (by decide) [4, 5] rfl 0 12 rfl rfl rfl rfl rfl ⟨(Nat.le_of_ble_eq_true rfl), (Nat.le_of_ble_eq_true rfl)⟩ hl.1 rfl rfl (Nat.le_of_ble_eq_true rfl) ⟨(Nat.le_of_ble_eq_true rfl), (Nat.le_of_ble_eq_true rfl)⟩ dL_law_793) (fun r _ H locs w12260 Wd => ?_)
      have Wd : wX D [(e5970, .object RX8), (e6100, .int), (e6101, .int), (e6102, .int), (e6132, .int), (e6154, .int)] s [] _ A s.heap _ := Wd
      rcases w12260 with ⟨c12261, rfl⟩ | ⟨c12262, c12263, rfl⟩ | ⟨c12264, c12265, c12266, rfl⟩ | ⟨c12267, c12268, c12269, c12270, rfl⟩ | ⟨c12271, c12272, c12273, c12274, c12275, rfl⟩ | ⟨c12276, c12277, c12278, c12279, c12280, c12281, rfl⟩ | ⟨c12282, c12283, c12284, c12285, c12286, c12287, c12288, rfl⟩ | ⟨c12289, c12290, c12291, c12292, c12293, c12294, c12295, rfl⟩
      · exact absurd c12261 c12142
      · exact False.elim (by have z0 := kz_nlt c12142; have z1 := kz_lt c12182; have z2 := kz_nlt c12190; have z3 := kz_nle c12191; have z4 := kz_nlt c12262; have z5 := kz_lt c12263; have t0 : (0 : Int32).toInt = 0 := (by decide); have t6 : (6 : Int32).toInt = 6 := (by decide); have t5 : (5 : Int32).toInt = 5 := (by decide); omega)
      · exact absurd c12266 c12192
      · refine lv_icmp_eq (tgt := 801) C.1 C.2.1 dL_law_796 (by decide) (fun _ => ?_) (fun c12296 => absurd c12296 (by decide))
        exact tail _ _ _ (k_sub Wd [] rfl (by decide) [] rfl) (lv_sub hl [0, 3] rfl)
      · exact False.elim (by have z0 := kz_nlt c12192; have z1 := kz_le c12193; have z2 := kz_nlt c12273; have z3 := kz_nlt c12274; have t0 : (0 : Int32).toInt = 0 := (by decide); have t6 : (6 : Int32).toInt = 6 := (by decide); have t5 : (5 : Int32).toInt = 5 := (by decide); omega)
      · exact False.elim (by have z0 := kz_nlt c12192; have z1 := kz_le c12193; have z2 := kz_nlt c12278; have z3 := kz_nlt c12279; have t0 : (0 : Int32).toInt = 0 := (by decide); have t6 : (6 : Int32).toInt = 6 := (by decide); have t5 : (5 : Int32).toInt = 5 := (by decide); omega)
      · exact False.elim (by have z0 := kz_nlt c12192; have z1 := kz_le c12193; have z2 := kz_nlt c12284; have z3 := kz_nlt c12285; have t0 : (0 : Int32).toInt = 0 := (by decide); have t6 : (6 : Int32).toInt = 6 := (by decide); have t5 : (5 : Int32).toInt = 5 := (by decide); omega)
      · exact False.elim (by have z0 := kz_nlt c12192; have z1 := kz_le c12193; have z2 := kz_nlt c12291; have z3 := kz_nlt c12292; have t0 : (0 : Int32).toInt = 0 := (by decide); have t6 : (6 : Int32).toInt = 6 := (by decide); have t5 : (5 : Int32).toInt = 5 := (by decide); omega)
    · refine lv_aload_n C.1 C.2.1 dL_law_777 rfl (lv_at hl 1 rfl) ?_
      refine lv_aload_n C.1 C.2.1 dL_law_778 rfl (lv_at hl 3 rfl) ?_
      refine lv_iload_n C.1 C.2.1 dL_law_779 rfl (lv_at hl 0 rfl) ?_
      refine lv_iconst (v := 1) C.1 C.2.1 dL_law_780 (by decide) ?_
      refine k_iadd (v := 1) C (by decide) dL_law_781 ?_
      refine k_sld (v := y1) C hX hbl hbA Wd (vp_in_iff.mpr (by decide)) hy1 dL_law_782 ?_
      refine lv_aload_n C.1 C.2.1 dL_law_783 rfl (lv_at hl 3 rfl) ?_
      refine lv_iload_n C.1 C.2.1 dL_law_784 rfl (lv_at hl 0 rfl) ?_
      refine lv_iconst (v := 2) C.1 C.2.1 dL_law_785 (by decide) ?_
      refine k_iadd (v := 2) C (by decide) dL_law_786 ?_
      refine k_sld (v := y2) C hX hbl hbA Wd (vp_in_iff.mpr (by decide)) hy2 dL_law_787 ?_
      refine lv_aload_n C.1 C.2.1 dL_law_788 rfl (lv_at hl 3 rfl) ?_
      refine lv_iload_n C.1 C.2.1 dL_law_789 rfl (lv_at hl 0 rfl) ?_
      refine lv_iconst (v := 3) C.1 C.2.1 dL_law_790 (by decide) ?_
      refine k_iadd (v := 3) C (by decide) dL_law_791 ?_
      refine k_sld (v := y3) C hX hbl hbA Wd (vp_in_iff.mpr (by decide)) hy3 dL_law_792 ?_
      refine k_ci Wd [0, 1, 2] [] rfl (wr := []) rfl (by decide) (by decide) (cells' := 271) (slots' := 91330) (by decide) (by decide) (k_runV (rest := [.int (-1)]) C aks Wd cs_L_96 (kcX12_clash l D q6104 q6106 q6107 q6108 q6109 q6110 q6111 q6112 q6113 q6114 q6115 q6116 q6117 q6118 q6119 q6120 q6121 q6122 q6123 q6124 q6125 q6126 q6127 q6128 q6129 q6130 y1 y2 y3 e6132 e6154 _ ) [0, 1, 2] rfl (by decide) [4, 5] rfl 0 12 rfl rfl rfl rfl rfl ⟨(Nat.le_of_ble_eq_true rfl), (Nat.le_of_ble_eq_true rfl)⟩ hl.1 rfl rfl (Nat.le_of_ble_eq_true rfl) ⟨(Nat.le_of_ble_eq_true rfl), (Nat.le_of_ble_eq_true rfl)⟩ dL_law_793) (fun r _ H locs w12297 Wd => ?_)
      have Wd : wX D [(e5970, .object RX8), (e6100, .int), (e6101, .int), (e6102, .int), (e6132, .int), (e6154, .int)] s [] _ A s.heap _ := Wd
      rcases w12297 with ⟨c12298, rfl⟩ | ⟨c12299, c12300, rfl⟩ | ⟨c12301, c12302, c12303, rfl⟩ | ⟨c12304, c12305, c12306, c12307, rfl⟩ | ⟨c12308, c12309, c12310, c12311, c12312, rfl⟩ | ⟨c12313, c12314, c12315, c12316, c12317, c12318, rfl⟩ | ⟨c12319, c12320, c12321, c12322, c12323, c12324, c12325, rfl⟩ | ⟨c12326, c12327, c12328, c12329, c12330, c12331, c12332, rfl⟩
      · exact absurd c12298 c12142
      · exact False.elim (by have z0 := kz_nlt c12142; have z1 := kz_lt c12182; have z2 := kz_nlt c12194; have z3 := kz_nle c12195; have z4 := kz_nlt c12299; have z5 := kz_lt c12300; have t0 : (0 : Int32).toInt = 0 := (by decide); have t6 : (6 : Int32).toInt = 6 := (by decide); have t5 : (5 : Int32).toInt = 5 := (by decide); omega)
      · exact absurd c12303 c12196
      · exact False.elim (by have z0 := kz_nlt c12196; have z1 := kz_nle c12197; have z2 := kz_nlt c12306; have z3 := kz_lt c12307; have t0 : (0 : Int32).toInt = 0 := (by decide); have t6 : (6 : Int32).toInt = 6 := (by decide); have t5 : (5 : Int32).toInt = 5 := (by decide); omega)
      · refine lv_icmp_eq (tgt := 801) C.1 C.2.1 dL_law_796 (by decide) (fun _ => ?_) (fun c12333 => absurd c12333 (by decide))
        exact tail _ _ _ (k_sub Wd [] rfl (by decide) [] rfl) (lv_sub hl [0, 3] rfl)
      · exact absurd c12198 c12317
      · exact absurd c12198 c12323
      · exact absurd c12198 c12330
    · refine lv_aload_n C.1 C.2.1 dL_law_777 rfl (lv_at hl 1 rfl) ?_
      refine lv_aload_n C.1 C.2.1 dL_law_778 rfl (lv_at hl 3 rfl) ?_
      refine lv_iload_n C.1 C.2.1 dL_law_779 rfl (lv_at hl 0 rfl) ?_
      refine lv_iconst (v := 1) C.1 C.2.1 dL_law_780 (by decide) ?_
      refine k_iadd (v := 1) C (by decide) dL_law_781 ?_
      refine k_sld (v := y1) C hX hbl hbA Wd (vp_in_iff.mpr (by decide)) hy1 dL_law_782 ?_
      refine lv_aload_n C.1 C.2.1 dL_law_783 rfl (lv_at hl 3 rfl) ?_
      refine lv_iload_n C.1 C.2.1 dL_law_784 rfl (lv_at hl 0 rfl) ?_
      refine lv_iconst (v := 2) C.1 C.2.1 dL_law_785 (by decide) ?_
      refine k_iadd (v := 2) C (by decide) dL_law_786 ?_
      refine k_sld (v := y2) C hX hbl hbA Wd (vp_in_iff.mpr (by decide)) hy2 dL_law_787 ?_
      refine lv_aload_n C.1 C.2.1 dL_law_788 rfl (lv_at hl 3 rfl) ?_
      refine lv_iload_n C.1 C.2.1 dL_law_789 rfl (lv_at hl 0 rfl) ?_
      refine lv_iconst (v := 3) C.1 C.2.1 dL_law_790 (by decide) ?_
      refine k_iadd (v := 3) C (by decide) dL_law_791 ?_
      refine k_sld (v := y3) C hX hbl hbA Wd (vp_in_iff.mpr (by decide)) hy3 dL_law_792 ?_
      refine k_ci Wd [0, 1, 2] [] rfl (wr := []) rfl (by decide) (by decide) (cells' := 271) (slots' := 91330) (by decide) (by decide) (k_runV (rest := [.int (-1)]) C aks Wd cs_L_96 (kcX12_clash l D q6104 q6106 q6107 q6108 q6109 q6110 q6111 q6112 q6113 q6114 q6115 q6116 q6117 q6118 q6119 q6120 q6121 q6122 q6123 q6124 q6125 q6126 q6127 q6128 q6129 q6130 y1 y2 y3 e6132 e6154 _ ) [0, 1, 2] rfl (by decide) [4, 5] rfl 0 12 rfl rfl rfl rfl rfl ⟨(Nat.le_of_ble_eq_true rfl), (Nat.le_of_ble_eq_true rfl)⟩ hl.1 rfl rfl (Nat.le_of_ble_eq_true rfl) ⟨(Nat.le_of_ble_eq_true rfl), (Nat.le_of_ble_eq_true rfl)⟩ dL_law_793) (fun r _ H locs w12334 Wd => ?_)
      have Wd : wX D [(e5970, .object RX8), (e6100, .int), (e6101, .int), (e6102, .int), (e6132, .int), (e6154, .int)] s [] _ A s.heap _ := Wd
      rcases w12334 with ⟨c12335, rfl⟩ | ⟨c12336, c12337, rfl⟩ | ⟨c12338, c12339, c12340, rfl⟩ | ⟨c12341, c12342, c12343, c12344, rfl⟩ | ⟨c12345, c12346, c12347, c12348, c12349, rfl⟩ | ⟨c12350, c12351, c12352, c12353, c12354, c12355, rfl⟩ | ⟨c12356, c12357, c12358, c12359, c12360, c12361, c12362, rfl⟩ | ⟨c12363, c12364, c12365, c12366, c12367, c12368, c12369, rfl⟩
      · exact absurd c12335 c12142
      · exact False.elim (by have z0 := kz_nlt c12142; have z1 := kz_lt c12182; have z2 := kz_nlt c12199; have z3 := kz_nle c12200; have z4 := kz_nlt c12336; have z5 := kz_lt c12337; have t0 : (0 : Int32).toInt = 0 := (by decide); have t6 : (6 : Int32).toInt = 6 := (by decide); have t5 : (5 : Int32).toInt = 5 := (by decide); omega)
      · exact absurd c12340 c12201
      · exact False.elim (by have z0 := kz_nlt c12201; have z1 := kz_nle c12202; have z2 := kz_nlt c12343; have z3 := kz_lt c12344; have t0 : (0 : Int32).toInt = 0 := (by decide); have t6 : (6 : Int32).toInt = 6 := (by decide); have t5 : (5 : Int32).toInt = 5 := (by decide); omega)
      · exact absurd c12349 c12203
      · refine lv_icmp_eq (tgt := 801) C.1 C.2.1 dL_law_796 (by decide) (fun _ => ?_) (fun c12370 => absurd c12370 (by decide))
        exact tail _ _ _ (k_sub Wd [] rfl (by decide) [] rfl) (lv_sub hl [0, 3] rfl)
      · exact False.elim (by have z0 := kz_nlt c12203; have z1 := kz_le c12204; have z2 := kz_nlt c12360; have z3 := kz_nlt c12361; have t0 : (0 : Int32).toInt = 0 := (by decide); have t6 : (6 : Int32).toInt = 6 := (by decide); have t5 : (5 : Int32).toInt = 5 := (by decide); omega)
      · exact False.elim (by have z0 := kz_nlt c12203; have z1 := kz_le c12204; have z2 := kz_nlt c12367; have z3 := kz_nlt c12368; have t0 : (0 : Int32).toInt = 0 := (by decide); have t6 : (6 : Int32).toInt = 6 := (by decide); have t5 : (5 : Int32).toInt = 5 := (by decide); omega)
    · refine lv_aload_n C.1 C.2.1 dL_law_777 rfl (lv_at hl 1 rfl) ?_
      refine lv_aload_n C.1 C.2.1 dL_law_778 rfl (lv_at hl 3 rfl) ?_
      refine lv_iload_n C.1 C.2.1 dL_law_779 rfl (lv_at hl 0 rfl) ?_
      refine lv_iconst (v := 1) C.1 C.2.1 dL_law_780 (by decide) ?_
      refine k_iadd (v := 1) C (by decide) dL_law_781 ?_
      refine k_sld (v := y1) C hX hbl hbA Wd (vp_in_iff.mpr (by decide)) hy1 dL_law_782 ?_
      refine lv_aload_n C.1 C.2.1 dL_law_783 rfl (lv_at hl 3 rfl) ?_
      refine lv_iload_n C.1 C.2.1 dL_law_784 rfl (lv_at hl 0 rfl) ?_
      refine lv_iconst (v := 2) C.1 C.2.1 dL_law_785 (by decide) ?_
      refine k_iadd (v := 2) C (by decide) dL_law_786 ?_
      refine k_sld (v := y2) C hX hbl hbA Wd (vp_in_iff.mpr (by decide)) hy2 dL_law_787 ?_
      refine lv_aload_n C.1 C.2.1 dL_law_788 rfl (lv_at hl 3 rfl) ?_
      refine lv_iload_n C.1 C.2.1 dL_law_789 rfl (lv_at hl 0 rfl) ?_
      refine lv_iconst (v := 3) C.1 C.2.1 dL_law_790 (by decide) ?_
      refine k_iadd (v := 3) C (by decide) dL_law_791 ?_
      refine k_sld (v := y3) C hX hbl hbA Wd (vp_in_iff.mpr (by decide)) hy3 dL_law_792 ?_
      refine k_ci Wd [0, 1, 2] [] rfl (wr := []) rfl (by decide) (by decide) (cells' := 271) (slots' := 91330) (by decide) (by decide) (k_runV (rest := [.int 0]) C aks Wd cs_L_96 (kcX12_clash l D q6104 q6106 q6107 q6108 q6109 q6110 q6111 q6112 q6113 q6114 q6115 q6116 q6117 q6118 q6119 q6120 q6121 q6122 q6123 q6124 q6125 q6126 q6127 q6128 q6129 q6130 y1 y2 y3 e6132 e6154 _ ) [0, 1, 2] rfl (by decide) [4, 5] rfl 0 12 rfl rfl rfl rfl rfl ⟨(Nat.le_of_ble_eq_true rfl), (Nat.le_of_ble_eq_true rfl)⟩ hl.1 rfl rfl (Nat.le_of_ble_eq_true rfl) ⟨(Nat.le_of_ble_eq_true rfl), (Nat.le_of_ble_eq_true rfl)⟩ dL_law_793) (fun r _ H locs w12371 Wd => ?_)
      have Wd : wX D [(e5970, .object RX8), (e6100, .int), (e6101, .int), (e6102, .int), (e6132, .int), (e6154, .int)] s [] _ A s.heap _ := Wd
      rcases w12371 with ⟨c12372, rfl⟩ | ⟨c12373, c12374, rfl⟩ | ⟨c12375, c12376, c12377, rfl⟩ | ⟨c12378, c12379, c12380, c12381, rfl⟩ | ⟨c12382, c12383, c12384, c12385, c12386, rfl⟩ | ⟨c12387, c12388, c12389, c12390, c12391, c12392, rfl⟩ | ⟨c12393, c12394, c12395, c12396, c12397, c12398, c12399, rfl⟩ | ⟨c12400, c12401, c12402, c12403, c12404, c12405, c12406, rfl⟩
      · exact absurd c12372 c12142
      · exact False.elim (by have z0 := kz_nlt c12142; have z1 := kz_lt c12182; have z2 := kz_nlt c12205; have z3 := kz_nle c12206; have z4 := kz_nlt c12373; have z5 := kz_lt c12374; have t0 : (0 : Int32).toInt = 0 := (by decide); have t6 : (6 : Int32).toInt = 6 := (by decide); have t5 : (5 : Int32).toInt = 5 := (by decide); omega)
      · exact absurd c12377 c12207
      · exact False.elim (by have z0 := kz_nlt c12207; have z1 := kz_nle c12208; have z2 := kz_ne c12211; have z3 := kz_nlt c12212; have z4 := kz_nle c12213; have z5 := kz_nlt c12380; have z6 := kz_lt c12381; have t0 : (0 : Int32).toInt = 0 := (by decide); have t6 : (6 : Int32).toInt = 6 := (by decide); have t5 : (5 : Int32).toInt = 5 := (by decide); omega)
      · exact absurd c12386 c12209
      · exact False.elim (by have z0 := kz_nlt c12209; have z1 := kz_nle c12210; have z2 := kz_ne c12211; have z3 := kz_nlt c12214; have z4 := kz_nle c12215; have z5 := kz_nlt c12391; have z6 := kz_lt c12392; have t0 : (0 : Int32).toInt = 0 := (by decide); have t6 : (6 : Int32).toInt = 6 := (by decide); have t5 : (5 : Int32).toInt = 5 := (by decide); omega)
      · refine lv_icmp_eq (tgt := 801) C.1 C.2.1 dL_law_796 (by decide) (fun _ => ?_) (fun c12407 => absurd c12407 (by decide))
        exact tail _ _ _ (k_sub Wd [] rfl (by decide) [] rfl) (lv_sub hl [0, 3] rfl)
      · exact absurd c12406 c12211
    · refine lv_aload_n C.1 C.2.1 dL_law_777 rfl (lv_at hl 1 rfl) ?_
      refine lv_aload_n C.1 C.2.1 dL_law_778 rfl (lv_at hl 3 rfl) ?_
      refine lv_iload_n C.1 C.2.1 dL_law_779 rfl (lv_at hl 0 rfl) ?_
      refine lv_iconst (v := 1) C.1 C.2.1 dL_law_780 (by decide) ?_
      refine k_iadd (v := 1) C (by decide) dL_law_781 ?_
      refine k_sld (v := y1) C hX hbl hbA Wd (vp_in_iff.mpr (by decide)) hy1 dL_law_782 ?_
      refine lv_aload_n C.1 C.2.1 dL_law_783 rfl (lv_at hl 3 rfl) ?_
      refine lv_iload_n C.1 C.2.1 dL_law_784 rfl (lv_at hl 0 rfl) ?_
      refine lv_iconst (v := 2) C.1 C.2.1 dL_law_785 (by decide) ?_
      refine k_iadd (v := 2) C (by decide) dL_law_786 ?_
      refine k_sld (v := y2) C hX hbl hbA Wd (vp_in_iff.mpr (by decide)) hy2 dL_law_787 ?_
      refine lv_aload_n C.1 C.2.1 dL_law_788 rfl (lv_at hl 3 rfl) ?_
      refine lv_iload_n C.1 C.2.1 dL_law_789 rfl (lv_at hl 0 rfl) ?_
      refine lv_iconst (v := 3) C.1 C.2.1 dL_law_790 (by decide) ?_
      refine k_iadd (v := 3) C (by decide) dL_law_791 ?_
      refine k_sld (v := y3) C hX hbl hbA Wd (vp_in_iff.mpr (by decide)) hy3 dL_law_792 ?_
      refine k_ci Wd [0, 1, 2] [] rfl (wr := []) rfl (by decide) (by decide) (cells' := 271) (slots' := 91330) (by decide) (by decide) (k_runV (rest := [.int (-1)]) C aks Wd cs_L_96 (kcX12_clash l D q6104 q6106 q6107 q6108 q6109 q6110 q6111 q6112 q6113 q6114 q6115 q6116 q6117 q6118 q6119 q6120 q6121 q6122 q6123 q6124 q6125 q6126 q6127 q6128 q6129 q6130 y1 y2 y3 e6132 e6154 _ ) [0, 1, 2] rfl (by decide) [4, 5] rfl 0 12 rfl rfl rfl rfl rfl ⟨(Nat.le_of_ble_eq_true rfl), (Nat.le_of_ble_eq_true rfl)⟩ hl.1 rfl rfl (Nat.le_of_ble_eq_true rfl) ⟨(Nat.le_of_ble_eq_true rfl), (Nat.le_of_ble_eq_true rfl)⟩ dL_law_793) (fun r _ H locs w12408 Wd => ?_)
      have Wd : wX D [(e5970, .object RX8), (e6100, .int), (e6101, .int), (e6102, .int), (e6132, .int), (e6154, .int)] s [] _ A s.heap _ := Wd
      rcases w12408 with ⟨c12409, rfl⟩ | ⟨c12410, c12411, rfl⟩ | ⟨c12412, c12413, c12414, rfl⟩ | ⟨c12415, c12416, c12417, c12418, rfl⟩ | ⟨c12419, c12420, c12421, c12422, c12423, rfl⟩ | ⟨c12424, c12425, c12426, c12427, c12428, c12429, rfl⟩ | ⟨c12430, c12431, c12432, c12433, c12434, c12435, c12436, rfl⟩ | ⟨c12437, c12438, c12439, c12440, c12441, c12442, c12443, rfl⟩
      · exact absurd c12409 c12142
      · exact False.elim (by have z0 := kz_nlt c12142; have z1 := kz_lt c12182; have z2 := kz_nlt c12216; have z3 := kz_nle c12217; have z4 := kz_nlt c12410; have z5 := kz_lt c12411; have t0 : (0 : Int32).toInt = 0 := (by decide); have t6 : (6 : Int32).toInt = 6 := (by decide); have t5 : (5 : Int32).toInt = 5 := (by decide); omega)
      · exact absurd c12414 c12218
      · exact False.elim (by have z0 := kz_nlt c12218; have z1 := kz_nle c12219; have z2 := kz_eq c12222; have z3 := kz_nlt c12417; have z4 := kz_lt c12418; have t0 : (0 : Int32).toInt = 0 := (by decide); have t6 : (6 : Int32).toInt = 6 := (by decide); have t5 : (5 : Int32).toInt = 5 := (by decide); omega)
      · exact absurd c12423 c12220
      · exact False.elim (by have z0 := kz_nlt c12220; have z1 := kz_nle c12221; have z2 := kz_eq c12222; have z3 := kz_nlt c12428; have z4 := kz_lt c12429; have t0 : (0 : Int32).toInt = 0 := (by decide); have t6 : (6 : Int32).toInt = 6 := (by decide); have t5 : (5 : Int32).toInt = 5 := (by decide); omega)
      · exact absurd c12222 c12436
      · refine lv_icmp_eq (tgt := 801) C.1 C.2.1 dL_law_796 (by decide) (fun _ => ?_) (fun c12444 => absurd c12444 (by decide))
        exact tail _ _ _ (k_sub Wd [] rfl (by decide) [] rfl) (lv_sub hl [0, 3] rfl)
  refine lv_aload_n C.1 C.2.1 dL_law_758 rfl (lv_at hl 2 rfl) ?_
  refine lv_aload_n C.1 C.2.1 dL_law_759 rfl (lv_at hl 3 rfl) ?_
  refine lv_iload_n C.1 C.2.1 dL_law_760 rfl (lv_at hl 0 rfl) ?_
  refine lv_iconst (v := 1) C.1 C.2.1 dL_law_761 (by decide) ?_
  refine k_iadd (v := 1) C (by decide) dL_law_762 ?_
  refine k_sld (v := y1) C hX hbl hbA Wd (vp_in_iff.mpr (by decide)) hy1 dL_law_763 ?_
  refine lv_aload_n C.1 C.2.1 dL_law_764 rfl (lv_at hl 3 rfl) ?_
  refine lv_iload_n C.1 C.2.1 dL_law_765 rfl (lv_at hl 0 rfl) ?_
  refine lv_iconst (v := 2) C.1 C.2.1 dL_law_766 (by decide) ?_
  refine k_iadd (v := 2) C (by decide) dL_law_767 ?_
  refine k_sld (v := y2) C hX hbl hbA Wd (vp_in_iff.mpr (by decide)) hy2 dL_law_768 ?_
  refine lv_aload_n C.1 C.2.1 dL_law_769 rfl (lv_at hl 3 rfl) ?_
  refine lv_iload_n C.1 C.2.1 dL_law_770 rfl (lv_at hl 0 rfl) ?_
  refine lv_iconst (v := 3) C.1 C.2.1 dL_law_771 (by decide) ?_
  refine k_iadd (v := 3) C (by decide) dL_law_772 ?_
  refine k_sld (v := y3) C hX hbl hbA Wd (vp_in_iff.mpr (by decide)) hy3 dL_law_773 ?_
  refine k_pi (k_runV (rest := []) C aks Wd cs_L_93 (kcX11_clash_v1 l D q5961 q5963 q5964 q5965 q5966 q5967 q5968 q5969 y1 y2 y3 (va_up (va_up (va_up (va_up (va_up (va_up (fun _ => none) 0 (some q5971)) 1 (some q5972)) 2 (some q5973)) 3 (some q5974)) 4 (some q5975)) 5 (some q5976)) e5970 _ c12182) [0, 1] rfl (by decide) [0] rfl 0 11 rfl rfl rfl rfl rfl ⟨(Nat.le_of_ble_eq_true rfl), (Nat.le_of_ble_eq_true rfl)⟩ hl.1 rfl rfl (Nat.le_of_ble_eq_true rfl) ⟨(Nat.le_of_ble_eq_true rfl), (Nat.le_of_ble_eq_true rfl)⟩ dL_law_774) (fun r w12445 => ?_)
  obtain ⟨c12446, c12447, rfl⟩ := w12445
  refine lv_aload_n C.1 C.2.1 dL_law_777 rfl (lv_at hl 1 rfl) ?_
  refine lv_aload_n C.1 C.2.1 dL_law_778 rfl (lv_at hl 3 rfl) ?_
  refine lv_iload_n C.1 C.2.1 dL_law_779 rfl (lv_at hl 0 rfl) ?_
  refine lv_iconst (v := 1) C.1 C.2.1 dL_law_780 (by decide) ?_
  refine k_iadd (v := 1) C (by decide) dL_law_781 ?_
  refine k_sld (v := y1) C hX hbl hbA Wd (vp_in_iff.mpr (by decide)) hy1 dL_law_782 ?_
  refine lv_aload_n C.1 C.2.1 dL_law_783 rfl (lv_at hl 3 rfl) ?_
  refine lv_iload_n C.1 C.2.1 dL_law_784 rfl (lv_at hl 0 rfl) ?_
  refine lv_iconst (v := 2) C.1 C.2.1 dL_law_785 (by decide) ?_
  refine k_iadd (v := 2) C (by decide) dL_law_786 ?_
  refine k_sld (v := y2) C hX hbl hbA Wd (vp_in_iff.mpr (by decide)) hy2 dL_law_787 ?_
  refine lv_aload_n C.1 C.2.1 dL_law_788 rfl (lv_at hl 3 rfl) ?_
  refine lv_iload_n C.1 C.2.1 dL_law_789 rfl (lv_at hl 0 rfl) ?_
  refine lv_iconst (v := 3) C.1 C.2.1 dL_law_790 (by decide) ?_
  refine k_iadd (v := 3) C (by decide) dL_law_791 ?_
  refine k_sld (v := y3) C hX hbl hbA Wd (vp_in_iff.mpr (by decide)) hy3 dL_law_792 ?_
  refine k_ci Wd [13, 14, 15] [0, 1, 2, 3, 4, 5, 6, 7, 8, 9, 10, 11, 12] rfl (wr := [(q5961, .inr (11, [.ref q5963, .int 0, .ref q5964, .ref q5965, .ref q5966, .ref q5967, .ref q5968, .ref q5969])), (q5963, .inl (e5970, 6, .inr (.inr (.inr (.inr (va_up (va_up (va_up (va_up (va_up (va_up (fun _ => none) 0 (some q5971)) 1 (some q5972)) 2 (some q5973)) 3 (some q5974)) 4 (some q5975)) 5 (some q5976))))))), (q5971, .inr (8, [.ref q5977, .int 0])), (q5972, .inr (8, [.ref q5978, .int 0])), (q5973, .inr (8, [.ref q5979, .int 0])), (q5974, .inr (8, [.ref q5980, .int 0])), (q5975, .inr (8, [.ref q5981, .int 0])), (q5976, .inr (8, [.ref q5982, .int 0])), (q5969, .inr (7, [.ref q6083, .ref q6084, .ref q6085, .ref q6086, .int 0])), (q6083, .inr (1, [.ref q6087, .int 0, .ref q6088, .ref q6089, .ref q6090, .ref q6091, .ref q6092, .ref q6093, .ref q6094, .ref q6095, .ref q6096, .ref q6097, .ref q6098, .ref q6099])), (q6099, .inl (e6100, 480, .inl (fun _ => 0))), (q6084, .inl (e6101, 6, .inl (fun _ => 0))), (q6085, .inl (e6102, 6, .inl (fun _ => 0)))]) rfl (by decide) (by decide) (cells' := 271) (slots' := 91330) (by decide) (by decide) (k_runV (rest := [.int (-1)]) C aks Wd cs_L_96 (kcX12_clash l D q6104 q6106 q6107 q6108 q6109 q6110 q6111 q6112 q6113 q6114 q6115 q6116 q6117 q6118 q6119 q6120 q6121 q6122 q6123 q6124 q6125 q6126 q6127 q6128 q6129 q6130 y1 y2 y3 e6132 e6154 _ ) [13, 14, 15] rfl (by decide) [4, 5] rfl 13 12 rfl rfl rfl rfl rfl ⟨(Nat.le_of_ble_eq_true rfl), (Nat.le_of_ble_eq_true rfl)⟩ hl.1 rfl rfl (Nat.le_of_ble_eq_true rfl) ⟨(Nat.le_of_ble_eq_true rfl), (Nat.le_of_ble_eq_true rfl)⟩ dL_law_793) (fun r _ H locs w12448 Wd => ?_)
  have Wd : wX D [(e5970, .object RX8), (e6100, .int), (e6101, .int), (e6102, .int), (e6132, .int), (e6154, .int)] s [(q5961, .inr (11, [.ref q5963, .int 0, .ref q5964, .ref q5965, .ref q5966, .ref q5967, .ref q5968, .ref q5969])), (q5963, .inl (e5970, 6, .inr (.inr (.inr (.inr (va_up (va_up (va_up (va_up (va_up (va_up (fun _ => none) 0 (some q5971)) 1 (some q5972)) 2 (some q5973)) 3 (some q5974)) 4 (some q5975)) 5 (some q5976))))))), (q5971, .inr (8, [.ref q5977, .int 0])), (q5972, .inr (8, [.ref q5978, .int 0])), (q5973, .inr (8, [.ref q5979, .int 0])), (q5974, .inr (8, [.ref q5980, .int 0])), (q5975, .inr (8, [.ref q5981, .int 0])), (q5976, .inr (8, [.ref q5982, .int 0])), (q5969, .inr (7, [.ref q6083, .ref q6084, .ref q6085, .ref q6086, .int 0])), (q6083, .inr (1, [.ref q6087, .int 0, .ref q6088, .ref q6089, .ref q6090, .ref q6091, .ref q6092, .ref q6093, .ref q6094, .ref q6095, .ref q6096, .ref q6097, .ref q6098, .ref q6099])), (q6099, .inl (e6100, 480, .inl (fun _ => 0))), (q6084, .inl (e6101, 6, .inl (fun _ => 0))), (q6085, .inl (e6102, 6, .inl (fun _ => 0)))] _ A s.heap _ := Wd
  rcases w12448 with ⟨c12449, rfl⟩ | ⟨c12450, c12451, rfl⟩ | ⟨c12452, c12453, c12454, rfl⟩ | ⟨c12455, c12456, c12457, c12458, rfl⟩ | ⟨c12459, c12460, c12461, c12462, c12463, rfl⟩ | ⟨c12464, c12465, c12466, c12467, c12468, c12469, rfl⟩ | ⟨c12470, c12471, c12472, c12473, c12474, c12475, c12476, rfl⟩ | ⟨c12477, c12478, c12479, c12480, c12481, c12482, c12483, rfl⟩
  · exact absurd c12449 c12142
  · refine lv_icmp_eq (tgt := 801) C.1 C.2.1 dL_law_796 (by decide) (fun _ => ?_) (fun c12484 => absurd c12484 (by decide))
    exact tail _ _ _ (k_sub Wd [] rfl (by decide) [] rfl) (lv_sub hl [0, 3] rfl)
  · exact False.elim (by have z0 := kz_nlt c12142; have z1 := kz_nlt c12182; have z2 := kz_nlt c12446; have z3 := kz_le c12447; have z4 := kz_nlt c12452; have z5 := kz_nlt c12453; have t0 : (0 : Int32).toInt = 0 := (by decide); have t6 : (6 : Int32).toInt = 6 := (by decide); have t5 : (5 : Int32).toInt = 5 := (by decide); omega)
  · exact False.elim (by have z0 := kz_nlt c12142; have z1 := kz_nlt c12182; have z2 := kz_nlt c12446; have z3 := kz_le c12447; have z4 := kz_nlt c12455; have z5 := kz_nlt c12456; have t0 : (0 : Int32).toInt = 0 := (by decide); have t6 : (6 : Int32).toInt = 6 := (by decide); have t5 : (5 : Int32).toInt = 5 := (by decide); omega)
  · exact False.elim (by have z0 := kz_nlt c12142; have z1 := kz_nlt c12182; have z2 := kz_nlt c12446; have z3 := kz_le c12447; have z4 := kz_nlt c12459; have z5 := kz_nlt c12460; have t0 : (0 : Int32).toInt = 0 := (by decide); have t6 : (6 : Int32).toInt = 6 := (by decide); have t5 : (5 : Int32).toInt = 5 := (by decide); omega)
  · exact False.elim (by have z0 := kz_nlt c12142; have z1 := kz_nlt c12182; have z2 := kz_nlt c12446; have z3 := kz_le c12447; have z4 := kz_nlt c12464; have z5 := kz_nlt c12465; have t0 : (0 : Int32).toInt = 0 := (by decide); have t6 : (6 : Int32).toInt = 6 := (by decide); have t5 : (5 : Int32).toInt = 5 := (by decide); omega)
  · exact False.elim (by have z0 := kz_nlt c12142; have z1 := kz_nlt c12182; have z2 := kz_nlt c12446; have z3 := kz_le c12447; have z4 := kz_nlt c12470; have z5 := kz_nlt c12471; have t0 : (0 : Int32).toInt = 0 := (by decide); have t6 : (6 : Int32).toInt = 6 := (by decide); have t5 : (5 : Int32).toInt = 5 := (by decide); omega)
  · exact False.elim (by have z0 := kz_nlt c12142; have z1 := kz_nlt c12182; have z2 := kz_nlt c12446; have z3 := kz_le c12447; have z4 := kz_nlt c12477; have z5 := kz_nlt c12478; have t0 : (0 : Int32).toInt = 0 := (by decide); have t6 : (6 : Int32).toInt = 6 := (by decide); have t5 : (5 : Int32).toInt = 5 := (by decide); omega)
