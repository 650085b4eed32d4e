set_option maxHeartbeats 4000000 in
set_option maxRecDepth 100000 in
theorem law_judge {p : Program} {l : Launch} {e : Env} {s : State} {m : MethodId} {below : List Frame} {meth : Method} {c : Code} {b : Nat} {xs : Nat → Int32} {D : va_G} {A : Nat → Prop} {e5970 : ClassId} {e6062 : ClassId} {e6063 : ClassId} {e6081 : ClassId} {e6082 : ClassId} {e6132 : ClassId} {e6140 : ClassId} {e6142 : ClassId} {e6143 : ClassId} {q5961 : Nat} {q5963 : Nat} {q5964 : Nat} {q5965 : Nat} {q5966 : Nat} {q5967 : Nat} {q5968 : Nat} {q5969 : Nat} {q5971 : Nat} {q5972 : Nat} {q5973 : Nat} {q5974 : Nat} {q5975 : Nat} {q5976 : Nat} {q5977 : Nat} {q5978 : Nat} {q5979 : Nat} {q5980 : Nat} {q5981 : Nat} {q5982 : Nat} {q6010 : Nat} {q6011 : Nat} {q6012 : Nat} {q6013 : Nat} {q6014 : Nat} {q6015 : Nat} {q6016 : Nat} {q6017 : Nat} {q6043 : Nat} {q6044 : Nat} {q6045 : Nat} {q6046 : Nat} {q6047 : Nat} {q6048 : Nat} {q6049 : Nat} {q6050 : Nat} {q6051 : Nat} {q6052 : Nat} {q6053 : Nat} {q6054 : Nat} {q6055 : Nat} {q6056 : Nat} {q6057 : Nat} {q6058 : Nat} {q6059 : Nat} {q6060 : Nat} {q6061 : Nat} {q6064 : Nat} {q6065 : Nat} {q6066 : Nat} {q6067 : Nat} {q6068 : Nat} {q6069 : Nat} {q6070 : Nat} {q6071 : Nat} {q6072 : Nat} {q6073 : Nat} {q6074 : Nat} {q6075 : Nat} {q6076 : Nat} {q6077 : Nat} {q6078 : Nat} {q6079 : Nat} {q6080 : Nat} {q6104 : Nat} {q6106 : Nat} {q6107 : Nat} {q6108 : Nat} {q6109 : Nat} {q6110 : Nat} {q6111 : Nat} {q6112 : Nat} {q6113 : Nat} {q6114 : Nat} {q6115 : Nat} {q6116 : Nat} {q6117 : Nat} {q6118 : Nat} {q6119 : Nat} {q6120 : Nat} {q6121 : Nat} {q6122 : Nat} {q6123 : Nat} {q6124 : Nat} {q6125 : Nat} {q6126 : Nat} {q6127 : Nat} {q6128 : Nat} {q6129 : Nat} {q6130 : Nat} {y1 : Int32} (hy1 : xs 1 = y1) {y2 : Int32} (hy2 : xs 2 = y2) {y3 : Int32} (hy3 : xs 3 = y3) {H : Heap} {locs : List Loc} {ls : Array Slot} (C : CallFix p m c cL_law 4 s #[Value.ref b] gG RL) (aks : aK s) (hX : va_X b 6 xs s s.heap) (hbl : b < s.heap.size) (hbA : ¬ A b) (hrt : meth.sig.returnType = ret) (hlocks : meth.locks = false) (hAe : A = fun q => s.heap.size ≤ q) (tail : (∀ (H : Heap) (locs : List Loc) (ls : Array Slot), wX D [] s [] H A s.heap locs → lv_has ls 4 [(3, .int 0), (0, .ref b)] → W p l e room_1 s m #[Value.ref b] below meth c H locs 271 91330 (lw_Z below #[Value.ref b] s) (F0 m 801 ls []))) (Wd : wX D [(e5970, .object RX8), (e6062, .int), (e6063, .int), (e6081, .int), (e6082, .int), (e6132, .int), (e6140, .int), (e6142, .int), (e6143, .int)] s [(q5961, .inr (11, [.ref q5963, .int 0, .ref q5964, .ref q5965, .ref q5966, .ref q5967, .ref q5968, .ref q5969])), (q5963, .inl (e5970, 6, .inr (.inr (.inr (.inr (va_up (va_up (va_up (va_up (va_up (va_up (fun _ => none) 0 (some q5971)) 1 (some q5972)) 2 (some q5973)) 3 (some q5974)) 4 (some q5975)) 5 (some q5976))))))), (q5971, .inr (8, [.ref q5977, .int 0])), (q5972, .inr (8, [.ref q5978, .int 0])), (q5973, .inr (8, [.ref q5979, .int 0])), (q5974, .inr (8, [.ref q5980, .int 0])), (q5975, .inr (8, [.ref q5981, .int 0])), (q5976, .inr (8, [.ref q5982, .int 0])), (q5968, .inr (4, [.ref q6010, .ref q6011, .ref q6012, .int (-1), .int (-1), .ref q6013, .ref q6014, .ref q6015, .ref q6016, .ref q6017])), (q6010, .inr (2, [.int (-1), .int (-1), .int 0, .int 0, .ref q6043, .ref q6044])), (q6043, .inr (3, [.ref q6045, .ref q6046, .int 0, .int 0, .int 0, .ref q6047, .ref q6048])), (q6045, .inr (1, [.ref q6049, .int 0, .ref q6050, .ref q6051, .ref q6052, .ref q6053, .ref q6054, .ref q6055, .ref q6056, .ref q6057, .ref q6058, .ref q6059, .ref q6060, .ref q6061])), (q6061, .inl (e6062, 480, .inl (fun _ => 0))), (q6047, .inl (e6063, 6, .inl (fun _ => 0))), (q6044, .inr (3, [.ref q6064, .ref q6065, .int 0, .int 0, .int 0, .ref q6066, .ref q6067])), (q6064, .inr (1, [.ref q6068, .int 0, .ref q6069, .ref q6070, .ref q6071, .ref q6072, .ref q6073, .ref q6074, .ref q6075, .ref q6076, .ref q6077, .ref q6078, .ref q6079, .ref q6080])), (q6080, .inl (e6081, 480, .inl (fun _ => 0))), (q6066, .inl (e6082, 6, .inl (fun _ => 0))), (q6104, .inr (12, [.ref q6106, .ref q6107, .ref q6108, .ref q6109, .int 0, .int 0, .ref q6110, .int 0, .int 0, .int 0, .int 0, .int 0, .int 0, .int 0, .int 0, .int 0, .int 0, .int 0, .int 0, .int 0, .int (-1), .int 0, .int 0, .int 0, .ref q6111, .ref q6112, .ref q6113, .ref q6114, .ref q6115, .ref q6116, .int 0, .int 0, .int 0, .int 0, .ref q6117, .ref q6118, .ref q6119, .int 0, .int 0, .int 0, .int 0, .ref q6120, .ref q6121, .int 0, .ref q6122, .ref q6123, .int 0, .ref q6124, .int 0, .ref q6125, .ref q6126, .ref q6127, .int 0, .ref q6128, .ref q6129, .ref q6130])), (q6107, .inl (e6132, 6, .inl (fun _ => 0))), (q6115, .inl (e6140, 6, .inl (fun _ => 0))), (q6117, .inl (e6142, 256, .inl (fun _ => 0))), (q6118, .inl (e6143, 256, .inl (fun _ => 0)))] H A s.heap locs) (hl : lv_has ls 4 [(3, .int 0), (2, .ref q6104), (1, .ref q5961), (0, .ref b)]) : W p l e room_1 s m #[Value.ref b] below meth c H locs 271 91330 (lw_Z below #[Value.ref b] s) (F0 m 388 ls []) := by
  by_cases c7892 : y1 < 0
  · refine lv_aload_n C.1 C.2.1 dL_law_388 rfl (lv_at hl 2 rfl) ?_
    refine lv_aload_n C.1 C.2.1 dL_law_389 rfl (lv_at hl 3 rfl) ?_
    refine lv_iload_n C.1 C.2.1 dL_law_390 rfl (lv_at hl 0 rfl) ?_
    refine lv_iconst (v := 1) C.1 C.2.1 dL_law_391 (by decide) ?_
    refine k_iadd (v := 1) C (by decide) dL_law_392 ?_
    refine k_sld (v := y1) C hX hbl hbA Wd (vp_in_iff.mpr (by decide)) hy1 dL_law_393 ?_
    refine lv_aload_n C.1 C.2.1 dL_law_394 rfl (lv_at hl 3 rfl) ?_
    refine lv_iload_n C.1 C.2.1 dL_law_395 rfl (lv_at hl 0 rfl) ?_
    refine lv_iconst (v := 2) C.1 C.2.1 dL_law_396 (by decide) ?_
    refine k_iadd (v := 2) C (by decide) dL_law_397 ?_
    refine k_sld (v := y2) C hX hbl hbA Wd (vp_in_iff.mpr (by decide)) hy2 dL_law_398 ?_
    refine lv_aload_n C.1 C.2.1 dL_law_399 rfl (lv_at hl 3 rfl) ?_
    refine lv_iload_n C.1 C.2.1 dL_law_400 rfl (lv_at hl 0 rfl) ?_
    refine lv_iconst (v := 3) C.1 C.2.1 dL_law_401 (by decide) ?_
    refine k_iadd (v := 3) C (by decide) dL_law_402 ?_
    refine k_sld (v := y3) C hX hbl hbA Wd (vp_in_iff.mpr (by decide)) hy3 dL_law_403 ?_
    refine k_pi (k_runV (rest := []) C aks Wd cs_L_51 (kcX11_judge l D q5961 q5963 q5964 q5965 q5966 q5967 q5968 q5969 y1 y2 y3 (va_up (va_up (va_up (va_up (va_up (va_up (fun _ => none) 0 (some q5971)) 1 (some q5972)) 2 (some q5973)) 3 (some q5974)) 4 (some q5975)) 5 (some q5976)) e5970 _ c7892) [0, 1] rfl (by decide) [0] rfl 0 11 rfl rfl rfl rfl rfl ⟨(Nat.le_of_ble_eq_true rfl), (Nat.le_of_ble_eq_true rfl)⟩ hl.1 rfl rfl (Nat.le_of_ble_eq_true rfl) ⟨(Nat.le_of_ble_eq_true rfl), (Nat.le_of_ble_eq_true rfl)⟩ dL_law_404) (fun r w7893 => ?_)
    rcases w7893 with ⟨c7894, c7895, rfl⟩ | ⟨c7896, c7897, c7898, rfl⟩ | ⟨c7899, c7900, c7901, rfl⟩ | ⟨c7902, c7903, c7904, rfl⟩
    · refine lv_aload_n C.1 C.2.1 dL_law_407 rfl (lv_at hl 1 rfl) ?_
      refine lv_aload_n C.1 C.2.1 dL_law_408 rfl (lv_at hl 3 rfl) ?_
      refine lv_iload_n C.1 C.2.1 dL_law_409 rfl (lv_at hl 0 rfl) ?_
      refine lv_iconst (v := 1) C.1 C.2.1 dL_law_410 (by decide) ?_
      refine k_iadd (v := 1) C (by decide) dL_law_411 ?_
      refine k_sld (v := y1) C hX hbl hbA Wd (vp_in_iff.mpr (by decide)) hy1 dL_law_412 ?_
      refine lv_aload_n C.1 C.2.1 dL_law_413 rfl (lv_at hl 3 rfl) ?_
      refine lv_iload_n C.1 C.2.1 dL_law_414 rfl (lv_at hl 0 rfl) ?_
      refine lv_iconst (v := 2) C.1 C.2.1 dL_law_415 (by decide) ?_
      refine k_iadd (v := 2) C (by decide) dL_law_416 ?_
      refine k_sld (v := y2) C hX hbl hbA Wd (vp_in_iff.mpr (by decide)) hy2 dL_law_417 ?_
      refine lv_aload_n C.1 C.2.1 dL_law_418 rfl (lv_at hl 3 rfl) ?_
      refine lv_iload_n C.1 C.2.1 dL_law_419 rfl (lv_at hl 0 rfl) ?_
      refine lv_iconst (v := 3) C.1 C.2.1 dL_law_420 (by decide) ?_
      refine k_iadd (v := 3) C (by decide) dL_law_421 ?_
      refine k_sld (v := y3) C hX hbl hbA Wd (vp_in_iff.mpr (by decide)) hy3 dL_law_422 ?_
      refine k_ci Wd [18, 19, 20, 21, 22] [0, 1, 2, 3, 4, 5, 6, 7, 8, 9, 10, 11, 12, 13, 14, 15, 16, 17] rfl (wr := [(q5961, .inr (11, [.ref q5963, .int 0, .ref q5964, .ref q5965, .ref q5966, .ref q5967, .ref q5968, .ref q5969])), (q5963, .inl (e5970, 6, .inr (.inr (.inr (.inr (va_up (va_up (va_up (va_up (va_up (va_up (fun _ => none) 0 (some q5971)) 1 (some q5972)) 2 (some q5973)) 3 (some q5974)) 4 (some q5975)) 5 (some q5976))))))), (q5971, .inr (8, [.ref q5977, .int 0])), (q5972, .inr (8, [.ref q5978, .int 0])), (q5973, .inr (8, [.ref q5979, .int 0])), (q5974, .inr (8, [.ref q5980, .int 0])), (q5975, .inr (8, [.ref q5981, .int 0])), (q5976, .inr (8, [.ref q5982, .int 0])), (q5968, .inr (4, [.ref q6010, .ref q6011, .ref q6012, .int (-1), .int (-1), .ref q6013, .ref q6014, .ref q6015, .ref q6016, .ref q6017])), (q6010, .inr (2, [.int (-1), .int (-1), .int 0, .int 0, .ref q6043, .ref q6044])), (q6043, .inr (3, [.ref q6045, .ref q6046, .int 0, .int 0, .int 0, .ref q6047, .ref q6048])), (q6045, .inr (1, [.ref q6049, .int 0, .ref q6050, .ref q6051, .ref q6052, .ref q6053, .ref q6054, .ref q6055, .ref q6056, .ref q6057, .ref q6058, .ref q6059, .ref q6060, .ref q6061])), (q6061, .inl (e6062, 480, .inl (fun _ => 0))), (q6047, .inl (e6063, 6, .inl (fun _ => 0))), (q6044, .inr (3, [.ref q6064, .ref q6065, .int 0, .int 0, .int 0, .ref q6066, .ref q6067])), (q6064, .inr (1, [.ref q6068, .int 0, .ref q6069, .ref q6070, .ref q6071, .ref q6072, .ref q6073, .ref q6074, .ref q6075, .ref q6076, .ref q6077, .ref q6078, .ref q6079, .ref q6080])), (q6080, .inl (e6081, 480, .inl (fun _ => 0))), (q6066, .inl (e6082, 6, .inl (fun _ => 0)))]) rfl (by decide) (by decide) (cells' := 271) (slots' := 91330) (by decide) (by decide) (k_runV (rest := [.int (-1)]) C aks Wd cs_L_55 (kcX12_judge l D q6104 q6106 q6107 q6108 q6109 q6110 q6111 q6112 q6113 q6114 q6115 q6116 q6117 q6118 q6119 q6120 q6121 q6122 q6123 q6124 q6125 q6126 q6127 q6128 q6129 q6130 y1 y2 y3 e6132 e6140 e6142 e6143 _ ) [18, 19, 20, 21, 22] rfl (by decide) [5, 6, 7, 8] rfl 18 12 rfl rfl rfl rfl rfl ⟨(Nat.le_of_ble_eq_true rfl), (Nat.le_of_ble_eq_true rfl)⟩ hl.1 rfl rfl (Nat.le_of_ble_eq_true rfl) ⟨(Nat.le_of_ble_eq_true rfl), (Nat.le_of_ble_eq_true rfl)⟩ dL_law_423) (fun r _ H locs w7905 Wd => ?_)
      have Wd : wX D [(e5970, .object RX8), (e6062, .int), (e6063, .int), (e6081, .int), (e6082, .int), (e6132, .int), (e6140, .int), (e6142, .int), (e6143, .int)] s [(q5961, .inr (11, [.ref q5963, .int 0, .ref q5964, .ref q5965, .ref q5966, .ref q5967, .ref q5968, .ref q5969])), (q5963, .inl (e5970, 6, .inr (.inr (.inr (.inr (va_up (va_up (va_up (va_up (va_up (va_up (fun _ => none) 0 (some q5971)) 1 (some q5972)) 2 (some q5973)) 3 (some q5974)) 4 (some q5975)) 5 (some q5976))))))), (q5971, .inr (8, [.ref q5977, .int 0])), (q5972, .inr (8, [.ref q5978, .int 0])), (q5973, .inr (8, [.ref q5979, .int 0])), (q5974, .inr (8, [.ref q5980, .int 0])), (q5975, .inr (8, [.ref q5981, .int 0])), (q5976, .inr (8, [.ref q5982, .int 0])), (q5968, .inr (4, [.ref q6010, .ref q6011, .ref q6012, .int (-1), .int (-1), .ref q6013, .ref q6014, .ref q6015, .ref q6016, .ref q6017])), (q6010, .inr (2, [.int (-1), .int (-1), .int 0, .int 0, .ref q6043, .ref q6044])), (q6043, .inr (3, [.ref q6045, .ref q6046, .int 0, .int 0, .int 0, .ref q6047, .ref q6048])), (q6045, .inr (1, [.ref q6049, .int 0, .ref q6050, .ref q6051, .ref q6052, .ref q6053, .ref q6054, .ref q6055, .ref q6056, .ref q6057, .ref q6058, .ref q6059, .ref q6060, .ref q6061])), (q6061, .inl (e6062, 480, .inl (fun _ => 0))), (q6047, .inl (e6063, 6, .inl (fun _ => 0))), (q6044, .inr (3, [.ref q6064, .ref q6065, .int 0, .int 0, .int 0, .ref q6066, .ref q6067])), (q6064, .inr (1, [.ref q6068, .int 0, .ref q6069, .ref q6070, .ref q6071, .ref q6072, .ref q6073, .ref q6074, .ref q6075, .ref q6076, .ref q6077, .ref q6078, .ref q6079, .ref q6080])), (q6080, .inl (e6081, 480, .inl (fun _ => 0))), (q6066, .inl (e6082, 6, .inl (fun _ => 0)))] _ A s.heap _ := Wd
      rcases w7905 with ⟨c7906, rfl⟩ | ⟨c7907, c7908, rfl⟩ | ⟨c7909, c7910, c7911, rfl⟩ | ⟨c7912, c7913, c7914, c7915, rfl⟩ | ⟨c7916, c7917, c7918, c7919, c7920, rfl⟩ | ⟨c7921, c7922, c7923, c7924, c7925, c7926, rfl⟩ | ⟨c7927, c7928, c7929, c7930, c7931, c7932, c7933, rfl⟩ | ⟨c7934, c7935, c7936, c7937, c7938, c7939, c7940, c7941, rfl⟩ | ⟨c7942, c7943, c7944, c7945, c7946, c7947, c7948, c7949, c7950, rfl⟩ | ⟨c7951, c7952, c7953, c7954, c7955, c7956, c7957, c7958, c7959, rfl⟩
      · refine lv_icmp_eq (tgt := 801) C.1 C.2.1 dL_law_426 (by decide) (fun _ => ?_) (fun c7960 => absurd c7960 (by decide))
        exact tail _ _ _ (k_sub Wd [] rfl (by decide) [] rfl) (lv_sub hl [0, 3] rfl)
      · exact absurd c7892 c7907
      · exact absurd c7892 c7909
      · exact absurd c7892 c7912
      · exact absurd c7892 c7916
      · exact absurd c7892 c7921
      · exact absurd c7892 c7927
      · exact absurd c7892 c7934
      · exact absurd c7892 c7942
      · exact absurd c7892 c7951
    · refine lv_aload_n C.1 C.2.1 dL_law_407 rfl (lv_at hl 1 rfl) ?_
      refine lv_aload_n C.1 C.2.1 dL_law_408 rfl (lv_at hl 3 rfl) ?_
      refine lv_iload_n C.1 C.2.1 dL_law_409 rfl (lv_at hl 0 rfl) ?_
      refine lv_iconst (v := 1) C.1 C.2.1 dL_law_410 (by decide) ?_
      refine k_iadd (v := 1) C (by decide) dL_law_411 ?_
      refine k_sld (v := y1) C hX hbl hbA Wd (vp_in_iff.mpr (by decide)) hy1 dL_law_412 ?_
      refine lv_aload_n C.1 C.2.1 dL_law_413 rfl (lv_at hl 3 rfl) ?_
      refine lv_iload_n C.1 C.2.1 dL_law_414 rfl (lv_at hl 0 rfl) ?_
      refine lv_iconst (v := 2) C.1 C.2.1 dL_law_415 (by decide) ?_
      refine k_iadd (v := 2) C (by decide) dL_law_416 ?_
      refine k_sld (v := y2) C hX hbl hbA Wd (vp_in_iff.mpr (by decide)) hy2 dL_law_417 ?_
      refine lv_aload_n C.1 C.2.1 dL_law_418 rfl (lv_at hl 3 rfl) ?_
      refine lv_iload_n C.1 C.2.1 dL_law_419 rfl (lv_at hl 0 rfl) ?_
      refine lv_iconst (v := 3) C.1 C.2.1 dL_law_420 (by decide) ?_
      refine k_iadd (v := 3) C (by decide) dL_law_421 ?_
      refine k_sld (v := y3) C hX hbl hbA Wd (vp_in_iff.mpr (by decide)) hy3 dL_law_422 ?_
      refine k_ci Wd [18, 19, 20, 21, 22] [0, 1, 2, 3, 4, 5, 6, 7, 8, 9, 10, 11, 12, 13, 14, 15, 16, 17] rfl (wr := [(q5961, .inr (11, [.ref q5963, .int 0, .ref q5964, .ref q5965, .ref q5966, .ref q5967, .ref q5968, .ref q5969])), (q5963, .inl (e5970, 6, .inr (.inr (.inr (.inr (va_up (va_up (va_up (va_up (va_up (va_up (fun _ => none) 0 (some q5971)) 1 (some q5972)) 2 (some q5973)) 3 (some q5974)) 4 (some q5975)) 5 (some q5976))))))), (q5971, .inr (8, [.ref q5977, .int 0])), (q5972, .inr (8, [.ref q5978, .int 0])), (q5973, .inr (8, [.ref q5979, .int 0])), (q5974, .inr (8, [.ref q5980, .int 0])), (q5975, .inr (8, [.ref q5981, .int 0])), (q5976, .inr (8, [.ref q5982, .int 0])), (q5968, .inr (4, [.ref q6010, .ref q6011, .ref q6012, .int (-1), .int (-1), .ref q6013, .ref q6014, .ref q6015, .ref q6016, .ref q6017])), (q6010, .inr (2, [.int (-1), .int (-1), .int 0, .int 0, .ref q6043, .ref q6044])), (q6043, .inr (3, [.ref q6045, .ref q6046, .int 0, .int 0, .int 0, .ref q6047, .ref q6048])), (q6045, .inr (1, [.ref q6049, .int 0, .ref q6050, .ref q6051, .ref q6052, .ref q6053, .ref q6054, .ref q6055, .ref q6056, .ref q6057, .ref q6058, .ref q6059, .ref q6060, .ref q6061])), (q6061, .inl (e6062, 480, .inl (fun _ => 0))), (q6047, .inl (e6063, 6, .inl (fun _ => 0))), (q6044, .inr (3, [.ref q6064, .ref q6065, .int 0, .int 0, .int 0, .ref q6066, .ref q6067])), (q6064, .inr (1, [.ref q6068, .int 0, .ref q6069, .ref q6070, .ref q6071, .ref q6072, .ref q6073, .ref q6074, .ref q6075, .ref q6076, .ref q6077, .ref q6078, .ref q6079, .ref q6080])), (q6080, .inl (e6081, 480, .inl (fun _ => 0))), (q6066, .inl (e6082, 6, .inl (fun _ => 0)))]) rfl (by decide) (by decide) (cells' := 271) (slots' := 91330) (by decide) (by decide) (k_runV (rest := [.int (-1)]) C aks Wd cs_L_55 (kcX12_judge l D q6104 q6106 q6107 q6108 q6109 q6110 q6111 q6112 q6113 q6114 q6115 q6116 q6117 q6118 q6119 q6120 q6121 q6122 q6123 q6124 q6125 q6126 q6127 q6128 q6129 q6130 y1 y2 y3 e6132 e6140 e6142 e6143 _ ) [18, 19, 20, 21, 22] rfl (by decide) [5, 6, 7, 8] rfl 18 12 rfl rfl rfl rfl rfl ⟨(Nat.le_of_ble_eq_true rfl), (Nat.le_of_ble_eq_true rfl)⟩ hl.1 rfl rfl (Nat.le_of_ble_eq_true rfl) ⟨(Nat.le_of_ble_eq_true rfl), (Nat.le_of_ble_eq_true rfl)⟩ dL_law_423) (fun r _ H locs w7961 Wd => ?_)
      have Wd : wX D [(e5970, .object RX8), (e6062, .int), (e6063, .int), (e6081, .int), (e6082, .int), (e6132, .int), (e6140, .int), (e6142, .int), (e6143, .int)] s [(q5961, .inr (11, [.ref q5963, .int 0, .ref q5964, .ref q5965, .ref q5966, .ref q5967, .ref q5968, .ref q5969])), (q5963, .inl (e5970, 6, .inr (.inr (.inr (.inr (va_up (va_up (va_up (va_up (va_up (va_up (fun _ => none) 0 (some q5971)) 1 (some q5972)) 2 (some q5973)) 3 (some q5974)) 4 (some q5975)) 5 (some q5976))))))), (q5971, .inr (8, [.ref q5977, .int 0])), (q5972, .inr (8, [.ref q5978, .int 0])), (q5973, .inr (8, [.ref q5979, .int 0])), (q5974, .inr (8, [.ref q5980, .int 0])), (q5975, .inr (8, [.ref q5981, .int 0])), (q5976, .inr (8, [.ref q5982, .int 0])), (q5968, .inr (4, [.ref q6010, .ref q6011, .ref q6012, .int (-1), .int (-1), .ref q6013, .ref q6014, .ref q6015, .ref q6016, .ref q6017])), (q6010, .inr (2, [.int (-1), .int (-1), .int 0, .int 0, .ref q6043, .ref q6044])), (q6043, .inr (3, [.ref q6045, .ref q6046, .int 0, .int 0, .int 0, .ref q6047, .ref q6048])), (q6045, .inr (1, [.ref q6049, .int 0, .ref q6050, .ref q6051, .ref q6052, .ref q6053, .ref q6054, .ref q6055, .ref q6056, .ref q6057, .ref q6058, .ref q6059, .ref q6060, .ref q6061])), (q6061, .inl (e6062, 480, .inl (fun _ => 0))), (q6047, .inl (e6063, 6, .inl (fun _ => 0))), (q6044, .inr (3, [.ref q6064, .ref q6065, .int 0, .int 0, .int 0, .ref q6066, .ref q6067])), (q6064, .inr (1, [.ref q6068, .int 0, .ref q6069, .ref q6070, .ref q6071, .ref q6072, .ref q6073, .ref q6074, .ref q6075, .ref q6076, .ref q6077, .ref q6078, .ref q6079, .ref q6080])), (q6080, .inl (e6081, 480, .inl (fun _ => 0))), (q6066, .inl (e6082, 6, .inl (fun _ => 0)))] _ A s.heap _ := Wd
      rcases w7961 with ⟨c7962, rfl⟩ | ⟨c7963, c7964, rfl⟩ | ⟨c7965, c7966, c7967, rfl⟩ | ⟨c7968, c7969, c7970, c7971, rfl⟩ | ⟨c7972, c7973, c7974, c7975, c7976, rfl⟩ | ⟨c7977, c7978, c7979, c7980, c7981, c7982, rfl⟩ | ⟨c7983, c7984, c7985, c7986, c7987, c7988, c7989, rfl⟩ | ⟨c7990, c7991, c7992, c7993, c7994, c7995, c7996, c7997, rfl⟩ | ⟨c7998, c7999, c8000, c8001, c8002, c8003, c8004, c8005, c8006, rfl⟩ | ⟨c8007, c8008, c8009, c8010, c8011, c8012, c8013, c8014, c8015, rfl⟩
      · refine lv_icmp_eq (tgt := 801) C.1 C.2.1 dL_law_426 (by decide) (fun _ => ?_) (fun c8016 => absurd c8016 (by decide))
        exact tail _ _ _ (k_sub Wd [] rfl (by decide) [] rfl) (lv_sub hl [0, 3] rfl)
      · exact absurd c7892 c7963
      · exact absurd c7892 c7965
      · exact absurd c7892 c7968
      · exact absurd c7892 c7972
      · exact absurd c7892 c7977
      · exact absurd c7892 c7983
      · exact absurd c7892 c7990
      · exact absurd c7892 c7998
      · exact absurd c7892 c8007
    · refine lv_aload_n C.1 C.2.1 dL_law_407 rfl (lv_at hl 1 rfl) ?_
      refine lv_aload_n C.1 C.2.1 dL_law_408 rfl (lv_at hl 3 rfl) ?_
      refine lv_iload_n C.1 C.2.1 dL_law_409 rfl (lv_at hl 0 rfl) ?_
      refine lv_iconst (v := 1) C.1 C.2.1 dL_law_410 (by decide) ?_
      refine k_iadd (v := 1) C (by decide) dL_law_411 ?_
      refine k_sld (v := y1) C hX hbl hbA Wd (vp_in_iff.mpr (by decide)) hy1 dL_law_412 ?_
      refine lv_aload_n C.1 C.2.1 dL_law_413 rfl (lv_at hl 3 rfl) ?_
      refine lv_iload_n C.1 C.2.1 dL_law_414 rfl (lv_at hl 0 rfl) ?_
      refine lv_iconst (v := 2) C.1 C.2.1 dL_law_415 (by decide) ?_
      refine k_iadd (v := 2) C (by decide) dL_law_416 ?_
      refine k_sld (v := y2) C hX hbl hbA Wd (vp_in_iff.mpr (by decide)) hy2 dL_law_417 ?_
      refine lv_aload_n C.1 C.2.1 dL_law_418 rfl (lv_at hl 3 rfl) ?_
      refine lv_iload_n C.1 C.2.1 dL_law_419 rfl (lv_at hl 0 rfl) ?_
      refine lv_iconst (v := 3) C.1 C.2.1 dL_law_420 (by decide) ?_
      refine k_iadd (v := 3) C (by decide) dL_law_421 ?_
      refine k_sld (v := y3) C hX hbl hbA Wd (vp_in_iff.mpr (by decide)) hy3 dL_law_422 ?_
      refine k_ci Wd [18, 19, 20, 21, 22] [0, 1, 2, 3, 4, 5, 6, 7, 8, 9, 10, 11, 12, 13, 14, 15, 16, 17] rfl (wr := [(q5961, .inr (11, [.ref q5963, .int 0, .ref q5964, .ref q5965, .ref q5966, .ref q5967, .ref q5968, .ref q5969])), (q5963, .inl (e5970, 6, .inr (.inr (.inr (.inr (va_up (va_up (va_up (va_up (va_up (va_up (fun _ => none) 0 (some q5971)) 1 (some q5972)) 2 (some q5973)) 3 (some q5974)) 4 (some q5975)) 5 (some q5976))))))), (q5971, .inr (8, [.ref q5977, .int 0])), (q5972, .inr (8, [.ref q5978, .int 0])), (q5973, .inr (8, [.ref q5979, .int 0])), (q5974, .inr (8, [.ref q5980, .int 0])), (q5975, .inr (8, [.ref q5981, .int 0])), (q5976, .inr (8, [.ref q5982, .int 0])), (q5968, .inr (4, [.ref q6010, .ref q6011, .ref q6012, .int (-1), .int (-1), .ref q6013, .ref q6014, .ref q6015, .ref q6016, .ref q6017])), (q6010, .inr (2, [.int (-1), .int (-1), .int 0, .int 0, .ref q6043, .ref q6044])), (q6043, .inr (3, [.ref q6045, .ref q6046, .int 0, .int 0, .int 0, .ref q6047, .ref q6048])), (q6045, .inr (1, [.ref q6049, .int 0, .ref q6050, .ref q6051, .ref q6052, .ref q6053, .ref q6054, .ref q6055, .ref q6056, .ref q6057, .ref q6058, .ref q6059, .ref q6060, .ref q6061])), (q6061, .inl (e6062, 480, .inl (fun _ => 0))), (q6047, .inl (e6063, 6, .inl (fun _ => 0))), (q6044, .inr (3, [.ref q6064, .ref q6065, .int 0, .int 0, .int 0, .ref q6066, .ref q6067])), (q6064, .inr (1, [.ref q6068, .int 0, .ref q6069, .ref q6070, .ref q6071, .ref q6072, .ref q6073, .ref q6074, .ref q6075, .ref q6076, .ref q6077, .ref q6078, .ref q6079, .ref q6080])), (q6080, .inl (e6081, 480, .inl (fun _ => 0))), (q6066, .inl (e6082, 6, .inl (fun _ => 0)))]) rfl (by decide) (by decide) (cells' := 271) (slots' := 91330) (by decide) (by decide) (k_runV (rest := [.int (-1)]) C aks Wd cs_L_55 (kcX12_judge l D q6104 q6106 q6107 q6108 q6109 q6110 q6111 q6112 q6113 q6114 q6115 q6116 q6117 q6118 q6119 q6120 q6121 q6122 q6123 q6124 q6125 q6126 q6127 q6128 q6129 q6130 y1 y2 y3 e6132 e6140 e6142 e6143 _ ) [18, 19, 20, 21, 22] rfl (by decide) [5, 6, 7, 8] rfl 18 12 rfl rfl rfl rfl rfl ⟨(Nat.le_of_ble_eq_true rfl), (Nat.le_of_ble_eq_true rfl)⟩ hl.1 rfl rfl (Nat.le_of_ble_eq_true rfl) ⟨(Nat.le_of_ble_eq_true rfl), (Nat.le_of_ble_eq_true rfl)⟩ dL_law_423) (fun r _ H locs w8017 Wd => ?_)
      have Wd : wX D [(e5970, .object RX8), (e6062, .int), (e6063, .int), (e6081, .int), (e6082, .int), (e6132, .int), (e6140, .int), (e6142, .int), (e6143, .int)] s [(q5961, .inr (11, [.ref q5963, .int 0, .ref q5964, .ref q5965, .ref q5966, .ref q5967, .ref q5968, .ref q5969])), (q5963, .inl (e5970, 6, .inr (.inr (.inr (.inr (va_up (va_up (va_up (va_up (va_up (va_up (fun _ => none) 0 (some q5971)) 1 (some q5972)) 2 (some q5973)) 3 (some q5974)) 4 (some q5975)) 5 (some q5976))))))), (q5971, .inr (8, [.ref q5977, .int 0])), (q5972, .inr (8, [.ref q5978, .int 0])), (q5973, .inr (8, [.ref q5979, .int 0])), (q5974, .inr (8, [.ref q5980, .int 0])), (q5975, .inr (8, [.ref q5981, .int 0])), (q5976, .inr (8, [.ref q5982, .int 0])), (q5968, .inr (4, [.ref q6010, .ref q6011, .ref q6012, .int (-1), .int (-1), .ref q6013, .ref q6014, .ref q6015, .ref q6016, .ref q6017])), (q6010, .inr (2, [.int (-1), .int (-1), .int 0, .int 0, .ref q6043, .ref q6044])), (q6043, .inr (3, [.ref q6045, .ref q6046, .int 0, .int 0, .int 0, .ref q6047, .ref q6048])), (q6045, .inr (1, [.ref q6049, .int 0, .ref q6050, .ref q6051, .ref q6052, .ref q6053, .ref q6054, .ref q6055, .ref q6056, .ref q6057, .ref q6058, .ref q6059, .ref q6060, .ref q6061])), (q6061, .inl (e6062, 480, .inl (fun _ => 0))), (q6047, .inl (e6063, 6, .inl (fun _ => 0))), (q6044, .inr (3, [.ref q6064, .ref q6065, .int 0, .int 0, .int 0, .ref q6066, .ref q6067])), (q6064, .inr (1, [.ref q6068, .int 0, .ref q6069, .ref q6070, .ref q6071, .ref q6072, .ref q6073, .ref q6074, .ref q6075, .ref q6076, .ref q6077, .ref q6078, .ref q6079, .ref q6080])), (q6080, .inl (e6081, 480, .inl (fun _ => 0))), (q6066, .inl (e6082, 6, .inl (fun _ => 0)))] _ A s.heap _ := Wd
      rcases w8017 with ⟨c8018, rfl⟩ | ⟨c8019, c8020, rfl⟩ | ⟨c8021, c8022, c8023, rfl⟩ | ⟨c8024, c8025, c8026, c8027, rfl⟩ | ⟨c8028, c8029, c8030, c8031, c8032, rfl⟩ | ⟨c8033, c8034, c8035, c8036, c8037, c8038, rfl⟩ | ⟨c8039, c8040, c8041, c8042, c8043, c8044, c8045, rfl⟩ | ⟨c8046, c8047, c8048, c8049, c8050, c8051, c8052, c8053, rfl⟩ | ⟨c8054, c8055, c8056, c8057, c8058, c8059, c8060, c8061, c8062, rfl⟩ | ⟨c8063, c8064, c8065, c8066, c8067, c8068, c8069, c8070, c8071, rfl⟩
      · refine lv_icmp_eq (tgt := 801) C.1 C.2.1 dL_law_426 (by decide) (fun _ => ?_) (fun c8072 => absurd c8072 (by decide))
        exact tail _ _ _ (k_sub Wd [] rfl (by decide) [] rfl) (lv_sub hl [0, 3] rfl)
      · exact absurd c7892 c8019
      · exact absurd c7892 c8021
      · exact absurd c7892 c8024
      · exact absurd c7892 c8028
      · exact absurd c7892 c8033
      · exact absurd c7892 c8039
      · exact absurd c7892 c8046
      · exact absurd c7892 c8054
      · exact absurd c7892 c8063
    · refine lv_aload_n C.1 C.2.1 dL_law_407 rfl (lv_at hl 1 rfl) ?_
      refine lv_aload_n C.1 C.2.1 dL_law_408 rfl (lv_at hl 3 rfl) ?_
      refine lv_iload_n C.1 C.2.1 dL_law_409 rfl (lv_at hl 0 rfl) ?_
      refine lv_iconst (v := 1) C.1 C.2.1 dL_law_410 (by decide) ?_
      refine k_iadd (v := 1) C (by decide) dL_law_411 ?_
      refine k_sld (v := y1) C hX hbl hbA Wd (vp_in_iff.mpr (by decide)) hy1 dL_law_412 ?_
      refine lv_aload_n C.1 C.2.1 dL_law_413 rfl (lv_at hl 3 rfl) ?_
      refine lv_iload_n C.1 C.2.1 dL_law_414 rfl (lv_at hl 0 rfl) ?_
      refine lv_iconst (v := 2) C.1 C.2.1 dL_law_415 (by decide) ?_
      refine k_iadd (v := 2) C (by decide) dL_law_416 ?_
      refine k_sld (v := y2) C hX hbl hbA Wd (vp_in_iff.mpr (by decide)) hy2 dL_law_417 ?_
      refine lv_aload_n C.1 C.2.1 dL_law_418 rfl (lv_at hl 3 rfl) ?_
      refine lv_iload_n C.1 C.2.1 dL_law_419 rfl (lv_at hl 0 rfl) ?_
      refine lv_iconst (v := 3) C.1 C.2.1 dL_law_420 (by decide) ?_
      refine k_iadd (v := 3) C (by decide) dL_law_421 ?_
      refine k_sld (v := y3) C hX hbl hbA Wd (vp_in_iff.mpr (by decide)) hy3 dL_law_422 ?_
      refine k_ci Wd [18, 19, 20, 21, 22] [0, 1, 2, 3, 4, 5, 6, 7, 8, 9, 10, 11, 12, 13, 14, 15, 16, 17] rfl (wr := [(q5961, .inr (11, [.ref q5963, .int 0, .ref q5964, .ref q5965, .ref q5966, .ref q5967, .ref q5968, .ref q5969])), (q5963, .inl (e5970, 6, .inr (.inr (.inr (.inr (va_up (va_up (va_up (va_up (va_up (va_up (fun _ => none) 0 (some q5971)) 1 (some q5972)) 2 (some q5973)) 3 (some q5974)) 4 (some q5975)) 5 (some q5976))))))), (q5971, .inr (8, [.ref q5977, .int 0])), (q5972, .inr (8, [.ref q5978, .int 0])), (q5973, .inr (8, [.ref q5979, .int 0])), (q5974, .inr (8, [.ref q5980, .int 0])), (q5975, .inr (8, [.ref q5981, .int 0])), (q5976, .inr (8, [.ref q5982, .int 0])), (q5968, .inr (4, [.ref q6010, .ref q6011, .ref q6012, .int (-1), .int (-1), .ref q6013, .ref q6014, .ref q6015, .ref q6016, .ref q6017])), (q6010, .inr (2, [.int (-1), .int (-1), .int 0, .int 0, .ref q6043, .ref q6044])), (q6043, .inr (3, [.ref q6045, .ref q6046, .int 0, .int 0, .int 0, .ref q6047, .ref q6048])), (q6045, .inr (1, [.ref q6049, .int 0, .ref q6050, .ref q6051, .ref q6052, .ref q6053, .ref q6054, .ref q6055, .ref q6056, .ref q6057, .ref q6058, .ref q6059, .ref q6060, .ref q6061])), (q6061, .inl (e6062, 480, .inl (fun _ => 0))), (q6047, .inl (e6063, 6, .inl (fun _ => 0))), (q6044, .inr (3, [.ref q6064, .ref q6065, .int 0, .int 0, .int 0, .ref q6066, .ref q6067])), (q6064, .inr (1, [.ref q6068, .int 0, .ref q6069, .ref q6070, .ref q6071, .ref q6072, .ref q6073, .ref q6074, .ref q6075, .ref q6076, .ref q6077, .ref q6078, .ref q6079, .ref q6080])), (q6080, .inl (e6081, 480, .inl (fun _ => 0))), (q6066, .inl (e6082, 6, .inl (fun _ => 0)))]) rfl (by decide) (by decide) (cells' := 271) (slots' := 91330) (by decide) (by decide) (k_runV (rest := [.int (-1)]) C aks Wd cs_L_55 (kcX12_judge l D q6104 q6106 q6107 q6108 q6109 q6110 q6111 q6112 q6113 q6114 q6115 q6116 q6117 q6118 q6119 q6120 q6121 q6122 q6123 q6124 q6125 q6126 q6127 q6128 q6129 q6130 y1 y2 y3 e6132 e6140 e6142 e6143 _ ) [18, 19, 20, 21, 22] rfl (by decide) [5, 6, 7, 8] rfl 18 12 rfl rfl rfl rfl rfl ⟨(Nat.le_of_ble_eq_true rfl), (Nat.le_of_ble_eq_true rfl)⟩ hl.1 rfl rfl (Nat.le_of_ble_eq_true rfl) ⟨(Nat.le_of_ble_eq_true rfl), (Nat.le_of_ble_eq_true rfl)⟩ dL_law_423) (fun r _ H locs w8073 Wd => ?_)
      have Wd : wX D [(e5970, .object RX8), (e6062, .int), (e6063, .int), (e6081, .int), (e6082, .int), (e6132, .int), (e6140, .int), (e6142, .int), (e6143, .int)] s [(q5961, .inr (11, [.ref q5963, .int 0, .ref q5964, .ref q5965, .ref q5966, .ref q5967, .ref q5968, .ref q5969])), (q5963, .inl (e5970, 6, .inr (.inr (.inr (.inr (va_up (va_up (va_up (va_up (va_up (va_up (fun _ => none) 0 (some q5971)) 1 (some q5972)) 2 (some q5973)) 3 (some q5974)) 4 (some q5975)) 5 (some q5976))))))), (q5971, .inr (8, [.ref q5977, .int 0])), (q5972, .inr (8, [.ref q5978, .int 0])), (q5973, .inr (8, [.ref q5979, .int 0])), (q5974, .inr (8, [.ref q5980, .int 0])), (q5975, .inr (8, [.ref q5981, .int 0])), (q5976, .inr (8, [.ref q5982, .int 0])), (q5968, .inr (4, [.ref q6010, .ref q6011, .ref q6012, .int (-1), .int (-1), .ref q6013, .ref q6014, .ref q6015, .ref q6016, .ref q6017])), (q6010, .inr (2, [.int (-1), .int (-1), .int 0, .int 0, .ref q6043, .ref q6044])), (q6043, .inr (3, [.ref q6045, .ref q6046, .int 0, .int 0, .int 0, .ref q6047, .ref q6048])), (q6045, .inr (1, [.ref q6049, .int 0, .ref q6050, .ref q6051, .ref q6052, .ref q6053, .ref q6054, .ref q6055, .ref q6056, .ref q6057, .ref q6058, .ref q6059, .ref q6060, .ref q6061])), (q6061, .inl (e6062, 480, .inl (fun _ => 0))), (q6047, .inl (e6063, 6, .inl (fun _ => 0))), (q6044, .inr (3, [.ref q6064, .ref q6065, .int 0, .int 0, .int 0, .ref q6066, .ref q6067])), (q6064, .inr (1, [.ref q6068, .int 0, .ref q6069, .ref q6070, .ref q6071, .ref q6072, .ref q6073, .ref q6074, .ref q6075, .ref q6076, .ref q6077, .ref q6078, .ref q6079, .ref q6080])), (q6080, .inl (e6081, 480, .inl (fun _ => 0))), (q6066, .inl (e6082, 6, .inl (fun _ => 0)))] _ A s.heap _ := Wd
      rcases w8073 with ⟨c8074, rfl⟩ | ⟨c8075, c8076, rfl⟩ | ⟨c8077, c8078, c8079, rfl⟩ | ⟨c8080, c8081, c8082, c8083, rfl⟩ | ⟨c8084, c8085, c8086, c8087, c8088, rfl⟩ | ⟨c8089, c8090, c8091, c8092, c8093, c8094, rfl⟩ | ⟨c8095, c8096, c8097, c8098, c8099, c8100, c8101, rfl⟩ | ⟨c8102, c8103, c8104, c8105, c8106, c8107, c8108, c8109, rfl⟩ | ⟨c8110, c8111, c8112, c8113, c8114, c8115, c8116, c8117, c8118, rfl⟩ | ⟨c8119, c8120, c8121, c8122, c8123, c8124, c8125, c8126, c8127, rfl⟩
      · refine lv_icmp_eq (tgt := 801) C.1 C.2.1 dL_law_426 (by decide) (fun _ => ?_) (fun c8128 => absurd c8128 (by decide))
        exact tail _ _ _ (k_sub Wd [] rfl (by decide) [] rfl) (lv_sub hl [0, 3] rfl)
      · exact absurd c7892 c8075
      · exact absurd c7892 c8077
      · exact absurd c7892 c8080
      · exact absurd c7892 c8084
      · exact absurd c7892 c8089
      · exact absurd c7892 c8095
      · exact absurd c7892 c8102
      · exact absurd c7892 c8110
      · exact absurd c7892 c8119
  by_cases c8129 : y1 < 6
  · by_cases c8130 : y2 < 0
    · have hsel : ∃ (q8131 q8132 : Nat), (va_up (va_up (va_up (va_up (va_up (va_up (fun _ => none) 0 (some q5971)) 1 (some q5972)) 2 (some q5973)) 3 (some q5974)) 4 (some q5975)) 5 (some q5976)) y1.toNatClampNeg = some q8131 ∧ wX D [(e5970, .object RX8), (e6062, .int), (e6063, .int), (e6081, .int), (e6082, .int), (e6132, .int), (e6140, .int), (e6142, .int), (e6143, .int)] s [(q5961, .inr (11, [.ref q5963, .int 0, .ref q5964, .ref q5965, .ref q5966, .ref q5967, .ref q5968, .ref q5969])), (q5963, .inl (e5970, 6, .inr (.inr (.inr (.inr (va_up (va_up (va_up (va_up (va_up (va_up (fun _ => none) 0 (some q5971)) 1 (some q5972)) 2 (some q5973)) 3 (some q5974)) 4 (some q5975)) 5 (some q5976))))))), (q5968, .inr (4, [.ref q6010, .ref q6011, .ref q6012, .int (-1), .int (-1), .ref q6013, .ref q6014, .ref q6015, .ref q6016, .ref q6017])), (q6010, .inr (2, [.int (-1), .int (-1), .int 0, .int 0, .ref q6043, .ref q6044])), (q6043, .inr (3, [.ref q6045, .ref q6046, .int 0, .int 0, .int 0, .ref q6047, .ref q6048])), (q6045, .inr (1, [.ref q6049, .int 0, .ref q6050, .ref q6051, .ref q6052, .ref q6053, .ref q6054, .ref q6055, .ref q6056, .ref q6057, .ref q6058, .ref q6059, .ref q6060, .ref q6061])), (q6061, .inl (e6062, 480, .inl (fun _ => 0))), (q6047, .inl (e6063, 6, .inl (fun _ => 0))), (q6044, .inr (3, [.ref q6064, .ref q6065, .int 0, .int 0, .int 0, .ref q6066, .ref q6067])), (q6064, .inr (1, [.ref q6068, .int 0, .ref q6069, .ref q6070, .ref q6071, .ref q6072, .ref q6073, .ref q6074, .ref q6075, .ref q6076, .ref q6077, .ref q6078, .ref q6079, .ref q6080])), (q6080, .inl (e6081, 480, .inl (fun _ => 0))), (q6066, .inl (e6082, 6, .inl (fun _ => 0))), (q6104, .inr (12, [.ref q6106, .ref q6107, .ref q6108, .ref q6109, .int 0, .int 0, .ref q6110, .int 0, .int 0, .int 0, .int 0, .int 0, .int 0, .int 0, .int 0, .int 0, .int 0, .int 0, .int 0, .int 0, .int (-1), .int 0, .int 0, .int 0, .ref q6111, .ref q6112, .ref q6113, .ref q6114, .ref q6115, .ref q6116, .int 0, .int 0, .int 0, .int 0, .ref q6117, .ref q6118, .ref q6119, .int 0, .int 0, .int 0, .int 0, .ref q6120, .ref q6121, .int 0, .ref q6122, .ref q6123, .int 0, .ref q6124, .int 0, .ref q6125, .ref q6126, .ref q6127, .int 0, .ref q6128, .ref q6129, .ref q6130])), (q6107, .inl (e6132, 6, .inl (fun _ => 0))), (q6115, .inl (e6140, 6, .inl (fun _ => 0))), (q6117, .inl (e6142, 256, .inl (fun _ => 0))), (q6118, .inl (e6143, 256, .inl (fun _ => 0))), (q8131, .inr (8, [.ref q8132, .int 0]))] H A s.heap locs := by
        rcases kf6 c7892 c8129 with rfl | rfl | rfl | rfl | rfl | rfl
        · exact ⟨q5971, q5977, rfl, k_sub Wd [0, 1, 8, 9, 10, 11, 12, 13, 14, 15, 16, 17, 18, 19, 20, 21, 22, 2] rfl (by decide) [0, 1, 2, 3, 4, 5, 6, 7, 8] rfl⟩
        · exact ⟨q5972, q5978, rfl, k_sub Wd [0, 1, 8, 9, 10, 11, 12, 13, 14, 15, 16, 17, 18, 19, 20, 21, 22, 3] rfl (by decide) [0, 1, 2, 3, 4, 5, 6, 7, 8] rfl⟩
        · exact ⟨q5973, q5979, rfl, k_sub Wd [0, 1, 8, 9, 10, 11, 12, 13, 14, 15, 16, 17, 18, 19, 20, 21, 22, 4] rfl (by decide) [0, 1, 2, 3, 4, 5, 6, 7, 8] rfl⟩
        · exact ⟨q5974, q5980, rfl, k_sub Wd [0, 1, 8, 9, 10, 11, 12, 13, 14, 15, 16, 17, 18, 19, 20, 21, 22, 5] rfl (by decide) [0, 1, 2, 3, 4, 5, 6, 7, 8] rfl⟩
        · exact ⟨q5975, q5981, rfl, k_sub Wd [0, 1, 8, 9, 10, 11, 12, 13, 14, 15, 16, 17, 18, 19, 20, 21, 22, 6] rfl (by decide) [0, 1, 2, 3, 4, 5, 6, 7, 8] rfl⟩
        · exact ⟨q5976, q5982, rfl, k_sub Wd [0, 1, 8, 9, 10, 11, 12, 13, 14, 15, 16, 17, 18, 19, 20, 21, 22, 7] rfl (by decide) [0, 1, 2, 3, 4, 5, 6, 7, 8] rfl⟩
      obtain ⟨q8131, q8132, hk8133, Wd⟩ := hsel
      refine lv_aload_n C.1 C.2.1 dL_law_388 rfl (lv_at hl 2 rfl) ?_
      refine lv_aload_n C.1 C.2.1 dL_law_389 rfl (lv_at hl 3 rfl) ?_
      refine lv_iload_n C.1 C.2.1 dL_law_390 rfl (lv_at hl 0 rfl) ?_
      refine lv_iconst (v := 1) C.1 C.2.1 dL_law_391 (by decide) ?_
      refine k_iadd (v := 1) C (by decide) dL_law_392 ?_
      refine k_sld (v := y1) C hX hbl hbA Wd (vp_in_iff.mpr (by decide)) hy1 dL_law_393 ?_
      refine lv_aload_n C.1 C.2.1 dL_law_394 rfl (lv_at hl 3 rfl) ?_
      refine lv_iload_n C.1 C.2.1 dL_law_395 rfl (lv_at hl 0 rfl) ?_
      refine lv_iconst (v := 2) C.1 C.2.1 dL_law_396 (by decide) ?_
      refine k_iadd (v := 2) C (by decide) dL_law_397 ?_
      refine k_sld (v := y2) C hX hbl hbA Wd (vp_in_iff.mpr (by decide)) hy2 dL_law_398 ?_
      refine lv_aload_n C.1 C.2.1 dL_law_399 rfl (lv_at hl 3 rfl) ?_
      refine lv_iload_n C.1 C.2.1 dL_law_400 rfl (lv_at hl 0 rfl) ?_
      refine lv_iconst (v := 3) C.1 C.2.1 dL_law_401 (by decide) ?_
      refine k_iadd (v := 3) C (by decide) dL_law_402 ?_
      refine k_sld (v := y3) C hX hbl hbA Wd (vp_in_iff.mpr (by decide)) hy3 dL_law_403 ?_
      refine k_pi (k_runV (rest := []) C aks Wd cs_L_51 (kcX11_judge_v2 l D q5961 q5963 q5964 q5965 q5966 q5967 q5968 q5969 q8131 y1 y2 y3 (va_up (va_up (va_up (va_up (va_up (va_up (fun _ => none) 0 (some q5971)) 1 (some q5972)) 2 (some q5973)) 3 (some q5974)) 4 (some q5975)) 5 (some q5976)) e5970 _ hk8133 c7892 c8129 c8130) [0, 1] rfl (by decide) [0] rfl 0 11 rfl rfl rfl rfl rfl ⟨(Nat.le_of_ble_eq_true rfl), (Nat.le_of_ble_eq_true rfl)⟩ hl.1 rfl rfl (Nat.le_of_ble_eq_true rfl) ⟨(Nat.le_of_ble_eq_true rfl), (Nat.le_of_ble_eq_true rfl)⟩ dL_law_404) (fun r w8134 => ?_)
      obtain ⟨c8135, c8136, c8137, rfl⟩ := w8134
      refine lv_aload_n C.1 C.2.1 dL_law_407 rfl (lv_at hl 1 rfl) ?_
      refine lv_aload_n C.1 C.2.1 dL_law_408 rfl (lv_at hl 3 rfl) ?_
      refine lv_iload_n C.1 C.2.1 dL_law_409 rfl (lv_at hl 0 rfl) ?_
      refine lv_iconst (v := 1) C.1 C.2.1 dL_law_410 (by decide) ?_
      refine k_iadd (v := 1) C (by decide) dL_law_411 ?_
      refine k_sld (v := y1) C hX hbl hbA Wd (vp_in_iff.mpr (by decide)) hy1 dL_law_412 ?_
      refine lv_aload_n C.1 C.2.1 dL_law_413 rfl (lv_at hl 3 rfl) ?_
      refine lv_iload_n C.1 C.2.1 dL_law_414 rfl (lv_at hl 0 rfl) ?_
      refine lv_iconst (v := 2) C.1 C.2.1 dL_law_415 (by decide) ?_
      refine k_iadd (v := 2) C (by decide) dL_law_416 ?_
      refine k_sld (v := y2) C hX hbl hbA Wd (vp_in_iff.mpr (by decide)) hy2 dL_law_417 ?_
      refine lv_aload_n C.1 C.2.1 dL_law_418 rfl (lv_at hl 3 rfl) ?_
      refine lv_iload_n C.1 C.2.1 dL_law_419 rfl (lv_at hl 0 rfl) ?_
      refine lv_iconst (v := 3) C.1 C.2.1 dL_law_420 (by decide) ?_
      refine k_iadd (v := 3) C (by decide) dL_law_421 ?_
      refine k_sld (v := y3) C hX hbl hbA Wd (vp_in_iff.mpr (by decide)) hy3 dL_law_422 ?_
      refine k_ci Wd [12, 13, 14, 15, 16] [0, 1, 2, 3, 4, 5, 6, 7, 8, 9, 10, 11, 17] rfl (wr := [(q5961, .inr (11, [.ref q5963, .int 0, .ref q5964, .ref q5965, .ref q5966, .ref q5967, .ref q5968, .ref q5969])), (q5963, .inl (e5970, 6, .inr (.inr (.inr (.inr (va_up (va_up (va_up (va_up (va_up (va_up (fun _ => none) 0 (some q5971)) 1 (some q5972)) 2 (some q5973)) 3 (some q5974)) 4 (some q5975)) 5 (some q5976))))))), (q5968, .inr (4, [.ref q6010, .ref q6011, .ref q6012, .int (-1), .int (-1), .ref q6013, .ref q6014, .ref q6015, .ref q6016, .ref q6017])), (q6010, .inr (2, [.int (-1), .int (-1), .int 0, .int 0, .ref q6043, .ref q6044])), (q6043, .inr (3, [.ref q6045, .ref q6046, .int 0, .int 0, .int 0, .ref q6047, .ref q6048])), (q6045, .inr (1, [.ref q6049, .int 0, .ref q6050, .ref q6051, .ref q6052, .ref q6053, .ref q6054, .ref q6055, .ref q6056, .ref q6057, .ref q6058, .ref q6059, .ref q6060, .ref q6061])), (q6061, .inl (e6062, 480, .inl (fun _ => 0))), (q6047, .inl (e6063, 6, .inl (fun _ => 0))), (q6044, .inr (3, [.ref q6064, .ref q6065, .int 0, .int 0, .int 0, .ref q6066, .ref q6067])), (q6064, .inr (1, [.ref q6068, .int 0, .ref q6069, .ref q6070, .ref q6071, .ref q6072, .ref q6073, .ref q6074, .ref q6075, .ref q6076, .ref q6077, .ref q6078, .ref q6079, .ref q6080])), (q6080, .inl (e6081, 480, .inl (fun _ => 0))), (q6066, .inl (e6082, 6, .inl (fun _ => 0))), (q8131, .inr (8, [.ref q8132, .int 0]))]) rfl (by decide) (by decide) (cells' := 271) (slots' := 91330) (by decide) (by decide) (k_runV (rest := [.int (-1)]) C aks Wd cs_L_55 (kcX12_judge l D q6104 q6106 q6107 q6108 q6109 q6110 q6111 q6112 q6113 q6114 q6115 q6116 q6117 q6118 q6119 q6120 q6121 q6122 q6123 q6124 q6125 q6126 q6127 q6128 q6129 q6130 y1 y2 y3 e6132 e6140 e6142 e6143 _ ) [12, 13, 14, 15, 16] rfl (by decide) [5, 6, 7, 8] rfl 12 12 rfl rfl rfl rfl rfl ⟨(Nat.le_of_ble_eq_true rfl), (Nat.le_of_ble_eq_true rfl)⟩ hl.1 rfl rfl (Nat.le_of_ble_eq_true rfl) ⟨(Nat.le_of_ble_eq_true rfl), (Nat.le_of_ble_eq_true rfl)⟩ dL_law_423) (fun r _ H locs w8138 Wd => ?_)
      have Wd : wX D [(e5970, .object RX8), (e6062, .int), (e6063, .int), (e6081, .int), (e6082, .int), (e6132, .int), (e6140, .int), (e6142, .int), (e6143, .int)] s [(q5961, .inr (11, [.ref q5963, .int 0, .ref q5964, .ref q5965, .ref q5966, .ref q5967, .ref q5968, .ref q5969])), (q5963, .inl (e5970, 6, .inr (.inr (.inr (.inr (va_up (va_up (va_up (va_up (va_up (va_up (fun _ => none) 0 (some q5971)) 1 (some q5972)) 2 (some q5973)) 3 (some q5974)) 4 (some q5975)) 5 (some q5976))))))), (q5968, .inr (4, [.ref q6010, .ref q6011, .ref q6012, .int (-1), .int (-1), .ref q6013, .ref q6014, .ref q6015, .ref q6016, .ref q6017])), (q6010, .inr (2, [.int (-1), .int (-1), .int 0, .int 0, .ref q6043, .ref q6044])), (q6043, .inr (3, [.ref q6045, .ref q6046, .int 0, .int 0, .int 0, .ref q6047, .ref q6048])), (q6045, .inr (1, [.ref q6049, .int 0, .ref q6050, .ref q6051, .ref q6052, .ref q6053, .ref q6054, .ref q6055, .ref q6056, .ref q6057, .ref q6058, .ref q6059, .ref q6060, .ref q6061])), (q6061, .inl (e6062, 480, .inl (fun _ => 0))), (q6047, .inl (e6063, 6, .inl (fun _ => 0))), (q6044, .inr (3, [.ref q6064, .ref q6065, .int 0, .int 0, .int 0, .ref q6066, .ref q6067])), (q6064, .inr (1, [.ref q6068, .int 0, .ref q6069, .ref q6070, .ref q6071, .ref q6072, .ref q6073, .ref q6074, .ref q6075, .ref q6076, .ref q6077, .ref q6078, .ref q6079, .ref q6080])), (q6080, .inl (e6081, 480, .inl (fun _ => 0))), (q6066, .inl (e6082, 6, .inl (fun _ => 0))), (q8131, .inr (8, [.ref q8132, .int 0]))] _ A s.heap _ := Wd
      rcases w8138 with ⟨c8139, rfl⟩ | ⟨c8140, c8141, rfl⟩ | ⟨c8142, c8143, c8144, rfl⟩ | ⟨c8145, c8146, c8147, c8148, rfl⟩ | ⟨c8149, c8150, c8151, c8152, c8153, rfl⟩ | ⟨c8154, c8155, c8156, c8157, c8158, c8159, rfl⟩ | ⟨c8160, c8161, c8162, c8163, c8164, c8165, c8166, rfl⟩ | ⟨c8167, c8168, c8169, c8170, c8171, c8172, c8173, c8174, rfl⟩ | ⟨c8175, c8176, c8177, c8178, c8179, c8180, c8181, c8182, c8183, rfl⟩ | ⟨c8184, c8185, c8186, c8187, c8188, c8189, c8190, c8191, c8192, rfl⟩
      · exact absurd c8139 c7892
      · exact False.elim (by have z0 := kz_nlt c7892; have z1 := kz_lt c8129; have z2 := kz_nlt c8135; have z3 := kz_nle c8136; have z4 := kz_nlt c8140; have z5 := kz_lt c8141; have t0 : (0 : Int32).toInt = 0 := (by decide); have t6 : (6 : Int32).toInt = 6 := (by decide); have t5 : (5 : Int32).toInt = 5 := (by decide); omega)
      · refine lv_icmp_eq (tgt := 801) C.1 C.2.1 dL_law_426 (by decide) (fun _ => ?_) (fun c8193 => absurd c8193 (by decide))
        exact tail _ _ _ (k_sub Wd [] rfl (by decide) [] rfl) (lv_sub hl [0, 3] rfl)
      · exact absurd c8130 c8147
      · exact absurd c8130 c8151
      · exact absurd c8130 c8156
      · exact absurd c8130 c8162
      · exact absurd c8130 c8169
      · exact absurd c8130 c8177
      · exact absurd c8130 c8186
    by_cases c8194 : y2 < 6
    · by_cases c8195 : y1 = y2
      · have hsel : ∃ (q8196 q8197 : Nat), (va_up (va_up (va_up (va_up (va_up (va_up (fun _ => none) 0 (some q5971)) 1 (some q5972)) 2 (some q5973)) 3 (some q5974)) 4 (some q5975)) 5 (some q5976)) y1.toNatClampNeg = some q8196 ∧ wX D [(e5970, .object RX8), (e6062, .int), (e6063, .int), (e6081, .int), (e6082, .int), (e6132, .int), (e6140, .int), (e6142, .int), (e6143, .int)] s [(q5961, .inr (11, [.ref q5963, .int 0, .ref q5964, .ref q5965, .ref q5966, .ref q5967, .ref q5968, .ref q5969])), (q5963, .inl (e5970, 6, .inr (.inr (.inr (.inr (va_up (va_up (va_up (va_up (va_up (va_up (fun _ => none) 0 (some q5971)) 1 (some q5972)) 2 (some q5973)) 3 (some q5974)) 4 (some q5975)) 5 (some q5976))))))), (q5968, .inr (4, [.ref q6010, .ref q6011, .ref q6012, .int (-1), .int (-1), .ref q6013, .ref q6014, .ref q6015, .ref q6016, .ref q6017])), (q6010, .inr (2, [.int (-1), .int (-1), .int 0, .int 0, .ref q6043, .ref q6044])), (q6043, .inr (3, [.ref q6045, .ref q6046, .int 0, .int 0, .int 0, .ref q6047, .ref q6048])), (q6045, .inr (1, [.ref q6049, .int 0, .ref q6050, .ref q6051, .ref q6052, .ref q6053, .ref q6054, .ref q6055, .ref q6056, .ref q6057, .ref q6058, .ref q6059, .ref q6060, .ref q6061])), (q6061, .inl (e6062, 480, .inl (fun _ => 0))), (q6047, .inl (e6063, 6, .inl (fun _ => 0))), (q6044, .inr (3, [.ref q6064, .ref q6065, .int 0, .int 0, .int 0, .ref q6066, .ref q6067])), (q6064, .inr (1, [.ref q6068, .int 0, .ref q6069, .ref q6070, .ref q6071, .ref q6072, .ref q6073, .ref q6074, .ref q6075, .ref q6076, .ref q6077, .ref q6078, .ref q6079, .ref q6080])), (q6080, .inl (e6081, 480, .inl (fun _ => 0))), (q6066, .inl (e6082, 6, .inl (fun _ => 0))), (q6104, .inr (12, [.ref q6106, .ref q6107, .ref q6108, .ref q6109, .int 0, .int 0, .ref q6110, .int 0, .int 0, .int 0, .int 0, .int 0, .int 0, .int 0, .int 0, .int 0, .int 0, .int 0, .int 0, .int 0, .int (-1), .int 0, .int 0, .int 0, .ref q6111, .ref q6112, .ref q6113, .ref q6114, .ref q6115, .ref q6116, .int 0, .int 0, .int 0, .int 0, .ref q6117, .ref q6118, .ref q6119, .int 0, .int 0, .int 0, .int 0, .ref q6120, .ref q6121, .int 0, .ref q6122, .ref q6123, .int 0, .ref q6124, .int 0, .ref q6125, .ref q6126, .ref q6127, .int 0, .ref q6128, .ref q6129, .ref q6130])), (q6107, .inl (e6132, 6, .inl (fun _ => 0))), (q6115, .inl (e6140, 6, .inl (fun _ => 0))), (q6117, .inl (e6142, 256, .inl (fun _ => 0))), (q6118, .inl (e6143, 256, .inl (fun _ => 0))), (q8196, .inr (8, [.ref q8197, .int 0]))] H A s.heap locs := by
          rcases kf6 c7892 c8129 with rfl | rfl | rfl | rfl | rfl | rfl
          · exact ⟨q5971, q5977, rfl, k_sub Wd [0, 1, 8, 9, 10, 11, 12, 13, 14, 15, 16, 17, 18, 19, 20, 21, 22, 2] rfl (by decide) [0, 1, 2, 3, 4, 5, 6, 7, 8] rfl⟩
          · exact ⟨q5972, q5978, rfl, k_sub Wd [0, 1, 8, 9, 10, 11, 12, 13, 14, 15, 16, 17, 18, 19, 20, 21, 22, 3] rfl (by decide) [0, 1, 2, 3, 4, 5, 6, 7, 8] rfl⟩
          · exact ⟨q5973, q5979, rfl, k_sub Wd [0, 1, 8, 9, 10, 11, 12, 13, 14, 15, 16, 17, 18, 19, 20, 21, 22, 4] rfl (by decide) [0, 1, 2, 3, 4, 5, 6, 7, 8] rfl⟩
          · exact ⟨q5974, q5980, rfl, k_sub Wd [0, 1, 8, 9, 10, 11, 12, 13, 14, 15, 16, 17, 18, 19, 20, 21, 22, 5] rfl (by decide) [0, 1, 2, 3, 4, 5, 6, 7, 8] rfl⟩
          · exact ⟨q5975, q5981, rfl, k_sub Wd [0, 1, 8, 9, 10, 11, 12, 13, 14, 15, 16, 17, 18, 19, 20, 21, 22, 6] rfl (by decide) [0, 1, 2, 3, 4, 5, 6, 7, 8] rfl⟩
          · exact ⟨q5976, q5982, rfl, k_sub Wd [0, 1, 8, 9, 10, 11, 12, 13, 14, 15, 16, 17, 18, 19, 20, 21, 22, 7] rfl (by decide) [0, 1, 2, 3, 4, 5, 6, 7, 8] rfl⟩
        obtain ⟨q8196, q8197, hk8198, Wd⟩ := hsel
        have hk8199 : (va_up (va_up (va_up (va_up (va_up (va_up (fun _ => none) 0 (some q5971)) 1 (some q5972)) 2 (some q5973)) 3 (some q5974)) 4 (some q5975)) 5 (some q5976)) y2.toNatClampNeg = some q8196 := by rw [← c8195]; exact hk8198
        refine lv_aload_n C.1 C.2.1 dL_law_388 rfl (lv_at hl 2 rfl) ?_
        refine lv_aload_n C.1 C.2.1 dL_law_389 rfl (lv_at hl 3 rfl) ?_
        refine lv_iload_n C.1 C.2.1 dL_law_390 rfl (lv_at hl 0 rfl) ?_
        refine lv_iconst (v := 1) C.1 C.2.1 dL_law_391 (by decide) ?_
        refine k_iadd (v := 1) C (by decide) dL_law_392 ?_
        refine k_sld (v := y1) C hX hbl hbA Wd (vp_in_iff.mpr (by decide)) hy1 dL_law_393 ?_
        refine lv_aload_n C.1 C.2.1 dL_law_394 rfl (lv_at hl 3 rfl) ?_
        refine lv_iload_n C.1 C.2.1 dL_law_395 rfl (lv_at hl 0 rfl) ?_
        refine lv_iconst (v := 2) C.1 C.2.1 dL_law_396 (by decide) ?_
        refine k_iadd (v := 2) C (by decide) dL_law_397 ?_
        refine k_sld (v := y2) C hX hbl hbA Wd (vp_in_iff.mpr (by decide)) hy2 dL_law_398 ?_
        refine lv_aload_n C.1 C.2.1 dL_law_399 rfl (lv_at hl 3 rfl) ?_
        refine lv_iload_n C.1 C.2.1 dL_law_400 rfl (lv_at hl 0 rfl) ?_
        refine lv_iconst (v := 3) C.1 C.2.1 dL_law_401 (by decide) ?_
        refine k_iadd (v := 3) C (by decide) dL_law_402 ?_
        refine k_sld (v := y3) C hX hbl hbA Wd (vp_in_iff.mpr (by decide)) hy3 dL_law_403 ?_
        refine k_ci Wd [0, 1, 2, 3, 4, 5, 17, 6, 8, 9, 10, 7, 11] [12, 13, 14, 15, 16] rfl (wr := [(q6104, .inr (12, [.ref q6106, .ref q6107, .ref q6108, .ref q6109, .int 0, .int 0, .ref q6110, .int 0, .int 0, .int 0, .int 0, .int 0, .int 0, .int 0, .int 0, .int 0, .int 0, .int 0, .int 0, .int 0, .int (-1), .int 0, .int 0, .int 0, .ref q6111, .ref q6112, .ref q6113, .ref q6114, .ref q6115, .ref q6116, .int 0, .int 0, .int 0, .int 0, .ref q6117, .ref q6118, .ref q6119, .int 0, .int 0, .int 0, .int 0, .ref q6120, .ref q6121, .int 0, .ref q6122, .ref q6123, .int 0, .ref q6124, .int 0, .ref q6125, .ref q6126, .ref q6127, .int 0, .ref q6128, .ref q6129, .ref q6130])), (q6107, .inl (e6132, 6, .inl (fun _ => 0))), (q6115, .inl (e6140, 6, .inl (fun _ => 0))), (q6117, .inl (e6142, 256, .inl (fun _ => 0))), (q6118, .inl (e6143, 256, .inl (fun _ => 0)))]) rfl (by decide) (by decide) (cells' := 271) (slots' := 91330) (by decide) (by decide) (k_runV (rest := []) C aks Wd cs_L_51 (kcX11_judge_v5 l D q5961 q5963 q5964 q5965 q5966 q5967 q5968 q5969 q8196 q6010 q6011 q6012 q6013 q6014 q6015 q6016 q6017 q8197 q6043 q6044 q6045 q6046 q6047 q6048 q6064 q6065 q6066 q6067 q6049 q6050 q6051 q6052 q6053 q6054 q6055 q6056 q6057 q6058 q6059 q6060 q6061 q6068 q6069 q6070 q6071 q6072 q6073 q6074 q6075 q6076 q6077 q6078 q6079 q6080 y1 y2 y3 (va_up (va_up (va_up (va_up (va_up (va_up (fun _ => none) 0 (some q5971)) 1 (some q5972)) 2 (some q5973)) 3 (some q5974)) 4 (some q5975)) 5 (some q5976)) e5970 e6063 e6082 e6062 e6081 _ hk8198 hk8199 c7892 c8129 c8130 c8194) [0, 1, 2, 3, 4, 5, 17, 6, 8, 9, 10, 7, 11] rfl (by decide) [0, 2, 4, 1, 3] rfl 0 11 rfl rfl rfl rfl rfl ⟨(Nat.le_of_ble_eq_true rfl), (Nat.le_of_ble_eq_true rfl)⟩ hl.1 rfl rfl (Nat.le_of_ble_eq_true rfl) ⟨(Nat.le_of_ble_eq_true rfl), (Nat.le_of_ble_eq_true rfl)⟩ dL_law_404) (fun r _ H locs w8200 Wd => ?_)
        have Wd : wX D [(e5970, .object RX8), (e6062, .int), (e6063, .int), (e6081, .int), (e6082, .int), (e6132, .int), (e6140, .int), (e6142, .int), (e6143, .int)] s [(q6104, .inr (12, [.ref q6106, .ref q6107, .ref q6108, .ref q6109, .int 0, .int 0, .ref q6110, .int 0, .int 0, .int 0, .int 0, .int 0, .int 0, .int 0, .int 0, .int 0, .int 0, .int 0, .int 0, .int 0, .int (-1), .int 0, .int 0, .int 0, .ref q6111, .ref q6112, .ref q6113, .ref q6114, .ref q6115, .ref q6116, .int 0, .int 0, .int 0, .int 0, .ref q6117, .ref q6118, .ref q6119, .int 0, .int 0, .int 0, .int 0, .ref q6120, .ref q6121, .int 0, .ref q6122, .ref q6123, .int 0, .ref q6124, .int 0, .ref q6125, .ref q6126, .ref q6127, .int 0, .ref q6128, .ref q6129, .ref q6130])), (q6107, .inl (e6132, 6, .inl (fun _ => 0))), (q6115, .inl (e6140, 6, .inl (fun _ => 0))), (q6117, .inl (e6142, 256, .inl (fun _ => 0))), (q6118, .inl (e6143, 256, .inl (fun _ => 0)))] _ A s.heap _ := Wd
        rcases w8200 with ⟨c8201, c8202, c8203, c8204, c8205, rfl⟩ | ⟨c8206, c8207, c8208, c8209, c8210, c8211, c8212, rfl⟩ | ⟨c8213, c8214, c8215, c8216, c8217, c8218, c8219, c8220, rfl⟩ | ⟨c8221, c8222, c8223, c8224, c8225, c8226, c8227, c8228, c8229, rfl⟩ | ⟨c8230, c8231, c8232, c8233, c8234, c8235, c8236, c8237, c8238, rfl⟩ | ⟨c8239, c8240, c8241, c8242, c8243, c8244, rfl⟩
        · refine lv_aload_n C.1 C.2.1 dL_law_407 rfl (lv_at hl 1 rfl) ?_
          refine lv_aload_n C.1 C.2.1 dL_law_408 rfl (lv_at hl 3 rfl) ?_
          refine lv_iload_n C.1 C.2.1 dL_law_409 rfl (lv_at hl 0 rfl) ?_
          refine lv_iconst (v := 1) C.1 C.2.1 dL_law_410 (by decide) ?_
          refine k_iadd (v := 1) C (by decide) dL_law_411 ?_
          refine k_sld (v := y1) C hX hbl hbA Wd (vp_in_iff.mpr (by decide)) hy1 dL_law_412 ?_
          refine lv_aload_n C.1 C.2.1 dL_law_413 rfl (lv_at hl 3 rfl) ?_
          refine lv_iload_n C.1 C.2.1 dL_law_414 rfl (lv_at hl 0 rfl) ?_
          refine lv_iconst (v := 2) C.1 C.2.1 dL_law_415 (by decide) ?_
          refine k_iadd (v := 2) C (by decide) dL_law_416 ?_
          refine k_sld (v := y2) C hX hbl hbA Wd (vp_in_iff.mpr (by decide)) hy2 dL_law_417 ?_
          refine lv_aload_n C.1 C.2.1 dL_law_418 rfl (lv_at hl 3 rfl) ?_
          refine lv_iload_n C.1 C.2.1 dL_law_419 rfl (lv_at hl 0 rfl) ?_
          refine lv_iconst (v := 3) C.1 C.2.1 dL_law_420 (by decide) ?_
          refine k_iadd (v := 3) C (by decide) dL_law_421 ?_
          refine k_sld (v := y3) C hX hbl hbA Wd (vp_in_iff.mpr (by decide)) hy3 dL_law_422 ?_
          refine k_ci Wd [0, 1, 2, 3, 4] [] rfl (wr := []) rfl (by decide) (by decide) (cells' := 271) (slots' := 91330) (by decide) (by decide) (k_runV (rest := [.int (-1)]) C aks Wd cs_L_55 (kcX12_judge l D q6104 q6106 q6107 q6108 q6109 q6110 q6111 q6112 q6113 q6114 q6115 q6116 q6117 q6118 q6119 q6120 q6121 q6122 q6123 q6124 q6125 q6126 q6127 q6128 q6129 q6130 y1 y2 y3 e6132 e6140 e6142 e6143 _ ) [0, 1, 2, 3, 4] rfl (by decide) [5, 6, 7, 8] rfl 0 12 rfl rfl rfl rfl rfl ⟨(Nat.le_of_ble_eq_true rfl), (Nat.le_of_ble_eq_true rfl)⟩ hl.1 rfl rfl (Nat.le_of_ble_eq_true rfl) ⟨(Nat.le_of_ble_eq_true rfl), (Nat.le_of_ble_eq_true rfl)⟩ dL_law_423) (fun r _ H locs w8245 Wd => ?_)
          have Wd : wX D [(e5970, .object RX8), (e6062, .int), (e6063, .int), (e6081, .int), (e6082, .int), (e6132, .int), (e6140, .int), (e6142, .int), (e6143, .int)] s [] _ A s.heap _ := Wd
          rcases w8245 with ⟨c8246, rfl⟩ | ⟨c8247, c8248, rfl⟩ | ⟨c8249, c8250, c8251, rfl⟩ | ⟨c8252, c8253, c8254, c8255, rfl⟩ | ⟨c8256, c8257, c8258, c8259, c8260, rfl⟩ | ⟨c8261, c8262, c8263, c8264, c8265, c8266, rfl⟩ | ⟨c8267, c8268, c8269, c8270, c8271, c8272, c8273, rfl⟩ | ⟨c8274, c8275, c8276, c8277, c8278, c8279, c8280, c8281, rfl⟩ | ⟨c8282, c8283, c8284, c8285, c8286, c8287, c8288, c8289, c8290, rfl⟩ | ⟨c8291, c8292, c8293, c8294, c8295, c8296, c8297, c8298, c8299, rfl⟩
          · exact absurd c8246 c7892
          · exact False.elim (by have z0 := kz_nlt c7892; have z1 := kz_lt c8129; have z2 := kz_nlt c8201; have z3 := kz_nle c8202; have z4 := kz_nlt c8247; have z5 := kz_lt c8248; have t0 : (0 : Int32).toInt = 0 := (by decide); have t6 : (6 : Int32).toInt = 6 := (by decide); have t5 : (5 : Int32).toInt = 5 := (by decide); omega)
          · exact absurd c8251 c8130
          · exact False.elim (by have z0 := kz_nlt c8130; have z1 := kz_lt c8194; have z2 := kz_nlt c8203; have z3 := kz_nle c8204; have z4 := kz_nlt c8254; have z5 := kz_lt c8255; have t0 : (0 : Int32).toInt = 0 := (by decide); have t6 : (6 : Int32).toInt = 6 := (by decide); have t5 : (5 : Int32).toInt = 5 := (by decide); omega)
          · refine lv_icmp_eq (tgt := 801) C.1 C.2.1 dL_law_426 (by decide) (fun _ => ?_) (fun c8300 => absurd c8300 (by decide))
            exact tail _ _ _ (k_sub Wd [] rfl (by decide) [] rfl) (lv_sub hl [0, 3] rfl)
          · exact absurd c8205 c8265
          · exact absurd c8205 c8271
          · exact absurd c8205 c8278
          · exact absurd c8205 c8286
          · exact absurd c8205 c8295
        · refine lv_aload_n C.1 C.2.1 dL_law_407 rfl (lv_at hl 1 rfl) ?_
          refine lv_aload_n C.1 C.2.1 dL_law_408 rfl (lv_at hl 3 rfl) ?_
          refine lv_iload_n C.1 C.2.1 dL_law_409 rfl (lv_at hl 0 rfl) ?_
          refine lv_iconst (v := 1) C.1 C.2.1 dL_law_410 (by decide) ?_
          refine k_iadd (v := 1) C (by decide) dL_law_411 ?_
          refine k_sld (v := y1) C hX hbl hbA Wd (vp_in_iff.mpr (by decide)) hy1 dL_law_412 ?_
          refine lv_aload_n C.1 C.2.1 dL_law_413 rfl (lv_at hl 3 rfl) ?_
          refine lv_iload_n C.1 C.2.1 dL_law_414 rfl (lv_at hl 0 rfl) ?_
          refine lv_iconst (v := 2) C.1 C.2.1 dL_law_415 (by decide) ?_
          refine k_iadd (v := 2) C (by decide) dL_law_416 ?_
          refine k_sld (v := y2) C hX hbl hbA Wd (vp_in_iff.mpr (by decide)) hy2 dL_law_417 ?_
          refine lv_aload_n C.1 C.2.1 dL_law_418 rfl (lv_at hl 3 rfl) ?_
          refine lv_iload_n C.1 C.2.1 dL_law_419 rfl (lv_at hl 0 rfl) ?_
          refine lv_iconst (v := 3) C.1 C.2.1 dL_law_420 (by decide) ?_
          refine k_iadd (v := 3) C (by decide) dL_law_421 ?_
          refine k_sld (v := y3) C hX hbl hbA Wd (vp_in_iff.mpr (by decide)) hy3 dL_law_422 ?_
          refine k_ci Wd [0, 1, 2, 3, 4] [] rfl (wr := []) rfl (by decide) (by decide) (cells' := 271) (slots' := 91330) (by decide) (by decide) (k_runV (rest := [.int 0]) C aks Wd cs_L_55 (kcX12_judge l D q6104 q6106 q6107 q6108 q6109 q6110 q6111 q6112 q6113 q6114 q6115 q6116 q6117 q6118 q6119 q6120 q6121 q6122 q6123 q6124 q6125 q6126 q6127 q6128 q6129 q6130 y1 y2 y3 e6132 e6140 e6142 e6143 _ ) [0, 1, 2, 3, 4] rfl (by decide) [5, 6, 7, 8] rfl 0 12 rfl rfl rfl rfl rfl ⟨(Nat.le_of_ble_eq_true rfl), (Nat.le_of_ble_eq_true rfl)⟩ hl.1 rfl rfl (Nat.le_of_ble_eq_true rfl) ⟨(Nat.le_of_ble_eq_true rfl), (Nat.le_of_ble_eq_true rfl)⟩ dL_law_423) (fun r _ H locs w8301 Wd => ?_)
          have Wd : wX D [(e5970, .object RX8), (e6062, .int), (e6063, .int), (e6081, .int), (e6082, .int), (e6132, .int), (e6140, .int), (e6142, .int), (e6143, .int)] s [] _ A s.heap _ := Wd
          rcases w8301 with ⟨c8302, rfl⟩ | ⟨c8303, c8304, rfl⟩ | ⟨c8305, c8306, c8307, rfl⟩ | ⟨c8308, c8309, c8310, c8311, rfl⟩ | ⟨c8312, c8313, c8314, c8315, c8316, rfl⟩ | ⟨c8317, c8318, c8319, c8320, c8321, c8322, rfl⟩ | ⟨c8323, c8324, c8325, c8326, c8327, c8328, c8329, rfl⟩ | ⟨c8330, c8331, c8332, c8333, c8334, c8335, c8336, c8337, rfl⟩ | ⟨c8338, c8339, c8340, c8341, c8342, c8343, c8344, c8345, c8346, rfl⟩ | ⟨c8347, c8348, c8349, c8350, c8351, c8352, c8353, c8354, c8355, rfl⟩
          · exact absurd c8302 c7892
          · exact False.elim (by have z0 := kz_nlt c7892; have z1 := kz_lt c8129; have z2 := kz_nlt c8206; have z3 := kz_nle c8207; have z4 := kz_nlt c8303; have z5 := kz_lt c8304; have t0 : (0 : Int32).toInt = 0 := (by decide); have t6 : (6 : Int32).toInt = 6 := (by decide); have t5 : (5 : Int32).toInt = 5 := (by decide); omega)
          · exact absurd c8307 c8130
          · exact False.elim (by have z0 := kz_nlt c8130; have z1 := kz_lt c8194; have z2 := kz_nlt c8208; have z3 := kz_nle c8209; have z4 := kz_nlt c8310; have z5 := kz_lt c8311; have t0 : (0 : Int32).toInt = 0 := (by decide); have t6 : (6 : Int32).toInt = 6 := (by decide); have t5 : (5 : Int32).toInt = 5 := (by decide); omega)
          · exact absurd c8316 c8210
          · exact False.elim (by have z0 := kz_nlt c8210; have z1 := kz_le c8211; have z2 := kz_eq c8212; have z3 := kz_nlt c8321; have z4 := kz_lt c8322; have t0 : (0 : Int32).toInt = 0 := (by decide); have t3 : (3 : Int32).toInt = 3 := (by decide); omega)
          · refine lv_icmp_eq (tgt := 801) C.1 C.2.1 dL_law_426 (by decide) (fun _ => ?_) (fun c8356 => absurd c8356 (by decide))
            exact tail _ _ _ (k_sub Wd [] rfl (by decide) [] rfl) (lv_sub hl [0, 3] rfl)
          · exact absurd c8212 c8336
          · exact absurd c8212 c8344
          · exact absurd c8212 c8353
        · refine lv_aload_n C.1 C.2.1 dL_law_407 rfl (lv_at hl 1 rfl) ?_
          refine lv_aload_n C.1 C.2.1 dL_law_408 rfl (lv_at hl 3 rfl) ?_
          refine lv_iload_n C.1 C.2.1 dL_law_409 rfl (lv_at hl 0 rfl) ?_
          refine lv_iconst (v := 1) C.1 C.2.1 dL_law_410 (by decide) ?_
          refine k_iadd (v := 1) C (by decide) dL_law_411 ?_
          refine k_sld (v := y1) C hX hbl hbA Wd (vp_in_iff.mpr (by decide)) hy1 dL_law_412 ?_
          refine lv_aload_n C.1 C.2.1 dL_law_413 rfl (lv_at hl 3 rfl) ?_
          refine lv_iload_n C.1 C.2.1 dL_law_414 rfl (lv_at hl 0 rfl) ?_
          refine lv_iconst (v := 2) C.1 C.2.1 dL_law_415 (by decide) ?_
          refine k_iadd (v := 2) C (by decide) dL_law_416 ?_
          refine k_sld (v := y2) C hX hbl hbA Wd (vp_in_iff.mpr (by decide)) hy2 dL_law_417 ?_
          refine lv_aload_n C.1 C.2.1 dL_law_418 rfl (lv_at hl 3 rfl) ?_
          refine lv_iload_n C.1 C.2.1 dL_law_419 rfl (lv_at hl 0 rfl) ?_
          refine lv_iconst (v := 3) C.1 C.2.1 dL_law_420 (by decide) ?_
          refine k_iadd (v := 3) C (by decide) dL_law_421 ?_
          refine k_sld (v := y3) C hX hbl hbA Wd (vp_in_iff.mpr (by decide)) hy3 dL_law_422 ?_
          refine k_ci Wd [0, 1, 2, 3, 4] [] rfl (wr := []) rfl (by decide) (by decide) (cells' := 271) (slots' := 91330) (by decide) (by decide) (k_runV (rest := [.int (-1)]) C aks Wd cs_L_55 (kcX12_judge l D q6104 q6106 q6107 q6108 q6109 q6110 q6111 q6112 q6113 q6114 q6115 q6116 q6117 q6118 q6119 q6120 q6121 q6122 q6123 q6124 q6125 q6126 q6127 q6128 q6129 q6130 y1 y2 y3 e6132 e6140 e6142 e6143 _ ) [0, 1, 2, 3, 4] rfl (by decide) [5, 6, 7, 8] rfl 0 12 rfl rfl rfl rfl rfl ⟨(Nat.le_of_ble_eq_true rfl), (Nat.le_of_ble_eq_true rfl)⟩ hl.1 rfl rfl (Nat.le_of_ble_eq_true rfl) ⟨(Nat.le_of_ble_eq_true rfl), (Nat.le_of_ble_eq_true rfl)⟩ dL_law_423) (fun r _ H locs w8357 Wd => ?_)
          have Wd : wX D [(e5970, .object RX8), (e6062, .int), (e6063, .int), (e6081, .int), (e6082, .int), (e6132, .int), (e6140, .int), (e6142, .int), (e6143, .int)] s [] _ A s.heap _ := Wd
          rcases w8357 with ⟨c8358, rfl⟩ | ⟨c8359, c8360, rfl⟩ | ⟨c8361, c8362, c8363, rfl⟩ | ⟨c8364, c8365, c8366, c8367, rfl⟩ | ⟨c8368, c8369, c8370, c8371, c8372, rfl⟩ | ⟨c8373, c8374, c8375, c8376, c8377, c8378, rfl⟩ | ⟨c8379, c8380, c8381, c8382, c8383, c8384, c8385, rfl⟩ | ⟨c8386, c8387, c8388, c8389, c8390, c8391, c8392, c8393, rfl⟩ | ⟨c8394, c8395, c8396, c8397, c8398, c8399, c8400, c8401, c8402, rfl⟩ | ⟨c8403, c8404, c8405, c8406, c8407, c8408, c8409, c8410, c8411, rfl⟩
          · exact absurd c8358 c7892
          · exact False.elim (by have z0 := kz_nlt c7892; have z1 := kz_lt c8129; have z2 := kz_nlt c8213; have z3 := kz_nle c8214; have z4 := kz_nlt c8359; have z5 := kz_lt c8360; have t0 : (0 : Int32).toInt = 0 := (by decide); have t6 : (6 : Int32).toInt = 6 := (by decide); have t5 : (5 : Int32).toInt = 5 := (by decide); omega)
          · exact absurd c8363 c8130
          · exact False.elim (by have z0 := kz_nlt c8130; have z1 := kz_lt c8194; have z2 := kz_nlt c8215; have z3 := kz_nle c8216; have z4 := kz_nlt c8366; have z5 := kz_lt c8367; have t0 : (0 : Int32).toInt = 0 := (by decide); have t6 : (6 : Int32).toInt = 6 := (by decide); have t5 : (5 : Int32).toInt = 5 := (by decide); omega)
          · exact absurd c8372 c8217
          · exact False.elim (by have z0 := kz_nlt c8217; have z1 := kz_le c8218; have z2 := kz_ne c8219; have z3 := kz_eq c8220; have z4 := kz_nlt c8377; have z5 := kz_lt c8378; have t0 : (0 : Int32).toInt = 0 := (by decide); have t3 : (3 : Int32).toInt = 3 := (by decide); have t1 : (1 : Int32).toInt = 1 := (by decide); omega)
          · exact absurd c8385 c8219
          · refine lv_icmp_eq (tgt := 801) C.1 C.2.1 dL_law_426 (by decide) (fun _ => ?_) (fun c8412 => absurd c8412 (by decide))
            exact tail _ _ _ (k_sub Wd [] rfl (by decide) [] rfl) (lv_sub hl [0, 3] rfl)
          · exact absurd c8220 c8401
          · exact absurd c8220 c8410
        · refine lv_aload_n C.1 C.2.1 dL_law_407 rfl (lv_at hl 1 rfl) ?_
          refine lv_aload_n C.1 C.2.1 dL_law_408 rfl (lv_at hl 3 rfl) ?_
          refine lv_iload_n C.1 C.2.1 dL_law_409 rfl (lv_at hl 0 rfl) ?_
          refine lv_iconst (v := 1) C.1 C.2.1 dL_law_410 (by decide) ?_
          refine k_iadd (v := 1) C (by decide) dL_law_411 ?_
          refine k_sld (v := y1) C hX hbl hbA Wd (vp_in_iff.mpr (by decide)) hy1 dL_law_412 ?_
          refine lv_aload_n C.1 C.2.1 dL_law_413 rfl (lv_at hl 3 rfl) ?_
          refine lv_iload_n C.1 C.2.1 dL_law_414 rfl (lv_at hl 0 rfl) ?_
          refine lv_iconst (v := 2) C.1 C.2.1 dL_law_415 (by decide) ?_
          refine k_iadd (v := 2) C (by decide) dL_law_416 ?_
          refine k_sld (v := y2) C hX hbl hbA Wd (vp_in_iff.mpr (by decide)) hy2 dL_law_417 ?_
          refine lv_aload_n C.1 C.2.1 dL_law_418 rfl (lv_at hl 3 rfl) ?_
          refine lv_iload_n C.1 C.2.1 dL_law_419 rfl (lv_at hl 0 rfl) ?_
          refine lv_iconst (v := 3) C.1 C.2.1 dL_law_420 (by decide) ?_
          refine k_iadd (v := 3) C (by decide) dL_law_421 ?_
          refine k_sld (v := y3) C hX hbl hbA Wd (vp_in_iff.mpr (by decide)) hy3 dL_law_422 ?_
          refine k_ci Wd [0, 1, 2, 3, 4] [] rfl (wr := []) rfl (by decide) (by decide) (cells' := 271) (slots' := 91330) (by decide) (by decide) (k_runV (rest := [.int (-1)]) C aks Wd cs_L_55 (kcX12_judge l D q6104 q6106 q6107 q6108 q6109 q6110 q6111 q6112 q6113 q6114 q6115 q6116 q6117 q6118 q6119 q6120 q6121 q6122 q6123 q6124 q6125 q6126 q6127 q6128 q6129 q6130 y1 y2 y3 e6132 e6140 e6142 e6143 _ ) [0, 1, 2, 3, 4] rfl (by decide) [5, 6, 7, 8] rfl 0 12 rfl rfl rfl rfl rfl ⟨(Nat.le_of_ble_eq_true rfl), (Nat.le_of_ble_eq_true rfl)⟩ hl.1 rfl rfl (Nat.le_of_ble_eq_true rfl) ⟨(Nat.le_of_ble_eq_true rfl), (Nat.le_of_ble_eq_true rfl)⟩ dL_law_423) (fun r _ H locs w8413 Wd => ?_)
          have Wd : wX D [(e5970, .object RX8), (e6062, .int), (e6063, .int), (e6081, .int), (e6082, .int), (e6132, .int), (e6140, .int), (e6142, .int), (e6143, .int)] s [] _ A s.heap _ := Wd
          rcases w8413 with ⟨c8414, rfl⟩ | ⟨c8415, c8416, rfl⟩ | ⟨c8417, c8418, c8419, rfl⟩ | ⟨c8420, c8421, c8422, c8423, rfl⟩ | ⟨c8424, c8425, c8426, c8427, c8428, rfl⟩ | ⟨c8429, c8430, c8431, c8432, c8433, c8434, rfl⟩ | ⟨c8435, c8436, c8437, c8438, c8439, c8440, c8441, rfl⟩ | ⟨c8442, c8443, c8444, c8445, c8446, c8447, c8448, c8449, rfl⟩ | ⟨c8450, c8451, c8452, c8453, c8454, c8455, c8456, c8457, c8458, rfl⟩ | ⟨c8459, c8460, c8461, c8462, c8463, c8464, c8465, c8466, c8467, rfl⟩
          · exact absurd c8414 c7892
          · exact False.elim (by have z0 := kz_nlt c7892; have z1 := kz_lt c8129; have z2 := kz_nlt c8221; have z3 := kz_nle c8222; have z4 := kz_nlt c8415; have z5 := kz_lt c8416; have t0 : (0 : Int32).toInt = 0 := (by decide); have t6 : (6 : Int32).toInt = 6 := (by decide); have t5 : (5 : Int32).toInt = 5 := (by decide); omega)
          · exact absurd c8419 c8130
          · exact False.elim (by have z0 := kz_nlt c8130; have z1 := kz_lt c8194; have z2 := kz_nlt c8223; have z3 := kz_nle c8224; have z4 := kz_nlt c8422; have z5 := kz_lt c8423; have t0 : (0 : Int32).toInt = 0 := (by decide); have t6 : (6 : Int32).toInt = 6 := (by decide); have t5 : (5 : Int32).toInt = 5 := (by decide); omega)
          · exact absurd c8428 c8225
          · exact False.elim (by have z0 := kz_nlt c8225; have z1 := kz_le c8226; have z2 := kz_ne c8227; have z3 := kz_ne c8228; have z4 := kz_eq c8229; have z5 := kz_nlt c8433; have z6 := kz_lt c8434; have t0 : (0 : Int32).toInt = 0 := (by decide); have t3 : (3 : Int32).toInt = 3 := (by decide); have t1 : (1 : Int32).toInt = 1 := (by decide); have t2 : (2 : Int32).toInt = 2 := (by decide); omega)
          · exact absurd c8441 c8227
          · exact absurd c8449 c8228
          · refine lv_icmp_eq (tgt := 801) C.1 C.2.1 dL_law_426 (by decide) (fun _ => ?_) (fun c8468 => absurd c8468 (by decide))
            exact tail _ _ _ (k_sub Wd [] rfl (by decide) [] rfl) (lv_sub hl [0, 3] rfl)
          · exact absurd c8229 c8467
        · refine lv_aload_n C.1 C.2.1 dL_law_407 rfl (lv_at hl 1 rfl) ?_
          refine lv_aload_n C.1 C.2.1 dL_law_408 rfl (lv_at hl 3 rfl) ?_
          refine lv_iload_n C.1 C.2.1 dL_law_409 rfl (lv_at hl 0 rfl) ?_
          refine lv_iconst (v := 1) C.1 C.2.1 dL_law_410 (by decide) ?_
          refine k_iadd (v := 1) C (by decide) dL_law_411 ?_
          refine k_sld (v := y1) C hX hbl hbA Wd (vp_in_iff.mpr (by decide)) hy1 dL_law_412 ?_
          refine lv_aload_n C.1 C.2.1 dL_law_413 rfl (lv_at hl 3 rfl) ?_
          refine lv_iload_n C.1 C.2.1 dL_law_414 rfl (lv_at hl 0 rfl) ?_
          refine lv_iconst (v := 2) C.1 C.2.1 dL_law_415 (by decide) ?_
          refine k_iadd (v := 2) C (by decide) dL_law_416 ?_
          refine k_sld (v := y2) C hX hbl hbA Wd (vp_in_iff.mpr (by decide)) hy2 dL_law_417 ?_
          refine lv_aload_n C.1 C.2.1 dL_law_418 rfl (lv_at hl 3 rfl) ?_
          refine lv_iload_n C.1 C.2.1 dL_law_419 rfl (lv_at hl 0 rfl) ?_
          refine lv_iconst (v := 3) C.1 C.2.1 dL_law_420 (by decide) ?_
          refine k_iadd (v := 3) C (by decide) dL_law_421 ?_
          refine k_sld (v := y3) C hX hbl hbA Wd (vp_in_iff.mpr (by decide)) hy3 dL_law_422 ?_
          refine k_ci Wd [0, 1, 2, 3, 4] [] rfl (wr := []) rfl (by decide) (by decide) (cells' := 271) (slots' := 91330) (by decide) (by decide) (k_runV (rest := [.int 0]) C aks Wd cs_L_55 (kcX12_judge l D q6104 q6106 q6107 q6108 q6109 q6110 q6111 q6112 q6113 q6114 q6115 q6116 q6117 q6118 q6119 q6120 q6121 q6122 q6123 q6124 q6125 q6126 q6127 q6128 q6129 q6130 y1 y2 y3 e6132 e6140 e6142 e6143 _ ) [0, 1, 2, 3, 4] rfl (by decide) [5, 6, 7, 8] rfl 0 12 rfl rfl rfl rfl rfl ⟨(Nat.le_of_ble_eq_true rfl), (Nat.le_of_ble_eq_true rfl)⟩ hl.1 rfl rfl (Nat.le_of_ble_eq_true rfl) ⟨(Nat.le_of_ble_eq_true rfl), (Nat.le_of_ble_eq_true rfl)⟩ dL_law_423) (fun r _ H locs w8469 Wd => ?_)
          have Wd : wX D [(e5970, .object RX8), (e6062, .int), (e6063, .int), (e6081, .int), (e6082, .int), (e6132, .int), (e6140, .int), (e6142, .int), (e6143, .int)] s [] _ A s.heap _ := Wd
          rcases w8469 with ⟨c8470, rfl⟩ | ⟨c8471, c8472, rfl⟩ | ⟨c8473, c8474, c8475, rfl⟩ | ⟨c8476, c8477, c8478, c8479, rfl⟩ | ⟨c8480, c8481, c8482, c8483, c8484, rfl⟩ | ⟨c8485, c8486, c8487, c8488, c8489, c8490, rfl⟩ | ⟨c8491, c8492, c8493, c8494, c8495, c8496, c8497, rfl⟩ | ⟨c8498, c8499, c8500, c8501, c8502, c8503, c8504, c8505, rfl⟩ | ⟨c8506, c8507, c8508, c8509, c8510, c8511, c8512, c8513, c8514, rfl⟩ | ⟨c8515, c8516, c8517, c8518, c8519, c8520, c8521, c8522, c8523, rfl⟩
          · exact absurd c8470 c7892
          · exact False.elim (by have z0 := kz_nlt c7892; have z1 := kz_lt c8129; have z2 := kz_nlt c8230; have z3 := kz_nle c8231; have z4 := kz_nlt c8471; have z5 := kz_lt c8472; have t0 : (0 : Int32).toInt = 0 := (by decide); have t6 : (6 : Int32).toInt = 6 := (by decide); have t5 : (5 : Int32).toInt = 5 := (by decide); omega)
          · exact absurd c8475 c8130
          · exact False.elim (by have z0 := kz_nlt c8130; have z1 := kz_lt c8194; have z2 := kz_nlt c8232; have z3 := kz_nle c8233; have z4 := kz_nlt c8478; have z5 := kz_lt c8479; have t0 : (0 : Int32).toInt = 0 := (by decide); have t6 : (6 : Int32).toInt = 6 := (by decide); have t5 : (5 : Int32).toInt = 5 := (by decide); omega)
          · exact absurd c8484 c8234
          · exact False.elim (by have z0 := kz_nlt c8234; have z1 := kz_le c8235; have z2 := kz_ne c8236; have z3 := kz_ne c8237; have z4 := kz_ne c8238; have z5 := kz_nlt c8489; have z6 := kz_lt c8490; have t0 : (0 : Int32).toInt = 0 := (by decide); have t3 : (3 : Int32).toInt = 3 := (by decide); have t1 : (1 : Int32).toInt = 1 := (by decide); have t2 : (2 : Int32).toInt = 2 := (by decide); omega)
          · exact absurd c8497 c8236
          · exact absurd c8505 c8237
          · exact absurd c8514 c8238
          · refine lv_icmp_eq (tgt := 801) C.1 C.2.1 dL_law_426 (by decide) (fun _ => ?_) (fun c8524 => absurd c8524 (by decide))
            exact tail _ _ _ (k_sub Wd [] rfl (by decide) [] rfl) (lv_sub hl [0, 3] rfl)
        · refine lv_aload_n C.1 C.2.1 dL_law_407 rfl (lv_at hl 1 rfl) ?_
          refine lv_aload_n C.1 C.2.1 dL_law_408 rfl (lv_at hl 3 rfl) ?_
          refine lv_iload_n C.1 C.2.1 dL_law_409 rfl (lv_at hl 0 rfl) ?_
          refine lv_iconst (v := 1) C.1 C.2.1 dL_law_410 (by decide) ?_
          refine k_iadd (v := 1) C (by decide) dL_law_411 ?_
          refine k_sld (v := y1) C hX hbl hbA Wd (vp_in_iff.mpr (by decide)) hy1 dL_law_412 ?_
          refine lv_aload_n C.1 C.2.1 dL_law_413 rfl (lv_at hl 3 rfl) ?_
          refine lv_iload_n C.1 C.2.1 dL_law_414 rfl (lv_at hl 0 rfl) ?_
          refine lv_iconst (v := 2) C.1 C.2.1 dL_law_415 (by decide) ?_
          refine k_iadd (v := 2) C (by decide) dL_law_416 ?_
          refine k_sld (v := y2) C hX hbl hbA Wd (vp_in_iff.mpr (by decide)) hy2 dL_law_417 ?_
          refine lv_aload_n C.1 C.2.1 dL_law_418 rfl (lv_at hl 3 rfl) ?_
          refine lv_iload_n C.1 C.2.1 dL_law_419 rfl (lv_at hl 0 rfl) ?_
          refine lv_iconst (v := 3) C.1 C.2.1 dL_law_420 (by decide) ?_
          refine k_iadd (v := 3) C (by decide) dL_law_421 ?_
          refine k_sld (v := y3) C hX hbl hbA Wd (vp_in_iff.mpr (by decide)) hy3 dL_law_422 ?_
          refine k_ci Wd [0, 1, 2, 3, 4] [] rfl (wr := []) rfl (by decide) (by decide) (cells' := 271) (slots' := 91330) (by decide) (by decide) (k_runV (rest := [.int (-1)]) C aks Wd cs_L_55 (kcX12_judge l D q6104 q6106 q6107 q6108 q6109 q6110 q6111 q6112 q6113 q6114 q6115 q6116 q6117 q6118 q6119 q6120 q6121 q6122 q6123 q6124 q6125 q6126 q6127 q6128 q6129 q6130 y1 y2 y3 e6132 e6140 e6142 e6143 _ ) [0, 1, 2, 3, 4] rfl (by decide) [5, 6, 7, 8] rfl 0 12 rfl rfl rfl rfl rfl ⟨(Nat.le_of_ble_eq_true rfl), (Nat.le_of_ble_eq_true rfl)⟩ hl.1 rfl rfl (Nat.le_of_ble_eq_true rfl) ⟨(Nat.le_of_ble_eq_true rfl), (Nat.le_of_ble_eq_true rfl)⟩ dL_law_423) (fun r _ H locs w8525 Wd => ?_)
          have Wd : wX D [(e5970, .object RX8), (e6062, .int), (e6063, .int), (e6081, .int), (e6082, .int), (e6132, .int), (e6140, .int), (e6142, .int), (e6143, .int)] s [] _ A s.heap _ := Wd
          rcases w8525 with ⟨c8526, rfl⟩ | ⟨c8527, c8528, rfl⟩ | ⟨c8529, c8530, c8531, rfl⟩ | ⟨c8532, c8533, c8534, c8535, rfl⟩ | ⟨c8536, c8537, c8538, c8539, c8540, rfl⟩ | ⟨c8541, c8542, c8543, c8544, c8545, c8546, rfl⟩ | ⟨c8547, c8548, c8549, c8550, c8551, c8552, c8553, rfl⟩ | ⟨c8554, c8555, c8556, c8557, c8558, c8559, c8560, c8561, rfl⟩ | ⟨c8562, c8563, c8564, c8565, c8566, c8567, c8568, c8569, c8570, rfl⟩ | ⟨c8571, c8572, c8573, c8574, c8575, c8576, c8577, c8578, c8579, rfl⟩
          · exact absurd c8526 c7892
          · exact False.elim (by have z0 := kz_nlt c7892; have z1 := kz_lt c8129; have z2 := kz_nlt c8239; have z3 := kz_nle c8240; have z4 := kz_nlt c8527; have z5 := kz_lt c8528; have t0 : (0 : Int32).toInt = 0 := (by decide); have t6 : (6 : Int32).toInt = 6 := (by decide); have t5 : (5 : Int32).toInt = 5 := (by decide); omega)
          · exact absurd c8531 c8130
          · exact False.elim (by have z0 := kz_nlt c8130; have z1 := kz_lt c8194; have z2 := kz_nlt c8241; have z3 := kz_nle c8242; have z4 := kz_nlt c8534; have z5 := kz_lt c8535; have t0 : (0 : Int32).toInt = 0 := (by decide); have t6 : (6 : Int32).toInt = 6 := (by decide); have t5 : (5 : Int32).toInt = 5 := (by decide); omega)
          · exact absurd c8540 c8243
          · refine lv_icmp_eq (tgt := 801) C.1 C.2.1 dL_law_426 (by decide) (fun _ => ?_) (fun c8580 => absurd c8580 (by decide))
            exact tail _ _ _ (k_sub Wd [] rfl (by decide) [] rfl) (lv_sub hl [0, 3] rfl)
          · exact False.elim (by have z0 := kz_nlt c8243; have z1 := kz_nle c8244; have z2 := kz_nlt c8551; have z3 := kz_nlt c8552; have t0 : (0 : Int32).toInt = 0 := (by decide); have t3 : (3 : Int32).toInt = 3 := (by decide); omega)
          · exact False.elim (by have z0 := kz_nlt c8243; have z1 := kz_nle c8244; have z2 := kz_nlt c8558; have z3 := kz_nlt c8559; have t0 : (0 : Int32).toInt = 0 := (by decide); have t3 : (3 : Int32).toInt = 3 := (by decide); omega)
          · exact False.elim (by have z0 := kz_nlt c8243; have z1 := kz_nle c8244; have z2 := kz_nlt c8566; have z3 := kz_nlt c8567; have t0 : (0 : Int32).toInt = 0 := (by decide); have t3 : (3 : Int32).toInt = 3 := (by decide); omega)
          · exact False.elim (by have z0 := kz_nlt c8243; have z1 := kz_nle c8244; have z2 := kz_nlt c8575; have z3 := kz_nlt c8576; have t0 : (0 : Int32).toInt = 0 := (by decide); have t3 : (3 : Int32).toInt = 3 := (by decide); omega)
      have hsel : ∃ (q8581 q8582 q8583 q8584 : Nat), (va_up (va_up (va_up (va_up (va_up (va_up (fun _ => none) 0 (some q5971)) 1 (some q5972)) 2 (some q5973)) 3 (some q5974)) 4 (some q5975)) 5 (some q5976)) y1.toNatClampNeg = some q8581 ∧ (va_up (va_up (va_up (va_up (va_up (va_up (fun _ => none) 0 (some q5971)) 1 (some q5972)) 2 (some q5973)) 3 (some q5974)) 4 (some q5975)) 5 (some q5976)) y2.toNatClampNeg = some q8583 ∧ wX D [(e5970, .object RX8), (e6062, .int), (e6063, .int), (e6081, .int), (e6082, .int), (e6132, .int), (e6140, .int), (e6142, .int), (e6143, .int)] s [(q5961, .inr (11, [.ref q5963, .int 0, .ref q5964, .ref q5965, .ref q5966, .ref q5967, .ref q5968, .ref q5969])), (q5963, .inl (e5970, 6, .inr (.inr (.inr (.inr (va_up (va_up (va_up (va_up (va_up (va_up (fun _ => none) 0 (some q5971)) 1 (some q5972)) 2 (some q5973)) 3 (some q5974)) 4 (some q5975)) 5 (some q5976))))))), (q5968, .inr (4, [.ref q6010, .ref q6011, .ref q6012, .int (-1), .int (-1), .ref q6013, .ref q6014, .ref q6015, .ref q6016, .ref q6017])), (q6010, .inr (2, [.int (-1), .int (-1), .int 0, .int 0, .ref q6043, .ref q6044])), (q6043, .inr (3, [.ref q6045, .ref q6046, .int 0, .int 0, .int 0, .ref q6047, .ref q6048])), (q6045, .inr (1, [.ref q6049, .int 0, .ref q6050, .ref q6051, .ref q6052, .ref q6053, .ref q6054, .ref q6055, .ref q6056, .ref q6057, .ref q6058, .ref q6059, .ref q6060, .ref q6061])), (q6061, .inl (e6062, 480, .inl (fun _ => 0))), (q6047, .inl (e6063, 6, .inl (fun _ => 0))), (q6044, .inr (3, [.ref q6064, .ref q6065, .int 0, .int 0, .int 0, .ref q6066, .ref q6067])), (q6064, .inr (1, [.ref q6068, .int 0, .ref q6069, .ref q6070, .ref q6071, .ref q6072, .ref q6073, .ref q6074, .ref q6075, .ref q6076, .ref q6077, .ref q6078, .ref q6079, .ref q6080])), (q6080, .inl (e6081, 480, .inl (fun _ => 0))), (q6066, .inl (e6082, 6, .inl (fun _ => 0))), (q6104, .inr (12, [.ref q6106, .ref q6107, .ref q6108, .ref q6109, .int 0, .int 0, .ref q6110, .int 0, .int 0, .int 0, .int 0, .int 0, .int 0, .int 0, .int 0, .int 0, .int 0, .int 0, .int 0, .int 0, .int (-1), .int 0, .int 0, .int 0, .ref q6111, .ref q6112, .ref q6113, .ref q6114, .ref q6115, .ref q6116, .int 0, .int 0, .int 0, .int 0, .ref q6117, .ref q6118, .ref q6119, .int 0, .int 0, .int 0, .int 0, .ref q6120, .ref q6121, .int 0, .ref q6122, .ref q6123, .int 0, .ref q6124, .int 0, .ref q6125, .ref q6126, .ref q6127, .int 0, .ref q6128, .ref q6129, .ref q6130])), (q6107, .inl (e6132, 6, .inl (fun _ => 0))), (q6115, .inl (e6140, 6, .inl (fun _ => 0))), (q6117, .inl (e6142, 256, .inl (fun _ => 0))), (q6118, .inl (e6143, 256, .inl (fun _ => 0))), (q8581, .inr (8, [.ref q8582, .int 0])), (q8583, .inr (8, [.ref q8584, .int 0]))] H A s.heap locs := by
        rcases kf6 c7892 c8129 with rfl | rfl | rfl | rfl | rfl | rfl
        · rcases kf6 c8130 c8194 with rfl | rfl | rfl | rfl | rfl | rfl
          · exact absurd rfl c8195
          · exact ⟨q5971, q5977, q5972, q5978, rfl, rfl, k_sub Wd [0, 1, 8, 9, 10, 11, 12, 13, 14, 15, 16, 17, 18, 19, 20, 21, 22, 2, 3] rfl (by decide) [0, 1, 2, 3, 4, 5, 6, 7, 8] rfl⟩
          · exact ⟨q5971, q5977, q5973, q5979, rfl, rfl, k_sub Wd [0, 1, 8, 9, 10, 11, 12, 13, 14, 15, 16, 17, 18, 19, 20, 21, 22, 2, 4] rfl (by decide) [0, 1, 2, 3, 4, 5, 6, 7, 8] rfl⟩
          · exact ⟨q5971, q5977, q5974, q5980, rfl, rfl, k_sub Wd [0, 1, 8, 9, 10, 11, 12, 13, 14, 15, 16, 17, 18, 19, 20, 21, 22, 2, 5] rfl (by decide) [0, 1, 2, 3, 4, 5, 6, 7, 8] rfl⟩
          · exact ⟨q5971, q5977, q5975, q5981, rfl, rfl, k_sub Wd [0, 1, 8, 9, 10, 11, 12, 13, 14, 15, 16, 17, 18, 19, 20, 21, 22, 2, 6] rfl (by decide) [0, 1, 2, 3, 4, 5, 6, 7, 8] rfl⟩
          · exact ⟨q5971, q5977, q5976, q5982, rfl, rfl, k_sub Wd [0, 1, 8, 9, 10, 11, 12, 13, 14, 15, 16, 17, 18, 19, 20, 21, 22, 2, 7] rfl (by decide) [0, 1, 2, 3, 4, 5, 6, 7, 8] rfl⟩
        · rcases kf6 c8130 c8194 with rfl | rfl | rfl | rfl | rfl | rfl
          · exact ⟨q5972, q5978, q5971, q5977, rfl, rfl, k_sub Wd [0, 1, 8, 9, 10, 11, 12, 13, 14, 15, 16, 17, 18, 19, 20, 21, 22, 3, 2] rfl (by decide) [0, 1, 2, 3, 4, 5, 6, 7, 8] rfl⟩
          · exact absurd rfl c8195
          · exact ⟨q5972, q5978, q5973, q5979, rfl, rfl, k_sub Wd [0, 1, 8, 9, 10, 11, 12, 13, 14, 15, 16, 17, 18, 19, 20, 21, 22, 3, 4] rfl (by decide) [0, 1, 2, 3, 4, 5, 6, 7, 8] rfl⟩
          · exact ⟨q5972, q5978, q5974, q5980, rfl, rfl, k_sub Wd [0, 1, 8, 9, 10, 11, 12, 13, 14, 15, 16, 17, 18, 19, 20, 21, 22, 3, 5] rfl (by decide) [0, 1, 2, 3, 4, 5, 6, 7, 8] rfl⟩
          · exact ⟨q5972, q5978, q5975, q5981, rfl, rfl, k_sub Wd [0, 1, 8, 9, 10, 11, 12, 13, 14, 15, 16, 17, 18, 19, 20, 21, 22, 3, 6] rfl (by decide) [0, 1, 2, 3, 4, 5, 6, 7, 8] rfl⟩
          · exact ⟨q5972, q5978, q5976, q5982, rfl, rfl, k_sub Wd [0, 1, 8, 9, 10, 11, 12, 13, 14, 15, 16, 17, 18, 19, 20, 21, 22, 3, 7] rfl (by decide) [0, 1, 2, 3, 4, 5, 6, 7, 8] rfl⟩
        · rcases kf6 c8130 c8194 with rfl | rfl | rfl | rfl | rfl | rfl
          · exact ⟨q5973, q5979, q5971, q5977, rfl, rfl, k_sub Wd [0, 1, 8, 9, 10, 11, 12, 13, 14, 15, 16, 17, 18, 19, 20, 21, 22, 4, 2] rfl (by decide) [0, 1, 2, 3, 4, 5, 6, 7, 8] rfl⟩
          · exact ⟨q5973, q5979, q5972, q5978, rfl, rfl, k_sub Wd [0, 1, 8, 9, 10, 11, 12, 13, 14, 15, 16, 17, 18, 19, 20, 21, 22, 4, 3] rfl (by decide) [0, 1, 2, 3, 4, 5, 6, 7, 8] rfl⟩
          · exact absurd rfl c8195
          · exact ⟨q5973, q5979, q5974, q5980, rfl, rfl, k_sub Wd [0, 1, 8, 9, 10, 11, 12, 13, 14, 15, 16, 17, 18, 19, 20, 21, 22, 4, 5] rfl (by decide) [0, 1, 2, 3, 4, 5, 6, 7, 8] rfl⟩
          · exact ⟨q5973, q5979, q5975, q5981, rfl, rfl, k_sub Wd [0, 1, 8, 9, 10, 11, 12, 13, 14, 15, 16, 17, 18, 19, 20, 21, 22, 4, 6] rfl (by decide) [0, 1, 2, 3, 4, 5, 6, 7, 8] rfl⟩
          · exact ⟨q5973, q5979, q5976, q5982, rfl, rfl, k_sub Wd [0, 1, 8, 9, 10, 11, 12, 13, 14, 15, 16, 17, 18, 19, 20, 21, 22, 4, 7] rfl (by decide) [0, 1, 2, 3, 4, 5, 6, 7, 8] rfl⟩
        · rcases kf6 c8130 c8194 with rfl | rfl | rfl | rfl | rfl | rfl
          · exact ⟨q5974, q5980, q5971, q5977, rfl, rfl, k_sub Wd [0, 1, 8, 9, 10, 11, 12, 13, 14, 15, 16, 17, 18, 19, 20, 21, 22, 5, 2] rfl (by decide) [0, 1, 2, 3, 4, 5, 6, 7, 8] rfl⟩
          · exact ⟨q5974, q5980, q5972, q5978, rfl, rfl, k_sub Wd [0, 1, 8, 9, 10, 11, 12, 13, 14, 15, 16, 17, 18, 19, 20, 21, 22, 5, 3] rfl (by decide) [0, 1, 2, 3, 4, 5, 6, 7, 8] rfl⟩
          · exact ⟨q5974, q5980, q5973, q5979, rfl, rfl, k_sub Wd [0, 1, 8, 9, 10, 11, 12, 13, 14, 15, 16, 17, 18, 19, 20, 21, 22, 5, 4] rfl (by decide) [0, 1, 2, 3, 4, 5, 6, 7, 8] rfl⟩
          · exact absurd rfl c8195
          · exact ⟨q5974, q5980, q5975, q5981, rfl, rfl, k_sub Wd [0, 1, 8, 9, 10, 11, 12, 13, 14, 15, 16, 17, 18, 19, 20, 21, 22, 5, 6] rfl (by decide) [0, 1, 2, 3, 4, 5, 6, 7, 8] rfl⟩
          · exact ⟨q5974, q5980, q5976, q5982, rfl, rfl, k_sub Wd [0, 1, 8, 9, 10, 11, 12, 13, 14, 15, 16, 17, 18, 19, 20, 21, 22, 5, 7] rfl (by decide) [0, 1, 2, 3, 4, 5, 6, 7, 8] rfl⟩
        · rcases kf6 c8130 c8194 with rfl | rfl | rfl | rfl | rfl | rfl
          · exact ⟨q5975, q5981, q5971, q5977, rfl, rfl, k_sub Wd [0, 1, 8, 9, 10, 11, 12, 13, 14, 15, 16, 17, 18, 19, 20, 21, 22, 6, 2] rfl (by decide) [0, 1, 2, 3, 4, 5, 6, 7, 8] rfl⟩
          · exact ⟨q5975, q5981, q5972, q5978, rfl, rfl, k_sub Wd [0, 1, 8, 9, 10, 11, 12, 13, 14, 15, 16, 17, 18, 19, 20, 21, 22, 6, 3] rfl (by decide) [0, 1, 2, 3, 4, 5, 6, 7, 8] rfl⟩
          · exact ⟨q5975, q5981, q5973, q5979, rfl, rfl, k_sub Wd [0, 1, 8, 9, 10, 11, 12, 13, 14, 15, 16, 17, 18, 19, 20, 21, 22, 6, 4] rfl (by decide) [0, 1, 2, 3, 4, 5, 6, 7, 8] rfl⟩
          · exact ⟨q5975, q5981, q5974, q5980, rfl, rfl, k_sub Wd [0, 1, 8, 9, 10, 11, 12, 13, 14, 15, 16, 17, 18, 19, 20, 21, 22, 6, 5] rfl (by decide) [0, 1, 2, 3, 4, 5, 6, 7, 8] rfl⟩
          · exact absurd rfl c8195
          · exact ⟨q5975, q5981, q5976, q5982, rfl, rfl, k_sub Wd [0, 1, 8, 9, 10, 11, 12, 13, 14, 15, 16, 17, 18, 19, 20, 21, 22, 6, 7] rfl (by decide) [0, 1, 2, 3, 4, 5, 6, 7, 8] rfl⟩
        · rcases kf6 c8130 c8194 with rfl | rfl | rfl | rfl | rfl | rfl
          · exact ⟨q5976, q5982, q5971, q5977, rfl, rfl, k_sub Wd [0, 1, 8, 9, 10, 11, 12, 13, 14, 15, 16, 17, 18, 19, 20, 21, 22, 7, 2] rfl (by decide) [0, 1, 2, 3, 4, 5, 6, 7, 8] rfl⟩
          · exact ⟨q5976, q5982, q5972, q5978, rfl, rfl, k_sub Wd [0, 1, 8, 9, 10, 11, 12, 13, 14, 15, 16, 17, 18, 19, 20, 21, 22, 7, 3] rfl (by decide) [0, 1, 2, 3, 4, 5, 6, 7, 8] rfl⟩
          · exact ⟨q5976, q5982, q5973, q5979, rfl, rfl, k_sub Wd [0, 1, 8, 9, 10, 11, 12, 13, 14, 15, 16, 17, 18, 19, 20, 21, 22, 7, 4] rfl (by decide) [0, 1, 2, 3, 4, 5, 6, 7, 8] rfl⟩
          · exact ⟨q5976, q5982, q5974, q5980, rfl, rfl, k_sub Wd [0, 1, 8, 9, 10, 11, 12, 13, 14, 15, 16, 17, 18, 19, 20, 21, 22, 7, 5] rfl (by decide) [0, 1, 2, 3, 4, 5, 6, 7, 8] rfl⟩
          · exact ⟨q5976, q5982, q5975, q5981, rfl, rfl, k_sub Wd [0, 1, 8, 9, 10, 11, 12, 13, 14, 15, 16, 17, 18, 19, 20, 21, 22, 7, 6] rfl (by decide) [0, 1, 2, 3, 4, 5, 6, 7, 8] rfl⟩
          · exact absurd rfl c8195
      obtain ⟨q8581, q8582, q8583, q8584, hk8585, hk8586, Wd⟩ := hsel
      refine lv_aload_n C.1 C.2.1 dL_law_388 rfl (lv_at hl 2 rfl) ?_
      refine lv_aload_n C.1 C.2.1 dL_law_389 rfl (lv_at hl 3 rfl) ?_
      refine lv_iload_n C.1 C.2.1 dL_law_390 rfl (lv_at hl 0 rfl) ?_
      refine lv_iconst (v := 1) C.1 C.2.1 dL_law_391 (by decide) ?_
      refine k_iadd (v := 1) C (by decide) dL_law_392 ?_
      refine k_sld (v := y1) C hX hbl hbA Wd (vp_in_iff.mpr (by decide)) hy1 dL_law_393 ?_
      refine lv_aload_n C.1 C.2.1 dL_law_394 rfl (lv_at hl 3 rfl) ?_
      refine lv_iload_n C.1 C.2.1 dL_law_395 rfl (lv_at hl 0 rfl) ?_
      refine lv_iconst (v := 2) C.1 C.2.1 dL_law_396 (by decide) ?_
      refine k_iadd (v := 2) C (by decide) dL_law_397 ?_
      refine k_sld (v := y2) C hX hbl hbA Wd (vp_in_iff.mpr (by decide)) hy2 dL_law_398 ?_
      refine lv_aload_n C.1 C.2.1 dL_law_399 rfl (lv_at hl 3 rfl) ?_
      refine lv_iload_n C.1 C.2.1 dL_law_400 rfl (lv_at hl 0 rfl) ?_
      refine lv_iconst (v := 3) C.1 C.2.1 dL_law_401 (by decide) ?_
      refine k_iadd (v := 3) C (by decide) dL_law_402 ?_
      refine k_sld (v := y3) C hX hbl hbA Wd (vp_in_iff.mpr (by decide)) hy3 dL_law_403 ?_
      refine k_ci Wd [0, 1, 2, 3, 4, 5, 17, 6, 8, 9, 18, 10, 7, 11] [12, 13, 14, 15, 16] rfl (wr := [(q6104, .inr (12, [.ref q6106, .ref q6107, .ref q6108, .ref q6109, .int 0, .int 0, .ref q6110, .int 0, .int 0, .int 0, .int 0, .int 0, .int 0, .int 0, .int 0, .int 0, .int 0, .int 0, .int 0, .int 0, .int (-1), .int 0, .int 0, .int 0, .ref q6111, .ref q6112, .ref q6113, .ref q6114, .ref q6115, .ref q6116, .int 0, .int 0, .int 0, .int 0, .ref q6117, .ref q6118, .ref q6119, .int 0, .int 0, .int 0, .int 0, .ref q6120, .ref q6121, .int 0, .ref q6122, .ref q6123, .int 0, .ref q6124, .int 0, .ref q6125, .ref q6126, .ref q6127, .int 0, .ref q6128, .ref q6129, .ref q6130])), (q6107, .inl (e6132, 6, .inl (fun _ => 0))), (q6115, .inl (e6140, 6, .inl (fun _ => 0))), (q6117, .inl (e6142, 256, .inl (fun _ => 0))), (q6118, .inl (e6143, 256, .inl (fun _ => 0)))]) rfl (by decide) (by decide) (cells' := 271) (slots' := 91330) (by decide) (by decide) (k_runV (rest := []) C aks Wd cs_L_51 (kcX11_judge_v4 l D q5961 q5963 q5964 q5965 q5966 q5967 q5968 q5969 q8581 q8583 q6010 q6011 q6012 q6013 q6014 q6015 q6016 q6017 q8582 q8584 q6043 q6044 q6045 q6046 q6047 q6048 q6064 q6065 q6066 q6067 q6049 q6050 q6051 q6052 q6053 q6054 q6055 q6056 q6057 q6058 q6059 q6060 q6061 q6068 q6069 q6070 q6071 q6072 q6073 q6074 q6075 q6076 q6077 q6078 q6079 q6080 y1 y2 y3 (va_up (va_up (va_up (va_up (va_up (va_up (fun _ => none) 0 (some q5971)) 1 (some q5972)) 2 (some q5973)) 3 (some q5974)) 4 (some q5975)) 5 (some q5976)) e5970 e6063 e6082 e6062 e6081 _ hk8585 hk8586 c7892 c8129 c8130 c8194) [0, 1, 2, 3, 4, 5, 17, 6, 8, 9, 18, 10, 7, 11] rfl (by decide) [0, 2, 4, 1, 3] rfl 0 11 rfl rfl rfl rfl rfl ⟨(Nat.le_of_ble_eq_true rfl), (Nat.le_of_ble_eq_true rfl)⟩ hl.1 rfl rfl (Nat.le_of_ble_eq_true rfl) ⟨(Nat.le_of_ble_eq_true rfl), (Nat.le_of_ble_eq_true rfl)⟩ dL_law_404) (fun r _ H locs w8587 Wd => ?_)
      have Wd : wX D [(e5970, .object RX8), (e6062, .int), (e6063, .int), (e6081, .int), (e6082, .int), (e6132, .int), (e6140, .int), (e6142, .int), (e6143, .int)] s [(q6104, .inr (12, [.ref q6106, .ref q6107, .ref q6108, .ref q6109, .int 0, .int 0, .ref q6110, .int 0, .int 0, .int 0, .int 0, .int 0, .int 0, .int 0, .int 0, .int 0, .int 0, .int 0, .int 0, .int 0, .int (-1), .int 0, .int 0, .int 0, .ref q6111, .ref q6112, .ref q6113, .ref q6114, .ref q6115, .ref q6116, .int 0, .int 0, .int 0, .int 0, .ref q6117, .ref q6118, .ref q6119, .int 0, .int 0, .int 0, .int 0, .ref q6120, .ref q6121, .int 0, .ref q6122, .ref q6123, .int 0, .ref q6124, .int 0, .ref q6125, .ref q6126, .ref q6127, .int 0, .ref q6128, .ref q6129, .ref q6130])), (q6107, .inl (e6132, 6, .inl (fun _ => 0))), (q6115, .inl (e6140, 6, .inl (fun _ => 0))), (q6117, .inl (e6142, 256, .inl (fun _ => 0))), (q6118, .inl (e6143, 256, .inl (fun _ => 0)))] _ A s.heap _ := Wd
      rcases w8587 with ⟨c8588, c8589, c8590, c8591, c8592, rfl⟩ | ⟨c8593, c8594, c8595, c8596, c8597, c8598, c8599, rfl⟩ | ⟨c8600, c8601, c8602, c8603, c8604, c8605, c8606, c8607, rfl⟩ | ⟨c8608, c8609, c8610, c8611, c8612, c8613, c8614, c8615, c8616, rfl⟩ | ⟨c8617, c8618, c8619, c8620, c8621, c8622, c8623, c8624, c8625, rfl⟩ | ⟨c8626, c8627, c8628, c8629, c8630, c8631, rfl⟩
      · refine lv_aload_n C.1 C.2.1 dL_law_407 rfl (lv_at hl 1 rfl) ?_
        refine lv_aload_n C.1 C.2.1 dL_law_408 rfl (lv_at hl 3 rfl) ?_
        refine lv_iload_n C.1 C.2.1 dL_law_409 rfl (lv_at hl 0 rfl) ?_
        refine lv_iconst (v := 1) C.1 C.2.1 dL_law_410 (by decide) ?_
        refine k_iadd (v := 1) C (by decide) dL_law_411 ?_
        refine k_sld (v := y1) C hX hbl hbA Wd (vp_in_iff.mpr (by decide)) hy1 dL_law_412 ?_
        refine lv_aload_n C.1 C.2.1 dL_law_413 rfl (lv_at hl 3 rfl) ?_
        refine lv_iload_n C.1 C.2.1 dL_law_414 rfl (lv_at hl 0 rfl) ?_
        refine lv_iconst (v := 2) C.1 C.2.1 dL_law_415 (by decide) ?_
        refine k_iadd (v := 2) C (by decide) dL_law_416 ?_
        refine k_sld (v := y2) C hX hbl hbA Wd (vp_in_iff.mpr (by decide)) hy2 dL_law_417 ?_
        refine lv_aload_n C.1 C.2.1 dL_law_418 rfl (lv_at hl 3 rfl) ?_
        refine lv_iload_n C.1 C.2.1 dL_law_419 rfl (lv_at hl 0 rfl) ?_
        refine lv_iconst (v := 3) C.1 C.2.1 dL_law_420 (by decide) ?_
        refine k_iadd (v := 3) C (by decide) dL_law_421 ?_
        refine k_sld (v := y3) C hX hbl hbA Wd (vp_in_iff.mpr (by decide)) hy3 dL_law_422 ?_
        refine k_ci Wd [0, 1, 2, 3, 4] [] rfl (wr := []) rfl (by decide) (by decide) (cells' := 271) (slots' := 91330) (by decide) (by decide) (k_runV (rest := [.int (-1)]) C aks Wd cs_L_55 (kcX12_judge l D q6104 q6106 q6107 q6108 q6109 q6110 q6111 q6112 q6113 q6114 q6115 q6116 q6117 q6118 q6119 q6120 q6121 q6122 q6123 q6124 q6125 q6126 q6127 q6128 q6129 q6130 y1 y2 y3 e6132 e6140 e6142 e6143 _ ) [0, 1, 2, 3, 4] rfl (by decide) [5, 6, 7, 8] rfl 0 12 rfl rfl rfl rfl rfl ⟨(Nat.le_of_ble_eq_true rfl), (Nat.le_of_ble_eq_true rfl)⟩ hl.1 rfl rfl (Nat.le_of_ble_eq_true rfl) ⟨(Nat.le_of_ble_eq_true rfl), (Nat.le_of_ble_eq_true rfl)⟩ dL_law_423) (fun r _ H locs w8632 Wd => ?_)
        have Wd : wX D [(e5970, .object RX8), (e6062, .int), (e6063, .int), (e6081, .int), (e6082, .int), (e6132, .int), (e6140, .int), (e6142, .int), (e6143, .int)] s [] _ A s.heap _ := Wd
        rcases w8632 with ⟨c8633, rfl⟩ | ⟨c8634, c8635, rfl⟩ | ⟨c8636, c8637, c8638, rfl⟩ | ⟨c8639, c8640, c8641, c8642, rfl⟩ | ⟨c8643, c8644, c8645, c8646, c8647, rfl⟩ | ⟨c8648, c8649, c8650, c8651, c8652, c8653, rfl⟩ | ⟨c8654, c8655, c8656, c8657, c8658, c8659, c8660, rfl⟩ | ⟨c8661, c8662, c8663, c8664, c8665, c8666, c8667, c8668, rfl⟩ | ⟨c8669, c8670, c8671, c8672, c8673, c8674, c8675, c8676, c8677, rfl⟩ | ⟨c8678, c8679, c8680, c8681, c8682, c8683, c8684, c8685, c8686, rfl⟩
        · exact absurd c8633 c7892
        · exact False.elim (by have z0 := kz_nlt c7892; have z1 := kz_lt c8129; have z2 := kz_nlt c8588; have z3 := kz_nle c8589; have z4 := kz_nlt c8634; have z5 := kz_lt c8635; have t0 : (0 : Int32).toInt = 0 := (by decide); have t6 : (6 : Int32).toInt = 6 := (by decide); have t5 : (5 : Int32).toInt = 5 := (by decide); omega)
        · exact absurd c8638 c8130
        · exact False.elim (by have z0 := kz_nlt c8130; have z1 := kz_lt c8194; have z2 := kz_nlt c8590; have z3 := kz_nle c8591; have z4 := kz_nlt c8641; have z5 := kz_lt c8642; have t0 : (0 : Int32).toInt = 0 := (by decide); have t6 : (6 : Int32).toInt = 6 := (by decide); have t5 : (5 : Int32).toInt = 5 := (by decide); omega)
        · refine lv_icmp_eq (tgt := 801) C.1 C.2.1 dL_law_426 (by decide) (fun _ => ?_) (fun c8687 => absurd c8687 (by decide))
          exact tail _ _ _ (k_sub Wd [] rfl (by decide) [] rfl) (lv_sub hl [0, 3] rfl)
        · exact absurd c8592 c8652
        · exact absurd c8592 c8658
        · exact absurd c8592 c8665
        · exact absurd c8592 c8673
        · exact absurd c8592 c8682
      · refine lv_aload_n C.1 C.2.1 dL_law_407 rfl (lv_at hl 1 rfl) ?_
        refine lv_aload_n C.1 C.2.1 dL_law_408 rfl (lv_at hl 3 rfl) ?_
        refine lv_iload_n C.1 C.2.1 dL_law_409 rfl (lv_at hl 0 rfl) ?_
        refine lv_iconst (v := 1) C.1 C.2.1 dL_law_410 (by decide) ?_
        refine k_iadd (v := 1) C (by decide) dL_law_411 ?_
        refine k_sld (v := y1) C hX hbl hbA Wd (vp_in_iff.mpr (by decide)) hy1 dL_law_412 ?_
        refine lv_aload_n C.1 C.2.1 dL_law_413 rfl (lv_at hl 3 rfl) ?_
        refine lv_iload_n C.1 C.2.1 dL_law_414 rfl (lv_at hl 0 rfl) ?_
        refine lv_iconst (v := 2) C.1 C.2.1 dL_law_415 (by decide) ?_
        refine k_iadd (v := 2) C (by decide) dL_law_416 ?_
        refine k_sld (v := y2) C hX hbl hbA Wd (vp_in_iff.mpr (by decide)) hy2 dL_law_417 ?_
        refine lv_aload_n C.1 C.2.1 dL_law_418 rfl (lv_at hl 3 rfl) ?_
        refine lv_iload_n C.1 C.2.1 dL_law_419 rfl (lv_at hl 0 rfl) ?_
        refine lv_iconst (v := 3) C.1 C.2.1 dL_law_420 (by decide) ?_
        refine k_iadd (v := 3) C (by decide) dL_law_421 ?_
        refine k_sld (v := y3) C hX hbl hbA Wd (vp_in_iff.mpr (by decide)) hy3 dL_law_422 ?_
        refine k_ci Wd [0, 1, 2, 3, 4] [] rfl (wr := []) rfl (by decide) (by decide) (cells' := 271) (slots' := 91330) (by decide) (by decide) (k_runV (rest := [.int 0]) C aks Wd cs_L_55 (kcX12_judge l D q6104 q6106 q6107 q6108 q6109 q6110 q6111 q6112 q6113 q6114 q6115 q6116 q6117 q6118 q6119 q6120 q6121 q6122 q6123 q6124 q6125 q6126 q6127 q6128 q6129 q6130 y1 y2 y3 e6132 e6140 e6142 e6143 _ ) [0, 1, 2, 3, 4] rfl (by decide) [5, 6, 7, 8] rfl 0 12 rfl rfl rfl rfl rfl ⟨(Nat.le_of_ble_eq_true rfl), (Nat.le_of_ble_eq_true rfl)⟩ hl.1 rfl rfl (Nat.le_of_ble_eq_true rfl) ⟨(Nat.le_of_ble_eq_true rfl), (Nat.le_of_ble_eq_true rfl)⟩ dL_law_423) (fun r _ H locs w8688 Wd => ?_)
        have Wd : wX D [(e5970, .object RX8), (e6062, .int), (e6063, .int), (e6081, .int), (e6082, .int), (e6132, .int), (e6140, .int), (e6142, .int), (e6143, .int)] s [] _ A s.heap _ := Wd
        rcases w8688 with ⟨c8689, rfl⟩ | ⟨c8690, c8691, rfl⟩ | ⟨c8692, c8693, c8694, rfl⟩ | ⟨c8695, c8696, c8697, c8698, rfl⟩ | ⟨c8699, c8700, c8701, c8702, c8703, rfl⟩ | ⟨c8704, c8705, c8706, c8707, c8708, c8709, rfl⟩ | ⟨c8710, c8711, c8712, c8713, c8714, c8715, c8716, rfl⟩ | ⟨c8717, c8718, c8719, c8720, c8721, c8722, c8723, c8724, rfl⟩ | ⟨c8725, c8726, c8727, c8728, c8729, c8730, c8731, c8732, c8733, rfl⟩ | ⟨c8734, c8735, c8736, c8737, c8738, c8739, c8740, c8741, c8742, rfl⟩
        · exact absurd c8689 c7892
        · exact False.elim (by have z0 := kz_nlt c7892; have z1 := kz_lt c8129; have z2 := kz_nlt c8593; have z3 := kz_nle c8594; have z4 := kz_nlt c8690; have z5 := kz_lt c8691; have t0 : (0 : Int32).toInt = 0 := (by decide); have t6 : (6 : Int32).toInt = 6 := (by decide); have t5 : (5 : Int32).toInt = 5 := (by decide); omega)
        · exact absurd c8694 c8130
        · exact False.elim (by have z0 := kz_nlt c8130; have z1 := kz_lt c8194; have z2 := kz_nlt c8595; have z3 := kz_nle c8596; have z4 := kz_nlt c8697; have z5 := kz_lt c8698; have t0 : (0 : Int32).toInt = 0 := (by decide); have t6 : (6 : Int32).toInt = 6 := (by decide); have t5 : (5 : Int32).toInt = 5 := (by decide); omega)
        · exact absurd c8703 c8597
        · exact False.elim (by have z0 := kz_nlt c8597; have z1 := kz_le c8598; have z2 := kz_eq c8599; have z3 := kz_nlt c8708; have z4 := kz_lt c8709; have t0 : (0 : Int32).toInt = 0 := (by decide); have t3 : (3 : Int32).toInt = 3 := (by decide); omega)
        · refine lv_icmp_eq (tgt := 801) C.1 C.2.1 dL_law_426 (by decide) (fun _ => ?_) (fun c8743 => absurd c8743 (by decide))
          exact tail _ _ _ (k_sub Wd [] rfl (by decide) [] rfl) (lv_sub hl [0, 3] rfl)
        · exact absurd c8599 c8723
        · exact absurd c8599 c8731
        · exact absurd c8599 c8740
      · refine lv_aload_n C.1 C.2.1 dL_law_407 rfl (lv_at hl 1 rfl) ?_
        refine lv_aload_n C.1 C.2.1 dL_law_408 rfl (lv_at hl 3 rfl) ?_
        refine lv_iload_n C.1 C.2.1 dL_law_409 rfl (lv_at hl 0 rfl) ?_
        refine lv_iconst (v := 1) C.1 C.2.1 dL_law_410 (by decide) ?_
        refine k_iadd (v := 1) C (by decide) dL_law_411 ?_
        refine k_sld (v := y1) C hX hbl hbA Wd (vp_in_iff.mpr (by decide)) hy1 dL_law_412 ?_
        refine lv_aload_n C.1 C.2.1 dL_law_413 rfl (lv_at hl 3 rfl) ?_
        refine lv_iload_n C.1 C.2.1 dL_law_414 rfl (lv_at hl 0 rfl) ?_
        refine lv_iconst (v := 2) C.1 C.2.1 dL_law_415 (by decide) ?_
        refine k_iadd (v := 2) C (by decide) dL_law_416 ?_
        refine k_sld (v := y2) C hX hbl hbA Wd (vp_in_iff.mpr (by decide)) hy2 dL_law_417 ?_
        refine lv_aload_n C.1 C.2.1 dL_law_418 rfl (lv_at hl 3 rfl) ?_
        refine lv_iload_n C.1 C.2.1 dL_law_419 rfl (lv_at hl 0 rfl) ?_
        refine lv_iconst (v := 3) C.1 C.2.1 dL_law_420 (by decide) ?_
        refine k_iadd (v := 3) C (by decide) dL_law_421 ?_
        refine k_sld (v := y3) C hX hbl hbA Wd (vp_in_iff.mpr (by decide)) hy3 dL_law_422 ?_
        refine k_ci Wd [0, 1, 2, 3, 4] [] rfl (wr := []) rfl (by decide) (by decide) (cells' := 271) (slots' := 91330) (by decide) (by decide) (k_runV (rest := [.int (-1)]) C aks Wd cs_L_55 (kcX12_judge l D q6104 q6106 q6107 q6108 q6109 q6110 q6111 q6112 q6113 q6114 q6115 q6116 q6117 q6118 q6119 q6120 q6121 q6122 q6123 q6124 q6125 q6126 q6127 q6128 q6129 q6130 y1 y2 y3 e6132 e6140 e6142 e6143 _ ) [0, 1, 2, 3, 4] rfl (by decide) [5, 6, 7, 8] rfl 0 12 rfl rfl rfl rfl rfl ⟨(Nat.le_of_ble_eq_true rfl), (Nat.le_of_ble_eq_true rfl)⟩ hl.1 rfl rfl (Nat.le_of_ble_eq_true rfl) ⟨(Nat.le_of_ble_eq_true rfl), (Nat.le_of_ble_eq_true rfl)⟩ dL_law_423) (fun r _ H locs w8744 Wd => ?_)
        have Wd : wX D [(e5970, .object RX8), (e6062, .int), (e6063, .int), (e6081, .int), (e6082, .int), (e6132, .int), (e6140, .int), (e6142, .int), (e6143, .int)] s [] _ A s.heap _ := Wd
        rcases w8744 with ⟨c8745, rfl⟩ | ⟨c8746, c8747, rfl⟩ | ⟨c8748, c8749, c8750, rfl⟩ | ⟨c8751, c8752, c8753, c8754, rfl⟩ | ⟨c8755, c8756, c8757, c8758, c8759, rfl⟩ | ⟨c8760, c8761, c8762, c8763, c8764, c8765, rfl⟩ | ⟨c8766, c8767, c8768, c8769, c8770, c8771, c8772, rfl⟩ | ⟨c8773, c8774, c8775, c8776, c8777, c8778, c8779, c8780, rfl⟩ | ⟨c8781, c8782, c8783, c8784, c8785, c8786, c8787, c8788, c8789, rfl⟩ | ⟨c8790, c8791, c8792, c8793, c8794, c8795, c8796, c8797, c8798, rfl⟩
        · exact absurd c8745 c7892
        · exact False.elim (by have z0 := kz_nlt c7892; have z1 := kz_lt c8129; have z2 := kz_nlt c8600; have z3 := kz_nle c8601; have z4 := kz_nlt c8746; have z5 := kz_lt c8747; have t0 : (0 : Int32).toInt = 0 := (by decide); have t6 : (6 : Int32).toInt = 6 := (by decide); have t5 : (5 : Int32).toInt = 5 := (by decide); omega)
        · exact absurd c8750 c8130
        · exact False.elim (by have z0 := kz_nlt c8130; have z1 := kz_lt c8194; have z2 := kz_nlt c8602; have z3 := kz_nle c8603; have z4 := kz_nlt c8753; have z5 := kz_lt c8754; have t0 : (0 : Int32).toInt = 0 := (by decide); have t6 : (6 : Int32).toInt = 6 := (by decide); have t5 : (5 : Int32).toInt = 5 := (by decide); omega)
        · exact absurd c8759 c8604
        · exact False.elim (by have z0 := kz_nlt c8604; have z1 := kz_le c8605; have z2 := kz_ne c8606; have z3 := kz_eq c8607; have z4 := kz_nlt c8764; have z5 := kz_lt c8765; have t0 : (0 : Int32).toInt = 0 := (by decide); have t3 : (3 : Int32).toInt = 3 := (by decide); have t1 : (1 : Int32).toInt = 1 := (by decide); omega)
        · exact absurd c8772 c8606
        · refine lv_icmp_eq (tgt := 801) C.1 C.2.1 dL_law_426 (by decide) (fun _ => ?_) (fun c8799 => absurd c8799 (by decide))
          exact tail _ _ _ (k_sub Wd [] rfl (by decide) [] rfl) (lv_sub hl [0, 3] rfl)
        · exact absurd c8607 c8788
        · exact absurd c8607 c8797
      · refine lv_aload_n C.1 C.2.1 dL_law_407 rfl (lv_at hl 1 rfl) ?_
        refine lv_aload_n C.1 C.2.1 dL_law_408 rfl (lv_at hl 3 rfl) ?_
        refine lv_iload_n C.1 C.2.1 dL_law_409 rfl (lv_at hl 0 rfl) ?_
        refine lv_iconst (v := 1) C.1 C.2.1 dL_law_410 (by decide) ?_
        refine k_iadd (v := 1) C (by decide) dL_law_411 ?_
        refine k_sld (v := y1) C hX hbl hbA Wd (vp_in_iff.mpr (by decide)) hy1 dL_law_412 ?_
        refine lv_aload_n C.1 C.2.1 dL_law_413 rfl (lv_at hl 3 rfl) ?_
        refine lv_iload_n C.1 C.2.1 dL_law_414 rfl (lv_at hl 0 rfl) ?_
        refine lv_iconst (v := 2) C.1 C.2.1 dL_law_415 (by decide) ?_
        refine k_iadd (v := 2) C (by decide) dL_law_416 ?_
        refine k_sld (v := y2) C hX hbl hbA Wd (vp_in_iff.mpr (by decide)) hy2 dL_law_417 ?_
        refine lv_aload_n C.1 C.2.1 dL_law_418 rfl (lv_at hl 3 rfl) ?_
        refine lv_iload_n C.1 C.2.1 dL_law_419 rfl (lv_at hl 0 rfl) ?_
        refine lv_iconst (v := 3) C.1 C.2.1 dL_law_420 (by decide) ?_
        refine k_iadd (v := 3) C (by decide) dL_law_421 ?_
        refine k_sld (v := y3) C hX hbl hbA Wd (vp_in_iff.mpr (by decide)) hy3 dL_law_422 ?_
        refine k_ci Wd [0, 1, 2, 3, 4] [] rfl (wr := []) rfl (by decide) (by decide) (cells' := 271) (slots' := 91330) (by decide) (by decide) (k_runV (rest := [.int (-1)]) C aks Wd cs_L_55 (kcX12_judge l D q6104 q6106 q6107 q6108 q6109 q6110 q6111 q6112 q6113 q6114 q6115 q6116 q6117 q6118 q6119 q6120 q6121 q6122 q6123 q6124 q6125 q6126 q6127 q6128 q6129 q6130 y1 y2 y3 e6132 e6140 e6142 e6143 _ ) [0, 1, 2, 3, 4] rfl (by decide) [5, 6, 7, 8] rfl 0 12 rfl rfl rfl rfl rfl ⟨(Nat.le_of_ble_eq_true rfl), (Nat.le_of_ble_eq_true rfl)⟩ hl.1 rfl rfl (Nat.le_of_ble_eq_true rfl) ⟨(Nat.le_of_ble_eq_true rfl), (Nat.le_of_ble_eq_true rfl)⟩ dL_law_423) (fun r _ H locs w8800 Wd => ?_)
        have Wd : wX D [(e5970, .object RX8), (e6062, .int), (e6063, .int), (e6081, .int), (e6082, .int), (e6132, .int), (e6140, .int), (e6142, .int), (e6143, .int)] s [] _ A s.heap _ := Wd
        rcases w8800 with ⟨c8801, rfl⟩ | ⟨c8802, c8803, rfl⟩ | ⟨c8804, c8805, c8806, rfl⟩ | ⟨c8807, c8808, c8809, c8810, rfl⟩ | ⟨c8811, c8812, c8813, c8814, c8815, rfl⟩ | ⟨c8816, c8817, c8818, c8819, c8820, c8821, rfl⟩ | ⟨c8822, c8823, c8824, c8825, c8826, c8827, c8828, rfl⟩ | ⟨c8829, c8830, c8831, c8832, c8833, c8834, c8835, c8836, rfl⟩ | ⟨c8837, c8838, c8839, c8840, c8841, c8842, c8843, c8844, c8845, rfl⟩ | ⟨c8846, c8847, c8848, c8849, c8850, c8851, c8852, c8853, c8854, rfl⟩
        · exact absurd c8801 c7892
        · exact False.elim (by have z0 := kz_nlt c7892; have z1 := kz_lt c8129; have z2 := kz_nlt c8608; have z3 := kz_nle c8609; have z4 := kz_nlt c8802; have z5 := kz_lt c8803; have t0 : (0 : Int32).toInt = 0 := (by decide); have t6 : (6 : Int32).toInt = 6 := (by decide); have t5 : (5 : Int32).toInt = 5 := (by decide); omega)
        · exact absurd c8806 c8130
        · exact False.elim (by have z0 := kz_nlt c8130; have z1 := kz_lt c8194; have z2 := kz_nlt c8610; have z3 := kz_nle c8611; have z4 := kz_nlt c8809; have z5 := kz_lt c8810; have t0 : (0 : Int32).toInt = 0 := (by decide); have t6 : (6 : Int32).toInt = 6 := (by decide); have t5 : (5 : Int32).toInt = 5 := (by decide); omega)
        · exact absurd c8815 c8612
        · exact False.elim (by have z0 := kz_nlt c8612; have z1 := kz_le c8613; have z2 := kz_ne c8614; have z3 := kz_ne c8615; have z4 := kz_eq c8616; have z5 := kz_nlt c8820; have z6 := kz_lt c8821; have t0 : (0 : Int32).toInt = 0 := (by decide); have t3 : (3 : Int32).toInt = 3 := (by decide); have t1 : (1 : Int32).toInt = 1 := (by decide); have t2 : (2 : Int32).toInt = 2 := (by decide); omega)
        · exact absurd c8828 c8614
        · exact absurd c8836 c8615
        · refine lv_icmp_eq (tgt := 801) C.1 C.2.1 dL_law_426 (by decide) (fun _ => ?_) (fun c8855 => absurd c8855 (by decide))
          exact tail _ _ _ (k_sub Wd [] rfl (by decide) [] rfl) (lv_sub hl [0, 3] rfl)
        · exact absurd c8616 c8854
      · refine lv_aload_n C.1 C.2.1 dL_law_407 rfl (lv_at hl 1 rfl) ?_
        refine lv_aload_n C.1 C.2.1 dL_law_408 rfl (lv_at hl 3 rfl) ?_
        refine lv_iload_n C.1 C.2.1 dL_law_409 rfl (lv_at hl 0 rfl) ?_
        refine lv_iconst (v := 1) C.1 C.2.1 dL_law_410 (by decide) ?_
        refine k_iadd (v := 1) C (by decide) dL_law_411 ?_
        refine k_sld (v := y1) C hX hbl hbA Wd (vp_in_iff.mpr (by decide)) hy1 dL_law_412 ?_
        refine lv_aload_n C.1 C.2.1 dL_law_413 rfl (lv_at hl 3 rfl) ?_
        refine lv_iload_n C.1 C.2.1 dL_law_414 rfl (lv_at hl 0 rfl) ?_
        refine lv_iconst (v := 2) C.1 C.2.1 dL_law_415 (by decide) ?_
        refine k_iadd (v := 2) C (by decide) dL_law_416 ?_
        refine k_sld (v := y2) C hX hbl hbA Wd (vp_in_iff.mpr (by decide)) hy2 dL_law_417 ?_
        refine lv_aload_n C.1 C.2.1 dL_law_418 rfl (lv_at hl 3 rfl) ?_
        refine lv_iload_n C.1 C.2.1 dL_law_419 rfl (lv_at hl 0 rfl) ?_
        refine lv_iconst (v := 3) C.1 C.2.1 dL_law_420 (by decide) ?_
        refine k_iadd (v := 3) C (by decide) dL_law_421 ?_
        refine k_sld (v := y3) C hX hbl hbA Wd (vp_in_iff.mpr (by decide)) hy3 dL_law_422 ?_
        refine k_ci Wd [0, 1, 2, 3, 4] [] rfl (wr := []) rfl (by decide) (by decide) (cells' := 271) (slots' := 91330) (by decide) (by decide) (k_runV (rest := [.int 0]) C aks Wd cs_L_55 (kcX12_judge l D q6104 q6106 q6107 q6108 q6109 q6110 q6111 q6112 q6113 q6114 q6115 q6116 q6117 q6118 q6119 q6120 q6121 q6122 q6123 q6124 q6125 q6126 q6127 q6128 q6129 q6130 y1 y2 y3 e6132 e6140 e6142 e6143 _ ) [0, 1, 2, 3, 4] rfl (by decide) [5, 6, 7, 8] rfl 0 12 rfl rfl rfl rfl rfl ⟨(Nat.le_of_ble_eq_true rfl), (Nat.le_of_ble_eq_true rfl)⟩ hl.1 rfl rfl (Nat.le_of_ble_eq_true rfl) ⟨(Nat.le_of_ble_eq_true rfl), (Nat.le_of_ble_eq_true rfl)⟩ dL_law_423) (fun r _ H locs w8856 Wd => ?_)
        have Wd : wX D [(e5970, .object RX8), (e6062, .int), (e6063, .int), (e6081, .int), (e6082, .int), (e6132, .int), (e6140, .int), (e6142, .int), (e6143, .int)] s [] _ A s.heap _ := Wd
        rcases w8856 with ⟨c8857, rfl⟩ | ⟨c8858, c8859, rfl⟩ | ⟨c8860, c8861, c8862, rfl⟩ | ⟨c8863, c8864, c8865, c8866, rfl⟩ | ⟨c8867, c8868, c8869, c8870, c8871, rfl⟩ | ⟨c8872, c8873, c8874, c8875, c8876, c8877, rfl⟩ | ⟨c8878, c8879, c8880, c8881, c8882, c8883, c8884, rfl⟩ | ⟨c8885, c8886, c8887, c8888, c8889, c8890, c8891, c8892, rfl⟩ | ⟨c8893, c8894, c8895, c8896, c8897, c8898, c8899, c8900, c8901, rfl⟩ | ⟨c8902, c8903, c8904, c8905, c8906, c8907, c8908, c8909, c8910, rfl⟩
        · exact absurd c8857 c7892
        · exact False.elim (by have z0 := kz_nlt c7892; have z1 := kz_lt c8129; have z2 := kz_nlt c8617; have z3 := kz_nle c8618; have z4 := kz_nlt c8858; have z5 := kz_lt c8859; have t0 : (0 : Int32).toInt = 0 := (by decide); have t6 : (6 : Int32).toInt = 6 := (by decide); have t5 : (5 : Int32).toInt = 5 := (by decide); omega)
        · exact absurd c8862 c8130
        · exact False.elim (by have z0 := kz_nlt c8130; have z1 := kz_lt c8194; have z2 := kz_nlt c8619; have z3 := kz_nle c8620; have z4 := kz_nlt c8865; have z5 := kz_lt c8866; have t0 : (0 : Int32).toInt = 0 := (by decide); have t6 : (6 : Int32).toInt = 6 := (by decide); have t5 : (5 : Int32).toInt = 5 := (by decide); omega)
        · exact absurd c8871 c8621
        · exact False.elim (by have z0 := kz_nlt c8621; have z1 := kz_le c8622; have z2 := kz_ne c8623; have z3 := kz_ne c8624; have z4 := kz_ne c8625; have z5 := kz_nlt c8876; have z6 := kz_lt c8877; have t0 : (0 : Int32).toInt = 0 := (by decide); have t3 : (3 : Int32).toInt = 3 := (by decide); have t1 : (1 : Int32).toInt = 1 := (by decide); have t2 : (2 : Int32).toInt = 2 := (by decide); omega)
        · exact absurd c8884 c8623
        · exact absurd c8892 c8624
        · exact absurd c8901 c8625
        · refine lv_icmp_eq (tgt := 801) C.1 C.2.1 dL_law_426 (by decide) (fun _ => ?_) (fun c8911 => absurd c8911 (by decide))
          exact tail _ _ _ (k_sub Wd [] rfl (by decide) [] rfl) (lv_sub hl [0, 3] rfl)
      · refine lv_aload_n C.1 C.2.1 dL_law_407 rfl (lv_at hl 1 rfl) ?_
        refine lv_aload_n C.1 C.2.1 dL_law_408 rfl (lv_at hl 3 rfl) ?_
        refine lv_iload_n C.1 C.2.1 dL_law_409 rfl (lv_at hl 0 rfl) ?_
        refine lv_iconst (v := 1) C.1 C.2.1 dL_law_410 (by decide) ?_
        refine k_iadd (v := 1) C (by decide) dL_law_411 ?_
        refine k_sld (v := y1) C hX hbl hbA Wd (vp_in_iff.mpr (by decide)) hy1 dL_law_412 ?_
        refine lv_aload_n C.1 C.2.1 dL_law_413 rfl (lv_at hl 3 rfl) ?_
        refine lv_iload_n C.1 C.2.1 dL_law_414 rfl (lv_at hl 0 rfl) ?_
        refine lv_iconst (v := 2) C.1 C.2.1 dL_law_415 (by decide) ?_
        refine k_iadd (v := 2) C (by decide) dL_law_416 ?_
        refine k_sld (v := y2) C hX hbl hbA Wd (vp_in_iff.mpr (by decide)) hy2 dL_law_417 ?_
        refine lv_aload_n C.1 C.2.1 dL_law_418 rfl (lv_at hl 3 rfl) ?_
        refine lv_iload_n C.1 C.2.1 dL_law_419 rfl (lv_at hl 0 rfl) ?_
        refine lv_iconst (v := 3) C.1 C.2.1 dL_law_420 (by decide) ?_
        refine k_iadd (v := 3) C (by decide) dL_law_421 ?_
        refine k_sld (v := y3) C hX hbl hbA Wd (vp_in_iff.mpr (by decide)) hy3 dL_law_422 ?_
        refine k_ci Wd [0, 1, 2, 3, 4] [] rfl (wr := []) rfl (by decide) (by decide) (cells' := 271) (slots' := 91330) (by decide) (by decide) (k_runV (rest := [.int (-1)]) C aks Wd cs_L_55 (kcX12_judge l D q6104 q6106 q6107 q6108 q6109 q6110 q6111 q6112 q6113 q6114 q6115 q6116 q6117 q6118 q6119 q6120 q6121 q6122 q6123 q6124 q6125 q6126 q6127 q6128 q6129 q6130 y1 y2 y3 e6132 e6140 e6142 e6143 _ ) [0, 1, 2, 3, 4] rfl (by decide) [5, 6, 7, 8] rfl 0 12 rfl rfl rfl rfl rfl ⟨(Nat.le_of_ble_eq_true rfl), (Nat.le_of_ble_eq_true rfl)⟩ hl.1 rfl rfl (Nat.le_of_ble_eq_true rfl) ⟨(Nat.le_of_ble_eq_true rfl), (Nat.le_of_ble_eq_true rfl)⟩ dL_law_423) (fun r _ H locs w8912 Wd => ?_)
        have Wd : wX D [(e5970, .object RX8), (e6062, .int), (e6063, .int), (e6081, .int), (e6082, .int), (e6132, .int), (e6140, .int), (e6142, .int), (e6143, .int)] s [] _ A s.heap _ := Wd
        rcases w8912 with ⟨c8913, rfl⟩ | ⟨c8914, c8915, rfl⟩ | ⟨c8916, c8917, c8918, rfl⟩ | ⟨c8919, c8920, c8921, c8922, rfl⟩ | ⟨c8923, c8924, c8925, c8926, c8927, rfl⟩ | ⟨c8928, c8929, c8930, c8931, c8932, c8933, rfl⟩ | ⟨c8934, c8935, c8936, c8937, c8938, c8939, c8940, rfl⟩ | ⟨c8941, c8942, c8943, c8944, c8945, c8946, c8947, c8948, rfl⟩ | ⟨c8949, c8950, c8951, c8952, c8953, c8954, c8955, c8956, c8957, rfl⟩ | ⟨c8958, c8959, c8960, c8961, c8962, c8963, c8964, c8965, c8966, rfl⟩
        · exact absurd c8913 c7892
        · exact False.elim (by have z0 := kz_nlt c7892; have z1 := kz_lt c8129; have z2 := kz_nlt c8626; have z3 := kz_nle c8627; have z4 := kz_nlt c8914; have z5 := kz_lt c8915; have t0 : (0 : Int32).toInt = 0 := (by decide); have t6 : (6 : Int32).toInt = 6 := (by decide); have t5 : (5 : Int32).toInt = 5 := (by decide); omega)
        · exact absurd c8918 c8130
        · exact False.elim (by have z0 := kz_nlt c8130; have z1 := kz_lt c8194; have z2 := kz_nlt c8628; have z3 := kz_nle c8629; have z4 := kz_nlt c8921; have z5 := kz_lt c8922; have t0 : (0 : Int32).toInt = 0 := (by decide); have t6 : (6 : Int32).toInt = 6 := (by decide); have t5 : (5 : Int32).toInt = 5 := (by decide); omega)
        · exact absurd c8927 c8630
        · refine lv_icmp_eq (tgt := 801) C.1 C.2.1 dL_law_426 (by decide) (fun _ => ?_) (fun c8967 => absurd c8967 (by decide))
          exact tail _ _ _ (k_sub Wd [] rfl (by decide) [] rfl) (lv_sub hl [0, 3] rfl)
        · exact False.elim (by have z0 := kz_nlt c8630; have z1 := kz_nle c8631; have z2 := kz_nlt c8938; have z3 := kz_nlt c8939; have t0 : (0 : Int32).toInt = 0 := (by decide); have t3 : (3 : Int32).toInt = 3 := (by decide); omega)
        · exact False.elim (by have z0 := kz_nlt c8630; have z1 := kz_nle c8631; have z2 := kz_nlt c8945; have z3 := kz_nlt c8946; have t0 : (0 : Int32).toInt = 0 := (by decide); have t3 : (3 : Int32).toInt = 3 := (by decide); omega)
        · exact False.elim (by have z0 := kz_nlt c8630; have z1 := kz_nle c8631; have z2 := kz_nlt c8953; have z3 := kz_nlt c8954; have t0 : (0 : Int32).toInt = 0 := (by decide); have t3 : (3 : Int32).toInt = 3 := (by decide); omega)
        · exact False.elim (by have z0 := kz_nlt c8630; have z1 := kz_nle c8631; have z2 := kz_nlt c8962; have z3 := kz_nlt c8963; have t0 : (0 : Int32).toInt = 0 := (by decide); have t3 : (3 : Int32).toInt = 3 := (by decide); omega)
    have hsel : ∃ (q8968 q8969 : Nat), (va_up (va_up (va_up (va_up (va_up (va_up (fun _ => none) 0 (some q5971)) 1 (some q5972)) 2 (some q5973)) 3 (some q5974)) 4 (some q5975)) 5 (some q5976)) y1.toNatClampNeg = some q8968 ∧ wX D [(e5970, .object RX8), (e6062, .int), (e6063, .int), (e6081, .int), (e6082, .int), (e6132, .int), (e6140, .int), (e6142, .int), (e6143, .int)] s [(q5961, .inr (11, [.ref q5963, .int 0, .ref q5964, .ref q5965, .ref q5966, .ref q5967, .ref q5968, .ref q5969])), (q5963, .inl (e5970, 6, .inr (.inr (.inr (.inr (va_up (va_up (va_up (va_up (va_up (va_up (fun _ => none) 0 (some q5971)) 1 (some q5972)) 2 (some q5973)) 3 (some q5974)) 4 (some q5975)) 5 (some q5976))))))), (q5968, .inr (4, [.ref q6010, .ref q6011, .ref q6012, .int (-1), .int (-1), .ref q6013, .ref q6014, .ref q6015, .ref q6016, .ref q6017])), (q6010, .inr (2, [.int (-1), .int (-1), .int 0, .int 0, .ref q6043, .ref q6044])), (q6043, .inr (3, [.ref q6045, .ref q6046, .int 0, .int 0, .int 0, .ref q6047, .ref q6048])), (q6045, .inr (1, [.ref q6049, .int 0, .ref q6050, .ref q6051, .ref q6052, .ref q6053, .ref q6054, .ref q6055, .ref q6056, .ref q6057, .ref q6058, .ref q6059, .ref q6060, .ref q6061])), (q6061, .inl (e6062, 480, .inl (fun _ => 0))), (q6047, .inl (e6063, 6, .inl (fun _ => 0))), (q6044, .inr (3, [.ref q6064, .ref q6065, .int 0, .int 0, .int 0, .ref q6066, .ref q6067])), (q6064, .inr (1, [.ref q6068, .int 0, .ref q6069, .ref q6070, .ref q6071, .ref q6072, .ref q6073, .ref q6074, .ref q6075, .ref q6076, .ref q6077, .ref q6078, .ref q6079, .ref q6080])), (q6080, .inl (e6081, 480, .inl (fun _ => 0))), (q6066, .inl (e6082, 6, .inl (fun _ => 0))), (q6104, .inr (12, [.ref q6106, .ref q6107, .ref q6108, .ref q6109, .int 0, .int 0, .ref q6110, .int 0, .int 0, .int 0, .int 0, .int 0, .int 0, .int 0, .int 0, .int 0, .int 0, .int 0, .int 0, .int 0, .int (-1), .int 0, .int 0, .int 0, .ref q6111, .ref q6112, .ref q6113, .ref q6114, .ref q6115, .ref q6116, .int 0, .int 0, .int 0, .int 0, .ref q6117, .ref q6118, .ref q6119, .int 0, .int 0, .int 0, .int 0, .ref q6120, .ref q6121, .int 0, .ref q6122, .ref q6123, .int 0, .ref q6124, .int 0, .ref q6125, .ref q6126, .ref q6127, .int 0, .ref q6128, .ref q6129, .ref q6130])), (q6107, .inl (e6132, 6, .inl (fun _ => 0))), (q6115, .inl (e6140, 6, .inl (fun _ => 0))), (q6117, .inl (e6142, 256, .inl (fun _ => 0))), (q6118, .inl (e6143, 256, .inl (fun _ => 0))), (q8968, .inr (8, [.ref q8969, .int 0]))] H A s.heap locs := by
      rcases kf6 c7892 c8129 with rfl | rfl | rfl | rfl | rfl | rfl
      · exact ⟨q5971, q5977, rfl, k_sub Wd [0, 1, 8, 9, 10, 11, 12, 13, 14, 15, 16, 17, 18, 19, 20, 21, 22, 2] rfl (by decide) [0, 1, 2, 3, 4, 5, 6, 7, 8] rfl⟩
      · exact ⟨q5972, q5978, rfl, k_sub Wd [0, 1, 8, 9, 10, 11, 12, 13, 14, 15, 16, 17, 18, 19, 20, 21, 22, 3] rfl (by decide) [0, 1, 2, 3, 4, 5, 6, 7, 8] rfl⟩
      · exact ⟨q5973, q5979, rfl, k_sub Wd [0, 1, 8, 9, 10, 11, 12, 13, 14, 15, 16, 17, 18, 19, 20, 21, 22, 4] rfl (by decide) [0, 1, 2, 3, 4, 5, 6, 7, 8] rfl⟩
      · exact ⟨q5974, q5980, rfl, k_sub Wd [0, 1, 8, 9, 10, 11, 12, 13, 14, 15, 16, 17, 18, 19, 20, 21, 22, 5] rfl (by decide) [0, 1, 2, 3, 4, 5, 6, 7, 8] rfl⟩
      · exact ⟨q5975, q5981, rfl, k_sub Wd [0, 1, 8, 9, 10, 11, 12, 13, 14, 15, 16, 17, 18, 19, 20, 21, 22, 6] rfl (by decide) [0, 1, 2, 3, 4, 5, 6, 7, 8] rfl⟩
      · exact ⟨q5976, q5982, rfl, k_sub Wd [0, 1, 8, 9, 10, 11, 12, 13, 14, 15, 16, 17, 18, 19, 20, 21, 22, 7] rfl (by decide) [0, 1, 2, 3, 4, 5, 6, 7, 8] rfl⟩
    obtain ⟨q8968, q8969, hk8970, Wd⟩ := hsel
    refine lv_aload_n C.1 C.2.1 dL_law_388 rfl (lv_at hl 2 rfl) ?_
    refine lv_aload_n C.1 C.2.1 dL_law_389 rfl (lv_at hl 3 rfl) ?_
    refine lv_iload_n C.1 C.2.1 dL_law_390 rfl (lv_at hl 0 rfl) ?_
    refine lv_iconst (v := 1) C.1 C.2.1 dL_law_391 (by decide) ?_
    refine k_iadd (v := 1) C (by decide) dL_law_392 ?_
    refine k_sld (v := y1) C hX hbl hbA Wd (vp_in_iff.mpr (by decide)) hy1 dL_law_393 ?_
    refine lv_aload_n C.1 C.2.1 dL_law_394 rfl (lv_at hl 3 rfl) ?_
    refine lv_iload_n C.1 C.2.1 dL_law_395 rfl (lv_at hl 0 rfl) ?_
    refine lv_iconst (v := 2) C.1 C.2.1 dL_law_396 (by decide) ?_
    refine k_iadd (v := 2) C (by decide) dL_law_397 ?_
    refine k_sld (v := y2) C hX hbl hbA Wd (vp_in_iff.mpr (by decide)) hy2 dL_law_398 ?_
    refine lv_aload_n C.1 C.2.1 dL_law_399 rfl (lv_at hl 3 rfl) ?_
    refine lv_iload_n C.1 C.2.1 dL_law_400 rfl (lv_at hl 0 rfl) ?_
    refine lv_iconst (v := 3) C.1 C.2.1 dL_law_401 (by decide) ?_
    refine k_iadd (v := 3) C (by decide) dL_law_402 ?_
    refine k_sld (v := y3) C hX hbl hbA Wd (vp_in_iff.mpr (by decide)) hy3 dL_law_403 ?_
    refine k_pi (k_runV (rest := []) C aks Wd cs_L_51 (kcX11_judge_v3 l D q5961 q5963 q5964 q5965 q5966 q5967 q5968 q5969 q8968 y1 y2 y3 (va_up (va_up (va_up (va_up (va_up (va_up (fun _ => none) 0 (some q5971)) 1 (some q5972)) 2 (some q5973)) 3 (some q5974)) 4 (some q5975)) 5 (some q5976)) e5970 _ hk8970 c7892 c8129 c8194) [0, 1] rfl (by decide) [0] rfl 0 11 rfl rfl rfl rfl rfl ⟨(Nat.le_of_ble_eq_true rfl), (Nat.le_of_ble_eq_true rfl)⟩ hl.1 rfl rfl (Nat.le_of_ble_eq_true rfl) ⟨(Nat.le_of_ble_eq_true rfl), (Nat.le_of_ble_eq_true rfl)⟩ dL_law_404) (fun r w8971 => ?_)
    obtain ⟨c8972, c8973, c8974, c8975, rfl⟩ := w8971
    refine lv_aload_n C.1 C.2.1 dL_law_407 rfl (lv_at hl 1 rfl) ?_
    refine lv_aload_n C.1 C.2.1 dL_law_408 rfl (lv_at hl 3 rfl) ?_
    refine lv_iload_n C.1 C.2.1 dL_law_409 rfl (lv_at hl 0 rfl) ?_
    refine lv_iconst (v := 1) C.1 C.2.1 dL_law_410 (by decide) ?_
    refine k_iadd (v := 1) C (by decide) dL_law_411 ?_
    refine k_sld (v := y1) C hX hbl hbA Wd (vp_in_iff.mpr (by decide)) hy1 dL_law_412 ?_
    refine lv_aload_n C.1 C.2.1 dL_law_413 rfl (lv_at hl 3 rfl) ?_
    refine lv_iload_n C.1 C.2.1 dL_law_414 rfl (lv_at hl 0 rfl) ?_
    refine lv_iconst (v := 2) C.1 C.2.1 dL_law_415 (by decide) ?_
    refine k_iadd (v := 2) C (by decide) dL_law_416 ?_
    refine k_sld (v := y2) C hX hbl hbA Wd (vp_in_iff.mpr (by decide)) hy2 dL_law_417 ?_
    refine lv_aload_n C.1 C.2.1 dL_law_418 rfl (lv_at hl 3 rfl) ?_
    refine lv_iload_n C.1 C.2.1 dL_law_419 rfl (lv_at hl 0 rfl) ?_
    refine lv_iconst (v := 3) C.1 C.2.1 dL_law_420 (by decide) ?_
    refine k_iadd (v := 3) C (by decide) dL_law_421 ?_
    refine k_sld (v := y3) C hX hbl hbA Wd (vp_in_iff.mpr (by decide)) hy3 dL_law_422 ?_
    refine k_ci Wd [12, 13, 14, 15, 16] [0, 1, 2, 3, 4, 5, 6, 7, 8, 9, 10, 11, 17] rfl (wr := [(q5961, .inr (11, [.ref q5963, .int 0, .ref q5964, .ref q5965, .ref q5966, .ref q5967, .ref q5968, .ref q5969])), (q5963, .inl (e5970, 6, .inr (.inr (.inr (.inr (va_up (va_up (va_up (va_up (va_up (va_up (fun _ => none) 0 (some q5971)) 1 (some q5972)) 2 (some q5973)) 3 (some q5974)) 4 (some q5975)) 5 (some q5976))))))), (q5968, .inr (4, [.ref q6010, .ref q6011, .ref q6012, .int (-1), .int (-1), .ref q6013, .ref q6014, .ref q6015, .ref q6016, .ref q6017])), (q6010, .inr (2, [.int (-1), .int (-1), .int 0, .int 0, .ref q6043, .ref q6044])), (q6043, .inr (3, [.ref q6045, .ref q6046, .int 0, .int 0, .int 0, .ref q6047, .ref q6048])), (q6045, .inr (1, [.ref q6049, .int 0, .ref q6050, .ref q6051, .ref q6052, .ref q6053, .ref q6054, .ref q6055, .ref q6056, .ref q6057, .ref q6058, .ref q6059, .ref q6060, .ref q6061])), (q6061, .inl (e6062, 480, .inl (fun _ => 0))), (q6047, .inl (e6063, 6, .inl (fun _ => 0))), (q6044, .inr (3, [.ref q6064, .ref q6065, .int 0, .int 0, .int 0, .ref q6066, .ref q6067])), (q6064, .inr (1, [.ref q6068, .int 0, .ref q6069, .ref q6070, .ref q6071, .ref q6072, .ref q6073, .ref q6074, .ref q6075, .ref q6076, .ref q6077, .ref q6078, .ref q6079, .ref q6080])), (q6080, .inl (e6081, 480, .inl (fun _ => 0))), (q6066, .inl (e6082, 6, .inl (fun _ => 0))), (q8968, .inr (8, [.ref q8969, .int 0]))]) rfl (by decide) (by decide) (cells' := 271) (slots' := 91330) (by decide) (by decide) (k_runV (rest := [.int (-1)]) C aks Wd cs_L_55 (kcX12_judge l D q6104 q6106 q6107 q6108 q6109 q6110 q6111 q6112 q6113 q6114 q6115 q6116 q6117 q6118 q6119 q6120 q6121 q6122 q6123 q6124 q6125 q6126 q6127 q6128 q6129 q6130 y1 y2 y3 e6132 e6140 e6142 e6143 _ ) [12, 13, 14, 15, 16] rfl (by decide) [5, 6, 7, 8] rfl 12 12 rfl rfl rfl rfl rfl ⟨(Nat.le_of_ble_eq_true rfl), (Nat.le_of_ble_eq_true rfl)⟩ hl.1 rfl rfl (Nat.le_of_ble_eq_true rfl) ⟨(Nat.le_of_ble_eq_true rfl), (Nat.le_of_ble_eq_true rfl)⟩ dL_law_423) (fun r _ H locs w8976 Wd => ?_)
    have Wd : wX D [(e5970, .object RX8), (e6062, .int), (e6063, .int), (e6081, .int), (e6082, .int), (e6132, .int), (e6140, .int), (e6142, .int), (e6143, .int)] s [(q5961, .inr (11, [.ref q5963, .int 0, .ref q5964, .ref q5965, .ref q5966, .ref q5967, .ref q5968, .ref q5969])), (q5963, .inl (e5970, 6, .inr (.inr (.inr (.inr (va_up (va_up (va_up (va_up (va_up (va_up (fun _ => none) 0 (some q5971)) 1 (some q5972)) 2 (some q5973)) 3 (some q5974)) 4 (some q5975)) 5 (some q5976))))))), (q5968, .inr (4, [.ref q6010, .ref q6011, .ref q6012, .int (-1), .int (-1), .ref q6013, .ref q6014, .ref q6015, .ref q6016, .ref q6017])), (q6010, .inr (2, [.int (-1), .int (-1), .int 0, .int 0, .ref q6043, .ref q6044])), (q6043, .inr (3, [.ref q6045, .ref q6046, .int 0, .int 0, .int 0, .ref q6047, .ref q6048])), (q6045, .inr (1, [.ref q6049, .int 0, .ref q6050, .ref q6051, .ref q6052, .ref q6053, .ref q6054, .ref q6055, .ref q6056, .ref q6057, .ref q6058, .ref q6059, .ref q6060, .ref q6061])), (q6061, .inl (e6062, 480, .inl (fun _ => 0))), (q6047, .inl (e6063, 6, .inl (fun _ => 0))), (q6044, .inr (3, [.ref q6064, .ref q6065, .int 0, .int 0, .int 0, .ref q6066, .ref q6067])), (q6064, .inr (1, [.ref q6068, .int 0, .ref q6069, .ref q6070, .ref q6071, .ref q6072, .ref q6073, .ref q6074, .ref q6075, .ref q6076, .ref q6077, .ref q6078, .ref q6079, .ref q6080])), (q6080, .inl (e6081, 480, .inl (fun _ => 0))), (q6066, .inl (e6082, 6, .inl (fun _ => 0))), (q8968, .inr (8, [.ref q8969, .int 0]))] _ A s.heap _ := Wd
    rcases w8976 with ⟨c8977, rfl⟩ | ⟨c8978, c8979, rfl⟩ | ⟨c8980, c8981, c8982, rfl⟩ | ⟨c8983, c8984, c8985, c8986, rfl⟩ | ⟨c8987, c8988, c8989, c8990, c8991, rfl⟩ | ⟨c8992, c8993, c8994, c8995, c8996, c8997, rfl⟩ | ⟨c8998, c8999, c9000, c9001, c9002, c9003, c9004, rfl⟩ | ⟨c9005, c9006, c9007, c9008, c9009, c9010, c9011, c9012, rfl⟩ | ⟨c9013, c9014, c9015, c9016, c9017, c9018, c9019, c9020, c9021, rfl⟩ | ⟨c9022, c9023, c9024, c9025, c9026, c9027, c9028, c9029, c9030, rfl⟩
    · exact absurd c8977 c7892
    · exact False.elim (by have z0 := kz_nlt c7892; have z1 := kz_lt c8129; have z2 := kz_nlt c8972; have z3 := kz_nle c8973; have z4 := kz_nlt c8978; have z5 := kz_lt c8979; have t0 : (0 : Int32).toInt = 0 := (by decide); have t6 : (6 : Int32).toInt = 6 := (by decide); have t5 : (5 : Int32).toInt = 5 := (by decide); omega)
    · exact absurd c8982 c8130
    · refine lv_icmp_eq (tgt := 801) C.1 C.2.1 dL_law_426 (by decide) (fun _ => ?_) (fun c9031 => absurd c9031 (by decide))
      exact tail _ _ _ (k_sub Wd [] rfl (by decide) [] rfl) (lv_sub hl [0, 3] rfl)
    · exact False.elim (by have z0 := kz_nlt c8130; have z1 := kz_nlt c8194; have z2 := kz_nlt c8974; have z3 := kz_le c8975; have z4 := kz_nlt c8989; have z5 := kz_nlt c8990; have t0 : (0 : Int32).toInt = 0 := (by decide); have t6 : (6 : Int32).toInt = 6 := (by decide); have t5 : (5 : Int32).toInt = 5 := (by decide); omega)
    · exact False.elim (by have z0 := kz_nlt c8130; have z1 := kz_nlt c8194; have z2 := kz_nlt c8974; have z3 := kz_le c8975; have z4 := kz_nlt c8994; have z5 := kz_nlt c8995; have t0 : (0 : Int32).toInt = 0 := (by decide); have t6 : (6 : Int32).toInt = 6 := (by decide); have t5 : (5 : Int32).toInt = 5 := (by decide); omega)
    · exact False.elim (by have z0 := kz_nlt c8130; have z1 := kz_nlt c8194; have z2 := kz_nlt c8974; have z3 := kz_le c8975; have z4 := kz_nlt c9000; have z5 := kz_nlt c9001; have t0 : (0 : Int32).toInt = 0 := (by decide); have t6 : (6 : Int32).toInt = 6 := (by decide); have t5 : (5 : Int32).toInt = 5 := (by decide); omega)
    · exact False.elim (by have z0 := kz_nlt c8130; have z1 := kz_nlt c8194; have z2 := kz_nlt c8974; have z3 := kz_le c8975; have z4 := kz_nlt c9007; have z5 := kz_nlt c9008; have t0 : (0 : Int32).toInt = 0 := (by decide); have t6 : (6 : Int32).toInt = 6 := (by decide); have t5 : (5 : Int32).toInt = 5 := (by decide); omega)
    · exact False.elim (by have z0 := kz_nlt c8130; have z1 := kz_nlt c8194; have z2 := kz_nlt c8974; have z3 := kz_le c8975; have z4 := kz_nlt c9015; have z5 := kz_nlt c9016; have t0 : (0 : Int32).toInt = 0 := (by decide); have t6 : (6 : Int32).toInt = 6 := (by decide); have t5 : (5 : Int32).toInt = 5 := (by decide); omega)
    · exact False.elim (by have z0 := kz_nlt c8130; have z1 := kz_nlt c8194; have z2 := kz_nlt c8974; have z3 := kz_le c8975; have z4 := kz_nlt c9024; have z5 := kz_nlt c9025; have t0 : (0 : Int32).toInt = 0 := (by decide); have t6 : (6 : Int32).toInt = 6 := (by decide); have t5 : (5 : Int32).toInt = 5 := (by decide); omega)
  refine lv_aload_n C.1 C.2.1 dL_law_388 rfl (lv_at hl 2 rfl) ?_
  refine lv_aload_n C.1 C.2.1 dL_law_389 rfl (lv_at hl 3 rfl) ?_
  refine lv_iload_n C.1 C.2.1 dL_law_390 rfl (lv_at hl 0 rfl) ?_
  refine lv_iconst (v := 1) C.1 C.2.1 dL_law_391 (by decide) ?_
  refine k_iadd (v := 1) C (by decide) dL_law_392 ?_
  refine k_sld (v := y1) C hX hbl hbA Wd (vp_in_iff.mpr (by decide)) hy1 dL_law_393 ?_
  refine lv_aload_n C.1 C.2.1 dL_law_394 rfl (lv_at hl 3 rfl) ?_
  refine lv_iload_n C.1 C.2.1 dL_law_395 rfl (lv_at hl 0 rfl) ?_
  refine lv_iconst (v := 2) C.1 C.2.1 dL_law_396 (by decide) ?_
  refine k_iadd (v := 2) C (by decide) dL_law_397 ?_
  refine k_sld (v := y2) C hX hbl hbA Wd (vp_in_iff.mpr (by decide)) hy2 dL_law_398 ?_
  refine lv_aload_n C.1 C.2.1 dL_law_399 rfl (lv_at hl 3 rfl) ?_
  refine lv_iload_n C.1 C.2.1 dL_law_400 rfl (lv_at hl 0 rfl) ?_
  refine lv_iconst (v := 3) C.1 C.2.1 dL_law_401 (by decide) ?_
  refine k_iadd (v := 3) C (by decide) dL_law_402 ?_
  refine k_sld (v := y3) C hX hbl hbA Wd (vp_in_iff.mpr (by decide)) hy3 dL_law_403 ?_
  refine k_pi (k_runV (rest := []) C aks Wd cs_L_51 (kcX11_judge_v1 l D q5961 q5963 q5964 q5965 q5966 q5967 q5968 q5969 y1 y2 y3 (va_up (va_up (va_up (va_up (va_up (va_up (fun _ => none) 0 (some q5971)) 1 (some q5972)) 2 (some q5973)) 3 (some q5974)) 4 (some q5975)) 5 (some q5976)) e5970 _ c8129) [0, 1] rfl (by decide) [0] rfl 0 11 rfl rfl rfl rfl rfl ⟨(Nat.le_of_ble_eq_true rfl), (Nat.le_of_ble_eq_true rfl)⟩ hl.1 rfl rfl (Nat.le_of_ble_eq_true rfl) ⟨(Nat.le_of_ble_eq_true rfl), (Nat.le_of_ble_eq_true rfl)⟩ dL_law_404) (fun r w9032 => ?_)
  rcases w9032 with ⟨c9033, c9034, c9035, rfl⟩ | ⟨c9036, c9037, c9038, c9039, rfl⟩ | ⟨c9040, c9041, c9042, c9043, rfl⟩ | ⟨c9044, c9045, c9046, c9047, rfl⟩
  · refine lv_aload_n C.1 C.2.1 dL_law_407 rfl (lv_at hl 1 rfl) ?_
    refine lv_aload_n C.1 C.2.1 dL_law_408 rfl (lv_at hl 3 rfl) ?_
    refine lv_iload_n C.1 C.2.1 dL_law_409 rfl (lv_at hl 0 rfl) ?_
    refine lv_iconst (v := 1) C.1 C.2.1 dL_law_410 (by decide) ?_
    refine k_iadd (v := 1) C (by decide) dL_law_411 ?_
    refine k_sld (v := y1) C hX hbl hbA Wd (vp_in_iff.mpr (by decide)) hy1 dL_law_412 ?_
    refine lv_aload_n C.1 C.2.1 dL_law_413 rfl (lv_at hl 3 rfl) ?_
    refine lv_iload_n C.1 C.2.1 dL_law_414 rfl (lv_at hl 0 rfl) ?_
    refine lv_iconst (v := 2) C.1 C.2.1 dL_law_415 (by decide) ?_
    refine k_iadd (v := 2) C (by decide) dL_law_416 ?_
    refine k_sld (v := y2) C hX hbl hbA Wd (vp_in_iff.mpr (by decide)) hy2 dL_law_417 ?_
    refine lv_aload_n C.1 C.2.1 dL_law_418 rfl (lv_at hl 3 rfl) ?_
    refine lv_iload_n C.1 C.2.1 dL_law_419 rfl (lv_at hl 0 rfl) ?_
    refine lv_iconst (v := 3) C.1 C.2.1 dL_law_420 (by decide) ?_
    refine k_iadd (v := 3) C (by decide) dL_law_421 ?_
    refine k_sld (v := y3) C hX hbl hbA Wd (vp_in_iff.mpr (by decide)) hy3 dL_law_422 ?_
    refine k_ci Wd [18, 19, 20, 21, 22] [0, 1, 2, 3, 4, 5, 6, 7, 8, 9, 10, 11, 12, 13, 14, 15, 16, 17] rfl (wr := [(q5961, .inr (11, [.ref q5963, .int 0, .ref q5964, .ref q5965, .ref q5966, .ref q5967, .ref q5968, .ref q5969])), (q5963, .inl (e5970, 6, .inr (.inr (.inr (.inr (va_up (va_up (va_up (va_up (va_up (va_up (fun _ => none) 0 (some q5971)) 1 (some q5972)) 2 (some q5973)) 3 (some q5974)) 4 (some q5975)) 5 (some q5976))))))), (q5971, .inr (8, [.ref q5977, .int 0])), (q5972, .inr (8, [.ref q5978, .int 0])), (q5973, .inr (8, [.ref q5979, .int 0])), (q5974, .inr (8, [.ref q5980, .int 0])), (q5975, .inr (8, [.ref q5981, .int 0])), (q5976, .inr (8, [.ref q5982, .int 0])), (q5968, .inr (4, [.ref q6010, .ref q6011, .ref q6012, .int (-1), .int (-1), .ref q6013, .ref q6014, .ref q6015, .ref q6016, .ref q6017])), (q6010, .inr (2, [.int (-1), .int (-1), .int 0, .int 0, .ref q6043, .ref q6044])), (q6043, .inr (3, [.ref q6045, .ref q6046, .int 0, .int 0, .int 0, .ref q6047, .ref q6048])), (q6045, .inr (1, [.ref q6049, .int 0, .ref q6050, .ref q6051, .ref q6052, .ref q6053, .ref q6054, .ref q6055, .ref q6056, .ref q6057, .ref q6058, .ref q6059, .ref q6060, .ref q6061])), (q6061, .inl (e6062, 480, .inl (fun _ => 0))), (q6047, .inl (e6063, 6, .inl (fun _ => 0))), (q6044, .inr (3, [.ref q6064, .ref q6065, .int 0, .int 0, .int 0, .ref q6066, .ref q6067])), (q6064, .inr (1, [.ref q6068, .int 0, .ref q6069, .ref q6070, .ref q6071, .ref q6072, .ref q6073, .ref q6074, .ref q6075, .ref q6076, .ref q6077, .ref q6078, .ref q6079, .ref q6080])), (q6080, .inl (e6081, 480, .inl (fun _ => 0))), (q6066, .inl (e6082, 6, .inl (fun _ => 0)))]) rfl (by decide) (by decide) (cells' := 271) (slots' := 91330) (by decide) (by decide) (k_runV (rest := [.int (-1)]) C aks Wd cs_L_55 (kcX12_judge l D q6104 q6106 q6107 q6108 q6109 q6110 q6111 q6112 q6113 q6114 q6115 q6116 q6117 q6118 q6119 q6120 q6121 q6122 q6123 q6124 q6125 q6126 q6127 q6128 q6129 q6130 y1 y2 y3 e6132 e6140 e6142 e6143 _ ) [18, 19, 20, 21, 22] rfl (by decide) [5, 6, 7, 8] rfl 18 12 rfl rfl rfl rfl rfl ⟨(Nat.le_of_ble_eq_true rfl), (Nat.le_of_ble_eq_true rfl)⟩ hl.1 rfl rfl (Nat.le_of_ble_eq_true rfl) ⟨(Nat.le_of_ble_eq_true rfl), (Nat.le_of_ble_eq_true rfl)⟩ dL_law_423) (fun r _ H locs w9048 Wd => ?_)
    have Wd : wX D [(e5970, .object RX8), (e6062, .int), (e6063, .int), (e6081, .int), (e6082, .int), (e6132, .int), (e6140, .int), (e6142, .int), (e6143, .int)] s [(q5961, .inr (11, [.ref q5963, .int 0, .ref q5964, .ref q5965, .ref q5966, .ref q5967, .ref q5968, .ref q5969])), (q5963, .inl (e5970, 6, .inr (.inr (.inr (.inr (va_up (va_up (va_up (va_up (va_up (va_up (fun _ => none) 0 (some q5971)) 1 (some q5972)) 2 (some q5973)) 3 (some q5974)) 4 (some q5975)) 5 (some q5976))))))), (q5971, .inr (8, [.ref q5977, .int 0])), (q5972, .inr (8, [.ref q5978, .int 0])), (q5973, .inr (8, [.ref q5979, .int 0])), (q5974, .inr (8, [.ref q5980, .int 0])), (q5975, .inr (8, [.ref q5981, .int 0])), (q5976, .inr (8, [.ref q5982, .int 0])), (q5968, .inr (4, [.ref q6010, .ref q6011, .ref q6012, .int (-1), .int (-1), .ref q6013, .ref q6014, .ref q6015, .ref q6016, .ref q6017])), (q6010, .inr (2, [.int (-1), .int (-1), .int 0, .int 0, .ref q6043, .ref q6044])), (q6043, .inr (3, [.ref q6045, .ref q6046, .int 0, .int 0, .int 0, .ref q6047, .ref q6048])), (q6045, .inr (1, [.ref q6049, .int 0, .ref q6050, .ref q6051, .ref q6052, .ref q6053, .ref q6054, .ref q6055, .ref q6056, .ref q6057, .ref q6058, .ref q6059, .ref q6060, .ref q6061])), (q6061, .inl (e6062, 480, .inl (fun _ => 0))), (q6047, .inl (e6063, 6, .inl (fun _ => 0))), (q6044, .inr (3, [.ref q6064, .ref q6065, .int 0, .int 0, .int 0, .ref q6066, .ref q6067])), (q6064, .inr (1, [.ref q6068, .int 0, .ref q6069, .ref q6070, .ref q6071, .ref q6072, .ref q6073, .ref q6074, .ref q6075, .ref q6076, .ref q6077, .ref q6078, .ref q6079, .ref q6080])), (q6080, .inl (e6081, 480, .inl (fun _ => 0))), (q6066, .inl (e6082, 6, .inl (fun _ => 0)))] _ A s.heap _ := Wd
    rcases w9048 with ⟨c9049, rfl⟩ | ⟨c9050, c9051, rfl⟩ | ⟨c9052, c9053, c9054, rfl⟩ | ⟨c9055, c9056, c9057, c9058, rfl⟩ | ⟨c9059, c9060, c9061, c9062, c9063, rfl⟩ | ⟨c9064, c9065, c9066, c9067, c9068, c9069, rfl⟩ | ⟨c9070, c9071, c9072, c9073, c9074, c9075, c9076, rfl⟩ | ⟨c9077, c9078, c9079, c9080, c9081, c9082, c9083, c9084, rfl⟩ | ⟨c9085, c9086, c9087, c9088, c9089, c9090, c9091, c9092, c9093, rfl⟩ | ⟨c9094, c9095, c9096, c9097, c9098, c9099, c9100, c9101, c9102, rfl⟩
    · exact absurd c9049 c7892
    · refine lv_icmp_eq (tgt := 801) C.1 C.2.1 dL_law_426 (by decide) (fun _ => ?_) (fun c9103 => absurd c9103 (by decide))
      exact tail _ _ _ (k_sub Wd [] rfl (by decide) [] rfl) (lv_sub hl [0, 3] rfl)
    · exact False.elim (by have z0 := kz_nlt c7892; have z1 := kz_nlt c8129; have z2 := kz_nlt c9033; have z3 := kz_le c9034; have z4 := kz_nlt c9052; have z5 := kz_nlt c9053; have t0 : (0 : Int32).toInt = 0 := (by decide); have t6 : (6 : Int32).toInt = 6 := (by decide); have t5 : (5 : Int32).toInt = 5 := (by decide); omega)
    · exact False.elim (by have z0 := kz_nlt c7892; have z1 := kz_nlt c8129; have z2 := kz_nlt c9033; have z3 := kz_le c9034; have z4 := kz_nlt c9055; have z5 := kz_nlt c9056; have t0 : (0 : Int32).toInt = 0 := (by decide); have t6 : (6 : Int32).toInt = 6 := (by decide); have t5 : (5 : Int32).toInt = 5 := (by decide); omega)
    · exact False.elim (by have z0 := kz_nlt c7892; have z1 := kz_nlt c8129; have z2 := kz_nlt c9033; have z3 := kz_le c9034; have z4 := kz_nlt c9059; have z5 := kz_nlt c9060; have t0 : (0 : Int32).toInt = 0 := (by decide); have t6 : (6 : Int32).toInt = 6 := (by decide); have t5 : (5 : Int32).toInt = 5 := (by decide); omega)
    · exact False.elim (by have z0 := kz_nlt c7892; have z1 := kz_nlt c8129; have z2 := kz_nlt c9033; have z3 := kz_le c9034; have z4 := kz_nlt c9064; have z5 := kz_nlt c9065; have t0 : (0 : Int32).toInt = 0 := (by decide); have t6 : (6 : Int32).toInt = 6 := (by decide); have t5 : (5 : Int32).toInt = 5 := (by decide); omega)
    · exact False.elim (by have z0 := kz_nlt c7892; have z1 := kz_nlt c8129; have z2 := kz_nlt c9033; have z3 := kz_le c9034; have z4 := kz_nlt c9070; have z5 := kz_nlt c9071; have t0 : (0 : Int32).toInt = 0 := (by decide); have t6 : (6 : Int32).toInt = 6 := (by decide); have t5 : (5 : Int32).toInt = 5 := (by decide); omega)
    · exact False.elim (by have z0 := kz_nlt c7892; have z1 := kz_nlt c8129; have z2 := kz_nlt c9033; have z3 := kz_le c9034; have z4 := kz_nlt c9077; have z5 := kz_nlt c9078; have t0 : (0 : Int32).toInt = 0 := (by decide); have t6 : (6 : Int32).toInt = 6 := (by decide); have t5 : (5 : Int32).toInt = 5 := (by decide); omega)
    · exact False.elim (by have z0 := kz_nlt c7892; have z1 := kz_nlt c8129; have z2 := kz_nlt c9033; have z3 := kz_le c9034; have z4 := kz_nlt c9085; have z5 := kz_nlt c9086; have t0 : (0 : Int32).toInt = 0 := (by decide); have t6 : (6 : Int32).toInt = 6 := (by decide); have t5 : (5 : Int32).toInt = 5 := (by decide); omega)
    · exact False.elim (by have z0 := kz_nlt c7892; have z1 := kz_nlt c8129; have z2 := kz_nlt c9033; have z3 := kz_le c9034; have z4 := kz_nlt c9094; have z5 := kz_nlt c9095; have t0 : (0 : Int32).toInt = 0 := (by decide); have t6 : (6 : Int32).toInt = 6 := (by decide); have t5 : (5 : Int32).toInt = 5 := (by decide); omega)
  · refine lv_aload_n C.1 C.2.1 dL_law_407 rfl (lv_at hl 1 rfl) ?_
    refine lv_aload_n C.1 C.2.1 dL_law_408 rfl (lv_at hl 3 rfl) ?_
    refine lv_iload_n C.1 C.2.1 dL_law_409 rfl (lv_at hl 0 rfl) ?_
    refine lv_iconst (v := 1) C.1 C.2.1 dL_law_410 (by decide) ?_
    refine k_iadd (v := 1) C (by decide) dL_law_411 ?_
    refine k_sld (v := y1) C hX hbl hbA Wd (vp_in_iff.mpr (by decide)) hy1 dL_law_412 ?_
    refine lv_aload_n C.1 C.2.1 dL_law_413 rfl (lv_at hl 3 rfl) ?_
    refine lv_iload_n C.1 C.2.1 dL_law_414 rfl (lv_at hl 0 rfl) ?_
    refine lv_iconst (v := 2) C.1 C.2.1 dL_law_415 (by decide) ?_
    refine k_iadd (v := 2) C (by decide) dL_law_416 ?_
    refine k_sld (v := y2) C hX hbl hbA Wd (vp_in_iff.mpr (by decide)) hy2 dL_law_417 ?_
    refine lv_aload_n C.1 C.2.1 dL_law_418 rfl (lv_at hl 3 rfl) ?_
    refine lv_iload_n C.1 C.2.1 dL_law_419 rfl (lv_at hl 0 rfl) ?_
    refine lv_iconst (v := 3) C.1 C.2.1 dL_law_420 (by decide) ?_
    refine k_iadd (v := 3) C (by decide) dL_law_421 ?_
    refine k_sld (v := y3) C hX hbl hbA Wd (vp_in_iff.mpr (by decide)) hy3 dL_law_422 ?_
    refine k_ci Wd [18, 19, 20, 21, 22] [0, 1, 2, 3, 4, 5, 6, 7, 8, 9, 10, 11, 12, 13, 14, 15, 16, 17] rfl (wr := [(q5961, .inr (11, [.ref q5963, .int 0, .ref q5964, .ref q5965, .ref q5966, .ref q5967, .ref q5968, .ref q5969])), (q5963, .inl (e5970, 6, .inr (.inr (.inr (.inr (va_up (va_up (va_up (va_up (va_up (va_up (fun _ => none) 0 (some q5971)) 1 (some q5972)) 2 (some q5973)) 3 (some q5974)) 4 (some q5975)) 5 (some q5976))))))), (q5971, .inr (8, [.ref q5977, .int 0])), (q5972, .inr (8, [.ref q5978, .int 0])), (q5973, .inr (8, [.ref q5979, .int 0])), (q5974, .inr (8, [.ref q5980, .int 0])), (q5975, .inr (8, [.ref q5981, .int 0])), (q5976, .inr (8, [.ref q5982, .int 0])), (q5968, .inr (4, [.ref q6010, .ref q6011, .ref q6012, .int (-1), .int (-1), .ref q6013, .ref q6014, .ref q6015, .ref q6016, .ref q6017])), (q6010, .inr (2, [.int (-1), .int (-1), .int 0, .int 0, .ref q6043, .ref q6044])), (q6043, .inr (3, [.ref q6045, .ref q6046, .int 0, .int 0, .int 0, .ref q6047, .ref q6048])), (q6045, .inr (1, [.ref q6049, .int 0, .ref q6050, .ref q6051, .ref q6052, .ref q6053, .ref q6054, .ref q6055, .ref q6056, .ref q6057, .ref q6058, .ref q6059, .ref q6060, .ref q6061])), (q6061, .inl (e6062, 480, .inl (fun _ => 0))), (q6047, .inl (e6063, 6, .inl (fun _ => 0))), (q6044, .inr (3, [.ref q6064, .ref q6065, .int 0, .int 0, .int 0, .ref q6066, .ref q6067])), (q6064, .inr (1, [.ref q6068, .int 0, .ref q6069, .ref q6070, .ref q6071, .ref q6072, .ref q6073, .ref q6074, .ref q6075, .ref q6076, .ref q6077, .ref q6078, .ref q6079, .ref q6080])), (q6080, .inl (e6081, 480, .inl (fun _ => 0))), (q6066, .inl (e6082, 6, .inl (fun _ => 0)))]) rfl (by decide) (by decide) (cells' := 271) (slots' := 91330) (by decide) (by decide) (k_runV (rest := [.int (-1)]) C aks Wd cs_L_55 (kcX12_judge l D q6104 q6106 q6107 q6108 q6109 q6110 q6111 q6112 q6113 q6114 q6115 q6116 q6117 q6118 q6119 q6120 q6121 q6122 q6123 q6124 q6125 q6126 q6127 q6128 q6129 q6130 y1 y2 y3 e6132 e6140 e6142 e6143 _ ) [18, 19, 20, 21, 22] rfl (by decide) [5, 6, 7, 8] rfl 18 12 rfl rfl rfl rfl rfl ⟨(Nat.le_of_ble_eq_true rfl), (Nat.le_of_ble_eq_true rfl)⟩ hl.1 rfl rfl (Nat.le_of_ble_eq_true rfl) ⟨(Nat.le_of_ble_eq_true rfl), (Nat.le_of_ble_eq_true rfl)⟩ dL_law_423) (fun r _ H locs w9104 Wd => ?_)
    have Wd : wX D [(e5970, .object RX8), (e6062, .int), (e6063, .int), (e6081, .int), (e6082, .int), (e6132, .int), (e6140, .int), (e6142, .int), (e6143, .int)] s [(q5961, .inr (11, [.ref q5963, .int 0, .ref q5964, .ref q5965, .ref q5966, .ref q5967, .ref q5968, .ref q5969])), (q5963, .inl (e5970, 6, .inr (.inr (.inr (.inr (va_up (va_up (va_up (va_up (va_up (va_up (fun _ => none) 0 (some q5971)) 1 (some q5972)) 2 (some q5973)) 3 (some q5974)) 4 (some q5975)) 5 (some q5976))))))), (q5971, .inr (8, [.ref q5977, .int 0])), (q5972, .inr (8, [.ref q5978, .int 0])), (q5973, .inr (8, [.ref q5979, .int 0])), (q5974, .inr (8, [.ref q5980, .int 0])), (q5975, .inr (8, [.ref q5981, .int 0])), (q5976, .inr (8, [.ref q5982, .int 0])), (q5968, .inr (4, [.ref q6010, .ref q6011, .ref q6012, .int (-1), .int (-1), .ref q6013, .ref q6014, .ref q6015, .ref q6016, .ref q6017])), (q6010, .inr (2, [.int (-1), .int (-1), .int 0, .int 0, .ref q6043, .ref q6044])), (q6043, .inr (3, [.ref q6045, .ref q6046, .int 0, .int 0, .int 0, .ref q6047, .ref q6048])), (q6045, .inr (1, [.ref q6049, .int 0, .ref q6050, .ref q6051, .ref q6052, .ref q6053, .ref q6054, .ref q6055, .ref q6056, .ref q6057, .ref q6058, .ref q6059, .ref q6060, .ref q6061])), (q6061, .inl (e6062, 480, .inl (fun _ => 0))), (q6047, .inl (e6063, 6, .inl (fun _ => 0))), (q6044, .inr (3, [.ref q6064, .ref q6065, .int 0, .int 0, .int 0, .ref q6066, .ref q6067])), (q6064, .inr (1, [.ref q6068, .int 0, .ref q6069, .ref q6070, .ref q6071, .ref q6072, .ref q6073, .ref q6074, .ref q6075, .ref q6076, .ref q6077, .ref q6078, .ref q6079, .ref q6080])), (q6080, .inl (e6081, 480, .inl (fun _ => 0))), (q6066, .inl (e6082, 6, .inl (fun _ => 0)))] _ A s.heap _ := Wd
    rcases w9104 with ⟨c9105, rfl⟩ | ⟨c9106, c9107, rfl⟩ | ⟨c9108, c9109, c9110, rfl⟩ | ⟨c9111, c9112, c9113, c9114, rfl⟩ | ⟨c9115, c9116, c9117, c9118, c9119, rfl⟩ | ⟨c9120, c9121, c9122, c9123, c9124, c9125, rfl⟩ | ⟨c9126, c9127, c9128, c9129, c9130, c9131, c9132, rfl⟩ | ⟨c9133, c9134, c9135, c9136, c9137, c9138, c9139, c9140, rfl⟩ | ⟨c9141, c9142, c9143, c9144, c9145, c9146, c9147, c9148, c9149, rfl⟩ | ⟨c9150, c9151, c9152, c9153, c9154, c9155, c9156, c9157, c9158, rfl⟩
    · exact absurd c9105 c7892
    · refine lv_icmp_eq (tgt := 801) C.1 C.2.1 dL_law_426 (by decide) (fun _ => ?_) (fun c9159 => absurd c9159 (by decide))
      exact tail _ _ _ (k_sub Wd [] rfl (by decide) [] rfl) (lv_sub hl [0, 3] rfl)
    · exact False.elim (by have z0 := kz_nlt c7892; have z1 := kz_nlt c8129; have z2 := kz_nlt c9036; have z3 := kz_le c9037; have z4 := kz_nlt c9108; have z5 := kz_nlt c9109; have t0 : (0 : Int32).toInt = 0 := (by decide); have t6 : (6 : Int32).toInt = 6 := (by decide); have t5 : (5 : Int32).toInt = 5 := (by decide); omega)
    · exact False.elim (by have z0 := kz_nlt c7892; have z1 := kz_nlt c8129; have z2 := kz_nlt c9036; have z3 := kz_le c9037; have z4 := kz_nlt c9111; have z5 := kz_nlt c9112; have t0 : (0 : Int32).toInt = 0 := (by decide); have t6 : (6 : Int32).toInt = 6 := (by decide); have t5 : (5 : Int32).toInt = 5 := (by decide); omega)
    · exact False.elim (by have z0 := kz_nlt c7892; have z1 := kz_nlt c8129; have z2 := kz_nlt c9036; have z3 := kz_le c9037; have z4 := kz_nlt c9115; have z5 := kz_nlt c9116; have t0 : (0 : Int32).toInt = 0 := (by decide); have t6 : (6 : Int32).toInt = 6 := (by decide); have t5 : (5 : Int32).toInt = 5 := (by decide); omega)
    · exact False.elim (by have z0 := kz_nlt c7892; have z1 := kz_nlt c8129; have z2 := kz_nlt c9036; have z3 := kz_le c9037; have z4 := kz_nlt c9120; have z5 := kz_nlt c9121; have t0 : (0 : Int32).toInt = 0 := (by decide); have t6 : (6 : Int32).toInt = 6 := (by decide); have t5 : (5 : Int32).toInt = 5 := (by decide); omega)
    · exact False.elim (by have z0 := kz_nlt c7892; have z1 := kz_nlt c8129; have z2 := kz_nlt c9036; have z3 := kz_le c9037; have z4 := kz_nlt c9126; have z5 := kz_nlt c9127; have t0 : (0 : Int32).toInt = 0 := (by decide); have t6 : (6 : Int32).toInt = 6 := (by decide); have t5 : (5 : Int32).toInt = 5 := (by decide); omega)
    · exact False.elim (by have z0 := kz_nlt c7892; have z1 := kz_nlt c8129; have z2 := kz_nlt c9036; have z3 := kz_le c9037; have z4 := kz_nlt c9133; have z5 := kz_nlt c9134; have t0 : (0 : Int32).toInt = 0 := (by decide); have t6 : (6 : Int32).toInt = 6 := (by decide); have t5 : (5 : Int32).toInt = 5 := (by decide); omega)
    · exact False.elim (by have z0 := kz_nlt c7892; have z1 := kz_nlt c8129; have z2 := kz_nlt c9036; have z3 := kz_le c9037; have z4 := kz_nlt c9141; have z5 := kz_nlt c9142; have t0 : (0 : Int32).toInt = 0 := (by decide); have t6 : (6 : Int32).toInt = 6 := (by decide); have t5 : (5 : Int32).toInt = 5 := (by decide); omega)
    · exact False.elim (by have z0 := kz_nlt c7892; have z1 := kz_nlt c8129; have z2 := kz_nlt c9036; have z3 := kz_le c9037; have z4 := kz_nlt c9150; have z5 := kz_nlt c9151; have t0 : (0 : Int32).toInt = 0 := (by decide); have t6 : (6 : Int32).toInt = 6 := (by decide); have t5 : (5 : Int32).toInt = 5 := (by decide); omega)
  · refine lv_aload_n C.1 C.2.1 dL_law_407 rfl (lv_at hl 1 rfl) ?_
    refine lv_aload_n C.1 C.2.1 dL_law_408 rfl (lv_at hl 3 rfl) ?_
    refine lv_iload_n C.1 C.2.1 dL_law_409 rfl (lv_at hl 0 rfl) ?_
    refine lv_iconst (v := 1) C.1 C.2.1 dL_law_410 (by decide) ?_
    refine k_iadd (v := 1) C (by decide) dL_law_411 ?_
    refine k_sld (v := y1) C hX hbl hbA Wd (vp_in_iff.mpr (by decide)) hy1 dL_law_412 ?_
    refine lv_aload_n C.1 C.2.1 dL_law_413 rfl (lv_at hl 3 rfl) ?_
    refine lv_iload_n C.1 C.2.1 dL_law_414 rfl (lv_at hl 0 rfl) ?_
    refine lv_iconst (v := 2) C.1 C.2.1 dL_law_415 (by decide) ?_
    refine k_iadd (v := 2) C (by decide) dL_law_416 ?_
    refine k_sld (v := y2) C hX hbl hbA Wd (vp_in_iff.mpr (by decide)) hy2 dL_law_417 ?_
    refine lv_aload_n C.1 C.2.1 dL_law_418 rfl (lv_at hl 3 rfl) ?_
    refine lv_iload_n C.1 C.2.1 dL_law_419 rfl (lv_at hl 0 rfl) ?_
    refine lv_iconst (v := 3) C.1 C.2.1 dL_law_420 (by decide) ?_
    refine k_iadd (v := 3) C (by decide) dL_law_421 ?_
    refine k_sld (v := y3) C hX hbl hbA Wd (vp_in_iff.mpr (by decide)) hy3 dL_law_422 ?_
    refine k_ci Wd [18, 19, 20, 21, 22] [0, 1, 2, 3, 4, 5, 6, 7, 8, 9, 10, 11, 12, 13, 14, 15, 16, 17] rfl (wr := [(q5961, .inr (11, [.ref q5963, .int 0, .ref q5964, .ref q5965, .ref q5966, .ref q5967, .ref q5968, .ref q5969])), (q5963, .inl (e5970, 6, .inr (.inr (.inr (.inr (va_up (va_up (va_up (va_up (va_up (va_up (fun _ => none) 0 (some q5971)) 1 (some q5972)) 2 (some q5973)) 3 (some q5974)) 4 (some q5975)) 5 (some q5976))))))), (q5971, .inr (8, [.ref q5977, .int 0])), (q5972, .inr (8, [.ref q5978, .int 0])), (q5973, .inr (8, [.ref q5979, .int 0])), (q5974, .inr (8, [.ref q5980, .int 0])), (q5975, .inr (8, [.ref q5981, .int 0])), (q5976, .inr (8, [.ref q5982, .int 0])), (q5968, .inr (4, [.ref q6010, .ref q6011, .ref q6012, .int (-1), .int (-1), .ref q6013, .ref q6014, .ref q6015, .ref q6016, .ref q6017])), (q6010, .inr (2, [.int (-1), .int (-1), .int 0, .int 0, .ref q6043, .ref q6044])), (q6043, .inr (3, [.ref q6045, .ref q6046, .int 0, .int 0, .int 0, .ref q6047, .ref q6048])), (q6045, .inr (1, [.ref q6049, .int 0, .ref q6050, .ref q6051, .ref q6052, .ref q6053, .ref q6054, .ref q6055, .ref q6056, .ref q6057, .ref q6058, .ref q6059, .ref q6060, .ref q6061])), (q6061, .inl (e6062, 480, .inl (fun _ => 0))), (q6047, .inl (e6063, 6, .inl (fun _ => 0))), (q6044, .inr (3, [.ref q6064, .ref q6065, .int 0, .int 0, .int 0, .ref q6066, .ref q6067])), (q6064, .inr (1, [.ref q6068, .int 0, .ref q6069, .ref q6070, .ref q6071, .ref q6072, .ref q6073, .ref q6074, .ref q6075, .ref q6076, .ref q6077, .ref q6078, .ref q6079, .ref q6080])), (q6080, .inl (e6081, 480, .inl (fun _ => 0))), (q6066, .inl (e6082, 6, .inl (fun _ => 0)))]) rfl (by decide) (by decide) (cells' := 271) (slots' := 91330) (by decide) (by decide) (k_runV (rest := [.int (-1)]) C aks Wd cs_L_55 (kcX12_judge l D q6104 q6106 q6107 q6108 q6109 q6110 q6111 q6112 q6113 q6114 q6115 q6116 q6117 q6118 q6119 q6120 q6121 q6122 q6123 q6124 q6125 q6126 q6127 q6128 q6129 q6130 y1 y2 y3 e6132 e6140 e6142 e6143 _ ) [18, 19, 20, 21, 22] rfl (by decide) [5, 6, 7, 8] rfl 18 12 rfl rfl rfl rfl rfl ⟨(Nat.le_of_ble_eq_true rfl), (Nat.le_of_ble_eq_true rfl)⟩ hl.1 rfl rfl (Nat.le_of_ble_eq_true rfl) ⟨(Nat.le_of_ble_eq_true rfl), (Nat.le_of_ble_eq_true rfl)⟩ dL_law_423) (fun r _ H locs w9160 Wd => ?_)
    have Wd : wX D [(e5970, .object RX8), (e6062, .int), (e6063, .int), (e6081, .int), (e6082, .int), (e6132, .int), (e6140, .int), (e6142, .int), (e6143, .int)] s [(q5961, .inr (11, [.ref q5963, .int 0, .ref q5964, .ref q5965, .ref q5966, .ref q5967, .ref q5968, .ref q5969])), (q5963, .inl (e5970, 6, .inr (.inr (.inr (.inr (va_up (va_up (va_up (va_up (va_up (va_up (fun _ => none) 0 (some q5971)) 1 (some q5972)) 2 (some q5973)) 3 (some q5974)) 4 (some q5975)) 5 (some q5976))))))), (q5971, .inr (8, [.ref q5977, .int 0])), (q5972, .inr (8, [.ref q5978, .int 0])), (q5973, .inr (8, [.ref q5979, .int 0])), (q5974, .inr (8, [.ref q5980, .int 0])), (q5975, .inr (8, [.ref q5981, .int 0])), (q5976, .inr (8, [.ref q5982, .int 0])), (q5968, .inr (4, [.ref q6010, .ref q6011, .ref q6012, .int (-1), .int (-1), .ref q6013, .ref q6014, .ref q6015, .ref q6016, .ref q6017])), (q6010, .inr (2, [.int (-1), .int (-1), .int 0, .int 0, .ref q6043, .ref q6044])), (q6043, .inr (3, [.ref q6045, .ref q6046, .int 0, .int 0, .int 0, .ref q6047, .ref q6048])), (q6045, .inr (1, [.ref q6049, .int 0, .ref q6050, .ref q6051, .ref q6052, .ref q6053, .ref q6054, .ref q6055, .ref q6056, .ref q6057, .ref q6058, .ref q6059, .ref q6060, .ref q6061])), (q6061, .inl (e6062, 480, .inl (fun _ => 0))), (q6047, .inl (e6063, 6, .inl (fun _ => 0))), (q6044, .inr (3, [.ref q6064, .ref q6065, .int 0, .int 0, .int 0, .ref q6066, .ref q6067])), (q6064, .inr (1, [.ref q6068, .int 0, .ref q6069, .ref q6070, .ref q6071, .ref q6072, .ref q6073, .ref q6074, .ref q6075, .ref q6076, .ref q6077, .ref q6078, .ref q6079, .ref q6080])), (q6080, .inl (e6081, 480, .inl (fun _ => 0))), (q6066, .inl (e6082, 6, .inl (fun _ => 0)))] _ A s.heap _ := Wd
    rcases w9160 with ⟨c9161, rfl⟩ | ⟨c9162, c9163, rfl⟩ | ⟨c9164, c9165, c9166, rfl⟩ | ⟨c9167, c9168, c9169, c9170, rfl⟩ | ⟨c9171, c9172, c9173, c9174, c9175, rfl⟩ | ⟨c9176, c9177, c9178, c9179, c9180, c9181, rfl⟩ | ⟨c9182, c9183, c9184, c9185, c9186, c9187, c9188, rfl⟩ | ⟨c9189, c9190, c9191, c9192, c9193, c9194, c9195, c9196, rfl⟩ | ⟨c9197, c9198, c9199, c9200, c9201, c9202, c9203, c9204, c9205, rfl⟩ | ⟨c9206, c9207, c9208, c9209, c9210, c9211, c9212, c9213, c9214, rfl⟩
    · exact absurd c9161 c7892
    · refine lv_icmp_eq (tgt := 801) C.1 C.2.1 dL_law_426 (by decide) (fun _ => ?_) (fun c9215 => absurd c9215 (by decide))
      exact tail _ _ _ (k_sub Wd [] rfl (by decide) [] rfl) (lv_sub hl [0, 3] rfl)
    · exact False.elim (by have z0 := kz_nlt c7892; have z1 := kz_nlt c8129; have z2 := kz_nlt c9040; have z3 := kz_le c9041; have z4 := kz_nlt c9164; have z5 := kz_nlt c9165; have t0 : (0 : Int32).toInt = 0 := (by decide); have t6 : (6 : Int32).toInt = 6 := (by decide); have t5 : (5 : Int32).toInt = 5 := (by decide); omega)
    · exact False.elim (by have z0 := kz_nlt c7892; have z1 := kz_nlt c8129; have z2 := kz_nlt c9040; have z3 := kz_le c9041; have z4 := kz_nlt c9167; have z5 := kz_nlt c9168; have t0 : (0 : Int32).toInt = 0 := (by decide); have t6 : (6 : Int32).toInt = 6 := (by decide); have t5 : (5 : Int32).toInt = 5 := (by decide); omega)
    · exact False.elim (by have z0 := kz_nlt c7892; have z1 := kz_nlt c8129; have z2 := kz_nlt c9040; have z3 := kz_le c9041; have z4 := kz_nlt c9171; have z5 := kz_nlt c9172; have t0 : (0 : Int32).toInt = 0 := (by decide); have t6 : (6 : Int32).toInt = 6 := (by decide); have t5 : (5 : Int32).toInt = 5 := (by decide); omega)
    · exact False.elim (by have z0 := kz_nlt c7892; have z1 := kz_nlt c8129; have z2 := kz_nlt c9040; have z3 := kz_le c9041; have z4 := kz_nlt c9176; have z5 := kz_nlt c9177; have t0 : (0 : Int32).toInt = 0 := (by decide); have t6 : (6 : Int32).toInt = 6 := (by decide); have t5 : (5 : Int32).toInt = 5 := (by decide); omega)
    · exact False.elim (by have z0 := kz_nlt c7892; have z1 := kz_nlt c8129; have z2 := kz_nlt c9040; have z3 := kz_le c9041; have z4 := kz_nlt c9182; have z5 := kz_nlt c9183; have t0 : (0 : Int32).toInt = 0 := (by decide); have t6 : (6 : Int32).toInt = 6 := (by decide); have t5 : (5 : Int32).toInt = 5 := (by decide); omega)
    · exact False.elim (by have z0 := kz_nlt c7892; have z1 := kz_nlt c8129; have z2 := kz_nlt c9040; have z3 := kz_le c9041; have z4 := kz_nlt c9189; have z5 := kz_nlt c9190; have t0 : (0 : Int32).toInt = 0 := (by decide); have t6 : (6 : Int32).toInt = 6 := (by decide); have t5 : (5 : Int32).toInt = 5 := (by decide); omega)
    · exact False.elim (by have z0 := kz_nlt c7892; have z1 := kz_nlt c8129; have z2 := kz_nlt c9040; have z3 := kz_le c9041; have z4 := kz_nlt c9197; have z5 := kz_nlt c9198; have t0 : (0 : Int32).toInt = 0 := (by decide); have t6 : (6 : Int32).toInt = 6 := (by decide); have t5 : (5 : Int32).toInt = 5 := (by decide); omega)
    · exact False.elim (by have z0 := kz_nlt c7892; have z1 := kz_nlt c8129; have z2 := kz_nlt c9040; have z3 := kz_le c9041; have z4 := kz_nlt c9206; have z5 := kz_nlt c9207; have t0 : (0 : Int32).toInt = 0 := (by decide); have t6 : (6 : Int32).toInt = 6 := (by decide); have t5 : (5 : Int32).toInt = 5 := (by decide); omega)
  · refine lv_aload_n C.1 C.2.1 dL_law_407 rfl (lv_at hl 1 rfl) ?_
    refine lv_aload_n C.1 C.2.1 dL_law_408 rfl (lv_at hl 3 rfl) ?_
    refine lv_iload_n C.1 C.2.1 dL_law_409 rfl (lv_at hl 0 rfl) ?_
    refine lv_iconst (v := 1) C.1 C.2.1 dL_law_410 (by decide) ?_
    refine k_iadd (v := 1) C (by decide) dL_law_411 ?_
    refine k_sld (v := y1) C hX hbl hbA Wd (vp_in_iff.mpr (by decide)) hy1 dL_law_412 ?_
    refine lv_aload_n C.1 C.2.1 dL_law_413 rfl (lv_at hl 3 rfl) ?_
    refine lv_iload_n C.1 C.2.1 dL_law_414 rfl (lv_at hl 0 rfl) ?_
    refine lv_iconst (v := 2) C.1 C.2.1 dL_law_415 (by decide) ?_
    refine k_iadd (v := 2) C (by decide) dL_law_416 ?_
    refine k_sld (v := y2) C hX hbl hbA Wd (vp_in_iff.mpr (by decide)) hy2 dL_law_417 ?_
    refine lv_aload_n C.1 C.2.1 dL_law_418 rfl (lv_at hl 3 rfl) ?_
    refine lv_iload_n C.1 C.2.1 dL_law_419 rfl (lv_at hl 0 rfl) ?_
    refine lv_iconst (v := 3) C.1 C.2.1 dL_law_420 (by decide) ?_
    refine k_iadd (v := 3) C (by decide) dL_law_421 ?_
    refine k_sld (v := y3) C hX hbl hbA Wd (vp_in_iff.mpr (by decide)) hy3 dL_law_422 ?_
    refine k_ci Wd [18, 19, 20, 21, 22] [0, 1, 2, 3, 4, 5, 6, 7, 8, 9, 10, 11, 12, 13, 14, 15, 16, 17] rfl (wr := [(q5961, .inr (11, [.ref q5963, .int 0, .ref q5964, .ref q5965, .ref q5966, .ref q5967, .ref q5968, .ref q5969])), (q5963, .inl (e5970, 6, .inr (.inr (.inr (.inr (va_up (va_up (va_up (va_up (va_up (va_up (fun _ => none) 0 (some q5971)) 1 (some q5972)) 2 (some q5973)) 3 (some q5974)) 4 (some q5975)) 5 (some q5976))))))), (q5971, .inr (8, [.ref q5977, .int 0])), (q5972, .inr (8, [.ref q5978, .int 0])), (q5973, .inr (8, [.ref q5979, .int 0])), (q5974, .inr (8, [.ref q5980, .int 0])), (q5975, .inr (8, [.ref q5981, .int 0])), (q5976, .inr (8, [.ref q5982, .int 0])), (q5968, .inr (4, [.ref q6010, .ref q6011, .ref q6012, .int (-1), .int (-1), .ref q6013, .ref q6014, .ref q6015, .ref q6016, .ref q6017])), (q6010, .inr (2, [.int (-1), .int (-1), .int 0, .int 0, .ref q6043, .ref q6044])), (q6043, .inr (3, [.ref q6045, .ref q6046, .int 0, .int 0, .int 0, .ref q6047, .ref q6048])), (q6045, .inr (1, [.ref q6049, .int 0, .ref q6050, .ref q6051, .ref q6052, .ref q6053, .ref q6054, .ref q6055, .ref q6056, .ref q6057, .ref q6058, .ref q6059, .ref q6060, .ref q6061])), (q6061, .inl (e6062, 480, .inl (fun _ => 0))), (q6047, .inl (e6063, 6, .inl (fun _ => 0))), (q6044, .inr (3, [.ref q6064, .ref q6065, .int 0, .int 0, .int 0, .ref q6066, .ref q6067])), (q6064, .inr (1, [.ref q6068, .int 0, .ref q6069, .ref q6070, .ref q6071, .ref q6072, .ref q6073, .ref q6074, .ref q6075, .ref q6076, .ref q6077, .ref q6078, .ref q6079, .ref q6080])), (q6080, .inl (e6081, 480, .inl (fun _ => 0))), (q6066, .inl (e6082, 6, .inl (fun _ => 0)))]) rfl (by decide) (by decide) (cells' := 271) (slots' := 91330) (by decide) (by decide) (k_runV (rest := [.int (-1)]) C aks Wd cs_L_55 (kcX12_judge l D q6104 q6106 q6107 q6108 q6109 q6110 q6111 q6112 q6113 q6114 q6115 q6116 q6117 q6118 q6119 q6120 q6121 q6122 q6123 q6124 q6125 q6126 q6127 q6128 q6129 q6130 y1 y2 y3 e6132 e6140 e6142 e6143 _ ) [18, 19, 20, 21, 22] rfl (by decide) [5, 6, 7, 8] rfl 18 12 rfl rfl rfl rfl rfl ⟨(Nat.le_of_ble_eq_true rfl), (Nat.le_of_ble_eq_true rfl)⟩ hl.1 rfl rfl (Nat.le_of_ble_eq_true rfl) ⟨(Nat.le_of_ble_eq_true rfl), (Nat.le_of_ble_eq_true rfl)⟩ dL_law_423) (fun r _ H locs w9216 Wd => ?_)
    have Wd : wX D [(e5970, .object RX8), (e6062, .int), (e6063, .int), (e6081, .int), (e6082, .int), (e6132, .int), (e6140, .int), (e6142, .int), (e6143, .int)] s [(q5961, .inr (11, [.ref q5963, .int 0, .ref q5964, .ref q5965, .ref q5966, .ref q5967, .ref q5968, .ref q5969])), (q5963, .inl (e5970, 6, .inr (.inr (.inr (.inr (va_up (va_up (va_up (va_up (va_up (va_up (fun _ => none) 0 (some q5971)) 1 (some q5972)) 2 (some q5973)) 3 (some q5974)) 4 (some q5975)) 5 (some q5976))))))), (q5971, .inr (8, [.ref q5977, .int 0])), (q5972, .inr (8, [.ref q5978, .int 0])), (q5973, .inr (8, [.ref q5979, .int 0])), (q5974, .inr (8, [.ref q5980, .int 0])), (q5975, .inr (8, [.ref q5981, .int 0])), (q5976, .inr (8, [.ref q5982, .int 0])), (q5968, .inr (4, [.ref q6010, .ref q6011, .ref q6012, .int (-1), .int (-1), .ref q6013, .ref q6014, .ref q6015, .ref q6016, .ref q6017])), (q6010, .inr (2, [.int (-1), .int (-1), .int 0, .int 0, .ref q6043, .ref q6044])), (q6043, .inr (3, [.ref q6045, .ref q6046, .int 0, .int 0, .int 0, .ref q6047, .ref q6048])), (q6045, .inr (1, [.ref q6049, .int 0, .ref q6050, .ref q6051, .ref q6052, .ref q6053, .ref q6054, .ref q6055, .ref q6056, .ref q6057, .ref q6058, .ref q6059, .ref q6060, .ref q6061])), (q6061, .inl (e6062, 480, .inl (fun _ => 0))), (q6047, .inl (e6063, 6, .inl (fun _ => 0))), (q6044, .inr (3, [.ref q6064, .ref q6065, .int 0, .int 0, .int 0, .ref q6066, .ref q6067])), (q6064, .inr (1, [.ref q6068, .int 0, .ref q6069, .ref q6070, .ref q6071, .ref q6072, .ref q6073, .ref q6074, .ref q6075, .ref q6076, .ref q6077, .ref q6078, .ref q6079, .ref q6080])), (q6080, .inl (e6081, 480, .inl (fun _ => 0))), (q6066, .inl (e6082, 6, .inl (fun _ => 0)))] _ A s.heap _ := Wd
    rcases w9216 with ⟨c9217, rfl⟩ | ⟨c9218, c9219, rfl⟩ | ⟨c9220, c9221, c9222, rfl⟩ | ⟨c9223, c9224, c9225, c9226, rfl⟩ | ⟨c9227, c9228, c9229, c9230, c9231, rfl⟩ | ⟨c9232, c9233, c9234, c9235, c9236, c9237, rfl⟩ | ⟨c9238, c9239, c9240, c9241, c9242, c9243, c9244, rfl⟩ | ⟨c9245, c9246, c9247, c9248, c9249, c9250, c9251, c9252, rfl⟩ | ⟨c9253, c9254, c9255, c9256, c9257, c9258, c9259, c9260, c9261, rfl⟩ | ⟨c9262, c9263, c9264, c9265, c9266, c9267, c9268, c9269, c9270, rfl⟩
    · exact absurd c9217 c7892
    · refine lv_icmp_eq (tgt := 801) C.1 C.2.1 dL_law_426 (by decide) (fun _ => ?_) (fun c9271 => absurd c9271 (by decide))
      exact tail _ _ _ (k_sub Wd [] rfl (by decide) [] rfl) (lv_sub hl [0, 3] rfl)
    · exact False.elim (by have z0 := kz_nlt c7892; have z1 := kz_nlt c8129; have z2 := kz_nlt c9044; have z3 := kz_le c9045; have z4 := kz_nlt c9220; have z5 := kz_nlt c9221; have t0 : (0 : Int32).toInt = 0 := (by decide); have t6 : (6 : Int32).toInt = 6 := (by decide); have t5 : (5 : Int32).toInt = 5 := (by decide); omega)
    · exact False.elim (by have z0 := kz_nlt c7892; have z1 := kz_nlt c8129; have z2 := kz_nlt c9044; have z3 := kz_le c9045; have z4 := kz_nlt c9223; have z5 := kz_nlt c9224; have t0 : (0 : Int32).toInt = 0 := (by decide); have t6 : (6 : Int32).toInt = 6 := (by decide); have t5 : (5 : Int32).toInt = 5 := (by decide); omega)
    · exact False.elim (by have z0 := kz_nlt c7892; have z1 := kz_nlt c8129; have z2 := kz_nlt c9044; have z3 := kz_le c9045; have z4 := kz_nlt c9227; have z5 := kz_nlt c9228; have t0 : (0 : Int32).toInt = 0 := (by decide); have t6 : (6 : Int32).toInt = 6 := (by decide); have t5 : (5 : Int32).toInt = 5 := (by decide); omega)
    · exact False.elim (by have z0 := kz_nlt c7892; have z1 := kz_nlt c8129; have z2 := kz_nlt c9044; have z3 := kz_le c9045; have z4 := kz_nlt c9232; have z5 := kz_nlt c9233; have t0 : (0 : Int32).toInt = 0 := (by decide); have t6 : (6 : Int32).toInt = 6 := (by decide); have t5 : (5 : Int32).toInt = 5 := (by decide); omega)
    · exact False.elim (by have z0 := kz_nlt c7892; have z1 := kz_nlt c8129; have z2 := kz_nlt c9044; have z3 := kz_le c9045; have z4 := kz_nlt c9238; have z5 := kz_nlt c9239; have t0 : (0 : Int32).toInt = 0 := (by decide); have t6 : (6 : Int32).toInt = 6 := (by decide); have t5 : (5 : Int32).toInt = 5 := (by decide); omega)
    · exact False.elim (by have z0 := kz_nlt c7892; have z1 := kz_nlt c8129; have z2 := kz_nlt c9044; have z3 := kz_le c9045; have z4 := kz_nlt c9245; have z5 := kz_nlt c9246; have t0 : (0 : Int32).toInt = 0 := (by decide); have t6 : (6 : Int32).toInt = 6 := (by decide); have t5 : (5 : Int32).toInt = 5 := (by decide); omega)
    · exact False.elim (by have z0 := kz_nlt c7892; have z1 := kz_nlt c8129; have z2 := kz_nlt c9044; have z3 := kz_le c9045; have z4 := kz_nlt c9253; have z5 := kz_nlt c9254; have t0 : (0 : Int32).toInt = 0 := (by decide); have t6 : (6 : Int32).toInt = 6 := (by decide); have t5 : (5 : Int32).toInt = 5 := (by decide); omega)
    · exact False.elim (by have z0 := kz_nlt c7892; have z1 := kz_nlt c8129; have z2 := kz_nlt c9044; have z3 := kz_le c9045; have z4 := kz_nlt c9262; have z5 := kz_nlt c9263; have t0 : (0 : Int32).toInt = 0 := (by decide); have t6 : (6 : Int32).toInt = 6 := (by decide); have t5 : (5 : Int32).toInt = 5 := (by decide); omega)
