set_option maxHeartbeats 4000000 in
set_option maxRecDepth 100000 in
theorem law_ruleOf {p : Program} {l : Launch} {e : Env} {s : State} {m : MethodId} {below : List Frame} {meth : Method} {c : Code} {b : Nat} {xs : Nat → Int32} {D : va_G} {A : Nat → Prop} {e6018 : ClassId} {q5961 : Nat} {q5963 : Nat} {q5964 : Nat} {q5965 : Nat} {q5966 : Nat} {q5967 : Nat} {q5968 : Nat} {q5969 : Nat} {q6010 : Nat} {q6011 : Nat} {q6012 : Nat} {q6013 : Nat} {q6014 : Nat} {q6015 : Nat} {q6016 : Nat} {q6017 : Nat} {q6019 : Nat} {q6020 : Nat} {q6021 : Nat} {q6022 : Nat} {q6023 : Nat} {q6024 : Nat} {q6025 : Nat} {q6026 : Nat} {q6027 : Nat} {q6028 : Nat} {q6029 : Nat} {q6030 : Nat} {q6104 : Nat} {q6106 : Nat} {q6107 : Nat} {q6108 : Nat} {q6109 : Nat} {q6110 : Nat} {q6111 : Nat} {q6112 : Nat} {q6113 : Nat} {q6114 : Nat} {q6115 : Nat} {q6116 : Nat} {q6117 : Nat} {q6118 : Nat} {q6119 : Nat} {q6120 : Nat} {q6121 : Nat} {q6122 : Nat} {q6123 : Nat} {q6124 : Nat} {q6125 : Nat} {q6126 : Nat} {q6127 : Nat} {q6128 : Nat} {q6129 : Nat} {q6130 : Nat} {y1 : Int32} (hy1 : xs 1 = y1) {y2 : Int32} (hy2 : xs 2 = y2) {H : Heap} {locs : List Loc} {ls : Array Slot} (C : CallFix p m c cL_law 4 s #[Value.ref b] gG RL) (aks : aK s) (hX : va_X b 6 xs s s.heap) (hbl : b < s.heap.size) (hbA : ¬ A b) (hrt : meth.sig.returnType = ret) (hlocks : meth.locks = false) (hAe : A = fun q => s.heap.size ≤ q) (tail : (∀ (H : Heap) (locs : List Loc) (ls : Array Slot), wX D [] s [] H A s.heap locs → lv_has ls 4 [(3, .int 0), (0, .ref b)] → W p l e room_1 s m #[Value.ref b] below meth c H locs 271 91330 (lw_Z below #[Value.ref b] s) (F0 m 801 ls []))) (Wd : wX D [(e6018, .object RX9)] s [(q5961, .inr (11, [.ref q5963, .int 0, .ref q5964, .ref q5965, .ref q5966, .ref q5967, .ref q5968, .ref q5969])), (q5968, .inr (4, [.ref q6010, .ref q6011, .ref q6012, .int (-1), .int (-1), .ref q6013, .ref q6014, .ref q6015, .ref q6016, .ref q6017])), (q6013, .inl (e6018, 12, .inr (.inr (.inr (.inr (va_up (va_up (va_up (va_up (va_up (va_up (va_up (va_up (va_up (va_up (va_up (va_up (fun _ => none) 0 (some q6019)) 1 (some q6020)) 2 (some q6021)) 3 (some q6022)) 4 (some q6023)) 5 (some q6024)) 6 (some q6025)) 7 (some q6026)) 8 (some q6027)) 9 (some q6028)) 10 (some q6029)) 11 (some q6030))))))), (q6104, .inr (12, [.ref q6106, .ref q6107, .ref q6108, .ref q6109, .int 0, .int 0, .ref q6110, .int 0, .int 0, .int 0, .int 0, .int 0, .int 0, .int 0, .int 0, .int 0, .int 0, .int 0, .int 0, .int 0, .int (-1), .int 0, .int 0, .int 0, .ref q6111, .ref q6112, .ref q6113, .ref q6114, .ref q6115, .ref q6116, .int 0, .int 0, .int 0, .int 0, .ref q6117, .ref q6118, .ref q6119, .int 0, .int 0, .int 0, .int 0, .ref q6120, .ref q6121, .int 0, .ref q6122, .ref q6123, .int 0, .ref q6124, .int 0, .ref q6125, .ref q6126, .ref q6127, .int 0, .ref q6128, .ref q6129, .ref q6130]))] H A s.heap locs) (hl : lv_has ls 4 [(3, .int 0), (2, .ref q6104), (1, .ref q5961), (0, .ref b)]) : W p l e room_1 s m #[Value.ref b] below meth c H locs 271 91330 (lw_Z below #[Value.ref b] s) (F0 m 431 ls []) := by
  refine lv_aload_n C.1 C.2.1 dL_law_431 rfl (lv_at hl 2 rfl) ?_
  refine lv_aload_n C.1 C.2.1 dL_law_432 rfl (lv_at hl 3 rfl) ?_
  refine lv_iload_n C.1 C.2.1 dL_law_433 rfl (lv_at hl 0 rfl) ?_
  refine lv_iconst (v := 1) C.1 C.2.1 dL_law_434 (by decide) ?_
  refine k_iadd (v := 1) C (by decide) dL_law_435 ?_
  refine k_sld (v := y1) C hX hbl hbA Wd (vp_in_iff.mpr (by decide)) hy1 dL_law_436 ?_
  refine lv_aload_n C.1 C.2.1 dL_law_437 rfl (lv_at hl 3 rfl) ?_
  refine lv_iload_n C.1 C.2.1 dL_law_438 rfl (lv_at hl 0 rfl) ?_
  refine lv_iconst (v := 2) C.1 C.2.1 dL_law_439 (by decide) ?_
  refine k_iadd (v := 2) C (by decide) dL_law_440 ?_
  refine k_sld (v := y2) C hX hbl hbA Wd (vp_in_iff.mpr (by decide)) hy2 dL_law_441 ?_
  refine k_pi (k_runV (rest := []) C aks Wd cs_L_56 (kcX11_ruleOf l D q5961 q5963 q5964 q5965 q5966 q5967 q5968 q5969 q6010 q6011 q6012 q6013 q6014 q6015 q6016 q6017 y1 y2 (va_up (va_up (va_up (va_up (va_up (va_up (va_up (va_up (va_up (va_up (va_up (va_up (fun _ => none) 0 (some q6019)) 1 (some q6020)) 2 (some q6021)) 3 (some q6022)) 4 (some q6023)) 5 (some q6024)) 6 (some q6025)) 7 (some q6026)) 8 (some q6027)) 9 (some q6028)) 10 (some q6029)) 11 (some q6030)) e6018 _ ) [0, 1, 2] rfl (by decide) [0] rfl 0 11 rfl rfl rfl rfl rfl ⟨(Nat.le_of_ble_eq_true rfl), (Nat.le_of_ble_eq_true rfl)⟩ hl.1 rfl rfl (Nat.le_of_ble_eq_true rfl) ⟨(Nat.le_of_ble_eq_true rfl), (Nat.le_of_ble_eq_true rfl)⟩ dL_law_442) (fun r w9272 => ?_)
  rcases w9272 with ⟨c9273, rfl⟩ | ⟨c9274, c9275, rfl⟩
  · refine lv_aload_n C.1 C.2.1 dL_law_445 rfl (lv_at hl 1 rfl) ?_
    refine lv_aload_n C.1 C.2.1 dL_law_446 rfl (lv_at hl 3 rfl) ?_
    refine lv_iload_n C.1 C.2.1 dL_law_447 rfl (lv_at hl 0 rfl) ?_
    refine lv_iconst (v := 1) C.1 C.2.1 dL_law_448 (by decide) ?_
    refine k_iadd (v := 1) C (by decide) dL_law_449 ?_
    refine k_sld (v := y1) C hX hbl hbA Wd (vp_in_iff.mpr (by decide)) hy1 dL_law_450 ?_
    refine lv_aload_n C.1 C.2.1 dL_law_451 rfl (lv_at hl 3 rfl) ?_
    refine lv_iload_n C.1 C.2.1 dL_law_452 rfl (lv_at hl 0 rfl) ?_
    refine lv_iconst (v := 2) C.1 C.2.1 dL_law_453 (by decide) ?_
    refine k_iadd (v := 2) C (by decide) dL_law_454 ?_
    refine k_sld (v := y2) C hX hbl hbA Wd (vp_in_iff.mpr (by decide)) hy2 dL_law_455 ?_
    refine k_pi (k_runV (rest := [.int (-2)]) C aks Wd cs_L_59 (kcX12_ruleOf l D q6104 q6106 q6107 q6108 q6109 q6110 q6111 q6112 q6113 q6114 q6115 q6116 q6117 q6118 q6119 q6120 q6121 q6122 q6123 q6124 q6125 q6126 q6127 q6128 q6129 q6130 y1 y2 _ ) [3] rfl (by decide) [] rfl 3 12 rfl rfl rfl rfl rfl ⟨(Nat.le_of_ble_eq_true rfl), (Nat.le_of_ble_eq_true rfl)⟩ hl.1 rfl rfl (Nat.le_of_ble_eq_true rfl) ⟨(Nat.le_of_ble_eq_true rfl), (Nat.le_of_ble_eq_true rfl)⟩ dL_law_456) (fun r w9276 => ?_)
    rcases w9276 with ⟨c9277, rfl⟩ | ⟨c9278, c9279, rfl⟩
    · exact False.elim (by have z0 := kz_le c9273; have z1 := kz_lt c9277; have t0 : (0 : Int32).toInt = 0 := (by decide); omega)
    · refine lv_icmp_eq (tgt := 801) C.1 C.2.1 dL_law_459 (by decide) (fun _ => ?_) (fun c9280 => absurd c9280 (by decide))
      exact tail _ _ _ (k_sub Wd [] rfl (by decide) [] rfl) (lv_sub hl [0, 3] rfl)
  · refine lv_aload_n C.1 C.2.1 dL_law_445 rfl (lv_at hl 1 rfl) ?_
    refine lv_aload_n C.1 C.2.1 dL_law_446 rfl (lv_at hl 3 rfl) ?_
    refine lv_iload_n C.1 C.2.1 dL_law_447 rfl (lv_at hl 0 rfl) ?_
    refine lv_iconst (v := 1) C.1 C.2.1 dL_law_448 (by decide) ?_
    refine k_iadd (v := 1) C (by decide) dL_law_449 ?_
    refine k_sld (v := y1) C hX hbl hbA Wd (vp_in_iff.mpr (by decide)) hy1 dL_law_450 ?_
    refine lv_aload_n C.1 C.2.1 dL_law_451 rfl (lv_at hl 3 rfl) ?_
    refine lv_iload_n C.1 C.2.1 dL_law_452 rfl (lv_at hl 0 rfl) ?_
    refine lv_iconst (v := 2) C.1 C.2.1 dL_law_453 (by decide) ?_
    refine k_iadd (v := 2) C (by decide) dL_law_454 ?_
    refine k_sld (v := y2) C hX hbl hbA Wd (vp_in_iff.mpr (by decide)) hy2 dL_law_455 ?_
    refine k_pi (k_runV (rest := [.int (-2)]) C aks Wd cs_L_59 (kcX12_ruleOf l D q6104 q6106 q6107 q6108 q6109 q6110 q6111 q6112 q6113 q6114 q6115 q6116 q6117 q6118 q6119 q6120 q6121 q6122 q6123 q6124 q6125 q6126 q6127 q6128 q6129 q6130 y1 y2 _ ) [3] rfl (by decide) [] rfl 3 12 rfl rfl rfl rfl rfl ⟨(Nat.le_of_ble_eq_true rfl), (Nat.le_of_ble_eq_true rfl)⟩ hl.1 rfl rfl (Nat.le_of_ble_eq_true rfl) ⟨(Nat.le_of_ble_eq_true rfl), (Nat.le_of_ble_eq_true rfl)⟩ dL_law_456) (fun r w9281 => ?_)
    rcases w9281 with ⟨c9282, rfl⟩ | ⟨c9283, c9284, rfl⟩
    · refine lv_icmp_eq (tgt := 801) C.1 C.2.1 dL_law_459 (by decide) (fun _ => ?_) (fun c9285 => absurd c9285 (by decide))
      exact tail _ _ _ (k_sub Wd [] rfl (by decide) [] rfl) (lv_sub hl [0, 3] rfl)
    · exact absurd c9275 c9283
set_option maxHeartbeats 4000000 in
set_option maxRecDepth 100000 in
theorem law_places {p : Program} {l : Launch} {e : Env} {s : State} {m : MethodId} {below : List Frame} {meth : Method} {c : Code} {b : Nat} {xs : Nat → Int32} {D : va_G} {A : Nat → Prop} {e5970 : ClassId} {e6018 : ClassId} {q5961 : Nat} {q5963 : Nat} {q5964 : Nat} {q5965 : Nat} {q5966 : Nat} {q5967 : Nat} {q5968 : Nat} {q5969 : Nat} {q5971 : Nat} {q5972 : Nat} {q5973 : Nat} {q5974 : Nat} {q5975 : Nat} {q5976 : Nat} {q6010 : Nat} {q6011 : Nat} {q6012 : Nat} {q6013 : Nat} {q6014 : Nat} {q6015 : Nat} {q6016 : Nat} {q6017 : Nat} {q6019 : Nat} {q6020 : Nat} {q6021 : Nat} {q6022 : Nat} {q6023 : Nat} {q6024 : Nat} {q6025 : Nat} {q6026 : Nat} {q6027 : Nat} {q6028 : Nat} {q6029 : Nat} {q6030 : Nat} {q6104 : Nat} {q6106 : Nat} {q6107 : Nat} {q6108 : Nat} {q6109 : Nat} {q6110 : Nat} {q6111 : Nat} {q6112 : Nat} {q6113 : Nat} {q6114 : Nat} {q6115 : Nat} {q6116 : Nat} {q6117 : Nat} {q6118 : Nat} {q6119 : Nat} {q6120 : Nat} {q6121 : Nat} {q6122 : Nat} {q6123 : Nat} {q6124 : Nat} {q6125 : Nat} {q6126 : Nat} {q6127 : Nat} {q6128 : Nat} {q6129 : Nat} {q6130 : Nat} {y1 : Int32} (hy1 : xs 1 = y1) {y2 : Int32} (hy2 : xs 2 = y2) {H : Heap} {locs : List Loc} {ls : Array Slot} (C : CallFix p m c cL_law 4 s #[Value.ref b] gG RL) (aks : aK s) (hX : va_X b 6 xs s s.heap) (hbl : b < s.heap.size) (hbA : ¬ A b) (hrt : meth.sig.returnType = ret) (hlocks : meth.locks = false) (hAe : A = fun q => s.heap.size ≤ q) (tail : (∀ (H : Heap) (locs : List Loc) (ls : Array Slot), wX D [] s [] H A s.heap locs → lv_has ls 4 [(3, .int 0), (0, .ref b)] → W p l e room_1 s m #[Value.ref b] below meth c H locs 271 91330 (lw_Z below #[Value.ref b] s) (F0 m 801 ls []))) (Wd : wX D [(e5970, .object RX8), (e6018, .object RX9)] s [(q5961, .inr (11, [.ref q5963, .int 0, .ref q5964, .ref q5965, .ref q5966, .ref q5967, .ref q5968, .ref q5969])), (q5963, .inl (e5970, 6, .inr (.inr (.inr (.inr (va_up (va_up (va_up (va_up (va_up (va_up (fun _ => none) 0 (some q5971)) 1 (some q5972)) 2 (some q5973)) 3 (some q5974)) 4 (some q5975)) 5 (some q5976))))))), (q5968, .inr (4, [.ref q6010, .ref q6011, .ref q6012, .int (-1), .int (-1), .ref q6013, .ref q6014, .ref q6015, .ref q6016, .ref q6017])), (q6013, .inl (e6018, 12, .inr (.inr (.inr (.inr (va_up (va_up (va_up (va_up (va_up (va_up (va_up (va_up (va_up (va_up (va_up (va_up (fun _ => none) 0 (some q6019)) 1 (some q6020)) 2 (some q6021)) 3 (some q6022)) 4 (some q6023)) 5 (some q6024)) 6 (some q6025)) 7 (some q6026)) 8 (some q6027)) 9 (some q6028)) 10 (some q6029)) 11 (some q6030))))))), (q6104, .inr (12, [.ref q6106, .ref q6107, .ref q6108, .ref q6109, .int 0, .int 0, .ref q6110, .int 0, .int 0, .int 0, .int 0, .int 0, .int 0, .int 0, .int 0, .int 0, .int 0, .int 0, .int 0, .int 0, .int (-1), .int 0, .int 0, .int 0, .ref q6111, .ref q6112, .ref q6113, .ref q6114, .ref q6115, .ref q6116, .int 0, .int 0, .int 0, .int 0, .ref q6117, .ref q6118, .ref q6119, .int 0, .int 0, .int 0, .int 0, .ref q6120, .ref q6121, .int 0, .ref q6122, .ref q6123, .int 0, .ref q6124, .int 0, .ref q6125, .ref q6126, .ref q6127, .int 0, .ref q6128, .ref q6129, .ref q6130]))] H A s.heap locs) (hl : lv_has ls 4 [(3, .int 0), (2, .ref q6104), (1, .ref q5961), (0, .ref b)]) : W p l e room_1 s m #[Value.ref b] below meth c H locs 271 91330 (lw_Z below #[Value.ref b] s) (F0 m 464 ls []) := by
  refine lv_aload_n C.1 C.2.1 dL_law_464 rfl (lv_at hl 2 rfl) ?_
  refine lv_aload_n C.1 C.2.1 dL_law_465 rfl (lv_at hl 3 rfl) ?_
  refine lv_iload_n C.1 C.2.1 dL_law_466 rfl (lv_at hl 0 rfl) ?_
  refine lv_iconst (v := 1) C.1 C.2.1 dL_law_467 (by decide) ?_
  refine k_iadd (v := 1) C (by decide) dL_law_468 ?_
  refine k_sld (v := y1) C hX hbl hbA Wd (vp_in_iff.mpr (by decide)) hy1 dL_law_469 ?_
  refine lv_aload_n C.1 C.2.1 dL_law_470 rfl (lv_at hl 3 rfl) ?_
  refine lv_iload_n C.1 C.2.1 dL_law_471 rfl (lv_at hl 0 rfl) ?_
  refine lv_iconst (v := 2) C.1 C.2.1 dL_law_472 (by decide) ?_
  refine k_iadd (v := 2) C (by decide) dL_law_473 ?_
  refine k_sld (v := y2) C hX hbl hbA Wd (vp_in_iff.mpr (by decide)) hy2 dL_law_474 ?_
  refine k_pi (k_runV (rest := []) C aks Wd cs_L_60 (kcX11_places l D q5961 q5963 q5964 q5965 q5966 q5967 q5968 q5969 q6010 q6011 q6012 q6013 q6014 q6015 q6016 q6017 y1 y2 (va_up (va_up (va_up (va_up (va_up (va_up (fun _ => none) 0 (some q5971)) 1 (some q5972)) 2 (some q5973)) 3 (some q5974)) 4 (some q5975)) 5 (some q5976)) (va_up (va_up (va_up (va_up (va_up (va_up (va_up (va_up (va_up (va_up (va_up (va_up (fun _ => none) 0 (some q6019)) 1 (some q6020)) 2 (some q6021)) 3 (some q6022)) 4 (some q6023)) 5 (some q6024)) 6 (some q6025)) 7 (some q6026)) 8 (some q6027)) 9 (some q6028)) 10 (some q6029)) 11 (some q6030)) e5970 e6018 _ ) [0, 2, 3, 1] rfl (by decide) [0, 1] rfl 0 11 rfl rfl rfl rfl rfl ⟨(Nat.le_of_ble_eq_true rfl), (Nat.le_of_ble_eq_true rfl)⟩ hl.1 rfl rfl (Nat.le_of_ble_eq_true rfl) ⟨(Nat.le_of_ble_eq_true rfl), (Nat.le_of_ble_eq_true rfl)⟩ dL_law_475) (fun r w9286 => ?_)
  rcases w9286 with ⟨c9287, c9288, rfl⟩ | ⟨c9289, c9290, c9291, rfl⟩ | ⟨c9292, c9293, c9294, rfl⟩ | ⟨c9295, c9296, c9297, rfl⟩ | ⟨c9298, c9299, c9300, rfl⟩ | ⟨c9301, c9302, c9303, c9304, rfl⟩ | ⟨c9305, c9306, c9307, c9308, rfl⟩ | ⟨c9309, c9310, c9311, c9312, rfl⟩
  · refine lv_aload_n C.1 C.2.1 dL_law_478 rfl (lv_at hl 1 rfl) ?_
    refine lv_aload_n C.1 C.2.1 dL_law_479 rfl (lv_at hl 3 rfl) ?_
    refine lv_iload_n C.1 C.2.1 dL_law_480 rfl (lv_at hl 0 rfl) ?_
    refine lv_iconst (v := 1) C.1 C.2.1 dL_law_481 (by decide) ?_
    refine k_iadd (v := 1) C (by decide) dL_law_482 ?_
    refine k_sld (v := y1) C hX hbl hbA Wd (vp_in_iff.mpr (by decide)) hy1 dL_law_483 ?_
    refine lv_aload_n C.1 C.2.1 dL_law_484 rfl (lv_at hl 3 rfl) ?_
    refine lv_iload_n C.1 C.2.1 dL_law_485 rfl (lv_at hl 0 rfl) ?_
    refine lv_iconst (v := 2) C.1 C.2.1 dL_law_486 (by decide) ?_
    refine k_iadd (v := 2) C (by decide) dL_law_487 ?_
    refine k_sld (v := y2) C hX hbl hbA Wd (vp_in_iff.mpr (by decide)) hy2 dL_law_488 ?_
    refine k_pi (k_runV (rest := [.int (-1)]) C aks Wd cs_L_63 (kcX12_places l D q6104 q6106 q6107 q6108 q6109 q6110 q6111 q6112 q6113 q6114 q6115 q6116 q6117 q6118 q6119 q6120 q6121 q6122 q6123 q6124 q6125 q6126 q6127 q6128 q6129 q6130 y1 y2 _ ) [4] rfl (by decide) [] rfl 4 12 rfl rfl rfl rfl rfl ⟨(Nat.le_of_ble_eq_true rfl), (Nat.le_of_ble_eq_true rfl)⟩ hl.1 rfl rfl (Nat.le_of_ble_eq_true rfl) ⟨(Nat.le_of_ble_eq_true rfl), (Nat.le_of_ble_eq_true rfl)⟩ dL_law_489) (fun r w9313 => ?_)
    rcases w9313 with ⟨c9314, rfl⟩ | ⟨c9315, c9316, rfl⟩
    · exact False.elim (by have z0 := kz_le c9287; have z1 := kz_lt c9314; have t0 : (0 : Int32).toInt = 0 := (by decide); omega)
    · refine lv_icmp_eq (tgt := 801) C.1 C.2.1 dL_law_492 (by decide) (fun _ => ?_) (fun c9317 => absurd c9317 (by decide))
      exact tail _ _ _ (k_sub Wd [] rfl (by decide) [] rfl) (lv_sub hl [0, 3] rfl)
  · refine lv_aload_n C.1 C.2.1 dL_law_478 rfl (lv_at hl 1 rfl) ?_
    refine lv_aload_n C.1 C.2.1 dL_law_479 rfl (lv_at hl 3 rfl) ?_
    refine lv_iload_n C.1 C.2.1 dL_law_480 rfl (lv_at hl 0 rfl) ?_
    refine lv_iconst (v := 1) C.1 C.2.1 dL_law_481 (by decide) ?_
    refine k_iadd (v := 1) C (by decide) dL_law_482 ?_
    refine k_sld (v := y1) C hX hbl hbA Wd (vp_in_iff.mpr (by decide)) hy1 dL_law_483 ?_
    refine lv_aload_n C.1 C.2.1 dL_law_484 rfl (lv_at hl 3 rfl) ?_
    refine lv_iload_n C.1 C.2.1 dL_law_485 rfl (lv_at hl 0 rfl) ?_
    refine lv_iconst (v := 2) C.1 C.2.1 dL_law_486 (by decide) ?_
    refine k_iadd (v := 2) C (by decide) dL_law_487 ?_
    refine k_sld (v := y2) C hX hbl hbA Wd (vp_in_iff.mpr (by decide)) hy2 dL_law_488 ?_
    refine k_pi (k_runV (rest := [.int (-1)]) C aks Wd cs_L_63 (kcX12_places l D q6104 q6106 q6107 q6108 q6109 q6110 q6111 q6112 q6113 q6114 q6115 q6116 q6117 q6118 q6119 q6120 q6121 q6122 q6123 q6124 q6125 q6126 q6127 q6128 q6129 q6130 y1 y2 _ ) [4] rfl (by decide) [] rfl 4 12 rfl rfl rfl rfl rfl ⟨(Nat.le_of_ble_eq_true rfl), (Nat.le_of_ble_eq_true rfl)⟩ hl.1 rfl rfl (Nat.le_of_ble_eq_true rfl) ⟨(Nat.le_of_ble_eq_true rfl), (Nat.le_of_ble_eq_true rfl)⟩ dL_law_489) (fun r w9318 => ?_)
    rcases w9318 with ⟨c9319, rfl⟩ | ⟨c9320, c9321, rfl⟩
    · exact False.elim (by have z0 := kz_le c9289; have z1 := kz_lt c9319; have t0 : (0 : Int32).toInt = 0 := (by decide); omega)
    · refine lv_icmp_eq (tgt := 801) C.1 C.2.1 dL_law_492 (by decide) (fun _ => ?_) (fun c9322 => absurd c9322 (by decide))
      exact tail _ _ _ (k_sub Wd [] rfl (by decide) [] rfl) (lv_sub hl [0, 3] rfl)
  · refine lv_aload_n C.1 C.2.1 dL_law_478 rfl (lv_at hl 1 rfl) ?_
    refine lv_aload_n C.1 C.2.1 dL_law_479 rfl (lv_at hl 3 rfl) ?_
    refine lv_iload_n C.1 C.2.1 dL_law_480 rfl (lv_at hl 0 rfl) ?_
    refine lv_iconst (v := 1) C.1 C.2.1 dL_law_481 (by decide) ?_
    refine k_iadd (v := 1) C (by decide) dL_law_482 ?_
    refine k_sld (v := y1) C hX hbl hbA Wd (vp_in_iff.mpr (by decide)) hy1 dL_law_483 ?_
    refine lv_aload_n C.1 C.2.1 dL_law_484 rfl (lv_at hl 3 rfl) ?_
    refine lv_iload_n C.1 C.2.1 dL_law_485 rfl (lv_at hl 0 rfl) ?_
    refine lv_iconst (v := 2) C.1 C.2.1 dL_law_486 (by decide) ?_
    refine k_iadd (v := 2) C (by decide) dL_law_487 ?_
    refine k_sld (v := y2) C hX hbl hbA Wd (vp_in_iff.mpr (by decide)) hy2 dL_law_488 ?_
    refine k_pi (k_runV (rest := [.int (-1)]) C aks Wd cs_L_63 (kcX12_places l D q6104 q6106 q6107 q6108 q6109 q6110 q6111 q6112 q6113 q6114 q6115 q6116 q6117 q6118 q6119 q6120 q6121 q6122 q6123 q6124 q6125 q6126 q6127 q6128 q6129 q6130 y1 y2 _ ) [4] rfl (by decide) [] rfl 4 12 rfl rfl rfl rfl rfl ⟨(Nat.le_of_ble_eq_true rfl), (Nat.le_of_ble_eq_true rfl)⟩ hl.1 rfl rfl (Nat.le_of_ble_eq_true rfl) ⟨(Nat.le_of_ble_eq_true rfl), (Nat.le_of_ble_eq_true rfl)⟩ dL_law_489) (fun r w9323 => ?_)
    rcases w9323 with ⟨c9324, rfl⟩ | ⟨c9325, c9326, rfl⟩
    · exact False.elim (by have z0 := kz_le c9292; have z1 := kz_lt c9324; have t0 : (0 : Int32).toInt = 0 := (by decide); omega)
    · refine lv_icmp_eq (tgt := 801) C.1 C.2.1 dL_law_492 (by decide) (fun _ => ?_) (fun c9327 => absurd c9327 (by decide))
      exact tail _ _ _ (k_sub Wd [] rfl (by decide) [] rfl) (lv_sub hl [0, 3] rfl)
  · refine lv_aload_n C.1 C.2.1 dL_law_478 rfl (lv_at hl 1 rfl) ?_
    refine lv_aload_n C.1 C.2.1 dL_law_479 rfl (lv_at hl 3 rfl) ?_
    refine lv_iload_n C.1 C.2.1 dL_law_480 rfl (lv_at hl 0 rfl) ?_
    refine lv_iconst (v := 1) C.1 C.2.1 dL_law_481 (by decide) ?_
    refine k_iadd (v := 1) C (by decide) dL_law_482 ?_
    refine k_sld (v := y1) C hX hbl hbA Wd (vp_in_iff.mpr (by decide)) hy1 dL_law_483 ?_
    refine lv_aload_n C.1 C.2.1 dL_law_484 rfl (lv_at hl 3 rfl) ?_
    refine lv_iload_n C.1 C.2.1 dL_law_485 rfl (lv_at hl 0 rfl) ?_
    refine lv_iconst (v := 2) C.1 C.2.1 dL_law_486 (by decide) ?_
    refine k_iadd (v := 2) C (by decide) dL_law_487 ?_
    refine k_sld (v := y2) C hX hbl hbA Wd (vp_in_iff.mpr (by decide)) hy2 dL_law_488 ?_
    refine k_pi (k_runV (rest := [.int (-1)]) C aks Wd cs_L_63 (kcX12_places l D q6104 q6106 q6107 q6108 q6109 q6110 q6111 q6112 q6113 q6114 q6115 q6116 q6117 q6118 q6119 q6120 q6121 q6122 q6123 q6124 q6125 q6126 q6127 q6128 q6129 q6130 y1 y2 _ ) [4] rfl (by decide) [] rfl 4 12 rfl rfl rfl rfl rfl ⟨(Nat.le_of_ble_eq_true rfl), (Nat.le_of_ble_eq_true rfl)⟩ hl.1 rfl rfl (Nat.le_of_ble_eq_true rfl) ⟨(Nat.le_of_ble_eq_true rfl), (Nat.le_of_ble_eq_true rfl)⟩ dL_law_489) (fun r w9328 => ?_)
    rcases w9328 with ⟨c9329, rfl⟩ | ⟨c9330, c9331, rfl⟩
    · exact False.elim (by have z0 := kz_le c9295; have z1 := kz_lt c9329; have t0 : (0 : Int32).toInt = 0 := (by decide); omega)
    · refine lv_icmp_eq (tgt := 801) C.1 C.2.1 dL_law_492 (by decide) (fun _ => ?_) (fun c9332 => absurd c9332 (by decide))
      exact tail _ _ _ (k_sub Wd [] rfl (by decide) [] rfl) (lv_sub hl [0, 3] rfl)
  · refine lv_aload_n C.1 C.2.1 dL_law_478 rfl (lv_at hl 1 rfl) ?_
    refine lv_aload_n C.1 C.2.1 dL_law_479 rfl (lv_at hl 3 rfl) ?_
    refine lv_iload_n C.1 C.2.1 dL_law_480 rfl (lv_at hl 0 rfl) ?_
    refine lv_iconst (v := 1) C.1 C.2.1 dL_law_481 (by decide) ?_
    refine k_iadd (v := 1) C (by decide) dL_law_482 ?_
    refine k_sld (v := y1) C hX hbl hbA Wd (vp_in_iff.mpr (by decide)) hy1 dL_law_483 ?_
    refine lv_aload_n C.1 C.2.1 dL_law_484 rfl (lv_at hl 3 rfl) ?_
    refine lv_iload_n C.1 C.2.1 dL_law_485 rfl (lv_at hl 0 rfl) ?_
    refine lv_iconst (v := 2) C.1 C.2.1 dL_law_486 (by decide) ?_
    refine k_iadd (v := 2) C (by decide) dL_law_487 ?_
    refine k_sld (v := y2) C hX hbl hbA Wd (vp_in_iff.mpr (by decide)) hy2 dL_law_488 ?_
    refine k_pi (k_runV (rest := [.int (-1)]) C aks Wd cs_L_63 (kcX12_places l D q6104 q6106 q6107 q6108 q6109 q6110 q6111 q6112 q6113 q6114 q6115 q6116 q6117 q6118 q6119 q6120 q6121 q6122 q6123 q6124 q6125 q6126 q6127 q6128 q6129 q6130 y1 y2 _ ) [4] rfl (by decide) [] rfl 4 12 rfl rfl rfl rfl rfl ⟨(Nat.le_of_ble_eq_true rfl), (Nat.le_of_ble_eq_true rfl)⟩ hl.1 rfl rfl (Nat.le_of_ble_eq_true rfl) ⟨(Nat.le_of_ble_eq_true rfl), (Nat.le_of_ble_eq_true rfl)⟩ dL_law_489) (fun r w9333 => ?_)
    rcases w9333 with ⟨c9334, rfl⟩ | ⟨c9335, c9336, rfl⟩
    · refine lv_icmp_eq (tgt := 801) C.1 C.2.1 dL_law_492 (by decide) (fun _ => ?_) (fun c9337 => absurd c9337 (by decide))
      exact tail _ _ _ (k_sub Wd [] rfl (by decide) [] rfl) (lv_sub hl [0, 3] rfl)
    · exact absurd c9299 c9335
  · refine lv_aload_n C.1 C.2.1 dL_law_478 rfl (lv_at hl 1 rfl) ?_
    refine lv_aload_n C.1 C.2.1 dL_law_479 rfl (lv_at hl 3 rfl) ?_
    refine lv_iload_n C.1 C.2.1 dL_law_480 rfl (lv_at hl 0 rfl) ?_
    refine lv_iconst (v := 1) C.1 C.2.1 dL_law_481 (by decide) ?_
    refine k_iadd (v := 1) C (by decide) dL_law_482 ?_
    refine k_sld (v := y1) C hX hbl hbA Wd (vp_in_iff.mpr (by decide)) hy1 dL_law_483 ?_
    refine lv_aload_n C.1 C.2.1 dL_law_484 rfl (lv_at hl 3 rfl) ?_
    refine lv_iload_n C.1 C.2.1 dL_law_485 rfl (lv_at hl 0 rfl) ?_
    refine lv_iconst (v := 2) C.1 C.2.1 dL_law_486 (by decide) ?_
    refine k_iadd (v := 2) C (by decide) dL_law_487 ?_
    refine k_sld (v := y2) C hX hbl hbA Wd (vp_in_iff.mpr (by decide)) hy2 dL_law_488 ?_
    refine k_pi (k_runV (rest := [.int (-1)]) C aks Wd cs_L_63 (kcX12_places l D q6104 q6106 q6107 q6108 q6109 q6110 q6111 q6112 q6113 q6114 q6115 q6116 q6117 q6118 q6119 q6120 q6121 q6122 q6123 q6124 q6125 q6126 q6127 q6128 q6129 q6130 y1 y2 _ ) [4] rfl (by decide) [] rfl 4 12 rfl rfl rfl rfl rfl ⟨(Nat.le_of_ble_eq_true rfl), (Nat.le_of_ble_eq_true rfl)⟩ hl.1 rfl rfl (Nat.le_of_ble_eq_true rfl) ⟨(Nat.le_of_ble_eq_true rfl), (Nat.le_of_ble_eq_true rfl)⟩ dL_law_489) (fun r w9338 => ?_)
    rcases w9338 with ⟨c9339, rfl⟩ | ⟨c9340, c9341, rfl⟩
    · refine lv_icmp_eq (tgt := 801) C.1 C.2.1 dL_law_492 (by decide) (fun _ => ?_) (fun c9342 => absurd c9342 (by decide))
      exact tail _ _ _ (k_sub Wd [] rfl (by decide) [] rfl) (lv_sub hl [0, 3] rfl)
    · exact absurd c9302 c9340
  · refine lv_aload_n C.1 C.2.1 dL_law_478 rfl (lv_at hl 1 rfl) ?_
    refine lv_aload_n C.1 C.2.1 dL_law_479 rfl (lv_at hl 3 rfl) ?_
    refine lv_iload_n C.1 C.2.1 dL_law_480 rfl (lv_at hl 0 rfl) ?_
    refine lv_iconst (v := 1) C.1 C.2.1 dL_law_481 (by decide) ?_
    refine k_iadd (v := 1) C (by decide) dL_law_482 ?_
    refine k_sld (v := y1) C hX hbl hbA Wd (vp_in_iff.mpr (by decide)) hy1 dL_law_483 ?_
    refine lv_aload_n C.1 C.2.1 dL_law_484 rfl (lv_at hl 3 rfl) ?_
    refine lv_iload_n C.1 C.2.1 dL_law_485 rfl (lv_at hl 0 rfl) ?_
    refine lv_iconst (v := 2) C.1 C.2.1 dL_law_486 (by decide) ?_
    refine k_iadd (v := 2) C (by decide) dL_law_487 ?_
    refine k_sld (v := y2) C hX hbl hbA Wd (vp_in_iff.mpr (by decide)) hy2 dL_law_488 ?_
    refine k_pi (k_runV (rest := [.int (-1)]) C aks Wd cs_L_63 (kcX12_places l D q6104 q6106 q6107 q6108 q6109 q6110 q6111 q6112 q6113 q6114 q6115 q6116 q6117 q6118 q6119 q6120 q6121 q6122 q6123 q6124 q6125 q6126 q6127 q6128 q6129 q6130 y1 y2 _ ) [4] rfl (by decide) [] rfl 4 12 rfl rfl rfl rfl rfl ⟨(Nat.le_of_ble_eq_true rfl), (Nat.le_of_ble_eq_true rfl)⟩ hl.1 rfl rfl (Nat.le_of_ble_eq_true rfl) ⟨(Nat.le_of_ble_eq_true rfl), (Nat.le_of_ble_eq_true rfl)⟩ dL_law_489) (fun r w9343 => ?_)
    rcases w9343 with ⟨c9344, rfl⟩ | ⟨c9345, c9346, rfl⟩
    · refine lv_icmp_eq (tgt := 801) C.1 C.2.1 dL_law_492 (by decide) (fun _ => ?_) (fun c9347 => absurd c9347 (by decide))
      exact tail _ _ _ (k_sub Wd [] rfl (by decide) [] rfl) (lv_sub hl [0, 3] rfl)
    · exact absurd c9306 c9345
  · refine lv_aload_n C.1 C.2.1 dL_law_478 rfl (lv_at hl 1 rfl) ?_
    refine lv_aload_n C.1 C.2.1 dL_law_479 rfl (lv_at hl 3 rfl) ?_
    refine lv_iload_n C.1 C.2.1 dL_law_480 rfl (lv_at hl 0 rfl) ?_
    refine lv_iconst (v := 1) C.1 C.2.1 dL_law_481 (by decide) ?_
    refine k_iadd (v := 1) C (by decide) dL_law_482 ?_
    refine k_sld (v := y1) C hX hbl hbA Wd (vp_in_iff.mpr (by decide)) hy1 dL_law_483 ?_
    refine lv_aload_n C.1 C.2.1 dL_law_484 rfl (lv_at hl 3 rfl) ?_
    refine lv_iload_n C.1 C.2.1 dL_law_485 rfl (lv_at hl 0 rfl) ?_
    refine lv_iconst (v := 2) C.1 C.2.1 dL_law_486 (by decide) ?_
    refine k_iadd (v := 2) C (by decide) dL_law_487 ?_
    refine k_sld (v := y2) C hX hbl hbA Wd (vp_in_iff.mpr (by decide)) hy2 dL_law_488 ?_
    refine k_pi (k_runV (rest := [.int (-1)]) C aks Wd cs_L_63 (kcX12_places l D q6104 q6106 q6107 q6108 q6109 q6110 q6111 q6112 q6113 q6114 q6115 q6116 q6117 q6118 q6119 q6120 q6121 q6122 q6123 q6124 q6125 q6126 q6127 q6128 q6129 q6130 y1 y2 _ ) [4] rfl (by decide) [] rfl 4 12 rfl rfl rfl rfl rfl ⟨(Nat.le_of_ble_eq_true rfl), (Nat.le_of_ble_eq_true rfl)⟩ hl.1 rfl rfl (Nat.le_of_ble_eq_true rfl) ⟨(Nat.le_of_ble_eq_true rfl), (Nat.le_of_ble_eq_true rfl)⟩ dL_law_489) (fun r w9348 => ?_)
    rcases w9348 with ⟨c9349, rfl⟩ | ⟨c9350, c9351, rfl⟩
    · refine lv_icmp_eq (tgt := 801) C.1 C.2.1 dL_law_492 (by decide) (fun _ => ?_) (fun c9352 => absurd c9352 (by decide))
      exact tail _ _ _ (k_sub Wd [] rfl (by decide) [] rfl) (lv_sub hl [0, 3] rfl)
    · exact absurd c9310 c9350
set_option maxHeartbeats 4000000 in
set_option maxRecDepth 100000 in
theorem law_apply {p : Program} {l : Launch} {e : Env} {s : State} {m : MethodId} {below : List Frame} {meth : Method} {c : Code} {b : Nat} {xs : Nat → Int32} {D : va_G} {A : Nat → Prop} {e5970 : ClassId} {e6018 : ClassId} {q5961 : Nat} {q5963 : Nat} {q5964 : Nat} {q5965 : Nat} {q5966 : Nat} {q5967 : Nat} {q5968 : Nat} {q5969 : Nat} {q5971 : Nat} {q5972 : Nat} {q5973 : Nat} {q5974 : Nat} {q5975 : Nat} {q5976 : Nat} {q6010 : Nat} {q6011 : Nat} {q6012 : Nat} {q6013 : Nat} {q6014 : Nat} {q6015 : Nat} {q6016 : Nat} {q6017 : Nat} {q6019 : Nat} {q6020 : Nat} {q6021 : Nat} {q6022 : Nat} {q6023 : Nat} {q6024 : Nat} {q6025 : Nat} {q6026 : Nat} {q6027 : Nat} {q6028 : Nat} {q6029 : Nat} {q6030 : Nat} {q6104 : Nat} {q6106 : Nat} {q6107 : Nat} {q6108 : Nat} {q6109 : Nat} {q6110 : Nat} {q6111 : Nat} {q6112 : Nat} {q6113 : Nat} {q6114 : Nat} {q6115 : Nat} {q6116 : Nat} {q6117 : Nat} {q6118 : Nat} {q6119 : Nat} {q6120 : Nat} {q6121 : Nat} {q6122 : Nat} {q6123 : Nat} {q6124 : Nat} {q6125 : Nat} {q6126 : Nat} {q6127 : Nat} {q6128 : Nat} {q6129 : Nat} {q6130 : Nat} {y1 : Int32} (hy1 : xs 1 = y1) {y2 : Int32} (hy2 : xs 2 = y2) {y3 : Int32} (hy3 : xs 3 = y3) {y4 : Int32} (hy4 : xs 4 = y4) {H : Heap} {locs : List Loc} {ls : Array Slot} (C : CallFix p m c cL_law 4 s #[Value.ref b] gG RL) (aks : aK s) (hX : va_X b 6 xs s s.heap) (hbl : b < s.heap.size) (hbA : ¬ A b) (hrt : meth.sig.returnType = ret) (hlocks : meth.locks = false) (hAe : A = fun q => s.heap.size ≤ q) (tail : (∀ (H : Heap) (locs : List Loc) (ls : Array Slot), wX D [] s [] H A s.heap locs → lv_has ls 4 [(3, .int 0), (0, .ref b)] → W p l e room_1 s m #[Value.ref b] below meth c H locs 271 91330 (lw_Z below #[Value.ref b] s) (F0 m 801 ls []))) (Wd : wX D [(e5970, .object RX8), (e6018, .object RX9)] s [(q5961, .inr (11, [.ref q5963, .int 0, .ref q5964, .ref q5965, .ref q5966, .ref q5967, .ref q5968, .ref q5969])), (q5963, .inl (e5970, 6, .inr (.inr (.inr (.inr (va_up (va_up (va_up (va_up (va_up (va_up (fun _ => none) 0 (some q5971)) 1 (some q5972)) 2 (some q5973)) 3 (some q5974)) 4 (some q5975)) 5 (some q5976))))))), (q5968, .inr (4, [.ref q6010, .ref q6011, .ref q6012, .int (-1), .int (-1), .ref q6013, .ref q6014, .ref q6015, .ref q6016, .ref q6017])), (q6013, .inl (e6018, 12, .inr (.inr (.inr (.inr (va_up (va_up (va_up (va_up (va_up (va_up (va_up (va_up (va_up (va_up (va_up (va_up (fun _ => none) 0 (some q6019)) 1 (some q6020)) 2 (some q6021)) 3 (some q6022)) 4 (some q6023)) 5 (some q6024)) 6 (some q6025)) 7 (some q6026)) 8 (some q6027)) 9 (some q6028)) 10 (some q6029)) 11 (some q6030))))))), (q6104, .inr (12, [.ref q6106, .ref q6107, .ref q6108, .ref q6109, .int 0, .int 0, .ref q6110, .int 0, .int 0, .int 0, .int 0, .int 0, .int 0, .int 0, .int 0, .int 0, .int 0, .int 0, .int 0, .int 0, .int (-1), .int 0, .int 0, .int 0, .ref q6111, .ref q6112, .ref q6113, .ref q6114, .ref q6115, .ref q6116, .int 0, .int 0, .int 0, .int 0, .ref q6117, .ref q6118, .ref q6119, .int 0, .int 0, .int 0, .int 0, .ref q6120, .ref q6121, .int 0, .ref q6122, .ref q6123, .int 0, .ref q6124, .int 0, .ref q6125, .ref q6126, .ref q6127, .int 0, .ref q6128, .ref q6129, .ref q6130]))] H A s.heap locs) (hl : lv_has ls 4 [(3, .int 0), (2, .ref q6104), (1, .ref q5961), (0, .ref b)]) : W p l e room_1 s m #[Value.ref b] below meth c H locs 271 91330 (lw_Z below #[Value.ref b] s) (F0 m 497 ls []) := by
  refine lv_aload_n C.1 C.2.1 dL_law_497 rfl (lv_at hl 2 rfl) ?_
  refine lv_aload_n C.1 C.2.1 dL_law_498 rfl (lv_at hl 3 rfl) ?_
  refine lv_iload_n C.1 C.2.1 dL_law_499 rfl (lv_at hl 0 rfl) ?_
  refine lv_iconst (v := 1) C.1 C.2.1 dL_law_500 (by decide) ?_
  refine k_iadd (v := 1) C (by decide) dL_law_501 ?_
  refine k_sld (v := y1) C hX hbl hbA Wd (vp_in_iff.mpr (by decide)) hy1 dL_law_502 ?_
  refine lv_aload_n C.1 C.2.1 dL_law_503 rfl (lv_at hl 3 rfl) ?_
  refine lv_iload_n C.1 C.2.1 dL_law_504 rfl (lv_at hl 0 rfl) ?_
  refine lv_iconst (v := 2) C.1 C.2.1 dL_law_505 (by decide) ?_
  refine k_iadd (v := 2) C (by decide) dL_law_506 ?_
  refine k_sld (v := y2) C hX hbl hbA Wd (vp_in_iff.mpr (by decide)) hy2 dL_law_507 ?_
  refine lv_aload_n C.1 C.2.1 dL_law_508 rfl (lv_at hl 3 rfl) ?_
  refine lv_iload_n C.1 C.2.1 dL_law_509 rfl (lv_at hl 0 rfl) ?_
  refine lv_iconst (v := 3) C.1 C.2.1 dL_law_510 (by decide) ?_
  refine k_iadd (v := 3) C (by decide) dL_law_511 ?_
  refine k_sld (v := y3) C hX hbl hbA Wd (vp_in_iff.mpr (by decide)) hy3 dL_law_512 ?_
  refine lv_aload_n C.1 C.2.1 dL_law_513 rfl (lv_at hl 3 rfl) ?_
  refine lv_iload_n C.1 C.2.1 dL_law_514 rfl (lv_at hl 0 rfl) ?_
  refine lv_iconst (v := 4) C.1 C.2.1 dL_law_515 (by decide) ?_
  refine k_iadd (v := 4) C (by decide) dL_law_516 ?_
  refine k_sld (v := y4) C hX hbl hbA Wd (vp_in_iff.mpr (by decide)) hy4 dL_law_517 ?_
  refine k_pi (k_runV (rest := []) C aks Wd cs_L_64 (kcX11_apply l D q5961 q5963 q5964 q5965 q5966 q5967 q5968 q5969 q6010 q6011 q6012 q6013 q6014 q6015 q6016 q6017 y1 y2 y3 y4 (va_up (va_up (va_up (va_up (va_up (va_up (fun _ => none) 0 (some q5971)) 1 (some q5972)) 2 (some q5973)) 3 (some q5974)) 4 (some q5975)) 5 (some q5976)) (va_up (va_up (va_up (va_up (va_up (va_up (va_up (va_up (va_up (va_up (va_up (va_up (fun _ => none) 0 (some q6019)) 1 (some q6020)) 2 (some q6021)) 3 (some q6022)) 4 (some q6023)) 5 (some q6024)) 6 (some q6025)) 7 (some q6026)) 8 (some q6027)) 9 (some q6028)) 10 (some q6029)) 11 (some q6030)) e5970 e6018 _ ) [0, 2, 3, 1] rfl (by decide) [0, 1] rfl 0 11 rfl rfl rfl rfl rfl ⟨(Nat.le_of_ble_eq_true rfl), (Nat.le_of_ble_eq_true rfl)⟩ hl.1 rfl rfl (Nat.le_of_ble_eq_true rfl) ⟨(Nat.le_of_ble_eq_true rfl), (Nat.le_of_ble_eq_true rfl)⟩ dL_law_518) (fun r w9353 => ?_)
  rcases w9353 with ⟨c9354, c9355, c9356, rfl⟩ | ⟨c9357, c9358, c9359, c9360, rfl⟩ | ⟨c9361, c9362, c9363, c9364, rfl⟩ | ⟨c9365, c9366, c9367, c9368, rfl⟩ | ⟨c9369, c9370, c9371, c9372, rfl⟩ | ⟨c9373, c9374, c9375, c9376, c9377, rfl⟩ | ⟨c9378, c9379, c9380, c9381, c9382, rfl⟩ | ⟨c9383, c9384, c9385, c9386, c9387, rfl⟩ | ⟨c9388, c9389, c9390, c9391, rfl⟩ | ⟨c9392, c9393, c9394, c9395, c9396, rfl⟩ | ⟨c9397, c9398, c9399, c9400, c9401, rfl⟩ | ⟨c9402, c9403, c9404, c9405, c9406, rfl⟩ | ⟨c9407, c9408, c9409, c9410, rfl⟩ | ⟨c9411, c9412, c9413, c9414, c9415, rfl⟩ | ⟨c9416, c9417, c9418, c9419, c9420, rfl⟩ | ⟨c9421, c9422, c9423, c9424, c9425, rfl⟩ | ⟨c9426, c9427, c9428, c9429, rfl⟩ | ⟨c9430, c9431, c9432, c9433, c9434, rfl⟩ | ⟨c9435, c9436, c9437, c9438, c9439, rfl⟩ | ⟨c9440, c9441, c9442, c9443, c9444, rfl⟩ | ⟨c9445, c9446, c9447, c9448, c9449, rfl⟩ | ⟨c9450, c9451, c9452, c9453, c9454, c9455, rfl⟩ | ⟨c9456, c9457, c9458, c9459, c9460, c9461, rfl⟩ | ⟨c9462, c9463, c9464, c9465, c9466, c9467, rfl⟩ | ⟨c9468, c9469, c9470, c9471, c9472, rfl⟩ | ⟨c9473, c9474, c9475, c9476, c9477, c9478, rfl⟩ | ⟨c9479, c9480, c9481, c9482, c9483, c9484, rfl⟩ | ⟨c9485, c9486, c9487, c9488, c9489, c9490, rfl⟩ | ⟨c9491, c9492, c9493, c9494, c9495, rfl⟩ | ⟨c9496, c9497, c9498, c9499, c9500, c9501, rfl⟩ | ⟨c9502, c9503, c9504, c9505, c9506, c9507, rfl⟩ | ⟨c9508, c9509, c9510, c9511, c9512, c9513, rfl⟩
  · refine lv_aload_n C.1 C.2.1 dL_law_521 rfl (lv_at hl 1 rfl) ?_
    refine lv_aload_n C.1 C.2.1 dL_law_522 rfl (lv_at hl 3 rfl) ?_
    refine lv_iload_n C.1 C.2.1 dL_law_523 rfl (lv_at hl 0 rfl) ?_
    refine lv_iconst (v := 1) C.1 C.2.1 dL_law_524 (by decide) ?_
    refine k_iadd (v := 1) C (by decide) dL_law_525 ?_
    refine k_sld (v := y1) C hX hbl hbA Wd (vp_in_iff.mpr (by decide)) hy1 dL_law_526 ?_
    refine lv_aload_n C.1 C.2.1 dL_law_527 rfl (lv_at hl 3 rfl) ?_
    refine lv_iload_n C.1 C.2.1 dL_law_528 rfl (lv_at hl 0 rfl) ?_
    refine lv_iconst (v := 2) C.1 C.2.1 dL_law_529 (by decide) ?_
    refine k_iadd (v := 2) C (by decide) dL_law_530 ?_
    refine k_sld (v := y2) C hX hbl hbA Wd (vp_in_iff.mpr (by decide)) hy2 dL_law_531 ?_
    refine lv_aload_n C.1 C.2.1 dL_law_532 rfl (lv_at hl 3 rfl) ?_
    refine lv_iload_n C.1 C.2.1 dL_law_533 rfl (lv_at hl 0 rfl) ?_
    refine lv_iconst (v := 3) C.1 C.2.1 dL_law_534 (by decide) ?_
    refine k_iadd (v := 3) C (by decide) dL_law_535 ?_
    refine k_sld (v := y3) C hX hbl hbA Wd (vp_in_iff.mpr (by decide)) hy3 dL_law_536 ?_
    refine lv_aload_n C.1 C.2.1 dL_law_537 rfl (lv_at hl 3 rfl) ?_
    refine lv_iload_n C.1 C.2.1 dL_law_538 rfl (lv_at hl 0 rfl) ?_
    refine lv_iconst (v := 4) C.1 C.2.1 dL_law_539 (by decide) ?_
    refine k_iadd (v := 4) C (by decide) dL_law_540 ?_
    refine k_sld (v := y4) C hX hbl hbA Wd (vp_in_iff.mpr (by decide)) hy4 dL_law_541 ?_
    refine k_pi (k_runV (rest := [.int 0]) C aks Wd cs_L_68 (kcX12_apply l D q6104 q6106 q6107 q6108 q6109 q6110 q6111 q6112 q6113 q6114 q6115 q6116 q6117 q6118 q6119 q6120 q6121 q6122 q6123 q6124 q6125 q6126 q6127 q6128 q6129 q6130 y1 y2 y3 y4 _ ) [4] rfl (by decide) [] rfl 4 12 rfl rfl rfl rfl rfl ⟨(Nat.le_of_ble_eq_true rfl), (Nat.le_of_ble_eq_true rfl)⟩ hl.1 rfl rfl (Nat.le_of_ble_eq_true rfl) ⟨(Nat.le_of_ble_eq_true rfl), (Nat.le_of_ble_eq_true rfl)⟩ dL_law_542) (fun r w9514 => ?_)
    rcases w9514 with ⟨c9515, rfl⟩ | ⟨c9516, c9517, rfl⟩
    · exact False.elim (by have z0 := kz_le c9354; have z1 := kz_lt c9515; have t0 : (0 : Int32).toInt = 0 := (by decide); omega)
    · refine lv_icmp_eq (tgt := 801) C.1 C.2.1 dL_law_545 (by decide) (fun _ => ?_) (fun c9518 => absurd c9518 (by decide))
      exact tail _ _ _ (k_sub Wd [] rfl (by decide) [] rfl) (lv_sub hl [0, 3] rfl)
  · refine lv_aload_n C.1 C.2.1 dL_law_521 rfl (lv_at hl 1 rfl) ?_
    refine lv_aload_n C.1 C.2.1 dL_law_522 rfl (lv_at hl 3 rfl) ?_
    refine lv_iload_n C.1 C.2.1 dL_law_523 rfl (lv_at hl 0 rfl) ?_
    refine lv_iconst (v := 1) C.1 C.2.1 dL_law_524 (by decide) ?_
    refine k_iadd (v := 1) C (by decide) dL_law_525 ?_
    refine k_sld (v := y1) C hX hbl hbA Wd (vp_in_iff.mpr (by decide)) hy1 dL_law_526 ?_
    refine lv_aload_n C.1 C.2.1 dL_law_527 rfl (lv_at hl 3 rfl) ?_
    refine lv_iload_n C.1 C.2.1 dL_law_528 rfl (lv_at hl 0 rfl) ?_
    refine lv_iconst (v := 2) C.1 C.2.1 dL_law_529 (by decide) ?_
    refine k_iadd (v := 2) C (by decide) dL_law_530 ?_
    refine k_sld (v := y2) C hX hbl hbA Wd (vp_in_iff.mpr (by decide)) hy2 dL_law_531 ?_
    refine lv_aload_n C.1 C.2.1 dL_law_532 rfl (lv_at hl 3 rfl) ?_
    refine lv_iload_n C.1 C.2.1 dL_law_533 rfl (lv_at hl 0 rfl) ?_
    refine lv_iconst (v := 3) C.1 C.2.1 dL_law_534 (by decide) ?_
    refine k_iadd (v := 3) C (by decide) dL_law_535 ?_
    refine k_sld (v := y3) C hX hbl hbA Wd (vp_in_iff.mpr (by decide)) hy3 dL_law_536 ?_
    refine lv_aload_n C.1 C.2.1 dL_law_537 rfl (lv_at hl 3 rfl) ?_
    refine lv_iload_n C.1 C.2.1 dL_law_538 rfl (lv_at hl 0 rfl) ?_
    refine lv_iconst (v := 4) C.1 C.2.1 dL_law_539 (by decide) ?_
    refine k_iadd (v := 4) C (by decide) dL_law_540 ?_
    refine k_sld (v := y4) C hX hbl hbA Wd (vp_in_iff.mpr (by decide)) hy4 dL_law_541 ?_
    refine k_pi (k_runV (rest := [.int 0]) C aks Wd cs_L_68 (kcX12_apply l D q6104 q6106 q6107 q6108 q6109 q6110 q6111 q6112 q6113 q6114 q6115 q6116 q6117 q6118 q6119 q6120 q6121 q6122 q6123 q6124 q6125 q6126 q6127 q6128 q6129 q6130 y1 y2 y3 y4 _ ) [4] rfl (by decide) [] rfl 4 12 rfl rfl rfl rfl rfl ⟨(Nat.le_of_ble_eq_true rfl), (Nat.le_of_ble_eq_true rfl)⟩ hl.1 rfl rfl (Nat.le_of_ble_eq_true rfl) ⟨(Nat.le_of_ble_eq_true rfl), (Nat.le_of_ble_eq_true rfl)⟩ dL_law_542) (fun r w9519 => ?_)
    rcases w9519 with ⟨c9520, rfl⟩ | ⟨c9521, c9522, rfl⟩
    · exact False.elim (by have z0 := kz_le c9357; have z1 := kz_lt c9520; have t0 : (0 : Int32).toInt = 0 := (by decide); omega)
    · refine lv_icmp_eq (tgt := 801) C.1 C.2.1 dL_law_545 (by decide) (fun _ => ?_) (fun c9523 => absurd c9523 (by decide))
      exact tail _ _ _ (k_sub Wd [] rfl (by decide) [] rfl) (lv_sub hl [0, 3] rfl)
  · refine lv_aload_n C.1 C.2.1 dL_law_521 rfl (lv_at hl 1 rfl) ?_
    refine lv_aload_n C.1 C.2.1 dL_law_522 rfl (lv_at hl 3 rfl) ?_
    refine lv_iload_n C.1 C.2.1 dL_law_523 rfl (lv_at hl 0 rfl) ?_
    refine lv_iconst (v := 1) C.1 C.2.1 dL_law_524 (by decide) ?_
    refine k_iadd (v := 1) C (by decide) dL_law_525 ?_
    refine k_sld (v := y1) C hX hbl hbA Wd (vp_in_iff.mpr (by decide)) hy1 dL_law_526 ?_
    refine lv_aload_n C.1 C.2.1 dL_law_527 rfl (lv_at hl 3 rfl) ?_
    refine lv_iload_n C.1 C.2.1 dL_law_528 rfl (lv_at hl 0 rfl) ?_
    refine lv_iconst (v := 2) C.1 C.2.1 dL_law_529 (by decide) ?_
    refine k_iadd (v := 2) C (by decide) dL_law_530 ?_
    refine k_sld (v := y2) C hX hbl hbA Wd (vp_in_iff.mpr (by decide)) hy2 dL_law_531 ?_
    refine lv_aload_n C.1 C.2.1 dL_law_532 rfl (lv_at hl 3 rfl) ?_
    refine lv_iload_n C.1 C.2.1 dL_law_533 rfl (lv_at hl 0 rfl) ?_
    refine lv_iconst (v := 3) C.1 C.2.1 dL_law_534 (by decide) ?_
    refine k_iadd (v := 3) C (by decide) dL_law_535 ?_
    refine k_sld (v := y3) C hX hbl hbA Wd (vp_in_iff.mpr (by decide)) hy3 dL_law_536 ?_
    refine lv_aload_n C.1 C.2.1 dL_law_537 rfl (lv_at hl 3 rfl) ?_
    refine lv_iload_n C.1 C.2.1 dL_law_538 rfl (lv_at hl 0 rfl) ?_
    refine lv_iconst (v := 4) C.1 C.2.1 dL_law_539 (by decide) ?_
    refine k_iadd (v := 4) C (by decide) dL_law_540 ?_
    refine k_sld (v := y4) C hX hbl hbA Wd (vp_in_iff.mpr (by decide)) hy4 dL_law_541 ?_
    refine k_pi (k_runV (rest := [.int 0]) C aks Wd cs_L_68 (kcX12_apply l D q6104 q6106 q6107 q6108 q6109 q6110 q6111 q6112 q6113 q6114 q6115 q6116 q6117 q6118 q6119 q6120 q6121 q6122 q6123 q6124 q6125 q6126 q6127 q6128 q6129 q6130 y1 y2 y3 y4 _ ) [4] rfl (by decide) [] rfl 4 12 rfl rfl rfl rfl rfl ⟨(Nat.le_of_ble_eq_true rfl), (Nat.le_of_ble_eq_true rfl)⟩ hl.1 rfl rfl (Nat.le_of_ble_eq_true rfl) ⟨(Nat.le_of_ble_eq_true rfl), (Nat.le_of_ble_eq_true rfl)⟩ dL_law_542) (fun r w9524 => ?_)
    rcases w9524 with ⟨c9525, rfl⟩ | ⟨c9526, c9527, rfl⟩
    · exact False.elim (by have z0 := kz_le c9361; have z1 := kz_lt c9525; have t0 : (0 : Int32).toInt = 0 := (by decide); omega)
    · refine lv_icmp_eq (tgt := 801) C.1 C.2.1 dL_law_545 (by decide) (fun _ => ?_) (fun c9528 => absurd c9528 (by decide))
      exact tail _ _ _ (k_sub Wd [] rfl (by decide) [] rfl) (lv_sub hl [0, 3] rfl)
  · refine lv_aload_n C.1 C.2.1 dL_law_521 rfl (lv_at hl 1 rfl) ?_
    refine lv_aload_n C.1 C.2.1 dL_law_522 rfl (lv_at hl 3 rfl) ?_
    refine lv_iload_n C.1 C.2.1 dL_law_523 rfl (lv_at hl 0 rfl) ?_
    refine lv_iconst (v := 1) C.1 C.2.1 dL_law_524 (by decide) ?_
    refine k_iadd (v := 1) C (by decide) dL_law_525 ?_
    refine k_sld (v := y1) C hX hbl hbA Wd (vp_in_iff.mpr (by decide)) hy1 dL_law_526 ?_
    refine lv_aload_n C.1 C.2.1 dL_law_527 rfl (lv_at hl 3 rfl) ?_
    refine lv_iload_n C.1 C.2.1 dL_law_528 rfl (lv_at hl 0 rfl) ?_
    refine lv_iconst (v := 2) C.1 C.2.1 dL_law_529 (by decide) ?_
    refine k_iadd (v := 2) C (by decide) dL_law_530 ?_
    refine k_sld (v := y2) C hX hbl hbA Wd (vp_in_iff.mpr (by decide)) hy2 dL_law_531 ?_
    refine lv_aload_n C.1 C.2.1 dL_law_532 rfl (lv_at hl 3 rfl) ?_
    refine lv_iload_n C.1 C.2.1 dL_law_533 rfl (lv_at hl 0 rfl) ?_
    refine lv_iconst (v := 3) C.1 C.2.1 dL_law_534 (by decide) ?_
    refine k_iadd (v := 3) C (by decide) dL_law_535 ?_
    refine k_sld (v := y3) C hX hbl hbA Wd (vp_in_iff.mpr (by decide)) hy3 dL_law_536 ?_
    refine lv_aload_n C.1 C.2.1 dL_law_537 rfl (lv_at hl 3 rfl) ?_
    refine lv_iload_n C.1 C.2.1 dL_law_538 rfl (lv_at hl 0 rfl) ?_
    refine lv_iconst (v := 4) C.1 C.2.1 dL_law_539 (by decide) ?_
    refine k_iadd (v := 4) C (by decide) dL_law_540 ?_
    refine k_sld (v := y4) C hX hbl hbA Wd (vp_in_iff.mpr (by decide)) hy4 dL_law_541 ?_
    refine k_pi (k_runV (rest := [.int 0]) C aks Wd cs_L_68 (kcX12_apply l D q6104 q6106 q6107 q6108 q6109 q6110 q6111 q6112 q6113 q6114 q6115 q6116 q6117 q6118 q6119 q6120 q6121 q6122 q6123 q6124 q6125 q6126 q6127 q6128 q6129 q6130 y1 y2 y3 y4 _ ) [4] rfl (by decide) [] rfl 4 12 rfl rfl rfl rfl rfl ⟨(Nat.le_of_ble_eq_true rfl), (Nat.le_of_ble_eq_true rfl)⟩ hl.1 rfl rfl (Nat.le_of_ble_eq_true rfl) ⟨(Nat.le_of_ble_eq_true rfl), (Nat.le_of_ble_eq_true rfl)⟩ dL_law_542) (fun r w9529 => ?_)
    rcases w9529 with ⟨c9530, rfl⟩ | ⟨c9531, c9532, rfl⟩
    · exact False.elim (by have z0 := kz_le c9365; have z1 := kz_lt c9530; have t0 : (0 : Int32).toInt = 0 := (by decide); omega)
    · refine lv_icmp_eq (tgt := 801) C.1 C.2.1 dL_law_545 (by decide) (fun _ => ?_) (fun c9533 => absurd c9533 (by decide))
      exact tail _ _ _ (k_sub Wd [] rfl (by decide) [] rfl) (lv_sub hl [0, 3] rfl)
  · refine lv_aload_n C.1 C.2.1 dL_law_521 rfl (lv_at hl 1 rfl) ?_
    refine lv_aload_n C.1 C.2.1 dL_law_522 rfl (lv_at hl 3 rfl) ?_
    refine lv_iload_n C.1 C.2.1 dL_law_523 rfl (lv_at hl 0 rfl) ?_
    refine lv_iconst (v := 1) C.1 C.2.1 dL_law_524 (by decide) ?_
    refine k_iadd (v := 1) C (by decide) dL_law_525 ?_
    refine k_sld (v := y1) C hX hbl hbA Wd (vp_in_iff.mpr (by decide)) hy1 dL_law_526 ?_
    refine lv_aload_n C.1 C.2.1 dL_law_527 rfl (lv_at hl 3 rfl) ?_
    refine lv_iload_n C.1 C.2.1 dL_law_528 rfl (lv_at hl 0 rfl) ?_
    refine lv_iconst (v := 2) C.1 C.2.1 dL_law_529 (by decide) ?_
    refine k_iadd (v := 2) C (by decide) dL_law_530 ?_
    refine k_sld (v := y2) C hX hbl hbA Wd (vp_in_iff.mpr (by decide)) hy2 dL_law_531 ?_
    refine lv_aload_n C.1 C.2.1 dL_law_532 rfl (lv_at hl 3 rfl) ?_
    refine lv_iload_n C.1 C.2.1 dL_law_533 rfl (lv_at hl 0 rfl) ?_
    refine lv_iconst (v := 3) C.1 C.2.1 dL_law_534 (by decide) ?_
    refine k_iadd (v := 3) C (by decide) dL_law_535 ?_
    refine k_sld (v := y3) C hX hbl hbA Wd (vp_in_iff.mpr (by decide)) hy3 dL_law_536 ?_
    refine lv_aload_n C.1 C.2.1 dL_law_537 rfl (lv_at hl 3 rfl) ?_
    refine lv_iload_n C.1 C.2.1 dL_law_538 rfl (lv_at hl 0 rfl) ?_
    refine lv_iconst (v := 4) C.1 C.2.1 dL_law_539 (by decide) ?_
    refine k_iadd (v := 4) C (by decide) dL_law_540 ?_
    refine k_sld (v := y4) C hX hbl hbA Wd (vp_in_iff.mpr (by decide)) hy4 dL_law_541 ?_
    refine k_pi (k_runV (rest := [.int 0]) C aks Wd cs_L_68 (kcX12_apply l D q6104 q6106 q6107 q6108 q6109 q6110 q6111 q6112 q6113 q6114 q6115 q6116 q6117 q6118 q6119 q6120 q6121 q6122 q6123 q6124 q6125 q6126 q6127 q6128 q6129 q6130 y1 y2 y3 y4 _ ) [4] rfl (by decide) [] rfl 4 12 rfl rfl rfl rfl rfl ⟨(Nat.le_of_ble_eq_true rfl), (Nat.le_of_ble_eq_true rfl)⟩ hl.1 rfl rfl (Nat.le_of_ble_eq_true rfl) ⟨(Nat.le_of_ble_eq_true rfl), (Nat.le_of_ble_eq_true rfl)⟩ dL_law_542) (fun r w9534 => ?_)
    rcases w9534 with ⟨c9535, rfl⟩ | ⟨c9536, c9537, rfl⟩
    · exact False.elim (by have z0 := kz_le c9369; have z1 := kz_lt c9535; have t0 : (0 : Int32).toInt = 0 := (by decide); omega)
    · refine lv_icmp_eq (tgt := 801) C.1 C.2.1 dL_law_545 (by decide) (fun _ => ?_) (fun c9538 => absurd c9538 (by decide))
      exact tail _ _ _ (k_sub Wd [] rfl (by decide) [] rfl) (lv_sub hl [0, 3] rfl)
  · refine lv_aload_n C.1 C.2.1 dL_law_521 rfl (lv_at hl 1 rfl) ?_
    refine lv_aload_n C.1 C.2.1 dL_law_522 rfl (lv_at hl 3 rfl) ?_
    refine lv_iload_n C.1 C.2.1 dL_law_523 rfl (lv_at hl 0 rfl) ?_
    refine lv_iconst (v := 1) C.1 C.2.1 dL_law_524 (by decide) ?_
    refine k_iadd (v := 1) C (by decide) dL_law_525 ?_
    refine k_sld (v := y1) C hX hbl hbA Wd (vp_in_iff.mpr (by decide)) hy1 dL_law_526 ?_
    refine lv_aload_n C.1 C.2.1 dL_law_527 rfl (lv_at hl 3 rfl) ?_
    refine lv_iload_n C.1 C.2.1 dL_law_528 rfl (lv_at hl 0 rfl) ?_
    refine lv_iconst (v := 2) C.1 C.2.1 dL_law_529 (by decide) ?_
    refine k_iadd (v := 2) C (by decide) dL_law_530 ?_
    refine k_sld (v := y2) C hX hbl hbA Wd (vp_in_iff.mpr (by decide)) hy2 dL_law_531 ?_
    refine lv_aload_n C.1 C.2.1 dL_law_532 rfl (lv_at hl 3 rfl) ?_
    refine lv_iload_n C.1 C.2.1 dL_law_533 rfl (lv_at hl 0 rfl) ?_
    refine lv_iconst (v := 3) C.1 C.2.1 dL_law_534 (by decide) ?_
    refine k_iadd (v := 3) C (by decide) dL_law_535 ?_
    refine k_sld (v := y3) C hX hbl hbA Wd (vp_in_iff.mpr (by decide)) hy3 dL_law_536 ?_
    refine lv_aload_n C.1 C.2.1 dL_law_537 rfl (lv_at hl 3 rfl) ?_
    refine lv_iload_n C.1 C.2.1 dL_law_538 rfl (lv_at hl 0 rfl) ?_
    refine lv_iconst (v := 4) C.1 C.2.1 dL_law_539 (by decide) ?_
    refine k_iadd (v := 4) C (by decide) dL_law_540 ?_
    refine k_sld (v := y4) C hX hbl hbA Wd (vp_in_iff.mpr (by decide)) hy4 dL_law_541 ?_
    refine k_pi (k_runV (rest := [.int 0]) C aks Wd cs_L_68 (kcX12_apply l D q6104 q6106 q6107 q6108 q6109 q6110 q6111 q6112 q6113 q6114 q6115 q6116 q6117 q6118 q6119 q6120 q6121 q6122 q6123 q6124 q6125 q6126 q6127 q6128 q6129 q6130 y1 y2 y3 y4 _ ) [4] rfl (by decide) [] rfl 4 12 rfl rfl rfl rfl rfl ⟨(Nat.le_of_ble_eq_true rfl), (Nat.le_of_ble_eq_true rfl)⟩ hl.1 rfl rfl (Nat.le_of_ble_eq_true rfl) ⟨(Nat.le_of_ble_eq_true rfl), (Nat.le_of_ble_eq_true rfl)⟩ dL_law_542) (fun r w9539 => ?_)
    rcases w9539 with ⟨c9540, rfl⟩ | ⟨c9541, c9542, rfl⟩
    · exact False.elim (by have z0 := kz_le c9373; have z1 := kz_lt c9540; have t0 : (0 : Int32).toInt = 0 := (by decide); omega)
    · refine lv_icmp_eq (tgt := 801) C.1 C.2.1 dL_law_545 (by decide) (fun _ => ?_) (fun c9543 => absurd c9543 (by decide))
      exact tail _ _ _ (k_sub Wd [] rfl (by decide) [] rfl) (lv_sub hl [0, 3] rfl)
  · refine lv_aload_n C.1 C.2.1 dL_law_521 rfl (lv_at hl 1 rfl) ?_
    refine lv_aload_n C.1 C.2.1 dL_law_522 rfl (lv_at hl 3 rfl) ?_
    refine lv_iload_n C.1 C.2.1 dL_law_523 rfl (lv_at hl 0 rfl) ?_
    refine lv_iconst (v := 1) C.1 C.2.1 dL_law_524 (by decide) ?_
    refine k_iadd (v := 1) C (by decide) dL_law_525 ?_
    refine k_sld (v := y1) C hX hbl hbA Wd (vp_in_iff.mpr (by decide)) hy1 dL_law_526 ?_
    refine lv_aload_n C.1 C.2.1 dL_law_527 rfl (lv_at hl 3 rfl) ?_
    refine lv_iload_n C.1 C.2.1 dL_law_528 rfl (lv_at hl 0 rfl) ?_
    refine lv_iconst (v := 2) C.1 C.2.1 dL_law_529 (by decide) ?_
    refine k_iadd (v := 2) C (by decide) dL_law_530 ?_
    refine k_sld (v := y2) C hX hbl hbA Wd (vp_in_iff.mpr (by decide)) hy2 dL_law_531 ?_
    refine lv_aload_n C.1 C.2.1 dL_law_532 rfl (lv_at hl 3 rfl) ?_
    refine lv_iload_n C.1 C.2.1 dL_law_533 rfl (lv_at hl 0 rfl) ?_
    refine lv_iconst (v := 3) C.1 C.2.1 dL_law_534 (by decide) ?_
    refine k_iadd (v := 3) C (by decide) dL_law_535 ?_
    refine k_sld (v := y3) C hX hbl hbA Wd (vp_in_iff.mpr (by decide)) hy3 dL_law_536 ?_
    refine lv_aload_n C.1 C.2.1 dL_law_537 rfl (lv_at hl 3 rfl) ?_
    refine lv_iload_n C.1 C.2.1 dL_law_538 rfl (lv_at hl 0 rfl) ?_
    refine lv_iconst (v := 4) C.1 C.2.1 dL_law_539 (by decide) ?_
    refine k_iadd (v := 4) C (by decide) dL_law_540 ?_
    refine k_sld (v := y4) C hX hbl hbA Wd (vp_in_iff.mpr (by decide)) hy4 dL_law_541 ?_
    refine k_pi (k_runV (rest := [.int 0]) C aks Wd cs_L_68 (kcX12_apply l D q6104 q6106 q6107 q6108 q6109 q6110 q6111 q6112 q6113 q6114 q6115 q6116 q6117 q6118 q6119 q6120 q6121 q6122 q6123 q6124 q6125 q6126 q6127 q6128 q6129 q6130 y1 y2 y3 y4 _ ) [4] rfl (by decide) [] rfl 4 12 rfl rfl rfl rfl rfl ⟨(Nat.le_of_ble_eq_true rfl), (Nat.le_of_ble_eq_true rfl)⟩ hl.1 rfl rfl (Nat.le_of_ble_eq_true rfl) ⟨(Nat.le_of_ble_eq_true rfl), (Nat.le_of_ble_eq_true rfl)⟩ dL_law_542) (fun r w9544 => ?_)
    rcases w9544 with ⟨c9545, rfl⟩ | ⟨c9546, c9547, rfl⟩
    · exact False.elim (by have z0 := kz_le c9378; have z1 := kz_lt c9545; have t0 : (0 : Int32).toInt = 0 := (by decide); omega)
    · refine lv_icmp_eq (tgt := 801) C.1 C.2.1 dL_law_545 (by decide) (fun _ => ?_) (fun c9548 => absurd c9548 (by decide))
      exact tail _ _ _ (k_sub Wd [] rfl (by decide) [] rfl) (lv_sub hl [0, 3] rfl)
  · refine lv_aload_n C.1 C.2.1 dL_law_521 rfl (lv_at hl 1 rfl) ?_
    refine lv_aload_n C.1 C.2.1 dL_law_522 rfl (lv_at hl 3 rfl) ?_
    refine lv_iload_n C.1 C.2.1 dL_law_523 rfl (lv_at hl 0 rfl) ?_
    refine lv_iconst (v := 1) C.1 C.2.1 dL_law_524 (by decide) ?_
    refine k_iadd (v := 1) C (by decide) dL_law_525 ?_
    refine k_sld (v := y1) C hX hbl hbA Wd (vp_in_iff.mpr (by decide)) hy1 dL_law_526 ?_
    refine lv_aload_n C.1 C.2.1 dL_law_527 rfl (lv_at hl 3 rfl) ?_
    refine lv_iload_n C.1 C.2.1 dL_law_528 rfl (lv_at hl 0 rfl) ?_
    refine lv_iconst (v := 2) C.1 C.2.1 dL_law_529 (by decide) ?_
    refine k_iadd (v := 2) C (by decide) dL_law_530 ?_
    refine k_sld (v := y2) C hX hbl hbA Wd (vp_in_iff.mpr (by decide)) hy2 dL_law_531 ?_
    refine lv_aload_n C.1 C.2.1 dL_law_532 rfl (lv_at hl 3 rfl) ?_
    refine lv_iload_n C.1 C.2.1 dL_law_533 rfl (lv_at hl 0 rfl) ?_
    refine lv_iconst (v := 3) C.1 C.2.1 dL_law_534 (by decide) ?_
    refine k_iadd (v := 3) C (by decide) dL_law_535 ?_
    refine k_sld (v := y3) C hX hbl hbA Wd (vp_in_iff.mpr (by decide)) hy3 dL_law_536 ?_
    refine lv_aload_n C.1 C.2.1 dL_law_537 rfl (lv_at hl 3 rfl) ?_
    refine lv_iload_n C.1 C.2.1 dL_law_538 rfl (lv_at hl 0 rfl) ?_
    refine lv_iconst (v := 4) C.1 C.2.1 dL_law_539 (by decide) ?_
    refine k_iadd (v := 4) C (by decide) dL_law_540 ?_
    refine k_sld (v := y4) C hX hbl hbA Wd (vp_in_iff.mpr (by decide)) hy4 dL_law_541 ?_
    refine k_pi (k_runV (rest := [.int 0]) C aks Wd cs_L_68 (kcX12_apply l D q6104 q6106 q6107 q6108 q6109 q6110 q6111 q6112 q6113 q6114 q6115 q6116 q6117 q6118 q6119 q6120 q6121 q6122 q6123 q6124 q6125 q6126 q6127 q6128 q6129 q6130 y1 y2 y3 y4 _ ) [4] rfl (by decide) [] rfl 4 12 rfl rfl rfl rfl rfl ⟨(Nat.le_of_ble_eq_true rfl), (Nat.le_of_ble_eq_true rfl)⟩ hl.1 rfl rfl (Nat.le_of_ble_eq_true rfl) ⟨(Nat.le_of_ble_eq_true rfl), (Nat.le_of_ble_eq_true rfl)⟩ dL_law_542) (fun r w9549 => ?_)
    rcases w9549 with ⟨c9550, rfl⟩ | ⟨c9551, c9552, rfl⟩
    · exact False.elim (by have z0 := kz_le c9383; have z1 := kz_lt c9550; have t0 : (0 : Int32).toInt = 0 := (by decide); omega)
    · refine lv_icmp_eq (tgt := 801) C.1 C.2.1 dL_law_545 (by decide) (fun _ => ?_) (fun c9553 => absurd c9553 (by decide))
      exact tail _ _ _ (k_sub Wd [] rfl (by decide) [] rfl) (lv_sub hl [0, 3] rfl)
  · refine lv_aload_n C.1 C.2.1 dL_law_521 rfl (lv_at hl 1 rfl) ?_
    refine lv_aload_n C.1 C.2.1 dL_law_522 rfl (lv_at hl 3 rfl) ?_
    refine lv_iload_n C.1 C.2.1 dL_law_523 rfl (lv_at hl 0 rfl) ?_
    refine lv_iconst (v := 1) C.1 C.2.1 dL_law_524 (by decide) ?_
    refine k_iadd (v := 1) C (by decide) dL_law_525 ?_
    refine k_sld (v := y1) C hX hbl hbA Wd (vp_in_iff.mpr (by decide)) hy1 dL_law_526 ?_
    refine lv_aload_n C.1 C.2.1 dL_law_527 rfl (lv_at hl 3 rfl) ?_
    refine lv_iload_n C.1 C.2.1 dL_law_528 rfl (lv_at hl 0 rfl) ?_
    refine lv_iconst (v := 2) C.1 C.2.1 dL_law_529 (by decide) ?_
    refine k_iadd (v := 2) C (by decide) dL_law_530 ?_
    refine k_sld (v := y2) C hX hbl hbA Wd (vp_in_iff.mpr (by decide)) hy2 dL_law_531 ?_
    refine lv_aload_n C.1 C.2.1 dL_law_532 rfl (lv_at hl 3 rfl) ?_
    refine lv_iload_n C.1 C.2.1 dL_law_533 rfl (lv_at hl 0 rfl) ?_
    refine lv_iconst (v := 3) C.1 C.2.1 dL_law_534 (by decide) ?_
    refine k_iadd (v := 3) C (by decide) dL_law_535 ?_
    refine k_sld (v := y3) C hX hbl hbA Wd (vp_in_iff.mpr (by decide)) hy3 dL_law_536 ?_
    refine lv_aload_n C.1 C.2.1 dL_law_537 rfl (lv_at hl 3 rfl) ?_
    refine lv_iload_n C.1 C.2.1 dL_law_538 rfl (lv_at hl 0 rfl) ?_
    refine lv_iconst (v := 4) C.1 C.2.1 dL_law_539 (by decide) ?_
    refine k_iadd (v := 4) C (by decide) dL_law_540 ?_
    refine k_sld (v := y4) C hX hbl hbA Wd (vp_in_iff.mpr (by decide)) hy4 dL_law_541 ?_
    refine k_pi (k_runV (rest := [.int 0]) C aks Wd cs_L_68 (kcX12_apply l D q6104 q6106 q6107 q6108 q6109 q6110 q6111 q6112 q6113 q6114 q6115 q6116 q6117 q6118 q6119 q6120 q6121 q6122 q6123 q6124 q6125 q6126 q6127 q6128 q6129 q6130 y1 y2 y3 y4 _ ) [4] rfl (by decide) [] rfl 4 12 rfl rfl rfl rfl rfl ⟨(Nat.le_of_ble_eq_true rfl), (Nat.le_of_ble_eq_true rfl)⟩ hl.1 rfl rfl (Nat.le_of_ble_eq_true rfl) ⟨(Nat.le_of_ble_eq_true rfl), (Nat.le_of_ble_eq_true rfl)⟩ dL_law_542) (fun r w9554 => ?_)
    rcases w9554 with ⟨c9555, rfl⟩ | ⟨c9556, c9557, rfl⟩
    · exact False.elim (by have z0 := kz_le c9388; have z1 := kz_lt c9555; have t0 : (0 : Int32).toInt = 0 := (by decide); omega)
    · refine lv_icmp_eq (tgt := 801) C.1 C.2.1 dL_law_545 (by decide) (fun _ => ?_) (fun c9558 => absurd c9558 (by decide))
      exact tail _ _ _ (k_sub Wd [] rfl (by decide) [] rfl) (lv_sub hl [0, 3] rfl)
  · refine lv_aload_n C.1 C.2.1 dL_law_521 rfl (lv_at hl 1 rfl) ?_
    refine lv_aload_n C.1 C.2.1 dL_law_522 rfl (lv_at hl 3 rfl) ?_
    refine lv_iload_n C.1 C.2.1 dL_law_523 rfl (lv_at hl 0 rfl) ?_
    refine lv_iconst (v := 1) C.1 C.2.1 dL_law_524 (by decide) ?_
    refine k_iadd (v := 1) C (by decide) dL_law_525 ?_
    refine k_sld (v := y1) C hX hbl hbA Wd (vp_in_iff.mpr (by decide)) hy1 dL_law_526 ?_
    refine lv_aload_n C.1 C.2.1 dL_law_527 rfl (lv_at hl 3 rfl) ?_
    refine lv_iload_n C.1 C.2.1 dL_law_528 rfl (lv_at hl 0 rfl) ?_
    refine lv_iconst (v := 2) C.1 C.2.1 dL_law_529 (by decide) ?_
    refine k_iadd (v := 2) C (by decide) dL_law_530 ?_
    refine k_sld (v := y2) C hX hbl hbA Wd (vp_in_iff.mpr (by decide)) hy2 dL_law_531 ?_
    refine lv_aload_n C.1 C.2.1 dL_law_532 rfl (lv_at hl 3 rfl) ?_
    refine lv_iload_n C.1 C.2.1 dL_law_533 rfl (lv_at hl 0 rfl) ?_
    refine lv_iconst (v := 3) C.1 C.2.1 dL_law_534 (by decide) ?_
    refine k_iadd (v := 3) C (by decide) dL_law_535 ?_
    refine k_sld (v := y3) C hX hbl hbA Wd (vp_in_iff.mpr (by decide)) hy3 dL_law_536 ?_
    refine lv_aload_n C.1 C.2.1 dL_law_537 rfl (lv_at hl 3 rfl) ?_
    refine lv_iload_n C.1 C.2.1 dL_law_538 rfl (lv_at hl 0 rfl) ?_
    refine lv_iconst (v := 4) C.1 C.2.1 dL_law_539 (by decide) ?_
    refine k_iadd (v := 4) C (by decide) dL_law_540 ?_
    refine k_sld (v := y4) C hX hbl hbA Wd (vp_in_iff.mpr (by decide)) hy4 dL_law_541 ?_
    refine k_pi (k_runV (rest := [.int 0]) C aks Wd cs_L_68 (kcX12_apply l D q6104 q6106 q6107 q6108 q6109 q6110 q6111 q6112 q6113 q6114 q6115 q6116 q6117 q6118 q6119 q6120 q6121 q6122 q6123 q6124 q6125 q6126 q6127 q6128 q6129 q6130 y1 y2 y3 y4 _ ) [4] rfl (by decide) [] rfl 4 12 rfl rfl rfl rfl rfl ⟨(Nat.le_of_ble_eq_true rfl), (Nat.le_of_ble_eq_true rfl)⟩ hl.1 rfl rfl (Nat.le_of_ble_eq_true rfl) ⟨(Nat.le_of_ble_eq_true rfl), (Nat.le_of_ble_eq_true rfl)⟩ dL_law_542) (fun r w9559 => ?_)
    rcases w9559 with ⟨c9560, rfl⟩ | ⟨c9561, c9562, rfl⟩
    · exact False.elim (by have z0 := kz_le c9392; have z1 := kz_lt c9560; have t0 : (0 : Int32).toInt = 0 := (by decide); omega)
    · refine lv_icmp_eq (tgt := 801) C.1 C.2.1 dL_law_545 (by decide) (fun _ => ?_) (fun c9563 => absurd c9563 (by decide))
      exact tail _ _ _ (k_sub Wd [] rfl (by decide) [] rfl) (lv_sub hl [0, 3] rfl)
  · refine lv_aload_n C.1 C.2.1 dL_law_521 rfl (lv_at hl 1 rfl) ?_
    refine lv_aload_n C.1 C.2.1 dL_law_522 rfl (lv_at hl 3 rfl) ?_
    refine lv_iload_n C.1 C.2.1 dL_law_523 rfl (lv_at hl 0 rfl) ?_
    refine lv_iconst (v := 1) C.1 C.2.1 dL_law_524 (by decide) ?_
    refine k_iadd (v := 1) C (by decide) dL_law_525 ?_
    refine k_sld (v := y1) C hX hbl hbA Wd (vp_in_iff.mpr (by decide)) hy1 dL_law_526 ?_
    refine lv_aload_n C.1 C.2.1 dL_law_527 rfl (lv_at hl 3 rfl) ?_
    refine lv_iload_n C.1 C.2.1 dL_law_528 rfl (lv_at hl 0 rfl) ?_
    refine lv_iconst (v := 2) C.1 C.2.1 dL_law_529 (by decide) ?_
    refine k_iadd (v := 2) C (by decide) dL_law_530 ?_
    refine k_sld (v := y2) C hX hbl hbA Wd (vp_in_iff.mpr (by decide)) hy2 dL_law_531 ?_
    refine lv_aload_n C.1 C.2.1 dL_law_532 rfl (lv_at hl 3 rfl) ?_
    refine lv_iload_n C.1 C.2.1 dL_law_533 rfl (lv_at hl 0 rfl) ?_
    refine lv_iconst (v := 3) C.1 C.2.1 dL_law_534 (by decide) ?_
    refine k_iadd (v := 3) C (by decide) dL_law_535 ?_
    refine k_sld (v := y3) C hX hbl hbA Wd (vp_in_iff.mpr (by decide)) hy3 dL_law_536 ?_
    refine lv_aload_n C.1 C.2.1 dL_law_537 rfl (lv_at hl 3 rfl) ?_
    refine lv_iload_n C.1 C.2.1 dL_law_538 rfl (lv_at hl 0 rfl) ?_
    refine lv_iconst (v := 4) C.1 C.2.1 dL_law_539 (by decide) ?_
    refine k_iadd (v := 4) C (by decide) dL_law_540 ?_
    refine k_sld (v := y4) C hX hbl hbA Wd (vp_in_iff.mpr (by decide)) hy4 dL_law_541 ?_
    refine k_pi (k_runV (rest := [.int 0]) C aks Wd cs_L_68 (kcX12_apply l D q6104 q6106 q6107 q6108 q6109 q6110 q6111 q6112 q6113 q6114 q6115 q6116 q6117 q6118 q6119 q6120 q6121 q6122 q6123 q6124 q6125 q6126 q6127 q6128 q6129 q6130 y1 y2 y3 y4 _ ) [4] rfl (by decide) [] rfl 4 12 rfl rfl rfl rfl rfl ⟨(Nat.le_of_ble_eq_true rfl), (Nat.le_of_ble_eq_true rfl)⟩ hl.1 rfl rfl (Nat.le_of_ble_eq_true rfl) ⟨(Nat.le_of_ble_eq_true rfl), (Nat.le_of_ble_eq_true rfl)⟩ dL_law_542) (fun r w9564 => ?_)
    rcases w9564 with ⟨c9565, rfl⟩ | ⟨c9566, c9567, rfl⟩
    · exact False.elim (by have z0 := kz_le c9397; have z1 := kz_lt c9565; have t0 : (0 : Int32).toInt = 0 := (by decide); omega)
    · refine lv_icmp_eq (tgt := 801) C.1 C.2.1 dL_law_545 (by decide) (fun _ => ?_) (fun c9568 => absurd c9568 (by decide))
      exact tail _ _ _ (k_sub Wd [] rfl (by decide) [] rfl) (lv_sub hl [0, 3] rfl)
  · refine lv_aload_n C.1 C.2.1 dL_law_521 rfl (lv_at hl 1 rfl) ?_
    refine lv_aload_n C.1 C.2.1 dL_law_522 rfl (lv_at hl 3 rfl) ?_
    refine lv_iload_n C.1 C.2.1 dL_law_523 rfl (lv_at hl 0 rfl) ?_
    refine lv_iconst (v := 1) C.1 C.2.1 dL_law_524 (by decide) ?_
    refine k_iadd (v := 1) C (by decide) dL_law_525 ?_
    refine k_sld (v := y1) C hX hbl hbA Wd (vp_in_iff.mpr (by decide)) hy1 dL_law_526 ?_
    refine lv_aload_n C.1 C.2.1 dL_law_527 rfl (lv_at hl 3 rfl) ?_
    refine lv_iload_n C.1 C.2.1 dL_law_528 rfl (lv_at hl 0 rfl) ?_
    refine lv_iconst (v := 2) C.1 C.2.1 dL_law_529 (by decide) ?_
    refine k_iadd (v := 2) C (by decide) dL_law_530 ?_
    refine k_sld (v := y2) C hX hbl hbA Wd (vp_in_iff.mpr (by decide)) hy2 dL_law_531 ?_
    refine lv_aload_n C.1 C.2.1 dL_law_532 rfl (lv_at hl 3 rfl) ?_
    refine lv_iload_n C.1 C.2.1 dL_law_533 rfl (lv_at hl 0 rfl) ?_
    refine lv_iconst (v := 3) C.1 C.2.1 dL_law_534 (by decide) ?_
    refine k_iadd (v := 3) C (by decide) dL_law_535 ?_
    refine k_sld (v := y3) C hX hbl hbA Wd (vp_in_iff.mpr (by decide)) hy3 dL_law_536 ?_
    refine lv_aload_n C.1 C.2.1 dL_law_537 rfl (lv_at hl 3 rfl) ?_
    refine lv_iload_n C.1 C.2.1 dL_law_538 rfl (lv_at hl 0 rfl) ?_
    refine lv_iconst (v := 4) C.1 C.2.1 dL_law_539 (by decide) ?_
    refine k_iadd (v := 4) C (by decide) dL_law_540 ?_
    refine k_sld (v := y4) C hX hbl hbA Wd (vp_in_iff.mpr (by decide)) hy4 dL_law_541 ?_
    refine k_pi (k_runV (rest := [.int 0]) C aks Wd cs_L_68 (kcX12_apply l D q6104 q6106 q6107 q6108 q6109 q6110 q6111 q6112 q6113 q6114 q6115 q6116 q6117 q6118 q6119 q6120 q6121 q6122 q6123 q6124 q6125 q6126 q6127 q6128 q6129 q6130 y1 y2 y3 y4 _ ) [4] rfl (by decide) [] rfl 4 12 rfl rfl rfl rfl rfl ⟨(Nat.le_of_ble_eq_true rfl), (Nat.le_of_ble_eq_true rfl)⟩ hl.1 rfl rfl (Nat.le_of_ble_eq_true rfl) ⟨(Nat.le_of_ble_eq_true rfl), (Nat.le_of_ble_eq_true rfl)⟩ dL_law_542) (fun r w9569 => ?_)
    rcases w9569 with ⟨c9570, rfl⟩ | ⟨c9571, c9572, rfl⟩
    · exact False.elim (by have z0 := kz_le c9402; have z1 := kz_lt c9570; have t0 : (0 : Int32).toInt = 0 := (by decide); omega)
    · refine lv_icmp_eq (tgt := 801) C.1 C.2.1 dL_law_545 (by decide) (fun _ => ?_) (fun c9573 => absurd c9573 (by decide))
      exact tail _ _ _ (k_sub Wd [] rfl (by decide) [] rfl) (lv_sub hl [0, 3] rfl)
  · refine lv_aload_n C.1 C.2.1 dL_law_521 rfl (lv_at hl 1 rfl) ?_
    refine lv_aload_n C.1 C.2.1 dL_law_522 rfl (lv_at hl 3 rfl) ?_
    refine lv_iload_n C.1 C.2.1 dL_law_523 rfl (lv_at hl 0 rfl) ?_
    refine lv_iconst (v := 1) C.1 C.2.1 dL_law_524 (by decide) ?_
    refine k_iadd (v := 1) C (by decide) dL_law_525 ?_
    refine k_sld (v := y1) C hX hbl hbA Wd (vp_in_iff.mpr (by decide)) hy1 dL_law_526 ?_
    refine lv_aload_n C.1 C.2.1 dL_law_527 rfl (lv_at hl 3 rfl) ?_
    refine lv_iload_n C.1 C.2.1 dL_law_528 rfl (lv_at hl 0 rfl) ?_
    refine lv_iconst (v := 2) C.1 C.2.1 dL_law_529 (by decide) ?_
    refine k_iadd (v := 2) C (by decide) dL_law_530 ?_
    refine k_sld (v := y2) C hX hbl hbA Wd (vp_in_iff.mpr (by decide)) hy2 dL_law_531 ?_
    refine lv_aload_n C.1 C.2.1 dL_law_532 rfl (lv_at hl 3 rfl) ?_
    refine lv_iload_n C.1 C.2.1 dL_law_533 rfl (lv_at hl 0 rfl) ?_
    refine lv_iconst (v := 3) C.1 C.2.1 dL_law_534 (by decide) ?_
    refine k_iadd (v := 3) C (by decide) dL_law_535 ?_
    refine k_sld (v := y3) C hX hbl hbA Wd (vp_in_iff.mpr (by decide)) hy3 dL_law_536 ?_
    refine lv_aload_n C.1 C.2.1 dL_law_537 rfl (lv_at hl 3 rfl) ?_
    refine lv_iload_n C.1 C.2.1 dL_law_538 rfl (lv_at hl 0 rfl) ?_
    refine lv_iconst (v := 4) C.1 C.2.1 dL_law_539 (by decide) ?_
    refine k_iadd (v := 4) C (by decide) dL_law_540 ?_
    refine k_sld (v := y4) C hX hbl hbA Wd (vp_in_iff.mpr (by decide)) hy4 dL_law_541 ?_
    refine k_pi (k_runV (rest := [.int 0]) C aks Wd cs_L_68 (kcX12_apply l D q6104 q6106 q6107 q6108 q6109 q6110 q6111 q6112 q6113 q6114 q6115 q6116 q6117 q6118 q6119 q6120 q6121 q6122 q6123 q6124 q6125 q6126 q6127 q6128 q6129 q6130 y1 y2 y3 y4 _ ) [4] rfl (by decide) [] rfl 4 12 rfl rfl rfl rfl rfl ⟨(Nat.le_of_ble_eq_true rfl), (Nat.le_of_ble_eq_true rfl)⟩ hl.1 rfl rfl (Nat.le_of_ble_eq_true rfl) ⟨(Nat.le_of_ble_eq_true rfl), (Nat.le_of_ble_eq_true rfl)⟩ dL_law_542) (fun r w9574 => ?_)
    rcases w9574 with ⟨c9575, rfl⟩ | ⟨c9576, c9577, rfl⟩
    · exact False.elim (by have z0 := kz_le c9407; have z1 := kz_lt c9575; have t0 : (0 : Int32).toInt = 0 := (by decide); omega)
    · refine lv_icmp_eq (tgt := 801) C.1 C.2.1 dL_law_545 (by decide) (fun _ => ?_) (fun c9578 => absurd c9578 (by decide))
      exact tail _ _ _ (k_sub Wd [] rfl (by decide) [] rfl) (lv_sub hl [0, 3] rfl)
  · refine lv_aload_n C.1 C.2.1 dL_law_521 rfl (lv_at hl 1 rfl) ?_
    refine lv_aload_n C.1 C.2.1 dL_law_522 rfl (lv_at hl 3 rfl) ?_
    refine lv_iload_n C.1 C.2.1 dL_law_523 rfl (lv_at hl 0 rfl) ?_
    refine lv_iconst (v := 1) C.1 C.2.1 dL_law_524 (by decide) ?_
    refine k_iadd (v := 1) C (by decide) dL_law_525 ?_
    refine k_sld (v := y1) C hX hbl hbA Wd (vp_in_iff.mpr (by decide)) hy1 dL_law_526 ?_
    refine lv_aload_n C.1 C.2.1 dL_law_527 rfl (lv_at hl 3 rfl) ?_
    refine lv_iload_n C.1 C.2.1 dL_law_528 rfl (lv_at hl 0 rfl) ?_
    refine lv_iconst (v := 2) C.1 C.2.1 dL_law_529 (by decide) ?_
    refine k_iadd (v := 2) C (by decide) dL_law_530 ?_
    refine k_sld (v := y2) C hX hbl hbA Wd (vp_in_iff.mpr (by decide)) hy2 dL_law_531 ?_
    refine lv_aload_n C.1 C.2.1 dL_law_532 rfl (lv_at hl 3 rfl) ?_
    refine lv_iload_n C.1 C.2.1 dL_law_533 rfl (lv_at hl 0 rfl) ?_
    refine lv_iconst (v := 3) C.1 C.2.1 dL_law_534 (by decide) ?_
    refine k_iadd (v := 3) C (by decide) dL_law_535 ?_
    refine k_sld (v := y3) C hX hbl hbA Wd (vp_in_iff.mpr (by decide)) hy3 dL_law_536 ?_
    refine lv_aload_n C.1 C.2.1 dL_law_537 rfl (lv_at hl 3 rfl) ?_
    refine lv_iload_n C.1 C.2.1 dL_law_538 rfl (lv_at hl 0 rfl) ?_
    refine lv_iconst (v := 4) C.1 C.2.1 dL_law_539 (by decide) ?_
    refine k_iadd (v := 4) C (by decide) dL_law_540 ?_
    refine k_sld (v := y4) C hX hbl hbA Wd (vp_in_iff.mpr (by decide)) hy4 dL_law_541 ?_
    refine k_pi (k_runV (rest := [.int 0]) C aks Wd cs_L_68 (kcX12_apply l D q6104 q6106 q6107 q6108 q6109 q6110 q6111 q6112 q6113 q6114 q6115 q6116 q6117 q6118 q6119 q6120 q6121 q6122 q6123 q6124 q6125 q6126 q6127 q6128 q6129 q6130 y1 y2 y3 y4 _ ) [4] rfl (by decide) [] rfl 4 12 rfl rfl rfl rfl rfl ⟨(Nat.le_of_ble_eq_true rfl), (Nat.le_of_ble_eq_true rfl)⟩ hl.1 rfl rfl (Nat.le_of_ble_eq_true rfl) ⟨(Nat.le_of_ble_eq_true rfl), (Nat.le_of_ble_eq_true rfl)⟩ dL_law_542) (fun r w9579 => ?_)
    rcases w9579 with ⟨c9580, rfl⟩ | ⟨c9581, c9582, rfl⟩
    · exact False.elim (by have z0 := kz_le c9411; have z1 := kz_lt c9580; have t0 : (0 : Int32).toInt = 0 := (by decide); omega)
    · refine lv_icmp_eq (tgt := 801) C.1 C.2.1 dL_law_545 (by decide) (fun _ => ?_) (fun c9583 => absurd c9583 (by decide))
      exact tail _ _ _ (k_sub Wd [] rfl (by decide) [] rfl) (lv_sub hl [0, 3] rfl)
  · refine lv_aload_n C.1 C.2.1 dL_law_521 rfl (lv_at hl 1 rfl) ?_
    refine lv_aload_n C.1 C.2.1 dL_law_522 rfl (lv_at hl 3 rfl) ?_
    refine lv_iload_n C.1 C.2.1 dL_law_523 rfl (lv_at hl 0 rfl) ?_
    refine lv_iconst (v := 1) C.1 C.2.1 dL_law_524 (by decide) ?_
    refine k_iadd (v := 1) C (by decide) dL_law_525 ?_
    refine k_sld (v := y1) C hX hbl hbA Wd (vp_in_iff.mpr (by decide)) hy1 dL_law_526 ?_
    refine lv_aload_n C.1 C.2.1 dL_law_527 rfl (lv_at hl 3 rfl) ?_
    refine lv_iload_n C.1 C.2.1 dL_law_528 rfl (lv_at hl 0 rfl) ?_
    refine lv_iconst (v := 2) C.1 C.2.1 dL_law_529 (by decide) ?_
    refine k_iadd (v := 2) C (by decide) dL_law_530 ?_
    refine k_sld (v := y2) C hX hbl hbA Wd (vp_in_iff.mpr (by decide)) hy2 dL_law_531 ?_
    refine lv_aload_n C.1 C.2.1 dL_law_532 rfl (lv_at hl 3 rfl) ?_
    refine lv_iload_n C.1 C.2.1 dL_law_533 rfl (lv_at hl 0 rfl) ?_
    refine lv_iconst (v := 3) C.1 C.2.1 dL_law_534 (by decide) ?_
    refine k_iadd (v := 3) C (by decide) dL_law_535 ?_
    refine k_sld (v := y3) C hX hbl hbA Wd (vp_in_iff.mpr (by decide)) hy3 dL_law_536 ?_
    refine lv_aload_n C.1 C.2.1 dL_law_537 rfl (lv_at hl 3 rfl) ?_
    refine lv_iload_n C.1 C.2.1 dL_law_538 rfl (lv_at hl 0 rfl) ?_
    refine lv_iconst (v := 4) C.1 C.2.1 dL_law_539 (by decide) ?_
    refine k_iadd (v := 4) C (by decide) dL_law_540 ?_
    refine k_sld (v := y4) C hX hbl hbA Wd (vp_in_iff.mpr (by decide)) hy4 dL_law_541 ?_
    refine k_pi (k_runV (rest := [.int 0]) C aks Wd cs_L_68 (kcX12_apply l D q6104 q6106 q6107 q6108 q6109 q6110 q6111 q6112 q6113 q6114 q6115 q6116 q6117 q6118 q6119 q6120 q6121 q6122 q6123 q6124 q6125 q6126 q6127 q6128 q6129 q6130 y1 y2 y3 y4 _ ) [4] rfl (by decide) [] rfl 4 12 rfl rfl rfl rfl rfl ⟨(Nat.le_of_ble_eq_true rfl), (Nat.le_of_ble_eq_true rfl)⟩ hl.1 rfl rfl (Nat.le_of_ble_eq_true rfl) ⟨(Nat.le_of_ble_eq_true rfl), (Nat.le_of_ble_eq_true rfl)⟩ dL_law_542) (fun r w9584 => ?_)
    rcases w9584 with ⟨c9585, rfl⟩ | ⟨c9586, c9587, rfl⟩
    · exact False.elim (by have z0 := kz_le c9416; have z1 := kz_lt c9585; have t0 : (0 : Int32).toInt = 0 := (by decide); omega)
    · refine lv_icmp_eq (tgt := 801) C.1 C.2.1 dL_law_545 (by decide) (fun _ => ?_) (fun c9588 => absurd c9588 (by decide))
      exact tail _ _ _ (k_sub Wd [] rfl (by decide) [] rfl) (lv_sub hl [0, 3] rfl)
  · refine lv_aload_n C.1 C.2.1 dL_law_521 rfl (lv_at hl 1 rfl) ?_
    refine lv_aload_n C.1 C.2.1 dL_law_522 rfl (lv_at hl 3 rfl) ?_
    refine lv_iload_n C.1 C.2.1 dL_law_523 rfl (lv_at hl 0 rfl) ?_
    refine lv_iconst (v := 1) C.1 C.2.1 dL_law_524 (by decide) ?_
    refine k_iadd (v := 1) C (by decide) dL_law_525 ?_
    refine k_sld (v := y1) C hX hbl hbA Wd (vp_in_iff.mpr (by decide)) hy1 dL_law_526 ?_
    refine lv_aload_n C.1 C.2.1 dL_law_527 rfl (lv_at hl 3 rfl) ?_
    refine lv_iload_n C.1 C.2.1 dL_law_528 rfl (lv_at hl 0 rfl) ?_
    refine lv_iconst (v := 2) C.1 C.2.1 dL_law_529 (by decide) ?_
    refine k_iadd (v := 2) C (by decide) dL_law_530 ?_
    refine k_sld (v := y2) C hX hbl hbA Wd (vp_in_iff.mpr (by decide)) hy2 dL_law_531 ?_
    refine lv_aload_n C.1 C.2.1 dL_law_532 rfl (lv_at hl 3 rfl) ?_
    refine lv_iload_n C.1 C.2.1 dL_law_533 rfl (lv_at hl 0 rfl) ?_
    refine lv_iconst (v := 3) C.1 C.2.1 dL_law_534 (by decide) ?_
    refine k_iadd (v := 3) C (by decide) dL_law_535 ?_
    refine k_sld (v := y3) C hX hbl hbA Wd (vp_in_iff.mpr (by decide)) hy3 dL_law_536 ?_
    refine lv_aload_n C.1 C.2.1 dL_law_537 rfl (lv_at hl 3 rfl) ?_
    refine lv_iload_n C.1 C.2.1 dL_law_538 rfl (lv_at hl 0 rfl) ?_
    refine lv_iconst (v := 4) C.1 C.2.1 dL_law_539 (by decide) ?_
    refine k_iadd (v := 4) C (by decide) dL_law_540 ?_
    refine k_sld (v := y4) C hX hbl hbA Wd (vp_in_iff.mpr (by decide)) hy4 dL_law_541 ?_
    refine k_pi (k_runV (rest := [.int 0]) C aks Wd cs_L_68 (kcX12_apply l D q6104 q6106 q6107 q6108 q6109 q6110 q6111 q6112 q6113 q6114 q6115 q6116 q6117 q6118 q6119 q6120 q6121 q6122 q6123 q6124 q6125 q6126 q6127 q6128 q6129 q6130 y1 y2 y3 y4 _ ) [4] rfl (by decide) [] rfl 4 12 rfl rfl rfl rfl rfl ⟨(Nat.le_of_ble_eq_true rfl), (Nat.le_of_ble_eq_true rfl)⟩ hl.1 rfl rfl (Nat.le_of_ble_eq_true rfl) ⟨(Nat.le_of_ble_eq_true rfl), (Nat.le_of_ble_eq_true rfl)⟩ dL_law_542) (fun r w9589 => ?_)
    rcases w9589 with ⟨c9590, rfl⟩ | ⟨c9591, c9592, rfl⟩
    · exact False.elim (by have z0 := kz_le c9421; have z1 := kz_lt c9590; have t0 : (0 : Int32).toInt = 0 := (by decide); omega)
    · refine lv_icmp_eq (tgt := 801) C.1 C.2.1 dL_law_545 (by decide) (fun _ => ?_) (fun c9593 => absurd c9593 (by decide))
      exact tail _ _ _ (k_sub Wd [] rfl (by decide) [] rfl) (lv_sub hl [0, 3] rfl)
  · refine lv_aload_n C.1 C.2.1 dL_law_521 rfl (lv_at hl 1 rfl) ?_
    refine lv_aload_n C.1 C.2.1 dL_law_522 rfl (lv_at hl 3 rfl) ?_
    refine lv_iload_n C.1 C.2.1 dL_law_523 rfl (lv_at hl 0 rfl) ?_
    refine lv_iconst (v := 1) C.1 C.2.1 dL_law_524 (by decide) ?_
    refine k_iadd (v := 1) C (by decide) dL_law_525 ?_
    refine k_sld (v := y1) C hX hbl hbA Wd (vp_in_iff.mpr (by decide)) hy1 dL_law_526 ?_
    refine lv_aload_n C.1 C.2.1 dL_law_527 rfl (lv_at hl 3 rfl) ?_
    refine lv_iload_n C.1 C.2.1 dL_law_528 rfl (lv_at hl 0 rfl) ?_
    refine lv_iconst (v := 2) C.1 C.2.1 dL_law_529 (by decide) ?_
    refine k_iadd (v := 2) C (by decide) dL_law_530 ?_
    refine k_sld (v := y2) C hX hbl hbA Wd (vp_in_iff.mpr (by decide)) hy2 dL_law_531 ?_
    refine lv_aload_n C.1 C.2.1 dL_law_532 rfl (lv_at hl 3 rfl) ?_
    refine lv_iload_n C.1 C.2.1 dL_law_533 rfl (lv_at hl 0 rfl) ?_
    refine lv_iconst (v := 3) C.1 C.2.1 dL_law_534 (by decide) ?_
    refine k_iadd (v := 3) C (by decide) dL_law_535 ?_
    refine k_sld (v := y3) C hX hbl hbA Wd (vp_in_iff.mpr (by decide)) hy3 dL_law_536 ?_
    refine lv_aload_n C.1 C.2.1 dL_law_537 rfl (lv_at hl 3 rfl) ?_
    refine lv_iload_n C.1 C.2.1 dL_law_538 rfl (lv_at hl 0 rfl) ?_
    refine lv_iconst (v := 4) C.1 C.2.1 dL_law_539 (by decide) ?_
    refine k_iadd (v := 4) C (by decide) dL_law_540 ?_
    refine k_sld (v := y4) C hX hbl hbA Wd (vp_in_iff.mpr (by decide)) hy4 dL_law_541 ?_
    refine k_pi (k_runV (rest := [.int 0]) C aks Wd cs_L_68 (kcX12_apply l D q6104 q6106 q6107 q6108 q6109 q6110 q6111 q6112 q6113 q6114 q6115 q6116 q6117 q6118 q6119 q6120 q6121 q6122 q6123 q6124 q6125 q6126 q6127 q6128 q6129 q6130 y1 y2 y3 y4 _ ) [4] rfl (by decide) [] rfl 4 12 rfl rfl rfl rfl rfl ⟨(Nat.le_of_ble_eq_true rfl), (Nat.le_of_ble_eq_true rfl)⟩ hl.1 rfl rfl (Nat.le_of_ble_eq_true rfl) ⟨(Nat.le_of_ble_eq_true rfl), (Nat.le_of_ble_eq_true rfl)⟩ dL_law_542) (fun r w9594 => ?_)
    rcases w9594 with ⟨c9595, rfl⟩ | ⟨c9596, c9597, rfl⟩
    · refine lv_icmp_eq (tgt := 801) C.1 C.2.1 dL_law_545 (by decide) (fun _ => ?_) (fun c9598 => absurd c9598 (by decide))
      exact tail _ _ _ (k_sub Wd [] rfl (by decide) [] rfl) (lv_sub hl [0, 3] rfl)
    · exact absurd c9427 c9596
  · refine lv_aload_n C.1 C.2.1 dL_law_521 rfl (lv_at hl 1 rfl) ?_
    refine lv_aload_n C.1 C.2.1 dL_law_522 rfl (lv_at hl 3 rfl) ?_
    refine lv_iload_n C.1 C.2.1 dL_law_523 rfl (lv_at hl 0 rfl) ?_
    refine lv_iconst (v := 1) C.1 C.2.1 dL_law_524 (by decide) ?_
    refine k_iadd (v := 1) C (by decide) dL_law_525 ?_
    refine k_sld (v := y1) C hX hbl hbA Wd (vp_in_iff.mpr (by decide)) hy1 dL_law_526 ?_
    refine lv_aload_n C.1 C.2.1 dL_law_527 rfl (lv_at hl 3 rfl) ?_
    refine lv_iload_n C.1 C.2.1 dL_law_528 rfl (lv_at hl 0 rfl) ?_
    refine lv_iconst (v := 2) C.1 C.2.1 dL_law_529 (by decide) ?_
    refine k_iadd (v := 2) C (by decide) dL_law_530 ?_
    refine k_sld (v := y2) C hX hbl hbA Wd (vp_in_iff.mpr (by decide)) hy2 dL_law_531 ?_
    refine lv_aload_n C.1 C.2.1 dL_law_532 rfl (lv_at hl 3 rfl) ?_
    refine lv_iload_n C.1 C.2.1 dL_law_533 rfl (lv_at hl 0 rfl) ?_
    refine lv_iconst (v := 3) C.1 C.2.1 dL_law_534 (by decide) ?_
    refine k_iadd (v := 3) C (by decide) dL_law_535 ?_
    refine k_sld (v := y3) C hX hbl hbA Wd (vp_in_iff.mpr (by decide)) hy3 dL_law_536 ?_
    refine lv_aload_n C.1 C.2.1 dL_law_537 rfl (lv_at hl 3 rfl) ?_
    refine lv_iload_n C.1 C.2.1 dL_law_538 rfl (lv_at hl 0 rfl) ?_
    refine lv_iconst (v := 4) C.1 C.2.1 dL_law_539 (by decide) ?_
    refine k_iadd (v := 4) C (by decide) dL_law_540 ?_
    refine k_sld (v := y4) C hX hbl hbA Wd (vp_in_iff.mpr (by decide)) hy4 dL_law_541 ?_
    refine k_pi (k_runV (rest := [.int 0]) C aks Wd cs_L_68 (kcX12_apply l D q6104 q6106 q6107 q6108 q6109 q6110 q6111 q6112 q6113 q6114 q6115 q6116 q6117 q6118 q6119 q6120 q6121 q6122 q6123 q6124 q6125 q6126 q6127 q6128 q6129 q6130 y1 y2 y3 y4 _ ) [4] rfl (by decide) [] rfl 4 12 rfl rfl rfl rfl rfl ⟨(Nat.le_of_ble_eq_true rfl), (Nat.le_of_ble_eq_true rfl)⟩ hl.1 rfl rfl (Nat.le_of_ble_eq_true rfl) ⟨(Nat.le_of_ble_eq_true rfl), (Nat.le_of_ble_eq_true rfl)⟩ dL_law_542) (fun r w9599 => ?_)
    rcases w9599 with ⟨c9600, rfl⟩ | ⟨c9601, c9602, rfl⟩
    · refine lv_icmp_eq (tgt := 801) C.1 C.2.1 dL_law_545 (by decide) (fun _ => ?_) (fun c9603 => absurd c9603 (by decide))
      exact tail _ _ _ (k_sub Wd [] rfl (by decide) [] rfl) (lv_sub hl [0, 3] rfl)
    · exact absurd c9431 c9601
  · refine lv_aload_n C.1 C.2.1 dL_law_521 rfl (lv_at hl 1 rfl) ?_
    refine lv_aload_n C.1 C.2.1 dL_law_522 rfl (lv_at hl 3 rfl) ?_
    refine lv_iload_n C.1 C.2.1 dL_law_523 rfl (lv_at hl 0 rfl) ?_
    refine lv_iconst (v := 1) C.1 C.2.1 dL_law_524 (by decide) ?_
    refine k_iadd (v := 1) C (by decide) dL_law_525 ?_
    refine k_sld (v := y1) C hX hbl hbA Wd (vp_in_iff.mpr (by decide)) hy1 dL_law_526 ?_
    refine lv_aload_n C.1 C.2.1 dL_law_527 rfl (lv_at hl 3 rfl) ?_
    refine lv_iload_n C.1 C.2.1 dL_law_528 rfl (lv_at hl 0 rfl) ?_
    refine lv_iconst (v := 2) C.1 C.2.1 dL_law_529 (by decide) ?_
    refine k_iadd (v := 2) C (by decide) dL_law_530 ?_
    refine k_sld (v := y2) C hX hbl hbA Wd (vp_in_iff.mpr (by decide)) hy2 dL_law_531 ?_
    refine lv_aload_n C.1 C.2.1 dL_law_532 rfl (lv_at hl 3 rfl) ?_
    refine lv_iload_n C.1 C.2.1 dL_law_533 rfl (lv_at hl 0 rfl) ?_
    refine lv_iconst (v := 3) C.1 C.2.1 dL_law_534 (by decide) ?_
    refine k_iadd (v := 3) C (by decide) dL_law_535 ?_
    refine k_sld (v := y3) C hX hbl hbA Wd (vp_in_iff.mpr (by decide)) hy3 dL_law_536 ?_
    refine lv_aload_n C.1 C.2.1 dL_law_537 rfl (lv_at hl 3 rfl) ?_
    refine lv_iload_n C.1 C.2.1 dL_law_538 rfl (lv_at hl 0 rfl) ?_
    refine lv_iconst (v := 4) C.1 C.2.1 dL_law_539 (by decide) ?_
    refine k_iadd (v := 4) C (by decide) dL_law_540 ?_
    refine k_sld (v := y4) C hX hbl hbA Wd (vp_in_iff.mpr (by decide)) hy4 dL_law_541 ?_
    refine k_pi (k_runV (rest := [.int 0]) C aks Wd cs_L_68 (kcX12_apply l D q6104 q6106 q6107 q6108 q6109 q6110 q6111 q6112 q6113 q6114 q6115 q6116 q6117 q6118 q6119 q6120 q6121 q6122 q6123 q6124 q6125 q6126 q6127 q6128 q6129 q6130 y1 y2 y3 y4 _ ) [4] rfl (by decide) [] rfl 4 12 rfl rfl rfl rfl rfl ⟨(Nat.le_of_ble_eq_true rfl), (Nat.le_of_ble_eq_true rfl)⟩ hl.1 rfl rfl (Nat.le_of_ble_eq_true rfl) ⟨(Nat.le_of_ble_eq_true rfl), (Nat.le_of_ble_eq_true rfl)⟩ dL_law_542) (fun r w9604 => ?_)
    rcases w9604 with ⟨c9605, rfl⟩ | ⟨c9606, c9607, rfl⟩
    · refine lv_icmp_eq (tgt := 801) C.1 C.2.1 dL_law_545 (by decide) (fun _ => ?_) (fun c9608 => absurd c9608 (by decide))
      exact tail _ _ _ (k_sub Wd [] rfl (by decide) [] rfl) (lv_sub hl [0, 3] rfl)
    · exact absurd c9436 c9606
  · refine lv_aload_n C.1 C.2.1 dL_law_521 rfl (lv_at hl 1 rfl) ?_
    refine lv_aload_n C.1 C.2.1 dL_law_522 rfl (lv_at hl 3 rfl) ?_
    refine lv_iload_n C.1 C.2.1 dL_law_523 rfl (lv_at hl 0 rfl) ?_
    refine lv_iconst (v := 1) C.1 C.2.1 dL_law_524 (by decide) ?_
    refine k_iadd (v := 1) C (by decide) dL_law_525 ?_
    refine k_sld (v := y1) C hX hbl hbA Wd (vp_in_iff.mpr (by decide)) hy1 dL_law_526 ?_
    refine lv_aload_n C.1 C.2.1 dL_law_527 rfl (lv_at hl 3 rfl) ?_
    refine lv_iload_n C.1 C.2.1 dL_law_528 rfl (lv_at hl 0 rfl) ?_
    refine lv_iconst (v := 2) C.1 C.2.1 dL_law_529 (by decide) ?_
    refine k_iadd (v := 2) C (by decide) dL_law_530 ?_
    refine k_sld (v := y2) C hX hbl hbA Wd (vp_in_iff.mpr (by decide)) hy2 dL_law_531 ?_
    refine lv_aload_n C.1 C.2.1 dL_law_532 rfl (lv_at hl 3 rfl) ?_
    refine lv_iload_n C.1 C.2.1 dL_law_533 rfl (lv_at hl 0 rfl) ?_
    refine lv_iconst (v := 3) C.1 C.2.1 dL_law_534 (by decide) ?_
    refine k_iadd (v := 3) C (by decide) dL_law_535 ?_
    refine k_sld (v := y3) C hX hbl hbA Wd (vp_in_iff.mpr (by decide)) hy3 dL_law_536 ?_
    refine lv_aload_n C.1 C.2.1 dL_law_537 rfl (lv_at hl 3 rfl) ?_
    refine lv_iload_n C.1 C.2.1 dL_law_538 rfl (lv_at hl 0 rfl) ?_
    refine lv_iconst (v := 4) C.1 C.2.1 dL_law_539 (by decide) ?_
    refine k_iadd (v := 4) C (by decide) dL_law_540 ?_
    refine k_sld (v := y4) C hX hbl hbA Wd (vp_in_iff.mpr (by decide)) hy4 dL_law_541 ?_
    refine k_pi (k_runV (rest := [.int 0]) C aks Wd cs_L_68 (kcX12_apply l D q6104 q6106 q6107 q6108 q6109 q6110 q6111 q6112 q6113 q6114 q6115 q6116 q6117 q6118 q6119 q6120 q6121 q6122 q6123 q6124 q6125 q6126 q6127 q6128 q6129 q6130 y1 y2 y3 y4 _ ) [4] rfl (by decide) [] rfl 4 12 rfl rfl rfl rfl rfl ⟨(Nat.le_of_ble_eq_true rfl), (Nat.le_of_ble_eq_true rfl)⟩ hl.1 rfl rfl (Nat.le_of_ble_eq_true rfl) ⟨(Nat.le_of_ble_eq_true rfl), (Nat.le_of_ble_eq_true rfl)⟩ dL_law_542) (fun r w9609 => ?_)
    rcases w9609 with ⟨c9610, rfl⟩ | ⟨c9611, c9612, rfl⟩
    · refine lv_icmp_eq (tgt := 801) C.1 C.2.1 dL_law_545 (by decide) (fun _ => ?_) (fun c9613 => absurd c9613 (by decide))
      exact tail _ _ _ (k_sub Wd [] rfl (by decide) [] rfl) (lv_sub hl [0, 3] rfl)
    · exact absurd c9441 c9611
  · refine lv_aload_n C.1 C.2.1 dL_law_521 rfl (lv_at hl 1 rfl) ?_
    refine lv_aload_n C.1 C.2.1 dL_law_522 rfl (lv_at hl 3 rfl) ?_
    refine lv_iload_n C.1 C.2.1 dL_law_523 rfl (lv_at hl 0 rfl) ?_
    refine lv_iconst (v := 1) C.1 C.2.1 dL_law_524 (by decide) ?_
    refine k_iadd (v := 1) C (by decide) dL_law_525 ?_
    refine k_sld (v := y1) C hX hbl hbA Wd (vp_in_iff.mpr (by decide)) hy1 dL_law_526 ?_
    refine lv_aload_n C.1 C.2.1 dL_law_527 rfl (lv_at hl 3 rfl) ?_
    refine lv_iload_n C.1 C.2.1 dL_law_528 rfl (lv_at hl 0 rfl) ?_
    refine lv_iconst (v := 2) C.1 C.2.1 dL_law_529 (by decide) ?_
    refine k_iadd (v := 2) C (by decide) dL_law_530 ?_
    refine k_sld (v := y2) C hX hbl hbA Wd (vp_in_iff.mpr (by decide)) hy2 dL_law_531 ?_
    refine lv_aload_n C.1 C.2.1 dL_law_532 rfl (lv_at hl 3 rfl) ?_
    refine lv_iload_n C.1 C.2.1 dL_law_533 rfl (lv_at hl 0 rfl) ?_
    refine lv_iconst (v := 3) C.1 C.2.1 dL_law_534 (by decide) ?_
    refine k_iadd (v := 3) C (by decide) dL_law_535 ?_
    refine k_sld (v := y3) C hX hbl hbA Wd (vp_in_iff.mpr (by decide)) hy3 dL_law_536 ?_
    refine lv_aload_n C.1 C.2.1 dL_law_537 rfl (lv_at hl 3 rfl) ?_
    refine lv_iload_n C.1 C.2.1 dL_law_538 rfl (lv_at hl 0 rfl) ?_
    refine lv_iconst (v := 4) C.1 C.2.1 dL_law_539 (by decide) ?_
    refine k_iadd (v := 4) C (by decide) dL_law_540 ?_
    refine k_sld (v := y4) C hX hbl hbA Wd (vp_in_iff.mpr (by decide)) hy4 dL_law_541 ?_
    refine k_pi (k_runV (rest := [.int 0]) C aks Wd cs_L_68 (kcX12_apply l D q6104 q6106 q6107 q6108 q6109 q6110 q6111 q6112 q6113 q6114 q6115 q6116 q6117 q6118 q6119 q6120 q6121 q6122 q6123 q6124 q6125 q6126 q6127 q6128 q6129 q6130 y1 y2 y3 y4 _ ) [4] rfl (by decide) [] rfl 4 12 rfl rfl rfl rfl rfl ⟨(Nat.le_of_ble_eq_true rfl), (Nat.le_of_ble_eq_true rfl)⟩ hl.1 rfl rfl (Nat.le_of_ble_eq_true rfl) ⟨(Nat.le_of_ble_eq_true rfl), (Nat.le_of_ble_eq_true rfl)⟩ dL_law_542) (fun r w9614 => ?_)
    rcases w9614 with ⟨c9615, rfl⟩ | ⟨c9616, c9617, rfl⟩
    · refine lv_icmp_eq (tgt := 801) C.1 C.2.1 dL_law_545 (by decide) (fun _ => ?_) (fun c9618 => absurd c9618 (by decide))
      exact tail _ _ _ (k_sub Wd [] rfl (by decide) [] rfl) (lv_sub hl [0, 3] rfl)
    · exact absurd c9446 c9616
  · refine lv_aload_n C.1 C.2.1 dL_law_521 rfl (lv_at hl 1 rfl) ?_
    refine lv_aload_n C.1 C.2.1 dL_law_522 rfl (lv_at hl 3 rfl) ?_
    refine lv_iload_n C.1 C.2.1 dL_law_523 rfl (lv_at hl 0 rfl) ?_
    refine lv_iconst (v := 1) C.1 C.2.1 dL_law_524 (by decide) ?_
    refine k_iadd (v := 1) C (by decide) dL_law_525 ?_
    refine k_sld (v := y1) C hX hbl hbA Wd (vp_in_iff.mpr (by decide)) hy1 dL_law_526 ?_
    refine lv_aload_n C.1 C.2.1 dL_law_527 rfl (lv_at hl 3 rfl) ?_
    refine lv_iload_n C.1 C.2.1 dL_law_528 rfl (lv_at hl 0 rfl) ?_
    refine lv_iconst (v := 2) C.1 C.2.1 dL_law_529 (by decide) ?_
    refine k_iadd (v := 2) C (by decide) dL_law_530 ?_
    refine k_sld (v := y2) C hX hbl hbA Wd (vp_in_iff.mpr (by decide)) hy2 dL_law_531 ?_
    refine lv_aload_n C.1 C.2.1 dL_law_532 rfl (lv_at hl 3 rfl) ?_
    refine lv_iload_n C.1 C.2.1 dL_law_533 rfl (lv_at hl 0 rfl) ?_
    refine lv_iconst (v := 3) C.1 C.2.1 dL_law_534 (by decide) ?_
    refine k_iadd (v := 3) C (by decide) dL_law_535 ?_
    refine k_sld (v := y3) C hX hbl hbA Wd (vp_in_iff.mpr (by decide)) hy3 dL_law_536 ?_
    refine lv_aload_n C.1 C.2.1 dL_law_537 rfl (lv_at hl 3 rfl) ?_
    refine lv_iload_n C.1 C.2.1 dL_law_538 rfl (lv_at hl 0 rfl) ?_
    refine lv_iconst (v := 4) C.1 C.2.1 dL_law_539 (by decide) ?_
    refine k_iadd (v := 4) C (by decide) dL_law_540 ?_
    refine k_sld (v := y4) C hX hbl hbA Wd (vp_in_iff.mpr (by decide)) hy4 dL_law_541 ?_
    refine k_pi (k_runV (rest := [.int 0]) C aks Wd cs_L_68 (kcX12_apply l D q6104 q6106 q6107 q6108 q6109 q6110 q6111 q6112 q6113 q6114 q6115 q6116 q6117 q6118 q6119 q6120 q6121 q6122 q6123 q6124 q6125 q6126 q6127 q6128 q6129 q6130 y1 y2 y3 y4 _ ) [4] rfl (by decide) [] rfl 4 12 rfl rfl rfl rfl rfl ⟨(Nat.le_of_ble_eq_true rfl), (Nat.le_of_ble_eq_true rfl)⟩ hl.1 rfl rfl (Nat.le_of_ble_eq_true rfl) ⟨(Nat.le_of_ble_eq_true rfl), (Nat.le_of_ble_eq_true rfl)⟩ dL_law_542) (fun r w9619 => ?_)
    rcases w9619 with ⟨c9620, rfl⟩ | ⟨c9621, c9622, rfl⟩
    · refine lv_icmp_eq (tgt := 801) C.1 C.2.1 dL_law_545 (by decide) (fun _ => ?_) (fun c9623 => absurd c9623 (by decide))
      exact tail _ _ _ (k_sub Wd [] rfl (by decide) [] rfl) (lv_sub hl [0, 3] rfl)
    · exact absurd c9451 c9621
  · refine lv_aload_n C.1 C.2.1 dL_law_521 rfl (lv_at hl 1 rfl) ?_
    refine lv_aload_n C.1 C.2.1 dL_law_522 rfl (lv_at hl 3 rfl) ?_
    refine lv_iload_n C.1 C.2.1 dL_law_523 rfl (lv_at hl 0 rfl) ?_
    refine lv_iconst (v := 1) C.1 C.2.1 dL_law_524 (by decide) ?_
    refine k_iadd (v := 1) C (by decide) dL_law_525 ?_
    refine k_sld (v := y1) C hX hbl hbA Wd (vp_in_iff.mpr (by decide)) hy1 dL_law_526 ?_
    refine lv_aload_n C.1 C.2.1 dL_law_527 rfl (lv_at hl 3 rfl) ?_
    refine lv_iload_n C.1 C.2.1 dL_law_528 rfl (lv_at hl 0 rfl) ?_
    refine lv_iconst (v := 2) C.1 C.2.1 dL_law_529 (by decide) ?_
    refine k_iadd (v := 2) C (by decide) dL_law_530 ?_
    refine k_sld (v := y2) C hX hbl hbA Wd (vp_in_iff.mpr (by decide)) hy2 dL_law_531 ?_
    refine lv_aload_n C.1 C.2.1 dL_law_532 rfl (lv_at hl 3 rfl) ?_
    refine lv_iload_n C.1 C.2.1 dL_law_533 rfl (lv_at hl 0 rfl) ?_
    refine lv_iconst (v := 3) C.1 C.2.1 dL_law_534 (by decide) ?_
    refine k_iadd (v := 3) C (by decide) dL_law_535 ?_
    refine k_sld (v := y3) C hX hbl hbA Wd (vp_in_iff.mpr (by decide)) hy3 dL_law_536 ?_
    refine lv_aload_n C.1 C.2.1 dL_law_537 rfl (lv_at hl 3 rfl) ?_
    refine lv_iload_n C.1 C.2.1 dL_law_538 rfl (lv_at hl 0 rfl) ?_
    refine lv_iconst (v := 4) C.1 C.2.1 dL_law_539 (by decide) ?_
    refine k_iadd (v := 4) C (by decide) dL_law_540 ?_
    refine k_sld (v := y4) C hX hbl hbA Wd (vp_in_iff.mpr (by decide)) hy4 dL_law_541 ?_
    refine k_pi (k_runV (rest := [.int 0]) C aks Wd cs_L_68 (kcX12_apply l D q6104 q6106 q6107 q6108 q6109 q6110 q6111 q6112 q6113 q6114 q6115 q6116 q6117 q6118 q6119 q6120 q6121 q6122 q6123 q6124 q6125 q6126 q6127 q6128 q6129 q6130 y1 y2 y3 y4 _ ) [4] rfl (by decide) [] rfl 4 12 rfl rfl rfl rfl rfl ⟨(Nat.le_of_ble_eq_true rfl), (Nat.le_of_ble_eq_true rfl)⟩ hl.1 rfl rfl (Nat.le_of_ble_eq_true rfl) ⟨(Nat.le_of_ble_eq_true rfl), (Nat.le_of_ble_eq_true rfl)⟩ dL_law_542) (fun r w9624 => ?_)
    rcases w9624 with ⟨c9625, rfl⟩ | ⟨c9626, c9627, rfl⟩
    · refine lv_icmp_eq (tgt := 801) C.1 C.2.1 dL_law_545 (by decide) (fun _ => ?_) (fun c9628 => absurd c9628 (by decide))
      exact tail _ _ _ (k_sub Wd [] rfl (by decide) [] rfl) (lv_sub hl [0, 3] rfl)
    · exact absurd c9457 c9626
  · refine lv_aload_n C.1 C.2.1 dL_law_521 rfl (lv_at hl 1 rfl) ?_
    refine lv_aload_n C.1 C.2.1 dL_law_522 rfl (lv_at hl 3 rfl) ?_
    refine lv_iload_n C.1 C.2.1 dL_law_523 rfl (lv_at hl 0 rfl) ?_
    refine lv_iconst (v := 1) C.1 C.2.1 dL_law_524 (by decide) ?_
    refine k_iadd (v := 1) C (by decide) dL_law_525 ?_
    refine k_sld (v := y1) C hX hbl hbA Wd (vp_in_iff.mpr (by decide)) hy1 dL_law_526 ?_
    refine lv_aload_n C.1 C.2.1 dL_law_527 rfl (lv_at hl 3 rfl) ?_
    refine lv_iload_n C.1 C.2.1 dL_law_528 rfl (lv_at hl 0 rfl) ?_
    refine lv_iconst (v := 2) C.1 C.2.1 dL_law_529 (by decide) ?_
    refine k_iadd (v := 2) C (by decide) dL_law_530 ?_
    refine k_sld (v := y2) C hX hbl hbA Wd (vp_in_iff.mpr (by decide)) hy2 dL_law_531 ?_
    refine lv_aload_n C.1 C.2.1 dL_law_532 rfl (lv_at hl 3 rfl) ?_
    refine lv_iload_n C.1 C.2.1 dL_law_533 rfl (lv_at hl 0 rfl) ?_
    refine lv_iconst (v := 3) C.1 C.2.1 dL_law_534 (by decide) ?_
    refine k_iadd (v := 3) C (by decide) dL_law_535 ?_
    refine k_sld (v := y3) C hX hbl hbA Wd (vp_in_iff.mpr (by decide)) hy3 dL_law_536 ?_
    refine lv_aload_n C.1 C.2.1 dL_law_537 rfl (lv_at hl 3 rfl) ?_
    refine lv_iload_n C.1 C.2.1 dL_law_538 rfl (lv_at hl 0 rfl) ?_
    refine lv_iconst (v := 4) C.1 C.2.1 dL_law_539 (by decide) ?_
    refine k_iadd (v := 4) C (by decide) dL_law_540 ?_
    refine k_sld (v := y4) C hX hbl hbA Wd (vp_in_iff.mpr (by decide)) hy4 dL_law_541 ?_
    refine k_pi (k_runV (rest := [.int 0]) C aks Wd cs_L_68 (kcX12_apply l D q6104 q6106 q6107 q6108 q6109 q6110 q6111 q6112 q6113 q6114 q6115 q6116 q6117 q6118 q6119 q6120 q6121 q6122 q6123 q6124 q6125 q6126 q6127 q6128 q6129 q6130 y1 y2 y3 y4 _ ) [4] rfl (by decide) [] rfl 4 12 rfl rfl rfl rfl rfl ⟨(Nat.le_of_ble_eq_true rfl), (Nat.le_of_ble_eq_true rfl)⟩ hl.1 rfl rfl (Nat.le_of_ble_eq_true rfl) ⟨(Nat.le_of_ble_eq_true rfl), (Nat.le_of_ble_eq_true rfl)⟩ dL_law_542) (fun r w9629 => ?_)
    rcases w9629 with ⟨c9630, rfl⟩ | ⟨c9631, c9632, rfl⟩
    · refine lv_icmp_eq (tgt := 801) C.1 C.2.1 dL_law_545 (by decide) (fun _ => ?_) (fun c9633 => absurd c9633 (by decide))
      exact tail _ _ _ (k_sub Wd [] rfl (by decide) [] rfl) (lv_sub hl [0, 3] rfl)
    · exact absurd c9463 c9631
  · refine lv_aload_n C.1 C.2.1 dL_law_521 rfl (lv_at hl 1 rfl) ?_
    refine lv_aload_n C.1 C.2.1 dL_law_522 rfl (lv_at hl 3 rfl) ?_
    refine lv_iload_n C.1 C.2.1 dL_law_523 rfl (lv_at hl 0 rfl) ?_
    refine lv_iconst (v := 1) C.1 C.2.1 dL_law_524 (by decide) ?_
    refine k_iadd (v := 1) C (by decide) dL_law_525 ?_
    refine k_sld (v := y1) C hX hbl hbA Wd (vp_in_iff.mpr (by decide)) hy1 dL_law_526 ?_
    refine lv_aload_n C.1 C.2.1 dL_law_527 rfl (lv_at hl 3 rfl) ?_
    refine lv_iload_n C.1 C.2.1 dL_law_528 rfl (lv_at hl 0 rfl) ?_
    refine lv_iconst (v := 2) C.1 C.2.1 dL_law_529 (by decide) ?_
    refine k_iadd (v := 2) C (by decide) dL_law_530 ?_
    refine k_sld (v := y2) C hX hbl hbA Wd (vp_in_iff.mpr (by decide)) hy2 dL_law_531 ?_
    refine lv_aload_n C.1 C.2.1 dL_law_532 rfl (lv_at hl 3 rfl) ?_
    refine lv_iload_n C.1 C.2.1 dL_law_533 rfl (lv_at hl 0 rfl) ?_
    refine lv_iconst (v := 3) C.1 C.2.1 dL_law_534 (by decide) ?_
    refine k_iadd (v := 3) C (by decide) dL_law_535 ?_
    refine k_sld (v := y3) C hX hbl hbA Wd (vp_in_iff.mpr (by decide)) hy3 dL_law_536 ?_
    refine lv_aload_n C.1 C.2.1 dL_law_537 rfl (lv_at hl 3 rfl) ?_
    refine lv_iload_n C.1 C.2.1 dL_law_538 rfl (lv_at hl 0 rfl) ?_
    refine lv_iconst (v := 4) C.1 C.2.1 dL_law_539 (by decide) ?_
    refine k_iadd (v := 4) C (by decide) dL_law_540 ?_
    refine k_sld (v := y4) C hX hbl hbA Wd (vp_in_iff.mpr (by decide)) hy4 dL_law_541 ?_
    refine k_pi (k_runV (rest := [.int 0]) C aks Wd cs_L_68 (kcX12_apply l D q6104 q6106 q6107 q6108 q6109 q6110 q6111 q6112 q6113 q6114 q6115 q6116 q6117 q6118 q6119 q6120 q6121 q6122 q6123 q6124 q6125 q6126 q6127 q6128 q6129 q6130 y1 y2 y3 y4 _ ) [4] rfl (by decide) [] rfl 4 12 rfl rfl rfl rfl rfl ⟨(Nat.le_of_ble_eq_true rfl), (Nat.le_of_ble_eq_true rfl)⟩ hl.1 rfl rfl (Nat.le_of_ble_eq_true rfl) ⟨(Nat.le_of_ble_eq_true rfl), (Nat.le_of_ble_eq_true rfl)⟩ dL_law_542) (fun r w9634 => ?_)
    rcases w9634 with ⟨c9635, rfl⟩ | ⟨c9636, c9637, rfl⟩
    · refine lv_icmp_eq (tgt := 801) C.1 C.2.1 dL_law_545 (by decide) (fun _ => ?_) (fun c9638 => absurd c9638 (by decide))
      exact tail _ _ _ (k_sub Wd [] rfl (by decide) [] rfl) (lv_sub hl [0, 3] rfl)
    · exact absurd c9469 c9636
  · refine lv_aload_n C.1 C.2.1 dL_law_521 rfl (lv_at hl 1 rfl) ?_
    refine lv_aload_n C.1 C.2.1 dL_law_522 rfl (lv_at hl 3 rfl) ?_
    refine lv_iload_n C.1 C.2.1 dL_law_523 rfl (lv_at hl 0 rfl) ?_
    refine lv_iconst (v := 1) C.1 C.2.1 dL_law_524 (by decide) ?_
    refine k_iadd (v := 1) C (by decide) dL_law_525 ?_
    refine k_sld (v := y1) C hX hbl hbA Wd (vp_in_iff.mpr (by decide)) hy1 dL_law_526 ?_
    refine lv_aload_n C.1 C.2.1 dL_law_527 rfl (lv_at hl 3 rfl) ?_
    refine lv_iload_n C.1 C.2.1 dL_law_528 rfl (lv_at hl 0 rfl) ?_
    refine lv_iconst (v := 2) C.1 C.2.1 dL_law_529 (by decide) ?_
    refine k_iadd (v := 2) C (by decide) dL_law_530 ?_
    refine k_sld (v := y2) C hX hbl hbA Wd (vp_in_iff.mpr (by decide)) hy2 dL_law_531 ?_
    refine lv_aload_n C.1 C.2.1 dL_law_532 rfl (lv_at hl 3 rfl) ?_
    refine lv_iload_n C.1 C.2.1 dL_law_533 rfl (lv_at hl 0 rfl) ?_
    refine lv_iconst (v := 3) C.1 C.2.1 dL_law_534 (by decide) ?_
    refine k_iadd (v := 3) C (by decide) dL_law_535 ?_
    refine k_sld (v := y3) C hX hbl hbA Wd (vp_in_iff.mpr (by decide)) hy3 dL_law_536 ?_
    refine lv_aload_n C.1 C.2.1 dL_law_537 rfl (lv_at hl 3 rfl) ?_
    refine lv_iload_n C.1 C.2.1 dL_law_538 rfl (lv_at hl 0 rfl) ?_
    refine lv_iconst (v := 4) C.1 C.2.1 dL_law_539 (by decide) ?_
    refine k_iadd (v := 4) C (by decide) dL_law_540 ?_
    refine k_sld (v := y4) C hX hbl hbA Wd (vp_in_iff.mpr (by decide)) hy4 dL_law_541 ?_
    refine k_pi (k_runV (rest := [.int 0]) C aks Wd cs_L_68 (kcX12_apply l D q6104 q6106 q6107 q6108 q6109 q6110 q6111 q6112 q6113 q6114 q6115 q6116 q6117 q6118 q6119 q6120 q6121 q6122 q6123 q6124 q6125 q6126 q6127 q6128 q6129 q6130 y1 y2 y3 y4 _ ) [4] rfl (by decide) [] rfl 4 12 rfl rfl rfl rfl rfl ⟨(Nat.le_of_ble_eq_true rfl), (Nat.le_of_ble_eq_true rfl)⟩ hl.1 rfl rfl (Nat.le_of_ble_eq_true rfl) ⟨(Nat.le_of_ble_eq_true rfl), (Nat.le_of_ble_eq_true rfl)⟩ dL_law_542) (fun r w9639 => ?_)
    rcases w9639 with ⟨c9640, rfl⟩ | ⟨c9641, c9642, rfl⟩
    · refine lv_icmp_eq (tgt := 801) C.1 C.2.1 dL_law_545 (by decide) (fun _ => ?_) (fun c9643 => absurd c9643 (by decide))
      exact tail _ _ _ (k_sub Wd [] rfl (by decide) [] rfl) (lv_sub hl [0, 3] rfl)
    · exact absurd c9474 c9641
  · refine lv_aload_n C.1 C.2.1 dL_law_521 rfl (lv_at hl 1 rfl) ?_
    refine lv_aload_n C.1 C.2.1 dL_law_522 rfl (lv_at hl 3 rfl) ?_
    refine lv_iload_n C.1 C.2.1 dL_law_523 rfl (lv_at hl 0 rfl) ?_
    refine lv_iconst (v := 1) C.1 C.2.1 dL_law_524 (by decide) ?_
    refine k_iadd (v := 1) C (by decide) dL_law_525 ?_
    refine k_sld (v := y1) C hX hbl hbA Wd (vp_in_iff.mpr (by decide)) hy1 dL_law_526 ?_
    refine lv_aload_n C.1 C.2.1 dL_law_527 rfl (lv_at hl 3 rfl) ?_
    refine lv_iload_n C.1 C.2.1 dL_law_528 rfl (lv_at hl 0 rfl) ?_
    refine lv_iconst (v := 2) C.1 C.2.1 dL_law_529 (by decide) ?_
    refine k_iadd (v := 2) C (by decide) dL_law_530 ?_
    refine k_sld (v := y2) C hX hbl hbA Wd (vp_in_iff.mpr (by decide)) hy2 dL_law_531 ?_
    refine lv_aload_n C.1 C.2.1 dL_law_532 rfl (lv_at hl 3 rfl) ?_
    refine lv_iload_n C.1 C.2.1 dL_law_533 rfl (lv_at hl 0 rfl) ?_
    refine lv_iconst (v := 3) C.1 C.2.1 dL_law_534 (by decide) ?_
    refine k_iadd (v := 3) C (by decide) dL_law_535 ?_
    refine k_sld (v := y3) C hX hbl hbA Wd (vp_in_iff.mpr (by decide)) hy3 dL_law_536 ?_
    refine lv_aload_n C.1 C.2.1 dL_law_537 rfl (lv_at hl 3 rfl) ?_
    refine lv_iload_n C.1 C.2.1 dL_law_538 rfl (lv_at hl 0 rfl) ?_
    refine lv_iconst (v := 4) C.1 C.2.1 dL_law_539 (by decide) ?_
    refine k_iadd (v := 4) C (by decide) dL_law_540 ?_
    refine k_sld (v := y4) C hX hbl hbA Wd (vp_in_iff.mpr (by decide)) hy4 dL_law_541 ?_
    refine k_pi (k_runV (rest := [.int 0]) C aks Wd cs_L_68 (kcX12_apply l D q6104 q6106 q6107 q6108 q6109 q6110 q6111 q6112 q6113 q6114 q6115 q6116 q6117 q6118 q6119 q6120 q6121 q6122 q6123 q6124 q6125 q6126 q6127 q6128 q6129 q6130 y1 y2 y3 y4 _ ) [4] rfl (by decide) [] rfl 4 12 rfl rfl rfl rfl rfl ⟨(Nat.le_of_ble_eq_true rfl), (Nat.le_of_ble_eq_true rfl)⟩ hl.1 rfl rfl (Nat.le_of_ble_eq_true rfl) ⟨(Nat.le_of_ble_eq_true rfl), (Nat.le_of_ble_eq_true rfl)⟩ dL_law_542) (fun r w9644 => ?_)
    rcases w9644 with ⟨c9645, rfl⟩ | ⟨c9646, c9647, rfl⟩
    · refine lv_icmp_eq (tgt := 801) C.1 C.2.1 dL_law_545 (by decide) (fun _ => ?_) (fun c9648 => absurd c9648 (by decide))
      exact tail _ _ _ (k_sub Wd [] rfl (by decide) [] rfl) (lv_sub hl [0, 3] rfl)
    · exact absurd c9480 c9646
  · refine lv_aload_n C.1 C.2.1 dL_law_521 rfl (lv_at hl 1 rfl) ?_
    refine lv_aload_n C.1 C.2.1 dL_law_522 rfl (lv_at hl 3 rfl) ?_
    refine lv_iload_n C.1 C.2.1 dL_law_523 rfl (lv_at hl 0 rfl) ?_
    refine lv_iconst (v := 1) C.1 C.2.1 dL_law_524 (by decide) ?_
    refine k_iadd (v := 1) C (by decide) dL_law_525 ?_
    refine k_sld (v := y1) C hX hbl hbA Wd (vp_in_iff.mpr (by decide)) hy1 dL_law_526 ?_
    refine lv_aload_n C.1 C.2.1 dL_law_527 rfl (lv_at hl 3 rfl) ?_
    refine lv_iload_n C.1 C.2.1 dL_law_528 rfl (lv_at hl 0 rfl) ?_
    refine lv_iconst (v := 2) C.1 C.2.1 dL_law_529 (by decide) ?_
    refine k_iadd (v := 2) C (by decide) dL_law_530 ?_
    refine k_sld (v := y2) C hX hbl hbA Wd (vp_in_iff.mpr (by decide)) hy2 dL_law_531 ?_
    refine lv_aload_n C.1 C.2.1 dL_law_532 rfl (lv_at hl 3 rfl) ?_
    refine lv_iload_n C.1 C.2.1 dL_law_533 rfl (lv_at hl 0 rfl) ?_
    refine lv_iconst (v := 3) C.1 C.2.1 dL_law_534 (by decide) ?_
    refine k_iadd (v := 3) C (by decide) dL_law_535 ?_
    refine k_sld (v := y3) C hX hbl hbA Wd (vp_in_iff.mpr (by decide)) hy3 dL_law_536 ?_
    refine lv_aload_n C.1 C.2.1 dL_law_537 rfl (lv_at hl 3 rfl) ?_
    refine lv_iload_n C.1 C.2.1 dL_law_538 rfl (lv_at hl 0 rfl) ?_
    refine lv_iconst (v := 4) C.1 C.2.1 dL_law_539 (by decide) ?_
    refine k_iadd (v := 4) C (by decide) dL_law_540 ?_
    refine k_sld (v := y4) C hX hbl hbA Wd (vp_in_iff.mpr (by decide)) hy4 dL_law_541 ?_
    refine k_pi (k_runV (rest := [.int 0]) C aks Wd cs_L_68 (kcX12_apply l D q6104 q6106 q6107 q6108 q6109 q6110 q6111 q6112 q6113 q6114 q6115 q6116 q6117 q6118 q6119 q6120 q6121 q6122 q6123 q6124 q6125 q6126 q6127 q6128 q6129 q6130 y1 y2 y3 y4 _ ) [4] rfl (by decide) [] rfl 4 12 rfl rfl rfl rfl rfl ⟨(Nat.le_of_ble_eq_true rfl), (Nat.le_of_ble_eq_true rfl)⟩ hl.1 rfl rfl (Nat.le_of_ble_eq_true rfl) ⟨(Nat.le_of_ble_eq_true rfl), (Nat.le_of_ble_eq_true rfl)⟩ dL_law_542) (fun r w9649 => ?_)
    rcases w9649 with ⟨c9650, rfl⟩ | ⟨c9651, c9652, rfl⟩
    · refine lv_icmp_eq (tgt := 801) C.1 C.2.1 dL_law_545 (by decide) (fun _ => ?_) (fun c9653 => absurd c9653 (by decide))
      exact tail _ _ _ (k_sub Wd [] rfl (by decide) [] rfl) (lv_sub hl [0, 3] rfl)
    · exact absurd c9486 c9651
  · refine lv_aload_n C.1 C.2.1 dL_law_521 rfl (lv_at hl 1 rfl) ?_
    refine lv_aload_n C.1 C.2.1 dL_law_522 rfl (lv_at hl 3 rfl) ?_
    refine lv_iload_n C.1 C.2.1 dL_law_523 rfl (lv_at hl 0 rfl) ?_
    refine lv_iconst (v := 1) C.1 C.2.1 dL_law_524 (by decide) ?_
    refine k_iadd (v := 1) C (by decide) dL_law_525 ?_
    refine k_sld (v := y1) C hX hbl hbA Wd (vp_in_iff.mpr (by decide)) hy1 dL_law_526 ?_
    refine lv_aload_n C.1 C.2.1 dL_law_527 rfl (lv_at hl 3 rfl) ?_
    refine lv_iload_n C.1 C.2.1 dL_law_528 rfl (lv_at hl 0 rfl) ?_
    refine lv_iconst (v := 2) C.1 C.2.1 dL_law_529 (by decide) ?_
    refine k_iadd (v := 2) C (by decide) dL_law_530 ?_
    refine k_sld (v := y2) C hX hbl hbA Wd (vp_in_iff.mpr (by decide)) hy2 dL_law_531 ?_
    refine lv_aload_n C.1 C.2.1 dL_law_532 rfl (lv_at hl 3 rfl) ?_
    refine lv_iload_n C.1 C.2.1 dL_law_533 rfl (lv_at hl 0 rfl) ?_
    refine lv_iconst (v := 3) C.1 C.2.1 dL_law_534 (by decide) ?_
    refine k_iadd (v := 3) C (by decide) dL_law_535 ?_
    refine k_sld (v := y3) C hX hbl hbA Wd (vp_in_iff.mpr (by decide)) hy3 dL_law_536 ?_
    refine lv_aload_n C.1 C.2.1 dL_law_537 rfl (lv_at hl 3 rfl) ?_
    refine lv_iload_n C.1 C.2.1 dL_law_538 rfl (lv_at hl 0 rfl) ?_
    refine lv_iconst (v := 4) C.1 C.2.1 dL_law_539 (by decide) ?_
    refine k_iadd (v := 4) C (by decide) dL_law_540 ?_
    refine k_sld (v := y4) C hX hbl hbA Wd (vp_in_iff.mpr (by decide)) hy4 dL_law_541 ?_
    refine k_pi (k_runV (rest := [.int 0]) C aks Wd cs_L_68 (kcX12_apply l D q6104 q6106 q6107 q6108 q6109 q6110 q6111 q6112 q6113 q6114 q6115 q6116 q6117 q6118 q6119 q6120 q6121 q6122 q6123 q6124 q6125 q6126 q6127 q6128 q6129 q6130 y1 y2 y3 y4 _ ) [4] rfl (by decide) [] rfl 4 12 rfl rfl rfl rfl rfl ⟨(Nat.le_of_ble_eq_true rfl), (Nat.le_of_ble_eq_true rfl)⟩ hl.1 rfl rfl (Nat.le_of_ble_eq_true rfl) ⟨(Nat.le_of_ble_eq_true rfl), (Nat.le_of_ble_eq_true rfl)⟩ dL_law_542) (fun r w9654 => ?_)
    rcases w9654 with ⟨c9655, rfl⟩ | ⟨c9656, c9657, rfl⟩
    · refine lv_icmp_eq (tgt := 801) C.1 C.2.1 dL_law_545 (by decide) (fun _ => ?_) (fun c9658 => absurd c9658 (by decide))
      exact tail _ _ _ (k_sub Wd [] rfl (by decide) [] rfl) (lv_sub hl [0, 3] rfl)
    · exact absurd c9492 c9656
  · refine lv_aload_n C.1 C.2.1 dL_law_521 rfl (lv_at hl 1 rfl) ?_
    refine lv_aload_n C.1 C.2.1 dL_law_522 rfl (lv_at hl 3 rfl) ?_
    refine lv_iload_n C.1 C.2.1 dL_law_523 rfl (lv_at hl 0 rfl) ?_
    refine lv_iconst (v := 1) C.1 C.2.1 dL_law_524 (by decide) ?_
    refine k_iadd (v := 1) C (by decide) dL_law_525 ?_
    refine k_sld (v := y1) C hX hbl hbA Wd (vp_in_iff.mpr (by decide)) hy1 dL_law_526 ?_
    refine lv_aload_n C.1 C.2.1 dL_law_527 rfl (lv_at hl 3 rfl) ?_
    refine lv_iload_n C.1 C.2.1 dL_law_528 rfl (lv_at hl 0 rfl) ?_
    refine lv_iconst (v := 2) C.1 C.2.1 dL_law_529 (by decide) ?_
    refine k_iadd (v := 2) C (by decide) dL_law_530 ?_
    refine k_sld (v := y2) C hX hbl hbA Wd (vp_in_iff.mpr (by decide)) hy2 dL_law_531 ?_
    refine lv_aload_n C.1 C.2.1 dL_law_532 rfl (lv_at hl 3 rfl) ?_
    refine lv_iload_n C.1 C.2.1 dL_law_533 rfl (lv_at hl 0 rfl) ?_
    refine lv_iconst (v := 3) C.1 C.2.1 dL_law_534 (by decide) ?_
    refine k_iadd (v := 3) C (by decide) dL_law_535 ?_
    refine k_sld (v := y3) C hX hbl hbA Wd (vp_in_iff.mpr (by decide)) hy3 dL_law_536 ?_
    refine lv_aload_n C.1 C.2.1 dL_law_537 rfl (lv_at hl 3 rfl) ?_
    refine lv_iload_n C.1 C.2.1 dL_law_538 rfl (lv_at hl 0 rfl) ?_
    refine lv_iconst (v := 4) C.1 C.2.1 dL_law_539 (by decide) ?_
    refine k_iadd (v := 4) C (by decide) dL_law_540 ?_
    refine k_sld (v := y4) C hX hbl hbA Wd (vp_in_iff.mpr (by decide)) hy4 dL_law_541 ?_
    refine k_pi (k_runV (rest := [.int 0]) C aks Wd cs_L_68 (kcX12_apply l D q6104 q6106 q6107 q6108 q6109 q6110 q6111 q6112 q6113 q6114 q6115 q6116 q6117 q6118 q6119 q6120 q6121 q6122 q6123 q6124 q6125 q6126 q6127 q6128 q6129 q6130 y1 y2 y3 y4 _ ) [4] rfl (by decide) [] rfl 4 12 rfl rfl rfl rfl rfl ⟨(Nat.le_of_ble_eq_true rfl), (Nat.le_of_ble_eq_true rfl)⟩ hl.1 rfl rfl (Nat.le_of_ble_eq_true rfl) ⟨(Nat.le_of_ble_eq_true rfl), (Nat.le_of_ble_eq_true rfl)⟩ dL_law_542) (fun r w9659 => ?_)
    rcases w9659 with ⟨c9660, rfl⟩ | ⟨c9661, c9662, rfl⟩
    · refine lv_icmp_eq (tgt := 801) C.1 C.2.1 dL_law_545 (by decide) (fun _ => ?_) (fun c9663 => absurd c9663 (by decide))
      exact tail _ _ _ (k_sub Wd [] rfl (by decide) [] rfl) (lv_sub hl [0, 3] rfl)
    · exact absurd c9497 c9661
  · refine lv_aload_n C.1 C.2.1 dL_law_521 rfl (lv_at hl 1 rfl) ?_
    refine lv_aload_n C.1 C.2.1 dL_law_522 rfl (lv_at hl 3 rfl) ?_
    refine lv_iload_n C.1 C.2.1 dL_law_523 rfl (lv_at hl 0 rfl) ?_
    refine lv_iconst (v := 1) C.1 C.2.1 dL_law_524 (by decide) ?_
    refine k_iadd (v := 1) C (by decide) dL_law_525 ?_
    refine k_sld (v := y1) C hX hbl hbA Wd (vp_in_iff.mpr (by decide)) hy1 dL_law_526 ?_
    refine lv_aload_n C.1 C.2.1 dL_law_527 rfl (lv_at hl 3 rfl) ?_
    refine lv_iload_n C.1 C.2.1 dL_law_528 rfl (lv_at hl 0 rfl) ?_
    refine lv_iconst (v := 2) C.1 C.2.1 dL_law_529 (by decide) ?_
    refine k_iadd (v := 2) C (by decide) dL_law_530 ?_
    refine k_sld (v := y2) C hX hbl hbA Wd (vp_in_iff.mpr (by decide)) hy2 dL_law_531 ?_
    refine lv_aload_n C.1 C.2.1 dL_law_532 rfl (lv_at hl 3 rfl) ?_
    refine lv_iload_n C.1 C.2.1 dL_law_533 rfl (lv_at hl 0 rfl) ?_
    refine lv_iconst (v := 3) C.1 C.2.1 dL_law_534 (by decide) ?_
    refine k_iadd (v := 3) C (by decide) dL_law_535 ?_
    refine k_sld (v := y3) C hX hbl hbA Wd (vp_in_iff.mpr (by decide)) hy3 dL_law_536 ?_
    refine lv_aload_n C.1 C.2.1 dL_law_537 rfl (lv_at hl 3 rfl) ?_
    refine lv_iload_n C.1 C.2.1 dL_law_538 rfl (lv_at hl 0 rfl) ?_
    refine lv_iconst (v := 4) C.1 C.2.1 dL_law_539 (by decide) ?_
    refine k_iadd (v := 4) C (by decide) dL_law_540 ?_
    refine k_sld (v := y4) C hX hbl hbA Wd (vp_in_iff.mpr (by decide)) hy4 dL_law_541 ?_
    refine k_pi (k_runV (rest := [.int 0]) C aks Wd cs_L_68 (kcX12_apply l D q6104 q6106 q6107 q6108 q6109 q6110 q6111 q6112 q6113 q6114 q6115 q6116 q6117 q6118 q6119 q6120 q6121 q6122 q6123 q6124 q6125 q6126 q6127 q6128 q6129 q6130 y1 y2 y3 y4 _ ) [4] rfl (by decide) [] rfl 4 12 rfl rfl rfl rfl rfl ⟨(Nat.le_of_ble_eq_true rfl), (Nat.le_of_ble_eq_true rfl)⟩ hl.1 rfl rfl (Nat.le_of_ble_eq_true rfl) ⟨(Nat.le_of_ble_eq_true rfl), (Nat.le_of_ble_eq_true rfl)⟩ dL_law_542) (fun r w9664 => ?_)
    rcases w9664 with ⟨c9665, rfl⟩ | ⟨c9666, c9667, rfl⟩
    · refine lv_icmp_eq (tgt := 801) C.1 C.2.1 dL_law_545 (by decide) (fun _ => ?_) (fun c9668 => absurd c9668 (by decide))
      exact tail _ _ _ (k_sub Wd [] rfl (by decide) [] rfl) (lv_sub hl [0, 3] rfl)
    · exact absurd c9503 c9666
  · refine lv_aload_n C.1 C.2.1 dL_law_521 rfl (lv_at hl 1 rfl) ?_
    refine lv_aload_n C.1 C.2.1 dL_law_522 rfl (lv_at hl 3 rfl) ?_
    refine lv_iload_n C.1 C.2.1 dL_law_523 rfl (lv_at hl 0 rfl) ?_
    refine lv_iconst (v := 1) C.1 C.2.1 dL_law_524 (by decide) ?_
    refine k_iadd (v := 1) C (by decide) dL_law_525 ?_
    refine k_sld (v := y1) C hX hbl hbA Wd (vp_in_iff.mpr (by decide)) hy1 dL_law_526 ?_
    refine lv_aload_n C.1 C.2.1 dL_law_527 rfl (lv_at hl 3 rfl) ?_
    refine lv_iload_n C.1 C.2.1 dL_law_528 rfl (lv_at hl 0 rfl) ?_
    refine lv_iconst (v := 2) C.1 C.2.1 dL_law_529 (by decide) ?_
    refine k_iadd (v := 2) C (by decide) dL_law_530 ?_
    refine k_sld (v := y2) C hX hbl hbA Wd (vp_in_iff.mpr (by decide)) hy2 dL_law_531 ?_
    refine lv_aload_n C.1 C.2.1 dL_law_532 rfl (lv_at hl 3 rfl) ?_
    refine lv_iload_n C.1 C.2.1 dL_law_533 rfl (lv_at hl 0 rfl) ?_
    refine lv_iconst (v := 3) C.1 C.2.1 dL_law_534 (by decide) ?_
    refine k_iadd (v := 3) C (by decide) dL_law_535 ?_
    refine k_sld (v := y3) C hX hbl hbA Wd (vp_in_iff.mpr (by decide)) hy3 dL_law_536 ?_
    refine lv_aload_n C.1 C.2.1 dL_law_537 rfl (lv_at hl 3 rfl) ?_
    refine lv_iload_n C.1 C.2.1 dL_law_538 rfl (lv_at hl 0 rfl) ?_
    refine lv_iconst (v := 4) C.1 C.2.1 dL_law_539 (by decide) ?_
    refine k_iadd (v := 4) C (by decide) dL_law_540 ?_
    refine k_sld (v := y4) C hX hbl hbA Wd (vp_in_iff.mpr (by decide)) hy4 dL_law_541 ?_
    refine k_pi (k_runV (rest := [.int 0]) C aks Wd cs_L_68 (kcX12_apply l D q6104 q6106 q6107 q6108 q6109 q6110 q6111 q6112 q6113 q6114 q6115 q6116 q6117 q6118 q6119 q6120 q6121 q6122 q6123 q6124 q6125 q6126 q6127 q6128 q6129 q6130 y1 y2 y3 y4 _ ) [4] rfl (by decide) [] rfl 4 12 rfl rfl rfl rfl rfl ⟨(Nat.le_of_ble_eq_true rfl), (Nat.le_of_ble_eq_true rfl)⟩ hl.1 rfl rfl (Nat.le_of_ble_eq_true rfl) ⟨(Nat.le_of_ble_eq_true rfl), (Nat.le_of_ble_eq_true rfl)⟩ dL_law_542) (fun r w9669 => ?_)
    rcases w9669 with ⟨c9670, rfl⟩ | ⟨c9671, c9672, rfl⟩
    · refine lv_icmp_eq (tgt := 801) C.1 C.2.1 dL_law_545 (by decide) (fun _ => ?_) (fun c9673 => absurd c9673 (by decide))
      exact tail _ _ _ (k_sub Wd [] rfl (by decide) [] rfl) (lv_sub hl [0, 3] rfl)
    · exact absurd c9509 c9671
set_option maxHeartbeats 4000000 in
set_option maxRecDepth 100000 in
theorem law_item {p : Program} {l : Launch} {e : Env} {s : State} {m : MethodId} {below : List Frame} {meth : Method} {c : Code} {b : Nat} {xs : Nat → Int32} {D : va_G} {A : Nat → Prop} {e6037 : ClassId} {e6039 : ClassId} {e6040 : ClassId} {e6150 : ClassId} {e6151 : ClassId} {q5961 : Nat} {q5963 : Nat} {q5964 : Nat} {q5965 : Nat} {q5966 : Nat} {q5967 : Nat} {q5968 : Nat} {q5969 : Nat} {q6010 : Nat} {q6011 : Nat} {q6012 : Nat} {q6013 : Nat} {q6014 : Nat} {q6015 : Nat} {q6016 : Nat} {q6017 : Nat} {q6104 : Nat} {q6106 : Nat} {q6107 : Nat} {q6108 : Nat} {q6109 : Nat} {q6110 : Nat} {q6111 : Nat} {q6112 : Nat} {q6113 : Nat} {q6114 : Nat} {q6115 : Nat} {q6116 : Nat} {q6117 : Nat} {q6118 : Nat} {q6119 : Nat} {q6120 : Nat} {q6121 : Nat} {q6122 : Nat} {q6123 : Nat} {q6124 : Nat} {q6125 : Nat} {q6126 : Nat} {q6127 : Nat} {q6128 : Nat} {q6129 : Nat} {q6130 : Nat} {r6038 : Nat → Nat} {y1 : Int32} (hy1 : xs 1 = y1) {y2 : Int32} (hy2 : xs 2 = y2) {H : Heap} {locs : List Loc} {ls : Array Slot} (C : CallFix p m c cL_law 4 s #[Value.ref b] gG RL) (aks : aK s) (hX : va_X b 6 xs s s.heap) (hbl : b < s.heap.size) (hbA : ¬ A b) (hrt : meth.sig.returnType = ret) (hlocks : meth.locks = false) (hAe : A = fun q => s.heap.size ≤ q) (tail : (∀ (H : Heap) (locs : List Loc) (ls : Array Slot), wX D [] s [] H A s.heap locs → lv_has ls 4 [(3, .int 0), (0, .ref b)] → W p l e room_1 s m #[Value.ref b] below meth c H locs 271 91330 (lw_Z below #[Value.ref b] s) (F0 m 801 ls []))) (Wd : wX D [(e6039, .int), (e6037, .array .int), (e6040, .int), (e6150, .int), (e6151, .int)] s [(q5961, .inr (11, [.ref q5963, .int 0, .ref q5964, .ref q5965, .ref q5966, .ref q5967, .ref q5968, .ref q5969])), (q5968, .inr (4, [.ref q6010, .ref q6011, .ref q6012, .int (-1), .int (-1), .ref q6013, .ref q6014, .ref q6015, .ref q6016, .ref q6017])), (q6014, .inl (e6037, 6, .inr (.inr (.inr (.inr (fun i => if i < 6 then some (r6038 i) else none)))))), ((r6038 0), .inl (e6039, 8, .inl (fun _ => 0))), ((r6038 1), .inl (e6039, 8, .inl (fun _ => 0))), ((r6038 2), .inl (e6039, 8, .inl (fun _ => 0))), ((r6038 3), .inl (e6039, 8, .inl (fun _ => 0))), ((r6038 4), .inl (e6039, 8, .inl (fun _ => 0))), ((r6038 5), .inl (e6039, 8, .inl (fun _ => 0))), (q6015, .inl (e6040, 6, .inl (fun _ => 0))), (q6104, .inr (12, [.ref q6106, .ref q6107, .ref q6108, .ref q6109, .int 0, .int 0, .ref q6110, .int 0, .int 0, .int 0, .int 0, .int 0, .int 0, .int 0, .int 0, .int 0, .int 0, .int 0, .int 0, .int 0, .int (-1), .int 0, .int 0, .int 0, .ref q6111, .ref q6112, .ref q6113, .ref q6114, .ref q6115, .ref q6116, .int 0, .int 0, .int 0, .int 0, .ref q6117, .ref q6118, .ref q6119, .int 0, .int 0, .int 0, .int 0, .ref q6120, .ref q6121, .int 0, .ref q6122, .ref q6123, .int 0, .ref q6124, .int 0, .ref q6125, .ref q6126, .ref q6127, .int 0, .ref q6128, .ref q6129, .ref q6130])), (q6125, .inl (e6150, 48, .inl (fun _ => 0))), (q6126, .inl (e6151, 6, .inl (fun _ => 0)))] H A s.heap locs) (hl : lv_has ls 4 [(3, .int 0), (2, .ref q6104), (1, .ref q5961), (0, .ref b)]) : W p l e room_1 s m #[Value.ref b] below meth c H locs 271 91330 (lw_Z below #[Value.ref b] s) (F0 m 550 ls []) := by
  by_cases c9674 : y1 < 0
  · refine lv_aload_n C.1 C.2.1 dL_law_550 rfl (lv_at hl 2 rfl) ?_
    refine lv_aload_n C.1 C.2.1 dL_law_551 rfl (lv_at hl 3 rfl) ?_
    refine lv_iload_n C.1 C.2.1 dL_law_552 rfl (lv_at hl 0 rfl) ?_
    refine lv_iconst (v := 1) C.1 C.2.1 dL_law_553 (by decide) ?_
    refine k_iadd (v := 1) C (by decide) dL_law_554 ?_
    refine k_sld (v := y1) C hX hbl hbA Wd (vp_in_iff.mpr (by decide)) hy1 dL_law_555 ?_
    refine lv_aload_n C.1 C.2.1 dL_law_556 rfl (lv_at hl 3 rfl) ?_
    refine lv_iload_n C.1 C.2.1 dL_law_557 rfl (lv_at hl 0 rfl) ?_
    refine lv_iconst (v := 2) C.1 C.2.1 dL_law_558 (by decide) ?_
    refine k_iadd (v := 2) C (by decide) dL_law_559 ?_
    refine k_sld (v := y2) C hX hbl hbA Wd (vp_in_iff.mpr (by decide)) hy2 dL_law_560 ?_
    refine k_pi (k_runV (rest := []) C aks Wd cs_L_69 (kcX11_item l D q5961 q5963 q5964 q5965 q5966 q5967 q5968 q5969 q6010 q6011 q6012 q6013 q6014 q6015 q6016 q6017 y1 y2 _ c9674) [0, 1] rfl (by decide) [] rfl 0 11 rfl rfl rfl rfl rfl ⟨(Nat.le_of_ble_eq_true rfl), (Nat.le_of_ble_eq_true rfl)⟩ hl.1 rfl rfl (Nat.le_of_ble_eq_true rfl) ⟨(Nat.le_of_ble_eq_true rfl), (Nat.le_of_ble_eq_true rfl)⟩ dL_law_561) (fun r w9675 => ?_)
    rcases w9675 with ⟨c9676, rfl⟩ | ⟨c9677, c9678, rfl⟩ | ⟨c9679, c9680, c9681, rfl⟩ | ⟨c9682, c9683, c9684, c9685, rfl⟩
    · refine lv_aload_n C.1 C.2.1 dL_law_564 rfl (lv_at hl 1 rfl) ?_
      refine lv_aload_n C.1 C.2.1 dL_law_565 rfl (lv_at hl 3 rfl) ?_
      refine lv_iload_n C.1 C.2.1 dL_law_566 rfl (lv_at hl 0 rfl) ?_
      refine lv_iconst (v := 1) C.1 C.2.1 dL_law_567 (by decide) ?_
      refine k_iadd (v := 1) C (by decide) dL_law_568 ?_
      refine k_sld (v := y1) C hX hbl hbA Wd (vp_in_iff.mpr (by decide)) hy1 dL_law_569 ?_
      refine lv_aload_n C.1 C.2.1 dL_law_570 rfl (lv_at hl 3 rfl) ?_
      refine lv_iload_n C.1 C.2.1 dL_law_571 rfl (lv_at hl 0 rfl) ?_
      refine lv_iconst (v := 2) C.1 C.2.1 dL_law_572 (by decide) ?_
      refine k_iadd (v := 2) C (by decide) dL_law_573 ?_
      refine k_sld (v := y2) C hX hbl hbA Wd (vp_in_iff.mpr (by decide)) hy2 dL_law_574 ?_
      refine k_ci Wd [10, 12, 11] [0, 1, 2, 3, 4, 5, 6, 7, 8, 9] rfl (wr := [(q5961, .inr (11, [.ref q5963, .int 0, .ref q5964, .ref q5965, .ref q5966, .ref q5967, .ref q5968, .ref q5969])), (q5968, .inr (4, [.ref q6010, .ref q6011, .ref q6012, .int (-1), .int (-1), .ref q6013, .ref q6014, .ref q6015, .ref q6016, .ref q6017])), (q6014, .inl (e6037, 6, .inr (.inr (.inr (.inr (fun i => if i < 6 then some (r6038 i) else none)))))), ((r6038 0), .inl (e6039, 8, .inl (fun _ => 0))), ((r6038 1), .inl (e6039, 8, .inl (fun _ => 0))), ((r6038 2), .inl (e6039, 8, .inl (fun _ => 0))), ((r6038 3), .inl (e6039, 8, .inl (fun _ => 0))), ((r6038 4), .inl (e6039, 8, .inl (fun _ => 0))), ((r6038 5), .inl (e6039, 8, .inl (fun _ => 0))), (q6015, .inl (e6040, 6, .inl (fun _ => 0)))]) rfl (by decide) (by decide) (cells' := 271) (slots' := 91330) (by decide) (by decide) (k_runV (rest := [.int (-1)]) C aks Wd cs_L_72 (kcX12_item l D q6104 q6106 q6107 q6108 q6109 q6110 q6111 q6112 q6113 q6114 q6115 q6116 q6117 q6118 q6119 q6120 q6121 q6122 q6123 q6124 q6125 q6126 q6127 q6128 q6129 q6130 y1 y2 e6150 e6151 _ ) [10, 12, 11] rfl (by decide) [3, 4] rfl 10 12 rfl rfl rfl rfl rfl ⟨(Nat.le_of_ble_eq_true rfl), (Nat.le_of_ble_eq_true rfl)⟩ hl.1 rfl rfl (Nat.le_of_ble_eq_true rfl) ⟨(Nat.le_of_ble_eq_true rfl), (Nat.le_of_ble_eq_true rfl)⟩ dL_law_575) (fun r _ H locs w9686 Wd => ?_)
      have Wd : wX D [(e6039, .int), (e6037, .array .int), (e6040, .int), (e6150, .int), (e6151, .int)] s [(q5961, .inr (11, [.ref q5963, .int 0, .ref q5964, .ref q5965, .ref q5966, .ref q5967, .ref q5968, .ref q5969])), (q5968, .inr (4, [.ref q6010, .ref q6011, .ref q6012, .int (-1), .int (-1), .ref q6013, .ref q6014, .ref q6015, .ref q6016, .ref q6017])), (q6014, .inl (e6037, 6, .inr (.inr (.inr (.inr (fun i => if i < 6 then some (r6038 i) else none)))))), ((r6038 0), .inl (e6039, 8, .inl (fun _ => 0))), ((r6038 1), .inl (e6039, 8, .inl (fun _ => 0))), ((r6038 2), .inl (e6039, 8, .inl (fun _ => 0))), ((r6038 3), .inl (e6039, 8, .inl (fun _ => 0))), ((r6038 4), .inl (e6039, 8, .inl (fun _ => 0))), ((r6038 5), .inl (e6039, 8, .inl (fun _ => 0))), (q6015, .inl (e6040, 6, .inl (fun _ => 0)))] _ A s.heap _ := Wd
      rcases w9686 with ⟨c9687, rfl⟩ | ⟨c9688, c9689, rfl⟩ | ⟨c9690, c9691, c9692, c9693, rfl⟩ | ⟨c9694, c9695, c9696, c9697, c9698, rfl⟩ | ⟨c9699, c9700, c9701, c9702, c9703, c9704, rfl⟩ | ⟨c9705, c9706, c9707, c9708, c9709, c9710, c9711, rfl⟩ | ⟨c9712, c9713, c9714, c9715, c9716, c9717, c9718, c9719, rfl⟩ | ⟨c9720, c9721, c9722, c9723, c9724, c9725, c9726, c9727, c9728, rfl⟩ | ⟨c9729, c9730, c9731, c9732, c9733, c9734, c9735, c9736, c9737, c9738, rfl⟩ | ⟨c9739, c9740, c9741, c9742, c9743, c9744, c9745, c9746, c9747, c9748, c9749, rfl⟩ | ⟨c9750, c9751, c9752, c9753, c9754, c9755, c9756, c9757, c9758, c9759, c9760, c9761, rfl⟩
      · refine lv_icmp_eq (tgt := 801) C.1 C.2.1 dL_law_578 (by decide) (fun _ => ?_) (fun c9762 => absurd c9762 (by decide))
        exact tail _ _ _ (k_sub Wd [] rfl (by decide) [] rfl) (lv_sub hl [0, 3] rfl)
      · exact absurd c9674 c9688
      · exact absurd c9674 c9690
      · exact absurd c9674 c9694
      · exact absurd c9674 c9699
      · exact absurd c9674 c9705
      · exact absurd c9674 c9712
      · exact absurd c9674 c9720
      · exact absurd c9674 c9729
      · exact absurd c9674 c9739
      · exact absurd c9674 c9750
    · refine lv_aload_n C.1 C.2.1 dL_law_564 rfl (lv_at hl 1 rfl) ?_
      refine lv_aload_n C.1 C.2.1 dL_law_565 rfl (lv_at hl 3 rfl) ?_
      refine lv_iload_n C.1 C.2.1 dL_law_566 rfl (lv_at hl 0 rfl) ?_
      refine lv_iconst (v := 1) C.1 C.2.1 dL_law_567 (by decide) ?_
      refine k_iadd (v := 1) C (by decide) dL_law_568 ?_
      refine k_sld (v := y1) C hX hbl hbA Wd (vp_in_iff.mpr (by decide)) hy1 dL_law_569 ?_
      refine lv_aload_n C.1 C.2.1 dL_law_570 rfl (lv_at hl 3 rfl) ?_
      refine lv_iload_n C.1 C.2.1 dL_law_571 rfl (lv_at hl 0 rfl) ?_
      refine lv_iconst (v := 2) C.1 C.2.1 dL_law_572 (by decide) ?_
      refine k_iadd (v := 2) C (by decide) dL_law_573 ?_
      refine k_sld (v := y2) C hX hbl hbA Wd (vp_in_iff.mpr (by decide)) hy2 dL_law_574 ?_
      refine k_ci Wd [10, 12, 11] [0, 1, 2, 3, 4, 5, 6, 7, 8, 9] rfl (wr := [(q5961, .inr (11, [.ref q5963, .int 0, .ref q5964, .ref q5965, .ref q5966, .ref q5967, .ref q5968, .ref q5969])), (q5968, .inr (4, [.ref q6010, .ref q6011, .ref q6012, .int (-1), .int (-1), .ref q6013, .ref q6014, .ref q6015, .ref q6016, .ref q6017])), (q6014, .inl (e6037, 6, .inr (.inr (.inr (.inr (fun i => if i < 6 then some (r6038 i) else none)))))), ((r6038 0), .inl (e6039, 8, .inl (fun _ => 0))), ((r6038 1), .inl (e6039, 8, .inl (fun _ => 0))), ((r6038 2), .inl (e6039, 8, .inl (fun _ => 0))), ((r6038 3), .inl (e6039, 8, .inl (fun _ => 0))), ((r6038 4), .inl (e6039, 8, .inl (fun _ => 0))), ((r6038 5), .inl (e6039, 8, .inl (fun _ => 0))), (q6015, .inl (e6040, 6, .inl (fun _ => 0)))]) rfl (by decide) (by decide) (cells' := 271) (slots' := 91330) (by decide) (by decide) (k_runV (rest := [.int (-1)]) C aks Wd cs_L_72 (kcX12_item l D q6104 q6106 q6107 q6108 q6109 q6110 q6111 q6112 q6113 q6114 q6115 q6116 q6117 q6118 q6119 q6120 q6121 q6122 q6123 q6124 q6125 q6126 q6127 q6128 q6129 q6130 y1 y2 e6150 e6151 _ ) [10, 12, 11] rfl (by decide) [3, 4] rfl 10 12 rfl rfl rfl rfl rfl ⟨(Nat.le_of_ble_eq_true rfl), (Nat.le_of_ble_eq_true rfl)⟩ hl.1 rfl rfl (Nat.le_of_ble_eq_true rfl) ⟨(Nat.le_of_ble_eq_true rfl), (Nat.le_of_ble_eq_true rfl)⟩ dL_law_575) (fun r _ H locs w9763 Wd => ?_)
      have Wd : wX D [(e6039, .int), (e6037, .array .int), (e6040, .int), (e6150, .int), (e6151, .int)] s [(q5961, .inr (11, [.ref q5963, .int 0, .ref q5964, .ref q5965, .ref q5966, .ref q5967, .ref q5968, .ref q5969])), (q5968, .inr (4, [.ref q6010, .ref q6011, .ref q6012, .int (-1), .int (-1), .ref q6013, .ref q6014, .ref q6015, .ref q6016, .ref q6017])), (q6014, .inl (e6037, 6, .inr (.inr (.inr (.inr (fun i => if i < 6 then some (r6038 i) else none)))))), ((r6038 0), .inl (e6039, 8, .inl (fun _ => 0))), ((r6038 1), .inl (e6039, 8, .inl (fun _ => 0))), ((r6038 2), .inl (e6039, 8, .inl (fun _ => 0))), ((r6038 3), .inl (e6039, 8, .inl (fun _ => 0))), ((r6038 4), .inl (e6039, 8, .inl (fun _ => 0))), ((r6038 5), .inl (e6039, 8, .inl (fun _ => 0))), (q6015, .inl (e6040, 6, .inl (fun _ => 0)))] _ A s.heap _ := Wd
      rcases w9763 with ⟨c9764, rfl⟩ | ⟨c9765, c9766, rfl⟩ | ⟨c9767, c9768, c9769, c9770, rfl⟩ | ⟨c9771, c9772, c9773, c9774, c9775, rfl⟩ | ⟨c9776, c9777, c9778, c9779, c9780, c9781, rfl⟩ | ⟨c9782, c9783, c9784, c9785, c9786, c9787, c9788, rfl⟩ | ⟨c9789, c9790, c9791, c9792, c9793, c9794, c9795, c9796, rfl⟩ | ⟨c9797, c9798, c9799, c9800, c9801, c9802, c9803, c9804, c9805, rfl⟩ | ⟨c9806, c9807, c9808, c9809, c9810, c9811, c9812, c9813, c9814, c9815, rfl⟩ | ⟨c9816, c9817, c9818, c9819, c9820, c9821, c9822, c9823, c9824, c9825, c9826, rfl⟩ | ⟨c9827, c9828, c9829, c9830, c9831, c9832, c9833, c9834, c9835, c9836, c9837, c9838, rfl⟩
      · refine lv_icmp_eq (tgt := 801) C.1 C.2.1 dL_law_578 (by decide) (fun _ => ?_) (fun c9839 => absurd c9839 (by decide))
        exact tail _ _ _ (k_sub Wd [] rfl (by decide) [] rfl) (lv_sub hl [0, 3] rfl)
      · exact absurd c9674 c9765
      · exact absurd c9674 c9767
      · exact absurd c9674 c9771
      · exact absurd c9674 c9776
      · exact absurd c9674 c9782
      · exact absurd c9674 c9789
      · exact absurd c9674 c9797
      · exact absurd c9674 c9806
      · exact absurd c9674 c9816
      · exact absurd c9674 c9827
    · refine lv_aload_n C.1 C.2.1 dL_law_564 rfl (lv_at hl 1 rfl) ?_
      refine lv_aload_n C.1 C.2.1 dL_law_565 rfl (lv_at hl 3 rfl) ?_
      refine lv_iload_n C.1 C.2.1 dL_law_566 rfl (lv_at hl 0 rfl) ?_
      refine lv_iconst (v := 1) C.1 C.2.1 dL_law_567 (by decide) ?_
      refine k_iadd (v := 1) C (by decide) dL_law_568 ?_
      refine k_sld (v := y1) C hX hbl hbA Wd (vp_in_iff.mpr (by decide)) hy1 dL_law_569 ?_
      refine lv_aload_n C.1 C.2.1 dL_law_570 rfl (lv_at hl 3 rfl) ?_
      refine lv_iload_n C.1 C.2.1 dL_law_571 rfl (lv_at hl 0 rfl) ?_
      refine lv_iconst (v := 2) C.1 C.2.1 dL_law_572 (by decide) ?_
      refine k_iadd (v := 2) C (by decide) dL_law_573 ?_
      refine k_sld (v := y2) C hX hbl hbA Wd (vp_in_iff.mpr (by decide)) hy2 dL_law_574 ?_
      refine k_ci Wd [10, 12, 11] [0, 1, 2, 3, 4, 5, 6, 7, 8, 9] rfl (wr := [(q5961, .inr (11, [.ref q5963, .int 0, .ref q5964, .ref q5965, .ref q5966, .ref q5967, .ref q5968, .ref q5969])), (q5968, .inr (4, [.ref q6010, .ref q6011, .ref q6012, .int (-1), .int (-1), .ref q6013, .ref q6014, .ref q6015, .ref q6016, .ref q6017])), (q6014, .inl (e6037, 6, .inr (.inr (.inr (.inr (fun i => if i < 6 then some (r6038 i) else none)))))), ((r6038 0), .inl (e6039, 8, .inl (fun _ => 0))), ((r6038 1), .inl (e6039, 8, .inl (fun _ => 0))), ((r6038 2), .inl (e6039, 8, .inl (fun _ => 0))), ((r6038 3), .inl (e6039, 8, .inl (fun _ => 0))), ((r6038 4), .inl (e6039, 8, .inl (fun _ => 0))), ((r6038 5), .inl (e6039, 8, .inl (fun _ => 0))), (q6015, .inl (e6040, 6, .inl (fun _ => 0)))]) rfl (by decide) (by decide) (cells' := 271) (slots' := 91330) (by decide) (by decide) (k_runV (rest := [.int (-1)]) C aks Wd cs_L_72 (kcX12_item l D q6104 q6106 q6107 q6108 q6109 q6110 q6111 q6112 q6113 q6114 q6115 q6116 q6117 q6118 q6119 q6120 q6121 q6122 q6123 q6124 q6125 q6126 q6127 q6128 q6129 q6130 y1 y2 e6150 e6151 _ ) [10, 12, 11] rfl (by decide) [3, 4] rfl 10 12 rfl rfl rfl rfl rfl ⟨(Nat.le_of_ble_eq_true rfl), (Nat.le_of_ble_eq_true rfl)⟩ hl.1 rfl rfl (Nat.le_of_ble_eq_true rfl) ⟨(Nat.le_of_ble_eq_true rfl), (Nat.le_of_ble_eq_true rfl)⟩ dL_law_575) (fun r _ H locs w9840 Wd => ?_)
      have Wd : wX D [(e6039, .int), (e6037, .array .int), (e6040, .int), (e6150, .int), (e6151, .int)] s [(q5961, .inr (11, [.ref q5963, .int 0, .ref q5964, .ref q5965, .ref q5966, .ref q5967, .ref q5968, .ref q5969])), (q5968, .inr (4, [.ref q6010, .ref q6011, .ref q6012, .int (-1), .int (-1), .ref q6013, .ref q6014, .ref q6015, .ref q6016, .ref q6017])), (q6014, .inl (e6037, 6, .inr (.inr (.inr (.inr (fun i => if i < 6 then some (r6038 i) else none)))))), ((r6038 0), .inl (e6039, 8, .inl (fun _ => 0))), ((r6038 1), .inl (e6039, 8, .inl (fun _ => 0))), ((r6038 2), .inl (e6039, 8, .inl (fun _ => 0))), ((r6038 3), .inl (e6039, 8, .inl (fun _ => 0))), ((r6038 4), .inl (e6039, 8, .inl (fun _ => 0))), ((r6038 5), .inl (e6039, 8, .inl (fun _ => 0))), (q6015, .inl (e6040, 6, .inl (fun _ => 0)))] _ A s.heap _ := Wd
      rcases w9840 with ⟨c9841, rfl⟩ | ⟨c9842, c9843, rfl⟩ | ⟨c9844, c9845, c9846, c9847, rfl⟩ | ⟨c9848, c9849, c9850, c9851, c9852, rfl⟩ | ⟨c9853, c9854, c9855, c9856, c9857, c9858, rfl⟩ | ⟨c9859, c9860, c9861, c9862, c9863, c9864, c9865, rfl⟩ | ⟨c9866, c9867, c9868, c9869, c9870, c9871, c9872, c9873, rfl⟩ | ⟨c9874, c9875, c9876, c9877, c9878, c9879, c9880, c9881, c9882, rfl⟩ | ⟨c9883, c9884, c9885, c9886, c9887, c9888, c9889, c9890, c9891, c9892, rfl⟩ | ⟨c9893, c9894, c9895, c9896, c9897, c9898, c9899, c9900, c9901, c9902, c9903, rfl⟩ | ⟨c9904, c9905, c9906, c9907, c9908, c9909, c9910, c9911, c9912, c9913, c9914, c9915, rfl⟩
      · refine lv_icmp_eq (tgt := 801) C.1 C.2.1 dL_law_578 (by decide) (fun _ => ?_) (fun c9916 => absurd c9916 (by decide))
        exact tail _ _ _ (k_sub Wd [] rfl (by decide) [] rfl) (lv_sub hl [0, 3] rfl)
      · exact absurd c9674 c9842
      · exact absurd c9674 c9844
      · exact absurd c9674 c9848
      · exact absurd c9674 c9853
      · exact absurd c9674 c9859
      · exact absurd c9674 c9866
      · exact absurd c9674 c9874
      · exact absurd c9674 c9883
      · exact absurd c9674 c9893
      · exact absurd c9674 c9904
    · refine lv_aload_n C.1 C.2.1 dL_law_564 rfl (lv_at hl 1 rfl) ?_
      refine lv_aload_n C.1 C.2.1 dL_law_565 rfl (lv_at hl 3 rfl) ?_
      refine lv_iload_n C.1 C.2.1 dL_law_566 rfl (lv_at hl 0 rfl) ?_
      refine lv_iconst (v := 1) C.1 C.2.1 dL_law_567 (by decide) ?_
      refine k_iadd (v := 1) C (by decide) dL_law_568 ?_
      refine k_sld (v := y1) C hX hbl hbA Wd (vp_in_iff.mpr (by decide)) hy1 dL_law_569 ?_
      refine lv_aload_n C.1 C.2.1 dL_law_570 rfl (lv_at hl 3 rfl) ?_
      refine lv_iload_n C.1 C.2.1 dL_law_571 rfl (lv_at hl 0 rfl) ?_
      refine lv_iconst (v := 2) C.1 C.2.1 dL_law_572 (by decide) ?_
      refine k_iadd (v := 2) C (by decide) dL_law_573 ?_
      refine k_sld (v := y2) C hX hbl hbA Wd (vp_in_iff.mpr (by decide)) hy2 dL_law_574 ?_
      refine k_ci Wd [10, 12, 11] [0, 1, 2, 3, 4, 5, 6, 7, 8, 9] rfl (wr := [(q5961, .inr (11, [.ref q5963, .int 0, .ref q5964, .ref q5965, .ref q5966, .ref q5967, .ref q5968, .ref q5969])), (q5968, .inr (4, [.ref q6010, .ref q6011, .ref q6012, .int (-1), .int (-1), .ref q6013, .ref q6014, .ref q6015, .ref q6016, .ref q6017])), (q6014, .inl (e6037, 6, .inr (.inr (.inr (.inr (fun i => if i < 6 then some (r6038 i) else none)))))), ((r6038 0), .inl (e6039, 8, .inl (fun _ => 0))), ((r6038 1), .inl (e6039, 8, .inl (fun _ => 0))), ((r6038 2), .inl (e6039, 8, .inl (fun _ => 0))), ((r6038 3), .inl (e6039, 8, .inl (fun _ => 0))), ((r6038 4), .inl (e6039, 8, .inl (fun _ => 0))), ((r6038 5), .inl (e6039, 8, .inl (fun _ => 0))), (q6015, .inl (e6040, 6, .inl (fun _ => 0)))]) rfl (by decide) (by decide) (cells' := 271) (slots' := 91330) (by decide) (by decide) (k_runV (rest := [.int (-1)]) C aks Wd cs_L_72 (kcX12_item l D q6104 q6106 q6107 q6108 q6109 q6110 q6111 q6112 q6113 q6114 q6115 q6116 q6117 q6118 q6119 q6120 q6121 q6122 q6123 q6124 q6125 q6126 q6127 q6128 q6129 q6130 y1 y2 e6150 e6151 _ ) [10, 12, 11] rfl (by decide) [3, 4] rfl 10 12 rfl rfl rfl rfl rfl ⟨(Nat.le_of_ble_eq_true rfl), (Nat.le_of_ble_eq_true rfl)⟩ hl.1 rfl rfl (Nat.le_of_ble_eq_true rfl) ⟨(Nat.le_of_ble_eq_true rfl), (Nat.le_of_ble_eq_true rfl)⟩ dL_law_575) (fun r _ H locs w9917 Wd => ?_)
      have Wd : wX D [(e6039, .int), (e6037, .array .int), (e6040, .int), (e6150, .int), (e6151, .int)] s [(q5961, .inr (11, [.ref q5963, .int 0, .ref q5964, .ref q5965, .ref q5966, .ref q5967, .ref q5968, .ref q5969])), (q5968, .inr (4, [.ref q6010, .ref q6011, .ref q6012, .int (-1), .int (-1), .ref q6013, .ref q6014, .ref q6015, .ref q6016, .ref q6017])), (q6014, .inl (e6037, 6, .inr (.inr (.inr (.inr (fun i => if i < 6 then some (r6038 i) else none)))))), ((r6038 0), .inl (e6039, 8, .inl (fun _ => 0))), ((r6038 1), .inl (e6039, 8, .inl (fun _ => 0))), ((r6038 2), .inl (e6039, 8, .inl (fun _ => 0))), ((r6038 3), .inl (e6039, 8, .inl (fun _ => 0))), ((r6038 4), .inl (e6039, 8, .inl (fun _ => 0))), ((r6038 5), .inl (e6039, 8, .inl (fun _ => 0))), (q6015, .inl (e6040, 6, .inl (fun _ => 0)))] _ A s.heap _ := Wd
      rcases w9917 with ⟨c9918, rfl⟩ | ⟨c9919, c9920, rfl⟩ | ⟨c9921, c9922, c9923, c9924, rfl⟩ | ⟨c9925, c9926, c9927, c9928, c9929, rfl⟩ | ⟨c9930, c9931, c9932, c9933, c9934, c9935, rfl⟩ | ⟨c9936, c9937, c9938, c9939, c9940, c9941, c9942, rfl⟩ | ⟨c9943, c9944, c9945, c9946, c9947, c9948, c9949, c9950, rfl⟩ | ⟨c9951, c9952, c9953, c9954, c9955, c9956, c9957, c9958, c9959, rfl⟩ | ⟨c9960, c9961, c9962, c9963, c9964, c9965, c9966, c9967, c9968, c9969, rfl⟩ | ⟨c9970, c9971, c9972, c9973, c9974, c9975, c9976, c9977, c9978, c9979, c9980, rfl⟩ | ⟨c9981, c9982, c9983, c9984, c9985, c9986, c9987, c9988, c9989, c9990, c9991, c9992, rfl⟩
      · refine lv_icmp_eq (tgt := 801) C.1 C.2.1 dL_law_578 (by decide) (fun _ => ?_) (fun c9993 => absurd c9993 (by decide))
        exact tail _ _ _ (k_sub Wd [] rfl (by decide) [] rfl) (lv_sub hl [0, 3] rfl)
      · exact absurd c9674 c9919
      · exact absurd c9674 c9921
      · exact absurd c9674 c9925
      · exact absurd c9674 c9930
      · exact absurd c9674 c9936
      · exact absurd c9674 c9943
      · exact absurd c9674 c9951
      · exact absurd c9674 c9960
      · exact absurd c9674 c9970
      · exact absurd c9674 c9981
  by_cases c9994 : y1 < 6
  · have hsel : ∃ (q9995 : Nat), (fun i => if i < 6 then some (r6038 i) else none) y1.toNatClampNeg = some q9995 ∧ wX D [(e6039, .int), (e6037, .array .int), (e6040, .int), (e6150, .int), (e6151, .int)] s [(q5961, .inr (11, [.ref q5963, .int 0, .ref q5964, .ref q5965, .ref q5966, .ref q5967, .ref q5968, .ref q5969])), (q5968, .inr (4, [.ref q6010, .ref q6011, .ref q6012, .int (-1), .int (-1), .ref q6013, .ref q6014, .ref q6015, .ref q6016, .ref q6017])), (q6014, .inl (e6037, 6, .inr (.inr (.inr (.inr (fun i => if i < 6 then some (r6038 i) else none)))))), (q6015, .inl (e6040, 6, .inl (fun _ => 0))), (q6104, .inr (12, [.ref q6106, .ref q6107, .ref q6108, .ref q6109, .int 0, .int 0, .ref q6110, .int 0, .int 0, .int 0, .int 0, .int 0, .int 0, .int 0, .int 0, .int 0, .int 0, .int 0, .int 0, .int 0, .int (-1), .int 0, .int 0, .int 0, .ref q6111, .ref q6112, .ref q6113, .ref q6114, .ref q6115, .ref q6116, .int 0, .int 0, .int 0, .int 0, .ref q6117, .ref q6118, .ref q6119, .int 0, .int 0, .int 0, .int 0, .ref q6120, .ref q6121, .int 0, .ref q6122, .ref q6123, .int 0, .ref q6124, .int 0, .ref q6125, .ref q6126, .ref q6127, .int 0, .ref q6128, .ref q6129, .ref q6130])), (q6125, .inl (e6150, 48, .inl (fun _ => 0))), (q6126, .inl (e6151, 6, .inl (fun _ => 0))), (q9995, .inl (e6039, 8, .inl (fun _ => 0)))] H A s.heap locs := by
      rcases kf6 c9674 c9994 with rfl | rfl | rfl | rfl | rfl | rfl
      · exact ⟨(r6038 0), rfl, k_sub Wd [0, 1, 2, 9, 10, 11, 12, 3] rfl (by decide) [0, 1, 2, 3, 4] rfl⟩
      · exact ⟨(r6038 1), rfl, k_sub Wd [0, 1, 2, 9, 10, 11, 12, 4] rfl (by decide) [0, 1, 2, 3, 4] rfl⟩
      · exact ⟨(r6038 2), rfl, k_sub Wd [0, 1, 2, 9, 10, 11, 12, 5] rfl (by decide) [0, 1, 2, 3, 4] rfl⟩
      · exact ⟨(r6038 3), rfl, k_sub Wd [0, 1, 2, 9, 10, 11, 12, 6] rfl (by decide) [0, 1, 2, 3, 4] rfl⟩
      · exact ⟨(r6038 4), rfl, k_sub Wd [0, 1, 2, 9, 10, 11, 12, 7] rfl (by decide) [0, 1, 2, 3, 4] rfl⟩
      · exact ⟨(r6038 5), rfl, k_sub Wd [0, 1, 2, 9, 10, 11, 12, 8] rfl (by decide) [0, 1, 2, 3, 4] rfl⟩
    obtain ⟨q9995, hk9997, Wd⟩ := hsel
    refine lv_aload_n C.1 C.2.1 dL_law_550 rfl (lv_at hl 2 rfl) ?_
    refine lv_aload_n C.1 C.2.1 dL_law_551 rfl (lv_at hl 3 rfl) ?_
    refine lv_iload_n C.1 C.2.1 dL_law_552 rfl (lv_at hl 0 rfl) ?_
    refine lv_iconst (v := 1) C.1 C.2.1 dL_law_553 (by decide) ?_
    refine k_iadd (v := 1) C (by decide) dL_law_554 ?_
    refine k_sld (v := y1) C hX hbl hbA Wd (vp_in_iff.mpr (by decide)) hy1 dL_law_555 ?_
    refine lv_aload_n C.1 C.2.1 dL_law_556 rfl (lv_at hl 3 rfl) ?_
    refine lv_iload_n C.1 C.2.1 dL_law_557 rfl (lv_at hl 0 rfl) ?_
    refine lv_iconst (v := 2) C.1 C.2.1 dL_law_558 (by decide) ?_
    refine k_iadd (v := 2) C (by decide) dL_law_559 ?_
    refine k_sld (v := y2) C hX hbl hbA Wd (vp_in_iff.mpr (by decide)) hy2 dL_law_560 ?_
    refine k_ci Wd [0, 1, 3, 2, 7] [4, 5, 6] rfl (wr := [(q6104, .inr (12, [.ref q6106, .ref q6107, .ref q6108, .ref q6109, .int 0, .int 0, .ref q6110, .int 0, .int 0, .int 0, .int 0, .int 0, .int 0, .int 0, .int 0, .int 0, .int 0, .int 0, .int 0, .int 0, .int (-1), .int 0, .int 0, .int 0, .ref q6111, .ref q6112, .ref q6113, .ref q6114, .ref q6115, .ref q6116, .int 0, .int 0, .int 0, .int 0, .ref q6117, .ref q6118, .ref q6119, .int 0, .int 0, .int 0, .int 0, .ref q6120, .ref q6121, .int 0, .ref q6122, .ref q6123, .int 0, .ref q6124, .int 0, .ref q6125, .ref q6126, .ref q6127, .int 0, .ref q6128, .ref q6129, .ref q6130])), (q6125, .inl (e6150, 48, .inl (fun _ => 0))), (q6126, .inl (e6151, 6, .inl (fun _ => 0)))]) rfl (by decide) (by decide) (cells' := 271) (slots' := 91330) (by decide) (by decide) (k_runV (rest := []) C aks Wd cs_L_69 (kcX11_item_v2 l D q5961 q5963 q5964 q5965 q5966 q5967 q5968 q5969 q6010 q6011 q6012 q6013 q6014 q6015 q6016 q6017 q9995 y1 y2 (fun i => if i < 6 then some (r6038 i) else none) e6037 e6040 e6039 _ hk9997 c9674 c9994) [0, 1, 3, 2, 7] rfl (by decide) [1, 2, 0] rfl 0 11 rfl rfl rfl rfl rfl ⟨(Nat.le_of_ble_eq_true rfl), (Nat.le_of_ble_eq_true rfl)⟩ hl.1 rfl rfl (Nat.le_of_ble_eq_true rfl) ⟨(Nat.le_of_ble_eq_true rfl), (Nat.le_of_ble_eq_true rfl)⟩ dL_law_561) (fun r _ H locs w9998 Wd => ?_)
    have Wd : wX D [(e6039, .int), (e6037, .array .int), (e6040, .int), (e6150, .int), (e6151, .int)] s [(q6104, .inr (12, [.ref q6106, .ref q6107, .ref q6108, .ref q6109, .int 0, .int 0, .ref q6110, .int 0, .int 0, .int 0, .int 0, .int 0, .int 0, .int 0, .int 0, .int 0, .int 0, .int 0, .int 0, .int 0, .int (-1), .int 0, .int 0, .int 0, .ref q6111, .ref q6112, .ref q6113, .ref q6114, .ref q6115, .ref q6116, .int 0, .int 0, .int 0, .int 0, .ref q6117, .ref q6118, .ref q6119, .int 0, .int 0, .int 0, .int 0, .ref q6120, .ref q6121, .int 0, .ref q6122, .ref q6123, .int 0, .ref q6124, .int 0, .ref q6125, .ref q6126, .ref q6127, .int 0, .ref q6128, .ref q6129, .ref q6130])), (q6125, .inl (e6150, 48, .inl (fun _ => 0))), (q6126, .inl (e6151, 6, .inl (fun _ => 0)))] _ A s.heap _ := Wd
    rcases w9998 with ⟨c9999, rfl⟩ | ⟨c10000, c10001, rfl⟩ | ⟨c10002, c10003, c10004, rfl⟩ | ⟨c10005, c10006, c10007, c10008, c10009, rfl⟩
    · refine lv_aload_n C.1 C.2.1 dL_law_564 rfl (lv_at hl 1 rfl) ?_
      refine lv_aload_n C.1 C.2.1 dL_law_565 rfl (lv_at hl 3 rfl) ?_
      refine lv_iload_n C.1 C.2.1 dL_law_566 rfl (lv_at hl 0 rfl) ?_
      refine lv_iconst (v := 1) C.1 C.2.1 dL_law_567 (by decide) ?_
      refine k_iadd (v := 1) C (by decide) dL_law_568 ?_
      refine k_sld (v := y1) C hX hbl hbA Wd (vp_in_iff.mpr (by decide)) hy1 dL_law_569 ?_
      refine lv_aload_n C.1 C.2.1 dL_law_570 rfl (lv_at hl 3 rfl) ?_
      refine lv_iload_n C.1 C.2.1 dL_law_571 rfl (lv_at hl 0 rfl) ?_
      refine lv_iconst (v := 2) C.1 C.2.1 dL_law_572 (by decide) ?_
      refine k_iadd (v := 2) C (by decide) dL_law_573 ?_
      refine k_sld (v := y2) C hX hbl hbA Wd (vp_in_iff.mpr (by decide)) hy2 dL_law_574 ?_
      refine k_ci Wd [0, 2, 1] [] rfl (wr := []) rfl (by decide) (by decide) (cells' := 271) (slots' := 91330) (by decide) (by decide) (k_runV (rest := [.int (-1)]) C aks Wd cs_L_72 (kcX12_item l D q6104 q6106 q6107 q6108 q6109 q6110 q6111 q6112 q6113 q6114 q6115 q6116 q6117 q6118 q6119 q6120 q6121 q6122 q6123 q6124 q6125 q6126 q6127 q6128 q6129 q6130 y1 y2 e6150 e6151 _ ) [0, 2, 1] rfl (by decide) [3, 4] rfl 0 12 rfl rfl rfl rfl rfl ⟨(Nat.le_of_ble_eq_true rfl), (Nat.le_of_ble_eq_true rfl)⟩ hl.1 rfl rfl (Nat.le_of_ble_eq_true rfl) ⟨(Nat.le_of_ble_eq_true rfl), (Nat.le_of_ble_eq_true rfl)⟩ dL_law_575) (fun r _ H locs w10010 Wd => ?_)
      have Wd : wX D [(e6039, .int), (e6037, .array .int), (e6040, .int), (e6150, .int), (e6151, .int)] s [] _ A s.heap _ := Wd
      rcases w10010 with ⟨c10011, rfl⟩ | ⟨c10012, c10013, rfl⟩ | ⟨c10014, c10015, c10016, c10017, rfl⟩ | ⟨c10018, c10019, c10020, c10021, c10022, rfl⟩ | ⟨c10023, c10024, c10025, c10026, c10027, c10028, rfl⟩ | ⟨c10029, c10030, c10031, c10032, c10033, c10034, c10035, rfl⟩ | ⟨c10036, c10037, c10038, c10039, c10040, c10041, c10042, c10043, rfl⟩ | ⟨c10044, c10045, c10046, c10047, c10048, c10049, c10050, c10051, c10052, rfl⟩ | ⟨c10053, c10054, c10055, c10056, c10057, c10058, c10059, c10060, c10061, c10062, rfl⟩ | ⟨c10063, c10064, c10065, c10066, c10067, c10068, c10069, c10070, c10071, c10072, c10073, rfl⟩ | ⟨c10074, c10075, c10076, c10077, c10078, c10079, c10080, c10081, c10082, c10083, c10084, c10085, rfl⟩
      · exact absurd c10011 c9674
      · exact False.elim (by have z0 := kz_nlt c9674; have z1 := kz_lt c9994; have z2 := kz_nlt c10012; have z3 := kz_lt c10013; have t0 : (0 : Int32).toInt = 0 := (by decide); have t6 : (6 : Int32).toInt = 6 := (by decide); have t5 : (5 : Int32).toInt = 5 := (by decide); omega)
      · refine lv_icmp_eq (tgt := 801) C.1 C.2.1 dL_law_578 (by decide) (fun _ => ?_) (fun c10086 => absurd c10086 (by decide))
        exact tail _ _ _ (k_sub Wd [] rfl (by decide) [] rfl) (lv_sub hl [0, 3] rfl)
      · exact absurd c9999 c10020
      · exact absurd c9999 c10025
      · exact absurd c9999 c10031
      · exact absurd c9999 c10038
      · exact absurd c9999 c10046
      · exact absurd c9999 c10055
      · exact absurd c9999 c10065
      · exact absurd c9999 c10076
    · refine lv_aload_n C.1 C.2.1 dL_law_564 rfl (lv_at hl 1 rfl) ?_
      refine lv_aload_n C.1 C.2.1 dL_law_565 rfl (lv_at hl 3 rfl) ?_
      refine lv_iload_n C.1 C.2.1 dL_law_566 rfl (lv_at hl 0 rfl) ?_
      refine lv_iconst (v := 1) C.1 C.2.1 dL_law_567 (by decide) ?_
      refine k_iadd (v := 1) C (by decide) dL_law_568 ?_
      refine k_sld (v := y1) C hX hbl hbA Wd (vp_in_iff.mpr (by decide)) hy1 dL_law_569 ?_
      refine lv_aload_n C.1 C.2.1 dL_law_570 rfl (lv_at hl 3 rfl) ?_
      refine lv_iload_n C.1 C.2.1 dL_law_571 rfl (lv_at hl 0 rfl) ?_
      refine lv_iconst (v := 2) C.1 C.2.1 dL_law_572 (by decide) ?_
      refine k_iadd (v := 2) C (by decide) dL_law_573 ?_
      refine k_sld (v := y2) C hX hbl hbA Wd (vp_in_iff.mpr (by decide)) hy2 dL_law_574 ?_
      refine k_ci Wd [0, 2, 1] [] rfl (wr := []) rfl (by decide) (by decide) (cells' := 271) (slots' := 91330) (by decide) (by decide) (k_runV (rest := [.int (-1)]) C aks Wd cs_L_72 (kcX12_item l D q6104 q6106 q6107 q6108 q6109 q6110 q6111 q6112 q6113 q6114 q6115 q6116 q6117 q6118 q6119 q6120 q6121 q6122 q6123 q6124 q6125 q6126 q6127 q6128 q6129 q6130 y1 y2 e6150 e6151 _ ) [0, 2, 1] rfl (by decide) [3, 4] rfl 0 12 rfl rfl rfl rfl rfl ⟨(Nat.le_of_ble_eq_true rfl), (Nat.le_of_ble_eq_true rfl)⟩ hl.1 rfl rfl (Nat.le_of_ble_eq_true rfl) ⟨(Nat.le_of_ble_eq_true rfl), (Nat.le_of_ble_eq_true rfl)⟩ dL_law_575) (fun r _ H locs w10087 Wd => ?_)
      have Wd : wX D [(e6039, .int), (e6037, .array .int), (e6040, .int), (e6150, .int), (e6151, .int)] s [] _ A s.heap _ := Wd
      rcases w10087 with ⟨c10088, rfl⟩ | ⟨c10089, c10090, rfl⟩ | ⟨c10091, c10092, c10093, c10094, rfl⟩ | ⟨c10095, c10096, c10097, c10098, c10099, rfl⟩ | ⟨c10100, c10101, c10102, c10103, c10104, c10105, rfl⟩ | ⟨c10106, c10107, c10108, c10109, c10110, c10111, c10112, rfl⟩ | ⟨c10113, c10114, c10115, c10116, c10117, c10118, c10119, c10120, rfl⟩ | ⟨c10121, c10122, c10123, c10124, c10125, c10126, c10127, c10128, c10129, rfl⟩ | ⟨c10130, c10131, c10132, c10133, c10134, c10135, c10136, c10137, c10138, c10139, rfl⟩ | ⟨c10140, c10141, c10142, c10143, c10144, c10145, c10146, c10147, c10148, c10149, c10150, rfl⟩ | ⟨c10151, c10152, c10153, c10154, c10155, c10156, c10157, c10158, c10159, c10160, c10161, c10162, rfl⟩
      · exact absurd c10088 c9674
      · exact False.elim (by have z0 := kz_nlt c9674; have z1 := kz_lt c9994; have z2 := kz_nlt c10089; have z3 := kz_lt c10090; have t0 : (0 : Int32).toInt = 0 := (by decide); have t6 : (6 : Int32).toInt = 6 := (by decide); have t5 : (5 : Int32).toInt = 5 := (by decide); omega)
      · exact absurd c10093 c10000
      · refine lv_icmp_eq (tgt := 801) C.1 C.2.1 dL_law_578 (by decide) (fun _ => ?_) (fun c10163 => absurd c10163 (by decide))
        exact tail _ _ _ (k_sub Wd [] rfl (by decide) [] rfl) (lv_sub hl [0, 3] rfl)
      · exact absurd c10001 c10104
      · exact absurd c10001 c10110
      · exact absurd c10001 c10117
      · exact absurd c10001 c10125
      · exact absurd c10001 c10134
      · exact absurd c10001 c10144
      · exact absurd c10001 c10155
    · refine lv_aload_n C.1 C.2.1 dL_law_564 rfl (lv_at hl 1 rfl) ?_
      refine lv_aload_n C.1 C.2.1 dL_law_565 rfl (lv_at hl 3 rfl) ?_
      refine lv_iload_n C.1 C.2.1 dL_law_566 rfl (lv_at hl 0 rfl) ?_
      refine lv_iconst (v := 1) C.1 C.2.1 dL_law_567 (by decide) ?_
      refine k_iadd (v := 1) C (by decide) dL_law_568 ?_
      refine k_sld (v := y1) C hX hbl hbA Wd (vp_in_iff.mpr (by decide)) hy1 dL_law_569 ?_
      refine lv_aload_n C.1 C.2.1 dL_law_570 rfl (lv_at hl 3 rfl) ?_
      refine lv_iload_n C.1 C.2.1 dL_law_571 rfl (lv_at hl 0 rfl) ?_
      refine lv_iconst (v := 2) C.1 C.2.1 dL_law_572 (by decide) ?_
      refine k_iadd (v := 2) C (by decide) dL_law_573 ?_
      refine k_sld (v := y2) C hX hbl hbA Wd (vp_in_iff.mpr (by decide)) hy2 dL_law_574 ?_
      refine k_ci Wd [0, 2, 1] [] rfl (wr := []) rfl (by decide) (by decide) (cells' := 271) (slots' := 91330) (by decide) (by decide) (k_runV (rest := [.int (-1)]) C aks Wd cs_L_72 (kcX12_item l D q6104 q6106 q6107 q6108 q6109 q6110 q6111 q6112 q6113 q6114 q6115 q6116 q6117 q6118 q6119 q6120 q6121 q6122 q6123 q6124 q6125 q6126 q6127 q6128 q6129 q6130 y1 y2 e6150 e6151 _ ) [0, 2, 1] rfl (by decide) [3, 4] rfl 0 12 rfl rfl rfl rfl rfl ⟨(Nat.le_of_ble_eq_true rfl), (Nat.le_of_ble_eq_true rfl)⟩ hl.1 rfl rfl (Nat.le_of_ble_eq_true rfl) ⟨(Nat.le_of_ble_eq_true rfl), (Nat.le_of_ble_eq_true rfl)⟩ dL_law_575) (fun r _ H locs w10164 Wd => ?_)
      have Wd : wX D [(e6039, .int), (e6037, .array .int), (e6040, .int), (e6150, .int), (e6151, .int)] s [] _ A s.heap _ := Wd
      rcases w10164 with ⟨c10165, rfl⟩ | ⟨c10166, c10167, rfl⟩ | ⟨c10168, c10169, c10170, c10171, rfl⟩ | ⟨c10172, c10173, c10174, c10175, c10176, rfl⟩ | ⟨c10177, c10178, c10179, c10180, c10181, c10182, rfl⟩ | ⟨c10183, c10184, c10185, c10186, c10187, c10188, c10189, rfl⟩ | ⟨c10190, c10191, c10192, c10193, c10194, c10195, c10196, c10197, rfl⟩ | ⟨c10198, c10199, c10200, c10201, c10202, c10203, c10204, c10205, c10206, rfl⟩ | ⟨c10207, c10208, c10209, c10210, c10211, c10212, c10213, c10214, c10215, c10216, rfl⟩ | ⟨c10217, c10218, c10219, c10220, c10221, c10222, c10223, c10224, c10225, c10226, c10227, rfl⟩ | ⟨c10228, c10229, c10230, c10231, c10232, c10233, c10234, c10235, c10236, c10237, c10238, c10239, rfl⟩
      · exact absurd c10165 c9674
      · exact False.elim (by have z0 := kz_nlt c9674; have z1 := kz_lt c9994; have z2 := kz_nlt c10166; have z3 := kz_lt c10167; have t0 : (0 : Int32).toInt = 0 := (by decide); have t6 : (6 : Int32).toInt = 6 := (by decide); have t5 : (5 : Int32).toInt = 5 := (by decide); omega)
      · exact absurd c10170 c10002
      · exact absurd c10176 c10003
      · refine lv_icmp_eq (tgt := 801) C.1 C.2.1 dL_law_578 (by decide) (fun _ => ?_) (fun c10240 => absurd c10240 (by decide))
        exact tail _ _ _ (k_sub Wd [] rfl (by decide) [] rfl) (lv_sub hl [0, 3] rfl)
      · exact absurd c10004 c10188
      · exact absurd c10004 c10195
      · exact absurd c10004 c10203
      · exact absurd c10004 c10212
      · exact absurd c10004 c10222
      · exact absurd c10004 c10233
    · refine lv_aload_n C.1 C.2.1 dL_law_564 rfl (lv_at hl 1 rfl) ?_
      refine lv_aload_n C.1 C.2.1 dL_law_565 rfl (lv_at hl 3 rfl) ?_
      refine lv_iload_n C.1 C.2.1 dL_law_566 rfl (lv_at hl 0 rfl) ?_
      refine lv_iconst (v := 1) C.1 C.2.1 dL_law_567 (by decide) ?_
      refine k_iadd (v := 1) C (by decide) dL_law_568 ?_
      refine k_sld (v := y1) C hX hbl hbA Wd (vp_in_iff.mpr (by decide)) hy1 dL_law_569 ?_
      refine lv_aload_n C.1 C.2.1 dL_law_570 rfl (lv_at hl 3 rfl) ?_
      refine lv_iload_n C.1 C.2.1 dL_law_571 rfl (lv_at hl 0 rfl) ?_
      refine lv_iconst (v := 2) C.1 C.2.1 dL_law_572 (by decide) ?_
      refine k_iadd (v := 2) C (by decide) dL_law_573 ?_
      refine k_sld (v := y2) C hX hbl hbA Wd (vp_in_iff.mpr (by decide)) hy2 dL_law_574 ?_
      refine k_ci Wd [0, 2, 1] [] rfl (wr := []) rfl (by decide) (by decide) (cells' := 271) (slots' := 91330) (by decide) (by decide) (k_runV (rest := [.int 1]) C aks Wd cs_L_72 (kcX12_item l D q6104 q6106 q6107 q6108 q6109 q6110 q6111 q6112 q6113 q6114 q6115 q6116 q6117 q6118 q6119 q6120 q6121 q6122 q6123 q6124 q6125 q6126 q6127 q6128 q6129 q6130 y1 y2 e6150 e6151 _ ) [0, 2, 1] rfl (by decide) [3, 4] rfl 0 12 rfl rfl rfl rfl rfl ⟨(Nat.le_of_ble_eq_true rfl), (Nat.le_of_ble_eq_true rfl)⟩ hl.1 rfl rfl (Nat.le_of_ble_eq_true rfl) ⟨(Nat.le_of_ble_eq_true rfl), (Nat.le_of_ble_eq_true rfl)⟩ dL_law_575) (fun r _ H locs w10241 Wd => ?_)
      have Wd : wX D [(e6039, .int), (e6037, .array .int), (e6040, .int), (e6150, .int), (e6151, .int)] s [] _ A s.heap _ := Wd
      rcases w10241 with ⟨c10242, rfl⟩ | ⟨c10243, c10244, rfl⟩ | ⟨c10245, c10246, c10247, c10248, rfl⟩ | ⟨c10249, c10250, c10251, c10252, c10253, rfl⟩ | ⟨c10254, c10255, c10256, c10257, c10258, c10259, rfl⟩ | ⟨c10260, c10261, c10262, c10263, c10264, c10265, c10266, rfl⟩ | ⟨c10267, c10268, c10269, c10270, c10271, c10272, c10273, c10274, rfl⟩ | ⟨c10275, c10276, c10277, c10278, c10279, c10280, c10281, c10282, c10283, rfl⟩ | ⟨c10284, c10285, c10286, c10287, c10288, c10289, c10290, c10291, c10292, c10293, rfl⟩ | ⟨c10294, c10295, c10296, c10297, c10298, c10299, c10300, c10301, c10302, c10303, c10304, rfl⟩ | ⟨c10305, c10306, c10307, c10308, c10309, c10310, c10311, c10312, c10313, c10314, c10315, c10316, rfl⟩
      · exact absurd c10242 c9674
      · exact False.elim (by have z0 := kz_nlt c9674; have z1 := kz_lt c9994; have z2 := kz_nlt c10008; have z3 := kz_nle c10009; have z4 := kz_nlt c10243; have z5 := kz_lt c10244; have t0 : (0 : Int32).toInt = 0 := (by decide); have t6 : (6 : Int32).toInt = 6 := (by decide); have t5 : (5 : Int32).toInt = 5 := (by decide); omega)
      · exact absurd c10247 c10005
      · exact absurd c10253 c10006
      · exact absurd c10259 c10007
      · refine lv_icmp_eq (tgt := 801) C.1 C.2.1 dL_law_578 (by decide) (fun _ => ?_) (fun c10317 => absurd c10317 (by decide))
        exact tail _ _ _ (k_sub Wd [] rfl (by decide) [] rfl) (lv_sub hl [0, 3] rfl)
      · refine lv_icmp_eq (tgt := 801) C.1 C.2.1 dL_law_578 (by decide) (fun _ => ?_) (fun c10318 => absurd c10318 (by decide))
        exact tail _ _ _ (k_sub Wd [] rfl (by decide) [] rfl) (lv_sub hl [0, 3] rfl)
      · refine lv_icmp_eq (tgt := 801) C.1 C.2.1 dL_law_578 (by decide) (fun _ => ?_) (fun c10319 => absurd c10319 (by decide))
        exact tail _ _ _ (k_sub Wd [] rfl (by decide) [] rfl) (lv_sub hl [0, 3] rfl)
      · refine lv_icmp_eq (tgt := 801) C.1 C.2.1 dL_law_578 (by decide) (fun _ => ?_) (fun c10320 => absurd c10320 (by decide))
        exact tail _ _ _ (k_sub Wd [] rfl (by decide) [] rfl) (lv_sub hl [0, 3] rfl)
      · refine lv_icmp_eq (tgt := 801) C.1 C.2.1 dL_law_578 (by decide) (fun _ => ?_) (fun c10321 => absurd c10321 (by decide))
        exact tail _ _ _ (k_sub Wd [] rfl (by decide) [] rfl) (lv_sub hl [0, 3] rfl)
      · refine lv_icmp_eq (tgt := 801) C.1 C.2.1 dL_law_578 (by decide) (fun _ => ?_) (fun c10322 => absurd c10322 (by decide))
        exact tail _ _ _ (k_sub Wd [] rfl (by decide) [] rfl) (lv_sub hl [0, 3] rfl)
  refine lv_aload_n C.1 C.2.1 dL_law_550 rfl (lv_at hl 2 rfl) ?_
  refine lv_aload_n C.1 C.2.1 dL_law_551 rfl (lv_at hl 3 rfl) ?_
  refine lv_iload_n C.1 C.2.1 dL_law_552 rfl (lv_at hl 0 rfl) ?_
  refine lv_iconst (v := 1) C.1 C.2.1 dL_law_553 (by decide) ?_
  refine k_iadd (v := 1) C (by decide) dL_law_554 ?_
  refine k_sld (v := y1) C hX hbl hbA Wd (vp_in_iff.mpr (by decide)) hy1 dL_law_555 ?_
  refine lv_aload_n C.1 C.2.1 dL_law_556 rfl (lv_at hl 3 rfl) ?_
  refine lv_iload_n C.1 C.2.1 dL_law_557 rfl (lv_at hl 0 rfl) ?_
  refine lv_iconst (v := 2) C.1 C.2.1 dL_law_558 (by decide) ?_
  refine k_iadd (v := 2) C (by decide) dL_law_559 ?_
  refine k_sld (v := y2) C hX hbl hbA Wd (vp_in_iff.mpr (by decide)) hy2 dL_law_560 ?_
  refine k_pi (k_runV (rest := []) C aks Wd cs_L_69 (kcX11_item_v1 l D q5961 q5963 q5964 q5965 q5966 q5967 q5968 q5969 q6010 q6011 q6012 q6013 q6014 q6015 q6016 q6017 y1 y2 _ c9994) [0, 1] rfl (by decide) [] rfl 0 11 rfl rfl rfl rfl rfl ⟨(Nat.le_of_ble_eq_true rfl), (Nat.le_of_ble_eq_true rfl)⟩ hl.1 rfl rfl (Nat.le_of_ble_eq_true rfl) ⟨(Nat.le_of_ble_eq_true rfl), (Nat.le_of_ble_eq_true rfl)⟩ dL_law_561) (fun r w10323 => ?_)
  rcases w10323 with ⟨c10324, rfl⟩ | ⟨c10325, c10326, rfl⟩ | ⟨c10327, c10328, c10329, rfl⟩ | ⟨c10330, c10331, c10332, c10333, c10334, rfl⟩
  · refine lv_aload_n C.1 C.2.1 dL_law_564 rfl (lv_at hl 1 rfl) ?_
    refine lv_aload_n C.1 C.2.1 dL_law_565 rfl (lv_at hl 3 rfl) ?_
    refine lv_iload_n C.1 C.2.1 dL_law_566 rfl (lv_at hl 0 rfl) ?_
    refine lv_iconst (v := 1) C.1 C.2.1 dL_law_567 (by decide) ?_
    refine k_iadd (v := 1) C (by decide) dL_law_568 ?_
    refine k_sld (v := y1) C hX hbl hbA Wd (vp_in_iff.mpr (by decide)) hy1 dL_law_569 ?_
    refine lv_aload_n C.1 C.2.1 dL_law_570 rfl (lv_at hl 3 rfl) ?_
    refine lv_iload_n C.1 C.2.1 dL_law_571 rfl (lv_at hl 0 rfl) ?_
    refine lv_iconst (v := 2) C.1 C.2.1 dL_law_572 (by decide) ?_
    refine k_iadd (v := 2) C (by decide) dL_law_573 ?_
    refine k_sld (v := y2) C hX hbl hbA Wd (vp_in_iff.mpr (by decide)) hy2 dL_law_574 ?_
    refine k_ci Wd [10, 12, 11] [0, 1, 2, 3, 4, 5, 6, 7, 8, 9] rfl (wr := [(q5961, .inr (11, [.ref q5963, .int 0, .ref q5964, .ref q5965, .ref q5966, .ref q5967, .ref q5968, .ref q5969])), (q5968, .inr (4, [.ref q6010, .ref q6011, .ref q6012, .int (-1), .int (-1), .ref q6013, .ref q6014, .ref q6015, .ref q6016, .ref q6017])), (q6014, .inl (e6037, 6, .inr (.inr (.inr (.inr (fun i => if i < 6 then some (r6038 i) else none)))))), ((r6038 0), .inl (e6039, 8, .inl (fun _ => 0))), ((r6038 1), .inl (e6039, 8, .inl (fun _ => 0))), ((r6038 2), .inl (e6039, 8, .inl (fun _ => 0))), ((r6038 3), .inl (e6039, 8, .inl (fun _ => 0))), ((r6038 4), .inl (e6039, 8, .inl (fun _ => 0))), ((r6038 5), .inl (e6039, 8, .inl (fun _ => 0))), (q6015, .inl (e6040, 6, .inl (fun _ => 0)))]) rfl (by decide) (by decide) (cells' := 271) (slots' := 91330) (by decide) (by decide) (k_runV (rest := [.int (-1)]) C aks Wd cs_L_72 (kcX12_item l D q6104 q6106 q6107 q6108 q6109 q6110 q6111 q6112 q6113 q6114 q6115 q6116 q6117 q6118 q6119 q6120 q6121 q6122 q6123 q6124 q6125 q6126 q6127 q6128 q6129 q6130 y1 y2 e6150 e6151 _ ) [10, 12, 11] rfl (by decide) [3, 4] rfl 10 12 rfl rfl rfl rfl rfl ⟨(Nat.le_of_ble_eq_true rfl), (Nat.le_of_ble_eq_true rfl)⟩ hl.1 rfl rfl (Nat.le_of_ble_eq_true rfl) ⟨(Nat.le_of_ble_eq_true rfl), (Nat.le_of_ble_eq_true rfl)⟩ dL_law_575) (fun r _ H locs w10335 Wd => ?_)
    have Wd : wX D [(e6039, .int), (e6037, .array .int), (e6040, .int), (e6150, .int), (e6151, .int)] s [(q5961, .inr (11, [.ref q5963, .int 0, .ref q5964, .ref q5965, .ref q5966, .ref q5967, .ref q5968, .ref q5969])), (q5968, .inr (4, [.ref q6010, .ref q6011, .ref q6012, .int (-1), .int (-1), .ref q6013, .ref q6014, .ref q6015, .ref q6016, .ref q6017])), (q6014, .inl (e6037, 6, .inr (.inr (.inr (.inr (fun i => if i < 6 then some (r6038 i) else none)))))), ((r6038 0), .inl (e6039, 8, .inl (fun _ => 0))), ((r6038 1), .inl (e6039, 8, .inl (fun _ => 0))), ((r6038 2), .inl (e6039, 8, .inl (fun _ => 0))), ((r6038 3), .inl (e6039, 8, .inl (fun _ => 0))), ((r6038 4), .inl (e6039, 8, .inl (fun _ => 0))), ((r6038 5), .inl (e6039, 8, .inl (fun _ => 0))), (q6015, .inl (e6040, 6, .inl (fun _ => 0)))] _ A s.heap _ := Wd
    rcases w10335 with ⟨c10336, rfl⟩ | ⟨c10337, c10338, rfl⟩ | ⟨c10339, c10340, c10341, c10342, rfl⟩ | ⟨c10343, c10344, c10345, c10346, c10347, rfl⟩ | ⟨c10348, c10349, c10350, c10351, c10352, c10353, rfl⟩ | ⟨c10354, c10355, c10356, c10357, c10358, c10359, c10360, rfl⟩ | ⟨c10361, c10362, c10363, c10364, c10365, c10366, c10367, c10368, rfl⟩ | ⟨c10369, c10370, c10371, c10372, c10373, c10374, c10375, c10376, c10377, rfl⟩ | ⟨c10378, c10379, c10380, c10381, c10382, c10383, c10384, c10385, c10386, c10387, rfl⟩ | ⟨c10388, c10389, c10390, c10391, c10392, c10393, c10394, c10395, c10396, c10397, c10398, rfl⟩ | ⟨c10399, c10400, c10401, c10402, c10403, c10404, c10405, c10406, c10407, c10408, c10409, c10410, rfl⟩
    · exact absurd c10336 c9674
    · refine lv_icmp_eq (tgt := 801) C.1 C.2.1 dL_law_578 (by decide) (fun _ => ?_) (fun c10411 => absurd c10411 (by decide))
      exact tail _ _ _ (k_sub Wd [] rfl (by decide) [] rfl) (lv_sub hl [0, 3] rfl)
    · exact False.elim (by have z0 := kz_nlt c9674; have z1 := kz_nlt c9994; have z2 := kz_nlt c10339; have z3 := kz_nlt c10340; have t0 : (0 : Int32).toInt = 0 := (by decide); have t6 : (6 : Int32).toInt = 6 := (by decide); have t5 : (5 : Int32).toInt = 5 := (by decide); omega)
    · exact False.elim (by have z0 := kz_nlt c9674; have z1 := kz_nlt c9994; have z2 := kz_nlt c10343; have z3 := kz_nlt c10344; have t0 : (0 : Int32).toInt = 0 := (by decide); have t6 : (6 : Int32).toInt = 6 := (by decide); have t5 : (5 : Int32).toInt = 5 := (by decide); omega)
    · exact False.elim (by have z0 := kz_nlt c9674; have z1 := kz_nlt c9994; have z2 := kz_nlt c10348; have z3 := kz_nlt c10349; have t0 : (0 : Int32).toInt = 0 := (by decide); have t6 : (6 : Int32).toInt = 6 := (by decide); have t5 : (5 : Int32).toInt = 5 := (by decide); omega)
    · exact False.elim (by have z0 := kz_nlt c9674; have z1 := kz_nlt c9994; have z2 := kz_nlt c10354; have z3 := kz_nlt c10355; have t0 : (0 : Int32).toInt = 0 := (by decide); have t6 : (6 : Int32).toInt = 6 := (by decide); have t5 : (5 : Int32).toInt = 5 := (by decide); omega)
    · exact False.elim (by have z0 := kz_nlt c9674; have z1 := kz_nlt c9994; have z2 := kz_nlt c10361; have z3 := kz_nlt c10362; have t0 : (0 : Int32).toInt = 0 := (by decide); have t6 : (6 : Int32).toInt = 6 := (by decide); have t5 : (5 : Int32).toInt = 5 := (by decide); omega)
    · exact False.elim (by have z0 := kz_nlt c9674; have z1 := kz_nlt c9994; have z2 := kz_nlt c10369; have z3 := kz_nlt c10370; have t0 : (0 : Int32).toInt = 0 := (by decide); have t6 : (6 : Int32).toInt = 6 := (by decide); have t5 : (5 : Int32).toInt = 5 := (by decide); omega)
    · exact False.elim (by have z0 := kz_nlt c9674; have z1 := kz_nlt c9994; have z2 := kz_nlt c10378; have z3 := kz_nlt c10379; have t0 : (0 : Int32).toInt = 0 := (by decide); have t6 : (6 : Int32).toInt = 6 := (by decide); have t5 : (5 : Int32).toInt = 5 := (by decide); omega)
    · exact False.elim (by have z0 := kz_nlt c9674; have z1 := kz_nlt c9994; have z2 := kz_nlt c10388; have z3 := kz_nlt c10389; have t0 : (0 : Int32).toInt = 0 := (by decide); have t6 : (6 : Int32).toInt = 6 := (by decide); have t5 : (5 : Int32).toInt = 5 := (by decide); omega)
    · exact False.elim (by have z0 := kz_nlt c9674; have z1 := kz_nlt c9994; have z2 := kz_nlt c10399; have z3 := kz_nlt c10400; have t0 : (0 : Int32).toInt = 0 := (by decide); have t6 : (6 : Int32).toInt = 6 := (by decide); have t5 : (5 : Int32).toInt = 5 := (by decide); omega)
  · refine lv_aload_n C.1 C.2.1 dL_law_564 rfl (lv_at hl 1 rfl) ?_
    refine lv_aload_n C.1 C.2.1 dL_law_565 rfl (lv_at hl 3 rfl) ?_
    refine lv_iload_n C.1 C.2.1 dL_law_566 rfl (lv_at hl 0 rfl) ?_
    refine lv_iconst (v := 1) C.1 C.2.1 dL_law_567 (by decide) ?_
    refine k_iadd (v := 1) C (by decide) dL_law_568 ?_
    refine k_sld (v := y1) C hX hbl hbA Wd (vp_in_iff.mpr (by decide)) hy1 dL_law_569 ?_
    refine lv_aload_n C.1 C.2.1 dL_law_570 rfl (lv_at hl 3 rfl) ?_
    refine lv_iload_n C.1 C.2.1 dL_law_571 rfl (lv_at hl 0 rfl) ?_
    refine lv_iconst (v := 2) C.1 C.2.1 dL_law_572 (by decide) ?_
    refine k_iadd (v := 2) C (by decide) dL_law_573 ?_
    refine k_sld (v := y2) C hX hbl hbA Wd (vp_in_iff.mpr (by decide)) hy2 dL_law_574 ?_
    refine k_ci Wd [10, 12, 11] [0, 1, 2, 3, 4, 5, 6, 7, 8, 9] rfl (wr := [(q5961, .inr (11, [.ref q5963, .int 0, .ref q5964, .ref q5965, .ref q5966, .ref q5967, .ref q5968, .ref q5969])), (q5968, .inr (4, [.ref q6010, .ref q6011, .ref q6012, .int (-1), .int (-1), .ref q6013, .ref q6014, .ref q6015, .ref q6016, .ref q6017])), (q6014, .inl (e6037, 6, .inr (.inr (.inr (.inr (fun i => if i < 6 then some (r6038 i) else none)))))), ((r6038 0), .inl (e6039, 8, .inl (fun _ => 0))), ((r6038 1), .inl (e6039, 8, .inl (fun _ => 0))), ((r6038 2), .inl (e6039, 8, .inl (fun _ => 0))), ((r6038 3), .inl (e6039, 8, .inl (fun _ => 0))), ((r6038 4), .inl (e6039, 8, .inl (fun _ => 0))), ((r6038 5), .inl (e6039, 8, .inl (fun _ => 0))), (q6015, .inl (e6040, 6, .inl (fun _ => 0)))]) rfl (by decide) (by decide) (cells' := 271) (slots' := 91330) (by decide) (by decide) (k_runV (rest := [.int (-1)]) C aks Wd cs_L_72 (kcX12_item l D q6104 q6106 q6107 q6108 q6109 q6110 q6111 q6112 q6113 q6114 q6115 q6116 q6117 q6118 q6119 q6120 q6121 q6122 q6123 q6124 q6125 q6126 q6127 q6128 q6129 q6130 y1 y2 e6150 e6151 _ ) [10, 12, 11] rfl (by decide) [3, 4] rfl 10 12 rfl rfl rfl rfl rfl ⟨(Nat.le_of_ble_eq_true rfl), (Nat.le_of_ble_eq_true rfl)⟩ hl.1 rfl rfl (Nat.le_of_ble_eq_true rfl) ⟨(Nat.le_of_ble_eq_true rfl), (Nat.le_of_ble_eq_true rfl)⟩ dL_law_575) (fun r _ H locs w10412 Wd => ?_)
    have Wd : wX D [(e6039, .int), (e6037, .array .int), (e6040, .int), (e6150, .int), (e6151, .int)] s [(q5961, .inr (11, [.ref q5963, .int 0, .ref q5964, .ref q5965, .ref q5966, .ref q5967, .ref q5968, .ref q5969])), (q5968, .inr (4, [.ref q6010, .ref q6011, .ref q6012, .int (-1), .int (-1), .ref q6013, .ref q6014, .ref q6015, .ref q6016, .ref q6017])), (q6014, .inl (e6037, 6, .inr (.inr (.inr (.inr (fun i => if i < 6 then some (r6038 i) else none)))))), ((r6038 0), .inl (e6039, 8, .inl (fun _ => 0))), ((r6038 1), .inl (e6039, 8, .inl (fun _ => 0))), ((r6038 2), .inl (e6039, 8, .inl (fun _ => 0))), ((r6038 3), .inl (e6039, 8, .inl (fun _ => 0))), ((r6038 4), .inl (e6039, 8, .inl (fun _ => 0))), ((r6038 5), .inl (e6039, 8, .inl (fun _ => 0))), (q6015, .inl (e6040, 6, .inl (fun _ => 0)))] _ A s.heap _ := Wd
    rcases w10412 with ⟨c10413, rfl⟩ | ⟨c10414, c10415, rfl⟩ | ⟨c10416, c10417, c10418, c10419, rfl⟩ | ⟨c10420, c10421, c10422, c10423, c10424, rfl⟩ | ⟨c10425, c10426, c10427, c10428, c10429, c10430, rfl⟩ | ⟨c10431, c10432, c10433, c10434, c10435, c10436, c10437, rfl⟩ | ⟨c10438, c10439, c10440, c10441, c10442, c10443, c10444, c10445, rfl⟩ | ⟨c10446, c10447, c10448, c10449, c10450, c10451, c10452, c10453, c10454, rfl⟩ | ⟨c10455, c10456, c10457, c10458, c10459, c10460, c10461, c10462, c10463, c10464, rfl⟩ | ⟨c10465, c10466, c10467, c10468, c10469, c10470, c10471, c10472, c10473, c10474, c10475, rfl⟩ | ⟨c10476, c10477, c10478, c10479, c10480, c10481, c10482, c10483, c10484, c10485, c10486, c10487, rfl⟩
    · exact absurd c10413 c9674
    · refine lv_icmp_eq (tgt := 801) C.1 C.2.1 dL_law_578 (by decide) (fun _ => ?_) (fun c10488 => absurd c10488 (by decide))
      exact tail _ _ _ (k_sub Wd [] rfl (by decide) [] rfl) (lv_sub hl [0, 3] rfl)
    · exact False.elim (by have z0 := kz_nlt c9674; have z1 := kz_nlt c9994; have z2 := kz_nlt c10416; have z3 := kz_nlt c10417; have t0 : (0 : Int32).toInt = 0 := (by decide); have t6 : (6 : Int32).toInt = 6 := (by decide); have t5 : (5 : Int32).toInt = 5 := (by decide); omega)
    · exact False.elim (by have z0 := kz_nlt c9674; have z1 := kz_nlt c9994; have z2 := kz_nlt c10420; have z3 := kz_nlt c10421; have t0 : (0 : Int32).toInt = 0 := (by decide); have t6 : (6 : Int32).toInt = 6 := (by decide); have t5 : (5 : Int32).toInt = 5 := (by decide); omega)
    · exact False.elim (by have z0 := kz_nlt c9674; have z1 := kz_nlt c9994; have z2 := kz_nlt c10425; have z3 := kz_nlt c10426; have t0 : (0 : Int32).toInt = 0 := (by decide); have t6 : (6 : Int32).toInt = 6 := (by decide); have t5 : (5 : Int32).toInt = 5 := (by decide); omega)
    · exact False.elim (by have z0 := kz_nlt c9674; have z1 := kz_nlt c9994; have z2 := kz_nlt c10431; have z3 := kz_nlt c10432; have t0 : (0 : Int32).toInt = 0 := (by decide); have t6 : (6 : Int32).toInt = 6 := (by decide); have t5 : (5 : Int32).toInt = 5 := (by decide); omega)
    · exact False.elim (by have z0 := kz_nlt c9674; have z1 := kz_nlt c9994; have z2 := kz_nlt c10438; have z3 := kz_nlt c10439; have t0 : (0 : Int32).toInt = 0 := (by decide); have t6 : (6 : Int32).toInt = 6 := (by decide); have t5 : (5 : Int32).toInt = 5 := (by decide); omega)
    · exact False.elim (by have z0 := kz_nlt c9674; have z1 := kz_nlt c9994; have z2 := kz_nlt c10446; have z3 := kz_nlt c10447; have t0 : (0 : Int32).toInt = 0 := (by decide); have t6 : (6 : Int32).toInt = 6 := (by decide); have t5 : (5 : Int32).toInt = 5 := (by decide); omega)
    · exact False.elim (by have z0 := kz_nlt c9674; have z1 := kz_nlt c9994; have z2 := kz_nlt c10455; have z3 := kz_nlt c10456; have t0 : (0 : Int32).toInt = 0 := (by decide); have t6 : (6 : Int32).toInt = 6 := (by decide); have t5 : (5 : Int32).toInt = 5 := (by decide); omega)
    · exact False.elim (by have z0 := kz_nlt c9674; have z1 := kz_nlt c9994; have z2 := kz_nlt c10465; have z3 := kz_nlt c10466; have t0 : (0 : Int32).toInt = 0 := (by decide); have t6 : (6 : Int32).toInt = 6 := (by decide); have t5 : (5 : Int32).toInt = 5 := (by decide); omega)
    · exact False.elim (by have z0 := kz_nlt c9674; have z1 := kz_nlt c9994; have z2 := kz_nlt c10476; have z3 := kz_nlt c10477; have t0 : (0 : Int32).toInt = 0 := (by decide); have t6 : (6 : Int32).toInt = 6 := (by decide); have t5 : (5 : Int32).toInt = 5 := (by decide); omega)
  · refine lv_aload_n C.1 C.2.1 dL_law_564 rfl (lv_at hl 1 rfl) ?_
    refine lv_aload_n C.1 C.2.1 dL_law_565 rfl (lv_at hl 3 rfl) ?_
    refine lv_iload_n C.1 C.2.1 dL_law_566 rfl (lv_at hl 0 rfl) ?_
    refine lv_iconst (v := 1) C.1 C.2.1 dL_law_567 (by decide) ?_
    refine k_iadd (v := 1) C (by decide) dL_law_568 ?_
    refine k_sld (v := y1) C hX hbl hbA Wd (vp_in_iff.mpr (by decide)) hy1 dL_law_569 ?_
    refine lv_aload_n C.1 C.2.1 dL_law_570 rfl (lv_at hl 3 rfl) ?_
    refine lv_iload_n C.1 C.2.1 dL_law_571 rfl (lv_at hl 0 rfl) ?_
    refine lv_iconst (v := 2) C.1 C.2.1 dL_law_572 (by decide) ?_
    refine k_iadd (v := 2) C (by decide) dL_law_573 ?_
    refine k_sld (v := y2) C hX hbl hbA Wd (vp_in_iff.mpr (by decide)) hy2 dL_law_574 ?_
    refine k_ci Wd [10, 12, 11] [0, 1, 2, 3, 4, 5, 6, 7, 8, 9] rfl (wr := [(q5961, .inr (11, [.ref q5963, .int 0, .ref q5964, .ref q5965, .ref q5966, .ref q5967, .ref q5968, .ref q5969])), (q5968, .inr (4, [.ref q6010, .ref q6011, .ref q6012, .int (-1), .int (-1), .ref q6013, .ref q6014, .ref q6015, .ref q6016, .ref q6017])), (q6014, .inl (e6037, 6, .inr (.inr (.inr (.inr (fun i => if i < 6 then some (r6038 i) else none)))))), ((r6038 0), .inl (e6039, 8, .inl (fun _ => 0))), ((r6038 1), .inl (e6039, 8, .inl (fun _ => 0))), ((r6038 2), .inl (e6039, 8, .inl (fun _ => 0))), ((r6038 3), .inl (e6039, 8, .inl (fun _ => 0))), ((r6038 4), .inl (e6039, 8, .inl (fun _ => 0))), ((r6038 5), .inl (e6039, 8, .inl (fun _ => 0))), (q6015, .inl (e6040, 6, .inl (fun _ => 0)))]) rfl (by decide) (by decide) (cells' := 271) (slots' := 91330) (by decide) (by decide) (k_runV (rest := [.int (-1)]) C aks Wd cs_L_72 (kcX12_item l D q6104 q6106 q6107 q6108 q6109 q6110 q6111 q6112 q6113 q6114 q6115 q6116 q6117 q6118 q6119 q6120 q6121 q6122 q6123 q6124 q6125 q6126 q6127 q6128 q6129 q6130 y1 y2 e6150 e6151 _ ) [10, 12, 11] rfl (by decide) [3, 4] rfl 10 12 rfl rfl rfl rfl rfl ⟨(Nat.le_of_ble_eq_true rfl), (Nat.le_of_ble_eq_true rfl)⟩ hl.1 rfl rfl (Nat.le_of_ble_eq_true rfl) ⟨(Nat.le_of_ble_eq_true rfl), (Nat.le_of_ble_eq_true rfl)⟩ dL_law_575) (fun r _ H locs w10489 Wd => ?_)
    have Wd : wX D [(e6039, .int), (e6037, .array .int), (e6040, .int), (e6150, .int), (e6151, .int)] s [(q5961, .inr (11, [.ref q5963, .int 0, .ref q5964, .ref q5965, .ref q5966, .ref q5967, .ref q5968, .ref q5969])), (q5968, .inr (4, [.ref q6010, .ref q6011, .ref q6012, .int (-1), .int (-1), .ref q6013, .ref q6014, .ref q6015, .ref q6016, .ref q6017])), (q6014, .inl (e6037, 6, .inr (.inr (.inr (.inr (fun i => if i < 6 then some (r6038 i) else none)))))), ((r6038 0), .inl (e6039, 8, .inl (fun _ => 0))), ((r6038 1), .inl (e6039, 8, .inl (fun _ => 0))), ((r6038 2), .inl (e6039, 8, .inl (fun _ => 0))), ((r6038 3), .inl (e6039, 8, .inl (fun _ => 0))), ((r6038 4), .inl (e6039, 8, .inl (fun _ => 0))), ((r6038 5), .inl (e6039, 8, .inl (fun _ => 0))), (q6015, .inl (e6040, 6, .inl (fun _ => 0)))] _ A s.heap _ := Wd
    rcases w10489 with ⟨c10490, rfl⟩ | ⟨c10491, c10492, rfl⟩ | ⟨c10493, c10494, c10495, c10496, rfl⟩ | ⟨c10497, c10498, c10499, c10500, c10501, rfl⟩ | ⟨c10502, c10503, c10504, c10505, c10506, c10507, rfl⟩ | ⟨c10508, c10509, c10510, c10511, c10512, c10513, c10514, rfl⟩ | ⟨c10515, c10516, c10517, c10518, c10519, c10520, c10521, c10522, rfl⟩ | ⟨c10523, c10524, c10525, c10526, c10527, c10528, c10529, c10530, c10531, rfl⟩ | ⟨c10532, c10533, c10534, c10535, c10536, c10537, c10538, c10539, c10540, c10541, rfl⟩ | ⟨c10542, c10543, c10544, c10545, c10546, c10547, c10548, c10549, c10550, c10551, c10552, rfl⟩ | ⟨c10553, c10554, c10555, c10556, c10557, c10558, c10559, c10560, c10561, c10562, c10563, c10564, rfl⟩
    · exact absurd c10490 c9674
    · refine lv_icmp_eq (tgt := 801) C.1 C.2.1 dL_law_578 (by decide) (fun _ => ?_) (fun c10565 => absurd c10565 (by decide))
      exact tail _ _ _ (k_sub Wd [] rfl (by decide) [] rfl) (lv_sub hl [0, 3] rfl)
    · exact False.elim (by have z0 := kz_nlt c9674; have z1 := kz_nlt c9994; have z2 := kz_nlt c10493; have z3 := kz_nlt c10494; have t0 : (0 : Int32).toInt = 0 := (by decide); have t6 : (6 : Int32).toInt = 6 := (by decide); have t5 : (5 : Int32).toInt = 5 := (by decide); omega)
    · exact False.elim (by have z0 := kz_nlt c9674; have z1 := kz_nlt c9994; have z2 := kz_nlt c10497; have z3 := kz_nlt c10498; have t0 : (0 : Int32).toInt = 0 := (by decide); have t6 : (6 : Int32).toInt = 6 := (by decide); have t5 : (5 : Int32).toInt = 5 := (by decide); omega)
    · exact False.elim (by have z0 := kz_nlt c9674; have z1 := kz_nlt c9994; have z2 := kz_nlt c10502; have z3 := kz_nlt c10503; have t0 : (0 : Int32).toInt = 0 := (by decide); have t6 : (6 : Int32).toInt = 6 := (by decide); have t5 : (5 : Int32).toInt = 5 := (by decide); omega)
    · exact False.elim (by have z0 := kz_nlt c9674; have z1 := kz_nlt c9994; have z2 := kz_nlt c10508; have z3 := kz_nlt c10509; have t0 : (0 : Int32).toInt = 0 := (by decide); have t6 : (6 : Int32).toInt = 6 := (by decide); have t5 : (5 : Int32).toInt = 5 := (by decide); omega)
    · exact False.elim (by have z0 := kz_nlt c9674; have z1 := kz_nlt c9994; have z2 := kz_nlt c10515; have z3 := kz_nlt c10516; have t0 : (0 : Int32).toInt = 0 := (by decide); have t6 : (6 : Int32).toInt = 6 := (by decide); have t5 : (5 : Int32).toInt = 5 := (by decide); omega)
    · exact False.elim (by have z0 := kz_nlt c9674; have z1 := kz_nlt c9994; have z2 := kz_nlt c10523; have z3 := kz_nlt c10524; have t0 : (0 : Int32).toInt = 0 := (by decide); have t6 : (6 : Int32).toInt = 6 := (by decide); have t5 : (5 : Int32).toInt = 5 := (by decide); omega)
    · exact False.elim (by have z0 := kz_nlt c9674; have z1 := kz_nlt c9994; have z2 := kz_nlt c10532; have z3 := kz_nlt c10533; have t0 : (0 : Int32).toInt = 0 := (by decide); have t6 : (6 : Int32).toInt = 6 := (by decide); have t5 : (5 : Int32).toInt = 5 := (by decide); omega)
    · exact False.elim (by have z0 := kz_nlt c9674; have z1 := kz_nlt c9994; have z2 := kz_nlt c10542; have z3 := kz_nlt c10543; have t0 : (0 : Int32).toInt = 0 := (by decide); have t6 : (6 : Int32).toInt = 6 := (by decide); have t5 : (5 : Int32).toInt = 5 := (by decide); omega)
    · exact False.elim (by have z0 := kz_nlt c9674; have z1 := kz_nlt c9994; have z2 := kz_nlt c10553; have z3 := kz_nlt c10554; have t0 : (0 : Int32).toInt = 0 := (by decide); have t6 : (6 : Int32).toInt = 6 := (by decide); have t5 : (5 : Int32).toInt = 5 := (by decide); omega)
  · refine lv_aload_n C.1 C.2.1 dL_law_564 rfl (lv_at hl 1 rfl) ?_
    refine lv_aload_n C.1 C.2.1 dL_law_565 rfl (lv_at hl 3 rfl) ?_
    refine lv_iload_n C.1 C.2.1 dL_law_566 rfl (lv_at hl 0 rfl) ?_
    refine lv_iconst (v := 1) C.1 C.2.1 dL_law_567 (by decide) ?_
    refine k_iadd (v := 1) C (by decide) dL_law_568 ?_
    refine k_sld (v := y1) C hX hbl hbA Wd (vp_in_iff.mpr (by decide)) hy1 dL_law_569 ?_
    refine lv_aload_n C.1 C.2.1 dL_law_570 rfl (lv_at hl 3 rfl) ?_
    refine lv_iload_n C.1 C.2.1 dL_law_571 rfl (lv_at hl 0 rfl) ?_
    refine lv_iconst (v := 2) C.1 C.2.1 dL_law_572 (by decide) ?_
    refine k_iadd (v := 2) C (by decide) dL_law_573 ?_
    refine k_sld (v := y2) C hX hbl hbA Wd (vp_in_iff.mpr (by decide)) hy2 dL_law_574 ?_
    refine k_ci Wd [10, 12, 11] [0, 1, 2, 3, 4, 5, 6, 7, 8, 9] rfl (wr := [(q5961, .inr (11, [.ref q5963, .int 0, .ref q5964, .ref q5965, .ref q5966, .ref q5967, .ref q5968, .ref q5969])), (q5968, .inr (4, [.ref q6010, .ref q6011, .ref q6012, .int (-1), .int (-1), .ref q6013, .ref q6014, .ref q6015, .ref q6016, .ref q6017])), (q6014, .inl (e6037, 6, .inr (.inr (.inr (.inr (fun i => if i < 6 then some (r6038 i) else none)))))), ((r6038 0), .inl (e6039, 8, .inl (fun _ => 0))), ((r6038 1), .inl (e6039, 8, .inl (fun _ => 0))), ((r6038 2), .inl (e6039, 8, .inl (fun _ => 0))), ((r6038 3), .inl (e6039, 8, .inl (fun _ => 0))), ((r6038 4), .inl (e6039, 8, .inl (fun _ => 0))), ((r6038 5), .inl (e6039, 8, .inl (fun _ => 0))), (q6015, .inl (e6040, 6, .inl (fun _ => 0)))]) rfl (by decide) (by decide) (cells' := 271) (slots' := 91330) (by decide) (by decide) (k_runV (rest := [.int (-1)]) C aks Wd cs_L_72 (kcX12_item l D q6104 q6106 q6107 q6108 q6109 q6110 q6111 q6112 q6113 q6114 q6115 q6116 q6117 q6118 q6119 q6120 q6121 q6122 q6123 q6124 q6125 q6126 q6127 q6128 q6129 q6130 y1 y2 e6150 e6151 _ ) [10, 12, 11] rfl (by decide) [3, 4] rfl 10 12 rfl rfl rfl rfl rfl ⟨(Nat.le_of_ble_eq_true rfl), (Nat.le_of_ble_eq_true rfl)⟩ hl.1 rfl rfl (Nat.le_of_ble_eq_true rfl) ⟨(Nat.le_of_ble_eq_true rfl), (Nat.le_of_ble_eq_true rfl)⟩ dL_law_575) (fun r _ H locs w10566 Wd => ?_)
    have Wd : wX D [(e6039, .int), (e6037, .array .int), (e6040, .int), (e6150, .int), (e6151, .int)] s [(q5961, .inr (11, [.ref q5963, .int 0, .ref q5964, .ref q5965, .ref q5966, .ref q5967, .ref q5968, .ref q5969])), (q5968, .inr (4, [.ref q6010, .ref q6011, .ref q6012, .int (-1), .int (-1), .ref q6013, .ref q6014, .ref q6015, .ref q6016, .ref q6017])), (q6014, .inl (e6037, 6, .inr (.inr (.inr (.inr (fun i => if i < 6 then some (r6038 i) else none)))))), ((r6038 0), .inl (e6039, 8, .inl (fun _ => 0))), ((r6038 1), .inl (e6039, 8, .inl (fun _ => 0))), ((r6038 2), .inl (e6039, 8, .inl (fun _ => 0))), ((r6038 3), .inl (e6039, 8, .inl (fun _ => 0))), ((r6038 4), .inl (e6039, 8, .inl (fun _ => 0))), ((r6038 5), .inl (e6039, 8, .inl (fun _ => 0))), (q6015, .inl (e6040, 6, .inl (fun _ => 0)))] _ A s.heap _ := Wd
    rcases w10566 with ⟨c10567, rfl⟩ | ⟨c10568, c10569, rfl⟩ | ⟨c10570, c10571, c10572, c10573, rfl⟩ | ⟨c10574, c10575, c10576, c10577, c10578, rfl⟩ | ⟨c10579, c10580, c10581, c10582, c10583, c10584, rfl⟩ | ⟨c10585, c10586, c10587, c10588, c10589, c10590, c10591, rfl⟩ | ⟨c10592, c10593, c10594, c10595, c10596, c10597, c10598, c10599, rfl⟩ | ⟨c10600, c10601, c10602, c10603, c10604, c10605, c10606, c10607, c10608, rfl⟩ | ⟨c10609, c10610, c10611, c10612, c10613, c10614, c10615, c10616, c10617, c10618, rfl⟩ | ⟨c10619, c10620, c10621, c10622, c10623, c10624, c10625, c10626, c10627, c10628, c10629, rfl⟩ | ⟨c10630, c10631, c10632, c10633, c10634, c10635, c10636, c10637, c10638, c10639, c10640, c10641, rfl⟩
    · exact absurd c10567 c9674
    · refine lv_icmp_eq (tgt := 801) C.1 C.2.1 dL_law_578 (by decide) (fun _ => ?_) (fun c10642 => absurd c10642 (by decide))
      exact tail _ _ _ (k_sub Wd [] rfl (by decide) [] rfl) (lv_sub hl [0, 3] rfl)
    · exact False.elim (by have z0 := kz_nlt c9674; have z1 := kz_nlt c9994; have z2 := kz_nlt c10333; have z3 := kz_le c10334; have z4 := kz_nlt c10570; have z5 := kz_nlt c10571; have t0 : (0 : Int32).toInt = 0 := (by decide); have t6 : (6 : Int32).toInt = 6 := (by decide); have t5 : (5 : Int32).toInt = 5 := (by decide); omega)
    · exact False.elim (by have z0 := kz_nlt c9674; have z1 := kz_nlt c9994; have z2 := kz_nlt c10333; have z3 := kz_le c10334; have z4 := kz_nlt c10574; have z5 := kz_nlt c10575; have t0 : (0 : Int32).toInt = 0 := (by decide); have t6 : (6 : Int32).toInt = 6 := (by decide); have t5 : (5 : Int32).toInt = 5 := (by decide); omega)
    · exact False.elim (by have z0 := kz_nlt c9674; have z1 := kz_nlt c9994; have z2 := kz_nlt c10333; have z3 := kz_le c10334; have z4 := kz_nlt c10579; have z5 := kz_nlt c10580; have t0 : (0 : Int32).toInt = 0 := (by decide); have t6 : (6 : Int32).toInt = 6 := (by decide); have t5 : (5 : Int32).toInt = 5 := (by decide); omega)
    · exact False.elim (by have z0 := kz_nlt c9674; have z1 := kz_nlt c9994; have z2 := kz_nlt c10333; have z3 := kz_le c10334; have z4 := kz_nlt c10585; have z5 := kz_nlt c10586; have t0 : (0 : Int32).toInt = 0 := (by decide); have t6 : (6 : Int32).toInt = 6 := (by decide); have t5 : (5 : Int32).toInt = 5 := (by decide); omega)
    · exact False.elim (by have z0 := kz_nlt c9674; have z1 := kz_nlt c9994; have z2 := kz_nlt c10333; have z3 := kz_le c10334; have z4 := kz_nlt c10592; have z5 := kz_nlt c10593; have t0 : (0 : Int32).toInt = 0 := (by decide); have t6 : (6 : Int32).toInt = 6 := (by decide); have t5 : (5 : Int32).toInt = 5 := (by decide); omega)
    · exact False.elim (by have z0 := kz_nlt c9674; have z1 := kz_nlt c9994; have z2 := kz_nlt c10333; have z3 := kz_le c10334; have z4 := kz_nlt c10600; have z5 := kz_nlt c10601; have t0 : (0 : Int32).toInt = 0 := (by decide); have t6 : (6 : Int32).toInt = 6 := (by decide); have t5 : (5 : Int32).toInt = 5 := (by decide); omega)
    · exact False.elim (by have z0 := kz_nlt c9674; have z1 := kz_nlt c9994; have z2 := kz_nlt c10333; have z3 := kz_le c10334; have z4 := kz_nlt c10609; have z5 := kz_nlt c10610; have t0 : (0 : Int32).toInt = 0 := (by decide); have t6 : (6 : Int32).toInt = 6 := (by decide); have t5 : (5 : Int32).toInt = 5 := (by decide); omega)
    · exact False.elim (by have z0 := kz_nlt c9674; have z1 := kz_nlt c9994; have z2 := kz_nlt c10333; have z3 := kz_le c10334; have z4 := kz_nlt c10619; have z5 := kz_nlt c10620; have t0 : (0 : Int32).toInt = 0 := (by decide); have t6 : (6 : Int32).toInt = 6 := (by decide); have t5 : (5 : Int32).toInt = 5 := (by decide); omega)
    · exact False.elim (by have z0 := kz_nlt c9674; have z1 := kz_nlt c9994; have z2 := kz_nlt c10333; have z3 := kz_le c10334; have z4 := kz_nlt c10630; have z5 := kz_nlt c10631; have t0 : (0 : Int32).toInt = 0 := (by decide); have t6 : (6 : Int32).toInt = 6 := (by decide); have t5 : (5 : Int32).toInt = 5 := (by decide); omega)
