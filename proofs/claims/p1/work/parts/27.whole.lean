set_option maxHeartbeats 4000000 in
set_option maxRecDepth 100000 in
theorem law_tail {p : Program} {l : Launch} {e : Env} {s : State} {m : MethodId} {below : List Frame} {meth : Method} {c : Code} {b : Nat} {xs : Nat → Int32} {D : va_G} {A : Nat → Prop} (C : CallFix p m c cL_law 4 s #[Value.ref b] gG RL) (aks : aK s) (hX : va_X b 6 xs s s.heap) (hbl : b < s.heap.size) (hbA : ¬ A b) (hrt : meth.sig.returnType = ret) (hlocks : meth.locks = false) (hAe : A = fun q => s.heap.size ≤ q) : (∀ (H : Heap) (locs : List Loc) (ls : Array Slot), wX D [] s [] H A s.heap locs → lv_has ls 4 [(3, .int 0), (0, .ref b)] → W p l e room_1 s m #[Value.ref b] below meth c H locs 271 91330 (lw_Z below #[Value.ref b] s) (F0 m 801 ls [])) := by
  intro H locs ls Wd hl
  refine lv_iinc (v := 6) (lv' := [(3, .int 6), (0, .ref b)]) C.1 C.2.1 dL_law_801 hl (k := 0) rfl (by decide) (by decide) rfl (fun ls hl => ?_)
  refine lv_goto (tgt := 18) C.1 C.2.1 dL_law_804 (by decide) ?_
  refine lv_iload_n C.1 C.2.1 dL_law_18 rfl (lv_at hl 0 rfl) ?_
  refine lv_aload_n C.1 C.2.1 dL_law_19 rfl (lv_at hl 1 rfl) ?_
  refine k_slen (v := 6) C hX hbl hbA Wd rfl dL_law_20 ?_
  refine lv_bipush (v := 6) C.1 C.2.1 dL_law_21 (by decide) ?_
  refine k_isub (v := 0) C (by decide) dL_law_23 ?_
  refine lv_icmp_gt (tgt := 807) C.1 C.2.1 dL_law_24 (by decide) (fun _ => ?_) (fun c12485 => absurd c12485 (by decide))
  refine lv_iconst (v := 1) C.1 C.2.1 dL_law_807 (by decide) ?_
  refine va_forget (fun q hq => by have z9 := Wd.2.2.2.1.2.2 q hq; rw [hAe] at z9; exact z9) ?_
  refine W.widen (k := 600000) (n := 7302250) (by decide) (by decide) ?_
  exact lw_ret C.1 C.2.1 hrt hlocks dL_law_808
set_option maxHeartbeats 4000000 in
set_option maxRecDepth 100000 in
theorem whole_start {p : Program} {e : Env} {s : State} {m : MethodId} {below : List Frame} {meth : Method} {c : Code} (l : Launch) {b L : Nat} {xs : Nat → Int32} (hL : L ≤ 6) (C0 : lw_At p s m meth c b L xs) : W p l e room_1 s m #[Value.ref b] below meth c s.heap [] 0 0 (lw_Z below #[Value.ref b] s) (entryFrame m ([Value.ref b] : List Value).toArray 4) := by
  obtain ⟨hx, hb, hrt, hml, hown, hts, hX, hbl, hlocks, hgv⟩ := id C0
  have htg : ∀ w ∈ gG, w.before #[Value.ref b] s = true := fun w h => hts w (List.mem_filter.mp h).1
  have C : CallFix p m c cL_law 4 s #[Value.ref b] gG RL := ⟨hx, hb, hml, hown, htg⟩
  have aks : aK s := ⟨va_AO.of (hts _ tb_ao1), va_AO.of (hts _ tb_ao2), va_AOA.of (hts _ tb_ao3), va_Nw.of (by decide) (hts _ tb_nest)⟩
  obtain ⟨D, hKD⟩ := law_D htg
  obtain ⟨A, hAe⟩ : ∃ A : Nat → Prop, A = fun q => s.heap.size ≤ q := ⟨_, rfl⟩
  have hbA : ¬ A b := by rw [hAe]; exact Nat.not_le.mpr hbl
  have Wd : wX D [] s [] s.heap A s.heap [] := ⟨hKD, fun k q h => by simp at h, ⟨fun i j p q h => by simp at h, fun k q h => by simp at h⟩, va_S.rf, fun q h => by rw [hAe]; exact h⟩
  refine k_locals (Nat.le_of_ble_eq_true rfl) [(0, .ref b)] rfl (fun ls hl => ?_)
  refine k_new C Wd KX11 cl_L_7 is_X11 in_X11 [.null, .int 0, .null, .null, .null, .null, .null, .null] (by decide +kernel) (cells' := 1) (slots' := 8) (Nat.le_of_ble_eq_true rfl) (Nat.le_of_ble_eq_true rfl) (by decide) (by decide) dL_law_0 (fun q5961 H Wd => ?_)
  have Wd : wX D [] s [(q5961, .inr (11, [.null, .int 0, .null, .null, .null, .null, .null, .null]))] _ A s.heap _ := Wd
  refine lv_dup C.1 C.2.1 dL_law_3 rfl ?_
  refine k_cv Wd [0] [] rfl (wr := []) rfl (by decide) (by decide) (cells' := 245) (slots' := 26237) (by decide) (by decide) (k_runI (rest := [.ref q5961]) C aks Wd cs_L_9 (kcX11_init l D q5961 _ ) [0] rfl (by decide) [] rfl rfl rfl ⟨(Nat.le_of_ble_eq_true rfl), (Nat.le_of_ble_eq_true rfl)⟩ hl.1 rfl rfl (Nat.le_of_ble_eq_true rfl) ⟨(Nat.le_of_ble_eq_true rfl), (Nat.le_of_ble_eq_true rfl)⟩ dL_law_4) (fun u H locs w5962 Wd => ?_)
  obtain ⟨q5963, q5964, q5965, q5966, q5967, q5968, q5969, e5970, q5971, q5972, q5973, q5974, q5975, q5976, q5977, q5978, q5979, q5980, q5981, q5982, q5983, q5984, q5985, q5986, q5987, q5988, q5989, e5990, q5991, q5992, q5993, q5994, q5995, q5996, q5997, q5998, q5999, q6000, q6001, q6002, q6003, q6004, q6005, q6006, q6007, e6008, e6009, q6010, q6011, q6012, q6013, q6014, q6015, q6016, q6017, e6018, q6019, q6020, q6021, q6022, q6023, q6024, q6025, q6026, q6027, q6028, q6029, q6030, q6031, q6032, q6033, q6034, q6035, q6036, e6037, r6038, e6039, e6040, q6041, q6042, q6043, q6044, q6045, q6046, q6047, q6048, q6049, q6050, q6051, q6052, q6053, q6054, q6055, q6056, q6057, q6058, q6059, q6060, q6061, e6062, e6063, q6064, q6065, q6066, q6067, q6068, q6069, q6070, q6071, q6072, q6073, q6074, q6075, q6076, q6077, q6078, q6079, q6080, e6081, e6082, q6083, q6084, q6085, q6086, q6087, q6088, q6089, q6090, q6091, q6092, q6093, q6094, q6095, q6096, q6097, q6098, q6099, e6100, e6101, e6102, e6103⟩ := u
  have Wd : wX D [(e5970, .object RX8), (e5990, .int), (e6008, .int), (e6009, .int), (e6018, .object RX9), (e6039, .int), (e6037, .array .int), (e6040, .int), (e6062, .int), (e6063, .int), (e6081, .int), (e6082, .int), (e6100, .int), (e6101, .int), (e6102, .int), (e6103, .int)] s [(q5961, .inr (11, [.ref q5963, .int 0, .ref q5964, .ref q5965, .ref q5966, .ref q5967, .ref q5968, .ref q5969])), (q5963, .inl (e5970, 6, .inr (.inr (.inr (.inr (va_up (va_up (va_up (va_up (va_up (va_up (fun _ => none) 0 (some q5971)) 1 (some q5972)) 2 (some q5973)) 3 (some q5974)) 4 (some q5975)) 5 (some q5976))))))), (q5971, .inr (8, [.ref q5977, .int 0])), (q5972, .inr (8, [.ref q5978, .int 0])), (q5973, .inr (8, [.ref q5979, .int 0])), (q5974, .inr (8, [.ref q5980, .int 0])), (q5975, .inr (8, [.ref q5981, .int 0])), (q5976, .inr (8, [.ref q5982, .int 0])), (q5964, .inr (8, [.ref q5983, .int 0])), (q5965, .inr (6, [.ref q5984, .int 0, .int (-1), .ref q5985, .null, .int 0, .int 0, .int 0, .int 0, .int 0, .int 0, .int 0, .int 0, .int 0, .ref q5986, .ref q5987, .ref q5988])), (q5984, .inr (10, [.ref q5989, .int 0, .int 0, .int 0, .int 0, .int 0])), (q5989, .inl (e5990, 800, .inl (fun _ => 0))), (q5966, .inr (3, [.ref q5991, .ref q5992, .int 0, .int 0, .int 0, .ref q5993, .ref q5994])), (q5991, .inr (1, [.ref q5995, .int 0, .ref q5996, .ref q5997, .ref q5998, .ref q5999, .ref q6000, .ref q6001, .ref q6002, .ref q6003, .ref q6004, .ref q6005, .ref q6006, .ref q6007])), (q6007, .inl (e6008, 480, .inl (fun _ => 0))), (q5993, .inl (e6009, 6, .inl (fun _ => 0))), (q5968, .inr (4, [.ref q6010, .ref q6011, .ref q6012, .int (-1), .int (-1), .ref q6013, .ref q6014, .ref q6015, .ref q6016, .ref q6017])), (q6013, .inl (e6018, 12, .inr (.inr (.inr (.inr (va_up (va_up (va_up (va_up (va_up (va_up (va_up (va_up (va_up (va_up (va_up (va_up (fun _ => none) 0 (some q6019)) 1 (some q6020)) 2 (some q6021)) 3 (some q6022)) 4 (some q6023)) 5 (some q6024)) 6 (some q6025)) 7 (some q6026)) 8 (some q6027)) 9 (some q6028)) 10 (some q6029)) 11 (some q6030))))))), (q6019, .inr (9, [.ref q6031, .ref q6032, .int 0, .ref q6033, .ref q6034])), (q6031, .inr (8, [.ref q6035, .int 0])), (q6032, .inr (8, [.ref q6036, .int 0])), (q6014, .inl (e6037, 6, .inr (.inr (.inr (.inr (fun i => if i < 6 then some (r6038 i) else none)))))), ((r6038 0), .inl (e6039, 8, .inl (fun _ => 0))), ((r6038 1), .inl (e6039, 8, .inl (fun _ => 0))), ((r6038 2), .inl (e6039, 8, .inl (fun _ => 0))), ((r6038 3), .inl (e6039, 8, .inl (fun _ => 0))), ((r6038 4), .inl (e6039, 8, .inl (fun _ => 0))), ((r6038 5), .inl (e6039, 8, .inl (fun _ => 0))), (q6015, .inl (e6040, 6, .inl (fun _ => 0))), (q6011, .inr (8, [.ref q6041, .int 0])), (q6012, .inr (8, [.ref q6042, .int 0])), (q6010, .inr (2, [.int (-1), .int (-1), .int 0, .int 0, .ref q6043, .ref q6044])), (q6043, .inr (3, [.ref q6045, .ref q6046, .int 0, .int 0, .int 0, .ref q6047, .ref q6048])), (q6045, .inr (1, [.ref q6049, .int 0, .ref q6050, .ref q6051, .ref q6052, .ref q6053, .ref q6054, .ref q6055, .ref q6056, .ref q6057, .ref q6058, .ref q6059, .ref q6060, .ref q6061])), (q6061, .inl (e6062, 480, .inl (fun _ => 0))), (q6047, .inl (e6063, 6, .inl (fun _ => 0))), (q6044, .inr (3, [.ref q6064, .ref q6065, .int 0, .int 0, .int 0, .ref q6066, .ref q6067])), (q6064, .inr (1, [.ref q6068, .int 0, .ref q6069, .ref q6070, .ref q6071, .ref q6072, .ref q6073, .ref q6074, .ref q6075, .ref q6076, .ref q6077, .ref q6078, .ref q6079, .ref q6080])), (q6080, .inl (e6081, 480, .inl (fun _ => 0))), (q6066, .inl (e6082, 6, .inl (fun _ => 0))), (q5969, .inr (7, [.ref q6083, .ref q6084, .ref q6085, .ref q6086, .int 0])), (q6083, .inr (1, [.ref q6087, .int 0, .ref q6088, .ref q6089, .ref q6090, .ref q6091, .ref q6092, .ref q6093, .ref q6094, .ref q6095, .ref q6096, .ref q6097, .ref q6098, .ref q6099])), (q6099, .inl (e6100, 480, .inl (fun _ => 0))), (q6084, .inl (e6101, 6, .inl (fun _ => 0))), (q6085, .inl (e6102, 6, .inl (fun _ => 0))), (q6086, .inl (e6103, 6, .inl (fun _ => 0)))] _ A s.heap _ := Wd
  refine lv_astore_n (lv' := [(1, .ref q5961), (0, .ref b)]) C.1 C.2.1 dL_law_7 rfl hl (by decide) rfl (fun ls hl => ?_)
  refine k_new C Wd KX12 cl_L_10 is_X12 in_X12 [.null, .null, .null, .null, .int 0, .int 0, .null, .int 0, .int 0, .int 0, .int 0, .int 0, .int 0, .int 0, .int 0, .int 0, .int 0, .int 0, .int 0, .int 0, .int 0, .int 0, .int 0, .int 0, .null, .null, .null, .null, .null, .null, .int 0, .int 0, .int 0, .int 0, .null, .null, .null, .int 0, .int 0, .int 0, .int 0, .null, .null, .int 0, .null, .null, .int 0, .null, .int 0, .null, .null, .null, .int 0, .null, .null, .null] (by decide +kernel) (cells' := 246) (slots' := 26293) (Nat.le_of_ble_eq_true rfl) (Nat.le_of_ble_eq_true rfl) (by decide) (by decide) dL_law_8 (fun q6104 H Wd => ?_)
  have Wd : wX D [(e5970, .object RX8), (e5990, .int), (e6008, .int), (e6009, .int), (e6018, .object RX9), (e6039, .int), (e6037, .array .int), (e6040, .int), (e6062, .int), (e6063, .int), (e6081, .int), (e6082, .int), (e6100, .int), (e6101, .int), (e6102, .int), (e6103, .int)] s [(q5961, .inr (11, [.ref q5963, .int 0, .ref q5964, .ref q5965, .ref q5966, .ref q5967, .ref q5968, .ref q5969])), (q5963, .inl (e5970, 6, .inr (.inr (.inr (.inr (va_up (va_up (va_up (va_up (va_up (va_up (fun _ => none) 0 (some q5971)) 1 (some q5972)) 2 (some q5973)) 3 (some q5974)) 4 (some q5975)) 5 (some q5976))))))), (q5971, .inr (8, [.ref q5977, .int 0])), (q5972, .inr (8, [.ref q5978, .int 0])), (q5973, .inr (8, [.ref q5979, .int 0])), (q5974, .inr (8, [.ref q5980, .int 0])), (q5975, .inr (8, [.ref q5981, .int 0])), (q5976, .inr (8, [.ref q5982, .int 0])), (q5964, .inr (8, [.ref q5983, .int 0])), (q5965, .inr (6, [.ref q5984, .int 0, .int (-1), .ref q5985, .null, .int 0, .int 0, .int 0, .int 0, .int 0, .int 0, .int 0, .int 0, .int 0, .ref q5986, .ref q5987, .ref q5988])), (q5984, .inr (10, [.ref q5989, .int 0, .int 0, .int 0, .int 0, .int 0])), (q5989, .inl (e5990, 800, .inl (fun _ => 0))), (q5966, .inr (3, [.ref q5991, .ref q5992, .int 0, .int 0, .int 0, .ref q5993, .ref q5994])), (q5991, .inr (1, [.ref q5995, .int 0, .ref q5996, .ref q5997, .ref q5998, .ref q5999, .ref q6000, .ref q6001, .ref q6002, .ref q6003, .ref q6004, .ref q6005, .ref q6006, .ref q6007])), (q6007, .inl (e6008, 480, .inl (fun _ => 0))), (q5993, .inl (e6009, 6, .inl (fun _ => 0))), (q5968, .inr (4, [.ref q6010, .ref q6011, .ref q6012, .int (-1), .int (-1), .ref q6013, .ref q6014, .ref q6015, .ref q6016, .ref q6017])), (q6013, .inl (e6018, 12, .inr (.inr (.inr (.inr (va_up (va_up (va_up (va_up (va_up (va_up (va_up (va_up (va_up (va_up (va_up (va_up (fun _ => none) 0 (some q6019)) 1 (some q6020)) 2 (some q6021)) 3 (some q6022)) 4 (some q6023)) 5 (some q6024)) 6 (some q6025)) 7 (some q6026)) 8 (some q6027)) 9 (some q6028)) 10 (some q6029)) 11 (some q6030))))))), (q6019, .inr (9, [.ref q6031, .ref q6032, .int 0, .ref q6033, .ref q6034])), (q6031, .inr (8, [.ref q6035, .int 0])), (q6032, .inr (8, [.ref q6036, .int 0])), (q6014, .inl (e6037, 6, .inr (.inr (.inr (.inr (fun i => if i < 6 then some (r6038 i) else none)))))), ((r6038 0), .inl (e6039, 8, .inl (fun _ => 0))), ((r6038 1), .inl (e6039, 8, .inl (fun _ => 0))), ((r6038 2), .inl (e6039, 8, .inl (fun _ => 0))), ((r6038 3), .inl (e6039, 8, .inl (fun _ => 0))), ((r6038 4), .inl (e6039, 8, .inl (fun _ => 0))), ((r6038 5), .inl (e6039, 8, .inl (fun _ => 0))), (q6015, .inl (e6040, 6, .inl (fun _ => 0))), (q6011, .inr (8, [.ref q6041, .int 0])), (q6012, .inr (8, [.ref q6042, .int 0])), (q6010, .inr (2, [.int (-1), .int (-1), .int 0, .int 0, .ref q6043, .ref q6044])), (q6043, .inr (3, [.ref q6045, .ref q6046, .int 0, .int 0, .int 0, .ref q6047, .ref q6048])), (q6045, .inr (1, [.ref q6049, .int 0, .ref q6050, .ref q6051, .ref q6052, .ref q6053, .ref q6054, .ref q6055, .ref q6056, .ref q6057, .ref q6058, .ref q6059, .ref q6060, .ref q6061])), (q6061, .inl (e6062, 480, .inl (fun _ => 0))), (q6047, .inl (e6063, 6, .inl (fun _ => 0))), (q6044, .inr (3, [.ref q6064, .ref q6065, .int 0, .int 0, .int 0, .ref q6066, .ref q6067])), (q6064, .inr (1, [.ref q6068, .int 0, .ref q6069, .ref q6070, .ref q6071, .ref q6072, .ref q6073, .ref q6074, .ref q6075, .ref q6076, .ref q6077, .ref q6078, .ref q6079, .ref q6080])), (q6080, .inl (e6081, 480, .inl (fun _ => 0))), (q6066, .inl (e6082, 6, .inl (fun _ => 0))), (q5969, .inr (7, [.ref q6083, .ref q6084, .ref q6085, .ref q6086, .int 0])), (q6083, .inr (1, [.ref q6087, .int 0, .ref q6088, .ref q6089, .ref q6090, .ref q6091, .ref q6092, .ref q6093, .ref q6094, .ref q6095, .ref q6096, .ref q6097, .ref q6098, .ref q6099])), (q6099, .inl (e6100, 480, .inl (fun _ => 0))), (q6084, .inl (e6101, 6, .inl (fun _ => 0))), (q6085, .inl (e6102, 6, .inl (fun _ => 0))), (q6086, .inl (e6103, 6, .inl (fun _ => 0))), (q6104, .inr (12, [.null, .null, .null, .null, .int 0, .int 0, .null, .int 0, .int 0, .int 0, .int 0, .int 0, .int 0, .int 0, .int 0, .int 0, .int 0, .int 0, .int 0, .int 0, .int 0, .int 0, .int 0, .int 0, .null, .null, .null, .null, .null, .null, .int 0, .int 0, .int 0, .int 0, .null, .null, .null, .int 0, .int 0, .int 0, .int 0, .null, .null, .int 0, .null, .null, .int 0, .null, .int 0, .null, .null, .null, .int 0, .null, .null, .null]))] _ A s.heap _ := Wd
  refine lv_dup C.1 C.2.1 dL_law_11 rfl ?_
  refine k_cv Wd [46] [0, 1, 2, 3, 4, 5, 6, 7, 8, 9, 10, 11, 12, 13, 14, 15, 16, 17, 18, 19, 20, 21, 22, 23, 24, 25, 26, 27, 28, 29, 30, 31, 32, 33, 34, 35, 36, 37, 38, 39, 40, 41, 42, 43, 44, 45] rfl (wr := [(q5961, .inr (11, [.ref q5963, .int 0, .ref q5964, .ref q5965, .ref q5966, .ref q5967, .ref q5968, .ref q5969])), (q5963, .inl (e5970, 6, .inr (.inr (.inr (.inr (va_up (va_up (va_up (va_up (va_up (va_up (fun _ => none) 0 (some q5971)) 1 (some q5972)) 2 (some q5973)) 3 (some q5974)) 4 (some q5975)) 5 (some q5976))))))), (q5971, .inr (8, [.ref q5977, .int 0])), (q5972, .inr (8, [.ref q5978, .int 0])), (q5973, .inr (8, [.ref q5979, .int 0])), (q5974, .inr (8, [.ref q5980, .int 0])), (q5975, .inr (8, [.ref q5981, .int 0])), (q5976, .inr (8, [.ref q5982, .int 0])), (q5964, .inr (8, [.ref q5983, .int 0])), (q5965, .inr (6, [.ref q5984, .int 0, .int (-1), .ref q5985, .null, .int 0, .int 0, .int 0, .int 0, .int 0, .int 0, .int 0, .int 0, .int 0, .ref q5986, .ref q5987, .ref q5988])), (q5984, .inr (10, [.ref q5989, .int 0, .int 0, .int 0, .int 0, .int 0])), (q5989, .inl (e5990, 800, .inl (fun _ => 0))), (q5966, .inr (3, [.ref q5991, .ref q5992, .int 0, .int 0, .int 0, .ref q5993, .ref q5994])), (q5991, .inr (1, [.ref q5995, .int 0, .ref q5996, .ref q5997, .ref q5998, .ref q5999, .ref q6000, .ref q6001, .ref q6002, .ref q6003, .ref q6004, .ref q6005, .ref q6006, .ref q6007])), (q6007, .inl (e6008, 480, .inl (fun _ => 0))), (q5993, .inl (e6009, 6, .inl (fun _ => 0))), (q5968, .inr (4, [.ref q6010, .ref q6011, .ref q6012, .int (-1), .int (-1), .ref q6013, .ref q6014, .ref q6015, .ref q6016, .ref q6017])), (q6013, .inl (e6018, 12, .inr (.inr (.inr (.inr (va_up (va_up (va_up (va_up (va_up (va_up (va_up (va_up (va_up (va_up (va_up (va_up (fun _ => none) 0 (some q6019)) 1 (some q6020)) 2 (some q6021)) 3 (some q6022)) 4 (some q6023)) 5 (some q6024)) 6 (some q6025)) 7 (some q6026)) 8 (some q6027)) 9 (some q6028)) 10 (some q6029)) 11 (some q6030))))))), (q6019, .inr (9, [.ref q6031, .ref q6032, .int 0, .ref q6033, .ref q6034])), (q6031, .inr (8, [.ref q6035, .int 0])), (q6032, .inr (8, [.ref q6036, .int 0])), (q6014, .inl (e6037, 6, .inr (.inr (.inr (.inr (fun i => if i < 6 then some (r6038 i) else none)))))), ((r6038 0), .inl (e6039, 8, .inl (fun _ => 0))), ((r6038 1), .inl (e6039, 8, .inl (fun _ => 0))), ((r6038 2), .inl (e6039, 8, .inl (fun _ => 0))), ((r6038 3), .inl (e6039, 8, .inl (fun _ => 0))), ((r6038 4), .inl (e6039, 8, .inl (fun _ => 0))), ((r6038 5), .inl (e6039, 8, .inl (fun _ => 0))), (q6015, .inl (e6040, 6, .inl (fun _ => 0))), (q6011, .inr (8, [.ref q6041, .int 0])), (q6012, .inr (8, [.ref q6042, .int 0])), (q6010, .inr (2, [.int (-1), .int (-1), .int 0, .int 0, .ref q6043, .ref q6044])), (q6043, .inr (3, [.ref q6045, .ref q6046, .int 0, .int 0, .int 0, .ref q6047, .ref q6048])), (q6045, .inr (1, [.ref q6049, .int 0, .ref q6050, .ref q6051, .ref q6052, .ref q6053, .ref q6054, .ref q6055, .ref q6056, .ref q6057, .ref q6058, .ref q6059, .ref q6060, .ref q6061])), (q6061, .inl (e6062, 480, .inl (fun _ => 0))), (q6047, .inl (e6063, 6, .inl (fun _ => 0))), (q6044, .inr (3, [.ref q6064, .ref q6065, .int 0, .int 0, .int 0, .ref q6066, .ref q6067])), (q6064, .inr (1, [.ref q6068, .int 0, .ref q6069, .ref q6070, .ref q6071, .ref q6072, .ref q6073, .ref q6074, .ref q6075, .ref q6076, .ref q6077, .ref q6078, .ref q6079, .ref q6080])), (q6080, .inl (e6081, 480, .inl (fun _ => 0))), (q6066, .inl (e6082, 6, .inl (fun _ => 0))), (q5969, .inr (7, [.ref q6083, .ref q6084, .ref q6085, .ref q6086, .int 0])), (q6083, .inr (1, [.ref q6087, .int 0, .ref q6088, .ref q6089, .ref q6090, .ref q6091, .ref q6092, .ref q6093, .ref q6094, .ref q6095, .ref q6096, .ref q6097, .ref q6098, .ref q6099])), (q6099, .inl (e6100, 480, .inl (fun _ => 0))), (q6084, .inl (e6101, 6, .inl (fun _ => 0))), (q6085, .inl (e6102, 6, .inl (fun _ => 0))), (q6086, .inl (e6103, 6, .inl (fun _ => 0)))]) rfl (by decide) (by decide) (cells' := 271) (slots' := 91330) (by decide) (by decide) (k_runI (rest := [.ref q6104]) C aks Wd cs_L_12 (kcX12_init l D q6104 _ ) [46] rfl (by decide) [] rfl rfl rfl ⟨(Nat.le_of_ble_eq_true rfl), (Nat.le_of_ble_eq_true rfl)⟩ hl.1 rfl rfl (Nat.le_of_ble_eq_true rfl) ⟨(Nat.le_of_ble_eq_true rfl), (Nat.le_of_ble_eq_true rfl)⟩ dL_law_12) (fun u H locs w6105 Wd => ?_)
  obtain ⟨q6106, q6107, q6108, q6109, q6110, q6111, q6112, q6113, q6114, q6115, q6116, q6117, q6118, q6119, q6120, q6121, q6122, q6123, q6124, q6125, q6126, q6127, q6128, q6129, q6130, e6131, e6132, e6133, e6134, e6135, e6136, e6137, e6138, e6139, e6140, e6141, e6142, e6143, e6144, e6145, e6146, e6147, e6148, e6149, e6150, e6151, e6152, e6153, e6154, e6155⟩ := u
  have Wd : wX D [(e5970, .object RX8), (e5990, .int), (e6008, .int), (e6009, .int), (e6018, .object RX9), (e6039, .int), (e6037, .array .int), (e6040, .int), (e6062, .int), (e6063, .int), (e6081, .int), (e6082, .int), (e6100, .int), (e6101, .int), (e6102, .int), (e6103, .int), (e6131, .int), (e6132, .int), (e6133, .int), (e6134, .int), (e6135, .int), (e6136, .int), (e6137, .int), (e6138, .int), (e6139, .int), (e6140, .int), (e6141, .int), (e6142, .int), (e6143, .int), (e6144, .int), (e6145, .int), (e6146, .int), (e6147, .int), (e6148, .int), (e6149, .boolean), (e6150, .int), (e6151, .int), (e6152, .int), (e6153, .int), (e6154, .int), (e6155, .int)] s [(q5961, .inr (11, [.ref q5963, .int 0, .ref q5964, .ref q5965, .ref q5966, .ref q5967, .ref q5968, .ref q5969])), (q5963, .inl (e5970, 6, .inr (.inr (.inr (.inr (va_up (va_up (va_up (va_up (va_up (va_up (fun _ => none) 0 (some q5971)) 1 (some q5972)) 2 (some q5973)) 3 (some q5974)) 4 (some q5975)) 5 (some q5976))))))), (q5971, .inr (8, [.ref q5977, .int 0])), (q5972, .inr (8, [.ref q5978, .int 0])), (q5973, .inr (8, [.ref q5979, .int 0])), (q5974, .inr (8, [.ref q5980, .int 0])), (q5975, .inr (8, [.ref q5981, .int 0])), (q5976, .inr (8, [.ref q5982, .int 0])), (q5964, .inr (8, [.ref q5983, .int 0])), (q5965, .inr (6, [.ref q5984, .int 0, .int (-1), .ref q5985, .null, .int 0, .int 0, .int 0, .int 0, .int 0, .int 0, .int 0, .int 0, .int 0, .ref q5986, .ref q5987, .ref q5988])), (q5984, .inr (10, [.ref q5989, .int 0, .int 0, .int 0, .int 0, .int 0])), (q5989, .inl (e5990, 800, .inl (fun _ => 0))), (q5966, .inr (3, [.ref q5991, .ref q5992, .int 0, .int 0, .int 0, .ref q5993, .ref q5994])), (q5991, .inr (1, [.ref q5995, .int 0, .ref q5996, .ref q5997, .ref q5998, .ref q5999, .ref q6000, .ref q6001, .ref q6002, .ref q6003, .ref q6004, .ref q6005, .ref q6006, .ref q6007])), (q6007, .inl (e6008, 480, .inl (fun _ => 0))), (q5993, .inl (e6009, 6, .inl (fun _ => 0))), (q5968, .inr (4, [.ref q6010, .ref q6011, .ref q6012, .int (-1), .int (-1), .ref q6013, .ref q6014, .ref q6015, .ref q6016, .ref q6017])), (q6013, .inl (e6018, 12, .inr (.inr (.inr (.inr (va_up (va_up (va_up (va_up (va_up (va_up (va_up (va_up (va_up (va_up (va_up (va_up (fun _ => none) 0 (some q6019)) 1 (some q6020)) 2 (some q6021)) 3 (some q6022)) 4 (some q6023)) 5 (some q6024)) 6 (some q6025)) 7 (some q6026)) 8 (some q6027)) 9 (some q6028)) 10 (some q6029)) 11 (some q6030))))))), (q6019, .inr (9, [.ref q6031, .ref q6032, .int 0, .ref q6033, .ref q6034])), (q6031, .inr (8, [.ref q6035, .int 0])), (q6032, .inr (8, [.ref q6036, .int 0])), (q6014, .inl (e6037, 6, .inr (.inr (.inr (.inr (fun i => if i < 6 then some (r6038 i) else none)))))), ((r6038 0), .inl (e6039, 8, .inl (fun _ => 0))), ((r6038 1), .inl (e6039, 8, .inl (fun _ => 0))), ((r6038 2), .inl (e6039, 8, .inl (fun _ => 0))), ((r6038 3), .inl (e6039, 8, .inl (fun _ => 0))), ((r6038 4), .inl (e6039, 8, .inl (fun _ => 0))), ((r6038 5), .inl (e6039, 8, .inl (fun _ => 0))), (q6015, .inl (e6040, 6, .inl (fun _ => 0))), (q6011, .inr (8, [.ref q6041, .int 0])), (q6012, .inr (8, [.ref q6042, .int 0])), (q6010, .inr (2, [.int (-1), .int (-1), .int 0, .int 0, .ref q6043, .ref q6044])), (q6043, .inr (3, [.ref q6045, .ref q6046, .int 0, .int 0, .int 0, .ref q6047, .ref q6048])), (q6045, .inr (1, [.ref q6049, .int 0, .ref q6050, .ref q6051, .ref q6052, .ref q6053, .ref q6054, .ref q6055, .ref q6056, .ref q6057, .ref q6058, .ref q6059, .ref q6060, .ref q6061])), (q6061, .inl (e6062, 480, .inl (fun _ => 0))), (q6047, .inl (e6063, 6, .inl (fun _ => 0))), (q6044, .inr (3, [.ref q6064, .ref q6065, .int 0, .int 0, .int 0, .ref q6066, .ref q6067])), (q6064, .inr (1, [.ref q6068, .int 0, .ref q6069, .ref q6070, .ref q6071, .ref q6072, .ref q6073, .ref q6074, .ref q6075, .ref q6076, .ref q6077, .ref q6078, .ref q6079, .ref q6080])), (q6080, .inl (e6081, 480, .inl (fun _ => 0))), (q6066, .inl (e6082, 6, .inl (fun _ => 0))), (q5969, .inr (7, [.ref q6083, .ref q6084, .ref q6085, .ref q6086, .int 0])), (q6083, .inr (1, [.ref q6087, .int 0, .ref q6088, .ref q6089, .ref q6090, .ref q6091, .ref q6092, .ref q6093, .ref q6094, .ref q6095, .ref q6096, .ref q6097, .ref q6098, .ref q6099])), (q6099, .inl (e6100, 480, .inl (fun _ => 0))), (q6084, .inl (e6101, 6, .inl (fun _ => 0))), (q6085, .inl (e6102, 6, .inl (fun _ => 0))), (q6086, .inl (e6103, 6, .inl (fun _ => 0))), (q6104, .inr (12, [.ref q6106, .ref q6107, .ref q6108, .ref q6109, .int 0, .int 0, .ref q6110, .int 0, .int 0, .int 0, .int 0, .int 0, .int 0, .int 0, .int 0, .int 0, .int 0, .int 0, .int 0, .int 0, .int (-1), .int 0, .int 0, .int 0, .ref q6111, .ref q6112, .ref q6113, .ref q6114, .ref q6115, .ref q6116, .int 0, .int 0, .int 0, .int 0, .ref q6117, .ref q6118, .ref q6119, .int 0, .int 0, .int 0, .int 0, .ref q6120, .ref q6121, .int 0, .ref q6122, .ref q6123, .int 0, .ref q6124, .int 0, .ref q6125, .ref q6126, .ref q6127, .int 0, .ref q6128, .ref q6129, .ref q6130])), (q6106, .inl (e6131, 3120, .inl (fun _ => 0))), (q6107, .inl (e6132, 6, .inl (fun _ => 0))), (q6108, .inl (e6133, 2400, .inl (fun _ => 0))), (q6109, .inl (e6134, 2400, .inl (fun _ => 0))), (q6110, .inl (e6135, 800, .inl (fun _ => 0))), (q6111, .inl (e6136, 512, .inl (fun _ => 0))), (q6112, .inl (e6137, 12, .inl (fun _ => 0))), (q6113, .inl (e6138, 12, .inl (fun _ => 0))), (q6114, .inl (e6139, 12, .inl (fun _ => 0))), (q6115, .inl (e6140, 6, .inl (fun _ => 0))), (q6116, .inl (e6141, 101, .inl (fun _ => 0))), (q6117, .inl (e6142, 256, .inl (fun _ => 0))), (q6118, .inl (e6143, 256, .inl (fun _ => 0))), (q6119, .inl (e6144, 25856, .inl (fun _ => 0))), (q6120, .inl (e6145, 3, .inl (fun _ => 0))), (q6121, .inl (e6146, 21504, .inl (fun _ => 0))), (q6122, .inl (e6147, 512, .inl (fun _ => 0))), (q6123, .inl (e6148, 3, .inl (fun _ => 0))), (q6124, .inl (e6149, 2400, .inl (fun _ => 0))), (q6125, .inl (e6150, 48, .inl (fun _ => 0))), (q6126, .inl (e6151, 6, .inl (fun _ => 0))), (q6127, .inl (e6152, 2400, .inl (fun _ => 0))), (q6128, .inl (e6153, 2400, .inl (fun _ => 0))), (q6129, .inl (e6154, 6, .inl (fun _ => 0))), (q6130, .inl (e6155, 6, .inl (fun _ => 0)))] _ A s.heap _ := Wd
  refine lv_astore_n (lv' := [(2, .ref q6104), (1, .ref q5961), (0, .ref b)]) C.1 C.2.1 dL_law_15 rfl hl (by decide) rfl (fun ls hl => ?_)
  refine lv_iconst (v := 0) C.1 C.2.1 dL_law_16 (by decide) ?_
  refine lv_istore_n (lv' := [(3, .int 0), (2, .ref q6104), (1, .ref q5961), (0, .ref b)]) C.1 C.2.1 dL_law_17 rfl hl (by decide) rfl (fun ls hl => ?_)
  rcases (by omega : L = 0 ∨ L = 1 ∨ L = 2 ∨ L = 3 ∨ L = 4 ∨ L = 5 ∨ L = 6) with rfl | rfl | rfl | rfl | rfl | rfl | rfl
  · refine lv_iload_n C.1 C.2.1 dL_law_18 rfl (lv_at hl 0 rfl) ?_
    refine lv_aload_n C.1 C.2.1 dL_law_19 rfl (lv_at hl 3 rfl) ?_
    refine k_slen (v := 0) C hX hbl hbA Wd rfl dL_law_20 ?_
    refine lv_bipush (v := 6) C.1 C.2.1 dL_law_21 (by decide) ?_
    refine k_isub (v := (-6)) C (by decide) dL_law_23 ?_
    refine lv_icmp_gt (tgt := 807) C.1 C.2.1 dL_law_24 (by decide) (fun _ => ?_) (fun c12486 => absurd c12486 (by decide))
    refine lv_iconst (v := 1) C.1 C.2.1 dL_law_807 (by decide) ?_
    refine va_forget (fun q hq => by have z9 := Wd.2.2.2.1.2.2 q hq; rw [hAe] at z9; exact z9) ?_
    refine W.widen (k := 600000) (n := 7302250) (by decide) (by decide) ?_
    exact lw_ret C.1 C.2.1 hrt hlocks dL_law_808
  · refine lv_iload_n C.1 C.2.1 dL_law_18 rfl (lv_at hl 0 rfl) ?_
    refine lv_aload_n C.1 C.2.1 dL_law_19 rfl (lv_at hl 3 rfl) ?_
    refine k_slen (v := 1) C hX hbl hbA Wd rfl dL_law_20 ?_
    refine lv_bipush (v := 6) C.1 C.2.1 dL_law_21 (by decide) ?_
    refine k_isub (v := (-5)) C (by decide) dL_law_23 ?_
    refine lv_icmp_gt (tgt := 807) C.1 C.2.1 dL_law_24 (by decide) (fun _ => ?_) (fun c12487 => absurd c12487 (by decide))
    refine lv_iconst (v := 1) C.1 C.2.1 dL_law_807 (by decide) ?_
    refine va_forget (fun q hq => by have z9 := Wd.2.2.2.1.2.2 q hq; rw [hAe] at z9; exact z9) ?_
    refine W.widen (k := 600000) (n := 7302250) (by decide) (by decide) ?_
    exact lw_ret C.1 C.2.1 hrt hlocks dL_law_808
  · refine lv_iload_n C.1 C.2.1 dL_law_18 rfl (lv_at hl 0 rfl) ?_
    refine lv_aload_n C.1 C.2.1 dL_law_19 rfl (lv_at hl 3 rfl) ?_
    refine k_slen (v := 2) C hX hbl hbA Wd rfl dL_law_20 ?_
    refine lv_bipush (v := 6) C.1 C.2.1 dL_law_21 (by decide) ?_
    refine k_isub (v := (-4)) C (by decide) dL_law_23 ?_
    refine lv_icmp_gt (tgt := 807) C.1 C.2.1 dL_law_24 (by decide) (fun _ => ?_) (fun c12488 => absurd c12488 (by decide))
    refine lv_iconst (v := 1) C.1 C.2.1 dL_law_807 (by decide) ?_
    refine va_forget (fun q hq => by have z9 := Wd.2.2.2.1.2.2 q hq; rw [hAe] at z9; exact z9) ?_
    refine W.widen (k := 600000) (n := 7302250) (by decide) (by decide) ?_
    exact lw_ret C.1 C.2.1 hrt hlocks dL_law_808
  · refine lv_iload_n C.1 C.2.1 dL_law_18 rfl (lv_at hl 0 rfl) ?_
    refine lv_aload_n C.1 C.2.1 dL_law_19 rfl (lv_at hl 3 rfl) ?_
    refine k_slen (v := 3) C hX hbl hbA Wd rfl dL_law_20 ?_
    refine lv_bipush (v := 6) C.1 C.2.1 dL_law_21 (by decide) ?_
    refine k_isub (v := (-3)) C (by decide) dL_law_23 ?_
    refine lv_icmp_gt (tgt := 807) C.1 C.2.1 dL_law_24 (by decide) (fun _ => ?_) (fun c12489 => absurd c12489 (by decide))
    refine lv_iconst (v := 1) C.1 C.2.1 dL_law_807 (by decide) ?_
    refine va_forget (fun q hq => by have z9 := Wd.2.2.2.1.2.2 q hq; rw [hAe] at z9; exact z9) ?_
    refine W.widen (k := 600000) (n := 7302250) (by decide) (by decide) ?_
    exact lw_ret C.1 C.2.1 hrt hlocks dL_law_808
  · refine lv_iload_n C.1 C.2.1 dL_law_18 rfl (lv_at hl 0 rfl) ?_
    refine lv_aload_n C.1 C.2.1 dL_law_19 rfl (lv_at hl 3 rfl) ?_
    refine k_slen (v := 4) C hX hbl hbA Wd rfl dL_law_20 ?_
    refine lv_bipush (v := 6) C.1 C.2.1 dL_law_21 (by decide) ?_
    refine k_isub (v := (-2)) C (by decide) dL_law_23 ?_
    refine lv_icmp_gt (tgt := 807) C.1 C.2.1 dL_law_24 (by decide) (fun _ => ?_) (fun c12490 => absurd c12490 (by decide))
    refine lv_iconst (v := 1) C.1 C.2.1 dL_law_807 (by decide) ?_
    refine va_forget (fun q hq => by have z9 := Wd.2.2.2.1.2.2 q hq; rw [hAe] at z9; exact z9) ?_
    refine W.widen (k := 600000) (n := 7302250) (by decide) (by decide) ?_
    exact lw_ret C.1 C.2.1 hrt hlocks dL_law_808
  · refine lv_iload_n C.1 C.2.1 dL_law_18 rfl (lv_at hl 0 rfl) ?_
    refine lv_aload_n C.1 C.2.1 dL_law_19 rfl (lv_at hl 3 rfl) ?_
    refine k_slen (v := 5) C hX hbl hbA Wd rfl dL_law_20 ?_
    refine lv_bipush (v := 6) C.1 C.2.1 dL_law_21 (by decide) ?_
    refine k_isub (v := (-1)) C (by decide) dL_law_23 ?_
    refine lv_icmp_gt (tgt := 807) C.1 C.2.1 dL_law_24 (by decide) (fun _ => ?_) (fun c12491 => absurd c12491 (by decide))
    refine lv_iconst (v := 1) C.1 C.2.1 dL_law_807 (by decide) ?_
    refine va_forget (fun q hq => by have z9 := Wd.2.2.2.1.2.2 q hq; rw [hAe] at z9; exact z9) ?_
    refine W.widen (k := 600000) (n := 7302250) (by decide) (by decide) ?_
    exact lw_ret C.1 C.2.1 hrt hlocks dL_law_808
  refine lv_iload_n C.1 C.2.1 dL_law_18 rfl (lv_at hl 0 rfl) ?_
  refine lv_aload_n C.1 C.2.1 dL_law_19 rfl (lv_at hl 3 rfl) ?_
  refine k_slen (v := 6) C hX hbl hbA Wd rfl dL_law_20 ?_
  refine lv_bipush (v := 6) C.1 C.2.1 dL_law_21 (by decide) ?_
  refine k_isub (v := 0) C (by decide) dL_law_23 ?_
  refine lv_icmp_gt (tgt := 807) C.1 C.2.1 dL_law_24 (by decide) (fun c12492 => absurd c12492 (by decide)) (fun _ => ?_)
  refine lv_aload_n C.1 C.2.1 dL_law_27 rfl (lv_at hl 3 rfl) ?_
  refine lv_iload_n C.1 C.2.1 dL_law_28 rfl (lv_at hl 0 rfl) ?_
  refine k_sld (v := xs 0) C hX hbl hbA Wd (vp_in_iff.mpr (by decide)) (rfl : xs 0 = xs 0) dL_law_29 ?_
  refine lv_bipush (v := 31) C.1 C.2.1 dL_law_30 (by decide) ?_
  have tail := law_tail (l := l) (e := e) (below := below) (D := D) C aks hX hbl hbA hrt hlocks hAe
  obtain ⟨z, ez⟩ : ∃ z : Int32, xs 0 &&& 31 = z := ⟨_, rfl⟩
  refine k_iand (v := z) C ez dL_law_32 ?_
  by_cases cz0 : z = 0
  · subst cz0
    refine lv_tableIn (off := 91) (tgt := 124) C.1 C.2.1 dL_law_33 (by decide) (by decide) (by decide) (by decide) ?_
    exact law_feed (rfl : xs 1 = xs 1) (rfl : xs 2 = xs 2) (rfl : xs 3 = xs 3) (rfl : xs 4 = xs 4) (rfl : xs 5 = xs 5) C aks hX hbl hbA hrt hlocks hAe tail (k_sub Wd [0, 9, 10, 11, 46, 51] rfl (by decide) [1, 20] rfl) (lv_sub hl [0, 1, 2, 3] rfl)
  by_cases cz1 : z = 1
  · subst cz1
    refine lv_tableIn (off := 154) (tgt := 187) C.1 C.2.1 dL_law_33 (by decide) (by decide) (by decide) (by decide) ?_
    exact law_end (rfl : xs 1 = xs 1) C aks hX hbl hbA hrt hlocks hAe tail (k_sub Wd [0, 9, 10, 46] rfl (by decide) [] rfl) (lv_sub hl [0, 1, 2, 3] rfl)
  by_cases cz2 : z = 2
  · subst cz2
    refine lv_tableIn (off := 177) (tgt := 210) C.1 C.2.1 dL_law_33 (by decide) (by decide) (by decide) (by decide) ?_
    exact law_program (rfl : xs 1 = xs 1) C aks hX hbl hbA hrt hlocks hAe tail (k_sub Wd [0, 1, 2, 3, 4, 5, 6, 7, 8, 9, 10, 46, 48] rfl (by decide) [0, 17] rfl) (lv_sub hl [0, 1, 2, 3] rfl)
  by_cases cz3 : z = 3
  · subst cz3
    refine lv_tableIn (off := 200) (tgt := 233) C.1 C.2.1 dL_law_33 (by decide) (by decide) (by decide) (by decide) ?_
    exact law_rule  C aks hX hbl hbA hrt hlocks hAe tail (k_sub Wd [0, 9, 10, 16, 17, 18, 19, 20, 46] rfl (by decide) [4] rfl) (lv_sub hl [0, 1, 2, 3] rfl)
  by_cases cz4 : z = 4
  · subst cz4
    refine lv_tableIn (off := 213) (tgt := 246) C.1 C.2.1 dL_law_33 (by decide) (by decide) (by decide) (by decide) ?_
    exact law_fault (rfl : xs 1 = xs 1) C aks hX hbl hbA hrt hlocks hAe tail (k_sub Wd [0, 9, 46] rfl (by decide) [] rfl) (lv_sub hl [0, 1, 2, 3] rfl)
  by_cases cz5 : z = 5
  · subst cz5
    refine lv_tableIn (off := 236) (tgt := 269) C.1 C.2.1 dL_law_33 (by decide) (by decide) (by decide) (by decide) ?_
    exact law_at (rfl : xs 1 = xs 1) (rfl : xs 2 = xs 2) C aks hX hbl hbA hrt hlocks hAe tail (k_sub Wd [0, 1, 2, 3, 4, 5, 6, 7, 46, 48] rfl (by decide) [0, 17] rfl) (lv_sub hl [0, 1, 2, 3] rfl)
  by_cases cz6 : z = 6
  · subst cz6
    refine lv_tableIn (off := 269) (tgt := 302) C.1 C.2.1 dL_law_33 (by decide) (by decide) (by decide) (by decide) ?_
    exact law_size (rfl : xs 1 = xs 1) (rfl : xs 2 = xs 2) C aks hX hbl hbA hrt hlocks hAe tail (k_sub Wd [0, 1, 2, 3, 4, 5, 6, 7, 12, 13, 14, 46, 48] rfl (by decide) [0, 2, 17] rfl) (lv_sub hl [0, 1, 2, 3] rfl)
  by_cases cz7 : z = 7
  · subst cz7
    refine lv_tableIn (off := 302) (tgt := 335) C.1 C.2.1 dL_law_33 (by decide) (by decide) (by decide) (by decide) ?_
    exact law_run (rfl : xs 1 = xs 1) (rfl : xs 2 = xs 2) (rfl : xs 3 = xs 3) (rfl : xs 4 = xs 4) C aks hX hbl hbA hrt hlocks hAe tail (k_sub Wd [0, 1, 2, 3, 4, 5, 6, 7, 12, 13, 14, 15, 46, 48, 56] rfl (by decide) [0, 2, 3, 17, 25] rfl) (lv_sub hl [0, 1, 2, 3] rfl)
  by_cases cz8 : z = 8
  · subst cz8
    refine lv_tableIn (off := 355) (tgt := 388) C.1 C.2.1 dL_law_33 (by decide) (by decide) (by decide) (by decide) ?_
    exact law_judge (rfl : xs 1 = xs 1) (rfl : xs 2 = xs 2) (rfl : xs 3 = xs 3) C aks hX hbl hbA hrt hlocks hAe tail (k_sub Wd [0, 1, 2, 3, 4, 5, 6, 7, 16, 31, 32, 33, 34, 35, 36, 37, 38, 39, 46, 48, 56, 58, 59] rfl (by decide) [0, 8, 9, 10, 11, 17, 25, 27, 28] rfl) (lv_sub hl [0, 1, 2, 3] rfl)
  by_cases cz9 : z = 9
  · subst cz9
    refine lv_tableIn (off := 398) (tgt := 431) C.1 C.2.1 dL_law_33 (by decide) (by decide) (by decide) (by decide) ?_
    exact law_ruleOf (rfl : xs 1 = xs 1) (rfl : xs 2 = xs 2) C aks hX hbl hbA hrt hlocks hAe tail (k_sub Wd [0, 16, 17, 46] rfl (by decide) [4] rfl) (lv_sub hl [0, 1, 2, 3] rfl)
  by_cases cz10 : z = 10
  · subst cz10
    refine lv_tableIn (off := 431) (tgt := 464) C.1 C.2.1 dL_law_33 (by decide) (by decide) (by decide) (by decide) ?_
    exact law_places (rfl : xs 1 = xs 1) (rfl : xs 2 = xs 2) C aks hX hbl hbA hrt hlocks hAe tail (k_sub Wd [0, 1, 16, 17, 46] rfl (by decide) [0, 4] rfl) (lv_sub hl [0, 1, 2, 3] rfl)
  by_cases cz11 : z = 11
  · subst cz11
    refine lv_tableIn (off := 464) (tgt := 497) C.1 C.2.1 dL_law_33 (by decide) (by decide) (by decide) (by decide) ?_
    exact law_apply (rfl : xs 1 = xs 1) (rfl : xs 2 = xs 2) (rfl : xs 3 = xs 3) (rfl : xs 4 = xs 4) C aks hX hbl hbA hrt hlocks hAe tail (k_sub Wd [0, 1, 16, 17, 46] rfl (by decide) [0, 4] rfl) (lv_sub hl [0, 1, 2, 3] rfl)
  by_cases cz12 : z = 12
  · subst cz12
    refine lv_tableIn (off := 517) (tgt := 550) C.1 C.2.1 dL_law_33 (by decide) (by decide) (by decide) (by decide) ?_
    exact law_item (rfl : xs 1 = xs 1) (rfl : xs 2 = xs 2) C aks hX hbl hbA hrt hlocks hAe tail (k_sub Wd [0, 16, 21, 22, 23, 24, 25, 26, 27, 28, 46, 66, 67] rfl (by decide) [5, 6, 7, 35, 36] rfl) (lv_sub hl [0, 1, 2, 3] rfl)
  by_cases cz13 : z = 13
  · subst cz13
    refine lv_tableIn (off := 550) (tgt := 583) C.1 C.2.1 dL_law_33 (by decide) (by decide) (by decide) (by decide) ?_
    exact law_clear (rfl : xs 1 = xs 1) C aks hX hbl hbA hrt hlocks hAe tail (k_sub Wd [0, 16, 28, 46, 67] rfl (by decide) [7, 36] rfl) (lv_sub hl [0, 1, 2, 3] rfl)
  by_cases cz14 : z = 14
  · subst cz14
    refine lv_tableIn (off := 573) (tgt := 606) C.1 C.2.1 dL_law_33 (by decide) (by decide) (by decide) (by decide) ?_
    exact law_make (rfl : xs 1 = xs 1) (rfl : xs 2 = xs 2) (rfl : xs 3 = xs 3) C aks hX hbl hbA hrt hlocks hAe tail (k_sub Wd [0, 1, 2, 3, 4, 5, 6, 7, 16, 28, 29, 46, 48, 67] rfl (by decide) [0, 7, 17, 36] rfl) (lv_sub hl [0, 1, 2, 3] rfl)
  by_cases cz15 : z = 15
  · subst cz15
    refine lv_tableIn (off := 616) (tgt := 649) C.1 C.2.1 dL_law_33 (by decide) (by decide) (by decide) (by decide) ?_
    exact law_blame (rfl : xs 1 = xs 1) (rfl : xs 2 = xs 2) C aks hX hbl hbA hrt hlocks hAe tail (k_sub Wd [0, 1, 2, 3, 4, 5, 6, 7, 16, 28, 29, 30, 46, 48, 67] rfl (by decide) [0, 7, 17, 36] rfl) (lv_sub hl [0, 1, 2, 3] rfl)
  by_cases cz16 : z = 16
  · subst cz16
    refine lv_tableIn (off := 649) (tgt := 682) C.1 C.2.1 dL_law_33 (by decide) (by decide) (by decide) (by decide) ?_
    exact law_cut (rfl : xs 1 = xs 1) (rfl : xs 2 = xs 2) (rfl : xs 3 = xs 3) C aks hX hbl hbA hrt hlocks hAe tail (k_sub Wd [0, 1, 2, 3, 4, 5, 6, 7, 16, 46, 48] rfl (by decide) [0, 17] rfl) (lv_sub hl [0, 1, 2, 3] rfl)
  by_cases cz17 : z = 17
  · subst cz17
    refine lv_tableIn (off := 692) (tgt := 725) C.1 C.2.1 dL_law_33 (by decide) (by decide) (by decide) (by decide) ?_
    exact law_registers (rfl : xs 1 = xs 1) (rfl : xs 2 = xs 2) C aks hX hbl hbA hrt hlocks hAe tail (k_sub Wd [0, 1, 2, 3, 4, 5, 6, 7, 40, 41, 42, 43, 44, 45, 46, 48, 70, 71] rfl (by decide) [0, 12, 13, 14, 15, 17, 39, 40] rfl) (lv_sub hl [0, 1, 2, 3] rfl)
  by_cases cz18 : z = 18
  · subst cz18
    refine lv_tableIn (off := 725) (tgt := 758) C.1 C.2.1 dL_law_33 (by decide) (by decide) (by decide) (by decide) ?_
    exact law_clash (rfl : xs 1 = xs 1) (rfl : xs 2 = xs 2) (rfl : xs 3 = xs 3) C aks hX hbl hbA hrt hlocks hAe tail (k_sub Wd [0, 1, 2, 3, 4, 5, 6, 7, 40, 41, 42, 43, 44, 46, 48, 70] rfl (by decide) [0, 12, 13, 14, 17, 39] rfl) (lv_sub hl [0, 1, 2, 3] rfl)
  refine lv_tableOut (tgt := 801) C.1 C.2.1 dL_law_33 (by have z0 := kz_ne cz0; have z1 := kz_ne cz1; have z2 := kz_ne cz2; have z3 := kz_ne cz3; have z4 := kz_ne cz4; have z5 := kz_ne cz5; have z6 := kz_ne cz6; have z7 := kz_ne cz7; have z8 := kz_ne cz8; have z9 := kz_ne cz9; have z10 := kz_ne cz10; have z11 := kz_ne cz11; have z12 := kz_ne cz12; have z13 := kz_ne cz13; have z14 := kz_ne cz14; have z15 := kz_ne cz15; have z16 := kz_ne cz16; have z17 := kz_ne cz17; have z18 := kz_ne cz18; have t0 : (0 : Int32).toInt = 0 := (by decide); have t1 : (1 : Int32).toInt = 1 := (by decide); have t2 : (2 : Int32).toInt = 2 := (by decide); have t3 : (3 : Int32).toInt = 3 := (by decide); have t4 : (4 : Int32).toInt = 4 := (by decide); have t5 : (5 : Int32).toInt = 5 := (by decide); have t6 : (6 : Int32).toInt = 6 := (by decide); have t7 : (7 : Int32).toInt = 7 := (by decide); have t8 : (8 : Int32).toInt = 8 := (by decide); have t9 : (9 : Int32).toInt = 9 := (by decide); have t10 : (10 : Int32).toInt = 10 := (by decide); have t11 : (11 : Int32).toInt = 11 := (by decide); have t12 : (12 : Int32).toInt = 12 := (by decide); have t13 : (13 : Int32).toInt = 13 := (by decide); have t14 : (14 : Int32).toInt = 14 := (by decide); have t15 : (15 : Int32).toInt = 15 := (by decide); have t16 : (16 : Int32).toInt = 16 := (by decide); have t17 : (17 : Int32).toInt = 17 := (by decide); have t18 : (18 : Int32).toInt = 18 := (by decide); omega) (by decide) ?_
  exact tail _ _ _ (k_sub Wd [] rfl (by decide) [] rfl) (lv_sub hl [0, 3] rfl)
