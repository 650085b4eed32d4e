set_option maxHeartbeats 4000000 in
set_option maxRecDepth 100000 in
theorem law_feed {p : Program} {l : Launch} {e : Env} {s : State} {m : MethodId} {below : List Frame} {meth : Method} {c : Code} {b : Nat} {xs : Nat → Int32} {D : va_G} {A : Nat → Prop} {e5990 : ClassId} {e6135 : ClassId} {q5961 : Nat} {q5963 : Nat} {q5964 : Nat} {q5965 : Nat} {q5966 : Nat} {q5967 : Nat} {q5968 : Nat} {q5969 : Nat} {q5984 : Nat} {q5985 : Nat} {q5986 : Nat} {q5987 : Nat} {q5988 : Nat} {q5989 : Nat} {q6104 : Nat} {q6106 : Nat} {q6107 : Nat} {q6108 : Nat} {q6109 : Nat} {q6110 : Nat} {q6111 : Nat} {q6112 : Nat} {q6113 : Nat} {q6114 : Nat} {q6115 : Nat} {q6116 : Nat} {q6117 : Nat} {q6118 : Nat} {q6119 : Nat} {q6120 : Nat} {q6121 : Nat} {q6122 : Nat} {q6123 : Nat} {q6124 : Nat} {q6125 : Nat} {q6126 : Nat} {q6127 : Nat} {q6128 : Nat} {q6129 : Nat} {q6130 : Nat} {y1 : Int32} (hy1 : xs 1 = y1) {y2 : Int32} (hy2 : xs 2 = y2) {y3 : Int32} (hy3 : xs 3 = y3) {y4 : Int32} (hy4 : xs 4 = y4) {y5 : Int32} (hy5 : xs 5 = y5) {H : Heap} {locs : List Loc} {ls : Array Slot} (C : CallFix p m c cL_law 4 s #[Value.ref b] gG RL) (aks : aK s) (hX : va_X b 6 xs s s.heap) (hbl : b < s.heap.size) (hbA : ¬ A b) (hrt : meth.sig.returnType = ret) (hlocks : meth.locks = false) (hAe : A = fun q => s.heap.size ≤ q) (tail : (∀ (H : Heap) (locs : List Loc) (ls : Array Slot), wX D [] s [] H A s.heap locs → lv_has ls 4 [(3, .int 0), (0, .ref b)] → W p l e room_1 s m #[Value.ref b] below meth c H locs 271 91330 (lw_Z below #[Value.ref b] s) (F0 m 801 ls []))) (Wd : wX D [(e5990, .int), (e6135, .int)] s [(q5961, .inr (11, [.ref q5963, .int 0, .ref q5964, .ref q5965, .ref q5966, .ref q5967, .ref q5968, .ref q5969])), (q5965, .inr (6, [.ref q5984, .int 0, .int (-1), .ref q5985, .null, .int 0, .int 0, .int 0, .int 0, .int 0, .int 0, .int 0, .int 0, .int 0, .ref q5986, .ref q5987, .ref q5988])), (q5984, .inr (10, [.ref q5989, .int 0, .int 0, .int 0, .int 0, .int 0])), (q5989, .inl (e5990, 800, .inl (fun _ => 0))), (q6104, .inr (12, [.ref q6106, .ref q6107, .ref q6108, .ref q6109, .int 0, .int 0, .ref q6110, .int 0, .int 0, .int 0, .int 0, .int 0, .int 0, .int 0, .int 0, .int 0, .int 0, .int 0, .int 0, .int 0, .int (-1), .int 0, .int 0, .int 0, .ref q6111, .ref q6112, .ref q6113, .ref q6114, .ref q6115, .ref q6116, .int 0, .int 0, .int 0, .int 0, .ref q6117, .ref q6118, .ref q6119, .int 0, .int 0, .int 0, .int 0, .ref q6120, .ref q6121, .int 0, .ref q6122, .ref q6123, .int 0, .ref q6124, .int 0, .ref q6125, .ref q6126, .ref q6127, .int 0, .ref q6128, .ref q6129, .ref q6130])), (q6110, .inl (e6135, 800, .inl (fun _ => 0)))] H A s.heap locs) (hl : lv_has ls 4 [(3, .int 0), (2, .ref q6104), (1, .ref q5961), (0, .ref b)]) : W p l e room_1 s m #[Value.ref b] below meth c H locs 271 91330 (lw_Z below #[Value.ref b] s) (F0 m 124 ls []) := by
  refine lv_aload_n C.1 C.2.1 dL_law_124 rfl (lv_at hl 2 rfl) ?_
  refine lv_aload_n C.1 C.2.1 dL_law_125 rfl (lv_at hl 3 rfl) ?_
  refine lv_iload_n C.1 C.2.1 dL_law_126 rfl (lv_at hl 0 rfl) ?_
  refine lv_iconst (v := 1) C.1 C.2.1 dL_law_127 (by decide) ?_
  refine k_iadd (v := 1) C (by decide) dL_law_128 ?_
  refine k_sld (v := y1) C hX hbl hbA Wd (vp_in_iff.mpr (by decide)) hy1 dL_law_129 ?_
  refine lv_aload_n C.1 C.2.1 dL_law_130 rfl (lv_at hl 3 rfl) ?_
  refine lv_iload_n C.1 C.2.1 dL_law_131 rfl (lv_at hl 0 rfl) ?_
  refine lv_iconst (v := 2) C.1 C.2.1 dL_law_132 (by decide) ?_
  refine k_iadd (v := 2) C (by decide) dL_law_133 ?_
  refine k_sld (v := y2) C hX hbl hbA Wd (vp_in_iff.mpr (by decide)) hy2 dL_law_134 ?_
  refine lv_aload_n C.1 C.2.1 dL_law_135 rfl (lv_at hl 3 rfl) ?_
  refine lv_iload_n C.1 C.2.1 dL_law_136 rfl (lv_at hl 0 rfl) ?_
  refine lv_iconst (v := 3) C.1 C.2.1 dL_law_137 (by decide) ?_
  refine k_iadd (v := 3) C (by decide) dL_law_138 ?_
  refine k_sld (v := y3) C hX hbl hbA Wd (vp_in_iff.mpr (by decide)) hy3 dL_law_139 ?_
  refine lv_aload_n C.1 C.2.1 dL_law_140 rfl (lv_at hl 3 rfl) ?_
  refine lv_iload_n C.1 C.2.1 dL_law_141 rfl (lv_at hl 0 rfl) ?_
  refine lv_iconst (v := 4) C.1 C.2.1 dL_law_142 (by decide) ?_
  refine k_iadd (v := 4) C (by decide) dL_law_143 ?_
  refine k_sld (v := y4) C hX hbl hbA Wd (vp_in_iff.mpr (by decide)) hy4 dL_law_144 ?_
  refine lv_aload_n C.1 C.2.1 dL_law_145 rfl (lv_at hl 3 rfl) ?_
  refine lv_iload_n C.1 C.2.1 dL_law_146 rfl (lv_at hl 0 rfl) ?_
  refine lv_iconst (v := 5) C.1 C.2.1 dL_law_147 (by decide) ?_
  refine k_iadd (v := 5) C (by decide) dL_law_148 ?_
  refine k_sld (v := y5) C hX hbl hbA Wd (vp_in_iff.mpr (by decide)) hy5 dL_law_149 ?_
  refine k_ci Wd [0, 1, 2, 3] [4, 5] rfl (wr := [(q6104, .inr (12, [.ref q6106, .ref q6107, .ref q6108, .ref q6109, .int 0, .int 0, .ref q6110, .int 0, .int 0, .int 0, .int 0, .int 0, .int 0, .int 0, .int 0, .int 0, .int 0, .int 0, .int 0, .int 0, .int (-1), .int 0, .int 0, .int 0, .ref q6111, .ref q6112, .ref q6113, .ref q6114, .ref q6115, .ref q6116, .int 0, .int 0, .int 0, .int 0, .ref q6117, .ref q6118, .ref q6119, .int 0, .int 0, .int 0, .int 0, .ref q6120, .ref q6121, .int 0, .ref q6122, .ref q6123, .int 0, .ref q6124, .int 0, .ref q6125, .ref q6126, .ref q6127, .int 0, .ref q6128, .ref q6129, .ref q6130])), (q6110, .inl (e6135, 800, .inl (fun _ => 0)))]) rfl (by decide) (by decide) (cells' := 271) (slots' := 91330) (by decide) (by decide) (k_runV (rest := []) C aks Wd cs_L_13 (kcX11_feed l D q5961 q5963 q5964 q5965 q5966 q5967 q5968 q5969 q5984 q5985 q5986 q5987 q5988 q5989 y1 y2 y3 y4 y5 e5990 _ ) [0, 1, 2, 3] rfl (by decide) [0] rfl 0 11 rfl rfl rfl rfl rfl ⟨(Nat.le_of_ble_eq_true rfl), (Nat.le_of_ble_eq_true rfl)⟩ hl.1 rfl rfl (Nat.le_of_ble_eq_true rfl) ⟨(Nat.le_of_ble_eq_true rfl), (Nat.le_of_ble_eq_true rfl)⟩ dL_law_150) (fun r _ H locs w6156 Wd => ?_)
  have Wd : wX D [(e5990, .int), (e6135, .int)] s [(q6104, .inr (12, [.ref q6106, .ref q6107, .ref q6108, .ref q6109, .int 0, .int 0, .ref q6110, .int 0, .int 0, .int 0, .int 0, .int 0, .int 0, .int 0, .int 0, .int 0, .int 0, .int 0, .int 0, .int 0, .int (-1), .int 0, .int 0, .int 0, .ref q6111, .ref q6112, .ref q6113, .ref q6114, .ref q6115, .ref q6116, .int 0, .int 0, .int 0, .int 0, .ref q6117, .ref q6118, .ref q6119, .int 0, .int 0, .int 0, .int 0, .ref q6120, .ref q6121, .int 0, .ref q6122, .ref q6123, .int 0, .ref q6124, .int 0, .ref q6125, .ref q6126, .ref q6127, .int 0, .ref q6128, .ref q6129, .ref q6130])), (q6110, .inl (e6135, 800, .inl (fun _ => 0)))] _ A s.heap _ := Wd
  obtain rfl := w6156
  refine lv_aload_n C.1 C.2.1 dL_law_153 rfl (lv_at hl 1 rfl) ?_
  refine lv_aload_n C.1 C.2.1 dL_law_154 rfl (lv_at hl 3 rfl) ?_
  refine lv_iload_n C.1 C.2.1 dL_law_155 rfl (lv_at hl 0 rfl) ?_
  refine lv_iconst (v := 1) C.1 C.2.1 dL_law_156 (by decide) ?_
  refine k_iadd (v := 1) C (by decide) dL_law_157 ?_
  refine k_sld (v := y1) C hX hbl hbA Wd (vp_in_iff.mpr (by decide)) hy1 dL_law_158 ?_
  refine lv_aload_n C.1 C.2.1 dL_law_159 rfl (lv_at hl 3 rfl) ?_
  refine lv_iload_n C.1 C.2.1 dL_law_160 rfl (lv_at hl 0 rfl) ?_
  refine lv_iconst (v := 2) C.1 C.2.1 dL_law_161 (by decide) ?_
  refine k_iadd (v := 2) C (by decide) dL_law_162 ?_
  refine k_sld (v := y2) C hX hbl hbA Wd (vp_in_iff.mpr (by decide)) hy2 dL_law_163 ?_
  refine lv_aload_n C.1 C.2.1 dL_law_164 rfl (lv_at hl 3 rfl) ?_
  refine lv_iload_n C.1 C.2.1 dL_law_165 rfl (lv_at hl 0 rfl) ?_
  refine lv_iconst (v := 3) C.1 C.2.1 dL_law_166 (by decide) ?_
  refine k_iadd (v := 3) C (by decide) dL_law_167 ?_
  refine k_sld (v := y3) C hX hbl hbA Wd (vp_in_iff.mpr (by decide)) hy3 dL_law_168 ?_
  refine lv_aload_n C.1 C.2.1 dL_law_169 rfl (lv_at hl 3 rfl) ?_
  refine lv_iload_n C.1 C.2.1 dL_law_170 rfl (lv_at hl 0 rfl) ?_
  refine lv_iconst (v := 4) C.1 C.2.1 dL_law_171 (by decide) ?_
  refine k_iadd (v := 4) C (by decide) dL_law_172 ?_
  refine k_sld (v := y4) C hX hbl hbA Wd (vp_in_iff.mpr (by decide)) hy4 dL_law_173 ?_
  refine lv_aload_n C.1 C.2.1 dL_law_174 rfl (lv_at hl 3 rfl) ?_
  refine lv_iload_n C.1 C.2.1 dL_law_175 rfl (lv_at hl 0 rfl) ?_
  refine lv_iconst (v := 5) C.1 C.2.1 dL_law_176 (by decide) ?_
  refine k_iadd (v := 5) C (by decide) dL_law_177 ?_
  refine k_sld (v := y5) C hX hbl hbA Wd (vp_in_iff.mpr (by decide)) hy5 dL_law_178 ?_
  refine k_ci Wd [0, 1] [] rfl (wr := []) rfl (by decide) (by decide) (cells' := 271) (slots' := 91330) (by decide) (by decide) (k_runV (rest := [.int 20]) C aks Wd cs_L_17 (kcX12_feed l D q6104 q6106 q6107 q6108 q6109 q6110 q6111 q6112 q6113 q6114 q6115 q6116 q6117 q6118 q6119 q6120 q6121 q6122 q6123 q6124 q6125 q6126 q6127 q6128 q6129 q6130 y1 y2 y3 y4 y5 e6135 _ ) [0, 1] rfl (by decide) [1] rfl 0 12 rfl rfl rfl rfl rfl ⟨(Nat.le_of_ble_eq_true rfl), (Nat.le_of_ble_eq_true rfl)⟩ hl.1 rfl rfl (Nat.le_of_ble_eq_true rfl) ⟨(Nat.le_of_ble_eq_true rfl), (Nat.le_of_ble_eq_true rfl)⟩ dL_law_179) (fun r _ H locs w6157 Wd => ?_)
  have Wd : wX D [(e5990, .int), (e6135, .int)] s [] _ A s.heap _ := Wd
  obtain rfl := w6157
  refine lv_icmp_eq (tgt := 801) C.1 C.2.1 dL_law_182 (by decide) (fun _ => ?_) (fun c6158 => absurd c6158 (by decide))
  exact tail _ _ _ (k_sub Wd [] rfl (by decide) [] rfl) (lv_sub hl [0, 3] rfl)
set_option maxHeartbeats 4000000 in
set_option maxRecDepth 100000 in
theorem law_end {p : Program} {l : Launch} {e : Env} {s : State} {m : MethodId} {below : List Frame} {meth : Method} {c : Code} {b : Nat} {xs : Nat → Int32} {D : va_G} {A : Nat → Prop} {q5961 : Nat} {q5963 : Nat} {q5964 : Nat} {q5965 : Nat} {q5966 : Nat} {q5967 : Nat} {q5968 : Nat} {q5969 : Nat} {q5984 : Nat} {q5985 : Nat} {q5986 : Nat} {q5987 : Nat} {q5988 : Nat} {q5989 : Nat} {q6104 : Nat} {q6106 : Nat} {q6107 : Nat} {q6108 : Nat} {q6109 : Nat} {q6110 : Nat} {q6111 : Nat} {q6112 : Nat} {q6113 : Nat} {q6114 : Nat} {q6115 : Nat} {q6116 : Nat} {q6117 : Nat} {q6118 : Nat} {q6119 : Nat} {q6120 : Nat} {q6121 : Nat} {q6122 : Nat} {q6123 : Nat} {q6124 : Nat} {q6125 : Nat} {q6126 : Nat} {q6127 : Nat} {q6128 : Nat} {q6129 : Nat} {q6130 : Nat} {y1 : Int32} (hy1 : xs 1 = y1) {H : Heap} {locs : List Loc} {ls : Array Slot} (C : CallFix p m c cL_law 4 s #[Value.ref b] gG RL) (aks : aK s) (hX : va_X b 6 xs s s.heap) (hbl : b < s.heap.size) (hbA : ¬ A b) (hrt : meth.sig.returnType = ret) (hlocks : meth.locks = false) (hAe : A = fun q => s.heap.size ≤ q) (tail : (∀ (H : Heap) (locs : List Loc) (ls : Array Slot), wX D [] s [] H A s.heap locs → lv_has ls 4 [(3, .int 0), (0, .ref b)] → W p l e room_1 s m #[Value.ref b] below meth c H locs 271 91330 (lw_Z below #[Value.ref b] s) (F0 m 801 ls []))) (Wd : wX D [] s [(q5961, .inr (11, [.ref q5963, .int 0, .ref q5964, .ref q5965, .ref q5966, .ref q5967, .ref q5968, .ref q5969])), (q5965, .inr (6, [.ref q5984, .int 0, .int (-1), .ref q5985, .null, .int 0, .int 0, .int 0, .int 0, .int 0, .int 0, .int 0, .int 0, .int 0, .ref q5986, .ref q5987, .ref q5988])), (q5984, .inr (10, [.ref q5989, .int 0, .int 0, .int 0, .int 0, .int 0])), (q6104, .inr (12, [.ref q6106, .ref q6107, .ref q6108, .ref q6109, .int 0, .int 0, .ref q6110, .int 0, .int 0, .int 0, .int 0, .int 0, .int 0, .int 0, .int 0, .int 0, .int 0, .int 0, .int 0, .int 0, .int (-1), .int 0, .int 0, .int 0, .ref q6111, .ref q6112, .ref q6113, .ref q6114, .ref q6115, .ref q6116, .int 0, .int 0, .int 0, .int 0, .ref q6117, .ref q6118, .ref q6119, .int 0, .int 0, .int 0, .int 0, .ref q6120, .ref q6121, .int 0, .ref q6122, .ref q6123, .int 0, .ref q6124, .int 0, .ref q6125, .ref q6126, .ref q6127, .int 0, .ref q6128, .ref q6129, .ref q6130]))] H A s.heap locs) (hl : lv_has ls 4 [(3, .int 0), (2, .ref q6104), (1, .ref q5961), (0, .ref b)]) : W p l e room_1 s m #[Value.ref b] below meth c H locs 271 91330 (lw_Z below #[Value.ref b] s) (F0 m 187 ls []) := by
  refine lv_aload_n C.1 C.2.1 dL_law_187 rfl (lv_at hl 2 rfl) ?_
  refine lv_aload_n C.1 C.2.1 dL_law_188 rfl (lv_at hl 3 rfl) ?_
  refine lv_iload_n C.1 C.2.1 dL_law_189 rfl (lv_at hl 0 rfl) ?_
  refine lv_iconst (v := 1) C.1 C.2.1 dL_law_190 (by decide) ?_
  refine k_iadd (v := 1) C (by decide) dL_law_191 ?_
  refine k_sld (v := y1) C hX hbl hbA Wd (vp_in_iff.mpr (by decide)) hy1 dL_law_192 ?_
  refine k_ci Wd [0, 1, 2] [3] rfl (wr := [(q6104, .inr (12, [.ref q6106, .ref q6107, .ref q6108, .ref q6109, .int 0, .int 0, .ref q6110, .int 0, .int 0, .int 0, .int 0, .int 0, .int 0, .int 0, .int 0, .int 0, .int 0, .int 0, .int 0, .int 0, .int (-1), .int 0, .int 0, .int 0, .ref q6111, .ref q6112, .ref q6113, .ref q6114, .ref q6115, .ref q6116, .int 0, .int 0, .int 0, .int 0, .ref q6117, .ref q6118, .ref q6119, .int 0, .int 0, .int 0, .int 0, .ref q6120, .ref q6121, .int 0, .ref q6122, .ref q6123, .int 0, .ref q6124, .int 0, .ref q6125, .ref q6126, .ref q6127, .int 0, .ref q6128, .ref q6129, .ref q6130]))]) rfl (by decide) (by decide) (cells' := 271) (slots' := 91330) (by decide) (by decide) (k_runV (rest := []) C aks Wd cs_L_18 (kcX11_end l D q5961 q5963 q5964 q5965 q5966 q5967 q5968 q5969 q5984 q5985 q5986 q5987 q5988 q5989 y1 _ ) [0, 1, 2] rfl (by decide) [] rfl 0 11 rfl rfl rfl rfl rfl ⟨(Nat.le_of_ble_eq_true rfl), (Nat.le_of_ble_eq_true rfl)⟩ hl.1 rfl rfl (Nat.le_of_ble_eq_true rfl) ⟨(Nat.le_of_ble_eq_true rfl), (Nat.le_of_ble_eq_true rfl)⟩ dL_law_193) (fun r _ H locs w6159 Wd => ?_)
  have Wd : wX D [] s [(q6104, .inr (12, [.ref q6106, .ref q6107, .ref q6108, .ref q6109, .int 0, .int 0, .ref q6110, .int 0, .int 0, .int 0, .int 0, .int 0, .int 0, .int 0, .int 0, .int 0, .int 0, .int 0, .int 0, .int 0, .int (-1), .int 0, .int 0, .int 0, .ref q6111, .ref q6112, .ref q6113, .ref q6114, .ref q6115, .ref q6116, .int 0, .int 0, .int 0, .int 0, .ref q6117, .ref q6118, .ref q6119, .int 0, .int 0, .int 0, .int 0, .ref q6120, .ref q6121, .int 0, .ref q6122, .ref q6123, .int 0, .ref q6124, .int 0, .ref q6125, .ref q6126, .ref q6127, .int 0, .ref q6128, .ref q6129, .ref q6130]))] _ A s.heap _ := Wd
  rcases w6159 with ⟨c6160, rfl⟩ | ⟨c6161, c6162, rfl⟩ | ⟨c6163, c6164, rfl⟩
  · refine lv_aload_n C.1 C.2.1 dL_law_196 rfl (lv_at hl 1 rfl) ?_
    refine lv_aload_n C.1 C.2.1 dL_law_197 rfl (lv_at hl 3 rfl) ?_
    refine lv_iload_n C.1 C.2.1 dL_law_198 rfl (lv_at hl 0 rfl) ?_
    refine lv_iconst (v := 1) C.1 C.2.1 dL_law_199 (by decide) ?_
    refine k_iadd (v := 1) C (by decide) dL_law_200 ?_
    refine k_sld (v := y1) C hX hbl hbA Wd (vp_in_iff.mpr (by decide)) hy1 dL_law_201 ?_
    refine k_ci Wd [0] [] rfl (wr := []) rfl (by decide) (by decide) (cells' := 271) (slots' := 91330) (by decide) (by decide) (k_runV (rest := [.int 0]) C aks Wd cs_L_22 (kcX12_end l D q6104 q6106 q6107 q6108 q6109 q6110 q6111 q6112 q6113 q6114 q6115 q6116 q6117 q6118 q6119 q6120 q6121 q6122 q6123 q6124 q6125 q6126 q6127 q6128 q6129 q6130 y1 _ ) [0] rfl (by decide) [] rfl 0 12 rfl rfl rfl rfl rfl ⟨(Nat.le_of_ble_eq_true rfl), (Nat.le_of_ble_eq_true rfl)⟩ hl.1 rfl rfl (Nat.le_of_ble_eq_true rfl) ⟨(Nat.le_of_ble_eq_true rfl), (Nat.le_of_ble_eq_true rfl)⟩ dL_law_202) (fun r _ H locs w6165 Wd => ?_)
    have Wd : wX D [] s [] _ A s.heap _ := Wd
    rcases w6165 with ⟨c6166, rfl⟩ | ⟨c6167, c6168, rfl⟩ | ⟨c6169, c6170, rfl⟩
    · refine lv_icmp_eq (tgt := 801) C.1 C.2.1 dL_law_205 (by decide) (fun _ => ?_) (fun c6171 => absurd c6171 (by decide))
      exact tail _ _ _ (k_sub Wd [] rfl (by decide) [] rfl) (lv_sub hl [0, 3] rfl)
    · exact absurd c6160 c6167
    · exact absurd c6160 c6169
  · refine lv_aload_n C.1 C.2.1 dL_law_196 rfl (lv_at hl 1 rfl) ?_
    refine lv_aload_n C.1 C.2.1 dL_law_197 rfl (lv_at hl 3 rfl) ?_
    refine lv_iload_n C.1 C.2.1 dL_law_198 rfl (lv_at hl 0 rfl) ?_
    refine lv_iconst (v := 1) C.1 C.2.1 dL_law_199 (by decide) ?_
    refine k_iadd (v := 1) C (by decide) dL_law_200 ?_
    refine k_sld (v := y1) C hX hbl hbA Wd (vp_in_iff.mpr (by decide)) hy1 dL_law_201 ?_
    refine k_ci Wd [0] [] rfl (wr := []) rfl (by decide) (by decide) (cells' := 271) (slots' := 91330) (by decide) (by decide) (k_runV (rest := [.int 1]) C aks Wd cs_L_22 (kcX12_end l D q6104 q6106 q6107 q6108 q6109 q6110 q6111 q6112 q6113 q6114 q6115 q6116 q6117 q6118 q6119 q6120 q6121 q6122 q6123 q6124 q6125 q6126 q6127 q6128 q6129 q6130 y1 _ ) [0] rfl (by decide) [] rfl 0 12 rfl rfl rfl rfl rfl ⟨(Nat.le_of_ble_eq_true rfl), (Nat.le_of_ble_eq_true rfl)⟩ hl.1 rfl rfl (Nat.le_of_ble_eq_true rfl) ⟨(Nat.le_of_ble_eq_true rfl), (Nat.le_of_ble_eq_true rfl)⟩ dL_law_202) (fun r _ H locs w6172 Wd => ?_)
    have Wd : wX D [] s [] _ A s.heap _ := Wd
    rcases w6172 with ⟨c6173, rfl⟩ | ⟨c6174, c6175, rfl⟩ | ⟨c6176, c6177, rfl⟩
    · exact absurd c6173 c6161
    · exact False.elim (by have z0 := kz_nlt c6161; have z1 := kz_le c6162; have z2 := kz_nlt c6174; have z3 := kz_lt c6175; have t0 : (0 : Int32).toInt = 0 := (by decide); omega)
    · refine lv_icmp_eq (tgt := 801) C.1 C.2.1 dL_law_205 (by decide) (fun _ => ?_) (fun c6178 => absurd c6178 (by decide))
      exact tail _ _ _ (k_sub Wd [] rfl (by decide) [] rfl) (lv_sub hl [0, 3] rfl)
  · refine lv_aload_n C.1 C.2.1 dL_law_196 rfl (lv_at hl 1 rfl) ?_
    refine lv_aload_n C.1 C.2.1 dL_law_197 rfl (lv_at hl 3 rfl) ?_
    refine lv_iload_n C.1 C.2.1 dL_law_198 rfl (lv_at hl 0 rfl) ?_
    refine lv_iconst (v := 1) C.1 C.2.1 dL_law_199 (by decide) ?_
    refine k_iadd (v := 1) C (by decide) dL_law_200 ?_
    refine k_sld (v := y1) C hX hbl hbA Wd (vp_in_iff.mpr (by decide)) hy1 dL_law_201 ?_
    refine k_ci Wd [0] [] rfl (wr := []) rfl (by decide) (by decide) (cells' := 271) (slots' := 91330) (by decide) (by decide) (k_runV (rest := [.int 0]) C aks Wd cs_L_22 (kcX12_end l D q6104 q6106 q6107 q6108 q6109 q6110 q6111 q6112 q6113 q6114 q6115 q6116 q6117 q6118 q6119 q6120 q6121 q6122 q6123 q6124 q6125 q6126 q6127 q6128 q6129 q6130 y1 _ ) [0] rfl (by decide) [] rfl 0 12 rfl rfl rfl rfl rfl ⟨(Nat.le_of_ble_eq_true rfl), (Nat.le_of_ble_eq_true rfl)⟩ hl.1 rfl rfl (Nat.le_of_ble_eq_true rfl) ⟨(Nat.le_of_ble_eq_true rfl), (Nat.le_of_ble_eq_true rfl)⟩ dL_law_202) (fun r _ H locs w6179 Wd => ?_)
    have Wd : wX D [] s [] _ A s.heap _ := Wd
    rcases w6179 with ⟨c6180, rfl⟩ | ⟨c6181, c6182, rfl⟩ | ⟨c6183, c6184, rfl⟩
    · exact absurd c6180 c6163
    · refine lv_icmp_eq (tgt := 801) C.1 C.2.1 dL_law_205 (by decide) (fun _ => ?_) (fun c6185 => absurd c6185 (by decide))
      exact tail _ _ _ (k_sub Wd [] rfl (by decide) [] rfl) (lv_sub hl [0, 3] rfl)
    · exact False.elim (by have z0 := kz_nlt c6163; have z1 := kz_nle c6164; have z2 := kz_nlt c6183; have z3 := kz_nlt c6184; have t0 : (0 : Int32).toInt = 0 := (by decide); omega)
set_option maxHeartbeats 4000000 in
set_option maxRecDepth 100000 in
theorem law_program {p : Program} {l : Launch} {e : Env} {s : State} {m : MethodId} {below : List Frame} {meth : Method} {c : Code} {b : Nat} {xs : Nat → Int32} {D : va_G} {A : Nat → Prop} {e5970 : ClassId} {e6132 : ClassId} {q5961 : Nat} {q5963 : Nat} {q5964 : Nat} {q5965 : Nat} {q5966 : Nat} {q5967 : Nat} {q5968 : Nat} {q5969 : Nat} {q5971 : Nat} {q5972 : Nat} {q5973 : Nat} {q5974 : Nat} {q5975 : Nat} {q5976 : Nat} {q5977 : Nat} {q5978 : Nat} {q5979 : Nat} {q5980 : Nat} {q5981 : Nat} {q5982 : Nat} {q5983 : Nat} {q5984 : Nat} {q5985 : Nat} {q5986 : Nat} {q5987 : Nat} {q5988 : Nat} {q5989 : Nat} {q6104 : Nat} {q6106 : Nat} {q6107 : Nat} {q6108 : Nat} {q6109 : Nat} {q6110 : Nat} {q6111 : Nat} {q6112 : Nat} {q6113 : Nat} {q6114 : Nat} {q6115 : Nat} {q6116 : Nat} {q6117 : Nat} {q6118 : Nat} {q6119 : Nat} {q6120 : Nat} {q6121 : Nat} {q6122 : Nat} {q6123 : Nat} {q6124 : Nat} {q6125 : Nat} {q6126 : Nat} {q6127 : Nat} {q6128 : Nat} {q6129 : Nat} {q6130 : Nat} {y1 : Int32} (hy1 : xs 1 = y1) {H : Heap} {locs : List Loc} {ls : Array Slot} (C : CallFix p m c cL_law 4 s #[Value.ref b] gG RL) (aks : aK s) (hX : va_X b 6 xs s s.heap) (hbl : b < s.heap.size) (hbA : ¬ A b) (hrt : meth.sig.returnType = ret) (hlocks : meth.locks = false) (hAe : A = fun q => s.heap.size ≤ q) (tail : (∀ (H : Heap) (locs : List Loc) (ls : Array Slot), wX D [] s [] H A s.heap locs → lv_has ls 4 [(3, .int 0), (0, .ref b)] → W p l e room_1 s m #[Value.ref b] below meth c H locs 271 91330 (lw_Z below #[Value.ref b] s) (F0 m 801 ls []))) (Wd : wX D [(e5970, .object RX8), (e6132, .int)] s [(q5961, .inr (11, [.ref q5963, .int 0, .ref q5964, .ref q5965, .ref q5966, .ref q5967, .ref q5968, .ref q5969])), (q5963, .inl (e5970, 6, .inr (.inr (.inr (.inr (va_up (va_up (va_up (va_up (va_up (va_up (fun _ => none) 0 (some q5971)) 1 (some q5972)) 2 (some q5973)) 3 (some q5974)) 4 (some q5975)) 5 (some q5976))))))), (q5971, .inr (8, [.ref q5977, .int 0])), (q5972, .inr (8, [.ref q5978, .int 0])), (q5973, .inr (8, [.ref q5979, .int 0])), (q5974, .inr (8, [.ref q5980, .int 0])), (q5975, .inr (8, [.ref q5981, .int 0])), (q5976, .inr (8, [.ref q5982, .int 0])), (q5964, .inr (8, [.ref q5983, .int 0])), (q5965, .inr (6, [.ref q5984, .int 0, .int (-1), .ref q5985, .null, .int 0, .int 0, .int 0, .int 0, .int 0, .int 0, .int 0, .int 0, .int 0, .ref q5986, .ref q5987, .ref q5988])), (q5984, .inr (10, [.ref q5989, .int 0, .int 0, .int 0, .int 0, .int 0])), (q6104, .inr (12, [.ref q6106, .ref q6107, .ref q6108, .ref q6109, .int 0, .int 0, .ref q6110, .int 0, .int 0, .int 0, .int 0, .int 0, .int 0, .int 0, .int 0, .int 0, .int 0, .int 0, .int 0, .int 0, .int (-1), .int 0, .int 0, .int 0, .ref q6111, .ref q6112, .ref q6113, .ref q6114, .ref q6115, .ref q6116, .int 0, .int 0, .int 0, .int 0, .ref q6117, .ref q6118, .ref q6119, .int 0, .int 0, .int 0, .int 0, .ref q6120, .ref q6121, .int 0, .ref q6122, .ref q6123, .int 0, .ref q6124, .int 0, .ref q6125, .ref q6126, .ref q6127, .int 0, .ref q6128, .ref q6129, .ref q6130])), (q6107, .inl (e6132, 6, .inl (fun _ => 0)))] H A s.heap locs) (hl : lv_has ls 4 [(3, .int 0), (2, .ref q6104), (1, .ref q5961), (0, .ref b)]) : W p l e room_1 s m #[Value.ref b] below meth c H locs 271 91330 (lw_Z below #[Value.ref b] s) (F0 m 210 ls []) := by
  by_cases c6186 : y1 < 0
  · refine lv_aload_n C.1 C.2.1 dL_law_210 rfl (lv_at hl 2 rfl) ?_
    refine lv_aload_n C.1 C.2.1 dL_law_211 rfl (lv_at hl 3 rfl) ?_
    refine lv_iload_n C.1 C.2.1 dL_law_212 rfl (lv_at hl 0 rfl) ?_
    refine lv_iconst (v := 1) C.1 C.2.1 dL_law_213 (by decide) ?_
    refine k_iadd (v := 1) C (by decide) dL_law_214 ?_
    refine k_sld (v := y1) C hX hbl hbA Wd (vp_in_iff.mpr (by decide)) hy1 dL_law_215 ?_
    refine k_ci Wd [0, 1, 9, 10] [2, 3, 4, 5, 6, 7, 8, 11, 12] rfl (wr := [(q5971, .inr (8, [.ref q5977, .int 0])), (q5972, .inr (8, [.ref q5978, .int 0])), (q5973, .inr (8, [.ref q5979, .int 0])), (q5974, .inr (8, [.ref q5980, .int 0])), (q5975, .inr (8, [.ref q5981, .int 0])), (q5976, .inr (8, [.ref q5982, .int 0])), (q5964, .inr (8, [.ref q5983, .int 0])), (q6104, .inr (12, [.ref q6106, .ref q6107, .ref q6108, .ref q6109, .int 0, .int 0, .ref q6110, .int 0, .int 0, .int 0, .int 0, .int 0, .int 0, .int 0, .int 0, .int 0, .int 0, .int 0, .int 0, .int 0, .int (-1), .int 0, .int 0, .int 0, .ref q6111, .ref q6112, .ref q6113, .ref q6114, .ref q6115, .ref q6116, .int 0, .int 0, .int 0, .int 0, .ref q6117, .ref q6118, .ref q6119, .int 0, .int 0, .int 0, .int 0, .ref q6120, .ref q6121, .int 0, .ref q6122, .ref q6123, .int 0, .ref q6124, .int 0, .ref q6125, .ref q6126, .ref q6127, .int 0, .ref q6128, .ref q6129, .ref q6130])), (q6107, .inl (e6132, 6, .inl (fun _ => 0)))]) rfl (by decide) (by decide) (cells' := 271) (slots' := 91330) (by decide) (by decide) (k_runV (rest := []) C aks Wd cs_L_23 (kcX11_program l D q5961 q5963 q5964 q5965 q5966 q5967 q5968 q5969 q5984 q5985 q5986 q5987 q5988 q5989 y1 (va_up (va_up (va_up (va_up (va_up (va_up (fun _ => none) 0 (some q5971)) 1 (some q5972)) 2 (some q5973)) 3 (some q5974)) 4 (some q5975)) 5 (some q5976)) e5970 _ c6186) [0, 1, 9, 10] rfl (by decide) [0] rfl 0 11 rfl rfl rfl rfl rfl ⟨(Nat.le_of_ble_eq_true rfl), (Nat.le_of_ble_eq_true rfl)⟩ hl.1 rfl rfl (Nat.le_of_ble_eq_true rfl) ⟨(Nat.le_of_ble_eq_true rfl), (Nat.le_of_ble_eq_true rfl)⟩ dL_law_216) (fun r _ H locs w6187 Wd => ?_)
    have Wd : wX D [(e5970, .object RX8), (e6132, .int)] s [(q5971, .inr (8, [.ref q5977, .int 0])), (q5972, .inr (8, [.ref q5978, .int 0])), (q5973, .inr (8, [.ref q5979, .int 0])), (q5974, .inr (8, [.ref q5980, .int 0])), (q5975, .inr (8, [.ref q5981, .int 0])), (q5976, .inr (8, [.ref q5982, .int 0])), (q5964, .inr (8, [.ref q5983, .int 0])), (q6104, .inr (12, [.ref q6106, .ref q6107, .ref q6108, .ref q6109, .int 0, .int 0, .ref q6110, .int 0, .int 0, .int 0, .int 0, .int 0, .int 0, .int 0, .int 0, .int 0, .int 0, .int 0, .int 0, .int 0, .int (-1), .int 0, .int 0, .int 0, .ref q6111, .ref q6112, .ref q6113, .ref q6114, .ref q6115, .ref q6116, .int 0, .int 0, .int 0, .int 0, .ref q6117, .ref q6118, .ref q6119, .int 0, .int 0, .int 0, .int 0, .ref q6120, .ref q6121, .int 0, .ref q6122, .ref q6123, .int 0, .ref q6124, .int 0, .ref q6125, .ref q6126, .ref q6127, .int 0, .ref q6128, .ref q6129, .ref q6130])), (q6107, .inl (e6132, 6, .inl (fun _ => 0)))] _ A s.heap _ := Wd
    obtain ⟨c6188, rfl⟩ := w6187
    refine lv_aload_n C.1 C.2.1 dL_law_219 rfl (lv_at hl 1 rfl) ?_
    refine lv_aload_n C.1 C.2.1 dL_law_220 rfl (lv_at hl 3 rfl) ?_
    refine lv_iload_n C.1 C.2.1 dL_law_221 rfl (lv_at hl 0 rfl) ?_
    refine lv_iconst (v := 1) C.1 C.2.1 dL_law_222 (by decide) ?_
    refine k_iadd (v := 1) C (by decide) dL_law_223 ?_
    refine k_sld (v := y1) C hX hbl hbA Wd (vp_in_iff.mpr (by decide)) hy1 dL_law_224 ?_
    refine k_ci Wd [7, 8] [0, 1, 2, 3, 4, 5, 6] rfl (wr := [(q5971, .inr (8, [.ref q5977, .int 0])), (q5972, .inr (8, [.ref q5978, .int 0])), (q5973, .inr (8, [.ref q5979, .int 0])), (q5974, .inr (8, [.ref q5980, .int 0])), (q5975, .inr (8, [.ref q5981, .int 0])), (q5976, .inr (8, [.ref q5982, .int 0])), (q5964, .inr (8, [.ref q5983, .int 0]))]) rfl (by decide) (by decide) (cells' := 271) (slots' := 91330) (by decide) (by decide) (k_runV (rest := [.int (-1)]) C aks Wd cs_L_27 (kcX12_program l D q6104 q6106 q6107 q6108 q6109 q6110 q6111 q6112 q6113 q6114 q6115 q6116 q6117 q6118 q6119 q6120 q6121 q6122 q6123 q6124 q6125 q6126 q6127 q6128 q6129 q6130 y1 e6132 _ ) [7, 8] rfl (by decide) [1] rfl 7 12 rfl rfl rfl rfl rfl ⟨(Nat.le_of_ble_eq_true rfl), (Nat.le_of_ble_eq_true rfl)⟩ hl.1 rfl rfl (Nat.le_of_ble_eq_true rfl) ⟨(Nat.le_of_ble_eq_true rfl), (Nat.le_of_ble_eq_true rfl)⟩ dL_law_225) (fun r _ H locs w6189 Wd => ?_)
    have Wd : wX D [(e5970, .object RX8), (e6132, .int)] s [(q5971, .inr (8, [.ref q5977, .int 0])), (q5972, .inr (8, [.ref q5978, .int 0])), (q5973, .inr (8, [.ref q5979, .int 0])), (q5974, .inr (8, [.ref q5980, .int 0])), (q5975, .inr (8, [.ref q5981, .int 0])), (q5976, .inr (8, [.ref q5982, .int 0])), (q5964, .inr (8, [.ref q5983, .int 0]))] _ A s.heap _ := Wd
    rcases w6189 with ⟨c6190, rfl⟩ | ⟨c6191, c6192, rfl⟩ | ⟨c6193, c6194, rfl⟩
    · refine lv_icmp_eq (tgt := 801) C.1 C.2.1 dL_law_228 (by decide) (fun _ => ?_) (fun c6195 => absurd c6195 (by decide))
      exact tail _ _ _ (k_sub Wd [] rfl (by decide) [] rfl) (lv_sub hl [0, 3] rfl)
    · exact absurd c6186 c6191
    · exact absurd c6186 c6193
  by_cases c6196 : y1 < 6
  · have hsel : ∃ (q6197 q6198 : Nat), (va_up (va_up (va_up (va_up (va_up (va_up (fun _ => none) 0 (some q5971)) 1 (some q5972)) 2 (some q5973)) 3 (some q5974)) 4 (some q5975)) 5 (some q5976)) y1.toNatClampNeg = some q6197 ∧ wX D [(e5970, .object RX8), (e6132, .int)] s [(q5961, .inr (11, [.ref q5963, .int 0, .ref q5964, .ref q5965, .ref q5966, .ref q5967, .ref q5968, .ref q5969])), (q5963, .inl (e5970, 6, .inr (.inr (.inr (.inr (va_up (va_up (va_up (va_up (va_up (va_up (fun _ => none) 0 (some q5971)) 1 (some q5972)) 2 (some q5973)) 3 (some q5974)) 4 (some q5975)) 5 (some q5976))))))), (q5964, .inr (8, [.ref q5983, .int 0])), (q5965, .inr (6, [.ref q5984, .int 0, .int (-1), .ref q5985, .null, .int 0, .int 0, .int 0, .int 0, .int 0, .int 0, .int 0, .int 0, .int 0, .ref q5986, .ref q5987, .ref q5988])), (q5984, .inr (10, [.ref q5989, .int 0, .int 0, .int 0, .int 0, .int 0])), (q6104, .inr (12, [.ref q6106, .ref q6107, .ref q6108, .ref q6109, .int 0, .int 0, .ref q6110, .int 0, .int 0, .int 0, .int 0, .int 0, .int 0, .int 0, .int 0, .int 0, .int 0, .int 0, .int 0, .int 0, .int (-1), .int 0, .int 0, .int 0, .ref q6111, .ref q6112, .ref q6113, .ref q6114, .ref q6115, .ref q6116, .int 0, .int 0, .int 0, .int 0, .ref q6117, .ref q6118, .ref q6119, .int 0, .int 0, .int 0, .int 0, .ref q6120, .ref q6121, .int 0, .ref q6122, .ref q6123, .int 0, .ref q6124, .int 0, .ref q6125, .ref q6126, .ref q6127, .int 0, .ref q6128, .ref q6129, .ref q6130])), (q6107, .inl (e6132, 6, .inl (fun _ => 0))), (q6197, .inr (8, [.ref q6198, .int 0]))] H A s.heap locs := by
      rcases kf6 c6186 c6196 with rfl | rfl | rfl | rfl | rfl | rfl
      · exact ⟨q5971, q5977, rfl, k_sub Wd [0, 1, 8, 9, 10, 11, 12, 2] rfl (by decide) [0, 1] rfl⟩
      · exact ⟨q5972, q5978, rfl, k_sub Wd [0, 1, 8, 9, 10, 11, 12, 3] rfl (by decide) [0, 1] rfl⟩
      · exact ⟨q5973, q5979, rfl, k_sub Wd [0, 1, 8, 9, 10, 11, 12, 4] rfl (by decide) [0, 1] rfl⟩
      · exact ⟨q5974, q5980, rfl, k_sub Wd [0, 1, 8, 9, 10, 11, 12, 5] rfl (by decide) [0, 1] rfl⟩
      · exact ⟨q5975, q5981, rfl, k_sub Wd [0, 1, 8, 9, 10, 11, 12, 6] rfl (by decide) [0, 1] rfl⟩
      · exact ⟨q5976, q5982, rfl, k_sub Wd [0, 1, 8, 9, 10, 11, 12, 7] rfl (by decide) [0, 1] rfl⟩
    obtain ⟨q6197, q6198, hk6199, Wd⟩ := hsel
    refine lv_aload_n C.1 C.2.1 dL_law_210 rfl (lv_at hl 2 rfl) ?_
    refine lv_aload_n C.1 C.2.1 dL_law_211 rfl (lv_at hl 3 rfl) ?_
    refine lv_iload_n C.1 C.2.1 dL_law_212 rfl (lv_at hl 0 rfl) ?_
    refine lv_iconst (v := 1) C.1 C.2.1 dL_law_213 (by decide) ?_
    refine k_iadd (v := 1) C (by decide) dL_law_214 ?_
    refine k_sld (v := y1) C hX hbl hbA Wd (vp_in_iff.mpr (by decide)) hy1 dL_law_215 ?_
    refine k_ci Wd [0, 1, 3, 2, 4, 7] [5, 6] rfl (wr := [(q6104, .inr (12, [.ref q6106, .ref q6107, .ref q6108, .ref q6109, .int 0, .int 0, .ref q6110, .int 0, .int 0, .int 0, .int 0, .int 0, .int 0, .int 0, .int 0, .int 0, .int 0, .int 0, .int 0, .int 0, .int (-1), .int 0, .int 0, .int 0, .ref q6111, .ref q6112, .ref q6113, .ref q6114, .ref q6115, .ref q6116, .int 0, .int 0, .int 0, .int 0, .ref q6117, .ref q6118, .ref q6119, .int 0, .int 0, .int 0, .int 0, .ref q6120, .ref q6121, .int 0, .ref q6122, .ref q6123, .int 0, .ref q6124, .int 0, .ref q6125, .ref q6126, .ref q6127, .int 0, .ref q6128, .ref q6129, .ref q6130])), (q6107, .inl (e6132, 6, .inl (fun _ => 0)))]) rfl (by decide) (by decide) (cells' := 271) (slots' := 91330) (by decide) (by decide) (k_runV (rest := []) C aks Wd cs_L_23 (kcX11_program_v2 l D q5961 q5963 q5964 q5965 q5966 q5967 q5968 q5969 q6197 q5983 q5984 q5985 q5986 q5987 q5988 q6198 q5989 y1 (va_up (va_up (va_up (va_up (va_up (va_up (fun _ => none) 0 (some q5971)) 1 (some q5972)) 2 (some q5973)) 3 (some q5974)) 4 (some q5975)) 5 (some q5976)) e5970 _ hk6199 c6186 c6196) [0, 1, 3, 2, 4, 7] rfl (by decide) [0] rfl 0 11 rfl rfl rfl rfl rfl ⟨(Nat.le_of_ble_eq_true rfl), (Nat.le_of_ble_eq_true rfl)⟩ hl.1 rfl rfl (Nat.le_of_ble_eq_true rfl) ⟨(Nat.le_of_ble_eq_true rfl), (Nat.le_of_ble_eq_true rfl)⟩ dL_law_216) (fun r _ H locs w6200 Wd => ?_)
    have Wd : wX D [(e5970, .object RX8), (e6132, .int)] s [(q6104, .inr (12, [.ref q6106, .ref q6107, .ref q6108, .ref q6109, .int 0, .int 0, .ref q6110, .int 0, .int 0, .int 0, .int 0, .int 0, .int 0, .int 0, .int 0, .int 0, .int 0, .int 0, .int 0, .int 0, .int (-1), .int 0, .int 0, .int 0, .ref q6111, .ref q6112, .ref q6113, .ref q6114, .ref q6115, .ref q6116, .int 0, .int 0, .int 0, .int 0, .ref q6117, .ref q6118, .ref q6119, .int 0, .int 0, .int 0, .int 0, .ref q6120, .ref q6121, .int 0, .ref q6122, .ref q6123, .int 0, .ref q6124, .int 0, .ref q6125, .ref q6126, .ref q6127, .int 0, .ref q6128, .ref q6129, .ref q6130])), (q6107, .inl (e6132, 6, .inl (fun _ => 0)))] _ A s.heap _ := Wd
    obtain ⟨c6201, c6202, rfl⟩ := w6200
    refine lv_aload_n C.1 C.2.1 dL_law_219 rfl (lv_at hl 1 rfl) ?_
    refine lv_aload_n C.1 C.2.1 dL_law_220 rfl (lv_at hl 3 rfl) ?_
    refine lv_iload_n C.1 C.2.1 dL_law_221 rfl (lv_at hl 0 rfl) ?_
    refine lv_iconst (v := 1) C.1 C.2.1 dL_law_222 (by decide) ?_
    refine k_iadd (v := 1) C (by decide) dL_law_223 ?_
    refine k_sld (v := y1) C hX hbl hbA Wd (vp_in_iff.mpr (by decide)) hy1 dL_law_224 ?_
    refine k_ci Wd [0, 1] [] rfl (wr := []) rfl (by decide) (by decide) (cells' := 271) (slots' := 91330) (by decide) (by decide) (k_runV (rest := [.int 0]) C aks Wd cs_L_27 (kcX12_program l D q6104 q6106 q6107 q6108 q6109 q6110 q6111 q6112 q6113 q6114 q6115 q6116 q6117 q6118 q6119 q6120 q6121 q6122 q6123 q6124 q6125 q6126 q6127 q6128 q6129 q6130 y1 e6132 _ ) [0, 1] rfl (by decide) [1] rfl 0 12 rfl rfl rfl rfl rfl ⟨(Nat.le_of_ble_eq_true rfl), (Nat.le_of_ble_eq_true rfl)⟩ hl.1 rfl rfl (Nat.le_of_ble_eq_true rfl) ⟨(Nat.le_of_ble_eq_true rfl), (Nat.le_of_ble_eq_true rfl)⟩ dL_law_225) (fun r _ H locs w6203 Wd => ?_)
    have Wd : wX D [(e5970, .object RX8), (e6132, .int)] s [] _ A s.heap _ := Wd
    rcases w6203 with ⟨c6204, rfl⟩ | ⟨c6205, c6206, rfl⟩ | ⟨c6207, c6208, rfl⟩
    · exact absurd c6204 c6186
    · exact False.elim (by have z0 := kz_nlt c6186; have z1 := kz_lt c6196; have z2 := kz_nlt c6201; have z3 := kz_nle c6202; have z4 := kz_nlt c6205; have z5 := kz_lt c6206; have t0 : (0 : Int32).toInt = 0 := (by decide); have t6 : (6 : Int32).toInt = 6 := (by decide); have t5 : (5 : Int32).toInt = 5 := (by decide); omega)
    · refine lv_icmp_eq (tgt := 801) C.1 C.2.1 dL_law_228 (by decide) (fun _ => ?_) (fun c6209 => absurd c6209 (by decide))
      exact tail _ _ _ (k_sub Wd [] rfl (by decide) [] rfl) (lv_sub hl [0, 3] rfl)
  refine lv_aload_n C.1 C.2.1 dL_law_210 rfl (lv_at hl 2 rfl) ?_
  refine lv_aload_n C.1 C.2.1 dL_law_211 rfl (lv_at hl 3 rfl) ?_
  refine lv_iload_n C.1 C.2.1 dL_law_212 rfl (lv_at hl 0 rfl) ?_
  refine lv_iconst (v := 1) C.1 C.2.1 dL_law_213 (by decide) ?_
  refine k_iadd (v := 1) C (by decide) dL_law_214 ?_
  refine k_sld (v := y1) C hX hbl hbA Wd (vp_in_iff.mpr (by decide)) hy1 dL_law_215 ?_
  refine k_ci Wd [0, 1, 9, 10] [2, 3, 4, 5, 6, 7, 8, 11, 12] rfl (wr := [(q5971, .inr (8, [.ref q5977, .int 0])), (q5972, .inr (8, [.ref q5978, .int 0])), (q5973, .inr (8, [.ref q5979, .int 0])), (q5974, .inr (8, [.ref q5980, .int 0])), (q5975, .inr (8, [.ref q5981, .int 0])), (q5976, .inr (8, [.ref q5982, .int 0])), (q5964, .inr (8, [.ref q5983, .int 0])), (q6104, .inr (12, [.ref q6106, .ref q6107, .ref q6108, .ref q6109, .int 0, .int 0, .ref q6110, .int 0, .int 0, .int 0, .int 0, .int 0, .int 0, .int 0, .int 0, .int 0, .int 0, .int 0, .int 0, .int 0, .int (-1), .int 0, .int 0, .int 0, .ref q6111, .ref q6112, .ref q6113, .ref q6114, .ref q6115, .ref q6116, .int 0, .int 0, .int 0, .int 0, .ref q6117, .ref q6118, .ref q6119, .int 0, .int 0, .int 0, .int 0, .ref q6120, .ref q6121, .int 0, .ref q6122, .ref q6123, .int 0, .ref q6124, .int 0, .ref q6125, .ref q6126, .ref q6127, .int 0, .ref q6128, .ref q6129, .ref q6130])), (q6107, .inl (e6132, 6, .inl (fun _ => 0)))]) rfl (by decide) (by decide) (cells' := 271) (slots' := 91330) (by decide) (by decide) (k_runV (rest := []) C aks Wd cs_L_23 (kcX11_program_v1 l D q5961 q5963 q5964 q5965 q5966 q5967 q5968 q5969 q5984 q5985 q5986 q5987 q5988 q5989 y1 (va_up (va_up (va_up (va_up (va_up (va_up (fun _ => none) 0 (some q5971)) 1 (some q5972)) 2 (some q5973)) 3 (some q5974)) 4 (some q5975)) 5 (some q5976)) e5970 _ c6196) [0, 1, 9, 10] rfl (by decide) [0] rfl 0 11 rfl rfl rfl rfl rfl ⟨(Nat.le_of_ble_eq_true rfl), (Nat.le_of_ble_eq_true rfl)⟩ hl.1 rfl rfl (Nat.le_of_ble_eq_true rfl) ⟨(Nat.le_of_ble_eq_true rfl), (Nat.le_of_ble_eq_true rfl)⟩ dL_law_216) (fun r _ H locs w6210 Wd => ?_)
  have Wd : wX D [(e5970, .object RX8), (e6132, .int)] s [(q5971, .inr (8, [.ref q5977, .int 0])), (q5972, .inr (8, [.ref q5978, .int 0])), (q5973, .inr (8, [.ref q5979, .int 0])), (q5974, .inr (8, [.ref q5980, .int 0])), (q5975, .inr (8, [.ref q5981, .int 0])), (q5976, .inr (8, [.ref q5982, .int 0])), (q5964, .inr (8, [.ref q5983, .int 0])), (q6104, .inr (12, [.ref q6106, .ref q6107, .ref q6108, .ref q6109, .int 0, .int 0, .ref q6110, .int 0, .int 0, .int 0, .int 0, .int 0, .int 0, .int 0, .int 0, .int 0, .int 0, .int 0, .int 0, .int 0, .int (-1), .int 0, .int 0, .int 0, .ref q6111, .ref q6112, .ref q6113, .ref q6114, .ref q6115, .ref q6116, .int 0, .int 0, .int 0, .int 0, .ref q6117, .ref q6118, .ref q6119, .int 0, .int 0, .int 0, .int 0, .ref q6120, .ref q6121, .int 0, .ref q6122, .ref q6123, .int 0, .ref q6124, .int 0, .ref q6125, .ref q6126, .ref q6127, .int 0, .ref q6128, .ref q6129, .ref q6130])), (q6107, .inl (e6132, 6, .inl (fun _ => 0)))] _ A s.heap _ := Wd
  obtain ⟨c6211, c6212, rfl⟩ := w6210
  refine lv_aload_n C.1 C.2.1 dL_law_219 rfl (lv_at hl 1 rfl) ?_
  refine lv_aload_n C.1 C.2.1 dL_law_220 rfl (lv_at hl 3 rfl) ?_
  refine lv_iload_n C.1 C.2.1 dL_law_221 rfl (lv_at hl 0 rfl) ?_
  refine lv_iconst (v := 1) C.1 C.2.1 dL_law_222 (by decide) ?_
  refine k_iadd (v := 1) C (by decide) dL_law_223 ?_
  refine k_sld (v := y1) C hX hbl hbA Wd (vp_in_iff.mpr (by decide)) hy1 dL_law_224 ?_
  refine k_ci Wd [7, 8] [0, 1, 2, 3, 4, 5, 6] rfl (wr := [(q5971, .inr (8, [.ref q5977, .int 0])), (q5972, .inr (8, [.ref q5978, .int 0])), (q5973, .inr (8, [.ref q5979, .int 0])), (q5974, .inr (8, [.ref q5980, .int 0])), (q5975, .inr (8, [.ref q5981, .int 0])), (q5976, .inr (8, [.ref q5982, .int 0])), (q5964, .inr (8, [.ref q5983, .int 0]))]) rfl (by decide) (by decide) (cells' := 271) (slots' := 91330) (by decide) (by decide) (k_runV (rest := [.int (-1)]) C aks Wd cs_L_27 (kcX12_program l D q6104 q6106 q6107 q6108 q6109 q6110 q6111 q6112 q6113 q6114 q6115 q6116 q6117 q6118 q6119 q6120 q6121 q6122 q6123 q6124 q6125 q6126 q6127 q6128 q6129 q6130 y1 e6132 _ ) [7, 8] rfl (by decide) [1] rfl 7 12 rfl rfl rfl rfl rfl ⟨(Nat.le_of_ble_eq_true rfl), (Nat.le_of_ble_eq_true rfl)⟩ hl.1 rfl rfl (Nat.le_of_ble_eq_true rfl) ⟨(Nat.le_of_ble_eq_true rfl), (Nat.le_of_ble_eq_true rfl)⟩ dL_law_225) (fun r _ H locs w6213 Wd => ?_)
  have Wd : wX D [(e5970, .object RX8), (e6132, .int)] s [(q5971, .inr (8, [.ref q5977, .int 0])), (q5972, .inr (8, [.ref q5978, .int 0])), (q5973, .inr (8, [.ref q5979, .int 0])), (q5974, .inr (8, [.ref q5980, .int 0])), (q5975, .inr (8, [.ref q5981, .int 0])), (q5976, .inr (8, [.ref q5982, .int 0])), (q5964, .inr (8, [.ref q5983, .int 0]))] _ A s.heap _ := Wd
  rcases w6213 with ⟨c6214, rfl⟩ | ⟨c6215, c6216, rfl⟩ | ⟨c6217, c6218, rfl⟩
  · exact absurd c6214 c6186
  · refine lv_icmp_eq (tgt := 801) C.1 C.2.1 dL_law_228 (by decide) (fun _ => ?_) (fun c6219 => absurd c6219 (by decide))
    exact tail _ _ _ (k_sub Wd [] rfl (by decide) [] rfl) (lv_sub hl [0, 3] rfl)
  · exact False.elim (by have z0 := kz_nlt c6186; have z1 := kz_nlt c6196; have z2 := kz_nlt c6211; have z3 := kz_le c6212; have z4 := kz_nlt c6217; have z5 := kz_nlt c6218; have t0 : (0 : Int32).toInt = 0 := (by decide); have t6 : (6 : Int32).toInt = 6 := (by decide); have t5 : (5 : Int32).toInt = 5 := (by decide); omega)
set_option maxHeartbeats 4000000 in
set_option maxRecDepth 100000 in
theorem law_rule {p : Program} {l : Launch} {e : Env} {s : State} {m : MethodId} {below : List Frame} {meth : Method} {c : Code} {b : Nat} {xs : Nat → Int32} {D : va_G} {A : Nat → Prop} {e6018 : ClassId} {q5961 : Nat} {q5963 : Nat} {q5964 : Nat} {q5965 : Nat} {q5966 : Nat} {q5967 : Nat} {q5968 : Nat} {q5969 : Nat} {q5984 : Nat} {q5985 : Nat} {q5986 : Nat} {q5987 : Nat} {q5988 : Nat} {q5989 : Nat} {q6010 : Nat} {q6011 : Nat} {q6012 : Nat} {q6013 : Nat} {q6014 : Nat} {q6015 : Nat} {q6016 : Nat} {q6017 : Nat} {q6019 : Nat} {q6020 : Nat} {q6021 : Nat} {q6022 : Nat} {q6023 : Nat} {q6024 : Nat} {q6025 : Nat} {q6026 : Nat} {q6027 : Nat} {q6028 : Nat} {q6029 : Nat} {q6030 : Nat} {q6031 : Nat} {q6032 : Nat} {q6033 : Nat} {q6034 : Nat} {q6035 : Nat} {q6036 : Nat} {q6104 : Nat} {q6106 : Nat} {q6107 : Nat} {q6108 : Nat} {q6109 : Nat} {q6110 : Nat} {q6111 : Nat} {q6112 : Nat} {q6113 : Nat} {q6114 : Nat} {q6115 : Nat} {q6116 : Nat} {q6117 : Nat} {q6118 : Nat} {q6119 : Nat} {q6120 : Nat} {q6121 : Nat} {q6122 : Nat} {q6123 : Nat} {q6124 : Nat} {q6125 : Nat} {q6126 : Nat} {q6127 : Nat} {q6128 : Nat} {q6129 : Nat} {q6130 : Nat}  {H : Heap} {locs : List Loc} {ls : Array Slot} (C : CallFix p m c cL_law 4 s #[Value.ref b] gG RL) (aks : aK s) (hX : va_X b 6 xs s s.heap) (hbl : b < s.heap.size) (hbA : ¬ A b) (hrt : meth.sig.returnType = ret) (hlocks : meth.locks = false) (hAe : A = fun q => s.heap.size ≤ q) (tail : (∀ (H : Heap) (locs : List Loc) (ls : Array Slot), wX D [] s [] H A s.heap locs → lv_has ls 4 [(3, .int 0), (0, .ref b)] → W p l e room_1 s m #[Value.ref b] below meth c H locs 271 91330 (lw_Z below #[Value.ref b] s) (F0 m 801 ls []))) (Wd : wX D [(e6018, .object RX9)] s [(q5961, .inr (11, [.ref q5963, .int 0, .ref q5964, .ref q5965, .ref q5966, .ref q5967, .ref q5968, .ref q5969])), (q5965, .inr (6, [.ref q5984, .int 0, .int (-1), .ref q5985, .null, .int 0, .int 0, .int 0, .int 0, .int 0, .int 0, .int 0, .int 0, .int 0, .ref q5986, .ref q5987, .ref q5988])), (q5984, .inr (10, [.ref q5989, .int 0, .int 0, .int 0, .int 0, .int 0])), (q5968, .inr (4, [.ref q6010, .ref q6011, .ref q6012, .int (-1), .int (-1), .ref q6013, .ref q6014, .ref q6015, .ref q6016, .ref q6017])), (q6013, .inl (e6018, 12, .inr (.inr (.inr (.inr (va_up (va_up (va_up (va_up (va_up (va_up (va_up (va_up (va_up (va_up (va_up (va_up (fun _ => none) 0 (some q6019)) 1 (some q6020)) 2 (some q6021)) 3 (some q6022)) 4 (some q6023)) 5 (some q6024)) 6 (some q6025)) 7 (some q6026)) 8 (some q6027)) 9 (some q6028)) 10 (some q6029)) 11 (some q6030))))))), (q6019, .inr (9, [.ref q6031, .ref q6032, .int 0, .ref q6033, .ref q6034])), (q6031, .inr (8, [.ref q6035, .int 0])), (q6032, .inr (8, [.ref q6036, .int 0])), (q6104, .inr (12, [.ref q6106, .ref q6107, .ref q6108, .ref q6109, .int 0, .int 0, .ref q6110, .int 0, .int 0, .int 0, .int 0, .int 0, .int 0, .int 0, .int 0, .int 0, .int 0, .int 0, .int 0, .int 0, .int (-1), .int 0, .int 0, .int 0, .ref q6111, .ref q6112, .ref q6113, .ref q6114, .ref q6115, .ref q6116, .int 0, .int 0, .int 0, .int 0, .ref q6117, .ref q6118, .ref q6119, .int 0, .int 0, .int 0, .int 0, .ref q6120, .ref q6121, .int 0, .ref q6122, .ref q6123, .int 0, .ref q6124, .int 0, .ref q6125, .ref q6126, .ref q6127, .int 0, .ref q6128, .ref q6129, .ref q6130]))] H A s.heap locs) (hl : lv_has ls 4 [(3, .int 0), (2, .ref q6104), (1, .ref q5961), (0, .ref b)]) : W p l e room_1 s m #[Value.ref b] below meth c H locs 271 91330 (lw_Z below #[Value.ref b] s) (F0 m 233 ls []) := by
  refine lv_aload_n C.1 C.2.1 dL_law_233 rfl (lv_at hl 2 rfl) ?_
  refine k_ci Wd [0, 3, 4, 5, 6, 7, 1, 2] [8] rfl (wr := [(q6104, .inr (12, [.ref q6106, .ref q6107, .ref q6108, .ref q6109, .int 0, .int 0, .ref q6110, .int 0, .int 0, .int 0, .int 0, .int 0, .int 0, .int 0, .int 0, .int 0, .int 0, .int 0, .int 0, .int 0, .int (-1), .int 0, .int 0, .int 0, .ref q6111, .ref q6112, .ref q6113, .ref q6114, .ref q6115, .ref q6116, .int 0, .int 0, .int 0, .int 0, .ref q6117, .ref q6118, .ref q6119, .int 0, .int 0, .int 0, .int 0, .ref q6120, .ref q6121, .int 0, .ref q6122, .ref q6123, .int 0, .ref q6124, .int 0, .ref q6125, .ref q6126, .ref q6127, .int 0, .ref q6128, .ref q6129, .ref q6130]))]) rfl (by decide) (by decide) (cells' := 271) (slots' := 91330) (by decide) (by decide) (k_runV (rest := []) C aks Wd cs_L_28 (kcX11_rule l D q5961 q5963 q5964 q5965 q5966 q5967 q5968 q5969 q5984 q5985 q5986 q5987 q5988 q6010 q6011 q6012 q6013 q6014 q6015 q6016 q6017 q5989 q6019 q6031 q6032 q6033 q6034 q6035 q6036 (va_up (va_up (va_up (va_up (va_up (va_up (va_up (va_up (va_up (va_up (va_up (va_up (fun _ => none) 0 (some q6019)) 1 (some q6020)) 2 (some q6021)) 3 (some q6022)) 4 (some q6023)) 5 (some q6024)) 6 (some q6025)) 7 (some q6026)) 8 (some q6027)) 9 (some q6028)) 10 (some q6029)) 11 (some q6030)) e6018 _ rfl) [0, 3, 4, 5, 6, 7, 1, 2] rfl (by decide) [0] rfl 0 11 rfl rfl rfl rfl rfl ⟨(Nat.le_of_ble_eq_true rfl), (Nat.le_of_ble_eq_true rfl)⟩ hl.1 rfl rfl (Nat.le_of_ble_eq_true rfl) ⟨(Nat.le_of_ble_eq_true rfl), (Nat.le_of_ble_eq_true rfl)⟩ dL_law_234) (fun r _ H locs w6220 Wd => ?_)
  have Wd : wX D [(e6018, .object RX9)] s [(q6104, .inr (12, [.ref q6106, .ref q6107, .ref q6108, .ref q6109, .int 0, .int 0, .ref q6110, .int 0, .int 0, .int 0, .int 0, .int 0, .int 0, .int 0, .int 0, .int 0, .int 0, .int 0, .int 0, .int 0, .int (-1), .int 0, .int 0, .int 0, .ref q6111, .ref q6112, .ref q6113, .ref q6114, .ref q6115, .ref q6116, .int 0, .int 0, .int 0, .int 0, .ref q6117, .ref q6118, .ref q6119, .int 0, .int 0, .int 0, .int 0, .ref q6120, .ref q6121, .int 0, .ref q6122, .ref q6123, .int 0, .ref q6124, .int 0, .ref q6125, .ref q6126, .ref q6127, .int 0, .ref q6128, .ref q6129, .ref q6130]))] _ A s.heap _ := Wd
  obtain rfl := w6220
  refine lv_aload_n C.1 C.2.1 dL_law_237 rfl (lv_at hl 1 rfl) ?_
  refine k_ci Wd [0] [] rfl (wr := []) rfl (by decide) (by decide) (cells' := 271) (slots' := 91330) (by decide) (by decide) (k_runV (rest := [.int (-1)]) C aks Wd cs_L_32 (kcX12_rule l D q6104 q6106 q6107 q6108 q6109 q6110 q6111 q6112 q6113 q6114 q6115 q6116 q6117 q6118 q6119 q6120 q6121 q6122 q6123 q6124 q6125 q6126 q6127 q6128 q6129 q6130 _ ) [0] rfl (by decide) [] rfl 0 12 rfl rfl rfl rfl rfl ⟨(Nat.le_of_ble_eq_true rfl), (Nat.le_of_ble_eq_true rfl)⟩ hl.1 rfl rfl (Nat.le_of_ble_eq_true rfl) ⟨(Nat.le_of_ble_eq_true rfl), (Nat.le_of_ble_eq_true rfl)⟩ dL_law_238) (fun r _ H locs w6221 Wd => ?_)
  have Wd : wX D [(e6018, .object RX9)] s [] _ A s.heap _ := Wd
  obtain rfl := w6221
  refine lv_icmp_eq (tgt := 801) C.1 C.2.1 dL_law_241 (by decide) (fun _ => ?_) (fun c6222 => absurd c6222 (by decide))
  exact tail _ _ _ (k_sub Wd [] rfl (by decide) [] rfl) (lv_sub hl [0, 3] rfl)
set_option maxHeartbeats 4000000 in
set_option maxRecDepth 100000 in
theorem law_fault {p : Program} {l : Launch} {e : Env} {s : State} {m : MethodId} {below : List Frame} {meth : Method} {c : Code} {b : Nat} {xs : Nat → Int32} {D : va_G} {A : Nat → Prop} {q5961 : Nat} {q5963 : Nat} {q5964 : Nat} {q5965 : Nat} {q5966 : Nat} {q5967 : Nat} {q5968 : Nat} {q5969 : Nat} {q5984 : Nat} {q5985 : Nat} {q5986 : Nat} {q5987 : Nat} {q5988 : Nat} {q6104 : Nat} {q6106 : Nat} {q6107 : Nat} {q6108 : Nat} {q6109 : Nat} {q6110 : Nat} {q6111 : Nat} {q6112 : Nat} {q6113 : Nat} {q6114 : Nat} {q6115 : Nat} {q6116 : Nat} {q6117 : Nat} {q6118 : Nat} {q6119 : Nat} {q6120 : Nat} {q6121 : Nat} {q6122 : Nat} {q6123 : Nat} {q6124 : Nat} {q6125 : Nat} {q6126 : Nat} {q6127 : Nat} {q6128 : Nat} {q6129 : Nat} {q6130 : Nat} {y1 : Int32} (hy1 : xs 1 = y1) {H : Heap} {locs : List Loc} {ls : Array Slot} (C : CallFix p m c cL_law 4 s #[Value.ref b] gG RL) (aks : aK s) (hX : va_X b 6 xs s s.heap) (hbl : b < s.heap.size) (hbA : ¬ A b) (hrt : meth.sig.returnType = ret) (hlocks : meth.locks = false) (hAe : A = fun q => s.heap.size ≤ q) (tail : (∀ (H : Heap) (locs : List Loc) (ls : Array Slot), wX D [] s [] H A s.heap locs → lv_has ls 4 [(3, .int 0), (0, .ref b)] → W p l e room_1 s m #[Value.ref b] below meth c H locs 271 91330 (lw_Z below #[Value.ref b] s) (F0 m 801 ls []))) (Wd : wX D [] s [(q5961, .inr (11, [.ref q5963, .int 0, .ref q5964, .ref q5965, .ref q5966, .ref q5967, .ref q5968, .ref q5969])), (q5965, .inr (6, [.ref q5984, .int 0, .int (-1), .ref q5985, .null, .int 0, .int 0, .int 0, .int 0, .int 0, .int 0, .int 0, .int 0, .int 0, .ref q5986, .ref q5987, .ref q5988])), (q6104, .inr (12, [.ref q6106, .ref q6107, .ref q6108, .ref q6109, .int 0, .int 0, .ref q6110, .int 0, .int 0, .int 0, .int 0, .int 0, .int 0, .int 0, .int 0, .int 0, .int 0, .int 0, .int 0, .int 0, .int (-1), .int 0, .int 0, .int 0, .ref q6111, .ref q6112, .ref q6113, .ref q6114, .ref q6115, .ref q6116, .int 0, .int 0, .int 0, .int 0, .ref q6117, .ref q6118, .ref q6119, .int 0, .int 0, .int 0, .int 0, .ref q6120, .ref q6121, .int 0, .ref q6122, .ref q6123, .int 0, .ref q6124, .int 0, .ref q6125, .ref q6126, .ref q6127, .int 0, .ref q6128, .ref q6129, .ref q6130]))] H A s.heap locs) (hl : lv_has ls 4 [(3, .int 0), (2, .ref q6104), (1, .ref q5961), (0, .ref b)]) : W p l e room_1 s m #[Value.ref b] below meth c H locs 271 91330 (lw_Z below #[Value.ref b] s) (F0 m 246 ls []) := by
  refine lv_aload_n C.1 C.2.1 dL_law_246 rfl (lv_at hl 2 rfl) ?_
  refine lv_aload_n C.1 C.2.1 dL_law_247 rfl (lv_at hl 3 rfl) ?_
  refine lv_iload_n C.1 C.2.1 dL_law_248 rfl (lv_at hl 0 rfl) ?_
  refine lv_iconst (v := 1) C.1 C.2.1 dL_law_249 (by decide) ?_
  refine k_iadd (v := 1) C (by decide) dL_law_250 ?_
  refine k_sld (v := y1) C hX hbl hbA Wd (vp_in_iff.mpr (by decide)) hy1 dL_law_251 ?_
  refine k_pi (k_runV (rest := []) C aks Wd cs_L_33 (kcX11_fault l D q5961 q5963 q5964 q5965 q5966 q5967 q5968 q5969 q5984 q5985 q5986 q5987 q5988 y1 _ ) [0, 1] rfl (by decide) [] rfl 0 11 rfl rfl rfl rfl rfl ⟨(Nat.le_of_ble_eq_true rfl), (Nat.le_of_ble_eq_true rfl)⟩ hl.1 rfl rfl (Nat.le_of_ble_eq_true rfl) ⟨(Nat.le_of_ble_eq_true rfl), (Nat.le_of_ble_eq_true rfl)⟩ dL_law_252) (fun r w6223 => ?_)
  rcases w6223 with ⟨c6224, c6225, rfl⟩ | ⟨c6226, c6227, rfl⟩ | ⟨c6228, rfl⟩
  · refine lv_aload_n C.1 C.2.1 dL_law_255 rfl (lv_at hl 1 rfl) ?_
    refine lv_aload_n C.1 C.2.1 dL_law_256 rfl (lv_at hl 3 rfl) ?_
    refine lv_iload_n C.1 C.2.1 dL_law_257 rfl (lv_at hl 0 rfl) ?_
    refine lv_iconst (v := 1) C.1 C.2.1 dL_law_258 (by decide) ?_
    refine k_iadd (v := 1) C (by decide) dL_law_259 ?_
    refine k_sld (v := y1) C hX hbl hbA Wd (vp_in_iff.mpr (by decide)) hy1 dL_law_260 ?_
    refine k_pi (k_runV (rest := [.int (-1)]) C aks Wd cs_L_36 (kcX12_fault l D q6104 q6106 q6107 q6108 q6109 q6110 q6111 q6112 q6113 q6114 q6115 q6116 q6117 q6118 q6119 q6120 q6121 q6122 q6123 q6124 q6125 q6126 q6127 q6128 q6129 q6130 y1 _ ) [2] rfl (by decide) [] rfl 2 12 rfl rfl rfl rfl rfl ⟨(Nat.le_of_ble_eq_true rfl), (Nat.le_of_ble_eq_true rfl)⟩ hl.1 rfl rfl (Nat.le_of_ble_eq_true rfl) ⟨(Nat.le_of_ble_eq_true rfl), (Nat.le_of_ble_eq_true rfl)⟩ dL_law_261) (fun r w6229 => ?_)
    rcases w6229 with ⟨c6230, c6231, rfl⟩ | ⟨c6232, c6233, rfl⟩ | ⟨c6234, rfl⟩
    · refine lv_icmp_eq (tgt := 801) C.1 C.2.1 dL_law_264 (by decide) (fun _ => ?_) (fun c6235 => absurd c6235 (by decide))
      exact tail _ _ _ (k_sub Wd [] rfl (by decide) [] rfl) (lv_sub hl [0, 3] rfl)
    · exact absurd c6233 c6225
    · exact absurd c6234 c6224
  · refine lv_aload_n C.1 C.2.1 dL_law_255 rfl (lv_at hl 1 rfl) ?_
    refine lv_aload_n C.1 C.2.1 dL_law_256 rfl (lv_at hl 3 rfl) ?_
    refine lv_iload_n C.1 C.2.1 dL_law_257 rfl (lv_at hl 0 rfl) ?_
    refine lv_iconst (v := 1) C.1 C.2.1 dL_law_258 (by decide) ?_
    refine k_iadd (v := 1) C (by decide) dL_law_259 ?_
    refine k_sld (v := y1) C hX hbl hbA Wd (vp_in_iff.mpr (by decide)) hy1 dL_law_260 ?_
    refine k_pi (k_runV (rest := [.int (-1)]) C aks Wd cs_L_36 (kcX12_fault l D q6104 q6106 q6107 q6108 q6109 q6110 q6111 q6112 q6113 q6114 q6115 q6116 q6117 q6118 q6119 q6120 q6121 q6122 q6123 q6124 q6125 q6126 q6127 q6128 q6129 q6130 y1 _ ) [2] rfl (by decide) [] rfl 2 12 rfl rfl rfl rfl rfl ⟨(Nat.le_of_ble_eq_true rfl), (Nat.le_of_ble_eq_true rfl)⟩ hl.1 rfl rfl (Nat.le_of_ble_eq_true rfl) ⟨(Nat.le_of_ble_eq_true rfl), (Nat.le_of_ble_eq_true rfl)⟩ dL_law_261) (fun r w6236 => ?_)
    rcases w6236 with ⟨c6237, c6238, rfl⟩ | ⟨c6239, c6240, rfl⟩ | ⟨c6241, rfl⟩
    · exact absurd c6227 c6238
    · refine lv_icmp_eq (tgt := 801) C.1 C.2.1 dL_law_264 (by decide) (fun _ => ?_) (fun c6242 => absurd c6242 (by decide))
      exact tail _ _ _ (k_sub Wd [] rfl (by decide) [] rfl) (lv_sub hl [0, 3] rfl)
    · exact absurd c6241 c6226
  · refine lv_aload_n C.1 C.2.1 dL_law_255 rfl (lv_at hl 1 rfl) ?_
    refine lv_aload_n C.1 C.2.1 dL_law_256 rfl (lv_at hl 3 rfl) ?_
    refine lv_iload_n C.1 C.2.1 dL_law_257 rfl (lv_at hl 0 rfl) ?_
    refine lv_iconst (v := 1) C.1 C.2.1 dL_law_258 (by decide) ?_
    refine k_iadd (v := 1) C (by decide) dL_law_259 ?_
    refine k_sld (v := y1) C hX hbl hbA Wd (vp_in_iff.mpr (by decide)) hy1 dL_law_260 ?_
    refine k_pi (k_runV (rest := [.int 0]) C aks Wd cs_L_36 (kcX12_fault l D q6104 q6106 q6107 q6108 q6109 q6110 q6111 q6112 q6113 q6114 q6115 q6116 q6117 q6118 q6119 q6120 q6121 q6122 q6123 q6124 q6125 q6126 q6127 q6128 q6129 q6130 y1 _ ) [2] rfl (by decide) [] rfl 2 12 rfl rfl rfl rfl rfl ⟨(Nat.le_of_ble_eq_true rfl), (Nat.le_of_ble_eq_true rfl)⟩ hl.1 rfl rfl (Nat.le_of_ble_eq_true rfl) ⟨(Nat.le_of_ble_eq_true rfl), (Nat.le_of_ble_eq_true rfl)⟩ dL_law_261) (fun r w6243 => ?_)
    rcases w6243 with ⟨c6244, c6245, rfl⟩ | ⟨c6246, c6247, rfl⟩ | ⟨c6248, rfl⟩
    · exact absurd c6228 c6244
    · exact absurd c6228 c6246
    · refine lv_icmp_eq (tgt := 801) C.1 C.2.1 dL_law_264 (by decide) (fun _ => ?_) (fun c6249 => absurd c6249 (by decide))
      exact tail _ _ _ (k_sub Wd [] rfl (by decide) [] rfl) (lv_sub hl [0, 3] rfl)
set_option maxHeartbeats 4000000 in
set_option maxRecDepth 100000 in
theorem law_at {p : Program} {l : Launch} {e : Env} {s : State} {m : MethodId} {below : List Frame} {meth : Method} {c : Code} {b : Nat} {xs : Nat → Int32} {D : va_G} {A : Nat → Prop} {e5970 : ClassId} {e6132 : ClassId} {q5961 : Nat} {q5963 : Nat} {q5964 : Nat} {q5965 : Nat} {q5966 : Nat} {q5967 : Nat} {q5968 : Nat} {q5969 : Nat} {q5971 : Nat} {q5972 : Nat} {q5973 : Nat} {q5974 : Nat} {q5975 : Nat} {q5976 : Nat} {q5977 : Nat} {q5978 : Nat} {q5979 : Nat} {q5980 : Nat} {q5981 : Nat} {q5982 : Nat} {q6104 : Nat} {q6106 : Nat} {q6107 : Nat} {q6108 : Nat} {q6109 : Nat} {q6110 : Nat} {q6111 : Nat} {q6112 : Nat} {q6113 : Nat} {q6114 : Nat} {q6115 : Nat} {q6116 : Nat} {q6117 : Nat} {q6118 : Nat} {q6119 : Nat} {q6120 : Nat} {q6121 : Nat} {q6122 : Nat} {q6123 : Nat} {q6124 : Nat} {q6125 : Nat} {q6126 : Nat} {q6127 : Nat} {q6128 : Nat} {q6129 : Nat} {q6130 : Nat} {y1 : Int32} (hy1 : xs 1 = y1) {y2 : Int32} (hy2 : xs 2 = y2) {H : Heap} {locs : List Loc} {ls : Array Slot} (C : CallFix p m c cL_law 4 s #[Value.ref b] gG RL) (aks : aK s) (hX : va_X b 6 xs s s.heap) (hbl : b < s.heap.size) (hbA : ¬ A b) (hrt : meth.sig.returnType = ret) (hlocks : meth.locks = false) (hAe : A = fun q => s.heap.size ≤ q) (tail : (∀ (H : Heap) (locs : List Loc) (ls : Array Slot), wX D [] s [] H A s.heap locs → lv_has ls 4 [(3, .int 0), (0, .ref b)] → W p l e room_1 s m #[Value.ref b] below meth c H locs 271 91330 (lw_Z below #[Value.ref b] s) (F0 m 801 ls []))) (Wd : wX D [(e5970, .object RX8), (e6132, .int)] s [(q5961, .inr (11, [.ref q5963, .int 0, .ref q5964, .ref q5965, .ref q5966, .ref q5967, .ref q5968, .ref q5969])), (q5963, .inl (e5970, 6, .inr (.inr (.inr (.inr (va_up (va_up (va_up (va_up (va_up (va_up (fun _ => none) 0 (some q5971)) 1 (some q5972)) 2 (some q5973)) 3 (some q5974)) 4 (some q5975)) 5 (some q5976))))))), (q5971, .inr (8, [.ref q5977, .int 0])), (q5972, .inr (8, [.ref q5978, .int 0])), (q5973, .inr (8, [.ref q5979, .int 0])), (q5974, .inr (8, [.ref q5980, .int 0])), (q5975, .inr (8, [.ref q5981, .int 0])), (q5976, .inr (8, [.ref q5982, .int 0])), (q6104, .inr (12, [.ref q6106, .ref q6107, .ref q6108, .ref q6109, .int 0, .int 0, .ref q6110, .int 0, .int 0, .int 0, .int 0, .int 0, .int 0, .int 0, .int 0, .int 0, .int 0, .int 0, .int 0, .int 0, .int (-1), .int 0, .int 0, .int 0, .ref q6111, .ref q6112, .ref q6113, .ref q6114, .ref q6115, .ref q6116, .int 0, .int 0, .int 0, .int 0, .ref q6117, .ref q6118, .ref q6119, .int 0, .int 0, .int 0, .int 0, .ref q6120, .ref q6121, .int 0, .ref q6122, .ref q6123, .int 0, .ref q6124, .int 0, .ref q6125, .ref q6126, .ref q6127, .int 0, .ref q6128, .ref q6129, .ref q6130])), (q6107, .inl (e6132, 6, .inl (fun _ => 0)))] H A s.heap locs) (hl : lv_has ls 4 [(3, .int 0), (2, .ref q6104), (1, .ref q5961), (0, .ref b)]) : W p l e room_1 s m #[Value.ref b] below meth c H locs 271 91330 (lw_Z below #[Value.ref b] s) (F0 m 269 ls []) := by
  by_cases c6250 : y1 < 0
  · refine lv_aload_n C.1 C.2.1 dL_law_269 rfl (lv_at hl 2 rfl) ?_
    refine lv_aload_n C.1 C.2.1 dL_law_270 rfl (lv_at hl 3 rfl) ?_
    refine lv_iload_n C.1 C.2.1 dL_law_271 rfl (lv_at hl 0 rfl) ?_
    refine lv_iconst (v := 1) C.1 C.2.1 dL_law_272 (by decide) ?_
    refine k_iadd (v := 1) C (by decide) dL_law_273 ?_
    refine k_sld (v := y1) C hX hbl hbA Wd (vp_in_iff.mpr (by decide)) hy1 dL_law_274 ?_
    refine lv_aload_n C.1 C.2.1 dL_law_275 rfl (lv_at hl 3 rfl) ?_
    refine lv_iload_n C.1 C.2.1 dL_law_276 rfl (lv_at hl 0 rfl) ?_
    refine lv_iconst (v := 2) C.1 C.2.1 dL_law_277 (by decide) ?_
    refine k_iadd (v := 2) C (by decide) dL_law_278 ?_
    refine k_sld (v := y2) C hX hbl hbA Wd (vp_in_iff.mpr (by decide)) hy2 dL_law_279 ?_
    refine k_pi (k_runV (rest := []) C aks Wd cs_L_37 (kcX11_at l D q5961 q5963 q5964 q5965 q5966 q5967 q5968 q5969 y1 y2 (va_up (va_up (va_up (va_up (va_up (va_up (fun _ => none) 0 (some q5971)) 1 (some q5972)) 2 (some q5973)) 3 (some q5974)) 4 (some q5975)) 5 (some q5976)) e5970 _ c6250) [0, 1] rfl (by decide) [0] rfl 0 11 rfl rfl rfl rfl rfl ⟨(Nat.le_of_ble_eq_true rfl), (Nat.le_of_ble_eq_true rfl)⟩ hl.1 rfl rfl (Nat.le_of_ble_eq_true rfl) ⟨(Nat.le_of_ble_eq_true rfl), (Nat.le_of_ble_eq_true rfl)⟩ dL_law_280) (fun r w6251 => ?_)
    obtain ⟨c6252, rfl⟩ := w6251
    refine lv_aload_n C.1 C.2.1 dL_law_283 rfl (lv_at hl 1 rfl) ?_
    refine lv_aload_n C.1 C.2.1 dL_law_284 rfl (lv_at hl 3 rfl) ?_
    refine lv_iload_n C.1 C.2.1 dL_law_285 rfl (lv_at hl 0 rfl) ?_
    refine lv_iconst (v := 1) C.1 C.2.1 dL_law_286 (by decide) ?_
    refine k_iadd (v := 1) C (by decide) dL_law_287 ?_
    refine k_sld (v := y1) C hX hbl hbA Wd (vp_in_iff.mpr (by decide)) hy1 dL_law_288 ?_
    refine lv_aload_n C.1 C.2.1 dL_law_289 rfl (lv_at hl 3 rfl) ?_
    refine lv_iload_n C.1 C.2.1 dL_law_290 rfl (lv_at hl 0 rfl) ?_
    refine lv_iconst (v := 2) C.1 C.2.1 dL_law_291 (by decide) ?_
    refine k_iadd (v := 2) C (by decide) dL_law_292 ?_
    refine k_sld (v := y2) C hX hbl hbA Wd (vp_in_iff.mpr (by decide)) hy2 dL_law_293 ?_
    refine k_pi (k_runV (rest := [.int (-1)]) C aks Wd cs_L_41 (kcX12_at l D q6104 q6106 q6107 q6108 q6109 q6110 q6111 q6112 q6113 q6114 q6115 q6116 q6117 q6118 q6119 q6120 q6121 q6122 q6123 q6124 q6125 q6126 q6127 q6128 q6129 q6130 y1 y2 e6132 _ ) [8, 9] rfl (by decide) [1] rfl 8 12 rfl rfl rfl rfl rfl ⟨(Nat.le_of_ble_eq_true rfl), (Nat.le_of_ble_eq_true rfl)⟩ hl.1 rfl rfl (Nat.le_of_ble_eq_true rfl) ⟨(Nat.le_of_ble_eq_true rfl), (Nat.le_of_ble_eq_true rfl)⟩ dL_law_294) (fun r w6253 => ?_)
    rcases w6253 with ⟨c6254, rfl⟩ | ⟨c6255, c6256, rfl⟩ | ⟨c6257, c6258, c6259, rfl⟩ | ⟨c6260, c6261, c6262, c6263, rfl⟩
    · refine lv_icmp_eq (tgt := 801) C.1 C.2.1 dL_law_297 (by decide) (fun _ => ?_) (fun c6264 => absurd c6264 (by decide))
      exact tail _ _ _ (k_sub Wd [] rfl (by decide) [] rfl) (lv_sub hl [0, 3] rfl)
    · exact absurd c6250 c6255
    · exact absurd c6250 c6257
    · exact absurd c6250 c6260
  by_cases c6265 : y1 < 6
  · have hsel : ∃ (q6266 q6267 : Nat), (va_up (va_up (va_up (va_up (va_up (va_up (fun _ => none) 0 (some q5971)) 1 (some q5972)) 2 (some q5973)) 3 (some q5974)) 4 (some q5975)) 5 (some q5976)) y1.toNatClampNeg = some q6266 ∧ wX D [(e5970, .object RX8), (e6132, .int)] s [(q5961, .inr (11, [.ref q5963, .int 0, .ref q5964, .ref q5965, .ref q5966, .ref q5967, .ref q5968, .ref q5969])), (q5963, .inl (e5970, 6, .inr (.inr (.inr (.inr (va_up (va_up (va_up (va_up (va_up (va_up (fun _ => none) 0 (some q5971)) 1 (some q5972)) 2 (some q5973)) 3 (some q5974)) 4 (some q5975)) 5 (some q5976))))))), (q6104, .inr (12, [.ref q6106, .ref q6107, .ref q6108, .ref q6109, .int 0, .int 0, .ref q6110, .int 0, .int 0, .int 0, .int 0, .int 0, .int 0, .int 0, .int 0, .int 0, .int 0, .int 0, .int 0, .int 0, .int (-1), .int 0, .int 0, .int 0, .ref q6111, .ref q6112, .ref q6113, .ref q6114, .ref q6115, .ref q6116, .int 0, .int 0, .int 0, .int 0, .ref q6117, .ref q6118, .ref q6119, .int 0, .int 0, .int 0, .int 0, .ref q6120, .ref q6121, .int 0, .ref q6122, .ref q6123, .int 0, .ref q6124, .int 0, .ref q6125, .ref q6126, .ref q6127, .int 0, .ref q6128, .ref q6129, .ref q6130])), (q6107, .inl (e6132, 6, .inl (fun _ => 0))), (q6266, .inr (8, [.ref q6267, .int 0]))] H A s.heap locs := by
      rcases kf6 c6250 c6265 with rfl | rfl | rfl | rfl | rfl | rfl
      · exact ⟨q5971, q5977, rfl, k_sub Wd [0, 1, 8, 9, 2] rfl (by decide) [0, 1] rfl⟩
      · exact ⟨q5972, q5978, rfl, k_sub Wd [0, 1, 8, 9, 3] rfl (by decide) [0, 1] rfl⟩
      · exact ⟨q5973, q5979, rfl, k_sub Wd [0, 1, 8, 9, 4] rfl (by decide) [0, 1] rfl⟩
      · exact ⟨q5974, q5980, rfl, k_sub Wd [0, 1, 8, 9, 5] rfl (by decide) [0, 1] rfl⟩
      · exact ⟨q5975, q5981, rfl, k_sub Wd [0, 1, 8, 9, 6] rfl (by decide) [0, 1] rfl⟩
      · exact ⟨q5976, q5982, rfl, k_sub Wd [0, 1, 8, 9, 7] rfl (by decide) [0, 1] rfl⟩
    obtain ⟨q6266, q6267, hk6268, Wd⟩ := hsel
    refine lv_aload_n C.1 C.2.1 dL_law_269 rfl (lv_at hl 2 rfl) ?_
    refine lv_aload_n C.1 C.2.1 dL_law_270 rfl (lv_at hl 3 rfl) ?_
    refine lv_iload_n C.1 C.2.1 dL_law_271 rfl (lv_at hl 0 rfl) ?_
    refine lv_iconst (v := 1) C.1 C.2.1 dL_law_272 (by decide) ?_
    refine k_iadd (v := 1) C (by decide) dL_law_273 ?_
    refine k_sld (v := y1) C hX hbl hbA Wd (vp_in_iff.mpr (by decide)) hy1 dL_law_274 ?_
    refine lv_aload_n C.1 C.2.1 dL_law_275 rfl (lv_at hl 3 rfl) ?_
    refine lv_iload_n C.1 C.2.1 dL_law_276 rfl (lv_at hl 0 rfl) ?_
    refine lv_iconst (v := 2) C.1 C.2.1 dL_law_277 (by decide) ?_
    refine k_iadd (v := 2) C (by decide) dL_law_278 ?_
    refine k_sld (v := y2) C hX hbl hbA Wd (vp_in_iff.mpr (by decide)) hy2 dL_law_279 ?_
    refine k_pi (k_runV (rest := []) C aks Wd cs_L_37 (kcX11_at_v2 l D q5961 q5963 q5964 q5965 q5966 q5967 q5968 q5969 q6266 q6267 y1 y2 (va_up (va_up (va_up (va_up (va_up (va_up (fun _ => none) 0 (some q5971)) 1 (some q5972)) 2 (some q5973)) 3 (some q5974)) 4 (some q5975)) 5 (some q5976)) e5970 _ hk6268 c6250 c6265) [0, 1, 4] rfl (by decide) [0] rfl 0 11 rfl rfl rfl rfl rfl ⟨(Nat.le_of_ble_eq_true rfl), (Nat.le_of_ble_eq_true rfl)⟩ hl.1 rfl rfl (Nat.le_of_ble_eq_true rfl) ⟨(Nat.le_of_ble_eq_true rfl), (Nat.le_of_ble_eq_true rfl)⟩ dL_law_280) (fun r w6269 => ?_)
    rcases w6269 with ⟨c6270, c6271, c6272, rfl⟩ | ⟨c6273, c6274, c6275, rfl⟩
    · refine lv_aload_n C.1 C.2.1 dL_law_283 rfl (lv_at hl 1 rfl) ?_
      refine lv_aload_n C.1 C.2.1 dL_law_284 rfl (lv_at hl 3 rfl) ?_
      refine lv_iload_n C.1 C.2.1 dL_law_285 rfl (lv_at hl 0 rfl) ?_
      refine lv_iconst (v := 1) C.1 C.2.1 dL_law_286 (by decide) ?_
      refine k_iadd (v := 1) C (by decide) dL_law_287 ?_
      refine k_sld (v := y1) C hX hbl hbA Wd (vp_in_iff.mpr (by decide)) hy1 dL_law_288 ?_
      refine lv_aload_n C.1 C.2.1 dL_law_289 rfl (lv_at hl 3 rfl) ?_
      refine lv_iload_n C.1 C.2.1 dL_law_290 rfl (lv_at hl 0 rfl) ?_
      refine lv_iconst (v := 2) C.1 C.2.1 dL_law_291 (by decide) ?_
      refine k_iadd (v := 2) C (by decide) dL_law_292 ?_
      refine k_sld (v := y2) C hX hbl hbA Wd (vp_in_iff.mpr (by decide)) hy2 dL_law_293 ?_
      refine k_pi (k_runV (rest := [.int (-1)]) C aks Wd cs_L_41 (kcX12_at l D q6104 q6106 q6107 q6108 q6109 q6110 q6111 q6112 q6113 q6114 q6115 q6116 q6117 q6118 q6119 q6120 q6121 q6122 q6123 q6124 q6125 q6126 q6127 q6128 q6129 q6130 y1 y2 e6132 _ ) [2, 3] rfl (by decide) [1] rfl 2 12 rfl rfl rfl rfl rfl ⟨(Nat.le_of_ble_eq_true rfl), (Nat.le_of_ble_eq_true rfl)⟩ hl.1 rfl rfl (Nat.le_of_ble_eq_true rfl) ⟨(Nat.le_of_ble_eq_true rfl), (Nat.le_of_ble_eq_true rfl)⟩ dL_law_294) (fun r w6276 => ?_)
      rcases w6276 with ⟨c6277, rfl⟩ | ⟨c6278, c6279, rfl⟩ | ⟨c6280, c6281, c6282, rfl⟩ | ⟨c6283, c6284, c6285, c6286, rfl⟩
      · exact absurd c6277 c6250
      · exact False.elim (by have z0 := kz_nlt c6250; have z1 := kz_lt c6265; have z2 := kz_nlt c6270; have z3 := kz_nle c6271; have z4 := kz_nlt c6278; have z5 := kz_lt c6279; have t0 : (0 : Int32).toInt = 0 := (by decide); have t6 : (6 : Int32).toInt = 6 := (by decide); have t5 : (5 : Int32).toInt = 5 := (by decide); omega)
      · refine lv_icmp_eq (tgt := 801) C.1 C.2.1 dL_law_297 (by decide) (fun _ => ?_) (fun c6287 => absurd c6287 (by decide))
        exact tail _ _ _ (k_sub Wd [] rfl (by decide) [] rfl) (lv_sub hl [0, 3] rfl)
      · exact absurd c6272 c6285
    · refine lv_aload_n C.1 C.2.1 dL_law_283 rfl (lv_at hl 1 rfl) ?_
      refine lv_aload_n C.1 C.2.1 dL_law_284 rfl (lv_at hl 3 rfl) ?_
      refine lv_iload_n C.1 C.2.1 dL_law_285 rfl (lv_at hl 0 rfl) ?_
      refine lv_iconst (v := 1) C.1 C.2.1 dL_law_286 (by decide) ?_
      refine k_iadd (v := 1) C (by decide) dL_law_287 ?_
      refine k_sld (v := y1) C hX hbl hbA Wd (vp_in_iff.mpr (by decide)) hy1 dL_law_288 ?_
      refine lv_aload_n C.1 C.2.1 dL_law_289 rfl (lv_at hl 3 rfl) ?_
      refine lv_iload_n C.1 C.2.1 dL_law_290 rfl (lv_at hl 0 rfl) ?_
      refine lv_iconst (v := 2) C.1 C.2.1 dL_law_291 (by decide) ?_
      refine k_iadd (v := 2) C (by decide) dL_law_292 ?_
      refine k_sld (v := y2) C hX hbl hbA Wd (vp_in_iff.mpr (by decide)) hy2 dL_law_293 ?_
      refine k_pi (k_runV (rest := [.int (-1)]) C aks Wd cs_L_41 (kcX12_at l D q6104 q6106 q6107 q6108 q6109 q6110 q6111 q6112 q6113 q6114 q6115 q6116 q6117 q6118 q6119 q6120 q6121 q6122 q6123 q6124 q6125 q6126 q6127 q6128 q6129 q6130 y1 y2 e6132 _ ) [2, 3] rfl (by decide) [1] rfl 2 12 rfl rfl rfl rfl rfl ⟨(Nat.le_of_ble_eq_true rfl), (Nat.le_of_ble_eq_true rfl)⟩ hl.1 rfl rfl (Nat.le_of_ble_eq_true rfl) ⟨(Nat.le_of_ble_eq_true rfl), (Nat.le_of_ble_eq_true rfl)⟩ dL_law_294) (fun r w6288 => ?_)
      rcases w6288 with ⟨c6289, rfl⟩ | ⟨c6290, c6291, rfl⟩ | ⟨c6292, c6293, c6294, rfl⟩ | ⟨c6295, c6296, c6297, c6298, rfl⟩
      · exact absurd c6289 c6250
      · exact False.elim (by have z0 := kz_nlt c6250; have z1 := kz_lt c6265; have z2 := kz_nlt c6273; have z3 := kz_nle c6274; have z4 := kz_nlt c6290; have z5 := kz_lt c6291; have t0 : (0 : Int32).toInt = 0 := (by decide); have t6 : (6 : Int32).toInt = 6 := (by decide); have t5 : (5 : Int32).toInt = 5 := (by decide); omega)
      · exact absurd c6294 c6275
      · refine lv_icmp_eq (tgt := 801) C.1 C.2.1 dL_law_297 (by decide) (fun _ => ?_) (fun c6299 => absurd c6299 (by decide))
        exact tail _ _ _ (k_sub Wd [] rfl (by decide) [] rfl) (lv_sub hl [0, 3] rfl)
  refine lv_aload_n C.1 C.2.1 dL_law_269 rfl (lv_at hl 2 rfl) ?_
  refine lv_aload_n C.1 C.2.1 dL_law_270 rfl (lv_at hl 3 rfl) ?_
  refine lv_iload_n C.1 C.2.1 dL_law_271 rfl (lv_at hl 0 rfl) ?_
  refine lv_iconst (v := 1) C.1 C.2.1 dL_law_272 (by decide) ?_
  refine k_iadd (v := 1) C (by decide) dL_law_273 ?_
  refine k_sld (v := y1) C hX hbl hbA Wd (vp_in_iff.mpr (by decide)) hy1 dL_law_274 ?_
  refine lv_aload_n C.1 C.2.1 dL_law_275 rfl (lv_at hl 3 rfl) ?_
  refine lv_iload_n C.1 C.2.1 dL_law_276 rfl (lv_at hl 0 rfl) ?_
  refine lv_iconst (v := 2) C.1 C.2.1 dL_law_277 (by decide) ?_
  refine k_iadd (v := 2) C (by decide) dL_law_278 ?_
  refine k_sld (v := y2) C hX hbl hbA Wd (vp_in_iff.mpr (by decide)) hy2 dL_law_279 ?_
  refine k_pi (k_runV (rest := []) C aks Wd cs_L_37 (kcX11_at_v1 l D q5961 q5963 q5964 q5965 q5966 q5967 q5968 q5969 y1 y2 (va_up (va_up (va_up (va_up (va_up (va_up (fun _ => none) 0 (some q5971)) 1 (some q5972)) 2 (some q5973)) 3 (some q5974)) 4 (some q5975)) 5 (some q5976)) e5970 _ c6265) [0, 1] rfl (by decide) [0] rfl 0 11 rfl rfl rfl rfl rfl ⟨(Nat.le_of_ble_eq_true rfl), (Nat.le_of_ble_eq_true rfl)⟩ hl.1 rfl rfl (Nat.le_of_ble_eq_true rfl) ⟨(Nat.le_of_ble_eq_true rfl), (Nat.le_of_ble_eq_true rfl)⟩ dL_law_280) (fun r w6300 => ?_)
  obtain ⟨c6301, c6302, rfl⟩ := w6300
  refine lv_aload_n C.1 C.2.1 dL_law_283 rfl (lv_at hl 1 rfl) ?_
  refine lv_aload_n C.1 C.2.1 dL_law_284 rfl (lv_at hl 3 rfl) ?_
  refine lv_iload_n C.1 C.2.1 dL_law_285 rfl (lv_at hl 0 rfl) ?_
  refine lv_iconst (v := 1) C.1 C.2.1 dL_law_286 (by decide) ?_
  refine k_iadd (v := 1) C (by decide) dL_law_287 ?_
  refine k_sld (v := y1) C hX hbl hbA Wd (vp_in_iff.mpr (by decide)) hy1 dL_law_288 ?_
  refine lv_aload_n C.1 C.2.1 dL_law_289 rfl (lv_at hl 3 rfl) ?_
  refine lv_iload_n C.1 C.2.1 dL_law_290 rfl (lv_at hl 0 rfl) ?_
  refine lv_iconst (v := 2) C.1 C.2.1 dL_law_291 (by decide) ?_
  refine k_iadd (v := 2) C (by decide) dL_law_292 ?_
  refine k_sld (v := y2) C hX hbl hbA Wd (vp_in_iff.mpr (by decide)) hy2 dL_law_293 ?_
  refine k_pi (k_runV (rest := [.int (-1)]) C aks Wd cs_L_41 (kcX12_at l D q6104 q6106 q6107 q6108 q6109 q6110 q6111 q6112 q6113 q6114 q6115 q6116 q6117 q6118 q6119 q6120 q6121 q6122 q6123 q6124 q6125 q6126 q6127 q6128 q6129 q6130 y1 y2 e6132 _ ) [8, 9] rfl (by decide) [1] rfl 8 12 rfl rfl rfl rfl rfl ⟨(Nat.le_of_ble_eq_true rfl), (Nat.le_of_ble_eq_true rfl)⟩ hl.1 rfl rfl (Nat.le_of_ble_eq_true rfl) ⟨(Nat.le_of_ble_eq_true rfl), (Nat.le_of_ble_eq_true rfl)⟩ dL_law_294) (fun r w6303 => ?_)
  rcases w6303 with ⟨c6304, rfl⟩ | ⟨c6305, c6306, rfl⟩ | ⟨c6307, c6308, c6309, rfl⟩ | ⟨c6310, c6311, c6312, c6313, rfl⟩
  · exact absurd c6304 c6250
  · refine lv_icmp_eq (tgt := 801) C.1 C.2.1 dL_law_297 (by decide) (fun _ => ?_) (fun c6314 => absurd c6314 (by decide))
    exact tail _ _ _ (k_sub Wd [] rfl (by decide) [] rfl) (lv_sub hl [0, 3] rfl)
  · exact False.elim (by have z0 := kz_nlt c6250; have z1 := kz_nlt c6265; have z2 := kz_nlt c6301; have z3 := kz_le c6302; have z4 := kz_nlt c6307; have z5 := kz_nlt c6308; have t0 : (0 : Int32).toInt = 0 := (by decide); have t6 : (6 : Int32).toInt = 6 := (by decide); have t5 : (5 : Int32).toInt = 5 := (by decide); omega)
  · exact False.elim (by have z0 := kz_nlt c6250; have z1 := kz_nlt c6265; have z2 := kz_nlt c6301; have z3 := kz_le c6302; have z4 := kz_nlt c6310; have z5 := kz_nlt c6311; have t0 : (0 : Int32).toInt = 0 := (by decide); have t6 : (6 : Int32).toInt = 6 := (by decide); have t5 : (5 : Int32).toInt = 5 := (by decide); omega)
set_option maxHeartbeats 4000000 in
set_option maxRecDepth 100000 in
theorem law_size {p : Program} {l : Launch} {e : Env} {s : State} {m : MethodId} {below : List Frame} {meth : Method} {c : Code} {b : Nat} {xs : Nat → Int32} {D : va_G} {A : Nat → Prop} {e5970 : ClassId} {e6008 : ClassId} {e6132 : ClassId} {q5961 : Nat} {q5963 : Nat} {q5964 : Nat} {q5965 : Nat} {q5966 : Nat} {q5967 : Nat} {q5968 : Nat} {q5969 : Nat} {q5971 : Nat} {q5972 : Nat} {q5973 : Nat} {q5974 : Nat} {q5975 : Nat} {q5976 : Nat} {q5977 : Nat} {q5978 : Nat} {q5979 : Nat} {q5980 : Nat} {q5981 : Nat} {q5982 : Nat} {q5991 : Nat} {q5992 : Nat} {q5993 : Nat} {q5994 : Nat} {q5995 : Nat} {q5996 : Nat} {q5997 : Nat} {q5998 : Nat} {q5999 : Nat} {q6000 : Nat} {q6001 : Nat} {q6002 : Nat} {q6003 : Nat} {q6004 : Nat} {q6005 : Nat} {q6006 : Nat} {q6007 : Nat} {q6104 : Nat} {q6106 : Nat} {q6107 : Nat} {q6108 : Nat} {q6109 : Nat} {q6110 : Nat} {q6111 : Nat} {q6112 : Nat} {q6113 : Nat} {q6114 : Nat} {q6115 : Nat} {q6116 : Nat} {q6117 : Nat} {q6118 : Nat} {q6119 : Nat} {q6120 : Nat} {q6121 : Nat} {q6122 : Nat} {q6123 : Nat} {q6124 : Nat} {q6125 : Nat} {q6126 : Nat} {q6127 : Nat} {q6128 : Nat} {q6129 : Nat} {q6130 : Nat} {y1 : Int32} (hy1 : xs 1 = y1) {y2 : Int32} (hy2 : xs 2 = y2) {H : Heap} {locs : List Loc} {ls : Array Slot} (C : CallFix p m c cL_law 4 s #[Value.ref b] gG RL) (aks : aK s) (hX : va_X b 6 xs s s.heap) (hbl : b < s.heap.size) (hbA : ¬ A b) (hrt : meth.sig.returnType = ret) (hlocks : meth.locks = false) (hAe : A = fun q => s.heap.size ≤ q) (tail : (∀ (H : Heap) (locs : List Loc) (ls : Array Slot), wX D [] s [] H A s.heap locs → lv_has ls 4 [(3, .int 0), (0, .ref b)] → W p l e room_1 s m #[Value.ref b] below meth c H locs 271 91330 (lw_Z below #[Value.ref b] s) (F0 m 801 ls []))) (Wd : wX D [(e5970, .object RX8), (e6008, .int), (e6132, .int)] s [(q5961, .inr (11, [.ref q5963, .int 0, .ref q5964, .ref q5965, .ref q5966, .ref q5967, .ref q5968, .ref q5969])), (q5963, .inl (e5970, 6, .inr (.inr (.inr (.inr (va_up (va_up (va_up (va_up (va_up (va_up (fun _ => none) 0 (some q5971)) 1 (some q5972)) 2 (some q5973)) 3 (some q5974)) 4 (some q5975)) 5 (some q5976))))))), (q5971, .inr (8, [.ref q5977, .int 0])), (q5972, .inr (8, [.ref q5978, .int 0])), (q5973, .inr (8, [.ref q5979, .int 0])), (q5974, .inr (8, [.ref q5980, .int 0])), (q5975, .inr (8, [.ref q5981, .int 0])), (q5976, .inr (8, [.ref q5982, .int 0])), (q5966, .inr (3, [.ref q5991, .ref q5992, .int 0, .int 0, .int 0, .ref q5993, .ref q5994])), (q5991, .inr (1, [.ref q5995, .int 0, .ref q5996, .ref q5997, .ref q5998, .ref q5999, .ref q6000, .ref q6001, .ref q6002, .ref q6003, .ref q6004, .ref q6005, .ref q6006, .ref q6007])), (q6007, .inl (e6008, 480, .inl (fun _ => 0))), (q6104, .inr (12, [.ref q6106, .ref q6107, .ref q6108, .ref q6109, .int 0, .int 0, .ref q6110, .int 0, .int 0, .int 0, .int 0, .int 0, .int 0, .int 0, .int 0, .int 0, .int 0, .int 0, .int 0, .int 0, .int (-1), .int 0, .int 0, .int 0, .ref q6111, .ref q6112, .ref q6113, .ref q6114, .ref q6115, .ref q6116, .int 0, .int 0, .int 0, .int 0, .ref q6117, .ref q6118, .ref q6119, .int 0, .int 0, .int 0, .int 0, .ref q6120, .ref q6121, .int 0, .ref q6122, .ref q6123, .int 0, .ref q6124, .int 0, .ref q6125, .ref q6126, .ref q6127, .int 0, .ref q6128, .ref q6129, .ref q6130])), (q6107, .inl (e6132, 6, .inl (fun _ => 0)))] H A s.heap locs) (hl : lv_has ls 4 [(3, .int 0), (2, .ref q6104), (1, .ref q5961), (0, .ref b)]) : W p l e room_1 s m #[Value.ref b] below meth c H locs 271 91330 (lw_Z below #[Value.ref b] s) (F0 m 302 ls []) := by
  by_cases c6315 : y1 < 0
  · refine lv_aload_n C.1 C.2.1 dL_law_302 rfl (lv_at hl 2 rfl) ?_
    refine lv_aload_n C.1 C.2.1 dL_law_303 rfl (lv_at hl 3 rfl) ?_
    refine lv_iload_n C.1 C.2.1 dL_law_304 rfl (lv_at hl 0 rfl) ?_
    refine lv_iconst (v := 1) C.1 C.2.1 dL_law_305 (by decide) ?_
    refine k_iadd (v := 1) C (by decide) dL_law_306 ?_
    refine k_sld (v := y1) C hX hbl hbA Wd (vp_in_iff.mpr (by decide)) hy1 dL_law_307 ?_
    refine lv_aload_n C.1 C.2.1 dL_law_308 rfl (lv_at hl 3 rfl) ?_
    refine lv_iload_n C.1 C.2.1 dL_law_309 rfl (lv_at hl 0 rfl) ?_
    refine lv_iconst (v := 2) C.1 C.2.1 dL_law_310 (by decide) ?_
    refine k_iadd (v := 2) C (by decide) dL_law_311 ?_
    refine k_sld (v := y2) C hX hbl hbA Wd (vp_in_iff.mpr (by decide)) hy2 dL_law_312 ?_
    refine k_pi (k_runV (rest := []) C aks Wd cs_L_42 (kcX11_size l D q5961 q5963 q5964 q5965 q5966 q5967 q5968 q5969 y1 y2 (va_up (va_up (va_up (va_up (va_up (va_up (fun _ => none) 0 (some q5971)) 1 (some q5972)) 2 (some q5973)) 3 (some q5974)) 4 (some q5975)) 5 (some q5976)) e5970 _ c6315) [0, 1] rfl (by decide) [0] rfl 0 11 rfl rfl rfl rfl rfl ⟨(Nat.le_of_ble_eq_true rfl), (Nat.le_of_ble_eq_true rfl)⟩ hl.1 rfl rfl (Nat.le_of_ble_eq_true rfl) ⟨(Nat.le_of_ble_eq_true rfl), (Nat.le_of_ble_eq_true rfl)⟩ dL_law_313) (fun r w6316 => ?_)
    obtain ⟨c6317, rfl⟩ := w6316
    refine lv_aload_n C.1 C.2.1 dL_law_316 rfl (lv_at hl 1 rfl) ?_
    refine lv_aload_n C.1 C.2.1 dL_law_317 rfl (lv_at hl 3 rfl) ?_
    refine lv_iload_n C.1 C.2.1 dL_law_318 rfl (lv_at hl 0 rfl) ?_
    refine lv_iconst (v := 1) C.1 C.2.1 dL_law_319 (by decide) ?_
    refine k_iadd (v := 1) C (by decide) dL_law_320 ?_
    refine k_sld (v := y1) C hX hbl hbA Wd (vp_in_iff.mpr (by decide)) hy1 dL_law_321 ?_
    refine lv_aload_n C.1 C.2.1 dL_law_322 rfl (lv_at hl 3 rfl) ?_
    refine lv_iload_n C.1 C.2.1 dL_law_323 rfl (lv_at hl 0 rfl) ?_
    refine lv_iconst (v := 2) C.1 C.2.1 dL_law_324 (by decide) ?_
    refine k_iadd (v := 2) C (by decide) dL_law_325 ?_
    refine k_sld (v := y2) C hX hbl hbA Wd (vp_in_iff.mpr (by decide)) hy2 dL_law_326 ?_
    refine k_ci Wd [11, 12] [0, 1, 2, 3, 4, 5, 6, 7, 8, 9, 10] rfl (wr := [(q5961, .inr (11, [.ref q5963, .int 0, .ref q5964, .ref q5965, .ref q5966, .ref q5967, .ref q5968, .ref q5969])), (q5963, .inl (e5970, 6, .inr (.inr (.inr (.inr (va_up (va_up (va_up (va_up (va_up (va_up (fun _ => none) 0 (some q5971)) 1 (some q5972)) 2 (some q5973)) 3 (some q5974)) 4 (some q5975)) 5 (some q5976))))))), (q5971, .inr (8, [.ref q5977, .int 0])), (q5972, .inr (8, [.ref q5978, .int 0])), (q5973, .inr (8, [.ref q5979, .int 0])), (q5974, .inr (8, [.ref q5980, .int 0])), (q5975, .inr (8, [.ref q5981, .int 0])), (q5976, .inr (8, [.ref q5982, .int 0])), (q5966, .inr (3, [.ref q5991, .ref q5992, .int 0, .int 0, .int 0, .ref q5993, .ref q5994])), (q5991, .inr (1, [.ref q5995, .int 0, .ref q5996, .ref q5997, .ref q5998, .ref q5999, .ref q6000, .ref q6001, .ref q6002, .ref q6003, .ref q6004, .ref q6005, .ref q6006, .ref q6007])), (q6007, .inl (e6008, 480, .inl (fun _ => 0)))]) rfl (by decide) (by decide) (cells' := 271) (slots' := 91330) (by decide) (by decide) (k_runV (rest := [.int (-1)]) C aks Wd cs_L_45 (kcX12_size l D q6104 q6106 q6107 q6108 q6109 q6110 q6111 q6112 q6113 q6114 q6115 q6116 q6117 q6118 q6119 q6120 q6121 q6122 q6123 q6124 q6125 q6126 q6127 q6128 q6129 q6130 y1 y2 e6132 _ ) [11, 12] rfl (by decide) [2] rfl 11 12 rfl rfl rfl rfl rfl ⟨(Nat.le_of_ble_eq_true rfl), (Nat.le_of_ble_eq_true rfl)⟩ hl.1 rfl rfl (Nat.le_of_ble_eq_true rfl) ⟨(Nat.le_of_ble_eq_true rfl), (Nat.le_of_ble_eq_true rfl)⟩ dL_law_327) (fun r _ H locs w6318 Wd => ?_)
    have Wd : wX D [(e5970, .object RX8), (e6008, .int), (e6132, .int)] s [(q5961, .inr (11, [.ref q5963, .int 0, .ref q5964, .ref q5965, .ref q5966, .ref q5967, .ref q5968, .ref q5969])), (q5963, .inl (e5970, 6, .inr (.inr (.inr (.inr (va_up (va_up (va_up (va_up (va_up (va_up (fun _ => none) 0 (some q5971)) 1 (some q5972)) 2 (some q5973)) 3 (some q5974)) 4 (some q5975)) 5 (some q5976))))))), (q5971, .inr (8, [.ref q5977, .int 0])), (q5972, .inr (8, [.ref q5978, .int 0])), (q5973, .inr (8, [.ref q5979, .int 0])), (q5974, .inr (8, [.ref q5980, .int 0])), (q5975, .inr (8, [.ref q5981, .int 0])), (q5976, .inr (8, [.ref q5982, .int 0])), (q5966, .inr (3, [.ref q5991, .ref q5992, .int 0, .int 0, .int 0, .ref q5993, .ref q5994])), (q5991, .inr (1, [.ref q5995, .int 0, .ref q5996, .ref q5997, .ref q5998, .ref q5999, .ref q6000, .ref q6001, .ref q6002, .ref q6003, .ref q6004, .ref q6005, .ref q6006, .ref q6007])), (q6007, .inl (e6008, 480, .inl (fun _ => 0)))] _ A s.heap _ := Wd
    rcases w6318 with ⟨c6319, rfl⟩ | ⟨c6320, c6321, rfl⟩ | ⟨c6322, c6323, c6324, rfl⟩ | ⟨c6325, c6326, c6327, c6328, rfl⟩ | ⟨c6329, c6330, c6331, c6332, c6333, c6334, c6335, rfl⟩ | ⟨c6336, c6337, c6338, c6339, c6340, c6341, c6342, rfl⟩ | ⟨c6343, c6344, c6345, c6346, c6347, c6348, rfl⟩ | ⟨c6349, c6350, c6351, c6352, c6353, rfl⟩
    · refine lv_icmp_eq (tgt := 801) C.1 C.2.1 dL_law_330 (by decide) (fun _ => ?_) (fun c6354 => absurd c6354 (by decide))
      exact tail _ _ _ (k_sub Wd [] rfl (by decide) [] rfl) (lv_sub hl [0, 3] rfl)
    · exact absurd c6315 c6320
    · exact absurd c6315 c6322
    · exact absurd c6315 c6325
    · exact absurd c6315 c6329
    · exact absurd c6315 c6336
    · exact absurd c6315 c6343
    · exact absurd c6315 c6349
  by_cases c6355 : y1 < 6
  · have hsel : ∃ (q6356 q6357 : Nat), (va_up (va_up (va_up (va_up (va_up (va_up (fun _ => none) 0 (some q5971)) 1 (some q5972)) 2 (some q5973)) 3 (some q5974)) 4 (some q5975)) 5 (some q5976)) y1.toNatClampNeg = some q6356 ∧ wX D [(e5970, .object RX8), (e6008, .int), (e6132, .int)] s [(q5961, .inr (11, [.ref q5963, .int 0, .ref q5964, .ref q5965, .ref q5966, .ref q5967, .ref q5968, .ref q5969])), (q5963, .inl (e5970, 6, .inr (.inr (.inr (.inr (va_up (va_up (va_up (va_up (va_up (va_up (fun _ => none) 0 (some q5971)) 1 (some q5972)) 2 (some q5973)) 3 (some q5974)) 4 (some q5975)) 5 (some q5976))))))), (q5966, .inr (3, [.ref q5991, .ref q5992, .int 0, .int 0, .int 0, .ref q5993, .ref q5994])), (q5991, .inr (1, [.ref q5995, .int 0, .ref q5996, .ref q5997, .ref q5998, .ref q5999, .ref q6000, .ref q6001, .ref q6002, .ref q6003, .ref q6004, .ref q6005, .ref q6006, .ref q6007])), (q6007, .inl (e6008, 480, .inl (fun _ => 0))), (q6104, .inr (12, [.ref q6106, .ref q6107, .ref q6108, .ref q6109, .int 0, .int 0, .ref q6110, .int 0, .int 0, .int 0, .int 0, .int 0, .int 0, .int 0, .int 0, .int 0, .int 0, .int 0, .int 0, .int 0, .int (-1), .int 0, .int 0, .int 0, .ref q6111, .ref q6112, .ref q6113, .ref q6114, .ref q6115, .ref q6116, .int 0, .int 0, .int 0, .int 0, .ref q6117, .ref q6118, .ref q6119, .int 0, .int 0, .int 0, .int 0, .ref q6120, .ref q6121, .int 0, .ref q6122, .ref q6123, .int 0, .ref q6124, .int 0, .ref q6125, .ref q6126, .ref q6127, .int 0, .ref q6128, .ref q6129, .ref q6130])), (q6107, .inl (e6132, 6, .inl (fun _ => 0))), (q6356, .inr (8, [.ref q6357, .int 0]))] H A s.heap locs := by
      rcases kf6 c6315 c6355 with rfl | rfl | rfl | rfl | rfl | rfl
      · exact ⟨q5971, q5977, rfl, k_sub Wd [0, 1, 8, 9, 10, 11, 12, 2] rfl (by decide) [0, 1, 2] rfl⟩
      · exact ⟨q5972, q5978, rfl, k_sub Wd [0, 1, 8, 9, 10, 11, 12, 3] rfl (by decide) [0, 1, 2] rfl⟩
      · exact ⟨q5973, q5979, rfl, k_sub Wd [0, 1, 8, 9, 10, 11, 12, 4] rfl (by decide) [0, 1, 2] rfl⟩
      · exact ⟨q5974, q5980, rfl, k_sub Wd [0, 1, 8, 9, 10, 11, 12, 5] rfl (by decide) [0, 1, 2] rfl⟩
      · exact ⟨q5975, q5981, rfl, k_sub Wd [0, 1, 8, 9, 10, 11, 12, 6] rfl (by decide) [0, 1, 2] rfl⟩
      · exact ⟨q5976, q5982, rfl, k_sub Wd [0, 1, 8, 9, 10, 11, 12, 7] rfl (by decide) [0, 1, 2] rfl⟩
    obtain ⟨q6356, q6357, hk6358, Wd⟩ := hsel
    refine lv_aload_n C.1 C.2.1 dL_law_302 rfl (lv_at hl 2 rfl) ?_
    refine lv_aload_n C.1 C.2.1 dL_law_303 rfl (lv_at hl 3 rfl) ?_
    refine lv_iload_n C.1 C.2.1 dL_law_304 rfl (lv_at hl 0 rfl) ?_
    refine lv_iconst (v := 1) C.1 C.2.1 dL_law_305 (by decide) ?_
    refine k_iadd (v := 1) C (by decide) dL_law_306 ?_
    refine k_sld (v := y1) C hX hbl hbA Wd (vp_in_iff.mpr (by decide)) hy1 dL_law_307 ?_
    refine lv_aload_n C.1 C.2.1 dL_law_308 rfl (lv_at hl 3 rfl) ?_
    refine lv_iload_n C.1 C.2.1 dL_law_309 rfl (lv_at hl 0 rfl) ?_
    refine lv_iconst (v := 2) C.1 C.2.1 dL_law_310 (by decide) ?_
    refine k_iadd (v := 2) C (by decide) dL_law_311 ?_
    refine k_sld (v := y2) C hX hbl hbA Wd (vp_in_iff.mpr (by decide)) hy2 dL_law_312 ?_
    refine k_ci Wd [0, 1, 7, 2, 3, 4] [5, 6] rfl (wr := [(q6104, .inr (12, [.ref q6106, .ref q6107, .ref q6108, .ref q6109, .int 0, .int 0, .ref q6110, .int 0, .int 0, .int 0, .int 0, .int 0, .int 0, .int 0, .int 0, .int 0, .int 0, .int 0, .int 0, .int 0, .int (-1), .int 0, .int 0, .int 0, .ref q6111, .ref q6112, .ref q6113, .ref q6114, .ref q6115, .ref q6116, .int 0, .int 0, .int 0, .int 0, .ref q6117, .ref q6118, .ref q6119, .int 0, .int 0, .int 0, .int 0, .ref q6120, .ref q6121, .int 0, .ref q6122, .ref q6123, .int 0, .ref q6124, .int 0, .ref q6125, .ref q6126, .ref q6127, .int 0, .ref q6128, .ref q6129, .ref q6130])), (q6107, .inl (e6132, 6, .inl (fun _ => 0)))]) rfl (by decide) (by decide) (cells' := 271) (slots' := 91330) (by decide) (by decide) (k_runV (rest := []) C aks Wd cs_L_42 (kcX11_size_v2 l D q5961 q5963 q5964 q5965 q5966 q5967 q5968 q5969 q6356 q5991 q5992 q5993 q5994 q6357 q5995 q5996 q5997 q5998 q5999 q6000 q6001 q6002 q6003 q6004 q6005 q6006 q6007 y1 y2 (va_up (va_up (va_up (va_up (va_up (va_up (fun _ => none) 0 (some q5971)) 1 (some q5972)) 2 (some q5973)) 3 (some q5974)) 4 (some q5975)) 5 (some q5976)) e5970 e6008 _ hk6358 c6315 c6355) [0, 1, 7, 2, 3, 4] rfl (by decide) [0, 1] rfl 0 11 rfl rfl rfl rfl rfl ⟨(Nat.le_of_ble_eq_true rfl), (Nat.le_of_ble_eq_true rfl)⟩ hl.1 rfl rfl (Nat.le_of_ble_eq_true rfl) ⟨(Nat.le_of_ble_eq_true rfl), (Nat.le_of_ble_eq_true rfl)⟩ dL_law_313) (fun r _ H locs w6359 Wd => ?_)
    have Wd : wX D [(e5970, .object RX8), (e6008, .int), (e6132, .int)] s [(q6104, .inr (12, [.ref q6106, .ref q6107, .ref q6108, .ref q6109, .int 0, .int 0, .ref q6110, .int 0, .int 0, .int 0, .int 0, .int 0, .int 0, .int 0, .int 0, .int 0, .int 0, .int 0, .int 0, .int 0, .int (-1), .int 0, .int 0, .int 0, .ref q6111, .ref q6112, .ref q6113, .ref q6114, .ref q6115, .ref q6116, .int 0, .int 0, .int 0, .int 0, .ref q6117, .ref q6118, .ref q6119, .int 0, .int 0, .int 0, .int 0, .ref q6120, .ref q6121, .int 0, .ref q6122, .ref q6123, .int 0, .ref q6124, .int 0, .ref q6125, .ref q6126, .ref q6127, .int 0, .ref q6128, .ref q6129, .ref q6130])), (q6107, .inl (e6132, 6, .inl (fun _ => 0)))] _ A s.heap _ := Wd
    rcases w6359 with ⟨c6360, c6361, c6362, rfl⟩ | ⟨c6363, c6364, c6365, c6366, rfl⟩ | ⟨c6367, c6368, c6369, c6370, c6371, rfl⟩ | ⟨c6372, c6373, c6374, c6375, c6376, c6377, rfl⟩ | ⟨c6378, c6379, c6380, c6381, c6382, c6383, rfl⟩
    · refine lv_aload_n C.1 C.2.1 dL_law_316 rfl (lv_at hl 1 rfl) ?_
      refine lv_aload_n C.1 C.2.1 dL_law_317 rfl (lv_at hl 3 rfl) ?_
      refine lv_iload_n C.1 C.2.1 dL_law_318 rfl (lv_at hl 0 rfl) ?_
      refine lv_iconst (v := 1) C.1 C.2.1 dL_law_319 (by decide) ?_
      refine k_iadd (v := 1) C (by decide) dL_law_320 ?_
      refine k_sld (v := y1) C hX hbl hbA Wd (vp_in_iff.mpr (by decide)) hy1 dL_law_321 ?_
      refine lv_aload_n C.1 C.2.1 dL_law_322 rfl (lv_at hl 3 rfl) ?_
      refine lv_iload_n C.1 C.2.1 dL_law_323 rfl (lv_at hl 0 rfl) ?_
      refine lv_iconst (v := 2) C.1 C.2.1 dL_law_324 (by decide) ?_
      refine k_iadd (v := 2) C (by decide) dL_law_325 ?_
      refine k_sld (v := y2) C hX hbl hbA Wd (vp_in_iff.mpr (by decide)) hy2 dL_law_326 ?_
      refine k_ci Wd [0, 1] [] rfl (wr := []) rfl (by decide) (by decide) (cells' := 271) (slots' := 91330) (by decide) (by decide) (k_runV (rest := [.int 0]) C aks Wd cs_L_45 (kcX12_size l D q6104 q6106 q6107 q6108 q6109 q6110 q6111 q6112 q6113 q6114 q6115 q6116 q6117 q6118 q6119 q6120 q6121 q6122 q6123 q6124 q6125 q6126 q6127 q6128 q6129 q6130 y1 y2 e6132 _ ) [0, 1] rfl (by decide) [2] rfl 0 12 rfl rfl rfl rfl rfl ⟨(Nat.le_of_ble_eq_true rfl), (Nat.le_of_ble_eq_true rfl)⟩ hl.1 rfl rfl (Nat.le_of_ble_eq_true rfl) ⟨(Nat.le_of_ble_eq_true rfl), (Nat.le_of_ble_eq_true rfl)⟩ dL_law_327) (fun r _ H locs w6384 Wd => ?_)
      have Wd : wX D [(e5970, .object RX8), (e6008, .int), (e6132, .int)] s [] _ A s.heap _ := Wd
      rcases w6384 with ⟨c6385, rfl⟩ | ⟨c6386, c6387, rfl⟩ | ⟨c6388, c6389, c6390, rfl⟩ | ⟨c6391, c6392, c6393, c6394, rfl⟩ | ⟨c6395, c6396, c6397, c6398, c6399, c6400, c6401, rfl⟩ | ⟨c6402, c6403, c6404, c6405, c6406, c6407, c6408, rfl⟩ | ⟨c6409, c6410, c6411, c6412, c6413, c6414, rfl⟩ | ⟨c6415, c6416, c6417, c6418, c6419, rfl⟩
      · exact absurd c6385 c6315
      · exact False.elim (by have z0 := kz_nlt c6315; have z1 := kz_lt c6355; have z2 := kz_nlt c6360; have z3 := kz_nle c6361; have z4 := kz_nlt c6386; have z5 := kz_lt c6387; have t0 : (0 : Int32).toInt = 0 := (by decide); have t6 : (6 : Int32).toInt = 6 := (by decide); have t5 : (5 : Int32).toInt = 5 := (by decide); omega)
      · exact False.elim (by have z0 := kz_eq c6362; have z1 := kz_lt c6390; have t0 : (0 : Int32).toInt = 0 := (by decide); omega)
      · exact False.elim (by have z0 := kz_eq c6362; have z1 := kz_nlt c6393; have z2 := kz_lt c6394; have t0 : (0 : Int32).toInt = 0 := (by decide); have t3 : (3 : Int32).toInt = 3 := (by decide); omega)
      · exact absurd c6362 c6399
      · exact absurd c6362 c6406
      · exact absurd c6362 c6413
      · refine lv_icmp_eq (tgt := 801) C.1 C.2.1 dL_law_330 (by decide) (fun _ => ?_) (fun c6420 => absurd c6420 (by decide))
        exact tail _ _ _ (k_sub Wd [] rfl (by decide) [] rfl) (lv_sub hl [0, 3] rfl)
    · refine lv_aload_n C.1 C.2.1 dL_law_316 rfl (lv_at hl 1 rfl) ?_
      refine lv_aload_n C.1 C.2.1 dL_law_317 rfl (lv_at hl 3 rfl) ?_
      refine lv_iload_n C.1 C.2.1 dL_law_318 rfl (lv_at hl 0 rfl) ?_
      refine lv_iconst (v := 1) C.1 C.2.1 dL_law_319 (by decide) ?_
      refine k_iadd (v := 1) C (by decide) dL_law_320 ?_
      refine k_sld (v := y1) C hX hbl hbA Wd (vp_in_iff.mpr (by decide)) hy1 dL_law_321 ?_
      refine lv_aload_n C.1 C.2.1 dL_law_322 rfl (lv_at hl 3 rfl) ?_
      refine lv_iload_n C.1 C.2.1 dL_law_323 rfl (lv_at hl 0 rfl) ?_
      refine lv_iconst (v := 2) C.1 C.2.1 dL_law_324 (by decide) ?_
      refine k_iadd (v := 2) C (by decide) dL_law_325 ?_
      refine k_sld (v := y2) C hX hbl hbA Wd (vp_in_iff.mpr (by decide)) hy2 dL_law_326 ?_
      refine k_ci Wd [0, 1] [] rfl (wr := []) rfl (by decide) (by decide) (cells' := 271) (slots' := 91330) (by decide) (by decide) (k_runV (rest := [.int 0]) C aks Wd cs_L_45 (kcX12_size l D q6104 q6106 q6107 q6108 q6109 q6110 q6111 q6112 q6113 q6114 q6115 q6116 q6117 q6118 q6119 q6120 q6121 q6122 q6123 q6124 q6125 q6126 q6127 q6128 q6129 q6130 y1 y2 e6132 _ ) [0, 1] rfl (by decide) [2] rfl 0 12 rfl rfl rfl rfl rfl ⟨(Nat.le_of_ble_eq_true rfl), (Nat.le_of_ble_eq_true rfl)⟩ hl.1 rfl rfl (Nat.le_of_ble_eq_true rfl) ⟨(Nat.le_of_ble_eq_true rfl), (Nat.le_of_ble_eq_true rfl)⟩ dL_law_327) (fun r _ H locs w6421 Wd => ?_)
      have Wd : wX D [(e5970, .object RX8), (e6008, .int), (e6132, .int)] s [] _ A s.heap _ := Wd
      rcases w6421 with ⟨c6422, rfl⟩ | ⟨c6423, c6424, rfl⟩ | ⟨c6425, c6426, c6427, rfl⟩ | ⟨c6428, c6429, c6430, c6431, rfl⟩ | ⟨c6432, c6433, c6434, c6435, c6436, c6437, c6438, rfl⟩ | ⟨c6439, c6440, c6441, c6442, c6443, c6444, c6445, rfl⟩ | ⟨c6446, c6447, c6448, c6449, c6450, c6451, rfl⟩ | ⟨c6452, c6453, c6454, c6455, c6456, rfl⟩
      · exact absurd c6422 c6315
      · exact False.elim (by have z0 := kz_nlt c6315; have z1 := kz_lt c6355; have z2 := kz_nlt c6363; have z3 := kz_nle c6364; have z4 := kz_nlt c6423; have z5 := kz_lt c6424; have t0 : (0 : Int32).toInt = 0 := (by decide); have t6 : (6 : Int32).toInt = 6 := (by decide); have t5 : (5 : Int32).toInt = 5 := (by decide); omega)
      · exact False.elim (by have z0 := kz_ne c6365; have z1 := kz_eq c6366; have z2 := kz_lt c6427; have t0 : (0 : Int32).toInt = 0 := (by decide); have t1 : (1 : Int32).toInt = 1 := (by decide); omega)
      · exact False.elim (by have z0 := kz_ne c6365; have z1 := kz_eq c6366; have z2 := kz_nlt c6430; have z3 := kz_lt c6431; have t0 : (0 : Int32).toInt = 0 := (by decide); have t1 : (1 : Int32).toInt = 1 := (by decide); have t3 : (3 : Int32).toInt = 3 := (by decide); omega)
      · exact absurd c6366 c6437
      · exact absurd c6366 c6444
      · refine lv_icmp_eq (tgt := 801) C.1 C.2.1 dL_law_330 (by decide) (fun _ => ?_) (fun c6457 => absurd c6457 (by decide))
        exact tail _ _ _ (k_sub Wd [] rfl (by decide) [] rfl) (lv_sub hl [0, 3] rfl)
      · exact absurd c6456 c6365
    · refine lv_aload_n C.1 C.2.1 dL_law_316 rfl (lv_at hl 1 rfl) ?_
      refine lv_aload_n C.1 C.2.1 dL_law_317 rfl (lv_at hl 3 rfl) ?_
      refine lv_iload_n C.1 C.2.1 dL_law_318 rfl (lv_at hl 0 rfl) ?_
      refine lv_iconst (v := 1) C.1 C.2.1 dL_law_319 (by decide) ?_
      refine k_iadd (v := 1) C (by decide) dL_law_320 ?_
      refine k_sld (v := y1) C hX hbl hbA Wd (vp_in_iff.mpr (by decide)) hy1 dL_law_321 ?_
      refine lv_aload_n C.1 C.2.1 dL_law_322 rfl (lv_at hl 3 rfl) ?_
      refine lv_iload_n C.1 C.2.1 dL_law_323 rfl (lv_at hl 0 rfl) ?_
      refine lv_iconst (v := 2) C.1 C.2.1 dL_law_324 (by decide) ?_
      refine k_iadd (v := 2) C (by decide) dL_law_325 ?_
      refine k_sld (v := y2) C hX hbl hbA Wd (vp_in_iff.mpr (by decide)) hy2 dL_law_326 ?_
      refine k_ci Wd [0, 1] [] rfl (wr := []) rfl (by decide) (by decide) (cells' := 271) (slots' := 91330) (by decide) (by decide) (k_runV (rest := [.int 0]) C aks Wd cs_L_45 (kcX12_size l D q6104 q6106 q6107 q6108 q6109 q6110 q6111 q6112 q6113 q6114 q6115 q6116 q6117 q6118 q6119 q6120 q6121 q6122 q6123 q6124 q6125 q6126 q6127 q6128 q6129 q6130 y1 y2 e6132 _ ) [0, 1] rfl (by decide) [2] rfl 0 12 rfl rfl rfl rfl rfl ⟨(Nat.le_of_ble_eq_true rfl), (Nat.le_of_ble_eq_true rfl)⟩ hl.1 rfl rfl (Nat.le_of_ble_eq_true rfl) ⟨(Nat.le_of_ble_eq_true rfl), (Nat.le_of_ble_eq_true rfl)⟩ dL_law_327) (fun r _ H locs w6458 Wd => ?_)
      have Wd : wX D [(e5970, .object RX8), (e6008, .int), (e6132, .int)] s [] _ A s.heap _ := Wd
      rcases w6458 with ⟨c6459, rfl⟩ | ⟨c6460, c6461, rfl⟩ | ⟨c6462, c6463, c6464, rfl⟩ | ⟨c6465, c6466, c6467, c6468, rfl⟩ | ⟨c6469, c6470, c6471, c6472, c6473, c6474, c6475, rfl⟩ | ⟨c6476, c6477, c6478, c6479, c6480, c6481, c6482, rfl⟩ | ⟨c6483, c6484, c6485, c6486, c6487, c6488, rfl⟩ | ⟨c6489, c6490, c6491, c6492, c6493, rfl⟩
      · exact absurd c6459 c6315
      · exact False.elim (by have z0 := kz_nlt c6315; have z1 := kz_lt c6355; have z2 := kz_nlt c6367; have z3 := kz_nle c6368; have z4 := kz_nlt c6460; have z5 := kz_lt c6461; have t0 : (0 : Int32).toInt = 0 := (by decide); have t6 : (6 : Int32).toInt = 6 := (by decide); have t5 : (5 : Int32).toInt = 5 := (by decide); omega)
      · exact False.elim (by have z0 := kz_ne c6369; have z1 := kz_ne c6370; have z2 := kz_eq c6371; have z3 := kz_lt c6464; have t0 : (0 : Int32).toInt = 0 := (by decide); have t1 : (1 : Int32).toInt = 1 := (by decide); have t2 : (2 : Int32).toInt = 2 := (by decide); omega)
      · exact False.elim (by have z0 := kz_ne c6369; have z1 := kz_ne c6370; have z2 := kz_eq c6371; have z3 := kz_nlt c6467; have z4 := kz_lt c6468; have t0 : (0 : Int32).toInt = 0 := (by decide); have t1 : (1 : Int32).toInt = 1 := (by decide); have t2 : (2 : Int32).toInt = 2 := (by decide); have t3 : (3 : Int32).toInt = 3 := (by decide); omega)
      · exact absurd c6371 c6475
      · refine lv_icmp_eq (tgt := 801) C.1 C.2.1 dL_law_330 (by decide) (fun _ => ?_) (fun c6494 => absurd c6494 (by decide))
        exact tail _ _ _ (k_sub Wd [] rfl (by decide) [] rfl) (lv_sub hl [0, 3] rfl)
      · exact absurd c6488 c6370
      · exact absurd c6493 c6369
    · refine lv_aload_n C.1 C.2.1 dL_law_316 rfl (lv_at hl 1 rfl) ?_
      refine lv_aload_n C.1 C.2.1 dL_law_317 rfl (lv_at hl 3 rfl) ?_
      refine lv_iload_n C.1 C.2.1 dL_law_318 rfl (lv_at hl 0 rfl) ?_
      refine lv_iconst (v := 1) C.1 C.2.1 dL_law_319 (by decide) ?_
      refine k_iadd (v := 1) C (by decide) dL_law_320 ?_
      refine k_sld (v := y1) C hX hbl hbA Wd (vp_in_iff.mpr (by decide)) hy1 dL_law_321 ?_
      refine lv_aload_n C.1 C.2.1 dL_law_322 rfl (lv_at hl 3 rfl) ?_
      refine lv_iload_n C.1 C.2.1 dL_law_323 rfl (lv_at hl 0 rfl) ?_
      refine lv_iconst (v := 2) C.1 C.2.1 dL_law_324 (by decide) ?_
      refine k_iadd (v := 2) C (by decide) dL_law_325 ?_
      refine k_sld (v := y2) C hX hbl hbA Wd (vp_in_iff.mpr (by decide)) hy2 dL_law_326 ?_
      refine k_ci Wd [0, 1] [] rfl (wr := []) rfl (by decide) (by decide) (cells' := 271) (slots' := 91330) (by decide) (by decide) (k_runV (rest := [.int 0]) C aks Wd cs_L_45 (kcX12_size l D q6104 q6106 q6107 q6108 q6109 q6110 q6111 q6112 q6113 q6114 q6115 q6116 q6117 q6118 q6119 q6120 q6121 q6122 q6123 q6124 q6125 q6126 q6127 q6128 q6129 q6130 y1 y2 e6132 _ ) [0, 1] rfl (by decide) [2] rfl 0 12 rfl rfl rfl rfl rfl ⟨(Nat.le_of_ble_eq_true rfl), (Nat.le_of_ble_eq_true rfl)⟩ hl.1 rfl rfl (Nat.le_of_ble_eq_true rfl) ⟨(Nat.le_of_ble_eq_true rfl), (Nat.le_of_ble_eq_true rfl)⟩ dL_law_327) (fun r _ H locs w6495 Wd => ?_)
      have Wd : wX D [(e5970, .object RX8), (e6008, .int), (e6132, .int)] s [] _ A s.heap _ := Wd
      rcases w6495 with ⟨c6496, rfl⟩ | ⟨c6497, c6498, rfl⟩ | ⟨c6499, c6500, c6501, rfl⟩ | ⟨c6502, c6503, c6504, c6505, rfl⟩ | ⟨c6506, c6507, c6508, c6509, c6510, c6511, c6512, rfl⟩ | ⟨c6513, c6514, c6515, c6516, c6517, c6518, c6519, rfl⟩ | ⟨c6520, c6521, c6522, c6523, c6524, c6525, rfl⟩ | ⟨c6526, c6527, c6528, c6529, c6530, rfl⟩
      · exact absurd c6496 c6315
      · exact False.elim (by have z0 := kz_nlt c6315; have z1 := kz_lt c6355; have z2 := kz_nlt c6372; have z3 := kz_nle c6373; have z4 := kz_nlt c6497; have z5 := kz_lt c6498; have t0 : (0 : Int32).toInt = 0 := (by decide); have t6 : (6 : Int32).toInt = 6 := (by decide); have t5 : (5 : Int32).toInt = 5 := (by decide); omega)
      · exact False.elim (by have z0 := kz_ne c6374; have z1 := kz_ne c6375; have z2 := kz_ne c6376; have z3 := kz_eq c6377; have z4 := kz_lt c6501; have t0 : (0 : Int32).toInt = 0 := (by decide); have t1 : (1 : Int32).toInt = 1 := (by decide); have t2 : (2 : Int32).toInt = 2 := (by decide); have t3 : (3 : Int32).toInt = 3 := (by decide); omega)
      · exact False.elim (by have z0 := kz_ne c6374; have z1 := kz_ne c6375; have z2 := kz_ne c6376; have z3 := kz_eq c6377; have z4 := kz_nlt c6504; have z5 := kz_lt c6505; have t0 : (0 : Int32).toInt = 0 := (by decide); have t1 : (1 : Int32).toInt = 1 := (by decide); have t2 : (2 : Int32).toInt = 2 := (by decide); have t3 : (3 : Int32).toInt = 3 := (by decide); omega)
      · refine lv_icmp_eq (tgt := 801) C.1 C.2.1 dL_law_330 (by decide) (fun _ => ?_) (fun c6531 => absurd c6531 (by decide))
        exact tail _ _ _ (k_sub Wd [] rfl (by decide) [] rfl) (lv_sub hl [0, 3] rfl)
      · exact absurd c6519 c6376
      · exact absurd c6525 c6375
      · exact absurd c6530 c6374
    · refine lv_aload_n C.1 C.2.1 dL_law_316 rfl (lv_at hl 1 rfl) ?_
      refine lv_aload_n C.1 C.2.1 dL_law_317 rfl (lv_at hl 3 rfl) ?_
      refine lv_iload_n C.1 C.2.1 dL_law_318 rfl (lv_at hl 0 rfl) ?_
      refine lv_iconst (v := 1) C.1 C.2.1 dL_law_319 (by decide) ?_
      refine k_iadd (v := 1) C (by decide) dL_law_320 ?_
      refine k_sld (v := y1) C hX hbl hbA Wd (vp_in_iff.mpr (by decide)) hy1 dL_law_321 ?_
      refine lv_aload_n C.1 C.2.1 dL_law_322 rfl (lv_at hl 3 rfl) ?_
      refine lv_iload_n C.1 C.2.1 dL_law_323 rfl (lv_at hl 0 rfl) ?_
      refine lv_iconst (v := 2) C.1 C.2.1 dL_law_324 (by decide) ?_
      refine k_iadd (v := 2) C (by decide) dL_law_325 ?_
      refine k_sld (v := y2) C hX hbl hbA Wd (vp_in_iff.mpr (by decide)) hy2 dL_law_326 ?_
      refine k_ci Wd [0, 1] [] rfl (wr := []) rfl (by decide) (by decide) (cells' := 271) (slots' := 91330) (by decide) (by decide) (k_runV (rest := [.int (-1)]) C aks Wd cs_L_45 (kcX12_size l D q6104 q6106 q6107 q6108 q6109 q6110 q6111 q6112 q6113 q6114 q6115 q6116 q6117 q6118 q6119 q6120 q6121 q6122 q6123 q6124 q6125 q6126 q6127 q6128 q6129 q6130 y1 y2 e6132 _ ) [0, 1] rfl (by decide) [2] rfl 0 12 rfl rfl rfl rfl rfl ⟨(Nat.le_of_ble_eq_true rfl), (Nat.le_of_ble_eq_true rfl)⟩ hl.1 rfl rfl (Nat.le_of_ble_eq_true rfl) ⟨(Nat.le_of_ble_eq_true rfl), (Nat.le_of_ble_eq_true rfl)⟩ dL_law_327) (fun r _ H locs w6532 Wd => ?_)
      have Wd : wX D [(e5970, .object RX8), (e6008, .int), (e6132, .int)] s [] _ A s.heap _ := Wd
      rcases w6532 with ⟨c6533, rfl⟩ | ⟨c6534, c6535, rfl⟩ | ⟨c6536, c6537, c6538, rfl⟩ | ⟨c6539, c6540, c6541, c6542, rfl⟩ | ⟨c6543, c6544, c6545, c6546, c6547, c6548, c6549, rfl⟩ | ⟨c6550, c6551, c6552, c6553, c6554, c6555, c6556, rfl⟩ | ⟨c6557, c6558, c6559, c6560, c6561, c6562, rfl⟩ | ⟨c6563, c6564, c6565, c6566, c6567, rfl⟩
      · exact absurd c6533 c6315
      · exact False.elim (by have z0 := kz_nlt c6315; have z1 := kz_lt c6355; have z2 := kz_nlt c6378; have z3 := kz_nle c6379; have z4 := kz_nlt c6534; have z5 := kz_lt c6535; have t0 : (0 : Int32).toInt = 0 := (by decide); have t6 : (6 : Int32).toInt = 6 := (by decide); have t5 : (5 : Int32).toInt = 5 := (by decide); omega)
      · refine lv_icmp_eq (tgt := 801) C.1 C.2.1 dL_law_330 (by decide) (fun _ => ?_) (fun c6568 => absurd c6568 (by decide))
        exact tail _ _ _ (k_sub Wd [] rfl (by decide) [] rfl) (lv_sub hl [0, 3] rfl)
      · refine lv_icmp_eq (tgt := 801) C.1 C.2.1 dL_law_330 (by decide) (fun _ => ?_) (fun c6569 => absurd c6569 (by decide))
        exact tail _ _ _ (k_sub Wd [] rfl (by decide) [] rfl) (lv_sub hl [0, 3] rfl)
      · exact False.elim (by have z0 := kz_ne c6380; have z1 := kz_ne c6381; have z2 := kz_ne c6382; have z3 := kz_ne c6383; have z4 := kz_nlt c6545; have z5 := kz_nlt c6546; have t0 : (0 : Int32).toInt = 0 := (by decide); have t1 : (1 : Int32).toInt = 1 := (by decide); have t2 : (2 : Int32).toInt = 2 := (by decide); have t3 : (3 : Int32).toInt = 3 := (by decide); omega)
      · exact False.elim (by have z0 := kz_ne c6380; have z1 := kz_ne c6381; have z2 := kz_ne c6382; have z3 := kz_ne c6383; have z4 := kz_nlt c6552; have z5 := kz_nlt c6553; have t0 : (0 : Int32).toInt = 0 := (by decide); have t1 : (1 : Int32).toInt = 1 := (by decide); have t2 : (2 : Int32).toInt = 2 := (by decide); have t3 : (3 : Int32).toInt = 3 := (by decide); omega)
      · exact False.elim (by have z0 := kz_ne c6380; have z1 := kz_ne c6381; have z2 := kz_ne c6382; have z3 := kz_ne c6383; have z4 := kz_nlt c6559; have z5 := kz_nlt c6560; have t0 : (0 : Int32).toInt = 0 := (by decide); have t1 : (1 : Int32).toInt = 1 := (by decide); have t2 : (2 : Int32).toInt = 2 := (by decide); have t3 : (3 : Int32).toInt = 3 := (by decide); omega)
      · exact False.elim (by have z0 := kz_ne c6380; have z1 := kz_ne c6381; have z2 := kz_ne c6382; have z3 := kz_ne c6383; have z4 := kz_nlt c6565; have z5 := kz_nlt c6566; have t0 : (0 : Int32).toInt = 0 := (by decide); have t1 : (1 : Int32).toInt = 1 := (by decide); have t2 : (2 : Int32).toInt = 2 := (by decide); have t3 : (3 : Int32).toInt = 3 := (by decide); omega)
  refine lv_aload_n C.1 C.2.1 dL_law_302 rfl (lv_at hl 2 rfl) ?_
  refine lv_aload_n C.1 C.2.1 dL_law_303 rfl (lv_at hl 3 rfl) ?_
  refine lv_iload_n C.1 C.2.1 dL_law_304 rfl (lv_at hl 0 rfl) ?_
  refine lv_iconst (v := 1) C.1 C.2.1 dL_law_305 (by decide) ?_
  refine k_iadd (v := 1) C (by decide) dL_law_306 ?_
  refine k_sld (v := y1) C hX hbl hbA Wd (vp_in_iff.mpr (by decide)) hy1 dL_law_307 ?_
  refine lv_aload_n C.1 C.2.1 dL_law_308 rfl (lv_at hl 3 rfl) ?_
  refine lv_iload_n C.1 C.2.1 dL_law_309 rfl (lv_at hl 0 rfl) ?_
  refine lv_iconst (v := 2) C.1 C.2.1 dL_law_310 (by decide) ?_
  refine k_iadd (v := 2) C (by decide) dL_law_311 ?_
  refine k_sld (v := y2) C hX hbl hbA Wd (vp_in_iff.mpr (by decide)) hy2 dL_law_312 ?_
  refine k_pi (k_runV (rest := []) C aks Wd cs_L_42 (kcX11_size_v1 l D q5961 q5963 q5964 q5965 q5966 q5967 q5968 q5969 y1 y2 (va_up (va_up (va_up (va_up (va_up (va_up (fun _ => none) 0 (some q5971)) 1 (some q5972)) 2 (some q5973)) 3 (some q5974)) 4 (some q5975)) 5 (some q5976)) e5970 _ c6355) [0, 1] rfl (by decide) [0] rfl 0 11 rfl rfl rfl rfl rfl ⟨(Nat.le_of_ble_eq_true rfl), (Nat.le_of_ble_eq_true rfl)⟩ hl.1 rfl rfl (Nat.le_of_ble_eq_true rfl) ⟨(Nat.le_of_ble_eq_true rfl), (Nat.le_of_ble_eq_true rfl)⟩ dL_law_313) (fun r w6570 => ?_)
  obtain ⟨c6571, c6572, rfl⟩ := w6570
  refine lv_aload_n C.1 C.2.1 dL_law_316 rfl (lv_at hl 1 rfl) ?_
  refine lv_aload_n C.1 C.2.1 dL_law_317 rfl (lv_at hl 3 rfl) ?_
  refine lv_iload_n C.1 C.2.1 dL_law_318 rfl (lv_at hl 0 rfl) ?_
  refine lv_iconst (v := 1) C.1 C.2.1 dL_law_319 (by decide) ?_
  refine k_iadd (v := 1) C (by decide) dL_law_320 ?_
  refine k_sld (v := y1) C hX hbl hbA Wd (vp_in_iff.mpr (by decide)) hy1 dL_law_321 ?_
  refine lv_aload_n C.1 C.2.1 dL_law_322 rfl (lv_at hl 3 rfl) ?_
  refine lv_iload_n C.1 C.2.1 dL_law_323 rfl (lv_at hl 0 rfl) ?_
  refine lv_iconst (v := 2) C.1 C.2.1 dL_law_324 (by decide) ?_
  refine k_iadd (v := 2) C (by decide) dL_law_325 ?_
  refine k_sld (v := y2) C hX hbl hbA Wd (vp_in_iff.mpr (by decide)) hy2 dL_law_326 ?_
  refine k_ci Wd [11, 12] [0, 1, 2, 3, 4, 5, 6, 7, 8, 9, 10] rfl (wr := [(q5961, .inr (11, [.ref q5963, .int 0, .ref q5964, .ref q5965, .ref q5966, .ref q5967, .ref q5968, .ref q5969])), (q5963, .inl (e5970, 6, .inr (.inr (.inr (.inr (va_up (va_up (va_up (va_up (va_up (va_up (fun _ => none) 0 (some q5971)) 1 (some q5972)) 2 (some q5973)) 3 (some q5974)) 4 (some q5975)) 5 (some q5976))))))), (q5971, .inr (8, [.ref q5977, .int 0])), (q5972, .inr (8, [.ref q5978, .int 0])), (q5973, .inr (8, [.ref q5979, .int 0])), (q5974, .inr (8, [.ref q5980, .int 0])), (q5975, .inr (8, [.ref q5981, .int 0])), (q5976, .inr (8, [.ref q5982, .int 0])), (q5966, .inr (3, [.ref q5991, .ref q5992, .int 0, .int 0, .int 0, .ref q5993, .ref q5994])), (q5991, .inr (1, [.ref q5995, .int 0, .ref q5996, .ref q5997, .ref q5998, .ref q5999, .ref q6000, .ref q6001, .ref q6002, .ref q6003, .ref q6004, .ref q6005, .ref q6006, .ref q6007])), (q6007, .inl (e6008, 480, .inl (fun _ => 0)))]) rfl (by decide) (by decide) (cells' := 271) (slots' := 91330) (by decide) (by decide) (k_runV (rest := [.int (-1)]) C aks Wd cs_L_45 (kcX12_size l D q6104 q6106 q6107 q6108 q6109 q6110 q6111 q6112 q6113 q6114 q6115 q6116 q6117 q6118 q6119 q6120 q6121 q6122 q6123 q6124 q6125 q6126 q6127 q6128 q6129 q6130 y1 y2 e6132 _ ) [11, 12] rfl (by decide) [2] rfl 11 12 rfl rfl rfl rfl rfl ⟨(Nat.le_of_ble_eq_true rfl), (Nat.le_of_ble_eq_true rfl)⟩ hl.1 rfl rfl (Nat.le_of_ble_eq_true rfl) ⟨(Nat.le_of_ble_eq_true rfl), (Nat.le_of_ble_eq_true rfl)⟩ dL_law_327) (fun r _ H locs w6573 Wd => ?_)
  have Wd : wX D [(e5970, .object RX8), (e6008, .int), (e6132, .int)] s [(q5961, .inr (11, [.ref q5963, .int 0, .ref q5964, .ref q5965, .ref q5966, .ref q5967, .ref q5968, .ref q5969])), (q5963, .inl (e5970, 6, .inr (.inr (.inr (.inr (va_up (va_up (va_up (va_up (va_up (va_up (fun _ => none) 0 (some q5971)) 1 (some q5972)) 2 (some q5973)) 3 (some q5974)) 4 (some q5975)) 5 (some q5976))))))), (q5971, .inr (8, [.ref q5977, .int 0])), (q5972, .inr (8, [.ref q5978, .int 0])), (q5973, .inr (8, [.ref q5979, .int 0])), (q5974, .inr (8, [.ref q5980, .int 0])), (q5975, .inr (8, [.ref q5981, .int 0])), (q5976, .inr (8, [.ref q5982, .int 0])), (q5966, .inr (3, [.ref q5991, .ref q5992, .int 0, .int 0, .int 0, .ref q5993, .ref q5994])), (q5991, .inr (1, [.ref q5995, .int 0, .ref q5996, .ref q5997, .ref q5998, .ref q5999, .ref q6000, .ref q6001, .ref q6002, .ref q6003, .ref q6004, .ref q6005, .ref q6006, .ref q6007])), (q6007, .inl (e6008, 480, .inl (fun _ => 0)))] _ A s.heap _ := Wd
  rcases w6573 with ⟨c6574, rfl⟩ | ⟨c6575, c6576, rfl⟩ | ⟨c6577, c6578, c6579, rfl⟩ | ⟨c6580, c6581, c6582, c6583, rfl⟩ | ⟨c6584, c6585, c6586, c6587, c6588, c6589, c6590, rfl⟩ | ⟨c6591, c6592, c6593, c6594, c6595, c6596, c6597, rfl⟩ | ⟨c6598, c6599, c6600, c6601, c6602, c6603, rfl⟩ | ⟨c6604, c6605, c6606, c6607, c6608, rfl⟩
  · exact absurd c6574 c6315
  · refine lv_icmp_eq (tgt := 801) C.1 C.2.1 dL_law_330 (by decide) (fun _ => ?_) (fun c6609 => absurd c6609 (by decide))
    exact tail _ _ _ (k_sub Wd [] rfl (by decide) [] rfl) (lv_sub hl [0, 3] rfl)
  · exact False.elim (by have z0 := kz_nlt c6315; have z1 := kz_nlt c6355; have z2 := kz_nlt c6571; have z3 := kz_le c6572; have z4 := kz_nlt c6577; have z5 := kz_nlt c6578; have t0 : (0 : Int32).toInt = 0 := (by decide); have t6 : (6 : Int32).toInt = 6 := (by decide); have t5 : (5 : Int32).toInt = 5 := (by decide); omega)
  · exact False.elim (by have z0 := kz_nlt c6315; have z1 := kz_nlt c6355; have z2 := kz_nlt c6571; have z3 := kz_le c6572; have z4 := kz_nlt c6580; have z5 := kz_nlt c6581; have t0 : (0 : Int32).toInt = 0 := (by decide); have t6 : (6 : Int32).toInt = 6 := (by decide); have t5 : (5 : Int32).toInt = 5 := (by decide); omega)
  · exact False.elim (by have z0 := kz_nlt c6315; have z1 := kz_nlt c6355; have z2 := kz_nlt c6571; have z3 := kz_le c6572; have z4 := kz_nlt c6584; have z5 := kz_nlt c6585; have t0 : (0 : Int32).toInt = 0 := (by decide); have t6 : (6 : Int32).toInt = 6 := (by decide); have t5 : (5 : Int32).toInt = 5 := (by decide); omega)
  · exact False.elim (by have z0 := kz_nlt c6315; have z1 := kz_nlt c6355; have z2 := kz_nlt c6571; have z3 := kz_le c6572; have z4 := kz_nlt c6591; have z5 := kz_nlt c6592; have t0 : (0 : Int32).toInt = 0 := (by decide); have t6 : (6 : Int32).toInt = 6 := (by decide); have t5 : (5 : Int32).toInt = 5 := (by decide); omega)
  · exact False.elim (by have z0 := kz_nlt c6315; have z1 := kz_nlt c6355; have z2 := kz_nlt c6571; have z3 := kz_le c6572; have z4 := kz_nlt c6598; have z5 := kz_nlt c6599; have t0 : (0 : Int32).toInt = 0 := (by decide); have t6 : (6 : Int32).toInt = 6 := (by decide); have t5 : (5 : Int32).toInt = 5 := (by decide); omega)
  · exact False.elim (by have z0 := kz_nlt c6315; have z1 := kz_nlt c6355; have z2 := kz_nlt c6571; have z3 := kz_le c6572; have z4 := kz_nlt c6604; have z5 := kz_nlt c6605; have t0 : (0 : Int32).toInt = 0 := (by decide); have t6 : (6 : Int32).toInt = 6 := (by decide); have t5 : (5 : Int32).toInt = 5 := (by decide); omega)
set_option maxHeartbeats 4000000 in
set_option maxRecDepth 100000 in
theorem law_run {p : Program} {l : Launch} {e : Env} {s : State} {m : MethodId} {below : List Frame} {meth : Method} {c : Code} {b : Nat} {xs : Nat → Int32} {D : va_G} {A : Nat → Prop} {e5970 : ClassId} {e6008 : ClassId} {e6009 : ClassId} {e6132 : ClassId} {e6140 : ClassId} {q5961 : Nat} {q5963 : Nat} {q5964 : Nat} {q5965 : Nat} {q5966 : Nat} {q5967 : Nat} {q5968 : Nat} {q5969 : Nat} {q5971 : Nat} {q5972 : Nat} {q5973 : Nat} {q5974 : Nat} {q5975 : Nat} {q5976 : Nat} {q5977 : Nat} {q5978 : Nat} {q5979 : Nat} {q5980 : Nat} {q5981 : Nat} {q5982 : Nat} {q5991 : Nat} {q5992 : Nat} {q5993 : Nat} {q5994 : Nat} {q5995 : Nat} {q5996 : Nat} {q5997 : Nat} {q5998 : Nat} {q5999 : Nat} {q6000 : Nat} {q6001 : Nat} {q6002 : Nat} {q6003 : Nat} {q6004 : Nat} {q6005 : Nat} {q6006 : Nat} {q6007 : Nat} {q6104 : Nat} {q6106 : Nat} {q6107 : Nat} {q6108 : Nat} {q6109 : Nat} {q6110 : Nat} {q6111 : Nat} {q6112 : Nat} {q6113 : Nat} {q6114 : Nat} {q6115 : Nat} {q6116 : Nat} {q6117 : Nat} {q6118 : Nat} {q6119 : Nat} {q6120 : Nat} {q6121 : Nat} {q6122 : Nat} {q6123 : Nat} {q6124 : Nat} {q6125 : Nat} {q6126 : Nat} {q6127 : Nat} {q6128 : Nat} {q6129 : Nat} {q6130 : Nat} {y1 : Int32} (hy1 : xs 1 = y1) {y2 : Int32} (hy2 : xs 2 = y2) {y3 : Int32} (hy3 : xs 3 = y3) {y4 : Int32} (hy4 : xs 4 = y4) {H : Heap} {locs : List Loc} {ls : Array Slot} (C : CallFix p m c cL_law 4 s #[Value.ref b] gG RL) (aks : aK s) (hX : va_X b 6 xs s s.heap) (hbl : b < s.heap.size) (hbA : ¬ A b) (hrt : meth.sig.returnType = ret) (hlocks : meth.locks = false) (hAe : A = fun q => s.heap.size ≤ q) (tail : (∀ (H : Heap) (locs : List Loc) (ls : Array Slot), wX D [] s [] H A s.heap locs → lv_has ls 4 [(3, .int 0), (0, .ref b)] → W p l e room_1 s m #[Value.ref b] below meth c H locs 271 91330 (lw_Z below #[Value.ref b] s) (F0 m 801 ls []))) (Wd : wX D [(e5970, .object RX8), (e6008, .int), (e6009, .int), (e6132, .int), (e6140, .int)] s [(q5961, .inr (11, [.ref q5963, .int 0, .ref q5964, .ref q5965, .ref q5966, .ref q5967, .ref q5968, .ref q5969])), (q5963, .inl (e5970, 6, .inr (.inr (.inr (.inr (va_up (va_up (va_up (va_up (va_up (va_up (fun _ => none) 0 (some q5971)) 1 (some q5972)) 2 (some q5973)) 3 (some q5974)) 4 (some q5975)) 5 (some q5976))))))), (q5971, .inr (8, [.ref q5977, .int 0])), (q5972, .inr (8, [.ref q5978, .int 0])), (q5973, .inr (8, [.ref q5979, .int 0])), (q5974, .inr (8, [.ref q5980, .int 0])), (q5975, .inr (8, [.ref q5981, .int 0])), (q5976, .inr (8, [.ref q5982, .int 0])), (q5966, .inr (3, [.ref q5991, .ref q5992, .int 0, .int 0, .int 0, .ref q5993, .ref q5994])), (q5991, .inr (1, [.ref q5995, .int 0, .ref q5996, .ref q5997, .ref q5998, .ref q5999, .ref q6000, .ref q6001, .ref q6002, .ref q6003, .ref q6004, .ref q6005, .ref q6006, .ref q6007])), (q6007, .inl (e6008, 480, .inl (fun _ => 0))), (q5993, .inl (e6009, 6, .inl (fun _ => 0))), (q6104, .inr (12, [.ref q6106, .ref q6107, .ref q6108, .ref q6109, .int 0, .int 0, .ref q6110, .int 0, .int 0, .int 0, .int 0, .int 0, .int 0, .int 0, .int 0, .int 0, .int 0, .int 0, .int 0, .int 0, .int (-1), .int 0, .int 0, .int 0, .ref q6111, .ref q6112, .ref q6113, .ref q6114, .ref q6115, .ref q6116, .int 0, .int 0, .int 0, .int 0, .ref q6117, .ref q6118, .ref q6119, .int 0, .int 0, .int 0, .int 0, .ref q6120, .ref q6121, .int 0, .ref q6122, .ref q6123, .int 0, .ref q6124, .int 0, .ref q6125, .ref q6126, .ref q6127, .int 0, .ref q6128, .ref q6129, .ref q6130])), (q6107, .inl (e6132, 6, .inl (fun _ => 0))), (q6115, .inl (e6140, 6, .inl (fun _ => 0)))] H A s.heap locs) (hl : lv_has ls 4 [(3, .int 0), (2, .ref q6104), (1, .ref q5961), (0, .ref b)]) : W p l e room_1 s m #[Value.ref b] below meth c H locs 271 91330 (lw_Z below #[Value.ref b] s) (F0 m 335 ls []) := by
  by_cases c6610 : y1 < 0
  · refine lv_aload_n C.1 C.2.1 dL_law_335 rfl (lv_at hl 2 rfl) ?_
    refine lv_aload_n C.1 C.2.1 dL_law_336 rfl (lv_at hl 3 rfl) ?_
    refine lv_iload_n C.1 C.2.1 dL_law_337 rfl (lv_at hl 0 rfl) ?_
    refine lv_iconst (v := 1) C.1 C.2.1 dL_law_338 (by decide) ?_
    refine k_iadd (v := 1) C (by decide) dL_law_339 ?_
    refine k_sld (v := y1) C hX hbl hbA Wd (vp_in_iff.mpr (by decide)) hy1 dL_law_340 ?_
    refine lv_aload_n C.1 C.2.1 dL_law_341 rfl (lv_at hl 3 rfl) ?_
    refine lv_iload_n C.1 C.2.1 dL_law_342 rfl (lv_at hl 0 rfl) ?_
    refine lv_iconst (v := 2) C.1 C.2.1 dL_law_343 (by decide) ?_
    refine k_iadd (v := 2) C (by decide) dL_law_344 ?_
    refine k_sld (v := y2) C hX hbl hbA Wd (vp_in_iff.mpr (by decide)) hy2 dL_law_345 ?_
    refine lv_aload_n C.1 C.2.1 dL_law_346 rfl (lv_at hl 3 rfl) ?_
    refine lv_iload_n C.1 C.2.1 dL_law_347 rfl (lv_at hl 0 rfl) ?_
    refine lv_iconst (v := 3) C.1 C.2.1 dL_law_348 (by decide) ?_
    refine k_iadd (v := 3) C (by decide) dL_law_349 ?_
    refine k_sld (v := y3) C hX hbl hbA Wd (vp_in_iff.mpr (by decide)) hy3 dL_law_350 ?_
    refine lv_aload_n C.1 C.2.1 dL_law_351 rfl (lv_at hl 3 rfl) ?_
    refine lv_iload_n C.1 C.2.1 dL_law_352 rfl (lv_at hl 0 rfl) ?_
    refine lv_iconst (v := 4) C.1 C.2.1 dL_law_353 (by decide) ?_
    refine k_iadd (v := 4) C (by decide) dL_law_354 ?_
    refine k_sld (v := y4) C hX hbl hbA Wd (vp_in_iff.mpr (by decide)) hy4 dL_law_355 ?_
    refine k_pi (k_runV (rest := []) C aks Wd cs_L_46 (kcX11_run l D q5961 q5963 q5964 q5965 q5966 q5967 q5968 q5969 y1 y2 y3 y4 (va_up (va_up (va_up (va_up (va_up (va_up (fun _ => none) 0 (some q5971)) 1 (some q5972)) 2 (some q5973)) 3 (some q5974)) 4 (some q5975)) 5 (some q5976)) e5970 _ c6610) [0, 1] rfl (by decide) [0] rfl 0 11 rfl rfl rfl rfl rfl ⟨(Nat.le_of_ble_eq_true rfl), (Nat.le_of_ble_eq_true rfl)⟩ hl.1 rfl rfl (Nat.le_of_ble_eq_true rfl) ⟨(Nat.le_of_ble_eq_true rfl), (Nat.le_of_ble_eq_true rfl)⟩ dL_law_356) (fun r w6611 => ?_)
    obtain ⟨c6612, rfl⟩ := w6611
    refine lv_aload_n C.1 C.2.1 dL_law_359 rfl (lv_at hl 1 rfl) ?_
    refine lv_aload_n C.1 C.2.1 dL_law_360 rfl (lv_at hl 3 rfl) ?_
    refine lv_iload_n C.1 C.2.1 dL_law_361 rfl (lv_at hl 0 rfl) ?_
    refine lv_iconst (v := 1) C.1 C.2.1 dL_law_362 (by decide) ?_
    refine k_iadd (v := 1) C (by decide) dL_law_363 ?_
    refine k_sld (v := y1) C hX hbl hbA Wd (vp_in_iff.mpr (by decide)) hy1 dL_law_364 ?_
    refine lv_aload_n C.1 C.2.1 dL_law_365 rfl (lv_at hl 3 rfl) ?_
    refine lv_iload_n C.1 C.2.1 dL_law_366 rfl (lv_at hl 0 rfl) ?_
    refine lv_iconst (v := 2) C.1 C.2.1 dL_law_367 (by decide) ?_
    refine k_iadd (v := 2) C (by decide) dL_law_368 ?_
    refine k_sld (v := y2) C hX hbl hbA Wd (vp_in_iff.mpr (by decide)) hy2 dL_law_369 ?_
    refine lv_aload_n C.1 C.2.1 dL_law_370 rfl (lv_at hl 3 rfl) ?_
    refine lv_iload_n C.1 C.2.1 dL_law_371 rfl (lv_at hl 0 rfl) ?_
    refine lv_iconst (v := 3) C.1 C.2.1 dL_law_372 (by decide) ?_
    refine k_iadd (v := 3) C (by decide) dL_law_373 ?_
    refine k_sld (v := y3) C hX hbl hbA Wd (vp_in_iff.mpr (by decide)) hy3 dL_law_374 ?_
    refine lv_aload_n C.1 C.2.1 dL_law_375 rfl (lv_at hl 3 rfl) ?_
    refine lv_iload_n C.1 C.2.1 dL_law_376 rfl (lv_at hl 0 rfl) ?_
    refine lv_iconst (v := 4) C.1 C.2.1 dL_law_377 (by decide) ?_
    refine k_iadd (v := 4) C (by decide) dL_law_378 ?_
    refine k_sld (v := y4) C hX hbl hbA Wd (vp_in_iff.mpr (by decide)) hy4 dL_law_379 ?_
    refine k_ci Wd [12, 13, 14] [0, 1, 2, 3, 4, 5, 6, 7, 8, 9, 10, 11] rfl (wr := [(q5961, .inr (11, [.ref q5963, .int 0, .ref q5964, .ref q5965, .ref q5966, .ref q5967, .ref q5968, .ref q5969])), (q5963, .inl (e5970, 6, .inr (.inr (.inr (.inr (va_up (va_up (va_up (va_up (va_up (va_up (fun _ => none) 0 (some q5971)) 1 (some q5972)) 2 (some q5973)) 3 (some q5974)) 4 (some q5975)) 5 (some q5976))))))), (q5971, .inr (8, [.ref q5977, .int 0])), (q5972, .inr (8, [.ref q5978, .int 0])), (q5973, .inr (8, [.ref q5979, .int 0])), (q5974, .inr (8, [.ref q5980, .int 0])), (q5975, .inr (8, [.ref q5981, .int 0])), (q5976, .inr (8, [.ref q5982, .int 0])), (q5966, .inr (3, [.ref q5991, .ref q5992, .int 0, .int 0, .int 0, .ref q5993, .ref q5994])), (q5991, .inr (1, [.ref q5995, .int 0, .ref q5996, .ref q5997, .ref q5998, .ref q5999, .ref q6000, .ref q6001, .ref q6002, .ref q6003, .ref q6004, .ref q6005, .ref q6006, .ref q6007])), (q6007, .inl (e6008, 480, .inl (fun _ => 0))), (q5993, .inl (e6009, 6, .inl (fun _ => 0)))]) rfl (by decide) (by decide) (cells' := 271) (slots' := 91330) (by decide) (by decide) (k_runV (rest := [.int (-1)]) C aks Wd cs_L_50 (kcX12_run l D q6104 q6106 q6107 q6108 q6109 q6110 q6111 q6112 q6113 q6114 q6115 q6116 q6117 q6118 q6119 q6120 q6121 q6122 q6123 q6124 q6125 q6126 q6127 q6128 q6129 q6130 y1 y2 y3 y4 e6132 e6140 _ ) [12, 13, 14] rfl (by decide) [3, 4] rfl 12 12 rfl rfl rfl rfl rfl ⟨(Nat.le_of_ble_eq_true rfl), (Nat.le_of_ble_eq_true rfl)⟩ hl.1 rfl rfl (Nat.le_of_ble_eq_true rfl) ⟨(Nat.le_of_ble_eq_true rfl), (Nat.le_of_ble_eq_true rfl)⟩ dL_law_380) (fun r _ H locs w6613 Wd => ?_)
    have Wd : wX D [(e5970, .object RX8), (e6008, .int), (e6009, .int), (e6132, .int), (e6140, .int)] s [(q5961, .inr (11, [.ref q5963, .int 0, .ref q5964, .ref q5965, .ref q5966, .ref q5967, .ref q5968, .ref q5969])), (q5963, .inl (e5970, 6, .inr (.inr (.inr (.inr (va_up (va_up (va_up (va_up (va_up (va_up (fun _ => none) 0 (some q5971)) 1 (some q5972)) 2 (some q5973)) 3 (some q5974)) 4 (some q5975)) 5 (some q5976))))))), (q5971, .inr (8, [.ref q5977, .int 0])), (q5972, .inr (8, [.ref q5978, .int 0])), (q5973, .inr (8, [.ref q5979, .int 0])), (q5974, .inr (8, [.ref q5980, .int 0])), (q5975, .inr (8, [.ref q5981, .int 0])), (q5976, .inr (8, [.ref q5982, .int 0])), (q5966, .inr (3, [.ref q5991, .ref q5992, .int 0, .int 0, .int 0, .ref q5993, .ref q5994])), (q5991, .inr (1, [.ref q5995, .int 0, .ref q5996, .ref q5997, .ref q5998, .ref q5999, .ref q6000, .ref q6001, .ref q6002, .ref q6003, .ref q6004, .ref q6005, .ref q6006, .ref q6007])), (q6007, .inl (e6008, 480, .inl (fun _ => 0))), (q5993, .inl (e6009, 6, .inl (fun _ => 0)))] _ A s.heap _ := Wd
    rcases w6613 with ⟨c6614, rfl⟩ | ⟨c6615, c6616, rfl⟩ | ⟨c6617, c6618, c6619, rfl⟩ | ⟨c6620, c6621, c6622, c6623, rfl⟩ | ⟨c6624, c6625, c6626, c6627, c6628, rfl⟩ | ⟨c6629, c6630, c6631, c6632, c6633, c6634, rfl⟩ | ⟨c6635, c6636, c6637, c6638, c6639, c6640, c6641, c6642, c6643, c6644, c6645, rfl⟩ | ⟨c6646, c6647, c6648, c6649, c6650, c6651, c6652, c6653, c6654, c6655, c6656, rfl⟩ | ⟨c6657, c6658, c6659, c6660, c6661, c6662, c6663, c6664, c6665, c6666, rfl⟩ | ⟨c6667, c6668, c6669, c6670, c6671, c6672, c6673, c6674, c6675, rfl⟩ | ⟨c6676, c6677, c6678, c6679, c6680, c6681, c6682, c6683, c6684, rfl⟩ | ⟨c6685, c6686, c6687, c6688, c6689, c6690, c6691, c6692, c6693, c6694, rfl⟩ | ⟨c6695, c6696, c6697, c6698, c6699, c6700, c6701, c6702, rfl⟩
    · refine lv_icmp_eq (tgt := 801) C.1 C.2.1 dL_law_383 (by decide) (fun _ => ?_) (fun c6703 => absurd c6703 (by decide))
      exact tail _ _ _ (k_sub Wd [] rfl (by decide) [] rfl) (lv_sub hl [0, 3] rfl)
    · exact absurd c6610 c6615
    · exact absurd c6610 c6617
    · exact absurd c6610 c6620
    · exact absurd c6610 c6624
    · exact absurd c6610 c6629
    · exact absurd c6610 c6635
    · exact absurd c6610 c6646
    · exact absurd c6610 c6657
    · exact absurd c6610 c6667
    · exact absurd c6610 c6676
    · exact absurd c6610 c6685
    · exact absurd c6610 c6695
  by_cases c6704 : y1 < 6
  · have hsel : ∃ (q6705 q6706 : Nat), (va_up (va_up (va_up (va_up (va_up (va_up (fun _ => none) 0 (some q5971)) 1 (some q5972)) 2 (some q5973)) 3 (some q5974)) 4 (some q5975)) 5 (some q5976)) y1.toNatClampNeg = some q6705 ∧ wX D [(e5970, .object RX8), (e6008, .int), (e6009, .int), (e6132, .int), (e6140, .int)] s [(q5961, .inr (11, [.ref q5963, .int 0, .ref q5964, .ref q5965, .ref q5966, .ref q5967, .ref q5968, .ref q5969])), (q5963, .inl (e5970, 6, .inr (.inr (.inr (.inr (va_up (va_up (va_up (va_up (va_up (va_up (fun _ => none) 0 (some q5971)) 1 (some q5972)) 2 (some q5973)) 3 (some q5974)) 4 (some q5975)) 5 (some q5976))))))), (q5966, .inr (3, [.ref q5991, .ref q5992, .int 0, .int 0, .int 0, .ref q5993, .ref q5994])), (q5991, .inr (1, [.ref q5995, .int 0, .ref q5996, .ref q5997, .ref q5998, .ref q5999, .ref q6000, .ref q6001, .ref q6002, .ref q6003, .ref q6004, .ref q6005, .ref q6006, .ref q6007])), (q6007, .inl (e6008, 480, .inl (fun _ => 0))), (q5993, .inl (e6009, 6, .inl (fun _ => 0))), (q6104, .inr (12, [.ref q6106, .ref q6107, .ref q6108, .ref q6109, .int 0, .int 0, .ref q6110, .int 0, .int 0, .int 0, .int 0, .int 0, .int 0, .int 0, .int 0, .int 0, .int 0, .int 0, .int 0, .int 0, .int (-1), .int 0, .int 0, .int 0, .ref q6111, .ref q6112, .ref q6113, .ref q6114, .ref q6115, .ref q6116, .int 0, .int 0, .int 0, .int 0, .ref q6117, .ref q6118, .ref q6119, .int 0, .int 0, .int 0, .int 0, .ref q6120, .ref q6121, .int 0, .ref q6122, .ref q6123, .int 0, .ref q6124, .int 0, .ref q6125, .ref q6126, .ref q6127, .int 0, .ref q6128, .ref q6129, .ref q6130])), (q6107, .inl (e6132, 6, .inl (fun _ => 0))), (q6115, .inl (e6140, 6, .inl (fun _ => 0))), (q6705, .inr (8, [.ref q6706, .int 0]))] H A s.heap locs := by
      rcases kf6 c6610 c6704 with rfl | rfl | rfl | rfl | rfl | rfl
      · exact ⟨q5971, q5977, rfl, k_sub Wd [0, 1, 8, 9, 10, 11, 12, 13, 14, 2] rfl (by decide) [0, 1, 2, 3, 4] rfl⟩
      · exact ⟨q5972, q5978, rfl, k_sub Wd [0, 1, 8, 9, 10, 11, 12, 13, 14, 3] rfl (by decide) [0, 1, 2, 3, 4] rfl⟩
      · exact ⟨q5973, q5979, rfl, k_sub Wd [0, 1, 8, 9, 10, 11, 12, 13, 14, 4] rfl (by decide) [0, 1, 2, 3, 4] rfl⟩
      · exact ⟨q5974, q5980, rfl, k_sub Wd [0, 1, 8, 9, 10, 11, 12, 13, 14, 5] rfl (by decide) [0, 1, 2, 3, 4] rfl⟩
      · exact ⟨q5975, q5981, rfl, k_sub Wd [0, 1, 8, 9, 10, 11, 12, 13, 14, 6] rfl (by decide) [0, 1, 2, 3, 4] rfl⟩
      · exact ⟨q5976, q5982, rfl, k_sub Wd [0, 1, 8, 9, 10, 11, 12, 13, 14, 7] rfl (by decide) [0, 1, 2, 3, 4] rfl⟩
    obtain ⟨q6705, q6706, hk6707, Wd⟩ := hsel
    refine lv_aload_n C.1 C.2.1 dL_law_335 rfl (lv_at hl 2 rfl) ?_
    refine lv_aload_n C.1 C.2.1 dL_law_336 rfl (lv_at hl 3 rfl) ?_
    refine lv_iload_n C.1 C.2.1 dL_law_337 rfl (lv_at hl 0 rfl) ?_
    refine lv_iconst (v := 1) C.1 C.2.1 dL_law_338 (by decide) ?_
    refine k_iadd (v := 1) C (by decide) dL_law_339 ?_
    refine k_sld (v := y1) C hX hbl hbA Wd (vp_in_iff.mpr (by decide)) hy1 dL_law_340 ?_
    refine lv_aload_n C.1 C.2.1 dL_law_341 rfl (lv_at hl 3 rfl) ?_
    refine lv_iload_n C.1 C.2.1 dL_law_342 rfl (lv_at hl 0 rfl) ?_
    refine lv_iconst (v := 2) C.1 C.2.1 dL_law_343 (by decide) ?_
    refine k_iadd (v := 2) C (by decide) dL_law_344 ?_
    refine k_sld (v := y2) C hX hbl hbA Wd (vp_in_iff.mpr (by decide)) hy2 dL_law_345 ?_
    refine lv_aload_n C.1 C.2.1 dL_law_346 rfl (lv_at hl 3 rfl) ?_
    refine lv_iload_n C.1 C.2.1 dL_law_347 rfl (lv_at hl 0 rfl) ?_
    refine lv_iconst (v := 3) C.1 C.2.1 dL_law_348 (by decide) ?_
    refine k_iadd (v := 3) C (by decide) dL_law_349 ?_
    refine k_sld (v := y3) C hX hbl hbA Wd (vp_in_iff.mpr (by decide)) hy3 dL_law_350 ?_
    refine lv_aload_n C.1 C.2.1 dL_law_351 rfl (lv_at hl 3 rfl) ?_
    refine lv_iload_n C.1 C.2.1 dL_law_352 rfl (lv_at hl 0 rfl) ?_
    refine lv_iconst (v := 4) C.1 C.2.1 dL_law_353 (by decide) ?_
    refine k_iadd (v := 4) C (by decide) dL_law_354 ?_
    refine k_sld (v := y4) C hX hbl hbA Wd (vp_in_iff.mpr (by decide)) hy4 dL_law_355 ?_
    refine k_ci Wd [0, 1, 2, 3, 9, 4, 5] [6, 7, 8] rfl (wr := [(q6104, .inr (12, [.ref q6106, .ref q6107, .ref q6108, .ref q6109, .int 0, .int 0, .ref q6110, .int 0, .int 0, .int 0, .int 0, .int 0, .int 0, .int 0, .int 0, .int 0, .int 0, .int 0, .int 0, .int 0, .int (-1), .int 0, .int 0, .int 0, .ref q6111, .ref q6112, .ref q6113, .ref q6114, .ref q6115, .ref q6116, .int 0, .int 0, .int 0, .int 0, .ref q6117, .ref q6118, .ref q6119, .int 0, .int 0, .int 0, .int 0, .ref q6120, .ref q6121, .int 0, .ref q6122, .ref q6123, .int 0, .ref q6124, .int 0, .ref q6125, .ref q6126, .ref q6127, .int 0, .ref q6128, .ref q6129, .ref q6130])), (q6107, .inl (e6132, 6, .inl (fun _ => 0))), (q6115, .inl (e6140, 6, .inl (fun _ => 0)))]) rfl (by decide) (by decide) (cells' := 271) (slots' := 91330) (by decide) (by decide) (k_runV (rest := []) C aks Wd cs_L_46 (kcX11_run_v2 l D q5961 q5963 q5964 q5965 q5966 q5967 q5968 q5969 q6705 q5991 q5992 q5993 q5994 q6706 q5995 q5996 q5997 q5998 q5999 q6000 q6001 q6002 q6003 q6004 q6005 q6006 q6007 y1 y2 y3 y4 (va_up (va_up (va_up (va_up (va_up (va_up (fun _ => none) 0 (some q5971)) 1 (some q5972)) 2 (some q5973)) 3 (some q5974)) 4 (some q5975)) 5 (some q5976)) e5970 e6009 e6008 _ hk6707 c6610 c6704) [0, 1, 2, 3, 9, 4, 5] rfl (by decide) [0, 2, 1] rfl 0 11 rfl rfl rfl rfl rfl ⟨(Nat.le_of_ble_eq_true rfl), (Nat.le_of_ble_eq_true rfl)⟩ hl.1 rfl rfl (Nat.le_of_ble_eq_true rfl) ⟨(Nat.le_of_ble_eq_true rfl), (Nat.le_of_ble_eq_true rfl)⟩ dL_law_356) (fun r _ H locs w6708 Wd => ?_)
    have Wd : wX D [(e5970, .object RX8), (e6008, .int), (e6009, .int), (e6132, .int), (e6140, .int)] s [(q6104, .inr (12, [.ref q6106, .ref q6107, .ref q6108, .ref q6109, .int 0, .int 0, .ref q6110, .int 0, .int 0, .int 0, .int 0, .int 0, .int 0, .int 0, .int 0, .int 0, .int 0, .int 0, .int 0, .int 0, .int (-1), .int 0, .int 0, .int 0, .ref q6111, .ref q6112, .ref q6113, .ref q6114, .ref q6115, .ref q6116, .int 0, .int 0, .int 0, .int 0, .ref q6117, .ref q6118, .ref q6119, .int 0, .int 0, .int 0, .int 0, .ref q6120, .ref q6121, .int 0, .ref q6122, .ref q6123, .int 0, .ref q6124, .int 0, .ref q6125, .ref q6126, .ref q6127, .int 0, .ref q6128, .ref q6129, .ref q6130])), (q6107, .inl (e6132, 6, .inl (fun _ => 0))), (q6115, .inl (e6140, 6, .inl (fun _ => 0)))] _ A s.heap _ := Wd
    rcases w6708 with ⟨c6709, c6710, c6711, rfl⟩ | ⟨c6712, c6713, c6714, c6715, rfl⟩ | ⟨c6716, c6717, c6718, c6719, c6720, rfl⟩ | ⟨c6721, c6722, c6723, c6724, c6725, c6726, rfl⟩ | ⟨c6727, c6728, c6729, c6730, c6731, c6732, c6733, c6734, c6735, c6736, rfl⟩ | ⟨c6737, c6738, c6739, c6740, c6741, c6742, c6743, c6744, c6745, c6746, c6747, c6748, rfl⟩ | ⟨c6749, c6750, c6751, c6752, c6753, c6754, c6755, c6756, c6757, c6758, c6759, c6760, c6761, rfl⟩ | ⟨c6762, c6763, c6764, c6765, c6766, c6767, c6768, c6769, c6770, c6771, c6772, rfl⟩ | ⟨c6773, c6774, c6775, c6776, c6777, c6778, c6779, c6780, c6781, rfl⟩ | ⟨c6782, c6783, c6784, c6785, c6786, c6787, c6788, c6789, rfl⟩ | ⟨c6790, c6791, c6792, c6793, c6794, c6795, c6796, rfl⟩
    · refine lv_aload_n C.1 C.2.1 dL_law_359 rfl (lv_at hl 1 rfl) ?_
      refine lv_aload_n C.1 C.2.1 dL_law_360 rfl (lv_at hl 3 rfl) ?_
      refine lv_iload_n C.1 C.2.1 dL_law_361 rfl (lv_at hl 0 rfl) ?_
      refine lv_iconst (v := 1) C.1 C.2.1 dL_law_362 (by decide) ?_
      refine k_iadd (v := 1) C (by decide) dL_law_363 ?_
      refine k_sld (v := y1) C hX hbl hbA Wd (vp_in_iff.mpr (by decide)) hy1 dL_law_364 ?_
      refine lv_aload_n C.1 C.2.1 dL_law_365 rfl (lv_at hl 3 rfl) ?_
      refine lv_iload_n C.1 C.2.1 dL_law_366 rfl (lv_at hl 0 rfl) ?_
      refine lv_iconst (v := 2) C.1 C.2.1 dL_law_367 (by decide) ?_
      refine k_iadd (v := 2) C (by decide) dL_law_368 ?_
      refine k_sld (v := y2) C hX hbl hbA Wd (vp_in_iff.mpr (by decide)) hy2 dL_law_369 ?_
      refine lv_aload_n C.1 C.2.1 dL_law_370 rfl (lv_at hl 3 rfl) ?_
      refine lv_iload_n C.1 C.2.1 dL_law_371 rfl (lv_at hl 0 rfl) ?_
      refine lv_iconst (v := 3) C.1 C.2.1 dL_law_372 (by decide) ?_
      refine k_iadd (v := 3) C (by decide) dL_law_373 ?_
      refine k_sld (v := y3) C hX hbl hbA Wd (vp_in_iff.mpr (by decide)) hy3 dL_law_374 ?_
      refine lv_aload_n C.1 C.2.1 dL_law_375 rfl (lv_at hl 3 rfl) ?_
      refine lv_iload_n C.1 C.2.1 dL_law_376 rfl (lv_at hl 0 rfl) ?_
      refine lv_iconst (v := 4) C.1 C.2.1 dL_law_377 (by decide) ?_
      refine k_iadd (v := 4) C (by decide) dL_law_378 ?_
      refine k_sld (v := y4) C hX hbl hbA Wd (vp_in_iff.mpr (by decide)) hy4 dL_law_379 ?_
      refine k_ci Wd [0, 1, 2] [] rfl (wr := []) rfl (by decide) (by decide) (cells' := 271) (slots' := 91330) (by decide) (by decide) (k_runV (rest := [.int (-1)]) C aks Wd cs_L_50 (kcX12_run l D q6104 q6106 q6107 q6108 q6109 q6110 q6111 q6112 q6113 q6114 q6115 q6116 q6117 q6118 q6119 q6120 q6121 q6122 q6123 q6124 q6125 q6126 q6127 q6128 q6129 q6130 y1 y2 y3 y4 e6132 e6140 _ ) [0, 1, 2] rfl (by decide) [3, 4] rfl 0 12 rfl rfl rfl rfl rfl ⟨(Nat.le_of_ble_eq_true rfl), (Nat.le_of_ble_eq_true rfl)⟩ hl.1 rfl rfl (Nat.le_of_ble_eq_true rfl) ⟨(Nat.le_of_ble_eq_true rfl), (Nat.le_of_ble_eq_true rfl)⟩ dL_law_380) (fun r _ H locs w6797 Wd => ?_)
      have Wd : wX D [(e5970, .object RX8), (e6008, .int), (e6009, .int), (e6132, .int), (e6140, .int)] s [] _ A s.heap _ := Wd
      rcases w6797 with ⟨c6798, rfl⟩ | ⟨c6799, c6800, rfl⟩ | ⟨c6801, c6802, c6803, rfl⟩ | ⟨c6804, c6805, c6806, c6807, rfl⟩ | ⟨c6808, c6809, c6810, c6811, c6812, rfl⟩ | ⟨c6813, c6814, c6815, c6816, c6817, c6818, rfl⟩ | ⟨c6819, c6820, c6821, c6822, c6823, c6824, c6825, c6826, c6827, c6828, c6829, rfl⟩ | ⟨c6830, c6831, c6832, c6833, c6834, c6835, c6836, c6837, c6838, c6839, c6840, rfl⟩ | ⟨c6841, c6842, c6843, c6844, c6845, c6846, c6847, c6848, c6849, c6850, rfl⟩ | ⟨c6851, c6852, c6853, c6854, c6855, c6856, c6857, c6858, c6859, rfl⟩ | ⟨c6860, c6861, c6862, c6863, c6864, c6865, c6866, c6867, c6868, rfl⟩ | ⟨c6869, c6870, c6871, c6872, c6873, c6874, c6875, c6876, c6877, c6878, rfl⟩ | ⟨c6879, c6880, c6881, c6882, c6883, c6884, c6885, c6886, rfl⟩
      · exact absurd c6798 c6610
      · exact False.elim (by have z0 := kz_nlt c6610; have z1 := kz_lt c6704; have z2 := kz_nlt c6709; have z3 := kz_nle c6710; have z4 := kz_nlt c6799; have z5 := kz_lt c6800; have t0 : (0 : Int32).toInt = 0 := (by decide); have t6 : (6 : Int32).toInt = 6 := (by decide); have t5 : (5 : Int32).toInt = 5 := (by decide); omega)
      · refine lv_icmp_eq (tgt := 801) C.1 C.2.1 dL_law_383 (by decide) (fun _ => ?_) (fun c6887 => absurd c6887 (by decide))
        exact tail _ _ _ (k_sub Wd [] rfl (by decide) [] rfl) (lv_sub hl [0, 3] rfl)
      · exact absurd c6711 c6806
      · exact absurd c6711 c6810
      · exact absurd c6711 c6815
      · exact absurd c6711 c6821
      · exact absurd c6711 c6832
      · exact absurd c6711 c6843
      · exact absurd c6711 c6853
      · exact absurd c6711 c6862
      · exact absurd c6711 c6871
      · exact absurd c6711 c6881
    · refine lv_aload_n C.1 C.2.1 dL_law_359 rfl (lv_at hl 1 rfl) ?_
      refine lv_aload_n C.1 C.2.1 dL_law_360 rfl (lv_at hl 3 rfl) ?_
      refine lv_iload_n C.1 C.2.1 dL_law_361 rfl (lv_at hl 0 rfl) ?_
      refine lv_iconst (v := 1) C.1 C.2.1 dL_law_362 (by decide) ?_
      refine k_iadd (v := 1) C (by decide) dL_law_363 ?_
      refine k_sld (v := y1) C hX hbl hbA Wd (vp_in_iff.mpr (by decide)) hy1 dL_law_364 ?_
      refine lv_aload_n C.1 C.2.1 dL_law_365 rfl (lv_at hl 3 rfl) ?_
      refine lv_iload_n C.1 C.2.1 dL_law_366 rfl (lv_at hl 0 rfl) ?_
      refine lv_iconst (v := 2) C.1 C.2.1 dL_law_367 (by decide) ?_
      refine k_iadd (v := 2) C (by decide) dL_law_368 ?_
      refine k_sld (v := y2) C hX hbl hbA Wd (vp_in_iff.mpr (by decide)) hy2 dL_law_369 ?_
      refine lv_aload_n C.1 C.2.1 dL_law_370 rfl (lv_at hl 3 rfl) ?_
      refine lv_iload_n C.1 C.2.1 dL_law_371 rfl (lv_at hl 0 rfl) ?_
      refine lv_iconst (v := 3) C.1 C.2.1 dL_law_372 (by decide) ?_
      refine k_iadd (v := 3) C (by decide) dL_law_373 ?_
      refine k_sld (v := y3) C hX hbl hbA Wd (vp_in_iff.mpr (by decide)) hy3 dL_law_374 ?_
      refine lv_aload_n C.1 C.2.1 dL_law_375 rfl (lv_at hl 3 rfl) ?_
      refine lv_iload_n C.1 C.2.1 dL_law_376 rfl (lv_at hl 0 rfl) ?_
      refine lv_iconst (v := 4) C.1 C.2.1 dL_law_377 (by decide) ?_
      refine k_iadd (v := 4) C (by decide) dL_law_378 ?_
      refine k_sld (v := y4) C hX hbl hbA Wd (vp_in_iff.mpr (by decide)) hy4 dL_law_379 ?_
      refine k_ci Wd [0, 1, 2] [] rfl (wr := []) rfl (by decide) (by decide) (cells' := 271) (slots' := 91330) (by decide) (by decide) (k_runV (rest := [.int (-1)]) C aks Wd cs_L_50 (kcX12_run l D q6104 q6106 q6107 q6108 q6109 q6110 q6111 q6112 q6113 q6114 q6115 q6116 q6117 q6118 q6119 q6120 q6121 q6122 q6123 q6124 q6125 q6126 q6127 q6128 q6129 q6130 y1 y2 y3 y4 e6132 e6140 _ ) [0, 1, 2] rfl (by decide) [3, 4] rfl 0 12 rfl rfl rfl rfl rfl ⟨(Nat.le_of_ble_eq_true rfl), (Nat.le_of_ble_eq_true rfl)⟩ hl.1 rfl rfl (Nat.le_of_ble_eq_true rfl) ⟨(Nat.le_of_ble_eq_true rfl), (Nat.le_of_ble_eq_true rfl)⟩ dL_law_380) (fun r _ H locs w6888 Wd => ?_)
      have Wd : wX D [(e5970, .object RX8), (e6008, .int), (e6009, .int), (e6132, .int), (e6140, .int)] s [] _ A s.heap _ := Wd
      rcases w6888 with ⟨c6889, rfl⟩ | ⟨c6890, c6891, rfl⟩ | ⟨c6892, c6893, c6894, rfl⟩ | ⟨c6895, c6896, c6897, c6898, rfl⟩ | ⟨c6899, c6900, c6901, c6902, c6903, rfl⟩ | ⟨c6904, c6905, c6906, c6907, c6908, c6909, rfl⟩ | ⟨c6910, c6911, c6912, c6913, c6914, c6915, c6916, c6917, c6918, c6919, c6920, rfl⟩ | ⟨c6921, c6922, c6923, c6924, c6925, c6926, c6927, c6928, c6929, c6930, c6931, rfl⟩ | ⟨c6932, c6933, c6934, c6935, c6936, c6937, c6938, c6939, c6940, c6941, rfl⟩ | ⟨c6942, c6943, c6944, c6945, c6946, c6947, c6948, c6949, c6950, rfl⟩ | ⟨c6951, c6952, c6953, c6954, c6955, c6956, c6957, c6958, c6959, rfl⟩ | ⟨c6960, c6961, c6962, c6963, c6964, c6965, c6966, c6967, c6968, c6969, rfl⟩ | ⟨c6970, c6971, c6972, c6973, c6974, c6975, c6976, c6977, rfl⟩
      · exact absurd c6889 c6610
      · exact False.elim (by have z0 := kz_nlt c6610; have z1 := kz_lt c6704; have z2 := kz_nlt c6712; have z3 := kz_nle c6713; have z4 := kz_nlt c6890; have z5 := kz_lt c6891; have t0 : (0 : Int32).toInt = 0 := (by decide); have t6 : (6 : Int32).toInt = 6 := (by decide); have t5 : (5 : Int32).toInt = 5 := (by decide); omega)
      · exact absurd c6894 c6714
      · refine lv_icmp_eq (tgt := 801) C.1 C.2.1 dL_law_383 (by decide) (fun _ => ?_) (fun c6978 => absurd c6978 (by decide))
        exact tail _ _ _ (k_sub Wd [] rfl (by decide) [] rfl) (lv_sub hl [0, 3] rfl)
      · exact False.elim (by have z0 := kz_nlt c6714; have z1 := kz_le c6715; have z2 := kz_nlt c6901; have z3 := kz_nlt c6902; have t0 : (0 : Int32).toInt = 0 := (by decide); have t16 : (16 : Int32).toInt = 16 := (by decide); have t15 : (15 : Int32).toInt = 15 := (by decide); omega)
      · exact False.elim (by have z0 := kz_nlt c6714; have z1 := kz_le c6715; have z2 := kz_nlt c6906; have z3 := kz_nlt c6907; have t0 : (0 : Int32).toInt = 0 := (by decide); have t16 : (16 : Int32).toInt = 16 := (by decide); have t15 : (15 : Int32).toInt = 15 := (by decide); omega)
      · exact False.elim (by have z0 := kz_nlt c6714; have z1 := kz_le c6715; have z2 := kz_nlt c6912; have z3 := kz_nlt c6913; have t0 : (0 : Int32).toInt = 0 := (by decide); have t16 : (16 : Int32).toInt = 16 := (by decide); have t15 : (15 : Int32).toInt = 15 := (by decide); omega)
      · exact False.elim (by have z0 := kz_nlt c6714; have z1 := kz_le c6715; have z2 := kz_nlt c6923; have z3 := kz_nlt c6924; have t0 : (0 : Int32).toInt = 0 := (by decide); have t16 : (16 : Int32).toInt = 16 := (by decide); have t15 : (15 : Int32).toInt = 15 := (by decide); omega)
      · exact False.elim (by have z0 := kz_nlt c6714; have z1 := kz_le c6715; have z2 := kz_nlt c6934; have z3 := kz_nlt c6935; have t0 : (0 : Int32).toInt = 0 := (by decide); have t16 : (16 : Int32).toInt = 16 := (by decide); have t15 : (15 : Int32).toInt = 15 := (by decide); omega)
      · exact False.elim (by have z0 := kz_nlt c6714; have z1 := kz_le c6715; have z2 := kz_nlt c6944; have z3 := kz_nlt c6945; have t0 : (0 : Int32).toInt = 0 := (by decide); have t16 : (16 : Int32).toInt = 16 := (by decide); have t15 : (15 : Int32).toInt = 15 := (by decide); omega)
      · exact False.elim (by have z0 := kz_nlt c6714; have z1 := kz_le c6715; have z2 := kz_nlt c6953; have z3 := kz_nlt c6954; have t0 : (0 : Int32).toInt = 0 := (by decide); have t16 : (16 : Int32).toInt = 16 := (by decide); have t15 : (15 : Int32).toInt = 15 := (by decide); omega)
      · exact False.elim (by have z0 := kz_nlt c6714; have z1 := kz_le c6715; have z2 := kz_nlt c6962; have z3 := kz_nlt c6963; have t0 : (0 : Int32).toInt = 0 := (by decide); have t16 : (16 : Int32).toInt = 16 := (by decide); have t15 : (15 : Int32).toInt = 15 := (by decide); omega)
      · exact False.elim (by have z0 := kz_nlt c6714; have z1 := kz_le c6715; have z2 := kz_nlt c6972; have z3 := kz_nlt c6973; have t0 : (0 : Int32).toInt = 0 := (by decide); have t16 : (16 : Int32).toInt = 16 := (by decide); have t15 : (15 : Int32).toInt = 15 := (by decide); omega)
    · refine lv_aload_n C.1 C.2.1 dL_law_359 rfl (lv_at hl 1 rfl) ?_
      refine lv_aload_n C.1 C.2.1 dL_law_360 rfl (lv_at hl 3 rfl) ?_
      refine lv_iload_n C.1 C.2.1 dL_law_361 rfl (lv_at hl 0 rfl) ?_
      refine lv_iconst (v := 1) C.1 C.2.1 dL_law_362 (by decide) ?_
      refine k_iadd (v := 1) C (by decide) dL_law_363 ?_
      refine k_sld (v := y1) C hX hbl hbA Wd (vp_in_iff.mpr (by decide)) hy1 dL_law_364 ?_
      refine lv_aload_n C.1 C.2.1 dL_law_365 rfl (lv_at hl 3 rfl) ?_
      refine lv_iload_n C.1 C.2.1 dL_law_366 rfl (lv_at hl 0 rfl) ?_
      refine lv_iconst (v := 2) C.1 C.2.1 dL_law_367 (by decide) ?_
      refine k_iadd (v := 2) C (by decide) dL_law_368 ?_
      refine k_sld (v := y2) C hX hbl hbA Wd (vp_in_iff.mpr (by decide)) hy2 dL_law_369 ?_
      refine lv_aload_n C.1 C.2.1 dL_law_370 rfl (lv_at hl 3 rfl) ?_
      refine lv_iload_n C.1 C.2.1 dL_law_371 rfl (lv_at hl 0 rfl) ?_
      refine lv_iconst (v := 3) C.1 C.2.1 dL_law_372 (by decide) ?_
      refine k_iadd (v := 3) C (by decide) dL_law_373 ?_
      refine k_sld (v := y3) C hX hbl hbA Wd (vp_in_iff.mpr (by decide)) hy3 dL_law_374 ?_
      refine lv_aload_n C.1 C.2.1 dL_law_375 rfl (lv_at hl 3 rfl) ?_
      refine lv_iload_n C.1 C.2.1 dL_law_376 rfl (lv_at hl 0 rfl) ?_
      refine lv_iconst (v := 4) C.1 C.2.1 dL_law_377 (by decide) ?_
      refine k_iadd (v := 4) C (by decide) dL_law_378 ?_
      refine k_sld (v := y4) C hX hbl hbA Wd (vp_in_iff.mpr (by decide)) hy4 dL_law_379 ?_
      refine k_ci Wd [0, 1, 2] [] rfl (wr := []) rfl (by decide) (by decide) (cells' := 271) (slots' := 91330) (by decide) (by decide) (k_runV (rest := [.int (-1)]) C aks Wd cs_L_50 (kcX12_run l D q6104 q6106 q6107 q6108 q6109 q6110 q6111 q6112 q6113 q6114 q6115 q6116 q6117 q6118 q6119 q6120 q6121 q6122 q6123 q6124 q6125 q6126 q6127 q6128 q6129 q6130 y1 y2 y3 y4 e6132 e6140 _ ) [0, 1, 2] rfl (by decide) [3, 4] rfl 0 12 rfl rfl rfl rfl rfl ⟨(Nat.le_of_ble_eq_true rfl), (Nat.le_of_ble_eq_true rfl)⟩ hl.1 rfl rfl (Nat.le_of_ble_eq_true rfl) ⟨(Nat.le_of_ble_eq_true rfl), (Nat.le_of_ble_eq_true rfl)⟩ dL_law_380) (fun r _ H locs w6979 Wd => ?_)
      have Wd : wX D [(e5970, .object RX8), (e6008, .int), (e6009, .int), (e6132, .int), (e6140, .int)] s [] _ A s.heap _ := Wd
      rcases w6979 with ⟨c6980, rfl⟩ | ⟨c6981, c6982, rfl⟩ | ⟨c6983, c6984, c6985, rfl⟩ | ⟨c6986, c6987, c6988, c6989, rfl⟩ | ⟨c6990, c6991, c6992, c6993, c6994, rfl⟩ | ⟨c6995, c6996, c6997, c6998, c6999, c7000, rfl⟩ | ⟨c7001, c7002, c7003, c7004, c7005, c7006, c7007, c7008, c7009, c7010, c7011, rfl⟩ | ⟨c7012, c7013, c7014, c7015, c7016, c7017, c7018, c7019, c7020, c7021, c7022, rfl⟩ | ⟨c7023, c7024, c7025, c7026, c7027, c7028, c7029, c7030, c7031, c7032, rfl⟩ | ⟨c7033, c7034, c7035, c7036, c7037, c7038, c7039, c7040, c7041, rfl⟩ | ⟨c7042, c7043, c7044, c7045, c7046, c7047, c7048, c7049, c7050, rfl⟩ | ⟨c7051, c7052, c7053, c7054, c7055, c7056, c7057, c7058, c7059, c7060, rfl⟩ | ⟨c7061, c7062, c7063, c7064, c7065, c7066, c7067, c7068, rfl⟩
      · exact absurd c6980 c6610
      · exact False.elim (by have z0 := kz_nlt c6610; have z1 := kz_lt c6704; have z2 := kz_nlt c6716; have z3 := kz_nle c6717; have z4 := kz_nlt c6981; have z5 := kz_lt c6982; have t0 : (0 : Int32).toInt = 0 := (by decide); have t6 : (6 : Int32).toInt = 6 := (by decide); have t5 : (5 : Int32).toInt = 5 := (by decide); omega)
      · exact absurd c6985 c6718
      · exact False.elim (by have z0 := kz_nlt c6718; have z1 := kz_nle c6719; have z2 := kz_nlt c6988; have z3 := kz_lt c6989; have t0 : (0 : Int32).toInt = 0 := (by decide); have t16 : (16 : Int32).toInt = 16 := (by decide); have t15 : (15 : Int32).toInt = 15 := (by decide); omega)
      · refine lv_icmp_eq (tgt := 801) C.1 C.2.1 dL_law_383 (by decide) (fun _ => ?_) (fun c7069 => absurd c7069 (by decide))
        exact tail _ _ _ (k_sub Wd [] rfl (by decide) [] rfl) (lv_sub hl [0, 3] rfl)
      · exact absurd c6720 c6999
      · exact absurd c6720 c7005
      · exact absurd c6720 c7016
      · exact absurd c6720 c7027
      · exact absurd c6720 c7037
      · exact absurd c6720 c7046
      · exact absurd c6720 c7055
      · exact absurd c6720 c7065
    · refine lv_aload_n C.1 C.2.1 dL_law_359 rfl (lv_at hl 1 rfl) ?_
      refine lv_aload_n C.1 C.2.1 dL_law_360 rfl (lv_at hl 3 rfl) ?_
      refine lv_iload_n C.1 C.2.1 dL_law_361 rfl (lv_at hl 0 rfl) ?_
      refine lv_iconst (v := 1) C.1 C.2.1 dL_law_362 (by decide) ?_
      refine k_iadd (v := 1) C (by decide) dL_law_363 ?_
      refine k_sld (v := y1) C hX hbl hbA Wd (vp_in_iff.mpr (by decide)) hy1 dL_law_364 ?_
      refine lv_aload_n C.1 C.2.1 dL_law_365 rfl (lv_at hl 3 rfl) ?_
      refine lv_iload_n C.1 C.2.1 dL_law_366 rfl (lv_at hl 0 rfl) ?_
      refine lv_iconst (v := 2) C.1 C.2.1 dL_law_367 (by decide) ?_
      refine k_iadd (v := 2) C (by decide) dL_law_368 ?_
      refine k_sld (v := y2) C hX hbl hbA Wd (vp_in_iff.mpr (by decide)) hy2 dL_law_369 ?_
      refine lv_aload_n C.1 C.2.1 dL_law_370 rfl (lv_at hl 3 rfl) ?_
      refine lv_iload_n C.1 C.2.1 dL_law_371 rfl (lv_at hl 0 rfl) ?_
      refine lv_iconst (v := 3) C.1 C.2.1 dL_law_372 (by decide) ?_
      refine k_iadd (v := 3) C (by decide) dL_law_373 ?_
      refine k_sld (v := y3) C hX hbl hbA Wd (vp_in_iff.mpr (by decide)) hy3 dL_law_374 ?_
      refine lv_aload_n C.1 C.2.1 dL_law_375 rfl (lv_at hl 3 rfl) ?_
      refine lv_iload_n C.1 C.2.1 dL_law_376 rfl (lv_at hl 0 rfl) ?_
      refine lv_iconst (v := 4) C.1 C.2.1 dL_law_377 (by decide) ?_
      refine k_iadd (v := 4) C (by decide) dL_law_378 ?_
      refine k_sld (v := y4) C hX hbl hbA Wd (vp_in_iff.mpr (by decide)) hy4 dL_law_379 ?_
      refine k_ci Wd [0, 1, 2] [] rfl (wr := []) rfl (by decide) (by decide) (cells' := 271) (slots' := 91330) (by decide) (by decide) (k_runV (rest := [.int (-1)]) C aks Wd cs_L_50 (kcX12_run l D q6104 q6106 q6107 q6108 q6109 q6110 q6111 q6112 q6113 q6114 q6115 q6116 q6117 q6118 q6119 q6120 q6121 q6122 q6123 q6124 q6125 q6126 q6127 q6128 q6129 q6130 y1 y2 y3 y4 e6132 e6140 _ ) [0, 1, 2] rfl (by decide) [3, 4] rfl 0 12 rfl rfl rfl rfl rfl ⟨(Nat.le_of_ble_eq_true rfl), (Nat.le_of_ble_eq_true rfl)⟩ hl.1 rfl rfl (Nat.le_of_ble_eq_true rfl) ⟨(Nat.le_of_ble_eq_true rfl), (Nat.le_of_ble_eq_true rfl)⟩ dL_law_380) (fun r _ H locs w7070 Wd => ?_)
      have Wd : wX D [(e5970, .object RX8), (e6008, .int), (e6009, .int), (e6132, .int), (e6140, .int)] s [] _ A s.heap _ := Wd
      rcases w7070 with ⟨c7071, rfl⟩ | ⟨c7072, c7073, rfl⟩ | ⟨c7074, c7075, c7076, rfl⟩ | ⟨c7077, c7078, c7079, c7080, rfl⟩ | ⟨c7081, c7082, c7083, c7084, c7085, rfl⟩ | ⟨c7086, c7087, c7088, c7089, c7090, c7091, rfl⟩ | ⟨c7092, c7093, c7094, c7095, c7096, c7097, c7098, c7099, c7100, c7101, c7102, rfl⟩ | ⟨c7103, c7104, c7105, c7106, c7107, c7108, c7109, c7110, c7111, c7112, c7113, rfl⟩ | ⟨c7114, c7115, c7116, c7117, c7118, c7119, c7120, c7121, c7122, c7123, rfl⟩ | ⟨c7124, c7125, c7126, c7127, c7128, c7129, c7130, c7131, c7132, rfl⟩ | ⟨c7133, c7134, c7135, c7136, c7137, c7138, c7139, c7140, c7141, rfl⟩ | ⟨c7142, c7143, c7144, c7145, c7146, c7147, c7148, c7149, c7150, c7151, rfl⟩ | ⟨c7152, c7153, c7154, c7155, c7156, c7157, c7158, c7159, rfl⟩
      · exact absurd c7071 c6610
      · exact False.elim (by have z0 := kz_nlt c6610; have z1 := kz_lt c6704; have z2 := kz_nlt c6721; have z3 := kz_nle c6722; have z4 := kz_nlt c7072; have z5 := kz_lt c7073; have t0 : (0 : Int32).toInt = 0 := (by decide); have t6 : (6 : Int32).toInt = 6 := (by decide); have t5 : (5 : Int32).toInt = 5 := (by decide); omega)
      · exact absurd c7076 c6723
      · exact False.elim (by have z0 := kz_nlt c6723; have z1 := kz_nle c6724; have z2 := kz_nlt c7079; have z3 := kz_lt c7080; have t0 : (0 : Int32).toInt = 0 := (by decide); have t16 : (16 : Int32).toInt = 16 := (by decide); have t15 : (15 : Int32).toInt = 15 := (by decide); omega)
      · exact absurd c7085 c6725
      · refine lv_icmp_eq (tgt := 801) C.1 C.2.1 dL_law_383 (by decide) (fun _ => ?_) (fun c7160 => absurd c7160 (by decide))
        exact tail _ _ _ (k_sub Wd [] rfl (by decide) [] rfl) (lv_sub hl [0, 3] rfl)
      · exact False.elim (by have z0 := kz_nlt c6725; have z1 := kz_le c6726; have z2 := kz_nlt c7096; have z3 := kz_nlt c7097; have t0 : (0 : Int32).toInt = 0 := (by decide); have t16 : (16 : Int32).toInt = 16 := (by decide); have t15 : (15 : Int32).toInt = 15 := (by decide); omega)
      · exact False.elim (by have z0 := kz_nlt c6725; have z1 := kz_le c6726; have z2 := kz_nlt c7107; have z3 := kz_nlt c7108; have t0 : (0 : Int32).toInt = 0 := (by decide); have t16 : (16 : Int32).toInt = 16 := (by decide); have t15 : (15 : Int32).toInt = 15 := (by decide); omega)
      · exact False.elim (by have z0 := kz_nlt c6725; have z1 := kz_le c6726; have z2 := kz_nlt c7118; have z3 := kz_nlt c7119; have t0 : (0 : Int32).toInt = 0 := (by decide); have t16 : (16 : Int32).toInt = 16 := (by decide); have t15 : (15 : Int32).toInt = 15 := (by decide); omega)
      · exact False.elim (by have z0 := kz_nlt c6725; have z1 := kz_le c6726; have z2 := kz_nlt c7128; have z3 := kz_nlt c7129; have t0 : (0 : Int32).toInt = 0 := (by decide); have t16 : (16 : Int32).toInt = 16 := (by decide); have t15 : (15 : Int32).toInt = 15 := (by decide); omega)
      · exact False.elim (by have z0 := kz_nlt c6725; have z1 := kz_le c6726; have z2 := kz_nlt c7137; have z3 := kz_nlt c7138; have t0 : (0 : Int32).toInt = 0 := (by decide); have t16 : (16 : Int32).toInt = 16 := (by decide); have t15 : (15 : Int32).toInt = 15 := (by decide); omega)
      · exact False.elim (by have z0 := kz_nlt c6725; have z1 := kz_le c6726; have z2 := kz_nlt c7146; have z3 := kz_nlt c7147; have t0 : (0 : Int32).toInt = 0 := (by decide); have t16 : (16 : Int32).toInt = 16 := (by decide); have t15 : (15 : Int32).toInt = 15 := (by decide); omega)
      · exact False.elim (by have z0 := kz_nlt c6725; have z1 := kz_le c6726; have z2 := kz_nlt c7156; have z3 := kz_nlt c7157; have t0 : (0 : Int32).toInt = 0 := (by decide); have t16 : (16 : Int32).toInt = 16 := (by decide); have t15 : (15 : Int32).toInt = 15 := (by decide); omega)
    · refine lv_aload_n C.1 C.2.1 dL_law_359 rfl (lv_at hl 1 rfl) ?_
      refine lv_aload_n C.1 C.2.1 dL_law_360 rfl (lv_at hl 3 rfl) ?_
      refine lv_iload_n C.1 C.2.1 dL_law_361 rfl (lv_at hl 0 rfl) ?_
      refine lv_iconst (v := 1) C.1 C.2.1 dL_law_362 (by decide) ?_
      refine k_iadd (v := 1) C (by decide) dL_law_363 ?_
      refine k_sld (v := y1) C hX hbl hbA Wd (vp_in_iff.mpr (by decide)) hy1 dL_law_364 ?_
      refine lv_aload_n C.1 C.2.1 dL_law_365 rfl (lv_at hl 3 rfl) ?_
      refine lv_iload_n C.1 C.2.1 dL_law_366 rfl (lv_at hl 0 rfl) ?_
      refine lv_iconst (v := 2) C.1 C.2.1 dL_law_367 (by decide) ?_
      refine k_iadd (v := 2) C (by decide) dL_law_368 ?_
      refine k_sld (v := y2) C hX hbl hbA Wd (vp_in_iff.mpr (by decide)) hy2 dL_law_369 ?_
      refine lv_aload_n C.1 C.2.1 dL_law_370 rfl (lv_at hl 3 rfl) ?_
      refine lv_iload_n C.1 C.2.1 dL_law_371 rfl (lv_at hl 0 rfl) ?_
      refine lv_iconst (v := 3) C.1 C.2.1 dL_law_372 (by decide) ?_
      refine k_iadd (v := 3) C (by decide) dL_law_373 ?_
      refine k_sld (v := y3) C hX hbl hbA Wd (vp_in_iff.mpr (by decide)) hy3 dL_law_374 ?_
      refine lv_aload_n C.1 C.2.1 dL_law_375 rfl (lv_at hl 3 rfl) ?_
      refine lv_iload_n C.1 C.2.1 dL_law_376 rfl (lv_at hl 0 rfl) ?_
      refine lv_iconst (v := 4) C.1 C.2.1 dL_law_377 (by decide) ?_
      refine k_iadd (v := 4) C (by decide) dL_law_378 ?_
      refine k_sld (v := y4) C hX hbl hbA Wd (vp_in_iff.mpr (by decide)) hy4 dL_law_379 ?_
      refine k_ci Wd [0, 1, 2] [] rfl (wr := []) rfl (by decide) (by decide) (cells' := 271) (slots' := 91330) (by decide) (by decide) (k_runV (rest := [.int (-1)]) C aks Wd cs_L_50 (kcX12_run l D q6104 q6106 q6107 q6108 q6109 q6110 q6111 q6112 q6113 q6114 q6115 q6116 q6117 q6118 q6119 q6120 q6121 q6122 q6123 q6124 q6125 q6126 q6127 q6128 q6129 q6130 y1 y2 y3 y4 e6132 e6140 _ ) [0, 1, 2] rfl (by decide) [3, 4] rfl 0 12 rfl rfl rfl rfl rfl ⟨(Nat.le_of_ble_eq_true rfl), (Nat.le_of_ble_eq_true rfl)⟩ hl.1 rfl rfl (Nat.le_of_ble_eq_true rfl) ⟨(Nat.le_of_ble_eq_true rfl), (Nat.le_of_ble_eq_true rfl)⟩ dL_law_380) (fun r _ H locs w7161 Wd => ?_)
      have Wd : wX D [(e5970, .object RX8), (e6008, .int), (e6009, .int), (e6132, .int), (e6140, .int)] s [] _ A s.heap _ := Wd
      rcases w7161 with ⟨c7162, rfl⟩ | ⟨c7163, c7164, rfl⟩ | ⟨c7165, c7166, c7167, rfl⟩ | ⟨c7168, c7169, c7170, c7171, rfl⟩ | ⟨c7172, c7173, c7174, c7175, c7176, rfl⟩ | ⟨c7177, c7178, c7179, c7180, c7181, c7182, rfl⟩ | ⟨c7183, c7184, c7185, c7186, c7187, c7188, c7189, c7190, c7191, c7192, c7193, rfl⟩ | ⟨c7194, c7195, c7196, c7197, c7198, c7199, c7200, c7201, c7202, c7203, c7204, rfl⟩ | ⟨c7205, c7206, c7207, c7208, c7209, c7210, c7211, c7212, c7213, c7214, rfl⟩ | ⟨c7215, c7216, c7217, c7218, c7219, c7220, c7221, c7222, c7223, rfl⟩ | ⟨c7224, c7225, c7226, c7227, c7228, c7229, c7230, c7231, c7232, rfl⟩ | ⟨c7233, c7234, c7235, c7236, c7237, c7238, c7239, c7240, c7241, c7242, rfl⟩ | ⟨c7243, c7244, c7245, c7246, c7247, c7248, c7249, c7250, rfl⟩
      · exact absurd c7162 c6610
      · exact False.elim (by have z0 := kz_nlt c6610; have z1 := kz_lt c6704; have z2 := kz_nlt c6727; have z3 := kz_nle c6728; have z4 := kz_nlt c7163; have z5 := kz_lt c7164; have t0 : (0 : Int32).toInt = 0 := (by decide); have t6 : (6 : Int32).toInt = 6 := (by decide); have t5 : (5 : Int32).toInt = 5 := (by decide); omega)
      · exact absurd c7167 c6729
      · exact False.elim (by have z0 := kz_nlt c6729; have z1 := kz_nle c6730; have z2 := kz_nlt c7170; have z3 := kz_lt c7171; have t0 : (0 : Int32).toInt = 0 := (by decide); have t16 : (16 : Int32).toInt = 16 := (by decide); have t15 : (15 : Int32).toInt = 15 := (by decide); omega)
      · exact absurd c7176 c6731
      · exact False.elim (by have z0 := kz_nlt c6731; have z1 := kz_nle c6732; have z2 := kz_nlt c7181; have z3 := kz_lt c7182; have t0 : (0 : Int32).toInt = 0 := (by decide); have t16 : (16 : Int32).toInt = 16 := (by decide); have t15 : (15 : Int32).toInt = 15 := (by decide); omega)
      · refine lv_icmp_eq (tgt := 801) C.1 C.2.1 dL_law_383 (by decide) (fun _ => ?_) (fun c7251 => absurd c7251 (by decide))
        exact tail _ _ _ (k_sub Wd [] rfl (by decide) [] rfl) (lv_sub hl [0, 3] rfl)
      · exact absurd c7204 c6735
      · exact absurd c7214 c6734
      · exact absurd c7223 c6733
      · exact absurd c6736 c7230
      · exact absurd c6736 c7239
      · exact absurd c6736 c7249
    · refine lv_aload_n C.1 C.2.1 dL_law_359 rfl (lv_at hl 1 rfl) ?_
      refine lv_aload_n C.1 C.2.1 dL_law_360 rfl (lv_at hl 3 rfl) ?_
      refine lv_iload_n C.1 C.2.1 dL_law_361 rfl (lv_at hl 0 rfl) ?_
      refine lv_iconst (v := 1) C.1 C.2.1 dL_law_362 (by decide) ?_
      refine k_iadd (v := 1) C (by decide) dL_law_363 ?_
      refine k_sld (v := y1) C hX hbl hbA Wd (vp_in_iff.mpr (by decide)) hy1 dL_law_364 ?_
      refine lv_aload_n C.1 C.2.1 dL_law_365 rfl (lv_at hl 3 rfl) ?_
      refine lv_iload_n C.1 C.2.1 dL_law_366 rfl (lv_at hl 0 rfl) ?_
      refine lv_iconst (v := 2) C.1 C.2.1 dL_law_367 (by decide) ?_
      refine k_iadd (v := 2) C (by decide) dL_law_368 ?_
      refine k_sld (v := y2) C hX hbl hbA Wd (vp_in_iff.mpr (by decide)) hy2 dL_law_369 ?_
      refine lv_aload_n C.1 C.2.1 dL_law_370 rfl (lv_at hl 3 rfl) ?_
      refine lv_iload_n C.1 C.2.1 dL_law_371 rfl (lv_at hl 0 rfl) ?_
      refine lv_iconst (v := 3) C.1 C.2.1 dL_law_372 (by decide) ?_
      refine k_iadd (v := 3) C (by decide) dL_law_373 ?_
      refine k_sld (v := y3) C hX hbl hbA Wd (vp_in_iff.mpr (by decide)) hy3 dL_law_374 ?_
      refine lv_aload_n C.1 C.2.1 dL_law_375 rfl (lv_at hl 3 rfl) ?_
      refine lv_iload_n C.1 C.2.1 dL_law_376 rfl (lv_at hl 0 rfl) ?_
      refine lv_iconst (v := 4) C.1 C.2.1 dL_law_377 (by decide) ?_
      refine k_iadd (v := 4) C (by decide) dL_law_378 ?_
      refine k_sld (v := y4) C hX hbl hbA Wd (vp_in_iff.mpr (by decide)) hy4 dL_law_379 ?_
      refine k_ci Wd [0, 1, 2] [] rfl (wr := []) rfl (by decide) (by decide) (cells' := 271) (slots' := 91330) (by decide) (by decide) (k_runV (rest := [.int (-1)]) C aks Wd cs_L_50 (kcX12_run l D q6104 q6106 q6107 q6108 q6109 q6110 q6111 q6112 q6113 q6114 q6115 q6116 q6117 q6118 q6119 q6120 q6121 q6122 q6123 q6124 q6125 q6126 q6127 q6128 q6129 q6130 y1 y2 y3 y4 e6132 e6140 _ ) [0, 1, 2] rfl (by decide) [3, 4] rfl 0 12 rfl rfl rfl rfl rfl ⟨(Nat.le_of_ble_eq_true rfl), (Nat.le_of_ble_eq_true rfl)⟩ hl.1 rfl rfl (Nat.le_of_ble_eq_true rfl) ⟨(Nat.le_of_ble_eq_true rfl), (Nat.le_of_ble_eq_true rfl)⟩ dL_law_380) (fun r _ H locs w7252 Wd => ?_)
      have Wd : wX D [(e5970, .object RX8), (e6008, .int), (e6009, .int), (e6132, .int), (e6140, .int)] s [] _ A s.heap _ := Wd
      rcases w7252 with ⟨c7253, rfl⟩ | ⟨c7254, c7255, rfl⟩ | ⟨c7256, c7257, c7258, rfl⟩ | ⟨c7259, c7260, c7261, c7262, rfl⟩ | ⟨c7263, c7264, c7265, c7266, c7267, rfl⟩ | ⟨c7268, c7269, c7270, c7271, c7272, c7273, rfl⟩ | ⟨c7274, c7275, c7276, c7277, c7278, c7279, c7280, c7281, c7282, c7283, c7284, rfl⟩ | ⟨c7285, c7286, c7287, c7288, c7289, c7290, c7291, c7292, c7293, c7294, c7295, rfl⟩ | ⟨c7296, c7297, c7298, c7299, c7300, c7301, c7302, c7303, c7304, c7305, rfl⟩ | ⟨c7306, c7307, c7308, c7309, c7310, c7311, c7312, c7313, c7314, rfl⟩ | ⟨c7315, c7316, c7317, c7318, c7319, c7320, c7321, c7322, c7323, rfl⟩ | ⟨c7324, c7325, c7326, c7327, c7328, c7329, c7330, c7331, c7332, c7333, rfl⟩ | ⟨c7334, c7335, c7336, c7337, c7338, c7339, c7340, c7341, rfl⟩
      · exact absurd c7253 c6610
      · exact False.elim (by have z0 := kz_nlt c6610; have z1 := kz_lt c6704; have z2 := kz_nlt c6737; have z3 := kz_nle c6738; have z4 := kz_nlt c7254; have z5 := kz_lt c7255; have t0 : (0 : Int32).toInt = 0 := (by decide); have t6 : (6 : Int32).toInt = 6 := (by decide); have t5 : (5 : Int32).toInt = 5 := (by decide); omega)
      · exact absurd c7258 c6739
      · exact False.elim (by have z0 := kz_nlt c6739; have z1 := kz_nle c6740; have z2 := kz_nlt c7261; have z3 := kz_lt c7262; have t0 : (0 : Int32).toInt = 0 := (by decide); have t16 : (16 : Int32).toInt = 16 := (by decide); have t15 : (15 : Int32).toInt = 15 := (by decide); omega)
      · exact absurd c7267 c6741
      · exact False.elim (by have z0 := kz_nlt c6741; have z1 := kz_nle c6742; have z2 := kz_nlt c7272; have z3 := kz_lt c7273; have t0 : (0 : Int32).toInt = 0 := (by decide); have t16 : (16 : Int32).toInt = 16 := (by decide); have t15 : (15 : Int32).toInt = 15 := (by decide); omega)
      · exact absurd c7280 c6746
      · exact absurd c7291 c6746
      · exact absurd c7302 c6746
      · exact absurd c7312 c6746
      · refine lv_icmp_eq (tgt := 801) C.1 C.2.1 dL_law_383 (by decide) (fun _ => ?_) (fun c7342 => absurd c7342 (by decide))
        exact tail _ _ _ (k_sub Wd [] rfl (by decide) [] rfl) (lv_sub hl [0, 3] rfl)
      · exact absurd c6748 c7332
      · exact False.elim (by have z0 := kz_ne c6743; have z1 := kz_ne c6744; have z2 := kz_ne c6745; have z3 := kz_nlt c6746; have z4 := kz_le c6747; have z5 := kz_lt c6748; have z6 := kz_nlt c7340; have z7 := kz_nlt c7341; have t0 : (0 : Int32).toInt = 0 := (by decide); have t1 : (1 : Int32).toInt = 1 := (by decide); have t2 : (2 : Int32).toInt = 2 := (by decide); have t10 : (10 : Int32).toInt = 10 := (by decide); have t16 : (16 : Int32).toInt = 16 := (by decide); have t100 : (100 : Int32).toInt = 100 := (by decide); have t15 : (15 : Int32).toInt = 15 := (by decide); omega)
    · refine lv_aload_n C.1 C.2.1 dL_law_359 rfl (lv_at hl 1 rfl) ?_
      refine lv_aload_n C.1 C.2.1 dL_law_360 rfl (lv_at hl 3 rfl) ?_
      refine lv_iload_n C.1 C.2.1 dL_law_361 rfl (lv_at hl 0 rfl) ?_
      refine lv_iconst (v := 1) C.1 C.2.1 dL_law_362 (by decide) ?_
      refine k_iadd (v := 1) C (by decide) dL_law_363 ?_
      refine k_sld (v := y1) C hX hbl hbA Wd (vp_in_iff.mpr (by decide)) hy1 dL_law_364 ?_
      refine lv_aload_n C.1 C.2.1 dL_law_365 rfl (lv_at hl 3 rfl) ?_
      refine lv_iload_n C.1 C.2.1 dL_law_366 rfl (lv_at hl 0 rfl) ?_
      refine lv_iconst (v := 2) C.1 C.2.1 dL_law_367 (by decide) ?_
      refine k_iadd (v := 2) C (by decide) dL_law_368 ?_
      refine k_sld (v := y2) C hX hbl hbA Wd (vp_in_iff.mpr (by decide)) hy2 dL_law_369 ?_
      refine lv_aload_n C.1 C.2.1 dL_law_370 rfl (lv_at hl 3 rfl) ?_
      refine lv_iload_n C.1 C.2.1 dL_law_371 rfl (lv_at hl 0 rfl) ?_
      refine lv_iconst (v := 3) C.1 C.2.1 dL_law_372 (by decide) ?_
      refine k_iadd (v := 3) C (by decide) dL_law_373 ?_
      refine k_sld (v := y3) C hX hbl hbA Wd (vp_in_iff.mpr (by decide)) hy3 dL_law_374 ?_
      refine lv_aload_n C.1 C.2.1 dL_law_375 rfl (lv_at hl 3 rfl) ?_
      refine lv_iload_n C.1 C.2.1 dL_law_376 rfl (lv_at hl 0 rfl) ?_
      refine lv_iconst (v := 4) C.1 C.2.1 dL_law_377 (by decide) ?_
      refine k_iadd (v := 4) C (by decide) dL_law_378 ?_
      refine k_sld (v := y4) C hX hbl hbA Wd (vp_in_iff.mpr (by decide)) hy4 dL_law_379 ?_
      refine k_ci Wd [0, 1, 2] [] rfl (wr := []) rfl (by decide) (by decide) (cells' := 271) (slots' := 91330) (by decide) (by decide) (k_runV (rest := [.int (-1)]) C aks Wd cs_L_50 (kcX12_run l D q6104 q6106 q6107 q6108 q6109 q6110 q6111 q6112 q6113 q6114 q6115 q6116 q6117 q6118 q6119 q6120 q6121 q6122 q6123 q6124 q6125 q6126 q6127 q6128 q6129 q6130 y1 y2 y3 y4 e6132 e6140 _ ) [0, 1, 2] rfl (by decide) [3, 4] rfl 0 12 rfl rfl rfl rfl rfl ⟨(Nat.le_of_ble_eq_true rfl), (Nat.le_of_ble_eq_true rfl)⟩ hl.1 rfl rfl (Nat.le_of_ble_eq_true rfl) ⟨(Nat.le_of_ble_eq_true rfl), (Nat.le_of_ble_eq_true rfl)⟩ dL_law_380) (fun r _ H locs w7343 Wd => ?_)
      have Wd : wX D [(e5970, .object RX8), (e6008, .int), (e6009, .int), (e6132, .int), (e6140, .int)] s [] _ A s.heap _ := Wd
      rcases w7343 with ⟨c7344, rfl⟩ | ⟨c7345, c7346, rfl⟩ | ⟨c7347, c7348, c7349, rfl⟩ | ⟨c7350, c7351, c7352, c7353, rfl⟩ | ⟨c7354, c7355, c7356, c7357, c7358, rfl⟩ | ⟨c7359, c7360, c7361, c7362, c7363, c7364, rfl⟩ | ⟨c7365, c7366, c7367, c7368, c7369, c7370, c7371, c7372, c7373, c7374, c7375, rfl⟩ | ⟨c7376, c7377, c7378, c7379, c7380, c7381, c7382, c7383, c7384, c7385, c7386, rfl⟩ | ⟨c7387, c7388, c7389, c7390, c7391, c7392, c7393, c7394, c7395, c7396, rfl⟩ | ⟨c7397, c7398, c7399, c7400, c7401, c7402, c7403, c7404, c7405, rfl⟩ | ⟨c7406, c7407, c7408, c7409, c7410, c7411, c7412, c7413, c7414, rfl⟩ | ⟨c7415, c7416, c7417, c7418, c7419, c7420, c7421, c7422, c7423, c7424, rfl⟩ | ⟨c7425, c7426, c7427, c7428, c7429, c7430, c7431, c7432, rfl⟩
      · exact absurd c7344 c6610
      · exact False.elim (by have z0 := kz_nlt c6610; have z1 := kz_lt c6704; have z2 := kz_nlt c6749; have z3 := kz_nle c6750; have z4 := kz_nlt c7345; have z5 := kz_lt c7346; have t0 : (0 : Int32).toInt = 0 := (by decide); have t6 : (6 : Int32).toInt = 6 := (by decide); have t5 : (5 : Int32).toInt = 5 := (by decide); omega)
      · exact absurd c7349 c6751
      · exact False.elim (by have z0 := kz_nlt c6751; have z1 := kz_nle c6752; have z2 := kz_nlt c7352; have z3 := kz_lt c7353; have t0 : (0 : Int32).toInt = 0 := (by decide); have t16 : (16 : Int32).toInt = 16 := (by decide); have t15 : (15 : Int32).toInt = 15 := (by decide); omega)
      · exact absurd c7358 c6753
      · exact False.elim (by have z0 := kz_nlt c6753; have z1 := kz_nle c6754; have z2 := kz_nlt c7363; have z3 := kz_lt c7364; have t0 : (0 : Int32).toInt = 0 := (by decide); have t16 : (16 : Int32).toInt = 16 := (by decide); have t15 : (15 : Int32).toInt = 15 := (by decide); omega)
      · exact absurd c7371 c6758
      · exact absurd c7382 c6758
      · exact absurd c7393 c6758
      · exact absurd c7403 c6758
      · exact absurd c7414 c6760
      · refine lv_icmp_eq (tgt := 801) C.1 C.2.1 dL_law_383 (by decide) (fun _ => ?_) (fun c7433 => absurd c7433 (by decide))
        exact tail _ _ _ (k_sub Wd [] rfl (by decide) [] rfl) (lv_sub hl [0, 3] rfl)
      · exact False.elim (by have z0 := kz_ne c6755; have z1 := kz_ne c6756; have z2 := kz_ne c6757; have z3 := kz_nlt c6758; have z4 := kz_le c6759; have z5 := kz_nlt c6760; have z6 := kz_nlt c7431; have z7 := kz_nlt c7432; have t0 : (0 : Int32).toInt = 0 := (by decide); have t1 : (1 : Int32).toInt = 1 := (by decide); have t2 : (2 : Int32).toInt = 2 := (by decide); have t10 : (10 : Int32).toInt = 10 := (by decide); have t16 : (16 : Int32).toInt = 16 := (by decide); have t100 : (100 : Int32).toInt = 100 := (by decide); have t15 : (15 : Int32).toInt = 15 := (by decide); omega)
    · refine lv_aload_n C.1 C.2.1 dL_law_359 rfl (lv_at hl 1 rfl) ?_
      refine lv_aload_n C.1 C.2.1 dL_law_360 rfl (lv_at hl 3 rfl) ?_
      refine lv_iload_n C.1 C.2.1 dL_law_361 rfl (lv_at hl 0 rfl) ?_
      refine lv_iconst (v := 1) C.1 C.2.1 dL_law_362 (by decide) ?_
      refine k_iadd (v := 1) C (by decide) dL_law_363 ?_
      refine k_sld (v := y1) C hX hbl hbA Wd (vp_in_iff.mpr (by decide)) hy1 dL_law_364 ?_
      refine lv_aload_n C.1 C.2.1 dL_law_365 rfl (lv_at hl 3 rfl) ?_
      refine lv_iload_n C.1 C.2.1 dL_law_366 rfl (lv_at hl 0 rfl) ?_
      refine lv_iconst (v := 2) C.1 C.2.1 dL_law_367 (by decide) ?_
      refine k_iadd (v := 2) C (by decide) dL_law_368 ?_
      refine k_sld (v := y2) C hX hbl hbA Wd (vp_in_iff.mpr (by decide)) hy2 dL_law_369 ?_
      refine lv_aload_n C.1 C.2.1 dL_law_370 rfl (lv_at hl 3 rfl) ?_
      refine lv_iload_n C.1 C.2.1 dL_law_371 rfl (lv_at hl 0 rfl) ?_
      refine lv_iconst (v := 3) C.1 C.2.1 dL_law_372 (by decide) ?_
      refine k_iadd (v := 3) C (by decide) dL_law_373 ?_
      refine k_sld (v := y3) C hX hbl hbA Wd (vp_in_iff.mpr (by decide)) hy3 dL_law_374 ?_
      refine lv_aload_n C.1 C.2.1 dL_law_375 rfl (lv_at hl 3 rfl) ?_
      refine lv_iload_n C.1 C.2.1 dL_law_376 rfl (lv_at hl 0 rfl) ?_
      refine lv_iconst (v := 4) C.1 C.2.1 dL_law_377 (by decide) ?_
      refine k_iadd (v := 4) C (by decide) dL_law_378 ?_
      refine k_sld (v := y4) C hX hbl hbA Wd (vp_in_iff.mpr (by decide)) hy4 dL_law_379 ?_
      refine k_ci Wd [0, 1, 2] [] rfl (wr := []) rfl (by decide) (by decide) (cells' := 271) (slots' := 91330) (by decide) (by decide) (k_runV (rest := [.int ((upd (upd (upd (upd (upd (upd (fun _ => 0) 0 y2) 1 y3) 2 0) 3 0) 4 0) 5 0) (y4 - 10).toNatClampNeg)]) C aks Wd cs_L_50 (kcX12_run l D q6104 q6106 q6107 q6108 q6109 q6110 q6111 q6112 q6113 q6114 q6115 q6116 q6117 q6118 q6119 q6120 q6121 q6122 q6123 q6124 q6125 q6126 q6127 q6128 q6129 q6130 y1 y2 y3 y4 e6132 e6140 _ ) [0, 1, 2] rfl (by decide) [3, 4] rfl 0 12 rfl rfl rfl rfl rfl ⟨(Nat.le_of_ble_eq_true rfl), (Nat.le_of_ble_eq_true rfl)⟩ hl.1 rfl rfl (Nat.le_of_ble_eq_true rfl) ⟨(Nat.le_of_ble_eq_true rfl), (Nat.le_of_ble_eq_true rfl)⟩ dL_law_380) (fun r _ H locs w7434 Wd => ?_)
      have Wd : wX D [(e5970, .object RX8), (e6008, .int), (e6009, .int), (e6132, .int), (e6140, .int)] s [] _ A s.heap _ := Wd
      rcases w7434 with ⟨c7435, rfl⟩ | ⟨c7436, c7437, rfl⟩ | ⟨c7438, c7439, c7440, rfl⟩ | ⟨c7441, c7442, c7443, c7444, rfl⟩ | ⟨c7445, c7446, c7447, c7448, c7449, rfl⟩ | ⟨c7450, c7451, c7452, c7453, c7454, c7455, rfl⟩ | ⟨c7456, c7457, c7458, c7459, c7460, c7461, c7462, c7463, c7464, c7465, c7466, rfl⟩ | ⟨c7467, c7468, c7469, c7470, c7471, c7472, c7473, c7474, c7475, c7476, c7477, rfl⟩ | ⟨c7478, c7479, c7480, c7481, c7482, c7483, c7484, c7485, c7486, c7487, rfl⟩ | ⟨c7488, c7489, c7490, c7491, c7492, c7493, c7494, c7495, c7496, rfl⟩ | ⟨c7497, c7498, c7499, c7500, c7501, c7502, c7503, c7504, c7505, rfl⟩ | ⟨c7506, c7507, c7508, c7509, c7510, c7511, c7512, c7513, c7514, c7515, rfl⟩ | ⟨c7516, c7517, c7518, c7519, c7520, c7521, c7522, c7523, rfl⟩
      · exact absurd c7435 c6610
      · exact False.elim (by have z0 := kz_nlt c6610; have z1 := kz_lt c6704; have z2 := kz_nlt c6762; have z3 := kz_nle c6763; have z4 := kz_nlt c7436; have z5 := kz_lt c7437; have t0 : (0 : Int32).toInt = 0 := (by decide); have t6 : (6 : Int32).toInt = 6 := (by decide); have t5 : (5 : Int32).toInt = 5 := (by decide); omega)
      · exact absurd c7440 c6764
      · exact False.elim (by have z0 := kz_nlt c6764; have z1 := kz_nle c6765; have z2 := kz_nlt c7443; have z3 := kz_lt c7444; have t0 : (0 : Int32).toInt = 0 := (by decide); have t16 : (16 : Int32).toInt = 16 := (by decide); have t15 : (15 : Int32).toInt = 15 := (by decide); omega)
      · exact absurd c7449 c6766
      · exact False.elim (by have z0 := kz_nlt c6766; have z1 := kz_nle c6767; have z2 := kz_nlt c7454; have z3 := kz_lt c7455; have t0 : (0 : Int32).toInt = 0 := (by decide); have t16 : (16 : Int32).toInt = 16 := (by decide); have t15 : (15 : Int32).toInt = 15 := (by decide); omega)
      · exact absurd c7462 c6771
      · exact absurd c7473 c6771
      · exact absurd c7484 c6771
      · exact absurd c7494 c6771
      · exact False.elim (by have z0 := kz_ne c6768; have z1 := kz_ne c6769; have z2 := kz_ne c6770; have z3 := kz_nlt c6771; have z4 := kz_nle c6772; have z5 := kz_nlt c7503; have z6 := kz_lt c7504; have t0 : (0 : Int32).toInt = 0 := (by decide); have t1 : (1 : Int32).toInt = 1 := (by decide); have t2 : (2 : Int32).toInt = 2 := (by decide); have t10 : (10 : Int32).toInt = 10 := (by decide); have t16 : (16 : Int32).toInt = 16 := (by decide); have t15 : (15 : Int32).toInt = 15 := (by decide); omega)
      · exact False.elim (by have z0 := kz_ne c6768; have z1 := kz_ne c6769; have z2 := kz_ne c6770; have z3 := kz_nlt c6771; have z4 := kz_nle c6772; have z5 := kz_nlt c7512; have z6 := kz_lt c7513; have t0 : (0 : Int32).toInt = 0 := (by decide); have t1 : (1 : Int32).toInt = 1 := (by decide); have t2 : (2 : Int32).toInt = 2 := (by decide); have t10 : (10 : Int32).toInt = 10 := (by decide); have t16 : (16 : Int32).toInt = 16 := (by decide); have t15 : (15 : Int32).toInt = 15 := (by decide); omega)
      · refine lv_icmp_eq (tgt := 801) C.1 C.2.1 dL_law_383 (by decide) (fun _ => ?_) (fun c7524 => absurd rfl c7524)
        exact tail _ _ _ (k_sub Wd [] rfl (by decide) [] rfl) (lv_sub hl [0, 3] rfl)
    · refine lv_aload_n C.1 C.2.1 dL_law_359 rfl (lv_at hl 1 rfl) ?_
      refine lv_aload_n C.1 C.2.1 dL_law_360 rfl (lv_at hl 3 rfl) ?_
      refine lv_iload_n C.1 C.2.1 dL_law_361 rfl (lv_at hl 0 rfl) ?_
      refine lv_iconst (v := 1) C.1 C.2.1 dL_law_362 (by decide) ?_
      refine k_iadd (v := 1) C (by decide) dL_law_363 ?_
      refine k_sld (v := y1) C hX hbl hbA Wd (vp_in_iff.mpr (by decide)) hy1 dL_law_364 ?_
      refine lv_aload_n C.1 C.2.1 dL_law_365 rfl (lv_at hl 3 rfl) ?_
      refine lv_iload_n C.1 C.2.1 dL_law_366 rfl (lv_at hl 0 rfl) ?_
      refine lv_iconst (v := 2) C.1 C.2.1 dL_law_367 (by decide) ?_
      refine k_iadd (v := 2) C (by decide) dL_law_368 ?_
      refine k_sld (v := y2) C hX hbl hbA Wd (vp_in_iff.mpr (by decide)) hy2 dL_law_369 ?_
      refine lv_aload_n C.1 C.2.1 dL_law_370 rfl (lv_at hl 3 rfl) ?_
      refine lv_iload_n C.1 C.2.1 dL_law_371 rfl (lv_at hl 0 rfl) ?_
      refine lv_iconst (v := 3) C.1 C.2.1 dL_law_372 (by decide) ?_
      refine k_iadd (v := 3) C (by decide) dL_law_373 ?_
      refine k_sld (v := y3) C hX hbl hbA Wd (vp_in_iff.mpr (by decide)) hy3 dL_law_374 ?_
      refine lv_aload_n C.1 C.2.1 dL_law_375 rfl (lv_at hl 3 rfl) ?_
      refine lv_iload_n C.1 C.2.1 dL_law_376 rfl (lv_at hl 0 rfl) ?_
      refine lv_iconst (v := 4) C.1 C.2.1 dL_law_377 (by decide) ?_
      refine k_iadd (v := 4) C (by decide) dL_law_378 ?_
      refine k_sld (v := y4) C hX hbl hbA Wd (vp_in_iff.mpr (by decide)) hy4 dL_law_379 ?_
      refine k_ci Wd [0, 1, 2] [] rfl (wr := []) rfl (by decide) (by decide) (cells' := 271) (slots' := 91330) (by decide) (by decide) (k_runV (rest := [.int 0]) C aks Wd cs_L_50 (kcX12_run l D q6104 q6106 q6107 q6108 q6109 q6110 q6111 q6112 q6113 q6114 q6115 q6116 q6117 q6118 q6119 q6120 q6121 q6122 q6123 q6124 q6125 q6126 q6127 q6128 q6129 q6130 y1 y2 y3 y4 e6132 e6140 _ ) [0, 1, 2] rfl (by decide) [3, 4] rfl 0 12 rfl rfl rfl rfl rfl ⟨(Nat.le_of_ble_eq_true rfl), (Nat.le_of_ble_eq_true rfl)⟩ hl.1 rfl rfl (Nat.le_of_ble_eq_true rfl) ⟨(Nat.le_of_ble_eq_true rfl), (Nat.le_of_ble_eq_true rfl)⟩ dL_law_380) (fun r _ H locs w7525 Wd => ?_)
      have Wd : wX D [(e5970, .object RX8), (e6008, .int), (e6009, .int), (e6132, .int), (e6140, .int)] s [] _ A s.heap _ := Wd
      rcases w7525 with ⟨c7526, rfl⟩ | ⟨c7527, c7528, rfl⟩ | ⟨c7529, c7530, c7531, rfl⟩ | ⟨c7532, c7533, c7534, c7535, rfl⟩ | ⟨c7536, c7537, c7538, c7539, c7540, rfl⟩ | ⟨c7541, c7542, c7543, c7544, c7545, c7546, rfl⟩ | ⟨c7547, c7548, c7549, c7550, c7551, c7552, c7553, c7554, c7555, c7556, c7557, rfl⟩ | ⟨c7558, c7559, c7560, c7561, c7562, c7563, c7564, c7565, c7566, c7567, c7568, rfl⟩ | ⟨c7569, c7570, c7571, c7572, c7573, c7574, c7575, c7576, c7577, c7578, rfl⟩ | ⟨c7579, c7580, c7581, c7582, c7583, c7584, c7585, c7586, c7587, rfl⟩ | ⟨c7588, c7589, c7590, c7591, c7592, c7593, c7594, c7595, c7596, rfl⟩ | ⟨c7597, c7598, c7599, c7600, c7601, c7602, c7603, c7604, c7605, c7606, rfl⟩ | ⟨c7607, c7608, c7609, c7610, c7611, c7612, c7613, c7614, rfl⟩
      · exact absurd c7526 c6610
      · exact False.elim (by have z0 := kz_nlt c6610; have z1 := kz_lt c6704; have z2 := kz_nlt c6773; have z3 := kz_nle c6774; have z4 := kz_nlt c7527; have z5 := kz_lt c7528; have t0 : (0 : Int32).toInt = 0 := (by decide); have t6 : (6 : Int32).toInt = 6 := (by decide); have t5 : (5 : Int32).toInt = 5 := (by decide); omega)
      · exact absurd c7531 c6775
      · exact False.elim (by have z0 := kz_nlt c6775; have z1 := kz_nle c6776; have z2 := kz_nlt c7534; have z3 := kz_lt c7535; have t0 : (0 : Int32).toInt = 0 := (by decide); have t16 : (16 : Int32).toInt = 16 := (by decide); have t15 : (15 : Int32).toInt = 15 := (by decide); omega)
      · exact absurd c7540 c6777
      · exact False.elim (by have z0 := kz_nlt c6777; have z1 := kz_nle c6778; have z2 := kz_nlt c7545; have z3 := kz_lt c7546; have t0 : (0 : Int32).toInt = 0 := (by decide); have t16 : (16 : Int32).toInt = 16 := (by decide); have t15 : (15 : Int32).toInt = 15 := (by decide); omega)
      · exact absurd c6781 c7557
      · refine lv_icmp_eq (tgt := 801) C.1 C.2.1 dL_law_383 (by decide) (fun _ => ?_) (fun c7615 => absurd c7615 (by decide))
        exact tail _ _ _ (k_sub Wd [] rfl (by decide) [] rfl) (lv_sub hl [0, 3] rfl)
      · exact absurd c7578 c6780
      · exact absurd c7587 c6779
      · exact False.elim (by have z0 := kz_ne c6779; have z1 := kz_ne c6780; have z2 := kz_eq c6781; have z3 := kz_nlt c7594; have t0 : (0 : Int32).toInt = 0 := (by decide); have t1 : (1 : Int32).toInt = 1 := (by decide); have t2 : (2 : Int32).toInt = 2 := (by decide); have t10 : (10 : Int32).toInt = 10 := (by decide); omega)
      · exact False.elim (by have z0 := kz_ne c6779; have z1 := kz_ne c6780; have z2 := kz_eq c6781; have z3 := kz_nlt c7603; have t0 : (0 : Int32).toInt = 0 := (by decide); have t1 : (1 : Int32).toInt = 1 := (by decide); have t2 : (2 : Int32).toInt = 2 := (by decide); have t10 : (10 : Int32).toInt = 10 := (by decide); omega)
      · exact False.elim (by have z0 := kz_ne c6779; have z1 := kz_ne c6780; have z2 := kz_eq c6781; have z3 := kz_nlt c7613; have t0 : (0 : Int32).toInt = 0 := (by decide); have t1 : (1 : Int32).toInt = 1 := (by decide); have t2 : (2 : Int32).toInt = 2 := (by decide); have t10 : (10 : Int32).toInt = 10 := (by decide); omega)
    · refine lv_aload_n C.1 C.2.1 dL_law_359 rfl (lv_at hl 1 rfl) ?_
      refine lv_aload_n C.1 C.2.1 dL_law_360 rfl (lv_at hl 3 rfl) ?_
      refine lv_iload_n C.1 C.2.1 dL_law_361 rfl (lv_at hl 0 rfl) ?_
      refine lv_iconst (v := 1) C.1 C.2.1 dL_law_362 (by decide) ?_
      refine k_iadd (v := 1) C (by decide) dL_law_363 ?_
      refine k_sld (v := y1) C hX hbl hbA Wd (vp_in_iff.mpr (by decide)) hy1 dL_law_364 ?_
      refine lv_aload_n C.1 C.2.1 dL_law_365 rfl (lv_at hl 3 rfl) ?_
      refine lv_iload_n C.1 C.2.1 dL_law_366 rfl (lv_at hl 0 rfl) ?_
      refine lv_iconst (v := 2) C.1 C.2.1 dL_law_367 (by decide) ?_
      refine k_iadd (v := 2) C (by decide) dL_law_368 ?_
      refine k_sld (v := y2) C hX hbl hbA Wd (vp_in_iff.mpr (by decide)) hy2 dL_law_369 ?_
      refine lv_aload_n C.1 C.2.1 dL_law_370 rfl (lv_at hl 3 rfl) ?_
      refine lv_iload_n C.1 C.2.1 dL_law_371 rfl (lv_at hl 0 rfl) ?_
      refine lv_iconst (v := 3) C.1 C.2.1 dL_law_372 (by decide) ?_
      refine k_iadd (v := 3) C (by decide) dL_law_373 ?_
      refine k_sld (v := y3) C hX hbl hbA Wd (vp_in_iff.mpr (by decide)) hy3 dL_law_374 ?_
      refine lv_aload_n C.1 C.2.1 dL_law_375 rfl (lv_at hl 3 rfl) ?_
      refine lv_iload_n C.1 C.2.1 dL_law_376 rfl (lv_at hl 0 rfl) ?_
      refine lv_iconst (v := 4) C.1 C.2.1 dL_law_377 (by decide) ?_
      refine k_iadd (v := 4) C (by decide) dL_law_378 ?_
      refine k_sld (v := y4) C hX hbl hbA Wd (vp_in_iff.mpr (by decide)) hy4 dL_law_379 ?_
      refine k_ci Wd [0, 1, 2] [] rfl (wr := []) rfl (by decide) (by decide) (cells' := 271) (slots' := 91330) (by decide) (by decide) (k_runV (rest := [.int 0]) C aks Wd cs_L_50 (kcX12_run l D q6104 q6106 q6107 q6108 q6109 q6110 q6111 q6112 q6113 q6114 q6115 q6116 q6117 q6118 q6119 q6120 q6121 q6122 q6123 q6124 q6125 q6126 q6127 q6128 q6129 q6130 y1 y2 y3 y4 e6132 e6140 _ ) [0, 1, 2] rfl (by decide) [3, 4] rfl 0 12 rfl rfl rfl rfl rfl ⟨(Nat.le_of_ble_eq_true rfl), (Nat.le_of_ble_eq_true rfl)⟩ hl.1 rfl rfl (Nat.le_of_ble_eq_true rfl) ⟨(Nat.le_of_ble_eq_true rfl), (Nat.le_of_ble_eq_true rfl)⟩ dL_law_380) (fun r _ H locs w7616 Wd => ?_)
      have Wd : wX D [(e5970, .object RX8), (e6008, .int), (e6009, .int), (e6132, .int), (e6140, .int)] s [] _ A s.heap _ := Wd
      rcases w7616 with ⟨c7617, rfl⟩ | ⟨c7618, c7619, rfl⟩ | ⟨c7620, c7621, c7622, rfl⟩ | ⟨c7623, c7624, c7625, c7626, rfl⟩ | ⟨c7627, c7628, c7629, c7630, c7631, rfl⟩ | ⟨c7632, c7633, c7634, c7635, c7636, c7637, rfl⟩ | ⟨c7638, c7639, c7640, c7641, c7642, c7643, c7644, c7645, c7646, c7647, c7648, rfl⟩ | ⟨c7649, c7650, c7651, c7652, c7653, c7654, c7655, c7656, c7657, c7658, c7659, rfl⟩ | ⟨c7660, c7661, c7662, c7663, c7664, c7665, c7666, c7667, c7668, c7669, rfl⟩ | ⟨c7670, c7671, c7672, c7673, c7674, c7675, c7676, c7677, c7678, rfl⟩ | ⟨c7679, c7680, c7681, c7682, c7683, c7684, c7685, c7686, c7687, rfl⟩ | ⟨c7688, c7689, c7690, c7691, c7692, c7693, c7694, c7695, c7696, c7697, rfl⟩ | ⟨c7698, c7699, c7700, c7701, c7702, c7703, c7704, c7705, rfl⟩
      · exact absurd c7617 c6610
      · exact False.elim (by have z0 := kz_nlt c6610; have z1 := kz_lt c6704; have z2 := kz_nlt c6782; have z3 := kz_nle c6783; have z4 := kz_nlt c7618; have z5 := kz_lt c7619; have t0 : (0 : Int32).toInt = 0 := (by decide); have t6 : (6 : Int32).toInt = 6 := (by decide); have t5 : (5 : Int32).toInt = 5 := (by decide); omega)
      · exact absurd c7622 c6784
      · exact False.elim (by have z0 := kz_nlt c6784; have z1 := kz_nle c6785; have z2 := kz_nlt c7625; have z3 := kz_lt c7626; have t0 : (0 : Int32).toInt = 0 := (by decide); have t16 : (16 : Int32).toInt = 16 := (by decide); have t15 : (15 : Int32).toInt = 15 := (by decide); omega)
      · exact absurd c7631 c6786
      · exact False.elim (by have z0 := kz_nlt c6786; have z1 := kz_nle c6787; have z2 := kz_nlt c7636; have z3 := kz_lt c7637; have t0 : (0 : Int32).toInt = 0 := (by decide); have t16 : (16 : Int32).toInt = 16 := (by decide); have t15 : (15 : Int32).toInt = 15 := (by decide); omega)
      · exact absurd c6789 c7647
      · exact absurd c6789 c7658
      · refine lv_icmp_eq (tgt := 801) C.1 C.2.1 dL_law_383 (by decide) (fun _ => ?_) (fun c7706 => absurd c7706 (by decide))
        exact tail _ _ _ (k_sub Wd [] rfl (by decide) [] rfl) (lv_sub hl [0, 3] rfl)
      · exact absurd c7678 c6788
      · exact False.elim (by have z0 := kz_ne c6788; have z1 := kz_eq c6789; have z2 := kz_nlt c7685; have t0 : (0 : Int32).toInt = 0 := (by decide); have t1 : (1 : Int32).toInt = 1 := (by decide); have t10 : (10 : Int32).toInt = 10 := (by decide); omega)
      · exact False.elim (by have z0 := kz_ne c6788; have z1 := kz_eq c6789; have z2 := kz_nlt c7694; have t0 : (0 : Int32).toInt = 0 := (by decide); have t1 : (1 : Int32).toInt = 1 := (by decide); have t10 : (10 : Int32).toInt = 10 := (by decide); omega)
      · exact False.elim (by have z0 := kz_ne c6788; have z1 := kz_eq c6789; have z2 := kz_nlt c7704; have t0 : (0 : Int32).toInt = 0 := (by decide); have t1 : (1 : Int32).toInt = 1 := (by decide); have t10 : (10 : Int32).toInt = 10 := (by decide); omega)
    · refine lv_aload_n C.1 C.2.1 dL_law_359 rfl (lv_at hl 1 rfl) ?_
      refine lv_aload_n C.1 C.2.1 dL_law_360 rfl (lv_at hl 3 rfl) ?_
      refine lv_iload_n C.1 C.2.1 dL_law_361 rfl (lv_at hl 0 rfl) ?_
      refine lv_iconst (v := 1) C.1 C.2.1 dL_law_362 (by decide) ?_
      refine k_iadd (v := 1) C (by decide) dL_law_363 ?_
      refine k_sld (v := y1) C hX hbl hbA Wd (vp_in_iff.mpr (by decide)) hy1 dL_law_364 ?_
      refine lv_aload_n C.1 C.2.1 dL_law_365 rfl (lv_at hl 3 rfl) ?_
      refine lv_iload_n C.1 C.2.1 dL_law_366 rfl (lv_at hl 0 rfl) ?_
      refine lv_iconst (v := 2) C.1 C.2.1 dL_law_367 (by decide) ?_
      refine k_iadd (v := 2) C (by decide) dL_law_368 ?_
      refine k_sld (v := y2) C hX hbl hbA Wd (vp_in_iff.mpr (by decide)) hy2 dL_law_369 ?_
      refine lv_aload_n C.1 C.2.1 dL_law_370 rfl (lv_at hl 3 rfl) ?_
      refine lv_iload_n C.1 C.2.1 dL_law_371 rfl (lv_at hl 0 rfl) ?_
      refine lv_iconst (v := 3) C.1 C.2.1 dL_law_372 (by decide) ?_
      refine k_iadd (v := 3) C (by decide) dL_law_373 ?_
      refine k_sld (v := y3) C hX hbl hbA Wd (vp_in_iff.mpr (by decide)) hy3 dL_law_374 ?_
      refine lv_aload_n C.1 C.2.1 dL_law_375 rfl (lv_at hl 3 rfl) ?_
      refine lv_iload_n C.1 C.2.1 dL_law_376 rfl (lv_at hl 0 rfl) ?_
      refine lv_iconst (v := 4) C.1 C.2.1 dL_law_377 (by decide) ?_
      refine k_iadd (v := 4) C (by decide) dL_law_378 ?_
      refine k_sld (v := y4) C hX hbl hbA Wd (vp_in_iff.mpr (by decide)) hy4 dL_law_379 ?_
      refine k_ci Wd [0, 1, 2] [] rfl (wr := []) rfl (by decide) (by decide) (cells' := 271) (slots' := 91330) (by decide) (by decide) (k_runV (rest := [.int 0]) C aks Wd cs_L_50 (kcX12_run l D q6104 q6106 q6107 q6108 q6109 q6110 q6111 q6112 q6113 q6114 q6115 q6116 q6117 q6118 q6119 q6120 q6121 q6122 q6123 q6124 q6125 q6126 q6127 q6128 q6129 q6130 y1 y2 y3 y4 e6132 e6140 _ ) [0, 1, 2] rfl (by decide) [3, 4] rfl 0 12 rfl rfl rfl rfl rfl ⟨(Nat.le_of_ble_eq_true rfl), (Nat.le_of_ble_eq_true rfl)⟩ hl.1 rfl rfl (Nat.le_of_ble_eq_true rfl) ⟨(Nat.le_of_ble_eq_true rfl), (Nat.le_of_ble_eq_true rfl)⟩ dL_law_380) (fun r _ H locs w7707 Wd => ?_)
      have Wd : wX D [(e5970, .object RX8), (e6008, .int), (e6009, .int), (e6132, .int), (e6140, .int)] s [] _ A s.heap _ := Wd
      rcases w7707 with ⟨c7708, rfl⟩ | ⟨c7709, c7710, rfl⟩ | ⟨c7711, c7712, c7713, rfl⟩ | ⟨c7714, c7715, c7716, c7717, rfl⟩ | ⟨c7718, c7719, c7720, c7721, c7722, rfl⟩ | ⟨c7723, c7724, c7725, c7726, c7727, c7728, rfl⟩ | ⟨c7729, c7730, c7731, c7732, c7733, c7734, c7735, c7736, c7737, c7738, c7739, rfl⟩ | ⟨c7740, c7741, c7742, c7743, c7744, c7745, c7746, c7747, c7748, c7749, c7750, rfl⟩ | ⟨c7751, c7752, c7753, c7754, c7755, c7756, c7757, c7758, c7759, c7760, rfl⟩ | ⟨c7761, c7762, c7763, c7764, c7765, c7766, c7767, c7768, c7769, rfl⟩ | ⟨c7770, c7771, c7772, c7773, c7774, c7775, c7776, c7777, c7778, rfl⟩ | ⟨c7779, c7780, c7781, c7782, c7783, c7784, c7785, c7786, c7787, c7788, rfl⟩ | ⟨c7789, c7790, c7791, c7792, c7793, c7794, c7795, c7796, rfl⟩
      · exact absurd c7708 c6610
      · exact False.elim (by have z0 := kz_nlt c6610; have z1 := kz_lt c6704; have z2 := kz_nlt c6790; have z3 := kz_nle c6791; have z4 := kz_nlt c7709; have z5 := kz_lt c7710; have t0 : (0 : Int32).toInt = 0 := (by decide); have t6 : (6 : Int32).toInt = 6 := (by decide); have t5 : (5 : Int32).toInt = 5 := (by decide); omega)
      · exact absurd c7713 c6792
      · exact False.elim (by have z0 := kz_nlt c6792; have z1 := kz_nle c6793; have z2 := kz_nlt c7716; have z3 := kz_lt c7717; have t0 : (0 : Int32).toInt = 0 := (by decide); have t16 : (16 : Int32).toInt = 16 := (by decide); have t15 : (15 : Int32).toInt = 15 := (by decide); omega)
      · exact absurd c7722 c6794
      · exact False.elim (by have z0 := kz_nlt c6794; have z1 := kz_nle c6795; have z2 := kz_nlt c7727; have z3 := kz_lt c7728; have t0 : (0 : Int32).toInt = 0 := (by decide); have t16 : (16 : Int32).toInt = 16 := (by decide); have t15 : (15 : Int32).toInt = 15 := (by decide); omega)
      · exact absurd c6796 c7737
      · exact absurd c6796 c7748
      · exact absurd c6796 c7759
      · refine lv_icmp_eq (tgt := 801) C.1 C.2.1 dL_law_383 (by decide) (fun _ => ?_) (fun c7797 => absurd c7797 (by decide))
        exact tail _ _ _ (k_sub Wd [] rfl (by decide) [] rfl) (lv_sub hl [0, 3] rfl)
      · exact False.elim (by have z0 := kz_eq c6796; have z1 := kz_nlt c7776; have t0 : (0 : Int32).toInt = 0 := (by decide); have t10 : (10 : Int32).toInt = 10 := (by decide); omega)
      · exact False.elim (by have z0 := kz_eq c6796; have z1 := kz_nlt c7785; have t0 : (0 : Int32).toInt = 0 := (by decide); have t10 : (10 : Int32).toInt = 10 := (by decide); omega)
      · exact False.elim (by have z0 := kz_eq c6796; have z1 := kz_nlt c7795; have t0 : (0 : Int32).toInt = 0 := (by decide); have t10 : (10 : Int32).toInt = 10 := (by decide); omega)
  refine lv_aload_n C.1 C.2.1 dL_law_335 rfl (lv_at hl 2 rfl) ?_
  refine lv_aload_n C.1 C.2.1 dL_law_336 rfl (lv_at hl 3 rfl) ?_
  refine lv_iload_n C.1 C.2.1 dL_law_337 rfl (lv_at hl 0 rfl) ?_
  refine lv_iconst (v := 1) C.1 C.2.1 dL_law_338 (by decide) ?_
  refine k_iadd (v := 1) C (by decide) dL_law_339 ?_
  refine k_sld (v := y1) C hX hbl hbA Wd (vp_in_iff.mpr (by decide)) hy1 dL_law_340 ?_
  refine lv_aload_n C.1 C.2.1 dL_law_341 rfl (lv_at hl 3 rfl) ?_
  refine lv_iload_n C.1 C.2.1 dL_law_342 rfl (lv_at hl 0 rfl) ?_
  refine lv_iconst (v := 2) C.1 C.2.1 dL_law_343 (by decide) ?_
  refine k_iadd (v := 2) C (by decide) dL_law_344 ?_
  refine k_sld (v := y2) C hX hbl hbA Wd (vp_in_iff.mpr (by decide)) hy2 dL_law_345 ?_
  refine lv_aload_n C.1 C.2.1 dL_law_346 rfl (lv_at hl 3 rfl) ?_
  refine lv_iload_n C.1 C.2.1 dL_law_347 rfl (lv_at hl 0 rfl) ?_
  refine lv_iconst (v := 3) C.1 C.2.1 dL_law_348 (by decide) ?_
  refine k_iadd (v := 3) C (by decide) dL_law_349 ?_
  refine k_sld (v := y3) C hX hbl hbA Wd (vp_in_iff.mpr (by decide)) hy3 dL_law_350 ?_
  refine lv_aload_n C.1 C.2.1 dL_law_351 rfl (lv_at hl 3 rfl) ?_
  refine lv_iload_n C.1 C.2.1 dL_law_352 rfl (lv_at hl 0 rfl) ?_
  refine lv_iconst (v := 4) C.1 C.2.1 dL_law_353 (by decide) ?_
  refine k_iadd (v := 4) C (by decide) dL_law_354 ?_
  refine k_sld (v := y4) C hX hbl hbA Wd (vp_in_iff.mpr (by decide)) hy4 dL_law_355 ?_
  refine k_pi (k_runV (rest := []) C aks Wd cs_L_46 (kcX11_run_v1 l D q5961 q5963 q5964 q5965 q5966 q5967 q5968 q5969 y1 y2 y3 y4 (va_up (va_up (va_up (va_up (va_up (va_up (fun _ => none) 0 (some q5971)) 1 (some q5972)) 2 (some q5973)) 3 (some q5974)) 4 (some q5975)) 5 (some q5976)) e5970 _ c6704) [0, 1] rfl (by decide) [0] rfl 0 11 rfl rfl rfl rfl rfl ⟨(Nat.le_of_ble_eq_true rfl), (Nat.le_of_ble_eq_true rfl)⟩ hl.1 rfl rfl (Nat.le_of_ble_eq_true rfl) ⟨(Nat.le_of_ble_eq_true rfl), (Nat.le_of_ble_eq_true rfl)⟩ dL_law_356) (fun r w7798 => ?_)
  obtain ⟨c7799, c7800, rfl⟩ := w7798
  refine lv_aload_n C.1 C.2.1 dL_law_359 rfl (lv_at hl 1 rfl) ?_
  refine lv_aload_n C.1 C.2.1 dL_law_360 rfl (lv_at hl 3 rfl) ?_
  refine lv_iload_n C.1 C.2.1 dL_law_361 rfl (lv_at hl 0 rfl) ?_
  refine lv_iconst (v := 1) C.1 C.2.1 dL_law_362 (by decide) ?_
  refine k_iadd (v := 1) C (by decide) dL_law_363 ?_
  refine k_sld (v := y1) C hX hbl hbA Wd (vp_in_iff.mpr (by decide)) hy1 dL_law_364 ?_
  refine lv_aload_n C.1 C.2.1 dL_law_365 rfl (lv_at hl 3 rfl) ?_
  refine lv_iload_n C.1 C.2.1 dL_law_366 rfl (lv_at hl 0 rfl) ?_
  refine lv_iconst (v := 2) C.1 C.2.1 dL_law_367 (by decide) ?_
  refine k_iadd (v := 2) C (by decide) dL_law_368 ?_
  refine k_sld (v := y2) C hX hbl hbA Wd (vp_in_iff.mpr (by decide)) hy2 dL_law_369 ?_
  refine lv_aload_n C.1 C.2.1 dL_law_370 rfl (lv_at hl 3 rfl) ?_
  refine lv_iload_n C.1 C.2.1 dL_law_371 rfl (lv_at hl 0 rfl) ?_
  refine lv_iconst (v := 3) C.1 C.2.1 dL_law_372 (by decide) ?_
  refine k_iadd (v := 3) C (by decide) dL_law_373 ?_
  refine k_sld (v := y3) C hX hbl hbA Wd (vp_in_iff.mpr (by decide)) hy3 dL_law_374 ?_
  refine lv_aload_n C.1 C.2.1 dL_law_375 rfl (lv_at hl 3 rfl) ?_
  refine lv_iload_n C.1 C.2.1 dL_law_376 rfl (lv_at hl 0 rfl) ?_
  refine lv_iconst (v := 4) C.1 C.2.1 dL_law_377 (by decide) ?_
  refine k_iadd (v := 4) C (by decide) dL_law_378 ?_
  refine k_sld (v := y4) C hX hbl hbA Wd (vp_in_iff.mpr (by decide)) hy4 dL_law_379 ?_
  refine k_ci Wd [12, 13, 14] [0, 1, 2, 3, 4, 5, 6, 7, 8, 9, 10, 11] rfl (wr := [(q5961, .inr (11, [.ref q5963, .int 0, .ref q5964, .ref q5965, .ref q5966, .ref q5967, .ref q5968, .ref q5969])), (q5963, .inl (e5970, 6, .inr (.inr (.inr (.inr (va_up (va_up (va_up (va_up (va_up (va_up (fun _ => none) 0 (some q5971)) 1 (some q5972)) 2 (some q5973)) 3 (some q5974)) 4 (some q5975)) 5 (some q5976))))))), (q5971, .inr (8, [.ref q5977, .int 0])), (q5972, .inr (8, [.ref q5978, .int 0])), (q5973, .inr (8, [.ref q5979, .int 0])), (q5974, .inr (8, [.ref q5980, .int 0])), (q5975, .inr (8, [.ref q5981, .int 0])), (q5976, .inr (8, [.ref q5982, .int 0])), (q5966, .inr (3, [.ref q5991, .ref q5992, .int 0, .int 0, .int 0, .ref q5993, .ref q5994])), (q5991, .inr (1, [.ref q5995, .int 0, .ref q5996, .ref q5997, .ref q5998, .ref q5999, .ref q6000, .ref q6001, .ref q6002, .ref q6003, .ref q6004, .ref q6005, .ref q6006, .ref q6007])), (q6007, .inl (e6008, 480, .inl (fun _ => 0))), (q5993, .inl (e6009, 6, .inl (fun _ => 0)))]) rfl (by decide) (by decide) (cells' := 271) (slots' := 91330) (by decide) (by decide) (k_runV (rest := [.int (-1)]) C aks Wd cs_L_50 (kcX12_run l D q6104 q6106 q6107 q6108 q6109 q6110 q6111 q6112 q6113 q6114 q6115 q6116 q6117 q6118 q6119 q6120 q6121 q6122 q6123 q6124 q6125 q6126 q6127 q6128 q6129 q6130 y1 y2 y3 y4 e6132 e6140 _ ) [12, 13, 14] rfl (by decide) [3, 4] rfl 12 12 rfl rfl rfl rfl rfl ⟨(Nat.le_of_ble_eq_true rfl), (Nat.le_of_ble_eq_true rfl)⟩ hl.1 rfl rfl (Nat.le_of_ble_eq_true rfl) ⟨(Nat.le_of_ble_eq_true rfl), (Nat.le_of_ble_eq_true rfl)⟩ dL_law_380) (fun r _ H locs w7801 Wd => ?_)
  have Wd : wX D [(e5970, .object RX8), (e6008, .int), (e6009, .int), (e6132, .int), (e6140, .int)] s [(q5961, .inr (11, [.ref q5963, .int 0, .ref q5964, .ref q5965, .ref q5966, .ref q5967, .ref q5968, .ref q5969])), (q5963, .inl (e5970, 6, .inr (.inr (.inr (.inr (va_up (va_up (va_up (va_up (va_up (va_up (fun _ => none) 0 (some q5971)) 1 (some q5972)) 2 (some q5973)) 3 (some q5974)) 4 (some q5975)) 5 (some q5976))))))), (q5971, .inr (8, [.ref q5977, .int 0])), (q5972, .inr (8, [.ref q5978, .int 0])), (q5973, .inr (8, [.ref q5979, .int 0])), (q5974, .inr (8, [.ref q5980, .int 0])), (q5975, .inr (8, [.ref q5981, .int 0])), (q5976, .inr (8, [.ref q5982, .int 0])), (q5966, .inr (3, [.ref q5991, .ref q5992, .int 0, .int 0, .int 0, .ref q5993, .ref q5994])), (q5991, .inr (1, [.ref q5995, .int 0, .ref q5996, .ref q5997, .ref q5998, .ref q5999, .ref q6000, .ref q6001, .ref q6002, .ref q6003, .ref q6004, .ref q6005, .ref q6006, .ref q6007])), (q6007, .inl (e6008, 480, .inl (fun _ => 0))), (q5993, .inl (e6009, 6, .inl (fun _ => 0)))] _ A s.heap _ := Wd
  rcases w7801 with ⟨c7802, rfl⟩ | ⟨c7803, c7804, rfl⟩ | ⟨c7805, c7806, c7807, rfl⟩ | ⟨c7808, c7809, c7810, c7811, rfl⟩ | ⟨c7812, c7813, c7814, c7815, c7816, rfl⟩ | ⟨c7817, c7818, c7819, c7820, c7821, c7822, rfl⟩ | ⟨c7823, c7824, c7825, c7826, c7827, c7828, c7829, c7830, c7831, c7832, c7833, rfl⟩ | ⟨c7834, c7835, c7836, c7837, c7838, c7839, c7840, c7841, c7842, c7843, c7844, rfl⟩ | ⟨c7845, c7846, c7847, c7848, c7849, c7850, c7851, c7852, c7853, c7854, rfl⟩ | ⟨c7855, c7856, c7857, c7858, c7859, c7860, c7861, c7862, c7863, rfl⟩ | ⟨c7864, c7865, c7866, c7867, c7868, c7869, c7870, c7871, c7872, rfl⟩ | ⟨c7873, c7874, c7875, c7876, c7877, c7878, c7879, c7880, c7881, c7882, rfl⟩ | ⟨c7883, c7884, c7885, c7886, c7887, c7888, c7889, c7890, rfl⟩
  · exact absurd c7802 c6610
  · refine lv_icmp_eq (tgt := 801) C.1 C.2.1 dL_law_383 (by decide) (fun _ => ?_) (fun c7891 => absurd c7891 (by decide))
    exact tail _ _ _ (k_sub Wd [] rfl (by decide) [] rfl) (lv_sub hl [0, 3] rfl)
  · exact False.elim (by have z0 := kz_nlt c6610; have z1 := kz_nlt c6704; have z2 := kz_nlt c7799; have z3 := kz_le c7800; have z4 := kz_nlt c7805; have z5 := kz_nlt c7806; have t0 : (0 : Int32).toInt = 0 := (by decide); have t6 : (6 : Int32).toInt = 6 := (by decide); have t5 : (5 : Int32).toInt = 5 := (by decide); omega)
  · exact False.elim (by have z0 := kz_nlt c6610; have z1 := kz_nlt c6704; have z2 := kz_nlt c7799; have z3 := kz_le c7800; have z4 := kz_nlt c7808; have z5 := kz_nlt c7809; have t0 : (0 : Int32).toInt = 0 := (by decide); have t6 : (6 : Int32).toInt = 6 := (by decide); have t5 : (5 : Int32).toInt = 5 := (by decide); omega)
  · exact False.elim (by have z0 := kz_nlt c6610; have z1 := kz_nlt c6704; have z2 := kz_nlt c7799; have z3 := kz_le c7800; have z4 := kz_nlt c7812; have z5 := kz_nlt c7813; have t0 : (0 : Int32).toInt = 0 := (by decide); have t6 : (6 : Int32).toInt = 6 := (by decide); have t5 : (5 : Int32).toInt = 5 := (by decide); omega)
  · exact False.elim (by have z0 := kz_nlt c6610; have z1 := kz_nlt c6704; have z2 := kz_nlt c7799; have z3 := kz_le c7800; have z4 := kz_nlt c7817; have z5 := kz_nlt c7818; have t0 : (0 : Int32).toInt = 0 := (by decide); have t6 : (6 : Int32).toInt = 6 := (by decide); have t5 : (5 : Int32).toInt = 5 := (by decide); omega)
  · exact False.elim (by have z0 := kz_nlt c6610; have z1 := kz_nlt c6704; have z2 := kz_nlt c7799; have z3 := kz_le c7800; have z4 := kz_nlt c7823; have z5 := kz_nlt c7824; have t0 : (0 : Int32).toInt = 0 := (by decide); have t6 : (6 : Int32).toInt = 6 := (by decide); have t5 : (5 : Int32).toInt = 5 := (by decide); omega)
  · exact False.elim (by have z0 := kz_nlt c6610; have z1 := kz_nlt c6704; have z2 := kz_nlt c7799; have z3 := kz_le c7800; have z4 := kz_nlt c7834; have z5 := kz_nlt c7835; have t0 : (0 : Int32).toInt = 0 := (by decide); have t6 : (6 : Int32).toInt = 6 := (by decide); have t5 : (5 : Int32).toInt = 5 := (by decide); omega)
  · exact False.elim (by have z0 := kz_nlt c6610; have z1 := kz_nlt c6704; have z2 := kz_nlt c7799; have z3 := kz_le c7800; have z4 := kz_nlt c7845; have z5 := kz_nlt c7846; have t0 : (0 : Int32).toInt = 0 := (by decide); have t6 : (6 : Int32).toInt = 6 := (by decide); have t5 : (5 : Int32).toInt = 5 := (by decide); omega)
  · exact False.elim (by have z0 := kz_nlt c6610; have z1 := kz_nlt c6704; have z2 := kz_nlt c7799; have z3 := kz_le c7800; have z4 := kz_nlt c7855; have z5 := kz_nlt c7856; have t0 : (0 : Int32).toInt = 0 := (by decide); have t6 : (6 : Int32).toInt = 6 := (by decide); have t5 : (5 : Int32).toInt = 5 := (by decide); omega)
  · exact False.elim (by have z0 := kz_nlt c6610; have z1 := kz_nlt c6704; have z2 := kz_nlt c7799; have z3 := kz_le c7800; have z4 := kz_nlt c7864; have z5 := kz_nlt c7865; have t0 : (0 : Int32).toInt = 0 := (by decide); have t6 : (6 : Int32).toInt = 6 := (by decide); have t5 : (5 : Int32).toInt = 5 := (by decide); omega)
  · exact False.elim (by have z0 := kz_nlt c6610; have z1 := kz_nlt c6704; have z2 := kz_nlt c7799; have z3 := kz_le c7800; have z4 := kz_nlt c7873; have z5 := kz_nlt c7874; have t0 : (0 : Int32).toInt = 0 := (by decide); have t6 : (6 : Int32).toInt = 6 := (by decide); have t5 : (5 : Int32).toInt = 5 := (by decide); omega)
  · exact False.elim (by have z0 := kz_nlt c6610; have z1 := kz_nlt c6704; have z2 := kz_nlt c7799; have z3 := kz_le c7800; have z4 := kz_nlt c7883; have z5 := kz_nlt c7884; have t0 : (0 : Int32).toInt = 0 := (by decide); have t6 : (6 : Int32).toInt = 6 := (by decide); have t5 : (5 : Int32).toInt = 5 := (by decide); omega)
