set_option maxHeartbeats 4000000 in
set_option maxRecDepth 100000 in
theorem law_feed {p : Program} {l : Launch} {e : Jvm.Env} {s : State} {m : MethodId} {below : List Frame} {meth : Method} {c : Code} {b L : Nat} {xs : Nat → Int32} {D : va_G} {A : Nat → Prop} {ad : Nat → Nat} {ca : Nat → ClassId} {h : Nat} {adM : Nat → Nat} {caM : Nat → ClassId} {adK adV adK2 adV2 : Nat → Nat} (C : CallFix p m c cL_law 4 s #[Value.ref b] gG RL) (aks : aK s) (hX : va_X b L xs s s.heap) (hbl : b < s.heap.size) (hbA : ¬ A b) (hET : sK RX10 ixT adK adV 0 A s s.heap) (hEM : sK RX12 ixM adK2 adV2 0 A s s.heap) {cel : Nat → Cl} {I : Nat → Int} {F : Nat → Int → Int} {i : Int32} {H : Heap} {locs : List Loc} {ls : Array Slot} (hL : L ≤ 3072) (i0 : 0 ≤ i.toInt) (i6 : i.toInt + 6 ≤ (L : Int)) (hB : RelX ad ca cel I F) (hM : MInv I F) (hR : rngS I F) (tail : ∀ (cel : Nat → Cl) (I : Nat → Int) (F : Nat → Int → Int) (H : Heap) (locs : List Loc) (ls : Array Slot), RelX ad ca cel I F → MInv I F → rngS I F → wX D (tC ca ++ tM caM) s (wN NC cel ++ wM h adM caM I F) H A s.heap locs → lv_has ls 4 [(3, .int i), (2, .ref h), (1, .ref (ad 0)), (0, .ref b)] → W p l e room_1 s m #[Value.ref b] below meth c H locs 271 91330 (lw_Z below #[Value.ref b] s) (F0 m 801 ls [])) (Wd : wX D (tC ca ++ tM caM) s (wN NC cel ++ wM h adM caM I F) H A s.heap locs) (hl : lv_has ls 4 [(3, .int i), (2, .ref h), (1, .ref (ad 0)), (0, .ref b)]) : W p l e room_1 s m #[Value.ref b] below meth c H locs 271 91330 (lw_Z below #[Value.ref b] s) (F0 m 124 ls []) := by
  obtain ⟨k1, ek1⟩ : ∃ z : Int32, i + 1 = z := ⟨_, rfl⟩
  have ik1 : k1.toInt = i.toInt + 1 := kz_addc ek1 (by decide) (by omega) (by omega)
  obtain ⟨y1, ey1⟩ : ∃ z : Int32, xs k1.toNatClampNeg = z := ⟨_, rfl⟩
  obtain ⟨k2, ek2⟩ : ∃ z : Int32, i + 2 = z := ⟨_, rfl⟩
  have ik2 : k2.toInt = i.toInt + 2 := kz_addc ek2 (by decide) (by omega) (by omega)
  obtain ⟨y2, ey2⟩ : ∃ z : Int32, xs k2.toNatClampNeg = z := ⟨_, rfl⟩
  obtain ⟨k3, ek3⟩ : ∃ z : Int32, i + 3 = z := ⟨_, rfl⟩
  have ik3 : k3.toInt = i.toInt + 3 := kz_addc ek3 (by decide) (by omega) (by omega)
  obtain ⟨y3, ey3⟩ : ∃ z : Int32, xs k3.toNatClampNeg = z := ⟨_, rfl⟩
  obtain ⟨k4, ek4⟩ : ∃ z : Int32, i + 4 = z := ⟨_, rfl⟩
  have ik4 : k4.toInt = i.toInt + 4 := kz_addc ek4 (by decide) (by omega) (by omega)
  obtain ⟨y4, ey4⟩ : ∃ z : Int32, xs k4.toNatClampNeg = z := ⟨_, rfl⟩
  obtain ⟨k5, ek5⟩ : ∃ z : Int32, i + 5 = z := ⟨_, rfl⟩
  have ik5 : k5.toInt = i.toInt + 5 := kz_addc ek5 (by decide) (by omega) (by omega)
  obtain ⟨y5, ey5⟩ : ∃ z : Int32, xs k5.toNatClampNeg = z := ⟨_, rfl⟩
  refine lv_aload_n C.1 C.2.1 dL_law_124 rfl (lv_at hl 2 rfl) ?_
  refine lv_aload_n C.1 C.2.1 dL_law_125 rfl (lv_at hl 3 rfl) ?_
  refine lv_iload_n C.1 C.2.1 dL_law_126 rfl (lv_at hl 0 rfl) ?_
  refine lv_iconst (v := 1) C.1 C.2.1 dL_law_127 (by decide) ?_
  refine k_iadd (v := k1) C ek1 dL_law_128 ?_
  refine k_sld (v := y1) C hX hbl hbA Wd (vp_in_iff.mpr ⟨by omega, by omega⟩) ey1 dL_law_129 ?_
  refine lv_aload_n C.1 C.2.1 dL_law_130 rfl (lv_at hl 3 rfl) ?_
  refine lv_iload_n C.1 C.2.1 dL_law_131 rfl (lv_at hl 0 rfl) ?_
  refine lv_iconst (v := 2) C.1 C.2.1 dL_law_132 (by decide) ?_
  refine k_iadd (v := k2) C ek2 dL_law_133 ?_
  refine k_sld (v := y2) C hX hbl hbA Wd (vp_in_iff.mpr ⟨by omega, by omega⟩) ey2 dL_law_134 ?_
  refine lv_aload_n C.1 C.2.1 dL_law_135 rfl (lv_at hl 3 rfl) ?_
  refine lv_iload_n C.1 C.2.1 dL_law_136 rfl (lv_at hl 0 rfl) ?_
  refine lv_iconst (v := 3) C.1 C.2.1 dL_law_137 (by decide) ?_
  refine k_iadd (v := k3) C ek3 dL_law_138 ?_
  refine k_sld (v := y3) C hX hbl hbA Wd (vp_in_iff.mpr ⟨by omega, by omega⟩) ey3 dL_law_139 ?_
  refine lv_aload_n C.1 C.2.1 dL_law_140 rfl (lv_at hl 3 rfl) ?_
  refine lv_iload_n C.1 C.2.1 dL_law_141 rfl (lv_at hl 0 rfl) ?_
  refine lv_iconst (v := 4) C.1 C.2.1 dL_law_142 (by decide) ?_
  refine k_iadd (v := k4) C ek4 dL_law_143 ?_
  refine k_sld (v := y4) C hX hbl hbA Wd (vp_in_iff.mpr ⟨by omega, by omega⟩) ey4 dL_law_144 ?_
  refine lv_aload_n C.1 C.2.1 dL_law_145 rfl (lv_at hl 3 rfl) ?_
  refine lv_iload_n C.1 C.2.1 dL_law_146 rfl (lv_at hl 0 rfl) ?_
  refine lv_iconst (v := 5) C.1 C.2.1 dL_law_147 (by decide) ?_
  refine k_iadd (v := k5) C ek5 dL_law_148 ?_
  refine k_sld (v := y5) C hX hbl hbA Wd (vp_in_iff.mpr ⟨by omega, by omega⟩) ey5 dL_law_149 ?_
  obtain ⟨fx, ex⟩ := he_7 (M := wM h adM caM I F) hB
  obtain ⟨Q0, R0, hc, hm, hrel⟩ := b_feed hB hR y1 y2 y3 y4 y5
  refine kl_cx (Rp := fun r c' => Q0 r c') Wd (k_runV (rest := []) C aks Wd cs_L_13 (hc l D _) (List.range NC) (ap_l _ _ (wN_len cel)) ndR (List.range NC) (fm_l (tC ca) (tM caM) (tC_len ca)) 0 11 ex rfl rfl rfl rfl ⟨(Nat.le_of_ble_eq_true rfl), (Nat.le_of_ble_eq_true rfl)⟩ hl.1 rfl rfl (Nat.le_of_ble_eq_true rfl) ⟨(Nat.le_of_ble_eq_true rfl), (Nat.le_of_ble_eq_true rfl)⟩ dL_law_150) (fun r1 cel1 H locs w1 Wd => ?_)
  refine lv_pop C.1 C.2.1 dL_law_153 rfl ?_
  refine lv_aload_n C.1 C.2.1 dL_law_154 rfl (lv_at hl 1 rfl) ?_
  refine lv_aload_n C.1 C.2.1 dL_law_155 rfl (lv_at hl 3 rfl) ?_
  refine lv_iload_n C.1 C.2.1 dL_law_156 rfl (lv_at hl 0 rfl) ?_
  refine lv_iconst (v := 1) C.1 C.2.1 dL_law_157 (by decide) ?_
  refine k_iadd (v := k1) C ek1 dL_law_158 ?_
  refine k_sld (v := y1) C hX hbl hbA Wd (vp_in_iff.mpr ⟨by omega, by omega⟩) ey1 dL_law_159 ?_
  refine lv_aload_n C.1 C.2.1 dL_law_160 rfl (lv_at hl 3 rfl) ?_
  refine lv_iload_n C.1 C.2.1 dL_law_161 rfl (lv_at hl 0 rfl) ?_
  refine lv_iconst (v := 2) C.1 C.2.1 dL_law_162 (by decide) ?_
  refine k_iadd (v := k2) C ek2 dL_law_163 ?_
  refine k_sld (v := y2) C hX hbl hbA Wd (vp_in_iff.mpr ⟨by omega, by omega⟩) ey2 dL_law_164 ?_
  refine lv_aload_n C.1 C.2.1 dL_law_165 rfl (lv_at hl 3 rfl) ?_
  refine lv_iload_n C.1 C.2.1 dL_law_166 rfl (lv_at hl 0 rfl) ?_
  refine lv_iconst (v := 3) C.1 C.2.1 dL_law_167 (by decide) ?_
  refine k_iadd (v := k3) C ek3 dL_law_168 ?_
  refine k_sld (v := y3) C hX hbl hbA Wd (vp_in_iff.mpr ⟨by omega, by omega⟩) ey3 dL_law_169 ?_
  refine lv_aload_n C.1 C.2.1 dL_law_170 rfl (lv_at hl 3 rfl) ?_
  refine lv_iload_n C.1 C.2.1 dL_law_171 rfl (lv_at hl 0 rfl) ?_
  refine lv_iconst (v := 4) C.1 C.2.1 dL_law_172 (by decide) ?_
  refine k_iadd (v := k4) C ek4 dL_law_173 ?_
  refine k_sld (v := y4) C hX hbl hbA Wd (vp_in_iff.mpr ⟨by omega, by omega⟩) ey4 dL_law_174 ?_
  refine lv_aload_n C.1 C.2.1 dL_law_175 rfl (lv_at hl 3 rfl) ?_
  refine lv_iload_n C.1 C.2.1 dL_law_176 rfl (lv_at hl 0 rfl) ?_
  refine lv_iconst (v := 5) C.1 C.2.1 dL_law_177 (by decide) ?_
  refine k_iadd (v := k5) C ek5 dL_law_178 ?_
  refine k_sld (v := y5) C hX hbl hbA Wd (vp_in_iff.mpr ⟨by omega, by omega⟩) ey5 dL_law_179 ?_
  refine kl_cm (Rp := fun r u => R0 r u.1 u.2) Wd (k_runV (rest := []) C aks Wd cs_L_17 (hm l D h adM caM _) (List.range 26) (ap_l (wM h adM caM I F) (wN NC cel1) rfl) nd_e ((List.range 25).map (fun i => NC + i)) (fm_r (tC ca) (tM caM) (tC_len ca) rfl) 0 12 rfl rfl rfl rfl rfl ⟨(Nat.le_of_ble_eq_true rfl), (Nat.le_of_ble_eq_true rfl)⟩ hl.1 rfl rfl (Nat.le_of_ble_eq_true rfl) ⟨(Nat.le_of_ble_eq_true rfl), (Nat.le_of_ble_eq_true rfl)⟩ dL_law_180) (fun r2 I1 F1 H locs w2 hM hR Wd => ?_)
  have hrl := hrel _ _ _ _ _ w1 w2
  have hB : RelX ad ca cel1 I1 F1 := hrl.2
  refine lv_pop C.1 C.2.1 dL_law_183 rfl ?_
  refine lv_goto (tgt := 801) C.1 C.2.1 dL_law_184 (by decide) ?_
  exact tail cel1 I1 F1 _ _ _ hB hM hR Wd hl
set_option maxHeartbeats 4000000 in
set_option maxRecDepth 100000 in
theorem law_end {p : Program} {l : Launch} {e : Jvm.Env} {s : State} {m : MethodId} {below : List Frame} {meth : Method} {c : Code} {b L : Nat} {xs : Nat → Int32} {D : va_G} {A : Nat → Prop} {ad : Nat → Nat} {ca : Nat → ClassId} {h : Nat} {adM : Nat → Nat} {caM : Nat → ClassId} {adK adV adK2 adV2 : Nat → Nat} (C : CallFix p m c cL_law 4 s #[Value.ref b] gG RL) (aks : aK s) (hX : va_X b L xs s s.heap) (hbl : b < s.heap.size) (hbA : ¬ A b) (hET : sK RX10 ixT adK adV 0 A s s.heap) (hEM : sK RX12 ixM adK2 adV2 0 A s s.heap) {cel : Nat → Cl} {I : Nat → Int} {F : Nat → Int → Int} {i : Int32} {H : Heap} {locs : List Loc} {ls : Array Slot} (hL : L ≤ 3072) (i0 : 0 ≤ i.toInt) (i6 : i.toInt + 6 ≤ (L : Int)) (hB : RelX ad ca cel I F) (hM : MInv I F) (hR : rngS I F) (tail : ∀ (cel : Nat → Cl) (I : Nat → Int) (F : Nat → Int → Int) (H : Heap) (locs : List Loc) (ls : Array Slot), RelX ad ca cel I F → MInv I F → rngS I F → wX D (tC ca ++ tM caM) s (wN NC cel ++ wM h adM caM I F) H A s.heap locs → lv_has ls 4 [(3, .int i), (2, .ref h), (1, .ref (ad 0)), (0, .ref b)] → W p l e room_1 s m #[Value.ref b] below meth c H locs 271 91330 (lw_Z below #[Value.ref b] s) (F0 m 801 ls [])) (Wd : wX D (tC ca ++ tM caM) s (wN NC cel ++ wM h adM caM I F) H A s.heap locs) (hl : lv_has ls 4 [(3, .int i), (2, .ref h), (1, .ref (ad 0)), (0, .ref b)]) : W p l e room_1 s m #[Value.ref b] below meth c H locs 271 91330 (lw_Z below #[Value.ref b] s) (F0 m 187 ls []) := by
  obtain ⟨k1, ek1⟩ : ∃ z : Int32, i + 1 = z := ⟨_, rfl⟩
  have ik1 : k1.toInt = i.toInt + 1 := kz_addc ek1 (by decide) (by omega) (by omega)
  obtain ⟨y1, ey1⟩ : ∃ z : Int32, xs k1.toNatClampNeg = z := ⟨_, rfl⟩
  refine lv_aload_n C.1 C.2.1 dL_law_187 rfl (lv_at hl 2 rfl) ?_
  refine lv_aload_n C.1 C.2.1 dL_law_188 rfl (lv_at hl 3 rfl) ?_
  refine lv_iload_n C.1 C.2.1 dL_law_189 rfl (lv_at hl 0 rfl) ?_
  refine lv_iconst (v := 1) C.1 C.2.1 dL_law_190 (by decide) ?_
  refine k_iadd (v := k1) C ek1 dL_law_191 ?_
  refine k_sld (v := y1) C hX hbl hbA Wd (vp_in_iff.mpr ⟨by omega, by omega⟩) ey1 dL_law_192 ?_
  obtain ⟨fx, ex⟩ := he_7 (M := wM h adM caM I F) hB
  obtain ⟨Q0, R0, hc, hm, hrel⟩ := b_end hB hR y1
  refine kl_cx (Rp := fun r c' => Q0 r c') Wd (k_runV (rest := []) C aks Wd cs_L_18 (hc l D _) (List.range NC) (ap_l _ _ (wN_len cel)) ndR (List.range NC) (fm_l (tC ca) (tM caM) (tC_len ca)) 0 11 ex rfl rfl rfl rfl ⟨(Nat.le_of_ble_eq_true rfl), (Nat.le_of_ble_eq_true rfl)⟩ hl.1 rfl rfl (Nat.le_of_ble_eq_true rfl) ⟨(Nat.le_of_ble_eq_true rfl), (Nat.le_of_ble_eq_true rfl)⟩ dL_law_193) (fun r1 cel1 H locs w1 Wd => ?_)
  refine lv_pop C.1 C.2.1 dL_law_196 rfl ?_
  refine lv_aload_n C.1 C.2.1 dL_law_197 rfl (lv_at hl 1 rfl) ?_
  refine lv_aload_n C.1 C.2.1 dL_law_198 rfl (lv_at hl 3 rfl) ?_
  refine lv_iload_n C.1 C.2.1 dL_law_199 rfl (lv_at hl 0 rfl) ?_
  refine lv_iconst (v := 1) C.1 C.2.1 dL_law_200 (by decide) ?_
  refine k_iadd (v := k1) C ek1 dL_law_201 ?_
  refine k_sld (v := y1) C hX hbl hbA Wd (vp_in_iff.mpr ⟨by omega, by omega⟩) ey1 dL_law_202 ?_
  refine kl_cm (Rp := fun r u => R0 r u.1 u.2) Wd (k_runV (rest := []) C aks Wd cs_L_22 (hm l D h adM caM _) (List.range 26) (ap_l (wM h adM caM I F) (wN NC cel1) rfl) nd_e ((List.range 25).map (fun i => NC + i)) (fm_r (tC ca) (tM caM) (tC_len ca) rfl) 0 12 rfl rfl rfl rfl rfl ⟨(Nat.le_of_ble_eq_true rfl), (Nat.le_of_ble_eq_true rfl)⟩ hl.1 rfl rfl (Nat.le_of_ble_eq_true rfl) ⟨(Nat.le_of_ble_eq_true rfl), (Nat.le_of_ble_eq_true rfl)⟩ dL_law_203) (fun r2 I1 F1 H locs w2 hM hR Wd => ?_)
  have hrl := hrel _ _ _ _ _ w1 w2
  have hB : RelX ad ca cel1 I1 F1 := hrl.2
  refine lv_pop C.1 C.2.1 dL_law_206 rfl ?_
  refine lv_goto (tgt := 801) C.1 C.2.1 dL_law_207 (by decide) ?_
  exact tail cel1 I1 F1 _ _ _ hB hM hR Wd hl
set_option maxHeartbeats 4000000 in
set_option maxRecDepth 100000 in
theorem law_program {p : Program} {l : Launch} {e : Jvm.Env} {s : State} {m : MethodId} {below : List Frame} {meth : Method} {c : Code} {b L : Nat} {xs : Nat → Int32} {D : va_G} {A : Nat → Prop} {ad : Nat → Nat} {ca : Nat → ClassId} {h : Nat} {adM : Nat → Nat} {caM : Nat → ClassId} {adK adV adK2 adV2 : Nat → Nat} (C : CallFix p m c cL_law 4 s #[Value.ref b] gG RL) (aks : aK s) (hX : va_X b L xs s s.heap) (hbl : b < s.heap.size) (hbA : ¬ A b) (hET : sK RX10 ixT adK adV 0 A s s.heap) (hEM : sK RX12 ixM adK2 adV2 0 A s s.heap) {cel : Nat → Cl} {I : Nat → Int} {F : Nat → Int → Int} {i : Int32} {H : Heap} {locs : List Loc} {ls : Array Slot} (hL : L ≤ 3072) (i0 : 0 ≤ i.toInt) (i6 : i.toInt + 6 ≤ (L : Int)) (hB : RelX ad ca cel I F) (hM : MInv I F) (hR : rngS I F) (tail : ∀ (cel : Nat → Cl) (I : Nat → Int) (F : Nat → Int → Int) (H : Heap) (locs : List Loc) (ls : Array Slot), RelX ad ca cel I F → MInv I F → rngS I F → wX D (tC ca ++ tM caM) s (wN NC cel ++ wM h adM caM I F) H A s.heap locs → lv_has ls 4 [(3, .int i), (2, .ref h), (1, .ref (ad 0)), (0, .ref b)] → W p l e room_1 s m #[Value.ref b] below meth c H locs 271 91330 (lw_Z below #[Value.ref b] s) (F0 m 801 ls [])) (Wd : wX D (tC ca ++ tM caM) s (wN NC cel ++ wM h adM caM I F) H A s.heap locs) (hl : lv_has ls 4 [(3, .int i), (2, .ref h), (1, .ref (ad 0)), (0, .ref b)]) : W p l e room_1 s m #[Value.ref b] below meth c H locs 271 91330 (lw_Z below #[Value.ref b] s) (F0 m 210 ls []) := by
  obtain ⟨k1, ek1⟩ : ∃ z : Int32, i + 1 = z := ⟨_, rfl⟩
  have ik1 : k1.toInt = i.toInt + 1 := kz_addc ek1 (by decide) (by omega) (by omega)
  obtain ⟨y1, ey1⟩ : ∃ z : Int32, xs k1.toNatClampNeg = z := ⟨_, rfl⟩
  refine lv_aload_n C.1 C.2.1 dL_law_210 rfl (lv_at hl 2 rfl) ?_
  refine lv_aload_n C.1 C.2.1 dL_law_211 rfl (lv_at hl 3 rfl) ?_
  refine lv_iload_n C.1 C.2.1 dL_law_212 rfl (lv_at hl 0 rfl) ?_
  refine lv_iconst (v := 1) C.1 C.2.1 dL_law_213 (by decide) ?_
  refine k_iadd (v := k1) C ek1 dL_law_214 ?_
  refine k_sld (v := y1) C hX hbl hbA Wd (vp_in_iff.mpr ⟨by omega, by omega⟩) ey1 dL_law_215 ?_
  obtain ⟨fx, ex⟩ := he_7 (M := wM h adM caM I F) hB
  obtain ⟨Q0, R0, hc, hm, hrel⟩ := b_program hB hR y1
  refine kl_cx (Rp := fun r c' => Q0 r c') Wd (k_runVT (rest := []) C aks hET Wd cs_L_23 (hc l D adK adV 0 _) (List.range NC) (ap_l _ _ (wN_len cel)) ndR (List.range NC) (fm_l (tC ca) (tM caM) (tC_len ca)) 0 11 ex rfl rfl rfl rfl ⟨(Nat.le_of_ble_eq_true rfl), (Nat.le_of_ble_eq_true rfl)⟩ hl.1 rfl rfl (Nat.le_of_ble_eq_true rfl) ⟨(Nat.le_of_ble_eq_true rfl), (Nat.le_of_ble_eq_true rfl)⟩ dL_law_216) (fun r1 cel1 H locs w1 Wd => ?_)
  refine lv_pop C.1 C.2.1 dL_law_219 rfl ?_
  refine lv_aload_n C.1 C.2.1 dL_law_220 rfl (lv_at hl 1 rfl) ?_
  refine lv_aload_n C.1 C.2.1 dL_law_221 rfl (lv_at hl 3 rfl) ?_
  refine lv_iload_n C.1 C.2.1 dL_law_222 rfl (lv_at hl 0 rfl) ?_
  refine lv_iconst (v := 1) C.1 C.2.1 dL_law_223 (by decide) ?_
  refine k_iadd (v := k1) C ek1 dL_law_224 ?_
  refine k_sld (v := y1) C hX hbl hbA Wd (vp_in_iff.mpr ⟨by omega, by omega⟩) ey1 dL_law_225 ?_
  refine kl_cm (Rp := fun r u => R0 r u.1 u.2) Wd (k_runVT (rest := []) C aks hEM Wd cs_L_27 (hm l D adK2 adV2 0 h adM caM _) (List.range 26) (ap_l (wM h adM caM I F) (wN NC cel1) rfl) nd_e ((List.range 25).map (fun i => NC + i)) (fm_r (tC ca) (tM caM) (tC_len ca) rfl) 0 12 rfl rfl rfl rfl rfl ⟨(Nat.le_of_ble_eq_true rfl), (Nat.le_of_ble_eq_true rfl)⟩ hl.1 rfl rfl (Nat.le_of_ble_eq_true rfl) ⟨(Nat.le_of_ble_eq_true rfl), (Nat.le_of_ble_eq_true rfl)⟩ dL_law_226) (fun r2 I1 F1 H locs w2 hM hR Wd => ?_)
  have hrl := hrel _ _ _ _ _ w1 w2
  have hB : RelX ad ca cel1 I1 F1 := hrl.2
  refine lv_pop C.1 C.2.1 dL_law_229 rfl ?_
  refine lv_goto (tgt := 801) C.1 C.2.1 dL_law_230 (by decide) ?_
  exact tail cel1 I1 F1 _ _ _ hB hM hR Wd hl
set_option maxHeartbeats 4000000 in
set_option maxRecDepth 100000 in
theorem law_rule {p : Program} {l : Launch} {e : Jvm.Env} {s : State} {m : MethodId} {below : List Frame} {meth : Method} {c : Code} {b L : Nat} {xs : Nat → Int32} {D : va_G} {A : Nat → Prop} {ad : Nat → Nat} {ca : Nat → ClassId} {h : Nat} {adM : Nat → Nat} {caM : Nat → ClassId} {adK adV adK2 adV2 : Nat → Nat} (C : CallFix p m c cL_law 4 s #[Value.ref b] gG RL) (aks : aK s) (hX : va_X b L xs s s.heap) (hbl : b < s.heap.size) (hbA : ¬ A b) (hET : sK RX10 ixT adK adV 0 A s s.heap) (hEM : sK RX12 ixM adK2 adV2 0 A s s.heap) {cel : Nat → Cl} {I : Nat → Int} {F : Nat → Int → Int} {i : Int32} {H : Heap} {locs : List Loc} {ls : Array Slot} (hL : L ≤ 3072) (i0 : 0 ≤ i.toInt) (i6 : i.toInt + 6 ≤ (L : Int)) (hB : RelX ad ca cel I F) (hM : MInv I F) (hR : rngS I F) (tail : ∀ (cel : Nat → Cl) (I : Nat → Int) (F : Nat → Int → Int) (H : Heap) (locs : List Loc) (ls : Array Slot), RelX ad ca cel I F → MInv I F → rngS I F → wX D (tC ca ++ tM caM) s (wN NC cel ++ wM h adM caM I F) H A s.heap locs → lv_has ls 4 [(3, .int i), (2, .ref h), (1, .ref (ad 0)), (0, .ref b)] → W p l e room_1 s m #[Value.ref b] below meth c H locs 271 91330 (lw_Z below #[Value.ref b] s) (F0 m 801 ls [])) (Wd : wX D (tC ca ++ tM caM) s (wN NC cel ++ wM h adM caM I F) H A s.heap locs) (hl : lv_has ls 4 [(3, .int i), (2, .ref h), (1, .ref (ad 0)), (0, .ref b)]) : W p l e room_1 s m #[Value.ref b] below meth c H locs 271 91330 (lw_Z below #[Value.ref b] s) (F0 m 233 ls []) := by
  refine lv_aload_n C.1 C.2.1 dL_law_233 rfl (lv_at hl 2 rfl) ?_
  obtain ⟨fx, ex⟩ := he_7 (M := wM h adM caM I F) hB
  obtain ⟨Q0, R0, hc, hm, hrel⟩ := b_rule hB hR 
  refine kl_cx (Rp := fun r c' => Q0 r c') Wd (k_runVT (rest := []) C aks hET Wd cs_L_28 (hc l D adK adV 0 _) (List.range NC) (ap_l _ _ (wN_len cel)) ndR (List.range NC) (fm_l (tC ca) (tM caM) (tC_len ca)) 0 11 ex rfl rfl rfl rfl ⟨(Nat.le_of_ble_eq_true rfl), (Nat.le_of_ble_eq_true rfl)⟩ hl.1 rfl rfl (Nat.le_of_ble_eq_true rfl) ⟨(Nat.le_of_ble_eq_true rfl), (Nat.le_of_ble_eq_true rfl)⟩ dL_law_234) (fun r1 cel1 H locs w1 Wd => ?_)
  refine lv_pop C.1 C.2.1 dL_law_237 rfl ?_
  refine lv_aload_n C.1 C.2.1 dL_law_238 rfl (lv_at hl 1 rfl) ?_
  refine kl_cm (Rp := fun r u => R0 r u.1 u.2) Wd (k_runVT (rest := []) C aks hEM Wd cs_L_32 (hm l D adK2 adV2 0 h adM caM _) (List.range 26) (ap_l (wM h adM caM I F) (wN NC cel1) rfl) nd_e ((List.range 25).map (fun i => NC + i)) (fm_r (tC ca) (tM caM) (tC_len ca) rfl) 0 12 rfl rfl rfl rfl rfl ⟨(Nat.le_of_ble_eq_true rfl), (Nat.le_of_ble_eq_true rfl)⟩ hl.1 rfl rfl (Nat.le_of_ble_eq_true rfl) ⟨(Nat.le_of_ble_eq_true rfl), (Nat.le_of_ble_eq_true rfl)⟩ dL_law_239) (fun r2 I1 F1 H locs w2 hM hR Wd => ?_)
  have hrl := hrel _ _ _ _ _ w1 w2
  have hB : RelX ad ca cel1 I1 F1 := hrl.2
  refine lv_pop C.1 C.2.1 dL_law_242 rfl ?_
  refine lv_goto (tgt := 801) C.1 C.2.1 dL_law_243 (by decide) ?_
  exact tail cel1 I1 F1 _ _ _ hB hM hR Wd hl
set_option maxHeartbeats 4000000 in
set_option maxRecDepth 100000 in
theorem law_fault {p : Program} {l : Launch} {e : Jvm.Env} {s : State} {m : MethodId} {below : List Frame} {meth : Method} {c : Code} {b L : Nat} {xs : Nat → Int32} {D : va_G} {A : Nat → Prop} {ad : Nat → Nat} {ca : Nat → ClassId} {h : Nat} {adM : Nat → Nat} {caM : Nat → ClassId} {adK adV adK2 adV2 : Nat → Nat} (C : CallFix p m c cL_law 4 s #[Value.ref b] gG RL) (aks : aK s) (hX : va_X b L xs s s.heap) (hbl : b < s.heap.size) (hbA : ¬ A b) (hET : sK RX10 ixT adK adV 0 A s s.heap) (hEM : sK RX12 ixM adK2 adV2 0 A s s.heap) {cel : Nat → Cl} {I : Nat → Int} {F : Nat → Int → Int} {i : Int32} {H : Heap} {locs : List Loc} {ls : Array Slot} (hL : L ≤ 3072) (i0 : 0 ≤ i.toInt) (i6 : i.toInt + 6 ≤ (L : Int)) (hB : RelX ad ca cel I F) (hM : MInv I F) (hR : rngS I F) (tail : ∀ (cel : Nat → Cl) (I : Nat → Int) (F : Nat → Int → Int) (H : Heap) (locs : List Loc) (ls : Array Slot), RelX ad ca cel I F → MInv I F → rngS I F → wX D (tC ca ++ tM caM) s (wN NC cel ++ wM h adM caM I F) H A s.heap locs → lv_has ls 4 [(3, .int i), (2, .ref h), (1, .ref (ad 0)), (0, .ref b)] → W p l e room_1 s m #[Value.ref b] below meth c H locs 271 91330 (lw_Z below #[Value.ref b] s) (F0 m 801 ls [])) (Wd : wX D (tC ca ++ tM caM) s (wN NC cel ++ wM h adM caM I F) H A s.heap locs) (hl : lv_has ls 4 [(3, .int i), (2, .ref h), (1, .ref (ad 0)), (0, .ref b)]) : W p l e room_1 s m #[Value.ref b] below meth c H locs 271 91330 (lw_Z below #[Value.ref b] s) (F0 m 246 ls []) := by
  obtain ⟨k1, ek1⟩ : ∃ z : Int32, i + 1 = z := ⟨_, rfl⟩
  have ik1 : k1.toInt = i.toInt + 1 := kz_addc ek1 (by decide) (by omega) (by omega)
  obtain ⟨y1, ey1⟩ : ∃ z : Int32, xs k1.toNatClampNeg = z := ⟨_, rfl⟩
  refine lv_aload_n C.1 C.2.1 dL_law_246 rfl (lv_at hl 2 rfl) ?_
  refine lv_aload_n C.1 C.2.1 dL_law_247 rfl (lv_at hl 3 rfl) ?_
  refine lv_iload_n C.1 C.2.1 dL_law_248 rfl (lv_at hl 0 rfl) ?_
  refine lv_iconst (v := 1) C.1 C.2.1 dL_law_249 (by decide) ?_
  refine k_iadd (v := k1) C ek1 dL_law_250 ?_
  refine k_sld (v := y1) C hX hbl hbA Wd (vp_in_iff.mpr ⟨by omega, by omega⟩) ey1 dL_law_251 ?_
  obtain ⟨fx, ex⟩ := he_7 (M := wM h adM caM I F) hB
  obtain ⟨r0, hc, hm⟩ := b_fault hB hR y1
  refine k_pi (k_runV (rest := []) C aks Wd cs_L_33 (hc l D _) (List.range NC) (ap_l _ _ (wN_len cel)) ndR (List.range NC) (fm_l (tC ca) (tM caM) (tC_len ca)) 0 11 ex rfl rfl rfl rfl ⟨(Nat.le_of_ble_eq_true rfl), (Nat.le_of_ble_eq_true rfl)⟩ hl.1 rfl rfl (Nat.le_of_ble_eq_true rfl) ⟨(Nat.le_of_ble_eq_true rfl), (Nat.le_of_ble_eq_true rfl)⟩ dL_law_252) (fun r1 w1 => ?_)
  have Wd := wl_swap Wd
  refine lv_pop C.1 C.2.1 dL_law_255 rfl ?_
  refine lv_aload_n C.1 C.2.1 dL_law_256 rfl (lv_at hl 1 rfl) ?_
  refine lv_aload_n C.1 C.2.1 dL_law_257 rfl (lv_at hl 3 rfl) ?_
  refine lv_iload_n C.1 C.2.1 dL_law_258 rfl (lv_at hl 0 rfl) ?_
  refine lv_iconst (v := 1) C.1 C.2.1 dL_law_259 (by decide) ?_
  refine k_iadd (v := k1) C ek1 dL_law_260 ?_
  refine k_sld (v := y1) C hX hbl hbA Wd (vp_in_iff.mpr ⟨by omega, by omega⟩) ey1 dL_law_261 ?_
  refine k_pi (k_runV (rest := []) C aks Wd cs_L_36 (hm l D h adM caM _) (List.range 26) (ap_l (wM h adM caM I F) (wN NC cel) rfl) nd_e ((List.range 25).map (fun i => NC + i)) (fm_r (tC ca) (tM caM) (tC_len ca) rfl) 0 12 rfl rfl rfl rfl rfl ⟨(Nat.le_of_ble_eq_true rfl), (Nat.le_of_ble_eq_true rfl)⟩ hl.1 rfl rfl (Nat.le_of_ble_eq_true rfl) ⟨(Nat.le_of_ble_eq_true rfl), (Nat.le_of_ble_eq_true rfl)⟩ dL_law_262) (fun r2 w2 => ?_)
  have Wd := wl_back Wd
  refine lv_pop C.1 C.2.1 dL_law_265 rfl ?_
  refine lv_goto (tgt := 801) C.1 C.2.1 dL_law_266 (by decide) ?_
  exact tail cel I F _ _ _ hB hM hR Wd hl
set_option maxHeartbeats 4000000 in
set_option maxRecDepth 100000 in
theorem law_at {p : Program} {l : Launch} {e : Jvm.Env} {s : State} {m : MethodId} {below : List Frame} {meth : Method} {c : Code} {b L : Nat} {xs : Nat → Int32} {D : va_G} {A : Nat → Prop} {ad : Nat → Nat} {ca : Nat → ClassId} {h : Nat} {adM : Nat → Nat} {caM : Nat → ClassId} {adK adV adK2 adV2 : Nat → Nat} (C : CallFix p m c cL_law 4 s #[Value.ref b] gG RL) (aks : aK s) (hX : va_X b L xs s s.heap) (hbl : b < s.heap.size) (hbA : ¬ A b) (hET : sK RX10 ixT adK adV 0 A s s.heap) (hEM : sK RX12 ixM adK2 adV2 0 A s s.heap) {cel : Nat → Cl} {I : Nat → Int} {F : Nat → Int → Int} {i : Int32} {H : Heap} {locs : List Loc} {ls : Array Slot} (hL : L ≤ 3072) (i0 : 0 ≤ i.toInt) (i6 : i.toInt + 6 ≤ (L : Int)) (hB : RelX ad ca cel I F) (hM : MInv I F) (hR : rngS I F) (tail : ∀ (cel : Nat → Cl) (I : Nat → Int) (F : Nat → Int → Int) (H : Heap) (locs : List Loc) (ls : Array Slot), RelX ad ca cel I F → MInv I F → rngS I F → wX D (tC ca ++ tM caM) s (wN NC cel ++ wM h adM caM I F) H A s.heap locs → lv_has ls 4 [(3, .int i), (2, .ref h), (1, .ref (ad 0)), (0, .ref b)] → W p l e room_1 s m #[Value.ref b] below meth c H locs 271 91330 (lw_Z below #[Value.ref b] s) (F0 m 801 ls [])) (Wd : wX D (tC ca ++ tM caM) s (wN NC cel ++ wM h adM caM I F) H A s.heap locs) (hl : lv_has ls 4 [(3, .int i), (2, .ref h), (1, .ref (ad 0)), (0, .ref b)]) : W p l e room_1 s m #[Value.ref b] below meth c H locs 271 91330 (lw_Z below #[Value.ref b] s) (F0 m 269 ls []) := by
  obtain ⟨k1, ek1⟩ : ∃ z : Int32, i + 1 = z := ⟨_, rfl⟩
  have ik1 : k1.toInt = i.toInt + 1 := kz_addc ek1 (by decide) (by omega) (by omega)
  obtain ⟨y1, ey1⟩ : ∃ z : Int32, xs k1.toNatClampNeg = z := ⟨_, rfl⟩
  obtain ⟨k2, ek2⟩ : ∃ z : Int32, i + 2 = z := ⟨_, rfl⟩
  have ik2 : k2.toInt = i.toInt + 2 := kz_addc ek2 (by decide) (by omega) (by omega)
  obtain ⟨y2, ey2⟩ : ∃ z : Int32, xs k2.toNatClampNeg = z := ⟨_, rfl⟩
  refine lv_aload_n C.1 C.2.1 dL_law_269 rfl (lv_at hl 2 rfl) ?_
  refine lv_aload_n C.1 C.2.1 dL_law_270 rfl (lv_at hl 3 rfl) ?_
  refine lv_iload_n C.1 C.2.1 dL_law_271 rfl (lv_at hl 0 rfl) ?_
  refine lv_iconst (v := 1) C.1 C.2.1 dL_law_272 (by decide) ?_
  refine k_iadd (v := k1) C ek1 dL_law_273 ?_
  refine k_sld (v := y1) C hX hbl hbA Wd (vp_in_iff.mpr ⟨by omega, by omega⟩) ey1 dL_law_274 ?_
  refine lv_aload_n C.1 C.2.1 dL_law_275 rfl (lv_at hl 3 rfl) ?_
  refine lv_iload_n C.1 C.2.1 dL_law_276 rfl (lv_at hl 0 rfl) ?_
  refine lv_iconst (v := 2) C.1 C.2.1 dL_law_277 (by decide) ?_
  refine k_iadd (v := k2) C ek2 dL_law_278 ?_
  refine k_sld (v := y2) C hX hbl hbA Wd (vp_in_iff.mpr ⟨by omega, by omega⟩) ey2 dL_law_279 ?_
  obtain ⟨fx, ex⟩ := he_7 (M := wM h adM caM I F) hB
  obtain ⟨r0, hc, hm⟩ := b_at hB hR y1 y2
  refine k_pi (k_runV (rest := []) C aks Wd cs_L_37 (hc l D _) (List.range NC) (ap_l _ _ (wN_len cel)) ndR (List.range NC) (fm_l (tC ca) (tM caM) (tC_len ca)) 0 11 ex rfl rfl rfl rfl ⟨(Nat.le_of_ble_eq_true rfl), (Nat.le_of_ble_eq_true rfl)⟩ hl.1 rfl rfl (Nat.le_of_ble_eq_true rfl) ⟨(Nat.le_of_ble_eq_true rfl), (Nat.le_of_ble_eq_true rfl)⟩ dL_law_280) (fun r1 w1 => ?_)
  have Wd := wl_swap Wd
  refine lv_pop C.1 C.2.1 dL_law_283 rfl ?_
  refine lv_aload_n C.1 C.2.1 dL_law_284 rfl (lv_at hl 1 rfl) ?_
  refine lv_aload_n C.1 C.2.1 dL_law_285 rfl (lv_at hl 3 rfl) ?_
  refine lv_iload_n C.1 C.2.1 dL_law_286 rfl (lv_at hl 0 rfl) ?_
  refine lv_iconst (v := 1) C.1 C.2.1 dL_law_287 (by decide) ?_
  refine k_iadd (v := k1) C ek1 dL_law_288 ?_
  refine k_sld (v := y1) C hX hbl hbA Wd (vp_in_iff.mpr ⟨by omega, by omega⟩) ey1 dL_law_289 ?_
  refine lv_aload_n C.1 C.2.1 dL_law_290 rfl (lv_at hl 3 rfl) ?_
  refine lv_iload_n C.1 C.2.1 dL_law_291 rfl (lv_at hl 0 rfl) ?_
  refine lv_iconst (v := 2) C.1 C.2.1 dL_law_292 (by decide) ?_
  refine k_iadd (v := k2) C ek2 dL_law_293 ?_
  refine k_sld (v := y2) C hX hbl hbA Wd (vp_in_iff.mpr ⟨by omega, by omega⟩) ey2 dL_law_294 ?_
  refine k_pi (k_runV (rest := []) C aks Wd cs_L_41 (hm l D h adM caM _) (List.range 26) (ap_l (wM h adM caM I F) (wN NC cel) rfl) nd_e ((List.range 25).map (fun i => NC + i)) (fm_r (tC ca) (tM caM) (tC_len ca) rfl) 0 12 rfl rfl rfl rfl rfl ⟨(Nat.le_of_ble_eq_true rfl), (Nat.le_of_ble_eq_true rfl)⟩ hl.1 rfl rfl (Nat.le_of_ble_eq_true rfl) ⟨(Nat.le_of_ble_eq_true rfl), (Nat.le_of_ble_eq_true rfl)⟩ dL_law_295) (fun r2 w2 => ?_)
  have Wd := wl_back Wd
  refine lv_pop C.1 C.2.1 dL_law_298 rfl ?_
  refine lv_goto (tgt := 801) C.1 C.2.1 dL_law_299 (by decide) ?_
  exact tail cel I F _ _ _ hB hM hR Wd hl
set_option maxHeartbeats 4000000 in
set_option maxRecDepth 100000 in
theorem law_size {p : Program} {l : Launch} {e : Jvm.Env} {s : State} {m : MethodId} {below : List Frame} {meth : Method} {c : Code} {b L : Nat} {xs : Nat → Int32} {D : va_G} {A : Nat → Prop} {ad : Nat → Nat} {ca : Nat → ClassId} {h : Nat} {adM : Nat → Nat} {caM : Nat → ClassId} {adK adV adK2 adV2 : Nat → Nat} (C : CallFix p m c cL_law 4 s #[Value.ref b] gG RL) (aks : aK s) (hX : va_X b L xs s s.heap) (hbl : b < s.heap.size) (hbA : ¬ A b) (hET : sK RX10 ixT adK adV 0 A s s.heap) (hEM : sK RX12 ixM adK2 adV2 0 A s s.heap) {cel : Nat → Cl} {I : Nat → Int} {F : Nat → Int → Int} {i : Int32} {H : Heap} {locs : List Loc} {ls : Array Slot} (hL : L ≤ 3072) (i0 : 0 ≤ i.toInt) (i6 : i.toInt + 6 ≤ (L : Int)) (hB : RelX ad ca cel I F) (hM : MInv I F) (hR : rngS I F) (tail : ∀ (cel : Nat → Cl) (I : Nat → Int) (F : Nat → Int → Int) (H : Heap) (locs : List Loc) (ls : Array Slot), RelX ad ca cel I F → MInv I F → rngS I F → wX D (tC ca ++ tM caM) s (wN NC cel ++ wM h adM caM I F) H A s.heap locs → lv_has ls 4 [(3, .int i), (2, .ref h), (1, .ref (ad 0)), (0, .ref b)] → W p l e room_1 s m #[Value.ref b] below meth c H locs 271 91330 (lw_Z below #[Value.ref b] s) (F0 m 801 ls [])) (Wd : wX D (tC ca ++ tM caM) s (wN NC cel ++ wM h adM caM I F) H A s.heap locs) (hl : lv_has ls 4 [(3, .int i), (2, .ref h), (1, .ref (ad 0)), (0, .ref b)]) : W p l e room_1 s m #[Value.ref b] below meth c H locs 271 91330 (lw_Z below #[Value.ref b] s) (F0 m 302 ls []) := by
  obtain ⟨k1, ek1⟩ : ∃ z : Int32, i + 1 = z := ⟨_, rfl⟩
  have ik1 : k1.toInt = i.toInt + 1 := kz_addc ek1 (by decide) (by omega) (by omega)
  obtain ⟨y1, ey1⟩ : ∃ z : Int32, xs k1.toNatClampNeg = z := ⟨_, rfl⟩
  obtain ⟨k2, ek2⟩ : ∃ z : Int32, i + 2 = z := ⟨_, rfl⟩
  have ik2 : k2.toInt = i.toInt + 2 := kz_addc ek2 (by decide) (by omega) (by omega)
  obtain ⟨y2, ey2⟩ : ∃ z : Int32, xs k2.toNatClampNeg = z := ⟨_, rfl⟩
  refine lv_aload_n C.1 C.2.1 dL_law_302 rfl (lv_at hl 2 rfl) ?_
  refine lv_aload_n C.1 C.2.1 dL_law_303 rfl (lv_at hl 3 rfl) ?_
  refine lv_iload_n C.1 C.2.1 dL_law_304 rfl (lv_at hl 0 rfl) ?_
  refine lv_iconst (v := 1) C.1 C.2.1 dL_law_305 (by decide) ?_
  refine k_iadd (v := k1) C ek1 dL_law_306 ?_
  refine k_sld (v := y1) C hX hbl hbA Wd (vp_in_iff.mpr ⟨by omega, by omega⟩) ey1 dL_law_307 ?_
  refine lv_aload_n C.1 C.2.1 dL_law_308 rfl (lv_at hl 3 rfl) ?_
  refine lv_iload_n C.1 C.2.1 dL_law_309 rfl (lv_at hl 0 rfl) ?_
  refine lv_iconst (v := 2) C.1 C.2.1 dL_law_310 (by decide) ?_
  refine k_iadd (v := k2) C ek2 dL_law_311 ?_
  refine k_sld (v := y2) C hX hbl hbA Wd (vp_in_iff.mpr ⟨by omega, by omega⟩) ey2 dL_law_312 ?_
  obtain ⟨fx, ex⟩ := he_7 (M := wM h adM caM I F) hB
  obtain ⟨Q0, R0, hc, hm, hrel⟩ := b_size hB hR y1 y2
  refine kl_cx (Rp := fun r c' => Q0 r c') Wd (k_runV (rest := []) C aks Wd cs_L_42 (hc l D _) (List.range NC) (ap_l _ _ (wN_len cel)) ndR (List.range NC) (fm_l (tC ca) (tM caM) (tC_len ca)) 0 11 ex rfl rfl rfl rfl ⟨(Nat.le_of_ble_eq_true rfl), (Nat.le_of_ble_eq_true rfl)⟩ hl.1 rfl rfl (Nat.le_of_ble_eq_true rfl) ⟨(Nat.le_of_ble_eq_true rfl), (Nat.le_of_ble_eq_true rfl)⟩ dL_law_313) (fun r1 cel1 H locs w1 Wd => ?_)
  refine lv_pop C.1 C.2.1 dL_law_316 rfl ?_
  refine lv_aload_n C.1 C.2.1 dL_law_317 rfl (lv_at hl 1 rfl) ?_
  refine lv_aload_n C.1 C.2.1 dL_law_318 rfl (lv_at hl 3 rfl) ?_
  refine lv_iload_n C.1 C.2.1 dL_law_319 rfl (lv_at hl 0 rfl) ?_
  refine lv_iconst (v := 1) C.1 C.2.1 dL_law_320 (by decide) ?_
  refine k_iadd (v := k1) C ek1 dL_law_321 ?_
  refine k_sld (v := y1) C hX hbl hbA Wd (vp_in_iff.mpr ⟨by omega, by omega⟩) ey1 dL_law_322 ?_
  refine lv_aload_n C.1 C.2.1 dL_law_323 rfl (lv_at hl 3 rfl) ?_
  refine lv_iload_n C.1 C.2.1 dL_law_324 rfl (lv_at hl 0 rfl) ?_
  refine lv_iconst (v := 2) C.1 C.2.1 dL_law_325 (by decide) ?_
  refine k_iadd (v := k2) C ek2 dL_law_326 ?_
  refine k_sld (v := y2) C hX hbl hbA Wd (vp_in_iff.mpr ⟨by omega, by omega⟩) ey2 dL_law_327 ?_
  refine kl_cm (Rp := fun r u => R0 r u.1 u.2) Wd (k_runV (rest := []) C aks Wd cs_L_45 (hm l D h adM caM _) (List.range 26) (ap_l (wM h adM caM I F) (wN NC cel1) rfl) nd_e ((List.range 25).map (fun i => NC + i)) (fm_r (tC ca) (tM caM) (tC_len ca) rfl) 0 12 rfl rfl rfl rfl rfl ⟨(Nat.le_of_ble_eq_true rfl), (Nat.le_of_ble_eq_true rfl)⟩ hl.1 rfl rfl (Nat.le_of_ble_eq_true rfl) ⟨(Nat.le_of_ble_eq_true rfl), (Nat.le_of_ble_eq_true rfl)⟩ dL_law_328) (fun r2 I1 F1 H locs w2 hM hR Wd => ?_)
  have hrl := hrel _ _ _ _ _ w1 w2
  have hB : RelX ad ca cel1 I1 F1 := hrl.2
  refine lv_pop C.1 C.2.1 dL_law_331 rfl ?_
  refine lv_goto (tgt := 801) C.1 C.2.1 dL_law_332 (by decide) ?_
  exact tail cel1 I1 F1 _ _ _ hB hM hR Wd hl
set_option maxHeartbeats 4000000 in
set_option maxRecDepth 100000 in
theorem law_run {p : Program} {l : Launch} {e : Jvm.Env} {s : State} {m : MethodId} {below : List Frame} {meth : Method} {c : Code} {b L : Nat} {xs : Nat → Int32} {D : va_G} {A : Nat → Prop} {ad : Nat → Nat} {ca : Nat → ClassId} {h : Nat} {adM : Nat → Nat} {caM : Nat → ClassId} {adK adV adK2 adV2 : Nat → Nat} (C : CallFix p m c cL_law 4 s #[Value.ref b] gG RL) (aks : aK s) (hX : va_X b L xs s s.heap) (hbl : b < s.heap.size) (hbA : ¬ A b) (hET : sK RX10 ixT adK adV 0 A s s.heap) (hEM : sK RX12 ixM adK2 adV2 0 A s s.heap) {cel : Nat → Cl} {I : Nat → Int} {F : Nat → Int → Int} {i : Int32} {H : Heap} {locs : List Loc} {ls : Array Slot} (hL : L ≤ 3072) (i0 : 0 ≤ i.toInt) (i6 : i.toInt + 6 ≤ (L : Int)) (hB : RelX ad ca cel I F) (hM : MInv I F) (hR : rngS I F) (tail : ∀ (cel : Nat → Cl) (I : Nat → Int) (F : Nat → Int → Int) (H : Heap) (locs : List Loc) (ls : Array Slot), RelX ad ca cel I F → MInv I F → rngS I F → wX D (tC ca ++ tM caM) s (wN NC cel ++ wM h adM caM I F) H A s.heap locs → lv_has ls 4 [(3, .int i), (2, .ref h), (1, .ref (ad 0)), (0, .ref b)] → W p l e room_1 s m #[Value.ref b] below meth c H locs 271 91330 (lw_Z below #[Value.ref b] s) (F0 m 801 ls [])) (Wd : wX D (tC ca ++ tM caM) s (wN NC cel ++ wM h adM caM I F) H A s.heap locs) (hl : lv_has ls 4 [(3, .int i), (2, .ref h), (1, .ref (ad 0)), (0, .ref b)]) : W p l e room_1 s m #[Value.ref b] below meth c H locs 271 91330 (lw_Z below #[Value.ref b] s) (F0 m 335 ls []) := by
  obtain ⟨k1, ek1⟩ : ∃ z : Int32, i + 1 = z := ⟨_, rfl⟩
  have ik1 : k1.toInt = i.toInt + 1 := kz_addc ek1 (by decide) (by omega) (by omega)
  obtain ⟨y1, ey1⟩ : ∃ z : Int32, xs k1.toNatClampNeg = z := ⟨_, rfl⟩
  obtain ⟨k2, ek2⟩ : ∃ z : Int32, i + 2 = z := ⟨_, rfl⟩
  have ik2 : k2.toInt = i.toInt + 2 := kz_addc ek2 (by decide) (by omega) (by omega)
  obtain ⟨y2, ey2⟩ : ∃ z : Int32, xs k2.toNatClampNeg = z := ⟨_, rfl⟩
  obtain ⟨k3, ek3⟩ : ∃ z : Int32, i + 3 = z := ⟨_, rfl⟩
  have ik3 : k3.toInt = i.toInt + 3 := kz_addc ek3 (by decide) (by omega) (by omega)
  obtain ⟨y3, ey3⟩ : ∃ z : Int32, xs k3.toNatClampNeg = z := ⟨_, rfl⟩
  obtain ⟨k4, ek4⟩ : ∃ z : Int32, i + 4 = z := ⟨_, rfl⟩
  have ik4 : k4.toInt = i.toInt + 4 := kz_addc ek4 (by decide) (by omega) (by omega)
  obtain ⟨y4, ey4⟩ : ∃ z : Int32, xs k4.toNatClampNeg = z := ⟨_, rfl⟩
  refine lv_aload_n C.1 C.2.1 dL_law_335 rfl (lv_at hl 2 rfl) ?_
  refine lv_aload_n C.1 C.2.1 dL_law_336 rfl (lv_at hl 3 rfl) ?_
  refine lv_iload_n C.1 C.2.1 dL_law_337 rfl (lv_at hl 0 rfl) ?_
  refine lv_iconst (v := 1) C.1 C.2.1 dL_law_338 (by decide) ?_
  refine k_iadd (v := k1) C ek1 dL_law_339 ?_
  refine k_sld (v := y1) C hX hbl hbA Wd (vp_in_iff.mpr ⟨by omega, by omega⟩) ey1 dL_law_340 ?_
  refine lv_aload_n C.1 C.2.1 dL_law_341 rfl (lv_at hl 3 rfl) ?_
  refine lv_iload_n C.1 C.2.1 dL_law_342 rfl (lv_at hl 0 rfl) ?_
  refine lv_iconst (v := 2) C.1 C.2.1 dL_law_343 (by decide) ?_
  refine k_iadd (v := k2) C ek2 dL_law_344 ?_
  refine k_sld (v := y2) C hX hbl hbA Wd (vp_in_iff.mpr ⟨by omega, by omega⟩) ey2 dL_law_345 ?_
  refine lv_aload_n C.1 C.2.1 dL_law_346 rfl (lv_at hl 3 rfl) ?_
  refine lv_iload_n C.1 C.2.1 dL_law_347 rfl (lv_at hl 0 rfl) ?_
  refine lv_iconst (v := 3) C.1 C.2.1 dL_law_348 (by decide) ?_
  refine k_iadd (v := k3) C ek3 dL_law_349 ?_
  refine k_sld (v := y3) C hX hbl hbA Wd (vp_in_iff.mpr ⟨by omega, by omega⟩) ey3 dL_law_350 ?_
  refine lv_aload_n C.1 C.2.1 dL_law_351 rfl (lv_at hl 3 rfl) ?_
  refine lv_iload_n C.1 C.2.1 dL_law_352 rfl (lv_at hl 0 rfl) ?_
  refine lv_iconst (v := 4) C.1 C.2.1 dL_law_353 (by decide) ?_
  refine k_iadd (v := k4) C ek4 dL_law_354 ?_
  refine k_sld (v := y4) C hX hbl hbA Wd (vp_in_iff.mpr ⟨by omega, by omega⟩) ey4 dL_law_355 ?_
  obtain ⟨fx, ex⟩ := he_7 (M := wM h adM caM I F) hB
  obtain ⟨Q0, R0, hc, hm, hrel⟩ := b_run hB hR y1 y2 y3 y4
  refine kl_cx (Rp := fun r c' => Q0 r c') Wd (k_runV (rest := []) C aks Wd cs_L_46 (hc l D _) (List.range NC) (ap_l _ _ (wN_len cel)) ndR (List.range NC) (fm_l (tC ca) (tM caM) (tC_len ca)) 0 11 ex rfl rfl rfl rfl ⟨(Nat.le_of_ble_eq_true rfl), (Nat.le_of_ble_eq_true rfl)⟩ hl.1 rfl rfl (Nat.le_of_ble_eq_true rfl) ⟨(Nat.le_of_ble_eq_true rfl), (Nat.le_of_ble_eq_true rfl)⟩ dL_law_356) (fun r1 cel1 H locs w1 Wd => ?_)
  refine lv_pop C.1 C.2.1 dL_law_359 rfl ?_
  refine lv_aload_n C.1 C.2.1 dL_law_360 rfl (lv_at hl 1 rfl) ?_
  refine lv_aload_n C.1 C.2.1 dL_law_361 rfl (lv_at hl 3 rfl) ?_
  refine lv_iload_n C.1 C.2.1 dL_law_362 rfl (lv_at hl 0 rfl) ?_
  refine lv_iconst (v := 1) C.1 C.2.1 dL_law_363 (by decide) ?_
  refine k_iadd (v := k1) C ek1 dL_law_364 ?_
  refine k_sld (v := y1) C hX hbl hbA Wd (vp_in_iff.mpr ⟨by omega, by omega⟩) ey1 dL_law_365 ?_
  refine lv_aload_n C.1 C.2.1 dL_law_366 rfl (lv_at hl 3 rfl) ?_
  refine lv_iload_n C.1 C.2.1 dL_law_367 rfl (lv_at hl 0 rfl) ?_
  refine lv_iconst (v := 2) C.1 C.2.1 dL_law_368 (by decide) ?_
  refine k_iadd (v := k2) C ek2 dL_law_369 ?_
  refine k_sld (v := y2) C hX hbl hbA Wd (vp_in_iff.mpr ⟨by omega, by omega⟩) ey2 dL_law_370 ?_
  refine lv_aload_n C.1 C.2.1 dL_law_371 rfl (lv_at hl 3 rfl) ?_
  refine lv_iload_n C.1 C.2.1 dL_law_372 rfl (lv_at hl 0 rfl) ?_
  refine lv_iconst (v := 3) C.1 C.2.1 dL_law_373 (by decide) ?_
  refine k_iadd (v := k3) C ek3 dL_law_374 ?_
  refine k_sld (v := y3) C hX hbl hbA Wd (vp_in_iff.mpr ⟨by omega, by omega⟩) ey3 dL_law_375 ?_
  refine lv_aload_n C.1 C.2.1 dL_law_376 rfl (lv_at hl 3 rfl) ?_
  refine lv_iload_n C.1 C.2.1 dL_law_377 rfl (lv_at hl 0 rfl) ?_
  refine lv_iconst (v := 4) C.1 C.2.1 dL_law_378 (by decide) ?_
  refine k_iadd (v := k4) C ek4 dL_law_379 ?_
  refine k_sld (v := y4) C hX hbl hbA Wd (vp_in_iff.mpr ⟨by omega, by omega⟩) ey4 dL_law_380 ?_
  refine kl_cm (Rp := fun r u => R0 r u.1 u.2) Wd (k_runV (rest := []) C aks Wd cs_L_50 (hm l D h adM caM _) (List.range 26) (ap_l (wM h adM caM I F) (wN NC cel1) rfl) nd_e ((List.range 25).map (fun i => NC + i)) (fm_r (tC ca) (tM caM) (tC_len ca) rfl) 0 12 rfl rfl rfl rfl rfl ⟨(Nat.le_of_ble_eq_true rfl), (Nat.le_of_ble_eq_true rfl)⟩ hl.1 rfl rfl (Nat.le_of_ble_eq_true rfl) ⟨(Nat.le_of_ble_eq_true rfl), (Nat.le_of_ble_eq_true rfl)⟩ dL_law_381) (fun r2 I1 F1 H locs w2 hM hR Wd => ?_)
  have hrl := hrel _ _ _ _ _ w1 w2
  have hB : RelX ad ca cel1 I1 F1 := hrl.2
  refine lv_pop C.1 C.2.1 dL_law_384 rfl ?_
  refine lv_goto (tgt := 801) C.1 C.2.1 dL_law_385 (by decide) ?_
  exact tail cel1 I1 F1 _ _ _ hB hM hR Wd hl
set_option maxHeartbeats 4000000 in
set_option maxRecDepth 100000 in
theorem law_judge {p : Program} {l : Launch} {e : Jvm.Env} {s : State} {m : MethodId} {below : List Frame} {meth : Method} {c : Code} {b L : Nat} {xs : Nat → Int32} {D : va_G} {A : Nat → Prop} {ad : Nat → Nat} {ca : Nat → ClassId} {h : Nat} {adM : Nat → Nat} {caM : Nat → ClassId} {adK adV adK2 adV2 : Nat → Nat} (C : CallFix p m c cL_law 4 s #[Value.ref b] gG RL) (aks : aK s) (hX : va_X b L xs s s.heap) (hbl : b < s.heap.size) (hbA : ¬ A b) (hET : sK RX10 ixT adK adV 0 A s s.heap) (hEM : sK RX12 ixM adK2 adV2 0 A s s.heap) {cel : Nat → Cl} {I : Nat → Int} {F : Nat → Int → Int} {i : Int32} {H : Heap} {locs : List Loc} {ls : Array Slot} (hL : L ≤ 3072) (i0 : 0 ≤ i.toInt) (i6 : i.toInt + 6 ≤ (L : Int)) (hB : RelX ad ca cel I F) (hM : MInv I F) (hR : rngS I F) (tail : ∀ (cel : Nat → Cl) (I : Nat → Int) (F : Nat → Int → Int) (H : Heap) (locs : List Loc) (ls : Array Slot), RelX ad ca cel I F → MInv I F → rngS I F → wX D (tC ca ++ tM caM) s (wN NC cel ++ wM h adM caM I F) H A s.heap locs → lv_has ls 4 [(3, .int i), (2, .ref h), (1, .ref (ad 0)), (0, .ref b)] → W p l e room_1 s m #[Value.ref b] below meth c H locs 271 91330 (lw_Z below #[Value.ref b] s) (F0 m 801 ls [])) (Wd : wX D (tC ca ++ tM caM) s (wN NC cel ++ wM h adM caM I F) H A s.heap locs) (hl : lv_has ls 4 [(3, .int i), (2, .ref h), (1, .ref (ad 0)), (0, .ref b)]) : W p l e room_1 s m #[Value.ref b] below meth c H locs 271 91330 (lw_Z below #[Value.ref b] s) (F0 m 388 ls []) := by
  obtain ⟨k1, ek1⟩ : ∃ z : Int32, i + 1 = z := ⟨_, rfl⟩
  have ik1 : k1.toInt = i.toInt + 1 := kz_addc ek1 (by decide) (by omega) (by omega)
  obtain ⟨y1, ey1⟩ : ∃ z : Int32, xs k1.toNatClampNeg = z := ⟨_, rfl⟩
  obtain ⟨k2, ek2⟩ : ∃ z : Int32, i + 2 = z := ⟨_, rfl⟩
  have ik2 : k2.toInt = i.toInt + 2 := kz_addc ek2 (by decide) (by omega) (by omega)
  obtain ⟨y2, ey2⟩ : ∃ z : Int32, xs k2.toNatClampNeg = z := ⟨_, rfl⟩
  obtain ⟨k3, ek3⟩ : ∃ z : Int32, i + 3 = z := ⟨_, rfl⟩
  have ik3 : k3.toInt = i.toInt + 3 := kz_addc ek3 (by decide) (by omega) (by omega)
  obtain ⟨y3, ey3⟩ : ∃ z : Int32, xs k3.toNatClampNeg = z := ⟨_, rfl⟩
  refine lv_aload_n C.1 C.2.1 dL_law_388 rfl (lv_at hl 2 rfl) ?_
  refine lv_aload_n C.1 C.2.1 dL_law_389 rfl (lv_at hl 3 rfl) ?_
  refine lv_iload_n C.1 C.2.1 dL_law_390 rfl (lv_at hl 0 rfl) ?_
  refine lv_iconst (v := 1) C.1 C.2.1 dL_law_391 (by decide) ?_
  refine k_iadd (v := k1) C ek1 dL_law_392 ?_
  refine k_sld (v := y1) C hX hbl hbA Wd (vp_in_iff.mpr ⟨by omega, by omega⟩) ey1 dL_law_393 ?_
  refine lv_aload_n C.1 C.2.1 dL_law_394 rfl (lv_at hl 3 rfl) ?_
  refine lv_iload_n C.1 C.2.1 dL_law_395 rfl (lv_at hl 0 rfl) ?_
  refine lv_iconst (v := 2) C.1 C.2.1 dL_law_396 (by decide) ?_
  refine k_iadd (v := k2) C ek2 dL_law_397 ?_
  refine k_sld (v := y2) C hX hbl hbA Wd (vp_in_iff.mpr ⟨by omega, by omega⟩) ey2 dL_law_398 ?_
  refine lv_aload_n C.1 C.2.1 dL_law_399 rfl (lv_at hl 3 rfl) ?_
  refine lv_iload_n C.1 C.2.1 dL_law_400 rfl (lv_at hl 0 rfl) ?_
  refine lv_iconst (v := 3) C.1 C.2.1 dL_law_401 (by decide) ?_
  refine k_iadd (v := k3) C ek3 dL_law_402 ?_
  refine k_sld (v := y3) C hX hbl hbA Wd (vp_in_iff.mpr ⟨by omega, by omega⟩) ey3 dL_law_403 ?_
  obtain ⟨fx, ex⟩ := he_7 (M := wM h adM caM I F) hB
  obtain ⟨Q0, R0, hc, hm, hrel⟩ := b_judge hB hR y1 y2 y3
  refine kl_cx (Rp := fun r c' => Q0 r c') Wd (k_runV (rest := []) C aks Wd cs_L_51 (hc l D _) (List.range NC) (ap_l _ _ (wN_len cel)) ndR (List.range NC) (fm_l (tC ca) (tM caM) (tC_len ca)) 0 11 ex rfl rfl rfl rfl ⟨(Nat.le_of_ble_eq_true rfl), (Nat.le_of_ble_eq_true rfl)⟩ hl.1 rfl rfl (Nat.le_of_ble_eq_true rfl) ⟨(Nat.le_of_ble_eq_true rfl), (Nat.le_of_ble_eq_true rfl)⟩ dL_law_404) (fun r1 cel1 H locs w1 Wd => ?_)
  refine lv_pop C.1 C.2.1 dL_law_407 rfl ?_
  refine lv_aload_n C.1 C.2.1 dL_law_408 rfl (lv_at hl 1 rfl) ?_
  refine lv_aload_n C.1 C.2.1 dL_law_409 rfl (lv_at hl 3 rfl) ?_
  refine lv_iload_n C.1 C.2.1 dL_law_410 rfl (lv_at hl 0 rfl) ?_
  refine lv_iconst (v := 1) C.1 C.2.1 dL_law_411 (by decide) ?_
  refine k_iadd (v := k1) C ek1 dL_law_412 ?_
  refine k_sld (v := y1) C hX hbl hbA Wd (vp_in_iff.mpr ⟨by omega, by omega⟩) ey1 dL_law_413 ?_
  refine lv_aload_n C.1 C.2.1 dL_law_414 rfl (lv_at hl 3 rfl) ?_
  refine lv_iload_n C.1 C.2.1 dL_law_415 rfl (lv_at hl 0 rfl) ?_
  refine lv_iconst (v := 2) C.1 C.2.1 dL_law_416 (by decide) ?_
  refine k_iadd (v := k2) C ek2 dL_law_417 ?_
  refine k_sld (v := y2) C hX hbl hbA Wd (vp_in_iff.mpr ⟨by omega, by omega⟩) ey2 dL_law_418 ?_
  refine lv_aload_n C.1 C.2.1 dL_law_419 rfl (lv_at hl 3 rfl) ?_
  refine lv_iload_n C.1 C.2.1 dL_law_420 rfl (lv_at hl 0 rfl) ?_
  refine lv_iconst (v := 3) C.1 C.2.1 dL_law_421 (by decide) ?_
  refine k_iadd (v := k3) C ek3 dL_law_422 ?_
  refine k_sld (v := y3) C hX hbl hbA Wd (vp_in_iff.mpr ⟨by omega, by omega⟩) ey3 dL_law_423 ?_
  refine kl_cm (Rp := fun r u => R0 r u.1 u.2) Wd (k_runV (rest := []) C aks Wd cs_L_55 (hm l D h adM caM _) (List.range 26) (ap_l (wM h adM caM I F) (wN NC cel1) rfl) nd_e ((List.range 25).map (fun i => NC + i)) (fm_r (tC ca) (tM caM) (tC_len ca) rfl) 0 12 rfl rfl rfl rfl rfl ⟨(Nat.le_of_ble_eq_true rfl), (Nat.le_of_ble_eq_true rfl)⟩ hl.1 rfl rfl (Nat.le_of_ble_eq_true rfl) ⟨(Nat.le_of_ble_eq_true rfl), (Nat.le_of_ble_eq_true rfl)⟩ dL_law_424) (fun r2 I1 F1 H locs w2 hM hR Wd => ?_)
  have hrl := hrel _ _ _ _ _ w1 w2
  have hB : RelX ad ca cel1 I1 F1 := hrl.2
  refine lv_pop C.1 C.2.1 dL_law_427 rfl ?_
  refine lv_goto (tgt := 801) C.1 C.2.1 dL_law_428 (by decide) ?_
  exact tail cel1 I1 F1 _ _ _ hB hM hR Wd hl
set_option maxHeartbeats 4000000 in
set_option maxRecDepth 100000 in
theorem law_ruleOf {p : Program} {l : Launch} {e : Jvm.Env} {s : State} {m : MethodId} {below : List Frame} {meth : Method} {c : Code} {b L : Nat} {xs : Nat → Int32} {D : va_G} {A : Nat → Prop} {ad : Nat → Nat} {ca : Nat → ClassId} {h : Nat} {adM : Nat → Nat} {caM : Nat → ClassId} {adK adV adK2 adV2 : Nat → Nat} (C : CallFix p m c cL_law 4 s #[Value.ref b] gG RL) (aks : aK s) (hX : va_X b L xs s s.heap) (hbl : b < s.heap.size) (hbA : ¬ A b) (hET : sK RX10 ixT adK adV 0 A s s.heap) (hEM : sK RX12 ixM adK2 adV2 0 A s s.heap) {cel : Nat → Cl} {I : Nat → Int} {F : Nat → Int → Int} {i : Int32} {H : Heap} {locs : List Loc} {ls : Array Slot} (hL : L ≤ 3072) (i0 : 0 ≤ i.toInt) (i6 : i.toInt + 6 ≤ (L : Int)) (hB : RelX ad ca cel I F) (hM : MInv I F) (hR : rngS I F) (tail : ∀ (cel : Nat → Cl) (I : Nat → Int) (F : Nat → Int → Int) (H : Heap) (locs : List Loc) (ls : Array Slot), RelX ad ca cel I F → MInv I F → rngS I F → wX D (tC ca ++ tM caM) s (wN NC cel ++ wM h adM caM I F) H A s.heap locs → lv_has ls 4 [(3, .int i), (2, .ref h), (1, .ref (ad 0)), (0, .ref b)] → W p l e room_1 s m #[Value.ref b] below meth c H locs 271 91330 (lw_Z below #[Value.ref b] s) (F0 m 801 ls [])) (Wd : wX D (tC ca ++ tM caM) s (wN NC cel ++ wM h adM caM I F) H A s.heap locs) (hl : lv_has ls 4 [(3, .int i), (2, .ref h), (1, .ref (ad 0)), (0, .ref b)]) : W p l e room_1 s m #[Value.ref b] below meth c H locs 271 91330 (lw_Z below #[Value.ref b] s) (F0 m 431 ls []) := by
  obtain ⟨k1, ek1⟩ : ∃ z : Int32, i + 1 = z := ⟨_, rfl⟩
  have ik1 : k1.toInt = i.toInt + 1 := kz_addc ek1 (by decide) (by omega) (by omega)
  obtain ⟨y1, ey1⟩ : ∃ z : Int32, xs k1.toNatClampNeg = z := ⟨_, rfl⟩
  obtain ⟨k2, ek2⟩ : ∃ z : Int32, i + 2 = z := ⟨_, rfl⟩
  have ik2 : k2.toInt = i.toInt + 2 := kz_addc ek2 (by decide) (by omega) (by omega)
  obtain ⟨y2, ey2⟩ : ∃ z : Int32, xs k2.toNatClampNeg = z := ⟨_, rfl⟩
  refine lv_aload_n C.1 C.2.1 dL_law_431 rfl (lv_at hl 2 rfl) ?_
  refine lv_aload_n C.1 C.2.1 dL_law_432 rfl (lv_at hl 3 rfl) ?_
  refine lv_iload_n C.1 C.2.1 dL_law_433 rfl (lv_at hl 0 rfl) ?_
  refine lv_iconst (v := 1) C.1 C.2.1 dL_law_434 (by decide) ?_
  refine k_iadd (v := k1) C ek1 dL_law_435 ?_
  refine k_sld (v := y1) C hX hbl hbA Wd (vp_in_iff.mpr ⟨by omega, by omega⟩) ey1 dL_law_436 ?_
  refine lv_aload_n C.1 C.2.1 dL_law_437 rfl (lv_at hl 3 rfl) ?_
  refine lv_iload_n C.1 C.2.1 dL_law_438 rfl (lv_at hl 0 rfl) ?_
  refine lv_iconst (v := 2) C.1 C.2.1 dL_law_439 (by decide) ?_
  refine k_iadd (v := k2) C ek2 dL_law_440 ?_
  refine k_sld (v := y2) C hX hbl hbA Wd (vp_in_iff.mpr ⟨by omega, by omega⟩) ey2 dL_law_441 ?_
  obtain ⟨fx, ex⟩ := he_7 (M := wM h adM caM I F) hB
  obtain ⟨Q0, R0, hc, hm, hrel⟩ := b_ruleOf hB hR y1 y2
  refine kl_cx (Rp := fun r c' => Q0 r c') Wd (k_runV (rest := []) C aks Wd cs_L_56 (hc l D _) (List.range NC) (ap_l _ _ (wN_len cel)) ndR (List.range NC) (fm_l (tC ca) (tM caM) (tC_len ca)) 0 11 ex rfl rfl rfl rfl ⟨(Nat.le_of_ble_eq_true rfl), (Nat.le_of_ble_eq_true rfl)⟩ hl.1 rfl rfl (Nat.le_of_ble_eq_true rfl) ⟨(Nat.le_of_ble_eq_true rfl), (Nat.le_of_ble_eq_true rfl)⟩ dL_law_442) (fun r1 cel1 H locs w1 Wd => ?_)
  refine lv_pop C.1 C.2.1 dL_law_445 rfl ?_
  refine lv_aload_n C.1 C.2.1 dL_law_446 rfl (lv_at hl 1 rfl) ?_
  refine lv_aload_n C.1 C.2.1 dL_law_447 rfl (lv_at hl 3 rfl) ?_
  refine lv_iload_n C.1 C.2.1 dL_law_448 rfl (lv_at hl 0 rfl) ?_
  refine lv_iconst (v := 1) C.1 C.2.1 dL_law_449 (by decide) ?_
  refine k_iadd (v := k1) C ek1 dL_law_450 ?_
  refine k_sld (v := y1) C hX hbl hbA Wd (vp_in_iff.mpr ⟨by omega, by omega⟩) ey1 dL_law_451 ?_
  refine lv_aload_n C.1 C.2.1 dL_law_452 rfl (lv_at hl 3 rfl) ?_
  refine lv_iload_n C.1 C.2.1 dL_law_453 rfl (lv_at hl 0 rfl) ?_
  refine lv_iconst (v := 2) C.1 C.2.1 dL_law_454 (by decide) ?_
  refine k_iadd (v := k2) C ek2 dL_law_455 ?_
  refine k_sld (v := y2) C hX hbl hbA Wd (vp_in_iff.mpr ⟨by omega, by omega⟩) ey2 dL_law_456 ?_
  refine kl_cm (Rp := fun r u => R0 r u.1 u.2) Wd (k_runV (rest := []) C aks Wd cs_L_59 (hm l D h adM caM _) (List.range 26) (ap_l (wM h adM caM I F) (wN NC cel1) rfl) nd_e ((List.range 25).map (fun i => NC + i)) (fm_r (tC ca) (tM caM) (tC_len ca) rfl) 0 12 rfl rfl rfl rfl rfl ⟨(Nat.le_of_ble_eq_true rfl), (Nat.le_of_ble_eq_true rfl)⟩ hl.1 rfl rfl (Nat.le_of_ble_eq_true rfl) ⟨(Nat.le_of_ble_eq_true rfl), (Nat.le_of_ble_eq_true rfl)⟩ dL_law_457) (fun r2 I1 F1 H locs w2 hM hR Wd => ?_)
  have hrl := hrel _ _ _ _ _ w1 w2
  have hB : RelX ad ca cel1 I1 F1 := hrl
  refine lv_pop C.1 C.2.1 dL_law_460 rfl ?_
  refine lv_goto (tgt := 801) C.1 C.2.1 dL_law_461 (by decide) ?_
  exact tail cel1 I1 F1 _ _ _ hB hM hR Wd hl
set_option maxHeartbeats 4000000 in
set_option maxRecDepth 100000 in
theorem law_places {p : Program} {l : Launch} {e : Jvm.Env} {s : State} {m : MethodId} {below : List Frame} {meth : Method} {c : Code} {b L : Nat} {xs : Nat → Int32} {D : va_G} {A : Nat → Prop} {ad : Nat → Nat} {ca : Nat → ClassId} {h : Nat} {adM : Nat → Nat} {caM : Nat → ClassId} {adK adV adK2 adV2 : Nat → Nat} (C : CallFix p m c cL_law 4 s #[Value.ref b] gG RL) (aks : aK s) (hX : va_X b L xs s s.heap) (hbl : b < s.heap.size) (hbA : ¬ A b) (hET : sK RX10 ixT adK adV 0 A s s.heap) (hEM : sK RX12 ixM adK2 adV2 0 A s s.heap) {cel : Nat → Cl} {I : Nat → Int} {F : Nat → Int → Int} {i : Int32} {H : Heap} {locs : List Loc} {ls : Array Slot} (hL : L ≤ 3072) (i0 : 0 ≤ i.toInt) (i6 : i.toInt + 6 ≤ (L : Int)) (hB : RelX ad ca cel I F) (hM : MInv I F) (hR : rngS I F) (tail : ∀ (cel : Nat → Cl) (I : Nat → Int) (F : Nat → Int → Int) (H : Heap) (locs : List Loc) (ls : Array Slot), RelX ad ca cel I F → MInv I F → rngS I F → wX D (tC ca ++ tM caM) s (wN NC cel ++ wM h adM caM I F) H A s.heap locs → lv_has ls 4 [(3, .int i), (2, .ref h), (1, .ref (ad 0)), (0, .ref b)] → W p l e room_1 s m #[Value.ref b] below meth c H locs 271 91330 (lw_Z below #[Value.ref b] s) (F0 m 801 ls [])) (Wd : wX D (tC ca ++ tM caM) s (wN NC cel ++ wM h adM caM I F) H A s.heap locs) (hl : lv_has ls 4 [(3, .int i), (2, .ref h), (1, .ref (ad 0)), (0, .ref b)]) : W p l e room_1 s m #[Value.ref b] below meth c H locs 271 91330 (lw_Z below #[Value.ref b] s) (F0 m 464 ls []) := by
  obtain ⟨k1, ek1⟩ : ∃ z : Int32, i + 1 = z := ⟨_, rfl⟩
  have ik1 : k1.toInt = i.toInt + 1 := kz_addc ek1 (by decide) (by omega) (by omega)
  obtain ⟨y1, ey1⟩ : ∃ z : Int32, xs k1.toNatClampNeg = z := ⟨_, rfl⟩
  obtain ⟨k2, ek2⟩ : ∃ z : Int32, i + 2 = z := ⟨_, rfl⟩
  have ik2 : k2.toInt = i.toInt + 2 := kz_addc ek2 (by decide) (by omega) (by omega)
  obtain ⟨y2, ey2⟩ : ∃ z : Int32, xs k2.toNatClampNeg = z := ⟨_, rfl⟩
  refine lv_aload_n C.1 C.2.1 dL_law_464 rfl (lv_at hl 2 rfl) ?_
  refine lv_aload_n C.1 C.2.1 dL_law_465 rfl (lv_at hl 3 rfl) ?_
  refine lv_iload_n C.1 C.2.1 dL_law_466 rfl (lv_at hl 0 rfl) ?_
  refine lv_iconst (v := 1) C.1 C.2.1 dL_law_467 (by decide) ?_
  refine k_iadd (v := k1) C ek1 dL_law_468 ?_
  refine k_sld (v := y1) C hX hbl hbA Wd (vp_in_iff.mpr ⟨by omega, by omega⟩) ey1 dL_law_469 ?_
  refine lv_aload_n C.1 C.2.1 dL_law_470 rfl (lv_at hl 3 rfl) ?_
  refine lv_iload_n C.1 C.2.1 dL_law_471 rfl (lv_at hl 0 rfl) ?_
  refine lv_iconst (v := 2) C.1 C.2.1 dL_law_472 (by decide) ?_
  refine k_iadd (v := k2) C ek2 dL_law_473 ?_
  refine k_sld (v := y2) C hX hbl hbA Wd (vp_in_iff.mpr ⟨by omega, by omega⟩) ey2 dL_law_474 ?_
  obtain ⟨fx, ex⟩ := he_7 (M := wM h adM caM I F) hB
  obtain ⟨Q0, R0, hc, hm, hrel⟩ := b_places hB hR y1 y2
  refine kl_cx (Rp := fun r c' => Q0 r c') Wd (k_runV (rest := []) C aks Wd cs_L_60 (hc l D _) (List.range NC) (ap_l _ _ (wN_len cel)) ndR (List.range NC) (fm_l (tC ca) (tM caM) (tC_len ca)) 0 11 ex rfl rfl rfl rfl ⟨(Nat.le_of_ble_eq_true rfl), (Nat.le_of_ble_eq_true rfl)⟩ hl.1 rfl rfl (Nat.le_of_ble_eq_true rfl) ⟨(Nat.le_of_ble_eq_true rfl), (Nat.le_of_ble_eq_true rfl)⟩ dL_law_475) (fun r1 cel1 H locs w1 Wd => ?_)
  refine lv_pop C.1 C.2.1 dL_law_478 rfl ?_
  refine lv_aload_n C.1 C.2.1 dL_law_479 rfl (lv_at hl 1 rfl) ?_
  refine lv_aload_n C.1 C.2.1 dL_law_480 rfl (lv_at hl 3 rfl) ?_
  refine lv_iload_n C.1 C.2.1 dL_law_481 rfl (lv_at hl 0 rfl) ?_
  refine lv_iconst (v := 1) C.1 C.2.1 dL_law_482 (by decide) ?_
  refine k_iadd (v := k1) C ek1 dL_law_483 ?_
  refine k_sld (v := y1) C hX hbl hbA Wd (vp_in_iff.mpr ⟨by omega, by omega⟩) ey1 dL_law_484 ?_
  refine lv_aload_n C.1 C.2.1 dL_law_485 rfl (lv_at hl 3 rfl) ?_
  refine lv_iload_n C.1 C.2.1 dL_law_486 rfl (lv_at hl 0 rfl) ?_
  refine lv_iconst (v := 2) C.1 C.2.1 dL_law_487 (by decide) ?_
  refine k_iadd (v := k2) C ek2 dL_law_488 ?_
  refine k_sld (v := y2) C hX hbl hbA Wd (vp_in_iff.mpr ⟨by omega, by omega⟩) ey2 dL_law_489 ?_
  refine kl_cm (Rp := fun r u => R0 r u.1 u.2) Wd (k_runV (rest := []) C aks Wd cs_L_63 (hm l D h adM caM _) (List.range 26) (ap_l (wM h adM caM I F) (wN NC cel1) rfl) nd_e ((List.range 25).map (fun i => NC + i)) (fm_r (tC ca) (tM caM) (tC_len ca) rfl) 0 12 rfl rfl rfl rfl rfl ⟨(Nat.le_of_ble_eq_true rfl), (Nat.le_of_ble_eq_true rfl)⟩ hl.1 rfl rfl (Nat.le_of_ble_eq_true rfl) ⟨(Nat.le_of_ble_eq_true rfl), (Nat.le_of_ble_eq_true rfl)⟩ dL_law_490) (fun r2 I1 F1 H locs w2 hM hR Wd => ?_)
  have hrl := hrel _ _ _ _ _ w1 w2
  have hB : RelX ad ca cel1 I1 F1 := hrl.2
  refine lv_pop C.1 C.2.1 dL_law_493 rfl ?_
  refine lv_goto (tgt := 801) C.1 C.2.1 dL_law_494 (by decide) ?_
  exact tail cel1 I1 F1 _ _ _ hB hM hR Wd hl
set_option maxHeartbeats 4000000 in
set_option maxRecDepth 100000 in
theorem law_apply {p : Program} {l : Launch} {e : Jvm.Env} {s : State} {m : MethodId} {below : List Frame} {meth : Method} {c : Code} {b L : Nat} {xs : Nat → Int32} {D : va_G} {A : Nat → Prop} {ad : Nat → Nat} {ca : Nat → ClassId} {h : Nat} {adM : Nat → Nat} {caM : Nat → ClassId} {adK adV adK2 adV2 : Nat → Nat} (C : CallFix p m c cL_law 4 s #[Value.ref b] gG RL) (aks : aK s) (hX : va_X b L xs s s.heap) (hbl : b < s.heap.size) (hbA : ¬ A b) (hET : sK RX10 ixT adK adV 0 A s s.heap) (hEM : sK RX12 ixM adK2 adV2 0 A s s.heap) {cel : Nat → Cl} {I : Nat → Int} {F : Nat → Int → Int} {i : Int32} {H : Heap} {locs : List Loc} {ls : Array Slot} (hL : L ≤ 3072) (i0 : 0 ≤ i.toInt) (i6 : i.toInt + 6 ≤ (L : Int)) (hB : RelX ad ca cel I F) (hM : MInv I F) (hR : rngS I F) (tail : ∀ (cel : Nat → Cl) (I : Nat → Int) (F : Nat → Int → Int) (H : Heap) (locs : List Loc) (ls : Array Slot), RelX ad ca cel I F → MInv I F → rngS I F → wX D (tC ca ++ tM caM) s (wN NC cel ++ wM h adM caM I F) H A s.heap locs → lv_has ls 4 [(3, .int i), (2, .ref h), (1, .ref (ad 0)), (0, .ref b)] → W p l e room_1 s m #[Value.ref b] below meth c H locs 271 91330 (lw_Z below #[Value.ref b] s) (F0 m 801 ls [])) (Wd : wX D (tC ca ++ tM caM) s (wN NC cel ++ wM h adM caM I F) H A s.heap locs) (hl : lv_has ls 4 [(3, .int i), (2, .ref h), (1, .ref (ad 0)), (0, .ref b)]) : W p l e room_1 s m #[Value.ref b] below meth c H locs 271 91330 (lw_Z below #[Value.ref b] s) (F0 m 497 ls []) := by
  obtain ⟨k1, ek1⟩ : ∃ z : Int32, i + 1 = z := ⟨_, rfl⟩
  have ik1 : k1.toInt = i.toInt + 1 := kz_addc ek1 (by decide) (by omega) (by omega)
  obtain ⟨y1, ey1⟩ : ∃ z : Int32, xs k1.toNatClampNeg = z := ⟨_, rfl⟩
  obtain ⟨k2, ek2⟩ : ∃ z : Int32, i + 2 = z := ⟨_, rfl⟩
  have ik2 : k2.toInt = i.toInt + 2 := kz_addc ek2 (by decide) (by omega) (by omega)
  obtain ⟨y2, ey2⟩ : ∃ z : Int32, xs k2.toNatClampNeg = z := ⟨_, rfl⟩
  obtain ⟨k3, ek3⟩ : ∃ z : Int32, i + 3 = z := ⟨_, rfl⟩
  have ik3 : k3.toInt = i.toInt + 3 := kz_addc ek3 (by decide) (by omega) (by omega)
  obtain ⟨y3, ey3⟩ : ∃ z : Int32, xs k3.toNatClampNeg = z := ⟨_, rfl⟩
  obtain ⟨k4, ek4⟩ : ∃ z : Int32, i + 4 = z := ⟨_, rfl⟩
  have ik4 : k4.toInt = i.toInt + 4 := kz_addc ek4 (by decide) (by omega) (by omega)
  obtain ⟨y4, ey4⟩ : ∃ z : Int32, xs k4.toNatClampNeg = z := ⟨_, rfl⟩
  refine lv_aload_n C.1 C.2.1 dL_law_497 rfl (lv_at hl 2 rfl) ?_
  refine lv_aload_n C.1 C.2.1 dL_law_498 rfl (lv_at hl 3 rfl) ?_
  refine lv_iload_n C.1 C.2.1 dL_law_499 rfl (lv_at hl 0 rfl) ?_
  refine lv_iconst (v := 1) C.1 C.2.1 dL_law_500 (by decide) ?_
  refine k_iadd (v := k1) C ek1 dL_law_501 ?_
  refine k_sld (v := y1) C hX hbl hbA Wd (vp_in_iff.mpr ⟨by omega, by omega⟩) ey1 dL_law_502 ?_
  refine lv_aload_n C.1 C.2.1 dL_law_503 rfl (lv_at hl 3 rfl) ?_
  refine lv_iload_n C.1 C.2.1 dL_law_504 rfl (lv_at hl 0 rfl) ?_
  refine lv_iconst (v := 2) C.1 C.2.1 dL_law_505 (by decide) ?_
  refine k_iadd (v := k2) C ek2 dL_law_506 ?_
  refine k_sld (v := y2) C hX hbl hbA Wd (vp_in_iff.mpr ⟨by omega, by omega⟩) ey2 dL_law_507 ?_
  refine lv_aload_n C.1 C.2.1 dL_law_508 rfl (lv_at hl 3 rfl) ?_
  refine lv_iload_n C.1 C.2.1 dL_law_509 rfl (lv_at hl 0 rfl) ?_
  refine lv_iconst (v := 3) C.1 C.2.1 dL_law_510 (by decide) ?_
  refine k_iadd (v := k3) C ek3 dL_law_511 ?_
  refine k_sld (v := y3) C hX hbl hbA Wd (vp_in_iff.mpr ⟨by omega, by omega⟩) ey3 dL_law_512 ?_
  refine lv_aload_n C.1 C.2.1 dL_law_513 rfl (lv_at hl 3 rfl) ?_
  refine lv_iload_n C.1 C.2.1 dL_law_514 rfl (lv_at hl 0 rfl) ?_
  refine lv_iconst (v := 4) C.1 C.2.1 dL_law_515 (by decide) ?_
  refine k_iadd (v := k4) C ek4 dL_law_516 ?_
  refine k_sld (v := y4) C hX hbl hbA Wd (vp_in_iff.mpr ⟨by omega, by omega⟩) ey4 dL_law_517 ?_
  obtain ⟨fx, ex⟩ := he_7 (M := wM h adM caM I F) hB
  obtain ⟨Q0, R0, hc, hm, hrel⟩ := b_apply hB hR y1 y2 y3 y4
  refine kl_cx (Rp := fun r c' => Q0 r c') Wd (k_runV (rest := []) C aks Wd cs_L_64 (hc l D _) (List.range NC) (ap_l _ _ (wN_len cel)) ndR (List.range NC) (fm_l (tC ca) (tM caM) (tC_len ca)) 0 11 ex rfl rfl rfl rfl ⟨(Nat.le_of_ble_eq_true rfl), (Nat.le_of_ble_eq_true rfl)⟩ hl.1 rfl rfl (Nat.le_of_ble_eq_true rfl) ⟨(Nat.le_of_ble_eq_true rfl), (Nat.le_of_ble_eq_true rfl)⟩ dL_law_518) (fun r1 cel1 H locs w1 Wd => ?_)
  refine lv_pop C.1 C.2.1 dL_law_521 rfl ?_
  refine lv_aload_n C.1 C.2.1 dL_law_522 rfl (lv_at hl 1 rfl) ?_
  refine lv_aload_n C.1 C.2.1 dL_law_523 rfl (lv_at hl 3 rfl) ?_
  refine lv_iload_n C.1 C.2.1 dL_law_524 rfl (lv_at hl 0 rfl) ?_
  refine lv_iconst (v := 1) C.1 C.2.1 dL_law_525 (by decide) ?_
  refine k_iadd (v := k1) C ek1 dL_law_526 ?_
  refine k_sld (v := y1) C hX hbl hbA Wd (vp_in_iff.mpr ⟨by omega, by omega⟩) ey1 dL_law_527 ?_
  refine lv_aload_n C.1 C.2.1 dL_law_528 rfl (lv_at hl 3 rfl) ?_
  refine lv_iload_n C.1 C.2.1 dL_law_529 rfl (lv_at hl 0 rfl) ?_
  refine lv_iconst (v := 2) C.1 C.2.1 dL_law_530 (by decide) ?_
  refine k_iadd (v := k2) C ek2 dL_law_531 ?_
  refine k_sld (v := y2) C hX hbl hbA Wd (vp_in_iff.mpr ⟨by omega, by omega⟩) ey2 dL_law_532 ?_
  refine lv_aload_n C.1 C.2.1 dL_law_533 rfl (lv_at hl 3 rfl) ?_
  refine lv_iload_n C.1 C.2.1 dL_law_534 rfl (lv_at hl 0 rfl) ?_
  refine lv_iconst (v := 3) C.1 C.2.1 dL_law_535 (by decide) ?_
  refine k_iadd (v := k3) C ek3 dL_law_536 ?_
  refine k_sld (v := y3) C hX hbl hbA Wd (vp_in_iff.mpr ⟨by omega, by omega⟩) ey3 dL_law_537 ?_
  refine lv_aload_n C.1 C.2.1 dL_law_538 rfl (lv_at hl 3 rfl) ?_
  refine lv_iload_n C.1 C.2.1 dL_law_539 rfl (lv_at hl 0 rfl) ?_
  refine lv_iconst (v := 4) C.1 C.2.1 dL_law_540 (by decide) ?_
  refine k_iadd (v := k4) C ek4 dL_law_541 ?_
  refine k_sld (v := y4) C hX hbl hbA Wd (vp_in_iff.mpr ⟨by omega, by omega⟩) ey4 dL_law_542 ?_
  refine kl_cm (Rp := fun r u => R0 r u.1 u.2) Wd (k_runV (rest := []) C aks Wd cs_L_68 (hm l D h adM caM _) (List.range 26) (ap_l (wM h adM caM I F) (wN NC cel1) rfl) nd_e ((List.range 25).map (fun i => NC + i)) (fm_r (tC ca) (tM caM) (tC_len ca) rfl) 0 12 rfl rfl rfl rfl rfl ⟨(Nat.le_of_ble_eq_true rfl), (Nat.le_of_ble_eq_true rfl)⟩ hl.1 rfl rfl (Nat.le_of_ble_eq_true rfl) ⟨(Nat.le_of_ble_eq_true rfl), (Nat.le_of_ble_eq_true rfl)⟩ dL_law_543) (fun r2 I1 F1 H locs w2 hM hR Wd => ?_)
  have hrl := hrel _ _ _ _ _ w1 w2
  have hB : RelX ad ca cel1 I1 F1 := hrl.2
  refine lv_pop C.1 C.2.1 dL_law_546 rfl ?_
  refine lv_goto (tgt := 801) C.1 C.2.1 dL_law_547 (by decide) ?_
  exact tail cel1 I1 F1 _ _ _ hB hM hR Wd hl
set_option maxHeartbeats 4000000 in
set_option maxRecDepth 100000 in
theorem law_item {p : Program} {l : Launch} {e : Jvm.Env} {s : State} {m : MethodId} {below : List Frame} {meth : Method} {c : Code} {b L : Nat} {xs : Nat → Int32} {D : va_G} {A : Nat → Prop} {ad : Nat → Nat} {ca : Nat → ClassId} {h : Nat} {adM : Nat → Nat} {caM : Nat → ClassId} {adK adV adK2 adV2 : Nat → Nat} (C : CallFix p m c cL_law 4 s #[Value.ref b] gG RL) (aks : aK s) (hX : va_X b L xs s s.heap) (hbl : b < s.heap.size) (hbA : ¬ A b) (hET : sK RX10 ixT adK adV 0 A s s.heap) (hEM : sK RX12 ixM adK2 adV2 0 A s s.heap) {cel : Nat → Cl} {I : Nat → Int} {F : Nat → Int → Int} {i : Int32} {H : Heap} {locs : List Loc} {ls : Array Slot} (hL : L ≤ 3072) (i0 : 0 ≤ i.toInt) (i6 : i.toInt + 6 ≤ (L : Int)) (hB : RelX ad ca cel I F) (hM : MInv I F) (hR : rngS I F) (tail : ∀ (cel : Nat → Cl) (I : Nat → Int) (F : Nat → Int → Int) (H : Heap) (locs : List Loc) (ls : Array Slot), RelX ad ca cel I F → MInv I F → rngS I F → wX D (tC ca ++ tM caM) s (wN NC cel ++ wM h adM caM I F) H A s.heap locs → lv_has ls 4 [(3, .int i), (2, .ref h), (1, .ref (ad 0)), (0, .ref b)] → W p l e room_1 s m #[Value.ref b] below meth c H locs 271 91330 (lw_Z below #[Value.ref b] s) (F0 m 801 ls [])) (Wd : wX D (tC ca ++ tM caM) s (wN NC cel ++ wM h adM caM I F) H A s.heap locs) (hl : lv_has ls 4 [(3, .int i), (2, .ref h), (1, .ref (ad 0)), (0, .ref b)]) : W p l e room_1 s m #[Value.ref b] below meth c H locs 271 91330 (lw_Z below #[Value.ref b] s) (F0 m 550 ls []) := by
  obtain ⟨k1, ek1⟩ : ∃ z : Int32, i + 1 = z := ⟨_, rfl⟩
  have ik1 : k1.toInt = i.toInt + 1 := kz_addc ek1 (by decide) (by omega) (by omega)
  obtain ⟨y1, ey1⟩ : ∃ z : Int32, xs k1.toNatClampNeg = z := ⟨_, rfl⟩
  obtain ⟨k2, ek2⟩ : ∃ z : Int32, i + 2 = z := ⟨_, rfl⟩
  have ik2 : k2.toInt = i.toInt + 2 := kz_addc ek2 (by decide) (by omega) (by omega)
  obtain ⟨y2, ey2⟩ : ∃ z : Int32, xs k2.toNatClampNeg = z := ⟨_, rfl⟩
  refine lv_aload_n C.1 C.2.1 dL_law_550 rfl (lv_at hl 2 rfl) ?_
  refine lv_aload_n C.1 C.2.1 dL_law_551 rfl (lv_at hl 3 rfl) ?_
  refine lv_iload_n C.1 C.2.1 dL_law_552 rfl (lv_at hl 0 rfl) ?_
  refine lv_iconst (v := 1) C.1 C.2.1 dL_law_553 (by decide) ?_
  refine k_iadd (v := k1) C ek1 dL_law_554 ?_
  refine k_sld (v := y1) C hX hbl hbA Wd (vp_in_iff.mpr ⟨by omega, by omega⟩) ey1 dL_law_555 ?_
  refine lv_aload_n C.1 C.2.1 dL_law_556 rfl (lv_at hl 3 rfl) ?_
  refine lv_iload_n C.1 C.2.1 dL_law_557 rfl (lv_at hl 0 rfl) ?_
  refine lv_iconst (v := 2) C.1 C.2.1 dL_law_558 (by decide) ?_
  refine k_iadd (v := k2) C ek2 dL_law_559 ?_
  refine k_sld (v := y2) C hX hbl hbA Wd (vp_in_iff.mpr ⟨by omega, by omega⟩) ey2 dL_law_560 ?_
  obtain ⟨fx, ex⟩ := he_7 (M := wM h adM caM I F) hB
  obtain ⟨Q0, R0, hc, hm, hrel⟩ := b_item hB hR y1 y2
  refine kl_cx (Rp := fun r c' => Q0 r c') Wd (k_runV (rest := []) C aks Wd cs_L_69 (hc l D _) (List.range NC) (ap_l _ _ (wN_len cel)) ndR (List.range NC) (fm_l (tC ca) (tM caM) (tC_len ca)) 0 11 ex rfl rfl rfl rfl ⟨(Nat.le_of_ble_eq_true rfl), (Nat.le_of_ble_eq_true rfl)⟩ hl.1 rfl rfl (Nat.le_of_ble_eq_true rfl) ⟨(Nat.le_of_ble_eq_true rfl), (Nat.le_of_ble_eq_true rfl)⟩ dL_law_561) (fun r1 cel1 H locs w1 Wd => ?_)
  refine lv_pop C.1 C.2.1 dL_law_564 rfl ?_
  refine lv_aload_n C.1 C.2.1 dL_law_565 rfl (lv_at hl 1 rfl) ?_
  refine lv_aload_n C.1 C.2.1 dL_law_566 rfl (lv_at hl 3 rfl) ?_
  refine lv_iload_n C.1 C.2.1 dL_law_567 rfl (lv_at hl 0 rfl) ?_
  refine lv_iconst (v := 1) C.1 C.2.1 dL_law_568 (by decide) ?_
  refine k_iadd (v := k1) C ek1 dL_law_569 ?_
  refine k_sld (v := y1) C hX hbl hbA Wd (vp_in_iff.mpr ⟨by omega, by omega⟩) ey1 dL_law_570 ?_
  refine lv_aload_n C.1 C.2.1 dL_law_571 rfl (lv_at hl 3 rfl) ?_
  refine lv_iload_n C.1 C.2.1 dL_law_572 rfl (lv_at hl 0 rfl) ?_
  refine lv_iconst (v := 2) C.1 C.2.1 dL_law_573 (by decide) ?_
  refine k_iadd (v := k2) C ek2 dL_law_574 ?_
  refine k_sld (v := y2) C hX hbl hbA Wd (vp_in_iff.mpr ⟨by omega, by omega⟩) ey2 dL_law_575 ?_
  refine kl_cm (Rp := fun r u => R0 r u.1 u.2) Wd (k_runV (rest := []) C aks Wd cs_L_72 (hm l D h adM caM _) (List.range 26) (ap_l (wM h adM caM I F) (wN NC cel1) rfl) nd_e ((List.range 25).map (fun i => NC + i)) (fm_r (tC ca) (tM caM) (tC_len ca) rfl) 0 12 rfl rfl rfl rfl rfl ⟨(Nat.le_of_ble_eq_true rfl), (Nat.le_of_ble_eq_true rfl)⟩ hl.1 rfl rfl (Nat.le_of_ble_eq_true rfl) ⟨(Nat.le_of_ble_eq_true rfl), (Nat.le_of_ble_eq_true rfl)⟩ dL_law_576) (fun r2 I1 F1 H locs w2 hM hR Wd => ?_)
  have hrl := hrel _ _ _ _ _ w1 w2
  have hB : RelX ad ca cel1 I1 F1 := hrl.2
  refine lv_pop C.1 C.2.1 dL_law_579 rfl ?_
  refine lv_goto (tgt := 801) C.1 C.2.1 dL_law_580 (by decide) ?_
  exact tail cel1 I1 F1 _ _ _ hB hM hR Wd hl
set_option maxHeartbeats 4000000 in
set_option maxRecDepth 100000 in
theorem law_clear {p : Program} {l : Launch} {e : Jvm.Env} {s : State} {m : MethodId} {below : List Frame} {meth : Method} {c : Code} {b L : Nat} {xs : Nat → Int32} {D : va_G} {A : Nat → Prop} {ad : Nat → Nat} {ca : Nat → ClassId} {h : Nat} {adM : Nat → Nat} {caM : Nat → ClassId} {adK adV adK2 adV2 : Nat → Nat} (C : CallFix p m c cL_law 4 s #[Value.ref b] gG RL) (aks : aK s) (hX : va_X b L xs s s.heap) (hbl : b < s.heap.size) (hbA : ¬ A b) (hET : sK RX10 ixT adK adV 0 A s s.heap) (hEM : sK RX12 ixM adK2 adV2 0 A s s.heap) {cel : Nat → Cl} {I : Nat → Int} {F : Nat → Int → Int} {i : Int32} {H : Heap} {locs : List Loc} {ls : Array Slot} (hL : L ≤ 3072) (i0 : 0 ≤ i.toInt) (i6 : i.toInt + 6 ≤ (L : Int)) (hB : RelX ad ca cel I F) (hM : MInv I F) (hR : rngS I F) (tail : ∀ (cel : Nat → Cl) (I : Nat → Int) (F : Nat → Int → Int) (H : Heap) (locs : List Loc) (ls : Array Slot), RelX ad ca cel I F → MInv I F → rngS I F → wX D (tC ca ++ tM caM) s (wN NC cel ++ wM h adM caM I F) H A s.heap locs → lv_has ls 4 [(3, .int i), (2, .ref h), (1, .ref (ad 0)), (0, .ref b)] → W p l e room_1 s m #[Value.ref b] below meth c H locs 271 91330 (lw_Z below #[Value.ref b] s) (F0 m 801 ls [])) (Wd : wX D (tC ca ++ tM caM) s (wN NC cel ++ wM h adM caM I F) H A s.heap locs) (hl : lv_has ls 4 [(3, .int i), (2, .ref h), (1, .ref (ad 0)), (0, .ref b)]) : W p l e room_1 s m #[Value.ref b] below meth c H locs 271 91330 (lw_Z below #[Value.ref b] s) (F0 m 583 ls []) := by
  obtain ⟨k1, ek1⟩ : ∃ z : Int32, i + 1 = z := ⟨_, rfl⟩
  have ik1 : k1.toInt = i.toInt + 1 := kz_addc ek1 (by decide) (by omega) (by omega)
  obtain ⟨y1, ey1⟩ : ∃ z : Int32, xs k1.toNatClampNeg = z := ⟨_, rfl⟩
  refine lv_aload_n C.1 C.2.1 dL_law_583 rfl (lv_at hl 2 rfl) ?_
  refine lv_aload_n C.1 C.2.1 dL_law_584 rfl (lv_at hl 3 rfl) ?_
  refine lv_iload_n C.1 C.2.1 dL_law_585 rfl (lv_at hl 0 rfl) ?_
  refine lv_iconst (v := 1) C.1 C.2.1 dL_law_586 (by decide) ?_
  refine k_iadd (v := k1) C ek1 dL_law_587 ?_
  refine k_sld (v := y1) C hX hbl hbA Wd (vp_in_iff.mpr ⟨by omega, by omega⟩) ey1 dL_law_588 ?_
  obtain ⟨fx, ex⟩ := he_7 (M := wM h adM caM I F) hB
  obtain ⟨Q0, R0, hc, hm, hrel⟩ := b_clear hB hR y1
  refine kl_cx (Rp := fun r c' => Q0 r c') Wd (k_runV (rest := []) C aks Wd cs_L_73 (hc l D _) (List.range NC) (ap_l _ _ (wN_len cel)) ndR (List.range NC) (fm_l (tC ca) (tM caM) (tC_len ca)) 0 11 ex rfl rfl rfl rfl ⟨(Nat.le_of_ble_eq_true rfl), (Nat.le_of_ble_eq_true rfl)⟩ hl.1 rfl rfl (Nat.le_of_ble_eq_true rfl) ⟨(Nat.le_of_ble_eq_true rfl), (Nat.le_of_ble_eq_true rfl)⟩ dL_law_589) (fun r1 cel1 H locs w1 Wd => ?_)
  refine lv_pop C.1 C.2.1 dL_law_592 rfl ?_
  refine lv_aload_n C.1 C.2.1 dL_law_593 rfl (lv_at hl 1 rfl) ?_
  refine lv_aload_n C.1 C.2.1 dL_law_594 rfl (lv_at hl 3 rfl) ?_
  refine lv_iload_n C.1 C.2.1 dL_law_595 rfl (lv_at hl 0 rfl) ?_
  refine lv_iconst (v := 1) C.1 C.2.1 dL_law_596 (by decide) ?_
  refine k_iadd (v := k1) C ek1 dL_law_597 ?_
  refine k_sld (v := y1) C hX hbl hbA Wd (vp_in_iff.mpr ⟨by omega, by omega⟩) ey1 dL_law_598 ?_
  refine kl_cm (Rp := fun r u => R0 r u.1 u.2) Wd (k_runV (rest := []) C aks Wd cs_L_76 (hm l D h adM caM _) (List.range 26) (ap_l (wM h adM caM I F) (wN NC cel1) rfl) nd_e ((List.range 25).map (fun i => NC + i)) (fm_r (tC ca) (tM caM) (tC_len ca) rfl) 0 12 rfl rfl rfl rfl rfl ⟨(Nat.le_of_ble_eq_true rfl), (Nat.le_of_ble_eq_true rfl)⟩ hl.1 rfl rfl (Nat.le_of_ble_eq_true rfl) ⟨(Nat.le_of_ble_eq_true rfl), (Nat.le_of_ble_eq_true rfl)⟩ dL_law_599) (fun r2 I1 F1 H locs w2 hM hR Wd => ?_)
  have hrl := hrel _ _ _ _ _ w1 w2
  have hB : RelX ad ca cel1 I1 F1 := hrl.2
  refine lv_pop C.1 C.2.1 dL_law_602 rfl ?_
  refine lv_goto (tgt := 801) C.1 C.2.1 dL_law_603 (by decide) ?_
  exact tail cel1 I1 F1 _ _ _ hB hM hR Wd hl
set_option maxHeartbeats 4000000 in
set_option maxRecDepth 100000 in
theorem law_make {p : Program} {l : Launch} {e : Jvm.Env} {s : State} {m : MethodId} {below : List Frame} {meth : Method} {c : Code} {b L : Nat} {xs : Nat → Int32} {D : va_G} {A : Nat → Prop} {ad : Nat → Nat} {ca : Nat → ClassId} {h : Nat} {adM : Nat → Nat} {caM : Nat → ClassId} {adK adV adK2 adV2 : Nat → Nat} (C : CallFix p m c cL_law 4 s #[Value.ref b] gG RL) (aks : aK s) (hX : va_X b L xs s s.heap) (hbl : b < s.heap.size) (hbA : ¬ A b) (hET : sK RX10 ixT adK adV 0 A s s.heap) (hEM : sK RX12 ixM adK2 adV2 0 A s s.heap) {cel : Nat → Cl} {I : Nat → Int} {F : Nat → Int → Int} {i : Int32} {H : Heap} {locs : List Loc} {ls : Array Slot} (hL : L ≤ 3072) (i0 : 0 ≤ i.toInt) (i6 : i.toInt + 6 ≤ (L : Int)) (hB : RelX ad ca cel I F) (hM : MInv I F) (hR : rngS I F) (tail : ∀ (cel : Nat → Cl) (I : Nat → Int) (F : Nat → Int → Int) (H : Heap) (locs : List Loc) (ls : Array Slot), RelX ad ca cel I F → MInv I F → rngS I F → wX D (tC ca ++ tM caM) s (wN NC cel ++ wM h adM caM I F) H A s.heap locs → lv_has ls 4 [(3, .int i), (2, .ref h), (1, .ref (ad 0)), (0, .ref b)] → W p l e room_1 s m #[Value.ref b] below meth c H locs 271 91330 (lw_Z below #[Value.ref b] s) (F0 m 801 ls [])) (Wd : wX D (tC ca ++ tM caM) s (wN NC cel ++ wM h adM caM I F) H A s.heap locs) (hl : lv_has ls 4 [(3, .int i), (2, .ref h), (1, .ref (ad 0)), (0, .ref b)]) : W p l e room_1 s m #[Value.ref b] below meth c H locs 271 91330 (lw_Z below #[Value.ref b] s) (F0 m 606 ls []) := by
  obtain ⟨k1, ek1⟩ : ∃ z : Int32, i + 1 = z := ⟨_, rfl⟩
  have ik1 : k1.toInt = i.toInt + 1 := kz_addc ek1 (by decide) (by omega) (by omega)
  obtain ⟨y1, ey1⟩ : ∃ z : Int32, xs k1.toNatClampNeg = z := ⟨_, rfl⟩
  obtain ⟨k2, ek2⟩ : ∃ z : Int32, i + 2 = z := ⟨_, rfl⟩
  have ik2 : k2.toInt = i.toInt + 2 := kz_addc ek2 (by decide) (by omega) (by omega)
  obtain ⟨y2, ey2⟩ : ∃ z : Int32, xs k2.toNatClampNeg = z := ⟨_, rfl⟩
  obtain ⟨k3, ek3⟩ : ∃ z : Int32, i + 3 = z := ⟨_, rfl⟩
  have ik3 : k3.toInt = i.toInt + 3 := kz_addc ek3 (by decide) (by omega) (by omega)
  obtain ⟨y3, ey3⟩ : ∃ z : Int32, xs k3.toNatClampNeg = z := ⟨_, rfl⟩
  refine lv_aload_n C.1 C.2.1 dL_law_606 rfl (lv_at hl 2 rfl) ?_
  refine lv_aload_n C.1 C.2.1 dL_law_607 rfl (lv_at hl 3 rfl) ?_
  refine lv_iload_n C.1 C.2.1 dL_law_608 rfl (lv_at hl 0 rfl) ?_
  refine lv_iconst (v := 1) C.1 C.2.1 dL_law_609 (by decide) ?_
  refine k_iadd (v := k1) C ek1 dL_law_610 ?_
  refine k_sld (v := y1) C hX hbl hbA Wd (vp_in_iff.mpr ⟨by omega, by omega⟩) ey1 dL_law_611 ?_
  refine lv_aload_n C.1 C.2.1 dL_law_612 rfl (lv_at hl 3 rfl) ?_
  refine lv_iload_n C.1 C.2.1 dL_law_613 rfl (lv_at hl 0 rfl) ?_
  refine lv_iconst (v := 2) C.1 C.2.1 dL_law_614 (by decide) ?_
  refine k_iadd (v := k2) C ek2 dL_law_615 ?_
  refine k_sld (v := y2) C hX hbl hbA Wd (vp_in_iff.mpr ⟨by omega, by omega⟩) ey2 dL_law_616 ?_
  refine lv_aload_n C.1 C.2.1 dL_law_617 rfl (lv_at hl 3 rfl) ?_
  refine lv_iload_n C.1 C.2.1 dL_law_618 rfl (lv_at hl 0 rfl) ?_
  refine lv_iconst (v := 3) C.1 C.2.1 dL_law_619 (by decide) ?_
  refine k_iadd (v := k3) C ek3 dL_law_620 ?_
  refine k_sld (v := y3) C hX hbl hbA Wd (vp_in_iff.mpr ⟨by omega, by omega⟩) ey3 dL_law_621 ?_
  obtain ⟨fx, ex⟩ := he_7 (M := wM h adM caM I F) hB
  obtain ⟨Q0, R0, hc, hm, hrel⟩ := b_make hB hR y1 y2 y3
  refine kl_cx (Rp := fun r c' => Q0 r c') Wd (k_runV (rest := []) C aks Wd cs_L_77 (hc l D _) (List.range NC) (ap_l _ _ (wN_len cel)) ndR (List.range NC) (fm_l (tC ca) (tM caM) (tC_len ca)) 0 11 ex rfl rfl rfl rfl ⟨(Nat.le_of_ble_eq_true rfl), (Nat.le_of_ble_eq_true rfl)⟩ hl.1 rfl rfl (Nat.le_of_ble_eq_true rfl) ⟨(Nat.le_of_ble_eq_true rfl), (Nat.le_of_ble_eq_true rfl)⟩ dL_law_622) (fun r1 cel1 H locs w1 Wd => ?_)
  refine lv_pop C.1 C.2.1 dL_law_625 rfl ?_
  refine lv_aload_n C.1 C.2.1 dL_law_626 rfl (lv_at hl 1 rfl) ?_
  refine lv_aload_n C.1 C.2.1 dL_law_627 rfl (lv_at hl 3 rfl) ?_
  refine lv_iload_n C.1 C.2.1 dL_law_628 rfl (lv_at hl 0 rfl) ?_
  refine lv_iconst (v := 1) C.1 C.2.1 dL_law_629 (by decide) ?_
  refine k_iadd (v := k1) C ek1 dL_law_630 ?_
  refine k_sld (v := y1) C hX hbl hbA Wd (vp_in_iff.mpr ⟨by omega, by omega⟩) ey1 dL_law_631 ?_
  refine lv_aload_n C.1 C.2.1 dL_law_632 rfl (lv_at hl 3 rfl) ?_
  refine lv_iload_n C.1 C.2.1 dL_law_633 rfl (lv_at hl 0 rfl) ?_
  refine lv_iconst (v := 2) C.1 C.2.1 dL_law_634 (by decide) ?_
  refine k_iadd (v := k2) C ek2 dL_law_635 ?_
  refine k_sld (v := y2) C hX hbl hbA Wd (vp_in_iff.mpr ⟨by omega, by omega⟩) ey2 dL_law_636 ?_
  refine lv_aload_n C.1 C.2.1 dL_law_637 rfl (lv_at hl 3 rfl) ?_
  refine lv_iload_n C.1 C.2.1 dL_law_638 rfl (lv_at hl 0 rfl) ?_
  refine lv_iconst (v := 3) C.1 C.2.1 dL_law_639 (by decide) ?_
  refine k_iadd (v := k3) C ek3 dL_law_640 ?_
  refine k_sld (v := y3) C hX hbl hbA Wd (vp_in_iff.mpr ⟨by omega, by omega⟩) ey3 dL_law_641 ?_
  refine kl_cm (Rp := fun r u => R0 r u.1 u.2) Wd (k_runV (rest := []) C aks Wd cs_L_80 (hm l D h adM caM _) (List.range 26) (ap_l (wM h adM caM I F) (wN NC cel1) rfl) nd_e ((List.range 25).map (fun i => NC + i)) (fm_r (tC ca) (tM caM) (tC_len ca) rfl) 0 12 rfl rfl rfl rfl rfl ⟨(Nat.le_of_ble_eq_true rfl), (Nat.le_of_ble_eq_true rfl)⟩ hl.1 rfl rfl (Nat.le_of_ble_eq_true rfl) ⟨(Nat.le_of_ble_eq_true rfl), (Nat.le_of_ble_eq_true rfl)⟩ dL_law_642) (fun r2 I1 F1 H locs w2 hM hR Wd => ?_)
  have hrl := hrel _ _ _ _ _ w1 w2
  have hB : RelX ad ca cel1 I1 F1 := hrl.2
  refine lv_pop C.1 C.2.1 dL_law_645 rfl ?_
  refine lv_goto (tgt := 801) C.1 C.2.1 dL_law_646 (by decide) ?_
  exact tail cel1 I1 F1 _ _ _ hB hM hR Wd hl
set_option maxHeartbeats 4000000 in
set_option maxRecDepth 100000 in
theorem law_blame {p : Program} {l : Launch} {e : Jvm.Env} {s : State} {m : MethodId} {below : List Frame} {meth : Method} {c : Code} {b L : Nat} {xs : Nat → Int32} {D : va_G} {A : Nat → Prop} {ad : Nat → Nat} {ca : Nat → ClassId} {h : Nat} {adM : Nat → Nat} {caM : Nat → ClassId} {adK adV adK2 adV2 : Nat → Nat} (C : CallFix p m c cL_law 4 s #[Value.ref b] gG RL) (aks : aK s) (hX : va_X b L xs s s.heap) (hbl : b < s.heap.size) (hbA : ¬ A b) (hET : sK RX10 ixT adK adV 0 A s s.heap) (hEM : sK RX12 ixM adK2 adV2 0 A s s.heap) {cel : Nat → Cl} {I : Nat → Int} {F : Nat → Int → Int} {i : Int32} {H : Heap} {locs : List Loc} {ls : Array Slot} (hL : L ≤ 3072) (i0 : 0 ≤ i.toInt) (i6 : i.toInt + 6 ≤ (L : Int)) (hB : RelX ad ca cel I F) (hM : MInv I F) (hR : rngS I F) (tail : ∀ (cel : Nat → Cl) (I : Nat → Int) (F : Nat → Int → Int) (H : Heap) (locs : List Loc) (ls : Array Slot), RelX ad ca cel I F → MInv I F → rngS I F → wX D (tC ca ++ tM caM) s (wN NC cel ++ wM h adM caM I F) H A s.heap locs → lv_has ls 4 [(3, .int i), (2, .ref h), (1, .ref (ad 0)), (0, .ref b)] → W p l e room_1 s m #[Value.ref b] below meth c H locs 271 91330 (lw_Z below #[Value.ref b] s) (F0 m 801 ls [])) (Wd : wX D (tC ca ++ tM caM) s (wN NC cel ++ wM h adM caM I F) H A s.heap locs) (hl : lv_has ls 4 [(3, .int i), (2, .ref h), (1, .ref (ad 0)), (0, .ref b)]) : W p l e room_1 s m #[Value.ref b] below meth c H locs 271 91330 (lw_Z below #[Value.ref b] s) (F0 m 649 ls []) := by
  obtain ⟨k1, ek1⟩ : ∃ z : Int32, i + 1 = z := ⟨_, rfl⟩
  have ik1 : k1.toInt = i.toInt + 1 := kz_addc ek1 (by decide) (by omega) (by omega)
  obtain ⟨y1, ey1⟩ : ∃ z : Int32, xs k1.toNatClampNeg = z := ⟨_, rfl⟩
  obtain ⟨k2, ek2⟩ : ∃ z : Int32, i + 2 = z := ⟨_, rfl⟩
  have ik2 : k2.toInt = i.toInt + 2 := kz_addc ek2 (by decide) (by omega) (by omega)
  obtain ⟨y2, ey2⟩ : ∃ z : Int32, xs k2.toNatClampNeg = z := ⟨_, rfl⟩
  refine lv_aload_n C.1 C.2.1 dL_law_649 rfl (lv_at hl 2 rfl) ?_
  refine lv_aload_n C.1 C.2.1 dL_law_650 rfl (lv_at hl 3 rfl) ?_
  refine lv_iload_n C.1 C.2.1 dL_law_651 rfl (lv_at hl 0 rfl) ?_
  refine lv_iconst (v := 1) C.1 C.2.1 dL_law_652 (by decide) ?_
  refine k_iadd (v := k1) C ek1 dL_law_653 ?_
  refine k_sld (v := y1) C hX hbl hbA Wd (vp_in_iff.mpr ⟨by omega, by omega⟩) ey1 dL_law_654 ?_
  refine lv_aload_n C.1 C.2.1 dL_law_655 rfl (lv_at hl 3 rfl) ?_
  refine lv_iload_n C.1 C.2.1 dL_law_656 rfl (lv_at hl 0 rfl) ?_
  refine lv_iconst (v := 2) C.1 C.2.1 dL_law_657 (by decide) ?_
  refine k_iadd (v := k2) C ek2 dL_law_658 ?_
  refine k_sld (v := y2) C hX hbl hbA Wd (vp_in_iff.mpr ⟨by omega, by omega⟩) ey2 dL_law_659 ?_
  obtain ⟨fx, ex⟩ := he_7 (M := wM h adM caM I F) hB
  obtain ⟨Q0, R0, hc, hm, hrel⟩ := b_blame hB hR y1 y2
  refine kl_cx (Rp := fun r c' => Q0 r c') Wd (k_runV (rest := []) C aks Wd cs_L_81 (hc l D _) (List.range NC) (ap_l _ _ (wN_len cel)) ndR (List.range NC) (fm_l (tC ca) (tM caM) (tC_len ca)) 0 11 ex rfl rfl rfl rfl ⟨(Nat.le_of_ble_eq_true rfl), (Nat.le_of_ble_eq_true rfl)⟩ hl.1 rfl rfl (Nat.le_of_ble_eq_true rfl) ⟨(Nat.le_of_ble_eq_true rfl), (Nat.le_of_ble_eq_true rfl)⟩ dL_law_660) (fun r1 cel1 H locs w1 Wd => ?_)
  refine lv_pop C.1 C.2.1 dL_law_663 rfl ?_
  refine lv_aload_n C.1 C.2.1 dL_law_664 rfl (lv_at hl 1 rfl) ?_
  refine lv_aload_n C.1 C.2.1 dL_law_665 rfl (lv_at hl 3 rfl) ?_
  refine lv_iload_n C.1 C.2.1 dL_law_666 rfl (lv_at hl 0 rfl) ?_
  refine lv_iconst (v := 1) C.1 C.2.1 dL_law_667 (by decide) ?_
  refine k_iadd (v := k1) C ek1 dL_law_668 ?_
  refine k_sld (v := y1) C hX hbl hbA Wd (vp_in_iff.mpr ⟨by omega, by omega⟩) ey1 dL_law_669 ?_
  refine lv_aload_n C.1 C.2.1 dL_law_670 rfl (lv_at hl 3 rfl) ?_
  refine lv_iload_n C.1 C.2.1 dL_law_671 rfl (lv_at hl 0 rfl) ?_
  refine lv_iconst (v := 2) C.1 C.2.1 dL_law_672 (by decide) ?_
  refine k_iadd (v := k2) C ek2 dL_law_673 ?_
  refine k_sld (v := y2) C hX hbl hbA Wd (vp_in_iff.mpr ⟨by omega, by omega⟩) ey2 dL_law_674 ?_
  refine kl_cm (Rp := fun r u => R0 r u.1 u.2) Wd (k_runV (rest := []) C aks Wd cs_L_84 (hm l D h adM caM _) (List.range 26) (ap_l (wM h adM caM I F) (wN NC cel1) rfl) nd_e ((List.range 25).map (fun i => NC + i)) (fm_r (tC ca) (tM caM) (tC_len ca) rfl) 0 12 rfl rfl rfl rfl rfl ⟨(Nat.le_of_ble_eq_true rfl), (Nat.le_of_ble_eq_true rfl)⟩ hl.1 rfl rfl (Nat.le_of_ble_eq_true rfl) ⟨(Nat.le_of_ble_eq_true rfl), (Nat.le_of_ble_eq_true rfl)⟩ dL_law_675) (fun r2 I1 F1 H locs w2 hM hR Wd => ?_)
  have hrl := hrel _ _ _ _ _ w1 w2
  have hB : RelX ad ca cel1 I1 F1 := hrl.2
  refine lv_pop C.1 C.2.1 dL_law_678 rfl ?_
  refine lv_goto (tgt := 801) C.1 C.2.1 dL_law_679 (by decide) ?_
  exact tail cel1 I1 F1 _ _ _ hB hM hR Wd hl
set_option maxHeartbeats 4000000 in
set_option maxRecDepth 100000 in
theorem law_cut {p : Program} {l : Launch} {e : Jvm.Env} {s : State} {m : MethodId} {below : List Frame} {meth : Method} {c : Code} {b L : Nat} {xs : Nat → Int32} {D : va_G} {A : Nat → Prop} {ad : Nat → Nat} {ca : Nat → ClassId} {h : Nat} {adM : Nat → Nat} {caM : Nat → ClassId} {adK adV adK2 adV2 : Nat → Nat} (C : CallFix p m c cL_law 4 s #[Value.ref b] gG RL) (aks : aK s) (hX : va_X b L xs s s.heap) (hbl : b < s.heap.size) (hbA : ¬ A b) (hET : sK RX10 ixT adK adV 0 A s s.heap) (hEM : sK RX12 ixM adK2 adV2 0 A s s.heap) {cel : Nat → Cl} {I : Nat → Int} {F : Nat → Int → Int} {i : Int32} {H : Heap} {locs : List Loc} {ls : Array Slot} (hL : L ≤ 3072) (i0 : 0 ≤ i.toInt) (i6 : i.toInt + 6 ≤ (L : Int)) (hB : RelX ad ca cel I F) (hM : MInv I F) (hR : rngS I F) (tail : ∀ (cel : Nat → Cl) (I : Nat → Int) (F : Nat → Int → Int) (H : Heap) (locs : List Loc) (ls : Array Slot), RelX ad ca cel I F → MInv I F → rngS I F → wX D (tC ca ++ tM caM) s (wN NC cel ++ wM h adM caM I F) H A s.heap locs → lv_has ls 4 [(3, .int i), (2, .ref h), (1, .ref (ad 0)), (0, .ref b)] → W p l e room_1 s m #[Value.ref b] below meth c H locs 271 91330 (lw_Z below #[Value.ref b] s) (F0 m 801 ls [])) (Wd : wX D (tC ca ++ tM caM) s (wN NC cel ++ wM h adM caM I F) H A s.heap locs) (hl : lv_has ls 4 [(3, .int i), (2, .ref h), (1, .ref (ad 0)), (0, .ref b)]) : W p l e room_1 s m #[Value.ref b] below meth c H locs 271 91330 (lw_Z below #[Value.ref b] s) (F0 m 682 ls []) := by
  obtain ⟨k1, ek1⟩ : ∃ z : Int32, i + 1 = z := ⟨_, rfl⟩
  have ik1 : k1.toInt = i.toInt + 1 := kz_addc ek1 (by decide) (by omega) (by omega)
  obtain ⟨y1, ey1⟩ : ∃ z : Int32, xs k1.toNatClampNeg = z := ⟨_, rfl⟩
  obtain ⟨k2, ek2⟩ : ∃ z : Int32, i + 2 = z := ⟨_, rfl⟩
  have ik2 : k2.toInt = i.toInt + 2 := kz_addc ek2 (by decide) (by omega) (by omega)
  obtain ⟨y2, ey2⟩ : ∃ z : Int32, xs k2.toNatClampNeg = z := ⟨_, rfl⟩
  obtain ⟨k3, ek3⟩ : ∃ z : Int32, i + 3 = z := ⟨_, rfl⟩
  have ik3 : k3.toInt = i.toInt + 3 := kz_addc ek3 (by decide) (by omega) (by omega)
  obtain ⟨y3, ey3⟩ : ∃ z : Int32, xs k3.toNatClampNeg = z := ⟨_, rfl⟩
  refine lv_aload_n C.1 C.2.1 dL_law_682 rfl (lv_at hl 2 rfl) ?_
  refine lv_aload_n C.1 C.2.1 dL_law_683 rfl (lv_at hl 3 rfl) ?_
  refine lv_iload_n C.1 C.2.1 dL_law_684 rfl (lv_at hl 0 rfl) ?_
  refine lv_iconst (v := 1) C.1 C.2.1 dL_law_685 (by decide) ?_
  refine k_iadd (v := k1) C ek1 dL_law_686 ?_
  refine k_sld (v := y1) C hX hbl hbA Wd (vp_in_iff.mpr ⟨by omega, by omega⟩) ey1 dL_law_687 ?_
  refine lv_aload_n C.1 C.2.1 dL_law_688 rfl (lv_at hl 3 rfl) ?_
  refine lv_iload_n C.1 C.2.1 dL_law_689 rfl (lv_at hl 0 rfl) ?_
  refine lv_iconst (v := 2) C.1 C.2.1 dL_law_690 (by decide) ?_
  refine k_iadd (v := k2) C ek2 dL_law_691 ?_
  refine k_sld (v := y2) C hX hbl hbA Wd (vp_in_iff.mpr ⟨by omega, by omega⟩) ey2 dL_law_692 ?_
  refine lv_aload_n C.1 C.2.1 dL_law_693 rfl (lv_at hl 3 rfl) ?_
  refine lv_iload_n C.1 C.2.1 dL_law_694 rfl (lv_at hl 0 rfl) ?_
  refine lv_iconst (v := 3) C.1 C.2.1 dL_law_695 (by decide) ?_
  refine k_iadd (v := k3) C ek3 dL_law_696 ?_
  refine k_sld (v := y3) C hX hbl hbA Wd (vp_in_iff.mpr ⟨by omega, by omega⟩) ey3 dL_law_697 ?_
  obtain ⟨fx, ex⟩ := he_7 (M := wM h adM caM I F) hB
  obtain ⟨Q0, R0, hc, hm, hrel⟩ := b_cut hB hR y1 y2 y3
  refine kl_cx (Rp := fun r c' => Q0 r c') Wd (k_runV (rest := []) C aks Wd cs_L_85 (hc l D _) (List.range NC) (ap_l _ _ (wN_len cel)) ndR (List.range NC) (fm_l (tC ca) (tM caM) (tC_len ca)) 0 11 ex rfl rfl rfl rfl ⟨(Nat.le_of_ble_eq_true rfl), (Nat.le_of_ble_eq_true rfl)⟩ hl.1 rfl rfl (Nat.le_of_ble_eq_true rfl) ⟨(Nat.le_of_ble_eq_true rfl), (Nat.le_of_ble_eq_true rfl)⟩ dL_law_698) (fun r1 cel1 H locs w1 Wd => ?_)
  refine lv_aload_n C.1 C.2.1 dL_law_701 rfl (lv_at hl 1 rfl) ?_
  refine lv_aload_n C.1 C.2.1 dL_law_702 rfl (lv_at hl 3 rfl) ?_
  refine lv_iload_n C.1 C.2.1 dL_law_703 rfl (lv_at hl 0 rfl) ?_
  refine lv_iconst (v := 1) C.1 C.2.1 dL_law_704 (by decide) ?_
  refine k_iadd (v := k1) C ek1 dL_law_705 ?_
  refine k_sld (v := y1) C hX hbl hbA Wd (vp_in_iff.mpr ⟨by omega, by omega⟩) ey1 dL_law_706 ?_
  refine lv_aload_n C.1 C.2.1 dL_law_707 rfl (lv_at hl 3 rfl) ?_
  refine lv_iload_n C.1 C.2.1 dL_law_708 rfl (lv_at hl 0 rfl) ?_
  refine lv_iconst (v := 2) C.1 C.2.1 dL_law_709 (by decide) ?_
  refine k_iadd (v := k2) C ek2 dL_law_710 ?_
  refine k_sld (v := y2) C hX hbl hbA Wd (vp_in_iff.mpr ⟨by omega, by omega⟩) ey2 dL_law_711 ?_
  refine lv_aload_n C.1 C.2.1 dL_law_712 rfl (lv_at hl 3 rfl) ?_
  refine lv_iload_n C.1 C.2.1 dL_law_713 rfl (lv_at hl 0 rfl) ?_
  refine lv_iconst (v := 3) C.1 C.2.1 dL_law_714 (by decide) ?_
  refine k_iadd (v := k3) C ek3 dL_law_715 ?_
  refine k_sld (v := y3) C hX hbl hbA Wd (vp_in_iff.mpr ⟨by omega, by omega⟩) ey3 dL_law_716 ?_
  refine kl_cm (Rp := fun r u => R0 r u.1 u.2) Wd (k_runV (rest := [.int r1]) C aks Wd cs_L_88 (hm l D h adM caM _) (List.range 26) (ap_l (wM h adM caM I F) (wN NC cel1) rfl) nd_e ((List.range 25).map (fun i => NC + i)) (fm_r (tC ca) (tM caM) (tC_len ca) rfl) 0 12 rfl rfl rfl rfl rfl ⟨(Nat.le_of_ble_eq_true rfl), (Nat.le_of_ble_eq_true rfl)⟩ hl.1 rfl rfl (Nat.le_of_ble_eq_true rfl) ⟨(Nat.le_of_ble_eq_true rfl), (Nat.le_of_ble_eq_true rfl)⟩ dL_law_717) (fun r2 I1 F1 H locs w2 hM hR Wd => ?_)
  have hrl := hrel _ _ _ _ _ w1 w2
  have hB : RelX ad ca cel1 I1 F1 := hrl.2
  have er : r1 = r2 := hrl.1
  refine lv_icmp_eq (tgt := 801) C.1 C.2.1 dL_law_720 (by decide) (fun _ => ?_) (fun q => absurd er q)
  exact tail cel1 I1 F1 _ _ _ hB hM hR Wd hl
set_option maxHeartbeats 4000000 in
set_option maxRecDepth 100000 in
theorem law_registers {p : Program} {l : Launch} {e : Jvm.Env} {s : State} {m : MethodId} {below : List Frame} {meth : Method} {c : Code} {b L : Nat} {xs : Nat → Int32} {D : va_G} {A : Nat → Prop} {ad : Nat → Nat} {ca : Nat → ClassId} {h : Nat} {adM : Nat → Nat} {caM : Nat → ClassId} {adK adV adK2 adV2 : Nat → Nat} (C : CallFix p m c cL_law 4 s #[Value.ref b] gG RL) (aks : aK s) (hX : va_X b L xs s s.heap) (hbl : b < s.heap.size) (hbA : ¬ A b) (hET : sK RX10 ixT adK adV 0 A s s.heap) (hEM : sK RX12 ixM adK2 adV2 0 A s s.heap) {cel : Nat → Cl} {I : Nat → Int} {F : Nat → Int → Int} {i : Int32} {H : Heap} {locs : List Loc} {ls : Array Slot} (hL : L ≤ 3072) (i0 : 0 ≤ i.toInt) (i6 : i.toInt + 6 ≤ (L : Int)) (hB : RelX ad ca cel I F) (hM : MInv I F) (hR : rngS I F) (tail : ∀ (cel : Nat → Cl) (I : Nat → Int) (F : Nat → Int → Int) (H : Heap) (locs : List Loc) (ls : Array Slot), RelX ad ca cel I F → MInv I F → rngS I F → wX D (tC ca ++ tM caM) s (wN NC cel ++ wM h adM caM I F) H A s.heap locs → lv_has ls 4 [(3, .int i), (2, .ref h), (1, .ref (ad 0)), (0, .ref b)] → W p l e room_1 s m #[Value.ref b] below meth c H locs 271 91330 (lw_Z below #[Value.ref b] s) (F0 m 801 ls [])) (Wd : wX D (tC ca ++ tM caM) s (wN NC cel ++ wM h adM caM I F) H A s.heap locs) (hl : lv_has ls 4 [(3, .int i), (2, .ref h), (1, .ref (ad 0)), (0, .ref b)]) : W p l e room_1 s m #[Value.ref b] below meth c H locs 271 91330 (lw_Z below #[Value.ref b] s) (F0 m 725 ls []) := by
  obtain ⟨k1, ek1⟩ : ∃ z : Int32, i + 1 = z := ⟨_, rfl⟩
  have ik1 : k1.toInt = i.toInt + 1 := kz_addc ek1 (by decide) (by omega) (by omega)
  obtain ⟨y1, ey1⟩ : ∃ z : Int32, xs k1.toNatClampNeg = z := ⟨_, rfl⟩
  obtain ⟨k2, ek2⟩ : ∃ z : Int32, i + 2 = z := ⟨_, rfl⟩
  have ik2 : k2.toInt = i.toInt + 2 := kz_addc ek2 (by decide) (by omega) (by omega)
  obtain ⟨y2, ey2⟩ : ∃ z : Int32, xs k2.toNatClampNeg = z := ⟨_, rfl⟩
  refine lv_aload_n C.1 C.2.1 dL_law_725 rfl (lv_at hl 2 rfl) ?_
  refine lv_aload_n C.1 C.2.1 dL_law_726 rfl (lv_at hl 3 rfl) ?_
  refine lv_iload_n C.1 C.2.1 dL_law_727 rfl (lv_at hl 0 rfl) ?_
  refine lv_iconst (v := 1) C.1 C.2.1 dL_law_728 (by decide) ?_
  refine k_iadd (v := k1) C ek1 dL_law_729 ?_
  refine k_sld (v := y1) C hX hbl hbA Wd (vp_in_iff.mpr ⟨by omega, by omega⟩) ey1 dL_law_730 ?_
  refine lv_aload_n C.1 C.2.1 dL_law_731 rfl (lv_at hl 3 rfl) ?_
  refine lv_iload_n C.1 C.2.1 dL_law_732 rfl (lv_at hl 0 rfl) ?_
  refine lv_iconst (v := 2) C.1 C.2.1 dL_law_733 (by decide) ?_
  refine k_iadd (v := k2) C ek2 dL_law_734 ?_
  refine k_sld (v := y2) C hX hbl hbA Wd (vp_in_iff.mpr ⟨by omega, by omega⟩) ey2 dL_law_735 ?_
  obtain ⟨fx, ex⟩ := he_7 (M := wM h adM caM I F) hB
  obtain ⟨Q0, R0, hc, hm, hrel⟩ := b_registers hB hR y1 y2
  refine kl_cx (Rp := fun r c' => Q0 r c') Wd (k_runV (rest := []) C aks Wd cs_L_89 (hc l D _) (List.range NC) (ap_l _ _ (wN_len cel)) ndR (List.range NC) (fm_l (tC ca) (tM caM) (tC_len ca)) 0 11 ex rfl rfl rfl rfl ⟨(Nat.le_of_ble_eq_true rfl), (Nat.le_of_ble_eq_true rfl)⟩ hl.1 rfl rfl (Nat.le_of_ble_eq_true rfl) ⟨(Nat.le_of_ble_eq_true rfl), (Nat.le_of_ble_eq_true rfl)⟩ dL_law_736) (fun r1 cel1 H locs w1 Wd => ?_)
  refine lv_pop C.1 C.2.1 dL_law_739 rfl ?_
  refine lv_aload_n C.1 C.2.1 dL_law_740 rfl (lv_at hl 1 rfl) ?_
  refine lv_aload_n C.1 C.2.1 dL_law_741 rfl (lv_at hl 3 rfl) ?_
  refine lv_iload_n C.1 C.2.1 dL_law_742 rfl (lv_at hl 0 rfl) ?_
  refine lv_iconst (v := 1) C.1 C.2.1 dL_law_743 (by decide) ?_
  refine k_iadd (v := k1) C ek1 dL_law_744 ?_
  refine k_sld (v := y1) C hX hbl hbA Wd (vp_in_iff.mpr ⟨by omega, by omega⟩) ey1 dL_law_745 ?_
  refine lv_aload_n C.1 C.2.1 dL_law_746 rfl (lv_at hl 3 rfl) ?_
  refine lv_iload_n C.1 C.2.1 dL_law_747 rfl (lv_at hl 0 rfl) ?_
  refine lv_iconst (v := 2) C.1 C.2.1 dL_law_748 (by decide) ?_
  refine k_iadd (v := k2) C ek2 dL_law_749 ?_
  refine k_sld (v := y2) C hX hbl hbA Wd (vp_in_iff.mpr ⟨by omega, by omega⟩) ey2 dL_law_750 ?_
  refine kl_cm (Rp := fun r u => R0 r u.1 u.2) Wd (k_runV (rest := []) C aks Wd cs_L_92 (hm l D h adM caM _) (List.range 26) (ap_l (wM h adM caM I F) (wN NC cel1) rfl) nd_e ((List.range 25).map (fun i => NC + i)) (fm_r (tC ca) (tM caM) (tC_len ca) rfl) 0 12 rfl rfl rfl rfl rfl ⟨(Nat.le_of_ble_eq_true rfl), (Nat.le_of_ble_eq_true rfl)⟩ hl.1 rfl rfl (Nat.le_of_ble_eq_true rfl) ⟨(Nat.le_of_ble_eq_true rfl), (Nat.le_of_ble_eq_true rfl)⟩ dL_law_751) (fun r2 I1 F1 H locs w2 hM hR Wd => ?_)
  have hrl := hrel _ _ _ _ _ w1 w2
  have hB : RelX ad ca cel1 I1 F1 := hrl
  refine lv_pop C.1 C.2.1 dL_law_754 rfl ?_
  refine lv_goto (tgt := 801) C.1 C.2.1 dL_law_755 (by decide) ?_
  exact tail cel1 I1 F1 _ _ _ hB hM hR Wd hl
set_option maxHeartbeats 4000000 in
set_option maxRecDepth 100000 in
theorem law_clash {p : Program} {l : Launch} {e : Jvm.Env} {s : State} {m : MethodId} {below : List Frame} {meth : Method} {c : Code} {b L : Nat} {xs : Nat → Int32} {D : va_G} {A : Nat → Prop} {ad : Nat → Nat} {ca : Nat → ClassId} {h : Nat} {adM : Nat → Nat} {caM : Nat → ClassId} {adK adV adK2 adV2 : Nat → Nat} (C : CallFix p m c cL_law 4 s #[Value.ref b] gG RL) (aks : aK s) (hX : va_X b L xs s s.heap) (hbl : b < s.heap.size) (hbA : ¬ A b) (hET : sK RX10 ixT adK adV 0 A s s.heap) (hEM : sK RX12 ixM adK2 adV2 0 A s s.heap) {cel : Nat → Cl} {I : Nat → Int} {F : Nat → Int → Int} {i : Int32} {H : Heap} {locs : List Loc} {ls : Array Slot} (hL : L ≤ 3072) (i0 : 0 ≤ i.toInt) (i6 : i.toInt + 6 ≤ (L : Int)) (hB : RelX ad ca cel I F) (hM : MInv I F) (hR : rngS I F) (tail : ∀ (cel : Nat → Cl) (I : Nat → Int) (F : Nat → Int → Int) (H : Heap) (locs : List Loc) (ls : Array Slot), RelX ad ca cel I F → MInv I F → rngS I F → wX D (tC ca ++ tM caM) s (wN NC cel ++ wM h adM caM I F) H A s.heap locs → lv_has ls 4 [(3, .int i), (2, .ref h), (1, .ref (ad 0)), (0, .ref b)] → W p l e room_1 s m #[Value.ref b] below meth c H locs 271 91330 (lw_Z below #[Value.ref b] s) (F0 m 801 ls [])) (Wd : wX D (tC ca ++ tM caM) s (wN NC cel ++ wM h adM caM I F) H A s.heap locs) (hl : lv_has ls 4 [(3, .int i), (2, .ref h), (1, .ref (ad 0)), (0, .ref b)]) : W p l e room_1 s m #[Value.ref b] below meth c H locs 271 91330 (lw_Z below #[Value.ref b] s) (F0 m 758 ls []) := by
  obtain ⟨k1, ek1⟩ : ∃ z : Int32, i + 1 = z := ⟨_, rfl⟩
  have ik1 : k1.toInt = i.toInt + 1 := kz_addc ek1 (by decide) (by omega) (by omega)
  obtain ⟨y1, ey1⟩ : ∃ z : Int32, xs k1.toNatClampNeg = z := ⟨_, rfl⟩
  obtain ⟨k2, ek2⟩ : ∃ z : Int32, i + 2 = z := ⟨_, rfl⟩
  have ik2 : k2.toInt = i.toInt + 2 := kz_addc ek2 (by decide) (by omega) (by omega)
  obtain ⟨y2, ey2⟩ : ∃ z : Int32, xs k2.toNatClampNeg = z := ⟨_, rfl⟩
  obtain ⟨k3, ek3⟩ : ∃ z : Int32, i + 3 = z := ⟨_, rfl⟩
  have ik3 : k3.toInt = i.toInt + 3 := kz_addc ek3 (by decide) (by omega) (by omega)
  obtain ⟨y3, ey3⟩ : ∃ z : Int32, xs k3.toNatClampNeg = z := ⟨_, rfl⟩
  refine lv_aload_n C.1 C.2.1 dL_law_758 rfl (lv_at hl 2 rfl) ?_
  refine lv_aload_n C.1 C.2.1 dL_law_759 rfl (lv_at hl 3 rfl) ?_
  refine lv_iload_n C.1 C.2.1 dL_law_760 rfl (lv_at hl 0 rfl) ?_
  refine lv_iconst (v := 1) C.1 C.2.1 dL_law_761 (by decide) ?_
  refine k_iadd (v := k1) C ek1 dL_law_762 ?_
  refine k_sld (v := y1) C hX hbl hbA Wd (vp_in_iff.mpr ⟨by omega, by omega⟩) ey1 dL_law_763 ?_
  refine lv_aload_n C.1 C.2.1 dL_law_764 rfl (lv_at hl 3 rfl) ?_
  refine lv_iload_n C.1 C.2.1 dL_law_765 rfl (lv_at hl 0 rfl) ?_
  refine lv_iconst (v := 2) C.1 C.2.1 dL_law_766 (by decide) ?_
  refine k_iadd (v := k2) C ek2 dL_law_767 ?_
  refine k_sld (v := y2) C hX hbl hbA Wd (vp_in_iff.mpr ⟨by omega, by omega⟩) ey2 dL_law_768 ?_
  refine lv_aload_n C.1 C.2.1 dL_law_769 rfl (lv_at hl 3 rfl) ?_
  refine lv_iload_n C.1 C.2.1 dL_law_770 rfl (lv_at hl 0 rfl) ?_
  refine lv_iconst (v := 3) C.1 C.2.1 dL_law_771 (by decide) ?_
  refine k_iadd (v := k3) C ek3 dL_law_772 ?_
  refine k_sld (v := y3) C hX hbl hbA Wd (vp_in_iff.mpr ⟨by omega, by omega⟩) ey3 dL_law_773 ?_
  obtain ⟨fx, ex⟩ := he_7 (M := wM h adM caM I F) hB
  obtain ⟨Q0, R0, hc, hm, hrel⟩ := b_clash hB hR y1 y2 y3
  refine kl_cx (Rp := fun r c' => Q0 r c') Wd (k_runV (rest := []) C aks Wd cs_L_93 (hc l D _) (List.range NC) (ap_l _ _ (wN_len cel)) ndR (List.range NC) (fm_l (tC ca) (tM caM) (tC_len ca)) 0 11 ex rfl rfl rfl rfl ⟨(Nat.le_of_ble_eq_true rfl), (Nat.le_of_ble_eq_true rfl)⟩ hl.1 rfl rfl (Nat.le_of_ble_eq_true rfl) ⟨(Nat.le_of_ble_eq_true rfl), (Nat.le_of_ble_eq_true rfl)⟩ dL_law_774) (fun r1 cel1 H locs w1 Wd => ?_)
  refine lv_pop C.1 C.2.1 dL_law_777 rfl ?_
  refine lv_aload_n C.1 C.2.1 dL_law_778 rfl (lv_at hl 1 rfl) ?_
  refine lv_aload_n C.1 C.2.1 dL_law_779 rfl (lv_at hl 3 rfl) ?_
  refine lv_iload_n C.1 C.2.1 dL_law_780 rfl (lv_at hl 0 rfl) ?_
  refine lv_iconst (v := 1) C.1 C.2.1 dL_law_781 (by decide) ?_
  refine k_iadd (v := k1) C ek1 dL_law_782 ?_
  refine k_sld (v := y1) C hX hbl hbA Wd (vp_in_iff.mpr ⟨by omega, by omega⟩) ey1 dL_law_783 ?_
  refine lv_aload_n C.1 C.2.1 dL_law_784 rfl (lv_at hl 3 rfl) ?_
  refine lv_iload_n C.1 C.2.1 dL_law_785 rfl (lv_at hl 0 rfl) ?_
  refine lv_iconst (v := 2) C.1 C.2.1 dL_law_786 (by decide) ?_
  refine k_iadd (v := k2) C ek2 dL_law_787 ?_
  refine k_sld (v := y2) C hX hbl hbA Wd (vp_in_iff.mpr ⟨by omega, by omega⟩) ey2 dL_law_788 ?_
  refine lv_aload_n C.1 C.2.1 dL_law_789 rfl (lv_at hl 3 rfl) ?_
  refine lv_iload_n C.1 C.2.1 dL_law_790 rfl (lv_at hl 0 rfl) ?_
  refine lv_iconst (v := 3) C.1 C.2.1 dL_law_791 (by decide) ?_
  refine k_iadd (v := k3) C ek3 dL_law_792 ?_
  refine k_sld (v := y3) C hX hbl hbA Wd (vp_in_iff.mpr ⟨by omega, by omega⟩) ey3 dL_law_793 ?_
  refine kl_cm (Rp := fun r u => R0 r u.1 u.2) Wd (k_runV (rest := []) C aks Wd cs_L_96 (hm l D h adM caM _) (List.range 26) (ap_l (wM h adM caM I F) (wN NC cel1) rfl) nd_e ((List.range 25).map (fun i => NC + i)) (fm_r (tC ca) (tM caM) (tC_len ca) rfl) 0 12 rfl rfl rfl rfl rfl ⟨(Nat.le_of_ble_eq_true rfl), (Nat.le_of_ble_eq_true rfl)⟩ hl.1 rfl rfl (Nat.le_of_ble_eq_true rfl) ⟨(Nat.le_of_ble_eq_true rfl), (Nat.le_of_ble_eq_true rfl)⟩ dL_law_794) (fun r2 I1 F1 H locs w2 hM hR Wd => ?_)
  have hrl := hrel _ _ _ _ _ w1 w2
  have hB : RelX ad ca cel1 I1 F1 := hrl
  refine lv_pop C.1 C.2.1 dL_law_797 rfl ?_
  refine lv_goto (tgt := 801) C.1 C.2.1 dL_law_798 (by decide) ?_
  exact tail cel1 I1 F1 _ _ _ hB hM hR Wd hl
