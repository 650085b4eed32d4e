set_option maxHeartbeats 4000000 in
set_option maxRecDepth 100000 in
theorem whole_start {p : Program} {e : Jvm.Env} {s : State} {m : MethodId} {below : List Frame} {meth : Method} {c : Code} (l : Launch) {b L : Nat} {xs : Nat → Int32} (hL : L ≤ 3072) (C0 : lw_At p s m meth c b L xs) : W p l e room_1 s m #[Value.ref b] below meth c s.heap [] 0 0 (lw_Z below #[Value.ref b] s) (entryFrame m ([Value.ref b] : List Value).toArray 4) := by
  obtain ⟨hx, hb, hrt, hml, hown, hts, hX, hbl, hlocks, hgv⟩ := id C0
  have htg : ∀ w ∈ gG, w.before #[Value.ref b] s = true := fun w h => hts w (List.mem_filter.mp h).1
  have C : CallFix p m c cL_law 4 s #[Value.ref b] gG RL := ⟨hx, hb, hml, hown, htg⟩
  have aks : aK s := ⟨va_AO.of (hts _ tb_ao1), va_AO.of (hts _ tb_ao2), va_AOA.of (hts _ tb_ao3), va_Nw.of (by decide) (hts _ tb_nest)⟩
  obtain ⟨D, hKD⟩ := law_D htg
  obtain ⟨A, hAe⟩ : ∃ A : Nat → Prop, A = fun q => s.heap.size ≤ q := ⟨_, rfl⟩
  have hbA : ¬ A b := by rw [hAe]; exact Nat.not_le.mpr hbl
  have hAn : ∀ a : Nat, a < s.heap.size → ¬ A a := fun a ha => by rw [hAe]; exact Nat.not_le.mpr ha
  obtain ⟨adK, adV, hET⟩ := law_sT hts hgv hAn
  obtain ⟨adK2, adV2, hEM⟩ := law_sM hts hgv hAn
  have Wd : wX D [] s [] s.heap A s.heap [] := ⟨hKD, fun k q h => by simp at h, ⟨fun i j p q h => by simp at h, fun k q h => by simp at h⟩, va_S.rf, fun q h => by rw [hAe]; exact h⟩
  refine k_locals (Nat.le_of_ble_eq_true rfl) [(0, .ref b)] rfl (fun ls hl => ?_)
  refine k_new C Wd KX11 cl_L_7 is_X11 in_X11 [.null, .int 0, .null, .null, .null, .null, .null, .null] (by decide +kernel) (cells' := 1) (slots' := 8) (Nat.le_of_ble_eq_true rfl) (Nat.le_of_ble_eq_true rfl) (by decide) (by decide) dL_law_0 (fun qx H Wd => ?_)
  have Wd : wX D [] s [(qx, .inr (11, [.null, .int 0, .null, .null, .null, .null, .null, .null]))] _ A s.heap _ := Wd
  refine lv_dup C.1 C.2.1 dL_law_3 rfl ?_
  refine k_cv (t1 := fun (u : (Nat → Nat) × (Nat → ClassId) × (Nat → Cl)) => tC u.2.1) (w1 := fun u => wN NC u.2.2) Wd [0] [] rfl (wr := []) rfl (by decide) (by decide) (cells' := 245) (slots' := 26237) (by decide) (by decide) (k_runI (rest := [.ref qx]) C aks Wd cs_L_9 (g_init l D qx _) [0] rfl (by decide) [] rfl rfl rfl ⟨(Nat.le_of_ble_eq_true rfl), (Nat.le_of_ble_eq_true rfl)⟩ hl.1 rfl rfl (Nat.le_of_ble_eq_true rfl) ⟨(Nat.le_of_ble_eq_true rfl), (Nat.le_of_ble_eq_true rfl)⟩ dL_law_4) (fun u H locs w1 Wd => ?_)
  obtain ⟨ad, ca, cel⟩ := u
  obtain ⟨e0, hZ⟩ := w1
  have e0 : ad 0 = qx := e0
  have Wd : wX D (tC ca) s (wN NC cel) H A s.heap locs := Wd
  refine lv_astore_n (lv' := [(1, .ref qx), (0, .ref b)]) C.1 C.2.1 dL_law_7 rfl hl (by decide) rfl (fun ls hl => ?_)
  refine k_new C Wd KX12 cl_L_10 is_X12 in_X12 [.null, .null, .null, .null, .int 0, .int 0, .null, .int 0, .int 0, .int 0, .int 0, .int 0, .int 0, .int 0, .int 0, .int 0, .int 0, .int 0, .int 0, .int 0, .int 0, .int 0, .int 0, .int 0, .null, .null, .null, .null, .null, .null, .int 0, .int 0, .int 0, .int 0, .null, .null, .null, .int 0, .int 0, .int 0, .int 0, .null, .null, .int 0, .null, .null, .int 0, .null, .int 0, .null, .null, .null, .int 0, .null, .null, .null] (by decide +kernel) (cells' := 246) (slots' := 26293) (Nat.le_of_ble_eq_true rfl) (Nat.le_of_ble_eq_true rfl) (by decide) (by decide) dL_law_8 (fun h H Wd => ?_)
  refine lv_dup C.1 C.2.1 dL_law_11 rfl ?_
  refine k_cv (t1 := fun (u : (Nat → Nat) × (Nat → ClassId) × (Nat → Int) × (Nat → Int → Int)) => tM u.2.1) (w1 := fun u => wM h u.1 u.2.1 u.2.2.1 u.2.2.2) Wd [NC] (List.range NC) (wc := [(h, .inr (12, [.null, .null, .null, .null, .int 0, .int 0, .null, .int 0, .int 0, .int 0, .int 0, .int 0, .int 0, .int 0, .int 0, .int 0, .int 0, .int 0, .int 0, .int 0, .int 0, .int 0, .int 0, .int 0, .null, .null, .null, .null, .null, .null, .int 0, .int 0, .int 0, .int 0, .null, .null, .null, .int 0, .int 0, .int 0, .int 0, .null, .null, .int 0, .null, .null, .int 0, .null, .int 0, .null, .null, .null, .int 0, .null, .null, .null]))]) (one_r _ _ (wN_len cel)) (wr := wN NC cel) (ap_l _ _ (wN_len cel)) ndR (by decide +kernel) (cells' := 271) (slots' := 91330) (by decide) (by decide) (k_runI (rest := [.ref h]) C aks Wd cs_L_12 (q_init l D h _) [NC] (one_r _ _ (wN_len cel)) (by decide) [] rfl rfl rfl ⟨(Nat.le_of_ble_eq_true rfl), (Nat.le_of_ble_eq_true rfl)⟩ hl.1 rfl rfl (Nat.le_of_ble_eq_true rfl) ⟨(Nat.le_of_ble_eq_true rfl), (Nat.le_of_ble_eq_true rfl)⟩ dL_law_12) (fun u H locs w2 Wd => ?_)
  obtain ⟨adM, caM, I, F⟩ := u
  obtain ⟨hM, hR, hi1, hf1⟩ := w2
  have hM : MInv I F := hM
  have hR : rngS I F := hR
  have hi1 : I = I0m := hi1
  have hf1 : F = F0m := hf1
  have hI : RelX ad ca cel I F := by rw [hi1, hf1]; exact RelX0 hZ
  have Wd : wX D (tC ca ++ tM caM) s (wN NC cel ++ wM h adM caM I F) H A s.heap locs := Wd
  refine lv_astore_n (lv' := [(2, .ref h), (1, .ref qx), (0, .ref b)]) C.1 C.2.1 dL_law_15 rfl hl (by decide) rfl (fun ls hl => ?_)
  refine lv_iconst (v := 0) C.1 C.2.1 dL_law_16 (by decide) ?_
  refine lv_istore_n (lv' := [(3, .int 0), (2, .ref h), (1, .ref qx), (0, .ref b)]) C.1 C.2.1 dL_law_17 rfl hl (by decide) rfl (fun ls hl => ?_)
  rw [← e0] at hl
  have hL : L ≤ 3072 := hL
  refine k_loopA (fun (u : (Nat → Cl) × (Nat → Int) × (Nat → Int → Int) × Int32) H locs ls => match u with | (cel, I, F, i) => 0 ≤ i.toInt ∧ i.toInt ≤ 3078 ∧ RelX ad ca cel I F ∧ MInv I F ∧ rngS I F ∧ wX D (tC ca ++ tM caM) s (wN NC cel ++ wM h adM caM I F) H A s.heap locs ∧ lv_has ls 4 [(3, .int i), (2, .ref h), (1, .ref (ad 0)), (0, .ref b)]) (fun (_ : (Nat → Cl) × (Nat → Int) × (Nat → Int → Int) × Int32) ls => F0 m 18 ls []) (fun (u : (Nat → Cl) × (Nat → Int) × (Nat → Int → Int) × Int32) => match u with | (_, _, _, i) => (3100 - i.toInt).toNat) (fun u H locs ls hi ih => ?_) (cel, I, F, 0) _ _ _ ⟨by decide, by decide, hI, hM, hR, Wd, hl⟩
  obtain ⟨cel, I, F, i⟩ := u
  obtain ⟨i0, i1, hI, hM, hR, Wd, hl⟩ := hi
  refine lv_iload_n C.1 C.2.1 dL_law_18 rfl (lv_at hl 0 rfl) ?_
  refine lv_aload_n C.1 C.2.1 dL_law_19 rfl (lv_at hl 3 rfl) ?_
  obtain ⟨n, en⟩ : ∃ z : Int32, Int32.ofNat L = z := ⟨_, rfl⟩
  have hn : n.toInt = (L : Int) := kz_len en (by omega)
  refine k_slen (v := n) C hX hbl hbA Wd en dL_law_20 ?_
  refine lv_bipush (v := 6) C.1 C.2.1 dL_law_21 (by decide) ?_
  obtain ⟨n6, en6⟩ : ∃ z : Int32, n - 6 = z := ⟨_, rfl⟩
  have hn6 : n6.toInt = n.toInt - 6 := kz_subc en6 (by decide) (by omega) (by omega)
  refine k_isub (v := n6) C en6 dL_law_23 ?_
  refine lv_icmp_gt (tgt := 807) C.1 C.2.1 dL_law_24 (by decide) (fun _ => ?_) (fun cg => ?_)
  · refine lv_iconst (v := 1) C.1 C.2.1 dL_law_807 (by decide) ?_
    refine va_forget (fun q hq => by have z9 := Wd.2.2.2.1.2.2 q hq; rw [hAe] at z9; exact z9) ?_
    refine W.widen (k := 600000) (n := 7302250) (by decide) (by decide) ?_
    exact lw_ret C.1 C.2.1 hrt hlocks dL_law_808
  have i6 : i.toInt + 6 ≤ (L : Int) := by have := kz_nlt cg; omega
  have tail : ∀ (cel : Nat → Cl) (I : Nat → Int) (F : Nat → Int → Int) (H : Heap) (locs : List Loc) (ls : Array Slot), RelX ad ca cel I F → MInv I F → rngS I F → wX D (tC ca ++ tM caM) s (wN NC cel ++ wM h adM caM I F) H A s.heap locs → lv_has ls 4 [(3, .int i), (2, .ref h), (1, .ref (ad 0)), (0, .ref b)] → W p l e room_1 s m #[Value.ref b] below meth c H locs 271 91330 (lw_Z below #[Value.ref b] s) (F0 m 801 ls []) := by
    intro cel I F H locs ls hI hM hR Wd hl
    obtain ⟨j, ej⟩ : ∃ z : Int32, i + 6 = z := ⟨_, rfl⟩
    have ij : j.toInt = i.toInt + 6 := kz_addc ej (by decide) (by omega) (by omega)
    refine lv_iinc (v := j) (lv' := [(3, .int j), (2, .ref h), (1, .ref (ad 0)), (0, .ref b)]) C.1 C.2.1 dL_law_801 hl (k := 0) rfl ej (by decide) rfl (fun ls hl => ?_)
    refine lv_goto (tgt := 18) C.1 C.2.1 dL_law_804 (by decide) ?_
    exact ih (cel, I, F, j) _ _ _ ⟨by omega, by omega, hI, hM, hR, Wd, hl⟩ (by show (3100 - j.toInt).toNat < (3100 - i.toInt).toNat; omega)
  refine lv_aload_n C.1 C.2.1 dL_law_27 rfl (lv_at hl 3 rfl) ?_
  refine lv_iload_n C.1 C.2.1 dL_law_28 rfl (lv_at hl 0 rfl) ?_
  obtain ⟨y0, ey0⟩ : ∃ z : Int32, xs i.toNatClampNeg = z := ⟨_, rfl⟩
  refine k_sld (v := y0) C hX hbl hbA Wd (vp_in_iff.mpr ⟨by omega, by omega⟩) ey0 dL_law_29 ?_
  refine lv_bipush (v := 31) C.1 C.2.1 dL_law_30 (by decide) ?_
  obtain ⟨z, ez⟩ : ∃ z : Int32, y0 &&& 31 = z := ⟨_, rfl⟩
  refine k_iand (v := z) C ez dL_law_32 ?_
  by_cases cz0 : z = 0
  · subst cz0
    refine lv_tableIn (off := 91) (tgt := 124) C.1 C.2.1 dL_law_33 (by decide) (by decide) (by decide) (by decide) ?_
    exact law_feed C aks hX hbl hbA hET hEM hL i0 i6 hI hM hR tail Wd hl
  by_cases cz1 : z = 1
  · subst cz1
    refine lv_tableIn (off := 154) (tgt := 187) C.1 C.2.1 dL_law_33 (by decide) (by decide) (by decide) (by decide) ?_
    exact law_end C aks hX hbl hbA hET hEM hL i0 i6 hI hM hR tail Wd hl
  by_cases cz2 : z = 2
  · subst cz2
    refine lv_tableIn (off := 177) (tgt := 210) C.1 C.2.1 dL_law_33 (by decide) (by decide) (by decide) (by decide) ?_
    exact law_program C aks hX hbl hbA hET hEM hL i0 i6 hI hM hR tail Wd hl
  by_cases cz3 : z = 3
  · subst cz3
    refine lv_tableIn (off := 200) (tgt := 233) C.1 C.2.1 dL_law_33 (by decide) (by decide) (by decide) (by decide) ?_
    exact law_rule C aks hX hbl hbA hET hEM hL i0 i6 hI hM hR tail Wd hl
  by_cases cz4 : z = 4
  · subst cz4
    refine lv_tableIn (off := 213) (tgt := 246) C.1 C.2.1 dL_law_33 (by decide) (by decide) (by decide) (by decide) ?_
    exact law_fault C aks hX hbl hbA hET hEM hL i0 i6 hI hM hR tail Wd hl
  by_cases cz5 : z = 5
  · subst cz5
    refine lv_tableIn (off := 236) (tgt := 269) C.1 C.2.1 dL_law_33 (by decide) (by decide) (by decide) (by decide) ?_
    exact law_at C aks hX hbl hbA hET hEM hL i0 i6 hI hM hR tail Wd hl
  by_cases cz6 : z = 6
  · subst cz6
    refine lv_tableIn (off := 269) (tgt := 302) C.1 C.2.1 dL_law_33 (by decide) (by decide) (by decide) (by decide) ?_
    exact law_size C aks hX hbl hbA hET hEM hL i0 i6 hI hM hR tail Wd hl
  by_cases cz7 : z = 7
  · subst cz7
    refine lv_tableIn (off := 302) (tgt := 335) C.1 C.2.1 dL_law_33 (by decide) (by decide) (by decide) (by decide) ?_
    exact law_run C aks hX hbl hbA hET hEM hL i0 i6 hI hM hR tail Wd hl
  by_cases cz8 : z = 8
  · subst cz8
    refine lv_tableIn (off := 355) (tgt := 388) C.1 C.2.1 dL_law_33 (by decide) (by decide) (by decide) (by decide) ?_
    exact law_judge C aks hX hbl hbA hET hEM hL i0 i6 hI hM hR tail Wd hl
  by_cases cz9 : z = 9
  · subst cz9
    refine lv_tableIn (off := 398) (tgt := 431) C.1 C.2.1 dL_law_33 (by decide) (by decide) (by decide) (by decide) ?_
    exact law_ruleOf C aks hX hbl hbA hET hEM hL i0 i6 hI hM hR tail Wd hl
  by_cases cz10 : z = 10
  · subst cz10
    refine lv_tableIn (off := 431) (tgt := 464) C.1 C.2.1 dL_law_33 (by decide) (by decide) (by decide) (by decide) ?_
    exact law_places C aks hX hbl hbA hET hEM hL i0 i6 hI hM hR tail Wd hl
  by_cases cz11 : z = 11
  · subst cz11
    refine lv_tableIn (off := 464) (tgt := 497) C.1 C.2.1 dL_law_33 (by decide) (by decide) (by decide) (by decide) ?_
    exact law_apply C aks hX hbl hbA hET hEM hL i0 i6 hI hM hR tail Wd hl
  by_cases cz12 : z = 12
  · subst cz12
    refine lv_tableIn (off := 517) (tgt := 550) C.1 C.2.1 dL_law_33 (by decide) (by decide) (by decide) (by decide) ?_
    exact law_item C aks hX hbl hbA hET hEM hL i0 i6 hI hM hR tail Wd hl
  by_cases cz13 : z = 13
  · subst cz13
    refine lv_tableIn (off := 550) (tgt := 583) C.1 C.2.1 dL_law_33 (by decide) (by decide) (by decide) (by decide) ?_
    exact law_clear C aks hX hbl hbA hET hEM hL i0 i6 hI hM hR tail Wd hl
  by_cases cz14 : z = 14
  · subst cz14
    refine lv_tableIn (off := 573) (tgt := 606) C.1 C.2.1 dL_law_33 (by decide) (by decide) (by decide) (by decide) ?_
    exact law_make C aks hX hbl hbA hET hEM hL i0 i6 hI hM hR tail Wd hl
  by_cases cz15 : z = 15
  · subst cz15
    refine lv_tableIn (off := 616) (tgt := 649) C.1 C.2.1 dL_law_33 (by decide) (by decide) (by decide) (by decide) ?_
    exact law_blame C aks hX hbl hbA hET hEM hL i0 i6 hI hM hR tail Wd hl
  by_cases cz16 : z = 16
  · subst cz16
    refine lv_tableIn (off := 649) (tgt := 682) C.1 C.2.1 dL_law_33 (by decide) (by decide) (by decide) (by decide) ?_
    exact law_cut C aks hX hbl hbA hET hEM hL i0 i6 hI hM hR tail Wd hl
  by_cases cz17 : z = 17
  · subst cz17
    refine lv_tableIn (off := 692) (tgt := 725) C.1 C.2.1 dL_law_33 (by decide) (by decide) (by decide) (by decide) ?_
    exact law_registers C aks hX hbl hbA hET hEM hL i0 i6 hI hM hR tail Wd hl
  by_cases cz18 : z = 18
  · subst cz18
    refine lv_tableIn (off := 725) (tgt := 758) C.1 C.2.1 dL_law_33 (by decide) (by decide) (by decide) (by decide) ?_
    exact law_clash C aks hX hbl hbA hET hEM hL i0 i6 hI hM hR tail Wd hl
  refine lv_tableOut (tgt := 801) C.1 C.2.1 dL_law_33 (by
    have q : ∀ k : Int32, ¬ z = k → ¬ z.toInt = k.toInt := fun k hk e => hk (kz_inj e)
    have q0 := q 0 cz0
    have t0 : (0 : Int32).toInt = 0 := by decide
    have q1 := q 1 cz1
    have t1 : (1 : Int32).toInt = 1 := by decide
    have q2 := q 2 cz2
    have t2 : (2 : Int32).toInt = 2 := by decide
    have q3 := q 3 cz3
    have t3 : (3 : Int32).toInt = 3 := by decide
    have q4 := q 4 cz4
    have t4 : (4 : Int32).toInt = 4 := by decide
    have q5 := q 5 cz5
    have t5 : (5 : Int32).toInt = 5 := by decide
    have q6 := q 6 cz6
    have t6 : (6 : Int32).toInt = 6 := by decide
    have q7 := q 7 cz7
    have t7 : (7 : Int32).toInt = 7 := by decide
    have q8 := q 8 cz8
    have t8 : (8 : Int32).toInt = 8 := by decide
    have q9 := q 9 cz9
    have t9 : (9 : Int32).toInt = 9 := by decide
    have q10 := q 10 cz10
    have t10 : (10 : Int32).toInt = 10 := by decide
    have q11 := q 11 cz11
    have t11 : (11 : Int32).toInt = 11 := by decide
    have q12 := q 12 cz12
    have t12 : (12 : Int32).toInt = 12 := by decide
    have q13 := q 13 cz13
    have t13 : (13 : Int32).toInt = 13 := by decide
    have q14 := q 14 cz14
    have t14 : (14 : Int32).toInt = 14 := by decide
    have q15 := q 15 cz15
    have t15 : (15 : Int32).toInt = 15 := by decide
    have q16 := q 16 cz16
    have t16 : (16 : Int32).toInt = 16 := by decide
    have q17 := q 17 cz17
    have t17 : (17 : Int32).toInt = 17 := by decide
    have q18 := q 18 cz18
    have t18 : (18 : Int32).toInt = 18 := by decide
    omega) (by decide) ?_
  exact tail cel I F _ _ _ hI hM hR Wd hl
