set_option maxHeartbeats 4000000 in
set_option maxRecDepth 100000 in
theorem kcX10_put (l : Launch) (D : va_G) (h0 h1 : Nat) (x0 : Int32) (a0 : ClassId) (sz : Nat)  : Met l yX10_put (Cond.code yX10_put cX10_put 3 none :: gG) { frames := 1, cells := 0, slots := 0, locals := 64 } (cPre D [(a0, .int)] [(h0, .inr (10, [.ref h1, .int 0, .int 0, .int 0, .int 0, .int 0])), (h1, .inl (a0, 800, .inl (fun _ => 0)))] sz [.ref h0, .int x0]) (va_Qv (fun (_ : Unit) => True) (fun u t => cB D (va_A [(h0, .inr (10, [.ref h1, .int 0, .int 0, .int 0, .int 0, .int 0])), (h1, .inl (a0, 800, .inl (fun _ => 0)))] sz) ((fun (_ : Unit) => ([] : List (ClassId × FieldType))) u) ((fun (_ : Unit) => ([(h0, .inr (10, [.ref h1, .int 4, .int 0, .int 0, .int 0, .int 0])), (h1, .inl (a0, 800, .inl (upd (upd (upd (upd (fun _ => 0) 0 (((x0.toUInt32 >>> ((24 : Int32).toUInt32 &&& Int32.toUInt32 31)).toInt32) &&& 255)) 1 (((x0.toUInt32 >>> ((16 : Int32).toUInt32 &&& Int32.toUInt32 31)).toInt32) &&& 255)) 2 (((x0.toUInt32 >>> ((8 : Int32).toUInt32 &&& Int32.toUInt32 31)).toInt32) &&& 255)) 3 (((x0.toUInt32 >>> ((0 : Int32).toUInt32 &&& Int32.toUInt32 31)).toInt32) &&& 255))))] : va_W)) u) t) (va_A [(h0, .inr (10, [.ref h1, .int 0, .int 0, .int 0, .int 0, .int 0])), (h1, .inl (a0, 800, .inl (fun _ => 0)))] sz)) 0 0 (va_A [(h0, .inr (10, [.ref h1, .int 0, .int 0, .int 0, .int 0, .int 0])), (h1, .inl (a0, 800, .inl (fun _ => 0)))] sz) := by
  refine Met.ofW (cc := cX10_put) (maxL := 3) (ret := none) (by decide) rfl ?_
  intro p e s m args below meth c s₁ B hml hv
  obtain ⟨rfl, aks, rfl, Wd⟩ := k_enter hv
  have C : CallFix p m c cX10_put 3 s _ gG RX10 := ⟨B.exec, B.bytes, hml, findClass_of_methodNamed B.named, fun w h => atoms_spec (ws := Cond.code yX10_put cX10_put 3 none :: gG) B.pre w (List.mem_cons_of_mem _ h)⟩
  have hr := B.returns
  have hlk := B.notSynchronized
  generalize va_A [(h0, .inr (10, [.ref h1, .int 0, .int 0, .int 0, .int 0, .int 0])), (h1, .inl (a0, 800, .inl (fun _ => 0)))] s.heap.size = A at Wd ⊢
  refine k_locals (Nat.le_of_ble_eq_true rfl) [(0, .ref h0), (1, .int x0)] rfl (fun ls hl => ?_)
  refine lv_bipush (v := 24) C.1 C.2.1 dX10_put_0 (by decide) ?_
  refine lv_istore_n (lv' := [(2, .int 24), (0, .ref h0), (1, .int x0)]) C.1 C.2.1 dX10_put_2 rfl hl (by decide) rfl (fun ls hl => ?_)
  refine lv_iload_n C.1 C.2.1 dX10_put_3 rfl (lv_at hl 0 rfl) ?_
  refine lv_if_lt (tgt := 51) C.1 C.2.1 dX10_put_4 (by decide) (fun c1075 => absurd c1075 (by decide)) (fun _ => ?_)
  refine lv_aload_n C.1 C.2.1 dX10_put_7 rfl (lv_at hl 1 rfl) ?_
  refine k_get C Wd KX10 0 1 rfl (by decide) fl_X10_15 rfl dX10_put_8 ?_
  refine lv_aload_n C.1 C.2.1 dX10_put_11 rfl (lv_at hl 1 rfl) ?_
  refine k_get C Wd KX10 0 0 rfl (by decide) fl_X10_11 rfl dX10_put_12 ?_
  refine k_alen (v := 800) C Wd 1 0 rfl rfl rfl dX10_put_15 ?_
  refine lv_icmp_ge (tgt := 51) C.1 C.2.1 dX10_put_16 (by decide) (fun c1076 => absurd c1076 (by decide)) (fun _ => ?_)
  refine lv_aload_n C.1 C.2.1 dX10_put_19 rfl (lv_at hl 1 rfl) ?_
  refine k_get C Wd KX10 0 0 rfl (by decide) fl_X10_11 rfl dX10_put_20 ?_
  refine lv_aload_n C.1 C.2.1 dX10_put_23 rfl (lv_at hl 1 rfl) ?_
  refine k_get C Wd KX10 0 1 rfl (by decide) fl_X10_15 rfl dX10_put_24 ?_
  refine lv_iload_n C.1 C.2.1 dX10_put_27 rfl (lv_at hl 2 rfl) ?_
  refine lv_iload_n C.1 C.2.1 dX10_put_28 rfl (lv_at hl 0 rfl) ?_
  refine lv_iushr (v := ((x0.toUInt32 >>> ((24 : Int32).toUInt32 &&& Int32.toUInt32 31)).toInt32)) C.1 C.2.1 dX10_put_29 rfl ?_
  refine lv_sipush (v := 255) C.1 C.2.1 dX10_put_30 (by decide) ?_
  refine k_iand (v := (((x0.toUInt32 >>> ((24 : Int32).toUInt32 &&& Int32.toUInt32 31)).toInt32) &&& 255)) C rfl dX10_put_33 ?_
  refine k_iast C Wd 1 0 [(h0, .inr (10, [.ref h1, .int 0, .int 0, .int 0, .int 0, .int 0])), (h1, .inl (a0, 800, .inl (upd (fun _ => 0) 0 (((x0.toUInt32 >>> ((24 : Int32).toUInt32 &&& Int32.toUInt32 31)).toInt32) &&& 255))))] rfl rfl (vp_in_iff.mpr (by decide)) rfl rfl dX10_put_34 (fun H locs Wd => ?_)
  refine lv_aload_n C.1 C.2.1 dX10_put_35 rfl (lv_at hl 1 rfl) ?_
  refine lv_dup C.1 C.2.1 dX10_put_36 rfl ?_
  refine k_get C Wd KX10 0 1 rfl (by decide) fl_X10_15 rfl dX10_put_37 ?_
  refine lv_iconst (v := 1) C.1 C.2.1 dX10_put_40 (by decide) ?_
  refine k_iadd (v := 1) C (by decide) dX10_put_41 ?_
  refine k_put C Wd KX10 0 1 [(h0, .inr (10, [.ref h1, .int 1, .int 0, .int 0, .int 0, .int 0])), (h1, .inl (a0, 800, .inl (upd (fun _ => 0) 0 (((x0.toUInt32 >>> ((24 : Int32).toUInt32 &&& Int32.toUInt32 31)).toInt32) &&& 255))))] rfl (by decide) fl_X10_15 rfl rfl rfl (Nat.le_of_ble_eq_true rfl) rfl dX10_put_42 (fun H locs Wd => ?_)
  refine lv_iinc (v := 16) (lv' := [(2, .int 16), (0, .ref h0), (1, .int x0)]) C.1 C.2.1 dX10_put_45 hl (k := 0) rfl (by decide) (by decide) rfl (fun ls hl => ?_)
  refine lv_goto (tgt := 3) C.1 C.2.1 dX10_put_48 (by decide) ?_
  refine lv_iload_n C.1 C.2.1 dX10_put_3 rfl (lv_at hl 0 rfl) ?_
  refine lv_if_lt (tgt := 51) C.1 C.2.1 dX10_put_4 (by decide) (fun c1077 => absurd c1077 (by decide)) (fun _ => ?_)
  refine lv_aload_n C.1 C.2.1 dX10_put_7 rfl (lv_at hl 1 rfl) ?_
  refine k_get C Wd KX10 0 1 rfl (by decide) fl_X10_15 rfl dX10_put_8 ?_
  refine lv_aload_n C.1 C.2.1 dX10_put_11 rfl (lv_at hl 1 rfl) ?_
  refine k_get C Wd KX10 0 0 rfl (by decide) fl_X10_11 rfl dX10_put_12 ?_
  refine k_alen (v := 800) C Wd 1 0 rfl rfl rfl dX10_put_15 ?_
  refine lv_icmp_ge (tgt := 51) C.1 C.2.1 dX10_put_16 (by decide) (fun c1078 => absurd c1078 (by decide)) (fun _ => ?_)
  refine lv_aload_n C.1 C.2.1 dX10_put_19 rfl (lv_at hl 1 rfl) ?_
  refine k_get C Wd KX10 0 0 rfl (by decide) fl_X10_11 rfl dX10_put_20 ?_
  refine lv_aload_n C.1 C.2.1 dX10_put_23 rfl (lv_at hl 1 rfl) ?_
  refine k_get C Wd KX10 0 1 rfl (by decide) fl_X10_15 rfl dX10_put_24 ?_
  refine lv_iload_n C.1 C.2.1 dX10_put_27 rfl (lv_at hl 2 rfl) ?_
  refine lv_iload_n C.1 C.2.1 dX10_put_28 rfl (lv_at hl 0 rfl) ?_
  refine lv_iushr (v := ((x0.toUInt32 >>> ((16 : Int32).toUInt32 &&& Int32.toUInt32 31)).toInt32)) C.1 C.2.1 dX10_put_29 rfl ?_
  refine lv_sipush (v := 255) C.1 C.2.1 dX10_put_30 (by decide) ?_
  refine k_iand (v := (((x0.toUInt32 >>> ((16 : Int32).toUInt32 &&& Int32.toUInt32 31)).toInt32) &&& 255)) C rfl dX10_put_33 ?_
  refine k_iast C Wd 1 0 [(h0, .inr (10, [.ref h1, .int 1, .int 0, .int 0, .int 0, .int 0])), (h1, .inl (a0, 800, .inl (upd (upd (fun _ => 0) 0 (((x0.toUInt32 >>> ((24 : Int32).toUInt32 &&& Int32.toUInt32 31)).toInt32) &&& 255)) 1 (((x0.toUInt32 >>> ((16 : Int32).toUInt32 &&& Int32.toUInt32 31)).toInt32) &&& 255))))] rfl rfl (vp_in_iff.mpr (by decide)) rfl rfl dX10_put_34 (fun H locs Wd => ?_)
  refine lv_aload_n C.1 C.2.1 dX10_put_35 rfl (lv_at hl 1 rfl) ?_
  refine lv_dup C.1 C.2.1 dX10_put_36 rfl ?_
  refine k_get C Wd KX10 0 1 rfl (by decide) fl_X10_15 rfl dX10_put_37 ?_
  refine lv_iconst (v := 1) C.1 C.2.1 dX10_put_40 (by decide) ?_
  refine k_iadd (v := 2) C (by decide) dX10_put_41 ?_
  refine k_put C Wd KX10 0 1 [(h0, .inr (10, [.ref h1, .int 2, .int 0, .int 0, .int 0, .int 0])), (h1, .inl (a0, 800, .inl (upd (upd (fun _ => 0) 0 (((x0.toUInt32 >>> ((24 : Int32).toUInt32 &&& Int32.toUInt32 31)).toInt32) &&& 255)) 1 (((x0.toUInt32 >>> ((16 : Int32).toUInt32 &&& Int32.toUInt32 31)).toInt32) &&& 255))))] rfl (by decide) fl_X10_15 rfl rfl rfl (Nat.le_of_ble_eq_true rfl) rfl dX10_put_42 (fun H locs Wd => ?_)
  refine lv_iinc (v := 8) (lv' := [(2, .int 8), (0, .ref h0), (1, .int x0)]) C.1 C.2.1 dX10_put_45 hl (k := 0) rfl (by decide) (by decide) rfl (fun ls hl => ?_)
  refine lv_goto (tgt := 3) C.1 C.2.1 dX10_put_48 (by decide) ?_
  refine lv_iload_n C.1 C.2.1 dX10_put_3 rfl (lv_at hl 0 rfl) ?_
  refine lv_if_lt (tgt := 51) C.1 C.2.1 dX10_put_4 (by decide) (fun c1079 => absurd c1079 (by decide)) (fun _ => ?_)
  refine lv_aload_n C.1 C.2.1 dX10_put_7 rfl (lv_at hl 1 rfl) ?_
  refine k_get C Wd KX10 0 1 rfl (by decide) fl_X10_15 rfl dX10_put_8 ?_
  refine lv_aload_n C.1 C.2.1 dX10_put_11 rfl (lv_at hl 1 rfl) ?_
  refine k_get C Wd KX10 0 0 rfl (by decide) fl_X10_11 rfl dX10_put_12 ?_
  refine k_alen (v := 800) C Wd 1 0 rfl rfl rfl dX10_put_15 ?_
  refine lv_icmp_ge (tgt := 51) C.1 C.2.1 dX10_put_16 (by decide) (fun c1080 => absurd c1080 (by decide)) (fun _ => ?_)
  refine lv_aload_n C.1 C.2.1 dX10_put_19 rfl (lv_at hl 1 rfl) ?_
  refine k_get C Wd KX10 0 0 rfl (by decide) fl_X10_11 rfl dX10_put_20 ?_
  refine lv_aload_n C.1 C.2.1 dX10_put_23 rfl (lv_at hl 1 rfl) ?_
  refine k_get C Wd KX10 0 1 rfl (by decide) fl_X10_15 rfl dX10_put_24 ?_
  refine lv_iload_n C.1 C.2.1 dX10_put_27 rfl (lv_at hl 2 rfl) ?_
  refine lv_iload_n C.1 C.2.1 dX10_put_28 rfl (lv_at hl 0 rfl) ?_
  refine lv_iushr (v := ((x0.toUInt32 >>> ((8 : Int32).toUInt32 &&& Int32.toUInt32 31)).toInt32)) C.1 C.2.1 dX10_put_29 rfl ?_
  refine lv_sipush (v := 255) C.1 C.2.1 dX10_put_30 (by decide) ?_
  refine k_iand (v := (((x0.toUInt32 >>> ((8 : Int32).toUInt32 &&& Int32.toUInt32 31)).toInt32) &&& 255)) C rfl dX10_put_33 ?_
  refine k_iast C Wd 1 0 [(h0, .inr (10, [.ref h1, .int 2, .int 0, .int 0, .int 0, .int 0])), (h1, .inl (a0, 800, .inl (upd (upd (upd (fun _ => 0) 0 (((x0.toUInt32 >>> ((24 : Int32).toUInt32 &&& Int32.toUInt32 31)).toInt32) &&& 255)) 1 (((x0.toUInt32 >>> ((16 : Int32).toUInt32 &&& Int32.toUInt32 31)).toInt32) &&& 255)) 2 (((x0.toUInt32 >>> ((8 : Int32).toUInt32 &&& Int32.toUInt32 31)).toInt32) &&& 255))))] rfl rfl (vp_in_iff.mpr (by decide)) rfl rfl dX10_put_34 (fun H locs Wd => ?_)
  refine lv_aload_n C.1 C.2.1 dX10_put_35 rfl (lv_at hl 1 rfl) ?_
  refine lv_dup C.1 C.2.1 dX10_put_36 rfl ?_
  refine k_get C Wd KX10 0 1 rfl (by decide) fl_X10_15 rfl dX10_put_37 ?_
  refine lv_iconst (v := 1) C.1 C.2.1 dX10_put_40 (by decide) ?_
  refine k_iadd (v := 3) C (by decide) dX10_put_41 ?_
  refine k_put C Wd KX10 0 1 [(h0, .inr (10, [.ref h1, .int 3, .int 0, .int 0, .int 0, .int 0])), (h1, .inl (a0, 800, .inl (upd (upd (upd (fun _ => 0) 0 (((x0.toUInt32 >>> ((24 : Int32).toUInt32 &&& Int32.toUInt32 31)).toInt32) &&& 255)) 1 (((x0.toUInt32 >>> ((16 : Int32).toUInt32 &&& Int32.toUInt32 31)).toInt32) &&& 255)) 2 (((x0.toUInt32 >>> ((8 : Int32).toUInt32 &&& Int32.toUInt32 31)).toInt32) &&& 255))))] rfl (by decide) fl_X10_15 rfl rfl rfl (Nat.le_of_ble_eq_true rfl) rfl dX10_put_42 (fun H locs Wd => ?_)
  refine lv_iinc (v := 0) (lv' := [(2, .int 0), (0, .ref h0), (1, .int x0)]) C.1 C.2.1 dX10_put_45 hl (k := 0) rfl (by decide) (by decide) rfl (fun ls hl => ?_)
  refine lv_goto (tgt := 3) C.1 C.2.1 dX10_put_48 (by decide) ?_
  refine lv_iload_n C.1 C.2.1 dX10_put_3 rfl (lv_at hl 0 rfl) ?_
  refine lv_if_lt (tgt := 51) C.1 C.2.1 dX10_put_4 (by decide) (fun c1081 => absurd c1081 (by decide)) (fun _ => ?_)
  refine lv_aload_n C.1 C.2.1 dX10_put_7 rfl (lv_at hl 1 rfl) ?_
  refine k_get C Wd KX10 0 1 rfl (by decide) fl_X10_15 rfl dX10_put_8 ?_
  refine lv_aload_n C.1 C.2.1 dX10_put_11 rfl (lv_at hl 1 rfl) ?_
  refine k_get C Wd KX10 0 0 rfl (by decide) fl_X10_11 rfl dX10_put_12 ?_
  refine k_alen (v := 800) C Wd 1 0 rfl rfl rfl dX10_put_15 ?_
  refine lv_icmp_ge (tgt := 51) C.1 C.2.1 dX10_put_16 (by decide) (fun c1082 => absurd c1082 (by decide)) (fun _ => ?_)
  refine lv_aload_n C.1 C.2.1 dX10_put_19 rfl (lv_at hl 1 rfl) ?_
  refine k_get C Wd KX10 0 0 rfl (by decide) fl_X10_11 rfl dX10_put_20 ?_
  refine lv_aload_n C.1 C.2.1 dX10_put_23 rfl (lv_at hl 1 rfl) ?_
  refine k_get C Wd KX10 0 1 rfl (by decide) fl_X10_15 rfl dX10_put_24 ?_
  refine lv_iload_n C.1 C.2.1 dX10_put_27 rfl (lv_at hl 2 rfl) ?_
  refine lv_iload_n C.1 C.2.1 dX10_put_28 rfl (lv_at hl 0 rfl) ?_
  refine lv_iushr (v := ((x0.toUInt32 >>> ((0 : Int32).toUInt32 &&& Int32.toUInt32 31)).toInt32)) C.1 C.2.1 dX10_put_29 rfl ?_
  refine lv_sipush (v := 255) C.1 C.2.1 dX10_put_30 (by decide) ?_
  refine k_iand (v := (((x0.toUInt32 >>> ((0 : Int32).toUInt32 &&& Int32.toUInt32 31)).toInt32) &&& 255)) C rfl dX10_put_33 ?_
  refine k_iast C Wd 1 0 [(h0, .inr (10, [.ref h1, .int 3, .int 0, .int 0, .int 0, .int 0])), (h1, .inl (a0, 800, .inl (upd (upd (upd (upd (fun _ => 0) 0 (((x0.toUInt32 >>> ((24 : Int32).toUInt32 &&& Int32.toUInt32 31)).toInt32) &&& 255)) 1 (((x0.toUInt32 >>> ((16 : Int32).toUInt32 &&& Int32.toUInt32 31)).toInt32) &&& 255)) 2 (((x0.toUInt32 >>> ((8 : Int32).toUInt32 &&& Int32.toUInt32 31)).toInt32) &&& 255)) 3 (((x0.toUInt32 >>> ((0 : Int32).toUInt32 &&& Int32.toUInt32 31)).toInt32) &&& 255))))] rfl rfl (vp_in_iff.mpr (by decide)) rfl rfl dX10_put_34 (fun H locs Wd => ?_)
  refine lv_aload_n C.1 C.2.1 dX10_put_35 rfl (lv_at hl 1 rfl) ?_
  refine lv_dup C.1 C.2.1 dX10_put_36 rfl ?_
  refine k_get C Wd KX10 0 1 rfl (by decide) fl_X10_15 rfl dX10_put_37 ?_
  refine lv_iconst (v := 1) C.1 C.2.1 dX10_put_40 (by decide) ?_
  refine k_iadd (v := 4) C (by decide) dX10_put_41 ?_
  refine k_put C Wd KX10 0 1 [(h0, .inr (10, [.ref h1, .int 4, .int 0, .int 0, .int 0, .int 0])), (h1, .inl (a0, 800, .inl (upd (upd (upd (upd (fun _ => 0) 0 (((x0.toUInt32 >>> ((24 : Int32).toUInt32 &&& Int32.toUInt32 31)).toInt32) &&& 255)) 1 (((x0.toUInt32 >>> ((16 : Int32).toUInt32 &&& Int32.toUInt32 31)).toInt32) &&& 255)) 2 (((x0.toUInt32 >>> ((8 : Int32).toUInt32 &&& Int32.toUInt32 31)).toInt32) &&& 255)) 3 (((x0.toUInt32 >>> ((0 : Int32).toUInt32 &&& Int32.toUInt32 31)).toInt32) &&& 255))))] rfl (by decide) fl_X10_15 rfl rfl rfl (Nat.le_of_ble_eq_true rfl) rfl dX10_put_42 (fun H locs Wd => ?_)
  refine lv_iinc (v := (-8)) (lv' := [(2, .int (-8)), (0, .ref h0), (1, .int x0)]) C.1 C.2.1 dX10_put_45 hl (k := 0) rfl (by decide) (by decide) rfl (fun ls hl => ?_)
  refine lv_goto (tgt := 3) C.1 C.2.1 dX10_put_48 (by decide) ?_
  refine lv_iload_n C.1 C.2.1 dX10_put_3 rfl (lv_at hl 0 rfl) ?_
  refine lv_if_lt (tgt := 51) C.1 C.2.1 dX10_put_4 (by decide) (fun _ => ?_) (fun c1083 => absurd c1083 (by decide))
  exact k_vret C hr hlk Wd () trivial [0, 1] rfl (by decide) [] rfl (by decide) (by decide) dX10_put_51
set_option maxHeartbeats 4000000 in
set_option maxRecDepth 100000 in
theorem kcX10_put_v1 (l : Launch) (D : va_G) (h0 h1 : Nat) (x0 : Int32) (f0 : Nat → Int32) (a0 : ClassId) (sz : Nat)  : Met l yX10_put (Cond.code yX10_put cX10_put 3 none :: gG) { frames := 1, cells := 0, slots := 0, locals := 64 } (cPre D [(a0, .int)] [(h0, .inr (10, [.ref h1, .int 4, .int 0, .int 0, .int 0, .int 0])), (h1, .inl (a0, 800, .inl f0))] sz [.ref h0, .int x0]) (va_Qv (fun (_ : Unit) => True) (fun u t => cB D (va_A [(h0, .inr (10, [.ref h1, .int 4, .int 0, .int 0, .int 0, .int 0])), (h1, .inl (a0, 800, .inl f0))] sz) ((fun (_ : Unit) => ([] : List (ClassId × FieldType))) u) ((fun (_ : Unit) => ([(h0, .inr (10, [.ref h1, .int 8, .int 0, .int 0, .int 0, .int 0])), (h1, .inl (a0, 800, .inl (upd (upd (upd (upd f0 4 (((x0.toUInt32 >>> ((24 : Int32).toUInt32 &&& Int32.toUInt32 31)).toInt32) &&& 255)) 5 (((x0.toUInt32 >>> ((16 : Int32).toUInt32 &&& Int32.toUInt32 31)).toInt32) &&& 255)) 6 (((x0.toUInt32 >>> ((8 : Int32).toUInt32 &&& Int32.toUInt32 31)).toInt32) &&& 255)) 7 (((x0.toUInt32 >>> ((0 : Int32).toUInt32 &&& Int32.toUInt32 31)).toInt32) &&& 255))))] : va_W)) u) t) (va_A [(h0, .inr (10, [.ref h1, .int 4, .int 0, .int 0, .int 0, .int 0])), (h1, .inl (a0, 800, .inl f0))] sz)) 0 0 (va_A [(h0, .inr (10, [.ref h1, .int 4, .int 0, .int 0, .int 0, .int 0])), (h1, .inl (a0, 800, .inl f0))] sz) := by
  refine Met.ofW (cc := cX10_put) (maxL := 3) (ret := none) (by decide) rfl ?_
  intro p e s m args below meth c s₁ B hml hv
  obtain ⟨rfl, aks, rfl, Wd⟩ := k_enter hv
  have C : CallFix p m c cX10_put 3 s _ gG RX10 := ⟨B.exec, B.bytes, hml, findClass_of_methodNamed B.named, fun w h => atoms_spec (ws := Cond.code yX10_put cX10_put 3 none :: gG) B.pre w (List.mem_cons_of_mem _ h)⟩
  have hr := B.returns
  have hlk := B.notSynchronized
  generalize va_A [(h0, .inr (10, [.ref h1, .int 4, .int 0, .int 0, .int 0, .int 0])), (h1, .inl (a0, 800, .inl f0))] s.heap.size = A at Wd ⊢
  refine k_locals (Nat.le_of_ble_eq_true rfl) [(0, .ref h0), (1, .int x0)] rfl (fun ls hl => ?_)
  refine lv_bipush (v := 24) C.1 C.2.1 dX10_put_0 (by decide) ?_
  refine lv_istore_n (lv' := [(2, .int 24), (0, .ref h0), (1, .int x0)]) C.1 C.2.1 dX10_put_2 rfl hl (by decide) rfl (fun ls hl => ?_)
  refine lv_iload_n C.1 C.2.1 dX10_put_3 rfl (lv_at hl 0 rfl) ?_
  refine lv_if_lt (tgt := 51) C.1 C.2.1 dX10_put_4 (by decide) (fun c1094 => absurd c1094 (by decide)) (fun _ => ?_)
  refine lv_aload_n C.1 C.2.1 dX10_put_7 rfl (lv_at hl 1 rfl) ?_
  refine k_get C Wd KX10 0 1 rfl (by decide) fl_X10_15 rfl dX10_put_8 ?_
  refine lv_aload_n C.1 C.2.1 dX10_put_11 rfl (lv_at hl 1 rfl) ?_
  refine k_get C Wd KX10 0 0 rfl (by decide) fl_X10_11 rfl dX10_put_12 ?_
  refine k_alen (v := 800) C Wd 1 0 rfl rfl rfl dX10_put_15 ?_
  refine lv_icmp_ge (tgt := 51) C.1 C.2.1 dX10_put_16 (by decide) (fun c1095 => absurd c1095 (by decide)) (fun _ => ?_)
  refine lv_aload_n C.1 C.2.1 dX10_put_19 rfl (lv_at hl 1 rfl) ?_
  refine k_get C Wd KX10 0 0 rfl (by decide) fl_X10_11 rfl dX10_put_20 ?_
  refine lv_aload_n C.1 C.2.1 dX10_put_23 rfl (lv_at hl 1 rfl) ?_
  refine k_get C Wd KX10 0 1 rfl (by decide) fl_X10_15 rfl dX10_put_24 ?_
  refine lv_iload_n C.1 C.2.1 dX10_put_27 rfl (lv_at hl 2 rfl) ?_
  refine lv_iload_n C.1 C.2.1 dX10_put_28 rfl (lv_at hl 0 rfl) ?_
  refine lv_iushr (v := ((x0.toUInt32 >>> ((24 : Int32).toUInt32 &&& Int32.toUInt32 31)).toInt32)) C.1 C.2.1 dX10_put_29 rfl ?_
  refine lv_sipush (v := 255) C.1 C.2.1 dX10_put_30 (by decide) ?_
  refine k_iand (v := (((x0.toUInt32 >>> ((24 : Int32).toUInt32 &&& Int32.toUInt32 31)).toInt32) &&& 255)) C rfl dX10_put_33 ?_
  refine k_iast C Wd 1 0 [(h0, .inr (10, [.ref h1, .int 4, .int 0, .int 0, .int 0, .int 0])), (h1, .inl (a0, 800, .inl (upd f0 4 (((x0.toUInt32 >>> ((24 : Int32).toUInt32 &&& Int32.toUInt32 31)).toInt32) &&& 255))))] rfl rfl (vp_in_iff.mpr (by decide)) rfl rfl dX10_put_34 (fun H locs Wd => ?_)
  refine lv_aload_n C.1 C.2.1 dX10_put_35 rfl (lv_at hl 1 rfl) ?_
  refine lv_dup C.1 C.2.1 dX10_put_36 rfl ?_
  refine k_get C Wd KX10 0 1 rfl (by decide) fl_X10_15 rfl dX10_put_37 ?_
  refine lv_iconst (v := 1) C.1 C.2.1 dX10_put_40 (by decide) ?_
  refine k_iadd (v := 5) C (by decide) dX10_put_41 ?_
  refine k_put C Wd KX10 0 1 [(h0, .inr (10, [.ref h1, .int 5, .int 0, .int 0, .int 0, .int 0])), (h1, .inl (a0, 800, .inl (upd f0 4 (((x0.toUInt32 >>> ((24 : Int32).toUInt32 &&& Int32.toUInt32 31)).toInt32) &&& 255))))] rfl (by decide) fl_X10_15 rfl rfl rfl (Nat.le_of_ble_eq_true rfl) rfl dX10_put_42 (fun H locs Wd => ?_)
  refine lv_iinc (v := 16) (lv' := [(2, .int 16), (0, .ref h0), (1, .int x0)]) C.1 C.2.1 dX10_put_45 hl (k := 0) rfl (by decide) (by decide) rfl (fun ls hl => ?_)
  refine lv_goto (tgt := 3) C.1 C.2.1 dX10_put_48 (by decide) ?_
  refine lv_iload_n C.1 C.2.1 dX10_put_3 rfl (lv_at hl 0 rfl) ?_
  refine lv_if_lt (tgt := 51) C.1 C.2.1 dX10_put_4 (by decide) (fun c1096 => absurd c1096 (by decide)) (fun _ => ?_)
  refine lv_aload_n C.1 C.2.1 dX10_put_7 rfl (lv_at hl 1 rfl) ?_
  refine k_get C Wd KX10 0 1 rfl (by decide) fl_X10_15 rfl dX10_put_8 ?_
  refine lv_aload_n C.1 C.2.1 dX10_put_11 rfl (lv_at hl 1 rfl) ?_
  refine k_get C Wd KX10 0 0 rfl (by decide) fl_X10_11 rfl dX10_put_12 ?_
  refine k_alen (v := 800) C Wd 1 0 rfl rfl rfl dX10_put_15 ?_
  refine lv_icmp_ge (tgt := 51) C.1 C.2.1 dX10_put_16 (by decide) (fun c1097 => absurd c1097 (by decide)) (fun _ => ?_)
  refine lv_aload_n C.1 C.2.1 dX10_put_19 rfl (lv_at hl 1 rfl) ?_
  refine k_get C Wd KX10 0 0 rfl (by decide) fl_X10_11 rfl dX10_put_20 ?_
  refine lv_aload_n C.1 C.2.1 dX10_put_23 rfl (lv_at hl 1 rfl) ?_
  refine k_get C Wd KX10 0 1 rfl (by decide) fl_X10_15 rfl dX10_put_24 ?_
  refine lv_iload_n C.1 C.2.1 dX10_put_27 rfl (lv_at hl 2 rfl) ?_
  refine lv_iload_n C.1 C.2.1 dX10_put_28 rfl (lv_at hl 0 rfl) ?_
  refine lv_iushr (v := ((x0.toUInt32 >>> ((16 : Int32).toUInt32 &&& Int32.toUInt32 31)).toInt32)) C.1 C.2.1 dX10_put_29 rfl ?_
  refine lv_sipush (v := 255) C.1 C.2.1 dX10_put_30 (by decide) ?_
  refine k_iand (v := (((x0.toUInt32 >>> ((16 : Int32).toUInt32 &&& Int32.toUInt32 31)).toInt32) &&& 255)) C rfl dX10_put_33 ?_
  refine k_iast C Wd 1 0 [(h0, .inr (10, [.ref h1, .int 5, .int 0, .int 0, .int 0, .int 0])), (h1, .inl (a0, 800, .inl (upd (upd f0 4 (((x0.toUInt32 >>> ((24 : Int32).toUInt32 &&& Int32.toUInt32 31)).toInt32) &&& 255)) 5 (((x0.toUInt32 >>> ((16 : Int32).toUInt32 &&& Int32.toUInt32 31)).toInt32) &&& 255))))] rfl rfl (vp_in_iff.mpr (by decide)) rfl rfl dX10_put_34 (fun H locs Wd => ?_)
  refine lv_aload_n C.1 C.2.1 dX10_put_35 rfl (lv_at hl 1 rfl) ?_
  refine lv_dup C.1 C.2.1 dX10_put_36 rfl ?_
  refine k_get C Wd KX10 0 1 rfl (by decide) fl_X10_15 rfl dX10_put_37 ?_
  refine lv_iconst (v := 1) C.1 C.2.1 dX10_put_40 (by decide) ?_
  refine k_iadd (v := 6) C (by decide) dX10_put_41 ?_
  refine k_put C Wd KX10 0 1 [(h0, .inr (10, [.ref h1, .int 6, .int 0, .int 0, .int 0, .int 0])), (h1, .inl (a0, 800, .inl (upd (upd f0 4 (((x0.toUInt32 >>> ((24 : Int32).toUInt32 &&& Int32.toUInt32 31)).toInt32) &&& 255)) 5 (((x0.toUInt32 >>> ((16 : Int32).toUInt32 &&& Int32.toUInt32 31)).toInt32) &&& 255))))] rfl (by decide) fl_X10_15 rfl rfl rfl (Nat.le_of_ble_eq_true rfl) rfl dX10_put_42 (fun H locs Wd => ?_)
  refine lv_iinc (v := 8) (lv' := [(2, .int 8), (0, .ref h0), (1, .int x0)]) C.1 C.2.1 dX10_put_45 hl (k := 0) rfl (by decide) (by decide) rfl (fun ls hl => ?_)
  refine lv_goto (tgt := 3) C.1 C.2.1 dX10_put_48 (by decide) ?_
  refine lv_iload_n C.1 C.2.1 dX10_put_3 rfl (lv_at hl 0 rfl) ?_
  refine lv_if_lt (tgt := 51) C.1 C.2.1 dX10_put_4 (by decide) (fun c1098 => absurd c1098 (by decide)) (fun _ => ?_)
  refine lv_aload_n C.1 C.2.1 dX10_put_7 rfl (lv_at hl 1 rfl) ?_
  refine k_get C Wd KX10 0 1 rfl (by decide) fl_X10_15 rfl dX10_put_8 ?_
  refine lv_aload_n C.1 C.2.1 dX10_put_11 rfl (lv_at hl 1 rfl) ?_
  refine k_get C Wd KX10 0 0 rfl (by decide) fl_X10_11 rfl dX10_put_12 ?_
  refine k_alen (v := 800) C Wd 1 0 rfl rfl rfl dX10_put_15 ?_
  refine lv_icmp_ge (tgt := 51) C.1 C.2.1 dX10_put_16 (by decide) (fun c1099 => absurd c1099 (by decide)) (fun _ => ?_)
  refine lv_aload_n C.1 C.2.1 dX10_put_19 rfl (lv_at hl 1 rfl) ?_
  refine k_get C Wd KX10 0 0 rfl (by decide) fl_X10_11 rfl dX10_put_20 ?_
  refine lv_aload_n C.1 C.2.1 dX10_put_23 rfl (lv_at hl 1 rfl) ?_
  refine k_get C Wd KX10 0 1 rfl (by decide) fl_X10_15 rfl dX10_put_24 ?_
  refine lv_iload_n C.1 C.2.1 dX10_put_27 rfl (lv_at hl 2 rfl) ?_
  refine lv_iload_n C.1 C.2.1 dX10_put_28 rfl (lv_at hl 0 rfl) ?_
  refine lv_iushr (v := ((x0.toUInt32 >>> ((8 : Int32).toUInt32 &&& Int32.toUInt32 31)).toInt32)) C.1 C.2.1 dX10_put_29 rfl ?_
  refine lv_sipush (v := 255) C.1 C.2.1 dX10_put_30 (by decide) ?_
  refine k_iand (v := (((x0.toUInt32 >>> ((8 : Int32).toUInt32 &&& Int32.toUInt32 31)).toInt32) &&& 255)) C rfl dX10_put_33 ?_
  refine k_iast C Wd 1 0 [(h0, .inr (10, [.ref h1, .int 6, .int 0, .int 0, .int 0, .int 0])), (h1, .inl (a0, 800, .inl (upd (upd (upd f0 4 (((x0.toUInt32 >>> ((24 : Int32).toUInt32 &&& Int32.toUInt32 31)).toInt32) &&& 255)) 5 (((x0.toUInt32 >>> ((16 : Int32).toUInt32 &&& Int32.toUInt32 31)).toInt32) &&& 255)) 6 (((x0.toUInt32 >>> ((8 : Int32).toUInt32 &&& Int32.toUInt32 31)).toInt32) &&& 255))))] rfl rfl (vp_in_iff.mpr (by decide)) rfl rfl dX10_put_34 (fun H locs Wd => ?_)
  refine lv_aload_n C.1 C.2.1 dX10_put_35 rfl (lv_at hl 1 rfl) ?_
  refine lv_dup C.1 C.2.1 dX10_put_36 rfl ?_
  refine k_get C Wd KX10 0 1 rfl (by decide) fl_X10_15 rfl dX10_put_37 ?_
  refine lv_iconst (v := 1) C.1 C.2.1 dX10_put_40 (by decide) ?_
  refine k_iadd (v := 7) C (by decide) dX10_put_41 ?_
  refine k_put C Wd KX10 0 1 [(h0, .inr (10, [.ref h1, .int 7, .int 0, .int 0, .int 0, .int 0])), (h1, .inl (a0, 800, .inl (upd (upd (upd f0 4 (((x0.toUInt32 >>> ((24 : Int32).toUInt32 &&& Int32.toUInt32 31)).toInt32) &&& 255)) 5 (((x0.toUInt32 >>> ((16 : Int32).toUInt32 &&& Int32.toUInt32 31)).toInt32) &&& 255)) 6 (((x0.toUInt32 >>> ((8 : Int32).toUInt32 &&& Int32.toUInt32 31)).toInt32) &&& 255))))] rfl (by decide) fl_X10_15 rfl rfl rfl (Nat.le_of_ble_eq_true rfl) rfl dX10_put_42 (fun H locs Wd => ?_)
  refine lv_iinc (v := 0) (lv' := [(2, .int 0), (0, .ref h0), (1, .int x0)]) C.1 C.2.1 dX10_put_45 hl (k := 0) rfl (by decide) (by decide) rfl (fun ls hl => ?_)
  refine lv_goto (tgt := 3) C.1 C.2.1 dX10_put_48 (by decide) ?_
  refine lv_iload_n C.1 C.2.1 dX10_put_3 rfl (lv_at hl 0 rfl) ?_
  refine lv_if_lt (tgt := 51) C.1 C.2.1 dX10_put_4 (by decide) (fun c1100 => absurd c1100 (by decide)) (fun _ => ?_)
  refine lv_aload_n C.1 C.2.1 dX10_put_7 rfl (lv_at hl 1 rfl) ?_
  refine k_get C Wd KX10 0 1 rfl (by decide) fl_X10_15 rfl dX10_put_8 ?_
  refine lv_aload_n C.1 C.2.1 dX10_put_11 rfl (lv_at hl 1 rfl) ?_
  refine k_get C Wd KX10 0 0 rfl (by decide) fl_X10_11 rfl dX10_put_12 ?_
  refine k_alen (v := 800) C Wd 1 0 rfl rfl rfl dX10_put_15 ?_
  refine lv_icmp_ge (tgt := 51) C.1 C.2.1 dX10_put_16 (by decide) (fun c1101 => absurd c1101 (by decide)) (fun _ => ?_)
  refine lv_aload_n C.1 C.2.1 dX10_put_19 rfl (lv_at hl 1 rfl) ?_
  refine k_get C Wd KX10 0 0 rfl (by decide) fl_X10_11 rfl dX10_put_20 ?_
  refine lv_aload_n C.1 C.2.1 dX10_put_23 rfl (lv_at hl 1 rfl) ?_
  refine k_get C Wd KX10 0 1 rfl (by decide) fl_X10_15 rfl dX10_put_24 ?_
  refine lv_iload_n C.1 C.2.1 dX10_put_27 rfl (lv_at hl 2 rfl) ?_
  refine lv_iload_n C.1 C.2.1 dX10_put_28 rfl (lv_at hl 0 rfl) ?_
  refine lv_iushr (v := ((x0.toUInt32 >>> ((0 : Int32).toUInt32 &&& Int32.toUInt32 31)).toInt32)) C.1 C.2.1 dX10_put_29 rfl ?_
  refine lv_sipush (v := 255) C.1 C.2.1 dX10_put_30 (by decide) ?_
  refine k_iand (v := (((x0.toUInt32 >>> ((0 : Int32).toUInt32 &&& Int32.toUInt32 31)).toInt32) &&& 255)) C rfl dX10_put_33 ?_
  refine k_iast C Wd 1 0 [(h0, .inr (10, [.ref h1, .int 7, .int 0, .int 0, .int 0, .int 0])), (h1, .inl (a0, 800, .inl (upd (upd (upd (upd f0 4 (((x0.toUInt32 >>> ((24 : Int32).toUInt32 &&& Int32.toUInt32 31)).toInt32) &&& 255)) 5 (((x0.toUInt32 >>> ((16 : Int32).toUInt32 &&& Int32.toUInt32 31)).toInt32) &&& 255)) 6 (((x0.toUInt32 >>> ((8 : Int32).toUInt32 &&& Int32.toUInt32 31)).toInt32) &&& 255)) 7 (((x0.toUInt32 >>> ((0 : Int32).toUInt32 &&& Int32.toUInt32 31)).toInt32) &&& 255))))] rfl rfl (vp_in_iff.mpr (by decide)) rfl rfl dX10_put_34 (fun H locs Wd => ?_)
  refine lv_aload_n C.1 C.2.1 dX10_put_35 rfl (lv_at hl 1 rfl) ?_
  refine lv_dup C.1 C.2.1 dX10_put_36 rfl ?_
  refine k_get C Wd KX10 0 1 rfl (by decide) fl_X10_15 rfl dX10_put_37 ?_
  refine lv_iconst (v := 1) C.1 C.2.1 dX10_put_40 (by decide) ?_
  refine k_iadd (v := 8) C (by decide) dX10_put_41 ?_
  refine k_put C Wd KX10 0 1 [(h0, .inr (10, [.ref h1, .int 8, .int 0, .int 0, .int 0, .int 0])), (h1, .inl (a0, 800, .inl (upd (upd (upd (upd f0 4 (((x0.toUInt32 >>> ((24 : Int32).toUInt32 &&& Int32.toUInt32 31)).toInt32) &&& 255)) 5 (((x0.toUInt32 >>> ((16 : Int32).toUInt32 &&& Int32.toUInt32 31)).toInt32) &&& 255)) 6 (((x0.toUInt32 >>> ((8 : Int32).toUInt32 &&& Int32.toUInt32 31)).toInt32) &&& 255)) 7 (((x0.toUInt32 >>> ((0 : Int32).toUInt32 &&& Int32.toUInt32 31)).toInt32) &&& 255))))] rfl (by decide) fl_X10_15 rfl rfl rfl (Nat.le_of_ble_eq_true rfl) rfl dX10_put_42 (fun H locs Wd => ?_)
  refine lv_iinc (v := (-8)) (lv' := [(2, .int (-8)), (0, .ref h0), (1, .int x0)]) C.1 C.2.1 dX10_put_45 hl (k := 0) rfl (by decide) (by decide) rfl (fun ls hl => ?_)
  refine lv_goto (tgt := 3) C.1 C.2.1 dX10_put_48 (by decide) ?_
  refine lv_iload_n C.1 C.2.1 dX10_put_3 rfl (lv_at hl 0 rfl) ?_
  refine lv_if_lt (tgt := 51) C.1 C.2.1 dX10_put_4 (by decide) (fun _ => ?_) (fun c1102 => absurd c1102 (by decide))
  exact k_vret C hr hlk Wd () trivial [0, 1] rfl (by decide) [] rfl (by decide) (by decide) dX10_put_51
set_option maxHeartbeats 4000000 in
set_option maxRecDepth 100000 in
theorem kcX10_put_v2 (l : Launch) (D : va_G) (h0 h1 : Nat) (x0 : Int32) (f0 : Nat → Int32) (a0 : ClassId) (sz : Nat)  : Met l yX10_put (Cond.code yX10_put cX10_put 3 none :: gG) { frames := 1, cells := 0, slots := 0, locals := 64 } (cPre D [(a0, .int)] [(h0, .inr (10, [.ref h1, .int 8, .int 0, .int 0, .int 0, .int 0])), (h1, .inl (a0, 800, .inl f0))] sz [.ref h0, .int x0]) (va_Qv (fun (_ : Unit) => True) (fun u t => cB D (va_A [(h0, .inr (10, [.ref h1, .int 8, .int 0, .int 0, .int 0, .int 0])), (h1, .inl (a0, 800, .inl f0))] sz) ((fun (_ : Unit) => ([] : List (ClassId × FieldType))) u) ((fun (_ : Unit) => ([(h0, .inr (10, [.ref h1, .int 12, .int 0, .int 0, .int 0, .int 0])), (h1, .inl (a0, 800, .inl (upd (upd (upd (upd f0 8 (((x0.toUInt32 >>> ((24 : Int32).toUInt32 &&& Int32.toUInt32 31)).toInt32) &&& 255)) 9 (((x0.toUInt32 >>> ((16 : Int32).toUInt32 &&& Int32.toUInt32 31)).toInt32) &&& 255)) 10 (((x0.toUInt32 >>> ((8 : Int32).toUInt32 &&& Int32.toUInt32 31)).toInt32) &&& 255)) 11 (((x0.toUInt32 >>> ((0 : Int32).toUInt32 &&& Int32.toUInt32 31)).toInt32) &&& 255))))] : va_W)) u) t) (va_A [(h0, .inr (10, [.ref h1, .int 8, .int 0, .int 0, .int 0, .int 0])), (h1, .inl (a0, 800, .inl f0))] sz)) 0 0 (va_A [(h0, .inr (10, [.ref h1, .int 8, .int 0, .int 0, .int 0, .int 0])), (h1, .inl (a0, 800, .inl f0))] sz) := by
  refine Met.ofW (cc := cX10_put) (maxL := 3) (ret := none) (by decide) rfl ?_
  intro p e s m args below meth c s₁ B hml hv
  obtain ⟨rfl, aks, rfl, Wd⟩ := k_enter hv
  have C : CallFix p m c cX10_put 3 s _ gG RX10 := ⟨B.exec, B.bytes, hml, findClass_of_methodNamed B.named, fun w h => atoms_spec (ws := Cond.code yX10_put cX10_put 3 none :: gG) B.pre w (List.mem_cons_of_mem _ h)⟩
  have hr := B.returns
  have hlk := B.notSynchronized
  generalize va_A [(h0, .inr (10, [.ref h1, .int 8, .int 0, .int 0, .int 0, .int 0])), (h1, .inl (a0, 800, .inl f0))] s.heap.size = A at Wd ⊢
  refine k_locals (Nat.le_of_ble_eq_true rfl) [(0, .ref h0), (1, .int x0)] rfl (fun ls hl => ?_)
  refine lv_bipush (v := 24) C.1 C.2.1 dX10_put_0 (by decide) ?_
  refine lv_istore_n (lv' := [(2, .int 24), (0, .ref h0), (1, .int x0)]) C.1 C.2.1 dX10_put_2 rfl hl (by decide) rfl (fun ls hl => ?_)
  refine lv_iload_n C.1 C.2.1 dX10_put_3 rfl (lv_at hl 0 rfl) ?_
  refine lv_if_lt (tgt := 51) C.1 C.2.1 dX10_put_4 (by decide) (fun c1113 => absurd c1113 (by decide)) (fun _ => ?_)
  refine lv_aload_n C.1 C.2.1 dX10_put_7 rfl (lv_at hl 1 rfl) ?_
  refine k_get C Wd KX10 0 1 rfl (by decide) fl_X10_15 rfl dX10_put_8 ?_
  refine lv_aload_n C.1 C.2.1 dX10_put_11 rfl (lv_at hl 1 rfl) ?_
  refine k_get C Wd KX10 0 0 rfl (by decide) fl_X10_11 rfl dX10_put_12 ?_
  refine k_alen (v := 800) C Wd 1 0 rfl rfl rfl dX10_put_15 ?_
  refine lv_icmp_ge (tgt := 51) C.1 C.2.1 dX10_put_16 (by decide) (fun c1114 => absurd c1114 (by decide)) (fun _ => ?_)
  refine lv_aload_n C.1 C.2.1 dX10_put_19 rfl (lv_at hl 1 rfl) ?_
  refine k_get C Wd KX10 0 0 rfl (by decide) fl_X10_11 rfl dX10_put_20 ?_
  refine lv_aload_n C.1 C.2.1 dX10_put_23 rfl (lv_at hl 1 rfl) ?_
  refine k_get C Wd KX10 0 1 rfl (by decide) fl_X10_15 rfl dX10_put_24 ?_
  refine lv_iload_n C.1 C.2.1 dX10_put_27 rfl (lv_at hl 2 rfl) ?_
  refine lv_iload_n C.1 C.2.1 dX10_put_28 rfl (lv_at hl 0 rfl) ?_
  refine lv_iushr (v := ((x0.toUInt32 >>> ((24 : Int32).toUInt32 &&& Int32.toUInt32 31)).toInt32)) C.1 C.2.1 dX10_put_29 rfl ?_
  refine lv_sipush (v := 255) C.1 C.2.1 dX10_put_30 (by decide) ?_
  refine k_iand (v := (((x0.toUInt32 >>> ((24 : Int32).toUInt32 &&& Int32.toUInt32 31)).toInt32) &&& 255)) C rfl dX10_put_33 ?_
  refine k_iast C Wd 1 0 [(h0, .inr (10, [.ref h1, .int 8, .int 0, .int 0, .int 0, .int 0])), (h1, .inl (a0, 800, .inl (upd f0 8 (((x0.toUInt32 >>> ((24 : Int32).toUInt32 &&& Int32.toUInt32 31)).toInt32) &&& 255))))] rfl rfl (vp_in_iff.mpr (by decide)) rfl rfl dX10_put_34 (fun H locs Wd => ?_)
  refine lv_aload_n C.1 C.2.1 dX10_put_35 rfl (lv_at hl 1 rfl) ?_
  refine lv_dup C.1 C.2.1 dX10_put_36 rfl ?_
  refine k_get C Wd KX10 0 1 rfl (by decide) fl_X10_15 rfl dX10_put_37 ?_
  refine lv_iconst (v := 1) C.1 C.2.1 dX10_put_40 (by decide) ?_
  refine k_iadd (v := 9) C (by decide) dX10_put_41 ?_
  refine k_put C Wd KX10 0 1 [(h0, .inr (10, [.ref h1, .int 9, .int 0, .int 0, .int 0, .int 0])), (h1, .inl (a0, 800, .inl (upd f0 8 (((x0.toUInt32 >>> ((24 : Int32).toUInt32 &&& Int32.toUInt32 31)).toInt32) &&& 255))))] rfl (by decide) fl_X10_15 rfl rfl rfl (Nat.le_of_ble_eq_true rfl) rfl dX10_put_42 (fun H locs Wd => ?_)
  refine lv_iinc (v := 16) (lv' := [(2, .int 16), (0, .ref h0), (1, .int x0)]) C.1 C.2.1 dX10_put_45 hl (k := 0) rfl (by decide) (by decide) rfl (fun ls hl => ?_)
  refine lv_goto (tgt := 3) C.1 C.2.1 dX10_put_48 (by decide) ?_
  refine lv_iload_n C.1 C.2.1 dX10_put_3 rfl (lv_at hl 0 rfl) ?_
  refine lv_if_lt (tgt := 51) C.1 C.2.1 dX10_put_4 (by decide) (fun c1115 => absurd c1115 (by decide)) (fun _ => ?_)
  refine lv_aload_n C.1 C.2.1 dX10_put_7 rfl (lv_at hl 1 rfl) ?_
  refine k_get C Wd KX10 0 1 rfl (by decide) fl_X10_15 rfl dX10_put_8 ?_
  refine lv_aload_n C.1 C.2.1 dX10_put_11 rfl (lv_at hl 1 rfl) ?_
  refine k_get C Wd KX10 0 0 rfl (by decide) fl_X10_11 rfl dX10_put_12 ?_
  refine k_alen (v := 800) C Wd 1 0 rfl rfl rfl dX10_put_15 ?_
  refine lv_icmp_ge (tgt := 51) C.1 C.2.1 dX10_put_16 (by decide) (fun c1116 => absurd c1116 (by decide)) (fun _ => ?_)
  refine lv_aload_n C.1 C.2.1 dX10_put_19 rfl (lv_at hl 1 rfl) ?_
  refine k_get C Wd KX10 0 0 rfl (by decide) fl_X10_11 rfl dX10_put_20 ?_
  refine lv_aload_n C.1 C.2.1 dX10_put_23 rfl (lv_at hl 1 rfl) ?_
  refine k_get C Wd KX10 0 1 rfl (by decide) fl_X10_15 rfl dX10_put_24 ?_
  refine lv_iload_n C.1 C.2.1 dX10_put_27 rfl (lv_at hl 2 rfl) ?_
  refine lv_iload_n C.1 C.2.1 dX10_put_28 rfl (lv_at hl 0 rfl) ?_
  refine lv_iushr (v := ((x0.toUInt32 >>> ((16 : Int32).toUInt32 &&& Int32.toUInt32 31)).toInt32)) C.1 C.2.1 dX10_put_29 rfl ?_
  refine lv_sipush (v := 255) C.1 C.2.1 dX10_put_30 (by decide) ?_
  refine k_iand (v := (((x0.toUInt32 >>> ((16 : Int32).toUInt32 &&& Int32.toUInt32 31)).toInt32) &&& 255)) C rfl dX10_put_33 ?_
  refine k_iast C Wd 1 0 [(h0, .inr (10, [.ref h1, .int 9, .int 0, .int 0, .int 0, .int 0])), (h1, .inl (a0, 800, .inl (upd (upd f0 8 (((x0.toUInt32 >>> ((24 : Int32).toUInt32 &&& Int32.toUInt32 31)).toInt32) &&& 255)) 9 (((x0.toUInt32 >>> ((16 : Int32).toUInt32 &&& Int32.toUInt32 31)).toInt32) &&& 255))))] rfl rfl (vp_in_iff.mpr (by decide)) rfl rfl dX10_put_34 (fun H locs Wd => ?_)
  refine lv_aload_n C.1 C.2.1 dX10_put_35 rfl (lv_at hl 1 rfl) ?_
  refine lv_dup C.1 C.2.1 dX10_put_36 rfl ?_
  refine k_get C Wd KX10 0 1 rfl (by decide) fl_X10_15 rfl dX10_put_37 ?_
  refine lv_iconst (v := 1) C.1 C.2.1 dX10_put_40 (by decide) ?_
  refine k_iadd (v := 10) C (by decide) dX10_put_41 ?_
  refine k_put C Wd KX10 0 1 [(h0, .inr (10, [.ref h1, .int 10, .int 0, .int 0, .int 0, .int 0])), (h1, .inl (a0, 800, .inl (upd (upd f0 8 (((x0.toUInt32 >>> ((24 : Int32).toUInt32 &&& Int32.toUInt32 31)).toInt32) &&& 255)) 9 (((x0.toUInt32 >>> ((16 : Int32).toUInt32 &&& Int32.toUInt32 31)).toInt32) &&& 255))))] rfl (by decide) fl_X10_15 rfl rfl rfl (Nat.le_of_ble_eq_true rfl) rfl dX10_put_42 (fun H locs Wd => ?_)
  refine lv_iinc (v := 8) (lv' := [(2, .int 8), (0, .ref h0), (1, .int x0)]) C.1 C.2.1 dX10_put_45 hl (k := 0) rfl (by decide) (by decide) rfl (fun ls hl => ?_)
  refine lv_goto (tgt := 3) C.1 C.2.1 dX10_put_48 (by decide) ?_
  refine lv_iload_n C.1 C.2.1 dX10_put_3 rfl (lv_at hl 0 rfl) ?_
  refine lv_if_lt (tgt := 51) C.1 C.2.1 dX10_put_4 (by decide) (fun c1117 => absurd c1117 (by decide)) (fun _ => ?_)
  refine lv_aload_n C.1 C.2.1 dX10_put_7 rfl (lv_at hl 1 rfl) ?_
  refine k_get C Wd KX10 0 1 rfl (by decide) fl_X10_15 rfl dX10_put_8 ?_
  refine lv_aload_n C.1 C.2.1 dX10_put_11 rfl (lv_at hl 1 rfl) ?_
  refine k_get C Wd KX10 0 0 rfl (by decide) fl_X10_11 rfl dX10_put_12 ?_
  refine k_alen (v := 800) C Wd 1 0 rfl rfl rfl dX10_put_15 ?_
  refine lv_icmp_ge (tgt := 51) C.1 C.2.1 dX10_put_16 (by decide) (fun c1118 => absurd c1118 (by decide)) (fun _ => ?_)
  refine lv_aload_n C.1 C.2.1 dX10_put_19 rfl (lv_at hl 1 rfl) ?_
  refine k_get C Wd KX10 0 0 rfl (by decide) fl_X10_11 rfl dX10_put_20 ?_
  refine lv_aload_n C.1 C.2.1 dX10_put_23 rfl (lv_at hl 1 rfl) ?_
  refine k_get C Wd KX10 0 1 rfl (by decide) fl_X10_15 rfl dX10_put_24 ?_
  refine lv_iload_n C.1 C.2.1 dX10_put_27 rfl (lv_at hl 2 rfl) ?_
  refine lv_iload_n C.1 C.2.1 dX10_put_28 rfl (lv_at hl 0 rfl) ?_
  refine lv_iushr (v := ((x0.toUInt32 >>> ((8 : Int32).toUInt32 &&& Int32.toUInt32 31)).toInt32)) C.1 C.2.1 dX10_put_29 rfl ?_
  refine lv_sipush (v := 255) C.1 C.2.1 dX10_put_30 (by decide) ?_
  refine k_iand (v := (((x0.toUInt32 >>> ((8 : Int32).toUInt32 &&& Int32.toUInt32 31)).toInt32) &&& 255)) C rfl dX10_put_33 ?_
  refine k_iast C Wd 1 0 [(h0, .inr (10, [.ref h1, .int 10, .int 0, .int 0, .int 0, .int 0])), (h1, .inl (a0, 800, .inl (upd (upd (upd f0 8 (((x0.toUInt32 >>> ((24 : Int32).toUInt32 &&& Int32.toUInt32 31)).toInt32) &&& 255)) 9 (((x0.toUInt32 >>> ((16 : Int32).toUInt32 &&& Int32.toUInt32 31)).toInt32) &&& 255)) 10 (((x0.toUInt32 >>> ((8 : Int32).toUInt32 &&& Int32.toUInt32 31)).toInt32) &&& 255))))] rfl rfl (vp_in_iff.mpr (by decide)) rfl rfl dX10_put_34 (fun H locs Wd => ?_)
  refine lv_aload_n C.1 C.2.1 dX10_put_35 rfl (lv_at hl 1 rfl) ?_
  refine lv_dup C.1 C.2.1 dX10_put_36 rfl ?_
  refine k_get C Wd KX10 0 1 rfl (by decide) fl_X10_15 rfl dX10_put_37 ?_
  refine lv_iconst (v := 1) C.1 C.2.1 dX10_put_40 (by decide) ?_
  refine k_iadd (v := 11) C (by decide) dX10_put_41 ?_
  refine k_put C Wd KX10 0 1 [(h0, .inr (10, [.ref h1, .int 11, .int 0, .int 0, .int 0, .int 0])), (h1, .inl (a0, 800, .inl (upd (upd (upd f0 8 (((x0.toUInt32 >>> ((24 : Int32).toUInt32 &&& Int32.toUInt32 31)).toInt32) &&& 255)) 9 (((x0.toUInt32 >>> ((16 : Int32).toUInt32 &&& Int32.toUInt32 31)).toInt32) &&& 255)) 10 (((x0.toUInt32 >>> ((8 : Int32).toUInt32 &&& Int32.toUInt32 31)).toInt32) &&& 255))))] rfl (by decide) fl_X10_15 rfl rfl rfl (Nat.le_of_ble_eq_true rfl) rfl dX10_put_42 (fun H locs Wd => ?_)
  refine lv_iinc (v := 0) (lv' := [(2, .int 0), (0, .ref h0), (1, .int x0)]) C.1 C.2.1 dX10_put_45 hl (k := 0) rfl (by decide) (by decide) rfl (fun ls hl => ?_)
  refine lv_goto (tgt := 3) C.1 C.2.1 dX10_put_48 (by decide) ?_
  refine lv_iload_n C.1 C.2.1 dX10_put_3 rfl (lv_at hl 0 rfl) ?_
  refine lv_if_lt (tgt := 51) C.1 C.2.1 dX10_put_4 (by decide) (fun c1119 => absurd c1119 (by decide)) (fun _ => ?_)
  refine lv_aload_n C.1 C.2.1 dX10_put_7 rfl (lv_at hl 1 rfl) ?_
  refine k_get C Wd KX10 0 1 rfl (by decide) fl_X10_15 rfl dX10_put_8 ?_
  refine lv_aload_n C.1 C.2.1 dX10_put_11 rfl (lv_at hl 1 rfl) ?_
  refine k_get C Wd KX10 0 0 rfl (by decide) fl_X10_11 rfl dX10_put_12 ?_
  refine k_alen (v := 800) C Wd 1 0 rfl rfl rfl dX10_put_15 ?_
  refine lv_icmp_ge (tgt := 51) C.1 C.2.1 dX10_put_16 (by decide) (fun c1120 => absurd c1120 (by decide)) (fun _ => ?_)
  refine lv_aload_n C.1 C.2.1 dX10_put_19 rfl (lv_at hl 1 rfl) ?_
  refine k_get C Wd KX10 0 0 rfl (by decide) fl_X10_11 rfl dX10_put_20 ?_
  refine lv_aload_n C.1 C.2.1 dX10_put_23 rfl (lv_at hl 1 rfl) ?_
  refine k_get C Wd KX10 0 1 rfl (by decide) fl_X10_15 rfl dX10_put_24 ?_
  refine lv_iload_n C.1 C.2.1 dX10_put_27 rfl (lv_at hl 2 rfl) ?_
  refine lv_iload_n C.1 C.2.1 dX10_put_28 rfl (lv_at hl 0 rfl) ?_
  refine lv_iushr (v := ((x0.toUInt32 >>> ((0 : Int32).toUInt32 &&& Int32.toUInt32 31)).toInt32)) C.1 C.2.1 dX10_put_29 rfl ?_
  refine lv_sipush (v := 255) C.1 C.2.1 dX10_put_30 (by decide) ?_
  refine k_iand (v := (((x0.toUInt32 >>> ((0 : Int32).toUInt32 &&& Int32.toUInt32 31)).toInt32) &&& 255)) C rfl dX10_put_33 ?_
  refine k_iast C Wd 1 0 [(h0, .inr (10, [.ref h1, .int 11, .int 0, .int 0, .int 0, .int 0])), (h1, .inl (a0, 800, .inl (upd (upd (upd (upd f0 8 (((x0.toUInt32 >>> ((24 : Int32).toUInt32 &&& Int32.toUInt32 31)).toInt32) &&& 255)) 9 (((x0.toUInt32 >>> ((16 : Int32).toUInt32 &&& Int32.toUInt32 31)).toInt32) &&& 255)) 10 (((x0.toUInt32 >>> ((8 : Int32).toUInt32 &&& Int32.toUInt32 31)).toInt32) &&& 255)) 11 (((x0.toUInt32 >>> ((0 : Int32).toUInt32 &&& Int32.toUInt32 31)).toInt32) &&& 255))))] rfl rfl (vp_in_iff.mpr (by decide)) rfl rfl dX10_put_34 (fun H locs Wd => ?_)
  refine lv_aload_n C.1 C.2.1 dX10_put_35 rfl (lv_at hl 1 rfl) ?_
  refine lv_dup C.1 C.2.1 dX10_put_36 rfl ?_
  refine k_get C Wd KX10 0 1 rfl (by decide) fl_X10_15 rfl dX10_put_37 ?_
  refine lv_iconst (v := 1) C.1 C.2.1 dX10_put_40 (by decide) ?_
  refine k_iadd (v := 12) C (by decide) dX10_put_41 ?_
  refine k_put C Wd KX10 0 1 [(h0, .inr (10, [.ref h1, .int 12, .int 0, .int 0, .int 0, .int 0])), (h1, .inl (a0, 800, .inl (upd (upd (upd (upd f0 8 (((x0.toUInt32 >>> ((24 : Int32).toUInt32 &&& Int32.toUInt32 31)).toInt32) &&& 255)) 9 (((x0.toUInt32 >>> ((16 : Int32).toUInt32 &&& Int32.toUInt32 31)).toInt32) &&& 255)) 10 (((x0.toUInt32 >>> ((8 : Int32).toUInt32 &&& Int32.toUInt32 31)).toInt32) &&& 255)) 11 (((x0.toUInt32 >>> ((0 : Int32).toUInt32 &&& Int32.toUInt32 31)).toInt32) &&& 255))))] rfl (by decide) fl_X10_15 rfl rfl rfl (Nat.le_of_ble_eq_true rfl) rfl dX10_put_42 (fun H locs Wd => ?_)
  refine lv_iinc (v := (-8)) (lv' := [(2, .int (-8)), (0, .ref h0), (1, .int x0)]) C.1 C.2.1 dX10_put_45 hl (k := 0) rfl (by decide) (by decide) rfl (fun ls hl => ?_)
  refine lv_goto (tgt := 3) C.1 C.2.1 dX10_put_48 (by decide) ?_
  refine lv_iload_n C.1 C.2.1 dX10_put_3 rfl (lv_at hl 0 rfl) ?_
  refine lv_if_lt (tgt := 51) C.1 C.2.1 dX10_put_4 (by decide) (fun _ => ?_) (fun c1121 => absurd c1121 (by decide))
  exact k_vret C hr hlk Wd () trivial [0, 1] rfl (by decide) [] rfl (by decide) (by decide) dX10_put_51
set_option maxHeartbeats 4000000 in
set_option maxRecDepth 100000 in
theorem kcX10_put_v3 (l : Launch) (D : va_G) (h0 h1 : Nat) (x0 : Int32) (f0 : Nat → Int32) (a0 : ClassId) (sz : Nat)  : Met l yX10_put (Cond.code yX10_put cX10_put 3 none :: gG) { frames := 1, cells := 0, slots := 0, locals := 64 } (cPre D [(a0, .int)] [(h0, .inr (10, [.ref h1, .int 12, .int 0, .int 0, .int 0, .int 0])), (h1, .inl (a0, 800, .inl f0))] sz [.ref h0, .int x0]) (va_Qv (fun (_ : Unit) => True) (fun u t => cB D (va_A [(h0, .inr (10, [.ref h1, .int 12, .int 0, .int 0, .int 0, .int 0])), (h1, .inl (a0, 800, .inl f0))] sz) ((fun (_ : Unit) => ([] : List (ClassId × FieldType))) u) ((fun (_ : Unit) => ([(h0, .inr (10, [.ref h1, .int 16, .int 0, .int 0, .int 0, .int 0])), (h1, .inl (a0, 800, .inl (upd (upd (upd (upd f0 12 (((x0.toUInt32 >>> ((24 : Int32).toUInt32 &&& Int32.toUInt32 31)).toInt32) &&& 255)) 13 (((x0.toUInt32 >>> ((16 : Int32).toUInt32 &&& Int32.toUInt32 31)).toInt32) &&& 255)) 14 (((x0.toUInt32 >>> ((8 : Int32).toUInt32 &&& Int32.toUInt32 31)).toInt32) &&& 255)) 15 (((x0.toUInt32 >>> ((0 : Int32).toUInt32 &&& Int32.toUInt32 31)).toInt32) &&& 255))))] : va_W)) u) t) (va_A [(h0, .inr (10, [.ref h1, .int 12, .int 0, .int 0, .int 0, .int 0])), (h1, .inl (a0, 800, .inl f0))] sz)) 0 0 (va_A [(h0, .inr (10, [.ref h1, .int 12, .int 0, .int 0, .int 0, .int 0])), (h1, .inl (a0, 800, .inl f0))] sz) := by
  refine Met.ofW (cc := cX10_put) (maxL := 3) (ret := none) (by decide) rfl ?_
  intro p e s m args below meth c s₁ B hml hv
  obtain ⟨rfl, aks, rfl, Wd⟩ := k_enter hv
  have C : CallFix p m c cX10_put 3 s _ gG RX10 := ⟨B.exec, B.bytes, hml, findClass_of_methodNamed B.named, fun w h => atoms_spec (ws := Cond.code yX10_put cX10_put 3 none :: gG) B.pre w (List.mem_cons_of_mem _ h)⟩
  have hr := B.returns
  have hlk := B.notSynchronized
  generalize va_A [(h0, .inr (10, [.ref h1, .int 12, .int 0, .int 0, .int 0, .int 0])), (h1, .inl (a0, 800, .inl f0))] s.heap.size = A at Wd ⊢
  refine k_locals (Nat.le_of_ble_eq_true rfl) [(0, .ref h0), (1, .int x0)] rfl (fun ls hl => ?_)
  refine lv_bipush (v := 24) C.1 C.2.1 dX10_put_0 (by decide) ?_
  refine lv_istore_n (lv' := [(2, .int 24), (0, .ref h0), (1, .int x0)]) C.1 C.2.1 dX10_put_2 rfl hl (by decide) rfl (fun ls hl => ?_)
  refine lv_iload_n C.1 C.2.1 dX10_put_3 rfl (lv_at hl 0 rfl) ?_
  refine lv_if_lt (tgt := 51) C.1 C.2.1 dX10_put_4 (by decide) (fun c1132 => absurd c1132 (by decide)) (fun _ => ?_)
  refine lv_aload_n C.1 C.2.1 dX10_put_7 rfl (lv_at hl 1 rfl) ?_
  refine k_get C Wd KX10 0 1 rfl (by decide) fl_X10_15 rfl dX10_put_8 ?_
  refine lv_aload_n C.1 C.2.1 dX10_put_11 rfl (lv_at hl 1 rfl) ?_
  refine k_get C Wd KX10 0 0 rfl (by decide) fl_X10_11 rfl dX10_put_12 ?_
  refine k_alen (v := 800) C Wd 1 0 rfl rfl rfl dX10_put_15 ?_
  refine lv_icmp_ge (tgt := 51) C.1 C.2.1 dX10_put_16 (by decide) (fun c1133 => absurd c1133 (by decide)) (fun _ => ?_)
  refine lv_aload_n C.1 C.2.1 dX10_put_19 rfl (lv_at hl 1 rfl) ?_
  refine k_get C Wd KX10 0 0 rfl (by decide) fl_X10_11 rfl dX10_put_20 ?_
  refine lv_aload_n C.1 C.2.1 dX10_put_23 rfl (lv_at hl 1 rfl) ?_
  refine k_get C Wd KX10 0 1 rfl (by decide) fl_X10_15 rfl dX10_put_24 ?_
  refine lv_iload_n C.1 C.2.1 dX10_put_27 rfl (lv_at hl 2 rfl) ?_
  refine lv_iload_n C.1 C.2.1 dX10_put_28 rfl (lv_at hl 0 rfl) ?_
  refine lv_iushr (v := ((x0.toUInt32 >>> ((24 : Int32).toUInt32 &&& Int32.toUInt32 31)).toInt32)) C.1 C.2.1 dX10_put_29 rfl ?_
  refine lv_sipush (v := 255) C.1 C.2.1 dX10_put_30 (by decide) ?_
  refine k_iand (v := (((x0.toUInt32 >>> ((24 : Int32).toUInt32 &&& Int32.toUInt32 31)).toInt32) &&& 255)) C rfl dX10_put_33 ?_
  refine k_iast C Wd 1 0 [(h0, .inr (10, [.ref h1, .int 12, .int 0, .int 0, .int 0, .int 0])), (h1, .inl (a0, 800, .inl (upd f0 12 (((x0.toUInt32 >>> ((24 : Int32).toUInt32 &&& Int32.toUInt32 31)).toInt32) &&& 255))))] rfl rfl (vp_in_iff.mpr (by decide)) rfl rfl dX10_put_34 (fun H locs Wd => ?_)
  refine lv_aload_n C.1 C.2.1 dX10_put_35 rfl (lv_at hl 1 rfl) ?_
  refine lv_dup C.1 C.2.1 dX10_put_36 rfl ?_
  refine k_get C Wd KX10 0 1 rfl (by decide) fl_X10_15 rfl dX10_put_37 ?_
  refine lv_iconst (v := 1) C.1 C.2.1 dX10_put_40 (by decide) ?_
  refine k_iadd (v := 13) C (by decide) dX10_put_41 ?_
  refine k_put C Wd KX10 0 1 [(h0, .inr (10, [.ref h1, .int 13, .int 0, .int 0, .int 0, .int 0])), (h1, .inl (a0, 800, .inl (upd f0 12 (((x0.toUInt32 >>> ((24 : Int32).toUInt32 &&& Int32.toUInt32 31)).toInt32) &&& 255))))] rfl (by decide) fl_X10_15 rfl rfl rfl (Nat.le_of_ble_eq_true rfl) rfl dX10_put_42 (fun H locs Wd => ?_)
  refine lv_iinc (v := 16) (lv' := [(2, .int 16), (0, .ref h0), (1, .int x0)]) C.1 C.2.1 dX10_put_45 hl (k := 0) rfl (by decide) (by decide) rfl (fun ls hl => ?_)
  refine lv_goto (tgt := 3) C.1 C.2.1 dX10_put_48 (by decide) ?_
  refine lv_iload_n C.1 C.2.1 dX10_put_3 rfl (lv_at hl 0 rfl) ?_
  refine lv_if_lt (tgt := 51) C.1 C.2.1 dX10_put_4 (by decide) (fun c1134 => absurd c1134 (by decide)) (fun _ => ?_)
  refine lv_aload_n C.1 C.2.1 dX10_put_7 rfl (lv_at hl 1 rfl) ?_
  refine k_get C Wd KX10 0 1 rfl (by decide) fl_X10_15 rfl dX10_put_8 ?_
  refine lv_aload_n C.1 C.2.1 dX10_put_11 rfl (lv_at hl 1 rfl) ?_
  refine k_get C Wd KX10 0 0 rfl (by decide) fl_X10_11 rfl dX10_put_12 ?_
  refine k_alen (v := 800) C Wd 1 0 rfl rfl rfl dX10_put_15 ?_
  refine lv_icmp_ge (tgt := 51) C.1 C.2.1 dX10_put_16 (by decide) (fun c1135 => absurd c1135 (by decide)) (fun _ => ?_)
  refine lv_aload_n C.1 C.2.1 dX10_put_19 rfl (lv_at hl 1 rfl) ?_
  refine k_get C Wd KX10 0 0 rfl (by decide) fl_X10_11 rfl dX10_put_20 ?_
  refine lv_aload_n C.1 C.2.1 dX10_put_23 rfl (lv_at hl 1 rfl) ?_
  refine k_get C Wd KX10 0 1 rfl (by decide) fl_X10_15 rfl dX10_put_24 ?_
  refine lv_iload_n C.1 C.2.1 dX10_put_27 rfl (lv_at hl 2 rfl) ?_
  refine lv_iload_n C.1 C.2.1 dX10_put_28 rfl (lv_at hl 0 rfl) ?_
  refine lv_iushr (v := ((x0.toUInt32 >>> ((16 : Int32).toUInt32 &&& Int32.toUInt32 31)).toInt32)) C.1 C.2.1 dX10_put_29 rfl ?_
  refine lv_sipush (v := 255) C.1 C.2.1 dX10_put_30 (by decide) ?_
  refine k_iand (v := (((x0.toUInt32 >>> ((16 : Int32).toUInt32 &&& Int32.toUInt32 31)).toInt32) &&& 255)) C rfl dX10_put_33 ?_
  refine k_iast C Wd 1 0 [(h0, .inr (10, [.ref h1, .int 13, .int 0, .int 0, .int 0, .int 0])), (h1, .inl (a0, 800, .inl (upd (upd f0 12 (((x0.toUInt32 >>> ((24 : Int32).toUInt32 &&& Int32.toUInt32 31)).toInt32) &&& 255)) 13 (((x0.toUInt32 >>> ((16 : Int32).toUInt32 &&& Int32.toUInt32 31)).toInt32) &&& 255))))] rfl rfl (vp_in_iff.mpr (by decide)) rfl rfl dX10_put_34 (fun H locs Wd => ?_)
  refine lv_aload_n C.1 C.2.1 dX10_put_35 rfl (lv_at hl 1 rfl) ?_
  refine lv_dup C.1 C.2.1 dX10_put_36 rfl ?_
  refine k_get C Wd KX10 0 1 rfl (by decide) fl_X10_15 rfl dX10_put_37 ?_
  refine lv_iconst (v := 1) C.1 C.2.1 dX10_put_40 (by decide) ?_
  refine k_iadd (v := 14) C (by decide) dX10_put_41 ?_
  refine k_put C Wd KX10 0 1 [(h0, .inr (10, [.ref h1, .int 14, .int 0, .int 0, .int 0, .int 0])), (h1, .inl (a0, 800, .inl (upd (upd f0 12 (((x0.toUInt32 >>> ((24 : Int32).toUInt32 &&& Int32.toUInt32 31)).toInt32) &&& 255)) 13 (((x0.toUInt32 >>> ((16 : Int32).toUInt32 &&& Int32.toUInt32 31)).toInt32) &&& 255))))] rfl (by decide) fl_X10_15 rfl rfl rfl (Nat.le_of_ble_eq_true rfl) rfl dX10_put_42 (fun H locs Wd => ?_)
  refine lv_iinc (v := 8) (lv' := [(2, .int 8), (0, .ref h0), (1, .int x0)]) C.1 C.2.1 dX10_put_45 hl (k := 0) rfl (by decide) (by decide) rfl (fun ls hl => ?_)
  refine lv_goto (tgt := 3) C.1 C.2.1 dX10_put_48 (by decide) ?_
  refine lv_iload_n C.1 C.2.1 dX10_put_3 rfl (lv_at hl 0 rfl) ?_
  refine lv_if_lt (tgt := 51) C.1 C.2.1 dX10_put_4 (by decide) (fun c1136 => absurd c1136 (by decide)) (fun _ => ?_)
  refine lv_aload_n C.1 C.2.1 dX10_put_7 rfl (lv_at hl 1 rfl) ?_
  refine k_get C Wd KX10 0 1 rfl (by decide) fl_X10_15 rfl dX10_put_8 ?_
  refine lv_aload_n C.1 C.2.1 dX10_put_11 rfl (lv_at hl 1 rfl) ?_
  refine k_get C Wd KX10 0 0 rfl (by decide) fl_X10_11 rfl dX10_put_12 ?_
  refine k_alen (v := 800) C Wd 1 0 rfl rfl rfl dX10_put_15 ?_
  refine lv_icmp_ge (tgt := 51) C.1 C.2.1 dX10_put_16 (by decide) (fun c1137 => absurd c1137 (by decide)) (fun _ => ?_)
  refine lv_aload_n C.1 C.2.1 dX10_put_19 rfl (lv_at hl 1 rfl) ?_
  refine k_get C Wd KX10 0 0 rfl (by decide) fl_X10_11 rfl dX10_put_20 ?_
  refine lv_aload_n C.1 C.2.1 dX10_put_23 rfl (lv_at hl 1 rfl) ?_
  refine k_get C Wd KX10 0 1 rfl (by decide) fl_X10_15 rfl dX10_put_24 ?_
  refine lv_iload_n C.1 C.2.1 dX10_put_27 rfl (lv_at hl 2 rfl) ?_
  refine lv_iload_n C.1 C.2.1 dX10_put_28 rfl (lv_at hl 0 rfl) ?_
  refine lv_iushr (v := ((x0.toUInt32 >>> ((8 : Int32).toUInt32 &&& Int32.toUInt32 31)).toInt32)) C.1 C.2.1 dX10_put_29 rfl ?_
  refine lv_sipush (v := 255) C.1 C.2.1 dX10_put_30 (by decide) ?_
  refine k_iand (v := (((x0.toUInt32 >>> ((8 : Int32).toUInt32 &&& Int32.toUInt32 31)).toInt32) &&& 255)) C rfl dX10_put_33 ?_
  refine k_iast C Wd 1 0 [(h0, .inr (10, [.ref h1, .int 14, .int 0, .int 0, .int 0, .int 0])), (h1, .inl (a0, 800, .inl (upd (upd (upd f0 12 (((x0.toUInt32 >>> ((24 : Int32).toUInt32 &&& Int32.toUInt32 31)).toInt32) &&& 255)) 13 (((x0.toUInt32 >>> ((16 : Int32).toUInt32 &&& Int32.toUInt32 31)).toInt32) &&& 255)) 14 (((x0.toUInt32 >>> ((8 : Int32).toUInt32 &&& Int32.toUInt32 31)).toInt32) &&& 255))))] rfl rfl (vp_in_iff.mpr (by decide)) rfl rfl dX10_put_34 (fun H locs Wd => ?_)
  refine lv_aload_n C.1 C.2.1 dX10_put_35 rfl (lv_at hl 1 rfl) ?_
  refine lv_dup C.1 C.2.1 dX10_put_36 rfl ?_
  refine k_get C Wd KX10 0 1 rfl (by decide) fl_X10_15 rfl dX10_put_37 ?_
  refine lv_iconst (v := 1) C.1 C.2.1 dX10_put_40 (by decide) ?_
  refine k_iadd (v := 15) C (by decide) dX10_put_41 ?_
  refine k_put C Wd KX10 0 1 [(h0, .inr (10, [.ref h1, .int 15, .int 0, .int 0, .int 0, .int 0])), (h1, .inl (a0, 800, .inl (upd (upd (upd f0 12 (((x0.toUInt32 >>> ((24 : Int32).toUInt32 &&& Int32.toUInt32 31)).toInt32) &&& 255)) 13 (((x0.toUInt32 >>> ((16 : Int32).toUInt32 &&& Int32.toUInt32 31)).toInt32) &&& 255)) 14 (((x0.toUInt32 >>> ((8 : Int32).toUInt32 &&& Int32.toUInt32 31)).toInt32) &&& 255))))] rfl (by decide) fl_X10_15 rfl rfl rfl (Nat.le_of_ble_eq_true rfl) rfl dX10_put_42 (fun H locs Wd => ?_)
  refine lv_iinc (v := 0) (lv' := [(2, .int 0), (0, .ref h0), (1, .int x0)]) C.1 C.2.1 dX10_put_45 hl (k := 0) rfl (by decide) (by decide) rfl (fun ls hl => ?_)
  refine lv_goto (tgt := 3) C.1 C.2.1 dX10_put_48 (by decide) ?_
  refine lv_iload_n C.1 C.2.1 dX10_put_3 rfl (lv_at hl 0 rfl) ?_
  refine lv_if_lt (tgt := 51) C.1 C.2.1 dX10_put_4 (by decide) (fun c1138 => absurd c1138 (by decide)) (fun _ => ?_)
  refine lv_aload_n C.1 C.2.1 dX10_put_7 rfl (lv_at hl 1 rfl) ?_
  refine k_get C Wd KX10 0 1 rfl (by decide) fl_X10_15 rfl dX10_put_8 ?_
  refine lv_aload_n C.1 C.2.1 dX10_put_11 rfl (lv_at hl 1 rfl) ?_
  refine k_get C Wd KX10 0 0 rfl (by decide) fl_X10_11 rfl dX10_put_12 ?_
  refine k_alen (v := 800) C Wd 1 0 rfl rfl rfl dX10_put_15 ?_
  refine lv_icmp_ge (tgt := 51) C.1 C.2.1 dX10_put_16 (by decide) (fun c1139 => absurd c1139 (by decide)) (fun _ => ?_)
  refine lv_aload_n C.1 C.2.1 dX10_put_19 rfl (lv_at hl 1 rfl) ?_
  refine k_get C Wd KX10 0 0 rfl (by decide) fl_X10_11 rfl dX10_put_20 ?_
  refine lv_aload_n C.1 C.2.1 dX10_put_23 rfl (lv_at hl 1 rfl) ?_
  refine k_get C Wd KX10 0 1 rfl (by decide) fl_X10_15 rfl dX10_put_24 ?_
  refine lv_iload_n C.1 C.2.1 dX10_put_27 rfl (lv_at hl 2 rfl) ?_
  refine lv_iload_n C.1 C.2.1 dX10_put_28 rfl (lv_at hl 0 rfl) ?_
  refine lv_iushr (v := ((x0.toUInt32 >>> ((0 : Int32).toUInt32 &&& Int32.toUInt32 31)).toInt32)) C.1 C.2.1 dX10_put_29 rfl ?_
  refine lv_sipush (v := 255) C.1 C.2.1 dX10_put_30 (by decide) ?_
  refine k_iand (v := (((x0.toUInt32 >>> ((0 : Int32).toUInt32 &&& Int32.toUInt32 31)).toInt32) &&& 255)) C rfl dX10_put_33 ?_
  refine k_iast C Wd 1 0 [(h0, .inr (10, [.ref h1, .int 15, .int 0, .int 0, .int 0, .int 0])), (h1, .inl (a0, 800, .inl (upd (upd (upd (upd f0 12 (((x0.toUInt32 >>> ((24 : Int32).toUInt32 &&& Int32.toUInt32 31)).toInt32) &&& 255)) 13 (((x0.toUInt32 >>> ((16 : Int32).toUInt32 &&& Int32.toUInt32 31)).toInt32) &&& 255)) 14 (((x0.toUInt32 >>> ((8 : Int32).toUInt32 &&& Int32.toUInt32 31)).toInt32) &&& 255)) 15 (((x0.toUInt32 >>> ((0 : Int32).toUInt32 &&& Int32.toUInt32 31)).toInt32) &&& 255))))] rfl rfl (vp_in_iff.mpr (by decide)) rfl rfl dX10_put_34 (fun H locs Wd => ?_)
  refine lv_aload_n C.1 C.2.1 dX10_put_35 rfl (lv_at hl 1 rfl) ?_
  refine lv_dup C.1 C.2.1 dX10_put_36 rfl ?_
  refine k_get C Wd KX10 0 1 rfl (by decide) fl_X10_15 rfl dX10_put_37 ?_
  refine lv_iconst (v := 1) C.1 C.2.1 dX10_put_40 (by decide) ?_
  refine k_iadd (v := 16) C (by decide) dX10_put_41 ?_
  refine k_put C Wd KX10 0 1 [(h0, .inr (10, [.ref h1, .int 16, .int 0, .int 0, .int 0, .int 0])), (h1, .inl (a0, 800, .inl (upd (upd (upd (upd f0 12 (((x0.toUInt32 >>> ((24 : Int32).toUInt32 &&& Int32.toUInt32 31)).toInt32) &&& 255)) 13 (((x0.toUInt32 >>> ((16 : Int32).toUInt32 &&& Int32.toUInt32 31)).toInt32) &&& 255)) 14 (((x0.toUInt32 >>> ((8 : Int32).toUInt32 &&& Int32.toUInt32 31)).toInt32) &&& 255)) 15 (((x0.toUInt32 >>> ((0 : Int32).toUInt32 &&& Int32.toUInt32 31)).toInt32) &&& 255))))] rfl (by decide) fl_X10_15 rfl rfl rfl (Nat.le_of_ble_eq_true rfl) rfl dX10_put_42 (fun H locs Wd => ?_)
  refine lv_iinc (v := (-8)) (lv' := [(2, .int (-8)), (0, .ref h0), (1, .int x0)]) C.1 C.2.1 dX10_put_45 hl (k := 0) rfl (by decide) (by decide) rfl (fun ls hl => ?_)
  refine lv_goto (tgt := 3) C.1 C.2.1 dX10_put_48 (by decide) ?_
  refine lv_iload_n C.1 C.2.1 dX10_put_3 rfl (lv_at hl 0 rfl) ?_
  refine lv_if_lt (tgt := 51) C.1 C.2.1 dX10_put_4 (by decide) (fun _ => ?_) (fun c1140 => absurd c1140 (by decide))
  exact k_vret C hr hlk Wd () trivial [0, 1] rfl (by decide) [] rfl (by decide) (by decide) dX10_put_51
set_option maxHeartbeats 4000000 in
set_option maxRecDepth 100000 in
theorem kcX10_put_v4 (l : Launch) (D : va_G) (h0 h1 : Nat) (x0 : Int32) (f0 : Nat → Int32) (a0 : ClassId) (sz : Nat)  : Met l yX10_put (Cond.code yX10_put cX10_put 3 none :: gG) { frames := 1, cells := 0, slots := 0, locals := 64 } (cPre D [(a0, .int)] [(h0, .inr (10, [.ref h1, .int 16, .int 0, .int 0, .int 0, .int 0])), (h1, .inl (a0, 800, .inl f0))] sz [.ref h0, .int x0]) (va_Qv (fun (_ : Unit) => True) (fun u t => cB D (va_A [(h0, .inr (10, [.ref h1, .int 16, .int 0, .int 0, .int 0, .int 0])), (h1, .inl (a0, 800, .inl f0))] sz) ((fun (_ : Unit) => ([] : List (ClassId × FieldType))) u) ((fun (_ : Unit) => ([(h0, .inr (10, [.ref h1, .int 20, .int 0, .int 0, .int 0, .int 0])), (h1, .inl (a0, 800, .inl (upd (upd (upd (upd f0 16 (((x0.toUInt32 >>> ((24 : Int32).toUInt32 &&& Int32.toUInt32 31)).toInt32) &&& 255)) 17 (((x0.toUInt32 >>> ((16 : Int32).toUInt32 &&& Int32.toUInt32 31)).toInt32) &&& 255)) 18 (((x0.toUInt32 >>> ((8 : Int32).toUInt32 &&& Int32.toUInt32 31)).toInt32) &&& 255)) 19 (((x0.toUInt32 >>> ((0 : Int32).toUInt32 &&& Int32.toUInt32 31)).toInt32) &&& 255))))] : va_W)) u) t) (va_A [(h0, .inr (10, [.ref h1, .int 16, .int 0, .int 0, .int 0, .int 0])), (h1, .inl (a0, 800, .inl f0))] sz)) 0 0 (va_A [(h0, .inr (10, [.ref h1, .int 16, .int 0, .int 0, .int 0, .int 0])), (h1, .inl (a0, 800, .inl f0))] sz) := by
  refine Met.ofW (cc := cX10_put) (maxL := 3) (ret := none) (by decide) rfl ?_
  intro p e s m args below meth c s₁ B hml hv
  obtain ⟨rfl, aks, rfl, Wd⟩ := k_enter hv
  have C : CallFix p m c cX10_put 3 s _ gG RX10 := ⟨B.exec, B.bytes, hml, findClass_of_methodNamed B.named, fun w h => atoms_spec (ws := Cond.code yX10_put cX10_put 3 none :: gG) B.pre w (List.mem_cons_of_mem _ h)⟩
  have hr := B.returns
  have hlk := B.notSynchronized
  generalize va_A [(h0, .inr (10, [.ref h1, .int 16, .int 0, .int 0, .int 0, .int 0])), (h1, .inl (a0, 800, .inl f0))] s.heap.size = A at Wd ⊢
  refine k_locals (Nat.le_of_ble_eq_true rfl) [(0, .ref h0), (1, .int x0)] rfl (fun ls hl => ?_)
  refine lv_bipush (v := 24) C.1 C.2.1 dX10_put_0 (by decide) ?_
  refine lv_istore_n (lv' := [(2, .int 24), (0, .ref h0), (1, .int x0)]) C.1 C.2.1 dX10_put_2 rfl hl (by decide) rfl (fun ls hl => ?_)
  refine lv_iload_n C.1 C.2.1 dX10_put_3 rfl (lv_at hl 0 rfl) ?_
  refine lv_if_lt (tgt := 51) C.1 C.2.1 dX10_put_4 (by decide) (fun c1151 => absurd c1151 (by decide)) (fun _ => ?_)
  refine lv_aload_n C.1 C.2.1 dX10_put_7 rfl (lv_at hl 1 rfl) ?_
  refine k_get C Wd KX10 0 1 rfl (by decide) fl_X10_15 rfl dX10_put_8 ?_
  refine lv_aload_n C.1 C.2.1 dX10_put_11 rfl (lv_at hl 1 rfl) ?_
  refine k_get C Wd KX10 0 0 rfl (by decide) fl_X10_11 rfl dX10_put_12 ?_
  refine k_alen (v := 800) C Wd 1 0 rfl rfl rfl dX10_put_15 ?_
  refine lv_icmp_ge (tgt := 51) C.1 C.2.1 dX10_put_16 (by decide) (fun c1152 => absurd c1152 (by decide)) (fun _ => ?_)
  refine lv_aload_n C.1 C.2.1 dX10_put_19 rfl (lv_at hl 1 rfl) ?_
  refine k_get C Wd KX10 0 0 rfl (by decide) fl_X10_11 rfl dX10_put_20 ?_
  refine lv_aload_n C.1 C.2.1 dX10_put_23 rfl (lv_at hl 1 rfl) ?_
  refine k_get C Wd KX10 0 1 rfl (by decide) fl_X10_15 rfl dX10_put_24 ?_
  refine lv_iload_n C.1 C.2.1 dX10_put_27 rfl (lv_at hl 2 rfl) ?_
  refine lv_iload_n C.1 C.2.1 dX10_put_28 rfl (lv_at hl 0 rfl) ?_
  refine lv_iushr (v := ((x0.toUInt32 >>> ((24 : Int32).toUInt32 &&& Int32.toUInt32 31)).toInt32)) C.1 C.2.1 dX10_put_29 rfl ?_
  refine lv_sipush (v := 255) C.1 C.2.1 dX10_put_30 (by decide) ?_
  refine k_iand (v := (((x0.toUInt32 >>> ((24 : Int32).toUInt32 &&& Int32.toUInt32 31)).toInt32) &&& 255)) C rfl dX10_put_33 ?_
  refine k_iast C Wd 1 0 [(h0, .inr (10, [.ref h1, .int 16, .int 0, .int 0, .int 0, .int 0])), (h1, .inl (a0, 800, .inl (upd f0 16 (((x0.toUInt32 >>> ((24 : Int32).toUInt32 &&& Int32.toUInt32 31)).toInt32) &&& 255))))] rfl rfl (vp_in_iff.mpr (by decide)) rfl rfl dX10_put_34 (fun H locs Wd => ?_)
  refine lv_aload_n C.1 C.2.1 dX10_put_35 rfl (lv_at hl 1 rfl) ?_
  refine lv_dup C.1 C.2.1 dX10_put_36 rfl ?_
  refine k_get C Wd KX10 0 1 rfl (by decide) fl_X10_15 rfl dX10_put_37 ?_
  refine lv_iconst (v := 1) C.1 C.2.1 dX10_put_40 (by decide) ?_
  refine k_iadd (v := 17) C (by decide) dX10_put_41 ?_
  refine k_put C Wd KX10 0 1 [(h0, .inr (10, [.ref h1, .int 17, .int 0, .int 0, .int 0, .int 0])), (h1, .inl (a0, 800, .inl (upd f0 16 (((x0.toUInt32 >>> ((24 : Int32).toUInt32 &&& Int32.toUInt32 31)).toInt32) &&& 255))))] rfl (by decide) fl_X10_15 rfl rfl rfl (Nat.le_of_ble_eq_true rfl) rfl dX10_put_42 (fun H locs Wd => ?_)
  refine lv_iinc (v := 16) (lv' := [(2, .int 16), (0, .ref h0), (1, .int x0)]) C.1 C.2.1 dX10_put_45 hl (k := 0) rfl (by decide) (by decide) rfl (fun ls hl => ?_)
  refine lv_goto (tgt := 3) C.1 C.2.1 dX10_put_48 (by decide) ?_
  refine lv_iload_n C.1 C.2.1 dX10_put_3 rfl (lv_at hl 0 rfl) ?_
  refine lv_if_lt (tgt := 51) C.1 C.2.1 dX10_put_4 (by decide) (fun c1153 => absurd c1153 (by decide)) (fun _ => ?_)
  refine lv_aload_n C.1 C.2.1 dX10_put_7 rfl (lv_at hl 1 rfl) ?_
  refine k_get C Wd KX10 0 1 rfl (by decide) fl_X10_15 rfl dX10_put_8 ?_
  refine lv_aload_n C.1 C.2.1 dX10_put_11 rfl (lv_at hl 1 rfl) ?_
  refine k_get C Wd KX10 0 0 rfl (by decide) fl_X10_11 rfl dX10_put_12 ?_
  refine k_alen (v := 800) C Wd 1 0 rfl rfl rfl dX10_put_15 ?_
  refine lv_icmp_ge (tgt := 51) C.1 C.2.1 dX10_put_16 (by decide) (fun c1154 => absurd c1154 (by decide)) (fun _ => ?_)
  refine lv_aload_n C.1 C.2.1 dX10_put_19 rfl (lv_at hl 1 rfl) ?_
  refine k_get C Wd KX10 0 0 rfl (by decide) fl_X10_11 rfl dX10_put_20 ?_
  refine lv_aload_n C.1 C.2.1 dX10_put_23 rfl (lv_at hl 1 rfl) ?_
  refine k_get C Wd KX10 0 1 rfl (by decide) fl_X10_15 rfl dX10_put_24 ?_
  refine lv_iload_n C.1 C.2.1 dX10_put_27 rfl (lv_at hl 2 rfl) ?_
  refine lv_iload_n C.1 C.2.1 dX10_put_28 rfl (lv_at hl 0 rfl) ?_
  refine lv_iushr (v := ((x0.toUInt32 >>> ((16 : Int32).toUInt32 &&& Int32.toUInt32 31)).toInt32)) C.1 C.2.1 dX10_put_29 rfl ?_
  refine lv_sipush (v := 255) C.1 C.2.1 dX10_put_30 (by decide) ?_
  refine k_iand (v := (((x0.toUInt32 >>> ((16 : Int32).toUInt32 &&& Int32.toUInt32 31)).toInt32) &&& 255)) C rfl dX10_put_33 ?_
  refine k_iast C Wd 1 0 [(h0, .inr (10, [.ref h1, .int 17, .int 0, .int 0, .int 0, .int 0])), (h1, .inl (a0, 800, .inl (upd (upd f0 16 (((x0.toUInt32 >>> ((24 : Int32).toUInt32 &&& Int32.toUInt32 31)).toInt32) &&& 255)) 17 (((x0.toUInt32 >>> ((16 : Int32).toUInt32 &&& Int32.toUInt32 31)).toInt32) &&& 255))))] rfl rfl (vp_in_iff.mpr (by decide)) rfl rfl dX10_put_34 (fun H locs Wd => ?_)
  refine lv_aload_n C.1 C.2.1 dX10_put_35 rfl (lv_at hl 1 rfl) ?_
  refine lv_dup C.1 C.2.1 dX10_put_36 rfl ?_
  refine k_get C Wd KX10 0 1 rfl (by decide) fl_X10_15 rfl dX10_put_37 ?_
  refine lv_iconst (v := 1) C.1 C.2.1 dX10_put_40 (by decide) ?_
  refine k_iadd (v := 18) C (by decide) dX10_put_41 ?_
  refine k_put C Wd KX10 0 1 [(h0, .inr (10, [.ref h1, .int 18, .int 0, .int 0, .int 0, .int 0])), (h1, .inl (a0, 800, .inl (upd (upd f0 16 (((x0.toUInt32 >>> ((24 : Int32).toUInt32 &&& Int32.toUInt32 31)).toInt32) &&& 255)) 17 (((x0.toUInt32 >>> ((16 : Int32).toUInt32 &&& Int32.toUInt32 31)).toInt32) &&& 255))))] rfl (by decide) fl_X10_15 rfl rfl rfl (Nat.le_of_ble_eq_true rfl) rfl dX10_put_42 (fun H locs Wd => ?_)
  refine lv_iinc (v := 8) (lv' := [(2, .int 8), (0, .ref h0), (1, .int x0)]) C.1 C.2.1 dX10_put_45 hl (k := 0) rfl (by decide) (by decide) rfl (fun ls hl => ?_)
  refine lv_goto (tgt := 3) C.1 C.2.1 dX10_put_48 (by decide) ?_
  refine lv_iload_n C.1 C.2.1 dX10_put_3 rfl (lv_at hl 0 rfl) ?_
  refine lv_if_lt (tgt := 51) C.1 C.2.1 dX10_put_4 (by decide) (fun c1155 => absurd c1155 (by decide)) (fun _ => ?_)
  refine lv_aload_n C.1 C.2.1 dX10_put_7 rfl (lv_at hl 1 rfl) ?_
  refine k_get C Wd KX10 0 1 rfl (by decide) fl_X10_15 rfl dX10_put_8 ?_
  refine lv_aload_n C.1 C.2.1 dX10_put_11 rfl (lv_at hl 1 rfl) ?_
  refine k_get C Wd KX10 0 0 rfl (by decide) fl_X10_11 rfl dX10_put_12 ?_
  refine k_alen (v := 800) C Wd 1 0 rfl rfl rfl dX10_put_15 ?_
  refine lv_icmp_ge (tgt := 51) C.1 C.2.1 dX10_put_16 (by decide) (fun c1156 => absurd c1156 (by decide)) (fun _ => ?_)
  refine lv_aload_n C.1 C.2.1 dX10_put_19 rfl (lv_at hl 1 rfl) ?_
  refine k_get C Wd KX10 0 0 rfl (by decide) fl_X10_11 rfl dX10_put_20 ?_
  refine lv_aload_n C.1 C.2.1 dX10_put_23 rfl (lv_at hl 1 rfl) ?_
  refine k_get C Wd KX10 0 1 rfl (by decide) fl_X10_15 rfl dX10_put_24 ?_
  refine lv_iload_n C.1 C.2.1 dX10_put_27 rfl (lv_at hl 2 rfl) ?_
  refine lv_iload_n C.1 C.2.1 dX10_put_28 rfl (lv_at hl 0 rfl) ?_
  refine lv_iushr (v := ((x0.toUInt32 >>> ((8 : Int32).toUInt32 &&& Int32.toUInt32 31)).toInt32)) C.1 C.2.1 dX10_put_29 rfl ?_
  refine lv_sipush (v := 255) C.1 C.2.1 dX10_put_30 (by decide) ?_
  refine k_iand (v := (((x0.toUInt32 >>> ((8 : Int32).toUInt32 &&& Int32.toUInt32 31)).toInt32) &&& 255)) C rfl dX10_put_33 ?_
  refine k_iast C Wd 1 0 [(h0, .inr (10, [.ref h1, .int 18, .int 0, .int 0, .int 0, .int 0])), (h1, .inl (a0, 800, .inl (upd (upd (upd f0 16 (((x0.toUInt32 >>> ((24 : Int32).toUInt32 &&& Int32.toUInt32 31)).toInt32) &&& 255)) 17 (((x0.toUInt32 >>> ((16 : Int32).toUInt32 &&& Int32.toUInt32 31)).toInt32) &&& 255)) 18 (((x0.toUInt32 >>> ((8 : Int32).toUInt32 &&& Int32.toUInt32 31)).toInt32) &&& 255))))] rfl rfl (vp_in_iff.mpr (by decide)) rfl rfl dX10_put_34 (fun H locs Wd => ?_)
  refine lv_aload_n C.1 C.2.1 dX10_put_35 rfl (lv_at hl 1 rfl) ?_
  refine lv_dup C.1 C.2.1 dX10_put_36 rfl ?_
  refine k_get C Wd KX10 0 1 rfl (by decide) fl_X10_15 rfl dX10_put_37 ?_
  refine lv_iconst (v := 1) C.1 C.2.1 dX10_put_40 (by decide) ?_
  refine k_iadd (v := 19) C (by decide) dX10_put_41 ?_
  refine k_put C Wd KX10 0 1 [(h0, .inr (10, [.ref h1, .int 19, .int 0, .int 0, .int 0, .int 0])), (h1, .inl (a0, 800, .inl (upd (upd (upd f0 16 (((x0.toUInt32 >>> ((24 : Int32).toUInt32 &&& Int32.toUInt32 31)).toInt32) &&& 255)) 17 (((x0.toUInt32 >>> ((16 : Int32).toUInt32 &&& Int32.toUInt32 31)).toInt32) &&& 255)) 18 (((x0.toUInt32 >>> ((8 : Int32).toUInt32 &&& Int32.toUInt32 31)).toInt32) &&& 255))))] rfl (by decide) fl_X10_15 rfl rfl rfl (Nat.le_of_ble_eq_true rfl) rfl dX10_put_42 (fun H locs Wd => ?_)
  refine lv_iinc (v := 0) (lv' := [(2, .int 0), (0, .ref h0), (1, .int x0)]) C.1 C.2.1 dX10_put_45 hl (k := 0) rfl (by decide) (by decide) rfl (fun ls hl => ?_)
  refine lv_goto (tgt := 3) C.1 C.2.1 dX10_put_48 (by decide) ?_
  refine lv_iload_n C.1 C.2.1 dX10_put_3 rfl (lv_at hl 0 rfl) ?_
  refine lv_if_lt (tgt := 51) C.1 C.2.1 dX10_put_4 (by decide) (fun c1157 => absurd c1157 (by decide)) (fun _ => ?_)
  refine lv_aload_n C.1 C.2.1 dX10_put_7 rfl (lv_at hl 1 rfl) ?_
  refine k_get C Wd KX10 0 1 rfl (by decide) fl_X10_15 rfl dX10_put_8 ?_
  refine lv_aload_n C.1 C.2.1 dX10_put_11 rfl (lv_at hl 1 rfl) ?_
  refine k_get C Wd KX10 0 0 rfl (by decide) fl_X10_11 rfl dX10_put_12 ?_
  refine k_alen (v := 800) C Wd 1 0 rfl rfl rfl dX10_put_15 ?_
  refine lv_icmp_ge (tgt := 51) C.1 C.2.1 dX10_put_16 (by decide) (fun c1158 => absurd c1158 (by decide)) (fun _ => ?_)
  refine lv_aload_n C.1 C.2.1 dX10_put_19 rfl (lv_at hl 1 rfl) ?_
  refine k_get C Wd KX10 0 0 rfl (by decide) fl_X10_11 rfl dX10_put_20 ?_
  refine lv_aload_n C.1 C.2.1 dX10_put_23 rfl (lv_at hl 1 rfl) ?_
  refine k_get C Wd KX10 0 1 rfl (by decide) fl_X10_15 rfl dX10_put_24 ?_
  refine lv_iload_n C.1 C.2.1 dX10_put_27 rfl (lv_at hl 2 rfl) ?_
  refine lv_iload_n C.1 C.2.1 dX10_put_28 rfl (lv_at hl 0 rfl) ?_
  refine lv_iushr (v := ((x0.toUInt32 >>> ((0 : Int32).toUInt32 &&& Int32.toUInt32 31)).toInt32)) C.1 C.2.1 dX10_put_29 rfl ?_
  refine lv_sipush (v := 255) C.1 C.2.1 dX10_put_30 (by decide) ?_
  refine k_iand (v := (((x0.toUInt32 >>> ((0 : Int32).toUInt32 &&& Int32.toUInt32 31)).toInt32) &&& 255)) C rfl dX10_put_33 ?_
  refine k_iast C Wd 1 0 [(h0, .inr (10, [.ref h1, .int 19, .int 0, .int 0, .int 0, .int 0])), (h1, .inl (a0, 800, .inl (upd (upd (upd (upd f0 16 (((x0.toUInt32 >>> ((24 : Int32).toUInt32 &&& Int32.toUInt32 31)).toInt32) &&& 255)) 17 (((x0.toUInt32 >>> ((16 : Int32).toUInt32 &&& Int32.toUInt32 31)).toInt32) &&& 255)) 18 (((x0.toUInt32 >>> ((8 : Int32).toUInt32 &&& Int32.toUInt32 31)).toInt32) &&& 255)) 19 (((x0.toUInt32 >>> ((0 : Int32).toUInt32 &&& Int32.toUInt32 31)).toInt32) &&& 255))))] rfl rfl (vp_in_iff.mpr (by decide)) rfl rfl dX10_put_34 (fun H locs Wd => ?_)
  refine lv_aload_n C.1 C.2.1 dX10_put_35 rfl (lv_at hl 1 rfl) ?_
  refine lv_dup C.1 C.2.1 dX10_put_36 rfl ?_
  refine k_get C Wd KX10 0 1 rfl (by decide) fl_X10_15 rfl dX10_put_37 ?_
  refine lv_iconst (v := 1) C.1 C.2.1 dX10_put_40 (by decide) ?_
  refine k_iadd (v := 20) C (by decide) dX10_put_41 ?_
  refine k_put C Wd KX10 0 1 [(h0, .inr (10, [.ref h1, .int 20, .int 0, .int 0, .int 0, .int 0])), (h1, .inl (a0, 800, .inl (upd (upd (upd (upd f0 16 (((x0.toUInt32 >>> ((24 : Int32).toUInt32 &&& Int32.toUInt32 31)).toInt32) &&& 255)) 17 (((x0.toUInt32 >>> ((16 : Int32).toUInt32 &&& Int32.toUInt32 31)).toInt32) &&& 255)) 18 (((x0.toUInt32 >>> ((8 : Int32).toUInt32 &&& Int32.toUInt32 31)).toInt32) &&& 255)) 19 (((x0.toUInt32 >>> ((0 : Int32).toUInt32 &&& Int32.toUInt32 31)).toInt32) &&& 255))))] rfl (by decide) fl_X10_15 rfl rfl rfl (Nat.le_of_ble_eq_true rfl) rfl dX10_put_42 (fun H locs Wd => ?_)
  refine lv_iinc (v := (-8)) (lv' := [(2, .int (-8)), (0, .ref h0), (1, .int x0)]) C.1 C.2.1 dX10_put_45 hl (k := 0) rfl (by decide) (by decide) rfl (fun ls hl => ?_)
  refine lv_goto (tgt := 3) C.1 C.2.1 dX10_put_48 (by decide) ?_
  refine lv_iload_n C.1 C.2.1 dX10_put_3 rfl (lv_at hl 0 rfl) ?_
  refine lv_if_lt (tgt := 51) C.1 C.2.1 dX10_put_4 (by decide) (fun _ => ?_) (fun c1159 => absurd c1159 (by decide))
  exact k_vret C hr hlk Wd () trivial [0, 1] rfl (by decide) [] rfl (by decide) (by decide) dX10_put_51
set_option maxHeartbeats 4000000 in
set_option maxRecDepth 100000 in
theorem kcX11_feed (l : Launch) (D : va_G) (h0 h1 h2 h3 h4 h5 h6 h7 h9 h10 h11 h12 h13 h30 : Nat) (x0 x1 x2 x3 x4 : Int32) (a9 : ClassId) (sz : Nat)  : Met l yX11_feed (Cond.code yX11_feed cX11_feed 7 (some .int) :: gG) { frames := 2, cells := 0, slots := 0, locals := 86 } (cPre D [(a9, .int)] [(h0, .inr (11, [.ref h1, .int 0, .ref h2, .ref h3, .ref h4, .ref h5, .ref h6, .ref h7])), (h3, .inr (6, [.ref h9, .int 0, .int (-1), .ref h10, .null, .int 0, .int 0, .int 0, .int 0, .int 0, .int 0, .int 0, .int 0, .int 0, .ref h11, .ref h12, .ref h13])), (h9, .inr (10, [.ref h30, .int 0, .int 0, .int 0, .int 0, .int 0])), (h30, .inl (a9, 800, .inl (fun _ => 0)))] sz [.ref h0, .int x0, .int x1, .int x2, .int x3, .int x4]) (va_Qi (fun (r : Int32) (_ : Unit) => r = 20) (fun u t => cB D (va_A [(h0, .inr (11, [.ref h1, .int 0, .ref h2, .ref h3, .ref h4, .ref h5, .ref h6, .ref h7])), (h3, .inr (6, [.ref h9, .int 0, .int (-1), .ref h10, .null, .int 0, .int 0, .int 0, .int 0, .int 0, .int 0, .int 0, .int 0, .int 0, .ref h11, .ref h12, .ref h13])), (h9, .inr (10, [.ref h30, .int 0, .int 0, .int 0, .int 0, .int 0])), (h30, .inl (a9, 800, .inl (fun _ => 0)))] sz) ((fun (_ : Unit) => ([] : List (ClassId × FieldType))) u) ((fun (_ : Unit) => ([] : va_W)) u) t) (va_A [(h0, .inr (11, [.ref h1, .int 0, .ref h2, .ref h3, .ref h4, .ref h5, .ref h6, .ref h7])), (h3, .inr (6, [.ref h9, .int 0, .int (-1), .ref h10, .null, .int 0, .int 0, .int 0, .int 0, .int 0, .int 0, .int 0, .int 0, .int 0, .ref h11, .ref h12, .ref h13])), (h9, .inr (10, [.ref h30, .int 0, .int 0, .int 0, .int 0, .int 0])), (h30, .inl (a9, 800, .inl (fun _ => 0)))] sz)) 0 0 (va_A [(h0, .inr (11, [.ref h1, .int 0, .ref h2, .ref h3, .ref h4, .ref h5, .ref h6, .ref h7])), (h3, .inr (6, [.ref h9, .int 0, .int (-1), .ref h10, .null, .int 0, .int 0, .int 0, .int 0, .int 0, .int 0, .int 0, .int 0, .int 0, .ref h11, .ref h12, .ref h13])), (h9, .inr (10, [.ref h30, .int 0, .int 0, .int 0, .int 0, .int 0])), (h30, .inl (a9, 800, .inl (fun _ => 0)))] sz) := by
  refine Met.ofW (cc := cX11_feed) (maxL := 7) (ret := (some .int)) (by decide) rfl ?_
  intro p e s m args below meth c s₁ B hml hv
  obtain ⟨rfl, aks, rfl, Wd⟩ := k_enter hv
  have C : CallFix p m c cX11_feed 7 s _ gG RX11 := ⟨B.exec, B.bytes, hml, findClass_of_methodNamed B.named, fun w h => atoms_spec (ws := Cond.code yX11_feed cX11_feed 7 (some .int) :: gG) B.pre w (List.mem_cons_of_mem _ h)⟩
  have hr := B.returns
  have hlk := B.notSynchronized
  generalize va_A [(h0, .inr (11, [.ref h1, .int 0, .ref h2, .ref h3, .ref h4, .ref h5, .ref h6, .ref h7])), (h3, .inr (6, [.ref h9, .int 0, .int (-1), .ref h10, .null, .int 0, .int 0, .int 0, .int 0, .int 0, .int 0, .int 0, .int 0, .int 0, .ref h11, .ref h12, .ref h13])), (h9, .inr (10, [.ref h30, .int 0, .int 0, .int 0, .int 0, .int 0])), (h30, .inl (a9, 800, .inl (fun _ => 0)))] s.heap.size = A at Wd ⊢
  refine k_locals (Nat.le_of_ble_eq_true rfl) [(0, .ref h0), (1, .int x0), (2, .int x1), (3, .int x2), (4, .int x3), (5, .int x4)] rfl (fun ls hl => ?_)
  refine lv_aload_n C.1 C.2.1 dX11_feed_0 rfl (lv_at hl 0 rfl) ?_
  refine k_get C Wd KX11 0 3 rfl (by decide) fl_X11_29 rfl dX11_feed_1 ?_
  refine k_get C Wd KX6 1 0 rfl (by decide) fl_X11_61 rfl dX11_feed_4 ?_
  refine lv_astore (lv' := [(6, .ref h9), (0, .ref h0), (1, .int x0), (2, .int x1), (3, .int x2), (4, .int x3), (5, .int x4)]) C.1 C.2.1 dX11_feed_7 hl (by decide) rfl (fun ls hl => ?_)
  refine lv_aload C.1 C.2.1 dX11_feed_9 (lv_at hl 0 rfl) ?_
  refine k_get C Wd KX10 2 1 rfl (by decide) fl_X11_65 rfl dX11_feed_11 ?_
  refine lv_bipush (v := 20) C.1 C.2.1 dX11_feed_14 (by decide) ?_
  refine k_iadd (v := 20) C (by decide) dX11_feed_16 ?_
  refine lv_sipush (v := 800) C.1 C.2.1 dX11_feed_17 (by decide) ?_
  refine lv_icmp_le (tgt := 25) C.1 C.2.1 dX11_feed_20 (by decide) (fun _ => ?_) (fun c1161 => absurd c1161 (by decide))
  refine lv_aload C.1 C.2.1 dX11_feed_25 (lv_at hl 0 rfl) ?_
  refine lv_iload_n C.1 C.2.1 dX11_feed_27 rfl (lv_at hl 2 rfl) ?_
  refine k_cv Wd [2, 3] [0, 1] rfl (wr := [(h0, .inr (11, [.ref h1, .int 0, .ref h2, .ref h3, .ref h4, .ref h5, .ref h6, .ref h7])), (h3, .inr (6, [.ref h9, .int 0, .int (-1), .ref h10, .null, .int 0, .int 0, .int 0, .int 0, .int 0, .int 0, .int 0, .int 0, .int 0, .ref h11, .ref h12, .ref h13]))]) rfl (by decide) (by decide) (cells' := 0) (slots' := 0) (by decide) (by decide) (k_runV (rest := []) C aks Wd cs_X11_70 (kcX10_put l D h9 h30 x0 a9 _ ) [2, 3] rfl (by decide) [0] rfl 2 10 rfl rfl rfl rfl rfl ⟨(Nat.le_of_ble_eq_true rfl), (Nat.le_of_ble_eq_true rfl)⟩ hl.1 rfl rfl (Nat.le_of_ble_eq_true rfl) ⟨(Nat.le_of_ble_eq_true rfl), (Nat.le_of_ble_eq_true rfl)⟩ dX11_feed_28) (fun _ H locs w1162 Wd => ?_)
  have Wd : wX D [(a9, .int)] s [(h0, .inr (11, [.ref h1, .int 0, .ref h2, .ref h3, .ref h4, .ref h5, .ref h6, .ref h7])), (h3, .inr (6, [.ref h9, .int 0, .int (-1), .ref h10, .null, .int 0, .int 0, .int 0, .int 0, .int 0, .int 0, .int 0, .int 0, .int 0, .ref h11, .ref h12, .ref h13])), (h9, .inr (10, [.ref h30, .int 4, .int 0, .int 0, .int 0, .int 0])), (h30, .inl (a9, 800, .inl (upd (upd (upd (upd (fun _ => 0) 0 (((x0.toUInt32 >>> ((24 : Int32).toUInt32 &&& Int32.toUInt32 31)).toInt32) &&& 255)) 1 (((x0.toUInt32 >>> ((16 : Int32).toUInt32 &&& Int32.toUInt32 31)).toInt32) &&& 255)) 2 (((x0.toUInt32 >>> ((8 : Int32).toUInt32 &&& Int32.toUInt32 31)).toInt32) &&& 255)) 3 (((x0.toUInt32 >>> ((0 : Int32).toUInt32 &&& Int32.toUInt32 31)).toInt32) &&& 255))))] _ A s.heap _ := Wd
  refine lv_aload C.1 C.2.1 dX11_feed_31 (lv_at hl 0 rfl) ?_
  refine lv_iload_n C.1 C.2.1 dX11_feed_33 rfl (lv_at hl 3 rfl) ?_
  refine k_cv Wd [2, 3] [0, 1] rfl (wr := [(h0, .inr (11, [.ref h1, .int 0, .ref h2, .ref h3, .ref h4, .ref h5, .ref h6, .ref h7])), (h3, .inr (6, [.ref h9, .int 0, .int (-1), .ref h10, .null, .int 0, .int 0, .int 0, .int 0, .int 0, .int 0, .int 0, .int 0, .int 0, .ref h11, .ref h12, .ref h13]))]) rfl (by decide) (by decide) (cells' := 0) (slots' := 0) (by decide) (by decide) (k_runV (rest := []) C aks Wd cs_X11_70 (kcX10_put_v1 l D h9 h30 x1 (upd (upd (upd (upd (fun _ => 0) 0 (((x0.toUInt32 >>> ((24 : Int32).toUInt32 &&& Int32.toUInt32 31)).toInt32) &&& 255)) 1 (((x0.toUInt32 >>> ((16 : Int32).toUInt32 &&& Int32.toUInt32 31)).toInt32) &&& 255)) 2 (((x0.toUInt32 >>> ((8 : Int32).toUInt32 &&& Int32.toUInt32 31)).toInt32) &&& 255)) 3 (((x0.toUInt32 >>> ((0 : Int32).toUInt32 &&& Int32.toUInt32 31)).toInt32) &&& 255)) a9 _ ) [2, 3] rfl (by decide) [0] rfl 2 10 rfl rfl rfl rfl rfl ⟨(Nat.le_of_ble_eq_true rfl), (Nat.le_of_ble_eq_true rfl)⟩ hl.1 rfl rfl (Nat.le_of_ble_eq_true rfl) ⟨(Nat.le_of_ble_eq_true rfl), (Nat.le_of_ble_eq_true rfl)⟩ dX11_feed_34) (fun _ H locs w1163 Wd => ?_)
  have Wd : wX D [(a9, .int)] s [(h0, .inr (11, [.ref h1, .int 0, .ref h2, .ref h3, .ref h4, .ref h5, .ref h6, .ref h7])), (h3, .inr (6, [.ref h9, .int 0, .int (-1), .ref h10, .null, .int 0, .int 0, .int 0, .int 0, .int 0, .int 0, .int 0, .int 0, .int 0, .ref h11, .ref h12, .ref h13])), (h9, .inr (10, [.ref h30, .int 8, .int 0, .int 0, .int 0, .int 0])), (h30, .inl (a9, 800, .inl (upd (upd (upd (upd (upd (upd (upd (upd (fun _ => 0) 0 (((x0.toUInt32 >>> ((24 : Int32).toUInt32 &&& Int32.toUInt32 31)).toInt32) &&& 255)) 1 (((x0.toUInt32 >>> ((16 : Int32).toUInt32 &&& Int32.toUInt32 31)).toInt32) &&& 255)) 2 (((x0.toUInt32 >>> ((8 : Int32).toUInt32 &&& Int32.toUInt32 31)).toInt32) &&& 255)) 3 (((x0.toUInt32 >>> ((0 : Int32).toUInt32 &&& Int32.toUInt32 31)).toInt32) &&& 255)) 4 (((x1.toUInt32 >>> ((24 : Int32).toUInt32 &&& Int32.toUInt32 31)).toInt32) &&& 255)) 5 (((x1.toUInt32 >>> ((16 : Int32).toUInt32 &&& Int32.toUInt32 31)).toInt32) &&& 255)) 6 (((x1.toUInt32 >>> ((8 : Int32).toUInt32 &&& Int32.toUInt32 31)).toInt32) &&& 255)) 7 (((x1.toUInt32 >>> ((0 : Int32).toUInt32 &&& Int32.toUInt32 31)).toInt32) &&& 255))))] _ A s.heap _ := Wd
  refine lv_aload C.1 C.2.1 dX11_feed_37 (lv_at hl 0 rfl) ?_
  refine lv_iload_n C.1 C.2.1 dX11_feed_39 rfl (lv_at hl 4 rfl) ?_
  refine k_cv Wd [2, 3] [0, 1] rfl (wr := [(h0, .inr (11, [.ref h1, .int 0, .ref h2, .ref h3, .ref h4, .ref h5, .ref h6, .ref h7])), (h3, .inr (6, [.ref h9, .int 0, .int (-1), .ref h10, .null, .int 0, .int 0, .int 0, .int 0, .int 0, .int 0, .int 0, .int 0, .int 0, .ref h11, .ref h12, .ref h13]))]) rfl (by decide) (by decide) (cells' := 0) (slots' := 0) (by decide) (by decide) (k_runV (rest := []) C aks Wd cs_X11_70 (kcX10_put_v2 l D h9 h30 x2 (upd (upd (upd (upd (upd (upd (upd (upd (fun _ => 0) 0 (((x0.toUInt32 >>> ((24 : Int32).toUInt32 &&& Int32.toUInt32 31)).toInt32) &&& 255)) 1 (((x0.toUInt32 >>> ((16 : Int32).toUInt32 &&& Int32.toUInt32 31)).toInt32) &&& 255)) 2 (((x0.toUInt32 >>> ((8 : Int32).toUInt32 &&& Int32.toUInt32 31)).toInt32) &&& 255)) 3 (((x0.toUInt32 >>> ((0 : Int32).toUInt32 &&& Int32.toUInt32 31)).toInt32) &&& 255)) 4 (((x1.toUInt32 >>> ((24 : Int32).toUInt32 &&& Int32.toUInt32 31)).toInt32) &&& 255)) 5 (((x1.toUInt32 >>> ((16 : Int32).toUInt32 &&& Int32.toUInt32 31)).toInt32) &&& 255)) 6 (((x1.toUInt32 >>> ((8 : Int32).toUInt32 &&& Int32.toUInt32 31)).toInt32) &&& 255)) 7 (((x1.toUInt32 >>> ((0 : Int32).toUInt32 &&& Int32.toUInt32 31)).toInt32) &&& 255)) a9 _ ) [2, 3] rfl (by decide) [0] rfl 2 10 rfl rfl rfl rfl rfl ⟨(Nat.le_of_ble_eq_true rfl), (Nat.le_of_ble_eq_true rfl)⟩ hl.1 rfl rfl (Nat.le_of_ble_eq_true rfl) ⟨(Nat.le_of_ble_eq_true rfl), (Nat.le_of_ble_eq_true rfl)⟩ dX11_feed_40) (fun _ H locs w1164 Wd => ?_)
  have Wd : wX D [(a9, .int)] s [(h0, .inr (11, [.ref h1, .int 0, .ref h2, .ref h3, .ref h4, .ref h5, .ref h6, .ref h7])), (h3, .inr (6, [.ref h9, .int 0, .int (-1), .ref h10, .null, .int 0, .int 0, .int 0, .int 0, .int 0, .int 0, .int 0, .int 0, .int 0, .ref h11, .ref h12, .ref h13])), (h9, .inr (10, [.ref h30, .int 12, .int 0, .int 0, .int 0, .int 0])), (h30, .inl (a9, 800, .inl (upd (upd (upd (upd (upd (upd (upd (upd (upd (upd (upd (upd (fun _ => 0) 0 (((x0.toUInt32 >>> ((24 : Int32).toUInt32 &&& Int32.toUInt32 31)).toInt32) &&& 255)) 1 (((x0.toUInt32 >>> ((16 : Int32).toUInt32 &&& Int32.toUInt32 31)).toInt32) &&& 255)) 2 (((x0.toUInt32 >>> ((8 : Int32).toUInt32 &&& Int32.toUInt32 31)).toInt32) &&& 255)) 3 (((x0.toUInt32 >>> ((0 : Int32).toUInt32 &&& Int32.toUInt32 31)).toInt32) &&& 255)) 4 (((x1.toUInt32 >>> ((24 : Int32).toUInt32 &&& Int32.toUInt32 31)).toInt32) &&& 255)) 5 (((x1.toUInt32 >>> ((16 : Int32).toUInt32 &&& Int32.toUInt32 31)).toInt32) &&& 255)) 6 (((x1.toUInt32 >>> ((8 : Int32).toUInt32 &&& Int32.toUInt32 31)).toInt32) &&& 255)) 7 (((x1.toUInt32 >>> ((0 : Int32).toUInt32 &&& Int32.toUInt32 31)).toInt32) &&& 255)) 8 (((x2.toUInt32 >>> ((24 : Int32).toUInt32 &&& Int32.toUInt32 31)).toInt32) &&& 255)) 9 (((x2.toUInt32 >>> ((16 : Int32).toUInt32 &&& Int32.toUInt32 31)).toInt32) &&& 255)) 10 (((x2.toUInt32 >>> ((8 : Int32).toUInt32 &&& Int32.toUInt32 31)).toInt32) &&& 255)) 11 (((x2.toUInt32 >>> ((0 : Int32).toUInt32 &&& Int32.toUInt32 31)).toInt32) &&& 255))))] _ A s.heap _ := Wd
  refine lv_aload C.1 C.2.1 dX11_feed_43 (lv_at hl 0 rfl) ?_
  refine lv_iload C.1 C.2.1 dX11_feed_45 (lv_at hl 5 rfl) ?_
  refine k_cv Wd [2, 3] [0, 1] rfl (wr := [(h0, .inr (11, [.ref h1, .int 0, .ref h2, .ref h3, .ref h4, .ref h5, .ref h6, .ref h7])), (h3, .inr (6, [.ref h9, .int 0, .int (-1), .ref h10, .null, .int 0, .int 0, .int 0, .int 0, .int 0, .int 0, .int 0, .int 0, .int 0, .ref h11, .ref h12, .ref h13]))]) rfl (by decide) (by decide) (cells' := 0) (slots' := 0) (by decide) (by decide) (k_runV (rest := []) C aks Wd cs_X11_70 (kcX10_put_v3 l D h9 h30 x3 (upd (upd (upd (upd (upd (upd (upd (upd (upd (upd (upd (upd (fun _ => 0) 0 (((x0.toUInt32 >>> ((24 : Int32).toUInt32 &&& Int32.toUInt32 31)).toInt32) &&& 255)) 1 (((x0.toUInt32 >>> ((16 : Int32).toUInt32 &&& Int32.toUInt32 31)).toInt32) &&& 255)) 2 (((x0.toUInt32 >>> ((8 : Int32).toUInt32 &&& Int32.toUInt32 31)).toInt32) &&& 255)) 3 (((x0.toUInt32 >>> ((0 : Int32).toUInt32 &&& Int32.toUInt32 31)).toInt32) &&& 255)) 4 (((x1.toUInt32 >>> ((24 : Int32).toUInt32 &&& Int32.toUInt32 31)).toInt32) &&& 255)) 5 (((x1.toUInt32 >>> ((16 : Int32).toUInt32 &&& Int32.toUInt32 31)).toInt32) &&& 255)) 6 (((x1.toUInt32 >>> ((8 : Int32).toUInt32 &&& Int32.toUInt32 31)).toInt32) &&& 255)) 7 (((x1.toUInt32 >>> ((0 : Int32).toUInt32 &&& Int32.toUInt32 31)).toInt32) &&& 255)) 8 (((x2.toUInt32 >>> ((24 : Int32).toUInt32 &&& Int32.toUInt32 31)).toInt32) &&& 255)) 9 (((x2.toUInt32 >>> ((16 : Int32).toUInt32 &&& Int32.toUInt32 31)).toInt32) &&& 255)) 10 (((x2.toUInt32 >>> ((8 : Int32).toUInt32 &&& Int32.toUInt32 31)).toInt32) &&& 255)) 11 (((x2.toUInt32 >>> ((0 : Int32).toUInt32 &&& Int32.toUInt32 31)).toInt32) &&& 255)) a9 _ ) [2, 3] rfl (by decide) [0] rfl 2 10 rfl rfl rfl rfl rfl ⟨(Nat.le_of_ble_eq_true rfl), (Nat.le_of_ble_eq_true rfl)⟩ hl.1 rfl rfl (Nat.le_of_ble_eq_true rfl) ⟨(Nat.le_of_ble_eq_true rfl), (Nat.le_of_ble_eq_true rfl)⟩ dX11_feed_47) (fun _ H locs w1165 Wd => ?_)
  have Wd : wX D [(a9, .int)] s [(h0, .inr (11, [.ref h1, .int 0, .ref h2, .ref h3, .ref h4, .ref h5, .ref h6, .ref h7])), (h3, .inr (6, [.ref h9, .int 0, .int (-1), .ref h10, .null, .int 0, .int 0, .int 0, .int 0, .int 0, .int 0, .int 0, .int 0, .int 0, .ref h11, .ref h12, .ref h13])), (h9, .inr (10, [.ref h30, .int 16, .int 0, .int 0, .int 0, .int 0])), (h30, .inl (a9, 800, .inl (upd (upd (upd (upd (upd (upd (upd (upd (upd (upd (upd (upd (upd (upd (upd (upd (fun _ => 0) 0 (((x0.toUInt32 >>> ((24 : Int32).toUInt32 &&& Int32.toUInt32 31)).toInt32) &&& 255)) 1 (((x0.toUInt32 >>> ((16 : Int32).toUInt32 &&& Int32.toUInt32 31)).toInt32) &&& 255)) 2 (((x0.toUInt32 >>> ((8 : Int32).toUInt32 &&& Int32.toUInt32 31)).toInt32) &&& 255)) 3 (((x0.toUInt32 >>> ((0 : Int32).toUInt32 &&& Int32.toUInt32 31)).toInt32) &&& 255)) 4 (((x1.toUInt32 >>> ((24 : Int32).toUInt32 &&& Int32.toUInt32 31)).toInt32) &&& 255)) 5 (((x1.toUInt32 >>> ((16 : Int32).toUInt32 &&& Int32.toUInt32 31)).toInt32) &&& 255)) 6 (((x1.toUInt32 >>> ((8 : Int32).toUInt32 &&& Int32.toUInt32 31)).toInt32) &&& 255)) 7 (((x1.toUInt32 >>> ((0 : Int32).toUInt32 &&& Int32.toUInt32 31)).toInt32) &&& 255)) 8 (((x2.toUInt32 >>> ((24 : Int32).toUInt32 &&& Int32.toUInt32 31)).toInt32) &&& 255)) 9 (((x2.toUInt32 >>> ((16 : Int32).toUInt32 &&& Int32.toUInt32 31)).toInt32) &&& 255)) 10 (((x2.toUInt32 >>> ((8 : Int32).toUInt32 &&& Int32.toUInt32 31)).toInt32) &&& 255)) 11 (((x2.toUInt32 >>> ((0 : Int32).toUInt32 &&& Int32.toUInt32 31)).toInt32) &&& 255)) 12 (((x3.toUInt32 >>> ((24 : Int32).toUInt32 &&& Int32.toUInt32 31)).toInt32) &&& 255)) 13 (((x3.toUInt32 >>> ((16 : Int32).toUInt32 &&& Int32.toUInt32 31)).toInt32) &&& 255)) 14 (((x3.toUInt32 >>> ((8 : Int32).toUInt32 &&& Int32.toUInt32 31)).toInt32) &&& 255)) 15 (((x3.toUInt32 >>> ((0 : Int32).toUInt32 &&& Int32.toUInt32 31)).toInt32) &&& 255))))] _ A s.heap _ := Wd
  refine lv_aload C.1 C.2.1 dX11_feed_50 (lv_at hl 0 rfl) ?_
  refine lv_iload C.1 C.2.1 dX11_feed_52 (lv_at hl 6 rfl) ?_
  refine k_cv Wd [2, 3] [0, 1] rfl (wr := [(h0, .inr (11, [.ref h1, .int 0, .ref h2, .ref h3, .ref h4, .ref h5, .ref h6, .ref h7])), (h3, .inr (6, [.ref h9, .int 0, .int (-1), .ref h10, .null, .int 0, .int 0, .int 0, .int 0, .int 0, .int 0, .int 0, .int 0, .int 0, .ref h11, .ref h12, .ref h13]))]) rfl (by decide) (by decide) (cells' := 0) (slots' := 0) (by decide) (by decide) (k_runV (rest := []) C aks Wd cs_X11_70 (kcX10_put_v4 l D h9 h30 x4 (upd (upd (upd (upd (upd (upd (upd (upd (upd (upd (upd (upd (upd (upd (upd (upd (fun _ => 0) 0 (((x0.toUInt32 >>> ((24 : Int32).toUInt32 &&& Int32.toUInt32 31)).toInt32) &&& 255)) 1 (((x0.toUInt32 >>> ((16 : Int32).toUInt32 &&& Int32.toUInt32 31)).toInt32) &&& 255)) 2 (((x0.toUInt32 >>> ((8 : Int32).toUInt32 &&& Int32.toUInt32 31)).toInt32) &&& 255)) 3 (((x0.toUInt32 >>> ((0 : Int32).toUInt32 &&& Int32.toUInt32 31)).toInt32) &&& 255)) 4 (((x1.toUInt32 >>> ((24 : Int32).toUInt32 &&& Int32.toUInt32 31)).toInt32) &&& 255)) 5 (((x1.toUInt32 >>> ((16 : Int32).toUInt32 &&& Int32.toUInt32 31)).toInt32) &&& 255)) 6 (((x1.toUInt32 >>> ((8 : Int32).toUInt32 &&& Int32.toUInt32 31)).toInt32) &&& 255)) 7 (((x1.toUInt32 >>> ((0 : Int32).toUInt32 &&& Int32.toUInt32 31)).toInt32) &&& 255)) 8 (((x2.toUInt32 >>> ((24 : Int32).toUInt32 &&& Int32.toUInt32 31)).toInt32) &&& 255)) 9 (((x2.toUInt32 >>> ((16 : Int32).toUInt32 &&& Int32.toUInt32 31)).toInt32) &&& 255)) 10 (((x2.toUInt32 >>> ((8 : Int32).toUInt32 &&& Int32.toUInt32 31)).toInt32) &&& 255)) 11 (((x2.toUInt32 >>> ((0 : Int32).toUInt32 &&& Int32.toUInt32 31)).toInt32) &&& 255)) 12 (((x3.toUInt32 >>> ((24 : Int32).toUInt32 &&& Int32.toUInt32 31)).toInt32) &&& 255)) 13 (((x3.toUInt32 >>> ((16 : Int32).toUInt32 &&& Int32.toUInt32 31)).toInt32) &&& 255)) 14 (((x3.toUInt32 >>> ((8 : Int32).toUInt32 &&& Int32.toUInt32 31)).toInt32) &&& 255)) 15 (((x3.toUInt32 >>> ((0 : Int32).toUInt32 &&& Int32.toUInt32 31)).toInt32) &&& 255)) a9 _ ) [2, 3] rfl (by decide) [0] rfl 2 10 rfl rfl rfl rfl rfl ⟨(Nat.le_of_ble_eq_true rfl), (Nat.le_of_ble_eq_true rfl)⟩ hl.1 rfl rfl (Nat.le_of_ble_eq_true rfl) ⟨(Nat.le_of_ble_eq_true rfl), (Nat.le_of_ble_eq_true rfl)⟩ dX11_feed_54) (fun _ H locs w1166 Wd => ?_)
  have Wd : wX D [(a9, .int)] s [(h0, .inr (11, [.ref h1, .int 0, .ref h2, .ref h3, .ref h4, .ref h5, .ref h6, .ref h7])), (h3, .inr (6, [.ref h9, .int 0, .int (-1), .ref h10, .null, .int 0, .int 0, .int 0, .int 0, .int 0, .int 0, .int 0, .int 0, .int 0, .ref h11, .ref h12, .ref h13])), (h9, .inr (10, [.ref h30, .int 20, .int 0, .int 0, .int 0, .int 0])), (h30, .inl (a9, 800, .inl (upd (upd (upd (upd (upd (upd (upd (upd (upd (upd (upd (upd (upd (upd (upd (upd (upd (upd (upd (upd (fun _ => 0) 0 (((x0.toUInt32 >>> ((24 : Int32).toUInt32 &&& Int32.toUInt32 31)).toInt32) &&& 255)) 1 (((x0.toUInt32 >>> ((16 : Int32).toUInt32 &&& Int32.toUInt32 31)).toInt32) &&& 255)) 2 (((x0.toUInt32 >>> ((8 : Int32).toUInt32 &&& Int32.toUInt32 31)).toInt32) &&& 255)) 3 (((x0.toUInt32 >>> ((0 : Int32).toUInt32 &&& Int32.toUInt32 31)).toInt32) &&& 255)) 4 (((x1.toUInt32 >>> ((24 : Int32).toUInt32 &&& Int32.toUInt32 31)).toInt32) &&& 255)) 5 (((x1.toUInt32 >>> ((16 : Int32).toUInt32 &&& Int32.toUInt32 31)).toInt32) &&& 255)) 6 (((x1.toUInt32 >>> ((8 : Int32).toUInt32 &&& Int32.toUInt32 31)).toInt32) &&& 255)) 7 (((x1.toUInt32 >>> ((0 : Int32).toUInt32 &&& Int32.toUInt32 31)).toInt32) &&& 255)) 8 (((x2.toUInt32 >>> ((24 : Int32).toUInt32 &&& Int32.toUInt32 31)).toInt32) &&& 255)) 9 (((x2.toUInt32 >>> ((16 : Int32).toUInt32 &&& Int32.toUInt32 31)).toInt32) &&& 255)) 10 (((x2.toUInt32 >>> ((8 : Int32).toUInt32 &&& Int32.toUInt32 31)).toInt32) &&& 255)) 11 (((x2.toUInt32 >>> ((0 : Int32).toUInt32 &&& Int32.toUInt32 31)).toInt32) &&& 255)) 12 (((x3.toUInt32 >>> ((24 : Int32).toUInt32 &&& Int32.toUInt32 31)).toInt32) &&& 255)) 13 (((x3.toUInt32 >>> ((16 : Int32).toUInt32 &&& Int32.toUInt32 31)).toInt32) &&& 255)) 14 (((x3.toUInt32 >>> ((8 : Int32).toUInt32 &&& Int32.toUInt32 31)).toInt32) &&& 255)) 15 (((x3.toUInt32 >>> ((0 : Int32).toUInt32 &&& Int32.toUInt32 31)).toInt32) &&& 255)) 16 (((x4.toUInt32 >>> ((24 : Int32).toUInt32 &&& Int32.toUInt32 31)).toInt32) &&& 255)) 17 (((x4.toUInt32 >>> ((16 : Int32).toUInt32 &&& Int32.toUInt32 31)).toInt32) &&& 255)) 18 (((x4.toUInt32 >>> ((8 : Int32).toUInt32 &&& Int32.toUInt32 31)).toInt32) &&& 255)) 19 (((x4.toUInt32 >>> ((0 : Int32).toUInt32 &&& Int32.toUInt32 31)).toInt32) &&& 255))))] _ A s.heap _ := Wd
  refine lv_aload C.1 C.2.1 dX11_feed_57 (lv_at hl 0 rfl) ?_
  refine k_get C Wd KX10 2 1 rfl (by decide) fl_X11_65 rfl dX11_feed_59 ?_
  exact k_zret C hr hlk rfl Wd () rfl [] rfl (by decide) [] rfl (by decide) (by decide) dX11_feed_62
set_option maxHeartbeats 4000000 in
set_option maxRecDepth 100000 in
theorem kcX10_shorten (l : Launch) (D : va_G) (h0 h1 : Nat) (x0 : Int32) (sz : Nat)  : Met l yX10_shorten (Cond.code yX10_shorten cX10_shorten 2 (some .boolean) :: gG) { frames := 1, cells := 0, slots := 0, locals := 64 } (cPre D [] [(h0, .inr (10, [.ref h1, .int 0, .int 0, .int 0, .int 0, .int 0]))] sz [.ref h0, .int x0]) (va_Qi (fun (r : Int32) (_ : Unit) => (x0 < (0 : Int32) ∧ r = 0) ∨ (¬ x0 < (0 : Int32) ∧ x0 ≤ (0 : Int32) ∧ r = 1) ∨ (¬ x0 < (0 : Int32) ∧ ¬ x0 ≤ (0 : Int32) ∧ r = 0)) (fun u t => cB D (va_A [(h0, .inr (10, [.ref h1, .int 0, .int 0, .int 0, .int 0, .int 0]))] sz) ((fun (_ : Unit) => ([] : List (ClassId × FieldType))) u) ((fun (_ : Unit) => ([] : va_W)) u) t) (va_A [(h0, .inr (10, [.ref h1, .int 0, .int 0, .int 0, .int 0, .int 0]))] sz)) 0 0 (va_A [(h0, .inr (10, [.ref h1, .int 0, .int 0, .int 0, .int 0, .int 0]))] sz) := by
  refine Met.ofW (cc := cX10_shorten) (maxL := 2) (ret := (some .boolean)) (by decide) rfl ?_
  intro p e s m args below meth c s₁ B hml hv
  obtain ⟨rfl, aks, rfl, Wd⟩ := k_enter hv
  have C : CallFix p m c cX10_shorten 2 s _ gG RX10 := ⟨B.exec, B.bytes, hml, findClass_of_methodNamed B.named, fun w h => atoms_spec (ws := Cond.code yX10_shorten cX10_shorten 2 (some .boolean) :: gG) B.pre w (List.mem_cons_of_mem _ h)⟩
  have hr := B.returns
  have hlk := B.notSynchronized
  generalize va_A [(h0, .inr (10, [.ref h1, .int 0, .int 0, .int 0, .int 0, .int 0]))] s.heap.size = A at Wd ⊢
  refine k_locals (Nat.le_of_ble_eq_true rfl) [(0, .ref h0), (1, .int x0)] rfl (fun ls hl => ?_)
  refine lv_iload_n C.1 C.2.1 dX10_shorten_0 rfl (lv_at hl 1 rfl) ?_
  refine lv_if_lt (tgt := 12) C.1 C.2.1 dX10_shorten_1 (by decide) (fun c1169 => ?_) (fun c1169 => ?_)
  · refine lv_iconst (v := 0) C.1 C.2.1 dX10_shorten_12 (by decide) ?_
    exact k_zret C hr hlk rfl Wd () (Or.inl (⟨c1169, rfl⟩)) [] rfl (by decide) [] rfl (by decide) (by decide) dX10_shorten_13
  · refine lv_iload_n C.1 C.2.1 dX10_shorten_4 rfl (lv_at hl 1 rfl) ?_
    refine lv_aload_n C.1 C.2.1 dX10_shorten_5 rfl (lv_at hl 0 rfl) ?_
    refine k_get C Wd KX10 0 1 rfl (by decide) fl_X10_15 rfl dX10_shorten_6 ?_
    refine lv_icmp_le (tgt := 14) C.1 C.2.1 dX10_shorten_9 (by decide) (fun c1170 => ?_) (fun c1170 => ?_)
    · refine lv_aload_n C.1 C.2.1 dX10_shorten_14 rfl (lv_at hl 0 rfl) ?_
      refine lv_iload_n C.1 C.2.1 dX10_shorten_15 rfl (lv_at hl 1 rfl) ?_
      refine k_put C Wd KX10 0 1 [(h0, .inr (10, [.ref h1, .int x0, .int 0, .int 0, .int 0, .int 0]))] rfl (by decide) fl_X10_15 rfl rfl rfl (Nat.le_of_ble_eq_true rfl) rfl dX10_shorten_16 (fun H locs Wd => ?_)
      refine lv_iconst (v := 1) C.1 C.2.1 dX10_shorten_19 (by decide) ?_
      exact k_zret C hr hlk rfl Wd () (Or.inr (Or.inl (⟨c1169, c1170, rfl⟩))) [] rfl (by decide) [] rfl (by decide) (by decide) dX10_shorten_20
    · refine lv_iconst (v := 0) C.1 C.2.1 dX10_shorten_12 (by decide) ?_
      exact k_zret C hr hlk rfl Wd () (Or.inr (Or.inr (⟨c1169, c1170, rfl⟩))) [] rfl (by decide) [] rfl (by decide) (by decide) dX10_shorten_13
set_option maxHeartbeats 4000000 in
set_option maxRecDepth 100000 in
theorem kcX11_end (l : Launch) (D : va_G) (h0 h1 h2 h3 h4 h5 h6 h7 h9 h10 h11 h12 h13 h30 : Nat) (x0 : Int32) (sz : Nat)  : Met l yX11_end (Cond.code yX11_end cX11_end 2 (some .boolean) :: gG) { frames := 2, cells := 0, slots := 0, locals := 85 } (cPre D [] [(h0, .inr (11, [.ref h1, .int 0, .ref h2, .ref h3, .ref h4, .ref h5, .ref h6, .ref h7])), (h3, .inr (6, [.ref h9, .int 0, .int (-1), .ref h10, .null, .int 0, .int 0, .int 0, .int 0, .int 0, .int 0, .int 0, .int 0, .int 0, .ref h11, .ref h12, .ref h13])), (h9, .inr (10, [.ref h30, .int 0, .int 0, .int 0, .int 0, .int 0]))] sz [.ref h0, .int x0]) (va_Qi (fun (r : Int32) (_ : Unit) => (x0 < (0 : Int32) ∧ r = 0) ∨ (¬ x0 < (0 : Int32) ∧ x0 ≤ (0 : Int32) ∧ r = 1) ∨ (¬ x0 < (0 : Int32) ∧ ¬ x0 ≤ (0 : Int32) ∧ r = 0)) (fun u t => cB D (va_A [(h0, .inr (11, [.ref h1, .int 0, .ref h2, .ref h3, .ref h4, .ref h5, .ref h6, .ref h7])), (h3, .inr (6, [.ref h9, .int 0, .int (-1), .ref h10, .null, .int 0, .int 0, .int 0, .int 0, .int 0, .int 0, .int 0, .int 0, .int 0, .ref h11, .ref h12, .ref h13])), (h9, .inr (10, [.ref h30, .int 0, .int 0, .int 0, .int 0, .int 0]))] sz) ((fun (_ : Unit) => ([] : List (ClassId × FieldType))) u) ((fun (_ : Unit) => ([] : va_W)) u) t) (va_A [(h0, .inr (11, [.ref h1, .int 0, .ref h2, .ref h3, .ref h4, .ref h5, .ref h6, .ref h7])), (h3, .inr (6, [.ref h9, .int 0, .int (-1), .ref h10, .null, .int 0, .int 0, .int 0, .int 0, .int 0, .int 0, .int 0, .int 0, .int 0, .ref h11, .ref h12, .ref h13])), (h9, .inr (10, [.ref h30, .int 0, .int 0, .int 0, .int 0, .int 0]))] sz)) 0 0 (va_A [(h0, .inr (11, [.ref h1, .int 0, .ref h2, .ref h3, .ref h4, .ref h5, .ref h6, .ref h7])), (h3, .inr (6, [.ref h9, .int 0, .int (-1), .ref h10, .null, .int 0, .int 0, .int 0, .int 0, .int 0, .int 0, .int 0, .int 0, .int 0, .ref h11, .ref h12, .ref h13])), (h9, .inr (10, [.ref h30, .int 0, .int 0, .int 0, .int 0, .int 0]))] sz) := by
  refine Met.ofW (cc := cX11_end) (maxL := 2) (ret := (some .boolean)) (by decide) rfl ?_
  intro p e s m args below meth c s₁ B hml hv
  obtain ⟨rfl, aks, rfl, Wd⟩ := k_enter hv
  have C : CallFix p m c cX11_end 2 s _ gG RX11 := ⟨B.exec, B.bytes, hml, findClass_of_methodNamed B.named, fun w h => atoms_spec (ws := Cond.code yX11_end cX11_end 2 (some .boolean) :: gG) B.pre w (List.mem_cons_of_mem _ h)⟩
  have hr := B.returns
  have hlk := B.notSynchronized
  generalize va_A [(h0, .inr (11, [.ref h1, .int 0, .ref h2, .ref h3, .ref h4, .ref h5, .ref h6, .ref h7])), (h3, .inr (6, [.ref h9, .int 0, .int (-1), .ref h10, .null, .int 0, .int 0, .int 0, .int 0, .int 0, .int 0, .int 0, .int 0, .int 0, .ref h11, .ref h12, .ref h13])), (h9, .inr (10, [.ref h30, .int 0, .int 0, .int 0, .int 0, .int 0]))] s.heap.size = A at Wd ⊢
  refine k_locals (Nat.le_of_ble_eq_true rfl) [(0, .ref h0), (1, .int x0)] rfl (fun ls hl => ?_)
  refine lv_aload_n C.1 C.2.1 dX11_end_0 rfl (lv_at hl 0 rfl) ?_
  refine k_get C Wd KX11 0 3 rfl (by decide) fl_X11_29 rfl dX11_end_1 ?_
  refine k_get C Wd KX6 1 0 rfl (by decide) fl_X11_61 rfl dX11_end_4 ?_
  refine lv_iload_n C.1 C.2.1 dX11_end_7 rfl (lv_at hl 1 rfl) ?_
  refine k_ci Wd [2] [0, 1] rfl (wr := [(h0, .inr (11, [.ref h1, .int 0, .ref h2, .ref h3, .ref h4, .ref h5, .ref h6, .ref h7])), (h3, .inr (6, [.ref h9, .int 0, .int (-1), .ref h10, .null, .int 0, .int 0, .int 0, .int 0, .int 0, .int 0, .int 0, .int 0, .int 0, .ref h11, .ref h12, .ref h13]))]) rfl (by decide) (by decide) (cells' := 0) (slots' := 0) (by decide) (by decide) (k_runV (rest := []) C aks Wd cs_X11_73 (kcX10_shorten l D h9 h30 x0 _ ) [2] rfl (by decide) [] rfl 2 10 rfl rfl rfl rfl rfl ⟨(Nat.le_of_ble_eq_true rfl), (Nat.le_of_ble_eq_true rfl)⟩ hl.1 rfl rfl (Nat.le_of_ble_eq_true rfl) ⟨(Nat.le_of_ble_eq_true rfl), (Nat.le_of_ble_eq_true rfl)⟩ dX11_end_8) (fun r _ H locs w1177 Wd => ?_)
  have Wd : wX D [] s [(h0, .inr (11, [.ref h1, .int 0, .ref h2, .ref h3, .ref h4, .ref h5, .ref h6, .ref h7])), (h3, .inr (6, [.ref h9, .int 0, .int (-1), .ref h10, .null, .int 0, .int 0, .int 0, .int 0, .int 0, .int 0, .int 0, .int 0, .int 0, .ref h11, .ref h12, .ref h13]))] _ A s.heap _ := Wd
  rcases w1177 with ⟨c1178, rfl⟩ | ⟨c1179, c1180, rfl⟩ | ⟨c1181, c1182, rfl⟩
  · exact k_zret C hr hlk rfl Wd () (Or.inl (⟨c1178, rfl⟩)) [] rfl (by decide) [] rfl (by decide) (by decide) dX11_end_11
  · exact k_zret C hr hlk rfl Wd () (Or.inr (Or.inl (⟨c1179, c1180, rfl⟩))) [] rfl (by decide) [] rfl (by decide) (by decide) dX11_end_11
  · exact k_zret C hr hlk rfl Wd () (Or.inr (Or.inr (⟨c1181, c1182, rfl⟩))) [] rfl (by decide) [] rfl (by decide) (by decide) dX11_end_11
set_option maxHeartbeats 4000000 in
set_option maxRecDepth 100000 in
theorem kcX4_ruleAt (l : Launch) (D : va_G) (h0 h1 h2 h3 h4 h5 h6 h7 h8 h13 : Nat) (g0 : Nat → Option Nat) (a0 : ClassId) (sz : Nat) (k_g0_0 : g0 0 = some h13) : Met l yX4_ruleAt (Cond.code yX4_ruleAt cX4_ruleAt 2 (some (.object "SameAfter$Rule")) :: gG) { frames := 1, cells := 0, slots := 0, locals := 64 } (cPre D [(a0, .object RX9)] [(h0, .inr (4, [.ref h1, .ref h2, .ref h3, .int (-1), .int (-1), .ref h4, .ref h5, .ref h6, .ref h7, .ref h8])), (h4, .inl (a0, 12, .inr (.inr (.inr (.inr g0)))))] sz [.ref h0, .int 0]) (va_Sq (fun r => r = some h13)) 0 0 (fun _ => False) := by
  refine Met.ofW (cc := cX4_ruleAt) (maxL := 2) (ret := (some (.object "SameAfter$Rule"))) (by decide) rfl ?_
  intro p e s m args below meth c s₁ B hml hv
  obtain ⟨rfl, aks, rfl, Wd⟩ := k_enter hv
  have C : CallFix p m c cX4_ruleAt 2 s _ gG RX4 := ⟨B.exec, B.bytes, hml, findClass_of_methodNamed B.named, fun w h => atoms_spec (ws := Cond.code yX4_ruleAt cX4_ruleAt 2 (some (.object "SameAfter$Rule")) :: gG) B.pre w (List.mem_cons_of_mem _ h)⟩
  have hr := B.returns
  have hlk := B.notSynchronized
  obtain ⟨A, Wd⟩ : ∃ A, wX D [(a0, .object RX9)] s [(h0, .inr (4, [.ref h1, .ref h2, .ref h3, .int (-1), .int (-1), .ref h4, .ref h5, .ref h6, .ref h7, .ref h8])), (h4, .inl (a0, 12, .inr (.inr (.inr (.inr g0)))))] s.heap A s.heap [] := ⟨_, Wd⟩
  refine k_locals (Nat.le_of_ble_eq_true rfl) [(0, .ref h0), (1, .int 0)] rfl (fun ls hl => ?_)
  refine lv_iload_n C.1 C.2.1 dX4_ruleAt_0 rfl (lv_at hl 1 rfl) ?_
  refine lv_if_lt (tgt := 22) C.1 C.2.1 dX4_ruleAt_1 (by decide) (fun c1185 => absurd c1185 (by decide)) (fun _ => ?_)
  refine lv_iload_n C.1 C.2.1 dX4_ruleAt_4 rfl (lv_at hl 1 rfl) ?_
  refine lv_aload_n C.1 C.2.1 dX4_ruleAt_5 rfl (lv_at hl 0 rfl) ?_
  refine k_get C Wd KX4 0 5 rfl (by decide) fl_X4_11 rfl dX4_ruleAt_6 ?_
  refine k_alen (v := 12) C Wd 1 0 rfl rfl rfl dX4_ruleAt_9 ?_
  refine lv_icmp_ge (tgt := 22) C.1 C.2.1 dX4_ruleAt_10 (by decide) (fun c1186 => absurd c1186 (by decide)) (fun _ => ?_)
  refine lv_aload_n C.1 C.2.1 dX4_ruleAt_13 rfl (lv_at hl 0 rfl) ?_
  refine k_get C Wd KX4 0 5 rfl (by decide) fl_X4_11 rfl dX4_ruleAt_14 ?_
  refine lv_iload_n C.1 C.2.1 dX4_ruleAt_17 rfl (lv_at hl 1 rfl) ?_
  refine k_aldq (v := .ref h13) C Wd 1 0 rfl rfl (vp_in_iff.mpr (by decide)) (congrArg va_rf k_g0_0) dX4_ruleAt_18 ?_
  refine lv_goto (tgt := 23) C.1 C.2.1 dX4_ruleAt_19 (by decide) ?_
  exact k_aretP (some h13) rfl C hr hlk rfl dX4_ruleAt_23
set_option maxHeartbeats 4000000 in
set_option maxRecDepth 100000 in
theorem kcX9_forget (l : Launch) (D : va_G) (h0 h1 h2 h3 h4 h5 h6 : Nat) (sz : Nat)  : Met l yX9_forget (Cond.code yX9_forget cX9_forget 1 none :: gG) { frames := 1, cells := 0, slots := 0, locals := 64 } (cPre D [] [(h0, .inr (9, [.ref h1, .ref h2, .int 0, .ref h3, .ref h4])), (h1, .inr (8, [.ref h5, .int 0])), (h2, .inr (8, [.ref h6, .int 0]))] sz [.ref h0]) (va_Qv (fun (_ : Unit) => True) (fun u t => cB D (va_A [(h0, .inr (9, [.ref h1, .ref h2, .int 0, .ref h3, .ref h4])), (h1, .inr (8, [.ref h5, .int 0])), (h2, .inr (8, [.ref h6, .int 0]))] sz) ((fun (_ : Unit) => ([] : List (ClassId × FieldType))) u) ((fun (_ : Unit) => ([(h0, .inr (9, [.ref h1, .ref h2, .int 0, .ref h3, .ref h4])), (h1, .inr (8, [.ref h5, .int 0])), (h2, .inr (8, [.ref h6, .int 0]))] : va_W)) u) t) (va_A [(h0, .inr (9, [.ref h1, .ref h2, .int 0, .ref h3, .ref h4])), (h1, .inr (8, [.ref h5, .int 0])), (h2, .inr (8, [.ref h6, .int 0]))] sz)) 0 0 (va_A [(h0, .inr (9, [.ref h1, .ref h2, .int 0, .ref h3, .ref h4])), (h1, .inr (8, [.ref h5, .int 0])), (h2, .inr (8, [.ref h6, .int 0]))] sz) := by
  refine Met.ofW (cc := cX9_forget) (maxL := 1) (ret := none) (by decide) rfl ?_
  intro p e s m args below meth c s₁ B hml hv
  obtain ⟨rfl, aks, rfl, Wd⟩ := k_enter hv
  have C : CallFix p m c cX9_forget 1 s _ gG RX9 := ⟨B.exec, B.bytes, hml, findClass_of_methodNamed B.named, fun w h => atoms_spec (ws := Cond.code yX9_forget cX9_forget 1 none :: gG) B.pre w (List.mem_cons_of_mem _ h)⟩
  have hr := B.returns
  have hlk := B.notSynchronized
  generalize va_A [(h0, .inr (9, [.ref h1, .ref h2, .int 0, .ref h3, .ref h4])), (h1, .inr (8, [.ref h5, .int 0])), (h2, .inr (8, [.ref h6, .int 0]))] s.heap.size = A at Wd ⊢
  refine k_locals (Nat.le_of_ble_eq_true rfl) [(0, .ref h0)] rfl (fun ls hl => ?_)
  refine lv_aload_n C.1 C.2.1 dX9_forget_0 rfl (lv_at hl 0 rfl) ?_
  refine k_get C Wd KX9 0 0 rfl (by decide) fl_X9_14 rfl dX9_forget_1 ?_
  refine lv_iconst (v := 0) C.1 C.2.1 dX9_forget_4 (by decide) ?_
  refine k_put C Wd KX8 1 1 [(h0, .inr (9, [.ref h1, .ref h2, .int 0, .ref h3, .ref h4])), (h1, .inr (8, [.ref h5, .int 0])), (h2, .inr (8, [.ref h6, .int 0]))] rfl (by decide) fl_X9_34 rfl rfl rfl (Nat.le_of_ble_eq_true rfl) rfl dX9_forget_5 (fun H locs Wd => ?_)
  refine lv_aload_n C.1 C.2.1 dX9_forget_8 rfl (lv_at hl 0 rfl) ?_
  refine k_get C Wd KX9 0 1 rfl (by decide) fl_X9_20 rfl dX9_forget_9 ?_
  refine lv_iconst (v := 0) C.1 C.2.1 dX9_forget_12 (by decide) ?_
  refine k_put C Wd KX8 2 1 [(h0, .inr (9, [.ref h1, .ref h2, .int 0, .ref h3, .ref h4])), (h1, .inr (8, [.ref h5, .int 0])), (h2, .inr (8, [.ref h6, .int 0]))] rfl (by decide) fl_X9_34 rfl rfl rfl (Nat.le_of_ble_eq_true rfl) rfl dX9_forget_13 (fun H locs Wd => ?_)
  refine lv_aload_n C.1 C.2.1 dX9_forget_16 rfl (lv_at hl 0 rfl) ?_
  refine lv_iconst (v := 0) C.1 C.2.1 dX9_forget_17 (by decide) ?_
  refine k_put C Wd KX9 0 2 [(h0, .inr (9, [.ref h1, .ref h2, .int 0, .ref h3, .ref h4])), (h1, .inr (8, [.ref h5, .int 0])), (h2, .inr (8, [.ref h6, .int 0]))] rfl (by decide) fl_X9_30 rfl rfl rfl (Nat.le_of_ble_eq_true rfl) rfl dX9_forget_18 (fun H locs Wd => ?_)
  exact k_vret C hr hlk Wd () trivial [0, 1, 2] rfl (by decide) [] rfl (by decide) (by decide) dX9_forget_21
set_option maxHeartbeats 4000000 in
set_option maxRecDepth 100000 in
theorem kcX10_rewind (l : Launch) (D : va_G) (h0 h1 : Nat) (sz : Nat)  : Met l yX10_rewind (Cond.code yX10_rewind cX10_rewind 1 none :: gG) { frames := 1, cells := 0, slots := 0, locals := 64 } (cPre D [] [(h0, .inr (10, [.ref h1, .int 0, .int 0, .int 0, .int 0, .int 0]))] sz [.ref h0]) (va_Qv (fun (_ : Unit) => True) (fun u t => cB D (va_A [(h0, .inr (10, [.ref h1, .int 0, .int 0, .int 0, .int 0, .int 0]))] sz) ((fun (_ : Unit) => ([] : List (ClassId × FieldType))) u) ((fun (_ : Unit) => ([(h0, .inr (10, [.ref h1, .int 0, .int 0, .int 0, .int 0, .int 0]))] : va_W)) u) t) (va_A [(h0, .inr (10, [.ref h1, .int 0, .int 0, .int 0, .int 0, .int 0]))] sz)) 0 0 (va_A [(h0, .inr (10, [.ref h1, .int 0, .int 0, .int 0, .int 0, .int 0]))] sz) := by
  refine Met.ofW (cc := cX10_rewind) (maxL := 1) (ret := none) (by decide) rfl ?_
  intro p e s m args below meth c s₁ B hml hv
  obtain ⟨rfl, aks, rfl, Wd⟩ := k_enter hv
  have C : CallFix p m c cX10_rewind 1 s _ gG RX10 := ⟨B.exec, B.bytes, hml, findClass_of_methodNamed B.named, fun w h => atoms_spec (ws := Cond.code yX10_rewind cX10_rewind 1 none :: gG) B.pre w (List.mem_cons_of_mem _ h)⟩
  have hr := B.returns
  have hlk := B.notSynchronized
  generalize va_A [(h0, .inr (10, [.ref h1, .int 0, .int 0, .int 0, .int 0, .int 0]))] s.heap.size = A at Wd ⊢
  refine k_locals (Nat.le_of_ble_eq_true rfl) [(0, .ref h0)] rfl (fun ls hl => ?_)
  refine lv_aload_n C.1 C.2.1 dX10_rewind_0 rfl (lv_at hl 0 rfl) ?_
  refine lv_iconst (v := 0) C.1 C.2.1 dX10_rewind_1 (by decide) ?_
  refine k_put C Wd KX10 0 5 [(h0, .inr (10, [.ref h1, .int 0, .int 0, .int 0, .int 0, .int 0]))] rfl (by decide) fl_X10_19 rfl rfl rfl (Nat.le_of_ble_eq_true rfl) rfl dX10_rewind_2 (fun H locs Wd => ?_)
  refine lv_aload_n C.1 C.2.1 dX10_rewind_5 rfl (lv_at hl 0 rfl) ?_
  refine lv_iconst (v := 0) C.1 C.2.1 dX10_rewind_6 (by decide) ?_
  refine k_put C Wd KX10 0 4 [(h0, .inr (10, [.ref h1, .int 0, .int 0, .int 0, .int 0, .int 0]))] rfl (by decide) fl_X10_22 rfl rfl rfl (Nat.le_of_ble_eq_true rfl) rfl dX10_rewind_7 (fun H locs Wd => ?_)
  refine lv_aload_n C.1 C.2.1 dX10_rewind_10 rfl (lv_at hl 0 rfl) ?_
  refine lv_iconst (v := 0) C.1 C.2.1 dX10_rewind_11 (by decide) ?_
  refine k_put C Wd KX10 0 2 [(h0, .inr (10, [.ref h1, .int 0, .int 0, .int 0, .int 0, .int 0]))] rfl (by decide) fl_X10_25 rfl rfl rfl (Nat.le_of_ble_eq_true rfl) rfl dX10_rewind_12 (fun H locs Wd => ?_)
  refine lv_aload_n C.1 C.2.1 dX10_rewind_15 rfl (lv_at hl 0 rfl) ?_
  refine lv_iconst (v := 0) C.1 C.2.1 dX10_rewind_16 (by decide) ?_
  refine k_put C Wd KX10 0 3 [(h0, .inr (10, [.ref h1, .int 0, .int 0, .int 0, .int 0, .int 0]))] rfl (by decide) fl_X10_28 rfl rfl rfl (Nat.le_of_ble_eq_true rfl) rfl dX10_rewind_17 (fun H locs Wd => ?_)
  exact k_vret C hr hlk Wd () trivial [0] rfl (by decide) [] rfl (by decide) (by decide) dX10_rewind_20
set_option maxHeartbeats 4000000 in
set_option maxRecDepth 100000 in
theorem kcX6_begin (l : Launch) (D : va_G) (h0 h1 h2 h3 h4 h5 h6 h7 h8 h12 : Nat) (sz : Nat)  : Met l yX6_begin (Cond.code yX6_begin cX6_begin 4 none :: gG) { frames := 2, cells := 0, slots := 0, locals := 84 } (cPre D [] [(h0, .inr (6, [.ref h3, .int 0, .int (-1), .ref h4, .null, .int 0, .int 0, .int 0, .int 0, .int 0, .int 0, .int 0, .int 0, .int 0, .ref h5, .ref h6, .ref h7])), (h1, .inr (8, [.ref h8, .int 0])), (h3, .inr (10, [.ref h12, .int 0, .int 0, .int 0, .int 0, .int 0]))] sz [.ref h0, .ref h1, .ref h2, .int 40]) (va_Qv (fun (_ : Unit) => True) (fun u t => cB D (va_A [(h0, .inr (6, [.ref h3, .int 0, .int (-1), .ref h4, .null, .int 0, .int 0, .int 0, .int 0, .int 0, .int 0, .int 0, .int 0, .int 0, .ref h5, .ref h6, .ref h7])), (h1, .inr (8, [.ref h8, .int 0])), (h3, .inr (10, [.ref h12, .int 0, .int 0, .int 0, .int 0, .int 0]))] sz) ((fun (_ : Unit) => ([] : List (ClassId × FieldType))) u) ((fun (_ : Unit) => ([(h0, .inr (6, [.ref h3, .int 0, .int (-1), .ref h1, .ref h2, .int 0, .int 0, .int 0, .int 0, .int 40, .int 0, .int 0, .int 0, .int 0, .ref h5, .ref h6, .ref h7])), (h1, .inr (8, [.ref h8, .int 0])), (h3, .inr (10, [.ref h12, .int 0, .int 0, .int 0, .int 0, .int 0]))] : va_W)) u) t) (va_A [(h0, .inr (6, [.ref h3, .int 0, .int (-1), .ref h4, .null, .int 0, .int 0, .int 0, .int 0, .int 0, .int 0, .int 0, .int 0, .int 0, .ref h5, .ref h6, .ref h7])), (h1, .inr (8, [.ref h8, .int 0])), (h3, .inr (10, [.ref h12, .int 0, .int 0, .int 0, .int 0, .int 0]))] sz)) 0 0 (va_A [(h0, .inr (6, [.ref h3, .int 0, .int (-1), .ref h4, .null, .int 0, .int 0, .int 0, .int 0, .int 0, .int 0, .int 0, .int 0, .int 0, .ref h5, .ref h6, .ref h7])), (h1, .inr (8, [.ref h8, .int 0])), (h3, .inr (10, [.ref h12, .int 0, .int 0, .int 0, .int 0, .int 0]))] sz) := by
  refine Met.ofW (cc := cX6_begin) (maxL := 4) (ret := none) (by decide) rfl ?_
  intro p e s m args below meth c s₁ B hml hv
  obtain ⟨rfl, aks, rfl, Wd⟩ := k_enter hv
  have C : CallFix p m c cX6_begin 4 s _ gG RX6 := ⟨B.exec, B.bytes, hml, findClass_of_methodNamed B.named, fun w h => atoms_spec (ws := Cond.code yX6_begin cX6_begin 4 none :: gG) B.pre w (List.mem_cons_of_mem _ h)⟩
  have hr := B.returns
  have hlk := B.notSynchronized
  generalize va_A [(h0, .inr (6, [.ref h3, .int 0, .int (-1), .ref h4, .null, .int 0, .int 0, .int 0, .int 0, .int 0, .int 0, .int 0, .int 0, .int 0, .ref h5, .ref h6, .ref h7])), (h1, .inr (8, [.ref h8, .int 0])), (h3, .inr (10, [.ref h12, .int 0, .int 0, .int 0, .int 0, .int 0]))] s.heap.size = A at Wd ⊢
  refine k_locals (Nat.le_of_ble_eq_true rfl) [(0, .ref h0), (1, .ref h1), (2, .ref h2), (3, .int 40)] rfl (fun ls hl => ?_)
  refine lv_aload_n C.1 C.2.1 dX6_begin_0 rfl (lv_at hl 0 rfl) ?_
  refine lv_iconst (v := 0) C.1 C.2.1 dX6_begin_1 (by decide) ?_
  refine k_put C Wd KX6 0 1 [(h0, .inr (6, [.ref h3, .int 0, .int (-1), .ref h4, .null, .int 0, .int 0, .int 0, .int 0, .int 0, .int 0, .int 0, .int 0, .int 0, .ref h5, .ref h6, .ref h7])), (h1, .inr (8, [.ref h8, .int 0])), (h3, .inr (10, [.ref h12, .int 0, .int 0, .int 0, .int 0, .int 0]))] rfl (by decide) fl_X6_37 rfl rfl rfl (Nat.le_of_ble_eq_true rfl) rfl dX6_begin_2 (fun H locs Wd => ?_)
  refine lv_aload_n C.1 C.2.1 dX6_begin_5 rfl (lv_at hl 0 rfl) ?_
  refine lv_iconst (v := (-1)) C.1 C.2.1 dX6_begin_6 (by decide) ?_
  refine k_put C Wd KX6 0 2 [(h0, .inr (6, [.ref h3, .int 0, .int (-1), .ref h4, .null, .int 0, .int 0, .int 0, .int 0, .int 0, .int 0, .int 0, .int 0, .int 0, .ref h5, .ref h6, .ref h7])), (h1, .inr (8, [.ref h8, .int 0])), (h3, .inr (10, [.ref h12, .int 0, .int 0, .int 0, .int 0, .int 0]))] rfl (by decide) fl_X6_41 rfl rfl rfl (Nat.le_of_ble_eq_true rfl) rfl dX6_begin_7 (fun H locs Wd => ?_)
  refine lv_aload_n C.1 C.2.1 dX6_begin_10 rfl (lv_at hl 0 rfl) ?_
  refine lv_aload_n C.1 C.2.1 dX6_begin_11 rfl (lv_at hl 1 rfl) ?_
  refine k_put C Wd KX6 0 3 [(h0, .inr (6, [.ref h3, .int 0, .int (-1), .ref h1, .null, .int 0, .int 0, .int 0, .int 0, .int 0, .int 0, .int 0, .int 0, .int 0, .ref h5, .ref h6, .ref h7])), (h1, .inr (8, [.ref h8, .int 0])), (h3, .inr (10, [.ref h12, .int 0, .int 0, .int 0, .int 0, .int 0]))] rfl (by decide) fl_X6_23 rfl rfl rfl (Nat.le_of_ble_eq_true rfl) rfl dX6_begin_12 (fun H locs Wd => ?_)
  refine lv_aload_n C.1 C.2.1 dX6_begin_15 rfl (lv_at hl 0 rfl) ?_
  refine k_get C Wd KX6 0 3 rfl (by decide) fl_X6_23 rfl dX6_begin_16 ?_
  refine lv_iconst (v := 0) C.1 C.2.1 dX6_begin_19 (by decide) ?_
  refine k_put C Wd KX8 1 1 [(h0, .inr (6, [.ref h3, .int 0, .int (-1), .ref h1, .null, .int 0, .int 0, .int 0, .int 0, .int 0, .int 0, .int 0, .int 0, .int 0, .ref h5, .ref h6, .ref h7])), (h1, .inr (8, [.ref h8, .int 0])), (h3, .inr (10, [.ref h12, .int 0, .int 0, .int 0, .int 0, .int 0]))] rfl (by decide) fl_X6_66 rfl rfl rfl (Nat.le_of_ble_eq_true rfl) rfl dX6_begin_20 (fun H locs Wd => ?_)
  refine lv_aload_n C.1 C.2.1 dX6_begin_23 rfl (lv_at hl 0 rfl) ?_
  refine lv_aload_n C.1 C.2.1 dX6_begin_24 rfl (lv_at hl 2 rfl) ?_
  refine k_put C Wd KX6 0 4 [(h0, .inr (6, [.ref h3, .int 0, .int (-1), .ref h1, .ref h2, .int 0, .int 0, .int 0, .int 0, .int 0, .int 0, .int 0, .int 0, .int 0, .ref h5, .ref h6, .ref h7])), (h1, .inr (8, [.ref h8, .int 0])), (h3, .inr (10, [.ref h12, .int 0, .int 0, .int 0, .int 0, .int 0]))] rfl (by decide) fl_X6_69 rfl rfl rfl (Nat.le_of_ble_eq_true rfl) rfl dX6_begin_25 (fun H locs Wd => ?_)
  refine lv_aload_n C.1 C.2.1 dX6_begin_28 rfl (lv_at hl 0 rfl) ?_
  refine lv_iconst (v := 0) C.1 C.2.1 dX6_begin_29 (by decide) ?_
  refine k_put C Wd KX6 0 7 [(h0, .inr (6, [.ref h3, .int 0, .int (-1), .ref h1, .ref h2, .int 0, .int 0, .int 0, .int 0, .int 0, .int 0, .int 0, .int 0, .int 0, .ref h5, .ref h6, .ref h7])), (h1, .inr (8, [.ref h8, .int 0])), (h3, .inr (10, [.ref h12, .int 0, .int 0, .int 0, .int 0, .int 0]))] rfl (by decide) fl_X6_73 rfl rfl rfl (Nat.le_of_ble_eq_true rfl) rfl dX6_begin_30 (fun H locs Wd => ?_)
  refine lv_aload_n C.1 C.2.1 dX6_begin_33 rfl (lv_at hl 0 rfl) ?_
  refine lv_iconst (v := 0) C.1 C.2.1 dX6_begin_34 (by decide) ?_
  refine k_put C Wd KX6 0 8 [(h0, .inr (6, [.ref h3, .int 0, .int (-1), .ref h1, .ref h2, .int 0, .int 0, .int 0, .int 0, .int 0, .int 0, .int 0, .int 0, .int 0, .ref h5, .ref h6, .ref h7])), (h1, .inr (8, [.ref h8, .int 0])), (h3, .inr (10, [.ref h12, .int 0, .int 0, .int 0, .int 0, .int 0]))] rfl (by decide) fl_X6_76 rfl rfl rfl (Nat.le_of_ble_eq_true rfl) rfl dX6_begin_35 (fun H locs Wd => ?_)
  refine lv_aload_n C.1 C.2.1 dX6_begin_38 rfl (lv_at hl 0 rfl) ?_
  refine lv_iload_n C.1 C.2.1 dX6_begin_39 rfl (lv_at hl 3 rfl) ?_
  refine k_put C Wd KX6 0 9 [(h0, .inr (6, [.ref h3, .int 0, .int (-1), .ref h1, .ref h2, .int 0, .int 0, .int 0, .int 0, .int 40, .int 0, .int 0, .int 0, .int 0, .ref h5, .ref h6, .ref h7])), (h1, .inr (8, [.ref h8, .int 0])), (h3, .inr (10, [.ref h12, .int 0, .int 0, .int 0, .int 0, .int 0]))] rfl (by decide) fl_X6_79 rfl rfl rfl (Nat.le_of_ble_eq_true rfl) rfl dX6_begin_40 (fun H locs Wd => ?_)
  refine lv_aload_n C.1 C.2.1 dX6_begin_43 rfl (lv_at hl 0 rfl) ?_
  refine lv_iconst (v := 0) C.1 C.2.1 dX6_begin_44 (by decide) ?_
  refine k_put C Wd KX6 0 13 [(h0, .inr (6, [.ref h3, .int 0, .int (-1), .ref h1, .ref h2, .int 0, .int 0, .int 0, .int 0, .int 40, .int 0, .int 0, .int 0, .int 0, .ref h5, .ref h6, .ref h7])), (h1, .inr (8, [.ref h8, .int 0])), (h3, .inr (10, [.ref h12, .int 0, .int 0, .int 0, .int 0, .int 0]))] rfl (by decide) fl_X6_82 rfl rfl rfl (Nat.le_of_ble_eq_true rfl) rfl dX6_begin_45 (fun H locs Wd => ?_)
  refine lv_aload_n C.1 C.2.1 dX6_begin_48 rfl (lv_at hl 0 rfl) ?_
  refine k_get C Wd KX6 0 0 rfl (by decide) fl_X6_12 rfl dX6_begin_49 ?_
  refine k_cv Wd [2] [0, 1] rfl (wr := [(h0, .inr (6, [.ref h3, .int 0, .int (-1), .ref h1, .ref h2, .int 0, .int 0, .int 0, .int 0, .int 40, .int 0, .int 0, .int 0, .int 0, .ref h5, .ref h6, .ref h7])), (h1, .inr (8, [.ref h8, .int 0]))]) rfl (by decide) (by decide) (cells' := 0) (slots' := 0) (by decide) (by decide) (k_runV (rest := []) C aks Wd cs_X6_85 (kcX10_rewind l D h3 h12 _ ) [2] rfl (by decide) [] rfl 2 10 rfl rfl rfl rfl rfl ⟨(Nat.le_of_ble_eq_true rfl), (Nat.le_of_ble_eq_true rfl)⟩ hl.1 rfl rfl (Nat.le_of_ble_eq_true rfl) ⟨(Nat.le_of_ble_eq_true rfl), (Nat.le_of_ble_eq_true rfl)⟩ dX6_begin_52) (fun _ H locs w1190 Wd => ?_)
  have Wd : wX D [] s [(h0, .inr (6, [.ref h3, .int 0, .int (-1), .ref h1, .ref h2, .int 0, .int 0, .int 0, .int 0, .int 40, .int 0, .int 0, .int 0, .int 0, .ref h5, .ref h6, .ref h7])), (h1, .inr (8, [.ref h8, .int 0])), (h3, .inr (10, [.ref h12, .int 0, .int 0, .int 0, .int 0, .int 0]))] _ A s.heap _ := Wd
  exact k_vret C hr hlk Wd () trivial [0, 1, 2] rfl (by decide) [] rfl (by decide) (by decide) dX6_begin_55
set_option maxHeartbeats 4000000 in
set_option maxRecDepth 100000 in
theorem kcX6_beginExpression (l : Launch) (D : va_G) (h0 h1 h2 h3 h4 h5 h6 h8 : Nat) (sz : Nat)  : Met l yX6_beginExpression (Cond.code yX6_beginExpression cX6_beginExpression 2 none :: gG) { frames := 1, cells := 0, slots := 0, locals := 64 } (cPre D [] [(h0, .inr (6, [.ref h1, .int 0, .int (-1), .ref h2, .ref h3, .int 0, .int 0, .int 0, .int 0, .int 40, .int 0, .int 0, .int 0, .int 0, .ref h4, .ref h5, .ref h6])), (h2, .inr (8, [.ref h8, .int 0]))] sz [.ref h0, .int 3]) (va_Qv (fun (_ : Unit) => True) (fun u t => cB D (va_A [(h0, .inr (6, [.ref h1, .int 0, .int (-1), .ref h2, .ref h3, .int 0, .int 0, .int 0, .int 0, .int 40, .int 0, .int 0, .int 0, .int 0, .ref h4, .ref h5, .ref h6])), (h2, .inr (8, [.ref h8, .int 0]))] sz) ((fun (_ : Unit) => ([] : List (ClassId × FieldType))) u) ((fun (_ : Unit) => ([(h0, .inr (6, [.ref h1, .int 0, .int (-1), .ref h2, .ref h3, .int 5, .int 3, .int 0, .int 0, .int 40, .int 0, .int 0, .int 0, .int 0, .ref h4, .ref h5, .ref h6])), (h2, .inr (8, [.ref h8, .int 0]))] : va_W)) u) t) (va_A [(h0, .inr (6, [.ref h1, .int 0, .int (-1), .ref h2, .ref h3, .int 0, .int 0, .int 0, .int 0, .int 40, .int 0, .int 0, .int 0, .int 0, .ref h4, .ref h5, .ref h6])), (h2, .inr (8, [.ref h8, .int 0]))] sz)) 0 0 (va_A [(h0, .inr (6, [.ref h1, .int 0, .int (-1), .ref h2, .ref h3, .int 0, .int 0, .int 0, .int 0, .int 40, .int 0, .int 0, .int 0, .int 0, .ref h4, .ref h5, .ref h6])), (h2, .inr (8, [.ref h8, .int 0]))] sz) := by
  refine Met.ofW (cc := cX6_beginExpression) (maxL := 2) (ret := none) (by decide) rfl ?_
  intro p e s m args below meth c s₁ B hml hv
  obtain ⟨rfl, aks, rfl, Wd⟩ := k_enter hv
  have C : CallFix p m c cX6_beginExpression 2 s _ gG RX6 := ⟨B.exec, B.bytes, hml, findClass_of_methodNamed B.named, fun w h => atoms_spec (ws := Cond.code yX6_beginExpression cX6_beginExpression 2 none :: gG) B.pre w (List.mem_cons_of_mem _ h)⟩
  have hr := B.returns
  have hlk := B.notSynchronized
  generalize va_A [(h0, .inr (6, [.ref h1, .int 0, .int (-1), .ref h2, .ref h3, .int 0, .int 0, .int 0, .int 0, .int 40, .int 0, .int 0, .int 0, .int 0, .ref h4, .ref h5, .ref h6])), (h2, .inr (8, [.ref h8, .int 0]))] s.heap.size = A at Wd ⊢
  refine k_locals (Nat.le_of_ble_eq_true rfl) [(0, .ref h0), (1, .int 3)] rfl (fun ls hl => ?_)
  refine lv_aload_n C.1 C.2.1 dX6_beginExpression_0 rfl (lv_at hl 0 rfl) ?_
  refine lv_iload_n C.1 C.2.1 dX6_beginExpression_1 rfl (lv_at hl 1 rfl) ?_
  refine k_put C Wd KX6 0 6 [(h0, .inr (6, [.ref h1, .int 0, .int (-1), .ref h2, .ref h3, .int 0, .int 3, .int 0, .int 0, .int 40, .int 0, .int 0, .int 0, .int 0, .ref h4, .ref h5, .ref h6])), (h2, .inr (8, [.ref h8, .int 0]))] rfl (by decide) fl_X6_140 rfl rfl rfl (Nat.le_of_ble_eq_true rfl) rfl dX6_beginExpression_2 (fun H locs Wd => ?_)
  refine lv_aload_n C.1 C.2.1 dX6_beginExpression_5 rfl (lv_at hl 0 rfl) ?_
  refine lv_aload_n C.1 C.2.1 dX6_beginExpression_6 rfl (lv_at hl 0 rfl) ?_
  refine k_get C Wd KX6 0 3 rfl (by decide) fl_X6_23 rfl dX6_beginExpression_7 ?_
  refine k_get C Wd KX8 1 1 rfl (by decide) fl_X6_66 rfl dX6_beginExpression_10 ?_
  refine k_put C Wd KX6 0 10 [(h0, .inr (6, [.ref h1, .int 0, .int (-1), .ref h2, .ref h3, .int 0, .int 3, .int 0, .int 0, .int 40, .int 0, .int 0, .int 0, .int 0, .ref h4, .ref h5, .ref h6])), (h2, .inr (8, [.ref h8, .int 0]))] rfl (by decide) fl_X6_143 rfl rfl rfl (Nat.le_of_ble_eq_true rfl) rfl dX6_beginExpression_13 (fun H locs Wd => ?_)
  refine lv_aload_n C.1 C.2.1 dX6_beginExpression_16 rfl (lv_at hl 0 rfl) ?_
  refine lv_aload_n C.1 C.2.1 dX6_beginExpression_17 rfl (lv_at hl 0 rfl) ?_
  refine k_get C Wd KX6 0 3 rfl (by decide) fl_X6_23 rfl dX6_beginExpression_18 ?_
  refine k_get C Wd KX8 1 1 rfl (by decide) fl_X6_66 rfl dX6_beginExpression_21 ?_
  refine k_put C Wd KX6 0 11 [(h0, .inr (6, [.ref h1, .int 0, .int (-1), .ref h2, .ref h3, .int 0, .int 3, .int 0, .int 0, .int 40, .int 0, .int 0, .int 0, .int 0, .ref h4, .ref h5, .ref h6])), (h2, .inr (8, [.ref h8, .int 0]))] rfl (by decide) fl_X6_146 rfl rfl rfl (Nat.le_of_ble_eq_true rfl) rfl dX6_beginExpression_24 (fun H locs Wd => ?_)
  refine lv_aload_n C.1 C.2.1 dX6_beginExpression_27 rfl (lv_at hl 0 rfl) ?_
  refine lv_iconst (v := 5) C.1 C.2.1 dX6_beginExpression_28 (by decide) ?_
  refine k_put C Wd KX6 0 5 [(h0, .inr (6, [.ref h1, .int 0, .int (-1), .ref h2, .ref h3, .int 5, .int 3, .int 0, .int 0, .int 40, .int 0, .int 0, .int 0, .int 0, .ref h4, .ref h5, .ref h6])), (h2, .inr (8, [.ref h8, .int 0]))] rfl (by decide) fl_X6_52 rfl rfl rfl (Nat.le_of_ble_eq_true rfl) rfl dX6_beginExpression_29 (fun H locs Wd => ?_)
  exact k_vret C hr hlk Wd () trivial [0, 1] rfl (by decide) [] rfl (by decide) (by decide) dX6_beginExpression_32
set_option maxHeartbeats 4000000 in
set_option maxRecDepth 100000 in
theorem kcX6_beginRule (l : Launch) (D : va_G) (h0 h1 h2 h3 h4 h5 h6 h7 h8 h9 h10 h11 h12 h13 : Nat) (sz : Nat)  : Met l yX6_beginRule (Cond.code yX6_beginRule cX6_beginRule 2 none :: gG) { frames := 3, cells := 0, slots := 0, locals := 107 } (cPre D [] [(h1, .inr (9, [.ref h7, .ref h8, .int 0, .ref h9, .ref h10])), (h7, .inr (8, [.ref h12, .int 0])), (h8, .inr (8, [.ref h13, .int 0])), (h0, .inr (6, [.ref h2, .int 0, .int (-1), .ref h3, .null, .int 0, .int 0, .int 0, .int 0, .int 0, .int 0, .int 0, .int 0, .int 0, .ref h4, .ref h5, .ref h6])), (h2, .inr (10, [.ref h11, .int 0, .int 0, .int 0, .int 0, .int 0]))] sz [.ref h0, .ref h1]) (va_Qv (fun (_ : Unit) => True) (fun u t => cB D (va_A [(h1, .inr (9, [.ref h7, .ref h8, .int 0, .ref h9, .ref h10])), (h7, .inr (8, [.ref h12, .int 0])), (h8, .inr (8, [.ref h13, .int 0])), (h0, .inr (6, [.ref h2, .int 0, .int (-1), .ref h3, .null, .int 0, .int 0, .int 0, .int 0, .int 0, .int 0, .int 0, .int 0, .int 0, .ref h4, .ref h5, .ref h6])), (h2, .inr (10, [.ref h11, .int 0, .int 0, .int 0, .int 0, .int 0]))] sz) ((fun (_ : Unit) => ([] : List (ClassId × FieldType))) u) ((fun (_ : Unit) => ([(h1, .inr (9, [.ref h7, .ref h8, .int 0, .ref h9, .ref h10])), (h7, .inr (8, [.ref h12, .int 0])), (h8, .inr (8, [.ref h13, .int 0])), (h0, .inr (6, [.ref h2, .int 0, .int (-1), .ref h7, .ref h1, .int 5, .int 3, .int 0, .int 0, .int 40, .int 0, .int 0, .int 0, .int 0, .ref h4, .ref h5, .ref h6])), (h2, .inr (10, [.ref h11, .int 0, .int 0, .int 0, .int 0, .int 0]))] : va_W)) u) t) (va_A [(h1, .inr (9, [.ref h7, .ref h8, .int 0, .ref h9, .ref h10])), (h7, .inr (8, [.ref h12, .int 0])), (h8, .inr (8, [.ref h13, .int 0])), (h0, .inr (6, [.ref h2, .int 0, .int (-1), .ref h3, .null, .int 0, .int 0, .int 0, .int 0, .int 0, .int 0, .int 0, .int 0, .int 0, .ref h4, .ref h5, .ref h6])), (h2, .inr (10, [.ref h11, .int 0, .int 0, .int 0, .int 0, .int 0]))] sz)) 0 0 (va_A [(h1, .inr (9, [.ref h7, .ref h8, .int 0, .ref h9, .ref h10])), (h7, .inr (8, [.ref h12, .int 0])), (h8, .inr (8, [.ref h13, .int 0])), (h0, .inr (6, [.ref h2, .int 0, .int (-1), .ref h3, .null, .int 0, .int 0, .int 0, .int 0, .int 0, .int 0, .int 0, .int 0, .int 0, .ref h4, .ref h5, .ref h6])), (h2, .inr (10, [.ref h11, .int 0, .int 0, .int 0, .int 0, .int 0]))] sz) := by
  refine Met.ofW (cc := cX6_beginRule) (maxL := 2) (ret := none) (by decide) rfl ?_
  intro p e s m args below meth c s₁ B hml hv
  obtain ⟨rfl, aks, rfl, Wd⟩ := k_enter hv
  have C : CallFix p m c cX6_beginRule 2 s _ gG RX6 := ⟨B.exec, B.bytes, hml, findClass_of_methodNamed B.named, fun w h => atoms_spec (ws := Cond.code yX6_beginRule cX6_beginRule 2 none :: gG) B.pre w (List.mem_cons_of_mem _ h)⟩
  have hr := B.returns
  have hlk := B.notSynchronized
  generalize va_A [(h1, .inr (9, [.ref h7, .ref h8, .int 0, .ref h9, .ref h10])), (h7, .inr (8, [.ref h12, .int 0])), (h8, .inr (8, [.ref h13, .int 0])), (h0, .inr (6, [.ref h2, .int 0, .int (-1), .ref h3, .null, .int 0, .int 0, .int 0, .int 0, .int 0, .int 0, .int 0, .int 0, .int 0, .ref h4, .ref h5, .ref h6])), (h2, .inr (10, [.ref h11, .int 0, .int 0, .int 0, .int 0, .int 0]))] s.heap.size = A at Wd ⊢
  refine k_locals (Nat.le_of_ble_eq_true rfl) [(0, .ref h0), (1, .ref h1)] rfl (fun ls hl => ?_)
  refine lv_aload_n C.1 C.2.1 dX6_beginRule_0 rfl (lv_at hl 1 rfl) ?_
  refine k_cv Wd [0, 1, 2] [3, 4] rfl (wr := [(h0, .inr (6, [.ref h2, .int 0, .int (-1), .ref h3, .null, .int 0, .int 0, .int 0, .int 0, .int 0, .int 0, .int 0, .int 0, .int 0, .ref h4, .ref h5, .ref h6])), (h2, .inr (10, [.ref h11, .int 0, .int 0, .int 0, .int 0, .int 0]))]) rfl (by decide) (by decide) (cells' := 0) (slots' := 0) (by decide) (by decide) (k_runV (rest := []) C aks Wd cs_X6_55 (kcX9_forget l D h1 h7 h8 h9 h10 h12 h13 _ ) [0, 1, 2] rfl (by decide) [] rfl 0 9 rfl rfl rfl rfl rfl ⟨(Nat.le_of_ble_eq_true rfl), (Nat.le_of_ble_eq_true rfl)⟩ hl.1 rfl rfl (Nat.le_of_ble_eq_true rfl) ⟨(Nat.le_of_ble_eq_true rfl), (Nat.le_of_ble_eq_true rfl)⟩ dX6_beginRule_1) (fun _ H locs w1193 Wd => ?_)
  have Wd : wX D [] s [(h0, .inr (6, [.ref h2, .int 0, .int (-1), .ref h3, .null, .int 0, .int 0, .int 0, .int 0, .int 0, .int 0, .int 0, .int 0, .int 0, .ref h4, .ref h5, .ref h6])), (h2, .inr (10, [.ref h11, .int 0, .int 0, .int 0, .int 0, .int 0])), (h1, .inr (9, [.ref h7, .ref h8, .int 0, .ref h9, .ref h10])), (h7, .inr (8, [.ref h12, .int 0])), (h8, .inr (8, [.ref h13, .int 0]))] _ A s.heap _ := Wd
  refine lv_aload_n C.1 C.2.1 dX6_beginRule_4 rfl (lv_at hl 0 rfl) ?_
  refine lv_aload_n C.1 C.2.1 dX6_beginRule_5 rfl (lv_at hl 1 rfl) ?_
  refine k_get C Wd KX9 2 0 rfl (by decide) fl_X6_60 rfl dX6_beginRule_6 ?_
  refine lv_aload_n C.1 C.2.1 dX6_beginRule_9 rfl (lv_at hl 1 rfl) ?_
  refine lv_bipush (v := 40) C.1 C.2.1 dX6_beginRule_10 (by decide) ?_
  refine k_cv Wd [0, 3, 1] [2, 4] rfl (wr := [(h1, .inr (9, [.ref h7, .ref h8, .int 0, .ref h9, .ref h10])), (h8, .inr (8, [.ref h13, .int 0]))]) rfl (by decide) (by decide) (cells' := 0) (slots' := 0) (by decide) (by decide) (k_runV (rest := []) C aks Wd cs_X6_48 (kcX6_begin l D h0 h7 h1 h2 h3 h4 h5 h6 h12 h11 _ ) [0, 3, 1] rfl (by decide) [] rfl 0 6 rfl rfl rfl rfl rfl ⟨(Nat.le_of_ble_eq_true rfl), (Nat.le_of_ble_eq_true rfl)⟩ hl.1 rfl rfl (Nat.le_of_ble_eq_true rfl) ⟨(Nat.le_of_ble_eq_true rfl), (Nat.le_of_ble_eq_true rfl)⟩ dX6_beginRule_12) (fun _ H locs w1194 Wd => ?_)
  have Wd : wX D [] s [(h1, .inr (9, [.ref h7, .ref h8, .int 0, .ref h9, .ref h10])), (h8, .inr (8, [.ref h13, .int 0])), (h0, .inr (6, [.ref h2, .int 0, .int (-1), .ref h7, .ref h1, .int 0, .int 0, .int 0, .int 0, .int 40, .int 0, .int 0, .int 0, .int 0, .ref h4, .ref h5, .ref h6])), (h7, .inr (8, [.ref h12, .int 0])), (h2, .inr (10, [.ref h11, .int 0, .int 0, .int 0, .int 0, .int 0]))] _ A s.heap _ := Wd
  refine lv_aload_n C.1 C.2.1 dX6_beginRule_15 rfl (lv_at hl 0 rfl) ?_
  refine lv_iconst (v := 3) C.1 C.2.1 dX6_beginRule_16 (by decide) ?_
  refine k_cv Wd [2, 3] [0, 1, 4] rfl (wr := [(h1, .inr (9, [.ref h7, .ref h8, .int 0, .ref h9, .ref h10])), (h8, .inr (8, [.ref h13, .int 0])), (h2, .inr (10, [.ref h11, .int 0, .int 0, .int 0, .int 0, .int 0]))]) rfl (by decide) (by decide) (cells' := 0) (slots' := 0) (by decide) (by decide) (k_runV (rest := []) C aks Wd cs_X6_63 (kcX6_beginExpression l D h0 h2 h7 h1 h4 h5 h6 h12 _ ) [2, 3] rfl (by decide) [] rfl 2 6 rfl rfl rfl rfl rfl ⟨(Nat.le_of_ble_eq_true rfl), (Nat.le_of_ble_eq_true rfl)⟩ hl.1 rfl rfl (Nat.le_of_ble_eq_true rfl) ⟨(Nat.le_of_ble_eq_true rfl), (Nat.le_of_ble_eq_true rfl)⟩ dX6_beginRule_17) (fun _ H locs w1195 Wd => ?_)
  have Wd : wX D [] s [(h1, .inr (9, [.ref h7, .ref h8, .int 0, .ref h9, .ref h10])), (h8, .inr (8, [.ref h13, .int 0])), (h2, .inr (10, [.ref h11, .int 0, .int 0, .int 0, .int 0, .int 0])), (h0, .inr (6, [.ref h2, .int 0, .int (-1), .ref h7, .ref h1, .int 5, .int 3, .int 0, .int 0, .int 40, .int 0, .int 0, .int 0, .int 0, .ref h4, .ref h5, .ref h6])), (h7, .inr (8, [.ref h12, .int 0]))] _ A s.heap _ := Wd
  exact k_vret C hr hlk Wd () trivial [0, 4, 1, 3, 2] rfl (by decide) [] rfl (by decide) (by decide) dX6_beginRule_20
set_option maxHeartbeats 4000000 in
set_option maxRecDepth 100000 in
theorem kcX10_byteAt (l : Launch) (D : va_G) (h0 h1 : Nat) (sz : Nat)  : Met l yX10_byteAt (Cond.code yX10_byteAt cX10_byteAt 2 (some .int) :: gG) { frames := 1, cells := 0, slots := 0, locals := 64 } (cPre D [] [(h0, .inr (10, [.ref h1, .int 0, .int 0, .int 0, .int 0, .int 0]))] sz [.ref h0, .int 0]) (vp_Si (fun r => r = (-1))) 0 0 (fun _ => False) := by
  refine Met.ofW (cc := cX10_byteAt) (maxL := 2) (ret := (some .int)) (by decide) rfl ?_
  intro p e s m args below meth c s₁ B hml hv
  obtain ⟨rfl, aks, rfl, Wd⟩ := k_enter hv
  have C : CallFix p m c cX10_byteAt 2 s _ gG RX10 := ⟨B.exec, B.bytes, hml, findClass_of_methodNamed B.named, fun w h => atoms_spec (ws := Cond.code yX10_byteAt cX10_byteAt 2 (some .int) :: gG) B.pre w (List.mem_cons_of_mem _ h)⟩
  have hr := B.returns
  have hlk := B.notSynchronized
  obtain ⟨A, Wd⟩ : ∃ A, wX D [] s [(h0, .inr (10, [.ref h1, .int 0, .int 0, .int 0, .int 0, .int 0]))] s.heap A s.heap [] := ⟨_, Wd⟩
  refine k_locals (Nat.le_of_ble_eq_true rfl) [(0, .ref h0), (1, .int 0)] rfl (fun ls hl => ?_)
  refine lv_iload_n C.1 C.2.1 dX10_byteAt_0 rfl (lv_at hl 1 rfl) ?_
  refine lv_if_lt (tgt := 21) C.1 C.2.1 dX10_byteAt_1 (by decide) (fun c1203 => absurd c1203 (by decide)) (fun _ => ?_)
  refine lv_iload_n C.1 C.2.1 dX10_byteAt_4 rfl (lv_at hl 1 rfl) ?_
  refine lv_aload_n C.1 C.2.1 dX10_byteAt_5 rfl (lv_at hl 0 rfl) ?_
  refine k_get C Wd KX10 0 1 rfl (by decide) fl_X10_15 rfl dX10_byteAt_6 ?_
  refine lv_icmp_ge (tgt := 21) C.1 C.2.1 dX10_byteAt_9 (by decide) (fun _ => ?_) (fun c1204 => absurd c1204 (by decide))
  refine lv_iconst (v := (-1)) C.1 C.2.1 dX10_byteAt_21 (by decide) ?_
  exact k_zretP C hr hlk rfl rfl dX10_byteAt_22
set_option maxHeartbeats 4000000 in
set_option maxRecDepth 100000 in
theorem kcX10_isSmallLetter (l : Launch) (D : va_G) (x0 : Int32) (sz : Nat)  : Met l yX10_isSmallLetter (Cond.code yX10_isSmallLetter cX10_isSmallLetter 1 (some .boolean) :: gG) { frames := 1, cells := 0, slots := 0, locals := 64 } (cPre D [] [] sz [.int x0]) (vp_Si (fun r => (x0 < (97 : Int32) ∧ r = 0) ∨ (¬ x0 < (97 : Int32) ∧ (122 : Int32) < x0 ∧ r = 0) ∨ (¬ x0 < (97 : Int32) ∧ ¬ (122 : Int32) < x0 ∧ r = 1))) 0 0 (fun _ => False) := by
  refine Met.ofW (cc := cX10_isSmallLetter) (maxL := 1) (ret := (some .boolean)) (by decide) rfl ?_
  intro p e s m args below meth c s₁ B hml hv
  obtain ⟨rfl, aks, rfl, Wd⟩ := k_enter hv
  have C : CallFix p m c cX10_isSmallLetter 1 s _ gG RX10 := ⟨B.exec, B.bytes, hml, findClass_of_methodNamed B.named, fun w h => atoms_spec (ws := Cond.code yX10_isSmallLetter cX10_isSmallLetter 1 (some .boolean) :: gG) B.pre w (List.mem_cons_of_mem _ h)⟩
  have hr := B.returns
  have hlk := B.notSynchronized
  obtain ⟨A, Wd⟩ : ∃ A, wX D [] s [] s.heap A s.heap [] := ⟨_, Wd⟩
  refine k_locals (Nat.le_of_ble_eq_true rfl) [(0, .int x0)] rfl (fun ls hl => ?_)
  refine lv_iload_n C.1 C.2.1 dX10_isSmallLetter_0 rfl (lv_at hl 0 rfl) ?_
  refine lv_bipush (v := 97) C.1 C.2.1 dX10_isSmallLetter_1 (by decide) ?_
  refine lv_icmp_lt (tgt := 16) C.1 C.2.1 dX10_isSmallLetter_3 (by decide) (fun c1208 => ?_) (fun c1208 => ?_)
  · refine lv_iconst (v := 0) C.1 C.2.1 dX10_isSmallLetter_16 (by decide) ?_
    exact k_zretP C hr hlk rfl (Or.inl (⟨c1208, rfl⟩)) dX10_isSmallLetter_17
  · refine lv_iload_n C.1 C.2.1 dX10_isSmallLetter_6 rfl (lv_at hl 0 rfl) ?_
    refine lv_bipush (v := 122) C.1 C.2.1 dX10_isSmallLetter_7 (by decide) ?_
    refine lv_icmp_gt (tgt := 16) C.1 C.2.1 dX10_isSmallLetter_9 (by decide) (fun c1209 => ?_) (fun c1209 => ?_)
    · refine lv_iconst (v := 0) C.1 C.2.1 dX10_isSmallLetter_16 (by decide) ?_
      exact k_zretP C hr hlk rfl (Or.inr (Or.inl (⟨c1208, c1209, rfl⟩))) dX10_isSmallLetter_17
    · refine lv_iconst (v := 1) C.1 C.2.1 dX10_isSmallLetter_12 (by decide) ?_
      refine lv_goto (tgt := 17) C.1 C.2.1 dX10_isSmallLetter_13 (by decide) ?_
      exact k_zretP C hr hlk rfl (Or.inr (Or.inr (⟨c1208, c1209, rfl⟩))) dX10_isSmallLetter_17
set_option maxHeartbeats 4000000 in
set_option maxRecDepth 100000 in
theorem kcX10_isLetter (l : Launch) (D : va_G) (x0 : Int32) (sz : Nat)  : Met l yX10_isLetter (Cond.code yX10_isLetter cX10_isLetter 1 (some .boolean) :: gG) { frames := 2, cells := 0, slots := 0, locals := 84 } (cPre D [] [] sz [.int x0]) (vp_Si (fun r => (x0 < (97 : Int32) ∧ x0 < (65 : Int32) ∧ r = 0) ∨ (x0 < (97 : Int32) ∧ ¬ x0 < (65 : Int32) ∧ (90 : Int32) < x0 ∧ r = 0) ∨ (x0 < (97 : Int32) ∧ ¬ x0 < (65 : Int32) ∧ ¬ (90 : Int32) < x0 ∧ r = 1) ∨ (¬ x0 < (97 : Int32) ∧ (122 : Int32) < x0 ∧ r = 0) ∨ (¬ x0 < (97 : Int32) ∧ ¬ (122 : Int32) < x0 ∧ r = 1))) 0 0 (fun _ => False) := by
  refine Met.ofW (cc := cX10_isLetter) (maxL := 1) (ret := (some .boolean)) (by decide) rfl ?_
  intro p e s m args below meth c s₁ B hml hv
  obtain ⟨rfl, aks, rfl, Wd⟩ := k_enter hv
  have C : CallFix p m c cX10_isLetter 1 s _ gG RX10 := ⟨B.exec, B.bytes, hml, findClass_of_methodNamed B.named, fun w h => atoms_spec (ws := Cond.code yX10_isLetter cX10_isLetter 1 (some .boolean) :: gG) B.pre w (List.mem_cons_of_mem _ h)⟩
  have hr := B.returns
  have hlk := B.notSynchronized
  obtain ⟨A, Wd⟩ : ∃ A, wX D [] s [] s.heap A s.heap [] := ⟨_, Wd⟩
  refine k_locals (Nat.le_of_ble_eq_true rfl) [(0, .int x0)] rfl (fun ls hl => ?_)
  refine lv_iload_n C.1 C.2.1 dX10_isLetter_0 rfl (lv_at hl 0 rfl) ?_
  refine k_pi (k_runS (rest := []) C aks Wd cs_X10_52 (kcX10_isSmallLetter l D x0 _ ) [] rfl (by decide) [] rfl rfl rfl ⟨(Nat.le_of_ble_eq_true rfl), (Nat.le_of_ble_eq_true rfl)⟩ hl.1 rfl rfl (Nat.le_of_ble_eq_true rfl) ⟨(Nat.le_of_ble_eq_true rfl), (Nat.le_of_ble_eq_true rfl)⟩ dX10_isLetter_1) (fun r w1223 => ?_)
  rcases w1223 with ⟨c1224, rfl⟩ | ⟨c1225, c1226, rfl⟩ | ⟨c1227, c1228, rfl⟩
  · refine lv_if_ne (tgt := 19) C.1 C.2.1 dX10_isLetter_4 (by decide) (fun c1229 => absurd c1229 (by decide)) (fun _ => ?_)
    refine lv_iload_n C.1 C.2.1 dX10_isLetter_7 rfl (lv_at hl 0 rfl) ?_
    refine lv_bipush (v := 65) C.1 C.2.1 dX10_isLetter_8 (by decide) ?_
    refine lv_icmp_lt (tgt := 23) C.1 C.2.1 dX10_isLetter_10 (by decide) (fun c1230 => ?_) (fun c1230 => ?_)
    · refine lv_iconst (v := 0) C.1 C.2.1 dX10_isLetter_23 (by decide) ?_
      exact k_zretP C hr hlk rfl (Or.inl (⟨c1224, c1230, rfl⟩)) dX10_isLetter_24
    · refine lv_iload_n C.1 C.2.1 dX10_isLetter_13 rfl (lv_at hl 0 rfl) ?_
      refine lv_bipush (v := 90) C.1 C.2.1 dX10_isLetter_14 (by decide) ?_
      refine lv_icmp_gt (tgt := 23) C.1 C.2.1 dX10_isLetter_16 (by decide) (fun c1231 => ?_) (fun c1231 => ?_)
      · refine lv_iconst (v := 0) C.1 C.2.1 dX10_isLetter_23 (by decide) ?_
        exact k_zretP C hr hlk rfl (Or.inr (Or.inl (⟨c1224, c1230, c1231, rfl⟩))) dX10_isLetter_24
      · refine lv_iconst (v := 1) C.1 C.2.1 dX10_isLetter_19 (by decide) ?_
        refine lv_goto (tgt := 24) C.1 C.2.1 dX10_isLetter_20 (by decide) ?_
        exact k_zretP C hr hlk rfl (Or.inr (Or.inr (Or.inl (⟨c1224, c1230, c1231, rfl⟩)))) dX10_isLetter_24
  · refine lv_if_ne (tgt := 19) C.1 C.2.1 dX10_isLetter_4 (by decide) (fun c1232 => absurd c1232 (by decide)) (fun _ => ?_)
    refine lv_iload_n C.1 C.2.1 dX10_isLetter_7 rfl (lv_at hl 0 rfl) ?_
    refine lv_bipush (v := 65) C.1 C.2.1 dX10_isLetter_8 (by decide) ?_
    refine lv_icmp_lt (tgt := 23) C.1 C.2.1 dX10_isLetter_10 (by decide) (fun c1233 => False.elim (by have z0 := kz_nlt c1225; have z1 := kz_lt c1226; have z2 := kz_lt c1233; have t97 : (97 : Int32).toInt = 97 := (by decide); have t122 : (122 : Int32).toInt = 122 := (by decide); have t65 : (65 : Int32).toInt = 65 := (by decide); omega)) (fun _ => ?_)
    refine lv_iload_n C.1 C.2.1 dX10_isLetter_13 rfl (lv_at hl 0 rfl) ?_
    refine lv_bipush (v := 90) C.1 C.2.1 dX10_isLetter_14 (by decide) ?_
    refine lv_icmp_gt (tgt := 23) C.1 C.2.1 dX10_isLetter_16 (by decide) (fun _ => ?_) (fun c1234 => False.elim (by have z0 := kz_nlt c1225; have z1 := kz_lt c1226; have z2 := kz_nlt c1234; have t97 : (97 : Int32).toInt = 97 := (by decide); have t122 : (122 : Int32).toInt = 122 := (by decide); have t90 : (90 : Int32).toInt = 90 := (by decide); omega))
    refine lv_iconst (v := 0) C.1 C.2.1 dX10_isLetter_23 (by decide) ?_
    exact k_zretP C hr hlk rfl (Or.inr (Or.inr (Or.inr (Or.inl (⟨c1225, c1226, rfl⟩))))) dX10_isLetter_24
  · refine lv_if_ne (tgt := 19) C.1 C.2.1 dX10_isLetter_4 (by decide) (fun _ => ?_) (fun c1235 => absurd c1235 (by decide))
    refine lv_iconst (v := 1) C.1 C.2.1 dX10_isLetter_19 (by decide) ?_
    refine lv_goto (tgt := 24) C.1 C.2.1 dX10_isLetter_20 (by decide) ?_
    exact k_zretP C hr hlk rfl (Or.inr (Or.inr (Or.inr (Or.inr (⟨c1227, c1228, rfl⟩))))) dX10_isLetter_24
set_option maxHeartbeats 4000000 in
set_option maxRecDepth 100000 in
theorem kcX10_isDigit (l : Launch) (D : va_G) (x0 : Int32) (sz : Nat)  : Met l yX10_isDigit (Cond.code yX10_isDigit cX10_isDigit 1 (some .boolean) :: gG) { frames := 1, cells := 0, slots := 0, locals := 64 } (cPre D [] [] sz [.int x0]) (vp_Si (fun r => (x0 < (48 : Int32) ∧ r = 0) ∨ (¬ x0 < (48 : Int32) ∧ (57 : Int32) < x0 ∧ r = 0) ∨ (¬ x0 < (48 : Int32) ∧ ¬ (57 : Int32) < x0 ∧ r = 1))) 0 0 (fun _ => False) := by
  refine Met.ofW (cc := cX10_isDigit) (maxL := 1) (ret := (some .boolean)) (by decide) rfl ?_
  intro p e s m args below meth c s₁ B hml hv
  obtain ⟨rfl, aks, rfl, Wd⟩ := k_enter hv
  have C : CallFix p m c cX10_isDigit 1 s _ gG RX10 := ⟨B.exec, B.bytes, hml, findClass_of_methodNamed B.named, fun w h => atoms_spec (ws := Cond.code yX10_isDigit cX10_isDigit 1 (some .boolean) :: gG) B.pre w (List.mem_cons_of_mem _ h)⟩
  have hr := B.returns
  have hlk := B.notSynchronized
  obtain ⟨A, Wd⟩ : ∃ A, wX D [] s [] s.heap A s.heap [] := ⟨_, Wd⟩
  refine k_locals (Nat.le_of_ble_eq_true rfl) [(0, .int x0)] rfl (fun ls hl => ?_)
  refine lv_iload_n C.1 C.2.1 dX10_isDigit_0 rfl (lv_at hl 0 rfl) ?_
  refine lv_bipush (v := 48) C.1 C.2.1 dX10_isDigit_1 (by decide) ?_
  refine lv_icmp_lt (tgt := 16) C.1 C.2.1 dX10_isDigit_3 (by decide) (fun c1252 => ?_) (fun c1252 => ?_)
  · refine lv_iconst (v := 0) C.1 C.2.1 dX10_isDigit_16 (by decide) ?_
    exact k_zretP C hr hlk rfl (Or.inl (⟨c1252, rfl⟩)) dX10_isDigit_17
  · refine lv_iload_n C.1 C.2.1 dX10_isDigit_6 rfl (lv_at hl 0 rfl) ?_
    refine lv_bipush (v := 57) C.1 C.2.1 dX10_isDigit_7 (by decide) ?_
    refine lv_icmp_gt (tgt := 16) C.1 C.2.1 dX10_isDigit_9 (by decide) (fun c1253 => ?_) (fun c1253 => ?_)
    · refine lv_iconst (v := 0) C.1 C.2.1 dX10_isDigit_16 (by decide) ?_
      exact k_zretP C hr hlk rfl (Or.inr (Or.inl (⟨c1252, c1253, rfl⟩))) dX10_isDigit_17
    · refine lv_iconst (v := 1) C.1 C.2.1 dX10_isDigit_12 (by decide) ?_
      refine lv_goto (tgt := 17) C.1 C.2.1 dX10_isDigit_13 (by decide) ?_
      exact k_zretP C hr hlk rfl (Or.inr (Or.inr (⟨c1252, c1253, rfl⟩))) dX10_isDigit_17
set_option maxHeartbeats 4000000 in
set_option maxRecDepth 100000 in
theorem kcX10_takeSign (l : Launch) (D : va_G) (h0 h1 : Nat) (sz : Nat)  : Met l yX10_takeSign (Cond.code yX10_takeSign cX10_takeSign 3 none :: gG) { frames := 1, cells := 0, slots := 0, locals := 64 } (cPre D [] [(h0, .inr (10, [.ref h1, .int 0, .int 0, .int 0, .int 0, .int 0]))] sz [.ref h0, .int (-1), .int 1]) (va_Qv (fun (_ : Unit) => True) (fun u t => cB D (va_A [(h0, .inr (10, [.ref h1, .int 0, .int 0, .int 0, .int 0, .int 0]))] sz) ((fun (_ : Unit) => ([] : List (ClassId × FieldType))) u) ((fun (_ : Unit) => ([(h0, .inr (10, [.ref h1, .int 0, .int 1, .int 0, .int 0, .int 0]))] : va_W)) u) t) (va_A [(h0, .inr (10, [.ref h1, .int 0, .int 0, .int 0, .int 0, .int 0]))] sz)) 0 0 (va_A [(h0, .inr (10, [.ref h1, .int 0, .int 0, .int 0, .int 0, .int 0]))] sz) := by
  refine Met.ofW (cc := cX10_takeSign) (maxL := 3) (ret := none) (by decide) rfl ?_
  intro p e s m args below meth c s₁ B hml hv
  obtain ⟨rfl, aks, rfl, Wd⟩ := k_enter hv
  have C : CallFix p m c cX10_takeSign 3 s _ gG RX10 := ⟨B.exec, B.bytes, hml, findClass_of_methodNamed B.named, fun w h => atoms_spec (ws := Cond.code yX10_takeSign cX10_takeSign 3 none :: gG) B.pre w (List.mem_cons_of_mem _ h)⟩
  have hr := B.returns
  have hlk := B.notSynchronized
  generalize va_A [(h0, .inr (10, [.ref h1, .int 0, .int 0, .int 0, .int 0, .int 0]))] s.heap.size = A at Wd ⊢
  refine k_locals (Nat.le_of_ble_eq_true rfl) [(0, .ref h0), (1, .int (-1)), (2, .int 1)] rfl (fun ls hl => ?_)
  refine lv_aload_n C.1 C.2.1 dX10_takeSign_0 rfl (lv_at hl 0 rfl) ?_
  refine lv_aload_n C.1 C.2.1 dX10_takeSign_1 rfl (lv_at hl 0 rfl) ?_
  refine k_get C Wd KX10 0 4 rfl (by decide) fl_X10_22 rfl dX10_takeSign_2 ?_
  refine lv_iconst (v := 1) C.1 C.2.1 dX10_takeSign_5 (by decide) ?_
  refine k_iadd (v := 1) C (by decide) dX10_takeSign_6 ?_
  refine k_put C Wd KX10 0 5 [(h0, .inr (10, [.ref h1, .int 0, .int 0, .int 0, .int 0, .int 1]))] rfl (by decide) fl_X10_19 rfl rfl rfl (Nat.le_of_ble_eq_true rfl) rfl dX10_takeSign_7 (fun H locs Wd => ?_)
  refine lv_iload_n C.1 C.2.1 dX10_takeSign_10 rfl (lv_at hl 1 rfl) ?_
  refine lv_iconst (v := (-1)) C.1 C.2.1 dX10_takeSign_11 (by decide) ?_
  refine lv_icmp_ne (tgt := 31) C.1 C.2.1 dX10_takeSign_12 (by decide) (fun c1262 => absurd c1262 (by decide)) (fun _ => ?_)
  refine lv_aload_n C.1 C.2.1 dX10_takeSign_15 rfl (lv_at hl 0 rfl) ?_
  refine lv_iconst (v := 1) C.1 C.2.1 dX10_takeSign_16 (by decide) ?_
  refine k_put C Wd KX10 0 2 [(h0, .inr (10, [.ref h1, .int 0, .int 1, .int 0, .int 0, .int 1]))] rfl (by decide) fl_X10_25 rfl rfl rfl (Nat.le_of_ble_eq_true rfl) rfl dX10_takeSign_17 (fun H locs Wd => ?_)
  refine lv_aload_n C.1 C.2.1 dX10_takeSign_20 rfl (lv_at hl 0 rfl) ?_
  refine lv_aload_n C.1 C.2.1 dX10_takeSign_21 rfl (lv_at hl 0 rfl) ?_
  refine k_get C Wd KX10 0 4 rfl (by decide) fl_X10_22 rfl dX10_takeSign_22 ?_
  refine k_put C Wd KX10 0 5 [(h0, .inr (10, [.ref h1, .int 0, .int 1, .int 0, .int 0, .int 0]))] rfl (by decide) fl_X10_19 rfl rfl rfl (Nat.le_of_ble_eq_true rfl) rfl dX10_takeSign_25 (fun H locs Wd => ?_)
  refine lv_goto (tgt := 91) C.1 C.2.1 dX10_takeSign_28 (by decide) ?_
  exact k_vret C hr hlk Wd () trivial [0] rfl (by decide) [] rfl (by decide) (by decide) dX10_takeSign_91
set_option maxHeartbeats 4000000 in
set_option maxRecDepth 100000 in
theorem kcX10_advance (l : Launch) (D : va_G) (h0 h1 : Nat) (sz : Nat)  : Met l yX10_advance (Cond.code yX10_advance cX10_advance 3 none :: gG) { frames := 3, cells := 0, slots := 0, locals := 104 } (cPre D [] [(h0, .inr (10, [.ref h1, .int 0, .int 0, .int 0, .int 0, .int 0]))] sz [.ref h0, .int 1]) (va_Qv (fun (_ : Unit) => True) (fun u t => cB D (va_A [(h0, .inr (10, [.ref h1, .int 0, .int 0, .int 0, .int 0, .int 0]))] sz) ((fun (_ : Unit) => ([] : List (ClassId × FieldType))) u) ((fun (_ : Unit) => ([(h0, .inr (10, [.ref h1, .int 0, .int 1, .int 0, .int 0, .int 0]))] : va_W)) u) t) (va_A [(h0, .inr (10, [.ref h1, .int 0, .int 0, .int 0, .int 0, .int 0]))] sz)) 0 0 (va_A [(h0, .inr (10, [.ref h1, .int 0, .int 0, .int 0, .int 0, .int 0]))] sz) := by
  refine Met.ofW (cc := cX10_advance) (maxL := 3) (ret := none) (by decide) rfl ?_
  intro p e s m args below meth c s₁ B hml hv
  obtain ⟨rfl, aks, rfl, Wd⟩ := k_enter hv
  have C : CallFix p m c cX10_advance 3 s _ gG RX10 := ⟨B.exec, B.bytes, hml, findClass_of_methodNamed B.named, fun w h => atoms_spec (ws := Cond.code yX10_advance cX10_advance 3 none :: gG) B.pre w (List.mem_cons_of_mem _ h)⟩
  have hr := B.returns
  have hlk := B.notSynchronized
  generalize va_A [(h0, .inr (10, [.ref h1, .int 0, .int 0, .int 0, .int 0, .int 0]))] s.heap.size = A at Wd ⊢
  refine k_locals (Nat.le_of_ble_eq_true rfl) [(0, .ref h0), (1, .int 1)] rfl (fun ls hl => ?_)
  refine lv_aload_n C.1 C.2.1 dX10_advance_0 rfl (lv_at hl 0 rfl) ?_
  refine lv_aload_n C.1 C.2.1 dX10_advance_1 rfl (lv_at hl 0 rfl) ?_
  refine k_get C Wd KX10 0 5 rfl (by decide) fl_X10_19 rfl dX10_advance_2 ?_
  refine k_put C Wd KX10 0 4 [(h0, .inr (10, [.ref h1, .int 0, .int 0, .int 0, .int 0, .int 0]))] rfl (by decide) fl_X10_22 rfl rfl rfl (Nat.le_of_ble_eq_true rfl) rfl dX10_advance_5 (fun H locs Wd => ?_)
  refine lv_aload_n C.1 C.2.1 dX10_advance_8 rfl (lv_at hl 0 rfl) ?_
  refine k_get C Wd KX10 0 5 rfl (by decide) fl_X10_19 rfl dX10_advance_9 ?_
  refine lv_istore_n (lv' := [(2, .int 0), (0, .ref h0), (1, .int 1)]) C.1 C.2.1 dX10_advance_12 rfl hl (by decide) rfl (fun ls hl => ?_)
  refine lv_iload_n C.1 C.2.1 dX10_advance_13 rfl (lv_at hl 0 rfl) ?_
  refine lv_aload_n C.1 C.2.1 dX10_advance_14 rfl (lv_at hl 1 rfl) ?_
  refine k_get C Wd KX10 0 1 rfl (by decide) fl_X10_15 rfl dX10_advance_15 ?_
  refine lv_icmp_ge (tgt := 54) C.1 C.2.1 dX10_advance_18 (by decide) (fun _ => ?_) (fun c1264 => absurd c1264 (by decide))
  refine lv_aload_n C.1 C.2.1 dX10_advance_54 rfl (lv_at hl 1 rfl) ?_
  refine lv_aload_n C.1 C.2.1 dX10_advance_55 rfl (lv_at hl 1 rfl) ?_
  refine k_get C Wd KX10 0 4 rfl (by decide) fl_X10_22 rfl dX10_advance_56 ?_
  refine k_pi (k_runV (rest := []) C aks Wd cs_X10_31 (kcX10_byteAt l D h0 h1 _ ) [0] rfl (by decide) [] rfl 0 10 rfl rfl rfl rfl rfl ⟨(Nat.le_of_ble_eq_true rfl), (Nat.le_of_ble_eq_true rfl)⟩ hl.1 rfl rfl (Nat.le_of_ble_eq_true rfl) ⟨(Nat.le_of_ble_eq_true rfl), (Nat.le_of_ble_eq_true rfl)⟩ dX10_advance_59) (fun r w1265 => ?_)
  obtain rfl := w1265
  refine lv_istore_n (lv' := [(2, .int (-1)), (0, .ref h0), (1, .int 1)]) C.1 C.2.1 dX10_advance_62 rfl hl (by decide) rfl (fun ls hl => ?_)
  refine lv_iload_n C.1 C.2.1 dX10_advance_63 rfl (lv_at hl 0 rfl) ?_
  refine k_pi (k_runS (rest := []) C aks Wd cs_X10_35 (kcX10_isLetter l D (-1) _ ) [] rfl (by decide) [] rfl rfl rfl ⟨(Nat.le_of_ble_eq_true rfl), (Nat.le_of_ble_eq_true rfl)⟩ hl.1 rfl rfl (Nat.le_of_ble_eq_true rfl) ⟨(Nat.le_of_ble_eq_true rfl), (Nat.le_of_ble_eq_true rfl)⟩ dX10_advance_64) (fun r w1266 => ?_)
  rcases w1266 with ⟨c1267, c1268, rfl⟩ | ⟨c1269, c1270, c1271, rfl⟩ | ⟨c1272, c1273, c1274, rfl⟩ | ⟨c1275, c1276, rfl⟩ | ⟨c1277, c1278, rfl⟩
  · refine lv_if_eq (tgt := 77) C.1 C.2.1 dX10_advance_67 (by decide) (fun _ => ?_) (fun c1279 => absurd c1279 (by decide))
    refine lv_iload_n C.1 C.2.1 dX10_advance_77 rfl (lv_at hl 0 rfl) ?_
    refine k_pi (k_runS (rest := []) C aks Wd cs_X10_42 (kcX10_isDigit l D (-1) _ ) [] rfl (by decide) [] rfl rfl rfl ⟨(Nat.le_of_ble_eq_true rfl), (Nat.le_of_ble_eq_true rfl)⟩ hl.1 rfl rfl (Nat.le_of_ble_eq_true rfl) ⟨(Nat.le_of_ble_eq_true rfl), (Nat.le_of_ble_eq_true rfl)⟩ dX10_advance_78) (fun r w1280 => ?_)
    rcases w1280 with ⟨c1281, rfl⟩ | ⟨c1282, c1283, rfl⟩ | ⟨c1284, c1285, rfl⟩
    · refine lv_if_eq (tgt := 91) C.1 C.2.1 dX10_advance_81 (by decide) (fun _ => ?_) (fun c1286 => absurd c1286 (by decide))
      refine lv_aload_n C.1 C.2.1 dX10_advance_91 rfl (lv_at hl 1 rfl) ?_
      refine lv_iload_n C.1 C.2.1 dX10_advance_92 rfl (lv_at hl 0 rfl) ?_
      refine lv_iload_n C.1 C.2.1 dX10_advance_93 rfl (lv_at hl 2 rfl) ?_
      refine k_cv Wd [0] [] rfl (wr := []) rfl (by decide) (by decide) (cells' := 0) (slots' := 0) (by decide) (by decide) (k_runV (rest := []) C aks Wd cs_X10_48 (kcX10_takeSign l D h0 h1 _ ) [0] rfl (by decide) [] rfl 0 10 rfl rfl rfl rfl rfl ⟨(Nat.le_of_ble_eq_true rfl), (Nat.le_of_ble_eq_true rfl)⟩ hl.1 rfl rfl (Nat.le_of_ble_eq_true rfl) ⟨(Nat.le_of_ble_eq_true rfl), (Nat.le_of_ble_eq_true rfl)⟩ dX10_advance_94) (fun _ H locs w1287 Wd => ?_)
      have Wd : wX D [] s [(h0, .inr (10, [.ref h1, .int 0, .int 1, .int 0, .int 0, .int 0]))] _ A s.heap _ := Wd
      exact k_vret C hr hlk Wd () trivial [0] rfl (by decide) [] rfl (by decide) (by decide) dX10_advance_97
    · exact absurd c1282 (by decide)
    · exact absurd c1284 (by decide)
  · exact absurd c1270 (by decide)
  · exact absurd c1273 (by decide)
  · exact absurd c1275 (by decide)
  · exact absurd c1277 (by decide)
set_option maxHeartbeats 4000000 in
set_option maxRecDepth 100000 in
theorem kcX6_refuse (l : Launch) (D : va_G) (h0 h1 h2 h3 h4 h5 h6 h7 : Nat) (sz : Nat)  : Met l yX6_refuse (Cond.code yX6_refuse cX6_refuse 2 none :: gG) { frames := 1, cells := 0, slots := 0, locals := 64 } (cPre D [] [(h0, .inr (6, [.ref h1, .int 0, .int (-1), .ref h2, .ref h3, .int 5, .int 3, .int 0, .int 0, .int 40, .int 0, .int 0, .int 0, .int 0, .ref h4, .ref h5, .ref h6])), (h1, .inr (10, [.ref h7, .int 0, .int 1, .int 0, .int 0, .int 0]))] sz [.ref h0, .int 1]) (va_Qv (fun (_ : Unit) => True) (fun u t => cB D (va_A [(h0, .inr (6, [.ref h1, .int 0, .int (-1), .ref h2, .ref h3, .int 5, .int 3, .int 0, .int 0, .int 40, .int 0, .int 0, .int 0, .int 0, .ref h4, .ref h5, .ref h6])), (h1, .inr (10, [.ref h7, .int 0, .int 1, .int 0, .int 0, .int 0]))] sz) ((fun (_ : Unit) => ([] : List (ClassId × FieldType))) u) ((fun (_ : Unit) => ([(h0, .inr (6, [.ref h1, .int 1, .int 0, .ref h2, .ref h3, .int 5, .int 3, .int 0, .int 0, .int 40, .int 0, .int 0, .int 0, .int 0, .ref h4, .ref h5, .ref h6])), (h1, .inr (10, [.ref h7, .int 0, .int 1, .int 0, .int 0, .int 0]))] : va_W)) u) t) (va_A [(h0, .inr (6, [.ref h1, .int 0, .int (-1), .ref h2, .ref h3, .int 5, .int 3, .int 0, .int 0, .int 40, .int 0, .int 0, .int 0, .int 0, .ref h4, .ref h5, .ref h6])), (h1, .inr (10, [.ref h7, .int 0, .int 1, .int 0, .int 0, .int 0]))] sz)) 0 0 (va_A [(h0, .inr (6, [.ref h1, .int 0, .int (-1), .ref h2, .ref h3, .int 5, .int 3, .int 0, .int 0, .int 40, .int 0, .int 0, .int 0, .int 0, .ref h4, .ref h5, .ref h6])), (h1, .inr (10, [.ref h7, .int 0, .int 1, .int 0, .int 0, .int 0]))] sz) := by
  refine Met.ofW (cc := cX6_refuse) (maxL := 2) (ret := none) (by decide) rfl ?_
  intro p e s m args below meth c s₁ B hml hv
  obtain ⟨rfl, aks, rfl, Wd⟩ := k_enter hv
  have C : CallFix p m c cX6_refuse 2 s _ gG RX6 := ⟨B.exec, B.bytes, hml, findClass_of_methodNamed B.named, fun w h => atoms_spec (ws := Cond.code yX6_refuse cX6_refuse 2 none :: gG) B.pre w (List.mem_cons_of_mem _ h)⟩
  have hr := B.returns
  have hlk := B.notSynchronized
  generalize va_A [(h0, .inr (6, [.ref h1, .int 0, .int (-1), .ref h2, .ref h3, .int 5, .int 3, .int 0, .int 0, .int 40, .int 0, .int 0, .int 0, .int 0, .ref h4, .ref h5, .ref h6])), (h1, .inr (10, [.ref h7, .int 0, .int 1, .int 0, .int 0, .int 0]))] s.heap.size = A at Wd ⊢
  refine k_locals (Nat.le_of_ble_eq_true rfl) [(0, .ref h0), (1, .int 1)] rfl (fun ls hl => ?_)
  refine lv_aload_n C.1 C.2.1 dX6_refuse_0 rfl (lv_at hl 0 rfl) ?_
  refine lv_iload_n C.1 C.2.1 dX6_refuse_1 rfl (lv_at hl 1 rfl) ?_
  refine k_put C Wd KX6 0 1 [(h0, .inr (6, [.ref h1, .int 1, .int (-1), .ref h2, .ref h3, .int 5, .int 3, .int 0, .int 0, .int 40, .int 0, .int 0, .int 0, .int 0, .ref h4, .ref h5, .ref h6])), (h1, .inr (10, [.ref h7, .int 0, .int 1, .int 0, .int 0, .int 0]))] rfl (by decide) fl_X6_37 rfl rfl rfl (Nat.le_of_ble_eq_true rfl) rfl dX6_refuse_2 (fun H locs Wd => ?_)
  refine lv_aload_n C.1 C.2.1 dX6_refuse_5 rfl (lv_at hl 0 rfl) ?_
  refine lv_aload_n C.1 C.2.1 dX6_refuse_6 rfl (lv_at hl 0 rfl) ?_
  refine k_get C Wd KX6 0 0 rfl (by decide) fl_X6_12 rfl dX6_refuse_7 ?_
  refine k_get C Wd KX10 1 4 rfl (by decide) fl_X6_116 rfl dX6_refuse_10 ?_
  refine k_put C Wd KX6 0 2 [(h0, .inr (6, [.ref h1, .int 1, .int 0, .ref h2, .ref h3, .int 5, .int 3, .int 0, .int 0, .int 40, .int 0, .int 0, .int 0, .int 0, .ref h4, .ref h5, .ref h6])), (h1, .inr (10, [.ref h7, .int 0, .int 1, .int 0, .int 0, .int 0]))] rfl (by decide) fl_X6_41 rfl rfl rfl (Nat.le_of_ble_eq_true rfl) rfl dX6_refuse_13 (fun H locs Wd => ?_)
  exact k_vret C hr hlk Wd () trivial [0, 1] rfl (by decide) [] rfl (by decide) (by decide) dX6_refuse_16
set_option maxHeartbeats 4000000 in
set_option maxRecDepth 100000 in
theorem kcX6_takeOperand (l : Launch) (D : va_G) (h0 h1 h2 h3 h4 h5 h6 h7 : Nat) (sz : Nat)  : Met l yX6_takeOperand (Cond.code yX6_takeOperand cX6_takeOperand 1 none :: gG) { frames := 2, cells := 0, slots := 0, locals := 85 } (cPre D [] [(h0, .inr (6, [.ref h1, .int 0, .int (-1), .ref h2, .ref h3, .int 5, .int 3, .int 0, .int 0, .int 40, .int 0, .int 0, .int 0, .int 0, .ref h4, .ref h5, .ref h6])), (h1, .inr (10, [.ref h7, .int 0, .int 1, .int 0, .int 0, .int 0]))] sz [.ref h0]) (va_Qv (fun (_ : Unit) => True) (fun u t => cB D (va_A [(h0, .inr (6, [.ref h1, .int 0, .int (-1), .ref h2, .ref h3, .int 5, .int 3, .int 0, .int 0, .int 40, .int 0, .int 0, .int 0, .int 0, .ref h4, .ref h5, .ref h6])), (h1, .inr (10, [.ref h7, .int 0, .int 1, .int 0, .int 0, .int 0]))] sz) ((fun (_ : Unit) => ([] : List (ClassId × FieldType))) u) ((fun (_ : Unit) => ([(h0, .inr (6, [.ref h1, .int 1, .int 0, .ref h2, .ref h3, .int 5, .int 3, .int 0, .int 0, .int 40, .int 0, .int 0, .int 0, .int 0, .ref h4, .ref h5, .ref h6])), (h1, .inr (10, [.ref h7, .int 0, .int 1, .int 0, .int 0, .int 0]))] : va_W)) u) t) (va_A [(h0, .inr (6, [.ref h1, .int 0, .int (-1), .ref h2, .ref h3, .int 5, .int 3, .int 0, .int 0, .int 40, .int 0, .int 0, .int 0, .int 0, .ref h4, .ref h5, .ref h6])), (h1, .inr (10, [.ref h7, .int 0, .int 1, .int 0, .int 0, .int 0]))] sz)) 0 0 (va_A [(h0, .inr (6, [.ref h1, .int 0, .int (-1), .ref h2, .ref h3, .int 5, .int 3, .int 0, .int 0, .int 40, .int 0, .int 0, .int 0, .int 0, .ref h4, .ref h5, .ref h6])), (h1, .inr (10, [.ref h7, .int 0, .int 1, .int 0, .int 0, .int 0]))] sz) := by
  refine Met.ofW (cc := cX6_takeOperand) (maxL := 1) (ret := none) (by decide) rfl ?_
  intro p e s m args below meth c s₁ B hml hv
  obtain ⟨rfl, aks, rfl, Wd⟩ := k_enter hv
  have C : CallFix p m c cX6_takeOperand 1 s _ gG RX6 := ⟨B.exec, B.bytes, hml, findClass_of_methodNamed B.named, fun w h => atoms_spec (ws := Cond.code yX6_takeOperand cX6_takeOperand 1 none :: gG) B.pre w (List.mem_cons_of_mem _ h)⟩
  have hr := B.returns
  have hlk := B.notSynchronized
  generalize va_A [(h0, .inr (6, [.ref h1, .int 0, .int (-1), .ref h2, .ref h3, .int 5, .int 3, .int 0, .int 0, .int 40, .int 0, .int 0, .int 0, .int 0, .ref h4, .ref h5, .ref h6])), (h1, .inr (10, [.ref h7, .int 0, .int 1, .int 0, .int 0, .int 0]))] s.heap.size = A at Wd ⊢
  refine k_locals (Nat.le_of_ble_eq_true rfl) [(0, .ref h0)] rfl (fun ls hl => ?_)
  refine lv_aload_n C.1 C.2.1 dX6_takeOperand_0 rfl (lv_at hl 0 rfl) ?_
  refine k_get C Wd KX6 0 0 rfl (by decide) fl_X6_12 rfl dX6_takeOperand_1 ?_
  refine k_get C Wd KX10 1 2 rfl (by decide) fl_X6_88 rfl dX6_takeOperand_4 ?_
  refine lv_bipush (v := 40) C.1 C.2.1 dX6_takeOperand_7 (by decide) ?_
  refine lv_icmp_ne (tgt := 45) C.1 C.2.1 dX6_takeOperand_9 (by decide) (fun _ => ?_) (fun c1293 => absurd c1293 (by decide))
  refine lv_aload_n C.1 C.2.1 dX6_takeOperand_45 rfl (lv_at hl 0 rfl) ?_
  refine k_get C Wd KX6 0 0 rfl (by decide) fl_X6_12 rfl dX6_takeOperand_46 ?_
  refine k_get C Wd KX10 1 2 rfl (by decide) fl_X6_88 rfl dX6_takeOperand_49 ?_
  refine lv_iconst (v := 2) C.1 C.2.1 dX6_takeOperand_52 (by decide) ?_
  refine lv_icmp_ne (tgt := 63) C.1 C.2.1 dX6_takeOperand_53 (by decide) (fun _ => ?_) (fun c1294 => absurd c1294 (by decide))
  refine lv_aload_n C.1 C.2.1 dX6_takeOperand_63 rfl (lv_at hl 0 rfl) ?_
  refine k_get C Wd KX6 0 0 rfl (by decide) fl_X6_12 rfl dX6_takeOperand_64 ?_
  refine k_get C Wd KX10 1 2 rfl (by decide) fl_X6_88 rfl dX6_takeOperand_67 ?_
  refine lv_iconst (v := 3) C.1 C.2.1 dX6_takeOperand_70 (by decide) ?_
  refine lv_icmp_ne (tgt := 81) C.1 C.2.1 dX6_takeOperand_71 (by decide) (fun _ => ?_) (fun c1295 => absurd c1295 (by decide))
  refine lv_aload_n C.1 C.2.1 dX6_takeOperand_81 rfl (lv_at hl 0 rfl) ?_
  refine lv_iconst (v := 1) C.1 C.2.1 dX6_takeOperand_82 (by decide) ?_
  refine k_cv Wd [0, 1] [] rfl (wr := []) rfl (by decide) (by decide) (cells' := 0) (slots' := 0) (by decide) (by decide) (k_runV (rest := []) C aks Wd cs_X6_125 (kcX6_refuse l D h0 h1 h2 h3 h4 h5 h6 h7 _ ) [0, 1] rfl (by decide) [] rfl 0 6 rfl rfl rfl rfl rfl ⟨(Nat.le_of_ble_eq_true rfl), (Nat.le_of_ble_eq_true rfl)⟩ hl.1 rfl rfl (Nat.le_of_ble_eq_true rfl) ⟨(Nat.le_of_ble_eq_true rfl), (Nat.le_of_ble_eq_true rfl)⟩ dX6_takeOperand_83) (fun _ H locs w1296 Wd => ?_)
  have Wd : wX D [] s [(h0, .inr (6, [.ref h1, .int 1, .int 0, .ref h2, .ref h3, .int 5, .int 3, .int 0, .int 0, .int 40, .int 0, .int 0, .int 0, .int 0, .ref h4, .ref h5, .ref h6])), (h1, .inr (10, [.ref h7, .int 0, .int 1, .int 0, .int 0, .int 0]))] _ A s.heap _ := Wd
  exact k_vret C hr hlk Wd () trivial [0, 1] rfl (by decide) [] rfl (by decide) (by decide) dX6_takeOperand_86
set_option maxHeartbeats 4000000 in
set_option maxRecDepth 100000 in
theorem kcX10_shorten_v1 (l : Launch) (D : va_G) (h0 h1 : Nat) (sz : Nat)  : Met l yX10_shorten (Cond.code yX10_shorten cX10_shorten 2 (some .boolean) :: gG) { frames := 1, cells := 0, slots := 0, locals := 64 } (cPre D [] [(h0, .inr (10, [.ref h1, .int 0, .int 1, .int 0, .int 0, .int 0]))] sz [.ref h0, .int 0]) (va_Qi (fun (r : Int32) (_ : Unit) => r = 1) (fun u t => cB D (va_A [(h0, .inr (10, [.ref h1, .int 0, .int 1, .int 0, .int 0, .int 0]))] sz) ((fun (_ : Unit) => ([] : List (ClassId × FieldType))) u) ((fun (_ : Unit) => ([] : va_W)) u) t) (va_A [(h0, .inr (10, [.ref h1, .int 0, .int 1, .int 0, .int 0, .int 0]))] sz)) 0 0 (va_A [(h0, .inr (10, [.ref h1, .int 0, .int 1, .int 0, .int 0, .int 0]))] sz) := by
  refine Met.ofW (cc := cX10_shorten) (maxL := 2) (ret := (some .boolean)) (by decide) rfl ?_
  intro p e s m args below meth c s₁ B hml hv
  obtain ⟨rfl, aks, rfl, Wd⟩ := k_enter hv
  have C : CallFix p m c cX10_shorten 2 s _ gG RX10 := ⟨B.exec, B.bytes, hml, findClass_of_methodNamed B.named, fun w h => atoms_spec (ws := Cond.code yX10_shorten cX10_shorten 2 (some .boolean) :: gG) B.pre w (List.mem_cons_of_mem _ h)⟩
  have hr := B.returns
  have hlk := B.notSynchronized
  generalize va_A [(h0, .inr (10, [.ref h1, .int 0, .int 1, .int 0, .int 0, .int 0]))] s.heap.size = A at Wd ⊢
  refine k_locals (Nat.le_of_ble_eq_true rfl) [(0, .ref h0), (1, .int 0)] rfl (fun ls hl => ?_)
  refine lv_iload_n C.1 C.2.1 dX10_shorten_0 rfl (lv_at hl 1 rfl) ?_
  refine lv_if_lt (tgt := 12) C.1 C.2.1 dX10_shorten_1 (by decide) (fun c1302 => absurd c1302 (by decide)) (fun _ => ?_)
  refine lv_iload_n C.1 C.2.1 dX10_shorten_4 rfl (lv_at hl 1 rfl) ?_
  refine lv_aload_n C.1 C.2.1 dX10_shorten_5 rfl (lv_at hl 0 rfl) ?_
  refine k_get C Wd KX10 0 1 rfl (by decide) fl_X10_15 rfl dX10_shorten_6 ?_
  refine lv_icmp_le (tgt := 14) C.1 C.2.1 dX10_shorten_9 (by decide) (fun _ => ?_) (fun c1303 => absurd c1303 (by decide))
  refine lv_aload_n C.1 C.2.1 dX10_shorten_14 rfl (lv_at hl 0 rfl) ?_
  refine lv_iload_n C.1 C.2.1 dX10_shorten_15 rfl (lv_at hl 1 rfl) ?_
  refine k_put C Wd KX10 0 1 [(h0, .inr (10, [.ref h1, .int 0, .int 1, .int 0, .int 0, .int 0]))] rfl (by decide) fl_X10_15 rfl rfl rfl (Nat.le_of_ble_eq_true rfl) rfl dX10_shorten_16 (fun H locs Wd => ?_)
  refine lv_iconst (v := 1) C.1 C.2.1 dX10_shorten_19 (by decide) ?_
  exact k_zret C hr hlk rfl Wd () rfl [] rfl (by decide) [] rfl (by decide) (by decide) dX10_shorten_20
set_option maxHeartbeats 4000000 in
set_option maxRecDepth 100000 in
theorem kcX6_readAll (l : Launch) (D : va_G) (h0 h1 h2 h3 h4 h5 h6 h7 : Nat) (sz : Nat)  : Met l yX6_readAll (Cond.code yX6_readAll cX6_readAll 2 (some .boolean) :: gG) { frames := 4, cells := 0, slots := 0, locals := 126 } (cPre D [] [(h0, .inr (6, [.ref h1, .int 0, .int (-1), .ref h2, .ref h3, .int 5, .int 3, .int 0, .int 0, .int 40, .int 0, .int 0, .int 0, .int 0, .ref h4, .ref h5, .ref h6])), (h1, .inr (10, [.ref h7, .int 0, .int 0, .int 0, .int 0, .int 0]))] sz [.ref h0]) (va_Qi (fun (r : Int32) (_ : Unit) => r = 0) (fun u t => cB D (va_A [(h0, .inr (6, [.ref h1, .int 0, .int (-1), .ref h2, .ref h3, .int 5, .int 3, .int 0, .int 0, .int 40, .int 0, .int 0, .int 0, .int 0, .ref h4, .ref h5, .ref h6])), (h1, .inr (10, [.ref h7, .int 0, .int 0, .int 0, .int 0, .int 0]))] sz) ((fun (_ : Unit) => ([] : List (ClassId × FieldType))) u) ((fun (_ : Unit) => ([(h0, .inr (6, [.ref h1, .int 1, .int 0, .ref h2, .ref h3, .int 5, .int 3, .int 0, .int 0, .int 40, .int 0, .int 0, .int 0, .int 0, .ref h4, .ref h5, .ref h6]))] : va_W)) u) t) (va_A [(h0, .inr (6, [.ref h1, .int 0, .int (-1), .ref h2, .ref h3, .int 5, .int 3, .int 0, .int 0, .int 40, .int 0, .int 0, .int 0, .int 0, .ref h4, .ref h5, .ref h6])), (h1, .inr (10, [.ref h7, .int 0, .int 0, .int 0, .int 0, .int 0]))] sz)) 0 0 (va_A [(h0, .inr (6, [.ref h1, .int 0, .int (-1), .ref h2, .ref h3, .int 5, .int 3, .int 0, .int 0, .int 40, .int 0, .int 0, .int 0, .int 0, .ref h4, .ref h5, .ref h6])), (h1, .inr (10, [.ref h7, .int 0, .int 0, .int 0, .int 0, .int 0]))] sz) := by
  refine Met.ofW (cc := cX6_readAll) (maxL := 2) (ret := (some .boolean)) (by decide) rfl ?_
  intro p e s m args below meth c s₁ B hml hv
  obtain ⟨rfl, aks, rfl, Wd⟩ := k_enter hv
  have C : CallFix p m c cX6_readAll 2 s _ gG RX6 := ⟨B.exec, B.bytes, hml, findClass_of_methodNamed B.named, fun w h => atoms_spec (ws := Cond.code yX6_readAll cX6_readAll 2 (some .boolean) :: gG) B.pre w (List.mem_cons_of_mem _ h)⟩
  have hr := B.returns
  have hlk := B.notSynchronized
  generalize va_A [(h0, .inr (6, [.ref h1, .int 0, .int (-1), .ref h2, .ref h3, .int 5, .int 3, .int 0, .int 0, .int 40, .int 0, .int 0, .int 0, .int 0, .ref h4, .ref h5, .ref h6])), (h1, .inr (10, [.ref h7, .int 0, .int 0, .int 0, .int 0, .int 0]))] s.heap.size = A at Wd ⊢
  refine k_locals (Nat.le_of_ble_eq_true rfl) [(0, .ref h0)] rfl (fun ls hl => ?_)
  refine lv_iconst (v := 0) C.1 C.2.1 dX6_readAll_0 (by decide) ?_
  refine lv_istore_n (lv' := [(1, .int 0), (0, .ref h0)]) C.1 C.2.1 dX6_readAll_1 rfl hl (by decide) rfl (fun ls hl => ?_)
  refine lv_iload_n C.1 C.2.1 dX6_readAll_2 rfl (lv_at hl 0 rfl) ?_
  refine lv_sipush (v := 800) C.1 C.2.1 dX6_readAll_3 (by decide) ?_
  refine lv_icmp_gt (tgt := 140) C.1 C.2.1 dX6_readAll_6 (by decide) (fun c1306 => absurd c1306 (by decide)) (fun _ => ?_)
  refine lv_aload_n C.1 C.2.1 dX6_readAll_9 rfl (lv_at hl 1 rfl) ?_
  refine k_get C Wd KX6 0 1 rfl (by decide) fl_X6_37 rfl dX6_readAll_10 ?_
  refine lv_if_ne (tgt := 140) C.1 C.2.1 dX6_readAll_13 (by decide) (fun c1307 => absurd c1307 (by decide)) (fun _ => ?_)
  refine lv_aload_n C.1 C.2.1 dX6_readAll_16 rfl (lv_at hl 1 rfl) ?_
  refine k_get C Wd KX6 0 0 rfl (by decide) fl_X6_12 rfl dX6_readAll_17 ?_
  refine k_get C Wd KX10 1 2 rfl (by decide) fl_X6_88 rfl dX6_readAll_20 ?_
  refine lv_iconst (v := 1) C.1 C.2.1 dX6_readAll_23 (by decide) ?_
  refine lv_icmp_eq (tgt := 140) C.1 C.2.1 dX6_readAll_24 (by decide) (fun c1308 => absurd c1308 (by decide)) (fun _ => ?_)
  refine lv_aload_n C.1 C.2.1 dX6_readAll_27 rfl (lv_at hl 1 rfl) ?_
  refine k_get C Wd KX6 0 0 rfl (by decide) fl_X6_12 rfl dX6_readAll_28 ?_
  refine lv_aload_n C.1 C.2.1 dX6_readAll_31 rfl (lv_at hl 1 rfl) ?_
  refine k_get C Wd KX6 0 4 rfl (by decide) fl_X6_69 rfl dX6_readAll_32 ?_
  refine lv_ifnull C.1 C.2.1 dX6_readAll_35 ?_
  refine lv_iconst (v := 1) C.1 C.2.1 dX6_readAll_38 (by decide) ?_
  refine lv_goto (tgt := 43) C.1 C.2.1 dX6_readAll_39 (by decide) ?_
  refine k_cv Wd [1] [0] rfl (wr := [(h0, .inr (6, [.ref h1, .int 0, .int (-1), .ref h2, .ref h3, .int 5, .int 3, .int 0, .int 0, .int 40, .int 0, .int 0, .int 0, .int 0, .ref h4, .ref h5, .ref h6]))]) rfl (by decide) (by decide) (cells' := 0) (slots' := 0) (by decide) (by decide) (k_runV (rest := []) C aks Wd cs_X6_91 (kcX10_advance l D h1 h7 _ ) [1] rfl (by decide) [] rfl 1 10 rfl rfl rfl rfl rfl ⟨(Nat.le_of_ble_eq_true rfl), (Nat.le_of_ble_eq_true rfl)⟩ hl.1 rfl rfl (Nat.le_of_ble_eq_true rfl) ⟨(Nat.le_of_ble_eq_true rfl), (Nat.le_of_ble_eq_true rfl)⟩ dX6_readAll_43) (fun _ H locs w1309 Wd => ?_)
  have Wd : wX D [] s [(h0, .inr (6, [.ref h1, .int 0, .int (-1), .ref h2, .ref h3, .int 5, .int 3, .int 0, .int 0, .int 40, .int 0, .int 0, .int 0, .int 0, .ref h4, .ref h5, .ref h6])), (h1, .inr (10, [.ref h7, .int 0, .int 1, .int 0, .int 0, .int 0]))] _ A s.heap _ := Wd
  refine lv_aload_n C.1 C.2.1 dX6_readAll_46 rfl (lv_at hl 1 rfl) ?_
  refine k_get C Wd KX6 0 5 rfl (by decide) fl_X6_52 rfl dX6_readAll_47 ?_
  refine lv_tableIn (off := 66) (tgt := 116) C.1 C.2.1 dX6_readAll_50 (by decide) (by decide) (by decide) (by decide) ?_
  refine lv_aload_n C.1 C.2.1 dX6_readAll_116 rfl (lv_at hl 1 rfl) ?_
  refine k_cv Wd [0, 1] [] rfl (wr := []) rfl (by decide) (by decide) (cells' := 0) (slots' := 0) (by decide) (by decide) (k_runV (rest := []) C aks Wd cs_X6_107 (kcX6_takeOperand l D h0 h1 h2 h3 h4 h5 h6 h7 _ ) [0, 1] rfl (by decide) [] rfl 0 6 rfl rfl rfl rfl rfl ⟨(Nat.le_of_ble_eq_true rfl), (Nat.le_of_ble_eq_true rfl)⟩ hl.1 rfl rfl (Nat.le_of_ble_eq_true rfl) ⟨(Nat.le_of_ble_eq_true rfl), (Nat.le_of_ble_eq_true rfl)⟩ dX6_readAll_117) (fun _ H locs w1310 Wd => ?_)
  have Wd : wX D [] s [(h0, .inr (6, [.ref h1, .int 1, .int 0, .ref h2, .ref h3, .int 5, .int 3, .int 0, .int 0, .int 40, .int 0, .int 0, .int 0, .int 0, .ref h4, .ref h5, .ref h6])), (h1, .inr (10, [.ref h7, .int 0, .int 1, .int 0, .int 0, .int 0]))] _ A s.heap _ := Wd
  refine lv_goto (tgt := 134) C.1 C.2.1 dX6_readAll_120 (by decide) ?_
  refine lv_iinc (v := 1) (lv' := [(1, .int 1), (0, .ref h0)]) C.1 C.2.1 dX6_readAll_134 hl (k := 0) rfl (by decide) (by decide) rfl (fun ls hl => ?_)
  refine lv_goto (tgt := 2) C.1 C.2.1 dX6_readAll_137 (by decide) ?_
  refine lv_iload_n C.1 C.2.1 dX6_readAll_2 rfl (lv_at hl 0 rfl) ?_
  refine lv_sipush (v := 800) C.1 C.2.1 dX6_readAll_3 (by decide) ?_
  refine lv_icmp_gt (tgt := 140) C.1 C.2.1 dX6_readAll_6 (by decide) (fun c1311 => absurd c1311 (by decide)) (fun _ => ?_)
  refine lv_aload_n C.1 C.2.1 dX6_readAll_9 rfl (lv_at hl 1 rfl) ?_
  refine k_get C Wd KX6 0 1 rfl (by decide) fl_X6_37 rfl dX6_readAll_10 ?_
  refine lv_if_ne (tgt := 140) C.1 C.2.1 dX6_readAll_13 (by decide) (fun _ => ?_) (fun c1312 => absurd c1312 (by decide))
  refine lv_aload_n C.1 C.2.1 dX6_readAll_140 rfl (lv_at hl 1 rfl) ?_
  refine k_get C Wd KX6 0 0 rfl (by decide) fl_X6_12 rfl dX6_readAll_141 ?_
  refine lv_iconst (v := 0) C.1 C.2.1 dX6_readAll_144 (by decide) ?_
  refine k_ci Wd [1] [0] rfl (wr := [(h0, .inr (6, [.ref h1, .int 1, .int 0, .ref h2, .ref h3, .int 5, .int 3, .int 0, .int 0, .int 40, .int 0, .int 0, .int 0, .int 0, .ref h4, .ref h5, .ref h6]))]) rfl (by decide) (by decide) (cells' := 0) (slots' := 0) (by decide) (by decide) (k_runV (rest := []) C aks Wd cs_X6_44 (kcX10_shorten_v1 l D h1 h7 _ ) [1] rfl (by decide) [] rfl 1 10 rfl rfl rfl rfl rfl ⟨(Nat.le_of_ble_eq_true rfl), (Nat.le_of_ble_eq_true rfl)⟩ hl.1 rfl rfl (Nat.le_of_ble_eq_true rfl) ⟨(Nat.le_of_ble_eq_true rfl), (Nat.le_of_ble_eq_true rfl)⟩ dX6_readAll_145) (fun r _ H locs w1313 Wd => ?_)
  have Wd : wX D [] s [(h0, .inr (6, [.ref h1, .int 1, .int 0, .ref h2, .ref h3, .int 5, .int 3, .int 0, .int 0, .int 40, .int 0, .int 0, .int 0, .int 0, .ref h4, .ref h5, .ref h6]))] _ A s.heap _ := Wd
  obtain rfl := w1313
  refine lv_pop C.1 C.2.1 dX6_readAll_148 rfl ?_
  refine lv_aload_n C.1 C.2.1 dX6_readAll_149 rfl (lv_at hl 1 rfl) ?_
  refine k_get C Wd KX6 0 1 rfl (by decide) fl_X6_37 rfl dX6_readAll_150 ?_
  refine lv_if_ne (tgt := 160) C.1 C.2.1 dX6_readAll_153 (by decide) (fun _ => ?_) (fun c1314 => absurd c1314 (by decide))
  refine lv_iconst (v := 0) C.1 C.2.1 dX6_readAll_160 (by decide) ?_
  exact k_zret C hr hlk rfl Wd () rfl [0] rfl (by decide) [] rfl (by decide) (by decide) dX6_readAll_161
set_option maxHeartbeats 4000000 in
set_option maxRecDepth 100000 in
theorem kcX11_rule (l : Launch) (D : va_G) (h0 h1 h2 h3 h4 h5 h6 h7 h15 h16 h17 h18 h19 h24 h25 h26 h27 h28 h29 h30 h31 h42 h60 h99 h100 h101 h102 h129 h130 : Nat) (g1 : Nat → Option Nat) (a3 : ClassId) (sz : Nat) (k_g1_0 : g1 0 = some h60) : Met l yX11_rule (Cond.code yX11_rule cX11_rule 2 (some .int) :: gG) { frames := 5, cells := 0, slots := 0, locals := 147 } (cPre D [(a3, .object RX9)] [(h0, .inr (11, [.ref h1, .int 0, .ref h2, .ref h3, .ref h4, .ref h5, .ref h6, .ref h7])), (h6, .inr (4, [.ref h24, .ref h25, .ref h26, .int (-1), .int (-1), .ref h27, .ref h28, .ref h29, .ref h30, .ref h31])), (h27, .inl (a3, 12, .inr (.inr (.inr (.inr g1))))), (h60, .inr (9, [.ref h99, .ref h100, .int 0, .ref h101, .ref h102])), (h99, .inr (8, [.ref h129, .int 0])), (h100, .inr (8, [.ref h130, .int 0])), (h3, .inr (6, [.ref h15, .int 0, .int (-1), .ref h16, .null, .int 0, .int 0, .int 0, .int 0, .int 0, .int 0, .int 0, .int 0, .int 0, .ref h17, .ref h18, .ref h19])), (h15, .inr (10, [.ref h42, .int 0, .int 0, .int 0, .int 0, .int 0]))] sz [.ref h0]) (va_Qi (fun (r : Int32) (_ : Unit) => r = (-1)) (fun u t => cB D (va_A [(h0, .inr (11, [.ref h1, .int 0, .ref h2, .ref h3, .ref h4, .ref h5, .ref h6, .ref h7])), (h6, .inr (4, [.ref h24, .ref h25, .ref h26, .int (-1), .int (-1), .ref h27, .ref h28, .ref h29, .ref h30, .ref h31])), (h27, .inl (a3, 12, .inr (.inr (.inr (.inr g1))))), (h60, .inr (9, [.ref h99, .ref h100, .int 0, .ref h101, .ref h102])), (h99, .inr (8, [.ref h129, .int 0])), (h100, .inr (8, [.ref h130, .int 0])), (h3, .inr (6, [.ref h15, .int 0, .int (-1), .ref h16, .null, .int 0, .int 0, .int 0, .int 0, .int 0, .int 0, .int 0, .int 0, .int 0, .ref h17, .ref h18, .ref h19])), (h15, .inr (10, [.ref h42, .int 0, .int 0, .int 0, .int 0, .int 0]))] sz) ((fun (_ : Unit) => ([] : List (ClassId × FieldType))) u) ((fun (_ : Unit) => ([] : va_W)) u) t) (va_A [(h0, .inr (11, [.ref h1, .int 0, .ref h2, .ref h3, .ref h4, .ref h5, .ref h6, .ref h7])), (h6, .inr (4, [.ref h24, .ref h25, .ref h26, .int (-1), .int (-1), .ref h27, .ref h28, .ref h29, .ref h30, .ref h31])), (h27, .inl (a3, 12, .inr (.inr (.inr (.inr g1))))), (h60, .inr (9, [.ref h99, .ref h100, .int 0, .ref h101, .ref h102])), (h99, .inr (8, [.ref h129, .int 0])), (h100, .inr (8, [.ref h130, .int 0])), (h3, .inr (6, [.ref h15, .int 0, .int (-1), .ref h16, .null, .int 0, .int 0, .int 0, .int 0, .int 0, .int 0, .int 0, .int 0, .int 0, .ref h17, .ref h18, .ref h19])), (h15, .inr (10, [.ref h42, .int 0, .int 0, .int 0, .int 0, .int 0]))] sz)) 0 0 (va_A [(h0, .inr (11, [.ref h1, .int 0, .ref h2, .ref h3, .ref h4, .ref h5, .ref h6, .ref h7])), (h6, .inr (4, [.ref h24, .ref h25, .ref h26, .int (-1), .int (-1), .ref h27, .ref h28, .ref h29, .ref h30, .ref h31])), (h27, .inl (a3, 12, .inr (.inr (.inr (.inr g1))))), (h60, .inr (9, [.ref h99, .ref h100, .int 0, .ref h101, .ref h102])), (h99, .inr (8, [.ref h129, .int 0])), (h100, .inr (8, [.ref h130, .int 0])), (h3, .inr (6, [.ref h15, .int 0, .int (-1), .ref h16, .null, .int 0, .int 0, .int 0, .int 0, .int 0, .int 0, .int 0, .int 0, .int 0, .ref h17, .ref h18, .ref h19])), (h15, .inr (10, [.ref h42, .int 0, .int 0, .int 0, .int 0, .int 0]))] sz) := by
  refine Met.ofW (cc := cX11_rule) (maxL := 2) (ret := (some .int)) (by decide) rfl ?_
  intro p e s m args below meth c s₁ B hml hv
  obtain ⟨rfl, aks, rfl, Wd⟩ := k_enter hv
  have C : CallFix p m c cX11_rule 2 s _ gG RX11 := ⟨B.exec, B.bytes, hml, findClass_of_methodNamed B.named, fun w h => atoms_spec (ws := Cond.code yX11_rule cX11_rule 2 (some .int) :: gG) B.pre w (List.mem_cons_of_mem _ h)⟩
  have hr := B.returns
  have hlk := B.notSynchronized
  generalize va_A [(h0, .inr (11, [.ref h1, .int 0, .ref h2, .ref h3, .ref h4, .ref h5, .ref h6, .ref h7])), (h6, .inr (4, [.ref h24, .ref h25, .ref h26, .int (-1), .int (-1), .ref h27, .ref h28, .ref h29, .ref h30, .ref h31])), (h27, .inl (a3, 12, .inr (.inr (.inr (.inr g1))))), (h60, .inr (9, [.ref h99, .ref h100, .int 0, .ref h101, .ref h102])), (h99, .inr (8, [.ref h129, .int 0])), (h100, .inr (8, [.ref h130, .int 0])), (h3, .inr (6, [.ref h15, .int 0, .int (-1), .ref h16, .null, .int 0, .int 0, .int 0, .int 0, .int 0, .int 0, .int 0, .int 0, .int 0, .ref h17, .ref h18, .ref h19])), (h15, .inr (10, [.ref h42, .int 0, .int 0, .int 0, .int 0, .int 0]))] s.heap.size = A at Wd ⊢
  refine k_locals (Nat.le_of_ble_eq_true rfl) [(0, .ref h0)] rfl (fun ls hl => ?_)
  refine lv_aload_n C.1 C.2.1 dX11_rule_0 rfl (lv_at hl 0 rfl) ?_
  refine k_get C Wd KX11 0 6 rfl (by decide) fl_X11_50 rfl dX11_rule_1 ?_
  refine lv_aload_n C.1 C.2.1 dX11_rule_4 rfl (lv_at hl 0 rfl) ?_
  refine k_get C Wd KX11 0 1 rfl (by decide) fl_X11_18 rfl dX11_rule_5 ?_
  refine k_pq (k_runV (rest := []) C aks Wd cs_X11_99 (kcX4_ruleAt l D h6 h24 h25 h26 h27 h28 h29 h30 h31 h60 g1 a3 _ k_g1_0) [1, 2] rfl (by decide) [0] rfl 1 4 rfl rfl rfl rfl rfl ⟨(Nat.le_of_ble_eq_true rfl), (Nat.le_of_ble_eq_true rfl)⟩ hl.1 rfl rfl (Nat.le_of_ble_eq_true rfl) ⟨(Nat.le_of_ble_eq_true rfl), (Nat.le_of_ble_eq_true rfl)⟩ dX11_rule_8) (fun r w1317 => ?_)
  obtain rfl := w1317
  refine W.eq (g2 := F0 m 11 ls [.ref h60]) rfl ?_
  refine lv_astore_n (lv' := [(1, .ref h60), (0, .ref h0)]) C.1 C.2.1 dX11_rule_11 rfl hl (by decide) rfl (fun ls hl => ?_)
  refine lv_aload_n C.1 C.2.1 dX11_rule_12 rfl (lv_at hl 0 rfl) ?_
  refine lv_ifnonnull (tgt := 25) C.1 C.2.1 dX11_rule_13 (by decide) ?_
  refine lv_aload_n C.1 C.2.1 dX11_rule_25 rfl (lv_at hl 1 rfl) ?_
  refine k_get C Wd KX11 0 3 rfl (by decide) fl_X11_29 rfl dX11_rule_26 ?_
  refine lv_aload_n C.1 C.2.1 dX11_rule_29 rfl (lv_at hl 0 rfl) ?_
  refine k_cv Wd [3, 4, 5, 6, 7] [0, 1, 2] rfl (wr := [(h0, .inr (11, [.ref h1, .int 0, .ref h2, .ref h3, .ref h4, .ref h5, .ref h6, .ref h7])), (h6, .inr (4, [.ref h24, .ref h25, .ref h26, .int (-1), .int (-1), .ref h27, .ref h28, .ref h29, .ref h30, .ref h31])), (h27, .inl (a3, 12, .inr (.inr (.inr (.inr g1)))))]) rfl (by decide) (by decide) (cells' := 0) (slots' := 0) (by decide) (by decide) (k_runV (rest := []) C aks Wd cs_X11_103 (kcX6_beginRule l D h3 h60 h15 h16 h17 h18 h19 h99 h100 h101 h102 h42 h129 h130 _ ) [3, 4, 5, 6, 7] rfl (by decide) [] rfl 6 6 rfl rfl rfl rfl rfl ⟨(Nat.le_of_ble_eq_true rfl), (Nat.le_of_ble_eq_true rfl)⟩ hl.1 rfl rfl (Nat.le_of_ble_eq_true rfl) ⟨(Nat.le_of_ble_eq_true rfl), (Nat.le_of_ble_eq_true rfl)⟩ dX11_rule_30) (fun _ H locs w1318 Wd => ?_)
  have Wd : wX D [(a3, .object RX9)] s [(h0, .inr (11, [.ref h1, .int 0, .ref h2, .ref h3, .ref h4, .ref h5, .ref h6, .ref h7])), (h6, .inr (4, [.ref h24, .ref h25, .ref h26, .int (-1), .int (-1), .ref h27, .ref h28, .ref h29, .ref h30, .ref h31])), (h27, .inl (a3, 12, .inr (.inr (.inr (.inr g1))))), (h60, .inr (9, [.ref h99, .ref h100, .int 0, .ref h101, .ref h102])), (h99, .inr (8, [.ref h129, .int 0])), (h100, .inr (8, [.ref h130, .int 0])), (h3, .inr (6, [.ref h15, .int 0, .int (-1), .ref h99, .ref h60, .int 5, .int 3, .int 0, .int 0, .int 40, .int 0, .int 0, .int 0, .int 0, .ref h17, .ref h18, .ref h19])), (h15, .inr (10, [.ref h42, .int 0, .int 0, .int 0, .int 0, .int 0]))] _ A s.heap _ := Wd
  refine lv_aload_n C.1 C.2.1 dX11_rule_33 rfl (lv_at hl 1 rfl) ?_
  refine k_get C Wd KX11 0 3 rfl (by decide) fl_X11_29 rfl dX11_rule_34 ?_
  refine k_ci Wd [6, 7] [0, 1, 2, 3, 4, 5] rfl (wr := [(h0, .inr (11, [.ref h1, .int 0, .ref h2, .ref h3, .ref h4, .ref h5, .ref h6, .ref h7])), (h6, .inr (4, [.ref h24, .ref h25, .ref h26, .int (-1), .int (-1), .ref h27, .ref h28, .ref h29, .ref h30, .ref h31])), (h27, .inl (a3, 12, .inr (.inr (.inr (.inr g1))))), (h60, .inr (9, [.ref h99, .ref h100, .int 0, .ref h101, .ref h102])), (h99, .inr (8, [.ref h129, .int 0])), (h100, .inr (8, [.ref h130, .int 0]))]) rfl (by decide) (by decide) (cells' := 0) (slots' := 0) (by decide) (by decide) (k_runV (rest := []) C aks Wd cs_X11_88 (kcX6_readAll l D h3 h15 h99 h60 h17 h18 h19 h42 _ ) [6, 7] rfl (by decide) [] rfl 6 6 rfl rfl rfl rfl rfl ⟨(Nat.le_of_ble_eq_true rfl), (Nat.le_of_ble_eq_true rfl)⟩ hl.1 rfl rfl (Nat.le_of_ble_eq_true rfl) ⟨(Nat.le_of_ble_eq_true rfl), (Nat.le_of_ble_eq_true rfl)⟩ dX11_rule_37) (fun r _ H locs w1319 Wd => ?_)
  have Wd : wX D [(a3, .object RX9)] s [(h0, .inr (11, [.ref h1, .int 0, .ref h2, .ref h3, .ref h4, .ref h5, .ref h6, .ref h7])), (h6, .inr (4, [.ref h24, .ref h25, .ref h26, .int (-1), .int (-1), .ref h27, .ref h28, .ref h29, .ref h30, .ref h31])), (h27, .inl (a3, 12, .inr (.inr (.inr (.inr g1))))), (h60, .inr (9, [.ref h99, .ref h100, .int 0, .ref h101, .ref h102])), (h99, .inr (8, [.ref h129, .int 0])), (h100, .inr (8, [.ref h130, .int 0])), (h3, .inr (6, [.ref h15, .int 1, .int 0, .ref h99, .ref h60, .int 5, .int 3, .int 0, .int 0, .int 40, .int 0, .int 0, .int 0, .int 0, .ref h17, .ref h18, .ref h19]))] _ A s.heap _ := Wd
  obtain rfl := w1319
  refine lv_if_ne (tgt := 45) C.1 C.2.1 dX11_rule_40 (by decide) (fun c1320 => absurd c1320 (by decide)) (fun _ => ?_)
  refine lv_iconst (v := (-1)) C.1 C.2.1 dX11_rule_43 (by decide) ?_
  exact k_zret C hr hlk rfl Wd () rfl [] rfl (by decide) [] rfl (by decide) (by decide) dX11_rule_44
set_option maxHeartbeats 4000000 in
set_option maxRecDepth 100000 in
theorem kcX11_fault (l : Launch) (D : va_G) (h0 h1 h2 h3 h4 h5 h6 h7 h9 h10 h11 h12 h13 : Nat) (x0 : Int32) (sz : Nat)  : Met l yX11_fault (Cond.code yX11_fault cX11_fault 2 (some .int) :: gG) { frames := 1, cells := 0, slots := 0, locals := 64 } (cPre D [] [(h0, .inr (11, [.ref h1, .int 0, .ref h2, .ref h3, .ref h4, .ref h5, .ref h6, .ref h7])), (h3, .inr (6, [.ref h9, .int 0, .int (-1), .ref h10, .null, .int 0, .int 0, .int 0, .int 0, .int 0, .int 0, .int 0, .int 0, .int 0, .ref h11, .ref h12, .ref h13]))] sz [.ref h0, .int x0]) (vp_Si (fun r => (¬ x0 = (0 : Int32) ∧ ¬ x0 = (1 : Int32) ∧ r = (-1)) ∨ (¬ x0 = (0 : Int32) ∧ x0 = (1 : Int32) ∧ r = (-1)) ∨ (x0 = (0 : Int32) ∧ r = 0))) 0 0 (fun _ => False) := by
  refine Met.ofW (cc := cX11_fault) (maxL := 2) (ret := (some .int)) (by decide) rfl ?_
  intro p e s m args below meth c s₁ B hml hv
  obtain ⟨rfl, aks, rfl, Wd⟩ := k_enter hv
  have C : CallFix p m c cX11_fault 2 s _ gG RX11 := ⟨B.exec, B.bytes, hml, findClass_of_methodNamed B.named, fun w h => atoms_spec (ws := Cond.code yX11_fault cX11_fault 2 (some .int) :: gG) B.pre w (List.mem_cons_of_mem _ h)⟩
  have hr := B.returns
  have hlk := B.notSynchronized
  obtain ⟨A, Wd⟩ : ∃ A, wX D [] s [(h0, .inr (11, [.ref h1, .int 0, .ref h2, .ref h3, .ref h4, .ref h5, .ref h6, .ref h7])), (h3, .inr (6, [.ref h9, .int 0, .int (-1), .ref h10, .null, .int 0, .int 0, .int 0, .int 0, .int 0, .int 0, .int 0, .int 0, .int 0, .ref h11, .ref h12, .ref h13]))] s.heap A s.heap [] := ⟨_, Wd⟩
  refine k_locals (Nat.le_of_ble_eq_true rfl) [(0, .ref h0), (1, .int x0)] rfl (fun ls hl => ?_)
  refine lv_iload_n C.1 C.2.1 dX11_fault_0 rfl (lv_at hl 1 rfl) ?_
  refine lv_if_ne (tgt := 12) C.1 C.2.1 dX11_fault_1 (by decide) (fun c1323 => ?_) (fun c1323 => ?_)
  · refine lv_iload_n C.1 C.2.1 dX11_fault_12 rfl (lv_at hl 1 rfl) ?_
    refine lv_iconst (v := 1) C.1 C.2.1 dX11_fault_13 (by decide) ?_
    refine lv_icmp_ne (tgt := 27) C.1 C.2.1 dX11_fault_14 (by decide) (fun c1324 => ?_) (fun c1324 => ?_)
    · refine lv_iconst (v := (-1)) C.1 C.2.1 dX11_fault_27 (by decide) ?_
      exact k_zretP C hr hlk rfl (Or.inl (⟨c1323, c1324, rfl⟩)) dX11_fault_28
    · subst c1324
      refine lv_aload_n C.1 C.2.1 dX11_fault_17 rfl (lv_at hl 0 rfl) ?_
      refine k_get C Wd KX11 0 3 rfl (by decide) fl_X11_29 rfl dX11_fault_18 ?_
      refine k_get C Wd KX6 1 2 rfl (by decide) fl_X11_110 rfl dX11_fault_21 ?_
      refine lv_goto (tgt := 28) C.1 C.2.1 dX11_fault_24 (by decide) ?_
      exact k_zretP C hr hlk rfl (Or.inr (Or.inl (⟨c1323, rfl, rfl⟩))) dX11_fault_28
  · subst c1323
    refine lv_aload_n C.1 C.2.1 dX11_fault_4 rfl (lv_at hl 0 rfl) ?_
    refine k_get C Wd KX11 0 3 rfl (by decide) fl_X11_29 rfl dX11_fault_5 ?_
    refine k_get C Wd KX6 1 1 rfl (by decide) fl_X11_107 rfl dX11_fault_8 ?_
    exact k_zretP C hr hlk rfl (Or.inr (Or.inr (⟨rfl, rfl⟩))) dX11_fault_11
set_option maxHeartbeats 4000000 in
set_option maxRecDepth 100000 in
theorem kcX11_slotAt (l : Launch) (D : va_G) (h0 h1 h2 h3 h4 h5 h6 h7 : Nat) (x0 : Int32) (g0 : Nat → Option Nat) (a0 : ClassId) (sz : Nat)  : Met l yX11_slotAt (Cond.code yX11_slotAt cX11_slotAt 2 (some (.object "SameAfter$Row")) :: gG) { frames := 1, cells := 0, slots := 0, locals := 64 } (cPre D [(a0, .object RX8)] [(h0, .inr (11, [.ref h1, .int 0, .ref h2, .ref h3, .ref h4, .ref h5, .ref h6, .ref h7])), (h1, .inl (a0, 6, .inr (.inr (.inr (.inr g0)))))] sz [.ref h0, .int x0]) (va_Sq (fun r => (x0 < (0 : Int32) ∧ r = none) ∨ (¬ x0 < (0 : Int32) ∧ (6 : Int32) ≤ x0 ∧ r = none) ∨ (¬ x0 < (0 : Int32) ∧ ¬ (6 : Int32) ≤ x0 ∧ r = (g0 x0.toNatClampNeg)))) 0 0 (fun _ => False) := by
  refine Met.ofW (cc := cX11_slotAt) (maxL := 2) (ret := (some (.object "SameAfter$Row"))) (by decide) rfl ?_
  intro p e s m args below meth c s₁ B hml hv
  obtain ⟨rfl, aks, rfl, Wd⟩ := k_enter hv
  have C : CallFix p m c cX11_slotAt 2 s _ gG RX11 := ⟨B.exec, B.bytes, hml, findClass_of_methodNamed B.named, fun w h => atoms_spec (ws := Cond.code yX11_slotAt cX11_slotAt 2 (some (.object "SameAfter$Row")) :: gG) B.pre w (List.mem_cons_of_mem _ h)⟩
  have hr := B.returns
  have hlk := B.notSynchronized
  obtain ⟨A, Wd⟩ : ∃ A, wX D [(a0, .object RX8)] s [(h0, .inr (11, [.ref h1, .int 0, .ref h2, .ref h3, .ref h4, .ref h5, .ref h6, .ref h7])), (h1, .inl (a0, 6, .inr (.inr (.inr (.inr g0)))))] s.heap A s.heap [] := ⟨_, Wd⟩
  refine k_locals (Nat.le_of_ble_eq_true rfl) [(0, .ref h0), (1, .int x0)] rfl (fun ls hl => ?_)
  refine lv_iload_n C.1 C.2.1 dX11_slotAt_0 rfl (lv_at hl 1 rfl) ?_
  refine lv_if_lt (tgt := 22) C.1 C.2.1 dX11_slotAt_1 (by decide) (fun c1327 => ?_) (fun c1327 => ?_)
  · refine lv_null C.1 C.2.1 dX11_slotAt_22 ?_
    exact k_aretP (none) rfl C hr hlk (Or.inl (⟨c1327, rfl⟩)) dX11_slotAt_23
  · refine lv_iload_n C.1 C.2.1 dX11_slotAt_4 rfl (lv_at hl 1 rfl) ?_
    refine lv_aload_n C.1 C.2.1 dX11_slotAt_5 rfl (lv_at hl 0 rfl) ?_
    refine k_get C Wd KX11 0 0 rfl (by decide) fl_X11_11 rfl dX11_slotAt_6 ?_
    refine k_alen (v := 6) C Wd 1 0 rfl rfl rfl dX11_slotAt_9 ?_
    refine lv_icmp_ge (tgt := 22) C.1 C.2.1 dX11_slotAt_10 (by decide) (fun c1328 => ?_) (fun c1328 => ?_)
    · refine lv_null C.1 C.2.1 dX11_slotAt_22 ?_
      exact k_aretP (none) rfl C hr hlk (Or.inr (Or.inl (⟨c1327, c1328, rfl⟩))) dX11_slotAt_23
    · refine lv_aload_n C.1 C.2.1 dX11_slotAt_13 rfl (lv_at hl 0 rfl) ?_
      refine k_get C Wd KX11 0 0 rfl (by decide) fl_X11_11 rfl dX11_slotAt_14 ?_
      refine lv_iload_n C.1 C.2.1 dX11_slotAt_17 rfl (lv_at hl 1 rfl) ?_
      refine k_aldq (v := va_rf (g0 x0.toNatClampNeg)) C Wd 1 0 rfl rfl (vp_in_iff.mpr ⟨by have z0 := kz_nlt c1327; have z1 := kz_nle c1328; have t0 : (0 : Int32).toInt = 0 := (by decide); have t6 : (6 : Int32).toInt = 6 := (by decide); omega, by have z0 := kz_nlt c1327; have z1 := kz_nle c1328; have t0 : (0 : Int32).toInt = 0 := (by decide); have t6 : (6 : Int32).toInt = 6 := (by decide); omega⟩) rfl dX11_slotAt_18 ?_
      refine lv_goto (tgt := 23) C.1 C.2.1 dX11_slotAt_19 (by decide) ?_
      exact k_aretP ((g0 x0.toNatClampNeg)) rfl C hr hlk (Or.inr (Or.inr (⟨c1327, c1328, rfl⟩))) dX11_slotAt_23
set_option maxHeartbeats 4000000 in
set_option maxRecDepth 100000 in
theorem kcX6_drop (l : Launch) (D : va_G) (h0 h1 h2 h3 h4 h5 h6 : Nat) (sz : Nat)  : Met l yX6_drop (Cond.code yX6_drop cX6_drop 1 none :: gG) { frames := 2, cells := 0, slots := 0, locals := 85 } (cPre D [] [(h0, .inr (6, [.ref h1, .int 0, .int (-1), .ref h2, .null, .int 0, .int 0, .int 0, .int 0, .int 0, .int 0, .int 0, .int 0, .int 0, .ref h3, .ref h4, .ref h5])), (h1, .inr (10, [.ref h6, .int 0, .int 0, .int 0, .int 0, .int 0]))] sz [.ref h0]) (va_Qv (fun (_ : Unit) => True) (fun u t => cB D (va_A [(h0, .inr (6, [.ref h1, .int 0, .int (-1), .ref h2, .null, .int 0, .int 0, .int 0, .int 0, .int 0, .int 0, .int 0, .int 0, .int 0, .ref h3, .ref h4, .ref h5])), (h1, .inr (10, [.ref h6, .int 0, .int 0, .int 0, .int 0, .int 0]))] sz) ((fun (_ : Unit) => ([] : List (ClassId × FieldType))) u) ((fun (_ : Unit) => ([(h0, .inr (6, [.ref h1, .int 0, .int (-1), .ref h2, .null, .int 0, .int 0, .int 0, .int 0, .int 0, .int 0, .int 0, .int 0, .int 0, .ref h3, .ref h4, .ref h5]))] : va_W)) u) t) (va_A [(h0, .inr (6, [.ref h1, .int 0, .int (-1), .ref h2, .null, .int 0, .int 0, .int 0, .int 0, .int 0, .int 0, .int 0, .int 0, .int 0, .ref h3, .ref h4, .ref h5])), (h1, .inr (10, [.ref h6, .int 0, .int 0, .int 0, .int 0, .int 0]))] sz)) 0 0 (va_A [(h0, .inr (6, [.ref h1, .int 0, .int (-1), .ref h2, .null, .int 0, .int 0, .int 0, .int 0, .int 0, .int 0, .int 0, .int 0, .int 0, .ref h3, .ref h4, .ref h5])), (h1, .inr (10, [.ref h6, .int 0, .int 0, .int 0, .int 0, .int 0]))] sz) := by
  refine Met.ofW (cc := cX6_drop) (maxL := 1) (ret := none) (by decide) rfl ?_
  intro p e s m args below meth c s₁ B hml hv
  obtain ⟨rfl, aks, rfl, Wd⟩ := k_enter hv
  have C : CallFix p m c cX6_drop 1 s _ gG RX6 := ⟨B.exec, B.bytes, hml, findClass_of_methodNamed B.named, fun w h => atoms_spec (ws := Cond.code yX6_drop cX6_drop 1 none :: gG) B.pre w (List.mem_cons_of_mem _ h)⟩
  have hr := B.returns
  have hlk := B.notSynchronized
  generalize va_A [(h0, .inr (6, [.ref h1, .int 0, .int (-1), .ref h2, .null, .int 0, .int 0, .int 0, .int 0, .int 0, .int 0, .int 0, .int 0, .int 0, .ref h3, .ref h4, .ref h5])), (h1, .inr (10, [.ref h6, .int 0, .int 0, .int 0, .int 0, .int 0]))] s.heap.size = A at Wd ⊢
  refine k_locals (Nat.le_of_ble_eq_true rfl) [(0, .ref h0)] rfl (fun ls hl => ?_)
  refine lv_aload_n C.1 C.2.1 dX6_drop_0 rfl (lv_at hl 0 rfl) ?_
  refine lv_iconst (v := 0) C.1 C.2.1 dX6_drop_1 (by decide) ?_
  refine k_put C Wd KX6 0 1 [(h0, .inr (6, [.ref h1, .int 0, .int (-1), .ref h2, .null, .int 0, .int 0, .int 0, .int 0, .int 0, .int 0, .int 0, .int 0, .int 0, .ref h3, .ref h4, .ref h5])), (h1, .inr (10, [.ref h6, .int 0, .int 0, .int 0, .int 0, .int 0]))] rfl (by decide) fl_X6_37 rfl rfl rfl (Nat.le_of_ble_eq_true rfl) rfl dX6_drop_2 (fun H locs Wd => ?_)
  refine lv_aload_n C.1 C.2.1 dX6_drop_5 rfl (lv_at hl 0 rfl) ?_
  refine lv_iconst (v := (-1)) C.1 C.2.1 dX6_drop_6 (by decide) ?_
  refine k_put C Wd KX6 0 2 [(h0, .inr (6, [.ref h1, .int 0, .int (-1), .ref h2, .null, .int 0, .int 0, .int 0, .int 0, .int 0, .int 0, .int 0, .int 0, .int 0, .ref h3, .ref h4, .ref h5])), (h1, .inr (10, [.ref h6, .int 0, .int 0, .int 0, .int 0, .int 0]))] rfl (by decide) fl_X6_41 rfl rfl rfl (Nat.le_of_ble_eq_true rfl) rfl dX6_drop_7 (fun H locs Wd => ?_)
  refine lv_aload_n C.1 C.2.1 dX6_drop_10 rfl (lv_at hl 0 rfl) ?_
  refine k_get C Wd KX6 0 0 rfl (by decide) fl_X6_12 rfl dX6_drop_11 ?_
  refine lv_iconst (v := 0) C.1 C.2.1 dX6_drop_14 (by decide) ?_
  refine k_ci Wd [1] [0] rfl (wr := [(h0, .inr (6, [.ref h1, .int 0, .int (-1), .ref h2, .null, .int 0, .int 0, .int 0, .int 0, .int 0, .int 0, .int 0, .int 0, .int 0, .ref h3, .ref h4, .ref h5]))]) rfl (by decide) (by decide) (cells' := 0) (slots' := 0) (by decide) (by decide) (k_runV (rest := []) C aks Wd cs_X6_44 (kcX10_shorten l D h1 h6 0 _ ) [1] rfl (by decide) [] rfl 1 10 rfl rfl rfl rfl rfl ⟨(Nat.le_of_ble_eq_true rfl), (Nat.le_of_ble_eq_true rfl)⟩ hl.1 rfl rfl (Nat.le_of_ble_eq_true rfl) ⟨(Nat.le_of_ble_eq_true rfl), (Nat.le_of_ble_eq_true rfl)⟩ dX6_drop_15) (fun r _ H locs w1341 Wd => ?_)
  have Wd : wX D [] s [(h0, .inr (6, [.ref h1, .int 0, .int (-1), .ref h2, .null, .int 0, .int 0, .int 0, .int 0, .int 0, .int 0, .int 0, .int 0, .int 0, .ref h3, .ref h4, .ref h5]))] _ A s.heap _ := Wd
  rcases w1341 with ⟨c1342, rfl⟩ | ⟨c1343, c1344, rfl⟩ | ⟨c1345, c1346, rfl⟩
  · exact absurd c1342 (by decide)
  · refine lv_pop C.1 C.2.1 dX6_drop_18 rfl ?_
    exact k_vret C hr hlk Wd () trivial [0] rfl (by decide) [] rfl (by decide) (by decide) dX6_drop_19
  · exact absurd c1346 (by decide)
set_option maxHeartbeats 4000000 in
set_option maxRecDepth 100000 in
theorem kcX11_program (l : Launch) (D : va_G) (h0 h1 h2 h3 h4 h5 h6 h7 h9 h10 h11 h12 h13 h30 : Nat) (x0 : Int32) (g0 : Nat → Option Nat) (a0 : ClassId) (sz : Nat)  (as0 : x0 < (0 : Int32)): Met l yX11_program (Cond.code yX11_program cX11_program 3 (some .int) :: gG) { frames := 3, cells := 0, slots := 0, locals := 105 } (cPre D [(a0, .object RX8)] [(h0, .inr (11, [.ref h1, .int 0, .ref h2, .ref h3, .ref h4, .ref h5, .ref h6, .ref h7])), (h1, .inl (a0, 6, .inr (.inr (.inr (.inr g0))))), (h3, .inr (6, [.ref h9, .int 0, .int (-1), .ref h10, .null, .int 0, .int 0, .int 0, .int 0, .int 0, .int 0, .int 0, .int 0, .int 0, .ref h11, .ref h12, .ref h13])), (h9, .inr (10, [.ref h30, .int 0, .int 0, .int 0, .int 0, .int 0]))] sz [.ref h0, .int x0]) (va_Qi (fun (r : Int32) (_ : Unit) => x0 < (0 : Int32) ∧ r = (-1)) (fun u t => cB D (va_A [(h0, .inr (11, [.ref h1, .int 0, .ref h2, .ref h3, .ref h4, .ref h5, .ref h6, .ref h7])), (h1, .inl (a0, 6, .inr (.inr (.inr (.inr g0))))), (h3, .inr (6, [.ref h9, .int 0, .int (-1), .ref h10, .null, .int 0, .int 0, .int 0, .int 0, .int 0, .int 0, .int 0, .int 0, .int 0, .ref h11, .ref h12, .ref h13])), (h9, .inr (10, [.ref h30, .int 0, .int 0, .int 0, .int 0, .int 0]))] sz) ((fun (_ : Unit) => ([] : List (ClassId × FieldType))) u) ((fun (_ : Unit) => ([] : va_W)) u) t) (va_A [(h0, .inr (11, [.ref h1, .int 0, .ref h2, .ref h3, .ref h4, .ref h5, .ref h6, .ref h7])), (h1, .inl (a0, 6, .inr (.inr (.inr (.inr g0))))), (h3, .inr (6, [.ref h9, .int 0, .int (-1), .ref h10, .null, .int 0, .int 0, .int 0, .int 0, .int 0, .int 0, .int 0, .int 0, .int 0, .ref h11, .ref h12, .ref h13])), (h9, .inr (10, [.ref h30, .int 0, .int 0, .int 0, .int 0, .int 0]))] sz)) 0 0 (va_A [(h0, .inr (11, [.ref h1, .int 0, .ref h2, .ref h3, .ref h4, .ref h5, .ref h6, .ref h7])), (h1, .inl (a0, 6, .inr (.inr (.inr (.inr g0))))), (h3, .inr (6, [.ref h9, .int 0, .int (-1), .ref h10, .null, .int 0, .int 0, .int 0, .int 0, .int 0, .int 0, .int 0, .int 0, .int 0, .ref h11, .ref h12, .ref h13])), (h9, .inr (10, [.ref h30, .int 0, .int 0, .int 0, .int 0, .int 0]))] sz) := by
  refine Met.ofW (cc := cX11_program) (maxL := 3) (ret := (some .int)) (by decide) rfl ?_
  intro p e s m args below meth c s₁ B hml hv
  obtain ⟨rfl, aks, rfl, Wd⟩ := k_enter hv
  have C : CallFix p m c cX11_program 3 s _ gG RX11 := ⟨B.exec, B.bytes, hml, findClass_of_methodNamed B.named, fun w h => atoms_spec (ws := Cond.code yX11_program cX11_program 3 (some .int) :: gG) B.pre w (List.mem_cons_of_mem _ h)⟩
  have hr := B.returns
  have hlk := B.notSynchronized
  generalize va_A [(h0, .inr (11, [.ref h1, .int 0, .ref h2, .ref h3, .ref h4, .ref h5, .ref h6, .ref h7])), (h1, .inl (a0, 6, .inr (.inr (.inr (.inr g0))))), (h3, .inr (6, [.ref h9, .int 0, .int (-1), .ref h10, .null, .int 0, .int 0, .int 0, .int 0, .int 0, .int 0, .int 0, .int 0, .int 0, .ref h11, .ref h12, .ref h13])), (h9, .inr (10, [.ref h30, .int 0, .int 0, .int 0, .int 0, .int 0]))] s.heap.size = A at Wd ⊢
  refine k_locals (Nat.le_of_ble_eq_true rfl) [(0, .ref h0), (1, .int x0)] rfl (fun ls hl => ?_)
  refine lv_aload_n C.1 C.2.1 dX11_program_0 rfl (lv_at hl 0 rfl) ?_
  refine lv_iload_n C.1 C.2.1 dX11_program_1 rfl (lv_at hl 1 rfl) ?_
  refine k_pq (k_runV (rest := []) C aks Wd cs_X11_77 (kcX11_slotAt l D h0 h1 h2 h3 h4 h5 h6 h7 x0 g0 a0 _ ) [0, 1] rfl (by decide) [0] rfl 0 11 rfl rfl rfl rfl rfl ⟨(Nat.le_of_ble_eq_true rfl), (Nat.le_of_ble_eq_true rfl)⟩ hl.1 rfl rfl (Nat.le_of_ble_eq_true rfl) ⟨(Nat.le_of_ble_eq_true rfl), (Nat.le_of_ble_eq_true rfl)⟩ dX11_program_2) (fun r w1348 => ?_)
  rcases w1348 with ⟨c1349, rfl⟩ | ⟨c1350, c1351, rfl⟩ | ⟨c1352, c1353, rfl⟩
  · refine W.eq (g2 := F0 m 5 ls [.null]) rfl ?_
    refine lv_astore_nN (lv' := [(2, .null), (0, .ref h0), (1, .int x0)]) C.1 C.2.1 dX11_program_5 rfl hl (by decide) rfl (fun ls hl => ?_)
    refine lv_aload_nN C.1 C.2.1 dX11_program_6 rfl (lv_at hl 0 rfl) ?_
    refine lv_ifnonnullN C.1 C.2.1 dX11_program_7 ?_
    refine lv_aload_n C.1 C.2.1 dX11_program_10 rfl (lv_at hl 1 rfl) ?_
    refine k_get C Wd KX11 0 3 rfl (by decide) fl_X11_29 rfl dX11_program_11 ?_
    refine k_cv Wd [2, 3] [0, 1] rfl (wr := [(h0, .inr (11, [.ref h1, .int 0, .ref h2, .ref h3, .ref h4, .ref h5, .ref h6, .ref h7])), (h1, .inl (a0, 6, .inr (.inr (.inr (.inr g0)))))]) rfl (by decide) (by decide) (cells' := 0) (slots' := 0) (by decide) (by decide) (k_runV (rest := []) C aks Wd cs_X11_81 (kcX6_drop l D h3 h9 h10 h11 h12 h13 h30 _ ) [2, 3] rfl (by decide) [] rfl 2 6 rfl rfl rfl rfl rfl ⟨(Nat.le_of_ble_eq_true rfl), (Nat.le_of_ble_eq_true rfl)⟩ hl.1 rfl rfl (Nat.le_of_ble_eq_true rfl) ⟨(Nat.le_of_ble_eq_true rfl), (Nat.le_of_ble_eq_true rfl)⟩ dX11_program_14) (fun _ H locs w1354 Wd => ?_)
    have Wd : wX D [(a0, .object RX8)] s [(h0, .inr (11, [.ref h1, .int 0, .ref h2, .ref h3, .ref h4, .ref h5, .ref h6, .ref h7])), (h1, .inl (a0, 6, .inr (.inr (.inr (.inr g0))))), (h3, .inr (6, [.ref h9, .int 0, .int (-1), .ref h10, .null, .int 0, .int 0, .int 0, .int 0, .int 0, .int 0, .int 0, .int 0, .int 0, .ref h11, .ref h12, .ref h13]))] _ A s.heap _ := Wd
    refine lv_iconst (v := (-1)) C.1 C.2.1 dX11_program_17 (by decide) ?_
    exact k_zret C hr hlk rfl Wd () ⟨c1349, rfl⟩ [] rfl (by decide) [] rfl (by decide) (by decide) dX11_program_18
  · exact absurd as0 c1350
  · exact absurd as0 c1352
set_option maxHeartbeats 4000000 in
set_option maxRecDepth 100000 in
theorem kcX11_program_v1 (l : Launch) (D : va_G) (h0 h1 h2 h3 h4 h5 h6 h7 h9 h10 h11 h12 h13 h30 : Nat) (x0 : Int32) (g0 : Nat → Option Nat) (a0 : ClassId) (sz : Nat)  (as0 : ¬ x0 < (6 : Int32)): Met l yX11_program (Cond.code yX11_program cX11_program 3 (some .int) :: gG) { frames := 3, cells := 0, slots := 0, locals := 105 } (cPre D [(a0, .object RX8)] [(h0, .inr (11, [.ref h1, .int 0, .ref h2, .ref h3, .ref h4, .ref h5, .ref h6, .ref h7])), (h1, .inl (a0, 6, .inr (.inr (.inr (.inr g0))))), (h3, .inr (6, [.ref h9, .int 0, .int (-1), .ref h10, .null, .int 0, .int 0, .int 0, .int 0, .int 0, .int 0, .int 0, .int 0, .int 0, .ref h11, .ref h12, .ref h13])), (h9, .inr (10, [.ref h30, .int 0, .int 0, .int 0, .int 0, .int 0]))] sz [.ref h0, .int x0]) (va_Qi (fun (r : Int32) (_ : Unit) => ¬ x0 < (0 : Int32) ∧ (6 : Int32) ≤ x0 ∧ r = (-1)) (fun u t => cB D (va_A [(h0, .inr (11, [.ref h1, .int 0, .ref h2, .ref h3, .ref h4, .ref h5, .ref h6, .ref h7])), (h1, .inl (a0, 6, .inr (.inr (.inr (.inr g0))))), (h3, .inr (6, [.ref h9, .int 0, .int (-1), .ref h10, .null, .int 0, .int 0, .int 0, .int 0, .int 0, .int 0, .int 0, .int 0, .int 0, .ref h11, .ref h12, .ref h13])), (h9, .inr (10, [.ref h30, .int 0, .int 0, .int 0, .int 0, .int 0]))] sz) ((fun (_ : Unit) => ([] : List (ClassId × FieldType))) u) ((fun (_ : Unit) => ([] : va_W)) u) t) (va_A [(h0, .inr (11, [.ref h1, .int 0, .ref h2, .ref h3, .ref h4, .ref h5, .ref h6, .ref h7])), (h1, .inl (a0, 6, .inr (.inr (.inr (.inr g0))))), (h3, .inr (6, [.ref h9, .int 0, .int (-1), .ref h10, .null, .int 0, .int 0, .int 0, .int 0, .int 0, .int 0, .int 0, .int 0, .int 0, .ref h11, .ref h12, .ref h13])), (h9, .inr (10, [.ref h30, .int 0, .int 0, .int 0, .int 0, .int 0]))] sz)) 0 0 (va_A [(h0, .inr (11, [.ref h1, .int 0, .ref h2, .ref h3, .ref h4, .ref h5, .ref h6, .ref h7])), (h1, .inl (a0, 6, .inr (.inr (.inr (.inr g0))))), (h3, .inr (6, [.ref h9, .int 0, .int (-1), .ref h10, .null, .int 0, .int 0, .int 0, .int 0, .int 0, .int 0, .int 0, .int 0, .int 0, .ref h11, .ref h12, .ref h13])), (h9, .inr (10, [.ref h30, .int 0, .int 0, .int 0, .int 0, .int 0]))] sz) := by
  refine Met.ofW (cc := cX11_program) (maxL := 3) (ret := (some .int)) (by decide) rfl ?_
  intro p e s m args below meth c s₁ B hml hv
  obtain ⟨rfl, aks, rfl, Wd⟩ := k_enter hv
  have C : CallFix p m c cX11_program 3 s _ gG RX11 := ⟨B.exec, B.bytes, hml, findClass_of_methodNamed B.named, fun w h => atoms_spec (ws := Cond.code yX11_program cX11_program 3 (some .int) :: gG) B.pre w (List.mem_cons_of_mem _ h)⟩
  have hr := B.returns
  have hlk := B.notSynchronized
  generalize va_A [(h0, .inr (11, [.ref h1, .int 0, .ref h2, .ref h3, .ref h4, .ref h5, .ref h6, .ref h7])), (h1, .inl (a0, 6, .inr (.inr (.inr (.inr g0))))), (h3, .inr (6, [.ref h9, .int 0, .int (-1), .ref h10, .null, .int 0, .int 0, .int 0, .int 0, .int 0, .int 0, .int 0, .int 0, .int 0, .ref h11, .ref h12, .ref h13])), (h9, .inr (10, [.ref h30, .int 0, .int 0, .int 0, .int 0, .int 0]))] s.heap.size = A at Wd ⊢
  refine k_locals (Nat.le_of_ble_eq_true rfl) [(0, .ref h0), (1, .int x0)] rfl (fun ls hl => ?_)
  refine lv_aload_n C.1 C.2.1 dX11_program_0 rfl (lv_at hl 0 rfl) ?_
  refine lv_iload_n C.1 C.2.1 dX11_program_1 rfl (lv_at hl 1 rfl) ?_
  refine k_pq (k_runV (rest := []) C aks Wd cs_X11_77 (kcX11_slotAt l D h0 h1 h2 h3 h4 h5 h6 h7 x0 g0 a0 _ ) [0, 1] rfl (by decide) [0] rfl 0 11 rfl rfl rfl rfl rfl ⟨(Nat.le_of_ble_eq_true rfl), (Nat.le_of_ble_eq_true rfl)⟩ hl.1 rfl rfl (Nat.le_of_ble_eq_true rfl) ⟨(Nat.le_of_ble_eq_true rfl), (Nat.le_of_ble_eq_true rfl)⟩ dX11_program_2) (fun r w1362 => ?_)
  rcases w1362 with ⟨c1363, rfl⟩ | ⟨c1364, c1365, rfl⟩ | ⟨c1366, c1367, rfl⟩
  · exact False.elim (by have z0 := kz_nlt as0; have z1 := kz_lt c1363; have t6 : (6 : Int32).toInt = 6 := (by decide); have t0 : (0 : Int32).toInt = 0 := (by decide); omega)
  · refine W.eq (g2 := F0 m 5 ls [.null]) rfl ?_
    refine lv_astore_nN (lv' := [(2, .null), (0, .ref h0), (1, .int x0)]) C.1 C.2.1 dX11_program_5 rfl hl (by decide) rfl (fun ls hl => ?_)
    refine lv_aload_nN C.1 C.2.1 dX11_program_6 rfl (lv_at hl 0 rfl) ?_
    refine lv_ifnonnullN C.1 C.2.1 dX11_program_7 ?_
    refine lv_aload_n C.1 C.2.1 dX11_program_10 rfl (lv_at hl 1 rfl) ?_
    refine k_get C Wd KX11 0 3 rfl (by decide) fl_X11_29 rfl dX11_program_11 ?_
    refine k_cv Wd [2, 3] [0, 1] rfl (wr := [(h0, .inr (11, [.ref h1, .int 0, .ref h2, .ref h3, .ref h4, .ref h5, .ref h6, .ref h7])), (h1, .inl (a0, 6, .inr (.inr (.inr (.inr g0)))))]) rfl (by decide) (by decide) (cells' := 0) (slots' := 0) (by decide) (by decide) (k_runV (rest := []) C aks Wd cs_X11_81 (kcX6_drop l D h3 h9 h10 h11 h12 h13 h30 _ ) [2, 3] rfl (by decide) [] rfl 2 6 rfl rfl rfl rfl rfl ⟨(Nat.le_of_ble_eq_true rfl), (Nat.le_of_ble_eq_true rfl)⟩ hl.1 rfl rfl (Nat.le_of_ble_eq_true rfl) ⟨(Nat.le_of_ble_eq_true rfl), (Nat.le_of_ble_eq_true rfl)⟩ dX11_program_14) (fun _ H locs w1368 Wd => ?_)
    have Wd : wX D [(a0, .object RX8)] s [(h0, .inr (11, [.ref h1, .int 0, .ref h2, .ref h3, .ref h4, .ref h5, .ref h6, .ref h7])), (h1, .inl (a0, 6, .inr (.inr (.inr (.inr g0))))), (h3, .inr (6, [.ref h9, .int 0, .int (-1), .ref h10, .null, .int 0, .int 0, .int 0, .int 0, .int 0, .int 0, .int 0, .int 0, .int 0, .ref h11, .ref h12, .ref h13]))] _ A s.heap _ := Wd
    refine lv_iconst (v := (-1)) C.1 C.2.1 dX11_program_17 (by decide) ?_
    exact k_zret C hr hlk rfl Wd () ⟨c1364, c1365, rfl⟩ [] rfl (by decide) [] rfl (by decide) (by decide) dX11_program_18
  · exact False.elim (by have z0 := kz_nlt as0; have z1 := kz_nlt c1366; have z2 := kz_nle c1367; have t6 : (6 : Int32).toInt = 6 := (by decide); have t0 : (0 : Int32).toInt = 0 := (by decide); omega)
