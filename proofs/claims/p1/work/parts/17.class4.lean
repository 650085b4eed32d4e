set_option maxHeartbeats 4000000 in
set_option maxRecDepth 100000 in
theorem kcX11_make_v1 (l : Launch) (D : va_G) (h0 h1 h2 h3 h4 h5 h6 h7 : Nat) (x0 x1 x2 : Int32) (g0 : Nat → Option Nat) (a0 : ClassId) (sz : Nat)  (as0 : ¬ x1 < (6 : Int32)): Met l yX11_make (Cond.code yX11_make cX11_make 6 (some .int) :: gG) { frames := 2, cells := 0, slots := 0, locals := 85 } (cPre D [(a0, .object RX8)] [(h0, .inr (11, [.ref h1, .int 0, .ref h2, .ref h3, .ref h4, .ref h5, .ref h6, .ref h7])), (h1, .inl (a0, 6, .inr (.inr (.inr (.inr g0)))))] sz [.ref h0, .int x0, .int x1, .int x2]) (vp_Si (fun r => (¬ x1 < (0 : Int32) ∧ (6 : Int32) ≤ x1 ∧ x2 < (0 : Int32) ∧ r = (-1)) ∨ (¬ x1 < (0 : Int32) ∧ (6 : Int32) ≤ x1 ∧ ¬ x2 < (0 : Int32) ∧ (6 : Int32) ≤ x2 ∧ r = (-1)) ∨ (¬ x1 < (0 : Int32) ∧ (6 : Int32) ≤ x1 ∧ ¬ x2 < (0 : Int32) ∧ ¬ (6 : Int32) ≤ x2 ∧ r = (-1)) ∨ (¬ x1 < (0 : Int32) ∧ (6 : Int32) ≤ x1 ∧ ¬ x2 < (0 : Int32) ∧ ¬ (6 : Int32) ≤ x2 ∧ r = (-1)))) 0 0 (fun _ => False) := by
  refine Met.ofW (cc := cX11_make) (maxL := 6) (ret := (some .int)) (by decide) rfl ?_
  intro p e s m args below meth c s₁ B hml hv
  obtain ⟨rfl, aks, rfl, Wd⟩ := k_enter hv
  have C : CallFix p m c cX11_make 6 s _ gG RX11 := ⟨B.exec, B.bytes, hml, findClass_of_methodNamed B.named, fun w h => atoms_spec (ws := Cond.code yX11_make cX11_make 6 (some .int) :: gG) B.pre w (List.mem_cons_of_mem _ h)⟩
  have hr := B.returns
  have hlk := B.notSynchronized
  obtain ⟨A, Wd⟩ : ∃ A, wX D [(a0, .object RX8)] s [(h0, .inr (11, [.ref h1, .int 0, .ref h2, .ref h3, .ref h4, .ref h5, .ref h6, .ref h7])), (h1, .inl (a0, 6, .inr (.inr (.inr (.inr g0)))))] s.heap A s.heap [] := ⟨_, Wd⟩
  refine k_locals (Nat.le_of_ble_eq_true rfl) [(0, .ref h0), (1, .int x0), (2, .int x1), (3, .int x2)] rfl (fun ls hl => ?_)
  refine lv_aload_n C.1 C.2.1 dX11_make_0 rfl (lv_at hl 0 rfl) ?_
  refine lv_iload_n C.1 C.2.1 dX11_make_1 rfl (lv_at hl 2 rfl) ?_
  refine k_pq (k_runV (rest := []) C aks Wd cs_X11_77 (kcX11_slotAt l D h0 h1 h2 h3 h4 h5 h6 h7 x1 g0 a0 _ ) [0, 1] rfl (by decide) [0] rfl 0 11 rfl rfl rfl rfl rfl ⟨(Nat.le_of_ble_eq_true rfl), (Nat.le_of_ble_eq_true rfl)⟩ hl.1 rfl rfl (Nat.le_of_ble_eq_true rfl) ⟨(Nat.le_of_ble_eq_true rfl), (Nat.le_of_ble_eq_true rfl)⟩ dX11_make_2) (fun r w3607 => ?_)
  rcases w3607 with ⟨c3608, rfl⟩ | ⟨c3609, c3610, rfl⟩ | ⟨c3611, c3612, rfl⟩
  · exact False.elim (by have z0 := kz_nlt as0; have z1 := kz_lt c3608; have t6 : (6 : Int32).toInt = 6 := (by decide); have t0 : (0 : Int32).toInt = 0 := (by decide); omega)
  · refine W.eq (g2 := F0 m 5 ls [.null]) rfl ?_
    refine lv_astoreN (lv' := [(4, .null), (0, .ref h0), (1, .int x0), (2, .int x1), (3, .int x2)]) C.1 C.2.1 dX11_make_5 hl (by decide) rfl (fun ls hl => ?_)
    refine lv_aload_n C.1 C.2.1 dX11_make_7 rfl (lv_at hl 1 rfl) ?_
    refine lv_iload_n C.1 C.2.1 dX11_make_8 rfl (lv_at hl 4 rfl) ?_
    refine k_pq (k_runV (rest := []) C aks Wd cs_X11_77 (kcX11_slotAt l D h0 h1 h2 h3 h4 h5 h6 h7 x2 g0 a0 _ ) [0, 1] rfl (by decide) [0] rfl 0 11 rfl rfl rfl rfl rfl ⟨(Nat.le_of_ble_eq_true rfl), (Nat.le_of_ble_eq_true rfl)⟩ hl.1 rfl rfl (Nat.le_of_ble_eq_true rfl) ⟨(Nat.le_of_ble_eq_true rfl), (Nat.le_of_ble_eq_true rfl)⟩ dX11_make_9) (fun r w3613 => ?_)
    rcases w3613 with ⟨c3614, rfl⟩ | ⟨c3615, c3616, rfl⟩ | ⟨c3617, c3618, rfl⟩
    · refine W.eq (g2 := F0 m 12 ls [.null]) rfl ?_
      refine lv_astoreN (lv' := [(5, .null), (4, .null), (0, .ref h0), (1, .int x0), (2, .int x1), (3, .int x2)]) C.1 C.2.1 dX11_make_12 hl (by decide) rfl (fun ls hl => ?_)
      refine lv_aloadN C.1 C.2.1 dX11_make_14 (lv_at hl 1 rfl) ?_
      refine lv_ifnullN (tgt := 37) C.1 C.2.1 dX11_make_16 (by decide) ?_
      refine lv_iconst (v := (-1)) C.1 C.2.1 dX11_make_37 (by decide) ?_
      exact k_zretP C hr hlk rfl (Or.inl (⟨c3609, c3610, c3614, rfl⟩)) dX11_make_38
    · refine W.eq (g2 := F0 m 12 ls [.null]) rfl ?_
      refine lv_astoreN (lv' := [(5, .null), (4, .null), (0, .ref h0), (1, .int x0), (2, .int x1), (3, .int x2)]) C.1 C.2.1 dX11_make_12 hl (by decide) rfl (fun ls hl => ?_)
      refine lv_aloadN C.1 C.2.1 dX11_make_14 (lv_at hl 1 rfl) ?_
      refine lv_ifnullN (tgt := 37) C.1 C.2.1 dX11_make_16 (by decide) ?_
      refine lv_iconst (v := (-1)) C.1 C.2.1 dX11_make_37 (by decide) ?_
      exact k_zretP C hr hlk rfl (Or.inr (Or.inl (⟨c3609, c3610, c3615, c3616, rfl⟩))) dX11_make_38
    · cases hq3619 : (g0 x2.toNatClampNeg) with
      | none =>
        refine W.eq (g2 := F0 m 12 ls [.null]) rfl ?_
        refine lv_astoreN (lv' := [(5, .null), (4, .null), (0, .ref h0), (1, .int x0), (2, .int x1), (3, .int x2)]) C.1 C.2.1 dX11_make_12 hl (by decide) rfl (fun ls hl => ?_)
        refine lv_aloadN C.1 C.2.1 dX11_make_14 (lv_at hl 1 rfl) ?_
        refine lv_ifnullN (tgt := 37) C.1 C.2.1 dX11_make_16 (by decide) ?_
        refine lv_iconst (v := (-1)) C.1 C.2.1 dX11_make_37 (by decide) ?_
        exact k_zretP C hr hlk rfl (Or.inr (Or.inr (Or.inl (⟨c3609, c3610, c3617, c3618, rfl⟩)))) dX11_make_38
      | some q3620 =>
        refine W.eq (g2 := F0 m 12 ls [.ref q3620]) rfl ?_
        refine lv_astore (lv' := [(5, .ref q3620), (4, .null), (0, .ref h0), (1, .int x0), (2, .int x1), (3, .int x2)]) C.1 C.2.1 dX11_make_12 hl (by decide) rfl (fun ls hl => ?_)
        refine lv_aloadN C.1 C.2.1 dX11_make_14 (lv_at hl 1 rfl) ?_
        refine lv_ifnullN (tgt := 37) C.1 C.2.1 dX11_make_16 (by decide) ?_
        refine lv_iconst (v := (-1)) C.1 C.2.1 dX11_make_37 (by decide) ?_
        exact k_zretP C hr hlk rfl (Or.inr (Or.inr (Or.inr (⟨c3609, c3610, c3617, c3618, rfl⟩)))) dX11_make_38
  · exact False.elim (by have z0 := kz_nlt as0; have z1 := kz_nlt c3611; have z2 := kz_nle c3612; have t6 : (6 : Int32).toInt = 6 := (by decide); have t0 : (0 : Int32).toInt = 0 := (by decide); omega)
set_option maxHeartbeats 4000000 in
set_option maxRecDepth 100000 in
theorem kcX11_make_v2 (l : Launch) (D : va_G) (h0 h1 h2 h3 h4 h5 h6 h7 h8 : Nat) (x0 x1 x2 : Int32) (g0 : Nat → Option Nat) (a0 : ClassId) (sz : Nat) (k_g0_x1 : g0 x1.toNatClampNeg = some h8) (as0 : ¬ x1 < (0 : Int32)) (as1 : x1 < (6 : Int32)) (as2 : x2 < (0 : Int32)): Met l yX11_make (Cond.code yX11_make cX11_make 6 (some .int) :: gG) { frames := 2, cells := 0, slots := 0, locals := 85 } (cPre D [(a0, .object RX8)] [(h0, .inr (11, [.ref h1, .int 0, .ref h2, .ref h3, .ref h4, .ref h5, .ref h6, .ref h7])), (h1, .inl (a0, 6, .inr (.inr (.inr (.inr g0)))))] sz [.ref h0, .int x0, .int x1, .int x2]) (vp_Si (fun r => ¬ x1 < (0 : Int32) ∧ ¬ (6 : Int32) ≤ x1 ∧ x2 < (0 : Int32) ∧ r = (-1))) 0 0 (fun _ => False) := by
  refine Met.ofW (cc := cX11_make) (maxL := 6) (ret := (some .int)) (by decide) rfl ?_
  intro p e s m args below meth c s₁ B hml hv
  obtain ⟨rfl, aks, rfl, Wd⟩ := k_enter hv
  have C : CallFix p m c cX11_make 6 s _ gG RX11 := ⟨B.exec, B.bytes, hml, findClass_of_methodNamed B.named, fun w h => atoms_spec (ws := Cond.code yX11_make cX11_make 6 (some .int) :: gG) B.pre w (List.mem_cons_of_mem _ h)⟩
  have hr := B.returns
  have hlk := B.notSynchronized
  obtain ⟨A, Wd⟩ : ∃ A, wX D [(a0, .object RX8)] s [(h0, .inr (11, [.ref h1, .int 0, .ref h2, .ref h3, .ref h4, .ref h5, .ref h6, .ref h7])), (h1, .inl (a0, 6, .inr (.inr (.inr (.inr g0)))))] s.heap A s.heap [] := ⟨_, Wd⟩
  refine k_locals (Nat.le_of_ble_eq_true rfl) [(0, .ref h0), (1, .int x0), (2, .int x1), (3, .int x2)] rfl (fun ls hl => ?_)
  refine lv_aload_n C.1 C.2.1 dX11_make_0 rfl (lv_at hl 0 rfl) ?_
  refine lv_iload_n C.1 C.2.1 dX11_make_1 rfl (lv_at hl 2 rfl) ?_
  refine k_pq (k_runV (rest := []) C aks Wd cs_X11_77 (kcX11_slotAt l D h0 h1 h2 h3 h4 h5 h6 h7 x1 g0 a0 _ ) [0, 1] rfl (by decide) [0] rfl 0 11 rfl rfl rfl rfl rfl ⟨(Nat.le_of_ble_eq_true rfl), (Nat.le_of_ble_eq_true rfl)⟩ hl.1 rfl rfl (Nat.le_of_ble_eq_true rfl) ⟨(Nat.le_of_ble_eq_true rfl), (Nat.le_of_ble_eq_true rfl)⟩ dX11_make_2) (fun r w3633 => ?_)
  rcases w3633 with ⟨c3634, rfl⟩ | ⟨c3635, c3636, rfl⟩ | ⟨c3637, c3638, rfl⟩
  · exact absurd c3634 as0
  · exact False.elim (by have z0 := kz_nlt as0; have z1 := kz_lt as1; have z2 := kz_nlt c3635; have z3 := kz_le c3636; have t0 : (0 : Int32).toInt = 0 := (by decide); have t6 : (6 : Int32).toInt = 6 := (by decide); omega)
  · refine W.eq (g2 := F0 m 5 ls [.ref h8]) (by rw [show (g0 x1.toNatClampNeg) = some h8 from k_g0_x1]; rfl) ?_
    refine lv_astore (lv' := [(4, .ref h8), (0, .ref h0), (1, .int x0), (2, .int x1), (3, .int x2)]) C.1 C.2.1 dX11_make_5 hl (by decide) rfl (fun ls hl => ?_)
    refine lv_aload_n C.1 C.2.1 dX11_make_7 rfl (lv_at hl 1 rfl) ?_
    refine lv_iload_n C.1 C.2.1 dX11_make_8 rfl (lv_at hl 4 rfl) ?_
    refine k_pq (k_runV (rest := []) C aks Wd cs_X11_77 (kcX11_slotAt l D h0 h1 h2 h3 h4 h5 h6 h7 x2 g0 a0 _ ) [0, 1] rfl (by decide) [0] rfl 0 11 rfl rfl rfl rfl rfl ⟨(Nat.le_of_ble_eq_true rfl), (Nat.le_of_ble_eq_true rfl)⟩ hl.1 rfl rfl (Nat.le_of_ble_eq_true rfl) ⟨(Nat.le_of_ble_eq_true rfl), (Nat.le_of_ble_eq_true rfl)⟩ dX11_make_9) (fun r w3639 => ?_)
    rcases w3639 with ⟨c3640, rfl⟩ | ⟨c3641, c3642, rfl⟩ | ⟨c3643, c3644, rfl⟩
    · refine W.eq (g2 := F0 m 12 ls [.null]) rfl ?_
      refine lv_astoreN (lv' := [(5, .null), (4, .ref h8), (0, .ref h0), (1, .int x0), (2, .int x1), (3, .int x2)]) C.1 C.2.1 dX11_make_12 hl (by decide) rfl (fun ls hl => ?_)
      refine lv_aload C.1 C.2.1 dX11_make_14 (lv_at hl 1 rfl) ?_
      refine lv_ifnull C.1 C.2.1 dX11_make_16 ?_
      refine lv_aloadN C.1 C.2.1 dX11_make_19 (lv_at hl 0 rfl) ?_
      refine lv_ifnullN (tgt := 37) C.1 C.2.1 dX11_make_21 (by decide) ?_
      refine lv_iconst (v := (-1)) C.1 C.2.1 dX11_make_37 (by decide) ?_
      exact k_zretP C hr hlk rfl ⟨c3637, c3638, c3640, rfl⟩ dX11_make_38
    · exact absurd as2 c3641
    · exact absurd as2 c3643
set_option maxHeartbeats 4000000 in
set_option maxRecDepth 100000 in
theorem kcX11_make_v3 (l : Launch) (D : va_G) (h0 h1 h2 h3 h4 h5 h6 h7 h8 : Nat) (x0 x1 x2 : Int32) (g0 : Nat → Option Nat) (a0 : ClassId) (sz : Nat) (k_g0_x1 : g0 x1.toNatClampNeg = some h8) (as0 : ¬ x1 < (0 : Int32)) (as1 : x1 < (6 : Int32)) (as2 : ¬ x2 < (6 : Int32)): Met l yX11_make (Cond.code yX11_make cX11_make 6 (some .int) :: gG) { frames := 2, cells := 0, slots := 0, locals := 85 } (cPre D [(a0, .object RX8)] [(h0, .inr (11, [.ref h1, .int 0, .ref h2, .ref h3, .ref h4, .ref h5, .ref h6, .ref h7])), (h1, .inl (a0, 6, .inr (.inr (.inr (.inr g0)))))] sz [.ref h0, .int x0, .int x1, .int x2]) (vp_Si (fun r => ¬ x1 < (0 : Int32) ∧ ¬ (6 : Int32) ≤ x1 ∧ ¬ x2 < (0 : Int32) ∧ (6 : Int32) ≤ x2 ∧ r = (-1))) 0 0 (fun _ => False) := by
  refine Met.ofW (cc := cX11_make) (maxL := 6) (ret := (some .int)) (by decide) rfl ?_
  intro p e s m args below meth c s₁ B hml hv
  obtain ⟨rfl, aks, rfl, Wd⟩ := k_enter hv
  have C : CallFix p m c cX11_make 6 s _ gG RX11 := ⟨B.exec, B.bytes, hml, findClass_of_methodNamed B.named, fun w h => atoms_spec (ws := Cond.code yX11_make cX11_make 6 (some .int) :: gG) B.pre w (List.mem_cons_of_mem _ h)⟩
  have hr := B.returns
  have hlk := B.notSynchronized
  obtain ⟨A, Wd⟩ : ∃ A, wX D [(a0, .object RX8)] s [(h0, .inr (11, [.ref h1, .int 0, .ref h2, .ref h3, .ref h4, .ref h5, .ref h6, .ref h7])), (h1, .inl (a0, 6, .inr (.inr (.inr (.inr g0)))))] s.heap A s.heap [] := ⟨_, Wd⟩
  refine k_locals (Nat.le_of_ble_eq_true rfl) [(0, .ref h0), (1, .int x0), (2, .int x1), (3, .int x2)] rfl (fun ls hl => ?_)
  refine lv_aload_n C.1 C.2.1 dX11_make_0 rfl (lv_at hl 0 rfl) ?_
  refine lv_iload_n C.1 C.2.1 dX11_make_1 rfl (lv_at hl 2 rfl) ?_
  refine k_pq (k_runV (rest := []) C aks Wd cs_X11_77 (kcX11_slotAt l D h0 h1 h2 h3 h4 h5 h6 h7 x1 g0 a0 _ ) [0, 1] rfl (by decide) [0] rfl 0 11 rfl rfl rfl rfl rfl ⟨(Nat.le_of_ble_eq_true rfl), (Nat.le_of_ble_eq_true rfl)⟩ hl.1 rfl rfl (Nat.le_of_ble_eq_true rfl) ⟨(Nat.le_of_ble_eq_true rfl), (Nat.le_of_ble_eq_true rfl)⟩ dX11_make_2) (fun r w3657 => ?_)
  rcases w3657 with ⟨c3658, rfl⟩ | ⟨c3659, c3660, rfl⟩ | ⟨c3661, c3662, rfl⟩
  · exact absurd c3658 as0
  · exact False.elim (by have z0 := kz_nlt as0; have z1 := kz_lt as1; have z2 := kz_nlt c3659; have z3 := kz_le c3660; have t0 : (0 : Int32).toInt = 0 := (by decide); have t6 : (6 : Int32).toInt = 6 := (by decide); omega)
  · refine W.eq (g2 := F0 m 5 ls [.ref h8]) (by rw [show (g0 x1.toNatClampNeg) = some h8 from k_g0_x1]; rfl) ?_
    refine lv_astore (lv' := [(4, .ref h8), (0, .ref h0), (1, .int x0), (2, .int x1), (3, .int x2)]) C.1 C.2.1 dX11_make_5 hl (by decide) rfl (fun ls hl => ?_)
    refine lv_aload_n C.1 C.2.1 dX11_make_7 rfl (lv_at hl 1 rfl) ?_
    refine lv_iload_n C.1 C.2.1 dX11_make_8 rfl (lv_at hl 4 rfl) ?_
    refine k_pq (k_runV (rest := []) C aks Wd cs_X11_77 (kcX11_slotAt l D h0 h1 h2 h3 h4 h5 h6 h7 x2 g0 a0 _ ) [0, 1] rfl (by decide) [0] rfl 0 11 rfl rfl rfl rfl rfl ⟨(Nat.le_of_ble_eq_true rfl), (Nat.le_of_ble_eq_true rfl)⟩ hl.1 rfl rfl (Nat.le_of_ble_eq_true rfl) ⟨(Nat.le_of_ble_eq_true rfl), (Nat.le_of_ble_eq_true rfl)⟩ dX11_make_9) (fun r w3663 => ?_)
    rcases w3663 with ⟨c3664, rfl⟩ | ⟨c3665, c3666, rfl⟩ | ⟨c3667, c3668, rfl⟩
    · exact False.elim (by have z0 := kz_nlt as2; have z1 := kz_lt c3664; have t6 : (6 : Int32).toInt = 6 := (by decide); have t0 : (0 : Int32).toInt = 0 := (by decide); omega)
    · refine W.eq (g2 := F0 m 12 ls [.null]) rfl ?_
      refine lv_astoreN (lv' := [(5, .null), (4, .ref h8), (0, .ref h0), (1, .int x0), (2, .int x1), (3, .int x2)]) C.1 C.2.1 dX11_make_12 hl (by decide) rfl (fun ls hl => ?_)
      refine lv_aload C.1 C.2.1 dX11_make_14 (lv_at hl 1 rfl) ?_
      refine lv_ifnull C.1 C.2.1 dX11_make_16 ?_
      refine lv_aloadN C.1 C.2.1 dX11_make_19 (lv_at hl 0 rfl) ?_
      refine lv_ifnullN (tgt := 37) C.1 C.2.1 dX11_make_21 (by decide) ?_
      refine lv_iconst (v := (-1)) C.1 C.2.1 dX11_make_37 (by decide) ?_
      exact k_zretP C hr hlk rfl ⟨c3661, c3662, c3665, c3666, rfl⟩ dX11_make_38
    · exact False.elim (by have z0 := kz_nlt as2; have z1 := kz_nlt c3667; have z2 := kz_nle c3668; have t6 : (6 : Int32).toInt = 6 := (by decide); have t0 : (0 : Int32).toInt = 0 := (by decide); omega)
set_option maxHeartbeats 4000000 in
set_option maxRecDepth 100000 in
theorem kcX4_makeOf_v6 (l : Launch) (D : va_G) (h0 h1 h2 h3 h4 h5 h6 h7 h8 h9 h10 h13 : Nat) (x0 : Int32) (a2 : ClassId) (sz : Nat)  : Met l yX4_makeOf (Cond.code yX4_makeOf cX4_makeOf 5 (some .boolean) :: gG) { frames := 3, cells := 0, slots := 0, locals := 109 } (cPre D [(a2, .int)] [(h0, .inr (4, [.ref h2, .ref h3, .ref h4, .int (-1), .int (-1), .ref h5, .ref h6, .ref h7, .ref h8, .ref h9])), (h1, .inr (8, [.ref h10, .int 0])), (h3, .inr (8, [.ref h13, .int 0])), (h7, .inl (a2, 6, .inl (fun _ => 0)))] sz [.ref h0, .int x0, .ref h1]) (va_Qi (fun (r : Int32) (_ : Unit) => (x0 < (0 : Int32) ∧ r = 0) ∨ (¬ x0 < (0 : Int32) ∧ (6 : Int32) ≤ x0 ∧ r = 0) ∨ (¬ x0 < (0 : Int32) ∧ ¬ (6 : Int32) ≤ x0 ∧ r = 1)) (fun u t => cB D (va_A [(h0, .inr (4, [.ref h2, .ref h3, .ref h4, .int (-1), .int (-1), .ref h5, .ref h6, .ref h7, .ref h8, .ref h9])), (h1, .inr (8, [.ref h10, .int 0])), (h3, .inr (8, [.ref h13, .int 0])), (h7, .inl (a2, 6, .inl (fun _ => 0)))] sz) ((fun (_ : Unit) => ([] : List (ClassId × FieldType))) u) ((fun (_ : Unit) => ([(h0, .inr (4, [.ref h2, .ref h3, .ref h4, .int (-1), .int (-1), .ref h5, .ref h6, .ref h7, .ref h8, .ref h9])), (h1, .inr (8, [.ref h10, .int 0])), (h3, .inr (8, [.ref h13, .int 0])), (h7, .inl (a2, 6, .inl (fun _ => 0)))] : va_W)) u) t) (va_A [(h0, .inr (4, [.ref h2, .ref h3, .ref h4, .int (-1), .int (-1), .ref h5, .ref h6, .ref h7, .ref h8, .ref h9])), (h1, .inr (8, [.ref h10, .int 0])), (h3, .inr (8, [.ref h13, .int 0])), (h7, .inl (a2, 6, .inl (fun _ => 0)))] sz)) 0 0 (va_A [(h0, .inr (4, [.ref h2, .ref h3, .ref h4, .int (-1), .int (-1), .ref h5, .ref h6, .ref h7, .ref h8, .ref h9])), (h1, .inr (8, [.ref h10, .int 0])), (h3, .inr (8, [.ref h13, .int 0])), (h7, .inl (a2, 6, .inl (fun _ => 0)))] sz) := by
  refine Met.ofW (cc := cX4_makeOf) (maxL := 5) (ret := (some .boolean)) (by decide) rfl ?_
  intro p e s m args below meth c s₁ B hml hv
  obtain ⟨rfl, aks, rfl, Wd⟩ := k_enter hv
  have C : CallFix p m c cX4_makeOf 5 s _ gG RX4 := ⟨B.exec, B.bytes, hml, findClass_of_methodNamed B.named, fun w h => atoms_spec (ws := Cond.code yX4_makeOf cX4_makeOf 5 (some .boolean) :: gG) B.pre w (List.mem_cons_of_mem _ h)⟩
  have hr := B.returns
  have hlk := B.notSynchronized
  generalize va_A [(h0, .inr (4, [.ref h2, .ref h3, .ref h4, .int (-1), .int (-1), .ref h5, .ref h6, .ref h7, .ref h8, .ref h9])), (h1, .inr (8, [.ref h10, .int 0])), (h3, .inr (8, [.ref h13, .int 0])), (h7, .inl (a2, 6, .inl (fun _ => 0)))] s.heap.size = A at Wd ⊢
  refine k_locals (Nat.le_of_ble_eq_true rfl) [(0, .ref h0), (1, .int x0), (2, .ref h1)] rfl (fun ls hl => ?_)
  refine lv_iload_n C.1 C.2.1 dX4_makeOf_0 rfl (lv_at hl 1 rfl) ?_
  refine k_pi (k_runS (rest := []) C aks Wd cs_X4_63 (kcX4_isPass l D x0 _ ) [] rfl (by decide) [] rfl rfl rfl ⟨(Nat.le_of_ble_eq_true rfl), (Nat.le_of_ble_eq_true rfl)⟩ hl.1 rfl rfl (Nat.le_of_ble_eq_true rfl) ⟨(Nat.le_of_ble_eq_true rfl), (Nat.le_of_ble_eq_true rfl)⟩ dX4_makeOf_1) (fun r w3692 => ?_)
  rcases w3692 with ⟨c3693, rfl⟩ | ⟨c3694, c3695, rfl⟩ | ⟨c3696, c3697, rfl⟩
  · refine lv_if_ne (tgt := 9) C.1 C.2.1 dX4_makeOf_4 (by decide) (fun c3698 => absurd c3698 (by decide)) (fun _ => ?_)
    refine lv_iconst (v := 0) C.1 C.2.1 dX4_makeOf_7 (by decide) ?_
    exact k_zret C hr hlk rfl Wd () (Or.inl (⟨c3693, rfl⟩)) [0, 1, 2, 3] rfl (by decide) [] rfl (by decide) (by decide) dX4_makeOf_8
  · refine lv_if_ne (tgt := 9) C.1 C.2.1 dX4_makeOf_4 (by decide) (fun c3699 => absurd c3699 (by decide)) (fun _ => ?_)
    refine lv_iconst (v := 0) C.1 C.2.1 dX4_makeOf_7 (by decide) ?_
    exact k_zret C hr hlk rfl Wd () (Or.inr (Or.inl (⟨c3694, c3695, rfl⟩))) [0, 1, 2, 3] rfl (by decide) [] rfl (by decide) (by decide) dX4_makeOf_8
  · refine lv_if_ne (tgt := 9) C.1 C.2.1 dX4_makeOf_4 (by decide) (fun _ => ?_) (fun c3700 => absurd c3700 (by decide))
    refine lv_aload_n C.1 C.2.1 dX4_makeOf_9 rfl (lv_at hl 0 rfl) ?_
    refine k_get C Wd KX4 0 1 rfl (by decide) fl_X4_39 rfl dX4_makeOf_10 ?_
    refine lv_aload_n C.1 C.2.1 dX4_makeOf_13 rfl (lv_at hl 2 rfl) ?_
    refine k_cv Wd [1, 2] [0, 3] rfl (wr := [(h0, .inr (4, [.ref h2, .ref h3, .ref h4, .int (-1), .int (-1), .ref h5, .ref h6, .ref h7, .ref h8, .ref h9])), (h7, .inl (a2, 6, .inl (fun _ => 0)))]) rfl (by decide) (by decide) (cells' := 0) (slots' := 0) (by decide) (by decide) (k_runV (rest := []) C aks Wd cs_X4_67 (kcX8_copy l D h3 h1 h13 h10 _ ) [1, 2] rfl (by decide) [] rfl 2 8 rfl rfl rfl rfl rfl ⟨(Nat.le_of_ble_eq_true rfl), (Nat.le_of_ble_eq_true rfl)⟩ hl.1 rfl rfl (Nat.le_of_ble_eq_true rfl) ⟨(Nat.le_of_ble_eq_true rfl), (Nat.le_of_ble_eq_true rfl)⟩ dX4_makeOf_14) (fun _ H locs w3701 Wd => ?_)
    have Wd : wX D [(a2, .int)] s [(h0, .inr (4, [.ref h2, .ref h3, .ref h4, .int (-1), .int (-1), .ref h5, .ref h6, .ref h7, .ref h8, .ref h9])), (h7, .inl (a2, 6, .inl (fun _ => 0))), (h1, .inr (8, [.ref h10, .int 0])), (h3, .inr (8, [.ref h13, .int 0]))] _ A s.heap _ := Wd
    refine lv_iconst (v := 0) C.1 C.2.1 dX4_makeOf_17 (by decide) ?_
    refine lv_istore_n (lv' := [(3, .int 0), (0, .ref h0), (1, .int x0), (2, .ref h1)]) C.1 C.2.1 dX4_makeOf_18 rfl hl (by decide) rfl (fun ls hl => ?_)
    refine lv_iload_n C.1 C.2.1 dX4_makeOf_19 rfl (lv_at hl 0 rfl) ?_
    refine lv_aload_n C.1 C.2.1 dX4_makeOf_20 rfl (lv_at hl 1 rfl) ?_
    refine k_get C Wd KX4 0 7 rfl (by decide) fl_X4_23 rfl dX4_makeOf_21 ?_
    refine lv_iload_n C.1 C.2.1 dX4_makeOf_24 rfl (lv_at hl 2 rfl) ?_
    refine k_iald (v := 0) C Wd 1 0 rfl rfl (vp_in_iff.mpr ⟨by have z0 := kz_nlt c3696; have z1 := kz_nle c3697; have t0 : (0 : Int32).toInt = 0 := (by decide); have t6 : (6 : Int32).toInt = 6 := (by decide); omega, by have z0 := kz_nlt c3696; have z1 := kz_nle c3697; have t0 : (0 : Int32).toInt = 0 := (by decide); have t6 : (6 : Int32).toInt = 6 := (by decide); omega⟩) rfl dX4_makeOf_25 ?_
    refine lv_icmp_ge (tgt := 191) C.1 C.2.1 dX4_makeOf_26 (by decide) (fun _ => ?_) (fun c3702 => absurd c3702 (by decide))
    refine lv_iconst (v := 1) C.1 C.2.1 dX4_makeOf_191 (by decide) ?_
    exact k_zret C hr hlk rfl Wd () (Or.inr (Or.inr (⟨c3696, c3697, rfl⟩))) [0, 2, 3, 1] rfl (by decide) [] rfl (by decide) (by decide) dX4_makeOf_192
set_option maxHeartbeats 4000000 in
set_option maxRecDepth 100000 in
theorem kcX11_make_v4 (l : Launch) (D : va_G) (h0 h1 h2 h3 h4 h5 h6 h7 h8 h9 h20 h21 h22 h23 h24 h25 h26 h27 h32 h33 h50 : Nat) (x0 x1 x2 : Int32) (g0 : Nat → Option Nat) (a0 a5 : ClassId) (sz : Nat) (k_g0_x1 : g0 x1.toNatClampNeg = some h8) (k_g0_x2 : g0 x2.toNatClampNeg = some h9) (as0 : ¬ x1 < (0 : Int32)) (as1 : x1 < (6 : Int32)) (as2 : ¬ x2 < (0 : Int32)) (as3 : x2 < (6 : Int32)): Met l yX11_make (Cond.code yX11_make cX11_make 6 (some .int) :: gG) { frames := 4, cells := 0, slots := 0, locals := 133 } (cPre D [(a0, .object RX8), (a5, .int)] [(h0, .inr (11, [.ref h1, .int 0, .ref h2, .ref h3, .ref h4, .ref h5, .ref h6, .ref h7])), (h1, .inl (a0, 6, .inr (.inr (.inr (.inr g0))))), (h6, .inr (4, [.ref h20, .ref h21, .ref h22, .int (-1), .int (-1), .ref h23, .ref h24, .ref h25, .ref h26, .ref h27])), (h8, .inr (8, [.ref h32, .int 0])), (h21, .inr (8, [.ref h50, .int 0])), (h25, .inl (a5, 6, .inl (fun _ => 0))), (h9, .inr (8, [.ref h33, .int 0]))] sz [.ref h0, .int x0, .int x1, .int x2]) (va_Qi (fun (r : Int32) (_ : Unit) => (¬ x1 < (0 : Int32) ∧ ¬ (6 : Int32) ≤ x1 ∧ ¬ x2 < (0 : Int32) ∧ ¬ (6 : Int32) ≤ x2 ∧ x0 < (0 : Int32) ∧ r = (-1)) ∨ (¬ x1 < (0 : Int32) ∧ ¬ (6 : Int32) ≤ x1 ∧ ¬ x2 < (0 : Int32) ∧ ¬ (6 : Int32) ≤ x2 ∧ ¬ x0 < (0 : Int32) ∧ (6 : Int32) ≤ x0 ∧ r = (-1)) ∨ (¬ x1 < (0 : Int32) ∧ ¬ (6 : Int32) ≤ x1 ∧ ¬ x2 < (0 : Int32) ∧ ¬ (6 : Int32) ≤ x2 ∧ ¬ x0 < (0 : Int32) ∧ ¬ (6 : Int32) ≤ x0 ∧ r = 0)) (fun u t => cB D (va_A [(h0, .inr (11, [.ref h1, .int 0, .ref h2, .ref h3, .ref h4, .ref h5, .ref h6, .ref h7])), (h1, .inl (a0, 6, .inr (.inr (.inr (.inr g0))))), (h6, .inr (4, [.ref h20, .ref h21, .ref h22, .int (-1), .int (-1), .ref h23, .ref h24, .ref h25, .ref h26, .ref h27])), (h8, .inr (8, [.ref h32, .int 0])), (h21, .inr (8, [.ref h50, .int 0])), (h25, .inl (a5, 6, .inl (fun _ => 0))), (h9, .inr (8, [.ref h33, .int 0]))] sz) ((fun (_ : Unit) => ([] : List (ClassId × FieldType))) u) ((fun (_ : Unit) => ([] : va_W)) u) t) (va_A [(h0, .inr (11, [.ref h1, .int 0, .ref h2, .ref h3, .ref h4, .ref h5, .ref h6, .ref h7])), (h1, .inl (a0, 6, .inr (.inr (.inr (.inr g0))))), (h6, .inr (4, [.ref h20, .ref h21, .ref h22, .int (-1), .int (-1), .ref h23, .ref h24, .ref h25, .ref h26, .ref h27])), (h8, .inr (8, [.ref h32, .int 0])), (h21, .inr (8, [.ref h50, .int 0])), (h25, .inl (a5, 6, .inl (fun _ => 0))), (h9, .inr (8, [.ref h33, .int 0]))] sz)) 0 0 (va_A [(h0, .inr (11, [.ref h1, .int 0, .ref h2, .ref h3, .ref h4, .ref h5, .ref h6, .ref h7])), (h1, .inl (a0, 6, .inr (.inr (.inr (.inr g0))))), (h6, .inr (4, [.ref h20, .ref h21, .ref h22, .int (-1), .int (-1), .ref h23, .ref h24, .ref h25, .ref h26, .ref h27])), (h8, .inr (8, [.ref h32, .int 0])), (h21, .inr (8, [.ref h50, .int 0])), (h25, .inl (a5, 6, .inl (fun _ => 0))), (h9, .inr (8, [.ref h33, .int 0]))] sz) := by
  refine Met.ofW (cc := cX11_make) (maxL := 6) (ret := (some .int)) (by decide) rfl ?_
  intro p e s m args below meth c s₁ B hml hv
  obtain ⟨rfl, aks, rfl, Wd⟩ := k_enter hv
  have C : CallFix p m c cX11_make 6 s _ gG RX11 := ⟨B.exec, B.bytes, hml, findClass_of_methodNamed B.named, fun w h => atoms_spec (ws := Cond.code yX11_make cX11_make 6 (some .int) :: gG) B.pre w (List.mem_cons_of_mem _ h)⟩
  have hr := B.returns
  have hlk := B.notSynchronized
  generalize va_A [(h0, .inr (11, [.ref h1, .int 0, .ref h2, .ref h3, .ref h4, .ref h5, .ref h6, .ref h7])), (h1, .inl (a0, 6, .inr (.inr (.inr (.inr g0))))), (h6, .inr (4, [.ref h20, .ref h21, .ref h22, .int (-1), .int (-1), .ref h23, .ref h24, .ref h25, .ref h26, .ref h27])), (h8, .inr (8, [.ref h32, .int 0])), (h21, .inr (8, [.ref h50, .int 0])), (h25, .inl (a5, 6, .inl (fun _ => 0))), (h9, .inr (8, [.ref h33, .int 0]))] s.heap.size = A at Wd ⊢
  refine k_locals (Nat.le_of_ble_eq_true rfl) [(0, .ref h0), (1, .int x0), (2, .int x1), (3, .int x2)] rfl (fun ls hl => ?_)
  refine lv_aload_n C.1 C.2.1 dX11_make_0 rfl (lv_at hl 0 rfl) ?_
  refine lv_iload_n C.1 C.2.1 dX11_make_1 rfl (lv_at hl 2 rfl) ?_
  refine k_pq (k_runV (rest := []) C aks Wd cs_X11_77 (kcX11_slotAt l D h0 h1 h2 h3 h4 h5 h6 h7 x1 g0 a0 _ ) [0, 1] rfl (by decide) [0] rfl 0 11 rfl rfl rfl rfl rfl ⟨(Nat.le_of_ble_eq_true rfl), (Nat.le_of_ble_eq_true rfl)⟩ hl.1 rfl rfl (Nat.le_of_ble_eq_true rfl) ⟨(Nat.le_of_ble_eq_true rfl), (Nat.le_of_ble_eq_true rfl)⟩ dX11_make_2) (fun r w3714 => ?_)
  rcases w3714 with ⟨c3715, rfl⟩ | ⟨c3716, c3717, rfl⟩ | ⟨c3718, c3719, rfl⟩
  · exact absurd c3715 as0
  · exact False.elim (by have z0 := kz_nlt as0; have z1 := kz_lt as1; have z2 := kz_nlt c3716; have z3 := kz_le c3717; have t0 : (0 : Int32).toInt = 0 := (by decide); have t6 : (6 : Int32).toInt = 6 := (by decide); omega)
  · refine W.eq (g2 := F0 m 5 ls [.ref h8]) (by rw [show (g0 x1.toNatClampNeg) = some h8 from k_g0_x1]; rfl) ?_
    refine lv_astore (lv' := [(4, .ref h8), (0, .ref h0), (1, .int x0), (2, .int x1), (3, .int x2)]) C.1 C.2.1 dX11_make_5 hl (by decide) rfl (fun ls hl => ?_)
    refine lv_aload_n C.1 C.2.1 dX11_make_7 rfl (lv_at hl 1 rfl) ?_
    refine lv_iload_n C.1 C.2.1 dX11_make_8 rfl (lv_at hl 4 rfl) ?_
    refine k_pq (k_runV (rest := []) C aks Wd cs_X11_77 (kcX11_slotAt l D h0 h1 h2 h3 h4 h5 h6 h7 x2 g0 a0 _ ) [0, 1] rfl (by decide) [0] rfl 0 11 rfl rfl rfl rfl rfl ⟨(Nat.le_of_ble_eq_true rfl), (Nat.le_of_ble_eq_true rfl)⟩ hl.1 rfl rfl (Nat.le_of_ble_eq_true rfl) ⟨(Nat.le_of_ble_eq_true rfl), (Nat.le_of_ble_eq_true rfl)⟩ dX11_make_9) (fun r w3720 => ?_)
    rcases w3720 with ⟨c3721, rfl⟩ | ⟨c3722, c3723, rfl⟩ | ⟨c3724, c3725, rfl⟩
    · exact absurd c3721 as2
    · exact False.elim (by have z0 := kz_nlt as2; have z1 := kz_lt as3; have z2 := kz_nlt c3722; have z3 := kz_le c3723; have t0 : (0 : Int32).toInt = 0 := (by decide); have t6 : (6 : Int32).toInt = 6 := (by decide); omega)
    · refine W.eq (g2 := F0 m 12 ls [.ref h9]) (by rw [show (g0 x2.toNatClampNeg) = some h9 from k_g0_x2]; rfl) ?_
      refine lv_astore (lv' := [(5, .ref h9), (4, .ref h8), (0, .ref h0), (1, .int x0), (2, .int x1), (3, .int x2)]) C.1 C.2.1 dX11_make_12 hl (by decide) rfl (fun ls hl => ?_)
      refine lv_aload C.1 C.2.1 dX11_make_14 (lv_at hl 1 rfl) ?_
      refine lv_ifnull C.1 C.2.1 dX11_make_16 ?_
      refine lv_aload C.1 C.2.1 dX11_make_19 (lv_at hl 0 rfl) ?_
      refine lv_ifnull C.1 C.2.1 dX11_make_21 ?_
      refine lv_aload_n C.1 C.2.1 dX11_make_24 rfl (lv_at hl 2 rfl) ?_
      refine k_get C Wd KX11 0 6 rfl (by decide) fl_X11_50 rfl dX11_make_25 ?_
      refine lv_iload_n C.1 C.2.1 dX11_make_28 rfl (lv_at hl 3 rfl) ?_
      refine lv_aload C.1 C.2.1 dX11_make_29 (lv_at hl 1 rfl) ?_
      refine k_ci Wd [2, 3, 4, 5] [0, 1, 6] rfl (wr := [(h0, .inr (11, [.ref h1, .int 0, .ref h2, .ref h3, .ref h4, .ref h5, .ref h6, .ref h7])), (h1, .inl (a0, 6, .inr (.inr (.inr (.inr g0))))), (h9, .inr (8, [.ref h33, .int 0]))]) rfl (by decide) (by decide) (cells' := 0) (slots' := 0) (by decide) (by decide) (k_runV (rest := []) C aks Wd cs_X11_198 (kcX4_makeOf_v6 l D h6 h8 h20 h21 h22 h23 h24 h25 h26 h27 h32 h50 x0 a5 _ ) [2, 3, 4, 5] rfl (by decide) [1] rfl 2 4 rfl rfl rfl rfl rfl ⟨(Nat.le_of_ble_eq_true rfl), (Nat.le_of_ble_eq_true rfl)⟩ hl.1 rfl rfl (Nat.le_of_ble_eq_true rfl) ⟨(Nat.le_of_ble_eq_true rfl), (Nat.le_of_ble_eq_true rfl)⟩ dX11_make_31) (fun r _ H locs w3726 Wd => ?_)
      have Wd : wX D [(a0, .object RX8), (a5, .int)] s [(h0, .inr (11, [.ref h1, .int 0, .ref h2, .ref h3, .ref h4, .ref h5, .ref h6, .ref h7])), (h1, .inl (a0, 6, .inr (.inr (.inr (.inr g0))))), (h9, .inr (8, [.ref h33, .int 0])), (h6, .inr (4, [.ref h20, .ref h21, .ref h22, .int (-1), .int (-1), .ref h23, .ref h24, .ref h25, .ref h26, .ref h27])), (h8, .inr (8, [.ref h32, .int 0])), (h21, .inr (8, [.ref h50, .int 0])), (h25, .inl (a5, 6, .inl (fun _ => 0)))] _ A s.heap _ := Wd
      rcases w3726 with ⟨c3727, rfl⟩ | ⟨c3728, c3729, rfl⟩ | ⟨c3730, c3731, rfl⟩
      · refine lv_if_ne (tgt := 39) C.1 C.2.1 dX11_make_34 (by decide) (fun c3732 => absurd c3732 (by decide)) (fun _ => ?_)
        refine lv_iconst (v := (-1)) C.1 C.2.1 dX11_make_37 (by decide) ?_
        exact k_zret C hr hlk rfl Wd () (Or.inl (⟨c3718, c3719, c3724, c3725, c3727, rfl⟩)) [] rfl (by decide) [] rfl (by decide) (by decide) dX11_make_38
      · refine lv_if_ne (tgt := 39) C.1 C.2.1 dX11_make_34 (by decide) (fun c3733 => absurd c3733 (by decide)) (fun _ => ?_)
        refine lv_iconst (v := (-1)) C.1 C.2.1 dX11_make_37 (by decide) ?_
        exact k_zret C hr hlk rfl Wd () (Or.inr (Or.inl (⟨c3718, c3719, c3724, c3725, c3728, c3729, rfl⟩))) [] rfl (by decide) [] rfl (by decide) (by decide) dX11_make_38
      · refine lv_if_ne (tgt := 39) C.1 C.2.1 dX11_make_34 (by decide) (fun _ => ?_) (fun c3734 => absurd c3734 (by decide))
        refine lv_aload C.1 C.2.1 dX11_make_39 (lv_at hl 0 rfl) ?_
        refine lv_aload_n C.1 C.2.1 dX11_make_41 rfl (lv_at hl 2 rfl) ?_
        refine k_get C Wd KX11 0 6 rfl (by decide) fl_X11_50 rfl dX11_make_42 ?_
        refine k_get C Wd KX4 3 1 rfl (by decide) fl_X11_202 rfl dX11_make_45 ?_
        refine k_cv Wd [5, 2] [0, 1, 3, 4, 6] rfl (wr := [(h0, .inr (11, [.ref h1, .int 0, .ref h2, .ref h3, .ref h4, .ref h5, .ref h6, .ref h7])), (h1, .inl (a0, 6, .inr (.inr (.inr (.inr g0))))), (h6, .inr (4, [.ref h20, .ref h21, .ref h22, .int (-1), .int (-1), .ref h23, .ref h24, .ref h25, .ref h26, .ref h27])), (h8, .inr (8, [.ref h32, .int 0])), (h25, .inl (a5, 6, .inl (fun _ => 0)))]) rfl (by decide) (by decide) (cells' := 0) (slots' := 0) (by decide) (by decide) (k_runV (rest := []) C aks Wd cs_X11_92 (kcX8_copy l D h9 h21 h33 h50 _ ) [5, 2] rfl (by decide) [] rfl 2 8 rfl rfl rfl rfl rfl ⟨(Nat.le_of_ble_eq_true rfl), (Nat.le_of_ble_eq_true rfl)⟩ hl.1 rfl rfl (Nat.le_of_ble_eq_true rfl) ⟨(Nat.le_of_ble_eq_true rfl), (Nat.le_of_ble_eq_true rfl)⟩ dX11_make_48) (fun _ H locs w3735 Wd => ?_)
        have Wd : wX D [(a0, .object RX8), (a5, .int)] s [(h0, .inr (11, [.ref h1, .int 0, .ref h2, .ref h3, .ref h4, .ref h5, .ref h6, .ref h7])), (h1, .inl (a0, 6, .inr (.inr (.inr (.inr g0))))), (h6, .inr (4, [.ref h20, .ref h21, .ref h22, .int (-1), .int (-1), .ref h23, .ref h24, .ref h25, .ref h26, .ref h27])), (h8, .inr (8, [.ref h32, .int 0])), (h25, .inl (a5, 6, .inl (fun _ => 0))), (h21, .inr (8, [.ref h50, .int 0])), (h9, .inr (8, [.ref h33, .int 0]))] _ A s.heap _ := Wd
        refine lv_aload C.1 C.2.1 dX11_make_51 (lv_at hl 0 rfl) ?_
        refine k_pi (k_runV (rest := []) C aks Wd cs_X11_95 (kcX8_statements l D h9 h33 _ ) [6] rfl (by decide) [] rfl 6 8 rfl rfl rfl rfl rfl ⟨(Nat.le_of_ble_eq_true rfl), (Nat.le_of_ble_eq_true rfl)⟩ hl.1 rfl rfl (Nat.le_of_ble_eq_true rfl) ⟨(Nat.le_of_ble_eq_true rfl), (Nat.le_of_ble_eq_true rfl)⟩ dX11_make_53) (fun r w3736 => ?_)
        obtain rfl := w3736
        exact k_zret C hr hlk rfl Wd () (Or.inr (Or.inr (⟨c3718, c3719, c3724, c3725, c3730, c3731, rfl⟩))) [] rfl (by decide) [] rfl (by decide) (by decide) dX11_make_56
set_option maxHeartbeats 4000000 in
set_option maxRecDepth 100000 in
theorem kcX11_make_v5 (l : Launch) (D : va_G) (h0 h1 h2 h3 h4 h5 h6 h7 h8 h19 h20 h21 h22 h23 h24 h25 h26 h31 h48 : Nat) (x0 x1 x2 : Int32) (g0 : Nat → Option Nat) (a0 a5 : ClassId) (sz : Nat) (k_g0_x1 : g0 x1.toNatClampNeg = some h8) (k_g0_x2 : g0 x2.toNatClampNeg = some h8) (as0 : ¬ x1 < (0 : Int32)) (as1 : x1 < (6 : Int32)) (as2 : ¬ x2 < (0 : Int32)) (as3 : x2 < (6 : Int32)): Met l yX11_make (Cond.code yX11_make cX11_make 6 (some .int) :: gG) { frames := 4, cells := 0, slots := 0, locals := 133 } (cPre D [(a0, .object RX8), (a5, .int)] [(h0, .inr (11, [.ref h1, .int 0, .ref h2, .ref h3, .ref h4, .ref h5, .ref h6, .ref h7])), (h1, .inl (a0, 6, .inr (.inr (.inr (.inr g0))))), (h6, .inr (4, [.ref h19, .ref h20, .ref h21, .int (-1), .int (-1), .ref h22, .ref h23, .ref h24, .ref h25, .ref h26])), (h8, .inr (8, [.ref h31, .int 0])), (h20, .inr (8, [.ref h48, .int 0])), (h24, .inl (a5, 6, .inl (fun _ => 0)))] sz [.ref h0, .int x0, .int x1, .int x2]) (va_Qi (fun (r : Int32) (_ : Unit) => (¬ x1 < (0 : Int32) ∧ ¬ (6 : Int32) ≤ x1 ∧ ¬ x2 < (0 : Int32) ∧ ¬ (6 : Int32) ≤ x2 ∧ x0 < (0 : Int32) ∧ r = (-1)) ∨ (¬ x1 < (0 : Int32) ∧ ¬ (6 : Int32) ≤ x1 ∧ ¬ x2 < (0 : Int32) ∧ ¬ (6 : Int32) ≤ x2 ∧ ¬ x0 < (0 : Int32) ∧ (6 : Int32) ≤ x0 ∧ r = (-1)) ∨ (¬ x1 < (0 : Int32) ∧ ¬ (6 : Int32) ≤ x1 ∧ ¬ x2 < (0 : Int32) ∧ ¬ (6 : Int32) ≤ x2 ∧ ¬ x0 < (0 : Int32) ∧ ¬ (6 : Int32) ≤ x0 ∧ r = 0)) (fun u t => cB D (va_A [(h0, .inr (11, [.ref h1, .int 0, .ref h2, .ref h3, .ref h4, .ref h5, .ref h6, .ref h7])), (h1, .inl (a0, 6, .inr (.inr (.inr (.inr g0))))), (h6, .inr (4, [.ref h19, .ref h20, .ref h21, .int (-1), .int (-1), .ref h22, .ref h23, .ref h24, .ref h25, .ref h26])), (h8, .inr (8, [.ref h31, .int 0])), (h20, .inr (8, [.ref h48, .int 0])), (h24, .inl (a5, 6, .inl (fun _ => 0)))] sz) ((fun (_ : Unit) => ([] : List (ClassId × FieldType))) u) ((fun (_ : Unit) => ([] : va_W)) u) t) (va_A [(h0, .inr (11, [.ref h1, .int 0, .ref h2, .ref h3, .ref h4, .ref h5, .ref h6, .ref h7])), (h1, .inl (a0, 6, .inr (.inr (.inr (.inr g0))))), (h6, .inr (4, [.ref h19, .ref h20, .ref h21, .int (-1), .int (-1), .ref h22, .ref h23, .ref h24, .ref h25, .ref h26])), (h8, .inr (8, [.ref h31, .int 0])), (h20, .inr (8, [.ref h48, .int 0])), (h24, .inl (a5, 6, .inl (fun _ => 0)))] sz)) 0 0 (va_A [(h0, .inr (11, [.ref h1, .int 0, .ref h2, .ref h3, .ref h4, .ref h5, .ref h6, .ref h7])), (h1, .inl (a0, 6, .inr (.inr (.inr (.inr g0))))), (h6, .inr (4, [.ref h19, .ref h20, .ref h21, .int (-1), .int (-1), .ref h22, .ref h23, .ref h24, .ref h25, .ref h26])), (h8, .inr (8, [.ref h31, .int 0])), (h20, .inr (8, [.ref h48, .int 0])), (h24, .inl (a5, 6, .inl (fun _ => 0)))] sz) := by
  refine Met.ofW (cc := cX11_make) (maxL := 6) (ret := (some .int)) (by decide) rfl ?_
  intro p e s m args below meth c s₁ B hml hv
  obtain ⟨rfl, aks, rfl, Wd⟩ := k_enter hv
  have C : CallFix p m c cX11_make 6 s _ gG RX11 := ⟨B.exec, B.bytes, hml, findClass_of_methodNamed B.named, fun w h => atoms_spec (ws := Cond.code yX11_make cX11_make 6 (some .int) :: gG) B.pre w (List.mem_cons_of_mem _ h)⟩
  have hr := B.returns
  have hlk := B.notSynchronized
  generalize va_A [(h0, .inr (11, [.ref h1, .int 0, .ref h2, .ref h3, .ref h4, .ref h5, .ref h6, .ref h7])), (h1, .inl (a0, 6, .inr (.inr (.inr (.inr g0))))), (h6, .inr (4, [.ref h19, .ref h20, .ref h21, .int (-1), .int (-1), .ref h22, .ref h23, .ref h24, .ref h25, .ref h26])), (h8, .inr (8, [.ref h31, .int 0])), (h20, .inr (8, [.ref h48, .int 0])), (h24, .inl (a5, 6, .inl (fun _ => 0)))] s.heap.size = A at Wd ⊢
  refine k_locals (Nat.le_of_ble_eq_true rfl) [(0, .ref h0), (1, .int x0), (2, .int x1), (3, .int x2)] rfl (fun ls hl => ?_)
  refine lv_aload_n C.1 C.2.1 dX11_make_0 rfl (lv_at hl 0 rfl) ?_
  refine lv_iload_n C.1 C.2.1 dX11_make_1 rfl (lv_at hl 2 rfl) ?_
  refine k_pq (k_runV (rest := []) C aks Wd cs_X11_77 (kcX11_slotAt l D h0 h1 h2 h3 h4 h5 h6 h7 x1 g0 a0 _ ) [0, 1] rfl (by decide) [0] rfl 0 11 rfl rfl rfl rfl rfl ⟨(Nat.le_of_ble_eq_true rfl), (Nat.le_of_ble_eq_true rfl)⟩ hl.1 rfl rfl (Nat.le_of_ble_eq_true rfl) ⟨(Nat.le_of_ble_eq_true rfl), (Nat.le_of_ble_eq_true rfl)⟩ dX11_make_2) (fun r w3760 => ?_)
  rcases w3760 with ⟨c3761, rfl⟩ | ⟨c3762, c3763, rfl⟩ | ⟨c3764, c3765, rfl⟩
  · exact absurd c3761 as0
  · exact False.elim (by have z0 := kz_nlt as0; have z1 := kz_lt as1; have z2 := kz_nlt c3762; have z3 := kz_le c3763; have t0 : (0 : Int32).toInt = 0 := (by decide); have t6 : (6 : Int32).toInt = 6 := (by decide); omega)
  · refine W.eq (g2 := F0 m 5 ls [.ref h8]) (by rw [show (g0 x1.toNatClampNeg) = some h8 from k_g0_x1]; rfl) ?_
    refine lv_astore (lv' := [(4, .ref h8), (0, .ref h0), (1, .int x0), (2, .int x1), (3, .int x2)]) C.1 C.2.1 dX11_make_5 hl (by decide) rfl (fun ls hl => ?_)
    refine lv_aload_n C.1 C.2.1 dX11_make_7 rfl (lv_at hl 1 rfl) ?_
    refine lv_iload_n C.1 C.2.1 dX11_make_8 rfl (lv_at hl 4 rfl) ?_
    refine k_pq (k_runV (rest := []) C aks Wd cs_X11_77 (kcX11_slotAt l D h0 h1 h2 h3 h4 h5 h6 h7 x2 g0 a0 _ ) [0, 1] rfl (by decide) [0] rfl 0 11 rfl rfl rfl rfl rfl ⟨(Nat.le_of_ble_eq_true rfl), (Nat.le_of_ble_eq_true rfl)⟩ hl.1 rfl rfl (Nat.le_of_ble_eq_true rfl) ⟨(Nat.le_of_ble_eq_true rfl), (Nat.le_of_ble_eq_true rfl)⟩ dX11_make_9) (fun r w3766 => ?_)
    rcases w3766 with ⟨c3767, rfl⟩ | ⟨c3768, c3769, rfl⟩ | ⟨c3770, c3771, rfl⟩
    · exact absurd c3767 as2
    · exact False.elim (by have z0 := kz_nlt as2; have z1 := kz_lt as3; have z2 := kz_nlt c3768; have z3 := kz_le c3769; have t0 : (0 : Int32).toInt = 0 := (by decide); have t6 : (6 : Int32).toInt = 6 := (by decide); omega)
    · refine W.eq (g2 := F0 m 12 ls [.ref h8]) (by rw [show (g0 x2.toNatClampNeg) = some h8 from k_g0_x2]; rfl) ?_
      refine lv_astore (lv' := [(5, .ref h8), (4, .ref h8), (0, .ref h0), (1, .int x0), (2, .int x1), (3, .int x2)]) C.1 C.2.1 dX11_make_12 hl (by decide) rfl (fun ls hl => ?_)
      refine lv_aload C.1 C.2.1 dX11_make_14 (lv_at hl 1 rfl) ?_
      refine lv_ifnull C.1 C.2.1 dX11_make_16 ?_
      refine lv_aload C.1 C.2.1 dX11_make_19 (lv_at hl 0 rfl) ?_
      refine lv_ifnull C.1 C.2.1 dX11_make_21 ?_
      refine lv_aload_n C.1 C.2.1 dX11_make_24 rfl (lv_at hl 2 rfl) ?_
      refine k_get C Wd KX11 0 6 rfl (by decide) fl_X11_50 rfl dX11_make_25 ?_
      refine lv_iload_n C.1 C.2.1 dX11_make_28 rfl (lv_at hl 3 rfl) ?_
      refine lv_aload C.1 C.2.1 dX11_make_29 (lv_at hl 1 rfl) ?_
      refine k_ci Wd [2, 3, 4, 5] [0, 1] rfl (wr := [(h0, .inr (11, [.ref h1, .int 0, .ref h2, .ref h3, .ref h4, .ref h5, .ref h6, .ref h7])), (h1, .inl (a0, 6, .inr (.inr (.inr (.inr g0)))))]) rfl (by decide) (by decide) (cells' := 0) (slots' := 0) (by decide) (by decide) (k_runV (rest := []) C aks Wd cs_X11_198 (kcX4_makeOf_v6 l D h6 h8 h19 h20 h21 h22 h23 h24 h25 h26 h31 h48 x0 a5 _ ) [2, 3, 4, 5] rfl (by decide) [1] rfl 2 4 rfl rfl rfl rfl rfl ⟨(Nat.le_of_ble_eq_true rfl), (Nat.le_of_ble_eq_true rfl)⟩ hl.1 rfl rfl (Nat.le_of_ble_eq_true rfl) ⟨(Nat.le_of_ble_eq_true rfl), (Nat.le_of_ble_eq_true rfl)⟩ dX11_make_31) (fun r _ H locs w3772 Wd => ?_)
      have Wd : wX D [(a0, .object RX8), (a5, .int)] s [(h0, .inr (11, [.ref h1, .int 0, .ref h2, .ref h3, .ref h4, .ref h5, .ref h6, .ref h7])), (h1, .inl (a0, 6, .inr (.inr (.inr (.inr g0))))), (h6, .inr (4, [.ref h19, .ref h20, .ref h21, .int (-1), .int (-1), .ref h22, .ref h23, .ref h24, .ref h25, .ref h26])), (h8, .inr (8, [.ref h31, .int 0])), (h20, .inr (8, [.ref h48, .int 0])), (h24, .inl (a5, 6, .inl (fun _ => 0)))] _ A s.heap _ := Wd
      rcases w3772 with ⟨c3773, rfl⟩ | ⟨c3774, c3775, rfl⟩ | ⟨c3776, c3777, rfl⟩
      · refine lv_if_ne (tgt := 39) C.1 C.2.1 dX11_make_34 (by decide) (fun c3778 => absurd c3778 (by decide)) (fun _ => ?_)
        refine lv_iconst (v := (-1)) C.1 C.2.1 dX11_make_37 (by decide) ?_
        exact k_zret C hr hlk rfl Wd () (Or.inl (⟨c3764, c3765, c3770, c3771, c3773, rfl⟩)) [] rfl (by decide) [] rfl (by decide) (by decide) dX11_make_38
      · refine lv_if_ne (tgt := 39) C.1 C.2.1 dX11_make_34 (by decide) (fun c3779 => absurd c3779 (by decide)) (fun _ => ?_)
        refine lv_iconst (v := (-1)) C.1 C.2.1 dX11_make_37 (by decide) ?_
        exact k_zret C hr hlk rfl Wd () (Or.inr (Or.inl (⟨c3764, c3765, c3770, c3771, c3774, c3775, rfl⟩))) [] rfl (by decide) [] rfl (by decide) (by decide) dX11_make_38
      · refine lv_if_ne (tgt := 39) C.1 C.2.1 dX11_make_34 (by decide) (fun _ => ?_) (fun c3780 => absurd c3780 (by decide))
        refine lv_aload C.1 C.2.1 dX11_make_39 (lv_at hl 0 rfl) ?_
        refine lv_aload_n C.1 C.2.1 dX11_make_41 rfl (lv_at hl 2 rfl) ?_
        refine k_get C Wd KX11 0 6 rfl (by decide) fl_X11_50 rfl dX11_make_42 ?_
        refine k_get C Wd KX4 2 1 rfl (by decide) fl_X11_202 rfl dX11_make_45 ?_
        refine k_cv Wd [4, 3] [0, 1, 2, 5] rfl (wr := [(h0, .inr (11, [.ref h1, .int 0, .ref h2, .ref h3, .ref h4, .ref h5, .ref h6, .ref h7])), (h1, .inl (a0, 6, .inr (.inr (.inr (.inr g0))))), (h6, .inr (4, [.ref h19, .ref h20, .ref h21, .int (-1), .int (-1), .ref h22, .ref h23, .ref h24, .ref h25, .ref h26])), (h24, .inl (a5, 6, .inl (fun _ => 0)))]) rfl (by decide) (by decide) (cells' := 0) (slots' := 0) (by decide) (by decide) (k_runV (rest := []) C aks Wd cs_X11_92 (kcX8_copy l D h8 h20 h31 h48 _ ) [4, 3] rfl (by decide) [] rfl 3 8 rfl rfl rfl rfl rfl ⟨(Nat.le_of_ble_eq_true rfl), (Nat.le_of_ble_eq_true rfl)⟩ hl.1 rfl rfl (Nat.le_of_ble_eq_true rfl) ⟨(Nat.le_of_ble_eq_true rfl), (Nat.le_of_ble_eq_true rfl)⟩ dX11_make_48) (fun _ H locs w3781 Wd => ?_)
        have Wd : wX D [(a0, .object RX8), (a5, .int)] s [(h0, .inr (11, [.ref h1, .int 0, .ref h2, .ref h3, .ref h4, .ref h5, .ref h6, .ref h7])), (h1, .inl (a0, 6, .inr (.inr (.inr (.inr g0))))), (h6, .inr (4, [.ref h19, .ref h20, .ref h21, .int (-1), .int (-1), .ref h22, .ref h23, .ref h24, .ref h25, .ref h26])), (h24, .inl (a5, 6, .inl (fun _ => 0))), (h20, .inr (8, [.ref h48, .int 0])), (h8, .inr (8, [.ref h31, .int 0]))] _ A s.heap _ := Wd
        refine lv_aload C.1 C.2.1 dX11_make_51 (lv_at hl 0 rfl) ?_
        refine k_pi (k_runV (rest := []) C aks Wd cs_X11_95 (kcX8_statements l D h8 h31 _ ) [5] rfl (by decide) [] rfl 5 8 rfl rfl rfl rfl rfl ⟨(Nat.le_of_ble_eq_true rfl), (Nat.le_of_ble_eq_true rfl)⟩ hl.1 rfl rfl (Nat.le_of_ble_eq_true rfl) ⟨(Nat.le_of_ble_eq_true rfl), (Nat.le_of_ble_eq_true rfl)⟩ dX11_make_53) (fun r w3782 => ?_)
        obtain rfl := w3782
        exact k_zret C hr hlk rfl Wd () (Or.inr (Or.inr (⟨c3764, c3765, c3770, c3771, c3776, c3777, rfl⟩))) [] rfl (by decide) [] rfl (by decide) (by decide) dX11_make_56
set_option maxHeartbeats 4000000 in
set_option maxRecDepth 100000 in
theorem kcX11_cut (l : Launch) (D : va_G) (h0 h1 h2 h3 h4 h5 h6 h7 : Nat) (x0 x1 x2 : Int32) (g0 : Nat → Option Nat) (a0 : ClassId) (sz : Nat)  (as0 : x1 < (0 : Int32)): Met l yX11_cut (Cond.code yX11_cut cX11_cut 6 (some .int) :: gG) { frames := 2, cells := 0, slots := 0, locals := 85 } (cPre D [(a0, .object RX8)] [(h0, .inr (11, [.ref h1, .int 0, .ref h2, .ref h3, .ref h4, .ref h5, .ref h6, .ref h7])), (h1, .inl (a0, 6, .inr (.inr (.inr (.inr g0)))))] sz [.ref h0, .int x0, .int x1, .int x2]) (vp_Si (fun r => (x1 < (0 : Int32) ∧ x2 < (0 : Int32) ∧ r = (-1)) ∨ (x1 < (0 : Int32) ∧ ¬ x2 < (0 : Int32) ∧ (6 : Int32) ≤ x2 ∧ r = (-1)) ∨ (x1 < (0 : Int32) ∧ ¬ x2 < (0 : Int32) ∧ ¬ (6 : Int32) ≤ x2 ∧ r = (-1)) ∨ (x1 < (0 : Int32) ∧ ¬ x2 < (0 : Int32) ∧ ¬ (6 : Int32) ≤ x2 ∧ r = (-1)))) 0 0 (fun _ => False) := by
  refine Met.ofW (cc := cX11_cut) (maxL := 6) (ret := (some .int)) (by decide) rfl ?_
  intro p e s m args below meth c s₁ B hml hv
  obtain ⟨rfl, aks, rfl, Wd⟩ := k_enter hv
  have C : CallFix p m c cX11_cut 6 s _ gG RX11 := ⟨B.exec, B.bytes, hml, findClass_of_methodNamed B.named, fun w h => atoms_spec (ws := Cond.code yX11_cut cX11_cut 6 (some .int) :: gG) B.pre w (List.mem_cons_of_mem _ h)⟩
  have hr := B.returns
  have hlk := B.notSynchronized
  obtain ⟨A, Wd⟩ : ∃ A, wX D [(a0, .object RX8)] s [(h0, .inr (11, [.ref h1, .int 0, .ref h2, .ref h3, .ref h4, .ref h5, .ref h6, .ref h7])), (h1, .inl (a0, 6, .inr (.inr (.inr (.inr g0)))))] s.heap A s.heap [] := ⟨_, Wd⟩
  refine k_locals (Nat.le_of_ble_eq_true rfl) [(0, .ref h0), (1, .int x0), (2, .int x1), (3, .int x2)] rfl (fun ls hl => ?_)
  refine lv_aload_n C.1 C.2.1 dX11_cut_0 rfl (lv_at hl 0 rfl) ?_
  refine lv_iload_n C.1 C.2.1 dX11_cut_1 rfl (lv_at hl 2 rfl) ?_
  refine k_pq (k_runV (rest := []) C aks Wd cs_X11_77 (kcX11_slotAt l D h0 h1 h2 h3 h4 h5 h6 h7 x1 g0 a0 _ ) [0, 1] rfl (by decide) [0] rfl 0 11 rfl rfl rfl rfl rfl ⟨(Nat.le_of_ble_eq_true rfl), (Nat.le_of_ble_eq_true rfl)⟩ hl.1 rfl rfl (Nat.le_of_ble_eq_true rfl) ⟨(Nat.le_of_ble_eq_true rfl), (Nat.le_of_ble_eq_true rfl)⟩ dX11_cut_2) (fun r w3797 => ?_)
  rcases w3797 with ⟨c3798, rfl⟩ | ⟨c3799, c3800, rfl⟩ | ⟨c3801, c3802, rfl⟩
  · refine W.eq (g2 := F0 m 5 ls [.null]) rfl ?_
    refine lv_astoreN (lv' := [(4, .null), (0, .ref h0), (1, .int x0), (2, .int x1), (3, .int x2)]) C.1 C.2.1 dX11_cut_5 hl (by decide) rfl (fun ls hl => ?_)
    refine lv_aload_n C.1 C.2.1 dX11_cut_7 rfl (lv_at hl 1 rfl) ?_
    refine lv_iload_n C.1 C.2.1 dX11_cut_8 rfl (lv_at hl 4 rfl) ?_
    refine k_pq (k_runV (rest := []) C aks Wd cs_X11_77 (kcX11_slotAt l D h0 h1 h2 h3 h4 h5 h6 h7 x2 g0 a0 _ ) [0, 1] rfl (by decide) [0] rfl 0 11 rfl rfl rfl rfl rfl ⟨(Nat.le_of_ble_eq_true rfl), (Nat.le_of_ble_eq_true rfl)⟩ hl.1 rfl rfl (Nat.le_of_ble_eq_true rfl) ⟨(Nat.le_of_ble_eq_true rfl), (Nat.le_of_ble_eq_true rfl)⟩ dX11_cut_9) (fun r w3803 => ?_)
    rcases w3803 with ⟨c3804, rfl⟩ | ⟨c3805, c3806, rfl⟩ | ⟨c3807, c3808, rfl⟩
    · refine W.eq (g2 := F0 m 12 ls [.null]) rfl ?_
      refine lv_astoreN (lv' := [(5, .null), (4, .null), (0, .ref h0), (1, .int x0), (2, .int x1), (3, .int x2)]) C.1 C.2.1 dX11_cut_12 hl (by decide) rfl (fun ls hl => ?_)
      refine lv_aloadN C.1 C.2.1 dX11_cut_14 (lv_at hl 1 rfl) ?_
      refine lv_ifnullN (tgt := 37) C.1 C.2.1 dX11_cut_16 (by decide) ?_
      refine lv_iconst (v := (-1)) C.1 C.2.1 dX11_cut_37 (by decide) ?_
      exact k_zretP C hr hlk rfl (Or.inl (⟨c3798, c3804, rfl⟩)) dX11_cut_38
    · refine W.eq (g2 := F0 m 12 ls [.null]) rfl ?_
      refine lv_astoreN (lv' := [(5, .null), (4, .null), (0, .ref h0), (1, .int x0), (2, .int x1), (3, .int x2)]) C.1 C.2.1 dX11_cut_12 hl (by decide) rfl (fun ls hl => ?_)
      refine lv_aloadN C.1 C.2.1 dX11_cut_14 (lv_at hl 1 rfl) ?_
      refine lv_ifnullN (tgt := 37) C.1 C.2.1 dX11_cut_16 (by decide) ?_
      refine lv_iconst (v := (-1)) C.1 C.2.1 dX11_cut_37 (by decide) ?_
      exact k_zretP C hr hlk rfl (Or.inr (Or.inl (⟨c3798, c3805, c3806, rfl⟩))) dX11_cut_38
    · cases hq3809 : (g0 x2.toNatClampNeg) with
      | none =>
        refine W.eq (g2 := F0 m 12 ls [.null]) rfl ?_
        refine lv_astoreN (lv' := [(5, .null), (4, .null), (0, .ref h0), (1, .int x0), (2, .int x1), (3, .int x2)]) C.1 C.2.1 dX11_cut_12 hl (by decide) rfl (fun ls hl => ?_)
        refine lv_aloadN C.1 C.2.1 dX11_cut_14 (lv_at hl 1 rfl) ?_
        refine lv_ifnullN (tgt := 37) C.1 C.2.1 dX11_cut_16 (by decide) ?_
        refine lv_iconst (v := (-1)) C.1 C.2.1 dX11_cut_37 (by decide) ?_
        exact k_zretP C hr hlk rfl (Or.inr (Or.inr (Or.inl (⟨c3798, c3807, c3808, rfl⟩)))) dX11_cut_38
      | some q3810 =>
        refine W.eq (g2 := F0 m 12 ls [.ref q3810]) rfl ?_
        refine lv_astore (lv' := [(5, .ref q3810), (4, .null), (0, .ref h0), (1, .int x0), (2, .int x1), (3, .int x2)]) C.1 C.2.1 dX11_cut_12 hl (by decide) rfl (fun ls hl => ?_)
        refine lv_aloadN C.1 C.2.1 dX11_cut_14 (lv_at hl 1 rfl) ?_
        refine lv_ifnullN (tgt := 37) C.1 C.2.1 dX11_cut_16 (by decide) ?_
        refine lv_iconst (v := (-1)) C.1 C.2.1 dX11_cut_37 (by decide) ?_
        exact k_zretP C hr hlk rfl (Or.inr (Or.inr (Or.inr (⟨c3798, c3807, c3808, rfl⟩)))) dX11_cut_38
  · exact absurd as0 c3799
  · exact absurd as0 c3801
set_option maxHeartbeats 4000000 in
set_option maxRecDepth 100000 in
theorem kcX11_cut_v1 (l : Launch) (D : va_G) (h0 h1 h2 h3 h4 h5 h6 h7 : Nat) (x0 x1 x2 : Int32) (g0 : Nat → Option Nat) (a0 : ClassId) (sz : Nat)  (as0 : ¬ x1 < (6 : Int32)): Met l yX11_cut (Cond.code yX11_cut cX11_cut 6 (some .int) :: gG) { frames := 2, cells := 0, slots := 0, locals := 85 } (cPre D [(a0, .object RX8)] [(h0, .inr (11, [.ref h1, .int 0, .ref h2, .ref h3, .ref h4, .ref h5, .ref h6, .ref h7])), (h1, .inl (a0, 6, .inr (.inr (.inr (.inr g0)))))] sz [.ref h0, .int x0, .int x1, .int x2]) (vp_Si (fun r => (¬ x1 < (0 : Int32) ∧ (6 : Int32) ≤ x1 ∧ x2 < (0 : Int32) ∧ r = (-1)) ∨ (¬ x1 < (0 : Int32) ∧ (6 : Int32) ≤ x1 ∧ ¬ x2 < (0 : Int32) ∧ (6 : Int32) ≤ x2 ∧ r = (-1)) ∨ (¬ x1 < (0 : Int32) ∧ (6 : Int32) ≤ x1 ∧ ¬ x2 < (0 : Int32) ∧ ¬ (6 : Int32) ≤ x2 ∧ r = (-1)) ∨ (¬ x1 < (0 : Int32) ∧ (6 : Int32) ≤ x1 ∧ ¬ x2 < (0 : Int32) ∧ ¬ (6 : Int32) ≤ x2 ∧ r = (-1)))) 0 0 (fun _ => False) := by
  refine Met.ofW (cc := cX11_cut) (maxL := 6) (ret := (some .int)) (by decide) rfl ?_
  intro p e s m args below meth c s₁ B hml hv
  obtain ⟨rfl, aks, rfl, Wd⟩ := k_enter hv
  have C : CallFix p m c cX11_cut 6 s _ gG RX11 := ⟨B.exec, B.bytes, hml, findClass_of_methodNamed B.named, fun w h => atoms_spec (ws := Cond.code yX11_cut cX11_cut 6 (some .int) :: gG) B.pre w (List.mem_cons_of_mem _ h)⟩
  have hr := B.returns
  have hlk := B.notSynchronized
  obtain ⟨A, Wd⟩ : ∃ A, wX D [(a0, .object RX8)] s [(h0, .inr (11, [.ref h1, .int 0, .ref h2, .ref h3, .ref h4, .ref h5, .ref h6, .ref h7])), (h1, .inl (a0, 6, .inr (.inr (.inr (.inr g0)))))] s.heap A s.heap [] := ⟨_, Wd⟩
  refine k_locals (Nat.le_of_ble_eq_true rfl) [(0, .ref h0), (1, .int x0), (2, .int x1), (3, .int x2)] rfl (fun ls hl => ?_)
  refine lv_aload_n C.1 C.2.1 dX11_cut_0 rfl (lv_at hl 0 rfl) ?_
  refine lv_iload_n C.1 C.2.1 dX11_cut_1 rfl (lv_at hl 2 rfl) ?_
  refine k_pq (k_runV (rest := []) C aks Wd cs_X11_77 (kcX11_slotAt l D h0 h1 h2 h3 h4 h5 h6 h7 x1 g0 a0 _ ) [0, 1] rfl (by decide) [0] rfl 0 11 rfl rfl rfl rfl rfl ⟨(Nat.le_of_ble_eq_true rfl), (Nat.le_of_ble_eq_true rfl)⟩ hl.1 rfl rfl (Nat.le_of_ble_eq_true rfl) ⟨(Nat.le_of_ble_eq_true rfl), (Nat.le_of_ble_eq_true rfl)⟩ dX11_cut_2) (fun r w3825 => ?_)
  rcases w3825 with ⟨c3826, rfl⟩ | ⟨c3827, c3828, rfl⟩ | ⟨c3829, c3830, rfl⟩
  · exact False.elim (by have z0 := kz_nlt as0; have z1 := kz_lt c3826; have t6 : (6 : Int32).toInt = 6 := (by decide); have t0 : (0 : Int32).toInt = 0 := (by decide); omega)
  · refine W.eq (g2 := F0 m 5 ls [.null]) rfl ?_
    refine lv_astoreN (lv' := [(4, .null), (0, .ref h0), (1, .int x0), (2, .int x1), (3, .int x2)]) C.1 C.2.1 dX11_cut_5 hl (by decide) rfl (fun ls hl => ?_)
    refine lv_aload_n C.1 C.2.1 dX11_cut_7 rfl (lv_at hl 1 rfl) ?_
    refine lv_iload_n C.1 C.2.1 dX11_cut_8 rfl (lv_at hl 4 rfl) ?_
    refine k_pq (k_runV (rest := []) C aks Wd cs_X11_77 (kcX11_slotAt l D h0 h1 h2 h3 h4 h5 h6 h7 x2 g0 a0 _ ) [0, 1] rfl (by decide) [0] rfl 0 11 rfl rfl rfl rfl rfl ⟨(Nat.le_of_ble_eq_true rfl), (Nat.le_of_ble_eq_true rfl)⟩ hl.1 rfl rfl (Nat.le_of_ble_eq_true rfl) ⟨(Nat.le_of_ble_eq_true rfl), (Nat.le_of_ble_eq_true rfl)⟩ dX11_cut_9) (fun r w3831 => ?_)
    rcases w3831 with ⟨c3832, rfl⟩ | ⟨c3833, c3834, rfl⟩ | ⟨c3835, c3836, rfl⟩
    · refine W.eq (g2 := F0 m 12 ls [.null]) rfl ?_
      refine lv_astoreN (lv' := [(5, .null), (4, .null), (0, .ref h0), (1, .int x0), (2, .int x1), (3, .int x2)]) C.1 C.2.1 dX11_cut_12 hl (by decide) rfl (fun ls hl => ?_)
      refine lv_aloadN C.1 C.2.1 dX11_cut_14 (lv_at hl 1 rfl) ?_
      refine lv_ifnullN (tgt := 37) C.1 C.2.1 dX11_cut_16 (by decide) ?_
      refine lv_iconst (v := (-1)) C.1 C.2.1 dX11_cut_37 (by decide) ?_
      exact k_zretP C hr hlk rfl (Or.inl (⟨c3827, c3828, c3832, rfl⟩)) dX11_cut_38
    · refine W.eq (g2 := F0 m 12 ls [.null]) rfl ?_
      refine lv_astoreN (lv' := [(5, .null), (4, .null), (0, .ref h0), (1, .int x0), (2, .int x1), (3, .int x2)]) C.1 C.2.1 dX11_cut_12 hl (by decide) rfl (fun ls hl => ?_)
      refine lv_aloadN C.1 C.2.1 dX11_cut_14 (lv_at hl 1 rfl) ?_
      refine lv_ifnullN (tgt := 37) C.1 C.2.1 dX11_cut_16 (by decide) ?_
      refine lv_iconst (v := (-1)) C.1 C.2.1 dX11_cut_37 (by decide) ?_
      exact k_zretP C hr hlk rfl (Or.inr (Or.inl (⟨c3827, c3828, c3833, c3834, rfl⟩))) dX11_cut_38
    · cases hq3837 : (g0 x2.toNatClampNeg) with
      | none =>
        refine W.eq (g2 := F0 m 12 ls [.null]) rfl ?_
        refine lv_astoreN (lv' := [(5, .null), (4, .null), (0, .ref h0), (1, .int x0), (2, .int x1), (3, .int x2)]) C.1 C.2.1 dX11_cut_12 hl (by decide) rfl (fun ls hl => ?_)
        refine lv_aloadN C.1 C.2.1 dX11_cut_14 (lv_at hl 1 rfl) ?_
        refine lv_ifnullN (tgt := 37) C.1 C.2.1 dX11_cut_16 (by decide) ?_
        refine lv_iconst (v := (-1)) C.1 C.2.1 dX11_cut_37 (by decide) ?_
        exact k_zretP C hr hlk rfl (Or.inr (Or.inr (Or.inl (⟨c3827, c3828, c3835, c3836, rfl⟩)))) dX11_cut_38
      | some q3838 =>
        refine W.eq (g2 := F0 m 12 ls [.ref q3838]) rfl ?_
        refine lv_astore (lv' := [(5, .ref q3838), (4, .null), (0, .ref h0), (1, .int x0), (2, .int x1), (3, .int x2)]) C.1 C.2.1 dX11_cut_12 hl (by decide) rfl (fun ls hl => ?_)
        refine lv_aloadN C.1 C.2.1 dX11_cut_14 (lv_at hl 1 rfl) ?_
        refine lv_ifnullN (tgt := 37) C.1 C.2.1 dX11_cut_16 (by decide) ?_
        refine lv_iconst (v := (-1)) C.1 C.2.1 dX11_cut_37 (by decide) ?_
        exact k_zretP C hr hlk rfl (Or.inr (Or.inr (Or.inr (⟨c3827, c3828, c3835, c3836, rfl⟩)))) dX11_cut_38
  · exact False.elim (by have z0 := kz_nlt as0; have z1 := kz_nlt c3829; have z2 := kz_nle c3830; have t6 : (6 : Int32).toInt = 6 := (by decide); have t0 : (0 : Int32).toInt = 0 := (by decide); omega)
set_option maxHeartbeats 4000000 in
set_option maxRecDepth 100000 in
theorem kcX4_cutDown (l : Launch) (D : va_G) (h0 h1 h10 : Nat) (x0 : Int32) (sz : Nat)  : Met l yX4_cutDown (Cond.code yX4_cutDown cX4_cutDown 7 (some .boolean) :: gG) { frames := 2, cells := 0, slots := 0, locals := 86 } (cPre D [] [(h1, .inr (8, [.ref h10, .int 0]))] sz [.ref h0, .int x0, .ref h1]) (vp_Si (fun r => r = 0)) 0 0 (fun _ => False) := by
  refine Met.ofW (cc := cX4_cutDown) (maxL := 7) (ret := (some .boolean)) (by decide) rfl ?_
  intro p e s m args below meth c s₁ B hml hv
  obtain ⟨rfl, aks, rfl, Wd⟩ := k_enter hv
  have C : CallFix p m c cX4_cutDown 7 s _ gG RX4 := ⟨B.exec, B.bytes, hml, findClass_of_methodNamed B.named, fun w h => atoms_spec (ws := Cond.code yX4_cutDown cX4_cutDown 7 (some .boolean) :: gG) B.pre w (List.mem_cons_of_mem _ h)⟩
  have hr := B.returns
  have hlk := B.notSynchronized
  obtain ⟨A, Wd⟩ : ∃ A, wX D [] s [(h1, .inr (8, [.ref h10, .int 0]))] s.heap A s.heap [] := ⟨_, Wd⟩
  refine k_locals (Nat.le_of_ble_eq_true rfl) [(0, .ref h0), (1, .int x0), (2, .ref h1)] rfl (fun ls hl => ?_)
  refine lv_aload_n C.1 C.2.1 dX4_cutDown_0 rfl (lv_at hl 2 rfl) ?_
  refine k_pi (k_runV (rest := []) C aks Wd cs_X4_127 (kcX8_statements l D h1 h10 _ ) [0] rfl (by decide) [] rfl 0 8 rfl rfl rfl rfl rfl ⟨(Nat.le_of_ble_eq_true rfl), (Nat.le_of_ble_eq_true rfl)⟩ hl.1 rfl rfl (Nat.le_of_ble_eq_true rfl) ⟨(Nat.le_of_ble_eq_true rfl), (Nat.le_of_ble_eq_true rfl)⟩ dX4_cutDown_1) (fun r w3855 => ?_)
  obtain rfl := w3855
  refine lv_istore_n (lv' := [(3, .int 0), (0, .ref h0), (1, .int x0), (2, .ref h1)]) C.1 C.2.1 dX4_cutDown_4 rfl hl (by decide) rfl (fun ls hl => ?_)
  refine lv_iload_n C.1 C.2.1 dX4_cutDown_5 rfl (lv_at hl 0 rfl) ?_
  refine lv_iconst (v := 1) C.1 C.2.1 dX4_cutDown_6 (by decide) ?_
  refine lv_icmp_lt (tgt := 33) C.1 C.2.1 dX4_cutDown_7 (by decide) (fun _ => ?_) (fun c3856 => absurd c3856 (by decide))
  refine lv_iconst (v := 0) C.1 C.2.1 dX4_cutDown_33 (by decide) ?_
  exact k_zretP C hr hlk rfl rfl dX4_cutDown_34
set_option maxHeartbeats 4000000 in
set_option maxRecDepth 100000 in
theorem kcX11_cut_v2 (l : Launch) (D : va_G) (h0 h1 h2 h3 h4 h5 h6 h7 h8 h19 h20 h21 h22 h23 h24 h25 h26 h31 : Nat) (x0 x1 x2 : Int32) (g0 : Nat → Option Nat) (a0 : ClassId) (sz : Nat) (k_g0_x1 : g0 x1.toNatClampNeg = some h8) (as0 : ¬ x1 < (0 : Int32)) (as1 : x1 < (6 : Int32)): Met l yX11_cut (Cond.code yX11_cut cX11_cut 6 (some .int) :: gG) { frames := 3, cells := 0, slots := 0, locals := 112 } (cPre D [(a0, .object RX8)] [(h0, .inr (11, [.ref h1, .int 0, .ref h2, .ref h3, .ref h4, .ref h5, .ref h6, .ref h7])), (h1, .inl (a0, 6, .inr (.inr (.inr (.inr g0))))), (h8, .inr (8, [.ref h31, .int 0])), (h6, .inr (4, [.ref h19, .ref h20, .ref h21, .int (-1), .int (-1), .ref h22, .ref h23, .ref h24, .ref h25, .ref h26]))] sz [.ref h0, .int x0, .int x1, .int x2]) (vp_Si (fun r => (¬ x1 < (0 : Int32) ∧ ¬ (6 : Int32) ≤ x1 ∧ x2 < (0 : Int32) ∧ r = (-1)) ∨ (¬ x1 < (0 : Int32) ∧ ¬ (6 : Int32) ≤ x1 ∧ ¬ x2 < (0 : Int32) ∧ (6 : Int32) ≤ x2 ∧ r = (-1)) ∨ (¬ x1 < (0 : Int32) ∧ ¬ (6 : Int32) ≤ x1 ∧ ¬ x2 < (0 : Int32) ∧ ¬ (6 : Int32) ≤ x2 ∧ r = (-1)) ∨ (¬ x1 < (0 : Int32) ∧ ¬ (6 : Int32) ≤ x1 ∧ ¬ x2 < (0 : Int32) ∧ ¬ (6 : Int32) ≤ x2 ∧ r = (-1)))) 0 0 (fun _ => False) := by
  refine Met.ofW (cc := cX11_cut) (maxL := 6) (ret := (some .int)) (by decide) rfl ?_
  intro p e s m args below meth c s₁ B hml hv
  obtain ⟨rfl, aks, rfl, Wd⟩ := k_enter hv
  have C : CallFix p m c cX11_cut 6 s _ gG RX11 := ⟨B.exec, B.bytes, hml, findClass_of_methodNamed B.named, fun w h => atoms_spec (ws := Cond.code yX11_cut cX11_cut 6 (some .int) :: gG) B.pre w (List.mem_cons_of_mem _ h)⟩
  have hr := B.returns
  have hlk := B.notSynchronized
  obtain ⟨A, Wd⟩ : ∃ A, wX D [(a0, .object RX8)] s [(h0, .inr (11, [.ref h1, .int 0, .ref h2, .ref h3, .ref h4, .ref h5, .ref h6, .ref h7])), (h1, .inl (a0, 6, .inr (.inr (.inr (.inr g0))))), (h8, .inr (8, [.ref h31, .int 0])), (h6, .inr (4, [.ref h19, .ref h20, .ref h21, .int (-1), .int (-1), .ref h22, .ref h23, .ref h24, .ref h25, .ref h26]))] s.heap A s.heap [] := ⟨_, Wd⟩
  refine k_locals (Nat.le_of_ble_eq_true rfl) [(0, .ref h0), (1, .int x0), (2, .int x1), (3, .int x2)] rfl (fun ls hl => ?_)
  refine lv_aload_n C.1 C.2.1 dX11_cut_0 rfl (lv_at hl 0 rfl) ?_
  refine lv_iload_n C.1 C.2.1 dX11_cut_1 rfl (lv_at hl 2 rfl) ?_
  refine k_pq (k_runV (rest := []) C aks Wd cs_X11_77 (kcX11_slotAt l D h0 h1 h2 h3 h4 h5 h6 h7 x1 g0 a0 _ ) [0, 1] rfl (by decide) [0] rfl 0 11 rfl rfl rfl rfl rfl ⟨(Nat.le_of_ble_eq_true rfl), (Nat.le_of_ble_eq_true rfl)⟩ hl.1 rfl rfl (Nat.le_of_ble_eq_true rfl) ⟨(Nat.le_of_ble_eq_true rfl), (Nat.le_of_ble_eq_true rfl)⟩ dX11_cut_2) (fun r w3859 => ?_)
  rcases w3859 with ⟨c3860, rfl⟩ | ⟨c3861, c3862, rfl⟩ | ⟨c3863, c3864, rfl⟩
  · exact absurd c3860 as0
  · exact False.elim (by have z0 := kz_nlt as0; have z1 := kz_lt as1; have z2 := kz_nlt c3861; have z3 := kz_le c3862; have t0 : (0 : Int32).toInt = 0 := (by decide); have t6 : (6 : Int32).toInt = 6 := (by decide); omega)
  · refine W.eq (g2 := F0 m 5 ls [.ref h8]) (by rw [show (g0 x1.toNatClampNeg) = some h8 from k_g0_x1]; rfl) ?_
    refine lv_astore (lv' := [(4, .ref h8), (0, .ref h0), (1, .int x0), (2, .int x1), (3, .int x2)]) C.1 C.2.1 dX11_cut_5 hl (by decide) rfl (fun ls hl => ?_)
    refine lv_aload_n C.1 C.2.1 dX11_cut_7 rfl (lv_at hl 1 rfl) ?_
    refine lv_iload_n C.1 C.2.1 dX11_cut_8 rfl (lv_at hl 4 rfl) ?_
    refine k_pq (k_runV (rest := []) C aks Wd cs_X11_77 (kcX11_slotAt l D h0 h1 h2 h3 h4 h5 h6 h7 x2 g0 a0 _ ) [0, 1] rfl (by decide) [0] rfl 0 11 rfl rfl rfl rfl rfl ⟨(Nat.le_of_ble_eq_true rfl), (Nat.le_of_ble_eq_true rfl)⟩ hl.1 rfl rfl (Nat.le_of_ble_eq_true rfl) ⟨(Nat.le_of_ble_eq_true rfl), (Nat.le_of_ble_eq_true rfl)⟩ dX11_cut_9) (fun r w3865 => ?_)
    rcases w3865 with ⟨c3866, rfl⟩ | ⟨c3867, c3868, rfl⟩ | ⟨c3869, c3870, rfl⟩
    · refine W.eq (g2 := F0 m 12 ls [.null]) rfl ?_
      refine lv_astoreN (lv' := [(5, .null), (4, .ref h8), (0, .ref h0), (1, .int x0), (2, .int x1), (3, .int x2)]) C.1 C.2.1 dX11_cut_12 hl (by decide) rfl (fun ls hl => ?_)
      refine lv_aload C.1 C.2.1 dX11_cut_14 (lv_at hl 1 rfl) ?_
      refine lv_ifnull C.1 C.2.1 dX11_cut_16 ?_
      refine lv_aloadN C.1 C.2.1 dX11_cut_19 (lv_at hl 0 rfl) ?_
      refine lv_ifnullN (tgt := 37) C.1 C.2.1 dX11_cut_21 (by decide) ?_
      refine lv_iconst (v := (-1)) C.1 C.2.1 dX11_cut_37 (by decide) ?_
      exact k_zretP C hr hlk rfl (Or.inl (⟨c3863, c3864, c3866, rfl⟩)) dX11_cut_38
    · refine W.eq (g2 := F0 m 12 ls [.null]) rfl ?_
      refine lv_astoreN (lv' := [(5, .null), (4, .ref h8), (0, .ref h0), (1, .int x0), (2, .int x1), (3, .int x2)]) C.1 C.2.1 dX11_cut_12 hl (by decide) rfl (fun ls hl => ?_)
      refine lv_aload C.1 C.2.1 dX11_cut_14 (lv_at hl 1 rfl) ?_
      refine lv_ifnull C.1 C.2.1 dX11_cut_16 ?_
      refine lv_aloadN C.1 C.2.1 dX11_cut_19 (lv_at hl 0 rfl) ?_
      refine lv_ifnullN (tgt := 37) C.1 C.2.1 dX11_cut_21 (by decide) ?_
      refine lv_iconst (v := (-1)) C.1 C.2.1 dX11_cut_37 (by decide) ?_
      exact k_zretP C hr hlk rfl (Or.inr (Or.inl (⟨c3863, c3864, c3867, c3868, rfl⟩))) dX11_cut_38
    · cases hq3871 : (g0 x2.toNatClampNeg) with
      | none =>
        refine W.eq (g2 := F0 m 12 ls [.null]) rfl ?_
        refine lv_astoreN (lv' := [(5, .null), (4, .ref h8), (0, .ref h0), (1, .int x0), (2, .int x1), (3, .int x2)]) C.1 C.2.1 dX11_cut_12 hl (by decide) rfl (fun ls hl => ?_)
        refine lv_aload C.1 C.2.1 dX11_cut_14 (lv_at hl 1 rfl) ?_
        refine lv_ifnull C.1 C.2.1 dX11_cut_16 ?_
        refine lv_aloadN C.1 C.2.1 dX11_cut_19 (lv_at hl 0 rfl) ?_
        refine lv_ifnullN (tgt := 37) C.1 C.2.1 dX11_cut_21 (by decide) ?_
        refine lv_iconst (v := (-1)) C.1 C.2.1 dX11_cut_37 (by decide) ?_
        exact k_zretP C hr hlk rfl (Or.inr (Or.inr (Or.inl (⟨c3863, c3864, c3869, c3870, rfl⟩)))) dX11_cut_38
      | some q3872 =>
        refine W.eq (g2 := F0 m 12 ls [.ref q3872]) rfl ?_
        refine lv_astore (lv' := [(5, .ref q3872), (4, .ref h8), (0, .ref h0), (1, .int x0), (2, .int x1), (3, .int x2)]) C.1 C.2.1 dX11_cut_12 hl (by decide) rfl (fun ls hl => ?_)
        refine lv_aload C.1 C.2.1 dX11_cut_14 (lv_at hl 1 rfl) ?_
        refine lv_ifnull C.1 C.2.1 dX11_cut_16 ?_
        refine lv_aload C.1 C.2.1 dX11_cut_19 (lv_at hl 0 rfl) ?_
        refine lv_ifnull C.1 C.2.1 dX11_cut_21 ?_
        refine lv_aload_n C.1 C.2.1 dX11_cut_24 rfl (lv_at hl 2 rfl) ?_
        refine k_get C Wd KX11 0 6 rfl (by decide) fl_X11_50 rfl dX11_cut_25 ?_
        refine lv_iload_n C.1 C.2.1 dX11_cut_28 rfl (lv_at hl 3 rfl) ?_
        refine lv_aload C.1 C.2.1 dX11_cut_29 (lv_at hl 1 rfl) ?_
        refine k_pi (k_runV (rest := []) C aks Wd cs_X11_214 (kcX4_cutDown l D h6 h8 h31 x0 _ ) [2] rfl (by decide) [] rfl 3 4 rfl rfl rfl rfl rfl ⟨(Nat.le_of_ble_eq_true rfl), (Nat.le_of_ble_eq_true rfl)⟩ hl.1 rfl rfl (Nat.le_of_ble_eq_true rfl) ⟨(Nat.le_of_ble_eq_true rfl), (Nat.le_of_ble_eq_true rfl)⟩ dX11_cut_31) (fun r w3873 => ?_)
        obtain rfl := w3873
        refine lv_if_ne (tgt := 39) C.1 C.2.1 dX11_cut_34 (by decide) (fun c3874 => absurd c3874 (by decide)) (fun _ => ?_)
        refine lv_iconst (v := (-1)) C.1 C.2.1 dX11_cut_37 (by decide) ?_
        exact k_zretP C hr hlk rfl (Or.inr (Or.inr (Or.inr (⟨c3863, c3864, c3869, c3870, rfl⟩)))) dX11_cut_38
