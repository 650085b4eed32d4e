set_option maxHeartbeats 4000000 in
set_option maxRecDepth 100000 in
theorem kcX11_run_v2 (l : Launch) (D : va_G) (h0 h1 h2 h3 h4 h5 h6 h7 h8 h15 h16 h17 h18 h31 h33 h34 h35 h36 h37 h38 h39 h40 h41 h42 h43 h44 h45 : Nat) (x0 x1 x2 x3 : Int32) (g0 : Nat → Option Nat) (a0 a2 a11 : ClassId) (sz : Nat) (k_g0_x0 : g0 x0.toNatClampNeg = some h8) (as0 : ¬ x0 < (0 : Int32)) (as1 : x0 < (6 : Int32)): Met l yX11_run (Cond.code yX11_run cX11_run 6 (some .int) :: gG) { frames := 3, cells := 0, slots := 0, locals := 109 } (cPre D [(a0, .object RX8), (a2, .int), (a11, .int)] [(h0, .inr (11, [.ref h1, .int 0, .ref h2, .ref h3, .ref h4, .ref h5, .ref h6, .ref h7])), (h1, .inl (a0, 6, .inr (.inr (.inr (.inr g0))))), (h4, .inr (3, [.ref h15, .ref h16, .int 0, .int 0, .int 0, .ref h17, .ref h18])), (h15, .inr (1, [.ref h33, .int 0, .ref h34, .ref h35, .ref h36, .ref h37, .ref h38, .ref h39, .ref h40, .ref h41, .ref h42, .ref h43, .ref h44, .ref h45])), (h8, .inr (8, [.ref h31, .int 0])), (h45, .inl (a11, 480, .inl (fun _ => 0))), (h17, .inl (a2, 6, .inl (fun _ => 0)))] sz [.ref h0, .int x0, .int x1, .int x2, .int x3]) (va_Qi (fun (r : Int32) (_ : Unit) => (¬ x0 < (0 : Int32) ∧ ¬ (6 : Int32) ≤ x0 ∧ x1 < (0 : Int32) ∧ r = (-1)) ∨ (¬ x0 < (0 : Int32) ∧ ¬ (6 : Int32) ≤ x0 ∧ ¬ x1 < (0 : Int32) ∧ (16 : Int32) ≤ x1 ∧ r = (-1)) ∨ (¬ x0 < (0 : Int32) ∧ ¬ (6 : Int32) ≤ x0 ∧ ¬ x1 < (0 : Int32) ∧ ¬ (16 : Int32) ≤ x1 ∧ x2 < (0 : Int32) ∧ r = (-1)) ∨ (¬ x0 < (0 : Int32) ∧ ¬ (6 : Int32) ≤ x0 ∧ ¬ x1 < (0 : Int32) ∧ ¬ (16 : Int32) ≤ x1 ∧ ¬ x2 < (0 : Int32) ∧ (16 : Int32) ≤ x2 ∧ r = (-1)) ∨ (¬ x0 < (0 : Int32) ∧ ¬ (6 : Int32) ≤ x0 ∧ ¬ x1 < (0 : Int32) ∧ ¬ (16 : Int32) ≤ x1 ∧ ¬ x2 < (0 : Int32) ∧ ¬ (16 : Int32) ≤ x2 ∧ ¬ x3 = (0 : Int32) ∧ ¬ x3 = (1 : Int32) ∧ ¬ x3 = (2 : Int32) ∧ x3 < (10 : Int32) ∧ r = (-1)) ∨ (¬ x0 < (0 : Int32) ∧ ¬ (6 : Int32) ≤ x0 ∧ ¬ x1 < (0 : Int32) ∧ ¬ (16 : Int32) ≤ x1 ∧ ¬ x2 < (0 : Int32) ∧ ¬ (16 : Int32) ≤ x2 ∧ ¬ x3 = (0 : Int32) ∧ ¬ x3 = (1 : Int32) ∧ ¬ x3 = (2 : Int32) ∧ ¬ x3 < (10 : Int32) ∧ (16 : Int32) ≤ x3 ∧ x3 < (100 : Int32) ∧ r = (-1)) ∨ (¬ x0 < (0 : Int32) ∧ ¬ (6 : Int32) ≤ x0 ∧ ¬ x1 < (0 : Int32) ∧ ¬ (16 : Int32) ≤ x1 ∧ ¬ x2 < (0 : Int32) ∧ ¬ (16 : Int32) ≤ x2 ∧ ¬ x3 = (0 : Int32) ∧ ¬ x3 = (1 : Int32) ∧ ¬ x3 = (2 : Int32) ∧ ¬ x3 < (10 : Int32) ∧ (16 : Int32) ≤ x3 ∧ ¬ x3 < (100 : Int32) ∧ ¬ (x3 - 100) < (0 : Int32) ∧ r = (-1)) ∨ (¬ x0 < (0 : Int32) ∧ ¬ (6 : Int32) ≤ x0 ∧ ¬ x1 < (0 : Int32) ∧ ¬ (16 : Int32) ≤ x1 ∧ ¬ x2 < (0 : Int32) ∧ ¬ (16 : Int32) ≤ x2 ∧ ¬ x3 = (0 : Int32) ∧ ¬ x3 = (1 : Int32) ∧ ¬ x3 = (2 : Int32) ∧ ¬ x3 < (10 : Int32) ∧ ¬ (16 : Int32) ≤ x3 ∧ r = ((upd (upd (upd (upd (upd (upd (fun _ => 0) 0 x1) 1 x2) 2 0) 3 0) 4 0) 5 0) (x3 - 10).toNatClampNeg)) ∨ (¬ x0 < (0 : Int32) ∧ ¬ (6 : Int32) ≤ x0 ∧ ¬ x1 < (0 : Int32) ∧ ¬ (16 : Int32) ≤ x1 ∧ ¬ x2 < (0 : Int32) ∧ ¬ (16 : Int32) ≤ x2 ∧ ¬ x3 = (0 : Int32) ∧ ¬ x3 = (1 : Int32) ∧ x3 = (2 : Int32) ∧ r = 0) ∨ (¬ x0 < (0 : Int32) ∧ ¬ (6 : Int32) ≤ x0 ∧ ¬ x1 < (0 : Int32) ∧ ¬ (16 : Int32) ≤ x1 ∧ ¬ x2 < (0 : Int32) ∧ ¬ (16 : Int32) ≤ x2 ∧ ¬ x3 = (0 : Int32) ∧ x3 = (1 : Int32) ∧ r = 0) ∨ (¬ x0 < (0 : Int32) ∧ ¬ (6 : Int32) ≤ x0 ∧ ¬ x1 < (0 : Int32) ∧ ¬ (16 : Int32) ≤ x1 ∧ ¬ x2 < (0 : Int32) ∧ ¬ (16 : Int32) ≤ x2 ∧ x3 = (0 : Int32) ∧ r = 0)) (fun u t => cB D (va_A [(h0, .inr (11, [.ref h1, .int 0, .ref h2, .ref h3, .ref h4, .ref h5, .ref h6, .ref h7])), (h1, .inl (a0, 6, .inr (.inr (.inr (.inr g0))))), (h4, .inr (3, [.ref h15, .ref h16, .int 0, .int 0, .int 0, .ref h17, .ref h18])), (h15, .inr (1, [.ref h33, .int 0, .ref h34, .ref h35, .ref h36, .ref h37, .ref h38, .ref h39, .ref h40, .ref h41, .ref h42, .ref h43, .ref h44, .ref h45])), (h8, .inr (8, [.ref h31, .int 0])), (h45, .inl (a11, 480, .inl (fun _ => 0))), (h17, .inl (a2, 6, .inl (fun _ => 0)))] sz) ((fun (_ : Unit) => ([] : List (ClassId × FieldType))) u) ((fun (_ : Unit) => ([] : va_W)) u) t) (va_A [(h0, .inr (11, [.ref h1, .int 0, .ref h2, .ref h3, .ref h4, .ref h5, .ref h6, .ref h7])), (h1, .inl (a0, 6, .inr (.inr (.inr (.inr g0))))), (h4, .inr (3, [.ref h15, .ref h16, .int 0, .int 0, .int 0, .ref h17, .ref h18])), (h15, .inr (1, [.ref h33, .int 0, .ref h34, .ref h35, .ref h36, .ref h37, .ref h38, .ref h39, .ref h40, .ref h41, .ref h42, .ref h43, .ref h44, .ref h45])), (h8, .inr (8, [.ref h31, .int 0])), (h45, .inl (a11, 480, .inl (fun _ => 0))), (h17, .inl (a2, 6, .inl (fun _ => 0)))] sz)) 0 0 (va_A [(h0, .inr (11, [.ref h1, .int 0, .ref h2, .ref h3, .ref h4, .ref h5, .ref h6, .ref h7])), (h1, .inl (a0, 6, .inr (.inr (.inr (.inr g0))))), (h4, .inr (3, [.ref h15, .ref h16, .int 0, .int 0, .int 0, .ref h17, .ref h18])), (h15, .inr (1, [.ref h33, .int 0, .ref h34, .ref h35, .ref h36, .ref h37, .ref h38, .ref h39, .ref h40, .ref h41, .ref h42, .ref h43, .ref h44, .ref h45])), (h8, .inr (8, [.ref h31, .int 0])), (h45, .inl (a11, 480, .inl (fun _ => 0))), (h17, .inl (a2, 6, .inl (fun _ => 0)))] sz) := by
  refine Met.ofW (cc := cX11_run) (maxL := 6) (ret := (some .int)) (by decide) rfl ?_
  intro p e s m args below meth c s₁ B hml hv
  obtain ⟨rfl, aks, rfl, Wd⟩ := k_enter hv
  have C : CallFix p m c cX11_run 6 s _ gG RX11 := ⟨B.exec, B.bytes, hml, findClass_of_methodNamed B.named, fun w h => atoms_spec (ws := Cond.code yX11_run cX11_run 6 (some .int) :: gG) B.pre w (List.mem_cons_of_mem _ h)⟩
  have hr := B.returns
  have hlk := B.notSynchronized
  generalize va_A [(h0, .inr (11, [.ref h1, .int 0, .ref h2, .ref h3, .ref h4, .ref h5, .ref h6, .ref h7])), (h1, .inl (a0, 6, .inr (.inr (.inr (.inr g0))))), (h4, .inr (3, [.ref h15, .ref h16, .int 0, .int 0, .int 0, .ref h17, .ref h18])), (h15, .inr (1, [.ref h33, .int 0, .ref h34, .ref h35, .ref h36, .ref h37, .ref h38, .ref h39, .ref h40, .ref h41, .ref h42, .ref h43, .ref h44, .ref h45])), (h8, .inr (8, [.ref h31, .int 0])), (h45, .inl (a11, 480, .inl (fun _ => 0))), (h17, .inl (a2, 6, .inl (fun _ => 0)))] s.heap.size = A at Wd ⊢
  refine k_locals (Nat.le_of_ble_eq_true rfl) [(0, .ref h0), (1, .int x0), (2, .int x1), (3, .int x2), (4, .int x3)] rfl (fun ls hl => ?_)
  refine lv_aload_n C.1 C.2.1 dX11_run_0 rfl (lv_at hl 0 rfl) ?_
  refine lv_iload_n C.1 C.2.1 dX11_run_1 rfl (lv_at hl 1 rfl) ?_
  refine k_pq (k_runV (rest := []) C aks Wd cs_X11_77 (kcX11_slotAt l D h0 h1 h2 h3 h4 h5 h6 h7 x0 g0 a0 _ ) [0, 1] rfl (by decide) [0] rfl 0 11 rfl rfl rfl rfl rfl ⟨(Nat.le_of_ble_eq_true rfl), (Nat.le_of_ble_eq_true rfl)⟩ hl.1 rfl rfl (Nat.le_of_ble_eq_true rfl) ⟨(Nat.le_of_ble_eq_true rfl), (Nat.le_of_ble_eq_true rfl)⟩ dX11_run_2) (fun r w1770 => ?_)
  rcases w1770 with ⟨c1771, rfl⟩ | ⟨c1772, c1773, rfl⟩ | ⟨c1774, c1775, rfl⟩
  · exact absurd c1771 as0
  · exact False.elim (by have z0 := kz_nlt as0; have z1 := kz_lt as1; have z2 := kz_nlt c1772; have z3 := kz_le c1773; have t0 : (0 : Int32).toInt = 0 := (by decide); have t6 : (6 : Int32).toInt = 6 := (by decide); omega)
  · refine W.eq (g2 := F0 m 5 ls [.ref h8]) (by rw [show (g0 x0.toNatClampNeg) = some h8 from k_g0_x0]; rfl) ?_
    refine lv_astore (lv' := [(5, .ref h8), (0, .ref h0), (1, .int x0), (2, .int x1), (3, .int x2), (4, .int x3)]) C.1 C.2.1 dX11_run_5 hl (by decide) rfl (fun ls hl => ?_)
    refine lv_aload C.1 C.2.1 dX11_run_7 (lv_at hl 0 rfl) ?_
    refine lv_ifnull C.1 C.2.1 dX11_run_9 ?_
    refine lv_iload_n C.1 C.2.1 dX11_run_12 rfl (lv_at hl 3 rfl) ?_
    refine k_pi (k_runS (rest := []) C aks Wd cs_X11_133 (kcX11_isWord l D x1 _ ) [] rfl (by decide) [] rfl rfl rfl ⟨(Nat.le_of_ble_eq_true rfl), (Nat.le_of_ble_eq_true rfl)⟩ hl.1 rfl rfl (Nat.le_of_ble_eq_true rfl) ⟨(Nat.le_of_ble_eq_true rfl), (Nat.le_of_ble_eq_true rfl)⟩ dX11_run_13) (fun r w1776 => ?_)
    rcases w1776 with ⟨c1777, rfl⟩ | ⟨c1778, c1779, rfl⟩ | ⟨c1780, c1781, rfl⟩
    · refine lv_if_eq (tgt := 26) C.1 C.2.1 dX11_run_16 (by decide) (fun _ => ?_) (fun c1782 => absurd c1782 (by decide))
      refine lv_iconst (v := (-1)) C.1 C.2.1 dX11_run_26 (by decide) ?_
      exact k_zret C hr hlk rfl Wd () (Or.inl (⟨c1774, c1775, c1777, rfl⟩)) [] rfl (by decide) [] rfl (by decide) (by decide) dX11_run_27
    · refine lv_if_eq (tgt := 26) C.1 C.2.1 dX11_run_16 (by decide) (fun _ => ?_) (fun c1783 => absurd c1783 (by decide))
      refine lv_iconst (v := (-1)) C.1 C.2.1 dX11_run_26 (by decide) ?_
      exact k_zret C hr hlk rfl Wd () (Or.inr (Or.inl (⟨c1774, c1775, c1778, c1779, rfl⟩))) [] rfl (by decide) [] rfl (by decide) (by decide) dX11_run_27
    · refine lv_if_eq (tgt := 26) C.1 C.2.1 dX11_run_16 (by decide) (fun c1784 => absurd c1784 (by decide)) (fun _ => ?_)
      refine lv_iload_n C.1 C.2.1 dX11_run_19 rfl (lv_at hl 4 rfl) ?_
      refine k_pi (k_runS (rest := []) C aks Wd cs_X11_133 (kcX11_isWord l D x2 _ ) [] rfl (by decide) [] rfl rfl rfl ⟨(Nat.le_of_ble_eq_true rfl), (Nat.le_of_ble_eq_true rfl)⟩ hl.1 rfl rfl (Nat.le_of_ble_eq_true rfl) ⟨(Nat.le_of_ble_eq_true rfl), (Nat.le_of_ble_eq_true rfl)⟩ dX11_run_20) (fun r w1785 => ?_)
      rcases w1785 with ⟨c1786, rfl⟩ | ⟨c1787, c1788, rfl⟩ | ⟨c1789, c1790, rfl⟩
      · refine lv_if_ne (tgt := 28) C.1 C.2.1 dX11_run_23 (by decide) (fun c1791 => absurd c1791 (by decide)) (fun _ => ?_)
        refine lv_iconst (v := (-1)) C.1 C.2.1 dX11_run_26 (by decide) ?_
        exact k_zret C hr hlk rfl Wd () (Or.inr (Or.inr (Or.inl (⟨c1774, c1775, c1780, c1781, c1786, rfl⟩)))) [] rfl (by decide) [] rfl (by decide) (by decide) dX11_run_27
      · refine lv_if_ne (tgt := 28) C.1 C.2.1 dX11_run_23 (by decide) (fun c1792 => absurd c1792 (by decide)) (fun _ => ?_)
        refine lv_iconst (v := (-1)) C.1 C.2.1 dX11_run_26 (by decide) ?_
        exact k_zret C hr hlk rfl Wd () (Or.inr (Or.inr (Or.inr (Or.inl (⟨c1774, c1775, c1780, c1781, c1787, c1788, rfl⟩))))) [] rfl (by decide) [] rfl (by decide) (by decide) dX11_run_27
      · refine lv_if_ne (tgt := 28) C.1 C.2.1 dX11_run_23 (by decide) (fun _ => ?_) (fun c1793 => absurd c1793 (by decide))
        refine lv_aload_n C.1 C.2.1 dX11_run_28 rfl (lv_at hl 1 rfl) ?_
        refine k_get C Wd KX11 0 4 rfl (by decide) fl_X11_36 rfl dX11_run_29 ?_
        refine k_get C Wd KX3 2 0 rfl (by decide) fl_X11_121 rfl dX11_run_32 ?_
        refine lv_aload C.1 C.2.1 dX11_run_35 (lv_at hl 0 rfl) ?_
        refine k_cv Wd [3, 4, 5] [0, 1, 2, 6] rfl (wr := [(h0, .inr (11, [.ref h1, .int 0, .ref h2, .ref h3, .ref h4, .ref h5, .ref h6, .ref h7])), (h1, .inl (a0, 6, .inr (.inr (.inr (.inr g0))))), (h4, .inr (3, [.ref h15, .ref h16, .int 0, .int 0, .int 0, .ref h17, .ref h18])), (h17, .inl (a2, 6, .inl (fun _ => 0)))]) rfl (by decide) (by decide) (cells' := 0) (slots' := 0) (by decide) (by decide) (k_runV (rest := []) C aks Wd cs_X11_125 (kcX1_trace l D h15 h8 h33 h34 h35 h36 h37 h38 h39 h40 h41 h42 h43 h44 h45 h31 a11 _ ) [3, 4, 5] rfl (by decide) [2] rfl 3 1 rfl rfl rfl rfl rfl ⟨(Nat.le_of_ble_eq_true rfl), (Nat.le_of_ble_eq_true rfl)⟩ hl.1 rfl rfl (Nat.le_of_ble_eq_true rfl) ⟨(Nat.le_of_ble_eq_true rfl), (Nat.le_of_ble_eq_true rfl)⟩ dX11_run_37) (fun _ H locs w1794 Wd => ?_)
        have Wd : wX D [(a0, .object RX8), (a2, .int), (a11, .int)] s [(h0, .inr (11, [.ref h1, .int 0, .ref h2, .ref h3, .ref h4, .ref h5, .ref h6, .ref h7])), (h1, .inl (a0, 6, .inr (.inr (.inr (.inr g0))))), (h4, .inr (3, [.ref h15, .ref h16, .int 0, .int 0, .int 0, .ref h17, .ref h18])), (h17, .inl (a2, 6, .inl (fun _ => 0))), (h15, .inr (1, [.ref h8, .int 0, .ref h34, .ref h35, .ref h36, .ref h37, .ref h38, .ref h39, .ref h40, .ref h41, .ref h42, .ref h43, .ref h44, .ref h45])), (h8, .inr (8, [.ref h31, .int 0])), (h45, .inl (a11, 480, .inl (fun _ => 0)))] _ A s.heap _ := Wd
        refine lv_aload_n C.1 C.2.1 dX11_run_40 rfl (lv_at hl 1 rfl) ?_
        refine k_get C Wd KX11 0 4 rfl (by decide) fl_X11_36 rfl dX11_run_41 ?_
        refine lv_iload_n C.1 C.2.1 dX11_run_44 rfl (lv_at hl 3 rfl) ?_
        refine lv_iload_n C.1 C.2.1 dX11_run_45 rfl (lv_at hl 4 rfl) ?_
        refine k_cv Wd [2, 3, 4] [0, 1, 5, 6] rfl (wr := [(h0, .inr (11, [.ref h1, .int 0, .ref h2, .ref h3, .ref h4, .ref h5, .ref h6, .ref h7])), (h1, .inl (a0, 6, .inr (.inr (.inr (.inr g0))))), (h8, .inr (8, [.ref h31, .int 0])), (h45, .inl (a11, 480, .inl (fun _ => 0)))]) rfl (by decide) (by decide) (cells' := 0) (slots' := 0) (by decide) (by decide) (k_runV (rest := []) C aks Wd cs_X11_136 (kcX3_go l D h4 h15 h16 h17 h18 h8 h34 h35 h36 h37 h38 h39 h40 h41 h42 h43 h44 h45 x1 x2 a2 _ ) [2, 3, 4] rfl (by decide) [1] rfl 2 3 rfl rfl rfl rfl rfl ⟨(Nat.le_of_ble_eq_true rfl), (Nat.le_of_ble_eq_true rfl)⟩ hl.1 rfl rfl (Nat.le_of_ble_eq_true rfl) ⟨(Nat.le_of_ble_eq_true rfl), (Nat.le_of_ble_eq_true rfl)⟩ dX11_run_46) (fun _ H locs w1795 Wd => ?_)
        have Wd : wX D [(a0, .object RX8), (a2, .int), (a11, .int)] s [(h0, .inr (11, [.ref h1, .int 0, .ref h2, .ref h3, .ref h4, .ref h5, .ref h6, .ref h7])), (h1, .inl (a0, 6, .inr (.inr (.inr (.inr g0))))), (h8, .inr (8, [.ref h31, .int 0])), (h45, .inl (a11, 480, .inl (fun _ => 0))), (h4, .inr (3, [.ref h15, .ref h16, .int 0, .int 0, .int 0, .ref h17, .ref h18])), (h17, .inl (a2, 6, .inl (upd (upd (upd (upd (upd (upd (fun _ => 0) 0 x1) 1 x2) 2 0) 3 0) 4 0) 5 0))), (h15, .inr (1, [.ref h8, .int 0, .ref h34, .ref h35, .ref h36, .ref h37, .ref h38, .ref h39, .ref h40, .ref h41, .ref h42, .ref h43, .ref h44, .ref h45]))] _ A s.heap _ := Wd
        refine lv_aload_n C.1 C.2.1 dX11_run_49 rfl (lv_at hl 1 rfl) ?_
        refine k_get C Wd KX11 0 4 rfl (by decide) fl_X11_36 rfl dX11_run_50 ?_
        refine lv_iload C.1 C.2.1 dX11_run_53 (lv_at hl 5 rfl) ?_
        refine k_pi (k_runV (rest := []) C aks Wd cs_X11_140 (kcX3_tell l D h4 h15 h16 h17 h18 x3 (upd (upd (upd (upd (upd (upd (fun _ => 0) 0 x1) 1 x2) 2 0) 3 0) 4 0) 5 0) a2 _ ) [4, 5] rfl (by decide) [1] rfl 4 3 rfl rfl rfl rfl rfl ⟨(Nat.le_of_ble_eq_true rfl), (Nat.le_of_ble_eq_true rfl)⟩ hl.1 rfl rfl (Nat.le_of_ble_eq_true rfl) ⟨(Nat.le_of_ble_eq_true rfl), (Nat.le_of_ble_eq_true rfl)⟩ dX11_run_55) (fun r w1796 => ?_)
        rcases w1796 with ⟨c1797, c1798, c1799, c1800, rfl⟩ | ⟨c1801, c1802, c1803, c1804, c1805, c1806, rfl⟩ | ⟨c1807, c1808, c1809, c1810, c1811, c1812, c1813, rfl⟩ | ⟨c1814, c1815, c1816, c1817, c1818, rfl⟩ | ⟨c1819, c1820, c1821, rfl⟩ | ⟨c1822, c1823, rfl⟩ | ⟨c1824, rfl⟩
        · exact k_zret C hr hlk rfl Wd () (Or.inr (Or.inr (Or.inr (Or.inr (Or.inl (⟨c1774, c1775, c1780, c1781, c1789, c1790, c1797, c1798, c1799, c1800, rfl⟩)))))) [] rfl (by decide) [] rfl (by decide) (by decide) dX11_run_58
        · exact k_zret C hr hlk rfl Wd () (Or.inr (Or.inr (Or.inr (Or.inr (Or.inr (Or.inl (⟨c1774, c1775, c1780, c1781, c1789, c1790, c1801, c1802, c1803, c1804, c1805, c1806, rfl⟩))))))) [] rfl (by decide) [] rfl (by decide) (by decide) dX11_run_58
        · exact k_zret C hr hlk rfl Wd () (Or.inr (Or.inr (Or.inr (Or.inr (Or.inr (Or.inr (Or.inl (⟨c1774, c1775, c1780, c1781, c1789, c1790, c1807, c1808, c1809, c1810, c1811, c1812, c1813, rfl⟩)))))))) [] rfl (by decide) [] rfl (by decide) (by decide) dX11_run_58
        · exact k_zret C hr hlk rfl Wd () (Or.inr (Or.inr (Or.inr (Or.inr (Or.inr (Or.inr (Or.inr (Or.inl (⟨c1774, c1775, c1780, c1781, c1789, c1790, c1814, c1815, c1816, c1817, c1818, rfl⟩))))))))) [] rfl (by decide) [] rfl (by decide) (by decide) dX11_run_58
        · exact k_zret C hr hlk rfl Wd () (Or.inr (Or.inr (Or.inr (Or.inr (Or.inr (Or.inr (Or.inr (Or.inr (Or.inl (⟨c1774, c1775, c1780, c1781, c1789, c1790, c1819, c1820, c1821, rfl⟩)))))))))) [] rfl (by decide) [] rfl (by decide) (by decide) dX11_run_58
        · exact k_zret C hr hlk rfl Wd () (Or.inr (Or.inr (Or.inr (Or.inr (Or.inr (Or.inr (Or.inr (Or.inr (Or.inr (Or.inl (⟨c1774, c1775, c1780, c1781, c1789, c1790, c1822, c1823, rfl⟩))))))))))) [] rfl (by decide) [] rfl (by decide) (by decide) dX11_run_58
        · exact k_zret C hr hlk rfl Wd () (Or.inr (Or.inr (Or.inr (Or.inr (Or.inr (Or.inr (Or.inr (Or.inr (Or.inr (Or.inr (⟨c1774, c1775, c1780, c1781, c1789, c1790, c1824, rfl⟩))))))))))) [] rfl (by decide) [] rfl (by decide) (by decide) dX11_run_58
set_option maxHeartbeats 4000000 in
set_option maxRecDepth 100000 in
theorem kcX11_blame (l : Launch) (D : va_G) (h0 h1 h2 h3 h4 h5 h6 h7 : Nat) (x0 x1 : Int32) (g0 : Nat → Option Nat) (a0 : ClassId) (sz : Nat)  (as0 : x0 < (0 : Int32)): Met l yX11_blame (Cond.code yX11_blame cX11_blame 4 (some .int) :: gG) { frames := 2, cells := 0, slots := 0, locals := 85 } (cPre D [(a0, .object RX8)] [(h0, .inr (11, [.ref h1, .int 0, .ref h2, .ref h3, .ref h4, .ref h5, .ref h6, .ref h7])), (h1, .inl (a0, 6, .inr (.inr (.inr (.inr g0)))))] sz [.ref h0, .int x0, .int x1]) (vp_Si (fun r => x0 < (0 : Int32) ∧ r = (-1))) 0 0 (fun _ => False) := by
  refine Met.ofW (cc := cX11_blame) (maxL := 4) (ret := (some .int)) (by decide) rfl ?_
  intro p e s m args below meth c s₁ B hml hv
  obtain ⟨rfl, aks, rfl, Wd⟩ := k_enter hv
  have C : CallFix p m c cX11_blame 4 s _ gG RX11 := ⟨B.exec, B.bytes, hml, findClass_of_methodNamed B.named, fun w h => atoms_spec (ws := Cond.code yX11_blame cX11_blame 4 (some .int) :: gG) B.pre w (List.mem_cons_of_mem _ h)⟩
  have hr := B.returns
  have hlk := B.notSynchronized
  obtain ⟨A, Wd⟩ : ∃ A, wX D [(a0, .object RX8)] s [(h0, .inr (11, [.ref h1, .int 0, .ref h2, .ref h3, .ref h4, .ref h5, .ref h6, .ref h7])), (h1, .inl (a0, 6, .inr (.inr (.inr (.inr g0)))))] s.heap A s.heap [] := ⟨_, Wd⟩
  refine k_locals (Nat.le_of_ble_eq_true rfl) [(0, .ref h0), (1, .int x0), (2, .int x1)] rfl (fun ls hl => ?_)
  refine lv_aload_n C.1 C.2.1 dX11_blame_0 rfl (lv_at hl 0 rfl) ?_
  refine lv_iload_n C.1 C.2.1 dX11_blame_1 rfl (lv_at hl 1 rfl) ?_
  refine k_pq (k_runV (rest := []) C aks Wd cs_X11_77 (kcX11_slotAt l D h0 h1 h2 h3 h4 h5 h6 h7 x0 g0 a0 _ ) [0, 1] rfl (by decide) [0] rfl 0 11 rfl rfl rfl rfl rfl ⟨(Nat.le_of_ble_eq_true rfl), (Nat.le_of_ble_eq_true rfl)⟩ hl.1 rfl rfl (Nat.le_of_ble_eq_true rfl) ⟨(Nat.le_of_ble_eq_true rfl), (Nat.le_of_ble_eq_true rfl)⟩ dX11_blame_2) (fun r w1831 => ?_)
  rcases w1831 with ⟨c1832, rfl⟩ | ⟨c1833, c1834, rfl⟩ | ⟨c1835, c1836, rfl⟩
  · refine W.eq (g2 := F0 m 5 ls [.null]) rfl ?_
    refine lv_astore_nN (lv' := [(3, .null), (0, .ref h0), (1, .int x0), (2, .int x1)]) C.1 C.2.1 dX11_blame_5 rfl hl (by decide) rfl (fun ls hl => ?_)
    refine lv_aload_nN C.1 C.2.1 dX11_blame_6 rfl (lv_at hl 0 rfl) ?_
    refine lv_ifnullN (tgt := 19) C.1 C.2.1 dX11_blame_7 (by decide) ?_
    refine lv_iconst (v := (-1)) C.1 C.2.1 dX11_blame_19 (by decide) ?_
    exact k_zretP C hr hlk rfl ⟨c1832, rfl⟩ dX11_blame_20
  · exact absurd as0 c1833
  · exact absurd as0 c1835
set_option maxHeartbeats 4000000 in
set_option maxRecDepth 100000 in
theorem kcX11_blame_v1 (l : Launch) (D : va_G) (h0 h1 h2 h3 h4 h5 h6 h7 : Nat) (x0 x1 : Int32) (g0 : Nat → Option Nat) (a0 : ClassId) (sz : Nat)  (as0 : ¬ x0 < (6 : Int32)): Met l yX11_blame (Cond.code yX11_blame cX11_blame 4 (some .int) :: gG) { frames := 2, cells := 0, slots := 0, locals := 85 } (cPre D [(a0, .object RX8)] [(h0, .inr (11, [.ref h1, .int 0, .ref h2, .ref h3, .ref h4, .ref h5, .ref h6, .ref h7])), (h1, .inl (a0, 6, .inr (.inr (.inr (.inr g0)))))] sz [.ref h0, .int x0, .int x1]) (vp_Si (fun r => ¬ x0 < (0 : Int32) ∧ (6 : Int32) ≤ x0 ∧ r = (-1))) 0 0 (fun _ => False) := by
  refine Met.ofW (cc := cX11_blame) (maxL := 4) (ret := (some .int)) (by decide) rfl ?_
  intro p e s m args below meth c s₁ B hml hv
  obtain ⟨rfl, aks, rfl, Wd⟩ := k_enter hv
  have C : CallFix p m c cX11_blame 4 s _ gG RX11 := ⟨B.exec, B.bytes, hml, findClass_of_methodNamed B.named, fun w h => atoms_spec (ws := Cond.code yX11_blame cX11_blame 4 (some .int) :: gG) B.pre w (List.mem_cons_of_mem _ h)⟩
  have hr := B.returns
  have hlk := B.notSynchronized
  obtain ⟨A, Wd⟩ : ∃ A, wX D [(a0, .object RX8)] s [(h0, .inr (11, [.ref h1, .int 0, .ref h2, .ref h3, .ref h4, .ref h5, .ref h6, .ref h7])), (h1, .inl (a0, 6, .inr (.inr (.inr (.inr g0)))))] s.heap A s.heap [] := ⟨_, Wd⟩
  refine k_locals (Nat.le_of_ble_eq_true rfl) [(0, .ref h0), (1, .int x0), (2, .int x1)] rfl (fun ls hl => ?_)
  refine lv_aload_n C.1 C.2.1 dX11_blame_0 rfl (lv_at hl 0 rfl) ?_
  refine lv_iload_n C.1 C.2.1 dX11_blame_1 rfl (lv_at hl 1 rfl) ?_
  refine k_pq (k_runV (rest := []) C aks Wd cs_X11_77 (kcX11_slotAt l D h0 h1 h2 h3 h4 h5 h6 h7 x0 g0 a0 _ ) [0, 1] rfl (by decide) [0] rfl 0 11 rfl rfl rfl rfl rfl ⟨(Nat.le_of_ble_eq_true rfl), (Nat.le_of_ble_eq_true rfl)⟩ hl.1 rfl rfl (Nat.le_of_ble_eq_true rfl) ⟨(Nat.le_of_ble_eq_true rfl), (Nat.le_of_ble_eq_true rfl)⟩ dX11_blame_2) (fun r w1843 => ?_)
  rcases w1843 with ⟨c1844, rfl⟩ | ⟨c1845, c1846, rfl⟩ | ⟨c1847, c1848, rfl⟩
  · exact False.elim (by have z0 := kz_nlt as0; have z1 := kz_lt c1844; have t6 : (6 : Int32).toInt = 6 := (by decide); have t0 : (0 : Int32).toInt = 0 := (by decide); omega)
  · refine W.eq (g2 := F0 m 5 ls [.null]) rfl ?_
    refine lv_astore_nN (lv' := [(3, .null), (0, .ref h0), (1, .int x0), (2, .int x1)]) C.1 C.2.1 dX11_blame_5 rfl hl (by decide) rfl (fun ls hl => ?_)
    refine lv_aload_nN C.1 C.2.1 dX11_blame_6 rfl (lv_at hl 0 rfl) ?_
    refine lv_ifnullN (tgt := 19) C.1 C.2.1 dX11_blame_7 (by decide) ?_
    refine lv_iconst (v := (-1)) C.1 C.2.1 dX11_blame_19 (by decide) ?_
    exact k_zretP C hr hlk rfl ⟨c1845, c1846, rfl⟩ dX11_blame_20
  · exact False.elim (by have z0 := kz_nlt as0; have z1 := kz_nlt c1847; have z2 := kz_nle c1848; have t6 : (6 : Int32).toInt = 6 := (by decide); have t0 : (0 : Int32).toInt = 0 := (by decide); omega)
set_option maxHeartbeats 4000000 in
set_option maxRecDepth 100000 in
theorem kcX4_isPass (l : Launch) (D : va_G) (x0 : Int32) (sz : Nat)  : Met l yX4_isPass (Cond.code yX4_isPass cX4_isPass 1 (some .boolean) :: gG) { frames := 1, cells := 0, slots := 0, locals := 64 } (cPre D [] [] sz [.int x0]) (vp_Si (fun r => (x0 < (0 : Int32) ∧ r = 0) ∨ (¬ x0 < (0 : Int32) ∧ (6 : Int32) ≤ x0 ∧ r = 0) ∨ (¬ x0 < (0 : Int32) ∧ ¬ (6 : Int32) ≤ x0 ∧ r = 1))) 0 0 (fun _ => False) := by
  refine Met.ofW (cc := cX4_isPass) (maxL := 1) (ret := (some .boolean)) (by decide) rfl ?_
  intro p e s m args below meth c s₁ B hml hv
  obtain ⟨rfl, aks, rfl, Wd⟩ := k_enter hv
  have C : CallFix p m c cX4_isPass 1 s _ gG RX4 := ⟨B.exec, B.bytes, hml, findClass_of_methodNamed B.named, fun w h => atoms_spec (ws := Cond.code yX4_isPass cX4_isPass 1 (some .boolean) :: gG) B.pre w (List.mem_cons_of_mem _ h)⟩
  have hr := B.returns
  have hlk := B.notSynchronized
  obtain ⟨A, Wd⟩ : ∃ A, wX D [] s [] s.heap A s.heap [] := ⟨_, Wd⟩
  refine k_locals (Nat.le_of_ble_eq_true rfl) [(0, .int x0)] rfl (fun ls hl => ?_)
  refine lv_iload_n C.1 C.2.1 dX4_isPass_0 rfl (lv_at hl 0 rfl) ?_
  refine lv_if_lt (tgt := 14) C.1 C.2.1 dX4_isPass_1 (by decide) (fun c1862 => ?_) (fun c1862 => ?_)
  · refine lv_iconst (v := 0) C.1 C.2.1 dX4_isPass_14 (by decide) ?_
    exact k_zretP C hr hlk rfl (Or.inl (⟨c1862, rfl⟩)) dX4_isPass_15
  · refine lv_iload_n C.1 C.2.1 dX4_isPass_4 rfl (lv_at hl 0 rfl) ?_
    refine lv_bipush (v := 6) C.1 C.2.1 dX4_isPass_5 (by decide) ?_
    refine lv_icmp_ge (tgt := 14) C.1 C.2.1 dX4_isPass_7 (by decide) (fun c1863 => ?_) (fun c1863 => ?_)
    · refine lv_iconst (v := 0) C.1 C.2.1 dX4_isPass_14 (by decide) ?_
      exact k_zretP C hr hlk rfl (Or.inr (Or.inl (⟨c1862, c1863, rfl⟩))) dX4_isPass_15
    · refine lv_iconst (v := 1) C.1 C.2.1 dX4_isPass_10 (by decide) ?_
      refine lv_goto (tgt := 15) C.1 C.2.1 dX4_isPass_11 (by decide) ?_
      exact k_zretP C hr hlk rfl (Or.inr (Or.inr (⟨c1862, c1863, rfl⟩))) dX4_isPass_15
set_option maxHeartbeats 4000000 in
set_option maxRecDepth 100000 in
theorem kcX4_makeOf (l : Launch) (D : va_G) (h0 h1 h2 h3 h4 h5 h6 h7 h8 h9 h12 : Nat) (a2 : ClassId) (sz : Nat)  : Met l yX4_makeOf (Cond.code yX4_makeOf cX4_makeOf 5 (some .boolean) :: gG) { frames := 3, cells := 0, slots := 0, locals := 109 } (cPre D [(a2, .int)] [(h0, .inr (4, [.ref h2, .ref h3, .ref h1, .int (-1), .int (-1), .ref h4, .ref h5, .ref h6, .ref h7, .ref h8])), (h1, .inr (8, [.ref h9, .int 0])), (h3, .inr (8, [.ref h12, .int 0])), (h6, .inl (a2, 6, .inl (fun _ => 0)))] sz [.ref h0, .int 0, .ref h1]) (va_Qi (fun (r : Int32) (_ : Unit) => r = 1) (fun u t => cB D (va_A [(h0, .inr (4, [.ref h2, .ref h3, .ref h1, .int (-1), .int (-1), .ref h4, .ref h5, .ref h6, .ref h7, .ref h8])), (h1, .inr (8, [.ref h9, .int 0])), (h3, .inr (8, [.ref h12, .int 0])), (h6, .inl (a2, 6, .inl (fun _ => 0)))] sz) ((fun (_ : Unit) => ([] : List (ClassId × FieldType))) u) ((fun (_ : Unit) => ([(h0, .inr (4, [.ref h2, .ref h3, .ref h1, .int (-1), .int (-1), .ref h4, .ref h5, .ref h6, .ref h7, .ref h8])), (h1, .inr (8, [.ref h9, .int 0])), (h3, .inr (8, [.ref h12, .int 0])), (h6, .inl (a2, 6, .inl (fun _ => 0)))] : va_W)) u) t) (va_A [(h0, .inr (4, [.ref h2, .ref h3, .ref h1, .int (-1), .int (-1), .ref h4, .ref h5, .ref h6, .ref h7, .ref h8])), (h1, .inr (8, [.ref h9, .int 0])), (h3, .inr (8, [.ref h12, .int 0])), (h6, .inl (a2, 6, .inl (fun _ => 0)))] sz)) 0 0 (va_A [(h0, .inr (4, [.ref h2, .ref h3, .ref h1, .int (-1), .int (-1), .ref h4, .ref h5, .ref h6, .ref h7, .ref h8])), (h1, .inr (8, [.ref h9, .int 0])), (h3, .inr (8, [.ref h12, .int 0])), (h6, .inl (a2, 6, .inl (fun _ => 0)))] sz) := by
  refine Met.ofW (cc := cX4_makeOf) (maxL := 5) (ret := (some .boolean)) (by decide) rfl ?_
  intro p e s m args below meth c s₁ B hml hv
  obtain ⟨rfl, aks, rfl, Wd⟩ := k_enter hv
  have C : CallFix p m c cX4_makeOf 5 s _ gG RX4 := ⟨B.exec, B.bytes, hml, findClass_of_methodNamed B.named, fun w h => atoms_spec (ws := Cond.code yX4_makeOf cX4_makeOf 5 (some .boolean) :: gG) B.pre w (List.mem_cons_of_mem _ h)⟩
  have hr := B.returns
  have hlk := B.notSynchronized
  generalize va_A [(h0, .inr (4, [.ref h2, .ref h3, .ref h1, .int (-1), .int (-1), .ref h4, .ref h5, .ref h6, .ref h7, .ref h8])), (h1, .inr (8, [.ref h9, .int 0])), (h3, .inr (8, [.ref h12, .int 0])), (h6, .inl (a2, 6, .inl (fun _ => 0)))] s.heap.size = A at Wd ⊢
  refine k_locals (Nat.le_of_ble_eq_true rfl) [(0, .ref h0), (1, .int 0), (2, .ref h1)] rfl (fun ls hl => ?_)
  refine lv_iload_n C.1 C.2.1 dX4_makeOf_0 rfl (lv_at hl 1 rfl) ?_
  refine k_pi (k_runS (rest := []) C aks Wd cs_X4_63 (kcX4_isPass l D 0 _ ) [] rfl (by decide) [] rfl rfl rfl ⟨(Nat.le_of_ble_eq_true rfl), (Nat.le_of_ble_eq_true rfl)⟩ hl.1 rfl rfl (Nat.le_of_ble_eq_true rfl) ⟨(Nat.le_of_ble_eq_true rfl), (Nat.le_of_ble_eq_true rfl)⟩ dX4_makeOf_1) (fun r w1873 => ?_)
  rcases w1873 with ⟨c1874, rfl⟩ | ⟨c1875, c1876, rfl⟩ | ⟨c1877, c1878, rfl⟩
  · exact absurd c1874 (by decide)
  · exact absurd c1876 (by decide)
  · refine lv_if_ne (tgt := 9) C.1 C.2.1 dX4_makeOf_4 (by decide) (fun _ => ?_) (fun c1879 => absurd c1879 (by decide))
    refine lv_aload_n C.1 C.2.1 dX4_makeOf_9 rfl (lv_at hl 0 rfl) ?_
    refine k_get C Wd KX4 0 1 rfl (by decide) fl_X4_39 rfl dX4_makeOf_10 ?_
    refine lv_aload_n C.1 C.2.1 dX4_makeOf_13 rfl (lv_at hl 2 rfl) ?_
    refine k_cv Wd [1, 2] [0, 3] rfl (wr := [(h0, .inr (4, [.ref h2, .ref h3, .ref h1, .int (-1), .int (-1), .ref h4, .ref h5, .ref h6, .ref h7, .ref h8])), (h6, .inl (a2, 6, .inl (fun _ => 0)))]) rfl (by decide) (by decide) (cells' := 0) (slots' := 0) (by decide) (by decide) (k_runV (rest := []) C aks Wd cs_X4_67 (kcX8_copy l D h3 h1 h12 h9 _ ) [1, 2] rfl (by decide) [] rfl 2 8 rfl rfl rfl rfl rfl ⟨(Nat.le_of_ble_eq_true rfl), (Nat.le_of_ble_eq_true rfl)⟩ hl.1 rfl rfl (Nat.le_of_ble_eq_true rfl) ⟨(Nat.le_of_ble_eq_true rfl), (Nat.le_of_ble_eq_true rfl)⟩ dX4_makeOf_14) (fun _ H locs w1880 Wd => ?_)
    have Wd : wX D [(a2, .int)] s [(h0, .inr (4, [.ref h2, .ref h3, .ref h1, .int (-1), .int (-1), .ref h4, .ref h5, .ref h6, .ref h7, .ref h8])), (h6, .inl (a2, 6, .inl (fun _ => 0))), (h1, .inr (8, [.ref h9, .int 0])), (h3, .inr (8, [.ref h12, .int 0]))] _ A s.heap _ := Wd
    refine lv_iconst (v := 0) C.1 C.2.1 dX4_makeOf_17 (by decide) ?_
    refine lv_istore_n (lv' := [(3, .int 0), (0, .ref h0), (1, .int 0), (2, .ref h1)]) C.1 C.2.1 dX4_makeOf_18 rfl hl (by decide) rfl (fun ls hl => ?_)
    refine lv_iload_n C.1 C.2.1 dX4_makeOf_19 rfl (lv_at hl 0 rfl) ?_
    refine lv_aload_n C.1 C.2.1 dX4_makeOf_20 rfl (lv_at hl 1 rfl) ?_
    refine k_get C Wd KX4 0 7 rfl (by decide) fl_X4_23 rfl dX4_makeOf_21 ?_
    refine lv_iload_n C.1 C.2.1 dX4_makeOf_24 rfl (lv_at hl 2 rfl) ?_
    refine k_iald (v := 0) C Wd 1 0 rfl rfl (vp_in_iff.mpr (by decide)) rfl dX4_makeOf_25 ?_
    refine lv_icmp_ge (tgt := 191) C.1 C.2.1 dX4_makeOf_26 (by decide) (fun _ => ?_) (fun c1881 => absurd c1881 (by decide))
    refine lv_iconst (v := 1) C.1 C.2.1 dX4_makeOf_191 (by decide) ?_
    exact k_zret C hr hlk rfl Wd () rfl [0, 2, 3, 1] rfl (by decide) [] rfl (by decide) (by decide) dX4_makeOf_192
set_option maxHeartbeats 4000000 in
set_option maxRecDepth 100000 in
theorem kcX8_isLike (l : Launch) (D : va_G) (h0 h1 h2 h3 : Nat) (sz : Nat)  : Met l yX8_isLike (Cond.code yX8_isLike cX8_isLike 3 (some .boolean) :: gG) { frames := 1, cells := 0, slots := 0, locals := 64 } (cPre D [] [(h0, .inr (8, [.ref h2, .int 0])), (h1, .inr (8, [.ref h3, .int 0]))] sz [.ref h0, .ref h1]) (vp_Si (fun r => r = 1)) 0 0 (fun _ => False) := by
  refine Met.ofW (cc := cX8_isLike) (maxL := 3) (ret := (some .boolean)) (by decide) rfl ?_
  intro p e s m args below meth c s₁ B hml hv
  obtain ⟨rfl, aks, rfl, Wd⟩ := k_enter hv
  have C : CallFix p m c cX8_isLike 3 s _ gG RX8 := ⟨B.exec, B.bytes, hml, findClass_of_methodNamed B.named, fun w h => atoms_spec (ws := Cond.code yX8_isLike cX8_isLike 3 (some .boolean) :: gG) B.pre w (List.mem_cons_of_mem _ h)⟩
  have hr := B.returns
  have hlk := B.notSynchronized
  obtain ⟨A, Wd⟩ : ∃ A, wX D [] s [(h0, .inr (8, [.ref h2, .int 0])), (h1, .inr (8, [.ref h3, .int 0]))] s.heap A s.heap [] := ⟨_, Wd⟩
  refine k_locals (Nat.le_of_ble_eq_true rfl) [(0, .ref h0), (1, .ref h1)] rfl (fun ls hl => ?_)
  refine lv_aload_n C.1 C.2.1 dX8_isLike_0 rfl (lv_at hl 0 rfl) ?_
  refine k_get C Wd KX8 0 1 rfl (by decide) fl_X8_21 rfl dX8_isLike_1 ?_
  refine lv_aload_n C.1 C.2.1 dX8_isLike_4 rfl (lv_at hl 1 rfl) ?_
  refine k_get C Wd KX8 1 1 rfl (by decide) fl_X8_21 rfl dX8_isLike_5 ?_
  refine lv_icmp_eq (tgt := 13) C.1 C.2.1 dX8_isLike_8 (by decide) (fun _ => ?_) (fun c1886 => absurd c1886 (by decide))
  refine lv_iconst (v := 0) C.1 C.2.1 dX8_isLike_13 (by decide) ?_
  refine lv_istore_n (lv' := [(2, .int 0), (0, .ref h0), (1, .ref h1)]) C.1 C.2.1 dX8_isLike_14 rfl hl (by decide) rfl (fun ls hl => ?_)
  refine lv_iload_n C.1 C.2.1 dX8_isLike_15 rfl (lv_at hl 0 rfl) ?_
  refine lv_aload_n C.1 C.2.1 dX8_isLike_16 rfl (lv_at hl 1 rfl) ?_
  refine k_get C Wd KX8 0 1 rfl (by decide) fl_X8_21 rfl dX8_isLike_17 ?_
  refine lv_icmp_ge (tgt := 46) C.1 C.2.1 dX8_isLike_20 (by decide) (fun _ => ?_) (fun c1887 => absurd c1887 (by decide))
  refine lv_iconst (v := 1) C.1 C.2.1 dX8_isLike_46 (by decide) ?_
  exact k_zretP C hr hlk rfl rfl dX8_isLike_47
set_option maxHeartbeats 4000000 in
set_option maxRecDepth 100000 in
theorem kcX4_madeWrong (l : Launch) (D : va_G) (h0 h1 h2 h3 h4 h5 h6 h7 h8 h9 h12 : Nat) (sz : Nat)  : Met l yX4_madeWrong (Cond.code yX4_madeWrong cX4_madeWrong 2 (some .boolean) :: gG) { frames := 2, cells := 0, slots := 0, locals := 86 } (cPre D [] [(h0, .inr (4, [.ref h2, .ref h3, .ref h1, .int (-1), .int (-1), .ref h4, .ref h5, .ref h6, .ref h7, .ref h8])), (h1, .inr (8, [.ref h9, .int 0])), (h3, .inr (8, [.ref h12, .int 0]))] sz [.ref h0, .ref h1]) (vp_Si (fun r => r = 0)) 0 0 (fun _ => False) := by
  refine Met.ofW (cc := cX4_madeWrong) (maxL := 2) (ret := (some .boolean)) (by decide) rfl ?_
  intro p e s m args below meth c s₁ B hml hv
  obtain ⟨rfl, aks, rfl, Wd⟩ := k_enter hv
  have C : CallFix p m c cX4_madeWrong 2 s _ gG RX4 := ⟨B.exec, B.bytes, hml, findClass_of_methodNamed B.named, fun w h => atoms_spec (ws := Cond.code yX4_madeWrong cX4_madeWrong 2 (some .boolean) :: gG) B.pre w (List.mem_cons_of_mem _ h)⟩
  have hr := B.returns
  have hlk := B.notSynchronized
  obtain ⟨A, Wd⟩ : ∃ A, wX D [] s [(h0, .inr (4, [.ref h2, .ref h3, .ref h1, .int (-1), .int (-1), .ref h4, .ref h5, .ref h6, .ref h7, .ref h8])), (h1, .inr (8, [.ref h9, .int 0])), (h3, .inr (8, [.ref h12, .int 0]))] s.heap A s.heap [] := ⟨_, Wd⟩
  refine k_locals (Nat.le_of_ble_eq_true rfl) [(0, .ref h0), (1, .ref h1)] rfl (fun ls hl => ?_)
  refine lv_aload_n C.1 C.2.1 dX4_madeWrong_0 rfl (lv_at hl 1 rfl) ?_
  refine lv_aload_n C.1 C.2.1 dX4_madeWrong_1 rfl (lv_at hl 0 rfl) ?_
  refine k_get C Wd KX4 0 1 rfl (by decide) fl_X4_39 rfl dX4_madeWrong_2 ?_
  refine k_pi (k_runV (rest := []) C aks Wd cs_X4_120 (kcX8_isLike l D h1 h3 h9 h12 _ ) [1, 2] rfl (by decide) [] rfl 1 8 rfl rfl rfl rfl rfl ⟨(Nat.le_of_ble_eq_true rfl), (Nat.le_of_ble_eq_true rfl)⟩ hl.1 rfl rfl (Nat.le_of_ble_eq_true rfl) ⟨(Nat.le_of_ble_eq_true rfl), (Nat.le_of_ble_eq_true rfl)⟩ dX4_madeWrong_5) (fun r w1890 => ?_)
  obtain rfl := w1890
  refine lv_if_ne (tgt := 31) C.1 C.2.1 dX4_madeWrong_8 (by decide) (fun _ => ?_) (fun c1891 => absurd c1891 (by decide))
  refine lv_iconst (v := 0) C.1 C.2.1 dX4_madeWrong_31 (by decide) ?_
  exact k_zretP C hr hlk rfl rfl dX4_madeWrong_32
set_option maxHeartbeats 4000000 in
set_option maxRecDepth 100000 in
theorem kcX4_makeOf_v1 (l : Launch) (D : va_G) (h0 h1 h2 h3 h4 h5 h6 h7 h8 h9 h12 : Nat) (a2 : ClassId) (sz : Nat)  : Met l yX4_makeOf (Cond.code yX4_makeOf cX4_makeOf 5 (some .boolean) :: gG) { frames := 3, cells := 0, slots := 0, locals := 109 } (cPre D [(a2, .int)] [(h0, .inr (4, [.ref h2, .ref h3, .ref h1, .int (-1), .int (-1), .ref h4, .ref h5, .ref h6, .ref h7, .ref h8])), (h1, .inr (8, [.ref h9, .int 0])), (h3, .inr (8, [.ref h12, .int 0])), (h6, .inl (a2, 6, .inl (fun _ => 0)))] sz [.ref h0, .int 1, .ref h1]) (va_Qi (fun (r : Int32) (_ : Unit) => r = 1) (fun u t => cB D (va_A [(h0, .inr (4, [.ref h2, .ref h3, .ref h1, .int (-1), .int (-1), .ref h4, .ref h5, .ref h6, .ref h7, .ref h8])), (h1, .inr (8, [.ref h9, .int 0])), (h3, .inr (8, [.ref h12, .int 0])), (h6, .inl (a2, 6, .inl (fun _ => 0)))] sz) ((fun (_ : Unit) => ([] : List (ClassId × FieldType))) u) ((fun (_ : Unit) => ([(h0, .inr (4, [.ref h2, .ref h3, .ref h1, .int (-1), .int (-1), .ref h4, .ref h5, .ref h6, .ref h7, .ref h8])), (h1, .inr (8, [.ref h9, .int 0])), (h3, .inr (8, [.ref h12, .int 0])), (h6, .inl (a2, 6, .inl (fun _ => 0)))] : va_W)) u) t) (va_A [(h0, .inr (4, [.ref h2, .ref h3, .ref h1, .int (-1), .int (-1), .ref h4, .ref h5, .ref h6, .ref h7, .ref h8])), (h1, .inr (8, [.ref h9, .int 0])), (h3, .inr (8, [.ref h12, .int 0])), (h6, .inl (a2, 6, .inl (fun _ => 0)))] sz)) 0 0 (va_A [(h0, .inr (4, [.ref h2, .ref h3, .ref h1, .int (-1), .int (-1), .ref h4, .ref h5, .ref h6, .ref h7, .ref h8])), (h1, .inr (8, [.ref h9, .int 0])), (h3, .inr (8, [.ref h12, .int 0])), (h6, .inl (a2, 6, .inl (fun _ => 0)))] sz) := by
  refine Met.ofW (cc := cX4_makeOf) (maxL := 5) (ret := (some .boolean)) (by decide) rfl ?_
  intro p e s m args below meth c s₁ B hml hv
  obtain ⟨rfl, aks, rfl, Wd⟩ := k_enter hv
  have C : CallFix p m c cX4_makeOf 5 s _ gG RX4 := ⟨B.exec, B.bytes, hml, findClass_of_methodNamed B.named, fun w h => atoms_spec (ws := Cond.code yX4_makeOf cX4_makeOf 5 (some .boolean) :: gG) B.pre w (List.mem_cons_of_mem _ h)⟩
  have hr := B.returns
  have hlk := B.notSynchronized
  generalize va_A [(h0, .inr (4, [.ref h2, .ref h3, .ref h1, .int (-1), .int (-1), .ref h4, .ref h5, .ref h6, .ref h7, .ref h8])), (h1, .inr (8, [.ref h9, .int 0])), (h3, .inr (8, [.ref h12, .int 0])), (h6, .inl (a2, 6, .inl (fun _ => 0)))] s.heap.size = A at Wd ⊢
  refine k_locals (Nat.le_of_ble_eq_true rfl) [(0, .ref h0), (1, .int 1), (2, .ref h1)] rfl (fun ls hl => ?_)
  refine lv_iload_n C.1 C.2.1 dX4_makeOf_0 rfl (lv_at hl 1 rfl) ?_
  refine k_pi (k_runS (rest := []) C aks Wd cs_X4_63 (kcX4_isPass l D 1 _ ) [] rfl (by decide) [] rfl rfl rfl ⟨(Nat.le_of_ble_eq_true rfl), (Nat.le_of_ble_eq_true rfl)⟩ hl.1 rfl rfl (Nat.le_of_ble_eq_true rfl) ⟨(Nat.le_of_ble_eq_true rfl), (Nat.le_of_ble_eq_true rfl)⟩ dX4_makeOf_1) (fun r w1906 => ?_)
  rcases w1906 with ⟨c1907, rfl⟩ | ⟨c1908, c1909, rfl⟩ | ⟨c1910, c1911, rfl⟩
  · exact absurd c1907 (by decide)
  · exact absurd c1909 (by decide)
  · refine lv_if_ne (tgt := 9) C.1 C.2.1 dX4_makeOf_4 (by decide) (fun _ => ?_) (fun c1912 => absurd c1912 (by decide))
    refine lv_aload_n C.1 C.2.1 dX4_makeOf_9 rfl (lv_at hl 0 rfl) ?_
    refine k_get C Wd KX4 0 1 rfl (by decide) fl_X4_39 rfl dX4_makeOf_10 ?_
    refine lv_aload_n C.1 C.2.1 dX4_makeOf_13 rfl (lv_at hl 2 rfl) ?_
    refine k_cv Wd [1, 2] [0, 3] rfl (wr := [(h0, .inr (4, [.ref h2, .ref h3, .ref h1, .int (-1), .int (-1), .ref h4, .ref h5, .ref h6, .ref h7, .ref h8])), (h6, .inl (a2, 6, .inl (fun _ => 0)))]) rfl (by decide) (by decide) (cells' := 0) (slots' := 0) (by decide) (by decide) (k_runV (rest := []) C aks Wd cs_X4_67 (kcX8_copy l D h3 h1 h12 h9 _ ) [1, 2] rfl (by decide) [] rfl 2 8 rfl rfl rfl rfl rfl ⟨(Nat.le_of_ble_eq_true rfl), (Nat.le_of_ble_eq_true rfl)⟩ hl.1 rfl rfl (Nat.le_of_ble_eq_true rfl) ⟨(Nat.le_of_ble_eq_true rfl), (Nat.le_of_ble_eq_true rfl)⟩ dX4_makeOf_14) (fun _ H locs w1913 Wd => ?_)
    have Wd : wX D [(a2, .int)] s [(h0, .inr (4, [.ref h2, .ref h3, .ref h1, .int (-1), .int (-1), .ref h4, .ref h5, .ref h6, .ref h7, .ref h8])), (h6, .inl (a2, 6, .inl (fun _ => 0))), (h1, .inr (8, [.ref h9, .int 0])), (h3, .inr (8, [.ref h12, .int 0]))] _ A s.heap _ := Wd
    refine lv_iconst (v := 0) C.1 C.2.1 dX4_makeOf_17 (by decide) ?_
    refine lv_istore_n (lv' := [(3, .int 0), (0, .ref h0), (1, .int 1), (2, .ref h1)]) C.1 C.2.1 dX4_makeOf_18 rfl hl (by decide) rfl (fun ls hl => ?_)
    refine lv_iload_n C.1 C.2.1 dX4_makeOf_19 rfl (lv_at hl 0 rfl) ?_
    refine lv_aload_n C.1 C.2.1 dX4_makeOf_20 rfl (lv_at hl 1 rfl) ?_
    refine k_get C Wd KX4 0 7 rfl (by decide) fl_X4_23 rfl dX4_makeOf_21 ?_
    refine lv_iload_n C.1 C.2.1 dX4_makeOf_24 rfl (lv_at hl 2 rfl) ?_
    refine k_iald (v := 0) C Wd 1 0 rfl rfl (vp_in_iff.mpr (by decide)) rfl dX4_makeOf_25 ?_
    refine lv_icmp_ge (tgt := 191) C.1 C.2.1 dX4_makeOf_26 (by decide) (fun _ => ?_) (fun c1914 => absurd c1914 (by decide))
    refine lv_iconst (v := 1) C.1 C.2.1 dX4_makeOf_191 (by decide) ?_
    exact k_zret C hr hlk rfl Wd () rfl [0, 2, 3, 1] rfl (by decide) [] rfl (by decide) (by decide) dX4_makeOf_192
set_option maxHeartbeats 4000000 in
set_option maxRecDepth 100000 in
theorem kcX4_makeOf_v2 (l : Launch) (D : va_G) (h0 h1 h2 h3 h4 h5 h6 h7 h8 h9 h12 : Nat) (a2 : ClassId) (sz : Nat)  : Met l yX4_makeOf (Cond.code yX4_makeOf cX4_makeOf 5 (some .boolean) :: gG) { frames := 3, cells := 0, slots := 0, locals := 109 } (cPre D [(a2, .int)] [(h0, .inr (4, [.ref h2, .ref h3, .ref h1, .int (-1), .int (-1), .ref h4, .ref h5, .ref h6, .ref h7, .ref h8])), (h1, .inr (8, [.ref h9, .int 0])), (h3, .inr (8, [.ref h12, .int 0])), (h6, .inl (a2, 6, .inl (fun _ => 0)))] sz [.ref h0, .int 2, .ref h1]) (va_Qi (fun (r : Int32) (_ : Unit) => r = 1) (fun u t => cB D (va_A [(h0, .inr (4, [.ref h2, .ref h3, .ref h1, .int (-1), .int (-1), .ref h4, .ref h5, .ref h6, .ref h7, .ref h8])), (h1, .inr (8, [.ref h9, .int 0])), (h3, .inr (8, [.ref h12, .int 0])), (h6, .inl (a2, 6, .inl (fun _ => 0)))] sz) ((fun (_ : Unit) => ([] : List (ClassId × FieldType))) u) ((fun (_ : Unit) => ([(h0, .inr (4, [.ref h2, .ref h3, .ref h1, .int (-1), .int (-1), .ref h4, .ref h5, .ref h6, .ref h7, .ref h8])), (h1, .inr (8, [.ref h9, .int 0])), (h3, .inr (8, [.ref h12, .int 0])), (h6, .inl (a2, 6, .inl (fun _ => 0)))] : va_W)) u) t) (va_A [(h0, .inr (4, [.ref h2, .ref h3, .ref h1, .int (-1), .int (-1), .ref h4, .ref h5, .ref h6, .ref h7, .ref h8])), (h1, .inr (8, [.ref h9, .int 0])), (h3, .inr (8, [.ref h12, .int 0])), (h6, .inl (a2, 6, .inl (fun _ => 0)))] sz)) 0 0 (va_A [(h0, .inr (4, [.ref h2, .ref h3, .ref h1, .int (-1), .int (-1), .ref h4, .ref h5, .ref h6, .ref h7, .ref h8])), (h1, .inr (8, [.ref h9, .int 0])), (h3, .inr (8, [.ref h12, .int 0])), (h6, .inl (a2, 6, .inl (fun _ => 0)))] sz) := by
  refine Met.ofW (cc := cX4_makeOf) (maxL := 5) (ret := (some .boolean)) (by decide) rfl ?_
  intro p e s m args below meth c s₁ B hml hv
  obtain ⟨rfl, aks, rfl, Wd⟩ := k_enter hv
  have C : CallFix p m c cX4_makeOf 5 s _ gG RX4 := ⟨B.exec, B.bytes, hml, findClass_of_methodNamed B.named, fun w h => atoms_spec (ws := Cond.code yX4_makeOf cX4_makeOf 5 (some .boolean) :: gG) B.pre w (List.mem_cons_of_mem _ h)⟩
  have hr := B.returns
  have hlk := B.notSynchronized
  generalize va_A [(h0, .inr (4, [.ref h2, .ref h3, .ref h1, .int (-1), .int (-1), .ref h4, .ref h5, .ref h6, .ref h7, .ref h8])), (h1, .inr (8, [.ref h9, .int 0])), (h3, .inr (8, [.ref h12, .int 0])), (h6, .inl (a2, 6, .inl (fun _ => 0)))] s.heap.size = A at Wd ⊢
  refine k_locals (Nat.le_of_ble_eq_true rfl) [(0, .ref h0), (1, .int 2), (2, .ref h1)] rfl (fun ls hl => ?_)
  refine lv_iload_n C.1 C.2.1 dX4_makeOf_0 rfl (lv_at hl 1 rfl) ?_
  refine k_pi (k_runS (rest := []) C aks Wd cs_X4_63 (kcX4_isPass l D 2 _ ) [] rfl (by decide) [] rfl rfl rfl ⟨(Nat.le_of_ble_eq_true rfl), (Nat.le_of_ble_eq_true rfl)⟩ hl.1 rfl rfl (Nat.le_of_ble_eq_true rfl) ⟨(Nat.le_of_ble_eq_true rfl), (Nat.le_of_ble_eq_true rfl)⟩ dX4_makeOf_1) (fun r w1931 => ?_)
  rcases w1931 with ⟨c1932, rfl⟩ | ⟨c1933, c1934, rfl⟩ | ⟨c1935, c1936, rfl⟩
  · exact absurd c1932 (by decide)
  · exact absurd c1934 (by decide)
  · refine lv_if_ne (tgt := 9) C.1 C.2.1 dX4_makeOf_4 (by decide) (fun _ => ?_) (fun c1937 => absurd c1937 (by decide))
    refine lv_aload_n C.1 C.2.1 dX4_makeOf_9 rfl (lv_at hl 0 rfl) ?_
    refine k_get C Wd KX4 0 1 rfl (by decide) fl_X4_39 rfl dX4_makeOf_10 ?_
    refine lv_aload_n C.1 C.2.1 dX4_makeOf_13 rfl (lv_at hl 2 rfl) ?_
    refine k_cv Wd [1, 2] [0, 3] rfl (wr := [(h0, .inr (4, [.ref h2, .ref h3, .ref h1, .int (-1), .int (-1), .ref h4, .ref h5, .ref h6, .ref h7, .ref h8])), (h6, .inl (a2, 6, .inl (fun _ => 0)))]) rfl (by decide) (by decide) (cells' := 0) (slots' := 0) (by decide) (by decide) (k_runV (rest := []) C aks Wd cs_X4_67 (kcX8_copy l D h3 h1 h12 h9 _ ) [1, 2] rfl (by decide) [] rfl 2 8 rfl rfl rfl rfl rfl ⟨(Nat.le_of_ble_eq_true rfl), (Nat.le_of_ble_eq_true rfl)⟩ hl.1 rfl rfl (Nat.le_of_ble_eq_true rfl) ⟨(Nat.le_of_ble_eq_true rfl), (Nat.le_of_ble_eq_true rfl)⟩ dX4_makeOf_14) (fun _ H locs w1938 Wd => ?_)
    have Wd : wX D [(a2, .int)] s [(h0, .inr (4, [.ref h2, .ref h3, .ref h1, .int (-1), .int (-1), .ref h4, .ref h5, .ref h6, .ref h7, .ref h8])), (h6, .inl (a2, 6, .inl (fun _ => 0))), (h1, .inr (8, [.ref h9, .int 0])), (h3, .inr (8, [.ref h12, .int 0]))] _ A s.heap _ := Wd
    refine lv_iconst (v := 0) C.1 C.2.1 dX4_makeOf_17 (by decide) ?_
    refine lv_istore_n (lv' := [(3, .int 0), (0, .ref h0), (1, .int 2), (2, .ref h1)]) C.1 C.2.1 dX4_makeOf_18 rfl hl (by decide) rfl (fun ls hl => ?_)
    refine lv_iload_n C.1 C.2.1 dX4_makeOf_19 rfl (lv_at hl 0 rfl) ?_
    refine lv_aload_n C.1 C.2.1 dX4_makeOf_20 rfl (lv_at hl 1 rfl) ?_
    refine k_get C Wd KX4 0 7 rfl (by decide) fl_X4_23 rfl dX4_makeOf_21 ?_
    refine lv_iload_n C.1 C.2.1 dX4_makeOf_24 rfl (lv_at hl 2 rfl) ?_
    refine k_iald (v := 0) C Wd 1 0 rfl rfl (vp_in_iff.mpr (by decide)) rfl dX4_makeOf_25 ?_
    refine lv_icmp_ge (tgt := 191) C.1 C.2.1 dX4_makeOf_26 (by decide) (fun _ => ?_) (fun c1939 => absurd c1939 (by decide))
    refine lv_iconst (v := 1) C.1 C.2.1 dX4_makeOf_191 (by decide) ?_
    exact k_zret C hr hlk rfl Wd () rfl [0, 2, 3, 1] rfl (by decide) [] rfl (by decide) (by decide) dX4_makeOf_192
set_option maxHeartbeats 4000000 in
set_option maxRecDepth 100000 in
theorem kcX4_makeOf_v3 (l : Launch) (D : va_G) (h0 h1 h2 h3 h4 h5 h6 h7 h8 h9 h12 : Nat) (a2 : ClassId) (sz : Nat)  : Met l yX4_makeOf (Cond.code yX4_makeOf cX4_makeOf 5 (some .boolean) :: gG) { frames := 3, cells := 0, slots := 0, locals := 109 } (cPre D [(a2, .int)] [(h0, .inr (4, [.ref h2, .ref h3, .ref h1, .int (-1), .int (-1), .ref h4, .ref h5, .ref h6, .ref h7, .ref h8])), (h1, .inr (8, [.ref h9, .int 0])), (h3, .inr (8, [.ref h12, .int 0])), (h6, .inl (a2, 6, .inl (fun _ => 0)))] sz [.ref h0, .int 3, .ref h1]) (va_Qi (fun (r : Int32) (_ : Unit) => r = 1) (fun u t => cB D (va_A [(h0, .inr (4, [.ref h2, .ref h3, .ref h1, .int (-1), .int (-1), .ref h4, .ref h5, .ref h6, .ref h7, .ref h8])), (h1, .inr (8, [.ref h9, .int 0])), (h3, .inr (8, [.ref h12, .int 0])), (h6, .inl (a2, 6, .inl (fun _ => 0)))] sz) ((fun (_ : Unit) => ([] : List (ClassId × FieldType))) u) ((fun (_ : Unit) => ([(h0, .inr (4, [.ref h2, .ref h3, .ref h1, .int (-1), .int (-1), .ref h4, .ref h5, .ref h6, .ref h7, .ref h8])), (h1, .inr (8, [.ref h9, .int 0])), (h3, .inr (8, [.ref h12, .int 0])), (h6, .inl (a2, 6, .inl (fun _ => 0)))] : va_W)) u) t) (va_A [(h0, .inr (4, [.ref h2, .ref h3, .ref h1, .int (-1), .int (-1), .ref h4, .ref h5, .ref h6, .ref h7, .ref h8])), (h1, .inr (8, [.ref h9, .int 0])), (h3, .inr (8, [.ref h12, .int 0])), (h6, .inl (a2, 6, .inl (fun _ => 0)))] sz)) 0 0 (va_A [(h0, .inr (4, [.ref h2, .ref h3, .ref h1, .int (-1), .int (-1), .ref h4, .ref h5, .ref h6, .ref h7, .ref h8])), (h1, .inr (8, [.ref h9, .int 0])), (h3, .inr (8, [.ref h12, .int 0])), (h6, .inl (a2, 6, .inl (fun _ => 0)))] sz) := by
  refine Met.ofW (cc := cX4_makeOf) (maxL := 5) (ret := (some .boolean)) (by decide) rfl ?_
  intro p e s m args below meth c s₁ B hml hv
  obtain ⟨rfl, aks, rfl, Wd⟩ := k_enter hv
  have C : CallFix p m c cX4_makeOf 5 s _ gG RX4 := ⟨B.exec, B.bytes, hml, findClass_of_methodNamed B.named, fun w h => atoms_spec (ws := Cond.code yX4_makeOf cX4_makeOf 5 (some .boolean) :: gG) B.pre w (List.mem_cons_of_mem _ h)⟩
  have hr := B.returns
  have hlk := B.notSynchronized
  generalize va_A [(h0, .inr (4, [.ref h2, .ref h3, .ref h1, .int (-1), .int (-1), .ref h4, .ref h5, .ref h6, .ref h7, .ref h8])), (h1, .inr (8, [.ref h9, .int 0])), (h3, .inr (8, [.ref h12, .int 0])), (h6, .inl (a2, 6, .inl (fun _ => 0)))] s.heap.size = A at Wd ⊢
  refine k_locals (Nat.le_of_ble_eq_true rfl) [(0, .ref h0), (1, .int 3), (2, .ref h1)] rfl (fun ls hl => ?_)
  refine lv_iload_n C.1 C.2.1 dX4_makeOf_0 rfl (lv_at hl 1 rfl) ?_
  refine k_pi (k_runS (rest := []) C aks Wd cs_X4_63 (kcX4_isPass l D 3 _ ) [] rfl (by decide) [] rfl rfl rfl ⟨(Nat.le_of_ble_eq_true rfl), (Nat.le_of_ble_eq_true rfl)⟩ hl.1 rfl rfl (Nat.le_of_ble_eq_true rfl) ⟨(Nat.le_of_ble_eq_true rfl), (Nat.le_of_ble_eq_true rfl)⟩ dX4_makeOf_1) (fun r w1956 => ?_)
  rcases w1956 with ⟨c1957, rfl⟩ | ⟨c1958, c1959, rfl⟩ | ⟨c1960, c1961, rfl⟩
  · exact absurd c1957 (by decide)
  · exact absurd c1959 (by decide)
  · refine lv_if_ne (tgt := 9) C.1 C.2.1 dX4_makeOf_4 (by decide) (fun _ => ?_) (fun c1962 => absurd c1962 (by decide))
    refine lv_aload_n C.1 C.2.1 dX4_makeOf_9 rfl (lv_at hl 0 rfl) ?_
    refine k_get C Wd KX4 0 1 rfl (by decide) fl_X4_39 rfl dX4_makeOf_10 ?_
    refine lv_aload_n C.1 C.2.1 dX4_makeOf_13 rfl (lv_at hl 2 rfl) ?_
    refine k_cv Wd [1, 2] [0, 3] rfl (wr := [(h0, .inr (4, [.ref h2, .ref h3, .ref h1, .int (-1), .int (-1), .ref h4, .ref h5, .ref h6, .ref h7, .ref h8])), (h6, .inl (a2, 6, .inl (fun _ => 0)))]) rfl (by decide) (by decide) (cells' := 0) (slots' := 0) (by decide) (by decide) (k_runV (rest := []) C aks Wd cs_X4_67 (kcX8_copy l D h3 h1 h12 h9 _ ) [1, 2] rfl (by decide) [] rfl 2 8 rfl rfl rfl rfl rfl ⟨(Nat.le_of_ble_eq_true rfl), (Nat.le_of_ble_eq_true rfl)⟩ hl.1 rfl rfl (Nat.le_of_ble_eq_true rfl) ⟨(Nat.le_of_ble_eq_true rfl), (Nat.le_of_ble_eq_true rfl)⟩ dX4_makeOf_14) (fun _ H locs w1963 Wd => ?_)
    have Wd : wX D [(a2, .int)] s [(h0, .inr (4, [.ref h2, .ref h3, .ref h1, .int (-1), .int (-1), .ref h4, .ref h5, .ref h6, .ref h7, .ref h8])), (h6, .inl (a2, 6, .inl (fun _ => 0))), (h1, .inr (8, [.ref h9, .int 0])), (h3, .inr (8, [.ref h12, .int 0]))] _ A s.heap _ := Wd
    refine lv_iconst (v := 0) C.1 C.2.1 dX4_makeOf_17 (by decide) ?_
    refine lv_istore_n (lv' := [(3, .int 0), (0, .ref h0), (1, .int 3), (2, .ref h1)]) C.1 C.2.1 dX4_makeOf_18 rfl hl (by decide) rfl (fun ls hl => ?_)
    refine lv_iload_n C.1 C.2.1 dX4_makeOf_19 rfl (lv_at hl 0 rfl) ?_
    refine lv_aload_n C.1 C.2.1 dX4_makeOf_20 rfl (lv_at hl 1 rfl) ?_
    refine k_get C Wd KX4 0 7 rfl (by decide) fl_X4_23 rfl dX4_makeOf_21 ?_
    refine lv_iload_n C.1 C.2.1 dX4_makeOf_24 rfl (lv_at hl 2 rfl) ?_
    refine k_iald (v := 0) C Wd 1 0 rfl rfl (vp_in_iff.mpr (by decide)) rfl dX4_makeOf_25 ?_
    refine lv_icmp_ge (tgt := 191) C.1 C.2.1 dX4_makeOf_26 (by decide) (fun _ => ?_) (fun c1964 => absurd c1964 (by decide))
    refine lv_iconst (v := 1) C.1 C.2.1 dX4_makeOf_191 (by decide) ?_
    exact k_zret C hr hlk rfl Wd () rfl [0, 2, 3, 1] rfl (by decide) [] rfl (by decide) (by decide) dX4_makeOf_192
set_option maxHeartbeats 4000000 in
set_option maxRecDepth 100000 in
theorem kcX4_makeOf_v4 (l : Launch) (D : va_G) (h0 h1 h2 h3 h4 h5 h6 h7 h8 h9 h12 : Nat) (a2 : ClassId) (sz : Nat)  : Met l yX4_makeOf (Cond.code yX4_makeOf cX4_makeOf 5 (some .boolean) :: gG) { frames := 3, cells := 0, slots := 0, locals := 109 } (cPre D [(a2, .int)] [(h0, .inr (4, [.ref h2, .ref h3, .ref h1, .int (-1), .int (-1), .ref h4, .ref h5, .ref h6, .ref h7, .ref h8])), (h1, .inr (8, [.ref h9, .int 0])), (h3, .inr (8, [.ref h12, .int 0])), (h6, .inl (a2, 6, .inl (fun _ => 0)))] sz [.ref h0, .int 4, .ref h1]) (va_Qi (fun (r : Int32) (_ : Unit) => r = 1) (fun u t => cB D (va_A [(h0, .inr (4, [.ref h2, .ref h3, .ref h1, .int (-1), .int (-1), .ref h4, .ref h5, .ref h6, .ref h7, .ref h8])), (h1, .inr (8, [.ref h9, .int 0])), (h3, .inr (8, [.ref h12, .int 0])), (h6, .inl (a2, 6, .inl (fun _ => 0)))] sz) ((fun (_ : Unit) => ([] : List (ClassId × FieldType))) u) ((fun (_ : Unit) => ([(h0, .inr (4, [.ref h2, .ref h3, .ref h1, .int (-1), .int (-1), .ref h4, .ref h5, .ref h6, .ref h7, .ref h8])), (h1, .inr (8, [.ref h9, .int 0])), (h3, .inr (8, [.ref h12, .int 0])), (h6, .inl (a2, 6, .inl (fun _ => 0)))] : va_W)) u) t) (va_A [(h0, .inr (4, [.ref h2, .ref h3, .ref h1, .int (-1), .int (-1), .ref h4, .ref h5, .ref h6, .ref h7, .ref h8])), (h1, .inr (8, [.ref h9, .int 0])), (h3, .inr (8, [.ref h12, .int 0])), (h6, .inl (a2, 6, .inl (fun _ => 0)))] sz)) 0 0 (va_A [(h0, .inr (4, [.ref h2, .ref h3, .ref h1, .int (-1), .int (-1), .ref h4, .ref h5, .ref h6, .ref h7, .ref h8])), (h1, .inr (8, [.ref h9, .int 0])), (h3, .inr (8, [.ref h12, .int 0])), (h6, .inl (a2, 6, .inl (fun _ => 0)))] sz) := by
  refine Met.ofW (cc := cX4_makeOf) (maxL := 5) (ret := (some .boolean)) (by decide) rfl ?_
  intro p e s m args below meth c s₁ B hml hv
  obtain ⟨rfl, aks, rfl, Wd⟩ := k_enter hv
  have C : CallFix p m c cX4_makeOf 5 s _ gG RX4 := ⟨B.exec, B.bytes, hml, findClass_of_methodNamed B.named, fun w h => atoms_spec (ws := Cond.code yX4_makeOf cX4_makeOf 5 (some .boolean) :: gG) B.pre w (List.mem_cons_of_mem _ h)⟩
  have hr := B.returns
  have hlk := B.notSynchronized
  generalize va_A [(h0, .inr (4, [.ref h2, .ref h3, .ref h1, .int (-1), .int (-1), .ref h4, .ref h5, .ref h6, .ref h7, .ref h8])), (h1, .inr (8, [.ref h9, .int 0])), (h3, .inr (8, [.ref h12, .int 0])), (h6, .inl (a2, 6, .inl (fun _ => 0)))] s.heap.size = A at Wd ⊢
  refine k_locals (Nat.le_of_ble_eq_true rfl) [(0, .ref h0), (1, .int 4), (2, .ref h1)] rfl (fun ls hl => ?_)
  refine lv_iload_n C.1 C.2.1 dX4_makeOf_0 rfl (lv_at hl 1 rfl) ?_
  refine k_pi (k_runS (rest := []) C aks Wd cs_X4_63 (kcX4_isPass l D 4 _ ) [] rfl (by decide) [] rfl rfl rfl ⟨(Nat.le_of_ble_eq_true rfl), (Nat.le_of_ble_eq_true rfl)⟩ hl.1 rfl rfl (Nat.le_of_ble_eq_true rfl) ⟨(Nat.le_of_ble_eq_true rfl), (Nat.le_of_ble_eq_true rfl)⟩ dX4_makeOf_1) (fun r w1981 => ?_)
  rcases w1981 with ⟨c1982, rfl⟩ | ⟨c1983, c1984, rfl⟩ | ⟨c1985, c1986, rfl⟩
  · exact absurd c1982 (by decide)
  · exact absurd c1984 (by decide)
  · refine lv_if_ne (tgt := 9) C.1 C.2.1 dX4_makeOf_4 (by decide) (fun _ => ?_) (fun c1987 => absurd c1987 (by decide))
    refine lv_aload_n C.1 C.2.1 dX4_makeOf_9 rfl (lv_at hl 0 rfl) ?_
    refine k_get C Wd KX4 0 1 rfl (by decide) fl_X4_39 rfl dX4_makeOf_10 ?_
    refine lv_aload_n C.1 C.2.1 dX4_makeOf_13 rfl (lv_at hl 2 rfl) ?_
    refine k_cv Wd [1, 2] [0, 3] rfl (wr := [(h0, .inr (4, [.ref h2, .ref h3, .ref h1, .int (-1), .int (-1), .ref h4, .ref h5, .ref h6, .ref h7, .ref h8])), (h6, .inl (a2, 6, .inl (fun _ => 0)))]) rfl (by decide) (by decide) (cells' := 0) (slots' := 0) (by decide) (by decide) (k_runV (rest := []) C aks Wd cs_X4_67 (kcX8_copy l D h3 h1 h12 h9 _ ) [1, 2] rfl (by decide) [] rfl 2 8 rfl rfl rfl rfl rfl ⟨(Nat.le_of_ble_eq_true rfl), (Nat.le_of_ble_eq_true rfl)⟩ hl.1 rfl rfl (Nat.le_of_ble_eq_true rfl) ⟨(Nat.le_of_ble_eq_true rfl), (Nat.le_of_ble_eq_true rfl)⟩ dX4_makeOf_14) (fun _ H locs w1988 Wd => ?_)
    have Wd : wX D [(a2, .int)] s [(h0, .inr (4, [.ref h2, .ref h3, .ref h1, .int (-1), .int (-1), .ref h4, .ref h5, .ref h6, .ref h7, .ref h8])), (h6, .inl (a2, 6, .inl (fun _ => 0))), (h1, .inr (8, [.ref h9, .int 0])), (h3, .inr (8, [.ref h12, .int 0]))] _ A s.heap _ := Wd
    refine lv_iconst (v := 0) C.1 C.2.1 dX4_makeOf_17 (by decide) ?_
    refine lv_istore_n (lv' := [(3, .int 0), (0, .ref h0), (1, .int 4), (2, .ref h1)]) C.1 C.2.1 dX4_makeOf_18 rfl hl (by decide) rfl (fun ls hl => ?_)
    refine lv_iload_n C.1 C.2.1 dX4_makeOf_19 rfl (lv_at hl 0 rfl) ?_
    refine lv_aload_n C.1 C.2.1 dX4_makeOf_20 rfl (lv_at hl 1 rfl) ?_
    refine k_get C Wd KX4 0 7 rfl (by decide) fl_X4_23 rfl dX4_makeOf_21 ?_
    refine lv_iload_n C.1 C.2.1 dX4_makeOf_24 rfl (lv_at hl 2 rfl) ?_
    refine k_iald (v := 0) C Wd 1 0 rfl rfl (vp_in_iff.mpr (by decide)) rfl dX4_makeOf_25 ?_
    refine lv_icmp_ge (tgt := 191) C.1 C.2.1 dX4_makeOf_26 (by decide) (fun _ => ?_) (fun c1989 => absurd c1989 (by decide))
    refine lv_iconst (v := 1) C.1 C.2.1 dX4_makeOf_191 (by decide) ?_
    exact k_zret C hr hlk rfl Wd () rfl [0, 2, 3, 1] rfl (by decide) [] rfl (by decide) (by decide) dX4_makeOf_192
set_option maxHeartbeats 4000000 in
set_option maxRecDepth 100000 in
theorem kcX4_makeOf_v5 (l : Launch) (D : va_G) (h0 h1 h2 h3 h4 h5 h6 h7 h8 h9 h12 : Nat) (a2 : ClassId) (sz : Nat)  : Met l yX4_makeOf (Cond.code yX4_makeOf cX4_makeOf 5 (some .boolean) :: gG) { frames := 3, cells := 0, slots := 0, locals := 109 } (cPre D [(a2, .int)] [(h0, .inr (4, [.ref h2, .ref h3, .ref h1, .int (-1), .int (-1), .ref h4, .ref h5, .ref h6, .ref h7, .ref h8])), (h1, .inr (8, [.ref h9, .int 0])), (h3, .inr (8, [.ref h12, .int 0])), (h6, .inl (a2, 6, .inl (fun _ => 0)))] sz [.ref h0, .int 5, .ref h1]) (va_Qi (fun (r : Int32) (_ : Unit) => r = 1) (fun u t => cB D (va_A [(h0, .inr (4, [.ref h2, .ref h3, .ref h1, .int (-1), .int (-1), .ref h4, .ref h5, .ref h6, .ref h7, .ref h8])), (h1, .inr (8, [.ref h9, .int 0])), (h3, .inr (8, [.ref h12, .int 0])), (h6, .inl (a2, 6, .inl (fun _ => 0)))] sz) ((fun (_ : Unit) => ([] : List (ClassId × FieldType))) u) ((fun (_ : Unit) => ([(h0, .inr (4, [.ref h2, .ref h3, .ref h1, .int (-1), .int (-1), .ref h4, .ref h5, .ref h6, .ref h7, .ref h8])), (h1, .inr (8, [.ref h9, .int 0])), (h3, .inr (8, [.ref h12, .int 0])), (h6, .inl (a2, 6, .inl (fun _ => 0)))] : va_W)) u) t) (va_A [(h0, .inr (4, [.ref h2, .ref h3, .ref h1, .int (-1), .int (-1), .ref h4, .ref h5, .ref h6, .ref h7, .ref h8])), (h1, .inr (8, [.ref h9, .int 0])), (h3, .inr (8, [.ref h12, .int 0])), (h6, .inl (a2, 6, .inl (fun _ => 0)))] sz)) 0 0 (va_A [(h0, .inr (4, [.ref h2, .ref h3, .ref h1, .int (-1), .int (-1), .ref h4, .ref h5, .ref h6, .ref h7, .ref h8])), (h1, .inr (8, [.ref h9, .int 0])), (h3, .inr (8, [.ref h12, .int 0])), (h6, .inl (a2, 6, .inl (fun _ => 0)))] sz) := by
  refine Met.ofW (cc := cX4_makeOf) (maxL := 5) (ret := (some .boolean)) (by decide) rfl ?_
  intro p e s m args below meth c s₁ B hml hv
  obtain ⟨rfl, aks, rfl, Wd⟩ := k_enter hv
  have C : CallFix p m c cX4_makeOf 5 s _ gG RX4 := ⟨B.exec, B.bytes, hml, findClass_of_methodNamed B.named, fun w h => atoms_spec (ws := Cond.code yX4_makeOf cX4_makeOf 5 (some .boolean) :: gG) B.pre w (List.mem_cons_of_mem _ h)⟩
  have hr := B.returns
  have hlk := B.notSynchronized
  generalize va_A [(h0, .inr (4, [.ref h2, .ref h3, .ref h1, .int (-1), .int (-1), .ref h4, .ref h5, .ref h6, .ref h7, .ref h8])), (h1, .inr (8, [.ref h9, .int 0])), (h3, .inr (8, [.ref h12, .int 0])), (h6, .inl (a2, 6, .inl (fun _ => 0)))] s.heap.size = A at Wd ⊢
  refine k_locals (Nat.le_of_ble_eq_true rfl) [(0, .ref h0), (1, .int 5), (2, .ref h1)] rfl (fun ls hl => ?_)
  refine lv_iload_n C.1 C.2.1 dX4_makeOf_0 rfl (lv_at hl 1 rfl) ?_
  refine k_pi (k_runS (rest := []) C aks Wd cs_X4_63 (kcX4_isPass l D 5 _ ) [] rfl (by decide) [] rfl rfl rfl ⟨(Nat.le_of_ble_eq_true rfl), (Nat.le_of_ble_eq_true rfl)⟩ hl.1 rfl rfl (Nat.le_of_ble_eq_true rfl) ⟨(Nat.le_of_ble_eq_true rfl), (Nat.le_of_ble_eq_true rfl)⟩ dX4_makeOf_1) (fun r w2006 => ?_)
  rcases w2006 with ⟨c2007, rfl⟩ | ⟨c2008, c2009, rfl⟩ | ⟨c2010, c2011, rfl⟩
  · exact absurd c2007 (by decide)
  · exact absurd c2009 (by decide)
  · refine lv_if_ne (tgt := 9) C.1 C.2.1 dX4_makeOf_4 (by decide) (fun _ => ?_) (fun c2012 => absurd c2012 (by decide))
    refine lv_aload_n C.1 C.2.1 dX4_makeOf_9 rfl (lv_at hl 0 rfl) ?_
    refine k_get C Wd KX4 0 1 rfl (by decide) fl_X4_39 rfl dX4_makeOf_10 ?_
    refine lv_aload_n C.1 C.2.1 dX4_makeOf_13 rfl (lv_at hl 2 rfl) ?_
    refine k_cv Wd [1, 2] [0, 3] rfl (wr := [(h0, .inr (4, [.ref h2, .ref h3, .ref h1, .int (-1), .int (-1), .ref h4, .ref h5, .ref h6, .ref h7, .ref h8])), (h6, .inl (a2, 6, .inl (fun _ => 0)))]) rfl (by decide) (by decide) (cells' := 0) (slots' := 0) (by decide) (by decide) (k_runV (rest := []) C aks Wd cs_X4_67 (kcX8_copy l D h3 h1 h12 h9 _ ) [1, 2] rfl (by decide) [] rfl 2 8 rfl rfl rfl rfl rfl ⟨(Nat.le_of_ble_eq_true rfl), (Nat.le_of_ble_eq_true rfl)⟩ hl.1 rfl rfl (Nat.le_of_ble_eq_true rfl) ⟨(Nat.le_of_ble_eq_true rfl), (Nat.le_of_ble_eq_true rfl)⟩ dX4_makeOf_14) (fun _ H locs w2013 Wd => ?_)
    have Wd : wX D [(a2, .int)] s [(h0, .inr (4, [.ref h2, .ref h3, .ref h1, .int (-1), .int (-1), .ref h4, .ref h5, .ref h6, .ref h7, .ref h8])), (h6, .inl (a2, 6, .inl (fun _ => 0))), (h1, .inr (8, [.ref h9, .int 0])), (h3, .inr (8, [.ref h12, .int 0]))] _ A s.heap _ := Wd
    refine lv_iconst (v := 0) C.1 C.2.1 dX4_makeOf_17 (by decide) ?_
    refine lv_istore_n (lv' := [(3, .int 0), (0, .ref h0), (1, .int 5), (2, .ref h1)]) C.1 C.2.1 dX4_makeOf_18 rfl hl (by decide) rfl (fun ls hl => ?_)
    refine lv_iload_n C.1 C.2.1 dX4_makeOf_19 rfl (lv_at hl 0 rfl) ?_
    refine lv_aload_n C.1 C.2.1 dX4_makeOf_20 rfl (lv_at hl 1 rfl) ?_
    refine k_get C Wd KX4 0 7 rfl (by decide) fl_X4_23 rfl dX4_makeOf_21 ?_
    refine lv_iload_n C.1 C.2.1 dX4_makeOf_24 rfl (lv_at hl 2 rfl) ?_
    refine k_iald (v := 0) C Wd 1 0 rfl rfl (vp_in_iff.mpr (by decide)) rfl dX4_makeOf_25 ?_
    refine lv_icmp_ge (tgt := 191) C.1 C.2.1 dX4_makeOf_26 (by decide) (fun _ => ?_) (fun c2014 => absurd c2014 (by decide))
    refine lv_iconst (v := 1) C.1 C.2.1 dX4_makeOf_191 (by decide) ?_
    exact k_zret C hr hlk rfl Wd () rfl [0, 2, 3, 1] rfl (by decide) [] rfl (by decide) (by decide) dX4_makeOf_192
set_option maxHeartbeats 4000000 in
set_option maxRecDepth 100000 in
theorem kcX4_findBad (l : Launch) (D : va_G) (h0 h1 h2 h3 h4 h5 h6 h7 h8 h9 h10 h13 h14 : Nat) (a2 : ClassId) (sz : Nat)  : Met l yX4_findBad (Cond.code yX4_findBad cX4_findBad 3 none :: gG) { frames := 4, cells := 0, slots := 0, locals := 133 } (cPre D [(a2, .int)] [(h0, .inr (4, [.ref h2, .ref h3, .ref h4, .int (-1), .int (-1), .ref h5, .ref h6, .ref h7, .ref h8, .ref h9])), (h1, .inr (8, [.ref h10, .int 0])), (h4, .inr (8, [.ref h14, .int 0])), (h3, .inr (8, [.ref h13, .int 0])), (h7, .inl (a2, 6, .inl (fun _ => 0)))] sz [.ref h0, .ref h1]) (va_Qv (fun (_ : Unit) => True) (fun u t => cB D (va_A [(h0, .inr (4, [.ref h2, .ref h3, .ref h4, .int (-1), .int (-1), .ref h5, .ref h6, .ref h7, .ref h8, .ref h9])), (h1, .inr (8, [.ref h10, .int 0])), (h4, .inr (8, [.ref h14, .int 0])), (h3, .inr (8, [.ref h13, .int 0])), (h7, .inl (a2, 6, .inl (fun _ => 0)))] sz) ((fun (_ : Unit) => ([] : List (ClassId × FieldType))) u) ((fun (_ : Unit) => ([(h0, .inr (4, [.ref h2, .ref h3, .ref h4, .int (-1), .int (-1), .ref h5, .ref h6, .ref h7, .ref h8, .ref h9])), (h1, .inr (8, [.ref h10, .int 0])), (h4, .inr (8, [.ref h14, .int 0])), (h3, .inr (8, [.ref h13, .int 0])), (h7, .inl (a2, 6, .inl (fun _ => 0)))] : va_W)) u) t) (va_A [(h0, .inr (4, [.ref h2, .ref h3, .ref h4, .int (-1), .int (-1), .ref h5, .ref h6, .ref h7, .ref h8, .ref h9])), (h1, .inr (8, [.ref h10, .int 0])), (h4, .inr (8, [.ref h14, .int 0])), (h3, .inr (8, [.ref h13, .int 0])), (h7, .inl (a2, 6, .inl (fun _ => 0)))] sz)) 0 0 (va_A [(h0, .inr (4, [.ref h2, .ref h3, .ref h4, .int (-1), .int (-1), .ref h5, .ref h6, .ref h7, .ref h8, .ref h9])), (h1, .inr (8, [.ref h10, .int 0])), (h4, .inr (8, [.ref h14, .int 0])), (h3, .inr (8, [.ref h13, .int 0])), (h7, .inl (a2, 6, .inl (fun _ => 0)))] sz) := by
  refine Met.ofW (cc := cX4_findBad) (maxL := 3) (ret := none) (by decide) rfl ?_
  intro p e s m args below meth c s₁ B hml hv
  obtain ⟨rfl, aks, rfl, Wd⟩ := k_enter hv
  have C : CallFix p m c cX4_findBad 3 s _ gG RX4 := ⟨B.exec, B.bytes, hml, findClass_of_methodNamed B.named, fun w h => atoms_spec (ws := Cond.code yX4_findBad cX4_findBad 3 none :: gG) B.pre w (List.mem_cons_of_mem _ h)⟩
  have hr := B.returns
  have hlk := B.notSynchronized
  generalize va_A [(h0, .inr (4, [.ref h2, .ref h3, .ref h4, .int (-1), .int (-1), .ref h5, .ref h6, .ref h7, .ref h8, .ref h9])), (h1, .inr (8, [.ref h10, .int 0])), (h4, .inr (8, [.ref h14, .int 0])), (h3, .inr (8, [.ref h13, .int 0])), (h7, .inl (a2, 6, .inl (fun _ => 0)))] s.heap.size = A at Wd ⊢
  refine k_locals (Nat.le_of_ble_eq_true rfl) [(0, .ref h0), (1, .ref h1)] rfl (fun ls hl => ?_)
  refine lv_aload_n C.1 C.2.1 dX4_findBad_0 rfl (lv_at hl 0 rfl) ?_
  refine lv_iconst (v := (-1)) C.1 C.2.1 dX4_findBad_1 (by decide) ?_
  refine k_put C Wd KX4 0 3 [(h0, .inr (4, [.ref h2, .ref h3, .ref h4, .int (-1), .int (-1), .ref h5, .ref h6, .ref h7, .ref h8, .ref h9])), (h1, .inr (8, [.ref h10, .int 0])), (h4, .inr (8, [.ref h14, .int 0])), (h3, .inr (8, [.ref h13, .int 0])), (h7, .inl (a2, 6, .inl (fun _ => 0)))] rfl (by decide) fl_X4_56 rfl rfl rfl (Nat.le_of_ble_eq_true rfl) rfl dX4_findBad_2 (fun H locs Wd => ?_)
  refine lv_aload_n C.1 C.2.1 dX4_findBad_5 rfl (lv_at hl 0 rfl) ?_
  refine lv_iconst (v := (-1)) C.1 C.2.1 dX4_findBad_6 (by decide) ?_
  refine k_put C Wd KX4 0 4 [(h0, .inr (4, [.ref h2, .ref h3, .ref h4, .int (-1), .int (-1), .ref h5, .ref h6, .ref h7, .ref h8, .ref h9])), (h1, .inr (8, [.ref h10, .int 0])), (h4, .inr (8, [.ref h14, .int 0])), (h3, .inr (8, [.ref h13, .int 0])), (h7, .inl (a2, 6, .inl (fun _ => 0)))] rfl (by decide) fl_X4_60 rfl rfl rfl (Nat.le_of_ble_eq_true rfl) rfl dX4_findBad_7 (fun H locs Wd => ?_)
  refine lv_aload_n C.1 C.2.1 dX4_findBad_10 rfl (lv_at hl 0 rfl) ?_
  refine k_get C Wd KX4 0 2 rfl (by decide) fl_X4_43 rfl dX4_findBad_11 ?_
  refine lv_aload_n C.1 C.2.1 dX4_findBad_14 rfl (lv_at hl 1 rfl) ?_
  refine k_cv Wd [1, 2] [0, 3, 4] rfl (wr := [(h0, .inr (4, [.ref h2, .ref h3, .ref h4, .int (-1), .int (-1), .ref h5, .ref h6, .ref h7, .ref h8, .ref h9])), (h3, .inr (8, [.ref h13, .int 0])), (h7, .inl (a2, 6, .inl (fun _ => 0)))]) rfl (by decide) (by decide) (cells' := 0) (slots' := 0) (by decide) (by decide) (k_runV (rest := []) C aks Wd cs_X4_67 (kcX8_copy l D h4 h1 h14 h10 _ ) [1, 2] rfl (by decide) [] rfl 2 8 rfl rfl rfl rfl rfl ⟨(Nat.le_of_ble_eq_true rfl), (Nat.le_of_ble_eq_true rfl)⟩ hl.1 rfl rfl (Nat.le_of_ble_eq_true rfl) ⟨(Nat.le_of_ble_eq_true rfl), (Nat.le_of_ble_eq_true rfl)⟩ dX4_findBad_15) (fun _ H locs w2021 Wd => ?_)
  have Wd : wX D [(a2, .int)] s [(h0, .inr (4, [.ref h2, .ref h3, .ref h4, .int (-1), .int (-1), .ref h5, .ref h6, .ref h7, .ref h8, .ref h9])), (h3, .inr (8, [.ref h13, .int 0])), (h7, .inl (a2, 6, .inl (fun _ => 0))), (h1, .inr (8, [.ref h10, .int 0])), (h4, .inr (8, [.ref h14, .int 0]))] _ A s.heap _ := Wd
  refine lv_iconst (v := 0) C.1 C.2.1 dX4_findBad_18 (by decide) ?_
  refine lv_istore_n (lv' := [(2, .int 0), (0, .ref h0), (1, .ref h1)]) C.1 C.2.1 dX4_findBad_19 rfl hl (by decide) rfl (fun ls hl => ?_)
  refine lv_iload_n C.1 C.2.1 dX4_findBad_20 rfl (lv_at hl 0 rfl) ?_
  refine lv_bipush (v := 6) C.1 C.2.1 dX4_findBad_21 (by decide) ?_
  refine lv_icmp_ge (tgt := 101) C.1 C.2.1 dX4_findBad_23 (by decide) (fun c2022 => absurd c2022 (by decide)) (fun _ => ?_)
  refine lv_aload_n C.1 C.2.1 dX4_findBad_26 rfl (lv_at hl 1 rfl) ?_
  refine k_get C Wd KX4 0 3 rfl (by decide) fl_X4_56 rfl dX4_findBad_27 ?_
  refine lv_iconst (v := (-1)) C.1 C.2.1 dX4_findBad_30 (by decide) ?_
  refine lv_icmp_ne (tgt := 101) C.1 C.2.1 dX4_findBad_31 (by decide) (fun c2023 => absurd c2023 (by decide)) (fun _ => ?_)
  refine lv_aload_n C.1 C.2.1 dX4_findBad_34 rfl (lv_at hl 1 rfl) ?_
  refine lv_iload_n C.1 C.2.1 dX4_findBad_35 rfl (lv_at hl 0 rfl) ?_
  refine lv_aload_n C.1 C.2.1 dX4_findBad_36 rfl (lv_at hl 1 rfl) ?_
  refine k_get C Wd KX4 0 2 rfl (by decide) fl_X4_43 rfl dX4_findBad_37 ?_
  refine k_ci Wd [0, 4, 1, 2] [3] rfl (wr := [(h1, .inr (8, [.ref h10, .int 0]))]) rfl (by decide) (by decide) (cells' := 0) (slots' := 0) (by decide) (by decide) (k_runV (rest := []) C aks Wd cs_X4_109 (kcX4_makeOf l D h0 h4 h2 h3 h5 h6 h7 h8 h9 h14 h13 a2 _ ) [0, 4, 1, 2] rfl (by decide) [0] rfl 0 4 rfl rfl rfl rfl rfl ⟨(Nat.le_of_ble_eq_true rfl), (Nat.le_of_ble_eq_true rfl)⟩ hl.1 rfl rfl (Nat.le_of_ble_eq_true rfl) ⟨(Nat.le_of_ble_eq_true rfl), (Nat.le_of_ble_eq_true rfl)⟩ dX4_findBad_40) (fun r _ H locs w2024 Wd => ?_)
  have Wd : wX D [(a2, .int)] s [(h1, .inr (8, [.ref h10, .int 0])), (h0, .inr (4, [.ref h2, .ref h3, .ref h4, .int (-1), .int (-1), .ref h5, .ref h6, .ref h7, .ref h8, .ref h9])), (h4, .inr (8, [.ref h14, .int 0])), (h3, .inr (8, [.ref h13, .int 0])), (h7, .inl (a2, 6, .inl (fun _ => 0)))] _ A s.heap _ := Wd
  obtain rfl := w2024
  refine lv_if_ne (tgt := 54) C.1 C.2.1 dX4_findBad_43 (by decide) (fun _ => ?_) (fun c2025 => absurd c2025 (by decide))
  refine lv_aload_n C.1 C.2.1 dX4_findBad_54 rfl (lv_at hl 1 rfl) ?_
  refine lv_aload_n C.1 C.2.1 dX4_findBad_55 rfl (lv_at hl 1 rfl) ?_
  refine k_get C Wd KX4 1 2 rfl (by decide) fl_X4_43 rfl dX4_findBad_56 ?_
  refine k_pi (k_runV (rest := []) C aks Wd cs_X4_113 (kcX4_madeWrong l D h0 h4 h2 h3 h5 h6 h7 h8 h9 h14 h13 _ ) [1, 2, 3] rfl (by decide) [] rfl 1 4 rfl rfl rfl rfl rfl ⟨(Nat.le_of_ble_eq_true rfl), (Nat.le_of_ble_eq_true rfl)⟩ hl.1 rfl rfl (Nat.le_of_ble_eq_true rfl) ⟨(Nat.le_of_ble_eq_true rfl), (Nat.le_of_ble_eq_true rfl)⟩ dX4_findBad_59) (fun r w2026 => ?_)
  obtain rfl := w2026
  refine lv_if_eq (tgt := 84) C.1 C.2.1 dX4_findBad_62 (by decide) (fun _ => ?_) (fun c2027 => absurd c2027 (by decide))
  refine lv_aload_n C.1 C.2.1 dX4_findBad_84 rfl (lv_at hl 1 rfl) ?_
  refine k_get C Wd KX4 1 2 rfl (by decide) fl_X4_43 rfl dX4_findBad_85 ?_
  refine lv_aload_n C.1 C.2.1 dX4_findBad_88 rfl (lv_at hl 1 rfl) ?_
  refine k_get C Wd KX4 1 1 rfl (by decide) fl_X4_39 rfl dX4_findBad_89 ?_
  refine k_cv Wd [3, 2] [0, 1, 4] rfl (wr := [(h1, .inr (8, [.ref h10, .int 0])), (h0, .inr (4, [.ref h2, .ref h3, .ref h4, .int (-1), .int (-1), .ref h5, .ref h6, .ref h7, .ref h8, .ref h9])), (h7, .inl (a2, 6, .inl (fun _ => 0)))]) rfl (by decide) (by decide) (cells' := 0) (slots' := 0) (by decide) (by decide) (k_runV (rest := []) C aks Wd cs_X4_67 (kcX8_copy l D h4 h3 h14 h13 _ ) [3, 2] rfl (by decide) [] rfl 2 8 rfl rfl rfl rfl rfl ⟨(Nat.le_of_ble_eq_true rfl), (Nat.le_of_ble_eq_true rfl)⟩ hl.1 rfl rfl (Nat.le_of_ble_eq_true rfl) ⟨(Nat.le_of_ble_eq_true rfl), (Nat.le_of_ble_eq_true rfl)⟩ dX4_findBad_92) (fun _ H locs w2028 Wd => ?_)
  have Wd : wX D [(a2, .int)] s [(h1, .inr (8, [.ref h10, .int 0])), (h0, .inr (4, [.ref h2, .ref h3, .ref h4, .int (-1), .int (-1), .ref h5, .ref h6, .ref h7, .ref h8, .ref h9])), (h7, .inl (a2, 6, .inl (fun _ => 0))), (h3, .inr (8, [.ref h13, .int 0])), (h4, .inr (8, [.ref h14, .int 0]))] _ A s.heap _ := Wd
  refine lv_iinc (v := 1) (lv' := [(2, .int 1), (0, .ref h0), (1, .ref h1)]) C.1 C.2.1 dX4_findBad_95 hl (k := 0) rfl (by decide) (by decide) rfl (fun ls hl => ?_)
  refine lv_goto (tgt := 20) C.1 C.2.1 dX4_findBad_98 (by decide) ?_
  refine lv_iload_n C.1 C.2.1 dX4_findBad_20 rfl (lv_at hl 0 rfl) ?_
  refine lv_bipush (v := 6) C.1 C.2.1 dX4_findBad_21 (by decide) ?_
  refine lv_icmp_ge (tgt := 101) C.1 C.2.1 dX4_findBad_23 (by decide) (fun c2029 => absurd c2029 (by decide)) (fun _ => ?_)
  refine lv_aload_n C.1 C.2.1 dX4_findBad_26 rfl (lv_at hl 1 rfl) ?_
  refine k_get C Wd KX4 1 3 rfl (by decide) fl_X4_56 rfl dX4_findBad_27 ?_
  refine lv_iconst (v := (-1)) C.1 C.2.1 dX4_findBad_30 (by decide) ?_
  refine lv_icmp_ne (tgt := 101) C.1 C.2.1 dX4_findBad_31 (by decide) (fun c2030 => absurd c2030 (by decide)) (fun _ => ?_)
  refine lv_aload_n C.1 C.2.1 dX4_findBad_34 rfl (lv_at hl 1 rfl) ?_
  refine lv_iload_n C.1 C.2.1 dX4_findBad_35 rfl (lv_at hl 0 rfl) ?_
  refine lv_aload_n C.1 C.2.1 dX4_findBad_36 rfl (lv_at hl 1 rfl) ?_
  refine k_get C Wd KX4 1 2 rfl (by decide) fl_X4_43 rfl dX4_findBad_37 ?_
  refine k_ci Wd [1, 4, 3, 2] [0] rfl (wr := [(h1, .inr (8, [.ref h10, .int 0]))]) rfl (by decide) (by decide) (cells' := 0) (slots' := 0) (by decide) (by decide) (k_runV (rest := []) C aks Wd cs_X4_109 (kcX4_makeOf_v1 l D h0 h4 h2 h3 h5 h6 h7 h8 h9 h14 h13 a2 _ ) [1, 4, 3, 2] rfl (by decide) [0] rfl 1 4 rfl rfl rfl rfl rfl ⟨(Nat.le_of_ble_eq_true rfl), (Nat.le_of_ble_eq_true rfl)⟩ hl.1 rfl rfl (Nat.le_of_ble_eq_true rfl) ⟨(Nat.le_of_ble_eq_true rfl), (Nat.le_of_ble_eq_true rfl)⟩ dX4_findBad_40) (fun r _ H locs w2031 Wd => ?_)
  have Wd : wX D [(a2, .int)] s [(h1, .inr (8, [.ref h10, .int 0])), (h0, .inr (4, [.ref h2, .ref h3, .ref h4, .int (-1), .int (-1), .ref h5, .ref h6, .ref h7, .ref h8, .ref h9])), (h4, .inr (8, [.ref h14, .int 0])), (h3, .inr (8, [.ref h13, .int 0])), (h7, .inl (a2, 6, .inl (fun _ => 0)))] _ A s.heap _ := Wd
  obtain rfl := w2031
  refine lv_if_ne (tgt := 54) C.1 C.2.1 dX4_findBad_43 (by decide) (fun _ => ?_) (fun c2032 => absurd c2032 (by decide))
  refine lv_aload_n C.1 C.2.1 dX4_findBad_54 rfl (lv_at hl 1 rfl) ?_
  refine lv_aload_n C.1 C.2.1 dX4_findBad_55 rfl (lv_at hl 1 rfl) ?_
  refine k_get C Wd KX4 1 2 rfl (by decide) fl_X4_43 rfl dX4_findBad_56 ?_
  refine k_pi (k_runV (rest := []) C aks Wd cs_X4_113 (kcX4_madeWrong l D h0 h4 h2 h3 h5 h6 h7 h8 h9 h14 h13 _ ) [1, 2, 3] rfl (by decide) [] rfl 1 4 rfl rfl rfl rfl rfl ⟨(Nat.le_of_ble_eq_true rfl), (Nat.le_of_ble_eq_true rfl)⟩ hl.1 rfl rfl (Nat.le_of_ble_eq_true rfl) ⟨(Nat.le_of_ble_eq_true rfl), (Nat.le_of_ble_eq_true rfl)⟩ dX4_findBad_59) (fun r w2033 => ?_)
  obtain rfl := w2033
  refine lv_if_eq (tgt := 84) C.1 C.2.1 dX4_findBad_62 (by decide) (fun _ => ?_) (fun c2034 => absurd c2034 (by decide))
  refine lv_aload_n C.1 C.2.1 dX4_findBad_84 rfl (lv_at hl 1 rfl) ?_
  refine k_get C Wd KX4 1 2 rfl (by decide) fl_X4_43 rfl dX4_findBad_85 ?_
  refine lv_aload_n C.1 C.2.1 dX4_findBad_88 rfl (lv_at hl 1 rfl) ?_
  refine k_get C Wd KX4 1 1 rfl (by decide) fl_X4_39 rfl dX4_findBad_89 ?_
  refine k_cv Wd [3, 2] [0, 1, 4] rfl (wr := [(h1, .inr (8, [.ref h10, .int 0])), (h0, .inr (4, [.ref h2, .ref h3, .ref h4, .int (-1), .int (-1), .ref h5, .ref h6, .ref h7, .ref h8, .ref h9])), (h7, .inl (a2, 6, .inl (fun _ => 0)))]) rfl (by decide) (by decide) (cells' := 0) (slots' := 0) (by decide) (by decide) (k_runV (rest := []) C aks Wd cs_X4_67 (kcX8_copy l D h4 h3 h14 h13 _ ) [3, 2] rfl (by decide) [] rfl 2 8 rfl rfl rfl rfl rfl ⟨(Nat.le_of_ble_eq_true rfl), (Nat.le_of_ble_eq_true rfl)⟩ hl.1 rfl rfl (Nat.le_of_ble_eq_true rfl) ⟨(Nat.le_of_ble_eq_true rfl), (Nat.le_of_ble_eq_true rfl)⟩ dX4_findBad_92) (fun _ H locs w2035 Wd => ?_)
  have Wd : wX D [(a2, .int)] s [(h1, .inr (8, [.ref h10, .int 0])), (h0, .inr (4, [.ref h2, .ref h3, .ref h4, .int (-1), .int (-1), .ref h5, .ref h6, .ref h7, .ref h8, .ref h9])), (h7, .inl (a2, 6, .inl (fun _ => 0))), (h3, .inr (8, [.ref h13, .int 0])), (h4, .inr (8, [.ref h14, .int 0]))] _ A s.heap _ := Wd
  refine lv_iinc (v := 2) (lv' := [(2, .int 2), (0, .ref h0), (1, .ref h1)]) C.1 C.2.1 dX4_findBad_95 hl (k := 0) rfl (by decide) (by decide) rfl (fun ls hl => ?_)
  refine lv_goto (tgt := 20) C.1 C.2.1 dX4_findBad_98 (by decide) ?_
  refine lv_iload_n C.1 C.2.1 dX4_findBad_20 rfl (lv_at hl 0 rfl) ?_
  refine lv_bipush (v := 6) C.1 C.2.1 dX4_findBad_21 (by decide) ?_
  refine lv_icmp_ge (tgt := 101) C.1 C.2.1 dX4_findBad_23 (by decide) (fun c2036 => absurd c2036 (by decide)) (fun _ => ?_)
  refine lv_aload_n C.1 C.2.1 dX4_findBad_26 rfl (lv_at hl 1 rfl) ?_
  refine k_get C Wd KX4 1 3 rfl (by decide) fl_X4_56 rfl dX4_findBad_27 ?_
  refine lv_iconst (v := (-1)) C.1 C.2.1 dX4_findBad_30 (by decide) ?_
  refine lv_icmp_ne (tgt := 101) C.1 C.2.1 dX4_findBad_31 (by decide) (fun c2037 => absurd c2037 (by decide)) (fun _ => ?_)
  refine lv_aload_n C.1 C.2.1 dX4_findBad_34 rfl (lv_at hl 1 rfl) ?_
  refine lv_iload_n C.1 C.2.1 dX4_findBad_35 rfl (lv_at hl 0 rfl) ?_
  refine lv_aload_n C.1 C.2.1 dX4_findBad_36 rfl (lv_at hl 1 rfl) ?_
  refine k_get C Wd KX4 1 2 rfl (by decide) fl_X4_43 rfl dX4_findBad_37 ?_
  refine k_ci Wd [1, 4, 3, 2] [0] rfl (wr := [(h1, .inr (8, [.ref h10, .int 0]))]) rfl (by decide) (by decide) (cells' := 0) (slots' := 0) (by decide) (by decide) (k_runV (rest := []) C aks Wd cs_X4_109 (kcX4_makeOf_v2 l D h0 h4 h2 h3 h5 h6 h7 h8 h9 h14 h13 a2 _ ) [1, 4, 3, 2] rfl (by decide) [0] rfl 1 4 rfl rfl rfl rfl rfl ⟨(Nat.le_of_ble_eq_true rfl), (Nat.le_of_ble_eq_true rfl)⟩ hl.1 rfl rfl (Nat.le_of_ble_eq_true rfl) ⟨(Nat.le_of_ble_eq_true rfl), (Nat.le_of_ble_eq_true rfl)⟩ dX4_findBad_40) (fun r _ H locs w2038 Wd => ?_)
  have Wd : wX D [(a2, .int)] s [(h1, .inr (8, [.ref h10, .int 0])), (h0, .inr (4, [.ref h2, .ref h3, .ref h4, .int (-1), .int (-1), .ref h5, .ref h6, .ref h7, .ref h8, .ref h9])), (h4, .inr (8, [.ref h14, .int 0])), (h3, .inr (8, [.ref h13, .int 0])), (h7, .inl (a2, 6, .inl (fun _ => 0)))] _ A s.heap _ := Wd
  obtain rfl := w2038
  refine lv_if_ne (tgt := 54) C.1 C.2.1 dX4_findBad_43 (by decide) (fun _ => ?_) (fun c2039 => absurd c2039 (by decide))
  refine lv_aload_n C.1 C.2.1 dX4_findBad_54 rfl (lv_at hl 1 rfl) ?_
  refine lv_aload_n C.1 C.2.1 dX4_findBad_55 rfl (lv_at hl 1 rfl) ?_
  refine k_get C Wd KX4 1 2 rfl (by decide) fl_X4_43 rfl dX4_findBad_56 ?_
  refine k_pi (k_runV (rest := []) C aks Wd cs_X4_113 (kcX4_madeWrong l D h0 h4 h2 h3 h5 h6 h7 h8 h9 h14 h13 _ ) [1, 2, 3] rfl (by decide) [] rfl 1 4 rfl rfl rfl rfl rfl ⟨(Nat.le_of_ble_eq_true rfl), (Nat.le_of_ble_eq_true rfl)⟩ hl.1 rfl rfl (Nat.le_of_ble_eq_true rfl) ⟨(Nat.le_of_ble_eq_true rfl), (Nat.le_of_ble_eq_true rfl)⟩ dX4_findBad_59) (fun r w2040 => ?_)
  obtain rfl := w2040
  refine lv_if_eq (tgt := 84) C.1 C.2.1 dX4_findBad_62 (by decide) (fun _ => ?_) (fun c2041 => absurd c2041 (by decide))
  refine lv_aload_n C.1 C.2.1 dX4_findBad_84 rfl (lv_at hl 1 rfl) ?_
  refine k_get C Wd KX4 1 2 rfl (by decide) fl_X4_43 rfl dX4_findBad_85 ?_
  refine lv_aload_n C.1 C.2.1 dX4_findBad_88 rfl (lv_at hl 1 rfl) ?_
  refine k_get C Wd KX4 1 1 rfl (by decide) fl_X4_39 rfl dX4_findBad_89 ?_
  refine k_cv Wd [3, 2] [0, 1, 4] rfl (wr := [(h1, .inr (8, [.ref h10, .int 0])), (h0, .inr (4, [.ref h2, .ref h3, .ref h4, .int (-1), .int (-1), .ref h5, .ref h6, .ref h7, .ref h8, .ref h9])), (h7, .inl (a2, 6, .inl (fun _ => 0)))]) rfl (by decide) (by decide) (cells' := 0) (slots' := 0) (by decide) (by decide) (k_runV (rest := []) C aks Wd cs_X4_67 (kcX8_copy l D h4 h3 h14 h13 _ ) [3, 2] rfl (by decide) [] rfl 2 8 rfl rfl rfl rfl rfl ⟨(Nat.le_of_ble_eq_true rfl), (Nat.le_of_ble_eq_true rfl)⟩ hl.1 rfl rfl (Nat.le_of_ble_eq_true rfl) ⟨(Nat.le_of_ble_eq_true rfl), (Nat.le_of_ble_eq_true rfl)⟩ dX4_findBad_92) (fun _ H locs w2042 Wd => ?_)
  have Wd : wX D [(a2, .int)] s [(h1, .inr (8, [.ref h10, .int 0])), (h0, .inr (4, [.ref h2, .ref h3, .ref h4, .int (-1), .int (-1), .ref h5, .ref h6, .ref h7, .ref h8, .ref h9])), (h7, .inl (a2, 6, .inl (fun _ => 0))), (h3, .inr (8, [.ref h13, .int 0])), (h4, .inr (8, [.ref h14, .int 0]))] _ A s.heap _ := Wd
  refine lv_iinc (v := 3) (lv' := [(2, .int 3), (0, .ref h0), (1, .ref h1)]) C.1 C.2.1 dX4_findBad_95 hl (k := 0) rfl (by decide) (by decide) rfl (fun ls hl => ?_)
  refine lv_goto (tgt := 20) C.1 C.2.1 dX4_findBad_98 (by decide) ?_
  refine lv_iload_n C.1 C.2.1 dX4_findBad_20 rfl (lv_at hl 0 rfl) ?_
  refine lv_bipush (v := 6) C.1 C.2.1 dX4_findBad_21 (by decide) ?_
  refine lv_icmp_ge (tgt := 101) C.1 C.2.1 dX4_findBad_23 (by decide) (fun c2043 => absurd c2043 (by decide)) (fun _ => ?_)
  refine lv_aload_n C.1 C.2.1 dX4_findBad_26 rfl (lv_at hl 1 rfl) ?_
  refine k_get C Wd KX4 1 3 rfl (by decide) fl_X4_56 rfl dX4_findBad_27 ?_
  refine lv_iconst (v := (-1)) C.1 C.2.1 dX4_findBad_30 (by decide) ?_
  refine lv_icmp_ne (tgt := 101) C.1 C.2.1 dX4_findBad_31 (by decide) (fun c2044 => absurd c2044 (by decide)) (fun _ => ?_)
  refine lv_aload_n C.1 C.2.1 dX4_findBad_34 rfl (lv_at hl 1 rfl) ?_
  refine lv_iload_n C.1 C.2.1 dX4_findBad_35 rfl (lv_at hl 0 rfl) ?_
  refine lv_aload_n C.1 C.2.1 dX4_findBad_36 rfl (lv_at hl 1 rfl) ?_
  refine k_get C Wd KX4 1 2 rfl (by decide) fl_X4_43 rfl dX4_findBad_37 ?_
  refine k_ci Wd [1, 4, 3, 2] [0] rfl (wr := [(h1, .inr (8, [.ref h10, .int 0]))]) rfl (by decide) (by decide) (cells' := 0) (slots' := 0) (by decide) (by decide) (k_runV (rest := []) C aks Wd cs_X4_109 (kcX4_makeOf_v3 l D h0 h4 h2 h3 h5 h6 h7 h8 h9 h14 h13 a2 _ ) [1, 4, 3, 2] rfl (by decide) [0] rfl 1 4 rfl rfl rfl rfl rfl ⟨(Nat.le_of_ble_eq_true rfl), (Nat.le_of_ble_eq_true rfl)⟩ hl.1 rfl rfl (Nat.le_of_ble_eq_true rfl) ⟨(Nat.le_of_ble_eq_true rfl), (Nat.le_of_ble_eq_true rfl)⟩ dX4_findBad_40) (fun r _ H locs w2045 Wd => ?_)
  have Wd : wX D [(a2, .int)] s [(h1, .inr (8, [.ref h10, .int 0])), (h0, .inr (4, [.ref h2, .ref h3, .ref h4, .int (-1), .int (-1), .ref h5, .ref h6, .ref h7, .ref h8, .ref h9])), (h4, .inr (8, [.ref h14, .int 0])), (h3, .inr (8, [.ref h13, .int 0])), (h7, .inl (a2, 6, .inl (fun _ => 0)))] _ A s.heap _ := Wd
  obtain rfl := w2045
  refine lv_if_ne (tgt := 54) C.1 C.2.1 dX4_findBad_43 (by decide) (fun _ => ?_) (fun c2046 => absurd c2046 (by decide))
  refine lv_aload_n C.1 C.2.1 dX4_findBad_54 rfl (lv_at hl 1 rfl) ?_
  refine lv_aload_n C.1 C.2.1 dX4_findBad_55 rfl (lv_at hl 1 rfl) ?_
  refine k_get C Wd KX4 1 2 rfl (by decide) fl_X4_43 rfl dX4_findBad_56 ?_
  refine k_pi (k_runV (rest := []) C aks Wd cs_X4_113 (kcX4_madeWrong l D h0 h4 h2 h3 h5 h6 h7 h8 h9 h14 h13 _ ) [1, 2, 3] rfl (by decide) [] rfl 1 4 rfl rfl rfl rfl rfl ⟨(Nat.le_of_ble_eq_true rfl), (Nat.le_of_ble_eq_true rfl)⟩ hl.1 rfl rfl (Nat.le_of_ble_eq_true rfl) ⟨(Nat.le_of_ble_eq_true rfl), (Nat.le_of_ble_eq_true rfl)⟩ dX4_findBad_59) (fun r w2047 => ?_)
  obtain rfl := w2047
  refine lv_if_eq (tgt := 84) C.1 C.2.1 dX4_findBad_62 (by decide) (fun _ => ?_) (fun c2048 => absurd c2048 (by decide))
  refine lv_aload_n C.1 C.2.1 dX4_findBad_84 rfl (lv_at hl 1 rfl) ?_
  refine k_get C Wd KX4 1 2 rfl (by decide) fl_X4_43 rfl dX4_findBad_85 ?_
  refine lv_aload_n C.1 C.2.1 dX4_findBad_88 rfl (lv_at hl 1 rfl) ?_
  refine k_get C Wd KX4 1 1 rfl (by decide) fl_X4_39 rfl dX4_findBad_89 ?_
  refine k_cv Wd [3, 2] [0, 1, 4] rfl (wr := [(h1, .inr (8, [.ref h10, .int 0])), (h0, .inr (4, [.ref h2, .ref h3, .ref h4, .int (-1), .int (-1), .ref h5, .ref h6, .ref h7, .ref h8, .ref h9])), (h7, .inl (a2, 6, .inl (fun _ => 0)))]) rfl (by decide) (by decide) (cells' := 0) (slots' := 0) (by decide) (by decide) (k_runV (rest := []) C aks Wd cs_X4_67 (kcX8_copy l D h4 h3 h14 h13 _ ) [3, 2] rfl (by decide) [] rfl 2 8 rfl rfl rfl rfl rfl ⟨(Nat.le_of_ble_eq_true rfl), (Nat.le_of_ble_eq_true rfl)⟩ hl.1 rfl rfl (Nat.le_of_ble_eq_true rfl) ⟨(Nat.le_of_ble_eq_true rfl), (Nat.le_of_ble_eq_true rfl)⟩ dX4_findBad_92) (fun _ H locs w2049 Wd => ?_)
  have Wd : wX D [(a2, .int)] s [(h1, .inr (8, [.ref h10, .int 0])), (h0, .inr (4, [.ref h2, .ref h3, .ref h4, .int (-1), .int (-1), .ref h5, .ref h6, .ref h7, .ref h8, .ref h9])), (h7, .inl (a2, 6, .inl (fun _ => 0))), (h3, .inr (8, [.ref h13, .int 0])), (h4, .inr (8, [.ref h14, .int 0]))] _ A s.heap _ := Wd
  refine lv_iinc (v := 4) (lv' := [(2, .int 4), (0, .ref h0), (1, .ref h1)]) C.1 C.2.1 dX4_findBad_95 hl (k := 0) rfl (by decide) (by decide) rfl (fun ls hl => ?_)
  refine lv_goto (tgt := 20) C.1 C.2.1 dX4_findBad_98 (by decide) ?_
  refine lv_iload_n C.1 C.2.1 dX4_findBad_20 rfl (lv_at hl 0 rfl) ?_
  refine lv_bipush (v := 6) C.1 C.2.1 dX4_findBad_21 (by decide) ?_
  refine lv_icmp_ge (tgt := 101) C.1 C.2.1 dX4_findBad_23 (by decide) (fun c2050 => absurd c2050 (by decide)) (fun _ => ?_)
  refine lv_aload_n C.1 C.2.1 dX4_findBad_26 rfl (lv_at hl 1 rfl) ?_
  refine k_get C Wd KX4 1 3 rfl (by decide) fl_X4_56 rfl dX4_findBad_27 ?_
  refine lv_iconst (v := (-1)) C.1 C.2.1 dX4_findBad_30 (by decide) ?_
  refine lv_icmp_ne (tgt := 101) C.1 C.2.1 dX4_findBad_31 (by decide) (fun c2051 => absurd c2051 (by decide)) (fun _ => ?_)
  refine lv_aload_n C.1 C.2.1 dX4_findBad_34 rfl (lv_at hl 1 rfl) ?_
  refine lv_iload_n C.1 C.2.1 dX4_findBad_35 rfl (lv_at hl 0 rfl) ?_
  refine lv_aload_n C.1 C.2.1 dX4_findBad_36 rfl (lv_at hl 1 rfl) ?_
  refine k_get C Wd KX4 1 2 rfl (by decide) fl_X4_43 rfl dX4_findBad_37 ?_
  refine k_ci Wd [1, 4, 3, 2] [0] rfl (wr := [(h1, .inr (8, [.ref h10, .int 0]))]) rfl (by decide) (by decide) (cells' := 0) (slots' := 0) (by decide) (by decide) (k_runV (rest := []) C aks Wd cs_X4_109 (kcX4_makeOf_v4 l D h0 h4 h2 h3 h5 h6 h7 h8 h9 h14 h13 a2 _ ) [1, 4, 3, 2] rfl (by decide) [0] rfl 1 4 rfl rfl rfl rfl rfl ⟨(Nat.le_of_ble_eq_true rfl), (Nat.le_of_ble_eq_true rfl)⟩ hl.1 rfl rfl (Nat.le_of_ble_eq_true rfl) ⟨(Nat.le_of_ble_eq_true rfl), (Nat.le_of_ble_eq_true rfl)⟩ dX4_findBad_40) (fun r _ H locs w2052 Wd => ?_)
  have Wd : wX D [(a2, .int)] s [(h1, .inr (8, [.ref h10, .int 0])), (h0, .inr (4, [.ref h2, .ref h3, .ref h4, .int (-1), .int (-1), .ref h5, .ref h6, .ref h7, .ref h8, .ref h9])), (h4, .inr (8, [.ref h14, .int 0])), (h3, .inr (8, [.ref h13, .int 0])), (h7, .inl (a2, 6, .inl (fun _ => 0)))] _ A s.heap _ := Wd
  obtain rfl := w2052
  refine lv_if_ne (tgt := 54) C.1 C.2.1 dX4_findBad_43 (by decide) (fun _ => ?_) (fun c2053 => absurd c2053 (by decide))
  refine lv_aload_n C.1 C.2.1 dX4_findBad_54 rfl (lv_at hl 1 rfl) ?_
  refine lv_aload_n C.1 C.2.1 dX4_findBad_55 rfl (lv_at hl 1 rfl) ?_
  refine k_get C Wd KX4 1 2 rfl (by decide) fl_X4_43 rfl dX4_findBad_56 ?_
  refine k_pi (k_runV (rest := []) C aks Wd cs_X4_113 (kcX4_madeWrong l D h0 h4 h2 h3 h5 h6 h7 h8 h9 h14 h13 _ ) [1, 2, 3] rfl (by decide) [] rfl 1 4 rfl rfl rfl rfl rfl ⟨(Nat.le_of_ble_eq_true rfl), (Nat.le_of_ble_eq_true rfl)⟩ hl.1 rfl rfl (Nat.le_of_ble_eq_true rfl) ⟨(Nat.le_of_ble_eq_true rfl), (Nat.le_of_ble_eq_true rfl)⟩ dX4_findBad_59) (fun r w2054 => ?_)
  obtain rfl := w2054
  refine lv_if_eq (tgt := 84) C.1 C.2.1 dX4_findBad_62 (by decide) (fun _ => ?_) (fun c2055 => absurd c2055 (by decide))
  refine lv_aload_n C.1 C.2.1 dX4_findBad_84 rfl (lv_at hl 1 rfl) ?_
  refine k_get C Wd KX4 1 2 rfl (by decide) fl_X4_43 rfl dX4_findBad_85 ?_
  refine lv_aload_n C.1 C.2.1 dX4_findBad_88 rfl (lv_at hl 1 rfl) ?_
  refine k_get C Wd KX4 1 1 rfl (by decide) fl_X4_39 rfl dX4_findBad_89 ?_
  refine k_cv Wd [3, 2] [0, 1, 4] rfl (wr := [(h1, .inr (8, [.ref h10, .int 0])), (h0, .inr (4, [.ref h2, .ref h3, .ref h4, .int (-1), .int (-1), .ref h5, .ref h6, .ref h7, .ref h8, .ref h9])), (h7, .inl (a2, 6, .inl (fun _ => 0)))]) rfl (by decide) (by decide) (cells' := 0) (slots' := 0) (by decide) (by decide) (k_runV (rest := []) C aks Wd cs_X4_67 (kcX8_copy l D h4 h3 h14 h13 _ ) [3, 2] rfl (by decide) [] rfl 2 8 rfl rfl rfl rfl rfl ⟨(Nat.le_of_ble_eq_true rfl), (Nat.le_of_ble_eq_true rfl)⟩ hl.1 rfl rfl (Nat.le_of_ble_eq_true rfl) ⟨(Nat.le_of_ble_eq_true rfl), (Nat.le_of_ble_eq_true rfl)⟩ dX4_findBad_92) (fun _ H locs w2056 Wd => ?_)
  have Wd : wX D [(a2, .int)] s [(h1, .inr (8, [.ref h10, .int 0])), (h0, .inr (4, [.ref h2, .ref h3, .ref h4, .int (-1), .int (-1), .ref h5, .ref h6, .ref h7, .ref h8, .ref h9])), (h7, .inl (a2, 6, .inl (fun _ => 0))), (h3, .inr (8, [.ref h13, .int 0])), (h4, .inr (8, [.ref h14, .int 0]))] _ A s.heap _ := Wd
  refine lv_iinc (v := 5) (lv' := [(2, .int 5), (0, .ref h0), (1, .ref h1)]) C.1 C.2.1 dX4_findBad_95 hl (k := 0) rfl (by decide) (by decide) rfl (fun ls hl => ?_)
  refine lv_goto (tgt := 20) C.1 C.2.1 dX4_findBad_98 (by decide) ?_
  refine lv_iload_n C.1 C.2.1 dX4_findBad_20 rfl (lv_at hl 0 rfl) ?_
  refine lv_bipush (v := 6) C.1 C.2.1 dX4_findBad_21 (by decide) ?_
  refine lv_icmp_ge (tgt := 101) C.1 C.2.1 dX4_findBad_23 (by decide) (fun c2057 => absurd c2057 (by decide)) (fun _ => ?_)
  refine lv_aload_n C.1 C.2.1 dX4_findBad_26 rfl (lv_at hl 1 rfl) ?_
  refine k_get C Wd KX4 1 3 rfl (by decide) fl_X4_56 rfl dX4_findBad_27 ?_
  refine lv_iconst (v := (-1)) C.1 C.2.1 dX4_findBad_30 (by decide) ?_
  refine lv_icmp_ne (tgt := 101) C.1 C.2.1 dX4_findBad_31 (by decide) (fun c2058 => absurd c2058 (by decide)) (fun _ => ?_)
  refine lv_aload_n C.1 C.2.1 dX4_findBad_34 rfl (lv_at hl 1 rfl) ?_
  refine lv_iload_n C.1 C.2.1 dX4_findBad_35 rfl (lv_at hl 0 rfl) ?_
  refine lv_aload_n C.1 C.2.1 dX4_findBad_36 rfl (lv_at hl 1 rfl) ?_
  refine k_get C Wd KX4 1 2 rfl (by decide) fl_X4_43 rfl dX4_findBad_37 ?_
  refine k_ci Wd [1, 4, 3, 2] [0] rfl (wr := [(h1, .inr (8, [.ref h10, .int 0]))]) rfl (by decide) (by decide) (cells' := 0) (slots' := 0) (by decide) (by decide) (k_runV (rest := []) C aks Wd cs_X4_109 (kcX4_makeOf_v5 l D h0 h4 h2 h3 h5 h6 h7 h8 h9 h14 h13 a2 _ ) [1, 4, 3, 2] rfl (by decide) [0] rfl 1 4 rfl rfl rfl rfl rfl ⟨(Nat.le_of_ble_eq_true rfl), (Nat.le_of_ble_eq_true rfl)⟩ hl.1 rfl rfl (Nat.le_of_ble_eq_true rfl) ⟨(Nat.le_of_ble_eq_true rfl), (Nat.le_of_ble_eq_true rfl)⟩ dX4_findBad_40) (fun r _ H locs w2059 Wd => ?_)
  have Wd : wX D [(a2, .int)] s [(h1, .inr (8, [.ref h10, .int 0])), (h0, .inr (4, [.ref h2, .ref h3, .ref h4, .int (-1), .int (-1), .ref h5, .ref h6, .ref h7, .ref h8, .ref h9])), (h4, .inr (8, [.ref h14, .int 0])), (h3, .inr (8, [.ref h13, .int 0])), (h7, .inl (a2, 6, .inl (fun _ => 0)))] _ A s.heap _ := Wd
  obtain rfl := w2059
  refine lv_if_ne (tgt := 54) C.1 C.2.1 dX4_findBad_43 (by decide) (fun _ => ?_) (fun c2060 => absurd c2060 (by decide))
  refine lv_aload_n C.1 C.2.1 dX4_findBad_54 rfl (lv_at hl 1 rfl) ?_
  refine lv_aload_n C.1 C.2.1 dX4_findBad_55 rfl (lv_at hl 1 rfl) ?_
  refine k_get C Wd KX4 1 2 rfl (by decide) fl_X4_43 rfl dX4_findBad_56 ?_
  refine k_pi (k_runV (rest := []) C aks Wd cs_X4_113 (kcX4_madeWrong l D h0 h4 h2 h3 h5 h6 h7 h8 h9 h14 h13 _ ) [1, 2, 3] rfl (by decide) [] rfl 1 4 rfl rfl rfl rfl rfl ⟨(Nat.le_of_ble_eq_true rfl), (Nat.le_of_ble_eq_true rfl)⟩ hl.1 rfl rfl (Nat.le_of_ble_eq_true rfl) ⟨(Nat.le_of_ble_eq_true rfl), (Nat.le_of_ble_eq_true rfl)⟩ dX4_findBad_59) (fun r w2061 => ?_)
  obtain rfl := w2061
  refine lv_if_eq (tgt := 84) C.1 C.2.1 dX4_findBad_62 (by decide) (fun _ => ?_) (fun c2062 => absurd c2062 (by decide))
  refine lv_aload_n C.1 C.2.1 dX4_findBad_84 rfl (lv_at hl 1 rfl) ?_
  refine k_get C Wd KX4 1 2 rfl (by decide) fl_X4_43 rfl dX4_findBad_85 ?_
  refine lv_aload_n C.1 C.2.1 dX4_findBad_88 rfl (lv_at hl 1 rfl) ?_
  refine k_get C Wd KX4 1 1 rfl (by decide) fl_X4_39 rfl dX4_findBad_89 ?_
  refine k_cv Wd [3, 2] [0, 1, 4] rfl (wr := [(h1, .inr (8, [.ref h10, .int 0])), (h0, .inr (4, [.ref h2, .ref h3, .ref h4, .int (-1), .int (-1), .ref h5, .ref h6, .ref h7, .ref h8, .ref h9])), (h7, .inl (a2, 6, .inl (fun _ => 0)))]) rfl (by decide) (by decide) (cells' := 0) (slots' := 0) (by decide) (by decide) (k_runV (rest := []) C aks Wd cs_X4_67 (kcX8_copy l D h4 h3 h14 h13 _ ) [3, 2] rfl (by decide) [] rfl 2 8 rfl rfl rfl rfl rfl ⟨(Nat.le_of_ble_eq_true rfl), (Nat.le_of_ble_eq_true rfl)⟩ hl.1 rfl rfl (Nat.le_of_ble_eq_true rfl) ⟨(Nat.le_of_ble_eq_true rfl), (Nat.le_of_ble_eq_true rfl)⟩ dX4_findBad_92) (fun _ H locs w2063 Wd => ?_)
  have Wd : wX D [(a2, .int)] s [(h1, .inr (8, [.ref h10, .int 0])), (h0, .inr (4, [.ref h2, .ref h3, .ref h4, .int (-1), .int (-1), .ref h5, .ref h6, .ref h7, .ref h8, .ref h9])), (h7, .inl (a2, 6, .inl (fun _ => 0))), (h3, .inr (8, [.ref h13, .int 0])), (h4, .inr (8, [.ref h14, .int 0]))] _ A s.heap _ := Wd
  refine lv_iinc (v := 6) (lv' := [(2, .int 6), (0, .ref h0), (1, .ref h1)]) C.1 C.2.1 dX4_findBad_95 hl (k := 0) rfl (by decide) (by decide) rfl (fun ls hl => ?_)
  refine lv_goto (tgt := 20) C.1 C.2.1 dX4_findBad_98 (by decide) ?_
  refine lv_iload_n C.1 C.2.1 dX4_findBad_20 rfl (lv_at hl 0 rfl) ?_
  refine lv_bipush (v := 6) C.1 C.2.1 dX4_findBad_21 (by decide) ?_
  refine lv_icmp_ge (tgt := 101) C.1 C.2.1 dX4_findBad_23 (by decide) (fun _ => ?_) (fun c2064 => absurd c2064 (by decide))
  exact k_vret C hr hlk Wd () trivial [1, 0, 4, 3, 2] rfl (by decide) [] rfl (by decide) (by decide) dX4_findBad_101
set_option maxHeartbeats 4000000 in
set_option maxRecDepth 100000 in
theorem kcX11_blame_v2 (l : Launch) (D : va_G) (h0 h1 h2 h3 h4 h5 h6 h7 h8 h19 h20 h21 h22 h23 h24 h25 h26 h31 h48 h49 : Nat) (x0 x1 : Int32) (g0 : Nat → Option Nat) (a0 a5 : ClassId) (sz : Nat) (k_g0_x0 : g0 x0.toNatClampNeg = some h8) (as0 : ¬ x0 < (0 : Int32)) (as1 : x0 < (6 : Int32)): Met l yX11_blame (Cond.code yX11_blame cX11_blame 4 (some .int) :: gG) { frames := 5, cells := 0, slots := 0, locals := 155 } (cPre D [(a0, .object RX8), (a5, .int)] [(h0, .inr (11, [.ref h1, .int 0, .ref h2, .ref h3, .ref h4, .ref h5, .ref h6, .ref h7])), (h1, .inl (a0, 6, .inr (.inr (.inr (.inr g0))))), (h6, .inr (4, [.ref h19, .ref h20, .ref h21, .int (-1), .int (-1), .ref h22, .ref h23, .ref h24, .ref h25, .ref h26])), (h8, .inr (8, [.ref h31, .int 0])), (h21, .inr (8, [.ref h49, .int 0])), (h20, .inr (8, [.ref h48, .int 0])), (h24, .inl (a5, 6, .inl (fun _ => 0)))] sz [.ref h0, .int x0, .int x1]) (va_Qi (fun (r : Int32) (_ : Unit) => (¬ x0 < (0 : Int32) ∧ ¬ (6 : Int32) ≤ x0 ∧ x1 < (0 : Int32) ∧ r = (-1)) ∨ (¬ x0 < (0 : Int32) ∧ ¬ (6 : Int32) ≤ x0 ∧ ¬ x1 < (0 : Int32) ∧ x1 ≤ (1 : Int32) ∧ ¬ x1 = (0 : Int32) ∧ r = (-1)) ∨ (¬ x0 < (0 : Int32) ∧ ¬ (6 : Int32) ≤ x0 ∧ ¬ x1 < (0 : Int32) ∧ x1 ≤ (1 : Int32) ∧ x1 = (0 : Int32) ∧ r = (-1)) ∨ (¬ x0 < (0 : Int32) ∧ ¬ (6 : Int32) ≤ x0 ∧ ¬ x1 < (0 : Int32) ∧ ¬ x1 ≤ (1 : Int32) ∧ r = (-1))) (fun u t => cB D (va_A [(h0, .inr (11, [.ref h1, .int 0, .ref h2, .ref h3, .ref h4, .ref h5, .ref h6, .ref h7])), (h1, .inl (a0, 6, .inr (.inr (.inr (.inr g0))))), (h6, .inr (4, [.ref h19, .ref h20, .ref h21, .int (-1), .int (-1), .ref h22, .ref h23, .ref h24, .ref h25, .ref h26])), (h8, .inr (8, [.ref h31, .int 0])), (h21, .inr (8, [.ref h49, .int 0])), (h20, .inr (8, [.ref h48, .int 0])), (h24, .inl (a5, 6, .inl (fun _ => 0)))] sz) ((fun (_ : Unit) => ([] : List (ClassId × FieldType))) u) ((fun (_ : Unit) => ([] : va_W)) u) t) (va_A [(h0, .inr (11, [.ref h1, .int 0, .ref h2, .ref h3, .ref h4, .ref h5, .ref h6, .ref h7])), (h1, .inl (a0, 6, .inr (.inr (.inr (.inr g0))))), (h6, .inr (4, [.ref h19, .ref h20, .ref h21, .int (-1), .int (-1), .ref h22, .ref h23, .ref h24, .ref h25, .ref h26])), (h8, .inr (8, [.ref h31, .int 0])), (h21, .inr (8, [.ref h49, .int 0])), (h20, .inr (8, [.ref h48, .int 0])), (h24, .inl (a5, 6, .inl (fun _ => 0)))] sz)) 0 0 (va_A [(h0, .inr (11, [.ref h1, .int 0, .ref h2, .ref h3, .ref h4, .ref h5, .ref h6, .ref h7])), (h1, .inl (a0, 6, .inr (.inr (.inr (.inr g0))))), (h6, .inr (4, [.ref h19, .ref h20, .ref h21, .int (-1), .int (-1), .ref h22, .ref h23, .ref h24, .ref h25, .ref h26])), (h8, .inr (8, [.ref h31, .int 0])), (h21, .inr (8, [.ref h49, .int 0])), (h20, .inr (8, [.ref h48, .int 0])), (h24, .inl (a5, 6, .inl (fun _ => 0)))] sz) := by
  refine Met.ofW (cc := cX11_blame) (maxL := 4) (ret := (some .int)) (by decide) rfl ?_
  intro p e s m args below meth c s₁ B hml hv
  obtain ⟨rfl, aks, rfl, Wd⟩ := k_enter hv
  have C : CallFix p m c cX11_blame 4 s _ gG RX11 := ⟨B.exec, B.bytes, hml, findClass_of_methodNamed B.named, fun w h => atoms_spec (ws := Cond.code yX11_blame cX11_blame 4 (some .int) :: gG) B.pre w (List.mem_cons_of_mem _ h)⟩
  have hr := B.returns
  have hlk := B.notSynchronized
  generalize va_A [(h0, .inr (11, [.ref h1, .int 0, .ref h2, .ref h3, .ref h4, .ref h5, .ref h6, .ref h7])), (h1, .inl (a0, 6, .inr (.inr (.inr (.inr g0))))), (h6, .inr (4, [.ref h19, .ref h20, .ref h21, .int (-1), .int (-1), .ref h22, .ref h23, .ref h24, .ref h25, .ref h26])), (h8, .inr (8, [.ref h31, .int 0])), (h21, .inr (8, [.ref h49, .int 0])), (h20, .inr (8, [.ref h48, .int 0])), (h24, .inl (a5, 6, .inl (fun _ => 0)))] s.heap.size = A at Wd ⊢
  refine k_locals (Nat.le_of_ble_eq_true rfl) [(0, .ref h0), (1, .int x0), (2, .int x1)] rfl (fun ls hl => ?_)
  refine lv_aload_n C.1 C.2.1 dX11_blame_0 rfl (lv_at hl 0 rfl) ?_
  refine lv_iload_n C.1 C.2.1 dX11_blame_1 rfl (lv_at hl 1 rfl) ?_
  refine k_pq (k_runV (rest := []) C aks Wd cs_X11_77 (kcX11_slotAt l D h0 h1 h2 h3 h4 h5 h6 h7 x0 g0 a0 _ ) [0, 1] rfl (by decide) [0] rfl 0 11 rfl rfl rfl rfl rfl ⟨(Nat.le_of_ble_eq_true rfl), (Nat.le_of_ble_eq_true rfl)⟩ hl.1 rfl rfl (Nat.le_of_ble_eq_true rfl) ⟨(Nat.le_of_ble_eq_true rfl), (Nat.le_of_ble_eq_true rfl)⟩ dX11_blame_2) (fun r w2067 => ?_)
  rcases w2067 with ⟨c2068, rfl⟩ | ⟨c2069, c2070, rfl⟩ | ⟨c2071, c2072, rfl⟩
  · exact absurd c2068 as0
  · exact False.elim (by have z0 := kz_nlt as0; have z1 := kz_lt as1; have z2 := kz_nlt c2069; have z3 := kz_le c2070; have t0 : (0 : Int32).toInt = 0 := (by decide); have t6 : (6 : Int32).toInt = 6 := (by decide); omega)
  · refine W.eq (g2 := F0 m 5 ls [.ref h8]) (by rw [show (g0 x0.toNatClampNeg) = some h8 from k_g0_x0]; rfl) ?_
    refine lv_astore_n (lv' := [(3, .ref h8), (0, .ref h0), (1, .int x0), (2, .int x1)]) C.1 C.2.1 dX11_blame_5 rfl hl (by decide) rfl (fun ls hl => ?_)
    refine lv_aload_n C.1 C.2.1 dX11_blame_6 rfl (lv_at hl 0 rfl) ?_
    refine lv_ifnull C.1 C.2.1 dX11_blame_7 ?_
    refine lv_iload_n C.1 C.2.1 dX11_blame_10 rfl (lv_at hl 3 rfl) ?_
    refine lv_if_lt (tgt := 19) C.1 C.2.1 dX11_blame_11 (by decide) (fun c2073 => ?_) (fun c2073 => ?_)
    · refine lv_iconst (v := (-1)) C.1 C.2.1 dX11_blame_19 (by decide) ?_
      exact k_zret C hr hlk rfl Wd () (Or.inl (⟨c2071, c2072, c2073, rfl⟩)) [] rfl (by decide) [] rfl (by decide) (by decide) dX11_blame_20
    · refine lv_iload_n C.1 C.2.1 dX11_blame_14 rfl (lv_at hl 3 rfl) ?_
      refine lv_iconst (v := 1) C.1 C.2.1 dX11_blame_15 (by decide) ?_
      refine lv_icmp_le (tgt := 21) C.1 C.2.1 dX11_blame_16 (by decide) (fun c2074 => ?_) (fun c2074 => ?_)
      · refine lv_aload_n C.1 C.2.1 dX11_blame_21 rfl (lv_at hl 1 rfl) ?_
        refine k_get C Wd KX11 0 6 rfl (by decide) fl_X11_50 rfl dX11_blame_22 ?_
        refine lv_aload_n C.1 C.2.1 dX11_blame_25 rfl (lv_at hl 0 rfl) ?_
        refine k_cv Wd [2, 3, 4, 5, 6] [0, 1] rfl (wr := [(h0, .inr (11, [.ref h1, .int 0, .ref h2, .ref h3, .ref h4, .ref h5, .ref h6, .ref h7])), (h1, .inl (a0, 6, .inr (.inr (.inr (.inr g0)))))]) rfl (by decide) (by decide) (cells' := 0) (slots' := 0) (by decide) (by decide) (k_runV (rest := []) C aks Wd cs_X11_205 (kcX4_findBad l D h6 h8 h19 h20 h21 h22 h23 h24 h25 h26 h31 h48 h49 a5 _ ) [2, 3, 4, 5, 6] rfl (by decide) [1] rfl 2 4 rfl rfl rfl rfl rfl ⟨(Nat.le_of_ble_eq_true rfl), (Nat.le_of_ble_eq_true rfl)⟩ hl.1 rfl rfl (Nat.le_of_ble_eq_true rfl) ⟨(Nat.le_of_ble_eq_true rfl), (Nat.le_of_ble_eq_true rfl)⟩ dX11_blame_26) (fun _ H locs w2075 Wd => ?_)
        have Wd : wX D [(a0, .object RX8), (a5, .int)] s [(h0, .inr (11, [.ref h1, .int 0, .ref h2, .ref h3, .ref h4, .ref h5, .ref h6, .ref h7])), (h1, .inl (a0, 6, .inr (.inr (.inr (.inr g0))))), (h6, .inr (4, [.ref h19, .ref h20, .ref h21, .int (-1), .int (-1), .ref h22, .ref h23, .ref h24, .ref h25, .ref h26])), (h8, .inr (8, [.ref h31, .int 0])), (h21, .inr (8, [.ref h49, .int 0])), (h20, .inr (8, [.ref h48, .int 0])), (h24, .inl (a5, 6, .inl (fun _ => 0)))] _ A s.heap _ := Wd
        refine lv_iload_n C.1 C.2.1 dX11_blame_29 rfl (lv_at hl 3 rfl) ?_
        refine lv_if_ne (tgt := 43) C.1 C.2.1 dX11_blame_30 (by decide) (fun c2076 => ?_) (fun c2076 => ?_)
        · refine lv_aload_n C.1 C.2.1 dX11_blame_43 rfl (lv_at hl 1 rfl) ?_
          refine k_get C Wd KX11 0 6 rfl (by decide) fl_X11_50 rfl dX11_blame_44 ?_
          refine k_get C Wd KX4 2 4 rfl (by decide) fl_X11_211 rfl dX11_blame_47 ?_
          exact k_zret C hr hlk rfl Wd () (Or.inr (Or.inl (⟨c2071, c2072, c2073, c2074, c2076, rfl⟩))) [] rfl (by decide) [] rfl (by decide) (by decide) dX11_blame_50
        · subst c2076
          refine lv_aload_n C.1 C.2.1 dX11_blame_33 rfl (lv_at hl 1 rfl) ?_
          refine k_get C Wd KX11 0 6 rfl (by decide) fl_X11_50 rfl dX11_blame_34 ?_
          refine k_get C Wd KX4 2 3 rfl (by decide) fl_X11_208 rfl dX11_blame_37 ?_
          refine lv_goto (tgt := 50) C.1 C.2.1 dX11_blame_40 (by decide) ?_
          exact k_zret C hr hlk rfl Wd () (Or.inr (Or.inr (Or.inl (⟨c2071, c2072, c2073, c2074, rfl, rfl⟩)))) [] rfl (by decide) [] rfl (by decide) (by decide) dX11_blame_50
      · refine lv_iconst (v := (-1)) C.1 C.2.1 dX11_blame_19 (by decide) ?_
        exact k_zret C hr hlk rfl Wd () (Or.inr (Or.inr (Or.inr (⟨c2071, c2072, c2073, c2074, rfl⟩)))) [] rfl (by decide) [] rfl (by decide) (by decide) dX11_blame_20
set_option maxHeartbeats 4000000 in
set_option maxRecDepth 100000 in
theorem kcX11_registers (l : Launch) (D : va_G) (h0 h1 h2 h3 h4 h5 h6 h7 : Nat) (x0 x1 : Int32) (g0 : Nat → Option Nat) (a0 : ClassId) (sz : Nat)  (as0 : x0 < (0 : Int32)): Met l yX11_registers (Cond.code yX11_registers cX11_registers 4 (some .int) :: gG) { frames := 2, cells := 0, slots := 0, locals := 85 } (cPre D [(a0, .object RX8)] [(h0, .inr (11, [.ref h1, .int 0, .ref h2, .ref h3, .ref h4, .ref h5, .ref h6, .ref h7])), (h1, .inl (a0, 6, .inr (.inr (.inr (.inr g0)))))] sz [.ref h0, .int x0, .int x1]) (vp_Si (fun r => x0 < (0 : Int32) ∧ r = (-1))) 0 0 (fun _ => False) := by
  refine Met.ofW (cc := cX11_registers) (maxL := 4) (ret := (some .int)) (by decide) rfl ?_
  intro p e s m args below meth c s₁ B hml hv
  obtain ⟨rfl, aks, rfl, Wd⟩ := k_enter hv
  have C : CallFix p m c cX11_registers 4 s _ gG RX11 := ⟨B.exec, B.bytes, hml, findClass_of_methodNamed B.named, fun w h => atoms_spec (ws := Cond.code yX11_registers cX11_registers 4 (some .int) :: gG) B.pre w (List.mem_cons_of_mem _ h)⟩
  have hr := B.returns
  have hlk := B.notSynchronized
  obtain ⟨A, Wd⟩ : ∃ A, wX D [(a0, .object RX8)] s [(h0, .inr (11, [.ref h1, .int 0, .ref h2, .ref h3, .ref h4, .ref h5, .ref h6, .ref h7])), (h1, .inl (a0, 6, .inr (.inr (.inr (.inr g0)))))] s.heap A s.heap [] := ⟨_, Wd⟩
  refine k_locals (Nat.le_of_ble_eq_true rfl) [(0, .ref h0), (1, .int x0), (2, .int x1)] rfl (fun ls hl => ?_)
  refine lv_aload_n C.1 C.2.1 dX11_registers_0 rfl (lv_at hl 0 rfl) ?_
  refine lv_iload_n C.1 C.2.1 dX11_registers_1 rfl (lv_at hl 1 rfl) ?_
  refine k_pq (k_runV (rest := []) C aks Wd cs_X11_77 (kcX11_slotAt l D h0 h1 h2 h3 h4 h5 h6 h7 x0 g0 a0 _ ) [0, 1] rfl (by decide) [0] rfl 0 11 rfl rfl rfl rfl rfl ⟨(Nat.le_of_ble_eq_true rfl), (Nat.le_of_ble_eq_true rfl)⟩ hl.1 rfl rfl (Nat.le_of_ble_eq_true rfl) ⟨(Nat.le_of_ble_eq_true rfl), (Nat.le_of_ble_eq_true rfl)⟩ dX11_registers_2) (fun r w2083 => ?_)
  rcases w2083 with ⟨c2084, rfl⟩ | ⟨c2085, c2086, rfl⟩ | ⟨c2087, c2088, rfl⟩
  · refine W.eq (g2 := F0 m 5 ls [.null]) rfl ?_
    refine lv_astore_nN (lv' := [(3, .null), (0, .ref h0), (1, .int x0), (2, .int x1)]) C.1 C.2.1 dX11_registers_5 rfl hl (by decide) rfl (fun ls hl => ?_)
    refine lv_aload_nN C.1 C.2.1 dX11_registers_6 rfl (lv_at hl 0 rfl) ?_
    refine lv_ifnonnullN C.1 C.2.1 dX11_registers_7 ?_
    refine lv_iconst (v := (-1)) C.1 C.2.1 dX11_registers_10 (by decide) ?_
    exact k_zretP C hr hlk rfl ⟨c2084, rfl⟩ dX11_registers_11
  · exact absurd as0 c2085
  · exact absurd as0 c2087
set_option maxHeartbeats 4000000 in
set_option maxRecDepth 100000 in
theorem kcX11_registers_v1 (l : Launch) (D : va_G) (h0 h1 h2 h3 h4 h5 h6 h7 : Nat) (x0 x1 : Int32) (g0 : Nat → Option Nat) (a0 : ClassId) (sz : Nat)  (as0 : ¬ x0 < (6 : Int32)): Met l yX11_registers (Cond.code yX11_registers cX11_registers 4 (some .int) :: gG) { frames := 2, cells := 0, slots := 0, locals := 85 } (cPre D [(a0, .object RX8)] [(h0, .inr (11, [.ref h1, .int 0, .ref h2, .ref h3, .ref h4, .ref h5, .ref h6, .ref h7])), (h1, .inl (a0, 6, .inr (.inr (.inr (.inr g0)))))] sz [.ref h0, .int x0, .int x1]) (vp_Si (fun r => ¬ x0 < (0 : Int32) ∧ (6 : Int32) ≤ x0 ∧ r = (-1))) 0 0 (fun _ => False) := by
  refine Met.ofW (cc := cX11_registers) (maxL := 4) (ret := (some .int)) (by decide) rfl ?_
  intro p e s m args below meth c s₁ B hml hv
  obtain ⟨rfl, aks, rfl, Wd⟩ := k_enter hv
  have C : CallFix p m c cX11_registers 4 s _ gG RX11 := ⟨B.exec, B.bytes, hml, findClass_of_methodNamed B.named, fun w h => atoms_spec (ws := Cond.code yX11_registers cX11_registers 4 (some .int) :: gG) B.pre w (List.mem_cons_of_mem _ h)⟩
  have hr := B.returns
  have hlk := B.notSynchronized
  obtain ⟨A, Wd⟩ : ∃ A, wX D [(a0, .object RX8)] s [(h0, .inr (11, [.ref h1, .int 0, .ref h2, .ref h3, .ref h4, .ref h5, .ref h6, .ref h7])), (h1, .inl (a0, 6, .inr (.inr (.inr (.inr g0)))))] s.heap A s.heap [] := ⟨_, Wd⟩
  refine k_locals (Nat.le_of_ble_eq_true rfl) [(0, .ref h0), (1, .int x0), (2, .int x1)] rfl (fun ls hl => ?_)
  refine lv_aload_n C.1 C.2.1 dX11_registers_0 rfl (lv_at hl 0 rfl) ?_
  refine lv_iload_n C.1 C.2.1 dX11_registers_1 rfl (lv_at hl 1 rfl) ?_
  refine k_pq (k_runV (rest := []) C aks Wd cs_X11_77 (kcX11_slotAt l D h0 h1 h2 h3 h4 h5 h6 h7 x0 g0 a0 _ ) [0, 1] rfl (by decide) [0] rfl 0 11 rfl rfl rfl rfl rfl ⟨(Nat.le_of_ble_eq_true rfl), (Nat.le_of_ble_eq_true rfl)⟩ hl.1 rfl rfl (Nat.le_of_ble_eq_true rfl) ⟨(Nat.le_of_ble_eq_true rfl), (Nat.le_of_ble_eq_true rfl)⟩ dX11_registers_2) (fun r w2095 => ?_)
  rcases w2095 with ⟨c2096, rfl⟩ | ⟨c2097, c2098, rfl⟩ | ⟨c2099, c2100, rfl⟩
  · exact False.elim (by have z0 := kz_nlt as0; have z1 := kz_lt c2096; have t6 : (6 : Int32).toInt = 6 := (by decide); have t0 : (0 : Int32).toInt = 0 := (by decide); omega)
  · refine W.eq (g2 := F0 m 5 ls [.null]) rfl ?_
    refine lv_astore_nN (lv' := [(3, .null), (0, .ref h0), (1, .int x0), (2, .int x1)]) C.1 C.2.1 dX11_registers_5 rfl hl (by decide) rfl (fun ls hl => ?_)
    refine lv_aload_nN C.1 C.2.1 dX11_registers_6 rfl (lv_at hl 0 rfl) ?_
    refine lv_ifnonnullN C.1 C.2.1 dX11_registers_7 ?_
    refine lv_iconst (v := (-1)) C.1 C.2.1 dX11_registers_10 (by decide) ?_
    exact k_zretP C hr hlk rfl ⟨c2097, c2098, rfl⟩ dX11_registers_11
  · exact False.elim (by have z0 := kz_nlt as0; have z1 := kz_nlt c2099; have z2 := kz_nle c2100; have t6 : (6 : Int32).toInt = 6 := (by decide); have t0 : (0 : Int32).toInt = 0 := (by decide); omega)
set_option maxHeartbeats 4000000 in
set_option maxRecDepth 100000 in
theorem kcX7_study (l : Launch) (D : va_G) (h0 h1 h2 h3 h4 h5 h6 h7 h8 h9 h10 h11 h12 h13 h14 h15 h16 h17 h18 h19 : Nat) (a0 a1 a4 : ClassId) (sz : Nat)  : Met l yX7_study (Cond.code yX7_study cX7_study 3 none :: gG) { frames := 3, cells := 0, slots := 0, locals := 109 } (cPre D [(a0, .int), (a1, .int), (a4, .int)] [(h0, .inr (7, [.ref h2, .ref h3, .ref h4, .ref h5, .int 0])), (h2, .inr (1, [.ref h7, .int 0, .ref h8, .ref h9, .ref h10, .ref h11, .ref h12, .ref h13, .ref h14, .ref h15, .ref h16, .ref h17, .ref h18, .ref h19])), (h1, .inr (8, [.ref h6, .int 0])), (h19, .inl (a4, 480, .inl (fun _ => 0))), (h3, .inl (a0, 6, .inl (fun _ => 0))), (h4, .inl (a1, 6, .inl (fun _ => 0)))] sz [.ref h0, .ref h1]) (va_Qv (fun (_ : Unit) => True) (fun u t => cB D (va_A [(h0, .inr (7, [.ref h2, .ref h3, .ref h4, .ref h5, .int 0])), (h2, .inr (1, [.ref h7, .int 0, .ref h8, .ref h9, .ref h10, .ref h11, .ref h12, .ref h13, .ref h14, .ref h15, .ref h16, .ref h17, .ref h18, .ref h19])), (h1, .inr (8, [.ref h6, .int 0])), (h19, .inl (a4, 480, .inl (fun _ => 0))), (h3, .inl (a0, 6, .inl (fun _ => 0))), (h4, .inl (a1, 6, .inl (fun _ => 0)))] sz) ((fun (_ : Unit) => ([] : List (ClassId × FieldType))) u) ((fun (_ : Unit) => ([(h0, .inr (7, [.ref h2, .ref h3, .ref h4, .ref h5, .int 0])), (h2, .inr (1, [.ref h1, .int 0, .ref h8, .ref h9, .ref h10, .ref h11, .ref h12, .ref h13, .ref h14, .ref h15, .ref h16, .ref h17, .ref h18, .ref h19])), (h1, .inr (8, [.ref h6, .int 0])), (h19, .inl (a4, 480, .inl (fun _ => 0))), (h3, .inl (a0, 6, .inl (fun _ => 0))), (h4, .inl (a1, 6, .inl (fun _ => 0)))] : va_W)) u) t) (va_A [(h0, .inr (7, [.ref h2, .ref h3, .ref h4, .ref h5, .int 0])), (h2, .inr (1, [.ref h7, .int 0, .ref h8, .ref h9, .ref h10, .ref h11, .ref h12, .ref h13, .ref h14, .ref h15, .ref h16, .ref h17, .ref h18, .ref h19])), (h1, .inr (8, [.ref h6, .int 0])), (h19, .inl (a4, 480, .inl (fun _ => 0))), (h3, .inl (a0, 6, .inl (fun _ => 0))), (h4, .inl (a1, 6, .inl (fun _ => 0)))] sz)) 0 0 (va_A [(h0, .inr (7, [.ref h2, .ref h3, .ref h4, .ref h5, .int 0])), (h2, .inr (1, [.ref h7, .int 0, .ref h8, .ref h9, .ref h10, .ref h11, .ref h12, .ref h13, .ref h14, .ref h15, .ref h16, .ref h17, .ref h18, .ref h19])), (h1, .inr (8, [.ref h6, .int 0])), (h19, .inl (a4, 480, .inl (fun _ => 0))), (h3, .inl (a0, 6, .inl (fun _ => 0))), (h4, .inl (a1, 6, .inl (fun _ => 0)))] sz) := by
  refine Met.ofW (cc := cX7_study) (maxL := 3) (ret := none) (by decide) rfl ?_
  intro p e s m args below meth c s₁ B hml hv
  obtain ⟨rfl, aks, rfl, Wd⟩ := k_enter hv
  have C : CallFix p m c cX7_study 3 s _ gG RX7 := ⟨B.exec, B.bytes, hml, findClass_of_methodNamed B.named, fun w h => atoms_spec (ws := Cond.code yX7_study cX7_study 3 none :: gG) B.pre w (List.mem_cons_of_mem _ h)⟩
  have hr := B.returns
  have hlk := B.notSynchronized
  generalize va_A [(h0, .inr (7, [.ref h2, .ref h3, .ref h4, .ref h5, .int 0])), (h2, .inr (1, [.ref h7, .int 0, .ref h8, .ref h9, .ref h10, .ref h11, .ref h12, .ref h13, .ref h14, .ref h15, .ref h16, .ref h17, .ref h18, .ref h19])), (h1, .inr (8, [.ref h6, .int 0])), (h19, .inl (a4, 480, .inl (fun _ => 0))), (h3, .inl (a0, 6, .inl (fun _ => 0))), (h4, .inl (a1, 6, .inl (fun _ => 0)))] s.heap.size = A at Wd ⊢
  refine k_locals (Nat.le_of_ble_eq_true rfl) [(0, .ref h0), (1, .ref h1)] rfl (fun ls hl => ?_)
  refine lv_aload_n C.1 C.2.1 dX7_study_0 rfl (lv_at hl 0 rfl) ?_
  refine k_get C Wd KX7 0 0 rfl (by decide) fl_X7_12 rfl dX7_study_1 ?_
  refine lv_aload_n C.1 C.2.1 dX7_study_4 rfl (lv_at hl 1 rfl) ?_
  refine k_cv Wd [1, 2, 3] [0, 4, 5] rfl (wr := [(h0, .inr (7, [.ref h2, .ref h3, .ref h4, .ref h5, .int 0])), (h3, .inl (a0, 6, .inl (fun _ => 0))), (h4, .inl (a1, 6, .inl (fun _ => 0)))]) rfl (by decide) (by decide) (cells' := 0) (slots' := 0) (by decide) (by decide) (k_runV (rest := []) C aks Wd cs_X7_28 (kcX1_trace l D h2 h1 h7 h8 h9 h10 h11 h12 h13 h14 h15 h16 h17 h18 h19 h6 a4 _ ) [1, 2, 3] rfl (by decide) [2] rfl 1 1 rfl rfl rfl rfl rfl ⟨(Nat.le_of_ble_eq_true rfl), (Nat.le_of_ble_eq_true rfl)⟩ hl.1 rfl rfl (Nat.le_of_ble_eq_true rfl) ⟨(Nat.le_of_ble_eq_true rfl), (Nat.le_of_ble_eq_true rfl)⟩ dX7_study_5) (fun _ H locs w2117 Wd => ?_)
  have Wd : wX D [(a0, .int), (a1, .int), (a4, .int)] s [(h0, .inr (7, [.ref h2, .ref h3, .ref h4, .ref h5, .int 0])), (h3, .inl (a0, 6, .inl (fun _ => 0))), (h4, .inl (a1, 6, .inl (fun _ => 0))), (h2, .inr (1, [.ref h1, .int 0, .ref h8, .ref h9, .ref h10, .ref h11, .ref h12, .ref h13, .ref h14, .ref h15, .ref h16, .ref h17, .ref h18, .ref h19])), (h1, .inr (8, [.ref h6, .int 0])), (h19, .inl (a4, 480, .inl (fun _ => 0)))] _ A s.heap _ := Wd
  refine lv_aload_n C.1 C.2.1 dX7_study_8 rfl (lv_at hl 0 rfl) ?_
  refine lv_iconst (v := 0) C.1 C.2.1 dX7_study_9 (by decide) ?_
  refine k_put C Wd KX7 0 4 [(h0, .inr (7, [.ref h2, .ref h3, .ref h4, .ref h5, .int 0])), (h3, .inl (a0, 6, .inl (fun _ => 0))), (h4, .inl (a1, 6, .inl (fun _ => 0))), (h2, .inr (1, [.ref h1, .int 0, .ref h8, .ref h9, .ref h10, .ref h11, .ref h12, .ref h13, .ref h14, .ref h15, .ref h16, .ref h17, .ref h18, .ref h19])), (h1, .inr (8, [.ref h6, .int 0])), (h19, .inl (a4, 480, .inl (fun _ => 0)))] rfl (by decide) fl_X7_32 rfl rfl rfl (Nat.le_of_ble_eq_true rfl) rfl dX7_study_10 (fun H locs Wd => ?_)
  refine lv_iconst (v := 0) C.1 C.2.1 dX7_study_13 (by decide) ?_
  refine lv_istore_n (lv' := [(2, .int 0), (0, .ref h0), (1, .ref h1)]) C.1 C.2.1 dX7_study_14 rfl hl (by decide) rfl (fun ls hl => ?_)
  refine lv_iload_n C.1 C.2.1 dX7_study_15 rfl (lv_at hl 0 rfl) ?_
  refine lv_bipush (v := 6) C.1 C.2.1 dX7_study_16 (by decide) ?_
  refine lv_icmp_ge (tgt := 41) C.1 C.2.1 dX7_study_18 (by decide) (fun c2118 => absurd c2118 (by decide)) (fun _ => ?_)
  refine lv_aload_n C.1 C.2.1 dX7_study_21 rfl (lv_at hl 1 rfl) ?_
  refine k_get C Wd KX7 0 1 rfl (by decide) fl_X7_18 rfl dX7_study_22 ?_
  refine lv_iload_n C.1 C.2.1 dX7_study_25 rfl (lv_at hl 0 rfl) ?_
  refine lv_iconst (v := 0) C.1 C.2.1 dX7_study_26 (by decide) ?_
  refine k_iast C Wd 1 0 [(h0, .inr (7, [.ref h2, .ref h3, .ref h4, .ref h5, .int 0])), (h3, .inl (a0, 6, .inl (fun _ => 0))), (h4, .inl (a1, 6, .inl (fun _ => 0))), (h2, .inr (1, [.ref h1, .int 0, .ref h8, .ref h9, .ref h10, .ref h11, .ref h12, .ref h13, .ref h14, .ref h15, .ref h16, .ref h17, .ref h18, .ref h19])), (h1, .inr (8, [.ref h6, .int 0])), (h19, .inl (a4, 480, .inl (fun _ => 0)))] rfl rfl (vp_in_iff.mpr (by decide)) (upd0 _) rfl dX7_study_27 (fun H locs Wd => ?_)
  refine lv_aload_n C.1 C.2.1 dX7_study_28 rfl (lv_at hl 1 rfl) ?_
  refine k_get C Wd KX7 0 2 rfl (by decide) fl_X7_22 rfl dX7_study_29 ?_
  refine lv_iload_n C.1 C.2.1 dX7_study_32 rfl (lv_at hl 0 rfl) ?_
  refine lv_iconst (v := 0) C.1 C.2.1 dX7_study_33 (by decide) ?_
  refine k_iast C Wd 2 1 [(h0, .inr (7, [.ref h2, .ref h3, .ref h4, .ref h5, .int 0])), (h3, .inl (a0, 6, .inl (fun _ => 0))), (h4, .inl (a1, 6, .inl (fun _ => 0))), (h2, .inr (1, [.ref h1, .int 0, .ref h8, .ref h9, .ref h10, .ref h11, .ref h12, .ref h13, .ref h14, .ref h15, .ref h16, .ref h17, .ref h18, .ref h19])), (h1, .inr (8, [.ref h6, .int 0])), (h19, .inl (a4, 480, .inl (fun _ => 0)))] rfl rfl (vp_in_iff.mpr (by decide)) (upd0 _) rfl dX7_study_34 (fun H locs Wd => ?_)
  refine lv_iinc (v := 1) (lv' := [(2, .int 1), (0, .ref h0), (1, .ref h1)]) C.1 C.2.1 dX7_study_35 hl (k := 0) rfl (by decide) (by decide) rfl (fun ls hl => ?_)
  refine lv_goto (tgt := 15) C.1 C.2.1 dX7_study_38 (by decide) ?_
  refine lv_iload_n C.1 C.2.1 dX7_study_15 rfl (lv_at hl 0 rfl) ?_
  refine lv_bipush (v := 6) C.1 C.2.1 dX7_study_16 (by decide) ?_
  refine lv_icmp_ge (tgt := 41) C.1 C.2.1 dX7_study_18 (by decide) (fun c2119 => absurd c2119 (by decide)) (fun _ => ?_)
  refine lv_aload_n C.1 C.2.1 dX7_study_21 rfl (lv_at hl 1 rfl) ?_
  refine k_get C Wd KX7 0 1 rfl (by decide) fl_X7_18 rfl dX7_study_22 ?_
  refine lv_iload_n C.1 C.2.1 dX7_study_25 rfl (lv_at hl 0 rfl) ?_
  refine lv_iconst (v := 0) C.1 C.2.1 dX7_study_26 (by decide) ?_
  refine k_iast C Wd 1 0 [(h0, .inr (7, [.ref h2, .ref h3, .ref h4, .ref h5, .int 0])), (h3, .inl (a0, 6, .inl (fun _ => 0))), (h4, .inl (a1, 6, .inl (fun _ => 0))), (h2, .inr (1, [.ref h1, .int 0, .ref h8, .ref h9, .ref h10, .ref h11, .ref h12, .ref h13, .ref h14, .ref h15, .ref h16, .ref h17, .ref h18, .ref h19])), (h1, .inr (8, [.ref h6, .int 0])), (h19, .inl (a4, 480, .inl (fun _ => 0)))] rfl rfl (vp_in_iff.mpr (by decide)) (upd0 _) rfl dX7_study_27 (fun H locs Wd => ?_)
  refine lv_aload_n C.1 C.2.1 dX7_study_28 rfl (lv_at hl 1 rfl) ?_
  refine k_get C Wd KX7 0 2 rfl (by decide) fl_X7_22 rfl dX7_study_29 ?_
  refine lv_iload_n C.1 C.2.1 dX7_study_32 rfl (lv_at hl 0 rfl) ?_
  refine lv_iconst (v := 0) C.1 C.2.1 dX7_study_33 (by decide) ?_
  refine k_iast C Wd 2 1 [(h0, .inr (7, [.ref h2, .ref h3, .ref h4, .ref h5, .int 0])), (h3, .inl (a0, 6, .inl (fun _ => 0))), (h4, .inl (a1, 6, .inl (fun _ => 0))), (h2, .inr (1, [.ref h1, .int 0, .ref h8, .ref h9, .ref h10, .ref h11, .ref h12, .ref h13, .ref h14, .ref h15, .ref h16, .ref h17, .ref h18, .ref h19])), (h1, .inr (8, [.ref h6, .int 0])), (h19, .inl (a4, 480, .inl (fun _ => 0)))] rfl rfl (vp_in_iff.mpr (by decide)) (upd0 _) rfl dX7_study_34 (fun H locs Wd => ?_)
  refine lv_iinc (v := 2) (lv' := [(2, .int 2), (0, .ref h0), (1, .ref h1)]) C.1 C.2.1 dX7_study_35 hl (k := 0) rfl (by decide) (by decide) rfl (fun ls hl => ?_)
  refine lv_goto (tgt := 15) C.1 C.2.1 dX7_study_38 (by decide) ?_
  refine lv_iload_n C.1 C.2.1 dX7_study_15 rfl (lv_at hl 0 rfl) ?_
  refine lv_bipush (v := 6) C.1 C.2.1 dX7_study_16 (by decide) ?_
  refine lv_icmp_ge (tgt := 41) C.1 C.2.1 dX7_study_18 (by decide) (fun c2120 => absurd c2120 (by decide)) (fun _ => ?_)
  refine lv_aload_n C.1 C.2.1 dX7_study_21 rfl (lv_at hl 1 rfl) ?_
  refine k_get C Wd KX7 0 1 rfl (by decide) fl_X7_18 rfl dX7_study_22 ?_
  refine lv_iload_n C.1 C.2.1 dX7_study_25 rfl (lv_at hl 0 rfl) ?_
  refine lv_iconst (v := 0) C.1 C.2.1 dX7_study_26 (by decide) ?_
  refine k_iast C Wd 1 0 [(h0, .inr (7, [.ref h2, .ref h3, .ref h4, .ref h5, .int 0])), (h3, .inl (a0, 6, .inl (fun _ => 0))), (h4, .inl (a1, 6, .inl (fun _ => 0))), (h2, .inr (1, [.ref h1, .int 0, .ref h8, .ref h9, .ref h10, .ref h11, .ref h12, .ref h13, .ref h14, .ref h15, .ref h16, .ref h17, .ref h18, .ref h19])), (h1, .inr (8, [.ref h6, .int 0])), (h19, .inl (a4, 480, .inl (fun _ => 0)))] rfl rfl (vp_in_iff.mpr (by decide)) (upd0 _) rfl dX7_study_27 (fun H locs Wd => ?_)
  refine lv_aload_n C.1 C.2.1 dX7_study_28 rfl (lv_at hl 1 rfl) ?_
  refine k_get C Wd KX7 0 2 rfl (by decide) fl_X7_22 rfl dX7_study_29 ?_
  refine lv_iload_n C.1 C.2.1 dX7_study_32 rfl (lv_at hl 0 rfl) ?_
  refine lv_iconst (v := 0) C.1 C.2.1 dX7_study_33 (by decide) ?_
  refine k_iast C Wd 2 1 [(h0, .inr (7, [.ref h2, .ref h3, .ref h4, .ref h5, .int 0])), (h3, .inl (a0, 6, .inl (fun _ => 0))), (h4, .inl (a1, 6, .inl (fun _ => 0))), (h2, .inr (1, [.ref h1, .int 0, .ref h8, .ref h9, .ref h10, .ref h11, .ref h12, .ref h13, .ref h14, .ref h15, .ref h16, .ref h17, .ref h18, .ref h19])), (h1, .inr (8, [.ref h6, .int 0])), (h19, .inl (a4, 480, .inl (fun _ => 0)))] rfl rfl (vp_in_iff.mpr (by decide)) (upd0 _) rfl dX7_study_34 (fun H locs Wd => ?_)
  refine lv_iinc (v := 3) (lv' := [(2, .int 3), (0, .ref h0), (1, .ref h1)]) C.1 C.2.1 dX7_study_35 hl (k := 0) rfl (by decide) (by decide) rfl (fun ls hl => ?_)
  refine lv_goto (tgt := 15) C.1 C.2.1 dX7_study_38 (by decide) ?_
  refine lv_iload_n C.1 C.2.1 dX7_study_15 rfl (lv_at hl 0 rfl) ?_
  refine lv_bipush (v := 6) C.1 C.2.1 dX7_study_16 (by decide) ?_
  refine lv_icmp_ge (tgt := 41) C.1 C.2.1 dX7_study_18 (by decide) (fun c2121 => absurd c2121 (by decide)) (fun _ => ?_)
  refine lv_aload_n C.1 C.2.1 dX7_study_21 rfl (lv_at hl 1 rfl) ?_
  refine k_get C Wd KX7 0 1 rfl (by decide) fl_X7_18 rfl dX7_study_22 ?_
  refine lv_iload_n C.1 C.2.1 dX7_study_25 rfl (lv_at hl 0 rfl) ?_
  refine lv_iconst (v := 0) C.1 C.2.1 dX7_study_26 (by decide) ?_
  refine k_iast C Wd 1 0 [(h0, .inr (7, [.ref h2, .ref h3, .ref h4, .ref h5, .int 0])), (h3, .inl (a0, 6, .inl (fun _ => 0))), (h4, .inl (a1, 6, .inl (fun _ => 0))), (h2, .inr (1, [.ref h1, .int 0, .ref h8, .ref h9, .ref h10, .ref h11, .ref h12, .ref h13, .ref h14, .ref h15, .ref h16, .ref h17, .ref h18, .ref h19])), (h1, .inr (8, [.ref h6, .int 0])), (h19, .inl (a4, 480, .inl (fun _ => 0)))] rfl rfl (vp_in_iff.mpr (by decide)) (upd0 _) rfl dX7_study_27 (fun H locs Wd => ?_)
  refine lv_aload_n C.1 C.2.1 dX7_study_28 rfl (lv_at hl 1 rfl) ?_
  refine k_get C Wd KX7 0 2 rfl (by decide) fl_X7_22 rfl dX7_study_29 ?_
  refine lv_iload_n C.1 C.2.1 dX7_study_32 rfl (lv_at hl 0 rfl) ?_
  refine lv_iconst (v := 0) C.1 C.2.1 dX7_study_33 (by decide) ?_
  refine k_iast C Wd 2 1 [(h0, .inr (7, [.ref h2, .ref h3, .ref h4, .ref h5, .int 0])), (h3, .inl (a0, 6, .inl (fun _ => 0))), (h4, .inl (a1, 6, .inl (fun _ => 0))), (h2, .inr (1, [.ref h1, .int 0, .ref h8, .ref h9, .ref h10, .ref h11, .ref h12, .ref h13, .ref h14, .ref h15, .ref h16, .ref h17, .ref h18, .ref h19])), (h1, .inr (8, [.ref h6, .int 0])), (h19, .inl (a4, 480, .inl (fun _ => 0)))] rfl rfl (vp_in_iff.mpr (by decide)) (upd0 _) rfl dX7_study_34 (fun H locs Wd => ?_)
  refine lv_iinc (v := 4) (lv' := [(2, .int 4), (0, .ref h0), (1, .ref h1)]) C.1 C.2.1 dX7_study_35 hl (k := 0) rfl (by decide) (by decide) rfl (fun ls hl => ?_)
  refine lv_goto (tgt := 15) C.1 C.2.1 dX7_study_38 (by decide) ?_
  refine lv_iload_n C.1 C.2.1 dX7_study_15 rfl (lv_at hl 0 rfl) ?_
  refine lv_bipush (v := 6) C.1 C.2.1 dX7_study_16 (by decide) ?_
  refine lv_icmp_ge (tgt := 41) C.1 C.2.1 dX7_study_18 (by decide) (fun c2122 => absurd c2122 (by decide)) (fun _ => ?_)
  refine lv_aload_n C.1 C.2.1 dX7_study_21 rfl (lv_at hl 1 rfl) ?_
  refine k_get C Wd KX7 0 1 rfl (by decide) fl_X7_18 rfl dX7_study_22 ?_
  refine lv_iload_n C.1 C.2.1 dX7_study_25 rfl (lv_at hl 0 rfl) ?_
  refine lv_iconst (v := 0) C.1 C.2.1 dX7_study_26 (by decide) ?_
  refine k_iast C Wd 1 0 [(h0, .inr (7, [.ref h2, .ref h3, .ref h4, .ref h5, .int 0])), (h3, .inl (a0, 6, .inl (fun _ => 0))), (h4, .inl (a1, 6, .inl (fun _ => 0))), (h2, .inr (1, [.ref h1, .int 0, .ref h8, .ref h9, .ref h10, .ref h11, .ref h12, .ref h13, .ref h14, .ref h15, .ref h16, .ref h17, .ref h18, .ref h19])), (h1, .inr (8, [.ref h6, .int 0])), (h19, .inl (a4, 480, .inl (fun _ => 0)))] rfl rfl (vp_in_iff.mpr (by decide)) (upd0 _) rfl dX7_study_27 (fun H locs Wd => ?_)
  refine lv_aload_n C.1 C.2.1 dX7_study_28 rfl (lv_at hl 1 rfl) ?_
  refine k_get C Wd KX7 0 2 rfl (by decide) fl_X7_22 rfl dX7_study_29 ?_
  refine lv_iload_n C.1 C.2.1 dX7_study_32 rfl (lv_at hl 0 rfl) ?_
  refine lv_iconst (v := 0) C.1 C.2.1 dX7_study_33 (by decide) ?_
  refine k_iast C Wd 2 1 [(h0, .inr (7, [.ref h2, .ref h3, .ref h4, .ref h5, .int 0])), (h3, .inl (a0, 6, .inl (fun _ => 0))), (h4, .inl (a1, 6, .inl (fun _ => 0))), (h2, .inr (1, [.ref h1, .int 0, .ref h8, .ref h9, .ref h10, .ref h11, .ref h12, .ref h13, .ref h14, .ref h15, .ref h16, .ref h17, .ref h18, .ref h19])), (h1, .inr (8, [.ref h6, .int 0])), (h19, .inl (a4, 480, .inl (fun _ => 0)))] rfl rfl (vp_in_iff.mpr (by decide)) (upd0 _) rfl dX7_study_34 (fun H locs Wd => ?_)
  refine lv_iinc (v := 5) (lv' := [(2, .int 5), (0, .ref h0), (1, .ref h1)]) C.1 C.2.1 dX7_study_35 hl (k := 0) rfl (by decide) (by decide) rfl (fun ls hl => ?_)
  refine lv_goto (tgt := 15) C.1 C.2.1 dX7_study_38 (by decide) ?_
  refine lv_iload_n C.1 C.2.1 dX7_study_15 rfl (lv_at hl 0 rfl) ?_
  refine lv_bipush (v := 6) C.1 C.2.1 dX7_study_16 (by decide) ?_
  refine lv_icmp_ge (tgt := 41) C.1 C.2.1 dX7_study_18 (by decide) (fun c2123 => absurd c2123 (by decide)) (fun _ => ?_)
  refine lv_aload_n C.1 C.2.1 dX7_study_21 rfl (lv_at hl 1 rfl) ?_
  refine k_get C Wd KX7 0 1 rfl (by decide) fl_X7_18 rfl dX7_study_22 ?_
  refine lv_iload_n C.1 C.2.1 dX7_study_25 rfl (lv_at hl 0 rfl) ?_
  refine lv_iconst (v := 0) C.1 C.2.1 dX7_study_26 (by decide) ?_
  refine k_iast C Wd 1 0 [(h0, .inr (7, [.ref h2, .ref h3, .ref h4, .ref h5, .int 0])), (h3, .inl (a0, 6, .inl (fun _ => 0))), (h4, .inl (a1, 6, .inl (fun _ => 0))), (h2, .inr (1, [.ref h1, .int 0, .ref h8, .ref h9, .ref h10, .ref h11, .ref h12, .ref h13, .ref h14, .ref h15, .ref h16, .ref h17, .ref h18, .ref h19])), (h1, .inr (8, [.ref h6, .int 0])), (h19, .inl (a4, 480, .inl (fun _ => 0)))] rfl rfl (vp_in_iff.mpr (by decide)) (upd0 _) rfl dX7_study_27 (fun H locs Wd => ?_)
  refine lv_aload_n C.1 C.2.1 dX7_study_28 rfl (lv_at hl 1 rfl) ?_
  refine k_get C Wd KX7 0 2 rfl (by decide) fl_X7_22 rfl dX7_study_29 ?_
  refine lv_iload_n C.1 C.2.1 dX7_study_32 rfl (lv_at hl 0 rfl) ?_
  refine lv_iconst (v := 0) C.1 C.2.1 dX7_study_33 (by decide) ?_
  refine k_iast C Wd 2 1 [(h0, .inr (7, [.ref h2, .ref h3, .ref h4, .ref h5, .int 0])), (h3, .inl (a0, 6, .inl (fun _ => 0))), (h4, .inl (a1, 6, .inl (fun _ => 0))), (h2, .inr (1, [.ref h1, .int 0, .ref h8, .ref h9, .ref h10, .ref h11, .ref h12, .ref h13, .ref h14, .ref h15, .ref h16, .ref h17, .ref h18, .ref h19])), (h1, .inr (8, [.ref h6, .int 0])), (h19, .inl (a4, 480, .inl (fun _ => 0)))] rfl rfl (vp_in_iff.mpr (by decide)) (upd0 _) rfl dX7_study_34 (fun H locs Wd => ?_)
  refine lv_iinc (v := 6) (lv' := [(2, .int 6), (0, .ref h0), (1, .ref h1)]) C.1 C.2.1 dX7_study_35 hl (k := 0) rfl (by decide) (by decide) rfl (fun ls hl => ?_)
  refine lv_goto (tgt := 15) C.1 C.2.1 dX7_study_38 (by decide) ?_
  refine lv_iload_n C.1 C.2.1 dX7_study_15 rfl (lv_at hl 0 rfl) ?_
  refine lv_bipush (v := 6) C.1 C.2.1 dX7_study_16 (by decide) ?_
  refine lv_icmp_ge (tgt := 41) C.1 C.2.1 dX7_study_18 (by decide) (fun _ => ?_) (fun c2124 => absurd c2124 (by decide))
  refine lv_iconst (v := 0) C.1 C.2.1 dX7_study_41 (by decide) ?_
  refine lv_istore_n (lv' := [(2, .int 0), (0, .ref h0), (1, .ref h1)]) C.1 C.2.1 dX7_study_42 rfl hl (by decide) rfl (fun ls hl => ?_)
  refine lv_iload_n C.1 C.2.1 dX7_study_43 rfl (lv_at hl 0 rfl) ?_
  refine lv_aload_n C.1 C.2.1 dX7_study_44 rfl (lv_at hl 2 rfl) ?_
  refine k_get C Wd KX8 4 1 rfl (by decide) fl_X7_36 rfl dX7_study_45 ?_
  refine lv_icmp_ge (tgt := 66) C.1 C.2.1 dX7_study_48 (by decide) (fun _ => ?_) (fun c2125 => absurd c2125 (by decide))
  refine lv_iconst (v := 0) C.1 C.2.1 dX7_study_66 (by decide) ?_
  refine lv_istore_n (lv' := [(2, .int 0), (0, .ref h0), (1, .ref h1)]) C.1 C.2.1 dX7_study_67 rfl hl (by decide) rfl (fun ls hl => ?_)
  refine lv_iload_n C.1 C.2.1 dX7_study_68 rfl (lv_at hl 0 rfl) ?_
  refine lv_aload_n C.1 C.2.1 dX7_study_69 rfl (lv_at hl 1 rfl) ?_
  refine k_get C Wd KX7 0 0 rfl (by decide) fl_X7_12 rfl dX7_study_70 ?_
  refine k_get C Wd KX1 3 1 rfl (by decide) fl_X7_49 rfl dX7_study_73 ?_
  refine lv_icmp_ge (tgt := 125) C.1 C.2.1 dX7_study_76 (by decide) (fun _ => ?_) (fun c2126 => absurd c2126 (by decide))
  exact k_vret C hr hlk Wd () trivial [0, 3, 4, 5, 1, 2] rfl (by decide) [] rfl (by decide) (by decide) dX7_study_125
set_option maxHeartbeats 4000000 in
set_option maxRecDepth 100000 in
theorem kcX7_comingsOf (l : Launch) (D : va_G) (h0 h1 h2 h3 h4 : Nat) (x0 : Int32) (a1 : ClassId) (sz : Nat)  : Met l yX7_comingsOf (Cond.code yX7_comingsOf cX7_comingsOf 4 (some .int) :: gG) { frames := 1, cells := 0, slots := 0, locals := 64 } (cPre D [(a1, .int)] [(h0, .inr (7, [.ref h1, .ref h2, .ref h3, .ref h4, .int 0])), (h3, .inl (a1, 6, .inl (fun _ => 0)))] sz [.ref h0, .int x0]) (vp_Si (fun r => r = 0)) 0 0 (fun _ => False) := by
  refine Met.ofW (cc := cX7_comingsOf) (maxL := 4) (ret := (some .int)) (by decide) rfl ?_
  intro p e s m args below meth c s₁ B hml hv
  obtain ⟨rfl, aks, rfl, Wd⟩ := k_enter hv
  have C : CallFix p m c cX7_comingsOf 4 s _ gG RX7 := ⟨B.exec, B.bytes, hml, findClass_of_methodNamed B.named, fun w h => atoms_spec (ws := Cond.code yX7_comingsOf cX7_comingsOf 4 (some .int) :: gG) B.pre w (List.mem_cons_of_mem _ h)⟩
  have hr := B.returns
  have hlk := B.notSynchronized
  obtain ⟨A, Wd⟩ : ∃ A, wX D [(a1, .int)] s [(h0, .inr (7, [.ref h1, .ref h2, .ref h3, .ref h4, .int 0])), (h3, .inl (a1, 6, .inl (fun _ => 0)))] s.heap A s.heap [] := ⟨_, Wd⟩
  refine k_locals (Nat.le_of_ble_eq_true rfl) [(0, .ref h0), (1, .int x0)] rfl (fun ls hl => ?_)
  refine lv_iconst (v := 0) C.1 C.2.1 dX7_comingsOf_0 (by decide) ?_
  refine lv_istore_n (lv' := [(2, .int 0), (0, .ref h0), (1, .int x0)]) C.1 C.2.1 dX7_comingsOf_1 rfl hl (by decide) rfl (fun ls hl => ?_)
  refine lv_iconst (v := 0) C.1 C.2.1 dX7_comingsOf_2 (by decide) ?_
  refine lv_istore_n (lv' := [(3, .int 0), (2, .int 0), (0, .ref h0), (1, .int x0)]) C.1 C.2.1 dX7_comingsOf_3 rfl hl (by decide) rfl (fun ls hl => ?_)
  refine lv_iload_n C.1 C.2.1 dX7_comingsOf_4 rfl (lv_at hl 0 rfl) ?_
  refine lv_bipush (v := 6) C.1 C.2.1 dX7_comingsOf_5 (by decide) ?_
  refine lv_icmp_ge (tgt := 37) C.1 C.2.1 dX7_comingsOf_7 (by decide) (fun c2147 => absurd c2147 (by decide)) (fun _ => ?_)
  refine lv_iload_n C.1 C.2.1 dX7_comingsOf_10 rfl (lv_at hl 1 rfl) ?_
  refine lv_iload_n C.1 C.2.1 dX7_comingsOf_11 rfl (lv_at hl 3 rfl) ?_
  refine lv_iload_n C.1 C.2.1 dX7_comingsOf_12 rfl (lv_at hl 0 rfl) ?_
  refine k_ishr (v := (x0 >>> (0 &&& 31))) C rfl dX7_comingsOf_13 ?_
  refine lv_iconst (v := 1) C.1 C.2.1 dX7_comingsOf_14 (by decide) ?_
  refine k_iand (v := ((x0 >>> (0 &&& 31)) &&& 1)) C rfl dX7_comingsOf_15 ?_
  refine k_join (g := F0 m 29 ls [.int 0, .int 0]) ?_ (fun J => ?_)
  · refine k_iadd (v := 0) C (by decide) dX7_comingsOf_29 ?_
    refine lv_istore_n (lv' := [(2, .int 0), (3, .int 0), (0, .ref h0), (1, .int x0)]) C.1 C.2.1 dX7_comingsOf_30 rfl hl (by decide) rfl (fun ls hl => ?_)
    refine lv_iinc (v := 1) (lv' := [(3, .int 1), (2, .int 0), (0, .ref h0), (1, .int x0)]) C.1 C.2.1 dX7_comingsOf_31 hl (k := 1) rfl (by decide) (by decide) rfl (fun ls hl => ?_)
    refine lv_goto (tgt := 4) C.1 C.2.1 dX7_comingsOf_34 (by decide) ?_
    refine lv_iload_n C.1 C.2.1 dX7_comingsOf_4 rfl (lv_at hl 0 rfl) ?_
    refine lv_bipush (v := 6) C.1 C.2.1 dX7_comingsOf_5 (by decide) ?_
    refine lv_icmp_ge (tgt := 37) C.1 C.2.1 dX7_comingsOf_7 (by decide) (fun c2148 => absurd c2148 (by decide)) (fun _ => ?_)
    refine lv_iload_n C.1 C.2.1 dX7_comingsOf_10 rfl (lv_at hl 1 rfl) ?_
    refine lv_iload_n C.1 C.2.1 dX7_comingsOf_11 rfl (lv_at hl 3 rfl) ?_
    refine lv_iload_n C.1 C.2.1 dX7_comingsOf_12 rfl (lv_at hl 0 rfl) ?_
    refine k_ishr (v := (x0 >>> (1 &&& 31))) C rfl dX7_comingsOf_13 ?_
    refine lv_iconst (v := 1) C.1 C.2.1 dX7_comingsOf_14 (by decide) ?_
    refine k_iand (v := ((x0 >>> (1 &&& 31)) &&& 1)) C rfl dX7_comingsOf_15 ?_
    refine k_join (g := F0 m 29 ls [.int 0, .int 0]) ?_ (fun J => ?_)
    · refine k_iadd (v := 0) C (by decide) dX7_comingsOf_29 ?_
      refine lv_istore_n (lv' := [(2, .int 0), (3, .int 1), (0, .ref h0), (1, .int x0)]) C.1 C.2.1 dX7_comingsOf_30 rfl hl (by decide) rfl (fun ls hl => ?_)
      refine lv_iinc (v := 2) (lv' := [(3, .int 2), (2, .int 0), (0, .ref h0), (1, .int x0)]) C.1 C.2.1 dX7_comingsOf_31 hl (k := 1) rfl (by decide) (by decide) rfl (fun ls hl => ?_)
      refine lv_goto (tgt := 4) C.1 C.2.1 dX7_comingsOf_34 (by decide) ?_
      refine lv_iload_n C.1 C.2.1 dX7_comingsOf_4 rfl (lv_at hl 0 rfl) ?_
      refine lv_bipush (v := 6) C.1 C.2.1 dX7_comingsOf_5 (by decide) ?_
      refine lv_icmp_ge (tgt := 37) C.1 C.2.1 dX7_comingsOf_7 (by decide) (fun c2149 => absurd c2149 (by decide)) (fun _ => ?_)
      refine lv_iload_n C.1 C.2.1 dX7_comingsOf_10 rfl (lv_at hl 1 rfl) ?_
      refine lv_iload_n C.1 C.2.1 dX7_comingsOf_11 rfl (lv_at hl 3 rfl) ?_
      refine lv_iload_n C.1 C.2.1 dX7_comingsOf_12 rfl (lv_at hl 0 rfl) ?_
      refine k_ishr (v := (x0 >>> (2 &&& 31))) C rfl dX7_comingsOf_13 ?_
      refine lv_iconst (v := 1) C.1 C.2.1 dX7_comingsOf_14 (by decide) ?_
      refine k_iand (v := ((x0 >>> (2 &&& 31)) &&& 1)) C rfl dX7_comingsOf_15 ?_
      refine k_join (g := F0 m 29 ls [.int 0, .int 0]) ?_ (fun J => ?_)
      · refine k_iadd (v := 0) C (by decide) dX7_comingsOf_29 ?_
        refine lv_istore_n (lv' := [(2, .int 0), (3, .int 2), (0, .ref h0), (1, .int x0)]) C.1 C.2.1 dX7_comingsOf_30 rfl hl (by decide) rfl (fun ls hl => ?_)
        refine lv_iinc (v := 3) (lv' := [(3, .int 3), (2, .int 0), (0, .ref h0), (1, .int x0)]) C.1 C.2.1 dX7_comingsOf_31 hl (k := 1) rfl (by decide) (by decide) rfl (fun ls hl => ?_)
        refine lv_goto (tgt := 4) C.1 C.2.1 dX7_comingsOf_34 (by decide) ?_
        refine lv_iload_n C.1 C.2.1 dX7_comingsOf_4 rfl (lv_at hl 0 rfl) ?_
        refine lv_bipush (v := 6) C.1 C.2.1 dX7_comingsOf_5 (by decide) ?_
        refine lv_icmp_ge (tgt := 37) C.1 C.2.1 dX7_comingsOf_7 (by decide) (fun c2150 => absurd c2150 (by decide)) (fun _ => ?_)
        refine lv_iload_n C.1 C.2.1 dX7_comingsOf_10 rfl (lv_at hl 1 rfl) ?_
        refine lv_iload_n C.1 C.2.1 dX7_comingsOf_11 rfl (lv_at hl 3 rfl) ?_
        refine lv_iload_n C.1 C.2.1 dX7_comingsOf_12 rfl (lv_at hl 0 rfl) ?_
        refine k_ishr (v := (x0 >>> (3 &&& 31))) C rfl dX7_comingsOf_13 ?_
        refine lv_iconst (v := 1) C.1 C.2.1 dX7_comingsOf_14 (by decide) ?_
        refine k_iand (v := ((x0 >>> (3 &&& 31)) &&& 1)) C rfl dX7_comingsOf_15 ?_
        refine k_join (g := F0 m 29 ls [.int 0, .int 0]) ?_ (fun J => ?_)
        · refine k_iadd (v := 0) C (by decide) dX7_comingsOf_29 ?_
          refine lv_istore_n (lv' := [(2, .int 0), (3, .int 3), (0, .ref h0), (1, .int x0)]) C.1 C.2.1 dX7_comingsOf_30 rfl hl (by decide) rfl (fun ls hl => ?_)
          refine lv_iinc (v := 4) (lv' := [(3, .int 4), (2, .int 0), (0, .ref h0), (1, .int x0)]) C.1 C.2.1 dX7_comingsOf_31 hl (k := 1) rfl (by decide) (by decide) rfl (fun ls hl => ?_)
          refine lv_goto (tgt := 4) C.1 C.2.1 dX7_comingsOf_34 (by decide) ?_
          refine lv_iload_n C.1 C.2.1 dX7_comingsOf_4 rfl (lv_at hl 0 rfl) ?_
          refine lv_bipush (v := 6) C.1 C.2.1 dX7_comingsOf_5 (by decide) ?_
          refine lv_icmp_ge (tgt := 37) C.1 C.2.1 dX7_comingsOf_7 (by decide) (fun c2151 => absurd c2151 (by decide)) (fun _ => ?_)
          refine lv_iload_n C.1 C.2.1 dX7_comingsOf_10 rfl (lv_at hl 1 rfl) ?_
          refine lv_iload_n C.1 C.2.1 dX7_comingsOf_11 rfl (lv_at hl 3 rfl) ?_
          refine lv_iload_n C.1 C.2.1 dX7_comingsOf_12 rfl (lv_at hl 0 rfl) ?_
          refine k_ishr (v := (x0 >>> (4 &&& 31))) C rfl dX7_comingsOf_13 ?_
          refine lv_iconst (v := 1) C.1 C.2.1 dX7_comingsOf_14 (by decide) ?_
          refine k_iand (v := ((x0 >>> (4 &&& 31)) &&& 1)) C rfl dX7_comingsOf_15 ?_
          refine k_join (g := F0 m 29 ls [.int 0, .int 0]) ?_ (fun J => ?_)
          · refine k_iadd (v := 0) C (by decide) dX7_comingsOf_29 ?_
            refine lv_istore_n (lv' := [(2, .int 0), (3, .int 4), (0, .ref h0), (1, .int x0)]) C.1 C.2.1 dX7_comingsOf_30 rfl hl (by decide) rfl (fun ls hl => ?_)
            refine lv_iinc (v := 5) (lv' := [(3, .int 5), (2, .int 0), (0, .ref h0), (1, .int x0)]) C.1 C.2.1 dX7_comingsOf_31 hl (k := 1) rfl (by decide) (by decide) rfl (fun ls hl => ?_)
            refine lv_goto (tgt := 4) C.1 C.2.1 dX7_comingsOf_34 (by decide) ?_
            refine lv_iload_n C.1 C.2.1 dX7_comingsOf_4 rfl (lv_at hl 0 rfl) ?_
            refine lv_bipush (v := 6) C.1 C.2.1 dX7_comingsOf_5 (by decide) ?_
            refine lv_icmp_ge (tgt := 37) C.1 C.2.1 dX7_comingsOf_7 (by decide) (fun c2152 => absurd c2152 (by decide)) (fun _ => ?_)
            refine lv_iload_n C.1 C.2.1 dX7_comingsOf_10 rfl (lv_at hl 1 rfl) ?_
            refine lv_iload_n C.1 C.2.1 dX7_comingsOf_11 rfl (lv_at hl 3 rfl) ?_
            refine lv_iload_n C.1 C.2.1 dX7_comingsOf_12 rfl (lv_at hl 0 rfl) ?_
            refine k_ishr (v := (x0 >>> (5 &&& 31))) C rfl dX7_comingsOf_13 ?_
            refine lv_iconst (v := 1) C.1 C.2.1 dX7_comingsOf_14 (by decide) ?_
            refine k_iand (v := ((x0 >>> (5 &&& 31)) &&& 1)) C rfl dX7_comingsOf_15 ?_
            refine k_join (g := F0 m 29 ls [.int 0, .int 0]) ?_ (fun J => ?_)
            · refine k_iadd (v := 0) C (by decide) dX7_comingsOf_29 ?_
              refine lv_istore_n (lv' := [(2, .int 0), (3, .int 5), (0, .ref h0), (1, .int x0)]) C.1 C.2.1 dX7_comingsOf_30 rfl hl (by decide) rfl (fun ls hl => ?_)
              refine lv_iinc (v := 6) (lv' := [(3, .int 6), (2, .int 0), (0, .ref h0), (1, .int x0)]) C.1 C.2.1 dX7_comingsOf_31 hl (k := 1) rfl (by decide) (by decide) rfl (fun ls hl => ?_)
              refine lv_goto (tgt := 4) C.1 C.2.1 dX7_comingsOf_34 (by decide) ?_
              refine lv_iload_n C.1 C.2.1 dX7_comingsOf_4 rfl (lv_at hl 0 rfl) ?_
              refine lv_bipush (v := 6) C.1 C.2.1 dX7_comingsOf_5 (by decide) ?_
              refine lv_icmp_ge (tgt := 37) C.1 C.2.1 dX7_comingsOf_7 (by decide) (fun _ => ?_) (fun c2153 => absurd c2153 (by decide))
              refine lv_iload_n C.1 C.2.1 dX7_comingsOf_37 rfl (lv_at hl 1 rfl) ?_
              exact k_zretP C hr hlk rfl rfl dX7_comingsOf_38
            · refine lv_if_eq (tgt := 28) C.1 C.2.1 dX7_comingsOf_16 (by decide) (fun c2154 => ?_) (fun c2154 => ?_)
              · refine lv_iconst (v := 0) C.1 C.2.1 dX7_comingsOf_28 (by decide) ?_
                exact J
              · refine lv_aload_n C.1 C.2.1 dX7_comingsOf_19 rfl (lv_at hl 2 rfl) ?_
                refine k_get C Wd KX7 0 2 rfl (by decide) fl_X7_22 rfl dX7_comingsOf_20 ?_
                refine lv_iload_n C.1 C.2.1 dX7_comingsOf_23 rfl (lv_at hl 0 rfl) ?_
                refine k_iald (v := 0) C Wd 1 0 rfl rfl (vp_in_iff.mpr (by decide)) rfl dX7_comingsOf_24 ?_
                refine lv_goto (tgt := 29) C.1 C.2.1 dX7_comingsOf_25 (by decide) ?_
                exact J
          · refine lv_if_eq (tgt := 28) C.1 C.2.1 dX7_comingsOf_16 (by decide) (fun c2155 => ?_) (fun c2155 => ?_)
            · refine lv_iconst (v := 0) C.1 C.2.1 dX7_comingsOf_28 (by decide) ?_
              exact J
            · refine lv_aload_n C.1 C.2.1 dX7_comingsOf_19 rfl (lv_at hl 2 rfl) ?_
              refine k_get C Wd KX7 0 2 rfl (by decide) fl_X7_22 rfl dX7_comingsOf_20 ?_
              refine lv_iload_n C.1 C.2.1 dX7_comingsOf_23 rfl (lv_at hl 0 rfl) ?_
              refine k_iald (v := 0) C Wd 1 0 rfl rfl (vp_in_iff.mpr (by decide)) rfl dX7_comingsOf_24 ?_
              refine lv_goto (tgt := 29) C.1 C.2.1 dX7_comingsOf_25 (by decide) ?_
              exact J
        · refine lv_if_eq (tgt := 28) C.1 C.2.1 dX7_comingsOf_16 (by decide) (fun c2156 => ?_) (fun c2156 => ?_)
          · refine lv_iconst (v := 0) C.1 C.2.1 dX7_comingsOf_28 (by decide) ?_
            exact J
          · refine lv_aload_n C.1 C.2.1 dX7_comingsOf_19 rfl (lv_at hl 2 rfl) ?_
            refine k_get C Wd KX7 0 2 rfl (by decide) fl_X7_22 rfl dX7_comingsOf_20 ?_
            refine lv_iload_n C.1 C.2.1 dX7_comingsOf_23 rfl (lv_at hl 0 rfl) ?_
            refine k_iald (v := 0) C Wd 1 0 rfl rfl (vp_in_iff.mpr (by decide)) rfl dX7_comingsOf_24 ?_
            refine lv_goto (tgt := 29) C.1 C.2.1 dX7_comingsOf_25 (by decide) ?_
            exact J
      · refine lv_if_eq (tgt := 28) C.1 C.2.1 dX7_comingsOf_16 (by decide) (fun c2157 => ?_) (fun c2157 => ?_)
        · refine lv_iconst (v := 0) C.1 C.2.1 dX7_comingsOf_28 (by decide) ?_
          exact J
        · refine lv_aload_n C.1 C.2.1 dX7_comingsOf_19 rfl (lv_at hl 2 rfl) ?_
          refine k_get C Wd KX7 0 2 rfl (by decide) fl_X7_22 rfl dX7_comingsOf_20 ?_
          refine lv_iload_n C.1 C.2.1 dX7_comingsOf_23 rfl (lv_at hl 0 rfl) ?_
          refine k_iald (v := 0) C Wd 1 0 rfl rfl (vp_in_iff.mpr (by decide)) rfl dX7_comingsOf_24 ?_
          refine lv_goto (tgt := 29) C.1 C.2.1 dX7_comingsOf_25 (by decide) ?_
          exact J
    · refine lv_if_eq (tgt := 28) C.1 C.2.1 dX7_comingsOf_16 (by decide) (fun c2158 => ?_) (fun c2158 => ?_)
      · refine lv_iconst (v := 0) C.1 C.2.1 dX7_comingsOf_28 (by decide) ?_
        exact J
      · refine lv_aload_n C.1 C.2.1 dX7_comingsOf_19 rfl (lv_at hl 2 rfl) ?_
        refine k_get C Wd KX7 0 2 rfl (by decide) fl_X7_22 rfl dX7_comingsOf_20 ?_
        refine lv_iload_n C.1 C.2.1 dX7_comingsOf_23 rfl (lv_at hl 0 rfl) ?_
        refine k_iald (v := 0) C Wd 1 0 rfl rfl (vp_in_iff.mpr (by decide)) rfl dX7_comingsOf_24 ?_
        refine lv_goto (tgt := 29) C.1 C.2.1 dX7_comingsOf_25 (by decide) ?_
        exact J
  · refine lv_if_eq (tgt := 28) C.1 C.2.1 dX7_comingsOf_16 (by decide) (fun c2159 => ?_) (fun c2159 => ?_)
    · refine lv_iconst (v := 0) C.1 C.2.1 dX7_comingsOf_28 (by decide) ?_
      exact J
    · refine lv_aload_n C.1 C.2.1 dX7_comingsOf_19 rfl (lv_at hl 2 rfl) ?_
      refine k_get C Wd KX7 0 2 rfl (by decide) fl_X7_22 rfl dX7_comingsOf_20 ?_
      refine lv_iload_n C.1 C.2.1 dX7_comingsOf_23 rfl (lv_at hl 0 rfl) ?_
      refine k_iald (v := 0) C Wd 1 0 rfl rfl (vp_in_iff.mpr (by decide)) rfl dX7_comingsOf_24 ?_
      refine lv_goto (tgt := 29) C.1 C.2.1 dX7_comingsOf_25 (by decide) ?_
      exact J
set_option maxHeartbeats 4000000 in
set_option maxRecDepth 100000 in
theorem kcX7_spills (l : Launch) (D : va_G) (h0 h1 h2 h3 h4 : Nat) (x0 : Int32) (a1 : ClassId) (sz : Nat)  : Met l yX7_spills (Cond.code yX7_spills cX7_spills 6 (some .int) :: gG) { frames := 2, cells := 0, slots := 0, locals := 87 } (cPre D [(a1, .int)] [(h0, .inr (7, [.ref h1, .ref h2, .ref h3, .ref h4, .int 0])), (h3, .inl (a1, 6, .inl (fun _ => 0)))] sz [.ref h0, .int x0]) (vp_Si (fun r => r = 0)) 0 0 (fun _ => False) := by
  refine Met.ofW (cc := cX7_spills) (maxL := 6) (ret := (some .int)) (by decide) rfl ?_
  intro p e s m args below meth c s₁ B hml hv
  obtain ⟨rfl, aks, rfl, Wd⟩ := k_enter hv
  have C : CallFix p m c cX7_spills 6 s _ gG RX7 := ⟨B.exec, B.bytes, hml, findClass_of_methodNamed B.named, fun w h => atoms_spec (ws := Cond.code yX7_spills cX7_spills 6 (some .int) :: gG) B.pre w (List.mem_cons_of_mem _ h)⟩
  have hr := B.returns
  have hlk := B.notSynchronized
  obtain ⟨A, Wd⟩ : ∃ A, wX D [(a1, .int)] s [(h0, .inr (7, [.ref h1, .ref h2, .ref h3, .ref h4, .int 0])), (h3, .inl (a1, 6, .inl (fun _ => 0)))] s.heap A s.heap [] := ⟨_, Wd⟩
  refine k_locals (Nat.le_of_ble_eq_true rfl) [(0, .ref h0), (1, .int x0)] rfl (fun ls hl => ?_)
  refine lv_aload_n C.1 C.2.1 dX7_spills_0 rfl (lv_at hl 0 rfl) ?_
  refine k_get C Wd KX7 0 4 rfl (by decide) fl_X7_32 rfl dX7_spills_1 ?_
  refine lv_istore_n (lv' := [(2, .int 0), (0, .ref h0), (1, .int x0)]) C.1 C.2.1 dX7_spills_4 rfl hl (by decide) rfl (fun ls hl => ?_)
  refine lv_aload_n C.1 C.2.1 dX7_spills_5 rfl (lv_at hl 1 rfl) ?_
  refine lv_aload_n C.1 C.2.1 dX7_spills_6 rfl (lv_at hl 1 rfl) ?_
  refine k_get C Wd KX7 0 4 rfl (by decide) fl_X7_32 rfl dX7_spills_7 ?_
  refine k_pi (k_runV (rest := []) C aks Wd cs_X7_82 (kcX7_comingsOf l D h0 h1 h2 h3 h4 0 a1 _ ) [0, 1] rfl (by decide) [0] rfl 0 7 rfl rfl rfl rfl rfl ⟨(Nat.le_of_ble_eq_true rfl), (Nat.le_of_ble_eq_true rfl)⟩ hl.1 rfl rfl (Nat.le_of_ble_eq_true rfl) ⟨(Nat.le_of_ble_eq_true rfl), (Nat.le_of_ble_eq_true rfl)⟩ dX7_spills_10) (fun r w2354 => ?_)
  obtain rfl := w2354
  refine lv_istore_n (lv' := [(3, .int 0), (2, .int 0), (0, .ref h0), (1, .int x0)]) C.1 C.2.1 dX7_spills_13 rfl hl (by decide) rfl (fun ls hl => ?_)
  refine lv_iconst (v := 0) C.1 C.2.1 dX7_spills_14 (by decide) ?_
  refine lv_istore (lv' := [(4, .int 0), (3, .int 0), (2, .int 0), (0, .ref h0), (1, .int x0)]) C.1 C.2.1 dX7_spills_15 hl (by decide) rfl (fun ls hl => ?_)
  refine lv_iload C.1 C.2.1 dX7_spills_17 (lv_at hl 0 rfl) ?_
  refine lv_bipush (v := 64) C.1 C.2.1 dX7_spills_19 (by decide) ?_
  refine lv_icmp_ge (tgt := 68) C.1 C.2.1 dX7_spills_21 (by decide) (fun c2355 => absurd c2355 (by decide)) (fun _ => ?_)
  refine lv_aload_n C.1 C.2.1 dX7_spills_24 rfl (lv_at hl 3 rfl) ?_
  refine lv_iload C.1 C.2.1 dX7_spills_25 (lv_at hl 0 rfl) ?_
  refine k_pi (k_runV (rest := []) C aks Wd cs_X7_82 (kcX7_comingsOf l D h0 h1 h2 h3 h4 0 a1 _ ) [0, 1] rfl (by decide) [0] rfl 0 7 rfl rfl rfl rfl rfl ⟨(Nat.le_of_ble_eq_true rfl), (Nat.le_of_ble_eq_true rfl)⟩ hl.1 rfl rfl (Nat.le_of_ble_eq_true rfl) ⟨(Nat.le_of_ble_eq_true rfl), (Nat.le_of_ble_eq_true rfl)⟩ dX7_spills_27) (fun r w2356 => ?_)
  obtain rfl := w2356
  refine lv_istore (lv' := [(5, .int 0), (4, .int 0), (3, .int 0), (2, .int 0), (0, .ref h0), (1, .int x0)]) C.1 C.2.1 dX7_spills_30 hl (by decide) rfl (fun ls hl => ?_)
  refine lv_iload C.1 C.2.1 dX7_spills_32 (lv_at hl 0 rfl) ?_
  refine lv_iload_n C.1 C.2.1 dX7_spills_34 rfl (lv_at hl 2 rfl) ?_
  refine lv_icmp_ge (tgt := 62) C.1 C.2.1 dX7_spills_35 (by decide) (fun _ => ?_) (fun c2357 => absurd c2357 (by decide))
  refine lv_iinc (v := 1) (lv' := [(4, .int 1), (5, .int 0), (3, .int 0), (2, .int 0), (0, .ref h0), (1, .int x0)]) C.1 C.2.1 dX7_spills_62 hl (k := 1) rfl (by decide) (by decide) rfl (fun ls hl => ?_)
  refine lv_goto (tgt := 17) C.1 C.2.1 dX7_spills_65 (by decide) ?_
  refine lv_iload C.1 C.2.1 dX7_spills_17 (lv_at hl 0 rfl) ?_
  refine lv_bipush (v := 64) C.1 C.2.1 dX7_spills_19 (by decide) ?_
  refine lv_icmp_ge (tgt := 68) C.1 C.2.1 dX7_spills_21 (by decide) (fun c2358 => absurd c2358 (by decide)) (fun _ => ?_)
  refine lv_aload_n C.1 C.2.1 dX7_spills_24 rfl (lv_at hl 4 rfl) ?_
  refine lv_iload C.1 C.2.1 dX7_spills_25 (lv_at hl 0 rfl) ?_
  refine k_pi (k_runV (rest := []) C aks Wd cs_X7_82 (kcX7_comingsOf l D h0 h1 h2 h3 h4 1 a1 _ ) [0, 1] rfl (by decide) [0] rfl 0 7 rfl rfl rfl rfl rfl ⟨(Nat.le_of_ble_eq_true rfl), (Nat.le_of_ble_eq_true rfl)⟩ hl.1 rfl rfl (Nat.le_of_ble_eq_true rfl) ⟨(Nat.le_of_ble_eq_true rfl), (Nat.le_of_ble_eq_true rfl)⟩ dX7_spills_27) (fun r w2359 => ?_)
  obtain rfl := w2359
  refine lv_istore (lv' := [(5, .int 0), (4, .int 1), (3, .int 0), (2, .int 0), (0, .ref h0), (1, .int x0)]) C.1 C.2.1 dX7_spills_30 hl (by decide) rfl (fun ls hl => ?_)
  refine lv_iload C.1 C.2.1 dX7_spills_32 (lv_at hl 0 rfl) ?_
  refine lv_iload_n C.1 C.2.1 dX7_spills_34 rfl (lv_at hl 2 rfl) ?_
  refine lv_icmp_ge (tgt := 62) C.1 C.2.1 dX7_spills_35 (by decide) (fun _ => ?_) (fun c2360 => absurd c2360 (by decide))
  refine lv_iinc (v := 2) (lv' := [(4, .int 2), (5, .int 0), (3, .int 0), (2, .int 0), (0, .ref h0), (1, .int x0)]) C.1 C.2.1 dX7_spills_62 hl (k := 1) rfl (by decide) (by decide) rfl (fun ls hl => ?_)
  refine lv_goto (tgt := 17) C.1 C.2.1 dX7_spills_65 (by decide) ?_
  refine lv_iload C.1 C.2.1 dX7_spills_17 (lv_at hl 0 rfl) ?_
  refine lv_bipush (v := 64) C.1 C.2.1 dX7_spills_19 (by decide) ?_
  refine lv_icmp_ge (tgt := 68) C.1 C.2.1 dX7_spills_21 (by decide) (fun c2361 => absurd c2361 (by decide)) (fun _ => ?_)
  refine lv_aload_n C.1 C.2.1 dX7_spills_24 rfl (lv_at hl 4 rfl) ?_
  refine lv_iload C.1 C.2.1 dX7_spills_25 (lv_at hl 0 rfl) ?_
  refine k_pi (k_runV (rest := []) C aks Wd cs_X7_82 (kcX7_comingsOf l D h0 h1 h2 h3 h4 2 a1 _ ) [0, 1] rfl (by decide) [0] rfl 0 7 rfl rfl rfl rfl rfl ⟨(Nat.le_of_ble_eq_true rfl), (Nat.le_of_ble_eq_true rfl)⟩ hl.1 rfl rfl (Nat.le_of_ble_eq_true rfl) ⟨(Nat.le_of_ble_eq_true rfl), (Nat.le_of_ble_eq_true rfl)⟩ dX7_spills_27) (fun r w2362 => ?_)
  obtain rfl := w2362
  refine lv_istore (lv' := [(5, .int 0), (4, .int 2), (3, .int 0), (2, .int 0), (0, .ref h0), (1, .int x0)]) C.1 C.2.1 dX7_spills_30 hl (by decide) rfl (fun ls hl => ?_)
  refine lv_iload C.1 C.2.1 dX7_spills_32 (lv_at hl 0 rfl) ?_
  refine lv_iload_n C.1 C.2.1 dX7_spills_34 rfl (lv_at hl 2 rfl) ?_
  refine lv_icmp_ge (tgt := 62) C.1 C.2.1 dX7_spills_35 (by decide) (fun _ => ?_) (fun c2363 => absurd c2363 (by decide))
  refine lv_iinc (v := 3) (lv' := [(4, .int 3), (5, .int 0), (3, .int 0), (2, .int 0), (0, .ref h0), (1, .int x0)]) C.1 C.2.1 dX7_spills_62 hl (k := 1) rfl (by decide) (by decide) rfl (fun ls hl => ?_)
  refine lv_goto (tgt := 17) C.1 C.2.1 dX7_spills_65 (by decide) ?_
  refine lv_iload C.1 C.2.1 dX7_spills_17 (lv_at hl 0 rfl) ?_
  refine lv_bipush (v := 64) C.1 C.2.1 dX7_spills_19 (by decide) ?_
  refine lv_icmp_ge (tgt := 68) C.1 C.2.1 dX7_spills_21 (by decide) (fun c2364 => absurd c2364 (by decide)) (fun _ => ?_)
  refine lv_aload_n C.1 C.2.1 dX7_spills_24 rfl (lv_at hl 4 rfl) ?_
  refine lv_iload C.1 C.2.1 dX7_spills_25 (lv_at hl 0 rfl) ?_
  refine k_pi (k_runV (rest := []) C aks Wd cs_X7_82 (kcX7_comingsOf l D h0 h1 h2 h3 h4 3 a1 _ ) [0, 1] rfl (by decide) [0] rfl 0 7 rfl rfl rfl rfl rfl ⟨(Nat.le_of_ble_eq_true rfl), (Nat.le_of_ble_eq_true rfl)⟩ hl.1 rfl rfl (Nat.le_of_ble_eq_true rfl) ⟨(Nat.le_of_ble_eq_true rfl), (Nat.le_of_ble_eq_true rfl)⟩ dX7_spills_27) (fun r w2365 => ?_)
  obtain rfl := w2365
  refine lv_istore (lv' := [(5, .int 0), (4, .int 3), (3, .int 0), (2, .int 0), (0, .ref h0), (1, .int x0)]) C.1 C.2.1 dX7_spills_30 hl (by decide) rfl (fun ls hl => ?_)
  refine lv_iload C.1 C.2.1 dX7_spills_32 (lv_at hl 0 rfl) ?_
  refine lv_iload_n C.1 C.2.1 dX7_spills_34 rfl (lv_at hl 2 rfl) ?_
  refine lv_icmp_ge (tgt := 62) C.1 C.2.1 dX7_spills_35 (by decide) (fun _ => ?_) (fun c2366 => absurd c2366 (by decide))
  refine lv_iinc (v := 4) (lv' := [(4, .int 4), (5, .int 0), (3, .int 0), (2, .int 0), (0, .ref h0), (1, .int x0)]) C.1 C.2.1 dX7_spills_62 hl (k := 1) rfl (by decide) (by decide) rfl (fun ls hl => ?_)
  refine lv_goto (tgt := 17) C.1 C.2.1 dX7_spills_65 (by decide) ?_
  refine lv_iload C.1 C.2.1 dX7_spills_17 (lv_at hl 0 rfl) ?_
  refine lv_bipush (v := 64) C.1 C.2.1 dX7_spills_19 (by decide) ?_
  refine lv_icmp_ge (tgt := 68) C.1 C.2.1 dX7_spills_21 (by decide) (fun c2367 => absurd c2367 (by decide)) (fun _ => ?_)
  refine lv_aload_n C.1 C.2.1 dX7_spills_24 rfl (lv_at hl 4 rfl) ?_
  refine lv_iload C.1 C.2.1 dX7_spills_25 (lv_at hl 0 rfl) ?_
  refine k_pi (k_runV (rest := []) C aks Wd cs_X7_82 (kcX7_comingsOf l D h0 h1 h2 h3 h4 4 a1 _ ) [0, 1] rfl (by decide) [0] rfl 0 7 rfl rfl rfl rfl rfl ⟨(Nat.le_of_ble_eq_true rfl), (Nat.le_of_ble_eq_true rfl)⟩ hl.1 rfl rfl (Nat.le_of_ble_eq_true rfl) ⟨(Nat.le_of_ble_eq_true rfl), (Nat.le_of_ble_eq_true rfl)⟩ dX7_spills_27) (fun r w2368 => ?_)
  obtain rfl := w2368
  refine lv_istore (lv' := [(5, .int 0), (4, .int 4), (3, .int 0), (2, .int 0), (0, .ref h0), (1, .int x0)]) C.1 C.2.1 dX7_spills_30 hl (by decide) rfl (fun ls hl => ?_)
  refine lv_iload C.1 C.2.1 dX7_spills_32 (lv_at hl 0 rfl) ?_
  refine lv_iload_n C.1 C.2.1 dX7_spills_34 rfl (lv_at hl 2 rfl) ?_
  refine lv_icmp_ge (tgt := 62) C.1 C.2.1 dX7_spills_35 (by decide) (fun _ => ?_) (fun c2369 => absurd c2369 (by decide))
  refine lv_iinc (v := 5) (lv' := [(4, .int 5), (5, .int 0), (3, .int 0), (2, .int 0), (0, .ref h0), (1, .int x0)]) C.1 C.2.1 dX7_spills_62 hl (k := 1) rfl (by decide) (by decide) rfl (fun ls hl => ?_)
  refine lv_goto (tgt := 17) C.1 C.2.1 dX7_spills_65 (by decide) ?_
  refine lv_iload C.1 C.2.1 dX7_spills_17 (lv_at hl 0 rfl) ?_
  refine lv_bipush (v := 64) C.1 C.2.1 dX7_spills_19 (by decide) ?_
  refine lv_icmp_ge (tgt := 68) C.1 C.2.1 dX7_spills_21 (by decide) (fun c2370 => absurd c2370 (by decide)) (fun _ => ?_)
  refine lv_aload_n C.1 C.2.1 dX7_spills_24 rfl (lv_at hl 4 rfl) ?_
  refine lv_iload C.1 C.2.1 dX7_spills_25 (lv_at hl 0 rfl) ?_
  refine k_pi (k_runV (rest := []) C aks Wd cs_X7_82 (kcX7_comingsOf l D h0 h1 h2 h3 h4 5 a1 _ ) [0, 1] rfl (by decide) [0] rfl 0 7 rfl rfl rfl rfl rfl ⟨(Nat.le_of_ble_eq_true rfl), (Nat.le_of_ble_eq_true rfl)⟩ hl.1 rfl rfl (Nat.le_of_ble_eq_true rfl) ⟨(Nat.le_of_ble_eq_true rfl), (Nat.le_of_ble_eq_true rfl)⟩ dX7_spills_27) (fun r w2371 => ?_)
  obtain rfl := w2371
  refine lv_istore (lv' := [(5, .int 0), (4, .int 5), (3, .int 0), (2, .int 0), (0, .ref h0), (1, .int x0)]) C.1 C.2.1 dX7_spills_30 hl (by decide) rfl (fun ls hl => ?_)
  refine lv_iload C.1 C.2.1 dX7_spills_32 (lv_at hl 0 rfl) ?_
  refine lv_iload_n C.1 C.2.1 dX7_spills_34 rfl (lv_at hl 2 rfl) ?_
  refine lv_icmp_ge (tgt := 62) C.1 C.2.1 dX7_spills_35 (by decide) (fun _ => ?_) (fun c2372 => absurd c2372 (by decide))
  refine lv_iinc (v := 6) (lv' := [(4, .int 6), (5, .int 0), (3, .int 0), (2, .int 0), (0, .ref h0), (1, .int x0)]) C.1 C.2.1 dX7_spills_62 hl (k := 1) rfl (by decide) (by decide) rfl (fun ls hl => ?_)
  refine lv_goto (tgt := 17) C.1 C.2.1 dX7_spills_65 (by decide) ?_
  refine lv_iload C.1 C.2.1 dX7_spills_17 (lv_at hl 0 rfl) ?_
  refine lv_bipush (v := 64) C.1 C.2.1 dX7_spills_19 (by decide) ?_
  refine lv_icmp_ge (tgt := 68) C.1 C.2.1 dX7_spills_21 (by decide) (fun c2373 => absurd c2373 (by decide)) (fun _ => ?_)
  refine lv_aload_n C.1 C.2.1 dX7_spills_24 rfl (lv_at hl 4 rfl) ?_
  refine lv_iload C.1 C.2.1 dX7_spills_25 (lv_at hl 0 rfl) ?_
  refine k_pi (k_runV (rest := []) C aks Wd cs_X7_82 (kcX7_comingsOf l D h0 h1 h2 h3 h4 6 a1 _ ) [0, 1] rfl (by decide) [0] rfl 0 7 rfl rfl rfl rfl rfl ⟨(Nat.le_of_ble_eq_true rfl), (Nat.le_of_ble_eq_true rfl)⟩ hl.1 rfl rfl (Nat.le_of_ble_eq_true rfl) ⟨(Nat.le_of_ble_eq_true rfl), (Nat.le_of_ble_eq_true rfl)⟩ dX7_spills_27) (fun r w2374 => ?_)
  obtain rfl := w2374
  refine lv_istore (lv' := [(5, .int 0), (4, .int 6), (3, .int 0), (2, .int 0), (0, .ref h0), (1, .int x0)]) C.1 C.2.1 dX7_spills_30 hl (by decide) rfl (fun ls hl => ?_)
  refine lv_iload C.1 C.2.1 dX7_spills_32 (lv_at hl 0 rfl) ?_
  refine lv_iload_n C.1 C.2.1 dX7_spills_34 rfl (lv_at hl 2 rfl) ?_
  refine lv_icmp_ge (tgt := 62) C.1 C.2.1 dX7_spills_35 (by decide) (fun _ => ?_) (fun c2375 => absurd c2375 (by decide))
  refine lv_iinc (v := 7) (lv' := [(4, .int 7), (5, .int 0), (3, .int 0), (2, .int 0), (0, .ref h0), (1, .int x0)]) C.1 C.2.1 dX7_spills_62 hl (k := 1) rfl (by decide) (by decide) rfl (fun ls hl => ?_)
  refine lv_goto (tgt := 17) C.1 C.2.1 dX7_spills_65 (by decide) ?_
  refine lv_iload C.1 C.2.1 dX7_spills_17 (lv_at hl 0 rfl) ?_
  refine lv_bipush (v := 64) C.1 C.2.1 dX7_spills_19 (by decide) ?_
  refine lv_icmp_ge (tgt := 68) C.1 C.2.1 dX7_spills_21 (by decide) (fun c2376 => absurd c2376 (by decide)) (fun _ => ?_)
  refine lv_aload_n C.1 C.2.1 dX7_spills_24 rfl (lv_at hl 4 rfl) ?_
  refine lv_iload C.1 C.2.1 dX7_spills_25 (lv_at hl 0 rfl) ?_
  refine k_pi (k_runV (rest := []) C aks Wd cs_X7_82 (kcX7_comingsOf l D h0 h1 h2 h3 h4 7 a1 _ ) [0, 1] rfl (by decide) [0] rfl 0 7 rfl rfl rfl rfl rfl ⟨(Nat.le_of_ble_eq_true rfl), (Nat.le_of_ble_eq_true rfl)⟩ hl.1 rfl rfl (Nat.le_of_ble_eq_true rfl) ⟨(Nat.le_of_ble_eq_true rfl), (Nat.le_of_ble_eq_true rfl)⟩ dX7_spills_27) (fun r w2377 => ?_)
  obtain rfl := w2377
  refine lv_istore (lv' := [(5, .int 0), (4, .int 7), (3, .int 0), (2, .int 0), (0, .ref h0), (1, .int x0)]) C.1 C.2.1 dX7_spills_30 hl (by decide) rfl (fun ls hl => ?_)
  refine lv_iload C.1 C.2.1 dX7_spills_32 (lv_at hl 0 rfl) ?_
  refine lv_iload_n C.1 C.2.1 dX7_spills_34 rfl (lv_at hl 2 rfl) ?_
  refine lv_icmp_ge (tgt := 62) C.1 C.2.1 dX7_spills_35 (by decide) (fun _ => ?_) (fun c2378 => absurd c2378 (by decide))
  refine lv_iinc (v := 8) (lv' := [(4, .int 8), (5, .int 0), (3, .int 0), (2, .int 0), (0, .ref h0), (1, .int x0)]) C.1 C.2.1 dX7_spills_62 hl (k := 1) rfl (by decide) (by decide) rfl (fun ls hl => ?_)
  refine lv_goto (tgt := 17) C.1 C.2.1 dX7_spills_65 (by decide) ?_
  refine lv_iload C.1 C.2.1 dX7_spills_17 (lv_at hl 0 rfl) ?_
  refine lv_bipush (v := 64) C.1 C.2.1 dX7_spills_19 (by decide) ?_
  refine lv_icmp_ge (tgt := 68) C.1 C.2.1 dX7_spills_21 (by decide) (fun c2379 => absurd c2379 (by decide)) (fun _ => ?_)
  refine lv_aload_n C.1 C.2.1 dX7_spills_24 rfl (lv_at hl 4 rfl) ?_
  refine lv_iload C.1 C.2.1 dX7_spills_25 (lv_at hl 0 rfl) ?_
  refine k_pi (k_runV (rest := []) C aks Wd cs_X7_82 (kcX7_comingsOf l D h0 h1 h2 h3 h4 8 a1 _ ) [0, 1] rfl (by decide) [0] rfl 0 7 rfl rfl rfl rfl rfl ⟨(Nat.le_of_ble_eq_true rfl), (Nat.le_of_ble_eq_true rfl)⟩ hl.1 rfl rfl (Nat.le_of_ble_eq_true rfl) ⟨(Nat.le_of_ble_eq_true rfl), (Nat.le_of_ble_eq_true rfl)⟩ dX7_spills_27) (fun r w2380 => ?_)
  obtain rfl := w2380
  refine lv_istore (lv' := [(5, .int 0), (4, .int 8), (3, .int 0), (2, .int 0), (0, .ref h0), (1, .int x0)]) C.1 C.2.1 dX7_spills_30 hl (by decide) rfl (fun ls hl => ?_)
  refine lv_iload C.1 C.2.1 dX7_spills_32 (lv_at hl 0 rfl) ?_
  refine lv_iload_n C.1 C.2.1 dX7_spills_34 rfl (lv_at hl 2 rfl) ?_
  refine lv_icmp_ge (tgt := 62) C.1 C.2.1 dX7_spills_35 (by decide) (fun _ => ?_) (fun c2381 => absurd c2381 (by decide))
  refine lv_iinc (v := 9) (lv' := [(4, .int 9), (5, .int 0), (3, .int 0), (2, .int 0), (0, .ref h0), (1, .int x0)]) C.1 C.2.1 dX7_spills_62 hl (k := 1) rfl (by decide) (by decide) rfl (fun ls hl => ?_)
  refine lv_goto (tgt := 17) C.1 C.2.1 dX7_spills_65 (by decide) ?_
  refine lv_iload C.1 C.2.1 dX7_spills_17 (lv_at hl 0 rfl) ?_
  refine lv_bipush (v := 64) C.1 C.2.1 dX7_spills_19 (by decide) ?_
  refine lv_icmp_ge (tgt := 68) C.1 C.2.1 dX7_spills_21 (by decide) (fun c2382 => absurd c2382 (by decide)) (fun _ => ?_)
  refine lv_aload_n C.1 C.2.1 dX7_spills_24 rfl (lv_at hl 4 rfl) ?_
  refine lv_iload C.1 C.2.1 dX7_spills_25 (lv_at hl 0 rfl) ?_
  refine k_pi (k_runV (rest := []) C aks Wd cs_X7_82 (kcX7_comingsOf l D h0 h1 h2 h3 h4 9 a1 _ ) [0, 1] rfl (by decide) [0] rfl 0 7 rfl rfl rfl rfl rfl ⟨(Nat.le_of_ble_eq_true rfl), (Nat.le_of_ble_eq_true rfl)⟩ hl.1 rfl rfl (Nat.le_of_ble_eq_true rfl) ⟨(Nat.le_of_ble_eq_true rfl), (Nat.le_of_ble_eq_true rfl)⟩ dX7_spills_27) (fun r w2383 => ?_)
  obtain rfl := w2383
  refine lv_istore (lv' := [(5, .int 0), (4, .int 9), (3, .int 0), (2, .int 0), (0, .ref h0), (1, .int x0)]) C.1 C.2.1 dX7_spills_30 hl (by decide) rfl (fun ls hl => ?_)
  refine lv_iload C.1 C.2.1 dX7_spills_32 (lv_at hl 0 rfl) ?_
  refine lv_iload_n C.1 C.2.1 dX7_spills_34 rfl (lv_at hl 2 rfl) ?_
  refine lv_icmp_ge (tgt := 62) C.1 C.2.1 dX7_spills_35 (by decide) (fun _ => ?_) (fun c2384 => absurd c2384 (by decide))
  refine lv_iinc (v := 10) (lv' := [(4, .int 10), (5, .int 0), (3, .int 0), (2, .int 0), (0, .ref h0), (1, .int x0)]) C.1 C.2.1 dX7_spills_62 hl (k := 1) rfl (by decide) (by decide) rfl (fun ls hl => ?_)
  refine lv_goto (tgt := 17) C.1 C.2.1 dX7_spills_65 (by decide) ?_
  refine lv_iload C.1 C.2.1 dX7_spills_17 (lv_at hl 0 rfl) ?_
  refine lv_bipush (v := 64) C.1 C.2.1 dX7_spills_19 (by decide) ?_
  refine lv_icmp_ge (tgt := 68) C.1 C.2.1 dX7_spills_21 (by decide) (fun c2385 => absurd c2385 (by decide)) (fun _ => ?_)
  refine lv_aload_n C.1 C.2.1 dX7_spills_24 rfl (lv_at hl 4 rfl) ?_
  refine lv_iload C.1 C.2.1 dX7_spills_25 (lv_at hl 0 rfl) ?_
  refine k_pi (k_runV (rest := []) C aks Wd cs_X7_82 (kcX7_comingsOf l D h0 h1 h2 h3 h4 10 a1 _ ) [0, 1] rfl (by decide) [0] rfl 0 7 rfl rfl rfl rfl rfl ⟨(Nat.le_of_ble_eq_true rfl), (Nat.le_of_ble_eq_true rfl)⟩ hl.1 rfl rfl (Nat.le_of_ble_eq_true rfl) ⟨(Nat.le_of_ble_eq_true rfl), (Nat.le_of_ble_eq_true rfl)⟩ dX7_spills_27) (fun r w2386 => ?_)
  obtain rfl := w2386
  refine lv_istore (lv' := [(5, .int 0), (4, .int 10), (3, .int 0), (2, .int 0), (0, .ref h0), (1, .int x0)]) C.1 C.2.1 dX7_spills_30 hl (by decide) rfl (fun ls hl => ?_)
  refine lv_iload C.1 C.2.1 dX7_spills_32 (lv_at hl 0 rfl) ?_
  refine lv_iload_n C.1 C.2.1 dX7_spills_34 rfl (lv_at hl 2 rfl) ?_
  refine lv_icmp_ge (tgt := 62) C.1 C.2.1 dX7_spills_35 (by decide) (fun _ => ?_) (fun c2387 => absurd c2387 (by decide))
  refine lv_iinc (v := 11) (lv' := [(4, .int 11), (5, .int 0), (3, .int 0), (2, .int 0), (0, .ref h0), (1, .int x0)]) C.1 C.2.1 dX7_spills_62 hl (k := 1) rfl (by decide) (by decide) rfl (fun ls hl => ?_)
  refine lv_goto (tgt := 17) C.1 C.2.1 dX7_spills_65 (by decide) ?_
  refine lv_iload C.1 C.2.1 dX7_spills_17 (lv_at hl 0 rfl) ?_
  refine lv_bipush (v := 64) C.1 C.2.1 dX7_spills_19 (by decide) ?_
  refine lv_icmp_ge (tgt := 68) C.1 C.2.1 dX7_spills_21 (by decide) (fun c2388 => absurd c2388 (by decide)) (fun _ => ?_)
  refine lv_aload_n C.1 C.2.1 dX7_spills_24 rfl (lv_at hl 4 rfl) ?_
  refine lv_iload C.1 C.2.1 dX7_spills_25 (lv_at hl 0 rfl) ?_
  refine k_pi (k_runV (rest := []) C aks Wd cs_X7_82 (kcX7_comingsOf l D h0 h1 h2 h3 h4 11 a1 _ ) [0, 1] rfl (by decide) [0] rfl 0 7 rfl rfl rfl rfl rfl ⟨(Nat.le_of_ble_eq_true rfl), (Nat.le_of_ble_eq_true rfl)⟩ hl.1 rfl rfl (Nat.le_of_ble_eq_true rfl) ⟨(Nat.le_of_ble_eq_true rfl), (Nat.le_of_ble_eq_true rfl)⟩ dX7_spills_27) (fun r w2389 => ?_)
  obtain rfl := w2389
  refine lv_istore (lv' := [(5, .int 0), (4, .int 11), (3, .int 0), (2, .int 0), (0, .ref h0), (1, .int x0)]) C.1 C.2.1 dX7_spills_30 hl (by decide) rfl (fun ls hl => ?_)
  refine lv_iload C.1 C.2.1 dX7_spills_32 (lv_at hl 0 rfl) ?_
  refine lv_iload_n C.1 C.2.1 dX7_spills_34 rfl (lv_at hl 2 rfl) ?_
  refine lv_icmp_ge (tgt := 62) C.1 C.2.1 dX7_spills_35 (by decide) (fun _ => ?_) (fun c2390 => absurd c2390 (by decide))
  refine lv_iinc (v := 12) (lv' := [(4, .int 12), (5, .int 0), (3, .int 0), (2, .int 0), (0, .ref h0), (1, .int x0)]) C.1 C.2.1 dX7_spills_62 hl (k := 1) rfl (by decide) (by decide) rfl (fun ls hl => ?_)
  refine lv_goto (tgt := 17) C.1 C.2.1 dX7_spills_65 (by decide) ?_
  refine lv_iload C.1 C.2.1 dX7_spills_17 (lv_at hl 0 rfl) ?_
  refine lv_bipush (v := 64) C.1 C.2.1 dX7_spills_19 (by decide) ?_
  refine lv_icmp_ge (tgt := 68) C.1 C.2.1 dX7_spills_21 (by decide) (fun c2391 => absurd c2391 (by decide)) (fun _ => ?_)
  refine lv_aload_n C.1 C.2.1 dX7_spills_24 rfl (lv_at hl 4 rfl) ?_
  refine lv_iload C.1 C.2.1 dX7_spills_25 (lv_at hl 0 rfl) ?_
  refine k_pi (k_runV (rest := []) C aks Wd cs_X7_82 (kcX7_comingsOf l D h0 h1 h2 h3 h4 12 a1 _ ) [0, 1] rfl (by decide) [0] rfl 0 7 rfl rfl rfl rfl rfl ⟨(Nat.le_of_ble_eq_true rfl), (Nat.le_of_ble_eq_true rfl)⟩ hl.1 rfl rfl (Nat.le_of_ble_eq_true rfl) ⟨(Nat.le_of_ble_eq_true rfl), (Nat.le_of_ble_eq_true rfl)⟩ dX7_spills_27) (fun r w2392 => ?_)
  obtain rfl := w2392
  refine lv_istore (lv' := [(5, .int 0), (4, .int 12), (3, .int 0), (2, .int 0), (0, .ref h0), (1, .int x0)]) C.1 C.2.1 dX7_spills_30 hl (by decide) rfl (fun ls hl => ?_)
  refine lv_iload C.1 C.2.1 dX7_spills_32 (lv_at hl 0 rfl) ?_
  refine lv_iload_n C.1 C.2.1 dX7_spills_34 rfl (lv_at hl 2 rfl) ?_
  refine lv_icmp_ge (tgt := 62) C.1 C.2.1 dX7_spills_35 (by decide) (fun _ => ?_) (fun c2393 => absurd c2393 (by decide))
  refine lv_iinc (v := 13) (lv' := [(4, .int 13), (5, .int 0), (3, .int 0), (2, .int 0), (0, .ref h0), (1, .int x0)]) C.1 C.2.1 dX7_spills_62 hl (k := 1) rfl (by decide) (by decide) rfl (fun ls hl => ?_)
  refine lv_goto (tgt := 17) C.1 C.2.1 dX7_spills_65 (by decide) ?_
  refine lv_iload C.1 C.2.1 dX7_spills_17 (lv_at hl 0 rfl) ?_
  refine lv_bipush (v := 64) C.1 C.2.1 dX7_spills_19 (by decide) ?_
  refine lv_icmp_ge (tgt := 68) C.1 C.2.1 dX7_spills_21 (by decide) (fun c2394 => absurd c2394 (by decide)) (fun _ => ?_)
  refine lv_aload_n C.1 C.2.1 dX7_spills_24 rfl (lv_at hl 4 rfl) ?_
  refine lv_iload C.1 C.2.1 dX7_spills_25 (lv_at hl 0 rfl) ?_
  refine k_pi (k_runV (rest := []) C aks Wd cs_X7_82 (kcX7_comingsOf l D h0 h1 h2 h3 h4 13 a1 _ ) [0, 1] rfl (by decide) [0] rfl 0 7 rfl rfl rfl rfl rfl ⟨(Nat.le_of_ble_eq_true rfl), (Nat.le_of_ble_eq_true rfl)⟩ hl.1 rfl rfl (Nat.le_of_ble_eq_true rfl) ⟨(Nat.le_of_ble_eq_true rfl), (Nat.le_of_ble_eq_true rfl)⟩ dX7_spills_27) (fun r w2395 => ?_)
  obtain rfl := w2395
  refine lv_istore (lv' := [(5, .int 0), (4, .int 13), (3, .int 0), (2, .int 0), (0, .ref h0), (1, .int x0)]) C.1 C.2.1 dX7_spills_30 hl (by decide) rfl (fun ls hl => ?_)
  refine lv_iload C.1 C.2.1 dX7_spills_32 (lv_at hl 0 rfl) ?_
  refine lv_iload_n C.1 C.2.1 dX7_spills_34 rfl (lv_at hl 2 rfl) ?_
  refine lv_icmp_ge (tgt := 62) C.1 C.2.1 dX7_spills_35 (by decide) (fun _ => ?_) (fun c2396 => absurd c2396 (by decide))
  refine lv_iinc (v := 14) (lv' := [(4, .int 14), (5, .int 0), (3, .int 0), (2, .int 0), (0, .ref h0), (1, .int x0)]) C.1 C.2.1 dX7_spills_62 hl (k := 1) rfl (by decide) (by decide) rfl (fun ls hl => ?_)
  refine lv_goto (tgt := 17) C.1 C.2.1 dX7_spills_65 (by decide) ?_
  refine lv_iload C.1 C.2.1 dX7_spills_17 (lv_at hl 0 rfl) ?_
  refine lv_bipush (v := 64) C.1 C.2.1 dX7_spills_19 (by decide) ?_
  refine lv_icmp_ge (tgt := 68) C.1 C.2.1 dX7_spills_21 (by decide) (fun c2397 => absurd c2397 (by decide)) (fun _ => ?_)
  refine lv_aload_n C.1 C.2.1 dX7_spills_24 rfl (lv_at hl 4 rfl) ?_
  refine lv_iload C.1 C.2.1 dX7_spills_25 (lv_at hl 0 rfl) ?_
  refine k_pi (k_runV (rest := []) C aks Wd cs_X7_82 (kcX7_comingsOf l D h0 h1 h2 h3 h4 14 a1 _ ) [0, 1] rfl (by decide) [0] rfl 0 7 rfl rfl rfl rfl rfl ⟨(Nat.le_of_ble_eq_true rfl), (Nat.le_of_ble_eq_true rfl)⟩ hl.1 rfl rfl (Nat.le_of_ble_eq_true rfl) ⟨(Nat.le_of_ble_eq_true rfl), (Nat.le_of_ble_eq_true rfl)⟩ dX7_spills_27) (fun r w2398 => ?_)
  obtain rfl := w2398
  refine lv_istore (lv' := [(5, .int 0), (4, .int 14), (3, .int 0), (2, .int 0), (0, .ref h0), (1, .int x0)]) C.1 C.2.1 dX7_spills_30 hl (by decide) rfl (fun ls hl => ?_)
  refine lv_iload C.1 C.2.1 dX7_spills_32 (lv_at hl 0 rfl) ?_
  refine lv_iload_n C.1 C.2.1 dX7_spills_34 rfl (lv_at hl 2 rfl) ?_
  refine lv_icmp_ge (tgt := 62) C.1 C.2.1 dX7_spills_35 (by decide) (fun _ => ?_) (fun c2399 => absurd c2399 (by decide))
  refine lv_iinc (v := 15) (lv' := [(4, .int 15), (5, .int 0), (3, .int 0), (2, .int 0), (0, .ref h0), (1, .int x0)]) C.1 C.2.1 dX7_spills_62 hl (k := 1) rfl (by decide) (by decide) rfl (fun ls hl => ?_)
  refine lv_goto (tgt := 17) C.1 C.2.1 dX7_spills_65 (by decide) ?_
  refine lv_iload C.1 C.2.1 dX7_spills_17 (lv_at hl 0 rfl) ?_
  refine lv_bipush (v := 64) C.1 C.2.1 dX7_spills_19 (by decide) ?_
  refine lv_icmp_ge (tgt := 68) C.1 C.2.1 dX7_spills_21 (by decide) (fun c2400 => absurd c2400 (by decide)) (fun _ => ?_)
  refine lv_aload_n C.1 C.2.1 dX7_spills_24 rfl (lv_at hl 4 rfl) ?_
  refine lv_iload C.1 C.2.1 dX7_spills_25 (lv_at hl 0 rfl) ?_
  refine k_pi (k_runV (rest := []) C aks Wd cs_X7_82 (kcX7_comingsOf l D h0 h1 h2 h3 h4 15 a1 _ ) [0, 1] rfl (by decide) [0] rfl 0 7 rfl rfl rfl rfl rfl ⟨(Nat.le_of_ble_eq_true rfl), (Nat.le_of_ble_eq_true rfl)⟩ hl.1 rfl rfl (Nat.le_of_ble_eq_true rfl) ⟨(Nat.le_of_ble_eq_true rfl), (Nat.le_of_ble_eq_true rfl)⟩ dX7_spills_27) (fun r w2401 => ?_)
  obtain rfl := w2401
  refine lv_istore (lv' := [(5, .int 0), (4, .int 15), (3, .int 0), (2, .int 0), (0, .ref h0), (1, .int x0)]) C.1 C.2.1 dX7_spills_30 hl (by decide) rfl (fun ls hl => ?_)
  refine lv_iload C.1 C.2.1 dX7_spills_32 (lv_at hl 0 rfl) ?_
  refine lv_iload_n C.1 C.2.1 dX7_spills_34 rfl (lv_at hl 2 rfl) ?_
  refine lv_icmp_ge (tgt := 62) C.1 C.2.1 dX7_spills_35 (by decide) (fun _ => ?_) (fun c2402 => absurd c2402 (by decide))
  refine lv_iinc (v := 16) (lv' := [(4, .int 16), (5, .int 0), (3, .int 0), (2, .int 0), (0, .ref h0), (1, .int x0)]) C.1 C.2.1 dX7_spills_62 hl (k := 1) rfl (by decide) (by decide) rfl (fun ls hl => ?_)
  refine lv_goto (tgt := 17) C.1 C.2.1 dX7_spills_65 (by decide) ?_
  refine lv_iload C.1 C.2.1 dX7_spills_17 (lv_at hl 0 rfl) ?_
  refine lv_bipush (v := 64) C.1 C.2.1 dX7_spills_19 (by decide) ?_
  refine lv_icmp_ge (tgt := 68) C.1 C.2.1 dX7_spills_21 (by decide) (fun c2403 => absurd c2403 (by decide)) (fun _ => ?_)
  refine lv_aload_n C.1 C.2.1 dX7_spills_24 rfl (lv_at hl 4 rfl) ?_
  refine lv_iload C.1 C.2.1 dX7_spills_25 (lv_at hl 0 rfl) ?_
  refine k_pi (k_runV (rest := []) C aks Wd cs_X7_82 (kcX7_comingsOf l D h0 h1 h2 h3 h4 16 a1 _ ) [0, 1] rfl (by decide) [0] rfl 0 7 rfl rfl rfl rfl rfl ⟨(Nat.le_of_ble_eq_true rfl), (Nat.le_of_ble_eq_true rfl)⟩ hl.1 rfl rfl (Nat.le_of_ble_eq_true rfl) ⟨(Nat.le_of_ble_eq_true rfl), (Nat.le_of_ble_eq_true rfl)⟩ dX7_spills_27) (fun r w2404 => ?_)
  obtain rfl := w2404
  refine lv_istore (lv' := [(5, .int 0), (4, .int 16), (3, .int 0), (2, .int 0), (0, .ref h0), (1, .int x0)]) C.1 C.2.1 dX7_spills_30 hl (by decide) rfl (fun ls hl => ?_)
  refine lv_iload C.1 C.2.1 dX7_spills_32 (lv_at hl 0 rfl) ?_
  refine lv_iload_n C.1 C.2.1 dX7_spills_34 rfl (lv_at hl 2 rfl) ?_
  refine lv_icmp_ge (tgt := 62) C.1 C.2.1 dX7_spills_35 (by decide) (fun _ => ?_) (fun c2405 => absurd c2405 (by decide))
  refine lv_iinc (v := 17) (lv' := [(4, .int 17), (5, .int 0), (3, .int 0), (2, .int 0), (0, .ref h0), (1, .int x0)]) C.1 C.2.1 dX7_spills_62 hl (k := 1) rfl (by decide) (by decide) rfl (fun ls hl => ?_)
  refine lv_goto (tgt := 17) C.1 C.2.1 dX7_spills_65 (by decide) ?_
  refine lv_iload C.1 C.2.1 dX7_spills_17 (lv_at hl 0 rfl) ?_
  refine lv_bipush (v := 64) C.1 C.2.1 dX7_spills_19 (by decide) ?_
  refine lv_icmp_ge (tgt := 68) C.1 C.2.1 dX7_spills_21 (by decide) (fun c2406 => absurd c2406 (by decide)) (fun _ => ?_)
  refine lv_aload_n C.1 C.2.1 dX7_spills_24 rfl (lv_at hl 4 rfl) ?_
  refine lv_iload C.1 C.2.1 dX7_spills_25 (lv_at hl 0 rfl) ?_
  refine k_pi (k_runV (rest := []) C aks Wd cs_X7_82 (kcX7_comingsOf l D h0 h1 h2 h3 h4 17 a1 _ ) [0, 1] rfl (by decide) [0] rfl 0 7 rfl rfl rfl rfl rfl ⟨(Nat.le_of_ble_eq_true rfl), (Nat.le_of_ble_eq_true rfl)⟩ hl.1 rfl rfl (Nat.le_of_ble_eq_true rfl) ⟨(Nat.le_of_ble_eq_true rfl), (Nat.le_of_ble_eq_true rfl)⟩ dX7_spills_27) (fun r w2407 => ?_)
  obtain rfl := w2407
  refine lv_istore (lv' := [(5, .int 0), (4, .int 17), (3, .int 0), (2, .int 0), (0, .ref h0), (1, .int x0)]) C.1 C.2.1 dX7_spills_30 hl (by decide) rfl (fun ls hl => ?_)
  refine lv_iload C.1 C.2.1 dX7_spills_32 (lv_at hl 0 rfl) ?_
  refine lv_iload_n C.1 C.2.1 dX7_spills_34 rfl (lv_at hl 2 rfl) ?_
  refine lv_icmp_ge (tgt := 62) C.1 C.2.1 dX7_spills_35 (by decide) (fun _ => ?_) (fun c2408 => absurd c2408 (by decide))
  refine lv_iinc (v := 18) (lv' := [(4, .int 18), (5, .int 0), (3, .int 0), (2, .int 0), (0, .ref h0), (1, .int x0)]) C.1 C.2.1 dX7_spills_62 hl (k := 1) rfl (by decide) (by decide) rfl (fun ls hl => ?_)
  refine lv_goto (tgt := 17) C.1 C.2.1 dX7_spills_65 (by decide) ?_
  refine lv_iload C.1 C.2.1 dX7_spills_17 (lv_at hl 0 rfl) ?_
  refine lv_bipush (v := 64) C.1 C.2.1 dX7_spills_19 (by decide) ?_
  refine lv_icmp_ge (tgt := 68) C.1 C.2.1 dX7_spills_21 (by decide) (fun c2409 => absurd c2409 (by decide)) (fun _ => ?_)
  refine lv_aload_n C.1 C.2.1 dX7_spills_24 rfl (lv_at hl 4 rfl) ?_
  refine lv_iload C.1 C.2.1 dX7_spills_25 (lv_at hl 0 rfl) ?_
  refine k_pi (k_runV (rest := []) C aks Wd cs_X7_82 (kcX7_comingsOf l D h0 h1 h2 h3 h4 18 a1 _ ) [0, 1] rfl (by decide) [0] rfl 0 7 rfl rfl rfl rfl rfl ⟨(Nat.le_of_ble_eq_true rfl), (Nat.le_of_ble_eq_true rfl)⟩ hl.1 rfl rfl (Nat.le_of_ble_eq_true rfl) ⟨(Nat.le_of_ble_eq_true rfl), (Nat.le_of_ble_eq_true rfl)⟩ dX7_spills_27) (fun r w2410 => ?_)
  obtain rfl := w2410
  refine lv_istore (lv' := [(5, .int 0), (4, .int 18), (3, .int 0), (2, .int 0), (0, .ref h0), (1, .int x0)]) C.1 C.2.1 dX7_spills_30 hl (by decide) rfl (fun ls hl => ?_)
  refine lv_iload C.1 C.2.1 dX7_spills_32 (lv_at hl 0 rfl) ?_
  refine lv_iload_n C.1 C.2.1 dX7_spills_34 rfl (lv_at hl 2 rfl) ?_
  refine lv_icmp_ge (tgt := 62) C.1 C.2.1 dX7_spills_35 (by decide) (fun _ => ?_) (fun c2411 => absurd c2411 (by decide))
  refine lv_iinc (v := 19) (lv' := [(4, .int 19), (5, .int 0), (3, .int 0), (2, .int 0), (0, .ref h0), (1, .int x0)]) C.1 C.2.1 dX7_spills_62 hl (k := 1) rfl (by decide) (by decide) rfl (fun ls hl => ?_)
  refine lv_goto (tgt := 17) C.1 C.2.1 dX7_spills_65 (by decide) ?_
  refine lv_iload C.1 C.2.1 dX7_spills_17 (lv_at hl 0 rfl) ?_
  refine lv_bipush (v := 64) C.1 C.2.1 dX7_spills_19 (by decide) ?_
  refine lv_icmp_ge (tgt := 68) C.1 C.2.1 dX7_spills_21 (by decide) (fun c2412 => absurd c2412 (by decide)) (fun _ => ?_)
  refine lv_aload_n C.1 C.2.1 dX7_spills_24 rfl (lv_at hl 4 rfl) ?_
  refine lv_iload C.1 C.2.1 dX7_spills_25 (lv_at hl 0 rfl) ?_
  refine k_pi (k_runV (rest := []) C aks Wd cs_X7_82 (kcX7_comingsOf l D h0 h1 h2 h3 h4 19 a1 _ ) [0, 1] rfl (by decide) [0] rfl 0 7 rfl rfl rfl rfl rfl ⟨(Nat.le_of_ble_eq_true rfl), (Nat.le_of_ble_eq_true rfl)⟩ hl.1 rfl rfl (Nat.le_of_ble_eq_true rfl) ⟨(Nat.le_of_ble_eq_true rfl), (Nat.le_of_ble_eq_true rfl)⟩ dX7_spills_27) (fun r w2413 => ?_)
  obtain rfl := w2413
  refine lv_istore (lv' := [(5, .int 0), (4, .int 19), (3, .int 0), (2, .int 0), (0, .ref h0), (1, .int x0)]) C.1 C.2.1 dX7_spills_30 hl (by decide) rfl (fun ls hl => ?_)
  refine lv_iload C.1 C.2.1 dX7_spills_32 (lv_at hl 0 rfl) ?_
  refine lv_iload_n C.1 C.2.1 dX7_spills_34 rfl (lv_at hl 2 rfl) ?_
  refine lv_icmp_ge (tgt := 62) C.1 C.2.1 dX7_spills_35 (by decide) (fun _ => ?_) (fun c2414 => absurd c2414 (by decide))
  refine lv_iinc (v := 20) (lv' := [(4, .int 20), (5, .int 0), (3, .int 0), (2, .int 0), (0, .ref h0), (1, .int x0)]) C.1 C.2.1 dX7_spills_62 hl (k := 1) rfl (by decide) (by decide) rfl (fun ls hl => ?_)
  refine lv_goto (tgt := 17) C.1 C.2.1 dX7_spills_65 (by decide) ?_
  refine lv_iload C.1 C.2.1 dX7_spills_17 (lv_at hl 0 rfl) ?_
  refine lv_bipush (v := 64) C.1 C.2.1 dX7_spills_19 (by decide) ?_
  refine lv_icmp_ge (tgt := 68) C.1 C.2.1 dX7_spills_21 (by decide) (fun c2415 => absurd c2415 (by decide)) (fun _ => ?_)
  refine lv_aload_n C.1 C.2.1 dX7_spills_24 rfl (lv_at hl 4 rfl) ?_
  refine lv_iload C.1 C.2.1 dX7_spills_25 (lv_at hl 0 rfl) ?_
  refine k_pi (k_runV (rest := []) C aks Wd cs_X7_82 (kcX7_comingsOf l D h0 h1 h2 h3 h4 20 a1 _ ) [0, 1] rfl (by decide) [0] rfl 0 7 rfl rfl rfl rfl rfl ⟨(Nat.le_of_ble_eq_true rfl), (Nat.le_of_ble_eq_true rfl)⟩ hl.1 rfl rfl (Nat.le_of_ble_eq_true rfl) ⟨(Nat.le_of_ble_eq_true rfl), (Nat.le_of_ble_eq_true rfl)⟩ dX7_spills_27) (fun r w2416 => ?_)
  obtain rfl := w2416
  refine lv_istore (lv' := [(5, .int 0), (4, .int 20), (3, .int 0), (2, .int 0), (0, .ref h0), (1, .int x0)]) C.1 C.2.1 dX7_spills_30 hl (by decide) rfl (fun ls hl => ?_)
  refine lv_iload C.1 C.2.1 dX7_spills_32 (lv_at hl 0 rfl) ?_
  refine lv_iload_n C.1 C.2.1 dX7_spills_34 rfl (lv_at hl 2 rfl) ?_
  refine lv_icmp_ge (tgt := 62) C.1 C.2.1 dX7_spills_35 (by decide) (fun _ => ?_) (fun c2417 => absurd c2417 (by decide))
  refine lv_iinc (v := 21) (lv' := [(4, .int 21), (5, .int 0), (3, .int 0), (2, .int 0), (0, .ref h0), (1, .int x0)]) C.1 C.2.1 dX7_spills_62 hl (k := 1) rfl (by decide) (by decide) rfl (fun ls hl => ?_)
  refine lv_goto (tgt := 17) C.1 C.2.1 dX7_spills_65 (by decide) ?_
  refine lv_iload C.1 C.2.1 dX7_spills_17 (lv_at hl 0 rfl) ?_
  refine lv_bipush (v := 64) C.1 C.2.1 dX7_spills_19 (by decide) ?_
  refine lv_icmp_ge (tgt := 68) C.1 C.2.1 dX7_spills_21 (by decide) (fun c2418 => absurd c2418 (by decide)) (fun _ => ?_)
  refine lv_aload_n C.1 C.2.1 dX7_spills_24 rfl (lv_at hl 4 rfl) ?_
  refine lv_iload C.1 C.2.1 dX7_spills_25 (lv_at hl 0 rfl) ?_
  refine k_pi (k_runV (rest := []) C aks Wd cs_X7_82 (kcX7_comingsOf l D h0 h1 h2 h3 h4 21 a1 _ ) [0, 1] rfl (by decide) [0] rfl 0 7 rfl rfl rfl rfl rfl ⟨(Nat.le_of_ble_eq_true rfl), (Nat.le_of_ble_eq_true rfl)⟩ hl.1 rfl rfl (Nat.le_of_ble_eq_true rfl) ⟨(Nat.le_of_ble_eq_true rfl), (Nat.le_of_ble_eq_true rfl)⟩ dX7_spills_27) (fun r w2419 => ?_)
  obtain rfl := w2419
  refine lv_istore (lv' := [(5, .int 0), (4, .int 21), (3, .int 0), (2, .int 0), (0, .ref h0), (1, .int x0)]) C.1 C.2.1 dX7_spills_30 hl (by decide) rfl (fun ls hl => ?_)
  refine lv_iload C.1 C.2.1 dX7_spills_32 (lv_at hl 0 rfl) ?_
  refine lv_iload_n C.1 C.2.1 dX7_spills_34 rfl (lv_at hl 2 rfl) ?_
  refine lv_icmp_ge (tgt := 62) C.1 C.2.1 dX7_spills_35 (by decide) (fun _ => ?_) (fun c2420 => absurd c2420 (by decide))
  refine lv_iinc (v := 22) (lv' := [(4, .int 22), (5, .int 0), (3, .int 0), (2, .int 0), (0, .ref h0), (1, .int x0)]) C.1 C.2.1 dX7_spills_62 hl (k := 1) rfl (by decide) (by decide) rfl (fun ls hl => ?_)
  refine lv_goto (tgt := 17) C.1 C.2.1 dX7_spills_65 (by decide) ?_
  refine lv_iload C.1 C.2.1 dX7_spills_17 (lv_at hl 0 rfl) ?_
  refine lv_bipush (v := 64) C.1 C.2.1 dX7_spills_19 (by decide) ?_
  refine lv_icmp_ge (tgt := 68) C.1 C.2.1 dX7_spills_21 (by decide) (fun c2421 => absurd c2421 (by decide)) (fun _ => ?_)
  refine lv_aload_n C.1 C.2.1 dX7_spills_24 rfl (lv_at hl 4 rfl) ?_
  refine lv_iload C.1 C.2.1 dX7_spills_25 (lv_at hl 0 rfl) ?_
  refine k_pi (k_runV (rest := []) C aks Wd cs_X7_82 (kcX7_comingsOf l D h0 h1 h2 h3 h4 22 a1 _ ) [0, 1] rfl (by decide) [0] rfl 0 7 rfl rfl rfl rfl rfl ⟨(Nat.le_of_ble_eq_true rfl), (Nat.le_of_ble_eq_true rfl)⟩ hl.1 rfl rfl (Nat.le_of_ble_eq_true rfl) ⟨(Nat.le_of_ble_eq_true rfl), (Nat.le_of_ble_eq_true rfl)⟩ dX7_spills_27) (fun r w2422 => ?_)
  obtain rfl := w2422
  refine lv_istore (lv' := [(5, .int 0), (4, .int 22), (3, .int 0), (2, .int 0), (0, .ref h0), (1, .int x0)]) C.1 C.2.1 dX7_spills_30 hl (by decide) rfl (fun ls hl => ?_)
  refine lv_iload C.1 C.2.1 dX7_spills_32 (lv_at hl 0 rfl) ?_
  refine lv_iload_n C.1 C.2.1 dX7_spills_34 rfl (lv_at hl 2 rfl) ?_
  refine lv_icmp_ge (tgt := 62) C.1 C.2.1 dX7_spills_35 (by decide) (fun _ => ?_) (fun c2423 => absurd c2423 (by decide))
  refine lv_iinc (v := 23) (lv' := [(4, .int 23), (5, .int 0), (3, .int 0), (2, .int 0), (0, .ref h0), (1, .int x0)]) C.1 C.2.1 dX7_spills_62 hl (k := 1) rfl (by decide) (by decide) rfl (fun ls hl => ?_)
  refine lv_goto (tgt := 17) C.1 C.2.1 dX7_spills_65 (by decide) ?_
  refine lv_iload C.1 C.2.1 dX7_spills_17 (lv_at hl 0 rfl) ?_
  refine lv_bipush (v := 64) C.1 C.2.1 dX7_spills_19 (by decide) ?_
  refine lv_icmp_ge (tgt := 68) C.1 C.2.1 dX7_spills_21 (by decide) (fun c2424 => absurd c2424 (by decide)) (fun _ => ?_)
  refine lv_aload_n C.1 C.2.1 dX7_spills_24 rfl (lv_at hl 4 rfl) ?_
  refine lv_iload C.1 C.2.1 dX7_spills_25 (lv_at hl 0 rfl) ?_
  refine k_pi (k_runV (rest := []) C aks Wd cs_X7_82 (kcX7_comingsOf l D h0 h1 h2 h3 h4 23 a1 _ ) [0, 1] rfl (by decide) [0] rfl 0 7 rfl rfl rfl rfl rfl ⟨(Nat.le_of_ble_eq_true rfl), (Nat.le_of_ble_eq_true rfl)⟩ hl.1 rfl rfl (Nat.le_of_ble_eq_true rfl) ⟨(Nat.le_of_ble_eq_true rfl), (Nat.le_of_ble_eq_true rfl)⟩ dX7_spills_27) (fun r w2425 => ?_)
  obtain rfl := w2425
  refine lv_istore (lv' := [(5, .int 0), (4, .int 23), (3, .int 0), (2, .int 0), (0, .ref h0), (1, .int x0)]) C.1 C.2.1 dX7_spills_30 hl (by decide) rfl (fun ls hl => ?_)
  refine lv_iload C.1 C.2.1 dX7_spills_32 (lv_at hl 0 rfl) ?_
  refine lv_iload_n C.1 C.2.1 dX7_spills_34 rfl (lv_at hl 2 rfl) ?_
  refine lv_icmp_ge (tgt := 62) C.1 C.2.1 dX7_spills_35 (by decide) (fun _ => ?_) (fun c2426 => absurd c2426 (by decide))
  refine lv_iinc (v := 24) (lv' := [(4, .int 24), (5, .int 0), (3, .int 0), (2, .int 0), (0, .ref h0), (1, .int x0)]) C.1 C.2.1 dX7_spills_62 hl (k := 1) rfl (by decide) (by decide) rfl (fun ls hl => ?_)
  refine lv_goto (tgt := 17) C.1 C.2.1 dX7_spills_65 (by decide) ?_
  refine lv_iload C.1 C.2.1 dX7_spills_17 (lv_at hl 0 rfl) ?_
  refine lv_bipush (v := 64) C.1 C.2.1 dX7_spills_19 (by decide) ?_
  refine lv_icmp_ge (tgt := 68) C.1 C.2.1 dX7_spills_21 (by decide) (fun c2427 => absurd c2427 (by decide)) (fun _ => ?_)
  refine lv_aload_n C.1 C.2.1 dX7_spills_24 rfl (lv_at hl 4 rfl) ?_
  refine lv_iload C.1 C.2.1 dX7_spills_25 (lv_at hl 0 rfl) ?_
  refine k_pi (k_runV (rest := []) C aks Wd cs_X7_82 (kcX7_comingsOf l D h0 h1 h2 h3 h4 24 a1 _ ) [0, 1] rfl (by decide) [0] rfl 0 7 rfl rfl rfl rfl rfl ⟨(Nat.le_of_ble_eq_true rfl), (Nat.le_of_ble_eq_true rfl)⟩ hl.1 rfl rfl (Nat.le_of_ble_eq_true rfl) ⟨(Nat.le_of_ble_eq_true rfl), (Nat.le_of_ble_eq_true rfl)⟩ dX7_spills_27) (fun r w2428 => ?_)
  obtain rfl := w2428
  refine lv_istore (lv' := [(5, .int 0), (4, .int 24), (3, .int 0), (2, .int 0), (0, .ref h0), (1, .int x0)]) C.1 C.2.1 dX7_spills_30 hl (by decide) rfl (fun ls hl => ?_)
  refine lv_iload C.1 C.2.1 dX7_spills_32 (lv_at hl 0 rfl) ?_
  refine lv_iload_n C.1 C.2.1 dX7_spills_34 rfl (lv_at hl 2 rfl) ?_
  refine lv_icmp_ge (tgt := 62) C.1 C.2.1 dX7_spills_35 (by decide) (fun _ => ?_) (fun c2429 => absurd c2429 (by decide))
  refine lv_iinc (v := 25) (lv' := [(4, .int 25), (5, .int 0), (3, .int 0), (2, .int 0), (0, .ref h0), (1, .int x0)]) C.1 C.2.1 dX7_spills_62 hl (k := 1) rfl (by decide) (by decide) rfl (fun ls hl => ?_)
  refine lv_goto (tgt := 17) C.1 C.2.1 dX7_spills_65 (by decide) ?_
  refine lv_iload C.1 C.2.1 dX7_spills_17 (lv_at hl 0 rfl) ?_
  refine lv_bipush (v := 64) C.1 C.2.1 dX7_spills_19 (by decide) ?_
  refine lv_icmp_ge (tgt := 68) C.1 C.2.1 dX7_spills_21 (by decide) (fun c2430 => absurd c2430 (by decide)) (fun _ => ?_)
  refine lv_aload_n C.1 C.2.1 dX7_spills_24 rfl (lv_at hl 4 rfl) ?_
  refine lv_iload C.1 C.2.1 dX7_spills_25 (lv_at hl 0 rfl) ?_
  refine k_pi (k_runV (rest := []) C aks Wd cs_X7_82 (kcX7_comingsOf l D h0 h1 h2 h3 h4 25 a1 _ ) [0, 1] rfl (by decide) [0] rfl 0 7 rfl rfl rfl rfl rfl ⟨(Nat.le_of_ble_eq_true rfl), (Nat.le_of_ble_eq_true rfl)⟩ hl.1 rfl rfl (Nat.le_of_ble_eq_true rfl) ⟨(Nat.le_of_ble_eq_true rfl), (Nat.le_of_ble_eq_true rfl)⟩ dX7_spills_27) (fun r w2431 => ?_)
  obtain rfl := w2431
  refine lv_istore (lv' := [(5, .int 0), (4, .int 25), (3, .int 0), (2, .int 0), (0, .ref h0), (1, .int x0)]) C.1 C.2.1 dX7_spills_30 hl (by decide) rfl (fun ls hl => ?_)
  refine lv_iload C.1 C.2.1 dX7_spills_32 (lv_at hl 0 rfl) ?_
  refine lv_iload_n C.1 C.2.1 dX7_spills_34 rfl (lv_at hl 2 rfl) ?_
  refine lv_icmp_ge (tgt := 62) C.1 C.2.1 dX7_spills_35 (by decide) (fun _ => ?_) (fun c2432 => absurd c2432 (by decide))
  refine lv_iinc (v := 26) (lv' := [(4, .int 26), (5, .int 0), (3, .int 0), (2, .int 0), (0, .ref h0), (1, .int x0)]) C.1 C.2.1 dX7_spills_62 hl (k := 1) rfl (by decide) (by decide) rfl (fun ls hl => ?_)
  refine lv_goto (tgt := 17) C.1 C.2.1 dX7_spills_65 (by decide) ?_
  refine lv_iload C.1 C.2.1 dX7_spills_17 (lv_at hl 0 rfl) ?_
  refine lv_bipush (v := 64) C.1 C.2.1 dX7_spills_19 (by decide) ?_
  refine lv_icmp_ge (tgt := 68) C.1 C.2.1 dX7_spills_21 (by decide) (fun c2433 => absurd c2433 (by decide)) (fun _ => ?_)
  refine lv_aload_n C.1 C.2.1 dX7_spills_24 rfl (lv_at hl 4 rfl) ?_
  refine lv_iload C.1 C.2.1 dX7_spills_25 (lv_at hl 0 rfl) ?_
  refine k_pi (k_runV (rest := []) C aks Wd cs_X7_82 (kcX7_comingsOf l D h0 h1 h2 h3 h4 26 a1 _ ) [0, 1] rfl (by decide) [0] rfl 0 7 rfl rfl rfl rfl rfl ⟨(Nat.le_of_ble_eq_true rfl), (Nat.le_of_ble_eq_true rfl)⟩ hl.1 rfl rfl (Nat.le_of_ble_eq_true rfl) ⟨(Nat.le_of_ble_eq_true rfl), (Nat.le_of_ble_eq_true rfl)⟩ dX7_spills_27) (fun r w2434 => ?_)
  obtain rfl := w2434
  refine lv_istore (lv' := [(5, .int 0), (4, .int 26), (3, .int 0), (2, .int 0), (0, .ref h0), (1, .int x0)]) C.1 C.2.1 dX7_spills_30 hl (by decide) rfl (fun ls hl => ?_)
  refine lv_iload C.1 C.2.1 dX7_spills_32 (lv_at hl 0 rfl) ?_
  refine lv_iload_n C.1 C.2.1 dX7_spills_34 rfl (lv_at hl 2 rfl) ?_
  refine lv_icmp_ge (tgt := 62) C.1 C.2.1 dX7_spills_35 (by decide) (fun _ => ?_) (fun c2435 => absurd c2435 (by decide))
  refine lv_iinc (v := 27) (lv' := [(4, .int 27), (5, .int 0), (3, .int 0), (2, .int 0), (0, .ref h0), (1, .int x0)]) C.1 C.2.1 dX7_spills_62 hl (k := 1) rfl (by decide) (by decide) rfl (fun ls hl => ?_)
  refine lv_goto (tgt := 17) C.1 C.2.1 dX7_spills_65 (by decide) ?_
  refine lv_iload C.1 C.2.1 dX7_spills_17 (lv_at hl 0 rfl) ?_
  refine lv_bipush (v := 64) C.1 C.2.1 dX7_spills_19 (by decide) ?_
  refine lv_icmp_ge (tgt := 68) C.1 C.2.1 dX7_spills_21 (by decide) (fun c2436 => absurd c2436 (by decide)) (fun _ => ?_)
  refine lv_aload_n C.1 C.2.1 dX7_spills_24 rfl (lv_at hl 4 rfl) ?_
  refine lv_iload C.1 C.2.1 dX7_spills_25 (lv_at hl 0 rfl) ?_
  refine k_pi (k_runV (rest := []) C aks Wd cs_X7_82 (kcX7_comingsOf l D h0 h1 h2 h3 h4 27 a1 _ ) [0, 1] rfl (by decide) [0] rfl 0 7 rfl rfl rfl rfl rfl ⟨(Nat.le_of_ble_eq_true rfl), (Nat.le_of_ble_eq_true rfl)⟩ hl.1 rfl rfl (Nat.le_of_ble_eq_true rfl) ⟨(Nat.le_of_ble_eq_true rfl), (Nat.le_of_ble_eq_true rfl)⟩ dX7_spills_27) (fun r w2437 => ?_)
  obtain rfl := w2437
  refine lv_istore (lv' := [(5, .int 0), (4, .int 27), (3, .int 0), (2, .int 0), (0, .ref h0), (1, .int x0)]) C.1 C.2.1 dX7_spills_30 hl (by decide) rfl (fun ls hl => ?_)
  refine lv_iload C.1 C.2.1 dX7_spills_32 (lv_at hl 0 rfl) ?_
  refine lv_iload_n C.1 C.2.1 dX7_spills_34 rfl (lv_at hl 2 rfl) ?_
  refine lv_icmp_ge (tgt := 62) C.1 C.2.1 dX7_spills_35 (by decide) (fun _ => ?_) (fun c2438 => absurd c2438 (by decide))
  refine lv_iinc (v := 28) (lv' := [(4, .int 28), (5, .int 0), (3, .int 0), (2, .int 0), (0, .ref h0), (1, .int x0)]) C.1 C.2.1 dX7_spills_62 hl (k := 1) rfl (by decide) (by decide) rfl (fun ls hl => ?_)
  refine lv_goto (tgt := 17) C.1 C.2.1 dX7_spills_65 (by decide) ?_
  refine lv_iload C.1 C.2.1 dX7_spills_17 (lv_at hl 0 rfl) ?_
  refine lv_bipush (v := 64) C.1 C.2.1 dX7_spills_19 (by decide) ?_
  refine lv_icmp_ge (tgt := 68) C.1 C.2.1 dX7_spills_21 (by decide) (fun c2439 => absurd c2439 (by decide)) (fun _ => ?_)
  refine lv_aload_n C.1 C.2.1 dX7_spills_24 rfl (lv_at hl 4 rfl) ?_
  refine lv_iload C.1 C.2.1 dX7_spills_25 (lv_at hl 0 rfl) ?_
  refine k_pi (k_runV (rest := []) C aks Wd cs_X7_82 (kcX7_comingsOf l D h0 h1 h2 h3 h4 28 a1 _ ) [0, 1] rfl (by decide) [0] rfl 0 7 rfl rfl rfl rfl rfl ⟨(Nat.le_of_ble_eq_true rfl), (Nat.le_of_ble_eq_true rfl)⟩ hl.1 rfl rfl (Nat.le_of_ble_eq_true rfl) ⟨(Nat.le_of_ble_eq_true rfl), (Nat.le_of_ble_eq_true rfl)⟩ dX7_spills_27) (fun r w2440 => ?_)
  obtain rfl := w2440
  refine lv_istore (lv' := [(5, .int 0), (4, .int 28), (3, .int 0), (2, .int 0), (0, .ref h0), (1, .int x0)]) C.1 C.2.1 dX7_spills_30 hl (by decide) rfl (fun ls hl => ?_)
  refine lv_iload C.1 C.2.1 dX7_spills_32 (lv_at hl 0 rfl) ?_
  refine lv_iload_n C.1 C.2.1 dX7_spills_34 rfl (lv_at hl 2 rfl) ?_
  refine lv_icmp_ge (tgt := 62) C.1 C.2.1 dX7_spills_35 (by decide) (fun _ => ?_) (fun c2441 => absurd c2441 (by decide))
  refine lv_iinc (v := 29) (lv' := [(4, .int 29), (5, .int 0), (3, .int 0), (2, .int 0), (0, .ref h0), (1, .int x0)]) C.1 C.2.1 dX7_spills_62 hl (k := 1) rfl (by decide) (by decide) rfl (fun ls hl => ?_)
  refine lv_goto (tgt := 17) C.1 C.2.1 dX7_spills_65 (by decide) ?_
  refine lv_iload C.1 C.2.1 dX7_spills_17 (lv_at hl 0 rfl) ?_
  refine lv_bipush (v := 64) C.1 C.2.1 dX7_spills_19 (by decide) ?_
  refine lv_icmp_ge (tgt := 68) C.1 C.2.1 dX7_spills_21 (by decide) (fun c2442 => absurd c2442 (by decide)) (fun _ => ?_)
  refine lv_aload_n C.1 C.2.1 dX7_spills_24 rfl (lv_at hl 4 rfl) ?_
  refine lv_iload C.1 C.2.1 dX7_spills_25 (lv_at hl 0 rfl) ?_
  refine k_pi (k_runV (rest := []) C aks Wd cs_X7_82 (kcX7_comingsOf l D h0 h1 h2 h3 h4 29 a1 _ ) [0, 1] rfl (by decide) [0] rfl 0 7 rfl rfl rfl rfl rfl ⟨(Nat.le_of_ble_eq_true rfl), (Nat.le_of_ble_eq_true rfl)⟩ hl.1 rfl rfl (Nat.le_of_ble_eq_true rfl) ⟨(Nat.le_of_ble_eq_true rfl), (Nat.le_of_ble_eq_true rfl)⟩ dX7_spills_27) (fun r w2443 => ?_)
  obtain rfl := w2443
  refine lv_istore (lv' := [(5, .int 0), (4, .int 29), (3, .int 0), (2, .int 0), (0, .ref h0), (1, .int x0)]) C.1 C.2.1 dX7_spills_30 hl (by decide) rfl (fun ls hl => ?_)
  refine lv_iload C.1 C.2.1 dX7_spills_32 (lv_at hl 0 rfl) ?_
  refine lv_iload_n C.1 C.2.1 dX7_spills_34 rfl (lv_at hl 2 rfl) ?_
  refine lv_icmp_ge (tgt := 62) C.1 C.2.1 dX7_spills_35 (by decide) (fun _ => ?_) (fun c2444 => absurd c2444 (by decide))
  refine lv_iinc (v := 30) (lv' := [(4, .int 30), (5, .int 0), (3, .int 0), (2, .int 0), (0, .ref h0), (1, .int x0)]) C.1 C.2.1 dX7_spills_62 hl (k := 1) rfl (by decide) (by decide) rfl (fun ls hl => ?_)
  refine lv_goto (tgt := 17) C.1 C.2.1 dX7_spills_65 (by decide) ?_
  refine lv_iload C.1 C.2.1 dX7_spills_17 (lv_at hl 0 rfl) ?_
  refine lv_bipush (v := 64) C.1 C.2.1 dX7_spills_19 (by decide) ?_
  refine lv_icmp_ge (tgt := 68) C.1 C.2.1 dX7_spills_21 (by decide) (fun c2445 => absurd c2445 (by decide)) (fun _ => ?_)
  refine lv_aload_n C.1 C.2.1 dX7_spills_24 rfl (lv_at hl 4 rfl) ?_
  refine lv_iload C.1 C.2.1 dX7_spills_25 (lv_at hl 0 rfl) ?_
  refine k_pi (k_runV (rest := []) C aks Wd cs_X7_82 (kcX7_comingsOf l D h0 h1 h2 h3 h4 30 a1 _ ) [0, 1] rfl (by decide) [0] rfl 0 7 rfl rfl rfl rfl rfl ⟨(Nat.le_of_ble_eq_true rfl), (Nat.le_of_ble_eq_true rfl)⟩ hl.1 rfl rfl (Nat.le_of_ble_eq_true rfl) ⟨(Nat.le_of_ble_eq_true rfl), (Nat.le_of_ble_eq_true rfl)⟩ dX7_spills_27) (fun r w2446 => ?_)
  obtain rfl := w2446
  refine lv_istore (lv' := [(5, .int 0), (4, .int 30), (3, .int 0), (2, .int 0), (0, .ref h0), (1, .int x0)]) C.1 C.2.1 dX7_spills_30 hl (by decide) rfl (fun ls hl => ?_)
  refine lv_iload C.1 C.2.1 dX7_spills_32 (lv_at hl 0 rfl) ?_
  refine lv_iload_n C.1 C.2.1 dX7_spills_34 rfl (lv_at hl 2 rfl) ?_
  refine lv_icmp_ge (tgt := 62) C.1 C.2.1 dX7_spills_35 (by decide) (fun _ => ?_) (fun c2447 => absurd c2447 (by decide))
  refine lv_iinc (v := 31) (lv' := [(4, .int 31), (5, .int 0), (3, .int 0), (2, .int 0), (0, .ref h0), (1, .int x0)]) C.1 C.2.1 dX7_spills_62 hl (k := 1) rfl (by decide) (by decide) rfl (fun ls hl => ?_)
  refine lv_goto (tgt := 17) C.1 C.2.1 dX7_spills_65 (by decide) ?_
  refine lv_iload C.1 C.2.1 dX7_spills_17 (lv_at hl 0 rfl) ?_
  refine lv_bipush (v := 64) C.1 C.2.1 dX7_spills_19 (by decide) ?_
  refine lv_icmp_ge (tgt := 68) C.1 C.2.1 dX7_spills_21 (by decide) (fun c2448 => absurd c2448 (by decide)) (fun _ => ?_)
  refine lv_aload_n C.1 C.2.1 dX7_spills_24 rfl (lv_at hl 4 rfl) ?_
  refine lv_iload C.1 C.2.1 dX7_spills_25 (lv_at hl 0 rfl) ?_
  refine k_pi (k_runV (rest := []) C aks Wd cs_X7_82 (kcX7_comingsOf l D h0 h1 h2 h3 h4 31 a1 _ ) [0, 1] rfl (by decide) [0] rfl 0 7 rfl rfl rfl rfl rfl ⟨(Nat.le_of_ble_eq_true rfl), (Nat.le_of_ble_eq_true rfl)⟩ hl.1 rfl rfl (Nat.le_of_ble_eq_true rfl) ⟨(Nat.le_of_ble_eq_true rfl), (Nat.le_of_ble_eq_true rfl)⟩ dX7_spills_27) (fun r w2449 => ?_)
  obtain rfl := w2449
  refine lv_istore (lv' := [(5, .int 0), (4, .int 31), (3, .int 0), (2, .int 0), (0, .ref h0), (1, .int x0)]) C.1 C.2.1 dX7_spills_30 hl (by decide) rfl (fun ls hl => ?_)
  refine lv_iload C.1 C.2.1 dX7_spills_32 (lv_at hl 0 rfl) ?_
  refine lv_iload_n C.1 C.2.1 dX7_spills_34 rfl (lv_at hl 2 rfl) ?_
  refine lv_icmp_ge (tgt := 62) C.1 C.2.1 dX7_spills_35 (by decide) (fun _ => ?_) (fun c2450 => absurd c2450 (by decide))
  refine lv_iinc (v := 32) (lv' := [(4, .int 32), (5, .int 0), (3, .int 0), (2, .int 0), (0, .ref h0), (1, .int x0)]) C.1 C.2.1 dX7_spills_62 hl (k := 1) rfl (by decide) (by decide) rfl (fun ls hl => ?_)
  refine lv_goto (tgt := 17) C.1 C.2.1 dX7_spills_65 (by decide) ?_
  refine lv_iload C.1 C.2.1 dX7_spills_17 (lv_at hl 0 rfl) ?_
  refine lv_bipush (v := 64) C.1 C.2.1 dX7_spills_19 (by decide) ?_
  refine lv_icmp_ge (tgt := 68) C.1 C.2.1 dX7_spills_21 (by decide) (fun c2451 => absurd c2451 (by decide)) (fun _ => ?_)
  refine lv_aload_n C.1 C.2.1 dX7_spills_24 rfl (lv_at hl 4 rfl) ?_
  refine lv_iload C.1 C.2.1 dX7_spills_25 (lv_at hl 0 rfl) ?_
  refine k_pi (k_runV (rest := []) C aks Wd cs_X7_82 (kcX7_comingsOf l D h0 h1 h2 h3 h4 32 a1 _ ) [0, 1] rfl (by decide) [0] rfl 0 7 rfl rfl rfl rfl rfl ⟨(Nat.le_of_ble_eq_true rfl), (Nat.le_of_ble_eq_true rfl)⟩ hl.1 rfl rfl (Nat.le_of_ble_eq_true rfl) ⟨(Nat.le_of_ble_eq_true rfl), (Nat.le_of_ble_eq_true rfl)⟩ dX7_spills_27) (fun r w2452 => ?_)
  obtain rfl := w2452
  refine lv_istore (lv' := [(5, .int 0), (4, .int 32), (3, .int 0), (2, .int 0), (0, .ref h0), (1, .int x0)]) C.1 C.2.1 dX7_spills_30 hl (by decide) rfl (fun ls hl => ?_)
  refine lv_iload C.1 C.2.1 dX7_spills_32 (lv_at hl 0 rfl) ?_
  refine lv_iload_n C.1 C.2.1 dX7_spills_34 rfl (lv_at hl 2 rfl) ?_
  refine lv_icmp_ge (tgt := 62) C.1 C.2.1 dX7_spills_35 (by decide) (fun _ => ?_) (fun c2453 => absurd c2453 (by decide))
  refine lv_iinc (v := 33) (lv' := [(4, .int 33), (5, .int 0), (3, .int 0), (2, .int 0), (0, .ref h0), (1, .int x0)]) C.1 C.2.1 dX7_spills_62 hl (k := 1) rfl (by decide) (by decide) rfl (fun ls hl => ?_)
  refine lv_goto (tgt := 17) C.1 C.2.1 dX7_spills_65 (by decide) ?_
  refine lv_iload C.1 C.2.1 dX7_spills_17 (lv_at hl 0 rfl) ?_
  refine lv_bipush (v := 64) C.1 C.2.1 dX7_spills_19 (by decide) ?_
  refine lv_icmp_ge (tgt := 68) C.1 C.2.1 dX7_spills_21 (by decide) (fun c2454 => absurd c2454 (by decide)) (fun _ => ?_)
  refine lv_aload_n C.1 C.2.1 dX7_spills_24 rfl (lv_at hl 4 rfl) ?_
  refine lv_iload C.1 C.2.1 dX7_spills_25 (lv_at hl 0 rfl) ?_
  refine k_pi (k_runV (rest := []) C aks Wd cs_X7_82 (kcX7_comingsOf l D h0 h1 h2 h3 h4 33 a1 _ ) [0, 1] rfl (by decide) [0] rfl 0 7 rfl rfl rfl rfl rfl ⟨(Nat.le_of_ble_eq_true rfl), (Nat.le_of_ble_eq_true rfl)⟩ hl.1 rfl rfl (Nat.le_of_ble_eq_true rfl) ⟨(Nat.le_of_ble_eq_true rfl), (Nat.le_of_ble_eq_true rfl)⟩ dX7_spills_27) (fun r w2455 => ?_)
  obtain rfl := w2455
  refine lv_istore (lv' := [(5, .int 0), (4, .int 33), (3, .int 0), (2, .int 0), (0, .ref h0), (1, .int x0)]) C.1 C.2.1 dX7_spills_30 hl (by decide) rfl (fun ls hl => ?_)
  refine lv_iload C.1 C.2.1 dX7_spills_32 (lv_at hl 0 rfl) ?_
  refine lv_iload_n C.1 C.2.1 dX7_spills_34 rfl (lv_at hl 2 rfl) ?_
  refine lv_icmp_ge (tgt := 62) C.1 C.2.1 dX7_spills_35 (by decide) (fun _ => ?_) (fun c2456 => absurd c2456 (by decide))
  refine lv_iinc (v := 34) (lv' := [(4, .int 34), (5, .int 0), (3, .int 0), (2, .int 0), (0, .ref h0), (1, .int x0)]) C.1 C.2.1 dX7_spills_62 hl (k := 1) rfl (by decide) (by decide) rfl (fun ls hl => ?_)
  refine lv_goto (tgt := 17) C.1 C.2.1 dX7_spills_65 (by decide) ?_
  refine lv_iload C.1 C.2.1 dX7_spills_17 (lv_at hl 0 rfl) ?_
  refine lv_bipush (v := 64) C.1 C.2.1 dX7_spills_19 (by decide) ?_
  refine lv_icmp_ge (tgt := 68) C.1 C.2.1 dX7_spills_21 (by decide) (fun c2457 => absurd c2457 (by decide)) (fun _ => ?_)
  refine lv_aload_n C.1 C.2.1 dX7_spills_24 rfl (lv_at hl 4 rfl) ?_
  refine lv_iload C.1 C.2.1 dX7_spills_25 (lv_at hl 0 rfl) ?_
  refine k_pi (k_runV (rest := []) C aks Wd cs_X7_82 (kcX7_comingsOf l D h0 h1 h2 h3 h4 34 a1 _ ) [0, 1] rfl (by decide) [0] rfl 0 7 rfl rfl rfl rfl rfl ⟨(Nat.le_of_ble_eq_true rfl), (Nat.le_of_ble_eq_true rfl)⟩ hl.1 rfl rfl (Nat.le_of_ble_eq_true rfl) ⟨(Nat.le_of_ble_eq_true rfl), (Nat.le_of_ble_eq_true rfl)⟩ dX7_spills_27) (fun r w2458 => ?_)
  obtain rfl := w2458
  refine lv_istore (lv' := [(5, .int 0), (4, .int 34), (3, .int 0), (2, .int 0), (0, .ref h0), (1, .int x0)]) C.1 C.2.1 dX7_spills_30 hl (by decide) rfl (fun ls hl => ?_)
  refine lv_iload C.1 C.2.1 dX7_spills_32 (lv_at hl 0 rfl) ?_
  refine lv_iload_n C.1 C.2.1 dX7_spills_34 rfl (lv_at hl 2 rfl) ?_
  refine lv_icmp_ge (tgt := 62) C.1 C.2.1 dX7_spills_35 (by decide) (fun _ => ?_) (fun c2459 => absurd c2459 (by decide))
  refine lv_iinc (v := 35) (lv' := [(4, .int 35), (5, .int 0), (3, .int 0), (2, .int 0), (0, .ref h0), (1, .int x0)]) C.1 C.2.1 dX7_spills_62 hl (k := 1) rfl (by decide) (by decide) rfl (fun ls hl => ?_)
  refine lv_goto (tgt := 17) C.1 C.2.1 dX7_spills_65 (by decide) ?_
  refine lv_iload C.1 C.2.1 dX7_spills_17 (lv_at hl 0 rfl) ?_
  refine lv_bipush (v := 64) C.1 C.2.1 dX7_spills_19 (by decide) ?_
  refine lv_icmp_ge (tgt := 68) C.1 C.2.1 dX7_spills_21 (by decide) (fun c2460 => absurd c2460 (by decide)) (fun _ => ?_)
  refine lv_aload_n C.1 C.2.1 dX7_spills_24 rfl (lv_at hl 4 rfl) ?_
  refine lv_iload C.1 C.2.1 dX7_spills_25 (lv_at hl 0 rfl) ?_
  refine k_pi (k_runV (rest := []) C aks Wd cs_X7_82 (kcX7_comingsOf l D h0 h1 h2 h3 h4 35 a1 _ ) [0, 1] rfl (by decide) [0] rfl 0 7 rfl rfl rfl rfl rfl ⟨(Nat.le_of_ble_eq_true rfl), (Nat.le_of_ble_eq_true rfl)⟩ hl.1 rfl rfl (Nat.le_of_ble_eq_true rfl) ⟨(Nat.le_of_ble_eq_true rfl), (Nat.le_of_ble_eq_true rfl)⟩ dX7_spills_27) (fun r w2461 => ?_)
  obtain rfl := w2461
  refine lv_istore (lv' := [(5, .int 0), (4, .int 35), (3, .int 0), (2, .int 0), (0, .ref h0), (1, .int x0)]) C.1 C.2.1 dX7_spills_30 hl (by decide) rfl (fun ls hl => ?_)
  refine lv_iload C.1 C.2.1 dX7_spills_32 (lv_at hl 0 rfl) ?_
  refine lv_iload_n C.1 C.2.1 dX7_spills_34 rfl (lv_at hl 2 rfl) ?_
  refine lv_icmp_ge (tgt := 62) C.1 C.2.1 dX7_spills_35 (by decide) (fun _ => ?_) (fun c2462 => absurd c2462 (by decide))
  refine lv_iinc (v := 36) (lv' := [(4, .int 36), (5, .int 0), (3, .int 0), (2, .int 0), (0, .ref h0), (1, .int x0)]) C.1 C.2.1 dX7_spills_62 hl (k := 1) rfl (by decide) (by decide) rfl (fun ls hl => ?_)
  refine lv_goto (tgt := 17) C.1 C.2.1 dX7_spills_65 (by decide) ?_
  refine lv_iload C.1 C.2.1 dX7_spills_17 (lv_at hl 0 rfl) ?_
  refine lv_bipush (v := 64) C.1 C.2.1 dX7_spills_19 (by decide) ?_
  refine lv_icmp_ge (tgt := 68) C.1 C.2.1 dX7_spills_21 (by decide) (fun c2463 => absurd c2463 (by decide)) (fun _ => ?_)
  refine lv_aload_n C.1 C.2.1 dX7_spills_24 rfl (lv_at hl 4 rfl) ?_
  refine lv_iload C.1 C.2.1 dX7_spills_25 (lv_at hl 0 rfl) ?_
  refine k_pi (k_runV (rest := []) C aks Wd cs_X7_82 (kcX7_comingsOf l D h0 h1 h2 h3 h4 36 a1 _ ) [0, 1] rfl (by decide) [0] rfl 0 7 rfl rfl rfl rfl rfl ⟨(Nat.le_of_ble_eq_true rfl), (Nat.le_of_ble_eq_true rfl)⟩ hl.1 rfl rfl (Nat.le_of_ble_eq_true rfl) ⟨(Nat.le_of_ble_eq_true rfl), (Nat.le_of_ble_eq_true rfl)⟩ dX7_spills_27) (fun r w2464 => ?_)
  obtain rfl := w2464
  refine lv_istore (lv' := [(5, .int 0), (4, .int 36), (3, .int 0), (2, .int 0), (0, .ref h0), (1, .int x0)]) C.1 C.2.1 dX7_spills_30 hl (by decide) rfl (fun ls hl => ?_)
  refine lv_iload C.1 C.2.1 dX7_spills_32 (lv_at hl 0 rfl) ?_
  refine lv_iload_n C.1 C.2.1 dX7_spills_34 rfl (lv_at hl 2 rfl) ?_
  refine lv_icmp_ge (tgt := 62) C.1 C.2.1 dX7_spills_35 (by decide) (fun _ => ?_) (fun c2465 => absurd c2465 (by decide))
  refine lv_iinc (v := 37) (lv' := [(4, .int 37), (5, .int 0), (3, .int 0), (2, .int 0), (0, .ref h0), (1, .int x0)]) C.1 C.2.1 dX7_spills_62 hl (k := 1) rfl (by decide) (by decide) rfl (fun ls hl => ?_)
  refine lv_goto (tgt := 17) C.1 C.2.1 dX7_spills_65 (by decide) ?_
  refine lv_iload C.1 C.2.1 dX7_spills_17 (lv_at hl 0 rfl) ?_
  refine lv_bipush (v := 64) C.1 C.2.1 dX7_spills_19 (by decide) ?_
  refine lv_icmp_ge (tgt := 68) C.1 C.2.1 dX7_spills_21 (by decide) (fun c2466 => absurd c2466 (by decide)) (fun _ => ?_)
  refine lv_aload_n C.1 C.2.1 dX7_spills_24 rfl (lv_at hl 4 rfl) ?_
  refine lv_iload C.1 C.2.1 dX7_spills_25 (lv_at hl 0 rfl) ?_
  refine k_pi (k_runV (rest := []) C aks Wd cs_X7_82 (kcX7_comingsOf l D h0 h1 h2 h3 h4 37 a1 _ ) [0, 1] rfl (by decide) [0] rfl 0 7 rfl rfl rfl rfl rfl ⟨(Nat.le_of_ble_eq_true rfl), (Nat.le_of_ble_eq_true rfl)⟩ hl.1 rfl rfl (Nat.le_of_ble_eq_true rfl) ⟨(Nat.le_of_ble_eq_true rfl), (Nat.le_of_ble_eq_true rfl)⟩ dX7_spills_27) (fun r w2467 => ?_)
  obtain rfl := w2467
  refine lv_istore (lv' := [(5, .int 0), (4, .int 37), (3, .int 0), (2, .int 0), (0, .ref h0), (1, .int x0)]) C.1 C.2.1 dX7_spills_30 hl (by decide) rfl (fun ls hl => ?_)
  refine lv_iload C.1 C.2.1 dX7_spills_32 (lv_at hl 0 rfl) ?_
  refine lv_iload_n C.1 C.2.1 dX7_spills_34 rfl (lv_at hl 2 rfl) ?_
  refine lv_icmp_ge (tgt := 62) C.1 C.2.1 dX7_spills_35 (by decide) (fun _ => ?_) (fun c2468 => absurd c2468 (by decide))
  refine lv_iinc (v := 38) (lv' := [(4, .int 38), (5, .int 0), (3, .int 0), (2, .int 0), (0, .ref h0), (1, .int x0)]) C.1 C.2.1 dX7_spills_62 hl (k := 1) rfl (by decide) (by decide) rfl (fun ls hl => ?_)
  refine lv_goto (tgt := 17) C.1 C.2.1 dX7_spills_65 (by decide) ?_
  refine lv_iload C.1 C.2.1 dX7_spills_17 (lv_at hl 0 rfl) ?_
  refine lv_bipush (v := 64) C.1 C.2.1 dX7_spills_19 (by decide) ?_
  refine lv_icmp_ge (tgt := 68) C.1 C.2.1 dX7_spills_21 (by decide) (fun c2469 => absurd c2469 (by decide)) (fun _ => ?_)
  refine lv_aload_n C.1 C.2.1 dX7_spills_24 rfl (lv_at hl 4 rfl) ?_
  refine lv_iload C.1 C.2.1 dX7_spills_25 (lv_at hl 0 rfl) ?_
  refine k_pi (k_runV (rest := []) C aks Wd cs_X7_82 (kcX7_comingsOf l D h0 h1 h2 h3 h4 38 a1 _ ) [0, 1] rfl (by decide) [0] rfl 0 7 rfl rfl rfl rfl rfl ⟨(Nat.le_of_ble_eq_true rfl), (Nat.le_of_ble_eq_true rfl)⟩ hl.1 rfl rfl (Nat.le_of_ble_eq_true rfl) ⟨(Nat.le_of_ble_eq_true rfl), (Nat.le_of_ble_eq_true rfl)⟩ dX7_spills_27) (fun r w2470 => ?_)
  obtain rfl := w2470
  refine lv_istore (lv' := [(5, .int 0), (4, .int 38), (3, .int 0), (2, .int 0), (0, .ref h0), (1, .int x0)]) C.1 C.2.1 dX7_spills_30 hl (by decide) rfl (fun ls hl => ?_)
  refine lv_iload C.1 C.2.1 dX7_spills_32 (lv_at hl 0 rfl) ?_
  refine lv_iload_n C.1 C.2.1 dX7_spills_34 rfl (lv_at hl 2 rfl) ?_
  refine lv_icmp_ge (tgt := 62) C.1 C.2.1 dX7_spills_35 (by decide) (fun _ => ?_) (fun c2471 => absurd c2471 (by decide))
  refine lv_iinc (v := 39) (lv' := [(4, .int 39), (5, .int 0), (3, .int 0), (2, .int 0), (0, .ref h0), (1, .int x0)]) C.1 C.2.1 dX7_spills_62 hl (k := 1) rfl (by decide) (by decide) rfl (fun ls hl => ?_)
  refine lv_goto (tgt := 17) C.1 C.2.1 dX7_spills_65 (by decide) ?_
  refine lv_iload C.1 C.2.1 dX7_spills_17 (lv_at hl 0 rfl) ?_
  refine lv_bipush (v := 64) C.1 C.2.1 dX7_spills_19 (by decide) ?_
  refine lv_icmp_ge (tgt := 68) C.1 C.2.1 dX7_spills_21 (by decide) (fun c2472 => absurd c2472 (by decide)) (fun _ => ?_)
  refine lv_aload_n C.1 C.2.1 dX7_spills_24 rfl (lv_at hl 4 rfl) ?_
  refine lv_iload C.1 C.2.1 dX7_spills_25 (lv_at hl 0 rfl) ?_
  refine k_pi (k_runV (rest := []) C aks Wd cs_X7_82 (kcX7_comingsOf l D h0 h1 h2 h3 h4 39 a1 _ ) [0, 1] rfl (by decide) [0] rfl 0 7 rfl rfl rfl rfl rfl ⟨(Nat.le_of_ble_eq_true rfl), (Nat.le_of_ble_eq_true rfl)⟩ hl.1 rfl rfl (Nat.le_of_ble_eq_true rfl) ⟨(Nat.le_of_ble_eq_true rfl), (Nat.le_of_ble_eq_true rfl)⟩ dX7_spills_27) (fun r w2473 => ?_)
  obtain rfl := w2473
  refine lv_istore (lv' := [(5, .int 0), (4, .int 39), (3, .int 0), (2, .int 0), (0, .ref h0), (1, .int x0)]) C.1 C.2.1 dX7_spills_30 hl (by decide) rfl (fun ls hl => ?_)
  refine lv_iload C.1 C.2.1 dX7_spills_32 (lv_at hl 0 rfl) ?_
  refine lv_iload_n C.1 C.2.1 dX7_spills_34 rfl (lv_at hl 2 rfl) ?_
  refine lv_icmp_ge (tgt := 62) C.1 C.2.1 dX7_spills_35 (by decide) (fun _ => ?_) (fun c2474 => absurd c2474 (by decide))
  refine lv_iinc (v := 40) (lv' := [(4, .int 40), (5, .int 0), (3, .int 0), (2, .int 0), (0, .ref h0), (1, .int x0)]) C.1 C.2.1 dX7_spills_62 hl (k := 1) rfl (by decide) (by decide) rfl (fun ls hl => ?_)
  refine lv_goto (tgt := 17) C.1 C.2.1 dX7_spills_65 (by decide) ?_
  refine lv_iload C.1 C.2.1 dX7_spills_17 (lv_at hl 0 rfl) ?_
  refine lv_bipush (v := 64) C.1 C.2.1 dX7_spills_19 (by decide) ?_
  refine lv_icmp_ge (tgt := 68) C.1 C.2.1 dX7_spills_21 (by decide) (fun c2475 => absurd c2475 (by decide)) (fun _ => ?_)
  refine lv_aload_n C.1 C.2.1 dX7_spills_24 rfl (lv_at hl 4 rfl) ?_
  refine lv_iload C.1 C.2.1 dX7_spills_25 (lv_at hl 0 rfl) ?_
  refine k_pi (k_runV (rest := []) C aks Wd cs_X7_82 (kcX7_comingsOf l D h0 h1 h2 h3 h4 40 a1 _ ) [0, 1] rfl (by decide) [0] rfl 0 7 rfl rfl rfl rfl rfl ⟨(Nat.le_of_ble_eq_true rfl), (Nat.le_of_ble_eq_true rfl)⟩ hl.1 rfl rfl (Nat.le_of_ble_eq_true rfl) ⟨(Nat.le_of_ble_eq_true rfl), (Nat.le_of_ble_eq_true rfl)⟩ dX7_spills_27) (fun r w2476 => ?_)
  obtain rfl := w2476
  refine lv_istore (lv' := [(5, .int 0), (4, .int 40), (3, .int 0), (2, .int 0), (0, .ref h0), (1, .int x0)]) C.1 C.2.1 dX7_spills_30 hl (by decide) rfl (fun ls hl => ?_)
  refine lv_iload C.1 C.2.1 dX7_spills_32 (lv_at hl 0 rfl) ?_
  refine lv_iload_n C.1 C.2.1 dX7_spills_34 rfl (lv_at hl 2 rfl) ?_
  refine lv_icmp_ge (tgt := 62) C.1 C.2.1 dX7_spills_35 (by decide) (fun _ => ?_) (fun c2477 => absurd c2477 (by decide))
  refine lv_iinc (v := 41) (lv' := [(4, .int 41), (5, .int 0), (3, .int 0), (2, .int 0), (0, .ref h0), (1, .int x0)]) C.1 C.2.1 dX7_spills_62 hl (k := 1) rfl (by decide) (by decide) rfl (fun ls hl => ?_)
  refine lv_goto (tgt := 17) C.1 C.2.1 dX7_spills_65 (by decide) ?_
  refine lv_iload C.1 C.2.1 dX7_spills_17 (lv_at hl 0 rfl) ?_
  refine lv_bipush (v := 64) C.1 C.2.1 dX7_spills_19 (by decide) ?_
  refine lv_icmp_ge (tgt := 68) C.1 C.2.1 dX7_spills_21 (by decide) (fun c2478 => absurd c2478 (by decide)) (fun _ => ?_)
  refine lv_aload_n C.1 C.2.1 dX7_spills_24 rfl (lv_at hl 4 rfl) ?_
  refine lv_iload C.1 C.2.1 dX7_spills_25 (lv_at hl 0 rfl) ?_
  refine k_pi (k_runV (rest := []) C aks Wd cs_X7_82 (kcX7_comingsOf l D h0 h1 h2 h3 h4 41 a1 _ ) [0, 1] rfl (by decide) [0] rfl 0 7 rfl rfl rfl rfl rfl ⟨(Nat.le_of_ble_eq_true rfl), (Nat.le_of_ble_eq_true rfl)⟩ hl.1 rfl rfl (Nat.le_of_ble_eq_true rfl) ⟨(Nat.le_of_ble_eq_true rfl), (Nat.le_of_ble_eq_true rfl)⟩ dX7_spills_27) (fun r w2479 => ?_)
  obtain rfl := w2479
  refine lv_istore (lv' := [(5, .int 0), (4, .int 41), (3, .int 0), (2, .int 0), (0, .ref h0), (1, .int x0)]) C.1 C.2.1 dX7_spills_30 hl (by decide) rfl (fun ls hl => ?_)
  refine lv_iload C.1 C.2.1 dX7_spills_32 (lv_at hl 0 rfl) ?_
  refine lv_iload_n C.1 C.2.1 dX7_spills_34 rfl (lv_at hl 2 rfl) ?_
  refine lv_icmp_ge (tgt := 62) C.1 C.2.1 dX7_spills_35 (by decide) (fun _ => ?_) (fun c2480 => absurd c2480 (by decide))
  refine lv_iinc (v := 42) (lv' := [(4, .int 42), (5, .int 0), (3, .int 0), (2, .int 0), (0, .ref h0), (1, .int x0)]) C.1 C.2.1 dX7_spills_62 hl (k := 1) rfl (by decide) (by decide) rfl (fun ls hl => ?_)
  refine lv_goto (tgt := 17) C.1 C.2.1 dX7_spills_65 (by decide) ?_
  refine lv_iload C.1 C.2.1 dX7_spills_17 (lv_at hl 0 rfl) ?_
  refine lv_bipush (v := 64) C.1 C.2.1 dX7_spills_19 (by decide) ?_
  refine lv_icmp_ge (tgt := 68) C.1 C.2.1 dX7_spills_21 (by decide) (fun c2481 => absurd c2481 (by decide)) (fun _ => ?_)
  refine lv_aload_n C.1 C.2.1 dX7_spills_24 rfl (lv_at hl 4 rfl) ?_
  refine lv_iload C.1 C.2.1 dX7_spills_25 (lv_at hl 0 rfl) ?_
  refine k_pi (k_runV (rest := []) C aks Wd cs_X7_82 (kcX7_comingsOf l D h0 h1 h2 h3 h4 42 a1 _ ) [0, 1] rfl (by decide) [0] rfl 0 7 rfl rfl rfl rfl rfl ⟨(Nat.le_of_ble_eq_true rfl), (Nat.le_of_ble_eq_true rfl)⟩ hl.1 rfl rfl (Nat.le_of_ble_eq_true rfl) ⟨(Nat.le_of_ble_eq_true rfl), (Nat.le_of_ble_eq_true rfl)⟩ dX7_spills_27) (fun r w2482 => ?_)
  obtain rfl := w2482
  refine lv_istore (lv' := [(5, .int 0), (4, .int 42), (3, .int 0), (2, .int 0), (0, .ref h0), (1, .int x0)]) C.1 C.2.1 dX7_spills_30 hl (by decide) rfl (fun ls hl => ?_)
  refine lv_iload C.1 C.2.1 dX7_spills_32 (lv_at hl 0 rfl) ?_
  refine lv_iload_n C.1 C.2.1 dX7_spills_34 rfl (lv_at hl 2 rfl) ?_
  refine lv_icmp_ge (tgt := 62) C.1 C.2.1 dX7_spills_35 (by decide) (fun _ => ?_) (fun c2483 => absurd c2483 (by decide))
  refine lv_iinc (v := 43) (lv' := [(4, .int 43), (5, .int 0), (3, .int 0), (2, .int 0), (0, .ref h0), (1, .int x0)]) C.1 C.2.1 dX7_spills_62 hl (k := 1) rfl (by decide) (by decide) rfl (fun ls hl => ?_)
  refine lv_goto (tgt := 17) C.1 C.2.1 dX7_spills_65 (by decide) ?_
  refine lv_iload C.1 C.2.1 dX7_spills_17 (lv_at hl 0 rfl) ?_
  refine lv_bipush (v := 64) C.1 C.2.1 dX7_spills_19 (by decide) ?_
  refine lv_icmp_ge (tgt := 68) C.1 C.2.1 dX7_spills_21 (by decide) (fun c2484 => absurd c2484 (by decide)) (fun _ => ?_)
  refine lv_aload_n C.1 C.2.1 dX7_spills_24 rfl (lv_at hl 4 rfl) ?_
  refine lv_iload C.1 C.2.1 dX7_spills_25 (lv_at hl 0 rfl) ?_
  refine k_pi (k_runV (rest := []) C aks Wd cs_X7_82 (kcX7_comingsOf l D h0 h1 h2 h3 h4 43 a1 _ ) [0, 1] rfl (by decide) [0] rfl 0 7 rfl rfl rfl rfl rfl ⟨(Nat.le_of_ble_eq_true rfl), (Nat.le_of_ble_eq_true rfl)⟩ hl.1 rfl rfl (Nat.le_of_ble_eq_true rfl) ⟨(Nat.le_of_ble_eq_true rfl), (Nat.le_of_ble_eq_true rfl)⟩ dX7_spills_27) (fun r w2485 => ?_)
  obtain rfl := w2485
  refine lv_istore (lv' := [(5, .int 0), (4, .int 43), (3, .int 0), (2, .int 0), (0, .ref h0), (1, .int x0)]) C.1 C.2.1 dX7_spills_30 hl (by decide) rfl (fun ls hl => ?_)
  refine lv_iload C.1 C.2.1 dX7_spills_32 (lv_at hl 0 rfl) ?_
  refine lv_iload_n C.1 C.2.1 dX7_spills_34 rfl (lv_at hl 2 rfl) ?_
  refine lv_icmp_ge (tgt := 62) C.1 C.2.1 dX7_spills_35 (by decide) (fun _ => ?_) (fun c2486 => absurd c2486 (by decide))
  refine lv_iinc (v := 44) (lv' := [(4, .int 44), (5, .int 0), (3, .int 0), (2, .int 0), (0, .ref h0), (1, .int x0)]) C.1 C.2.1 dX7_spills_62 hl (k := 1) rfl (by decide) (by decide) rfl (fun ls hl => ?_)
  refine lv_goto (tgt := 17) C.1 C.2.1 dX7_spills_65 (by decide) ?_
  refine lv_iload C.1 C.2.1 dX7_spills_17 (lv_at hl 0 rfl) ?_
  refine lv_bipush (v := 64) C.1 C.2.1 dX7_spills_19 (by decide) ?_
  refine lv_icmp_ge (tgt := 68) C.1 C.2.1 dX7_spills_21 (by decide) (fun c2487 => absurd c2487 (by decide)) (fun _ => ?_)
  refine lv_aload_n C.1 C.2.1 dX7_spills_24 rfl (lv_at hl 4 rfl) ?_
  refine lv_iload C.1 C.2.1 dX7_spills_25 (lv_at hl 0 rfl) ?_
  refine k_pi (k_runV (rest := []) C aks Wd cs_X7_82 (kcX7_comingsOf l D h0 h1 h2 h3 h4 44 a1 _ ) [0, 1] rfl (by decide) [0] rfl 0 7 rfl rfl rfl rfl rfl ⟨(Nat.le_of_ble_eq_true rfl), (Nat.le_of_ble_eq_true rfl)⟩ hl.1 rfl rfl (Nat.le_of_ble_eq_true rfl) ⟨(Nat.le_of_ble_eq_true rfl), (Nat.le_of_ble_eq_true rfl)⟩ dX7_spills_27) (fun r w2488 => ?_)
  obtain rfl := w2488
  refine lv_istore (lv' := [(5, .int 0), (4, .int 44), (3, .int 0), (2, .int 0), (0, .ref h0), (1, .int x0)]) C.1 C.2.1 dX7_spills_30 hl (by decide) rfl (fun ls hl => ?_)
  refine lv_iload C.1 C.2.1 dX7_spills_32 (lv_at hl 0 rfl) ?_
  refine lv_iload_n C.1 C.2.1 dX7_spills_34 rfl (lv_at hl 2 rfl) ?_
  refine lv_icmp_ge (tgt := 62) C.1 C.2.1 dX7_spills_35 (by decide) (fun _ => ?_) (fun c2489 => absurd c2489 (by decide))
  refine lv_iinc (v := 45) (lv' := [(4, .int 45), (5, .int 0), (3, .int 0), (2, .int 0), (0, .ref h0), (1, .int x0)]) C.1 C.2.1 dX7_spills_62 hl (k := 1) rfl (by decide) (by decide) rfl (fun ls hl => ?_)
  refine lv_goto (tgt := 17) C.1 C.2.1 dX7_spills_65 (by decide) ?_
  refine lv_iload C.1 C.2.1 dX7_spills_17 (lv_at hl 0 rfl) ?_
  refine lv_bipush (v := 64) C.1 C.2.1 dX7_spills_19 (by decide) ?_
  refine lv_icmp_ge (tgt := 68) C.1 C.2.1 dX7_spills_21 (by decide) (fun c2490 => absurd c2490 (by decide)) (fun _ => ?_)
  refine lv_aload_n C.1 C.2.1 dX7_spills_24 rfl (lv_at hl 4 rfl) ?_
  refine lv_iload C.1 C.2.1 dX7_spills_25 (lv_at hl 0 rfl) ?_
  refine k_pi (k_runV (rest := []) C aks Wd cs_X7_82 (kcX7_comingsOf l D h0 h1 h2 h3 h4 45 a1 _ ) [0, 1] rfl (by decide) [0] rfl 0 7 rfl rfl rfl rfl rfl ⟨(Nat.le_of_ble_eq_true rfl), (Nat.le_of_ble_eq_true rfl)⟩ hl.1 rfl rfl (Nat.le_of_ble_eq_true rfl) ⟨(Nat.le_of_ble_eq_true rfl), (Nat.le_of_ble_eq_true rfl)⟩ dX7_spills_27) (fun r w2491 => ?_)
  obtain rfl := w2491
  refine lv_istore (lv' := [(5, .int 0), (4, .int 45), (3, .int 0), (2, .int 0), (0, .ref h0), (1, .int x0)]) C.1 C.2.1 dX7_spills_30 hl (by decide) rfl (fun ls hl => ?_)
  refine lv_iload C.1 C.2.1 dX7_spills_32 (lv_at hl 0 rfl) ?_
  refine lv_iload_n C.1 C.2.1 dX7_spills_34 rfl (lv_at hl 2 rfl) ?_
  refine lv_icmp_ge (tgt := 62) C.1 C.2.1 dX7_spills_35 (by decide) (fun _ => ?_) (fun c2492 => absurd c2492 (by decide))
  refine lv_iinc (v := 46) (lv' := [(4, .int 46), (5, .int 0), (3, .int 0), (2, .int 0), (0, .ref h0), (1, .int x0)]) C.1 C.2.1 dX7_spills_62 hl (k := 1) rfl (by decide) (by decide) rfl (fun ls hl => ?_)
  refine lv_goto (tgt := 17) C.1 C.2.1 dX7_spills_65 (by decide) ?_
  refine lv_iload C.1 C.2.1 dX7_spills_17 (lv_at hl 0 rfl) ?_
  refine lv_bipush (v := 64) C.1 C.2.1 dX7_spills_19 (by decide) ?_
  refine lv_icmp_ge (tgt := 68) C.1 C.2.1 dX7_spills_21 (by decide) (fun c2493 => absurd c2493 (by decide)) (fun _ => ?_)
  refine lv_aload_n C.1 C.2.1 dX7_spills_24 rfl (lv_at hl 4 rfl) ?_
  refine lv_iload C.1 C.2.1 dX7_spills_25 (lv_at hl 0 rfl) ?_
  refine k_pi (k_runV (rest := []) C aks Wd cs_X7_82 (kcX7_comingsOf l D h0 h1 h2 h3 h4 46 a1 _ ) [0, 1] rfl (by decide) [0] rfl 0 7 rfl rfl rfl rfl rfl ⟨(Nat.le_of_ble_eq_true rfl), (Nat.le_of_ble_eq_true rfl)⟩ hl.1 rfl rfl (Nat.le_of_ble_eq_true rfl) ⟨(Nat.le_of_ble_eq_true rfl), (Nat.le_of_ble_eq_true rfl)⟩ dX7_spills_27) (fun r w2494 => ?_)
  obtain rfl := w2494
  refine lv_istore (lv' := [(5, .int 0), (4, .int 46), (3, .int 0), (2, .int 0), (0, .ref h0), (1, .int x0)]) C.1 C.2.1 dX7_spills_30 hl (by decide) rfl (fun ls hl => ?_)
  refine lv_iload C.1 C.2.1 dX7_spills_32 (lv_at hl 0 rfl) ?_
  refine lv_iload_n C.1 C.2.1 dX7_spills_34 rfl (lv_at hl 2 rfl) ?_
  refine lv_icmp_ge (tgt := 62) C.1 C.2.1 dX7_spills_35 (by decide) (fun _ => ?_) (fun c2495 => absurd c2495 (by decide))
  refine lv_iinc (v := 47) (lv' := [(4, .int 47), (5, .int 0), (3, .int 0), (2, .int 0), (0, .ref h0), (1, .int x0)]) C.1 C.2.1 dX7_spills_62 hl (k := 1) rfl (by decide) (by decide) rfl (fun ls hl => ?_)
  refine lv_goto (tgt := 17) C.1 C.2.1 dX7_spills_65 (by decide) ?_
  refine lv_iload C.1 C.2.1 dX7_spills_17 (lv_at hl 0 rfl) ?_
  refine lv_bipush (v := 64) C.1 C.2.1 dX7_spills_19 (by decide) ?_
  refine lv_icmp_ge (tgt := 68) C.1 C.2.1 dX7_spills_21 (by decide) (fun c2496 => absurd c2496 (by decide)) (fun _ => ?_)
  refine lv_aload_n C.1 C.2.1 dX7_spills_24 rfl (lv_at hl 4 rfl) ?_
  refine lv_iload C.1 C.2.1 dX7_spills_25 (lv_at hl 0 rfl) ?_
  refine k_pi (k_runV (rest := []) C aks Wd cs_X7_82 (kcX7_comingsOf l D h0 h1 h2 h3 h4 47 a1 _ ) [0, 1] rfl (by decide) [0] rfl 0 7 rfl rfl rfl rfl rfl ⟨(Nat.le_of_ble_eq_true rfl), (Nat.le_of_ble_eq_true rfl)⟩ hl.1 rfl rfl (Nat.le_of_ble_eq_true rfl) ⟨(Nat.le_of_ble_eq_true rfl), (Nat.le_of_ble_eq_true rfl)⟩ dX7_spills_27) (fun r w2497 => ?_)
  obtain rfl := w2497
  refine lv_istore (lv' := [(5, .int 0), (4, .int 47), (3, .int 0), (2, .int 0), (0, .ref h0), (1, .int x0)]) C.1 C.2.1 dX7_spills_30 hl (by decide) rfl (fun ls hl => ?_)
  refine lv_iload C.1 C.2.1 dX7_spills_32 (lv_at hl 0 rfl) ?_
  refine lv_iload_n C.1 C.2.1 dX7_spills_34 rfl (lv_at hl 2 rfl) ?_
  refine lv_icmp_ge (tgt := 62) C.1 C.2.1 dX7_spills_35 (by decide) (fun _ => ?_) (fun c2498 => absurd c2498 (by decide))
  refine lv_iinc (v := 48) (lv' := [(4, .int 48), (5, .int 0), (3, .int 0), (2, .int 0), (0, .ref h0), (1, .int x0)]) C.1 C.2.1 dX7_spills_62 hl (k := 1) rfl (by decide) (by decide) rfl (fun ls hl => ?_)
  refine lv_goto (tgt := 17) C.1 C.2.1 dX7_spills_65 (by decide) ?_
  refine lv_iload C.1 C.2.1 dX7_spills_17 (lv_at hl 0 rfl) ?_
  refine lv_bipush (v := 64) C.1 C.2.1 dX7_spills_19 (by decide) ?_
  refine lv_icmp_ge (tgt := 68) C.1 C.2.1 dX7_spills_21 (by decide) (fun c2499 => absurd c2499 (by decide)) (fun _ => ?_)
  refine lv_aload_n C.1 C.2.1 dX7_spills_24 rfl (lv_at hl 4 rfl) ?_
  refine lv_iload C.1 C.2.1 dX7_spills_25 (lv_at hl 0 rfl) ?_
  refine k_pi (k_runV (rest := []) C aks Wd cs_X7_82 (kcX7_comingsOf l D h0 h1 h2 h3 h4 48 a1 _ ) [0, 1] rfl (by decide) [0] rfl 0 7 rfl rfl rfl rfl rfl ⟨(Nat.le_of_ble_eq_true rfl), (Nat.le_of_ble_eq_true rfl)⟩ hl.1 rfl rfl (Nat.le_of_ble_eq_true rfl) ⟨(Nat.le_of_ble_eq_true rfl), (Nat.le_of_ble_eq_true rfl)⟩ dX7_spills_27) (fun r w2500 => ?_)
  obtain rfl := w2500
  refine lv_istore (lv' := [(5, .int 0), (4, .int 48), (3, .int 0), (2, .int 0), (0, .ref h0), (1, .int x0)]) C.1 C.2.1 dX7_spills_30 hl (by decide) rfl (fun ls hl => ?_)
  refine lv_iload C.1 C.2.1 dX7_spills_32 (lv_at hl 0 rfl) ?_
  refine lv_iload_n C.1 C.2.1 dX7_spills_34 rfl (lv_at hl 2 rfl) ?_
  refine lv_icmp_ge (tgt := 62) C.1 C.2.1 dX7_spills_35 (by decide) (fun _ => ?_) (fun c2501 => absurd c2501 (by decide))
  refine lv_iinc (v := 49) (lv' := [(4, .int 49), (5, .int 0), (3, .int 0), (2, .int 0), (0, .ref h0), (1, .int x0)]) C.1 C.2.1 dX7_spills_62 hl (k := 1) rfl (by decide) (by decide) rfl (fun ls hl => ?_)
  refine lv_goto (tgt := 17) C.1 C.2.1 dX7_spills_65 (by decide) ?_
  refine lv_iload C.1 C.2.1 dX7_spills_17 (lv_at hl 0 rfl) ?_
  refine lv_bipush (v := 64) C.1 C.2.1 dX7_spills_19 (by decide) ?_
  refine lv_icmp_ge (tgt := 68) C.1 C.2.1 dX7_spills_21 (by decide) (fun c2502 => absurd c2502 (by decide)) (fun _ => ?_)
  refine lv_aload_n C.1 C.2.1 dX7_spills_24 rfl (lv_at hl 4 rfl) ?_
  refine lv_iload C.1 C.2.1 dX7_spills_25 (lv_at hl 0 rfl) ?_
  refine k_pi (k_runV (rest := []) C aks Wd cs_X7_82 (kcX7_comingsOf l D h0 h1 h2 h3 h4 49 a1 _ ) [0, 1] rfl (by decide) [0] rfl 0 7 rfl rfl rfl rfl rfl ⟨(Nat.le_of_ble_eq_true rfl), (Nat.le_of_ble_eq_true rfl)⟩ hl.1 rfl rfl (Nat.le_of_ble_eq_true rfl) ⟨(Nat.le_of_ble_eq_true rfl), (Nat.le_of_ble_eq_true rfl)⟩ dX7_spills_27) (fun r w2503 => ?_)
  obtain rfl := w2503
  refine lv_istore (lv' := [(5, .int 0), (4, .int 49), (3, .int 0), (2, .int 0), (0, .ref h0), (1, .int x0)]) C.1 C.2.1 dX7_spills_30 hl (by decide) rfl (fun ls hl => ?_)
  refine lv_iload C.1 C.2.1 dX7_spills_32 (lv_at hl 0 rfl) ?_
  refine lv_iload_n C.1 C.2.1 dX7_spills_34 rfl (lv_at hl 2 rfl) ?_
  refine lv_icmp_ge (tgt := 62) C.1 C.2.1 dX7_spills_35 (by decide) (fun _ => ?_) (fun c2504 => absurd c2504 (by decide))
  refine lv_iinc (v := 50) (lv' := [(4, .int 50), (5, .int 0), (3, .int 0), (2, .int 0), (0, .ref h0), (1, .int x0)]) C.1 C.2.1 dX7_spills_62 hl (k := 1) rfl (by decide) (by decide) rfl (fun ls hl => ?_)
  refine lv_goto (tgt := 17) C.1 C.2.1 dX7_spills_65 (by decide) ?_
  refine lv_iload C.1 C.2.1 dX7_spills_17 (lv_at hl 0 rfl) ?_
  refine lv_bipush (v := 64) C.1 C.2.1 dX7_spills_19 (by decide) ?_
  refine lv_icmp_ge (tgt := 68) C.1 C.2.1 dX7_spills_21 (by decide) (fun c2505 => absurd c2505 (by decide)) (fun _ => ?_)
  refine lv_aload_n C.1 C.2.1 dX7_spills_24 rfl (lv_at hl 4 rfl) ?_
  refine lv_iload C.1 C.2.1 dX7_spills_25 (lv_at hl 0 rfl) ?_
  refine k_pi (k_runV (rest := []) C aks Wd cs_X7_82 (kcX7_comingsOf l D h0 h1 h2 h3 h4 50 a1 _ ) [0, 1] rfl (by decide) [0] rfl 0 7 rfl rfl rfl rfl rfl ⟨(Nat.le_of_ble_eq_true rfl), (Nat.le_of_ble_eq_true rfl)⟩ hl.1 rfl rfl (Nat.le_of_ble_eq_true rfl) ⟨(Nat.le_of_ble_eq_true rfl), (Nat.le_of_ble_eq_true rfl)⟩ dX7_spills_27) (fun r w2506 => ?_)
  obtain rfl := w2506
  refine lv_istore (lv' := [(5, .int 0), (4, .int 50), (3, .int 0), (2, .int 0), (0, .ref h0), (1, .int x0)]) C.1 C.2.1 dX7_spills_30 hl (by decide) rfl (fun ls hl => ?_)
  refine lv_iload C.1 C.2.1 dX7_spills_32 (lv_at hl 0 rfl) ?_
  refine lv_iload_n C.1 C.2.1 dX7_spills_34 rfl (lv_at hl 2 rfl) ?_
  refine lv_icmp_ge (tgt := 62) C.1 C.2.1 dX7_spills_35 (by decide) (fun _ => ?_) (fun c2507 => absurd c2507 (by decide))
  refine lv_iinc (v := 51) (lv' := [(4, .int 51), (5, .int 0), (3, .int 0), (2, .int 0), (0, .ref h0), (1, .int x0)]) C.1 C.2.1 dX7_spills_62 hl (k := 1) rfl (by decide) (by decide) rfl (fun ls hl => ?_)
  refine lv_goto (tgt := 17) C.1 C.2.1 dX7_spills_65 (by decide) ?_
  refine lv_iload C.1 C.2.1 dX7_spills_17 (lv_at hl 0 rfl) ?_
  refine lv_bipush (v := 64) C.1 C.2.1 dX7_spills_19 (by decide) ?_
  refine lv_icmp_ge (tgt := 68) C.1 C.2.1 dX7_spills_21 (by decide) (fun c2508 => absurd c2508 (by decide)) (fun _ => ?_)
  refine lv_aload_n C.1 C.2.1 dX7_spills_24 rfl (lv_at hl 4 rfl) ?_
  refine lv_iload C.1 C.2.1 dX7_spills_25 (lv_at hl 0 rfl) ?_
  refine k_pi (k_runV (rest := []) C aks Wd cs_X7_82 (kcX7_comingsOf l D h0 h1 h2 h3 h4 51 a1 _ ) [0, 1] rfl (by decide) [0] rfl 0 7 rfl rfl rfl rfl rfl ⟨(Nat.le_of_ble_eq_true rfl), (Nat.le_of_ble_eq_true rfl)⟩ hl.1 rfl rfl (Nat.le_of_ble_eq_true rfl) ⟨(Nat.le_of_ble_eq_true rfl), (Nat.le_of_ble_eq_true rfl)⟩ dX7_spills_27) (fun r w2509 => ?_)
  obtain rfl := w2509
  refine lv_istore (lv' := [(5, .int 0), (4, .int 51), (3, .int 0), (2, .int 0), (0, .ref h0), (1, .int x0)]) C.1 C.2.1 dX7_spills_30 hl (by decide) rfl (fun ls hl => ?_)
  refine lv_iload C.1 C.2.1 dX7_spills_32 (lv_at hl 0 rfl) ?_
  refine lv_iload_n C.1 C.2.1 dX7_spills_34 rfl (lv_at hl 2 rfl) ?_
  refine lv_icmp_ge (tgt := 62) C.1 C.2.1 dX7_spills_35 (by decide) (fun _ => ?_) (fun c2510 => absurd c2510 (by decide))
  refine lv_iinc (v := 52) (lv' := [(4, .int 52), (5, .int 0), (3, .int 0), (2, .int 0), (0, .ref h0), (1, .int x0)]) C.1 C.2.1 dX7_spills_62 hl (k := 1) rfl (by decide) (by decide) rfl (fun ls hl => ?_)
  refine lv_goto (tgt := 17) C.1 C.2.1 dX7_spills_65 (by decide) ?_
  refine lv_iload C.1 C.2.1 dX7_spills_17 (lv_at hl 0 rfl) ?_
  refine lv_bipush (v := 64) C.1 C.2.1 dX7_spills_19 (by decide) ?_
  refine lv_icmp_ge (tgt := 68) C.1 C.2.1 dX7_spills_21 (by decide) (fun c2511 => absurd c2511 (by decide)) (fun _ => ?_)
  refine lv_aload_n C.1 C.2.1 dX7_spills_24 rfl (lv_at hl 4 rfl) ?_
  refine lv_iload C.1 C.2.1 dX7_spills_25 (lv_at hl 0 rfl) ?_
  refine k_pi (k_runV (rest := []) C aks Wd cs_X7_82 (kcX7_comingsOf l D h0 h1 h2 h3 h4 52 a1 _ ) [0, 1] rfl (by decide) [0] rfl 0 7 rfl rfl rfl rfl rfl ⟨(Nat.le_of_ble_eq_true rfl), (Nat.le_of_ble_eq_true rfl)⟩ hl.1 rfl rfl (Nat.le_of_ble_eq_true rfl) ⟨(Nat.le_of_ble_eq_true rfl), (Nat.le_of_ble_eq_true rfl)⟩ dX7_spills_27) (fun r w2512 => ?_)
  obtain rfl := w2512
  refine lv_istore (lv' := [(5, .int 0), (4, .int 52), (3, .int 0), (2, .int 0), (0, .ref h0), (1, .int x0)]) C.1 C.2.1 dX7_spills_30 hl (by decide) rfl (fun ls hl => ?_)
  refine lv_iload C.1 C.2.1 dX7_spills_32 (lv_at hl 0 rfl) ?_
  refine lv_iload_n C.1 C.2.1 dX7_spills_34 rfl (lv_at hl 2 rfl) ?_
  refine lv_icmp_ge (tgt := 62) C.1 C.2.1 dX7_spills_35 (by decide) (fun _ => ?_) (fun c2513 => absurd c2513 (by decide))
  refine lv_iinc (v := 53) (lv' := [(4, .int 53), (5, .int 0), (3, .int 0), (2, .int 0), (0, .ref h0), (1, .int x0)]) C.1 C.2.1 dX7_spills_62 hl (k := 1) rfl (by decide) (by decide) rfl (fun ls hl => ?_)
  refine lv_goto (tgt := 17) C.1 C.2.1 dX7_spills_65 (by decide) ?_
  refine lv_iload C.1 C.2.1 dX7_spills_17 (lv_at hl 0 rfl) ?_
  refine lv_bipush (v := 64) C.1 C.2.1 dX7_spills_19 (by decide) ?_
  refine lv_icmp_ge (tgt := 68) C.1 C.2.1 dX7_spills_21 (by decide) (fun c2514 => absurd c2514 (by decide)) (fun _ => ?_)
  refine lv_aload_n C.1 C.2.1 dX7_spills_24 rfl (lv_at hl 4 rfl) ?_
  refine lv_iload C.1 C.2.1 dX7_spills_25 (lv_at hl 0 rfl) ?_
  refine k_pi (k_runV (rest := []) C aks Wd cs_X7_82 (kcX7_comingsOf l D h0 h1 h2 h3 h4 53 a1 _ ) [0, 1] rfl (by decide) [0] rfl 0 7 rfl rfl rfl rfl rfl ⟨(Nat.le_of_ble_eq_true rfl), (Nat.le_of_ble_eq_true rfl)⟩ hl.1 rfl rfl (Nat.le_of_ble_eq_true rfl) ⟨(Nat.le_of_ble_eq_true rfl), (Nat.le_of_ble_eq_true rfl)⟩ dX7_spills_27) (fun r w2515 => ?_)
  obtain rfl := w2515
  refine lv_istore (lv' := [(5, .int 0), (4, .int 53), (3, .int 0), (2, .int 0), (0, .ref h0), (1, .int x0)]) C.1 C.2.1 dX7_spills_30 hl (by decide) rfl (fun ls hl => ?_)
  refine lv_iload C.1 C.2.1 dX7_spills_32 (lv_at hl 0 rfl) ?_
  refine lv_iload_n C.1 C.2.1 dX7_spills_34 rfl (lv_at hl 2 rfl) ?_
  refine lv_icmp_ge (tgt := 62) C.1 C.2.1 dX7_spills_35 (by decide) (fun _ => ?_) (fun c2516 => absurd c2516 (by decide))
  refine lv_iinc (v := 54) (lv' := [(4, .int 54), (5, .int 0), (3, .int 0), (2, .int 0), (0, .ref h0), (1, .int x0)]) C.1 C.2.1 dX7_spills_62 hl (k := 1) rfl (by decide) (by decide) rfl (fun ls hl => ?_)
  refine lv_goto (tgt := 17) C.1 C.2.1 dX7_spills_65 (by decide) ?_
  refine lv_iload C.1 C.2.1 dX7_spills_17 (lv_at hl 0 rfl) ?_
  refine lv_bipush (v := 64) C.1 C.2.1 dX7_spills_19 (by decide) ?_
  refine lv_icmp_ge (tgt := 68) C.1 C.2.1 dX7_spills_21 (by decide) (fun c2517 => absurd c2517 (by decide)) (fun _ => ?_)
  refine lv_aload_n C.1 C.2.1 dX7_spills_24 rfl (lv_at hl 4 rfl) ?_
  refine lv_iload C.1 C.2.1 dX7_spills_25 (lv_at hl 0 rfl) ?_
  refine k_pi (k_runV (rest := []) C aks Wd cs_X7_82 (kcX7_comingsOf l D h0 h1 h2 h3 h4 54 a1 _ ) [0, 1] rfl (by decide) [0] rfl 0 7 rfl rfl rfl rfl rfl ⟨(Nat.le_of_ble_eq_true rfl), (Nat.le_of_ble_eq_true rfl)⟩ hl.1 rfl rfl (Nat.le_of_ble_eq_true rfl) ⟨(Nat.le_of_ble_eq_true rfl), (Nat.le_of_ble_eq_true rfl)⟩ dX7_spills_27) (fun r w2518 => ?_)
  obtain rfl := w2518
  refine lv_istore (lv' := [(5, .int 0), (4, .int 54), (3, .int 0), (2, .int 0), (0, .ref h0), (1, .int x0)]) C.1 C.2.1 dX7_spills_30 hl (by decide) rfl (fun ls hl => ?_)
  refine lv_iload C.1 C.2.1 dX7_spills_32 (lv_at hl 0 rfl) ?_
  refine lv_iload_n C.1 C.2.1 dX7_spills_34 rfl (lv_at hl 2 rfl) ?_
  refine lv_icmp_ge (tgt := 62) C.1 C.2.1 dX7_spills_35 (by decide) (fun _ => ?_) (fun c2519 => absurd c2519 (by decide))
  refine lv_iinc (v := 55) (lv' := [(4, .int 55), (5, .int 0), (3, .int 0), (2, .int 0), (0, .ref h0), (1, .int x0)]) C.1 C.2.1 dX7_spills_62 hl (k := 1) rfl (by decide) (by decide) rfl (fun ls hl => ?_)
  refine lv_goto (tgt := 17) C.1 C.2.1 dX7_spills_65 (by decide) ?_
  refine lv_iload C.1 C.2.1 dX7_spills_17 (lv_at hl 0 rfl) ?_
  refine lv_bipush (v := 64) C.1 C.2.1 dX7_spills_19 (by decide) ?_
  refine lv_icmp_ge (tgt := 68) C.1 C.2.1 dX7_spills_21 (by decide) (fun c2520 => absurd c2520 (by decide)) (fun _ => ?_)
  refine lv_aload_n C.1 C.2.1 dX7_spills_24 rfl (lv_at hl 4 rfl) ?_
  refine lv_iload C.1 C.2.1 dX7_spills_25 (lv_at hl 0 rfl) ?_
  refine k_pi (k_runV (rest := []) C aks Wd cs_X7_82 (kcX7_comingsOf l D h0 h1 h2 h3 h4 55 a1 _ ) [0, 1] rfl (by decide) [0] rfl 0 7 rfl rfl rfl rfl rfl ⟨(Nat.le_of_ble_eq_true rfl), (Nat.le_of_ble_eq_true rfl)⟩ hl.1 rfl rfl (Nat.le_of_ble_eq_true rfl) ⟨(Nat.le_of_ble_eq_true rfl), (Nat.le_of_ble_eq_true rfl)⟩ dX7_spills_27) (fun r w2521 => ?_)
  obtain rfl := w2521
  refine lv_istore (lv' := [(5, .int 0), (4, .int 55), (3, .int 0), (2, .int 0), (0, .ref h0), (1, .int x0)]) C.1 C.2.1 dX7_spills_30 hl (by decide) rfl (fun ls hl => ?_)
  refine lv_iload C.1 C.2.1 dX7_spills_32 (lv_at hl 0 rfl) ?_
  refine lv_iload_n C.1 C.2.1 dX7_spills_34 rfl (lv_at hl 2 rfl) ?_
  refine lv_icmp_ge (tgt := 62) C.1 C.2.1 dX7_spills_35 (by decide) (fun _ => ?_) (fun c2522 => absurd c2522 (by decide))
  refine lv_iinc (v := 56) (lv' := [(4, .int 56), (5, .int 0), (3, .int 0), (2, .int 0), (0, .ref h0), (1, .int x0)]) C.1 C.2.1 dX7_spills_62 hl (k := 1) rfl (by decide) (by decide) rfl (fun ls hl => ?_)
  refine lv_goto (tgt := 17) C.1 C.2.1 dX7_spills_65 (by decide) ?_
  refine lv_iload C.1 C.2.1 dX7_spills_17 (lv_at hl 0 rfl) ?_
  refine lv_bipush (v := 64) C.1 C.2.1 dX7_spills_19 (by decide) ?_
  refine lv_icmp_ge (tgt := 68) C.1 C.2.1 dX7_spills_21 (by decide) (fun c2523 => absurd c2523 (by decide)) (fun _ => ?_)
  refine lv_aload_n C.1 C.2.1 dX7_spills_24 rfl (lv_at hl 4 rfl) ?_
  refine lv_iload C.1 C.2.1 dX7_spills_25 (lv_at hl 0 rfl) ?_
  refine k_pi (k_runV (rest := []) C aks Wd cs_X7_82 (kcX7_comingsOf l D h0 h1 h2 h3 h4 56 a1 _ ) [0, 1] rfl (by decide) [0] rfl 0 7 rfl rfl rfl rfl rfl ⟨(Nat.le_of_ble_eq_true rfl), (Nat.le_of_ble_eq_true rfl)⟩ hl.1 rfl rfl (Nat.le_of_ble_eq_true rfl) ⟨(Nat.le_of_ble_eq_true rfl), (Nat.le_of_ble_eq_true rfl)⟩ dX7_spills_27) (fun r w2524 => ?_)
  obtain rfl := w2524
  refine lv_istore (lv' := [(5, .int 0), (4, .int 56), (3, .int 0), (2, .int 0), (0, .ref h0), (1, .int x0)]) C.1 C.2.1 dX7_spills_30 hl (by decide) rfl (fun ls hl => ?_)
  refine lv_iload C.1 C.2.1 dX7_spills_32 (lv_at hl 0 rfl) ?_
  refine lv_iload_n C.1 C.2.1 dX7_spills_34 rfl (lv_at hl 2 rfl) ?_
  refine lv_icmp_ge (tgt := 62) C.1 C.2.1 dX7_spills_35 (by decide) (fun _ => ?_) (fun c2525 => absurd c2525 (by decide))
  refine lv_iinc (v := 57) (lv' := [(4, .int 57), (5, .int 0), (3, .int 0), (2, .int 0), (0, .ref h0), (1, .int x0)]) C.1 C.2.1 dX7_spills_62 hl (k := 1) rfl (by decide) (by decide) rfl (fun ls hl => ?_)
  refine lv_goto (tgt := 17) C.1 C.2.1 dX7_spills_65 (by decide) ?_
  refine lv_iload C.1 C.2.1 dX7_spills_17 (lv_at hl 0 rfl) ?_
  refine lv_bipush (v := 64) C.1 C.2.1 dX7_spills_19 (by decide) ?_
  refine lv_icmp_ge (tgt := 68) C.1 C.2.1 dX7_spills_21 (by decide) (fun c2526 => absurd c2526 (by decide)) (fun _ => ?_)
  refine lv_aload_n C.1 C.2.1 dX7_spills_24 rfl (lv_at hl 4 rfl) ?_
  refine lv_iload C.1 C.2.1 dX7_spills_25 (lv_at hl 0 rfl) ?_
  refine k_pi (k_runV (rest := []) C aks Wd cs_X7_82 (kcX7_comingsOf l D h0 h1 h2 h3 h4 57 a1 _ ) [0, 1] rfl (by decide) [0] rfl 0 7 rfl rfl rfl rfl rfl ⟨(Nat.le_of_ble_eq_true rfl), (Nat.le_of_ble_eq_true rfl)⟩ hl.1 rfl rfl (Nat.le_of_ble_eq_true rfl) ⟨(Nat.le_of_ble_eq_true rfl), (Nat.le_of_ble_eq_true rfl)⟩ dX7_spills_27) (fun r w2527 => ?_)
  obtain rfl := w2527
  refine lv_istore (lv' := [(5, .int 0), (4, .int 57), (3, .int 0), (2, .int 0), (0, .ref h0), (1, .int x0)]) C.1 C.2.1 dX7_spills_30 hl (by decide) rfl (fun ls hl => ?_)
  refine lv_iload C.1 C.2.1 dX7_spills_32 (lv_at hl 0 rfl) ?_
  refine lv_iload_n C.1 C.2.1 dX7_spills_34 rfl (lv_at hl 2 rfl) ?_
  refine lv_icmp_ge (tgt := 62) C.1 C.2.1 dX7_spills_35 (by decide) (fun _ => ?_) (fun c2528 => absurd c2528 (by decide))
  refine lv_iinc (v := 58) (lv' := [(4, .int 58), (5, .int 0), (3, .int 0), (2, .int 0), (0, .ref h0), (1, .int x0)]) C.1 C.2.1 dX7_spills_62 hl (k := 1) rfl (by decide) (by decide) rfl (fun ls hl => ?_)
  refine lv_goto (tgt := 17) C.1 C.2.1 dX7_spills_65 (by decide) ?_
  refine lv_iload C.1 C.2.1 dX7_spills_17 (lv_at hl 0 rfl) ?_
  refine lv_bipush (v := 64) C.1 C.2.1 dX7_spills_19 (by decide) ?_
  refine lv_icmp_ge (tgt := 68) C.1 C.2.1 dX7_spills_21 (by decide) (fun c2529 => absurd c2529 (by decide)) (fun _ => ?_)
  refine lv_aload_n C.1 C.2.1 dX7_spills_24 rfl (lv_at hl 4 rfl) ?_
  refine lv_iload C.1 C.2.1 dX7_spills_25 (lv_at hl 0 rfl) ?_
  refine k_pi (k_runV (rest := []) C aks Wd cs_X7_82 (kcX7_comingsOf l D h0 h1 h2 h3 h4 58 a1 _ ) [0, 1] rfl (by decide) [0] rfl 0 7 rfl rfl rfl rfl rfl ⟨(Nat.le_of_ble_eq_true rfl), (Nat.le_of_ble_eq_true rfl)⟩ hl.1 rfl rfl (Nat.le_of_ble_eq_true rfl) ⟨(Nat.le_of_ble_eq_true rfl), (Nat.le_of_ble_eq_true rfl)⟩ dX7_spills_27) (fun r w2530 => ?_)
  obtain rfl := w2530
  refine lv_istore (lv' := [(5, .int 0), (4, .int 58), (3, .int 0), (2, .int 0), (0, .ref h0), (1, .int x0)]) C.1 C.2.1 dX7_spills_30 hl (by decide) rfl (fun ls hl => ?_)
  refine lv_iload C.1 C.2.1 dX7_spills_32 (lv_at hl 0 rfl) ?_
  refine lv_iload_n C.1 C.2.1 dX7_spills_34 rfl (lv_at hl 2 rfl) ?_
  refine lv_icmp_ge (tgt := 62) C.1 C.2.1 dX7_spills_35 (by decide) (fun _ => ?_) (fun c2531 => absurd c2531 (by decide))
  refine lv_iinc (v := 59) (lv' := [(4, .int 59), (5, .int 0), (3, .int 0), (2, .int 0), (0, .ref h0), (1, .int x0)]) C.1 C.2.1 dX7_spills_62 hl (k := 1) rfl (by decide) (by decide) rfl (fun ls hl => ?_)
  refine lv_goto (tgt := 17) C.1 C.2.1 dX7_spills_65 (by decide) ?_
  refine lv_iload C.1 C.2.1 dX7_spills_17 (lv_at hl 0 rfl) ?_
  refine lv_bipush (v := 64) C.1 C.2.1 dX7_spills_19 (by decide) ?_
  refine lv_icmp_ge (tgt := 68) C.1 C.2.1 dX7_spills_21 (by decide) (fun c2532 => absurd c2532 (by decide)) (fun _ => ?_)
  refine lv_aload_n C.1 C.2.1 dX7_spills_24 rfl (lv_at hl 4 rfl) ?_
  refine lv_iload C.1 C.2.1 dX7_spills_25 (lv_at hl 0 rfl) ?_
  refine k_pi (k_runV (rest := []) C aks Wd cs_X7_82 (kcX7_comingsOf l D h0 h1 h2 h3 h4 59 a1 _ ) [0, 1] rfl (by decide) [0] rfl 0 7 rfl rfl rfl rfl rfl ⟨(Nat.le_of_ble_eq_true rfl), (Nat.le_of_ble_eq_true rfl)⟩ hl.1 rfl rfl (Nat.le_of_ble_eq_true rfl) ⟨(Nat.le_of_ble_eq_true rfl), (Nat.le_of_ble_eq_true rfl)⟩ dX7_spills_27) (fun r w2533 => ?_)
  obtain rfl := w2533
  refine lv_istore (lv' := [(5, .int 0), (4, .int 59), (3, .int 0), (2, .int 0), (0, .ref h0), (1, .int x0)]) C.1 C.2.1 dX7_spills_30 hl (by decide) rfl (fun ls hl => ?_)
  refine lv_iload C.1 C.2.1 dX7_spills_32 (lv_at hl 0 rfl) ?_
  refine lv_iload_n C.1 C.2.1 dX7_spills_34 rfl (lv_at hl 2 rfl) ?_
  refine lv_icmp_ge (tgt := 62) C.1 C.2.1 dX7_spills_35 (by decide) (fun _ => ?_) (fun c2534 => absurd c2534 (by decide))
  refine lv_iinc (v := 60) (lv' := [(4, .int 60), (5, .int 0), (3, .int 0), (2, .int 0), (0, .ref h0), (1, .int x0)]) C.1 C.2.1 dX7_spills_62 hl (k := 1) rfl (by decide) (by decide) rfl (fun ls hl => ?_)
  refine lv_goto (tgt := 17) C.1 C.2.1 dX7_spills_65 (by decide) ?_
  refine lv_iload C.1 C.2.1 dX7_spills_17 (lv_at hl 0 rfl) ?_
  refine lv_bipush (v := 64) C.1 C.2.1 dX7_spills_19 (by decide) ?_
  refine lv_icmp_ge (tgt := 68) C.1 C.2.1 dX7_spills_21 (by decide) (fun c2535 => absurd c2535 (by decide)) (fun _ => ?_)
  refine lv_aload_n C.1 C.2.1 dX7_spills_24 rfl (lv_at hl 4 rfl) ?_
  refine lv_iload C.1 C.2.1 dX7_spills_25 (lv_at hl 0 rfl) ?_
  refine k_pi (k_runV (rest := []) C aks Wd cs_X7_82 (kcX7_comingsOf l D h0 h1 h2 h3 h4 60 a1 _ ) [0, 1] rfl (by decide) [0] rfl 0 7 rfl rfl rfl rfl rfl ⟨(Nat.le_of_ble_eq_true rfl), (Nat.le_of_ble_eq_true rfl)⟩ hl.1 rfl rfl (Nat.le_of_ble_eq_true rfl) ⟨(Nat.le_of_ble_eq_true rfl), (Nat.le_of_ble_eq_true rfl)⟩ dX7_spills_27) (fun r w2536 => ?_)
  obtain rfl := w2536
  refine lv_istore (lv' := [(5, .int 0), (4, .int 60), (3, .int 0), (2, .int 0), (0, .ref h0), (1, .int x0)]) C.1 C.2.1 dX7_spills_30 hl (by decide) rfl (fun ls hl => ?_)
  refine lv_iload C.1 C.2.1 dX7_spills_32 (lv_at hl 0 rfl) ?_
  refine lv_iload_n C.1 C.2.1 dX7_spills_34 rfl (lv_at hl 2 rfl) ?_
  refine lv_icmp_ge (tgt := 62) C.1 C.2.1 dX7_spills_35 (by decide) (fun _ => ?_) (fun c2537 => absurd c2537 (by decide))
  refine lv_iinc (v := 61) (lv' := [(4, .int 61), (5, .int 0), (3, .int 0), (2, .int 0), (0, .ref h0), (1, .int x0)]) C.1 C.2.1 dX7_spills_62 hl (k := 1) rfl (by decide) (by decide) rfl (fun ls hl => ?_)
  refine lv_goto (tgt := 17) C.1 C.2.1 dX7_spills_65 (by decide) ?_
  refine lv_iload C.1 C.2.1 dX7_spills_17 (lv_at hl 0 rfl) ?_
  refine lv_bipush (v := 64) C.1 C.2.1 dX7_spills_19 (by decide) ?_
  refine lv_icmp_ge (tgt := 68) C.1 C.2.1 dX7_spills_21 (by decide) (fun c2538 => absurd c2538 (by decide)) (fun _ => ?_)
  refine lv_aload_n C.1 C.2.1 dX7_spills_24 rfl (lv_at hl 4 rfl) ?_
  refine lv_iload C.1 C.2.1 dX7_spills_25 (lv_at hl 0 rfl) ?_
  refine k_pi (k_runV (rest := []) C aks Wd cs_X7_82 (kcX7_comingsOf l D h0 h1 h2 h3 h4 61 a1 _ ) [0, 1] rfl (by decide) [0] rfl 0 7 rfl rfl rfl rfl rfl ⟨(Nat.le_of_ble_eq_true rfl), (Nat.le_of_ble_eq_true rfl)⟩ hl.1 rfl rfl (Nat.le_of_ble_eq_true rfl) ⟨(Nat.le_of_ble_eq_true rfl), (Nat.le_of_ble_eq_true rfl)⟩ dX7_spills_27) (fun r w2539 => ?_)
  obtain rfl := w2539
  refine lv_istore (lv' := [(5, .int 0), (4, .int 61), (3, .int 0), (2, .int 0), (0, .ref h0), (1, .int x0)]) C.1 C.2.1 dX7_spills_30 hl (by decide) rfl (fun ls hl => ?_)
  refine lv_iload C.1 C.2.1 dX7_spills_32 (lv_at hl 0 rfl) ?_
  refine lv_iload_n C.1 C.2.1 dX7_spills_34 rfl (lv_at hl 2 rfl) ?_
  refine lv_icmp_ge (tgt := 62) C.1 C.2.1 dX7_spills_35 (by decide) (fun _ => ?_) (fun c2540 => absurd c2540 (by decide))
  refine lv_iinc (v := 62) (lv' := [(4, .int 62), (5, .int 0), (3, .int 0), (2, .int 0), (0, .ref h0), (1, .int x0)]) C.1 C.2.1 dX7_spills_62 hl (k := 1) rfl (by decide) (by decide) rfl (fun ls hl => ?_)
  refine lv_goto (tgt := 17) C.1 C.2.1 dX7_spills_65 (by decide) ?_
  refine lv_iload C.1 C.2.1 dX7_spills_17 (lv_at hl 0 rfl) ?_
  refine lv_bipush (v := 64) C.1 C.2.1 dX7_spills_19 (by decide) ?_
  refine lv_icmp_ge (tgt := 68) C.1 C.2.1 dX7_spills_21 (by decide) (fun c2541 => absurd c2541 (by decide)) (fun _ => ?_)
  refine lv_aload_n C.1 C.2.1 dX7_spills_24 rfl (lv_at hl 4 rfl) ?_
  refine lv_iload C.1 C.2.1 dX7_spills_25 (lv_at hl 0 rfl) ?_
  refine k_pi (k_runV (rest := []) C aks Wd cs_X7_82 (kcX7_comingsOf l D h0 h1 h2 h3 h4 62 a1 _ ) [0, 1] rfl (by decide) [0] rfl 0 7 rfl rfl rfl rfl rfl ⟨(Nat.le_of_ble_eq_true rfl), (Nat.le_of_ble_eq_true rfl)⟩ hl.1 rfl rfl (Nat.le_of_ble_eq_true rfl) ⟨(Nat.le_of_ble_eq_true rfl), (Nat.le_of_ble_eq_true rfl)⟩ dX7_spills_27) (fun r w2542 => ?_)
  obtain rfl := w2542
  refine lv_istore (lv' := [(5, .int 0), (4, .int 62), (3, .int 0), (2, .int 0), (0, .ref h0), (1, .int x0)]) C.1 C.2.1 dX7_spills_30 hl (by decide) rfl (fun ls hl => ?_)
  refine lv_iload C.1 C.2.1 dX7_spills_32 (lv_at hl 0 rfl) ?_
  refine lv_iload_n C.1 C.2.1 dX7_spills_34 rfl (lv_at hl 2 rfl) ?_
  refine lv_icmp_ge (tgt := 62) C.1 C.2.1 dX7_spills_35 (by decide) (fun _ => ?_) (fun c2543 => absurd c2543 (by decide))
  refine lv_iinc (v := 63) (lv' := [(4, .int 63), (5, .int 0), (3, .int 0), (2, .int 0), (0, .ref h0), (1, .int x0)]) C.1 C.2.1 dX7_spills_62 hl (k := 1) rfl (by decide) (by decide) rfl (fun ls hl => ?_)
  refine lv_goto (tgt := 17) C.1 C.2.1 dX7_spills_65 (by decide) ?_
  refine lv_iload C.1 C.2.1 dX7_spills_17 (lv_at hl 0 rfl) ?_
  refine lv_bipush (v := 64) C.1 C.2.1 dX7_spills_19 (by decide) ?_
  refine lv_icmp_ge (tgt := 68) C.1 C.2.1 dX7_spills_21 (by decide) (fun c2544 => absurd c2544 (by decide)) (fun _ => ?_)
  refine lv_aload_n C.1 C.2.1 dX7_spills_24 rfl (lv_at hl 4 rfl) ?_
  refine lv_iload C.1 C.2.1 dX7_spills_25 (lv_at hl 0 rfl) ?_
  refine k_pi (k_runV (rest := []) C aks Wd cs_X7_82 (kcX7_comingsOf l D h0 h1 h2 h3 h4 63 a1 _ ) [0, 1] rfl (by decide) [0] rfl 0 7 rfl rfl rfl rfl rfl ⟨(Nat.le_of_ble_eq_true rfl), (Nat.le_of_ble_eq_true rfl)⟩ hl.1 rfl rfl (Nat.le_of_ble_eq_true rfl) ⟨(Nat.le_of_ble_eq_true rfl), (Nat.le_of_ble_eq_true rfl)⟩ dX7_spills_27) (fun r w2545 => ?_)
  obtain rfl := w2545
  refine lv_istore (lv' := [(5, .int 0), (4, .int 63), (3, .int 0), (2, .int 0), (0, .ref h0), (1, .int x0)]) C.1 C.2.1 dX7_spills_30 hl (by decide) rfl (fun ls hl => ?_)
  refine lv_iload C.1 C.2.1 dX7_spills_32 (lv_at hl 0 rfl) ?_
  refine lv_iload_n C.1 C.2.1 dX7_spills_34 rfl (lv_at hl 2 rfl) ?_
  refine lv_icmp_ge (tgt := 62) C.1 C.2.1 dX7_spills_35 (by decide) (fun _ => ?_) (fun c2546 => absurd c2546 (by decide))
  refine lv_iinc (v := 64) (lv' := [(4, .int 64), (5, .int 0), (3, .int 0), (2, .int 0), (0, .ref h0), (1, .int x0)]) C.1 C.2.1 dX7_spills_62 hl (k := 1) rfl (by decide) (by decide) rfl (fun ls hl => ?_)
  refine lv_goto (tgt := 17) C.1 C.2.1 dX7_spills_65 (by decide) ?_
  refine lv_iload C.1 C.2.1 dX7_spills_17 (lv_at hl 0 rfl) ?_
  refine lv_bipush (v := 64) C.1 C.2.1 dX7_spills_19 (by decide) ?_
  refine lv_icmp_ge (tgt := 68) C.1 C.2.1 dX7_spills_21 (by decide) (fun _ => ?_) (fun c2547 => absurd c2547 (by decide))
  refine lv_iload_n C.1 C.2.1 dX7_spills_68 rfl (lv_at hl 3 rfl) ?_
  exact k_zretP C hr hlk rfl rfl dX7_spills_69
set_option maxHeartbeats 4000000 in
set_option maxRecDepth 100000 in
theorem kcX11_isVariable (l : Launch) (D : va_G) (x0 : Int32) (sz : Nat)  : Met l yX11_isVariable (Cond.code yX11_isVariable cX11_isVariable 1 (some .boolean) :: gG) { frames := 1, cells := 0, slots := 0, locals := 64 } (cPre D [] [] sz [.int x0]) (vp_Si (fun r => (x0 < (0 : Int32) ∧ r = 0) ∨ (¬ x0 < (0 : Int32) ∧ (6 : Int32) ≤ x0 ∧ r = 0) ∨ (¬ x0 < (0 : Int32) ∧ ¬ (6 : Int32) ≤ x0 ∧ r = 1))) 0 0 (fun _ => False) := by
  refine Met.ofW (cc := cX11_isVariable) (maxL := 1) (ret := (some .boolean)) (by decide) rfl ?_
  intro p e s m args below meth c s₁ B hml hv
  obtain ⟨rfl, aks, rfl, Wd⟩ := k_enter hv
  have C : CallFix p m c cX11_isVariable 1 s _ gG RX11 := ⟨B.exec, B.bytes, hml, findClass_of_methodNamed B.named, fun w h => atoms_spec (ws := Cond.code yX11_isVariable cX11_isVariable 1 (some .boolean) :: gG) B.pre w (List.mem_cons_of_mem _ h)⟩
  have hr := B.returns
  have hlk := B.notSynchronized
  obtain ⟨A, Wd⟩ : ∃ A, wX D [] s [] s.heap A s.heap [] := ⟨_, Wd⟩
  refine k_locals (Nat.le_of_ble_eq_true rfl) [(0, .int x0)] rfl (fun ls hl => ?_)
  refine lv_iload_n C.1 C.2.1 dX11_isVariable_0 rfl (lv_at hl 0 rfl) ?_
  refine lv_if_lt (tgt := 14) C.1 C.2.1 dX11_isVariable_1 (by decide) (fun c2552 => ?_) (fun c2552 => ?_)
  · refine lv_iconst (v := 0) C.1 C.2.1 dX11_isVariable_14 (by decide) ?_
    exact k_zretP C hr hlk rfl (Or.inl (⟨c2552, rfl⟩)) dX11_isVariable_15
  · refine lv_iload_n C.1 C.2.1 dX11_isVariable_4 rfl (lv_at hl 0 rfl) ?_
    refine lv_bipush (v := 6) C.1 C.2.1 dX11_isVariable_5 (by decide) ?_
    refine lv_icmp_ge (tgt := 14) C.1 C.2.1 dX11_isVariable_7 (by decide) (fun c2553 => ?_) (fun c2553 => ?_)
    · refine lv_iconst (v := 0) C.1 C.2.1 dX11_isVariable_14 (by decide) ?_
      exact k_zretP C hr hlk rfl (Or.inr (Or.inl (⟨c2552, c2553, rfl⟩))) dX11_isVariable_15
    · refine lv_iconst (v := 1) C.1 C.2.1 dX11_isVariable_10 (by decide) ?_
      refine lv_goto (tgt := 15) C.1 C.2.1 dX11_isVariable_11 (by decide) ?_
      exact k_zretP C hr hlk rfl (Or.inr (Or.inr (⟨c2552, c2553, rfl⟩))) dX11_isVariable_15
set_option maxHeartbeats 4000000 in
set_option maxRecDepth 100000 in
theorem kcX7_deal (l : Launch) (D : va_G) (h0 : Nat) (sz : Nat)  : Met l yX7_deal (Cond.code yX7_deal cX7_deal 5 (some .boolean) :: gG) { frames := 2, cells := 0, slots := 0, locals := 84 } (cPre D [] [] sz [.ref h0, .int 6, .int 0, .int 0]) (vp_Si (fun r => r = 1)) 0 0 (fun _ => False) := by
  refine Met.ofW (cc := cX7_deal) (maxL := 5) (ret := (some .boolean)) (by decide) rfl ?_
  intro p e s m args below meth c s₁ B hml hv
  obtain ⟨rfl, aks, rfl, Wd⟩ := k_enter hv
  have C : CallFix p m c cX7_deal 5 s _ gG RX7 := ⟨B.exec, B.bytes, hml, findClass_of_methodNamed B.named, fun w h => atoms_spec (ws := Cond.code yX7_deal cX7_deal 5 (some .boolean) :: gG) B.pre w (List.mem_cons_of_mem _ h)⟩
  have hr := B.returns
  have hlk := B.notSynchronized
  obtain ⟨A, Wd⟩ : ∃ A, wX D [] s [] s.heap A s.heap [] := ⟨_, Wd⟩
  refine k_locals (Nat.le_of_ble_eq_true rfl) [(0, .ref h0), (1, .int 6), (2, .int 0), (3, .int 0)] rfl (fun ls hl => ?_)
  refine lv_iload_n C.1 C.2.1 dX7_deal_0 rfl (lv_at hl 1 rfl) ?_
  refine k_pi (k_runN (rest := []) C aks Wd aks.2.2.2 cs_X7_71 (kcX11_isVariable l D 6 _ ) [] rfl (by decide) [] rfl rfl rfl ⟨(Nat.le_of_ble_eq_true rfl), (Nat.le_of_ble_eq_true rfl)⟩ hl.1 rfl rfl (Nat.le_of_ble_eq_true rfl) ⟨(Nat.le_of_ble_eq_true rfl), (Nat.le_of_ble_eq_true rfl)⟩ dX7_deal_1) (fun r w2609 => ?_)
  rcases w2609 with ⟨c2610, rfl⟩ | ⟨c2611, c2612, rfl⟩ | ⟨c2613, c2614, rfl⟩
  · exact absurd c2610 (by decide)
  · refine lv_if_ne (tgt := 9) C.1 C.2.1 dX7_deal_4 (by decide) (fun c2615 => absurd c2615 (by decide)) (fun _ => ?_)
    refine lv_iconst (v := 1) C.1 C.2.1 dX7_deal_7 (by decide) ?_
    exact k_zretP C hr hlk rfl rfl dX7_deal_8
  · exact absurd c2614 (by decide)
set_option maxHeartbeats 4000000 in
set_option maxRecDepth 100000 in
theorem kcX7_deal_v1 (l : Launch) (D : va_G) (h0 h1 h2 h3 h4 : Nat) (f0 : Nat → Int32) (a2 : ClassId) (sz : Nat)  : Met l yX7_deal (Cond.code yX7_deal cX7_deal 5 (some .boolean) :: gG) { frames := 3, cells := 0, slots := 0, locals := 108 } (cPre D [(a2, .int)] [(h0, .inr (7, [.ref h1, .ref h2, .ref h3, .ref h4, .int 0])), (h4, .inl (a2, 6, .inl f0))] sz [.ref h0, .int 5, .int 0, .int 0]) (va_Qi (fun (r : Int32) (_ : Unit) => r = 1) (fun u t => cB D (va_A [(h0, .inr (7, [.ref h1, .ref h2, .ref h3, .ref h4, .int 0])), (h4, .inl (a2, 6, .inl f0))] sz) ((fun (_ : Unit) => ([] : List (ClassId × FieldType))) u) ((fun (_ : Unit) => ([(h0, .inr (7, [.ref h1, .ref h2, .ref h3, .ref h4, .int 0])), (h4, .inl (a2, 6, .inl (upd f0 5 (-1))))] : va_W)) u) t) (va_A [(h0, .inr (7, [.ref h1, .ref h2, .ref h3, .ref h4, .int 0])), (h4, .inl (a2, 6, .inl f0))] sz)) 0 0 (va_A [(h0, .inr (7, [.ref h1, .ref h2, .ref h3, .ref h4, .int 0])), (h4, .inl (a2, 6, .inl f0))] sz) := by
  refine Met.ofW (cc := cX7_deal) (maxL := 5) (ret := (some .boolean)) (by decide) rfl ?_
  intro p e s m args below meth c s₁ B hml hv
  obtain ⟨rfl, aks, rfl, Wd⟩ := k_enter hv
  have C : CallFix p m c cX7_deal 5 s _ gG RX7 := ⟨B.exec, B.bytes, hml, findClass_of_methodNamed B.named, fun w h => atoms_spec (ws := Cond.code yX7_deal cX7_deal 5 (some .boolean) :: gG) B.pre w (List.mem_cons_of_mem _ h)⟩
  have hr := B.returns
  have hlk := B.notSynchronized
  generalize va_A [(h0, .inr (7, [.ref h1, .ref h2, .ref h3, .ref h4, .int 0])), (h4, .inl (a2, 6, .inl f0))] s.heap.size = A at Wd ⊢
  refine k_locals (Nat.le_of_ble_eq_true rfl) [(0, .ref h0), (1, .int 5), (2, .int 0), (3, .int 0)] rfl (fun ls hl => ?_)
  refine lv_iload_n C.1 C.2.1 dX7_deal_0 rfl (lv_at hl 1 rfl) ?_
  refine k_pi (k_runN (rest := []) C aks Wd aks.2.2.2 cs_X7_71 (kcX11_isVariable l D 5 _ ) [] rfl (by decide) [] rfl rfl rfl ⟨(Nat.le_of_ble_eq_true rfl), (Nat.le_of_ble_eq_true rfl)⟩ hl.1 rfl rfl (Nat.le_of_ble_eq_true rfl) ⟨(Nat.le_of_ble_eq_true rfl), (Nat.le_of_ble_eq_true rfl)⟩ dX7_deal_1) (fun r w2617 => ?_)
  rcases w2617 with ⟨c2618, rfl⟩ | ⟨c2619, c2620, rfl⟩ | ⟨c2621, c2622, rfl⟩
  · exact absurd c2618 (by decide)
  · exact absurd c2620 (by decide)
  · refine lv_if_ne (tgt := 9) C.1 C.2.1 dX7_deal_4 (by decide) (fun _ => ?_) (fun c2623 => absurd c2623 (by decide))
    refine lv_aload_n C.1 C.2.1 dX7_deal_9 rfl (lv_at hl 0 rfl) ?_
    refine k_get C Wd KX7 0 3 rfl (by decide) fl_X7_25 rfl dX7_deal_10 ?_
    refine lv_iload_n C.1 C.2.1 dX7_deal_13 rfl (lv_at hl 1 rfl) ?_
    refine lv_iconst (v := (-1)) C.1 C.2.1 dX7_deal_14 (by decide) ?_
    refine k_iast C Wd 1 0 [(h0, .inr (7, [.ref h1, .ref h2, .ref h3, .ref h4, .int 0])), (h4, .inl (a2, 6, .inl (upd f0 5 (-1))))] rfl rfl (vp_in_iff.mpr (by decide)) rfl rfl dX7_deal_15 (fun H locs Wd => ?_)
    refine lv_iload_n C.1 C.2.1 dX7_deal_16 rfl (lv_at hl 2 rfl) ?_
    refine lv_iload_n C.1 C.2.1 dX7_deal_17 rfl (lv_at hl 1 rfl) ?_
    refine k_ishr (v := 0) C (by decide) dX7_deal_18 ?_
    refine lv_iconst (v := 1) C.1 C.2.1 dX7_deal_19 (by decide) ?_
    refine k_iand (v := 0) C (by decide) dX7_deal_20 ?_
    refine lv_if_ne (tgt := 34) C.1 C.2.1 dX7_deal_21 (by decide) (fun c2624 => absurd c2624 (by decide)) (fun _ => ?_)
    refine lv_aload_n C.1 C.2.1 dX7_deal_24 rfl (lv_at hl 0 rfl) ?_
    refine lv_iload_n C.1 C.2.1 dX7_deal_25 rfl (lv_at hl 1 rfl) ?_
    refine lv_iconst (v := 1) C.1 C.2.1 dX7_deal_26 (by decide) ?_
    refine k_iadd (v := 6) C (by decide) dX7_deal_27 ?_
    refine lv_iload_n C.1 C.2.1 dX7_deal_28 rfl (lv_at hl 2 rfl) ?_
    refine lv_iload_n C.1 C.2.1 dX7_deal_29 rfl (lv_at hl 3 rfl) ?_
    refine k_pi (k_runV (rest := []) C aks Wd cs_X7_74 (kcX7_deal l D h0 _ ) [] rfl (by decide) [] rfl 0 7 rfl rfl rfl rfl rfl ⟨(Nat.le_of_ble_eq_true rfl), (Nat.le_of_ble_eq_true rfl)⟩ hl.1 rfl rfl (Nat.le_of_ble_eq_true rfl) ⟨(Nat.le_of_ble_eq_true rfl), (Nat.le_of_ble_eq_true rfl)⟩ dX7_deal_30) (fun r w2625 => ?_)
    obtain rfl := w2625
    exact k_zret C hr hlk rfl Wd () rfl [0, 1] rfl (by decide) [] rfl (by decide) (by decide) dX7_deal_33
set_option maxHeartbeats 4000000 in
set_option maxRecDepth 100000 in
theorem kcX7_deal_v2 (l : Launch) (D : va_G) (h0 h1 h2 h3 h4 : Nat) (f0 : Nat → Int32) (a2 : ClassId) (sz : Nat)  : Met l yX7_deal (Cond.code yX7_deal cX7_deal 5 (some .boolean) :: gG) { frames := 4, cells := 0, slots := 0, locals := 132 } (cPre D [(a2, .int)] [(h0, .inr (7, [.ref h1, .ref h2, .ref h3, .ref h4, .int 0])), (h4, .inl (a2, 6, .inl f0))] sz [.ref h0, .int 4, .int 0, .int 0]) (va_Qi (fun (r : Int32) (_ : Unit) => r = 1) (fun u t => cB D (va_A [(h0, .inr (7, [.ref h1, .ref h2, .ref h3, .ref h4, .int 0])), (h4, .inl (a2, 6, .inl f0))] sz) ((fun (_ : Unit) => ([] : List (ClassId × FieldType))) u) ((fun (_ : Unit) => ([(h0, .inr (7, [.ref h1, .ref h2, .ref h3, .ref h4, .int 0])), (h4, .inl (a2, 6, .inl (upd (upd f0 4 (-1)) 5 (-1))))] : va_W)) u) t) (va_A [(h0, .inr (7, [.ref h1, .ref h2, .ref h3, .ref h4, .int 0])), (h4, .inl (a2, 6, .inl f0))] sz)) 0 0 (va_A [(h0, .inr (7, [.ref h1, .ref h2, .ref h3, .ref h4, .int 0])), (h4, .inl (a2, 6, .inl f0))] sz) := by
  refine Met.ofW (cc := cX7_deal) (maxL := 5) (ret := (some .boolean)) (by decide) rfl ?_
  intro p e s m args below meth c s₁ B hml hv
  obtain ⟨rfl, aks, rfl, Wd⟩ := k_enter hv
  have C : CallFix p m c cX7_deal 5 s _ gG RX7 := ⟨B.exec, B.bytes, hml, findClass_of_methodNamed B.named, fun w h => atoms_spec (ws := Cond.code yX7_deal cX7_deal 5 (some .boolean) :: gG) B.pre w (List.mem_cons_of_mem _ h)⟩
  have hr := B.returns
  have hlk := B.notSynchronized
  generalize va_A [(h0, .inr (7, [.ref h1, .ref h2, .ref h3, .ref h4, .int 0])), (h4, .inl (a2, 6, .inl f0))] s.heap.size = A at Wd ⊢
  refine k_locals (Nat.le_of_ble_eq_true rfl) [(0, .ref h0), (1, .int 4), (2, .int 0), (3, .int 0)] rfl (fun ls hl => ?_)
  refine lv_iload_n C.1 C.2.1 dX7_deal_0 rfl (lv_at hl 1 rfl) ?_
  refine k_pi (k_runN (rest := []) C aks Wd aks.2.2.2 cs_X7_71 (kcX11_isVariable l D 4 _ ) [] rfl (by decide) [] rfl rfl rfl ⟨(Nat.le_of_ble_eq_true rfl), (Nat.le_of_ble_eq_true rfl)⟩ hl.1 rfl rfl (Nat.le_of_ble_eq_true rfl) ⟨(Nat.le_of_ble_eq_true rfl), (Nat.le_of_ble_eq_true rfl)⟩ dX7_deal_1) (fun r w2627 => ?_)
  rcases w2627 with ⟨c2628, rfl⟩ | ⟨c2629, c2630, rfl⟩ | ⟨c2631, c2632, rfl⟩
  · exact absurd c2628 (by decide)
  · exact absurd c2630 (by decide)
  · refine lv_if_ne (tgt := 9) C.1 C.2.1 dX7_deal_4 (by decide) (fun _ => ?_) (fun c2633 => absurd c2633 (by decide))
    refine lv_aload_n C.1 C.2.1 dX7_deal_9 rfl (lv_at hl 0 rfl) ?_
    refine k_get C Wd KX7 0 3 rfl (by decide) fl_X7_25 rfl dX7_deal_10 ?_
    refine lv_iload_n C.1 C.2.1 dX7_deal_13 rfl (lv_at hl 1 rfl) ?_
    refine lv_iconst (v := (-1)) C.1 C.2.1 dX7_deal_14 (by decide) ?_
    refine k_iast C Wd 1 0 [(h0, .inr (7, [.ref h1, .ref h2, .ref h3, .ref h4, .int 0])), (h4, .inl (a2, 6, .inl (upd f0 4 (-1))))] rfl rfl (vp_in_iff.mpr (by decide)) rfl rfl dX7_deal_15 (fun H locs Wd => ?_)
    refine lv_iload_n C.1 C.2.1 dX7_deal_16 rfl (lv_at hl 2 rfl) ?_
    refine lv_iload_n C.1 C.2.1 dX7_deal_17 rfl (lv_at hl 1 rfl) ?_
    refine k_ishr (v := 0) C (by decide) dX7_deal_18 ?_
    refine lv_iconst (v := 1) C.1 C.2.1 dX7_deal_19 (by decide) ?_
    refine k_iand (v := 0) C (by decide) dX7_deal_20 ?_
    refine lv_if_ne (tgt := 34) C.1 C.2.1 dX7_deal_21 (by decide) (fun c2634 => absurd c2634 (by decide)) (fun _ => ?_)
    refine lv_aload_n C.1 C.2.1 dX7_deal_24 rfl (lv_at hl 0 rfl) ?_
    refine lv_iload_n C.1 C.2.1 dX7_deal_25 rfl (lv_at hl 1 rfl) ?_
    refine lv_iconst (v := 1) C.1 C.2.1 dX7_deal_26 (by decide) ?_
    refine k_iadd (v := 5) C (by decide) dX7_deal_27 ?_
    refine lv_iload_n C.1 C.2.1 dX7_deal_28 rfl (lv_at hl 2 rfl) ?_
    refine lv_iload_n C.1 C.2.1 dX7_deal_29 rfl (lv_at hl 3 rfl) ?_
    refine k_ci Wd [0, 1] [] rfl (wr := []) rfl (by decide) (by decide) (cells' := 0) (slots' := 0) (by decide) (by decide) (k_runV (rest := []) C aks Wd cs_X7_74 (kcX7_deal_v1 l D h0 h1 h2 h3 h4 (upd f0 4 (-1)) a2 _ ) [0, 1] rfl (by decide) [0] rfl 0 7 rfl rfl rfl rfl rfl ⟨(Nat.le_of_ble_eq_true rfl), (Nat.le_of_ble_eq_true rfl)⟩ hl.1 rfl rfl (Nat.le_of_ble_eq_true rfl) ⟨(Nat.le_of_ble_eq_true rfl), (Nat.le_of_ble_eq_true rfl)⟩ dX7_deal_30) (fun r _ H locs w2635 Wd => ?_)
    have Wd : wX D [(a2, .int)] s [(h0, .inr (7, [.ref h1, .ref h2, .ref h3, .ref h4, .int 0])), (h4, .inl (a2, 6, .inl (upd (upd f0 4 (-1)) 5 (-1))))] _ A s.heap _ := Wd
    obtain rfl := w2635
    exact k_zret C hr hlk rfl Wd () rfl [0, 1] rfl (by decide) [] rfl (by decide) (by decide) dX7_deal_33
set_option maxHeartbeats 4000000 in
set_option maxRecDepth 100000 in
theorem kcX7_deal_v3 (l : Launch) (D : va_G) (h0 h1 h2 h3 h4 : Nat) (f0 : Nat → Int32) (a2 : ClassId) (sz : Nat)  : Met l yX7_deal (Cond.code yX7_deal cX7_deal 5 (some .boolean) :: gG) { frames := 5, cells := 0, slots := 0, locals := 156 } (cPre D [(a2, .int)] [(h0, .inr (7, [.ref h1, .ref h2, .ref h3, .ref h4, .int 0])), (h4, .inl (a2, 6, .inl f0))] sz [.ref h0, .int 3, .int 0, .int 0]) (va_Qi (fun (r : Int32) (_ : Unit) => r = 1) (fun u t => cB D (va_A [(h0, .inr (7, [.ref h1, .ref h2, .ref h3, .ref h4, .int 0])), (h4, .inl (a2, 6, .inl f0))] sz) ((fun (_ : Unit) => ([] : List (ClassId × FieldType))) u) ((fun (_ : Unit) => ([(h0, .inr (7, [.ref h1, .ref h2, .ref h3, .ref h4, .int 0])), (h4, .inl (a2, 6, .inl (upd (upd (upd f0 3 (-1)) 4 (-1)) 5 (-1))))] : va_W)) u) t) (va_A [(h0, .inr (7, [.ref h1, .ref h2, .ref h3, .ref h4, .int 0])), (h4, .inl (a2, 6, .inl f0))] sz)) 0 0 (va_A [(h0, .inr (7, [.ref h1, .ref h2, .ref h3, .ref h4, .int 0])), (h4, .inl (a2, 6, .inl f0))] sz) := by
  refine Met.ofW (cc := cX7_deal) (maxL := 5) (ret := (some .boolean)) (by decide) rfl ?_
  intro p e s m args below meth c s₁ B hml hv
  obtain ⟨rfl, aks, rfl, Wd⟩ := k_enter hv
  have C : CallFix p m c cX7_deal 5 s _ gG RX7 := ⟨B.exec, B.bytes, hml, findClass_of_methodNamed B.named, fun w h => atoms_spec (ws := Cond.code yX7_deal cX7_deal 5 (some .boolean) :: gG) B.pre w (List.mem_cons_of_mem _ h)⟩
  have hr := B.returns
  have hlk := B.notSynchronized
  generalize va_A [(h0, .inr (7, [.ref h1, .ref h2, .ref h3, .ref h4, .int 0])), (h4, .inl (a2, 6, .inl f0))] s.heap.size = A at Wd ⊢
  refine k_locals (Nat.le_of_ble_eq_true rfl) [(0, .ref h0), (1, .int 3), (2, .int 0), (3, .int 0)] rfl (fun ls hl => ?_)
  refine lv_iload_n C.1 C.2.1 dX7_deal_0 rfl (lv_at hl 1 rfl) ?_
  refine k_pi (k_runN (rest := []) C aks Wd aks.2.2.2 cs_X7_71 (kcX11_isVariable l D 3 _ ) [] rfl (by decide) [] rfl rfl rfl ⟨(Nat.le_of_ble_eq_true rfl), (Nat.le_of_ble_eq_true rfl)⟩ hl.1 rfl rfl (Nat.le_of_ble_eq_true rfl) ⟨(Nat.le_of_ble_eq_true rfl), (Nat.le_of_ble_eq_true rfl)⟩ dX7_deal_1) (fun r w2637 => ?_)
  rcases w2637 with ⟨c2638, rfl⟩ | ⟨c2639, c2640, rfl⟩ | ⟨c2641, c2642, rfl⟩
  · exact absurd c2638 (by decide)
  · exact absurd c2640 (by decide)
  · refine lv_if_ne (tgt := 9) C.1 C.2.1 dX7_deal_4 (by decide) (fun _ => ?_) (fun c2643 => absurd c2643 (by decide))
    refine lv_aload_n C.1 C.2.1 dX7_deal_9 rfl (lv_at hl 0 rfl) ?_
    refine k_get C Wd KX7 0 3 rfl (by decide) fl_X7_25 rfl dX7_deal_10 ?_
    refine lv_iload_n C.1 C.2.1 dX7_deal_13 rfl (lv_at hl 1 rfl) ?_
    refine lv_iconst (v := (-1)) C.1 C.2.1 dX7_deal_14 (by decide) ?_
    refine k_iast C Wd 1 0 [(h0, .inr (7, [.ref h1, .ref h2, .ref h3, .ref h4, .int 0])), (h4, .inl (a2, 6, .inl (upd f0 3 (-1))))] rfl rfl (vp_in_iff.mpr (by decide)) rfl rfl dX7_deal_15 (fun H locs Wd => ?_)
    refine lv_iload_n C.1 C.2.1 dX7_deal_16 rfl (lv_at hl 2 rfl) ?_
    refine lv_iload_n C.1 C.2.1 dX7_deal_17 rfl (lv_at hl 1 rfl) ?_
    refine k_ishr (v := 0) C (by decide) dX7_deal_18 ?_
    refine lv_iconst (v := 1) C.1 C.2.1 dX7_deal_19 (by decide) ?_
    refine k_iand (v := 0) C (by decide) dX7_deal_20 ?_
    refine lv_if_ne (tgt := 34) C.1 C.2.1 dX7_deal_21 (by decide) (fun c2644 => absurd c2644 (by decide)) (fun _ => ?_)
    refine lv_aload_n C.1 C.2.1 dX7_deal_24 rfl (lv_at hl 0 rfl) ?_
    refine lv_iload_n C.1 C.2.1 dX7_deal_25 rfl (lv_at hl 1 rfl) ?_
    refine lv_iconst (v := 1) C.1 C.2.1 dX7_deal_26 (by decide) ?_
    refine k_iadd (v := 4) C (by decide) dX7_deal_27 ?_
    refine lv_iload_n C.1 C.2.1 dX7_deal_28 rfl (lv_at hl 2 rfl) ?_
    refine lv_iload_n C.1 C.2.1 dX7_deal_29 rfl (lv_at hl 3 rfl) ?_
    refine k_ci Wd [0, 1] [] rfl (wr := []) rfl (by decide) (by decide) (cells' := 0) (slots' := 0) (by decide) (by decide) (k_runV (rest := []) C aks Wd cs_X7_74 (kcX7_deal_v2 l D h0 h1 h2 h3 h4 (upd f0 3 (-1)) a2 _ ) [0, 1] rfl (by decide) [0] rfl 0 7 rfl rfl rfl rfl rfl ⟨(Nat.le_of_ble_eq_true rfl), (Nat.le_of_ble_eq_true rfl)⟩ hl.1 rfl rfl (Nat.le_of_ble_eq_true rfl) ⟨(Nat.le_of_ble_eq_true rfl), (Nat.le_of_ble_eq_true rfl)⟩ dX7_deal_30) (fun r _ H locs w2645 Wd => ?_)
    have Wd : wX D [(a2, .int)] s [(h0, .inr (7, [.ref h1, .ref h2, .ref h3, .ref h4, .int 0])), (h4, .inl (a2, 6, .inl (upd (upd (upd f0 3 (-1)) 4 (-1)) 5 (-1))))] _ A s.heap _ := Wd
    obtain rfl := w2645
    exact k_zret C hr hlk rfl Wd () rfl [0, 1] rfl (by decide) [] rfl (by decide) (by decide) dX7_deal_33
set_option maxHeartbeats 4000000 in
set_option maxRecDepth 100000 in
theorem kcX7_deal_v4 (l : Launch) (D : va_G) (h0 h1 h2 h3 h4 : Nat) (f0 : Nat → Int32) (a2 : ClassId) (sz : Nat)  : Met l yX7_deal (Cond.code yX7_deal cX7_deal 5 (some .boolean) :: gG) { frames := 6, cells := 0, slots := 0, locals := 180 } (cPre D [(a2, .int)] [(h0, .inr (7, [.ref h1, .ref h2, .ref h3, .ref h4, .int 0])), (h4, .inl (a2, 6, .inl f0))] sz [.ref h0, .int 2, .int 0, .int 0]) (va_Qi (fun (r : Int32) (_ : Unit) => r = 1) (fun u t => cB D (va_A [(h0, .inr (7, [.ref h1, .ref h2, .ref h3, .ref h4, .int 0])), (h4, .inl (a2, 6, .inl f0))] sz) ((fun (_ : Unit) => ([] : List (ClassId × FieldType))) u) ((fun (_ : Unit) => ([(h0, .inr (7, [.ref h1, .ref h2, .ref h3, .ref h4, .int 0])), (h4, .inl (a2, 6, .inl (upd (upd (upd (upd f0 2 (-1)) 3 (-1)) 4 (-1)) 5 (-1))))] : va_W)) u) t) (va_A [(h0, .inr (7, [.ref h1, .ref h2, .ref h3, .ref h4, .int 0])), (h4, .inl (a2, 6, .inl f0))] sz)) 0 0 (va_A [(h0, .inr (7, [.ref h1, .ref h2, .ref h3, .ref h4, .int 0])), (h4, .inl (a2, 6, .inl f0))] sz) := by
  refine Met.ofW (cc := cX7_deal) (maxL := 5) (ret := (some .boolean)) (by decide) rfl ?_
  intro p e s m args below meth c s₁ B hml hv
  obtain ⟨rfl, aks, rfl, Wd⟩ := k_enter hv
  have C : CallFix p m c cX7_deal 5 s _ gG RX7 := ⟨B.exec, B.bytes, hml, findClass_of_methodNamed B.named, fun w h => atoms_spec (ws := Cond.code yX7_deal cX7_deal 5 (some .boolean) :: gG) B.pre w (List.mem_cons_of_mem _ h)⟩
  have hr := B.returns
  have hlk := B.notSynchronized
  generalize va_A [(h0, .inr (7, [.ref h1, .ref h2, .ref h3, .ref h4, .int 0])), (h4, .inl (a2, 6, .inl f0))] s.heap.size = A at Wd ⊢
  refine k_locals (Nat.le_of_ble_eq_true rfl) [(0, .ref h0), (1, .int 2), (2, .int 0), (3, .int 0)] rfl (fun ls hl => ?_)
  refine lv_iload_n C.1 C.2.1 dX7_deal_0 rfl (lv_at hl 1 rfl) ?_
  refine k_pi (k_runN (rest := []) C aks Wd aks.2.2.2 cs_X7_71 (kcX11_isVariable l D 2 _ ) [] rfl (by decide) [] rfl rfl rfl ⟨(Nat.le_of_ble_eq_true rfl), (Nat.le_of_ble_eq_true rfl)⟩ hl.1 rfl rfl (Nat.le_of_ble_eq_true rfl) ⟨(Nat.le_of_ble_eq_true rfl), (Nat.le_of_ble_eq_true rfl)⟩ dX7_deal_1) (fun r w2647 => ?_)
  rcases w2647 with ⟨c2648, rfl⟩ | ⟨c2649, c2650, rfl⟩ | ⟨c2651, c2652, rfl⟩
  · exact absurd c2648 (by decide)
  · exact absurd c2650 (by decide)
  · refine lv_if_ne (tgt := 9) C.1 C.2.1 dX7_deal_4 (by decide) (fun _ => ?_) (fun c2653 => absurd c2653 (by decide))
    refine lv_aload_n C.1 C.2.1 dX7_deal_9 rfl (lv_at hl 0 rfl) ?_
    refine k_get C Wd KX7 0 3 rfl (by decide) fl_X7_25 rfl dX7_deal_10 ?_
    refine lv_iload_n C.1 C.2.1 dX7_deal_13 rfl (lv_at hl 1 rfl) ?_
    refine lv_iconst (v := (-1)) C.1 C.2.1 dX7_deal_14 (by decide) ?_
    refine k_iast C Wd 1 0 [(h0, .inr (7, [.ref h1, .ref h2, .ref h3, .ref h4, .int 0])), (h4, .inl (a2, 6, .inl (upd f0 2 (-1))))] rfl rfl (vp_in_iff.mpr (by decide)) rfl rfl dX7_deal_15 (fun H locs Wd => ?_)
    refine lv_iload_n C.1 C.2.1 dX7_deal_16 rfl (lv_at hl 2 rfl) ?_
    refine lv_iload_n C.1 C.2.1 dX7_deal_17 rfl (lv_at hl 1 rfl) ?_
    refine k_ishr (v := 0) C (by decide) dX7_deal_18 ?_
    refine lv_iconst (v := 1) C.1 C.2.1 dX7_deal_19 (by decide) ?_
    refine k_iand (v := 0) C (by decide) dX7_deal_20 ?_
    refine lv_if_ne (tgt := 34) C.1 C.2.1 dX7_deal_21 (by decide) (fun c2654 => absurd c2654 (by decide)) (fun _ => ?_)
    refine lv_aload_n C.1 C.2.1 dX7_deal_24 rfl (lv_at hl 0 rfl) ?_
    refine lv_iload_n C.1 C.2.1 dX7_deal_25 rfl (lv_at hl 1 rfl) ?_
    refine lv_iconst (v := 1) C.1 C.2.1 dX7_deal_26 (by decide) ?_
    refine k_iadd (v := 3) C (by decide) dX7_deal_27 ?_
    refine lv_iload_n C.1 C.2.1 dX7_deal_28 rfl (lv_at hl 2 rfl) ?_
    refine lv_iload_n C.1 C.2.1 dX7_deal_29 rfl (lv_at hl 3 rfl) ?_
    refine k_ci Wd [0, 1] [] rfl (wr := []) rfl (by decide) (by decide) (cells' := 0) (slots' := 0) (by decide) (by decide) (k_runV (rest := []) C aks Wd cs_X7_74 (kcX7_deal_v3 l D h0 h1 h2 h3 h4 (upd f0 2 (-1)) a2 _ ) [0, 1] rfl (by decide) [0] rfl 0 7 rfl rfl rfl rfl rfl ⟨(Nat.le_of_ble_eq_true rfl), (Nat.le_of_ble_eq_true rfl)⟩ hl.1 rfl rfl (Nat.le_of_ble_eq_true rfl) ⟨(Nat.le_of_ble_eq_true rfl), (Nat.le_of_ble_eq_true rfl)⟩ dX7_deal_30) (fun r _ H locs w2655 Wd => ?_)
    have Wd : wX D [(a2, .int)] s [(h0, .inr (7, [.ref h1, .ref h2, .ref h3, .ref h4, .int 0])), (h4, .inl (a2, 6, .inl (upd (upd (upd (upd f0 2 (-1)) 3 (-1)) 4 (-1)) 5 (-1))))] _ A s.heap _ := Wd
    obtain rfl := w2655
    exact k_zret C hr hlk rfl Wd () rfl [0, 1] rfl (by decide) [] rfl (by decide) (by decide) dX7_deal_33
set_option maxHeartbeats 4000000 in
set_option maxRecDepth 100000 in
theorem kcX7_deal_v5 (l : Launch) (D : va_G) (h0 h1 h2 h3 h4 : Nat) (f0 : Nat → Int32) (a2 : ClassId) (sz : Nat)  : Met l yX7_deal (Cond.code yX7_deal cX7_deal 5 (some .boolean) :: gG) { frames := 7, cells := 0, slots := 0, locals := 204 } (cPre D [(a2, .int)] [(h0, .inr (7, [.ref h1, .ref h2, .ref h3, .ref h4, .int 0])), (h4, .inl (a2, 6, .inl f0))] sz [.ref h0, .int 1, .int 0, .int 0]) (va_Qi (fun (r : Int32) (_ : Unit) => r = 1) (fun u t => cB D (va_A [(h0, .inr (7, [.ref h1, .ref h2, .ref h3, .ref h4, .int 0])), (h4, .inl (a2, 6, .inl f0))] sz) ((fun (_ : Unit) => ([] : List (ClassId × FieldType))) u) ((fun (_ : Unit) => ([(h0, .inr (7, [.ref h1, .ref h2, .ref h3, .ref h4, .int 0])), (h4, .inl (a2, 6, .inl (upd (upd (upd (upd (upd f0 1 (-1)) 2 (-1)) 3 (-1)) 4 (-1)) 5 (-1))))] : va_W)) u) t) (va_A [(h0, .inr (7, [.ref h1, .ref h2, .ref h3, .ref h4, .int 0])), (h4, .inl (a2, 6, .inl f0))] sz)) 0 0 (va_A [(h0, .inr (7, [.ref h1, .ref h2, .ref h3, .ref h4, .int 0])), (h4, .inl (a2, 6, .inl f0))] sz) := by
  refine Met.ofW (cc := cX7_deal) (maxL := 5) (ret := (some .boolean)) (by decide) rfl ?_
  intro p e s m args below meth c s₁ B hml hv
  obtain ⟨rfl, aks, rfl, Wd⟩ := k_enter hv
  have C : CallFix p m c cX7_deal 5 s _ gG RX7 := ⟨B.exec, B.bytes, hml, findClass_of_methodNamed B.named, fun w h => atoms_spec (ws := Cond.code yX7_deal cX7_deal 5 (some .boolean) :: gG) B.pre w (List.mem_cons_of_mem _ h)⟩
  have hr := B.returns
  have hlk := B.notSynchronized
  generalize va_A [(h0, .inr (7, [.ref h1, .ref h2, .ref h3, .ref h4, .int 0])), (h4, .inl (a2, 6, .inl f0))] s.heap.size = A at Wd ⊢
  refine k_locals (Nat.le_of_ble_eq_true rfl) [(0, .ref h0), (1, .int 1), (2, .int 0), (3, .int 0)] rfl (fun ls hl => ?_)
  refine lv_iload_n C.1 C.2.1 dX7_deal_0 rfl (lv_at hl 1 rfl) ?_
  refine k_pi (k_runN (rest := []) C aks Wd aks.2.2.2 cs_X7_71 (kcX11_isVariable l D 1 _ ) [] rfl (by decide) [] rfl rfl rfl ⟨(Nat.le_of_ble_eq_true rfl), (Nat.le_of_ble_eq_true rfl)⟩ hl.1 rfl rfl (Nat.le_of_ble_eq_true rfl) ⟨(Nat.le_of_ble_eq_true rfl), (Nat.le_of_ble_eq_true rfl)⟩ dX7_deal_1) (fun r w2657 => ?_)
  rcases w2657 with ⟨c2658, rfl⟩ | ⟨c2659, c2660, rfl⟩ | ⟨c2661, c2662, rfl⟩
  · exact absurd c2658 (by decide)
  · exact absurd c2660 (by decide)
  · refine lv_if_ne (tgt := 9) C.1 C.2.1 dX7_deal_4 (by decide) (fun _ => ?_) (fun c2663 => absurd c2663 (by decide))
    refine lv_aload_n C.1 C.2.1 dX7_deal_9 rfl (lv_at hl 0 rfl) ?_
    refine k_get C Wd KX7 0 3 rfl (by decide) fl_X7_25 rfl dX7_deal_10 ?_
    refine lv_iload_n C.1 C.2.1 dX7_deal_13 rfl (lv_at hl 1 rfl) ?_
    refine lv_iconst (v := (-1)) C.1 C.2.1 dX7_deal_14 (by decide) ?_
    refine k_iast C Wd 1 0 [(h0, .inr (7, [.ref h1, .ref h2, .ref h3, .ref h4, .int 0])), (h4, .inl (a2, 6, .inl (upd f0 1 (-1))))] rfl rfl (vp_in_iff.mpr (by decide)) rfl rfl dX7_deal_15 (fun H locs Wd => ?_)
    refine lv_iload_n C.1 C.2.1 dX7_deal_16 rfl (lv_at hl 2 rfl) ?_
    refine lv_iload_n C.1 C.2.1 dX7_deal_17 rfl (lv_at hl 1 rfl) ?_
    refine k_ishr (v := 0) C (by decide) dX7_deal_18 ?_
    refine lv_iconst (v := 1) C.1 C.2.1 dX7_deal_19 (by decide) ?_
    refine k_iand (v := 0) C (by decide) dX7_deal_20 ?_
    refine lv_if_ne (tgt := 34) C.1 C.2.1 dX7_deal_21 (by decide) (fun c2664 => absurd c2664 (by decide)) (fun _ => ?_)
    refine lv_aload_n C.1 C.2.1 dX7_deal_24 rfl (lv_at hl 0 rfl) ?_
    refine lv_iload_n C.1 C.2.1 dX7_deal_25 rfl (lv_at hl 1 rfl) ?_
    refine lv_iconst (v := 1) C.1 C.2.1 dX7_deal_26 (by decide) ?_
    refine k_iadd (v := 2) C (by decide) dX7_deal_27 ?_
    refine lv_iload_n C.1 C.2.1 dX7_deal_28 rfl (lv_at hl 2 rfl) ?_
    refine lv_iload_n C.1 C.2.1 dX7_deal_29 rfl (lv_at hl 3 rfl) ?_
    refine k_ci Wd [0, 1] [] rfl (wr := []) rfl (by decide) (by decide) (cells' := 0) (slots' := 0) (by decide) (by decide) (k_runV (rest := []) C aks Wd cs_X7_74 (kcX7_deal_v4 l D h0 h1 h2 h3 h4 (upd f0 1 (-1)) a2 _ ) [0, 1] rfl (by decide) [0] rfl 0 7 rfl rfl rfl rfl rfl ⟨(Nat.le_of_ble_eq_true rfl), (Nat.le_of_ble_eq_true rfl)⟩ hl.1 rfl rfl (Nat.le_of_ble_eq_true rfl) ⟨(Nat.le_of_ble_eq_true rfl), (Nat.le_of_ble_eq_true rfl)⟩ dX7_deal_30) (fun r _ H locs w2665 Wd => ?_)
    have Wd : wX D [(a2, .int)] s [(h0, .inr (7, [.ref h1, .ref h2, .ref h3, .ref h4, .int 0])), (h4, .inl (a2, 6, .inl (upd (upd (upd (upd (upd f0 1 (-1)) 2 (-1)) 3 (-1)) 4 (-1)) 5 (-1))))] _ A s.heap _ := Wd
    obtain rfl := w2665
    exact k_zret C hr hlk rfl Wd () rfl [0, 1] rfl (by decide) [] rfl (by decide) (by decide) dX7_deal_33
set_option maxHeartbeats 4000000 in
set_option maxRecDepth 100000 in
theorem kcX7_deal_v6 (l : Launch) (D : va_G) (h0 h1 h2 h3 h4 : Nat) (a2 : ClassId) (sz : Nat)  : Met l yX7_deal (Cond.code yX7_deal cX7_deal 5 (some .boolean) :: gG) { frames := 8, cells := 0, slots := 0, locals := 228 } (cPre D [(a2, .int)] [(h0, .inr (7, [.ref h1, .ref h2, .ref h3, .ref h4, .int 0])), (h4, .inl (a2, 6, .inl (fun _ => 0)))] sz [.ref h0, .int 0, .int 0, .int 0]) (va_Qi (fun (r : Int32) (_ : Unit) => r = 1) (fun u t => cB D (va_A [(h0, .inr (7, [.ref h1, .ref h2, .ref h3, .ref h4, .int 0])), (h4, .inl (a2, 6, .inl (fun _ => 0)))] sz) ((fun (_ : Unit) => ([] : List (ClassId × FieldType))) u) ((fun (_ : Unit) => ([(h0, .inr (7, [.ref h1, .ref h2, .ref h3, .ref h4, .int 0])), (h4, .inl (a2, 6, .inl (upd (upd (upd (upd (upd (upd (fun _ => 0) 0 (-1)) 1 (-1)) 2 (-1)) 3 (-1)) 4 (-1)) 5 (-1))))] : va_W)) u) t) (va_A [(h0, .inr (7, [.ref h1, .ref h2, .ref h3, .ref h4, .int 0])), (h4, .inl (a2, 6, .inl (fun _ => 0)))] sz)) 0 0 (va_A [(h0, .inr (7, [.ref h1, .ref h2, .ref h3, .ref h4, .int 0])), (h4, .inl (a2, 6, .inl (fun _ => 0)))] sz) := by
  refine Met.ofW (cc := cX7_deal) (maxL := 5) (ret := (some .boolean)) (by decide) rfl ?_
  intro p e s m args below meth c s₁ B hml hv
  obtain ⟨rfl, aks, rfl, Wd⟩ := k_enter hv
  have C : CallFix p m c cX7_deal 5 s _ gG RX7 := ⟨B.exec, B.bytes, hml, findClass_of_methodNamed B.named, fun w h => atoms_spec (ws := Cond.code yX7_deal cX7_deal 5 (some .boolean) :: gG) B.pre w (List.mem_cons_of_mem _ h)⟩
  have hr := B.returns
  have hlk := B.notSynchronized
  generalize va_A [(h0, .inr (7, [.ref h1, .ref h2, .ref h3, .ref h4, .int 0])), (h4, .inl (a2, 6, .inl (fun _ => 0)))] s.heap.size = A at Wd ⊢
  refine k_locals (Nat.le_of_ble_eq_true rfl) [(0, .ref h0), (1, .int 0), (2, .int 0), (3, .int 0)] rfl (fun ls hl => ?_)
  refine lv_iload_n C.1 C.2.1 dX7_deal_0 rfl (lv_at hl 1 rfl) ?_
  refine k_pi (k_runN (rest := []) C aks Wd aks.2.2.2 cs_X7_71 (kcX11_isVariable l D 0 _ ) [] rfl (by decide) [] rfl rfl rfl ⟨(Nat.le_of_ble_eq_true rfl), (Nat.le_of_ble_eq_true rfl)⟩ hl.1 rfl rfl (Nat.le_of_ble_eq_true rfl) ⟨(Nat.le_of_ble_eq_true rfl), (Nat.le_of_ble_eq_true rfl)⟩ dX7_deal_1) (fun r w2667 => ?_)
  rcases w2667 with ⟨c2668, rfl⟩ | ⟨c2669, c2670, rfl⟩ | ⟨c2671, c2672, rfl⟩
  · exact absurd c2668 (by decide)
  · exact absurd c2670 (by decide)
  · refine lv_if_ne (tgt := 9) C.1 C.2.1 dX7_deal_4 (by decide) (fun _ => ?_) (fun c2673 => absurd c2673 (by decide))
    refine lv_aload_n C.1 C.2.1 dX7_deal_9 rfl (lv_at hl 0 rfl) ?_
    refine k_get C Wd KX7 0 3 rfl (by decide) fl_X7_25 rfl dX7_deal_10 ?_
    refine lv_iload_n C.1 C.2.1 dX7_deal_13 rfl (lv_at hl 1 rfl) ?_
    refine lv_iconst (v := (-1)) C.1 C.2.1 dX7_deal_14 (by decide) ?_
    refine k_iast C Wd 1 0 [(h0, .inr (7, [.ref h1, .ref h2, .ref h3, .ref h4, .int 0])), (h4, .inl (a2, 6, .inl (upd (fun _ => 0) 0 (-1))))] rfl rfl (vp_in_iff.mpr (by decide)) rfl rfl dX7_deal_15 (fun H locs Wd => ?_)
    refine lv_iload_n C.1 C.2.1 dX7_deal_16 rfl (lv_at hl 2 rfl) ?_
    refine lv_iload_n C.1 C.2.1 dX7_deal_17 rfl (lv_at hl 1 rfl) ?_
    refine k_ishr (v := 0) C (by decide) dX7_deal_18 ?_
    refine lv_iconst (v := 1) C.1 C.2.1 dX7_deal_19 (by decide) ?_
    refine k_iand (v := 0) C (by decide) dX7_deal_20 ?_
    refine lv_if_ne (tgt := 34) C.1 C.2.1 dX7_deal_21 (by decide) (fun c2674 => absurd c2674 (by decide)) (fun _ => ?_)
    refine lv_aload_n C.1 C.2.1 dX7_deal_24 rfl (lv_at hl 0 rfl) ?_
    refine lv_iload_n C.1 C.2.1 dX7_deal_25 rfl (lv_at hl 1 rfl) ?_
    refine lv_iconst (v := 1) C.1 C.2.1 dX7_deal_26 (by decide) ?_
    refine k_iadd (v := 1) C (by decide) dX7_deal_27 ?_
    refine lv_iload_n C.1 C.2.1 dX7_deal_28 rfl (lv_at hl 2 rfl) ?_
    refine lv_iload_n C.1 C.2.1 dX7_deal_29 rfl (lv_at hl 3 rfl) ?_
    refine k_ci Wd [0, 1] [] rfl (wr := []) rfl (by decide) (by decide) (cells' := 0) (slots' := 0) (by decide) (by decide) (k_runV (rest := []) C aks Wd cs_X7_74 (kcX7_deal_v5 l D h0 h1 h2 h3 h4 (upd (fun _ => 0) 0 (-1)) a2 _ ) [0, 1] rfl (by decide) [0] rfl 0 7 rfl rfl rfl rfl rfl ⟨(Nat.le_of_ble_eq_true rfl), (Nat.le_of_ble_eq_true rfl)⟩ hl.1 rfl rfl (Nat.le_of_ble_eq_true rfl) ⟨(Nat.le_of_ble_eq_true rfl), (Nat.le_of_ble_eq_true rfl)⟩ dX7_deal_30) (fun r _ H locs w2675 Wd => ?_)
    have Wd : wX D [(a2, .int)] s [(h0, .inr (7, [.ref h1, .ref h2, .ref h3, .ref h4, .int 0])), (h4, .inl (a2, 6, .inl (upd (upd (upd (upd (upd (upd (fun _ => 0) 0 (-1)) 1 (-1)) 2 (-1)) 3 (-1)) 4 (-1)) 5 (-1))))] _ A s.heap _ := Wd
    obtain rfl := w2675
    exact k_zret C hr hlk rfl Wd () rfl [0, 1] rfl (by decide) [] rfl (by decide) (by decide) dX7_deal_33
set_option maxHeartbeats 4000000 in
set_option maxRecDepth 100000 in
theorem kcX7_fewest (l : Launch) (D : va_G) (h0 h1 h2 h3 h4 : Nat) (a2 : ClassId) (sz : Nat)  : Met l yX7_fewest (Cond.code yX7_fewest cX7_fewest 2 (some .int) :: gG) { frames := 9, cells := 0, slots := 0, locals := 252 } (cPre D [(a2, .int)] [(h0, .inr (7, [.ref h1, .ref h2, .ref h3, .ref h4, .int 0])), (h4, .inl (a2, 6, .inl (fun _ => 0)))] sz [.ref h0]) (va_Qi (fun (r : Int32) (_ : Unit) => r = 0) (fun u t => cB D (va_A [(h0, .inr (7, [.ref h1, .ref h2, .ref h3, .ref h4, .int 0])), (h4, .inl (a2, 6, .inl (fun _ => 0)))] sz) ((fun (_ : Unit) => ([] : List (ClassId × FieldType))) u) ((fun (_ : Unit) => ([(h0, .inr (7, [.ref h1, .ref h2, .ref h3, .ref h4, .int 0])), (h4, .inl (a2, 6, .inl (upd (upd (upd (upd (upd (upd (fun _ => 0) 0 (-1)) 1 (-1)) 2 (-1)) 3 (-1)) 4 (-1)) 5 (-1))))] : va_W)) u) t) (va_A [(h0, .inr (7, [.ref h1, .ref h2, .ref h3, .ref h4, .int 0])), (h4, .inl (a2, 6, .inl (fun _ => 0)))] sz)) 0 0 (va_A [(h0, .inr (7, [.ref h1, .ref h2, .ref h3, .ref h4, .int 0])), (h4, .inl (a2, 6, .inl (fun _ => 0)))] sz) := by
  refine Met.ofW (cc := cX7_fewest) (maxL := 2) (ret := (some .int)) (by decide) rfl ?_
  intro p e s m args below meth c s₁ B hml hv
  obtain ⟨rfl, aks, rfl, Wd⟩ := k_enter hv
  have C : CallFix p m c cX7_fewest 2 s _ gG RX7 := ⟨B.exec, B.bytes, hml, findClass_of_methodNamed B.named, fun w h => atoms_spec (ws := Cond.code yX7_fewest cX7_fewest 2 (some .int) :: gG) B.pre w (List.mem_cons_of_mem _ h)⟩
  have hr := B.returns
  have hlk := B.notSynchronized
  generalize va_A [(h0, .inr (7, [.ref h1, .ref h2, .ref h3, .ref h4, .int 0])), (h4, .inl (a2, 6, .inl (fun _ => 0)))] s.heap.size = A at Wd ⊢
  refine k_locals (Nat.le_of_ble_eq_true rfl) [(0, .ref h0)] rfl (fun ls hl => ?_)
  refine lv_iconst (v := 0) C.1 C.2.1 dX7_fewest_0 (by decide) ?_
  refine lv_istore_n (lv' := [(1, .int 0), (0, .ref h0)]) C.1 C.2.1 dX7_fewest_1 rfl hl (by decide) rfl (fun ls hl => ?_)
  refine lv_iload_n C.1 C.2.1 dX7_fewest_2 rfl (lv_at hl 0 rfl) ?_
  refine lv_bipush (v := 6) C.1 C.2.1 dX7_fewest_3 (by decide) ?_
  refine lv_icmp_ge (tgt := 29) C.1 C.2.1 dX7_fewest_5 (by decide) (fun c2678 => absurd c2678 (by decide)) (fun _ => ?_)
  refine lv_aload_n C.1 C.2.1 dX7_fewest_8 rfl (lv_at hl 1 rfl) ?_
  refine lv_iconst (v := 0) C.1 C.2.1 dX7_fewest_9 (by decide) ?_
  refine lv_aload_n C.1 C.2.1 dX7_fewest_10 rfl (lv_at hl 1 rfl) ?_
  refine k_get C Wd KX7 0 4 rfl (by decide) fl_X7_32 rfl dX7_fewest_11 ?_
  refine lv_iload_n C.1 C.2.1 dX7_fewest_14 rfl (lv_at hl 0 rfl) ?_
  refine k_ci Wd [0, 1] [] rfl (wr := []) rfl (by decide) (by decide) (cells' := 0) (slots' := 0) (by decide) (by decide) (k_runV (rest := []) C aks Wd cs_X7_74 (kcX7_deal_v6 l D h0 h1 h2 h3 h4 a2 _ ) [0, 1] rfl (by decide) [0] rfl 0 7 rfl rfl rfl rfl rfl ⟨(Nat.le_of_ble_eq_true rfl), (Nat.le_of_ble_eq_true rfl)⟩ hl.1 rfl rfl (Nat.le_of_ble_eq_true rfl) ⟨(Nat.le_of_ble_eq_true rfl), (Nat.le_of_ble_eq_true rfl)⟩ dX7_fewest_15) (fun r _ H locs w2679 Wd => ?_)
  have Wd : wX D [(a2, .int)] s [(h0, .inr (7, [.ref h1, .ref h2, .ref h3, .ref h4, .int 0])), (h4, .inl (a2, 6, .inl (upd (upd (upd (upd (upd (upd (fun _ => 0) 0 (-1)) 1 (-1)) 2 (-1)) 3 (-1)) 4 (-1)) 5 (-1))))] _ A s.heap _ := Wd
  obtain rfl := w2679
  refine lv_if_eq (tgt := 23) C.1 C.2.1 dX7_fewest_18 (by decide) (fun c2680 => absurd c2680 (by decide)) (fun _ => ?_)
  refine lv_iload_n C.1 C.2.1 dX7_fewest_21 rfl (lv_at hl 0 rfl) ?_
  exact k_zret C hr hlk rfl Wd () rfl [0, 1] rfl (by decide) [] rfl (by decide) (by decide) dX7_fewest_22
set_option maxHeartbeats 4000000 in
set_option maxRecDepth 100000 in
theorem kcX7_registerOf (l : Launch) (D : va_G) (h0 h1 h2 h3 h4 : Nat) (x0 : Int32) (a2 : ClassId) (sz : Nat)  : Met l yX7_registerOf (Cond.code yX7_registerOf cX7_registerOf 2 (some .int) :: gG) { frames := 10, cells := 0, slots := 0, locals := 273 } (cPre D [(a2, .int)] [(h0, .inr (7, [.ref h1, .ref h2, .ref h3, .ref h4, .int 0])), (h4, .inl (a2, 6, .inl (fun _ => 0)))] sz [.ref h0, .int x0]) (va_Qi (fun (r : Int32) (_ : Unit) => (x0 < (0 : Int32) ∧ r = (-1)) ∨ (¬ x0 < (0 : Int32) ∧ (6 : Int32) ≤ x0 ∧ r = (-1)) ∨ (¬ x0 < (0 : Int32) ∧ ¬ (6 : Int32) ≤ x0 ∧ r = (-1))) (fun u t => cB D (va_A [(h0, .inr (7, [.ref h1, .ref h2, .ref h3, .ref h4, .int 0])), (h4, .inl (a2, 6, .inl (fun _ => 0)))] sz) ((fun (_ : Unit) => ([] : List (ClassId × FieldType))) u) ((fun (_ : Unit) => ([(h0, .inr (7, [.ref h1, .ref h2, .ref h3, .ref h4, .int 0])), (h4, .inl (a2, 6, .inl (upd (upd (upd (upd (upd (upd (fun _ => 0) 0 (-1)) 1 (-1)) 2 (-1)) 3 (-1)) 4 (-1)) 5 (-1))))] : va_W)) u) t) (va_A [(h0, .inr (7, [.ref h1, .ref h2, .ref h3, .ref h4, .int 0])), (h4, .inl (a2, 6, .inl (fun _ => 0)))] sz)) 0 0 (va_A [(h0, .inr (7, [.ref h1, .ref h2, .ref h3, .ref h4, .int 0])), (h4, .inl (a2, 6, .inl (fun _ => 0)))] sz) := by
  refine Met.ofW (cc := cX7_registerOf) (maxL := 2) (ret := (some .int)) (by decide) rfl ?_
  intro p e s m args below meth c s₁ B hml hv
  obtain ⟨rfl, aks, rfl, Wd⟩ := k_enter hv
  have C : CallFix p m c cX7_registerOf 2 s _ gG RX7 := ⟨B.exec, B.bytes, hml, findClass_of_methodNamed B.named, fun w h => atoms_spec (ws := Cond.code yX7_registerOf cX7_registerOf 2 (some .int) :: gG) B.pre w (List.mem_cons_of_mem _ h)⟩
  have hr := B.returns
  have hlk := B.notSynchronized
  generalize va_A [(h0, .inr (7, [.ref h1, .ref h2, .ref h3, .ref h4, .int 0])), (h4, .inl (a2, 6, .inl (fun _ => 0)))] s.heap.size = A at Wd ⊢
  refine k_locals (Nat.le_of_ble_eq_true rfl) [(0, .ref h0), (1, .int x0)] rfl (fun ls hl => ?_)
  refine lv_aload_n C.1 C.2.1 dX7_registerOf_0 rfl (lv_at hl 0 rfl) ?_
  refine k_ci Wd [0, 1] [] rfl (wr := []) rfl (by decide) (by decide) (cells' := 0) (slots' := 0) (by decide) (by decide) (k_runV (rest := []) C aks Wd cs_X7_78 (kcX7_fewest l D h0 h1 h2 h3 h4 a2 _ ) [0, 1] rfl (by decide) [0] rfl 0 7 rfl rfl rfl rfl rfl ⟨(Nat.le_of_ble_eq_true rfl), (Nat.le_of_ble_eq_true rfl)⟩ hl.1 rfl rfl (Nat.le_of_ble_eq_true rfl) ⟨(Nat.le_of_ble_eq_true rfl), (Nat.le_of_ble_eq_true rfl)⟩ dX7_registerOf_1) (fun r _ H locs w2691 Wd => ?_)
  have Wd : wX D [(a2, .int)] s [(h0, .inr (7, [.ref h1, .ref h2, .ref h3, .ref h4, .int 0])), (h4, .inl (a2, 6, .inl (upd (upd (upd (upd (upd (upd (fun _ => 0) 0 (-1)) 1 (-1)) 2 (-1)) 3 (-1)) 4 (-1)) 5 (-1))))] _ A s.heap _ := Wd
  obtain rfl := w2691
  refine lv_pop C.1 C.2.1 dX7_registerOf_4 rfl ?_
  refine lv_iload_n C.1 C.2.1 dX7_registerOf_5 rfl (lv_at hl 1 rfl) ?_
  refine k_pi (k_runN (rest := []) C aks Wd aks.2.2.2 cs_X7_71 (kcX11_isVariable l D x0 _ ) [] rfl (by decide) [] rfl rfl rfl ⟨(Nat.le_of_ble_eq_true rfl), (Nat.le_of_ble_eq_true rfl)⟩ hl.1 rfl rfl (Nat.le_of_ble_eq_true rfl) ⟨(Nat.le_of_ble_eq_true rfl), (Nat.le_of_ble_eq_true rfl)⟩ dX7_registerOf_6) (fun r w2692 => ?_)
  rcases w2692 with ⟨c2693, rfl⟩ | ⟨c2694, c2695, rfl⟩ | ⟨c2696, c2697, rfl⟩
  · refine lv_if_eq (tgt := 21) C.1 C.2.1 dX7_registerOf_9 (by decide) (fun _ => ?_) (fun c2698 => absurd c2698 (by decide))
    refine lv_iconst (v := (-1)) C.1 C.2.1 dX7_registerOf_21 (by decide) ?_
    exact k_zret C hr hlk rfl Wd () (Or.inl (⟨c2693, rfl⟩)) [0, 1] rfl (by decide) [] rfl (by decide) (by decide) dX7_registerOf_22
  · refine lv_if_eq (tgt := 21) C.1 C.2.1 dX7_registerOf_9 (by decide) (fun _ => ?_) (fun c2699 => absurd c2699 (by decide))
    refine lv_iconst (v := (-1)) C.1 C.2.1 dX7_registerOf_21 (by decide) ?_
    exact k_zret C hr hlk rfl Wd () (Or.inr (Or.inl (⟨c2694, c2695, rfl⟩))) [0, 1] rfl (by decide) [] rfl (by decide) (by decide) dX7_registerOf_22
  · refine lv_if_eq (tgt := 21) C.1 C.2.1 dX7_registerOf_9 (by decide) (fun c2700 => absurd c2700 (by decide)) (fun _ => ?_)
    refine lv_aload_n C.1 C.2.1 dX7_registerOf_12 rfl (lv_at hl 0 rfl) ?_
    refine k_get C Wd KX7 0 3 rfl (by decide) fl_X7_25 rfl dX7_registerOf_13 ?_
    refine lv_iload_n C.1 C.2.1 dX7_registerOf_16 rfl (lv_at hl 1 rfl) ?_
    refine k_iald (v := (-1)) C Wd 1 0 rfl rfl (vp_in_iff.mpr ⟨by have z0 := kz_nlt c2696; have z1 := kz_nle c2697; have t0 : (0 : Int32).toInt = 0 := (by decide); have t6 : (6 : Int32).toInt = 6 := (by decide); omega, by have z0 := kz_nlt c2696; have z1 := kz_nle c2697; have t0 : (0 : Int32).toInt = 0 := (by decide); have t6 : (6 : Int32).toInt = 6 := (by decide); omega⟩) (k_all6 _ _ rfl rfl rfl rfl rfl rfl (vp_in_iff.mpr ⟨by have z0 := kz_nlt c2696; have z1 := kz_nle c2697; have t0 : (0 : Int32).toInt = 0 := (by decide); have t6 : (6 : Int32).toInt = 6 := (by decide); omega, by have z0 := kz_nlt c2696; have z1 := kz_nle c2697; have t0 : (0 : Int32).toInt = 0 := (by decide); have t6 : (6 : Int32).toInt = 6 := (by decide); omega⟩)) dX7_registerOf_17 ?_
    refine lv_goto (tgt := 22) C.1 C.2.1 dX7_registerOf_18 (by decide) ?_
    exact k_zret C hr hlk rfl Wd () (Or.inr (Or.inr (⟨c2696, c2697, rfl⟩))) [0, 1] rfl (by decide) [] rfl (by decide) (by decide) dX7_registerOf_22
set_option maxHeartbeats 4000000 in
set_option maxRecDepth 100000 in
theorem kcX11_registers_v2 (l : Launch) (D : va_G) (h0 h1 h2 h3 h4 h5 h6 h7 h8 h27 h28 h29 h30 h31 h68 h69 h70 h71 h72 h73 h74 h75 h76 h77 h78 h79 h80 : Nat) (x0 x1 : Int32) (g0 : Nat → Option Nat) (a0 a6 a7 a8 a13 : ClassId) (sz : Nat) (k_g0_x0 : g0 x0.toNatClampNeg = some h8) (as0 : ¬ x0 < (0 : Int32)) (as1 : x0 < (6 : Int32)): Met l yX11_registers (Cond.code yX11_registers cX11_registers 4 (some .int) :: gG) { frames := 11, cells := 0, slots := 0, locals := 294 } (cPre D [(a0, .object RX8), (a6, .int), (a7, .int), (a8, .int), (a13, .int)] [(h0, .inr (11, [.ref h1, .int 0, .ref h2, .ref h3, .ref h4, .ref h5, .ref h6, .ref h7])), (h1, .inl (a0, 6, .inr (.inr (.inr (.inr g0))))), (h7, .inr (7, [.ref h27, .ref h28, .ref h29, .ref h30, .int 0])), (h27, .inr (1, [.ref h68, .int 0, .ref h69, .ref h70, .ref h71, .ref h72, .ref h73, .ref h74, .ref h75, .ref h76, .ref h77, .ref h78, .ref h79, .ref h80])), (h8, .inr (8, [.ref h31, .int 0])), (h80, .inl (a13, 480, .inl (fun _ => 0))), (h28, .inl (a6, 6, .inl (fun _ => 0))), (h29, .inl (a7, 6, .inl (fun _ => 0))), (h30, .inl (a8, 6, .inl (fun _ => 0)))] sz [.ref h0, .int x0, .int x1]) (va_Qi (fun (r : Int32) (_ : Unit) => (¬ x0 < (0 : Int32) ∧ ¬ (6 : Int32) ≤ x0 ∧ ¬ x1 = (0 : Int32) ∧ x1 < (10 : Int32) ∧ r = (-1)) ∨ (¬ x0 < (0 : Int32) ∧ ¬ (6 : Int32) ≤ x0 ∧ ¬ x1 = (0 : Int32) ∧ ¬ x1 < (10 : Int32) ∧ (16 : Int32) ≤ x1 ∧ x1 < (20 : Int32) ∧ r = (-1)) ∨ (¬ x0 < (0 : Int32) ∧ ¬ (6 : Int32) ≤ x0 ∧ ¬ x1 = (0 : Int32) ∧ ¬ x1 < (10 : Int32) ∧ (16 : Int32) ≤ x1 ∧ ¬ x1 < (20 : Int32) ∧ (26 : Int32) < x1 ∧ r = (-1)) ∨ (¬ x0 < (0 : Int32) ∧ ¬ (6 : Int32) ≤ x0 ∧ ¬ x1 = (0 : Int32) ∧ ¬ x1 < (10 : Int32) ∧ (16 : Int32) ≤ x1 ∧ ¬ x1 < (20 : Int32) ∧ ¬ (26 : Int32) < x1 ∧ r = 0) ∨ (¬ x0 < (0 : Int32) ∧ ¬ (6 : Int32) ≤ x0 ∧ ¬ x1 = (0 : Int32) ∧ ¬ x1 < (10 : Int32) ∧ ¬ (16 : Int32) ≤ x1 ∧ ¬ (x1 - 10) < (0 : Int32) ∧ ¬ (6 : Int32) ≤ (x1 - 10) ∧ r = (-1)) ∨ (¬ x0 < (0 : Int32) ∧ ¬ (6 : Int32) ≤ x0 ∧ x1 = (0 : Int32) ∧ r = 0)) (fun u t => cB D (va_A [(h0, .inr (11, [.ref h1, .int 0, .ref h2, .ref h3, .ref h4, .ref h5, .ref h6, .ref h7])), (h1, .inl (a0, 6, .inr (.inr (.inr (.inr g0))))), (h7, .inr (7, [.ref h27, .ref h28, .ref h29, .ref h30, .int 0])), (h27, .inr (1, [.ref h68, .int 0, .ref h69, .ref h70, .ref h71, .ref h72, .ref h73, .ref h74, .ref h75, .ref h76, .ref h77, .ref h78, .ref h79, .ref h80])), (h8, .inr (8, [.ref h31, .int 0])), (h80, .inl (a13, 480, .inl (fun _ => 0))), (h28, .inl (a6, 6, .inl (fun _ => 0))), (h29, .inl (a7, 6, .inl (fun _ => 0))), (h30, .inl (a8, 6, .inl (fun _ => 0)))] sz) ((fun (_ : Unit) => ([] : List (ClassId × FieldType))) u) ((fun (_ : Unit) => ([] : va_W)) u) t) (va_A [(h0, .inr (11, [.ref h1, .int 0, .ref h2, .ref h3, .ref h4, .ref h5, .ref h6, .ref h7])), (h1, .inl (a0, 6, .inr (.inr (.inr (.inr g0))))), (h7, .inr (7, [.ref h27, .ref h28, .ref h29, .ref h30, .int 0])), (h27, .inr (1, [.ref h68, .int 0, .ref h69, .ref h70, .ref h71, .ref h72, .ref h73, .ref h74, .ref h75, .ref h76, .ref h77, .ref h78, .ref h79, .ref h80])), (h8, .inr (8, [.ref h31, .int 0])), (h80, .inl (a13, 480, .inl (fun _ => 0))), (h28, .inl (a6, 6, .inl (fun _ => 0))), (h29, .inl (a7, 6, .inl (fun _ => 0))), (h30, .inl (a8, 6, .inl (fun _ => 0)))] sz)) 0 0 (va_A [(h0, .inr (11, [.ref h1, .int 0, .ref h2, .ref h3, .ref h4, .ref h5, .ref h6, .ref h7])), (h1, .inl (a0, 6, .inr (.inr (.inr (.inr g0))))), (h7, .inr (7, [.ref h27, .ref h28, .ref h29, .ref h30, .int 0])), (h27, .inr (1, [.ref h68, .int 0, .ref h69, .ref h70, .ref h71, .ref h72, .ref h73, .ref h74, .ref h75, .ref h76, .ref h77, .ref h78, .ref h79, .ref h80])), (h8, .inr (8, [.ref h31, .int 0])), (h80, .inl (a13, 480, .inl (fun _ => 0))), (h28, .inl (a6, 6, .inl (fun _ => 0))), (h29, .inl (a7, 6, .inl (fun _ => 0))), (h30, .inl (a8, 6, .inl (fun _ => 0)))] sz) := by
  refine Met.ofW (cc := cX11_registers) (maxL := 4) (ret := (some .int)) (by decide) rfl ?_
  intro p e s m args below meth c s₁ B hml hv
  obtain ⟨rfl, aks, rfl, Wd⟩ := k_enter hv
  have C : CallFix p m c cX11_registers 4 s _ gG RX11 := ⟨B.exec, B.bytes, hml, findClass_of_methodNamed B.named, fun w h => atoms_spec (ws := Cond.code yX11_registers cX11_registers 4 (some .int) :: gG) B.pre w (List.mem_cons_of_mem _ h)⟩
  have hr := B.returns
  have hlk := B.notSynchronized
  generalize va_A [(h0, .inr (11, [.ref h1, .int 0, .ref h2, .ref h3, .ref h4, .ref h5, .ref h6, .ref h7])), (h1, .inl (a0, 6, .inr (.inr (.inr (.inr g0))))), (h7, .inr (7, [.ref h27, .ref h28, .ref h29, .ref h30, .int 0])), (h27, .inr (1, [.ref h68, .int 0, .ref h69, .ref h70, .ref h71, .ref h72, .ref h73, .ref h74, .ref h75, .ref h76, .ref h77, .ref h78, .ref h79, .ref h80])), (h8, .inr (8, [.ref h31, .int 0])), (h80, .inl (a13, 480, .inl (fun _ => 0))), (h28, .inl (a6, 6, .inl (fun _ => 0))), (h29, .inl (a7, 6, .inl (fun _ => 0))), (h30, .inl (a8, 6, .inl (fun _ => 0)))] s.heap.size = A at Wd ⊢
  refine k_locals (Nat.le_of_ble_eq_true rfl) [(0, .ref h0), (1, .int x0), (2, .int x1)] rfl (fun ls hl => ?_)
  refine lv_aload_n C.1 C.2.1 dX11_registers_0 rfl (lv_at hl 0 rfl) ?_
  refine lv_iload_n C.1 C.2.1 dX11_registers_1 rfl (lv_at hl 1 rfl) ?_
  refine k_pq (k_runV (rest := []) C aks Wd cs_X11_77 (kcX11_slotAt l D h0 h1 h2 h3 h4 h5 h6 h7 x0 g0 a0 _ ) [0, 1] rfl (by decide) [0] rfl 0 11 rfl rfl rfl rfl rfl ⟨(Nat.le_of_ble_eq_true rfl), (Nat.le_of_ble_eq_true rfl)⟩ hl.1 rfl rfl (Nat.le_of_ble_eq_true rfl) ⟨(Nat.le_of_ble_eq_true rfl), (Nat.le_of_ble_eq_true rfl)⟩ dX11_registers_2) (fun r w2708 => ?_)
  rcases w2708 with ⟨c2709, rfl⟩ | ⟨c2710, c2711, rfl⟩ | ⟨c2712, c2713, rfl⟩
  · exact absurd c2709 as0
  · exact False.elim (by have z0 := kz_nlt as0; have z1 := kz_lt as1; have z2 := kz_nlt c2710; have z3 := kz_le c2711; have t0 : (0 : Int32).toInt = 0 := (by decide); have t6 : (6 : Int32).toInt = 6 := (by decide); omega)
  · refine W.eq (g2 := F0 m 5 ls [.ref h8]) (by rw [show (g0 x0.toNatClampNeg) = some h8 from k_g0_x0]; rfl) ?_
    refine lv_astore_n (lv' := [(3, .ref h8), (0, .ref h0), (1, .int x0), (2, .int x1)]) C.1 C.2.1 dX11_registers_5 rfl hl (by decide) rfl (fun ls hl => ?_)
    refine lv_aload_n C.1 C.2.1 dX11_registers_6 rfl (lv_at hl 0 rfl) ?_
    refine lv_ifnonnull (tgt := 12) C.1 C.2.1 dX11_registers_7 (by decide) ?_
    refine lv_aload_n C.1 C.2.1 dX11_registers_12 rfl (lv_at hl 1 rfl) ?_
    refine k_get C Wd KX11 0 7 rfl (by decide) fl_X11_57 rfl dX11_registers_13 ?_
    refine lv_aload_n C.1 C.2.1 dX11_registers_16 rfl (lv_at hl 0 rfl) ?_
    refine k_cv Wd [2, 3, 4, 5, 6, 7] [0, 1, 8] rfl (wr := [(h0, .inr (11, [.ref h1, .int 0, .ref h2, .ref h3, .ref h4, .ref h5, .ref h6, .ref h7])), (h1, .inl (a0, 6, .inr (.inr (.inr (.inr g0))))), (h30, .inl (a8, 6, .inl (fun _ => 0)))]) rfl (by decide) (by decide) (cells' := 0) (slots' := 0) (by decide) (by decide) (k_runV (rest := []) C aks Wd cs_X11_220 (kcX7_study l D h7 h8 h27 h28 h29 h30 h31 h68 h69 h70 h71 h72 h73 h74 h75 h76 h77 h78 h79 h80 a6 a7 a13 _ ) [2, 3, 4, 5, 6, 7] rfl (by decide) [1, 2, 4] rfl 2 7 rfl rfl rfl rfl rfl ⟨(Nat.le_of_ble_eq_true rfl), (Nat.le_of_ble_eq_true rfl)⟩ hl.1 rfl rfl (Nat.le_of_ble_eq_true rfl) ⟨(Nat.le_of_ble_eq_true rfl), (Nat.le_of_ble_eq_true rfl)⟩ dX11_registers_17) (fun _ H locs w2714 Wd => ?_)
    have Wd : wX D [(a0, .object RX8), (a6, .int), (a7, .int), (a8, .int), (a13, .int)] s [(h0, .inr (11, [.ref h1, .int 0, .ref h2, .ref h3, .ref h4, .ref h5, .ref h6, .ref h7])), (h1, .inl (a0, 6, .inr (.inr (.inr (.inr g0))))), (h30, .inl (a8, 6, .inl (fun _ => 0))), (h7, .inr (7, [.ref h27, .ref h28, .ref h29, .ref h30, .int 0])), (h27, .inr (1, [.ref h8, .int 0, .ref h69, .ref h70, .ref h71, .ref h72, .ref h73, .ref h74, .ref h75, .ref h76, .ref h77, .ref h78, .ref h79, .ref h80])), (h8, .inr (8, [.ref h31, .int 0])), (h80, .inl (a13, 480, .inl (fun _ => 0))), (h28, .inl (a6, 6, .inl (fun _ => 0))), (h29, .inl (a7, 6, .inl (fun _ => 0)))] _ A s.heap _ := Wd
    refine lv_iload_n C.1 C.2.1 dX11_registers_20 rfl (lv_at hl 3 rfl) ?_
    refine lv_if_ne (tgt := 32) C.1 C.2.1 dX11_registers_21 (by decide) (fun c2715 => ?_) (fun c2715 => ?_)
    · refine lv_iload_n C.1 C.2.1 dX11_registers_32 rfl (lv_at hl 3 rfl) ?_
      refine lv_bipush (v := 10) C.1 C.2.1 dX11_registers_33 (by decide) ?_
      refine lv_icmp_lt (tgt := 56) C.1 C.2.1 dX11_registers_35 (by decide) (fun c2716 => ?_) (fun c2716 => ?_)
      · refine lv_iload_n C.1 C.2.1 dX11_registers_56 rfl (lv_at hl 3 rfl) ?_
        refine lv_bipush (v := 20) C.1 C.2.1 dX11_registers_57 (by decide) ?_
        refine lv_icmp_lt (tgt := 82) C.1 C.2.1 dX11_registers_59 (by decide) (fun _ => ?_) (fun c2717 => False.elim (by have z0 := kz_ne c2715; have z1 := kz_lt c2716; have z2 := kz_nlt c2717; have t0 : (0 : Int32).toInt = 0 := (by decide); have t10 : (10 : Int32).toInt = 10 := (by decide); have t20 : (20 : Int32).toInt = 20 := (by decide); omega))
        refine lv_iconst (v := (-1)) C.1 C.2.1 dX11_registers_82 (by decide) ?_
        exact k_zret C hr hlk rfl Wd () (Or.inl (⟨c2712, c2713, c2715, c2716, rfl⟩)) [] rfl (by decide) [] rfl (by decide) (by decide) dX11_registers_83
      · refine lv_iload_n C.1 C.2.1 dX11_registers_38 rfl (lv_at hl 3 rfl) ?_
        refine lv_bipush (v := 16) C.1 C.2.1 dX11_registers_39 (by decide) ?_
        refine lv_icmp_ge (tgt := 56) C.1 C.2.1 dX11_registers_41 (by decide) (fun c2718 => ?_) (fun c2718 => ?_)
        · refine lv_iload_n C.1 C.2.1 dX11_registers_56 rfl (lv_at hl 3 rfl) ?_
          refine lv_bipush (v := 20) C.1 C.2.1 dX11_registers_57 (by decide) ?_
          refine lv_icmp_lt (tgt := 82) C.1 C.2.1 dX11_registers_59 (by decide) (fun c2719 => ?_) (fun c2719 => ?_)
          · refine lv_iconst (v := (-1)) C.1 C.2.1 dX11_registers_82 (by decide) ?_
            exact k_zret C hr hlk rfl Wd () (Or.inr (Or.inl (⟨c2712, c2713, c2715, c2716, c2718, c2719, rfl⟩))) [] rfl (by decide) [] rfl (by decide) (by decide) dX11_registers_83
          · refine lv_iload_n C.1 C.2.1 dX11_registers_62 rfl (lv_at hl 3 rfl) ?_
            refine lv_bipush (v := 26) C.1 C.2.1 dX11_registers_63 (by decide) ?_
            refine lv_icmp_gt (tgt := 82) C.1 C.2.1 dX11_registers_65 (by decide) (fun c2720 => ?_) (fun c2720 => ?_)
            · refine lv_iconst (v := (-1)) C.1 C.2.1 dX11_registers_82 (by decide) ?_
              exact k_zret C hr hlk rfl Wd () (Or.inr (Or.inr (Or.inl (⟨c2712, c2713, c2715, c2716, c2718, c2719, c2720, rfl⟩)))) [] rfl (by decide) [] rfl (by decide) (by decide) dX11_registers_83
            · refine lv_aload_n C.1 C.2.1 dX11_registers_68 rfl (lv_at hl 1 rfl) ?_
              refine k_get C Wd KX11 0 7 rfl (by decide) fl_X11_57 rfl dX11_registers_69 ?_
              refine lv_iload_n C.1 C.2.1 dX11_registers_72 rfl (lv_at hl 3 rfl) ?_
              refine lv_bipush (v := 20) C.1 C.2.1 dX11_registers_73 (by decide) ?_
              refine k_isub (v := (x1 - 20)) C rfl dX11_registers_75 ?_
              refine k_pi (k_runV (rest := []) C aks Wd cs_X11_229 (kcX7_spills l D h7 h27 h28 h29 h30 (x1 - 20) a7 _ ) [3, 8] rfl (by decide) [2] rfl 3 7 rfl rfl rfl rfl rfl ⟨(Nat.le_of_ble_eq_true rfl), (Nat.le_of_ble_eq_true rfl)⟩ hl.1 rfl rfl (Nat.le_of_ble_eq_true rfl) ⟨(Nat.le_of_ble_eq_true rfl), (Nat.le_of_ble_eq_true rfl)⟩ dX11_registers_76) (fun r w2721 => ?_)
              obtain rfl := w2721
              refine lv_goto (tgt := 83) C.1 C.2.1 dX11_registers_79 (by decide) ?_
              exact k_zret C hr hlk rfl Wd () (Or.inr (Or.inr (Or.inr (Or.inl (⟨c2712, c2713, c2715, c2716, c2718, c2719, c2720, rfl⟩))))) [] rfl (by decide) [] rfl (by decide) (by decide) dX11_registers_83
        · refine lv_aload_n C.1 C.2.1 dX11_registers_44 rfl (lv_at hl 1 rfl) ?_
          refine k_get C Wd KX11 0 7 rfl (by decide) fl_X11_57 rfl dX11_registers_45 ?_
          refine lv_iload_n C.1 C.2.1 dX11_registers_48 rfl (lv_at hl 3 rfl) ?_
          refine lv_bipush (v := 10) C.1 C.2.1 dX11_registers_49 (by decide) ?_
          refine k_isub (v := (x1 - 10)) C rfl dX11_registers_51 ?_
          refine k_ci Wd [3, 2] [0, 1, 4, 5, 6, 7, 8] rfl (wr := [(h0, .inr (11, [.ref h1, .int 0, .ref h2, .ref h3, .ref h4, .ref h5, .ref h6, .ref h7])), (h1, .inl (a0, 6, .inr (.inr (.inr (.inr g0))))), (h27, .inr (1, [.ref h8, .int 0, .ref h69, .ref h70, .ref h71, .ref h72, .ref h73, .ref h74, .ref h75, .ref h76, .ref h77, .ref h78, .ref h79, .ref h80])), (h8, .inr (8, [.ref h31, .int 0])), (h80, .inl (a13, 480, .inl (fun _ => 0))), (h28, .inl (a6, 6, .inl (fun _ => 0))), (h29, .inl (a7, 6, .inl (fun _ => 0)))]) rfl (by decide) (by decide) (cells' := 0) (slots' := 0) (by decide) (by decide) (k_runV (rest := []) C aks Wd cs_X11_226 (kcX7_registerOf l D h7 h27 h28 h29 h30 (x1 - 10) a8 _ ) [3, 2] rfl (by decide) [3] rfl 3 7 rfl rfl rfl rfl rfl ⟨(Nat.le_of_ble_eq_true rfl), (Nat.le_of_ble_eq_true rfl)⟩ hl.1 rfl rfl (Nat.le_of_ble_eq_true rfl) ⟨(Nat.le_of_ble_eq_true rfl), (Nat.le_of_ble_eq_true rfl)⟩ dX11_registers_52) (fun r _ H locs w2722 Wd => ?_)
          have Wd : wX D [(a0, .object RX8), (a6, .int), (a7, .int), (a8, .int), (a13, .int)] s [(h0, .inr (11, [.ref h1, .int 0, .ref h2, .ref h3, .ref h4, .ref h5, .ref h6, .ref h7])), (h1, .inl (a0, 6, .inr (.inr (.inr (.inr g0))))), (h27, .inr (1, [.ref h8, .int 0, .ref h69, .ref h70, .ref h71, .ref h72, .ref h73, .ref h74, .ref h75, .ref h76, .ref h77, .ref h78, .ref h79, .ref h80])), (h8, .inr (8, [.ref h31, .int 0])), (h80, .inl (a13, 480, .inl (fun _ => 0))), (h28, .inl (a6, 6, .inl (fun _ => 0))), (h29, .inl (a7, 6, .inl (fun _ => 0))), (h7, .inr (7, [.ref h27, .ref h28, .ref h29, .ref h30, .int 0])), (h30, .inl (a8, 6, .inl (upd (upd (upd (upd (upd (upd (fun _ => 0) 0 (-1)) 1 (-1)) 2 (-1)) 3 (-1)) 4 (-1)) 5 (-1))))] _ A s.heap _ := Wd
          rcases w2722 with ⟨c2723, rfl⟩ | ⟨c2724, c2725, rfl⟩ | ⟨c2726, c2727, rfl⟩
          · exact False.elim (by have z0 := kz_ne c2715; have z1 := kz_nlt c2716; have z2 := kz_nle c2718; have z3 := kz_lt c2723; have zr := kz_rng x1; have z4 := kz_subI (a := x1) (b := 10); have t0 : (0 : Int32).toInt = 0 := (by decide); have t10 : (10 : Int32).toInt = 10 := (by decide); have t16 : (16 : Int32).toInt = 16 := (by decide); omega)
          · exact False.elim (by have z0 := kz_ne c2715; have z1 := kz_nlt c2716; have z2 := kz_nle c2718; have z3 := kz_nlt c2724; have z4 := kz_le c2725; have zr := kz_rng x1; have z5 := kz_subI (a := x1) (b := 10); have t0 : (0 : Int32).toInt = 0 := (by decide); have t10 : (10 : Int32).toInt = 10 := (by decide); have t16 : (16 : Int32).toInt = 16 := (by decide); have t6 : (6 : Int32).toInt = 6 := (by decide); omega)
          · exact k_zret C hr hlk rfl Wd () (Or.inr (Or.inr (Or.inr (Or.inr (Or.inl (⟨c2712, c2713, c2715, c2716, c2718, c2726, c2727, rfl⟩)))))) [] rfl (by decide) [] rfl (by decide) (by decide) dX11_registers_55
    · subst c2715
      refine lv_aload_n C.1 C.2.1 dX11_registers_24 rfl (lv_at hl 1 rfl) ?_
      refine k_get C Wd KX11 0 7 rfl (by decide) fl_X11_57 rfl dX11_registers_25 ?_
      refine k_ci Wd [3, 2] [0, 1, 4, 5, 6, 7, 8] rfl (wr := [(h0, .inr (11, [.ref h1, .int 0, .ref h2, .ref h3, .ref h4, .ref h5, .ref h6, .ref h7])), (h1, .inl (a0, 6, .inr (.inr (.inr (.inr g0))))), (h27, .inr (1, [.ref h8, .int 0, .ref h69, .ref h70, .ref h71, .ref h72, .ref h73, .ref h74, .ref h75, .ref h76, .ref h77, .ref h78, .ref h79, .ref h80])), (h8, .inr (8, [.ref h31, .int 0])), (h80, .inl (a13, 480, .inl (fun _ => 0))), (h28, .inl (a6, 6, .inl (fun _ => 0))), (h29, .inl (a7, 6, .inl (fun _ => 0)))]) rfl (by decide) (by decide) (cells' := 0) (slots' := 0) (by decide) (by decide) (k_runV (rest := []) C aks Wd cs_X11_223 (kcX7_fewest l D h7 h27 h28 h29 h30 a8 _ ) [3, 2] rfl (by decide) [3] rfl 3 7 rfl rfl rfl rfl rfl ⟨(Nat.le_of_ble_eq_true rfl), (Nat.le_of_ble_eq_true rfl)⟩ hl.1 rfl rfl (Nat.le_of_ble_eq_true rfl) ⟨(Nat.le_of_ble_eq_true rfl), (Nat.le_of_ble_eq_true rfl)⟩ dX11_registers_28) (fun r _ H locs w2728 Wd => ?_)
      have Wd : wX D [(a0, .object RX8), (a6, .int), (a7, .int), (a8, .int), (a13, .int)] s [(h0, .inr (11, [.ref h1, .int 0, .ref h2, .ref h3, .ref h4, .ref h5, .ref h6, .ref h7])), (h1, .inl (a0, 6, .inr (.inr (.inr (.inr g0))))), (h27, .inr (1, [.ref h8, .int 0, .ref h69, .ref h70, .ref h71, .ref h72, .ref h73, .ref h74, .ref h75, .ref h76, .ref h77, .ref h78, .ref h79, .ref h80])), (h8, .inr (8, [.ref h31, .int 0])), (h80, .inl (a13, 480, .inl (fun _ => 0))), (h28, .inl (a6, 6, .inl (fun _ => 0))), (h29, .inl (a7, 6, .inl (fun _ => 0))), (h7, .inr (7, [.ref h27, .ref h28, .ref h29, .ref h30, .int 0])), (h30, .inl (a8, 6, .inl (upd (upd (upd (upd (upd (upd (fun _ => 0) 0 (-1)) 1 (-1)) 2 (-1)) 3 (-1)) 4 (-1)) 5 (-1))))] _ A s.heap _ := Wd
      obtain rfl := w2728
      exact k_zret C hr hlk rfl Wd () (Or.inr (Or.inr (Or.inr (Or.inr (Or.inr (⟨c2712, c2713, rfl, rfl⟩)))))) [] rfl (by decide) [] rfl (by decide) (by decide) dX11_registers_31
