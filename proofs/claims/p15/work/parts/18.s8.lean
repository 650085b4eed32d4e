set_option maxHeartbeats 4000000 in
set_option maxRecDepth 100000 in
theorem sX11_isWord (l : Launch) (D : va_G) (x0 : Int32) (sz : Nat)   : Met l yX11_isWord (Cond.code yX11_isWord cX11_isWord 1 (some .boolean) :: gG) { frames := 1, cells := 0, slots := 0, locals := 64 } (cPre D [] [] sz [.int x0]) (vp_Si (fun r => (r = 0) ∨ (0 ≤ x0.toInt ∧ x0.toInt ≤ 15 ∧ r = 1))) 0 0 (fun _ => False) := by
  refine Met.ofW (cc := cX11_isWord) (maxL := 1) (ret := (some .boolean)) (by decide) rfl ?_
  intro p e s m args below meth c s₁ B hml hv
  obtain ⟨rfl, aks, rfl, Wd⟩ := k_enter hv
  have C : CallFix p m c cX11_isWord 1 s _ gG RX11 := ⟨B.exec, B.bytes, hml, findClass_of_methodNamed B.named, fun w h => atoms_spec (ws := Cond.code yX11_isWord cX11_isWord 1 (some .boolean) :: gG) B.pre w (List.mem_cons_of_mem _ h)⟩
  have hr := B.returns
  have hlk := B.notSynchronized
  obtain ⟨A, Wd⟩ : ∃ A, wX D [] s [] s.heap A s.heap [] := ⟨_, Wd⟩
  refine k_locals (Nat.le_of_ble_eq_true rfl) [(0, .int x0)] rfl (fun ls hl => ?_)
  refine lv_iload_n C.1 C.2.1 dX11_isWord_0 rfl (lv_at hl 0 rfl) ?_
  refine lv_if_lt (tgt := 14) C.1 C.2.1 dX11_isWord_1 (by decide) (fun c1 => ?_) (fun c1 => ?_)
  · have i1 : x0.toInt < 0 := kz_lt c1
    refine lv_iconst (v := 0) C.1 C.2.1 dX11_isWord_14 (by decide) ?_
    exact k_zretP C hr hlk rfl (by exact Or.inl rfl) dX11_isWord_15
  · have i1 : 0 ≤ x0.toInt := kz_nlt c1
    refine lv_iload_n C.1 C.2.1 dX11_isWord_4 rfl (lv_at hl 0 rfl) ?_
    refine lv_bipush (v := 16) C.1 C.2.1 dX11_isWord_5 (by decide) ?_
    refine lv_icmp_ge (tgt := 14) C.1 C.2.1 dX11_isWord_7 (by decide) (fun c7 => ?_) (fun c7 => ?_)
    · have i7 : 16 ≤ x0.toInt := kz_le c7
      refine lv_iconst (v := 0) C.1 C.2.1 dX11_isWord_14 (by decide) ?_
      exact k_zretP C hr hlk rfl (by exact Or.inl rfl) dX11_isWord_15
    · have i7 : x0.toInt < 16 := kz_nle c7
      refine lv_iconst (v := 1) C.1 C.2.1 dX11_isWord_10 (by decide) ?_
      refine lv_goto (tgt := 15) C.1 C.2.1 dX11_isWord_11 (by decide) ?_
      exact k_zretP C hr hlk rfl (by exact Or.inr (⟨by omega, by omega, rfl⟩)) dX11_isWord_15
