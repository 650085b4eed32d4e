set_option maxRecDepth 20000 in
theorem tb_ls1 : Cond.laysStatic "java/lang/String" "COMPACT_STRINGS" "Z" ∈ lw_tbl := List.mem_append_right _ (List.mem_append_right _ (List.mem_append_right _ (List.mem_append_left _ (List.mem_of_getElem? (i := 42) rfl))))
set_option maxRecDepth 20000 in
theorem tb_ls2 : Cond.laysStatic "jdk/internal/util/Preconditions" "SIOOBE_FORMATTER" "Ljava/util/function/BiFunction;" ∈ lw_tbl := List.mem_append_right _ (List.mem_append_right _ (List.mem_append_right _ (List.mem_append_left _ (List.mem_of_getElem? (i := 58) rfl))))
set_option maxRecDepth 20000 in
theorem tb_in1 : Cond.initialized "java/lang/String" ∈ lw_tbl := List.mem_append_right _ (List.mem_append_left _ (List.mem_of_getElem? (i := 15) rfl))
set_option maxRecDepth 20000 in
theorem tb_in2 : Cond.initialized "jdk/internal/util/Preconditions" ∈ lw_tbl := List.mem_append_right _ (List.mem_append_left _ (List.mem_of_getElem? (i := 17) rfl))
set_option maxRecDepth 20000 in
theorem tb_sT0 : Cond.stringRef RX10 55 "out" ∈ lw_tbl := List.mem_append_right _ (List.mem_append_right _ (List.mem_append_right _ (List.mem_append_left _ (List.mem_of_getElem? (i := 28) rfl))))
set_option maxRecDepth 20000 in
theorem tb_sT1 : Cond.stringRef RX10 61 "fail" ∈ lw_tbl := List.mem_append_right _ (List.mem_append_right _ (List.mem_append_right _ (List.mem_append_left _ (List.mem_of_getElem? (i := 81) rfl))))
set_option maxRecDepth 20000 in
theorem tb_sT2 : Cond.stringRef RX10 63 "if" ∈ lw_tbl := List.mem_append_right _ (List.mem_append_right _ (List.mem_append_right _ (List.mem_append_left _ (List.mem_of_getElem? (i := 82) rfl))))
set_option maxRecDepth 20000 in
theorem tb_sT3 : Cond.stringRef RX10 65 "else" ∈ lw_tbl := List.mem_append_right _ (List.mem_append_right _ (List.mem_append_right _ (List.mem_append_left _ (List.mem_of_getElem? (i := 83) rfl))))
set_option maxRecDepth 20000 in
theorem tb_sT4 : Cond.stringRef RX10 67 "while" ∈ lw_tbl := List.mem_append_right _ (List.mem_append_right _ (List.mem_append_right _ (List.mem_append_left _ (List.mem_of_getElem? (i := 84) rfl))))
set_option maxHeartbeats 4000000 in
set_option maxRecDepth 100000 in
theorem law_sT {s : State} {b : Nat} {A : Nat → Prop} (hts : ∀ w ∈ lw_tbl, w.before #[Value.ref b] s = true) (hgv : (Jvm.Cond.and given_1 narrow_1).before #[Value.ref b] s = true) (hA : ∀ a : Nat, a < s.heap.size → ¬ A a) : ∃ adK adV : Nat → Nat, sK RX10 ixT adK adV 0 A s s.heap := by
  have hs := flat_of_before _ hgv
  obtain ⟨adK, adV, hS, hK⟩ := vk_Sof (N := 5) (tm := fun i => Term.string RX10 (ixT.getD i 0)) (len := lenL) (byt := bytL) (A := A) (args := #[Value.ref b]) (s := s)
    (by decide)
    (fun i hi => by
    match i, hi with
    | 0, _ => exact hs _ (by decide +kernel)
    | 1, _ => exact hs _ (by decide +kernel)
    | 2, _ => exact hs _ (by decide +kernel)
    | 3, _ => exact hs _ (by decide +kernel)
    | 4, _ => exact hs _ (by decide +kernel)
    | i + 5, h => exact absurd h (by omega))
    (fun i hi => by
    match i, hi with
    | 0, _ => exact hs _ (by decide +kernel)
    | 1, _ => exact hs _ (by decide +kernel)
    | 2, _ => exact hs _ (by decide +kernel)
    | 3, _ => exact hs _ (by decide +kernel)
    | 4, _ => exact hs _ (by decide +kernel)
    | i + 5, h => exact absurd h (by omega))
    (fun i hi => by
    match i, hi with
    | 0, _ => exact hs _ (by decide +kernel)
    | 1, _ => exact hs _ (by decide +kernel)
    | 2, _ => exact hs _ (by decide +kernel)
    | 3, _ => exact hs _ (by decide +kernel)
    | 4, _ => exact hs _ (by decide +kernel)
    | i + 5, h => exact absurd h (by omega))
    (fun i hi => by
    match i, hi with
    | 0, _ => exact hs _ (by decide +kernel)
    | 1, _ => exact hs _ (by decide +kernel)
    | 2, _ => exact hs _ (by decide +kernel)
    | 3, _ => exact hs _ (by decide +kernel)
    | 4, _ => exact hs _ (by decide +kernel)
    | i + 5, h => exact absurd h (by omega))
    (fun i hi j hj => by
    match i, hi with
    | 0, _ =>
      have hj : j < 3 := hj
      match j, hj with
      | 0, _ => exact hs _ (by decide +kernel)
      | 1, _ => exact hs _ (by decide +kernel)
      | 2, _ => exact hs _ (by decide +kernel)
      | j + 3, h => exact absurd h (by omega)
    | 1, _ =>
      have hj : j < 4 := hj
      match j, hj with
      | 0, _ => exact hs _ (by decide +kernel)
      | 1, _ => exact hs _ (by decide +kernel)
      | 2, _ => exact hs _ (by decide +kernel)
      | 3, _ => exact hs _ (by decide +kernel)
      | j + 4, h => exact absurd h (by omega)
    | 2, _ =>
      have hj : j < 2 := hj
      match j, hj with
      | 0, _ => exact hs _ (by decide +kernel)
      | 1, _ => exact hs _ (by decide +kernel)
      | j + 2, h => exact absurd h (by omega)
    | 3, _ =>
      have hj : j < 4 := hj
      match j, hj with
      | 0, _ => exact hs _ (by decide +kernel)
      | 1, _ => exact hs _ (by decide +kernel)
      | 2, _ => exact hs _ (by decide +kernel)
      | 3, _ => exact hs _ (by decide +kernel)
      | j + 4, h => exact absurd h (by omega)
    | 4, _ =>
      have hj : j < 5 := hj
      match j, hj with
      | 0, _ => exact hs _ (by decide +kernel)
      | 1, _ => exact hs _ (by decide +kernel)
      | 2, _ => exact hs _ (by decide +kernel)
      | 3, _ => exact hs _ (by decide +kernel)
      | 4, _ => exact hs _ (by decide +kernel)
      | j + 5, h => exact absurd h (by omega)
    | i + 5, h => exact absurd h (by omega))
    (fun i j hi hj hij => by
    match i, hi, j, hj with
    | 0, _, 0, _ => exact absurd rfl hij
    | 0, _, 1, _ => exact Or.inl (hs _ (by decide +kernel))
    | 0, _, 2, _ => exact Or.inl (hs _ (by decide +kernel))
    | 0, _, 3, _ => exact Or.inl (hs _ (by decide +kernel))
    | 0, _, 4, _ => exact Or.inl (hs _ (by decide +kernel))
    | 1, _, 0, _ => exact Or.inr (hs _ (by decide +kernel))
    | 1, _, 1, _ => exact absurd rfl hij
    | 1, _, 2, _ => exact Or.inl (hs _ (by decide +kernel))
    | 1, _, 3, _ => exact Or.inl (hs _ (by decide +kernel))
    | 1, _, 4, _ => exact Or.inl (hs _ (by decide +kernel))
    | 2, _, 0, _ => exact Or.inr (hs _ (by decide +kernel))
    | 2, _, 1, _ => exact Or.inr (hs _ (by decide +kernel))
    | 2, _, 2, _ => exact absurd rfl hij
    | 2, _, 3, _ => exact Or.inl (hs _ (by decide +kernel))
    | 2, _, 4, _ => exact Or.inl (hs _ (by decide +kernel))
    | 3, _, 0, _ => exact Or.inr (hs _ (by decide +kernel))
    | 3, _, 1, _ => exact Or.inr (hs _ (by decide +kernel))
    | 3, _, 2, _ => exact Or.inr (hs _ (by decide +kernel))
    | 3, _, 3, _ => exact absurd rfl hij
    | 3, _, 4, _ => exact Or.inl (hs _ (by decide +kernel))
    | 4, _, 0, _ => exact Or.inr (hs _ (by decide +kernel))
    | 4, _, 1, _ => exact Or.inr (hs _ (by decide +kernel))
    | 4, _, 2, _ => exact Or.inr (hs _ (by decide +kernel))
    | 4, _, 3, _ => exact Or.inr (hs _ (by decide +kernel))
    | 4, _, 4, _ => exact absurd rfl hij
    | i + 5, h, _, _ => exact absurd h (by omega)
    | 0, _, j + 5, h => exact absurd h (by omega)
    | 1, _, j + 5, h => exact absurd h (by omega)
    | 2, _, j + 5, h => exact absurd h (by omega)
    | 3, _, j + 5, h => exact absurd h (by omega)
    | 4, _, j + 5, h => exact absurd h (by omega))
    hA
  refine ⟨adK, adV, hS, (fun i hi => by
      match i, hi with
      | 0, _ => exact vk_R.of (hts _ tb_sT0) (hK 0 (by decide))
      | 1, _ => exact vk_R.of (hts _ tb_sT1) (hK 1 (by decide))
      | 2, _ => exact vk_R.of (hts _ tb_sT2) (hK 2 (by decide))
      | 3, _ => exact vk_R.of (hts _ tb_sT3) (hK 3 (by decide))
      | 4, _ => exact vk_R.of (hts _ tb_sT4) (hK 4 (by decide))
      | i + 5, h => exact absurd h (by omega)), va_Zof (hts _ tb_ls1) (hts _ tb_in1) (va_eqt (hs _ (by decide +kernel))) hA, va_Zqof (hts _ tb_ls2) (hts _ tb_in2) (hs _ (by decide +kernel)) hA⟩
set_option maxRecDepth 20000 in
theorem tb_sM0 : Cond.stringRef RX12 147 "out" ∈ lw_tbl := List.mem_append_right _ (List.mem_append_right _ (List.mem_append_right _ (List.mem_append_right _ (List.mem_append_right _ (List.mem_append_right _ (List.mem_append_left _ (List.mem_of_getElem? (i := 194) rfl)))))))
set_option maxRecDepth 20000 in
theorem tb_sM1 : Cond.stringRef RX12 153 "fail" ∈ lw_tbl := List.mem_append_right _ (List.mem_append_right _ (List.mem_append_right _ (List.mem_append_right _ (List.mem_append_right _ (List.mem_append_right _ (List.mem_append_left _ (List.mem_of_getElem? (i := 201) rfl)))))))
set_option maxRecDepth 20000 in
theorem tb_sM2 : Cond.stringRef RX12 155 "if" ∈ lw_tbl := List.mem_append_right _ (List.mem_append_right _ (List.mem_append_right _ (List.mem_append_right _ (List.mem_append_right _ (List.mem_append_right _ (List.mem_append_left _ (List.mem_of_getElem? (i := 202) rfl)))))))
set_option maxRecDepth 20000 in
theorem tb_sM3 : Cond.stringRef RX12 157 "else" ∈ lw_tbl := List.mem_append_right _ (List.mem_append_right _ (List.mem_append_right _ (List.mem_append_right _ (List.mem_append_right _ (List.mem_append_right _ (List.mem_append_left _ (List.mem_of_getElem? (i := 203) rfl)))))))
set_option maxRecDepth 20000 in
theorem tb_sM4 : Cond.stringRef RX12 159 "while" ∈ lw_tbl := List.mem_append_right _ (List.mem_append_right _ (List.mem_append_right _ (List.mem_append_right _ (List.mem_append_right _ (List.mem_append_right _ (List.mem_append_left _ (List.mem_of_getElem? (i := 204) rfl)))))))
set_option maxHeartbeats 4000000 in
set_option maxRecDepth 100000 in
theorem law_sM {s : State} {b : Nat} {A : Nat → Prop} (hts : ∀ w ∈ lw_tbl, w.before #[Value.ref b] s = true) (hgv : (Jvm.Cond.and given_1 narrow_1).before #[Value.ref b] s = true) (hA : ∀ a : Nat, a < s.heap.size → ¬ A a) : ∃ adK adV : Nat → Nat, sK RX12 ixM adK adV 0 A s s.heap := by
  have hs := flat_of_before _ hgv
  obtain ⟨adK, adV, hS, hK⟩ := vk_Sof (N := 5) (tm := fun i => Term.string RX12 (ixM.getD i 0)) (len := lenL) (byt := bytL) (A := A) (args := #[Value.ref b]) (s := s)
    (by decide)
    (fun i hi => by
    match i, hi with
    | 0, _ => exact hs _ (by decide +kernel)
    | 1, _ => exact hs _ (by decide +kernel)
    | 2, _ => exact hs _ (by decide +kernel)
    | 3, _ => exact hs _ (by decide +kernel)
    | 4, _ => exact hs _ (by decide +kernel)
    | i + 5, h => exact absurd h (by omega))
    (fun i hi => by
    match i, hi with
    | 0, _ => exact hs _ (by decide +kernel)
    | 1, _ => exact hs _ (by decide +kernel)
    | 2, _ => exact hs _ (by decide +kernel)
    | 3, _ => exact hs _ (by decide +kernel)
    | 4, _ => exact hs _ (by decide +kernel)
    | i + 5, h => exact absurd h (by omega))
    (fun i hi => by
    match i, hi with
    | 0, _ => exact hs _ (by decide +kernel)
    | 1, _ => exact hs _ (by decide +kernel)
    | 2, _ => exact hs _ (by decide +kernel)
    | 3, _ => exact hs _ (by decide +kernel)
    | 4, _ => exact hs _ (by decide +kernel)
    | i + 5, h => exact absurd h (by omega))
    (fun i hi => by
    match i, hi with
    | 0, _ => exact hs _ (by decide +kernel)
    | 1, _ => exact hs _ (by decide +kernel)
    | 2, _ => exact hs _ (by decide +kernel)
    | 3, _ => exact hs _ (by decide +kernel)
    | 4, _ => exact hs _ (by decide +kernel)
    | i + 5, h => exact absurd h (by omega))
    (fun i hi j hj => by
    match i, hi with
    | 0, _ =>
      have hj : j < 3 := hj
      match j, hj with
      | 0, _ => exact hs _ (by decide +kernel)
      | 1, _ => exact hs _ (by decide +kernel)
      | 2, _ => exact hs _ (by decide +kernel)
      | j + 3, h => exact absurd h (by omega)
    | 1, _ =>
      have hj : j < 4 := hj
      match j, hj with
      | 0, _ => exact hs _ (by decide +kernel)
      | 1, _ => exact hs _ (by decide +kernel)
      | 2, _ => exact hs _ (by decide +kernel)
      | 3, _ => exact hs _ (by decide +kernel)
      | j + 4, h => exact absurd h (by omega)
    | 2, _ =>
      have hj : j < 2 := hj
      match j, hj with
      | 0, _ => exact hs _ (by decide +kernel)
      | 1, _ => exact hs _ (by decide +kernel)
      | j + 2, h => exact absurd h (by omega)
    | 3, _ =>
      have hj : j < 4 := hj
      match j, hj with
      | 0, _ => exact hs _ (by decide +kernel)
      | 1, _ => exact hs _ (by decide +kernel)
      | 2, _ => exact hs _ (by decide +kernel)
      | 3, _ => exact hs _ (by decide +kernel)
      | j + 4, h => exact absurd h (by omega)
    | 4, _ =>
      have hj : j < 5 := hj
      match j, hj with
      | 0, _ => exact hs _ (by decide +kernel)
      | 1, _ => exact hs _ (by decide +kernel)
      | 2, _ => exact hs _ (by decide +kernel)
      | 3, _ => exact hs _ (by decide +kernel)
      | 4, _ => exact hs _ (by decide +kernel)
      | j + 5, h => exact absurd h (by omega)
    | i + 5, h => exact absurd h (by omega))
    (fun i j hi hj hij => by
    match i, hi, j, hj with
    | 0, _, 0, _ => exact absurd rfl hij
    | 0, _, 1, _ => exact Or.inl (hs _ (by decide +kernel))
    | 0, _, 2, _ => exact Or.inl (hs _ (by decide +kernel))
    | 0, _, 3, _ => exact Or.inl (hs _ (by decide +kernel))
    | 0, _, 4, _ => exact Or.inl (hs _ (by decide +kernel))
    | 1, _, 0, _ => exact Or.inr (hs _ (by decide +kernel))
    | 1, _, 1, _ => exact absurd rfl hij
    | 1, _, 2, _ => exact Or.inl (hs _ (by decide +kernel))
    | 1, _, 3, _ => exact Or.inl (hs _ (by decide +kernel))
    | 1, _, 4, _ => exact Or.inl (hs _ (by decide +kernel))
    | 2, _, 0, _ => exact Or.inr (hs _ (by decide +kernel))
    | 2, _, 1, _ => exact Or.inr (hs _ (by decide +kernel))
    | 2, _, 2, _ => exact absurd rfl hij
    | 2, _, 3, _ => exact Or.inl (hs _ (by decide +kernel))
    | 2, _, 4, _ => exact Or.inl (hs _ (by decide +kernel))
    | 3, _, 0, _ => exact Or.inr (hs _ (by decide +kernel))
    | 3, _, 1, _ => exact Or.inr (hs _ (by decide +kernel))
    | 3, _, 2, _ => exact Or.inr (hs _ (by decide +kernel))
    | 3, _, 3, _ => exact absurd rfl hij
    | 3, _, 4, _ => exact Or.inl (hs _ (by decide +kernel))
    | 4, _, 0, _ => exact Or.inr (hs _ (by decide +kernel))
    | 4, _, 1, _ => exact Or.inr (hs _ (by decide +kernel))
    | 4, _, 2, _ => exact Or.inr (hs _ (by decide +kernel))
    | 4, _, 3, _ => exact Or.inr (hs _ (by decide +kernel))
    | 4, _, 4, _ => exact absurd rfl hij
    | i + 5, h, _, _ => exact absurd h (by omega)
    | 0, _, j + 5, h => exact absurd h (by omega)
    | 1, _, j + 5, h => exact absurd h (by omega)
    | 2, _, j + 5, h => exact absurd h (by omega)
    | 3, _, j + 5, h => exact absurd h (by omega)
    | 4, _, j + 5, h => exact absurd h (by omega))
    hA
  refine ⟨adK, adV, hS, (fun i hi => by
      match i, hi with
      | 0, _ => exact vk_R.of (hts _ tb_sM0) (hK 0 (by decide))
      | 1, _ => exact vk_R.of (hts _ tb_sM1) (hK 1 (by decide))
      | 2, _ => exact vk_R.of (hts _ tb_sM2) (hK 2 (by decide))
      | 3, _ => exact vk_R.of (hts _ tb_sM3) (hK 3 (by decide))
      | 4, _ => exact vk_R.of (hts _ tb_sM4) (hK 4 (by decide))
      | i + 5, h => exact absurd h (by omega)), va_Zof (hts _ tb_ls1) (hts _ tb_in1) (va_eqt (hs _ (by decide +kernel))) hA, va_Zqof (hts _ tb_ls2) (hts _ tb_in2) (hs _ (by decide +kernel)) hA⟩
