def txL : List String := ["out", "fail", "if", "else", "while"]
def lenL : List Nat := [3, 4, 2, 4, 5]
def bytL : List (List Int32) := [[111, 117, 116], [102, 97, 105, 108], [105, 102], [101, 108, 115, 101], [119, 104, 105, 108, 101]]
def ixM : List Nat := [147, 153, 155, 157, 159]
/-- the String constants of a class stand outside A -/
def sK (own : String) (ix : List Nat) (adK adV : Nat → Nat) (tq : Nat) (A : Nat → Prop) (U : State) (H : Heap) : Prop :=
  vk_S 5 lenL bytL adK adV A U H ∧ (∀ i, i < 5 → vk_R own (ix.getD i 0) (txL.getD i "") (adK i) U) ∧ va_Z "java/lang/String" "COMPACT_STRINGS" "Z" (.int 1) A U H ∧ va_Zq "jdk/internal/util/Preconditions" "SIOOBE_FORMATTER" "Ljava/util/function/BiFunction;" A U H
section SKK
variable {own : String} {ix : List Nat} {adK adV : Nat → Nat} {tq : Nat} {A B : Nat → Prop} {H H1 : Heap}
theorem sK.same {u U : State} (hv : U.vm = u.vm) (h : sK own ix adK adV tq A u H) : sK own ix adK adV tq A U H :=
  ⟨vk_S.moved (by rw [hv]; exact Vm.Alike.refl _) h.1, fun i hi => vk_R.same hv (h.2.1 i hi), va_Z.moved (by rw [hv]; exact Vm.Alike.refl _) h.2.2.1, va_Zq.moved (by rw [hv]; exact Vm.Alike.refl _) h.2.2.2⟩
theorem sK.warm {s U : State} (hW : s.WarmedH U.vm) (h : sK own ix adK adV tq A s H) : sK own ix adK adV tq A U H :=
  ⟨vk_S.moved hW.alike h.1, fun i hi => vk_R.warm hW (h.2.1 i hi), va_Z.moved hW.alike h.2.2.1, va_Zq.moved hW.alike h.2.2.2⟩
theorem sK.kept {U : State} (h : sK own ix adK adV tq A U H) (hq : ∀ a : Nat, a < H.size → ¬ A a → H1[a]? = H[a]?) : sK own ix adK adV tq A U H1 :=
  ⟨h.1.kept hq, h.2.1, h.2.2.1.kept hq, h.2.2.2.kept hq⟩
theorem sK.narrow {U : State} (h : sK own ix adK adV tq A U H) (hAB : ∀ q, B q → A q) : sK own ix adK adV tq B U H :=
  ⟨h.1.narrow hAB, h.2.1, h.2.2.1.narrow hAB, h.2.2.2.narrow hAB⟩
def cPS (own : String) (ix : List Nat) (adK adV : Nat → Nat) (tq : Nat) (D : va_G) (tys : List (ClassId × FieldType)) (ws : va_W) (sz : Nat) (av : List Value) : Array Value → State → Prop :=
  fun args U => cPre D tys ws sz av args U ∧ sK own ix adK adV tq (va_A ws sz) U U.heap
theorem cPS_blind {D : va_G} {tys : List (ClassId × FieldType)} {ws : va_W} {sz : Nat} {av : List Value} : FrameBlind (cPS own ix adK adV tq D tys ws sz av) := by
  intro a U g mk q
  exact ⟨cPre_blind a U g mk q.1, sK.same (u := U) rfl q.2⟩
theorem k_preS {D : va_G} {tys tc : List (ClassId × FieldType)} {s : State} {ws wc : va_W} {locs : List Loc} (Wd : wX D tys s ws H A s.heap locs) (aks : aK s) (hE : sK own ix adK adV tq A s s.heap) (isC : List Nat) (hC : isC.map (fun i => ws[i]?) = wc.map some) (hn : va_nd isC = true) (tC : List Nat) (hT : tC.filterMap (fun i => tys[i]?) = tc) (av : List Value) :
    ∀ U : State, U.heap = H → s.WarmedH U.vm → cPS own ix adK adV tq D tc wc H.size av av.toArray U := by
  intro U hU hW
  refine ⟨k_pre Wd aks isC hC hn tC hT av U hU hW, ?_⟩
  rw [hU]
  exact ((hE.kept Wd.2.2.2.1.2.1).narrow (va_free (wc := wc) Wd.2.2.1 Wd.2.2.2.1 Wd.2.2.2.2 isC hC)).warm hW
end SKK
section KS
variable {p : Program} {l : Launch} {e : Env} {R : Room} {s : State} {m : MethodId} {args : Array Value} {below : List Frame} {meth : Method} {c : Code} {H : Heap} {locs : List Loc} {cells slots : Nat} {Q : State → Prop}
variable {cc : ByteArray} {pc nL : Nat} {ls : Array Slot} {rest : List Value} {D : va_G} {A : Nat → Prop} {own : String} {index : Nat} {h : Nat} {ad : Nat → Nat} {ca : Nat → ClassId} {I : Nat → Int} {F : Nat → Int → Int}
variable {sown : String} {ix : List Nat} {adK adV : Nat → Nat} {tq : Nat} {tys : List (ClassId × FieldType)} {ws : va_W}
variable {y : MethodName} {bytes : ByteArray} {maxL n : Nat} {ret : Option FieldType} {rm : Room} {As : List Value} {Qc : Array Value → State → Outcome → State → Prop} {mc ms : Nat} {free : Nat → Prop} {st0 : List Value}
theorem k_runVE {i : Nat} (C : CallFix p m c cc nL s args gG own) (aks : aK s) (hE : sK sown ix adK adV tq A s s.heap) (hi : i < 5) (Wd : wX D tys s ws H A s.heap locs) (cs : csV own index "java/lang/String" y bytes maxL ret n) (hM : Met l y (Cond.code y bytes maxL ret :: gG) rm (cPS sown ix adK adV tq D [] [] H.size (.ref (adK i) :: As)) Qc mc ms free) (hrc : rm.cells = mc) (hrs : rm.slots = ms) (hR : rm.frames + 1 ≤ R.frames ∧ 8 + (maxL + 11) + rm.locals ≤ R.locals) (hls : ls.size = nL) (hn : As.length = n) (hst : st0 = As.reverse ++ .ref (adK i) :: rest) (hW : (rest.map fun v => v.category).sum ≤ 8) (hf : cells + mc ≤ R.cells ∧ slots + ms ≤ R.slots) (hdg : decode cc pc = .ok (.invokevirtual index, 3)) :
    va_Run p l e R s m args below meth c H locs cells slots mc ms (F0 m pc ls st0) rest (Qc (Value.ref (adK i) :: As).toArray) free :=
  va_runV C hM (cwV n C.2.2.2.2 cs.1 rfl hrc hrs cs.2 hR) ⟨cPS_blind, vk_recv hE.1 hi Wd.2.2.2.1, k_preS Wd aks hE [] rfl rfl [] rfl _⟩ rfl hn hls hst (lv_room hW) hdg hf
theorem k_runSE (C : CallFix p m c cc nL s args gG own) (aks : aK s) (hE : sK sown ix adK adV tq A s s.heap) (Wd : wX D tys s ws H A s.heap locs) (cs : csS own index y bytes maxL ret n) (hM : Met l y (Cond.code y bytes maxL ret :: gG) rm (cPS sown ix adK adV tq D [] [] H.size As) Qc mc ms free) (hrc : rm.cells = mc) (hrs : rm.slots = ms) (hR : rm.frames + 1 ≤ R.frames ∧ 8 + (maxL + 11) + rm.locals ≤ R.locals) (hls : ls.size = nL) (hn : As.length = n) (hst : st0 = As.reverse ++ rest) (hW : (rest.map fun v => v.category).sum ≤ 8) (hf : cells + mc ≤ R.cells ∧ slots + ms ≤ R.slots) (hdg : decode cc pc = .ok (.invokestatic index, 3)) :
    va_Run p l e R s m args below meth c H locs cells slots mc ms (F0 m pc ls st0) rest (Qc As.toArray) free :=
  va_runS C hM (va_cwS n C.2.2.2.2 cs.1 rfl hrc hrs cs.2 hR) ⟨cPS_blind, k_preS Wd aks hE [] rfl rfl [] rfl _⟩ rfl hn hls hst (lv_room hW) hdg hf
theorem k_runVMS (C : CallFix p m c cc nL s args gG own) (aks : aK s) (hE : sK sown ix adK adV tq A s s.heap) (Wd : wXM D ca s h ad I F H A s.heap locs) (cs : csV own index RX12 y bytes maxL ret n) (hM : Met l y (Cond.code y bytes maxL ret :: gG) rm (cPS sown ix adK adV tq D (tM ca) (wM h ad ca I F) H.size (.ref h :: As)) Qc mc ms free) (hrc : rm.cells = mc) (hrs : rm.slots = ms) (hR : rm.frames + 1 ≤ R.frames ∧ 8 + (maxL + 11) + rm.locals ≤ R.locals) (hls : ls.size = nL) (hn : As.length = n) (hst : st0 = As.reverse ++ .ref h :: rest) (hW : (rest.map fun v => v.category).sum ≤ 8) (hf : cells + mc ≤ R.cells ∧ slots + ms ≤ R.slots) (hdg : decode cc pc = .ok (.invokevirtual index, 3)) :
    va_Run p l e R s m args below meth c H locs cells slots mc ms (F0 m pc ls st0) rest (Qc (Value.ref h :: As).toArray) free :=
  va_runV C hM (cwV n C.2.2.2.2 cs.1 rfl hrc hrs cs.2 hR) ⟨cPS_blind, va_recv (q := (RX12, TX12, 56)) Wd.1.1 Wd.1.2.1 rfl wM0, k_preS Wd.1 aks hE (List.range 26) (wM_all h ad ca I F) (by decide) (List.range 25) (tM_all ca) _⟩ rfl hn hls hst (lv_room hW) hdg hf
end KS

theorem js_all : ∀ i, i < 5 → lenL.getD i 0 ≤ 5 ∧ ∀ k, k < 5 → (bytL.getD i []).getD k 0 &&& 255 = (bytL.getD i []).getD k 0 ∧ (((bytL.getD i []).getD k 0).toUInt32 % 65536).toInt32 = (bytL.getD i []).getD k 0 ∧ narrow .char (.int ((bytL.getD i []).getD k 0)) = .int ((bytL.getD i []).getD k 0) ∧ ((bytL.getD i []).getD k 0) = zI ((litL i).getD k 0) ∧ rng ((litL i).getD k 0) := by decide +kernel
theorem js_len : ∀ i, i < 5 → Int32.ofNat (lenL.getD i 0) >>> ((0 : Int32) &&& 31) = Int32.ofNat (lenL.getD i 0) ∧ Int32.ofNat (lenL.getD i 0) = zI (litL i).length ∧ (litL i).length = lenL.getD i 0 := by decide +kernel
theorem js_shr0 {i : Nat} (hi : i < 5) : Int32.ofNat (lenL.getD i 0) >>> ((0 : Int32) &&& 31) = Int32.ofNat (lenL.getD i 0) := (js_len i hi).1
theorem js_k5 {i k : Nat} (hi : i < 5) (hk : k < lenL.getD i 0) : k < 5 := by have := (js_all i hi).1; omega
theorem js_nn {i k : Nat} (hi : i < 5) (hk : k < lenL.getD i 0) : ¬ Int32.ofNat k < 0 := fun q => by
  have := kz_lt q
  have t := kz_len (n := k) rfl (by have := js_k5 hi hk; omega)
  have z : (0 : Int32).toInt = 0 := by decide
  omega
theorem js_lt {i k : Nat} (hi : i < 5) (hk : k < lenL.getD i 0) : Int32.ofNat k < Int32.ofNat (lenL.getD i 0) := by
  have a := kz_len (n := k) rfl (by have := js_k5 hi hk; omega)
  have b := kz_len (n := lenL.getD i 0) rfl (by have := (js_all i hi).1; omega)
  exact Int32.lt_iff_toInt_lt.mpr (by rw [a, b]; omega)
theorem js_in {i k : Nat} (hi : i < 5) (hk : k < lenL.getD i 0) : vp_in (Int32.ofNat k) (lenL.getD i 0) := by
  have a := kz_len (n := k) rfl (by have := js_k5 hi hk; omega)
  exact vp_in_iff.mpr ⟨by rw [a]; omega, by rw [a]; omega⟩
theorem js_at {i k : Nat} (hi : i < 5) (hk : k < lenL.getD i 0) : (fun j => Value.int ((bytL.getD i []).getD j 0)) (Int32.ofNat k).toNatClampNeg = .int ((bytL.getD i []).getD k 0) := by
  have : (Int32.ofNat k).toNatClampNeg = k := Int32.toNatClampNeg_ofNat_of_lt (by have := js_k5 hi hk; omega)
  show Value.int ((bytL.getD i []).getD (Int32.ofNat k).toNatClampNeg 0) = _
  rw [this]
theorem js_and {i k : Nat} (hi : i < 5) (hk : k < lenL.getD i 0) : (bytL.getD i []).getD k 0 &&& 255 = (bytL.getD i []).getD k 0 := ((js_all i hi).2 k (js_k5 hi hk)).1
theorem js_i2c {i k : Nat} (hi : i < 5) (hk : k < lenL.getD i 0) : (((bytL.getD i []).getD k 0).toUInt32 % 65536).toInt32 = (bytL.getD i []).getD k 0 := ((js_all i hi).2 k (js_k5 hi hk)).2.1
theorem js_nar {i k : Nat} (hi : i < 5) (hk : k < lenL.getD i 0) : narrow .char (.int ((bytL.getD i []).getD k 0)) = .int ((bytL.getD i []).getD k 0) := ((js_all i hi).2 k (js_k5 hi hk)).2.2.1
theorem js_ch {i k : Nat} (hi : i < 5) (hk : k < lenL.getD i 0) : (bytL.getD i []).getD k 0 = zI ((litL i).getD k 0) := ((js_all i hi).2 k (js_k5 hi hk)).2.2.2.1

set_option maxHeartbeats 4000000 in
set_option maxRecDepth 100000 in
theorem js_coder (i : Nat) (hi : i < 5) (sown : String) (ix : List Nat) (adK adV : Nat → Nat) (tq : Nat) (D : va_G) (l : Launch) (sz : Nat) : Met l yJ0_coder_7d493 (Cond.code yJ0_coder_7d493 cJ0_coder_7d493 1 (some .byte) :: gG) { frames := 1, cells := 0, slots := 0, locals := 64 } (cPS sown ix adK adV tq D [] [] sz [.ref (adK i)]) (vp_Si (fun r => r = 0)) 0 0 (fun _ => False) := by
  refine Met.ofW (cc := cJ0_coder_7d493) (maxL := 1) (ret := (some .byte)) (by decide) rfl ?_
  intro p e s m args below meth c s₁ B hml hv
  obtain ⟨hv, hE⟩ := hv
  obtain ⟨rfl, aks, rfl, Wd⟩ := k_enter hv
  have C : CallFix p m c cJ0_coder_7d493 1 s _ gG RJ0 := ⟨B.exec, B.bytes, hml, findClass_of_methodNamed B.named, fun w h => atoms_spec (ws := Cond.code yJ0_coder_7d493 cJ0_coder_7d493 1 (some .byte) :: gG) B.pre w (List.mem_cons_of_mem _ h)⟩
  have hr := B.returns
  have hlk := B.notSynchronized
  generalize va_A [] s.heap.size = A at Wd hE
  refine k_locals (Nat.le_of_ble_eq_true rfl) [(0, .ref (adK i))] rfl (fun ls hl => ?_)
  refine va_gets C.1 C.2.1 (C := "java/lang/String") hE.2.2.1 Wd.2.2.2.1 C.2.2.2.1 (C.2.2.2.2 _ fl_J0_38) (fun _ h => h) dJ0_coder_7d493_0 ?_
  refine lv_if_eq (tgt := 13) C.1 C.2.1 dJ0_coder_7d493_3 (by decide) (fun c3 => absurd c3 (by decide)) (fun _ => ?_)
  refine lv_aload_n C.1 C.2.1 dJ0_coder_7d493_6 rfl (lv_at hl 0 rfl) ?_
  refine vk_getf C.1 C.2.1 (hE.1.1 i hi).2.1 Wd.2.2.2.1 C.2.2.2.1 (C.2.2.2.2 _ fl_J0_15) (fun _ h => h) dJ0_coder_7d493_7 ?_
  refine lv_goto (tgt := 14) C.1 C.2.1 dJ0_coder_7d493_10 (by decide) ?_
  exact k_zretP C hr hlk rfl rfl dJ0_coder_7d493_14
set_option maxHeartbeats 4000000 in
set_option maxRecDepth 100000 in
theorem js_isLatin1 (i : Nat) (hi : i < 5) (sown : String) (ix : List Nat) (adK adV : Nat → Nat) (tq : Nat) (D : va_G) (l : Launch) (sz : Nat) : Met l yJ0_isLatin1_aae02 (Cond.code yJ0_isLatin1_aae02 cJ0_isLatin1_aae02 1 (some .boolean) :: gG) { frames := 1, cells := 0, slots := 0, locals := 64 } (cPS sown ix adK adV tq D [] [] sz [.ref (adK i)]) (vp_Si (fun r => r = 1)) 0 0 (fun _ => False) := by
  refine Met.ofW (cc := cJ0_isLatin1_aae02) (maxL := 1) (ret := (some .boolean)) (by decide) rfl ?_
  intro p e s m args below meth c s₁ B hml hv
  obtain ⟨hv, hE⟩ := hv
  obtain ⟨rfl, aks, rfl, Wd⟩ := k_enter hv
  have C : CallFix p m c cJ0_isLatin1_aae02 1 s _ gG RJ0 := ⟨B.exec, B.bytes, hml, findClass_of_methodNamed B.named, fun w h => atoms_spec (ws := Cond.code yJ0_isLatin1_aae02 cJ0_isLatin1_aae02 1 (some .boolean) :: gG) B.pre w (List.mem_cons_of_mem _ h)⟩
  have hr := B.returns
  have hlk := B.notSynchronized
  generalize va_A [] s.heap.size = A at Wd hE
  refine k_locals (Nat.le_of_ble_eq_true rfl) [(0, .ref (adK i))] rfl (fun ls hl => ?_)
  refine va_gets C.1 C.2.1 (C := "java/lang/String") hE.2.2.1 Wd.2.2.2.1 C.2.2.2.1 (C.2.2.2.2 _ fl_J0_38) (fun _ h => h) dJ0_isLatin1_aae02_0 ?_
  refine lv_if_eq (tgt := 17) C.1 C.2.1 dJ0_isLatin1_aae02_3 (by decide) (fun c3 => absurd c3 (by decide)) (fun _ => ?_)
  refine lv_aload_n C.1 C.2.1 dJ0_isLatin1_aae02_6 rfl (lv_at hl 0 rfl) ?_
  refine vk_getf C.1 C.2.1 (hE.1.1 i hi).2.1 Wd.2.2.2.1 C.2.2.2.1 (C.2.2.2.2 _ fl_J0_15) (fun _ h => h) dJ0_isLatin1_aae02_7 ?_
  refine lv_if_ne (tgt := 17) C.1 C.2.1 dJ0_isLatin1_aae02_10 (by decide) (fun c3 => absurd rfl c3) (fun _ => ?_)
  refine lv_iconst (v := 1) C.1 C.2.1 dJ0_isLatin1_aae02_13 (by decide) ?_
  refine lv_goto (tgt := 18) C.1 C.2.1 dJ0_isLatin1_aae02_14 (by decide) ?_
  exact k_zretP C hr hlk rfl rfl dJ0_isLatin1_aae02_18
set_option maxHeartbeats 4000000 in
set_option maxRecDepth 100000 in
theorem js_length (i : Nat) (hi : i < 5) (sown : String) (ix : List Nat) (adK adV : Nat → Nat) (tq : Nat) (D : va_G) (l : Launch) (sz : Nat) : Met l yJ0_length_8abf5 (Cond.code yJ0_length_8abf5 cJ0_length_8abf5 1 (some .int) :: gG) { frames := 2, cells := 0, slots := 0, locals := 120 } (cPS sown ix adK adV tq D [] [] sz [.ref (adK i)]) (vp_Si (fun r => r = Int32.ofNat (lenL.getD i 0))) 0 0 (fun _ => False) := by
  refine Met.ofW (cc := cJ0_length_8abf5) (maxL := 1) (ret := (some .int)) (by decide) rfl ?_
  intro p e s m args below meth c s₁ B hml hv
  obtain ⟨hv, hE⟩ := hv
  obtain ⟨rfl, aks, rfl, Wd⟩ := k_enter hv
  have C : CallFix p m c cJ0_length_8abf5 1 s _ gG RJ0 := ⟨B.exec, B.bytes, hml, findClass_of_methodNamed B.named, fun w h => atoms_spec (ws := Cond.code yJ0_length_8abf5 cJ0_length_8abf5 1 (some .int) :: gG) B.pre w (List.mem_cons_of_mem _ h)⟩
  have hr := B.returns
  have hlk := B.notSynchronized
  generalize va_A [] s.heap.size = A at Wd hE
  refine k_locals (Nat.le_of_ble_eq_true rfl) [(0, .ref (adK i))] rfl (fun ls hl => ?_)
  refine lv_aload_n C.1 C.2.1 dJ0_length_8abf5_0 rfl (lv_at hl 0 rfl) ?_
  refine vk_getf C.1 C.2.1 (hE.1.1 i hi).2.2.1 Wd.2.2.2.1 C.2.2.2.1 (C.2.2.2.2 _ fl_J0_9) (fun _ h => h) dJ0_length_8abf5_1 ?_
  refine va_tlen C.1 C.2.1 (hE.1.1 i hi).2.2.2 Wd.2.2.2.1 rfl dJ0_length_8abf5_4 ?_
  refine lv_aload_n C.1 C.2.1 dJ0_length_8abf5_5 rfl (lv_at hl 0 rfl) ?_
  refine k_pi (k_runVE (rest := [.int (Int32.ofNat (lenL.getD i 0))]) C aks hE hi Wd cs_J0_335 (js_coder i hi _ _ _ _ _ D l _) rfl rfl ⟨(Nat.le_of_ble_eq_true rfl), (Nat.le_of_ble_eq_true rfl)⟩ hl.1 rfl rfl (Nat.le_of_ble_eq_true rfl) ⟨(Nat.le_of_ble_eq_true rfl), (Nat.le_of_ble_eq_true rfl)⟩ dJ0_length_8abf5_6) (fun r hy => ?_)
  subst hy
  refine k_ishr (v := Int32.ofNat (lenL.getD i 0)) C (js_shr0 hi) dJ0_length_8abf5_9 ?_
  exact k_zretP C hr hlk rfl rfl dJ0_length_8abf5_10
set_option maxHeartbeats 4000000 in
set_option maxRecDepth 100000 in
theorem js_pre (tp : Nat) (x n : Int32) (h0 : ¬ x < 0) (h1 : x < n) (sown : String) (ix : List Nat) (adK adV : Nat → Nat) (tq : Nat) (D : va_G) (l : Launch) (sz : Nat) : Met l yJ3_checkIndex_8e157 (Cond.code yJ3_checkIndex_8e157 cJ3_checkIndex_8e157 3 (some .int) :: gG) { frames := 1, cells := 0, slots := 0, locals := 64 } (cPS sown ix adK adV tq D [] [] sz [.int x, .int n, .ref tp]) (vp_Si (fun r => r = x)) 0 0 (fun _ => False) := by
  refine Met.ofW (cc := cJ3_checkIndex_8e157) (maxL := 3) (ret := (some .int)) (by decide) rfl ?_
  intro p e s m args below meth c s₁ B hml hv
  obtain ⟨hv, hE⟩ := hv
  obtain ⟨rfl, aks, rfl, Wd⟩ := k_enter hv
  have C : CallFix p m c cJ3_checkIndex_8e157 3 s _ gG RJ3 := ⟨B.exec, B.bytes, hml, findClass_of_methodNamed B.named, fun w h => atoms_spec (ws := Cond.code yJ3_checkIndex_8e157 cJ3_checkIndex_8e157 3 (some .int) :: gG) B.pre w (List.mem_cons_of_mem _ h)⟩
  have hr := B.returns
  have hlk := B.notSynchronized
  generalize va_A [] s.heap.size = A at Wd hE
  refine k_locals (Nat.le_of_ble_eq_true rfl) [(0, .int x), (1, .int n), (2, .ref tp)] rfl (fun ls hl => ?_)
  refine lv_iload_n C.1 C.2.1 dJ3_checkIndex_8e157_0 rfl (lv_at hl 0 rfl) ?_
  refine lv_if_lt (tgt := 9) C.1 C.2.1 dJ3_checkIndex_8e157_1 (by decide) (fun c => absurd c h0) (fun _ => ?_)
  refine lv_iload_n C.1 C.2.1 dJ3_checkIndex_8e157_4 rfl (lv_at hl 0 rfl) ?_
  refine lv_iload_n C.1 C.2.1 dJ3_checkIndex_8e157_5 rfl (lv_at hl 1 rfl) ?_
  refine lv_icmp_lt (tgt := 16) C.1 C.2.1 dJ3_checkIndex_8e157_6 (by decide) (fun _ => ?_) (fun c => absurd h1 c)
  refine lv_iload_n C.1 C.2.1 dJ3_checkIndex_8e157_16 rfl (lv_at hl 0 rfl) ?_
  exact k_zretP C hr hlk rfl rfl dJ3_checkIndex_8e157_17
set_option maxHeartbeats 4000000 in
set_option maxRecDepth 100000 in
theorem js_preN (x n : Int32) (h0 : ¬ x < 0) (h1 : x < n) (sown : String) (ix : List Nat) (adK adV : Nat → Nat) (tq : Nat) (D : va_G) (l : Launch) (sz : Nat) : Met l yJ3_checkIndex_8e157 (Cond.code yJ3_checkIndex_8e157 cJ3_checkIndex_8e157 3 (some .int) :: gG) { frames := 1, cells := 0, slots := 0, locals := 64 } (cPS sown ix adK adV tq D [] [] sz [.int x, .int n, .null]) (vp_Si (fun r => r = x)) 0 0 (fun _ => False) := by
  refine Met.ofW (cc := cJ3_checkIndex_8e157) (maxL := 3) (ret := (some .int)) (by decide) rfl ?_
  intro p e s m args below meth c s₁ B hml hv
  obtain ⟨hv, hE⟩ := hv
  obtain ⟨rfl, aks, rfl, Wd⟩ := k_enter hv
  have C : CallFix p m c cJ3_checkIndex_8e157 3 s _ gG RJ3 := ⟨B.exec, B.bytes, hml, findClass_of_methodNamed B.named, fun w h => atoms_spec (ws := Cond.code yJ3_checkIndex_8e157 cJ3_checkIndex_8e157 3 (some .int) :: gG) B.pre w (List.mem_cons_of_mem _ h)⟩
  have hr := B.returns
  have hlk := B.notSynchronized
  generalize va_A [] s.heap.size = A at Wd hE
  refine k_locals (Nat.le_of_ble_eq_true rfl) [(0, .int x), (1, .int n), (2, .null)] rfl (fun ls hl => ?_)
  refine lv_iload_n C.1 C.2.1 dJ3_checkIndex_8e157_0 rfl (lv_at hl 0 rfl) ?_
  refine lv_if_lt (tgt := 9) C.1 C.2.1 dJ3_checkIndex_8e157_1 (by decide) (fun c => absurd c h0) (fun _ => ?_)
  refine lv_iload_n C.1 C.2.1 dJ3_checkIndex_8e157_4 rfl (lv_at hl 0 rfl) ?_
  refine lv_iload_n C.1 C.2.1 dJ3_checkIndex_8e157_5 rfl (lv_at hl 1 rfl) ?_
  refine lv_icmp_lt (tgt := 16) C.1 C.2.1 dJ3_checkIndex_8e157_6 (by decide) (fun _ => ?_) (fun c => absurd h1 c)
  refine lv_iload_n C.1 C.2.1 dJ3_checkIndex_8e157_16 rfl (lv_at hl 0 rfl) ?_
  exact k_zretP C hr hlk rfl rfl dJ3_checkIndex_8e157_17
set_option maxHeartbeats 4000000 in
set_option maxRecDepth 100000 in
theorem js_check (x n : Int32) (h0 : ¬ x < 0) (h1 : x < n) (sown : String) (ix : List Nat) (adK adV : Nat → Nat) (tq : Nat) (D : va_G) (l : Launch) (sz : Nat) : Met l yJ0_checkIndex_df160 (Cond.code yJ0_checkIndex_df160 cJ0_checkIndex_df160 2 none :: gG) { frames := 2, cells := 0, slots := 0, locals := 120 } (cPS sown ix adK adV tq D [] [] sz [.int x, .int n]) (va_Sv (fun _ => True)) 0 0 (fun _ => False) := by
  refine Met.ofW (cc := cJ0_checkIndex_df160) (maxL := 2) (ret := none) (by decide) rfl ?_
  intro p e s m args below meth c s₁ B hml hv
  obtain ⟨hv, hE⟩ := hv
  obtain ⟨rfl, aks, rfl, Wd⟩ := k_enter hv
  have C : CallFix p m c cJ0_checkIndex_df160 2 s _ gG RJ0 := ⟨B.exec, B.bytes, hml, findClass_of_methodNamed B.named, fun w h => atoms_spec (ws := Cond.code yJ0_checkIndex_df160 cJ0_checkIndex_df160 2 none :: gG) B.pre w (List.mem_cons_of_mem _ h)⟩
  have hr := B.returns
  have hlk := B.notSynchronized
  generalize va_A [] s.heap.size = A at Wd hE
  refine k_locals (Nat.le_of_ble_eq_true rfl) [(0, .int x), (1, .int n)] rfl (fun ls hl => ?_)
  refine lv_iload_n C.1 C.2.1 dJ0_checkIndex_df160_0 rfl (lv_at hl 0 rfl) ?_
  refine lv_iload_n C.1 C.2.1 dJ0_checkIndex_df160_1 rfl (lv_at hl 1 rfl) ?_
  rcases hE.2.2.2 with hZ | ⟨tp, hZ⟩
  · refine va_gets C.1 C.2.1 (C := "jdk/internal/util/Preconditions") hZ Wd.2.2.2.1 C.2.2.2.1 (C.2.2.2.2 _ fl_J0_1053) (fun _ h => h) dJ0_checkIndex_df160_2 ?_
    refine k_pi (k_runSE (rest := []) C aks hE Wd cs_J0_1059 (js_preN x n h0 h1 _ _ _ _ _ D l _) rfl rfl ⟨(Nat.le_of_ble_eq_true rfl), (Nat.le_of_ble_eq_true rfl)⟩ hl.1 rfl rfl (Nat.le_of_ble_eq_true rfl) ⟨(Nat.le_of_ble_eq_true rfl), (Nat.le_of_ble_eq_true rfl)⟩ dJ0_checkIndex_df160_5) (fun r hy => ?_)
    refine lv_pop C.1 C.2.1 dJ0_checkIndex_df160_8 rfl ?_
    exact k_vretP C hr hlk trivial dJ0_checkIndex_df160_9
  · refine va_gets C.1 C.2.1 (C := "jdk/internal/util/Preconditions") hZ Wd.2.2.2.1 C.2.2.2.1 (C.2.2.2.2 _ fl_J0_1053) (fun _ h => h) dJ0_checkIndex_df160_2 ?_
    refine k_pi (k_runSE (rest := []) C aks hE Wd cs_J0_1059 (js_pre tp x n h0 h1 _ _ _ _ _ D l _) rfl rfl ⟨(Nat.le_of_ble_eq_true rfl), (Nat.le_of_ble_eq_true rfl)⟩ hl.1 rfl rfl (Nat.le_of_ble_eq_true rfl) ⟨(Nat.le_of_ble_eq_true rfl), (Nat.le_of_ble_eq_true rfl)⟩ dJ0_checkIndex_df160_5) (fun r hy => ?_)
    refine lv_pop C.1 C.2.1 dJ0_checkIndex_df160_8 rfl ?_
    exact k_vretP C hr hlk trivial dJ0_checkIndex_df160_9
set_option maxHeartbeats 4000000 in
set_option maxRecDepth 100000 in
theorem js_lat (i : Nat) (hi : i < 5) (k : Nat) (hk : k < lenL.getD i 0) (sown : String) (ix : List Nat) (adK adV : Nat → Nat) (tq : Nat) (D : va_G) (l : Launch) (sz : Nat) : Met l yJ1_charAt_3b067 (Cond.code yJ1_charAt_3b067 cJ1_charAt_3b067 2 (some .char) :: gG) { frames := 3, cells := 0, slots := 0, locals := 180 } (cPS sown ix adK adV tq D [] [] sz [.ref (adV i), .int (Int32.ofNat k)]) (vp_Si (fun r => r = (bytL.getD i []).getD k 0)) 0 0 (fun _ => False) := by
  refine Met.ofW (cc := cJ1_charAt_3b067) (maxL := 2) (ret := (some .char)) (by decide) rfl ?_
  intro p e s m args below meth c s₁ B hml hv
  obtain ⟨hv, hE⟩ := hv
  obtain ⟨rfl, aks, rfl, Wd⟩ := k_enter hv
  have C : CallFix p m c cJ1_charAt_3b067 2 s _ gG RJ1 := ⟨B.exec, B.bytes, hml, findClass_of_methodNamed B.named, fun w h => atoms_spec (ws := Cond.code yJ1_charAt_3b067 cJ1_charAt_3b067 2 (some .char) :: gG) B.pre w (List.mem_cons_of_mem _ h)⟩
  have hr := B.returns
  have hlk := B.notSynchronized
  generalize va_A [] s.heap.size = A at Wd hE
  refine k_locals (Nat.le_of_ble_eq_true rfl) [(0, .ref (adV i)), (1, .int (Int32.ofNat k))] rfl (fun ls hl => ?_)
  refine lv_iload_n C.1 C.2.1 dJ1_charAt_3b067_0 rfl (lv_at hl 1 rfl) ?_
  refine lv_aload_n C.1 C.2.1 dJ1_charAt_3b067_1 rfl (lv_at hl 0 rfl) ?_
  refine va_tlen C.1 C.2.1 (hE.1.1 i hi).2.2.2 Wd.2.2.2.1 rfl dJ1_charAt_3b067_2 ?_
  refine k_pv (k_runSE (rest := []) C aks hE Wd cs_J1_9 (js_check _ _ (js_nn hi hk) (js_lt hi hk) _ _ _ _ _ D l _) rfl rfl ⟨(Nat.le_of_ble_eq_true rfl), (Nat.le_of_ble_eq_true rfl)⟩ hl.1 rfl rfl (Nat.le_of_ble_eq_true rfl) ⟨(Nat.le_of_ble_eq_true rfl), (Nat.le_of_ble_eq_true rfl)⟩ dJ1_charAt_3b067_3) (fun _ => ?_)
  refine lv_aload_n C.1 C.2.1 dJ1_charAt_3b067_6 rfl (lv_at hl 0 rfl) ?_
  refine lv_iload_n C.1 C.2.1 dJ1_charAt_3b067_7 rfl (lv_at hl 1 rfl) ?_
  refine va_tb (v := .int ((bytL.getD i []).getD k 0)) C.1 C.2.1 (hE.1.1 i hi).2.2.2 Wd.2.2.2.1 (js_in hi hk) (js_at hi hk) dJ1_charAt_3b067_8 ?_
  refine lv_sipush (v := 255) C.1 C.2.1 dJ1_charAt_3b067_9 (by decide) ?_
  refine k_iand (v := (bytL.getD i []).getD k 0) C (js_and hi hk) dJ1_charAt_3b067_12 ?_
  refine lv_i2c (v := (bytL.getD i []).getD k 0) C.1 C.2.1 dJ1_charAt_3b067_13 (js_i2c hi hk) ?_
  exact k_zretP C hr hlk (js_nar hi hk) rfl dJ1_charAt_3b067_14
set_option maxHeartbeats 4000000 in
set_option maxRecDepth 100000 in
theorem js_charAt (i : Nat) (hi : i < 5) (k : Nat) (hk : k < lenL.getD i 0) (sown : String) (ix : List Nat) (adK adV : Nat → Nat) (tq : Nat) (D : va_G) (l : Launch) (sz : Nat) : Met l yJ0_charAt_5068e (Cond.code yJ0_charAt_5068e cJ0_charAt_5068e 2 (some .char) :: gG) { frames := 4, cells := 0, slots := 0, locals := 240 } (cPS sown ix adK adV tq D [] [] sz [.ref (adK i), .int (Int32.ofNat k)]) (vp_Si (fun r => r = (bytL.getD i []).getD k 0)) 0 0 (fun _ => False) := by
  refine Met.ofW (cc := cJ0_charAt_5068e) (maxL := 2) (ret := (some .char)) (by decide) rfl ?_
  intro p e s m args below meth c s₁ B hml hv
  obtain ⟨hv, hE⟩ := hv
  obtain ⟨rfl, aks, rfl, Wd⟩ := k_enter hv
  have C : CallFix p m c cJ0_charAt_5068e 2 s _ gG RJ0 := ⟨B.exec, B.bytes, hml, findClass_of_methodNamed B.named, fun w h => atoms_spec (ws := Cond.code yJ0_charAt_5068e cJ0_charAt_5068e 2 (some .char) :: gG) B.pre w (List.mem_cons_of_mem _ h)⟩
  have hr := B.returns
  have hlk := B.notSynchronized
  generalize va_A [] s.heap.size = A at Wd hE
  refine k_locals (Nat.le_of_ble_eq_true rfl) [(0, .ref (adK i)), (1, .int (Int32.ofNat k))] rfl (fun ls hl => ?_)
  refine lv_aload_n C.1 C.2.1 dJ0_charAt_5068e_0 rfl (lv_at hl 0 rfl) ?_
  refine k_pi (k_runVE (rest := []) C aks hE hi Wd cs_J0_492 (js_isLatin1 i hi _ _ _ _ _ D l _) rfl rfl ⟨(Nat.le_of_ble_eq_true rfl), (Nat.le_of_ble_eq_true rfl)⟩ hl.1 rfl rfl (Nat.le_of_ble_eq_true rfl) ⟨(Nat.le_of_ble_eq_true rfl), (Nat.le_of_ble_eq_true rfl)⟩ dJ0_charAt_5068e_1) (fun r hy => ?_)
  subst hy
  refine lv_if_eq (tgt := 16) C.1 C.2.1 dJ0_charAt_5068e_4 (by decide) (fun c3 => absurd c3 (by decide)) (fun _ => ?_)
  refine lv_aload_n C.1 C.2.1 dJ0_charAt_5068e_7 rfl (lv_at hl 0 rfl) ?_
  refine vk_getf C.1 C.2.1 (hE.1.1 i hi).2.2.1 Wd.2.2.2.1 C.2.2.2.1 (C.2.2.2.2 _ fl_J0_9) (fun _ h => h) dJ0_charAt_5068e_8 ?_
  refine lv_iload_n C.1 C.2.1 dJ0_charAt_5068e_11 rfl (lv_at hl 1 rfl) ?_
  refine k_pi (k_runSE (rest := []) C aks hE Wd cs_J0_495 (js_lat i hi k hk _ _ _ _ _ D l _) rfl rfl ⟨(Nat.le_of_ble_eq_true rfl), (Nat.le_of_ble_eq_true rfl)⟩ hl.1 rfl rfl (Nat.le_of_ble_eq_true rfl) ⟨(Nat.le_of_ble_eq_true rfl), (Nat.le_of_ble_eq_true rfl)⟩ dJ0_charAt_5068e_12) (fun r hy => ?_)
  subst hy
  exact k_zretP C hr hlk (js_nar hi hk) rfl dJ0_charAt_5068e_15
def litN (i : Int) : Int := (litL i).length
def litC (i k : Int) : Int := (litL i).getD k.toNat 0
theorem js_lenZ {i : Nat} (hi : i < 5) {r : Int32} (h : r = Int32.ofNat (lenL.getD i 0)) : r = zI (litN i) := h.trans (js_len i hi).2.1
theorem js_gN {i : Nat} (hi : i < 5) : rng (litN i) := ⟨by unfold litN; omega, by unfold litN; have := (js_len i hi).2.2; have := (js_all i hi).1; omega⟩
theorem js_gC {i : Nat} (hi : i < 5) {k : Int} (hk : 0 ≤ k ∧ k < litN i) : rng (litC i k) := ((js_all i hi).2 k.toNat (by unfold litN at hk; have := (js_len i hi).2.2; have := (js_all i hi).1; omega)).2.2.2.2
theorem js_charAtZ (i : Nat) (hi : i < 5) (k : Int) (hk : 0 ≤ k ∧ k < litN i) (sown : String) (ix : List Nat) (adK adV : Nat → Nat) (tq : Nat) (D : va_G) (l : Launch) (sz : Nat) : Met l yJ0_charAt_5068e (Cond.code yJ0_charAt_5068e cJ0_charAt_5068e 2 (some .char) :: gG) { frames := 4, cells := 0, slots := 0, locals := 240 } (cPS sown ix adK adV tq D [] [] sz [.ref (adK i), .int (zI k)]) (vp_Si (fun r => r = zI (litC i k))) 0 0 (fun _ => False) := by
  have h1 : k.toNat < lenL.getD i 0 := by unfold litN at hk; have := (js_len i hi).2.2; omega
  have e1 : zI k = Int32.ofNat k.toNat := by
    have : zI k = zI (k.toNat : Int) := congrArg zI (by omega)
    exact this.trans Int32.ofInt_eq_ofNat
  have e2 : zI (litC i k) = (bytL.getD i []).getD k.toNat 0 := (js_ch hi h1).symm
  rw [e1, e2]
  exact js_charAt i hi k.toNat h1 sown ix adK adV tq D l sz
