def ixT : List Nat := [55, 61, 63, 65, 67]
theorem js_charAtV (i : Nat) (hi : i < 5) (v : Int32) (hk : 0 ≤ v.toInt ∧ v.toInt < litN i) (sown : String) (ix : List Nat) (adK adV : Nat → Nat) (tq : Nat) (D : va_G) (l : Launch) (sz : Nat) : Met l yJ0_charAt_5068e (Cond.code yJ0_charAt_5068e cJ0_charAt_5068e 2 (some .char) :: gG) { frames := 4, cells := 0, slots := 0, locals := 240 } (cPS sown ix adK adV tq D [] [] sz [.ref (adK i), .int v]) (vp_Si (fun r => r = zI (litC i v.toInt))) 0 0 (fun _ => False) := by
  have h := js_charAtZ i hi v.toInt hk sown ix adK adV tq D l sz
  rwa [← zI_back] at h
section KT
variable {p : Program} {l : Launch} {e : Env} {R : Room} {s : State} {m : MethodId} {args : Array Value} {below : List Frame} {meth : Method} {c : Code} {H : Heap} {locs : List Loc} {cells slots : Nat} {Q : State → Prop}
variable {cc : ByteArray} {pc nL : Nat} {ls : Array Slot} {rest : List Value} {D : va_G} {A : Nat → Prop} {own Cn : String} {index b : Nat}
variable {sown : String} {ix : List Nat} {adK adV : Nat → Nat} {tq : Nat} {tys tc : List (ClassId × FieldType)} {ws wc : va_W}
variable {y : MethodName} {bytes : ByteArray} {maxL n : Nat} {ret : Option FieldType} {rm : Room} {As : List Value} {Qc : Array Value → State → Outcome → State → Prop} {mc ms : Nat} {free : Nat → Prop} {st0 : List Value}
theorem k_runVT (C : CallFix p m c cc nL s args gG own) (aks : aK s) (hE : sK sown ix adK adV tq A s s.heap) (Wd : wX D tys s ws H A s.heap locs) (cs : csV own index Cn y bytes maxL ret n) (hM : Met l y (Cond.code y bytes maxL ret :: gG) rm (cPS sown ix adK adV tq D tc wc H.size (.ref b :: As)) Qc mc ms free) (isC : List Nat) (hC : isC.map (fun i => ws[i]?) = wc.map some) (hnd : va_nd isC = true) (tC : List Nat) (hT : tC.filterMap (fun i => tys[i]?) = tc) (q0 ci : Nat) {r : vw_C} {fs : List Value} (he : ws[q0]? = some (b, .inr (ci, fs))) (hcl : classes[ci]? = some r) (hcn : r.1 = Cn) (hrc : rm.cells = mc) (hrs : rm.slots = ms) (hR : rm.frames + 1 ≤ R.frames ∧ 8 + (maxL + 11) + rm.locals ≤ R.locals) (hls : ls.size = nL) (hn : As.length = n) (hst : st0 = As.reverse ++ .ref b :: rest) (hW : (rest.map fun v => v.category).sum ≤ 8) (hf : cells + mc ≤ R.cells ∧ slots + ms ≤ R.slots) (hdg : decode cc pc = .ok (.invokevirtual index, 3)) :
    va_Run p l e R s m args below meth c H locs cells slots mc ms (F0 m pc ls st0) rest (Qc (Value.ref b :: As).toArray) free := by
  subst hcn
  exact va_runV C hM (cwV n C.2.2.2.2 cs.1 rfl hrc hrs cs.2 hR) ⟨cPS_blind, va_recv Wd.1 Wd.2.1 hcl he, k_preS Wd aks hE isC hC hnd tC hT _⟩ rfl hn hls hst (lv_room hW) hdg hf
end KT
set_option maxRecDepth 20000 in
theorem ml_X10_69 : Cond.methodLink RX10 69 yJ0_length_8abf5 ∈ gG := gT3 33 rfl rfl
set_option maxRecDepth 20000 in
theorem ml_X10_74 : Cond.methodLink RX10 74 yJ0_charAt_5068e ∈ gG := gT3 43 rfl rfl
set_option maxRecDepth 20000 in
theorem ml_X10_57 : Cond.methodLink RX10 57 yX10_isText ∈ gG := gT3 29 rfl rfl
set_option maxRecDepth 20000 in
theorem im_yX10_isText : Cond.instanceMethod yX10_isText ∈ gG := gT3 31 rfl rfl
set_option maxRecDepth 20000 in
theorem se_yX10_isText : Cond.selects RX10 yX10_isText yX10_isText ∈ gG := gP1 3 rfl
set_option maxRecDepth 20000 in
theorem cd_X10_isText : Cond.code yX10_isText cX10_isText 3 (some .boolean) ∈ gG := gT3 32 rfl rfl
set_option maxRecDepth 20000 in
theorem ml_X10_39 : Cond.methodLink RX10 39 yX10_takeLetters ∈ gG := gT3 24 rfl rfl
set_option maxRecDepth 20000 in
theorem im_yX10_takeLetters : Cond.instanceMethod yX10_takeLetters ∈ gG := gT3 26 rfl rfl
set_option maxRecDepth 20000 in
theorem se_yX10_takeLetters : Cond.selects RX10 yX10_takeLetters yX10_takeLetters ∈ gG := gP1 2 rfl
set_option maxRecDepth 20000 in
theorem cd_X10_takeLetters : Cond.code yX10_takeLetters cX10_takeLetters 2 none ∈ gG := gT3 27 rfl rfl
set_option maxRecDepth 20000 in
theorem ml_X6_91 : Cond.methodLink RX6 91 yX10_advance ∈ gG := gT3 10 rfl rfl
set_option maxRecDepth 20000 in
theorem im_yX10_advance : Cond.instanceMethod yX10_advance ∈ gG := gT3 11 rfl rfl
set_option maxRecDepth 20000 in
theorem se_yX10_advance : Cond.selects RX10 yX10_advance yX10_advance ∈ gG := gT3 12 rfl rfl
set_option maxRecDepth 20000 in
theorem cd_X10_advance : Cond.code yX10_advance cX10_advance 3 none ∈ gG := gT3 13 rfl rfl
set_option maxRecDepth 20000 in
theorem ml_X6_95 : Cond.methodLink RX6 95 yX6_takeBehindThen ∈ gG := gT3 99 rfl rfl
set_option maxRecDepth 20000 in
theorem im_yX6_takeBehindThen : Cond.instanceMethod yX6_takeBehindThen ∈ gG := gT3 101 rfl rfl
set_option maxRecDepth 20000 in
theorem se_yX6_takeBehindThen : Cond.selects RX6 yX6_takeBehindThen yX6_takeBehindThen ∈ gG := gP1 6 rfl
set_option maxRecDepth 20000 in
theorem cd_X6_takeBehindThen : Cond.code yX6_takeBehindThen cX6_takeBehindThen 1 none ∈ gG := gT3 102 rfl rfl
set_option maxRecDepth 20000 in
theorem ml_X6_98 : Cond.methodLink RX6 98 yX6_takeElseBrace ∈ gG := gT3 127 rfl rfl
set_option maxRecDepth 20000 in
theorem im_yX6_takeElseBrace : Cond.instanceMethod yX6_takeElseBrace ∈ gG := gT3 129 rfl rfl
set_option maxRecDepth 20000 in
theorem se_yX6_takeElseBrace : Cond.selects RX6 yX6_takeElseBrace yX6_takeElseBrace ∈ gG := gP1 12 rfl
set_option maxRecDepth 20000 in
theorem cd_X6_takeElseBrace : Cond.code yX6_takeElseBrace cX6_takeElseBrace 1 none ∈ gG := gT3 130 rfl rfl
set_option maxRecDepth 20000 in
theorem ml_X6_101 : Cond.methodLink RX6 101 yX6_takeSetSign ∈ gG := gT3 139 rfl rfl
set_option maxRecDepth 20000 in
theorem im_yX6_takeSetSign : Cond.instanceMethod yX6_takeSetSign ∈ gG := gT3 141 rfl rfl
set_option maxRecDepth 20000 in
theorem se_yX6_takeSetSign : Cond.selects RX6 yX6_takeSetSign yX6_takeSetSign ∈ gG := gP1 15 rfl
set_option maxRecDepth 20000 in
theorem cd_X6_takeSetSign : Cond.code yX6_takeSetSign cX6_takeSetSign 1 none ∈ gG := gT3 142 rfl rfl
set_option maxRecDepth 20000 in
theorem ml_X6_104 : Cond.methodLink RX6 104 yX6_takeSemicolon ∈ gG := gT3 143 rfl rfl
set_option maxRecDepth 20000 in
theorem im_yX6_takeSemicolon : Cond.instanceMethod yX6_takeSemicolon ∈ gG := gT3 145 rfl rfl
set_option maxRecDepth 20000 in
theorem se_yX6_takeSemicolon : Cond.selects RX6 yX6_takeSemicolon yX6_takeSemicolon ∈ gG := gP2 0 rfl
set_option maxRecDepth 20000 in
theorem cd_X6_takeSemicolon : Cond.code yX6_takeSemicolon cX6_takeSemicolon 1 none ∈ gG := gT3 146 rfl rfl
set_option maxRecDepth 20000 in
theorem ml_X6_107 : Cond.methodLink RX6 107 yX6_takeOperand ∈ gG := gT3 147 rfl rfl
set_option maxRecDepth 20000 in
theorem im_yX6_takeOperand : Cond.instanceMethod yX6_takeOperand ∈ gG := gT3 149 rfl rfl
set_option maxRecDepth 20000 in
theorem se_yX6_takeOperand : Cond.selects RX6 yX6_takeOperand yX6_takeOperand ∈ gG := gP2 1 rfl
set_option maxRecDepth 20000 in
theorem cd_X6_takeOperand : Cond.code yX6_takeOperand cX6_takeOperand 1 none ∈ gG := gT3 150 rfl rfl
set_option maxRecDepth 20000 in
theorem ml_X6_110 : Cond.methodLink RX6 110 yX6_takeBehindOperand ∈ gG := gT3 167 rfl rfl
set_option maxRecDepth 20000 in
theorem im_yX6_takeBehindOperand : Cond.instanceMethod yX6_takeBehindOperand ∈ gG := gT3 169 rfl rfl
set_option maxRecDepth 20000 in
theorem se_yX6_takeBehindOperand : Cond.selects RX6 yX6_takeBehindOperand yX6_takeBehindOperand ∈ gG := gP2 5 rfl
set_option maxRecDepth 20000 in
theorem cd_X6_takeBehindOperand : Cond.code yX6_takeBehindOperand cX6_takeBehindOperand 3 none ∈ gG := gT3 170 rfl rfl
set_option maxRecDepth 20000 in
theorem cs_X10_69 : csV RX10 69 RJ0 yJ0_length_8abf5 cJ0_length_8abf5 1 (some .int) 0 := ⟨gV ml_X10_69 im_yJ0_length_8abf5 se_yJ0_length_8abf5 in_J0 cd_J0_length_8abf5, by decide +kernel⟩
set_option maxRecDepth 20000 in
theorem cs_X10_74 : csV RX10 74 RJ0 yJ0_charAt_5068e cJ0_charAt_5068e 2 (some .char) 1 := ⟨gV ml_X10_74 im_yJ0_charAt_5068e se_yJ0_charAt_5068e in_J0 cd_J0_charAt_5068e, by decide +kernel⟩
set_option maxRecDepth 20000 in
theorem cs_X10_57 : csV RX10 57 RX10 yX10_isText cX10_isText 3 (some .boolean) 1 := ⟨gV ml_X10_57 im_yX10_isText se_yX10_isText in_X10 cd_X10_isText, by decide +kernel⟩
set_option maxRecDepth 20000 in
theorem cs_X10_39 : csV RX10 39 RX10 yX10_takeLetters cX10_takeLetters 2 none 0 := ⟨gV ml_X10_39 im_yX10_takeLetters se_yX10_takeLetters in_X10 cd_X10_takeLetters, by decide +kernel⟩
set_option maxRecDepth 20000 in
theorem cs_X6_91 : csV RX6 91 RX10 yX10_advance cX10_advance 3 none 1 := ⟨gV ml_X6_91 im_yX10_advance se_yX10_advance in_X10 cd_X10_advance, by decide +kernel⟩
set_option maxRecDepth 20000 in
theorem cs_X6_95 : csV RX6 95 RX6 yX6_takeBehindThen cX6_takeBehindThen 1 none 0 := ⟨gV ml_X6_95 im_yX6_takeBehindThen se_yX6_takeBehindThen in_X6 cd_X6_takeBehindThen, by decide +kernel⟩
set_option maxRecDepth 20000 in
theorem cs_X6_98 : csV RX6 98 RX6 yX6_takeElseBrace cX6_takeElseBrace 1 none 0 := ⟨gV ml_X6_98 im_yX6_takeElseBrace se_yX6_takeElseBrace in_X6 cd_X6_takeElseBrace, by decide +kernel⟩
set_option maxRecDepth 20000 in
theorem cs_X6_101 : csV RX6 101 RX6 yX6_takeSetSign cX6_takeSetSign 1 none 0 := ⟨gV ml_X6_101 im_yX6_takeSetSign se_yX6_takeSetSign in_X6 cd_X6_takeSetSign, by decide +kernel⟩
set_option maxRecDepth 20000 in
theorem cs_X6_104 : csV RX6 104 RX6 yX6_takeSemicolon cX6_takeSemicolon 1 none 0 := ⟨gV ml_X6_104 im_yX6_takeSemicolon se_yX6_takeSemicolon in_X6 cd_X6_takeSemicolon, by decide +kernel⟩
set_option maxRecDepth 20000 in
theorem cs_X6_107 : csV RX6 107 RX6 yX6_takeOperand cX6_takeOperand 1 none 0 := ⟨gV ml_X6_107 im_yX6_takeOperand se_yX6_takeOperand in_X6 cd_X6_takeOperand, by decide +kernel⟩
set_option maxRecDepth 20000 in
theorem cs_X6_110 : csV RX6 110 RX6 yX6_takeBehindOperand cX6_takeBehindOperand 3 none 0 := ⟨gV ml_X6_110 im_yX6_takeBehindOperand se_yX6_takeBehindOperand in_X6 cd_X6_takeBehindOperand, by decide +kernel⟩
theorem dX10_advance_71 : decode cX10_advance 71 = .ok (.invokevirtual 39, 3) := by decide +kernel
theorem dX10_advance_74 : decode cX10_advance 74 = .ok (.goto 23, 3) := by decide +kernel
theorem dX10_advance_97 : decode cX10_advance 97 = .ok (.return_, 1) := by decide +kernel
theorem dX10_isText_1 : decode cX10_isText 1 = .ok (.invokevirtual 69, 3) := by decide +kernel
theorem dX10_isText_4 : decode cX10_isText 4 = .ok (.aload_n 0, 1) := by decide +kernel
theorem dX10_isText_5 : decode cX10_isText 5 = .ok (.getfield 19, 3) := by decide +kernel
theorem dX10_isText_8 : decode cX10_isText 8 = .ok (.aload_n 0, 1) := by decide +kernel
theorem dX10_isText_9 : decode cX10_isText 9 = .ok (.getfield 22, 3) := by decide +kernel
theorem dX10_isText_12 : decode cX10_isText 12 = .ok (.isub, 1) := by decide +kernel
theorem dX10_isText_13 : decode cX10_isText 13 = .ok (.if_icmp .eq 5, 3) := by decide +kernel
theorem dX10_isText_16 : decode cX10_isText 16 = .ok (.iconst 0, 1) := by decide +kernel
theorem dX10_isText_17 : decode cX10_isText 17 = .ok (.ireturn, 1) := by decide +kernel
theorem dX10_isText_18 : decode cX10_isText 18 = .ok (.iconst 0, 1) := by decide +kernel
theorem dX10_isText_19 : decode cX10_isText 19 = .ok (.istore_n 2, 1) := by decide +kernel
theorem dX10_isText_20 : decode cX10_isText 20 = .ok (.iload_n 2, 1) := by decide +kernel
theorem dX10_isText_21 : decode cX10_isText 21 = .ok (.aload_n 1, 1) := by decide +kernel
theorem dX10_isText_22 : decode cX10_isText 22 = .ok (.invokevirtual 69, 3) := by decide +kernel
theorem dX10_isText_25 : decode cX10_isText 25 = .ok (.if_icmp .ge 29, 3) := by decide +kernel
theorem dX10_isText_28 : decode cX10_isText 28 = .ok (.aload_n 0, 1) := by decide +kernel
theorem dX10_isText_29 : decode cX10_isText 29 = .ok (.aload_n 0, 1) := by decide +kernel
theorem dX10_isText_30 : decode cX10_isText 30 = .ok (.getfield 22, 3) := by decide +kernel
theorem dX10_isText_33 : decode cX10_isText 33 = .ok (.iload_n 2, 1) := by decide +kernel
theorem dX10_isText_34 : decode cX10_isText 34 = .ok (.iadd, 1) := by decide +kernel
theorem dX10_isText_35 : decode cX10_isText 35 = .ok (.invokevirtual 31, 3) := by decide +kernel
theorem dX10_isText_38 : decode cX10_isText 38 = .ok (.aload_n 1, 1) := by decide +kernel
theorem dX10_isText_39 : decode cX10_isText 39 = .ok (.iload_n 2, 1) := by decide +kernel
theorem dX10_isText_40 : decode cX10_isText 40 = .ok (.invokevirtual 74, 3) := by decide +kernel
theorem dX10_isText_43 : decode cX10_isText 43 = .ok (.if_icmp .eq 5, 3) := by decide +kernel
theorem dX10_isText_46 : decode cX10_isText 46 = .ok (.iconst 0, 1) := by decide +kernel
theorem dX10_isText_47 : decode cX10_isText 47 = .ok (.ireturn, 1) := by decide +kernel
theorem dX10_isText_48 : decode cX10_isText 48 = .ok (.iinc 2 1, 3) := by decide +kernel
theorem dX10_isText_51 : decode cX10_isText 51 = .ok (.goto (-31), 3) := by decide +kernel
theorem dX10_isText_54 : decode cX10_isText 54 = .ok (.iconst 1, 1) := by decide +kernel
theorem dX10_isText_55 : decode cX10_isText 55 = .ok (.ireturn, 1) := by decide +kernel
theorem dX10_takeLetters_73 : decode cX10_takeLetters 73 = .ok (.aload_n 0, 1) := by decide +kernel
theorem dX10_takeLetters_74 : decode cX10_takeLetters 74 = .ok (.aload_n 0, 1) := by decide +kernel
theorem dX10_takeLetters_75 : decode cX10_takeLetters 75 = .ok (.aload_n 0, 1) := by decide +kernel
theorem dX10_takeLetters_76 : decode cX10_takeLetters 76 = .ok (.getfield 22, 3) := by decide +kernel
theorem dX10_takeLetters_79 : decode cX10_takeLetters 79 = .ok (.invokevirtual 31, 3) := by decide +kernel
theorem dX10_takeLetters_82 : decode cX10_takeLetters 82 = .ok (.invokestatic 52, 3) := by decide +kernel
theorem dX10_takeLetters_85 : decode cX10_takeLetters 85 = .ok (.ifCond .eq 7, 3) := by decide +kernel
theorem dX10_takeLetters_88 : decode cX10_takeLetters 88 = .ok (.iconst 3, 1) := by decide +kernel
theorem dX10_takeLetters_89 : decode cX10_takeLetters 89 = .ok (.goto 4, 3) := by decide +kernel
theorem dX10_takeLetters_92 : decode cX10_takeLetters 92 = .ok (.iconst 0, 1) := by decide +kernel
theorem dX10_takeLetters_93 : decode cX10_takeLetters 93 = .ok (.putfield 25, 3) := by decide +kernel
theorem dX10_takeLetters_96 : decode cX10_takeLetters 96 = .ok (.goto 92, 3) := by decide +kernel
theorem dX10_takeLetters_100 : decode cX10_takeLetters 100 = .ok (.ldc 55, 2) := by decide +kernel
theorem dX10_takeLetters_102 : decode cX10_takeLetters 102 = .ok (.invokevirtual 57, 3) := by decide +kernel
theorem dX10_takeLetters_105 : decode cX10_takeLetters 105 = .ok (.ifCond .eq 11, 3) := by decide +kernel
theorem dX10_takeLetters_108 : decode cX10_takeLetters 108 = .ok (.aload_n 0, 1) := by decide +kernel
theorem dX10_takeLetters_109 : decode cX10_takeLetters 109 = .ok (.iconst 4, 1) := by decide +kernel
theorem dX10_takeLetters_110 : decode cX10_takeLetters 110 = .ok (.putfield 25, 3) := by decide +kernel
theorem dX10_takeLetters_113 : decode cX10_takeLetters 113 = .ok (.goto 75, 3) := by decide +kernel
theorem dX10_takeLetters_116 : decode cX10_takeLetters 116 = .ok (.aload_n 0, 1) := by decide +kernel
theorem dX10_takeLetters_117 : decode cX10_takeLetters 117 = .ok (.ldc 61, 2) := by decide +kernel
theorem dX10_takeLetters_119 : decode cX10_takeLetters 119 = .ok (.invokevirtual 57, 3) := by decide +kernel
theorem dX10_takeLetters_122 : decode cX10_takeLetters 122 = .ok (.ifCond .eq 11, 3) := by decide +kernel
theorem dX10_takeLetters_125 : decode cX10_takeLetters 125 = .ok (.aload_n 0, 1) := by decide +kernel
theorem dX10_takeLetters_126 : decode cX10_takeLetters 126 = .ok (.iconst 5, 1) := by decide +kernel
theorem dX10_takeLetters_127 : decode cX10_takeLetters 127 = .ok (.putfield 25, 3) := by decide +kernel
theorem dX10_takeLetters_130 : decode cX10_takeLetters 130 = .ok (.goto 58, 3) := by decide +kernel
theorem dX10_takeLetters_133 : decode cX10_takeLetters 133 = .ok (.aload_n 0, 1) := by decide +kernel
theorem dX10_takeLetters_134 : decode cX10_takeLetters 134 = .ok (.ldc 63, 2) := by decide +kernel
theorem dX10_takeLetters_136 : decode cX10_takeLetters 136 = .ok (.invokevirtual 57, 3) := by decide +kernel
theorem dX10_takeLetters_139 : decode cX10_takeLetters 139 = .ok (.ifCond .eq 12, 3) := by decide +kernel
theorem dX10_takeLetters_142 : decode cX10_takeLetters 142 = .ok (.aload_n 0, 1) := by decide +kernel
theorem dX10_takeLetters_143 : decode cX10_takeLetters 143 = .ok (.bipush 6, 2) := by decide +kernel
theorem dX10_takeLetters_145 : decode cX10_takeLetters 145 = .ok (.putfield 25, 3) := by decide +kernel
theorem dX10_takeLetters_148 : decode cX10_takeLetters 148 = .ok (.goto 40, 3) := by decide +kernel
theorem dX10_takeLetters_151 : decode cX10_takeLetters 151 = .ok (.aload_n 0, 1) := by decide +kernel
theorem dX10_takeLetters_152 : decode cX10_takeLetters 152 = .ok (.ldc 65, 2) := by decide +kernel
theorem dX10_takeLetters_154 : decode cX10_takeLetters 154 = .ok (.invokevirtual 57, 3) := by decide +kernel
theorem dX10_takeLetters_157 : decode cX10_takeLetters 157 = .ok (.ifCond .eq 12, 3) := by decide +kernel
theorem dX10_takeLetters_160 : decode cX10_takeLetters 160 = .ok (.aload_n 0, 1) := by decide +kernel
theorem dX10_takeLetters_161 : decode cX10_takeLetters 161 = .ok (.bipush 7, 2) := by decide +kernel
theorem dX10_takeLetters_163 : decode cX10_takeLetters 163 = .ok (.putfield 25, 3) := by decide +kernel
theorem dX10_takeLetters_166 : decode cX10_takeLetters 166 = .ok (.goto 22, 3) := by decide +kernel
theorem dX10_takeLetters_169 : decode cX10_takeLetters 169 = .ok (.aload_n 0, 1) := by decide +kernel
theorem dX10_takeLetters_170 : decode cX10_takeLetters 170 = .ok (.aload_n 0, 1) := by decide +kernel
theorem dX10_takeLetters_171 : decode cX10_takeLetters 171 = .ok (.ldc 67, 2) := by decide +kernel
theorem dX10_takeLetters_173 : decode cX10_takeLetters 173 = .ok (.invokevirtual 57, 3) := by decide +kernel
theorem dX10_takeLetters_176 : decode cX10_takeLetters 176 = .ok (.ifCond .eq 8, 3) := by decide +kernel
theorem dX10_takeLetters_179 : decode cX10_takeLetters 179 = .ok (.bipush 8, 2) := by decide +kernel
theorem dX10_takeLetters_181 : decode cX10_takeLetters 181 = .ok (.goto 4, 3) := by decide +kernel
theorem dX10_takeLetters_184 : decode cX10_takeLetters 184 = .ok (.iconst 0, 1) := by decide +kernel
theorem dX10_takeLetters_185 : decode cX10_takeLetters 185 = .ok (.putfield 25, 3) := by decide +kernel
theorem dX10_takeLetters_188 : decode cX10_takeLetters 188 = .ok (.return_, 1) := by decide +kernel
theorem dX4_applyRule_4 : decode cX4_applyRule 4 = .ok (.iconst 0, 1) := by decide +kernel
theorem dX4_applyRule_5 : decode cX4_applyRule 5 = .ok (.ireturn, 1) := by decide +kernel
theorem dX6_beginProgram_6 : decode cX6_beginProgram 6 = .ok (.invokevirtual 48, 3) := by decide +kernel
theorem dX6_beginProgram_9 : decode cX6_beginProgram 9 = .ok (.aload_n 0, 1) := by decide +kernel
theorem dX6_beginProgram_10 : decode cX6_beginProgram 10 = .ok (.iconst 0, 1) := by decide +kernel
theorem dX6_beginProgram_11 : decode cX6_beginProgram 11 = .ok (.putfield 52, 3) := by decide +kernel
theorem dX6_beginProgram_14 : decode cX6_beginProgram 14 = .ok (.return_, 1) := by decide +kernel
theorem dX6_readAll_42 : decode cX6_readAll 42 = .ok (.iconst 0, 1) := by decide +kernel
theorem dX6_readAll_43 : decode cX6_readAll 43 = .ok (.invokevirtual 91, 3) := by decide +kernel
theorem dX6_readAll_46 : decode cX6_readAll 46 = .ok (.aload_n 0, 1) := by decide +kernel
theorem dX6_readAll_47 : decode cX6_readAll 47 = .ok (.getfield 52, 3) := by decide +kernel
theorem dX6_readAll_50 : decode cX6_readAll 50 = .ok (.tableswitch 80 1 6 #[38, 45, 52, 59, 66, 73], 38) := by decide +kernel
theorem dX6_readAll_88 : decode cX6_readAll 88 = .ok (.aload_n 0, 1) := by decide +kernel
theorem dX6_readAll_89 : decode cX6_readAll 89 = .ok (.invokevirtual 95, 3) := by decide +kernel
theorem dX6_readAll_92 : decode cX6_readAll 92 = .ok (.goto 42, 3) := by decide +kernel
theorem dX6_readAll_95 : decode cX6_readAll 95 = .ok (.aload_n 0, 1) := by decide +kernel
theorem dX6_readAll_96 : decode cX6_readAll 96 = .ok (.invokevirtual 98, 3) := by decide +kernel
theorem dX6_readAll_99 : decode cX6_readAll 99 = .ok (.goto 35, 3) := by decide +kernel
theorem dX6_readAll_102 : decode cX6_readAll 102 = .ok (.aload_n 0, 1) := by decide +kernel
theorem dX6_readAll_103 : decode cX6_readAll 103 = .ok (.invokevirtual 101, 3) := by decide +kernel
theorem dX6_readAll_106 : decode cX6_readAll 106 = .ok (.goto 28, 3) := by decide +kernel
theorem dX6_readAll_109 : decode cX6_readAll 109 = .ok (.aload_n 0, 1) := by decide +kernel
theorem dX6_readAll_110 : decode cX6_readAll 110 = .ok (.invokevirtual 104, 3) := by decide +kernel
theorem dX6_readAll_113 : decode cX6_readAll 113 = .ok (.goto 21, 3) := by decide +kernel
theorem dX6_readAll_116 : decode cX6_readAll 116 = .ok (.aload_n 0, 1) := by decide +kernel
theorem dX6_readAll_117 : decode cX6_readAll 117 = .ok (.invokevirtual 107, 3) := by decide +kernel
theorem dX6_readAll_120 : decode cX6_readAll 120 = .ok (.goto 14, 3) := by decide +kernel
theorem dX6_readAll_123 : decode cX6_readAll 123 = .ok (.aload_n 0, 1) := by decide +kernel
theorem dX6_readAll_124 : decode cX6_readAll 124 = .ok (.invokevirtual 110, 3) := by decide +kernel
theorem dX6_readAll_127 : decode cX6_readAll 127 = .ok (.goto 7, 3) := by decide +kernel
theorem dX6_readAll_130 : decode cX6_readAll 130 = .ok (.aload_n 0, 1) := by decide +kernel
theorem dX6_readAll_131 : decode cX6_readAll 131 = .ok (.invokevirtual 113, 3) := by decide +kernel
theorem dX6_readAll_134 : decode cX6_readAll 134 = .ok (.iinc 1 1, 3) := by decide +kernel
theorem dX6_readAll_137 : decode cX6_readAll 137 = .ok (.goto (-135), 3) := by decide +kernel
theorem dX6_readAll_140 : decode cX6_readAll 140 = .ok (.aload_n 0, 1) := by decide +kernel
theorem dX6_readAll_141 : decode cX6_readAll 141 = .ok (.getfield 12, 3) := by decide +kernel
theorem dX6_readAll_144 : decode cX6_readAll 144 = .ok (.iconst 0, 1) := by decide +kernel
theorem dX6_readAll_145 : decode cX6_readAll 145 = .ok (.invokevirtual 44, 3) := by decide +kernel
theorem dX6_readAll_148 : decode cX6_readAll 148 = .ok (.pop, 1) := by decide +kernel
theorem dX6_readAll_149 : decode cX6_readAll 149 = .ok (.aload_n 0, 1) := by decide +kernel
theorem dX6_readAll_150 : decode cX6_readAll 150 = .ok (.getfield 37, 3) := by decide +kernel
theorem dX6_readAll_153 : decode cX6_readAll 153 = .ok (.ifCond .ne 7, 3) := by decide +kernel
theorem dX6_readAll_156 : decode cX6_readAll 156 = .ok (.iconst 1, 1) := by decide +kernel
theorem dX6_readAll_157 : decode cX6_readAll 157 = .ok (.goto 4, 3) := by decide +kernel
theorem dX6_readAll_160 : decode cX6_readAll 160 = .ok (.iconst 0, 1) := by decide +kernel
theorem dX6_readAll_161 : decode cX6_readAll 161 = .ok (.ireturn, 1) := by decide +kernel
theorem dX6_takeLetter_7 : decode cX6_takeLetter 7 = .ok (.aload_n 0, 1) := by decide +kernel
theorem dX6_takeLetter_8 : decode cX6_takeLetter 8 = .ok (.getfield 12, 3) := by decide +kernel
theorem dX6_takeLetter_11 : decode cX6_takeLetter 11 = .ok (.getfield 131, 3) := by decide +kernel
theorem dX6_takeLetter_14 : decode cX6_takeLetter 14 = .ok (.goto 13, 3) := by decide +kernel
theorem dX6_takeLetter_40 : decode cX6_takeLetter 40 = .ok (.bipush 6, 2) := by decide +kernel
theorem dX6_takeLetter_42 : decode cX6_takeLetter 42 = .ok (.goto 4, 3) := by decide +kernel
