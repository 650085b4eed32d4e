section L4
variable {ad : Nat → Nat} {ca : Nat → ClassId} {P P' : Nat → Value → Value → Prop} {cel : Nat → Cl}
def putC (cel : Nat → Cl) (i : Nat) (c : Cl) : Nat → Cl := fun k => if k = i then c else cel k
theorem wN_set {N i : Nat} {c : Cl} (h : i < N) : (wN N cel).set i c = wN N (putC cel i c) := by
  apply List.ext_getElem?
  intro k
  rw [List.getElem?_set]
  by_cases hk : i = k
  · subst hk
    have hl : i < (wN N cel).length := by simpa [wN] using h
    rw [if_pos rfl, if_pos hl, wN_at h]
    show some c = some (if i = i then c else cel i)
    rw [if_pos rfl]
  · rw [if_neg hk]
    by_cases hN : k < N
    · rw [wN_at hN, wN_at hN]
      show some (cel k) = some (if k = i then c else cel k)
      rw [if_neg (fun q => hk q.symm)]
    · rw [List.getElem?_eq_none (by simp [wN]; omega), List.getElem?_eq_none (by simp [wN]; omega)]
theorem wN_put {N i j : Nat} {c : Cl} (h : j ≠ i) : (wN N (putC cel i c))[j]? = (wN N cel)[j]? := by
  by_cases hN : j < N
  · rw [wN_at hN, wN_at hN]
    show some (if j = i then c else cel j) = some (cel j)
    rw [if_neg h]
  · rw [List.getElem?_eq_none (by simp [wN]; omega), List.getElem?_eq_none (by simp [wN]; omega)]
theorem at_E {k a : Nat} {E : va_E → Prop} (hk : k < NC) (h : kC a E (cel k)) : ∃ x, (wN NC cel)[k]? = some (a, x) ∧ E x := by
  obtain ⟨x, hx, hE⟩ := h.of
  exact ⟨x, by rw [wN_at hk, hx], hE⟩
theorem Inv_put (hI : InvC ad ca P cel) {i : Nat} {c : Cl} (hc : shC ad ca P i c) : InvC ad ca P (putC cel i c) := by
  intro k hk
  unfold putC
  by_cases h : k = i
  · rw [if_pos h, h]; exact hc
  · rw [if_neg h]; exact hI k hk
def okC (is ts : List Nat) : Bool := va_nd is && is.all (fun k => decide (k < NC)) && ts.all (fun k => decide (k < NC) && !(Nat.beq k 1 || Nat.beq k 67 || Nat.beq k 30 || Nat.beq k 68))
theorem okC_nd {is ts : List Nat} (h : okC is ts = true) : va_nd is = true := by
  unfold okC at h
  exact (Bool.and_eq_true_iff.mp (Bool.and_eq_true_iff.mp h).1).1
theorem okC_lt {is ts : List Nat} (h : okC is ts = true) : ∀ k ∈ is, k < NC := by
  unfold okC at h
  intro k hk
  exact of_decide_eq_true (List.all_eq_true.mp (Bool.and_eq_true_iff.mp (Bool.and_eq_true_iff.mp h).1).2 k hk)
theorem okC_ty {is ts : List Nat} (h : okC is ts = true) : ∀ k ∈ ts, k < NC ∧ tyC k = .int := by
  unfold okC at h
  intro k hk
  have q := List.all_eq_true.mp (Bool.and_eq_true_iff.mp h).2 k hk
  have q1 := Bool.and_eq_true_iff.mp q
  refine ⟨of_decide_eq_true q1.1, ?_⟩
  have q2 := q1.2
  simp only [Bool.not_eq_true', Bool.or_eq_false_iff] at q2
  obtain ⟨⟨⟨a1, a2⟩, a3⟩, a4⟩ := q2
  have b1 : k ≠ 1 := fun e => by subst e; exact absurd a1 (by decide)
  have b2 : k ≠ 67 := fun e => by subst e; exact absurd a2 (by decide)
  have b3 : k ≠ 30 := fun e => by subst e; exact absurd a3 (by decide)
  have b4 : k ≠ 68 := fun e => by subst e; exact absurd a4 (by decide)
  unfold tyC
  rw [if_neg (by omega), if_neg (by omega), if_neg (by omega)]
theorem tC_ok {is ts : List Nat} {tc : List (ClassId × FieldType)} (h : okC is ts = true) (ht : ts.map (fun k => (ca k, FieldType.int)) = tc) : ts.filterMap (fun i => (tC ca)[i]?) = tc := by
  rw [tC_pick ts (fun k hk => (okC_ty h k hk).1), ← ht]
  exact List.map_congr_left (fun k hk => by rw [(okC_ty h k hk).2])
theorem tC_at' {k : Nat} (h : k < NC) : (tC ca)[k]? = some (ca k, tyC k) := by simp [tC, h]
theorem tC_at {k : Nat} (h : k < NC) (ht : tyC k = .int) : (tC ca)[k]? = some (ca k, .int) := by rw [tC_at' h, ht]
theorem wN_all (cel : Nat → Cl) : (List.range NC).map (fun i => (wN NC cel)[i]?) = (wN NC cel).map some := wN_pick (List.range NC) (fun _ h => List.mem_range.mp h)
theorem tC_all (ca : Nat → ClassId) : (List.range NC).filterMap (fun i => (tC ca)[i]?) = tC ca := by
  rw [tC_pick (List.range NC) (fun _ h => List.mem_range.mp h)]; rfl
set_option maxRecDepth 20000 in
theorem ndR : va_nd (List.range NC) = true := by decide +kernel
theorem capR_hi (i : Nat) : capR i ≤ 1000 := by unfold capR; split <;> omega
theorem capR_lo (i : Nat) : 1 ≤ capR i := by unfold capR; split <;> omega
def Imp (sh : Nat → Cl → Prop) : List (Cl → Prop) → List Nat → Prop
  | [], [] => True
  | p :: ps, k :: ks => (∀ c, p c → sh k c) ∧ Imp sh ps ks
  | _, _ => False
theorem ShL.imp {sh : Nat → Cl → Prop} : ∀ {ps : List (Cl → Prop)} {is : List Nat} {u : List Cl}, Imp sh ps is → ShL ps u → ShL (is.map sh) u
  | [], [], [], _, _ => trivial
  | [], [], _ :: _, _, h => h.elim
  | [], _ :: _, _, h, _ => h.elim
  | _ :: _, [], _, h, _ => h.elim
  | _ :: _, _ :: _, [], _, h => h.elim
  | p :: ps, k :: ks, c :: cs, h, hs => ⟨h.1 c hs.1, ShL.imp h.2 hs.2⟩
theorem setP_ne {i k : Nat} {p : Value → Value → Prop} (h : k ≠ i) : setP P i p k = P k := by
  unfold setP
  rw [show Nat.beq k i = false from Bool.eq_false_iff.mpr (fun q => h (Nat.eq_of_beq_eq_true q))]
  rfl
theorem PT_ne {T T' : Value → Prop} {k : Nat} (h : k ≠ 3) : pTp T k = pTp T' k := by
  unfold pTp
  rw [show Nat.beq k 3 = false from Bool.eq_false_iff.mpr (fun q => h (Nat.eq_of_beq_eq_true q))]
  rfl
theorem hs_set {i : Nat} {p : Value → Value → Prop} {is : List Nat} (hi : i ∈ is) : ∀ k, k ∉ is → P k = setP P i p k := fun k hk => (setP_ne (fun (q : k = i) => hk (by rw [q]; exact hi))).symm
theorem hs_unset {i : Nat} {p : Value → Value → Prop} {is : List Nat} (hi : i ∈ is) : ∀ k, k ∉ is → setP P i p k = P k := fun k hk => setP_ne (fun (q : k = i) => hk (by rw [q]; exact hi))
theorem hs_PT {T T' : Value → Prop} {is : List Nat} (hi : 3 ∈ is) : ∀ k, k ∉ is → pTp T k = pTp T' k := fun k hk => PT_ne (fun (q : k = 3) => hk (by rw [q]; exact hi))
theorem hs_rd {T T' : Value → Prop} {p : Value → Value → Prop} {is : List Nat} (h2 : 2 ∈ is) (h3 : 3 ∈ is) : ∀ k, k ∉ is → setP (pTp T) 2 p k = pTp T' k := fun k hk => (setP_ne (fun (q : k = 2) => hk (by rw [q]; exact h2))).trans (PT_ne (fun (q : k = 3) => hk (by rw [q]; exact h3)))
section LF
variable {l : Launch} {y : MethodName} {ws : List Cond} {rm : Room} {D : va_G} {sz : Nat} {av : List Value} {is ts : List Nat} {tc : List (ClassId × FieldType)} {ps' : List (Cl → Prop)}
theorem shP_eq {k : Nat} (h : P k = P' k) : shC ad ca P k = shC ad ca P' k := by unfold shC; rw [sh_P h]
theorem liftV4 {R : Prop} (hI : InvC ad ca P cel) (ok : okC is ts = true)
    (hM : Met l y ws rm (cPre D tc (is.map cel) sz av) (va_Qv (fun (u : va_W) => R ∧ ShL ps' u) (fun u t => cB D (va_A (is.map cel) sz) [] u t) (va_A (is.map cel) sz)) 0 0 (va_A (is.map cel) sz))
    (htc : ts.map (fun k => (ca k, FieldType.int)) = tc) (hsame : ∀ k, k ∉ is → P k = P' k) (hi : Imp (shC ad ca P') ps' is) :
    Met l y ws rm (cPre D (tC ca) (wN NC cel) sz av) (va_Qv (fun (c' : Nat → Cl) => R ∧ InvC ad ca P' c') (fun c' t => cB D (va_A (wN NC cel) sz) [] (wN NC c') t) (va_A (wN NC cel) sz)) 0 0 (va_A (wN NC cel) sz) := by
  refine liftV (sh := shC ad ca P) (sh' := shC ad ca P') is (okC_lt ok) (okC_nd ok) ts (tC_ok ok htc) hI (fun k hk c hc => hc.1.trans (hI k (okC_lt ok k hk)).1.symm) (fun k hk => shP_eq (hsame k hk)) ?_
  refine hM.mono (fun _ _ h => h) (fun a st o t _ hq => ?_) (fun _ h => h)
  obtain ⟨⟨u, ho, ⟨hR, hs⟩, hB⟩, hF⟩ := hq
  exact ⟨⟨u, ho, ⟨hR, hs.imp hi⟩, hB⟩, hF⟩
theorem liftI4 {R : Int32 → Prop} (hI : InvC ad ca P cel) (ok : okC is ts = true)
    (hM : Met l y ws rm (cPre D tc (is.map cel) sz av) (va_Qi (fun (r : Int32) (u : va_W) => R r ∧ ShL ps' u) (fun u t => cB D (va_A (is.map cel) sz) [] u t) (va_A (is.map cel) sz)) 0 0 (va_A (is.map cel) sz))
    (htc : ts.map (fun k => (ca k, FieldType.int)) = tc) (hsame : ∀ k, k ∉ is → P k = P' k) (hi : Imp (shC ad ca P') ps' is) :
    Met l y ws rm (cPre D (tC ca) (wN NC cel) sz av) (va_Qi (fun (r : Int32) (c' : Nat → Cl) => R r ∧ InvC ad ca P' c') (fun c' t => cB D (va_A (wN NC cel) sz) [] (wN NC c') t) (va_A (wN NC cel) sz)) 0 0 (va_A (wN NC cel) sz) := by
  refine liftI (sh := shC ad ca P) (sh' := shC ad ca P') is (okC_lt ok) (okC_nd ok) ts (tC_ok ok htc) hI (fun k hk c hc => hc.1.trans (hI k (okC_lt ok k hk)).1.symm) (fun k hk => shP_eq (hsame k hk)) ?_
  refine hM.mono (fun _ _ h => h) (fun a st o t _ hq => ?_) (fun _ h => h)
  obtain ⟨⟨r, u, ho, ⟨hR, hs⟩, hB⟩, hF⟩ := hq
  exact ⟨⟨r, u, ho, ⟨hR, hs.imp hi⟩, hB⟩, hF⟩
theorem liftIS4 {sown : String} {ix : List Nat} {adK adV : Nat → Nat} {tq : Nat} {R : Int32 → Prop} (hI : InvC ad ca P cel) (ok : okC is ts = true)
    (hM : Met l y ws rm (cPS sown ix adK adV tq D tc (is.map cel) sz av) (va_Qi (fun (r : Int32) (u : va_W) => R r ∧ ShL ps' u) (fun u t => cB D (va_A (is.map cel) sz) [] u t) (va_A (is.map cel) sz)) 0 0 (va_A (is.map cel) sz))
    (htc : ts.map (fun k => (ca k, FieldType.int)) = tc) (hsame : ∀ k, k ∉ is → P k = P' k) (hi : Imp (shC ad ca P') ps' is) :
    Met l y ws rm (cPS sown ix adK adV tq D (tC ca) (wN NC cel) sz av) (va_Qi (fun (r : Int32) (c' : Nat → Cl) => R r ∧ InvC ad ca P' c') (fun c' t => cB D (va_A (wN NC cel) sz) [] (wN NC c') t) (va_A (wN NC cel) sz)) 0 0 (va_A (wN NC cel) sz) := by
  refine hM.mono (fun a U hp => ⟨cPre_sub is (okC_lt ok) (okC_nd ok) ts (tC_ok ok htc) hp.1, hp.2.narrow (A_sub is (okC_lt ok))⟩) (fun a st o t hp hq => ?_) (A_sub is (okC_lt ok))
  obtain ⟨⟨r, u, ho, ⟨hR, hs⟩, hB⟩, hF⟩ := hq
  obtain ⟨h1, h2⟩ := cB_all is (okC_lt ok) (okC_nd ok) hp.1 hB hF (hs.imp hi) (fun k hk c hc => hc.1.trans (hI k (okC_lt ok k hk)).1.symm)
  exact ⟨⟨r, _, ho, ⟨hR, Inv_set (sh := shC ad ca P) (sh' := shC ad ca P') hI is (okC_nd ok) (hs.imp hi) (fun k hk => shP_eq (hsame k hk))⟩, h1⟩, h2⟩
end LF
section KC4
variable {p : Program} {l : Launch} {e : Env} {R : Room} {s : State} {m : MethodId} {args : Array Value} {below : List Frame} {meth : Method} {c : Code} {H : Heap} {locs : List Loc} {Q : State → Prop}
variable {cc : ByteArray} {pc nL : Nat} {ls : Array Slot} {rest : List Value} {D : va_G} {A : Nat → Prop} {H0 : Heap} {own : String} {st0 : List Value} {av : Array Value}
theorem kc_i {Rp : Int32 → Prop} (Wd : wX D (tC ca) s (wN NC cel) H A H0 locs)
    (hr : va_Run p l e R s m args below meth c H locs 0 0 0 0 (F0 m pc ls st0) rest (va_Qi (fun (r : Int32) (c' : Nat → Cl) => Rp r ∧ InvC ad ca P' c') (fun c' t => cB D (va_A (wN NC cel) H.size) [] (wN NC c') t) (va_A (wN NC cel) H.size) av) (va_A (wN NC cel) H.size))
    (kk : ∀ (r : Int32) (c' : Nat → Cl) (H1 : Heap) (locs1 : List Loc), Rp r → InvC ad ca P' c' → wX D (tC ca) s (wN NC c') H1 A H0 locs1 → W p l e R s m args below meth c H1 locs1 0 0 Q (F0 m (pc + 3) ls (.int r :: rest))) : W p l e R s m args below meth c H locs 0 0 Q (F0 m pc ls st0) := by
  refine k_ci (t1 := fun _ => []) (w1 := fun c' => wN NC c') Wd (List.range NC) [] (wN_all cel) (wr := []) rfl (by decide) (by intro i hi; cases hi) (cells' := 0) (slots' := 0) (by decide) (by decide) hr (fun r u H1 locs1 hp W1 => ?_)
  exact kk r u H1 locs1 hp.1 hp.2 (by rw [List.append_nil] at W1; exact W1)
theorem kc_v {Rp : Prop} (Wd : wX D (tC ca) s (wN NC cel) H A H0 locs)
    (hr : va_Run p l e R s m args below meth c H locs 0 0 0 0 (F0 m pc ls st0) rest (va_Qv (fun (c' : Nat → Cl) => Rp ∧ InvC ad ca P' c') (fun c' t => cB D (va_A (wN NC cel) H.size) [] (wN NC c') t) (va_A (wN NC cel) H.size) av) (va_A (wN NC cel) H.size))
    (kk : ∀ (c' : Nat → Cl) (H1 : Heap) (locs1 : List Loc), Rp → InvC ad ca P' c' → wX D (tC ca) s (wN NC c') H1 A H0 locs1 → W p l e R s m args below meth c H1 locs1 0 0 Q (F0 m (pc + 3) ls rest)) : W p l e R s m args below meth c H locs 0 0 Q (F0 m pc ls st0) := by
  refine k_cv (t1 := fun _ => []) (w1 := fun c' => wN NC c') Wd (List.range NC) [] (wN_all cel) (wr := []) rfl (by decide) (by intro i hi; cases hi) (cells' := 0) (slots' := 0) (by decide) (by decide) hr (fun u H1 locs1 hp W1 => ?_)
  exact kk u H1 locs1 hp.1 hp.2 (by rw [List.append_nil] at W1; exact W1)
theorem kc_zret {Rp : Int32 → Prop} {ty : FieldType} {v : Int32} (C : CallFix p m c cc nL s args gG own) (hr : meth.sig.returnType = some ty) (hlk : meth.locks = false) (hnr : narrow ty (.int v) = .int v) (Wd : wX D (tC ca) s (wN NC cel) H A s.heap locs) (hp : Rp v ∧ InvC ad ca P' cel) (hdg : decode cc pc = .ok (.ireturn, 1)) :
    W p l e R s m args below meth c H locs 0 0 (MQ below (va_Qi (fun (r : Int32) (c' : Nat → Cl) => Rp r ∧ InvC ad ca P' c') (fun c' t => cB D A [] (wN NC c') t) A) args s 0 0 A) (F0 m pc ls [.int v]) :=
  k_zret (w1 := fun c' => wN NC c') (t1 := fun _ => []) C hr hlk hnr Wd cel hp (List.range NC) (wN_all cel) ndR [] rfl (Nat.le_refl _) (Nat.le_refl _) hdg
theorem kc_vret {Rp : Prop} (C : CallFix p m c cc nL s args gG own) (hr : meth.sig.returnType = none) (hlk : meth.locks = false) (Wd : wX D (tC ca) s (wN NC cel) H A s.heap locs) (hp : Rp ∧ InvC ad ca P' cel) (hdg : decode cc pc = .ok (.return_, 1)) :
    W p l e R s m args below meth c H locs 0 0 (MQ below (va_Qv (fun (c' : Nat → Cl) => Rp ∧ InvC ad ca P' c') (fun c' t => cB D A [] (wN NC c') t) A) args s 0 0 A) (F0 m pc ls []) :=
  k_vret (w1 := fun c' => wN NC c') (t1 := fun _ => []) C hr hlk Wd cel hp (List.range NC) (wN_all cel) ndR [] rfl (Nat.le_refl _) (Nat.le_refl _) hdg
end KC4

theorem fx0 (hI : InvC ad ca P cel) : kC (ad 0) (eX11 (ad 1) (ad 117) (ad 2) (ad 8) (ad 25) (ad 31) (ad 84)) (cel 0) := hI 0 (by decide)
theorem fx1 (hI : InvC ad ca P cel) : kC (ad 1) (eRef 6 (ca 1) (fun i => ad (101 + 2 * i))) (cel 1) := hI 1 (by decide)
theorem fx2 (hI : InvC ad ca P cel) : kC (ad 2) (eX6 (P 2) (ad 3) (ad 5) (ad 6) (ad 7)) (cel 2) := hI 2 (by decide)
theorem tx2 {p : Value → Value → Prop} {c : Cl} (h : kC (ad 2) (eX6 p (ad 3) (ad 5) (ad 6) (ad 7)) c) (hq : ∀ v w, p v w → P 2 v w) : shC ad ca P 2 c := by
  obtain ⟨ha, i1, i2, v3, v4, i5, i6, i7, i8, i9, i10, i11, i12, i13, e, hp, hr⟩ := h
  exact ⟨ha, i1, i2, v3, v4, i5, i6, i7, i8, i9, i10, i11, i12, i13, e, hq _ _ hp, hr⟩
theorem fx3 (hI : InvC ad ca P cel) : kC (ad 3) (eX10 (P 3) (ad 4)) (cel 3) := hI 3 (by decide)
theorem tx3 {p : Value → Value → Prop} {c : Cl} (h : kC (ad 3) (eX10 p (ad 4)) c) (hq : ∀ v w, p v w → P 3 v w) : shC ad ca P 3 c := by
  obtain ⟨ha, i1, i2, i3, i4, i5, e, hp, hr⟩ := h
  exact ⟨ha, i1, i2, i3, i4, i5, e, hq _ _ hp, hr⟩
theorem fx4 (hI : InvC ad ca P cel) : kC (ad 4) (eArr 800 (-2147483648) 2147483647 (ca 4)) (cel 4) := hI 4 (by decide)
theorem fx5 (hI : InvC ad ca P cel) : kC (ad 5) (eArr 8 (-2147483648) 2147483647 (ca 5)) (cel 5) := hI 5 (by decide)
theorem fx6 (hI : InvC ad ca P cel) : kC (ad 6) (eArr 8 (-2147483648) 2147483647 (ca 6)) (cel 6) := hI 6 (by decide)
theorem fx7 (hI : InvC ad ca P cel) : kC (ad 7) (eArr 8 (-2147483648) 2147483647 (ca 7)) (cel 7) := hI 7 (by decide)
theorem fx8 (hI : InvC ad ca P cel) : kC (ad 8) (eX3 (ad 12) (ad 9) (ad 10) (ad 11)) (cel 8) := hI 8 (by decide)
theorem fx9 (hI : InvC ad ca P cel) : kC (ad 9) (eArr 100 (-2147483648) 2147483647 (ca 9)) (cel 9) := hI 9 (by decide)
theorem fx10 (hI : InvC ad ca P cel) : kC (ad 10) (eArr 6 (-2147483648) 2147483647 (ca 10)) (cel 10) := hI 10 (by decide)
theorem fx11 (hI : InvC ad ca P cel) : kC (ad 11) (eArr 300 (-2147483648) 2147483647 (ca 11)) (cel 11) := hI 11 (by decide)
theorem fx12 (hI : InvC ad ca P cel) : kC (ad 12) (eX1 (P 12) (ad 13) (ad 14) (ad 15) (ad 16) (ad 17) (ad 18) (ad 19) (ad 20) (ad 21) (ad 22) (ad 23) (ad 24)) (cel 12) := hI 12 (by decide)
theorem tx12 {p : Value → Value → Prop} {c : Cl} (h : kC (ad 12) (eX1 p (ad 13) (ad 14) (ad 15) (ad 16) (ad 17) (ad 18) (ad 19) (ad 20) (ad 21) (ad 22) (ad 23) (ad 24)) c) (hq : ∀ v w, p v w → P 12 v w) : shC ad ca P 12 c := by
  obtain ⟨ha, v0, i1, e, hp, hr⟩ := h
  exact ⟨ha, v0, i1, e, hq _ _ hp, hr⟩
theorem fx13 (hI : InvC ad ca P cel) : kC (ad 13) (eArr 40 (-2147483648) 2147483647 (ca 13)) (cel 13) := hI 13 (by decide)
theorem fx14 (hI : InvC ad ca P cel) : kC (ad 14) (eArr 40 (-2147483648) 2147483647 (ca 14)) (cel 14) := hI 14 (by decide)
theorem fx15 (hI : InvC ad ca P cel) : kC (ad 15) (eArr 40 (0) 2000 (ca 15)) (cel 15) := hI 15 (by decide)
theorem fx16 (hI : InvC ad ca P cel) : kC (ad 16) (eArr 40 (0) 2000 (ca 16)) (cel 16) := hI 16 (by decide)
theorem fx17 (hI : InvC ad ca P cel) : kC (ad 17) (eArr 40 (-2147483648) 2147483647 (ca 17)) (cel 17) := hI 17 (by decide)
theorem fx18 (hI : InvC ad ca P cel) : kC (ad 18) (eArr 40 (-2147483648) 2147483647 (ca 18)) (cel 18) := hI 18 (by decide)
theorem fx19 (hI : InvC ad ca P cel) : kC (ad 19) (eArr 40 (-2147483648) 2147483647 (ca 19)) (cel 19) := hI 19 (by decide)
theorem fx20 (hI : InvC ad ca P cel) : kC (ad 20) (eArr 40 (-2147483648) 2147483647 (ca 20)) (cel 20) := hI 20 (by decide)
theorem fx21 (hI : InvC ad ca P cel) : kC (ad 21) (eArr 40 (-2147483648) 2147483647 (ca 21)) (cel 21) := hI 21 (by decide)
theorem fx22 (hI : InvC ad ca P cel) : kC (ad 22) (eArr 40 (-2147483648) 2147483647 (ca 22)) (cel 22) := hI 22 (by decide)
theorem fx23 (hI : InvC ad ca P cel) : kC (ad 23) (eArr 40 (-2147483648) 2147483647 (ca 23)) (cel 23) := hI 23 (by decide)
theorem fx24 (hI : InvC ad ca P cel) : kC (ad 24) (eArr 480 (-2147483648) 2147483647 (ca 24)) (cel 24) := hI 24 (by decide)
theorem fx25 (hI : InvC ad ca P cel) : kC (ad 25) (eX5 (ad 26) (ad 27) (ad 30) (ad 28) (ad 29)) (cel 25) := hI 25 (by decide)
theorem fx26 (hI : InvC ad ca P cel) : kC (ad 26) (eArr 3 (-2147483648) 2147483647 (ca 26)) (cel 26) := hI 26 (by decide)
theorem fx27 (hI : InvC ad ca P cel) : kC (ad 27) (eArr 40 (-2147483648) 2147483647 (ca 27)) (cel 27) := hI 27 (by decide)
theorem fx28 (hI : InvC ad ca P cel) : kC (ad 28) (eArr 512 (-2147483648) 2147483647 (ca 28)) (cel 28) := hI 28 (by decide)
theorem fx29 (hI : InvC ad ca P cel) : kC (ad 29) (eArr 512 (-2147483648) 2147483647 (ca 29)) (cel 29) := hI 29 (by decide)
theorem fx30 (hI : InvC ad ca P cel) : kC (ad 30) (eRef 20 (ca 30) (fun i => ad (207 + i))) (cel 30) := hI 30 (by decide)
theorem fx31 (hI : InvC ad ca P cel) : kC (ad 31) (eX4 (ad 32) (ad 119) (ad 113) (ad 67) (ad 68) (ad 69) (ad 70) (ad 115)) (cel 31) := hI 31 (by decide)
theorem fx32 (hI : InvC ad ca P cel) : kC (ad 32) (eX2 (ad 33) (ad 50)) (cel 32) := hI 32 (by decide)
theorem fx33 (hI : InvC ad ca P cel) : kC (ad 33) (eX3 (ad 37) (ad 34) (ad 35) (ad 36)) (cel 33) := hI 33 (by decide)
theorem fx34 (hI : InvC ad ca P cel) : kC (ad 34) (eArr 100 (-2147483648) 2147483647 (ca 34)) (cel 34) := hI 34 (by decide)
theorem fx35 (hI : InvC ad ca P cel) : kC (ad 35) (eArr 6 (-2147483648) 2147483647 (ca 35)) (cel 35) := hI 35 (by decide)
theorem fx36 (hI : InvC ad ca P cel) : kC (ad 36) (eArr 300 (-2147483648) 2147483647 (ca 36)) (cel 36) := hI 36 (by decide)
theorem fx37 (hI : InvC ad ca P cel) : kC (ad 37) (eX1 (P 37) (ad 38) (ad 39) (ad 40) (ad 41) (ad 42) (ad 43) (ad 44) (ad 45) (ad 46) (ad 47) (ad 48) (ad 49)) (cel 37) := hI 37 (by decide)
theorem tx37 {p : Value → Value → Prop} {c : Cl} (h : kC (ad 37) (eX1 p (ad 38) (ad 39) (ad 40) (ad 41) (ad 42) (ad 43) (ad 44) (ad 45) (ad 46) (ad 47) (ad 48) (ad 49)) c) (hq : ∀ v w, p v w → P 37 v w) : shC ad ca P 37 c := by
  obtain ⟨ha, v0, i1, e, hp, hr⟩ := h
  exact ⟨ha, v0, i1, e, hq _ _ hp, hr⟩
theorem fx38 (hI : InvC ad ca P cel) : kC (ad 38) (eArr 40 (-2147483648) 2147483647 (ca 38)) (cel 38) := hI 38 (by decide)
theorem fx39 (hI : InvC ad ca P cel) : kC (ad 39) (eArr 40 (-2147483648) 2147483647 (ca 39)) (cel 39) := hI 39 (by decide)
theorem fx40 (hI : InvC ad ca P cel) : kC (ad 40) (eArr 40 (0) 2000 (ca 40)) (cel 40) := hI 40 (by decide)
theorem fx41 (hI : InvC ad ca P cel) : kC (ad 41) (eArr 40 (0) 2000 (ca 41)) (cel 41) := hI 41 (by decide)
theorem fx42 (hI : InvC ad ca P cel) : kC (ad 42) (eArr 40 (-2147483648) 2147483647 (ca 42)) (cel 42) := hI 42 (by decide)
theorem fx43 (hI : InvC ad ca P cel) : kC (ad 43) (eArr 40 (-2147483648) 2147483647 (ca 43)) (cel 43) := hI 43 (by decide)
theorem fx44 (hI : InvC ad ca P cel) : kC (ad 44) (eArr 40 (-2147483648) 2147483647 (ca 44)) (cel 44) := hI 44 (by decide)
theorem fx45 (hI : InvC ad ca P cel) : kC (ad 45) (eArr 40 (-2147483648) 2147483647 (ca 45)) (cel 45) := hI 45 (by decide)
theorem fx46 (hI : InvC ad ca P cel) : kC (ad 46) (eArr 40 (-2147483648) 2147483647 (ca 46)) (cel 46) := hI 46 (by decide)
theorem fx47 (hI : InvC ad ca P cel) : kC (ad 47) (eArr 40 (-2147483648) 2147483647 (ca 47)) (cel 47) := hI 47 (by decide)
theorem fx48 (hI : InvC ad ca P cel) : kC (ad 48) (eArr 40 (-2147483648) 2147483647 (ca 48)) (cel 48) := hI 48 (by decide)
theorem fx49 (hI : InvC ad ca P cel) : kC (ad 49) (eArr 480 (-2147483648) 2147483647 (ca 49)) (cel 49) := hI 49 (by decide)
theorem fx50 (hI : InvC ad ca P cel) : kC (ad 50) (eX3 (ad 54) (ad 51) (ad 52) (ad 53)) (cel 50) := hI 50 (by decide)
theorem fx51 (hI : InvC ad ca P cel) : kC (ad 51) (eArr 100 (-2147483648) 2147483647 (ca 51)) (cel 51) := hI 51 (by decide)
theorem fx52 (hI : InvC ad ca P cel) : kC (ad 52) (eArr 6 (-2147483648) 2147483647 (ca 52)) (cel 52) := hI 52 (by decide)
theorem fx53 (hI : InvC ad ca P cel) : kC (ad 53) (eArr 300 (-2147483648) 2147483647 (ca 53)) (cel 53) := hI 53 (by decide)
theorem fx54 (hI : InvC ad ca P cel) : kC (ad 54) (eX1 (P 54) (ad 55) (ad 56) (ad 57) (ad 58) (ad 59) (ad 60) (ad 61) (ad 62) (ad 63) (ad 64) (ad 65) (ad 66)) (cel 54) := hI 54 (by decide)
theorem tx54 {p : Value → Value → Prop} {c : Cl} (h : kC (ad 54) (eX1 p (ad 55) (ad 56) (ad 57) (ad 58) (ad 59) (ad 60) (ad 61) (ad 62) (ad 63) (ad 64) (ad 65) (ad 66)) c) (hq : ∀ v w, p v w → P 54 v w) : shC ad ca P 54 c := by
  obtain ⟨ha, v0, i1, e, hp, hr⟩ := h
  exact ⟨ha, v0, i1, e, hq _ _ hp, hr⟩
theorem fx55 (hI : InvC ad ca P cel) : kC (ad 55) (eArr 40 (-2147483648) 2147483647 (ca 55)) (cel 55) := hI 55 (by decide)
theorem fx56 (hI : InvC ad ca P cel) : kC (ad 56) (eArr 40 (-2147483648) 2147483647 (ca 56)) (cel 56) := hI 56 (by decide)
theorem fx57 (hI : InvC ad ca P cel) : kC (ad 57) (eArr 40 (0) 2000 (ca 57)) (cel 57) := hI 57 (by decide)
theorem fx58 (hI : InvC ad ca P cel) : kC (ad 58) (eArr 40 (0) 2000 (ca 58)) (cel 58) := hI 58 (by decide)
theorem fx59 (hI : InvC ad ca P cel) : kC (ad 59) (eArr 40 (-2147483648) 2147483647 (ca 59)) (cel 59) := hI 59 (by decide)
theorem fx60 (hI : InvC ad ca P cel) : kC (ad 60) (eArr 40 (-2147483648) 2147483647 (ca 60)) (cel 60) := hI 60 (by decide)
theorem fx61 (hI : InvC ad ca P cel) : kC (ad 61) (eArr 40 (-2147483648) 2147483647 (ca 61)) (cel 61) := hI 61 (by decide)
theorem fx62 (hI : InvC ad ca P cel) : kC (ad 62) (eArr 40 (-2147483648) 2147483647 (ca 62)) (cel 62) := hI 62 (by decide)
theorem fx63 (hI : InvC ad ca P cel) : kC (ad 63) (eArr 40 (-2147483648) 2147483647 (ca 63)) (cel 63) := hI 63 (by decide)
theorem fx64 (hI : InvC ad ca P cel) : kC (ad 64) (eArr 40 (-2147483648) 2147483647 (ca 64)) (cel 64) := hI 64 (by decide)
theorem fx65 (hI : InvC ad ca P cel) : kC (ad 65) (eArr 40 (-2147483648) 2147483647 (ca 65)) (cel 65) := hI 65 (by decide)
theorem fx66 (hI : InvC ad ca P cel) : kC (ad 66) (eArr 480 (-2147483648) 2147483647 (ca 66)) (cel 66) := hI 66 (by decide)
theorem fx67 (hI : InvC ad ca P cel) : kC (ad 67) (eRef 12 (ca 67) (fun i => ad (123 + 7 * i))) (cel 67) := hI 67 (by decide)
theorem fx68 (hI : InvC ad ca P cel) : kC (ad 68) (eRef 6 (ca 68) (fun i => ad (227 + i))) (cel 68) := hI 68 (by decide)
theorem fx69 (hI : InvC ad ca P cel) : kC (ad 69) (eArr 6 (0) 8 (ca 69)) (cel 69) := hI 69 (by decide)
theorem fx70 (hI : InvC ad ca P cel) : kC (ad 70) (eX0 (ad 121) (ad 71)) (cel 70) := hI 70 (by decide)
theorem fx71 (hI : InvC ad ca P cel) : kC (ad 71) (eX1 (P 71) (ad 72) (ad 73) (ad 74) (ad 75) (ad 76) (ad 77) (ad 78) (ad 79) (ad 80) (ad 81) (ad 82) (ad 83)) (cel 71) := hI 71 (by decide)
theorem tx71 {p : Value → Value → Prop} {c : Cl} (h : kC (ad 71) (eX1 p (ad 72) (ad 73) (ad 74) (ad 75) (ad 76) (ad 77) (ad 78) (ad 79) (ad 80) (ad 81) (ad 82) (ad 83)) c) (hq : ∀ v w, p v w → P 71 v w) : shC ad ca P 71 c := by
  obtain ⟨ha, v0, i1, e, hp, hr⟩ := h
  exact ⟨ha, v0, i1, e, hq _ _ hp, hr⟩
theorem fx72 (hI : InvC ad ca P cel) : kC (ad 72) (eArr 40 (-2147483648) 2147483647 (ca 72)) (cel 72) := hI 72 (by decide)
theorem fx73 (hI : InvC ad ca P cel) : kC (ad 73) (eArr 40 (-2147483648) 2147483647 (ca 73)) (cel 73) := hI 73 (by decide)
theorem fx74 (hI : InvC ad ca P cel) : kC (ad 74) (eArr 40 (0) 2000 (ca 74)) (cel 74) := hI 74 (by decide)
theorem fx75 (hI : InvC ad ca P cel) : kC (ad 75) (eArr 40 (0) 2000 (ca 75)) (cel 75) := hI 75 (by decide)
theorem fx76 (hI : InvC ad ca P cel) : kC (ad 76) (eArr 40 (-2147483648) 2147483647 (ca 76)) (cel 76) := hI 76 (by decide)
theorem fx77 (hI : InvC ad ca P cel) : kC (ad 77) (eArr 40 (-2147483648) 2147483647 (ca 77)) (cel 77) := hI 77 (by decide)
theorem fx78 (hI : InvC ad ca P cel) : kC (ad 78) (eArr 40 (-2147483648) 2147483647 (ca 78)) (cel 78) := hI 78 (by decide)
theorem fx79 (hI : InvC ad ca P cel) : kC (ad 79) (eArr 40 (-2147483648) 2147483647 (ca 79)) (cel 79) := hI 79 (by decide)
theorem fx80 (hI : InvC ad ca P cel) : kC (ad 80) (eArr 40 (-2147483648) 2147483647 (ca 80)) (cel 80) := hI 80 (by decide)
theorem fx81 (hI : InvC ad ca P cel) : kC (ad 81) (eArr 40 (-2147483648) 2147483647 (ca 81)) (cel 81) := hI 81 (by decide)
theorem fx82 (hI : InvC ad ca P cel) : kC (ad 82) (eArr 40 (-2147483648) 2147483647 (ca 82)) (cel 82) := hI 82 (by decide)
theorem fx83 (hI : InvC ad ca P cel) : kC (ad 83) (eArr 480 (-2147483648) 2147483647 (ca 83)) (cel 83) := hI 83 (by decide)
theorem fx84 (hI : InvC ad ca P cel) : kC (ad 84) (eX7 (ad 88) (ad 85) (ad 86) (ad 87)) (cel 84) := hI 84 (by decide)
theorem fx85 (hI : InvC ad ca P cel) : kC (ad 85) (eArr 6 (-2147483648) 2147483647 (ca 85)) (cel 85) := hI 85 (by decide)
theorem fx86 (hI : InvC ad ca P cel) : kC (ad 86) (eArr 6 (-2147483648) 2147483647 (ca 86)) (cel 86) := hI 86 (by decide)
theorem fx87 (hI : InvC ad ca P cel) : kC (ad 87) (eArr 6 (-2147483648) 2147483647 (ca 87)) (cel 87) := hI 87 (by decide)
theorem fx88 (hI : InvC ad ca P cel) : kC (ad 88) (eX1 (P 88) (ad 89) (ad 90) (ad 91) (ad 92) (ad 93) (ad 94) (ad 95) (ad 96) (ad 97) (ad 98) (ad 99) (ad 100)) (cel 88) := hI 88 (by decide)
theorem tx88 {p : Value → Value → Prop} {c : Cl} (h : kC (ad 88) (eX1 p (ad 89) (ad 90) (ad 91) (ad 92) (ad 93) (ad 94) (ad 95) (ad 96) (ad 97) (ad 98) (ad 99) (ad 100)) c) (hq : ∀ v w, p v w → P 88 v w) : shC ad ca P 88 c := by
  obtain ⟨ha, v0, i1, e, hp, hr⟩ := h
  exact ⟨ha, v0, i1, e, hq _ _ hp, hr⟩
theorem fx89 (hI : InvC ad ca P cel) : kC (ad 89) (eArr 40 (-2147483648) 2147483647 (ca 89)) (cel 89) := hI 89 (by decide)
theorem fx90 (hI : InvC ad ca P cel) : kC (ad 90) (eArr 40 (-2147483648) 2147483647 (ca 90)) (cel 90) := hI 90 (by decide)
theorem fx91 (hI : InvC ad ca P cel) : kC (ad 91) (eArr 40 (0) 2000 (ca 91)) (cel 91) := hI 91 (by decide)
theorem fx92 (hI : InvC ad ca P cel) : kC (ad 92) (eArr 40 (0) 2000 (ca 92)) (cel 92) := hI 92 (by decide)
theorem fx93 (hI : InvC ad ca P cel) : kC (ad 93) (eArr 40 (-2147483648) 2147483647 (ca 93)) (cel 93) := hI 93 (by decide)
theorem fx94 (hI : InvC ad ca P cel) : kC (ad 94) (eArr 40 (-2147483648) 2147483647 (ca 94)) (cel 94) := hI 94 (by decide)
theorem fx95 (hI : InvC ad ca P cel) : kC (ad 95) (eArr 40 (-2147483648) 2147483647 (ca 95)) (cel 95) := hI 95 (by decide)
theorem fx96 (hI : InvC ad ca P cel) : kC (ad 96) (eArr 40 (-2147483648) 2147483647 (ca 96)) (cel 96) := hI 96 (by decide)
theorem fx97 (hI : InvC ad ca P cel) : kC (ad 97) (eArr 40 (-2147483648) 2147483647 (ca 97)) (cel 97) := hI 97 (by decide)
theorem fx98 (hI : InvC ad ca P cel) : kC (ad 98) (eArr 40 (-2147483648) 2147483647 (ca 98)) (cel 98) := hI 98 (by decide)
theorem fx99 (hI : InvC ad ca P cel) : kC (ad 99) (eArr 40 (-2147483648) 2147483647 (ca 99)) (cel 99) := hI 99 (by decide)
theorem fx100 (hI : InvC ad ca P cel) : kC (ad 100) (eArr 480 (-2147483648) 2147483647 (ca 100)) (cel 100) := hI 100 (by decide)
theorem fx101 (hI : InvC ad ca P cel) : kC (ad 101) (eX8 480 (ad 102)) (cel 101) := hI 101 (by decide)
theorem fx102 (hI : InvC ad ca P cel) : kC (ad 102) (eArr 480 (-2147483648) 2147483647 (ca 102)) (cel 102) := hI 102 (by decide)
theorem fx103 (hI : InvC ad ca P cel) : kC (ad 103) (eX8 480 (ad 104)) (cel 103) := hI 103 (by decide)
theorem fx104 (hI : InvC ad ca P cel) : kC (ad 104) (eArr 480 (-2147483648) 2147483647 (ca 104)) (cel 104) := hI 104 (by decide)
theorem fx105 (hI : InvC ad ca P cel) : kC (ad 105) (eX8 480 (ad 106)) (cel 105) := hI 105 (by decide)
theorem fx106 (hI : InvC ad ca P cel) : kC (ad 106) (eArr 480 (-2147483648) 2147483647 (ca 106)) (cel 106) := hI 106 (by decide)
theorem fx107 (hI : InvC ad ca P cel) : kC (ad 107) (eX8 480 (ad 108)) (cel 107) := hI 107 (by decide)
theorem fx108 (hI : InvC ad ca P cel) : kC (ad 108) (eArr 480 (-2147483648) 2147483647 (ca 108)) (cel 108) := hI 108 (by decide)
theorem fx109 (hI : InvC ad ca P cel) : kC (ad 109) (eX8 480 (ad 110)) (cel 109) := hI 109 (by decide)
theorem fx110 (hI : InvC ad ca P cel) : kC (ad 110) (eArr 480 (-2147483648) 2147483647 (ca 110)) (cel 110) := hI 110 (by decide)
theorem fx111 (hI : InvC ad ca P cel) : kC (ad 111) (eX8 480 (ad 112)) (cel 111) := hI 111 (by decide)
theorem fx112 (hI : InvC ad ca P cel) : kC (ad 112) (eArr 480 (-2147483648) 2147483647 (ca 112)) (cel 112) := hI 112 (by decide)
theorem fx113 (hI : InvC ad ca P cel) : kC (ad 113) (eX8 480 (ad 114)) (cel 113) := hI 113 (by decide)
theorem fx114 (hI : InvC ad ca P cel) : kC (ad 114) (eArr 480 (-2147483648) 2147483647 (ca 114)) (cel 114) := hI 114 (by decide)
theorem fx115 (hI : InvC ad ca P cel) : kC (ad 115) (eX8 480 (ad 116)) (cel 115) := hI 115 (by decide)
theorem fx116 (hI : InvC ad ca P cel) : kC (ad 116) (eArr 480 (-2147483648) 2147483647 (ca 116)) (cel 116) := hI 116 (by decide)
theorem fx117 (hI : InvC ad ca P cel) : kC (ad 117) (eX8 1000 (ad 118)) (cel 117) := hI 117 (by decide)
theorem fx118 (hI : InvC ad ca P cel) : kC (ad 118) (eArr 1000 (-2147483648) 2147483647 (ca 118)) (cel 118) := hI 118 (by decide)
theorem fx119 (hI : InvC ad ca P cel) : kC (ad 119) (eX8 1000 (ad 120)) (cel 119) := hI 119 (by decide)
theorem fx120 (hI : InvC ad ca P cel) : kC (ad 120) (eArr 1000 (-2147483648) 2147483647 (ca 120)) (cel 120) := hI 120 (by decide)
theorem fx121 (hI : InvC ad ca P cel) : kC (ad 121) (eX8 1000 (ad 122)) (cel 121) := hI 121 (by decide)
theorem fx122 (hI : InvC ad ca P cel) : kC (ad 122) (eArr 1000 (-2147483648) 2147483647 (ca 122)) (cel 122) := hI 122 (by decide)
theorem frow0 (hI : InvC ad ca P cel) {i : Nat} (h : i < 11) : kC (ad (101 + 2 * i)) (eX8 (capR i) (ad (101 + 2 * i + 1))) (cel (101 + 2 * i)) := by
  have := hI (101 + 2 * i) (by show _ < 233; omega)
  unfold shC at this
  rw [sh_row h] at this
  exact this
theorem trow0 {i : Nat} {c : Cl} (h : i < 11) (hc : kC (ad (101 + 2 * i)) (eX8 (capR i) (ad (101 + 2 * i + 1))) c) : shC ad ca P (101 + 2 * i) c := by
  unfold shC
  rw [sh_row h]
  exact hc
theorem frow1 (hI : InvC ad ca P cel) {i : Nat} (h : i < 11) : kC (ad (101 + 2 * i + 1)) (eArr (capR i) (-2147483648) 2147483647 (ca (101 + 2 * i + 1))) (cel (101 + 2 * i + 1)) := by
  have := hI (101 + 2 * i + 1) (by show _ < 233; omega)
  unfold shC at this
  rw [sh_rowc h] at this
  exact this
theorem trow1 {i : Nat} {c : Cl} (h : i < 11) (hc : kC (ad (101 + 2 * i + 1)) (eArr (capR i) (-2147483648) 2147483647 (ca (101 + 2 * i + 1))) c) : shC ad ca P (101 + 2 * i + 1) c := by
  unfold shC
  rw [sh_rowc h]
  exact hc
theorem frule0 (hI : InvC ad ca P cel) {r : Nat} (h : r < 12) : kC (ad (123 + 7 * r)) (eX9 (ad (123 + 7 * r + 1)) (ad (123 + 7 * r + 3)) (ad (123 + 7 * r + 5)) (ad (123 + 7 * r + 6))) (cel (123 + 7 * r)) := by
  have := hI (123 + 7 * r) (by show _ < 233; omega)
  unfold shC at this
  rw [sh_rule0 h] at this
  exact this
theorem trule0 {r : Nat} {c : Cl} (h : r < 12) (hc : kC (ad (123 + 7 * r)) (eX9 (ad (123 + 7 * r + 1)) (ad (123 + 7 * r + 3)) (ad (123 + 7 * r + 5)) (ad (123 + 7 * r + 6))) c) : shC ad ca P (123 + 7 * r) c := by
  unfold shC
  rw [sh_rule0 h]
  exact hc
theorem frule1 (hI : InvC ad ca P cel) {r : Nat} (h : r < 12) : kC (ad (123 + 7 * r + 1)) (eX8 40 (ad (123 + 7 * r + 2))) (cel (123 + 7 * r + 1)) := by
  have := hI (123 + 7 * r + 1) (by show _ < 233; omega)
  unfold shC at this
  rw [sh_rule1 h] at this
  exact this
theorem trule1 {r : Nat} {c : Cl} (h : r < 12) (hc : kC (ad (123 + 7 * r + 1)) (eX8 40 (ad (123 + 7 * r + 2))) c) : shC ad ca P (123 + 7 * r + 1) c := by
  unfold shC
  rw [sh_rule1 h]
  exact hc
theorem frule3 (hI : InvC ad ca P cel) {r : Nat} (h : r < 12) : kC (ad (123 + 7 * r + 3)) (eX8 40 (ad (123 + 7 * r + 4))) (cel (123 + 7 * r + 3)) := by
  have := hI (123 + 7 * r + 3) (by show _ < 233; omega)
  unfold shC at this
  rw [sh_rule3 h] at this
  exact this
theorem trule3 {r : Nat} {c : Cl} (h : r < 12) (hc : kC (ad (123 + 7 * r + 3)) (eX8 40 (ad (123 + 7 * r + 4))) c) : shC ad ca P (123 + 7 * r + 3) c := by
  unfold shC
  rw [sh_rule3 h]
  exact hc
theorem frule2 (hI : InvC ad ca P cel) {r : Nat} (h : r < 12) : kC (ad (123 + 7 * r + 2)) (eArr 40 (-2147483648) 2147483647 (ca (123 + 7 * r + 2))) (cel (123 + 7 * r + 2)) := by
  have := hI (123 + 7 * r + 2) (by show _ < 233; omega)
  unfold shC at this
  rw [sh_rule2 h] at this
  exact this
theorem trule2 {r : Nat} {c : Cl} (h : r < 12) (hc : kC (ad (123 + 7 * r + 2)) (eArr 40 (-2147483648) 2147483647 (ca (123 + 7 * r + 2))) c) : shC ad ca P (123 + 7 * r + 2) c := by
  unfold shC
  rw [sh_rule2 h]
  exact hc
theorem frule4 (hI : InvC ad ca P cel) {r : Nat} (h : r < 12) : kC (ad (123 + 7 * r + 4)) (eArr 40 (-2147483648) 2147483647 (ca (123 + 7 * r + 4))) (cel (123 + 7 * r + 4)) := by
  have := hI (123 + 7 * r + 4) (by show _ < 233; omega)
  unfold shC at this
  rw [sh_rule4 h] at this
  exact this
theorem trule4 {r : Nat} {c : Cl} (h : r < 12) (hc : kC (ad (123 + 7 * r + 4)) (eArr 40 (-2147483648) 2147483647 (ca (123 + 7 * r + 4))) c) : shC ad ca P (123 + 7 * r + 4) c := by
  unfold shC
  rw [sh_rule4 h]
  exact hc
theorem frule5 (hI : InvC ad ca P cel) {r : Nat} (h : r < 12) : kC (ad (123 + 7 * r + 5)) (eArr 3 (-1) 5000 (ca (123 + 7 * r + 5))) (cel (123 + 7 * r + 5)) := by
  have := hI (123 + 7 * r + 5) (by show _ < 233; omega)
  unfold shC at this
  rw [sh_rule5 h] at this
  exact this
theorem trule5 {r : Nat} {c : Cl} (h : r < 12) (hc : kC (ad (123 + 7 * r + 5)) (eArr 3 (-1) 5000 (ca (123 + 7 * r + 5))) c) : shC ad ca P (123 + 7 * r + 5) c := by
  unfold shC
  rw [sh_rule5 h]
  exact hc
theorem frule6 (hI : InvC ad ca P cel) {r : Nat} (h : r < 12) : kC (ad (123 + 7 * r + 6)) (eArr 3 (-1) 5000 (ca (123 + 7 * r + 6))) (cel (123 + 7 * r + 6)) := by
  have := hI (123 + 7 * r + 6) (by show _ < 233; omega)
  unfold shC at this
  rw [sh_rule6 h] at this
  exact this
theorem trule6 {r : Nat} {c : Cl} (h : r < 12) (hc : kC (ad (123 + 7 * r + 6)) (eArr 3 (-1) 5000 (ca (123 + 7 * r + 6))) c) : shC ad ca P (123 + 7 * r + 6) c := by
  unfold shC
  rw [sh_rule6 h]
  exact hc
theorem fform0 (hI : InvC ad ca P cel) {i : Nat} (h : i < 20) : kC (ad (207 + i)) (eArr 512 (-2147483648) 2147483647 (ca (207 + i))) (cel (207 + i)) := by
  have := hI (207 + i) (by show _ < 233; omega)
  unfold shC at this
  rw [sh_form h] at this
  exact this
theorem tform0 {i : Nat} {c : Cl} (h : i < 20) (hc : kC (ad (207 + i)) (eArr 512 (-2147483648) 2147483647 (ca (207 + i))) c) : shC ad ca P (207 + i) c := by
  unfold shC
  rw [sh_form h]
  exact hc
theorem fitem0 (hI : InvC ad ca P cel) {i : Nat} (h : i < 6) : kC (ad (227 + i)) (eArr 8 (-2147483648) 2147483647 (ca (227 + i))) (cel (227 + i)) := by
  have := hI (227 + i) (by show _ < 233; omega)
  unfold shC at this
  rw [sh_item h] at this
  exact this
theorem titem0 {i : Nat} {c : Cl} (h : i < 6) (hc : kC (ad (227 + i)) (eArr 8 (-2147483648) 2147483647 (ca (227 + i))) c) : shC ad ca P (227 + i) c := by
  unfold shC
  rw [sh_item h]
  exact hc
theorem Inv_TT {T : Value → Prop} (hI : InvC ad ca (pTp T) cel) : InvC ad ca (pTp tTT) cel := by
  intro k hk
  by_cases h : k = 3
  · subst h; exact tx3 (fx3 hI) (fun _ _ _ => trivial)
  · have := hI k hk
    rw [shP_eq (P' := pTp tTT) (PT_ne h)] at this
    exact this
end L4
