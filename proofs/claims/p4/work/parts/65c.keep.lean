section L4k
variable {ad : Nat → Nat} {ca : Nat → ClassId} {P P' : Nat → Value → Value → Prop} {cel : Nat → Cl}
section LF
variable {l : Launch} {y : MethodName} {ws : List Cond} {rm : Room} {D : va_G} {sz : Nat} {av : List Value} {is ts : List Nat} {tc : List (ClassId × FieldType)} {ps' : List (Cl → Prop)}
theorem liftVk4 {R : Prop} (hI : InvC ad ca P cel) (ok : okC is ts = true) (h0 : 0 ∉ is)
    (hM : Met l y ws rm (cPre D tc (is.map cel) sz av) (va_Qv (fun (u : va_W) => R ∧ ShL ps' u) (fun u t => cB D (va_A (is.map cel) sz) [] u t) (va_A (is.map cel) sz)) 0 0 (va_A (is.map cel) sz))
    (htc : ts.map (fun k => (ca k, FieldType.int)) = tc) (hsame : ∀ k, k ∉ is → P k = P' k) (hi : Imp (shC ad ca P') ps' is) :
    Met l y ws rm (cPre D (tC ca) (wN NC cel) sz av) (va_Qv (fun (c' : Nat → Cl) => R ∧ InvC ad ca P' c' ∧ c' 0 = cel 0) (fun c' t => cB D (va_A (wN NC cel) sz) [] (wN NC c') t) (va_A (wN NC cel) sz)) 0 0 (va_A (wN NC cel) sz) := by
  refine hM.mono (fun a U hp => cPre_sub is (okC_lt ok) (okC_nd ok) ts (tC_ok ok htc) hp) (fun a st o t hp hq => ?_) (A_sub is (okC_lt ok))
  obtain ⟨⟨u, ho, ⟨hR, hs⟩, hB⟩, hF⟩ := hq
  obtain ⟨h1, h2⟩ := cB_all is (okC_lt ok) (okC_nd ok) hp hB hF (hs.imp hi) (fun k hk c hc => hc.1.trans (hI k (okC_lt ok k hk)).1.symm)
  exact ⟨⟨_, ho, ⟨hR, Inv_set (sh := shC ad ca P) (sh' := shC ad ca P') hI is (okC_nd ok) (hs.imp hi) (fun k hk => shP_eq (hsame k hk)), setL_out h0⟩, h1⟩, h2⟩
theorem liftISk4 {sown : String} {ix : List Nat} {adK adV : Nat → Nat} {tq : Nat} {R : Int32 → Prop} (hI : InvC ad ca P cel) (ok : okC is ts = true) (h0 : 0 ∉ is)
    (hM : Met l y ws rm (cPS sown ix adK adV tq D tc (is.map cel) sz av) (va_Qi (fun (r : Int32) (u : va_W) => R r ∧ ShL ps' u) (fun u t => cB D (va_A (is.map cel) sz) [] u t) (va_A (is.map cel) sz)) 0 0 (va_A (is.map cel) sz))
    (htc : ts.map (fun k => (ca k, FieldType.int)) = tc) (hsame : ∀ k, k ∉ is → P k = P' k) (hi : Imp (shC ad ca P') ps' is) :
    Met l y ws rm (cPS sown ix adK adV tq D (tC ca) (wN NC cel) sz av) (va_Qi (fun (r : Int32) (c' : Nat → Cl) => R r ∧ InvC ad ca P' c' ∧ c' 0 = cel 0) (fun c' t => cB D (va_A (wN NC cel) sz) [] (wN NC c') t) (va_A (wN NC cel) sz)) 0 0 (va_A (wN NC cel) sz) := by
  refine hM.mono (fun a U hp => ⟨cPre_sub is (okC_lt ok) (okC_nd ok) ts (tC_ok ok htc) hp.1, hp.2.narrow (A_sub is (okC_lt ok))⟩) (fun a st o t hp hq => ?_) (A_sub is (okC_lt ok))
  obtain ⟨⟨r, u, ho, ⟨hR, hs⟩, hB⟩, hF⟩ := hq
  obtain ⟨h1, h2⟩ := cB_all is (okC_lt ok) (okC_nd ok) hp.1 hB hF (hs.imp hi) (fun k hk c hc => hc.1.trans (hI k (okC_lt ok k hk)).1.symm)
  exact ⟨⟨r, _, ho, ⟨hR, Inv_set (sh := shC ad ca P) (sh' := shC ad ca P') hI is (okC_nd ok) (hs.imp hi) (fun k hk => shP_eq (hsame k hk)), setL_out h0⟩, h1⟩, h2⟩
end LF
theorem wN_at0 {cel2 : Nat → Cl} (h : cel2 0 = cel 0) : (wN NC cel2)[0]? = (wN NC cel)[0]? := by rw [wN_at (by decide), wN_at (by decide), h]
section KC4
variable {p : Program} {l : Launch} {e : Env} {R : Room} {s : State} {m : MethodId} {args : Array Value} {below : List Frame} {meth : Method} {c : Code} {H : Heap} {locs : List Loc} {Q : State → Prop}
variable {cc : ByteArray} {pc nL : Nat} {ls : Array Slot} {rest : List Value} {D : va_G} {A : Nat → Prop} {H0 : Heap} {own : String} {st0 : List Value} {av : Array Value}
theorem kc_ik {Rp : Int32 → Prop} (Wd : wX D (tC ca) s (wN NC cel) H A H0 locs)
    (hr : va_Run p l e R s m args below meth c H locs 0 0 0 0 (F0 m pc ls st0) rest (va_Qi (fun (r : Int32) (c' : Nat → Cl) => Rp r ∧ InvC ad ca P' c' ∧ c' 0 = cel 0) (fun c' t => cB D (va_A (wN NC cel) H.size) [] (wN NC c') t) (va_A (wN NC cel) H.size) av) (va_A (wN NC cel) H.size))
    (kk : ∀ (r : Int32) (c' : Nat → Cl) (H1 : Heap) (locs1 : List Loc), Rp r → InvC ad ca P' c' → c' 0 = cel 0 → wX D (tC ca) s (wN NC c') H1 A H0 locs1 → W p l e R s m args below meth c H1 locs1 0 0 Q (F0 m (pc + 3) ls (.int r :: rest))) : W p l e R s m args below meth c H locs 0 0 Q (F0 m pc ls st0) := by
  refine k_ci (t1 := fun _ => []) (w1 := fun c' => wN NC c') Wd (List.range NC) [] (wN_all cel) (wr := []) rfl (by decide) (by intro i hi; cases hi) (cells' := 0) (slots' := 0) (by decide) (by decide) hr (fun r u H1 locs1 hp W1 => ?_)
  exact kk r u H1 locs1 hp.1 hp.2.1 hp.2.2 (by rw [List.append_nil] at W1; exact W1)
theorem kc_vk {Rp : Prop} (Wd : wX D (tC ca) s (wN NC cel) H A H0 locs)
    (hr : va_Run p l e R s m args below meth c H locs 0 0 0 0 (F0 m pc ls st0) rest (va_Qv (fun (c' : Nat → Cl) => Rp ∧ InvC ad ca P' c' ∧ c' 0 = cel 0) (fun c' t => cB D (va_A (wN NC cel) H.size) [] (wN NC c') t) (va_A (wN NC cel) H.size) av) (va_A (wN NC cel) H.size))
    (kk : ∀ (c' : Nat → Cl) (H1 : Heap) (locs1 : List Loc), Rp → InvC ad ca P' c' → c' 0 = cel 0 → wX D (tC ca) s (wN NC c') H1 A H0 locs1 → W p l e R s m args below meth c H1 locs1 0 0 Q (F0 m (pc + 3) ls rest)) : W p l e R s m args below meth c H locs 0 0 Q (F0 m pc ls st0) := by
  refine k_cv (t1 := fun _ => []) (w1 := fun c' => wN NC c') Wd (List.range NC) [] (wN_all cel) (wr := []) rfl (by decide) (by intro i hi; cases hi) (cells' := 0) (slots' := 0) (by decide) (by decide) hr (fun u H1 locs1 hp W1 => ?_)
  exact kk u H1 locs1 hp.1 hp.2.1 hp.2.2 (by rw [List.append_nil] at W1; exact W1)
end KC4
end L4k
