def tT0 (v : Value) : Prop := v = .int 0
section L4x
variable {ad : Nat → Nat} {ca : Nat → ClassId} {P : Nat → Value → Value → Prop} {P' : Int32 → Nat → Value → Value → Prop} {cel : Nat → Cl}
variable {l : Launch} {y : MethodName} {ws : List Cond} {rm : Room} {D : va_G} {sz : Nat} {av : List Value} {is ts : List Nat} {tc : List (ClassId × FieldType)} {ps' : Int32 → List (Cl → Prop)}
theorem liftR4 {R : Int32 → Prop} (hI : InvC ad ca P cel) (ok : okC is ts = true)
    (hM : Met l y ws rm (cPre D tc (is.map cel) sz av) (va_Qi (fun (r : Int32) (u : va_W) => R r ∧ ShL (ps' r) u) (fun u t => cB D (va_A (is.map cel) sz) [] u t) (va_A (is.map cel) sz)) 0 0 (va_A (is.map cel) sz))
    (htc : ts.map (fun k => (ca k, FieldType.int)) = tc) (hsame : ∀ r k, k ∉ is → P k = P' r k) (hi : ∀ r, Imp (shC ad ca (P' r)) (ps' r) is) :
    Met l y ws rm (cPre D (tC ca) (wN NC cel) sz av) (va_Qi (fun (r : Int32) (c' : Nat → Cl) => R r ∧ InvC ad ca (P' r) c') (fun c' t => cB D (va_A (wN NC cel) sz) [] (wN NC c') t) (va_A (wN NC cel) sz)) 0 0 (va_A (wN NC cel) sz) := by
  refine hM.mono (fun a U hp => cPre_sub is (okC_lt ok) (okC_nd ok) ts (tC_ok ok htc) hp) (fun a st o t hp hq => ?_) (A_sub is (okC_lt ok))
  obtain ⟨⟨r, u, ho, ⟨hR, hs⟩, hB⟩, hF⟩ := hq
  obtain ⟨h1, h2⟩ := cB_all is (okC_lt ok) (okC_nd ok) hp hB hF (hs.imp (hi r)) (fun k hk c hc => hc.1.trans (hI k (okC_lt ok k hk)).1.symm)
  exact ⟨⟨r, _, ho, ⟨hR, Inv_set (sh := shC ad ca P) (sh' := shC ad ca (P' r)) hI is (okC_nd ok) (hs.imp (hi r)) (fun k hk => shP_eq (hsame r k hk))⟩, h1⟩, h2⟩
end L4x
