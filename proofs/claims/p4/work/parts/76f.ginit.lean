set_option maxHeartbeats 40000000 in
set_option maxRecDepth 100000 in
theorem g_init (l : Launch) (D : va_G) (h0 : Nat) (sz : Nat) : Met l yX11_init (Cond.code yX11_init cX11_init 2 none :: gG) { frames := 6, cells := 244, slots := 26229, locals := 166 } (cPre D [] [(h0, .inr (11, [.null, .int 0, .null, .null, .null, .null, .null, .null]))] sz [.ref h0]) (va_Qv (fun (u : (Nat → Nat) × (Nat → ClassId) × (Nat → Cl)) => u.1 0 = h0 ∧ InvC u.1 u.2.1 (pTp (fun v => v = .int 0)) u.2.2 ∧ ZK u.1 u.2.1 u.2.2) (fun u t => cB D (va_A [(h0, .inr (11, [.null, .int 0, .null, .null, .null, .null, .null, .null]))] sz) (tC u.2.1) (wN NC u.2.2) t) (va_A [(h0, .inr (11, [.null, .int 0, .null, .null, .null, .null, .null, .null]))] sz)) 244 26229 (va_A [(h0, .inr (11, [.null, .int 0, .null, .null, .null, .null, .null, .null]))] sz) := by
  refine (kcX11_init l D h0 sz).mono (fun _ _ h => h) (fun a st o t _ hq => ?_) (fun _ h => h)
  obtain ⟨⟨u, ho, -, hB⟩, hF⟩ := hq
  obtain ⟨v, hv, hB⟩ := g_aux hB
  exact ⟨⟨v, ho, hv, hB⟩, hF⟩
