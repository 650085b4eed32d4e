-- ===== level C: the whole class as one world of numbered cells
abbrev Cl : Type := Nat × va_E
theorem Met.mono {l : Launch} {y : MethodName} {ws : List Cond} {rm : Room} {Pc Pc' : Array Value → State → Prop} {Qc Qc' : Array Value → State → Outcome → State → Prop} {mc ms : Nat} {free free' : Addr → Prop} (h : Met l y ws rm Pc Qc mc ms free) (hP : ∀ a U, Pc' a U → Pc a U) (hQ : ∀ a st o t, Pc' a st → Qc a st o t → Qc' a st o t) (hf : ∀ q, free q → free' q) : Met l y ws rm Pc' Qc' mc ms free' := by
  intro p e ha hc hk s m args below hfn happ hp hK
  obtain ⟨k, o, h1, h2, h3, hQ1, L, hL, hfr⟩ := h p e ha hc hk s m args below hfn happ (hP _ _ hp) hK
  exact ⟨k, o, h1, h2, h3, hQ _ _ _ _ hp hQ1, L, hL, fun q hq => hf _ (hfr q hq)⟩
def ShL : List (Cl → Prop) → List Cl → Prop
  | [], [] => True
  | p :: ps, c :: cs => p c ∧ ShL ps cs
  | _, _ => False
theorem ShL.map {sh : Nat → Cl → Prop} {cel : Nat → Cl} : ∀ (is : List Nat), (∀ k ∈ is, sh k (cel k)) → ShL (is.map sh) (is.map cel)
  | [], _ => trivial
  | i :: is, h => ⟨h i List.mem_cons_self, ShL.map is (fun k hk => h k (List.mem_cons_of_mem _ hk))⟩
theorem ShL.get {sh : Nat → Cl → Prop} : ∀ {is : List Nat} {u : List Cl}, ShL (is.map sh) u → ∀ (j k : Nat), is[j]? = some k → ∃ c, u[j]? = some c ∧ sh k c
  | [], _, _, j, k, hj => by simp at hj
  | i :: is, [], h, _, _, _ => h.elim
  | i :: is, c :: cs, h, 0, k, hj => by
    simp at hj; subst hj; exact ⟨c, rfl, h.1⟩
  | i :: is, c :: cs, h, j + 1, k, hj => by
    obtain ⟨c', h1, h2⟩ := ShL.get (is := is) (u := cs) h.2 j k (by simpa using hj)
    exact ⟨c', by simpa using h1, h2⟩
theorem ShL.len {sh : Nat → Cl → Prop} : ∀ {is : List Nat} {u : List Cl}, ShL (is.map sh) u → u.length = is.length
  | [], [], _ => rfl
  | [], _ :: _, h => h.elim
  | i :: is, [], h => h.elim
  | i :: is, c :: cs, h => by simp [ShL.len (is := is) (u := cs) h.2]
def setL (cel : Nat → Cl) : List Nat → List Cl → Nat → Cl
  | i :: is, c :: cs => fun k => if k = i then c else setL cel is cs k
  | _, _ => cel
theorem setL_out {cel : Nat → Cl} : ∀ {is : List Nat} {u : List Cl} {k : Nat}, k ∉ is → setL cel is u k = cel k
  | [], _, _, _ => rfl
  | i :: is, [], _, _ => rfl
  | i :: is, c :: cs, k, h => by
    show (if k = i then c else setL cel is cs k) = _
    rw [if_neg (fun (q : k = i) => h (by rw [q]; exact List.mem_cons_self))]
    exact setL_out (fun q => h (List.mem_cons_of_mem _ q))
theorem setL_in {cel : Nat → Cl} : ∀ {is : List Nat} {u : List Cl} {j k : Nat} {c : Cl}, va_nd is = true → is[j]? = some k → u[j]? = some c → setL cel is u k = c
  | [], _, j, k, c, _, hj, _ => by simp at hj
  | i :: is, [], j, k, c, _, _, hu => by simp at hu
  | i :: is, c0 :: cs, 0, k, c, _, hj, hu => by
    simp at hj hu; subst hj; subst hu
    exact if_pos rfl
  | i :: is, c0 :: cs, j + 1, k, c, hn, hj, hu => by
    have hn' : i ∉ is ∧ va_nd is = true := by simpa [va_nd] using hn
    have hk : k ≠ i := fun q => hn'.1 (q ▸ List.mem_of_getElem? (by simpa using hj))
    show (if k = i then c0 else setL cel is cs k) = _
    rw [if_neg hk]
    exact setL_in hn'.2 (by simpa using hj) (by simpa using hu)
/-- the world of N cells -/
def wN (N : Nat) (cel : Nat → Cl) : va_W := (List.range N).map cel
theorem wN_at {N k : Nat} {cel : Nat → Cl} (h : k < N) : (wN N cel)[k]? = some (cel k) := by simp [wN, h]
theorem wN_of {N k : Nat} {cel : Nat → Cl} {q : Cl} (h : (wN N cel)[k]? = some q) : k < N ∧ q = cel k := by
  simp only [wN, List.getElem?_map] at h
  by_cases hk : k < N
  · rw [List.getElem?_range hk] at h
    exact ⟨hk, (Option.some.inj h).symm⟩
  · rw [List.getElem?_eq_none (by simp; omega)] at h
    cases h
theorem wN_pick {N : Nat} {cel : Nat → Cl} (is : List Nat) (h : ∀ k ∈ is, k < N) : is.map (fun i => (wN N cel)[i]?) = (is.map cel).map some := by
  rw [List.map_map]
  exact List.map_congr_left (fun k hk => wN_at (h k hk))
theorem fm_of {α : Type} {is : List Nat} {ws w1 : List α} (hI : is.map (fun i => ws[i]?) = w1.map some) : is.filterMap (fun i => ws[i]?) = w1 := by
  have := congrArg (List.filterMap id) hI
  rw [List.filterMap_map, List.filterMap_map] at this
  simpa using this
/-- what a callee may take out of the whole -/
theorem cPre_sub {D : va_G} {N : Nat} {cel : Nat → Cl} {tys tc : List (ClassId × FieldType)} {sz : Nat} {av : List Value} (is : List Nat) (h : ∀ k ∈ is, k < N) (hn : va_nd is = true) (tC : List Nat) (hT : tC.filterMap (fun i => tys[i]?) = tc) {a : Array Value} {U : State} (hp : cPre D tys (wN N cel) sz av a U) : cPre D tc (is.map cel) sz av a U := by
  obtain ⟨q0, q1, qP, qK, qD, qA⟩ := hp
  exact ⟨q0, q1, qP.sub is (fm_of (wN_pick is h)), qK.sub tC hT, qD.sub is hn (wN_pick is h), qA⟩
theorem A_sub {N : Nat} {cel : Nat → Cl} {sz : Nat} (is : List Nat) (h : ∀ k ∈ is, k < N) : ∀ q, va_A (is.map cel) sz q → va_A (wN N cel) sz q := by
  rintro q (⟨k, e, hk⟩ | hq)
  · rw [List.getElem?_map] at hk
    cases hi : is[k]? with
    | none => rw [hi] at hk; cases hk
    | some i =>
      rw [hi] at hk
      exact Or.inl ⟨i, e, (wN_at (h i (List.mem_of_getElem? hi))).trans hk⟩
  · exact Or.inr hq
/-- the whole behind a callee that had a part of it -/
theorem cB_all {D : va_G} {N : Nat} {cel : Nat → Cl} {tys t1 : List (ClassId × FieldType)} {sz : Nat} {av : List Value} (is : List Nat) (h : ∀ k ∈ is, k < N) (hn : va_nd is = true) {a : Array Value} {U t : State} (hp : cPre D tys (wN N cel) sz av a U) {u : va_W} {sh : Nat → Cl → Prop} (hB : cB D (va_A (is.map cel) sz) t1 u t) (hF : va_F (va_A (is.map cel) sz) U t) (hs : ShL (is.map sh) u) (hadr : ∀ k ∈ is, ∀ c, sh k c → c.1 = (cel k).1) : cB D (va_A (wN N cel) sz) [] (wN N (setL cel is u)) t ∧ va_F (va_A (wN N cel) sz) U t := by
  obtain ⟨q0, q1, qP, qK, qD, qA⟩ := hp
  have hset : ∀ k, k < N → (∃ (j : Nat) (c : Cl), is[j]? = some k ∧ u[j]? = some c ∧ sh k c ∧ setL cel is u k = c) ∨ (k ∉ is ∧ setL cel is u k = cel k) := by
    intro k hk
    by_cases hm : k ∈ is
    · obtain ⟨j, hj⟩ := List.getElem?_of_mem hm
      obtain ⟨c, hc, hsh⟩ := hs.get j k hj
      exact Or.inl ⟨j, c, hj, hc, hsh, setL_in hn hj hc⟩
    · exact Or.inr ⟨hm, setL_out hm⟩
  have hadr' : ∀ k, k < N → (setL cel is u k).1 = (cel k).1 := by
    intro k hk
    rcases hset k hk with ⟨j, c, hj, hc, hsh, e⟩ | ⟨hm, e⟩
    · rw [e]; exact hadr k (List.mem_of_getElem? hj) c hsh
    · rw [e]
  refine ⟨⟨fun k q hq => ?_, ⟨hB.2.1.1, fun k q hq => by simp at hq⟩, ?_⟩, hF.1, fun q h1 h2 => hF.2 q h1 (fun z => h2 (A_sub is h q z))⟩
  · obtain ⟨hk, rfl⟩ := wN_of hq
    rcases hset k hk with ⟨j, c, hj, hc, hsh, e⟩ | ⟨hm, e⟩
    · rw [e]; exact hB.1 j c hc
    · rw [e]
      have hat := qP k _ (wN_at hk)
      refine hat.kept (hF.2 _ hat.lt (fun z => ?_))
      rcases z with ⟨j, ee, hj⟩ | hge
      · rw [List.getElem?_map] at hj
        cases hi : is[j]? with
        | none => rw [hi] at hj; cases hj
        | some i =>
          rw [hi] at hj
          have hi' : i ∈ is := List.mem_of_getElem? hi
          have := qD.1 k i _ _ (wN_at hk) (wN_at (h i hi')) (by have := congrArg Prod.fst (Option.some.inj hj); exact this.symm)
          exact hm (this ▸ hi')
      · have := hat.lt
        omega
  · constructor
    · intro i j p q hi hj hpq
      obtain ⟨hi1, rfl⟩ := wN_of hi
      obtain ⟨hj1, rfl⟩ := wN_of hj
      rw [hadr' i hi1, hadr' j hj1] at hpq
      exact qD.1 i j _ _ (wN_at hi1) (wN_at hj1) hpq
    · intro k q hq
      obtain ⟨hk, rfl⟩ := wN_of hq
      rw [hadr' k hk]
      exact va_A.in (wN_at hk)
theorem Inv_set {N : Nat} {cel : Nat → Cl} {sh sh' : Nat → Cl → Prop} (hI : ∀ k, k < N → sh k (cel k)) (is : List Nat) (hn : va_nd is = true) {u : List Cl} (hs : ShL (is.map sh') u) (hsame : ∀ k, k ∉ is → sh k = sh' k) : ∀ k, k < N → sh' k (setL cel is u k) := by
  intro k hk
  by_cases hm : k ∈ is
  · obtain ⟨j, hj⟩ := List.getElem?_of_mem hm
    obtain ⟨c, hc, hsh⟩ := hs.get j k hj
    rw [setL_in hn hj hc]; exact hsh
  · rw [setL_out hm, ← hsame k hm]; exact hI k hk
/-- a contract over a part lifts to the whole -/
theorem liftI {l : Launch} {y : MethodName} {ws : List Cond} {rm : Room} {D : va_G} {N : Nat} {cel : Nat → Cl} {tys tc : List (ClassId × FieldType)} {sz : Nat} {av : List Value} {sh sh' : Nat → Cl → Prop} {R : Int32 → Prop} (is : List Nat) (h : ∀ k ∈ is, k < N) (hn : va_nd is = true) (tC : List Nat) (hT : tC.filterMap (fun i => tys[i]?) = tc) (hI : ∀ k, k < N → sh k (cel k)) (hadr : ∀ k ∈ is, ∀ c, sh' k c → c.1 = (cel k).1) (hsame : ∀ k, k ∉ is → sh k = sh' k)
    (hM : Met l y ws rm (cPre D tc (is.map cel) sz av) (va_Qi (fun (r : Int32) (u : va_W) => R r ∧ ShL (is.map sh') u) (fun u t => cB D (va_A (is.map cel) sz) [] u t) (va_A (is.map cel) sz)) 0 0 (va_A (is.map cel) sz)) :
    Met l y ws rm (cPre D tys (wN N cel) sz av) (va_Qi (fun (r : Int32) (c' : Nat → Cl) => R r ∧ ∀ k, k < N → sh' k (c' k)) (fun c' t => cB D (va_A (wN N cel) sz) [] (wN N c') t) (va_A (wN N cel) sz)) 0 0 (va_A (wN N cel) sz) := by
  refine hM.mono (fun a U hp => cPre_sub is h hn tC hT hp) (fun a st o t hp hq => ?_) (A_sub is h)
  obtain ⟨⟨r, u, ho, ⟨hR, hs⟩, hB⟩, hF⟩ := hq
  obtain ⟨h1, h2⟩ := cB_all is h hn hp hB hF hs hadr
  exact ⟨⟨r, _, ho, ⟨hR, Inv_set hI is hn hs hsame⟩, h1⟩, h2⟩
theorem liftV {l : Launch} {y : MethodName} {ws : List Cond} {rm : Room} {D : va_G} {N : Nat} {cel : Nat → Cl} {tys tc : List (ClassId × FieldType)} {sz : Nat} {av : List Value} {sh sh' : Nat → Cl → Prop} {R : Prop} (is : List Nat) (h : ∀ k ∈ is, k < N) (hn : va_nd is = true) (tC : List Nat) (hT : tC.filterMap (fun i => tys[i]?) = tc) (hI : ∀ k, k < N → sh k (cel k)) (hadr : ∀ k ∈ is, ∀ c, sh' k c → c.1 = (cel k).1) (hsame : ∀ k, k ∉ is → sh k = sh' k)
    (hM : Met l y ws rm (cPre D tc (is.map cel) sz av) (va_Qv (fun (u : va_W) => R ∧ ShL (is.map sh') u) (fun u t => cB D (va_A (is.map cel) sz) [] u t) (va_A (is.map cel) sz)) 0 0 (va_A (is.map cel) sz)) :
    Met l y ws rm (cPre D tys (wN N cel) sz av) (va_Qv (fun (c' : Nat → Cl) => R ∧ ∀ k, k < N → sh' k (c' k)) (fun c' t => cB D (va_A (wN N cel) sz) [] (wN N c') t) (va_A (wN N cel) sz)) 0 0 (va_A (wN N cel) sz) := by
  refine hM.mono (fun a U hp => cPre_sub is h hn tC hT hp) (fun a st o t hp hq => ?_) (A_sub is h)
  obtain ⟨⟨u, ho, ⟨hR, hs⟩, hB⟩, hF⟩ := hq
  obtain ⟨h1, h2⟩ := cB_all is h hn hp hB hF hs hadr
  exact ⟨⟨_, ho, ⟨hR, Inv_set hI is hn hs hsame⟩, h1⟩, h2⟩
