-- ===== what a PASS makes, in the class
noncomputable def itF (v : Int) (l : List Int) : List Int := if v = 20 then foF l else if v = 21 then deF l else if v = 22 then hdF l [] else if v = 23 then hcF l else unF l
def itR (LX RX : Int → List Int) (v : Int) (l : List Int) (o : Option (List Int)) : Prop := (v < 20 ∧ agR (LX v) (RX v) 50 l o) ∨ (20 ≤ v ∧ o = some (itF v l))
theorem itR.uq {LX RX : Int → List Int} {v : Int} {l : List Int} {o o' : Option (List Int)} (h : itR LX RX v l o) (h' : itR LX RX v l o') : o = o' := by
  rcases h with ⟨h1, h2⟩ | ⟨h1, h2⟩
  · rcases h' with ⟨_, k2⟩ | ⟨k1, _⟩
    · exact h2.uq k2
    · omega
  · rcases h' with ⟨k1, _⟩ | ⟨_, k2⟩
    · omega
    · exact h2.trans k2.symm
def tooL (l : List Int) : Prop := 40 < cs l ∨ 300 < cp l
def mkR (LX RX : Int → List Int) : List Int → List Int → Option (List Int) → Prop
  | [], l, o => o = some l
  | v :: V, l, o => (itR LX RX v l none ∧ o = none) ∨ ∃ l', itR LX RX v l (some l') ∧ ((tooL l' ∧ o = none) ∨ (¬ tooL l' ∧ mkR LX RX V l' o))
theorem mkR.uq {LX RX : Int → List Int} : ∀ {V : List Int} {l : List Int} {o o' : Option (List Int)}, mkR LX RX V l o → mkR LX RX V l o' → o = o'
  | [], _, _, _, h, h' => h.trans h'.symm
  | v :: V, l, o, o', h, h' => by
    rcases h with ⟨h1, h2⟩ | ⟨l1, h1, h2⟩
    · rcases h' with ⟨_, k2⟩ | ⟨l2, k1, _⟩
      · exact h2.trans k2.symm
      · cases h1.uq k1
    · rcases h' with ⟨k1, _⟩ | ⟨l2, k1, k2⟩
      · cases h1.uq k1
      · have e := Option.some.inj (h1.uq k1)
        subst e
        rcases h2 with ⟨a1, a2⟩ | ⟨a1, a2⟩
        · rcases k2 with ⟨_, b2⟩ | ⟨b1, _⟩
          · exact a2.trans b2.symm
          · exact absurd a1 b1
        · rcases k2 with ⟨b1, _⟩ | ⟨_, b2⟩
          · exact absurd b1 a1
          · exact mkR.uq a2 b2
theorem itF_sq {v : Int} {l : List Int} (hl : Sq l) : Sq (itF v l) := by
  unfold itF
  split
  · rw [← fo21 hl]; exact (fo2L_sq (fo1L_sq hl).1).1
  · split
    · exact (dI_sq 41 hl).1
    · split
      · exact (hdF_sq hl []).1
      · split
        · exact (hcI_ok l.length hl).1
        · exact (unF_len hl).1
def RuC (σ : Sg) (n : Int) (X R : List Int) : Prop := Ex lfU X ∧ Ex lfU R ∧ (∀ c ∈ R, 30 ≤ c → c ≤ 32 → c ∈ X) ∧ RowL σ (11 + 2 * n) (X.map cv) ∧ RowL σ (12 + 2 * n) (R.map cv)
def mk9 (k : Int) : Prop := k = 9 ∨ k = 10
theorem makeOf_k {σ : Sg} {k m : Int} {l V : List Int} {LX RX : Int → List Int} {K : Int → Sg → Prop} (hk : 0 ≤ k ∧ k < 6) (h : RowL σ m l) (hm : m ≠ 9) (hl : Sq l) (hcs : cs l ≤ 40) (hcp : cp l ≤ 300) (hV : At (σ.2.2.2 1 k) 0 V) (hn : σ.2.1 69 k = V.length) (h8 : V.length ≤ 8) (hI : ∀ v ∈ V, (0 ≤ v ∧ v < 12 ∧ RuC σ v (LX v) (RX v)) ∨ (20 ≤ v ∧ v ≤ 24))
    (k1 : ∀ l', mkR LX RX V l (some l') → Sq l' → cs l' ≤ 40 → cp l' ≤ 300 → ∀ σ', RowL σ' 9 l' → Fq (fl 71) mk9 ab σ σ' → K 1 σ') (k0 : mkR LX RX V l none → ∀ σ', Fq (fl 71) mk9 ab σ σ' → K 0 σ') : wp5_P_makeOf σ k m K := by
  have hll := hl.len
  have up9 : ∀ {σ σ' : Sg}, Fq No (one 9) No σ σ' → Fq (fl 71) mk9 ab σ σ' := fun f => f.mono (fun _ h => h.elim) (fun _ h => Or.inl h) (fun _ h => h.elim)
  have upd : ∀ {σ σ' : Sg}, Fq (fl 71) (one 9) No σ σ' → Fq (fl 71) mk9 ab σ σ' := fun f => f.mono (fun _ h => h) (fun _ h => Or.inl h) (fun _ h => h.elim)
  have upu : ∀ {σ σ' : Sg}, Fq No (two 10 9) No σ σ' → Fq (fl 71) mk9 ab σ σ' := fun f => f.mono (fun _ h => h.elim) (fun _ h => h.elim Or.inr Or.inl) (fun _ h => h.elim)
  have upa : ∀ {σ σ' : Sg}, Fq No (fun k => k = 9 ∨ k = 10) ab σ σ' → Fq (fl 71) mk9 ab σ σ' := fun f => f.mono (fun _ h => h.elim) (fun _ h => h) (fun _ h => h)
  have c9 : capI 9 = 1000 := rfl
  refine ⟨fun z => absurd z (by omega), fun _ => ⟨fun z => absurd z (by omega), fun _ => u1 ?_⟩⟩
  refine copy_k (n := 9) (by omega) h hm (by omega) (fun σ0 r0 f0 => ?_)
  refine wl2_rule (fun (i : Int) (s : Sg) => ∃ (A B : List Int) (l1 : List Int), V = A ++ B ∧ i = A.length ∧ RowL s 9 l1 ∧ Sq l1 ∧ cs l1 ≤ 40 ∧ cp l1 ≤ 300 ∧ Fq (fl 71) mk9 ab σ s ∧ ∀ o, mkR LX RX B l1 o → mkR LX RX V l o) (fun (i : Int) _ => ((V.length : Int) - i).toNat) ?_ ⟨[], V, l, rfl, rfl, r0, hl, hcs, hcp, up9 f0, fun o q => q⟩
  rintro P i s ⟨A, B, l1, eV, rfl, hr, hl1, hc1, hp1, f, ho⟩ ih
  have lV : V.length = A.length + B.length := by rw [eV, List.length_append]
  have e69 : s.2.1 69 k = V.length := by rw [(f.1 69 (fun z => absurd z.1 (by decide))).2]; exact hn
  have e1 : s.2.2.2 1 = σ.2.2.2 1 := f.2.2.2 1 (by decide) (fun z => z.elim (by decide) (by decide))
  have hl1l := hl1.len
  refine ⟨hk, fun z => ?_, fun z => ⟨fun z2 => absurd z2 (by omega), fun _ => ⟨by omega, ?_⟩⟩⟩
  · have hB : B = [] := List.length_eq_zero_iff.mp (by omega)
    subst hB
    exact k1 l1 (ho _ rfl) hl1 hc1 hp1 s hr f
  cases B with
  | nil => simp only [List.length_nil] at lV; omega
  | cons v B =>
    have hv : s.2.2.2 1 k A.length = v := by
      rw [e1]
      rw [eV] at hV
      have := (At_app.mp hV).2.1
      rwa [Int.zero_add] at this
    rw [hv]
    have hvV : v ∈ V := by rw [eV]; simp
    -- behind the item
    have done : ∀ l', itR LX RX v l1 (some l') → Sq l' → ∀ s', RowL s' 9 l' → Fq (fl 71) mk9 ab s s' → wp5_P_makeOf_168 K A.length P 1 s' := fun l' hit hl' s' hr' f' => t1 (isTooLarge_k hr' (fun q => t1 (k0 (ho _ (Or.inr ⟨l', hit, Or.inl ⟨q, rfl⟩⟩)) s' (f.trans f'))) (fun q1 q2 => t0 ⟨rng_small (by omega) (by omega), ih _ _ ⟨A ++ [v], B, l', by rw [eV]; simp, by simp only [List.length_append, List.length_cons, List.length_nil]; omega, hr', hl', q1, q2, f.trans f', fun o q => ho o (Or.inr ⟨l', hit, Or.inr ⟨fun z => z.elim (by omega) (by omega), q⟩⟩)⟩ (by simp only [List.length_append, List.length_cons, List.length_nil] at *; omega)⟩))
    have built : 20 ≤ v → ∀ s', RowL s' 9 (itF v l1) → Fq (fl 71) mk9 ab s s' → wp5_P_makeOf_168 K A.length P 1 s' := fun q s' hr' f' => done _ (Or.inr ⟨q, rfl⟩) (itF_sq hl1) s' hr' f'
    refine ⟨fun q => ?_, fun q => ?_, fun q => ?_, fun q => ?_, fun q => ?_, fun q => ?_⟩
    · exact fold_k hr hl1 (fun s' r' f' => built (by omega) s' (by rw [q]; exact r') (up9 f'))
    · exact dead_k hr hl1 hc1 (by omega) (fun s' r' f' => built (by omega) s' (by rw [q]; exact r') (upd f'))
    · exact hastyDead_k hr hl1 (fun s' r' f' => built (by omega) s' (by rw [q]; exact r') (up9 f'))
    · exact hastyCopy_k hr hl1 hc1 (fun s' r' f' => built (by omega) s' (by rw [q]; exact r') (up9 f'))
    · exact unroll_k (by decide) hr hl1 (by omega) c9 (fun s' r' f' => built (by omega) s' (by rw [q]; exact r') (upu f'))
    · rcases hI v hvV with ⟨v0, v1, hX, hR, hLR, rX, rR⟩ | ⟨v0, v1⟩
      · have nr : ∀ x : Int, 11 ≤ x → ¬ mk9 x := fun x hx z => z.elim (by omega) (by omega)
        refine ⟨fun z => absurd z (by omega), fun _ => ⟨fun z => absurd z (by omega), fun _ => ⟨⟨v0, v1⟩, fun z => absurd z (by omega), fun _ => ⟨⟨v0, v1⟩, ?_⟩⟩⟩⟩
        exact applyRule_k ⟨v0, v1⟩ hX hR hLR (rX.fr f (nr _ (by omega))) (rR.fr f (nr _ (by omega))) hr hl1 hc1 hp1 (fun l' hag hl' _ _ s' r' f' => done l' (Or.inl ⟨by omega, hag⟩) hl' s' r' (upa f')) (fun hag s' f' => t0 (k0 (ho _ (Or.inl ⟨Or.inl ⟨by omega, hag⟩, rfl⟩)) s' (f.trans (upa f'))))
      · omega
