-- ===== a rule applied, in the class
def inst (R : List Int) (g : Env) : List Int := R.flatMap (fun c => if 30 ≤ c ∧ c ≤ 32 then g (c - 30) else [c])
def EnvOK (g : Env) : Prop := ∀ k, g k = [] ∨ Ex lfR (g k)
theorem mL_env : ∀ {X : List Int}, Ex lfU X → ∀ (g : Env) (e : List Int) (g' : Env), Ex lfR e → EnvOK g → mL X g e = some g' → EnvOK g' ∧ (∀ k, g k ≠ [] → g' k ≠ []) ∧ ∀ c ∈ X, 30 ≤ c → c ≤ 32 → g' (c - 30) ≠ [] := by
  intro X hX
  refine Ex.ind (P := fun X => ∀ (g : Env) (e : List Int) (g' : Env), Ex lfR e → EnvOK g → mL X g e = some g' → EnvOK g' ∧ (∀ k, g k ≠ [] → g' k ≠ []) ∧ ∀ c ∈ X, 30 ≤ c → c ≤ 32 → g' (c - 30) ≠ []) ?_ ?_ hX
  · intro c hc g e g' he hg h
    by_cases hl : 30 ≤ c ∧ c ≤ 32
    · rw [mL_one hl he] at h
      unfold bnd at h
      split at h
      · have := Option.some.inj h
        subst this
        refine ⟨fun k => ?_, fun k hk => ?_, fun d hd _ _ => ?_⟩
        · unfold upE; split
          · exact Or.inr he
          · exact hg k
        · unfold upE; split
          · exact he.ne
          · exact hk
        · rw [List.mem_singleton.mp hd]
          show upE g (c - 30) e (c - 30) ≠ []
          rw [show upE g (c - 30) e (c - 30) = e from if_pos rfl]; exact he.ne
      · split at h
        · rename_i q1 q2
          have := Option.some.inj h
          subst this
          exact ⟨hg, fun k hk => hk, fun d hd _ _ => by rw [List.mem_singleton.mp hd]; exact q1⟩
        · cases h
    · obtain ⟨d, y, rfl⟩ : ∃ d y, e = d :: y := by
        cases e with
        | nil => exact absurd rfl he.ne
        | cons d y => exact ⟨d, y, rfl⟩
      rw [mL_cell hl] at h
      split at h
      · have := Option.some.inj h
        subst this
        exact ⟨hg, fun k hk => hk, fun d hd h0 h1 => absurd (by rw [List.mem_singleton.mp hd] at h0 h1; exact ⟨h0, h1⟩) hl⟩
      · cases h
  · intro o A B ho hA hB iA iB g e g' he hg h
    have hl : ¬ (30 ≤ o ∧ o ≤ 32) := by unfold opC at ho; omega
    rcases he.cases with ⟨d, hd, rfl⟩ | ⟨o', x, y, ho', hx, hy, rfl⟩
    · have hne : d ≠ o := by unfold lfR at hd; unfold opC at ho; omega
      rw [mL_cell hl, if_neg hne] at h
      cases h
    · rw [mL_cell hl] at h
      split at h
      · rw [mL_app hA _ _ _ _ hx] at h
        cases q : mL A g x with
        | none => rw [q] at h; cases h
        | some g1 =>
          rw [q] at h
          have h' : mL B g1 y = some g' := h
          obtain ⟨a1, a2, a3⟩ := iA g x g1 hx hg q
          obtain ⟨b1, b2, b3⟩ := iB g1 y g' hy a1 h'
          refine ⟨b1, fun k hk => b2 k (a2 k hk), fun c hc h0 h1 => ?_⟩
          rcases List.mem_cons.mp hc with rfl | hc
          · exact absurd ⟨h0, h1⟩ hl
          · rcases List.mem_append.mp hc with hc | hc
            · exact b2 _ (a3 c hc h0 h1)
            · exact b3 c hc h0 h1
      · cases h
theorem inst_app {A B : List Int} {g : Env} : inst (A ++ B) g = inst A g ++ inst B g := List.flatMap_append ..
theorem inst_cons {c : Int} {B : List Int} {g : Env} : inst (c :: B) g = (if 30 ≤ c ∧ c ≤ 32 then g (c - 30) else [c]) ++ inst B g := rfl
theorem inst_ex {g : Env} (hg : EnvOK g) : ∀ {R : List Int}, Ex lfU R → (∀ c ∈ R, 30 ≤ c → c ≤ 32 → g (c - 30) ≠ []) → Ex lfR (inst R g) := by
  intro R hR
  refine Ex.ind (P := fun R => (∀ c ∈ R, 30 ≤ c → c ≤ 32 → g (c - 30) ≠ []) → Ex lfR (inst R g)) ?_ ?_ hR
  · intro c hc h
    show Ex lfR ((if 30 ≤ c ∧ c ≤ 32 then g (c - 30) else [c]) ++ [])
    rw [List.append_nil]
    by_cases hl : 30 ≤ c ∧ c ≤ 32
    · rw [if_pos hl]
      exact (hg _).resolve_left (h c List.mem_cons_self hl.1 hl.2)
    · rw [if_neg hl]
      exact Ex.leaf (by unfold lfU at hc; unfold lfR; omega)
  · intro o A B ho _ _ iA iB h
    rw [inst_cons, if_neg (by unfold opC at ho; omega), inst_app]
    show Ex lfR (o :: (inst A g ++ inst B g))
    exact Ex.op ho (iA (fun c hc => h c (List.mem_cons_of_mem _ (List.mem_append.mpr (Or.inl hc))))) (iB (fun c hc => h c (List.mem_cons_of_mem _ (List.mem_append.mpr (Or.inr hc)))))
theorem At_eq {f : Int → Int} : ∀ {u w : List Int} {p : Int}, At f p u → At f p w → u.length = w.length → u = w
  | [], [], _, _, _, _ => rfl
  | [], _ :: _, _, _, _, h => by cases h
  | _ :: _, [], _, _, _, h => by cases h
  | c :: u, d :: w, p, hu, hw, h => by
    have e : c = d := hu.1.symm.trans hw.1
    rw [e, At_eq hu.2 hw.2 (Nat.succ.inj h)]
theorem part_at {f : Int → Int} {l u : List Int} {s : Int} (h : At f 0 l) (hu : At f s u) (s0 : 0 ≤ s) (s1 : s + u.length ≤ l.length) : ∃ a b, l = a ++ (u ++ b) ∧ s = a.length := by
  refine ⟨l.take s.toNat, (l.drop s.toNat).drop u.length, ?_, by rw [List.length_take]; omega⟩
  have e1 : l = l.take s.toNat ++ l.drop s.toNat := (List.take_append_drop _ _).symm
  have e2 : l.drop s.toNat = (l.drop s.toNat).take u.length ++ (l.drop s.toNat).drop u.length := (List.take_append_drop _ _).symm
  have h' := h
  rw [e1] at h'
  have h2 := (At_app.mp h').2
  rw [List.length_take, show (0 : Int) + ((min s.toNat l.length : Nat) : Int) = s by omega] at h2
  rw [e2] at h2
  have h3 := (At_app.mp h2).1
  have : (l.drop s.toNat).take u.length = u := At_eq h3 hu (by rw [List.length_take, List.length_drop]; omega)
  rw [this] at e2
  rw [← e2]
  exact e1
section RW
variable {σ : Sg} {n m x2 : Int} {l X R pre e t : List Int} {g : Env}
theorem cv_let {c : Int} (h : 30 ≤ c ∧ c ≤ 32) : cv c = c - 10 := if_pos h
theorem lengthOfRight_k {K : Int → Prop} (hR : ∀ c ∈ R, lfU c ∨ opC c) (hr : RowL σ (12 + 2 * n) (R.map cv)) (hn : 0 ≤ n ∧ n < 12) (hg : EnvC σ n m g) (hm : RowL σ m l) (hb : ∀ c ∈ R, 30 ≤ c → c ≤ 32 → g (c - 30) ≠ []) (k : K (inst R g).length) : wp5_U_lengthOfRight σ n K := by
  have bd := hr.bd
  have bm := hm.bd
  have hlen := hr.2.2.1
  rw [List.length_map] at bd hlen
  have small : ∀ c ∈ R, 30 ≤ c → c ≤ 32 → (g (c - 30)).length ≤ 1000 := fun c hc h0 h1 => by
    rcases hg (c - 30) (by omega) (by omega) with q | ⟨_, q1, q2, q3, q4⟩
    · rw [q.1]; exact Nat.zero_le _
    · have := hm.2.2.1; omega
  have tot0 : ∀ A : List Int, (∀ c ∈ A, c ∈ R) → (inst A g).length ≤ 1000 * A.length := by
    intro A
    induction A with
    | nil => intro _; exact Nat.zero_le _
    | cons c A ih =>
      intro e
      have := ih (fun d hd => e d (List.mem_cons_of_mem _ hd))
      have hc := e c List.mem_cons_self
      rw [inst_cons, List.length_append, List.length_cons]
      have h1 : (if 30 ≤ c ∧ c ≤ 32 then g (c - 30) else [c]).length ≤ 1000 := by
        split
        · rename_i q; exact small c hc q.1 q.2
        · simp
      omega
  have tot : ∀ A B : List Int, R = A ++ B → (inst A g).length ≤ 1000 * A.length := fun A B e => tot0 A (fun c hc => by rw [e]; exact List.mem_append.mpr (Or.inl hc))
  have cap : R.length ≤ 100 := by
    have h4 := hr.2.2.2
    have : capI (12 + 2 * n) ≤ 100 := by unfold capI; split <;> omega
    rw [List.length_map] at h4
    omega
  refine wl2_rule (fun (c i : Int) => ∃ A B : List Int, R = A ++ B ∧ i = A.length ∧ c = (inst A g).length) (fun _ (i : Int) => ((R.length : Int) - i).toNat) ?_ ⟨[], R, rfl, rfl, rfl⟩
  rintro P c i ⟨A, B, eR, rfl, rfl⟩ ih
  have tA := tot A B eR
  have lR : R.length = A.length + B.length := by rw [eR, List.length_append]
  refine ⟨fun z => ?_, fun z => ?_⟩
  · have : B = [] := List.length_eq_zero_iff.mp (by omega)
    rw [this, List.append_nil] at eR
    rw [eR] at k; exact k
  · cases B with
    | nil => simp only [List.length_nil] at lR; omega
    | cons d B =>
      have hd : d ∈ R := by rw [eR]; simp
      have hr' : RowL σ (12 + 2 * n) (A.map cv ++ (cv d :: B.map cv)) := by rw [eR] at hr; simpa using hr
      have step : inst (A ++ [d]) g = inst A g ++ inst [d] g := inst_app
      refine cell_mid hr' (by rw [List.length_map]) (letterOf_k (fun q => ⟨fun _ => ?_, fun q2 => absurd q2 (by omega)⟩) (fun q => ⟨fun q2 => absurd rfl q2, fun _ => ?_⟩))
      · have hl : 30 ≤ d ∧ d ≤ 32 := by
          by_cases hl : 30 ≤ d ∧ d ≤ 32
          · exact hl
          · rw [cv_no hl] at q
            have := hR d hd
            unfold lfU opC at this; omega
        rw [cv_let hl, show d - 10 - 20 = d - 30 by omega]
        have hv : (inst [d] g).length = (g (d - 30)).length := by
          show ((if 30 ≤ d ∧ d ≤ 32 then g (d - 30) else [d]) ++ []).length = _
          rw [List.append_nil, if_pos hl]
        have sm := small d hd hl.1 hl.2
        rcases hg (d - 30) (by omega) (by omega) with q0 | ⟨_, q1, q2, q3, q4⟩
        · exact absurd q0.1 (hb d hd hl.1 hl.2)
        rw [q3, show ((inst A g).length : Int) + (σ.2.2.2 2 n (d - 30) + (g (d - 30)).length - σ.2.2.2 2 n (d - 30)) = ((inst (A ++ [d]) g).length : Nat) by rw [step, List.length_append, hv]; omega]
        have tt : (inst (A ++ [d]) g).length ≤ 1000 * A.length + 1000 := by rw [step, List.length_append, hv]; omega
        exact ⟨by omega, ⟨by omega, by omega⟩, rng_small (by omega) (by omega), ih _ _ ⟨A ++ [d], B, by rw [eR]; simp, by simp only [List.length_append, List.length_cons, List.length_nil]; omega, rfl⟩ (by omega)⟩
      · have hl : ¬ (30 ≤ d ∧ d ≤ 32) := fun hl => by rw [cv_let hl] at q; omega
        have hv : (inst [d] g).length = 1 := by
          show ((if 30 ≤ d ∧ d ≤ 32 then g (d - 30) else [d]) ++ []).length = _
          rw [List.append_nil, if_neg hl]; rfl
        rw [show ((inst A g).length : Int) + 1 = ((inst (A ++ [d]) g).length : Nat) by rw [step, List.length_append, hv]; omega]
        have tt : (inst (A ++ [d]) g).length ≤ 1000 * A.length + 1 := by rw [step, List.length_append, hv]; omega
        exact ⟨⟨by omega, by omega⟩, rng_small (by omega) (by omega), ih _ _ ⟨A ++ [d], B, by rw [eR]; simp, by simp only [List.length_append, List.length_cons, List.length_nil]; omega, rfl⟩ (by omega)⟩
end RW
