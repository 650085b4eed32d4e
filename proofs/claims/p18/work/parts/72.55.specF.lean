-- ===== letters of a rule
def bk (ll k : Int) : Prop := ziand ll (zishl 1 k) ≠ 0
theorem b_ll : ∀ (a : Fin 8) (j : Fin 3), 0 ≤ zior a.val (zishl 1 j.val) ∧ zior a.val (zishl 1 j.val) ≤ 7 ∧ ∀ k : Fin 3, ziand (zior a.val (zishl 1 j.val)) (zishl 1 k.val) ≠ 0 → ziand a.val (zishl 1 k.val) ≠ 0 ∨ k = j := by decide +kernel
theorem ll_or {ll j : Int} (l0 : 0 ≤ ll) (l7 : ll ≤ 7) (j0 : 0 ≤ j) (j2 : j ≤ 2) : 0 ≤ zior ll (zishl 1 j) ∧ zior ll (zishl 1 j) ≤ 7 ∧ ∀ k : Int, 0 ≤ k → k ≤ 2 → bk (zior ll (zishl 1 j)) k → bk ll k ∨ k = j := by
  obtain ⟨a, rfl⟩ : ∃ n : Fin 8, ll = (n.val : Int) := ⟨⟨ll.toNat, by omega⟩, by show ll = (ll.toNat : Int); omega⟩
  obtain ⟨b, rfl⟩ : ∃ n : Fin 3, j = (n.val : Int) := ⟨⟨j.toNat, by omega⟩, by show j = (j.toNat : Int); omega⟩
  obtain ⟨h1, h2, h3⟩ := b_ll a b
  refine ⟨h1, h2, fun k k0 k2 hk => ?_⟩
  obtain ⟨c, rfl⟩ : ∃ n : Fin 3, k = (n.val : Int) := ⟨⟨k.toNat, by omega⟩, by show k = (k.toNat : Int); omega⟩
  rcases h3 c hk with h | h
  · exact Or.inl h
  · exact Or.inr (by rw [h])
/-- what a part of a rule does to the letters -/
def LB (ri ll ll' : Int) (e : List Int) : Prop := 0 ≤ ll' ∧ ll' ≤ 7 ∧ (∀ k : Int, 0 ≤ k → k ≤ 2 → bk ll' k → bk ll k ∨ (30 + k) ∈ e) ∧ (ri ≠ 0 → ∀ c ∈ e, 30 ≤ c → c ≤ 32 → bk ll (c - 30))
theorem LB.app {ri l1 l2 l3 o : Int} {a b : List Int} (h1 : LB ri l1 l2 a) (h2 : LB ri l2 l3 b) (ho : opC o) : LB ri l1 l3 (o :: (a ++ b)) := by
  obtain ⟨a1, a2, a3, a4⟩ := h1
  obtain ⟨b1, b2, b3, b4⟩ := h2
  refine ⟨b1, b2, fun k k0 k2 hk => ?_, fun hri c hc c0 c2 => ?_⟩
  · rcases b3 k k0 k2 hk with h | h
    · rcases a3 k k0 k2 h with h | h
      · exact Or.inl h
      · exact Or.inr (List.mem_cons_of_mem _ (List.mem_append_left _ h))
    · exact Or.inr (List.mem_cons_of_mem _ (List.mem_append_right _ h))
  · rcases List.mem_cons.mp hc with h | h
    · unfold opC at ho; omega
    · rcases List.mem_append.mp h with h | h
      · exact a4 hri c h c0 c2
      · have := b4 hri c h c0 c2
        rcases a3 (c - 30) (by omega) (by omega) this with q | q
        · exact q
        · exact a4 hri (30 + (c - 30)) q (by omega) (by omega) |> fun z => by rwa [show 30 + (c - 30) - 30 = c - 30 by omega] at z
-- ===== expressions read
def lfx (ir : Int) (c : Int) : Prop := (0 ≤ c ∧ c ≤ 15) ∨ (ir = 0 ∧ 20 ≤ c ∧ c ≤ 25) ∨ (ir ≠ 0 ∧ 30 ≤ c ∧ c ≤ 32)
def KF (K : Int → (Int → Int) → Int → Int → Int → Int → Int → Int → Int → Int → Int → Int → Prop) : Prop := ∀ f m a t ta v w wa d c ll, 0 ≤ v → v ≤ 9999 → K 0 f m a t ta v w wa d c ll
def KT (taped ir ri pm : Int) (f : Int → Int) (m a t d c ll : Int) (K : Int → (Int → Int) → Int → Int → Int → Int → Int → Int → Int → Int → Int → Int → Prop) : Prop := ∀ (e : List Int) (f' : Int → Int) (m' a' t' ta' v' w' wa' c' ll' : Int), Ex (lfx ir) e → Wr f m e f' m' → c' = c + e.length → c' ≤ pm → SC taped ir a' t' v' → mz a' t' < mz a t → LB ri ll ll' e → K 1 f' m' a' t' ta' v' w' wa' d c' ll'
def PX (F : Nat → (Int → Int) → Int → (Int → Int) → Int → Int → Int → Int → Int → Int → Int → Int → Int → Int → Int → Int → Int → (Int → (Int → Int) → Int → Int → Int → Int → Int → Int → Int → Int → Int → Int → Prop) → Prop) (k : Nat) (tape : Int → Int) (taped ir ri pm : Int) (n : Nat) : Prop := ∀ (f : Int → Int) (m a t ta v w wa d c ll : Int) (K : Int → (Int → Int) → Int → Int → Int → Int → Int → Int → Int → Int → Int → Int → Prop), SC taped ir a t v → 0 ≤ d → d ≤ 8 → 3 * (8 - d).toNat + k ≤ n → 0 ≤ c → c ≤ pm → pm ≤ 300 → 0 ≤ m → m + (pm - c) ≤ 2300 → 0 ≤ ll → ll ≤ 7 → KF K → KT taped ir ri pm f m a t d c ll K → F n f m tape taped a t ta v w wa d c pm ll ir ri K
theorem wp_sumUp_s {n : Nat} : wp_sumUp (n + 1) = wp_sumUp_b (wp_sumUp n) (wp_product n) (wp_unit n) := rfl
theorem wp_product_s {n : Nat} : wp_product (n + 1) = wp_product_b (wp_sumUp n) (wp_product n) (wp_unit n) := rfl
theorem wp_unit_s {n : Nat} : wp_unit (n + 1) = wp_unit_b (wp_sumUp n) (wp_product n) (wp_unit n) := rfl
theorem unit_of {tape : Int → Int} {taped ir ri pm : Int} (h8 : taped ≤ 800) {n : Nat} (hS : PX wp_sumUp 3 tape taped ir ri pm n) : PX wp_unit 1 tape taped ir ri pm (n + 1) := by
  intro f m a t ta v w wa d c ll K hsc d0 d8 hn c0 c1 c2 m0 m1 l0 l7 hF hT
  have hsc' := hsc
  obtain ⟨a0, a1, hk, v0, v1⟩ := hsc'
  rw [wp_unit_s]
  -- a leaf that is written
  have leaf : ∀ (z ll' : Int), t ≠ 0 → lfx ir z → LB ri ll ll' [z] → c < pm → ∀ w' wa', wp_unit_208 K f m tape taped a t ta v d ir (c + 1) ll' wa' w' z := by
    intro z ll' ht hz hlb hc w' wa'
    exact write_ok m0 (by omega) (fun f' m' hw => nextS h8 hsc ht (fun a' t' ta' v' s1 s2 => hT [z] f' m' a' t' ta' v' w' wa' (c + 1) ll' (Ex.leaf hz) hw (by simp) (by omega) s1 s2 hlb))
  have b151 : ∀ (ll' : Int), t ≠ 0 → (t = 2 → v ≤ 15) → (t ≠ 2 → 320 ≤ t) → (∀ z, ((t = 2 ∧ z = v) ∨ (t ≠ 2 ∧ ir = 0 ∧ z = 20 + t - 320) ∨ (t ≠ 2 ∧ ir ≠ 0 ∧ z = 30 + t - 330)) → LB ri ll ll' [z]) → wp_unit_151 K f m tape taped a t ta v w wa d c pm ir ll' := by
    intro ll' ht hv ht2 hlb
    refine counts_ok c0 c1 c2 (fun hc => u1 ⟨fun hne => ?_, fun he => leaf v ll' ht (Or.inl ⟨v0, hv he⟩) (hlb v (Or.inl ⟨he, rfl⟩)) hc _ _⟩) (fun w wa => u0 (hF _ _ _ _ _ _ _ _ _ _ _ v0 v1))
    have h320 := ht2 hne
    have htk := hk h320
    refine ⟨fun hi => ⟨⟨by omega, by omega⟩, leaf _ ll' ht (Or.inr (Or.inl ⟨hi, by omega, by omega⟩)) (hlb _ (Or.inr (Or.inl ⟨hne, hi, rfl⟩))) hc _ _⟩, fun hi => ⟨⟨by omega, by omega⟩, leaf _ ll' ht (Or.inr (Or.inr ⟨hi, by omega, by omega⟩)) (hlb _ (Or.inr (Or.inr ⟨hne, hi, rfl⟩))) hc _ _⟩⟩
  have same : ∀ z, (ir = 0 ∨ (0 ≤ z ∧ z ≤ 15)) → (z < 30) → LB ri ll ll [z] := fun z _ hz => ⟨l0, l7, fun k _ _ h => Or.inl h, fun _ x hx x0 _ => by rw [List.mem_singleton.mp hx] at x0; omega⟩
  have b97 : ∀ s, (s = 0 ∨ s = 1) → (s = 0 → t = 2) → (s = 1 → 320 ≤ t) → (t = 2 → v ≤ 15) → wp_unit_97 K f m tape taped a t ta v w wa d c pm ll ir ri s := by
    intro s hs01 hs0 hs1 hv
    refine ⟨fun h0 => ?_, fun h0 => ⟨fun hi => ?_, fun hi => ?_⟩⟩
    · have ht := hs0 h0
      exact b151 ll (by omega) hv (fun q => absurd ht q) (fun z hz => same z (Or.inr (by omega)) (by omega))
    · have ht := hs1 (by omega)
      have htk := hk ht
      exact b151 ll (by omega) hv (fun _ => ht) (fun z hz => same z (Or.inl hi) (by omega))
    · have ht := hs1 (by omega)
      have htk := hk ht
      have ho := ll_or (ll := ll) (j := t - 330) l0 l7 (by omega) (by omega)
      have go : (ri ≠ 0 → bk ll (t - 330)) → wp_unit_141 K f m tape taped a t ta v w wa d c pm ll ir := by
        intro hb
        refine b151 _ (by omega) hv (fun _ => ht) (fun z hz => ⟨ho.1, ho.2.1, fun k k0 k2 hk' => ?_, fun hri x hx x0 x2 => ?_⟩)
        · rcases ho.2.2 k k0 k2 hk' with q | q
          · exact Or.inl q
          · exact Or.inr (List.mem_singleton.mpr (by omega))
        · rw [List.mem_singleton.mp hx, show z - 30 = t - 330 by omega]
          exact hb hri
      exact ⟨fun h => go (fun q => absurd h q), fun hr => ⟨fun hb => go (fun _ => hb), fun _ => ⟨Or.inl rfl, hF _ _ _ _ _ _ _ _ _ _ _ v0 v1⟩⟩⟩
  have b63 : (t = 2 → v ≤ 15) → wp_unit_63 K f m tape taped a t ta v w wa d c pm ll ir ri := by
    intro hv
    have b78 : ∀ s, (s = 0 ∨ s = 1) → (s = 1 → 320 ≤ t) → wp_unit_78 K f m tape taped a t ta v w wa d c pm ll ir ri s := fun s hs h1 => ⟨fun ht => b97 s hs (fun _ => ht) h1 hv, fun ht => ⟨fun hs0 => b97 s hs (fun q => absurd q hs0) h1 hv, fun _ => ⟨Or.inl rfl, hF _ _ _ _ _ _ _ _ _ _ _ v0 v1⟩⟩⟩
    exact ⟨fun _ => b78 0 (Or.inl rfl) (fun q => absurd q (by decide)), fun h => b78 1 (Or.inr rfl) (fun _ => h)⟩
  refine ⟨fun _ => ⟨fun hne => b63 (fun q => absurd q hne), fun _ => ⟨fun hv => b63 (fun _ => hv), fun _ => ⟨Or.inl rfl, hF _ _ _ _ _ _ _ _ _ _ _ v0 v1⟩⟩⟩, fun ht => ?_⟩
  refine opensS h8 hsc (by decide) d0 d8 (fun a t ta v w wa d q0 q1 => t0 (hF _ _ _ _ _ _ _ _ _ _ _ q0 q1)) (fun hd a2 t2 ta2 v2 s1 s2 => t1 ?_)
  refine hS f m a2 t2 ta2 v2 w wa (d + 1) c ll _ s1 (by omega) (by omega) (by omega) c0 c1 c2 m0 m1 l0 l7 (fun f m a t ta v w wa d c ll q0 q1 => t0 (hF _ _ _ _ _ _ _ _ _ _ _ q0 q1)) (fun e f3 m3 a3 t3 ta3 v3 w3 wa3 c3 ll3 he hw hc3 hc4 s3 s4 hlb => t1 ?_)
  refine closesS h8 s3 (by decide) (by omega) (by omega) (fun a t ta v w wa d q0 q1 => t0 (hF _ _ _ _ _ _ _ _ _ _ _ q0 q1)) (fun a5 t5 ta5 v5 s5 s6 => t1 ?_)
  have := hT e f3 m3 a5 t5 ta5 v5 w3 wa3 c3 ll3 he hw hc3 hc4 s5 (by omega) hlb
  rwa [show d + 1 - 1 = d by omega]
theorem product_of {tape : Int → Int} {taped ir ri pm : Int} (h8 : taped ≤ 800) {n : Nat} (hU : PX wp_unit 1 tape taped ir ri pm n) : PX wp_product 2 tape taped ir ri pm (n + 1) := by
  intro f m a t ta v w wa d c ll K hsc d0 d8 hn c0 c1 c2 m0 m1 l0 l7 hF hT
  rw [wp_product_s]
  refine hU f m a t ta v w wa d c ll _ hsc d0 d8 (by omega) c0 c1 c2 m0 m1 l0 l7 (fun f m a t ta v w wa d c ll q0 q1 => u0 (hF _ _ _ _ _ _ _ _ _ _ _ q0 q1)) (fun e f1 m1' a1 t1' ta1 v1 w1 wa1 c1' ll1 he hw hc1 hc2 s1 s2 hlb => u1 ?_)
  refine wl11_rule (fun (f' : Int → Int) (m' a' t' _ v' _ _ d' c' ll' : Int) => d' = d ∧ ∃ e, Ex (lfx ir) e ∧ Wr f m e f' m' ∧ c' = c + e.length ∧ c' ≤ pm ∧ SC taped ir a' t' v' ∧ mz a' t' < mz a t ∧ LB ri ll ll' e) (fun _ _ (a' t' : Int) _ _ _ _ _ _ _ => mz a' t') ?_ ⟨rfl, e, he, hw, hc1, hc2, s1, s2, hlb⟩
  rintro P f2 m2 a2 t2 ta2 v2 w2 wa2 d2 c3 ll2 ⟨rfl, e, he, hw, hc1, hc2, s1, s2, hlb⟩ ih
  have hm2 := hw.1
  refine ⟨fun _ => hT e _ _ _ _ _ _ _ _ _ _ he hw hc1 hc2 s1 s2 hlb, fun ht => ?_⟩
  refine counts_ok (by omega) hc2 c2 (fun hc => u1 ?_) (fun w wa => u0 (hF _ _ _ _ _ _ _ _ _ _ _ s1.2.2.2.1 s1.2.2.2.2))
  refine nextS h8 s1 (by omega) (fun a3 t3 ta3 v3 s3 s4 => ahead_ok hw m0 (by omega) (fun f3 hw3 => ?_))
  refine hU f3 (m2 + 1) a3 t3 ta3 v3 _ _ d2 (c3 + 1) ll2 _ s3 d0 d8 (by omega) (by omega) (by omega) c2 (by omega) (by omega) hlb.1 hlb.2.1 (fun f m a t ta v w wa d c ll q0 q1 => u0 (hF _ _ _ _ _ _ _ _ _ _ _ q0 q1)) (fun e4 f4 m4 a4 t4 ta4 v4 w4 wa4 c4 ll4 he4 hw4 hc4 hc5 s5 s6 hlb4 => u1 ?_)
  refine ih _ _ _ _ _ _ _ _ _ _ _ ⟨rfl, 122 :: (e ++ e4), Ex.op (⟨by decide, by decide⟩ : opC 122) he he4, ?_, ?_, hc5, s5, by omega, hlb.app hlb4 (⟨by decide, by decide⟩ : opC 122)⟩ (by omega)
  · have := hw3.app hw4
    simpa using this
  · rw [hc4, hc1]; simp only [List.length_cons, List.length_append]; omega
theorem sumUp_of {tape : Int → Int} {taped ir ri pm : Int} (h8 : taped ≤ 800) {n : Nat} (hU : PX wp_product 2 tape taped ir ri pm n) : PX wp_sumUp 3 tape taped ir ri pm (n + 1) := by
  intro f m a t ta v w wa d c ll K hsc d0 d8 hn c0 c1 c2 m0 m1 l0 l7 hF hT
  rw [wp_sumUp_s]
  refine hU f m a t ta v w wa d c ll _ hsc d0 d8 (by omega) c0 c1 c2 m0 m1 l0 l7 (fun f m a t ta v w wa d c ll q0 q1 => u0 (hF _ _ _ _ _ _ _ _ _ _ _ q0 q1)) (fun e f1 m1' a1 t1' ta1 v1 w1 wa1 c1' ll1 he hw hc1 hc2 s1 s2 hlb => u1 ?_)
  refine wl11_rule (fun (f' : Int → Int) (m' a' t' _ v' _ _ d' c' ll' : Int) => d' = d ∧ ∃ e, Ex (lfx ir) e ∧ Wr f m e f' m' ∧ c' = c + e.length ∧ c' ≤ pm ∧ SC taped ir a' t' v' ∧ mz a' t' < mz a t ∧ LB ri ll ll' e) (fun _ _ (a' t' : Int) _ _ _ _ _ _ _ => mz a' t') ?_ ⟨rfl, e, he, hw, hc1, hc2, s1, s2, hlb⟩
  rintro P f2 m2 a2 t2 ta2 v2 w2 wa2 d2 c3 ll2 ⟨rfl, e, he, hw, hc1, hc2, s1, s2, hlb⟩ ih
  have hm2 := hw.1
  have b48 : ∀ z, opC z → t2 ≠ 0 → wp_sumUp_48 (wp_product n) K m tape taped pm ir ri a2 c3 d2 f2 ll2 m2 ta2 t2 v2 wa2 w2 P z := by
    intro z hz ht
    refine counts_ok (by omega) hc2 c2 (fun hc => u1 ?_) (fun w wa => u0 (hF _ _ _ _ _ _ _ _ _ _ _ s1.2.2.2.1 s1.2.2.2.2))
    refine nextS h8 s1 ht (fun a3 t3 ta3 v3 s3 s4 => ahead_ok hw m0 (by omega) (fun f3 hw3 => ?_))
    refine hU f3 (m2 + 1) a3 t3 ta3 v3 _ _ d2 (c3 + 1) ll2 _ s3 d0 d8 (by omega) (by omega) (by omega) c2 (by omega) (by omega) hlb.1 hlb.2.1 (fun f m a t ta v w wa d c ll q0 q1 => u0 (hF _ _ _ _ _ _ _ _ _ _ _ q0 q1)) (fun e4 f4 m4 a4 t4 ta4 v4 w4 wa4 c4 ll4 he4 hw4 hc4 hc5 s5 s6 hlb4 => u1 ?_)
    refine ih _ _ _ _ _ _ _ _ _ _ _ ⟨rfl, z :: (e ++ e4), Ex.op hz he he4, ?_, ?_, hc5, s5, by omega, hlb.app hlb4 hz⟩ (by omega)
    · have := hw3.app hw4
      simpa using this
    · rw [hc4, hc1]; simp only [List.length_cons, List.length_append]; omega
  have b32 : t2 ≠ 0 → wp_sumUp_32 (wp_product n) K m tape taped pm ir ri a2 c3 d2 f2 ll2 m2 ta2 t2 v2 wa2 w2 P := fun ht => ⟨fun _ => b48 121 ⟨by decide, by decide⟩ ht, fun _ => b48 120 ⟨by decide, by decide⟩ ht⟩
  exact ⟨fun h => b32 (by omega), fun _ => ⟨fun _ => hT e _ _ _ _ _ _ _ _ _ _ he hw hc1 hc2 s1 s2 hlb, fun h => b32 (by omega)⟩⟩
theorem PX_all {tape : Int → Int} {taped ir ri pm : Int} (h8 : taped ≤ 800) : ∀ n : Nat, PX wp_sumUp 3 tape taped ir ri pm n ∧ PX wp_product 2 tape taped ir ri pm n ∧ PX wp_unit 1 tape taped ir ri pm n := by
  intro n
  induction n with
  | zero => exact ⟨fun f m a t ta v w wa d c ll K _ _ _ hn => absurd hn (by omega), fun f m a t ta v w wa d c ll K _ _ _ hn => absurd hn (by omega), fun f m a t ta v w wa d c ll K _ _ _ hn => absurd hn (by omega)⟩
  | succ n ih => exact ⟨sumUp_of h8 ih.2.1, product_of h8 ih.2.2, unit_of h8 ih.1⟩
theorem sumUp_ok {tape : Int → Int} {taped ir ri pm : Int} (h8 : taped ≤ 800) {f : Int → Int} {m a t ta v w wa d c ll : Int} {K : Int → (Int → Int) → Int → Int → Int → Int → Int → Int → Int → Int → Int → Int → Prop} (hsc : SC taped ir a t v) (d0 : 0 ≤ d) (d8 : d ≤ 8) (c0 : 0 ≤ c) (c1 : c ≤ pm) (c2 : pm ≤ 300) (m0 : 0 ≤ m) (m1 : m + (pm - c) ≤ 2300) (l0 : 0 ≤ ll) (l7 : ll ≤ 7) (hF : KF K) (hT : KT taped ir ri pm f m a t d c ll K) : wp_sumUp 100 f m tape taped a t ta v w wa d c pm ll ir ri K := (PX_all h8 100).1 f m a t ta v w wa d c ll K hsc d0 d8 (by omega) c0 c1 c2 m0 m1 l0 l7 hF hT
