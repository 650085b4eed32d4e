theorem lfx0 {e : List Int} (h : Ex (lfx 0) e) : Ex lfR e := by
  refine Ex.ind (P := fun e => Ex lfR e) (fun c hc => Ex.leaf ?_) (fun o a b ho _ _ iha ihb => Ex.op ho iha ihb) h
  rcases hc with q | q | q
  · exact Or.inl q
  · exact Or.inr q.2
  · exact absurd rfl q.1
theorem lfx1 {ir : Int} (hi : ir ≠ 0) {e : List Int} (h : Ex (lfx ir) e) : Ex lfU e := by
  refine Ex.ind (P := fun e => Ex lfU e) (fun c hc => Ex.leaf ?_) (fun o a b ho _ _ iha ihb => Ex.op ho iha ihb) h
  rcases hc with q | q | q
  · exact Or.inl q
  · exact absurd q.1 hi
  · exact Or.inr q.2
-- ===== statements read
def KG (K : Int → (Int → Int) → Int → Int → Int → Int → Int → Int → Int → Int → Int → Int → Int → Prop) : Prop := ∀ f m a t ta v w wa d c cst ll, 0 ≤ v → v ≤ 9999 → K 0 f m a t ta v w wa d c cst ll
def KS (Q : List Int → Prop) (taped pm : Int) (f : Int → Int) (m a t d c cst : Int) (K : Int → (Int → Int) → Int → Int → Int → Int → Int → Int → Int → Int → Int → Int → Int → Prop) : Prop := ∀ (s : List Int) (f' : Int → Int) (m' a' t' ta' v' w' wa' c' cst' ll' : Int), Q s → Wr f m s f' m' → c' = c + cp s → c' ≤ pm → cst' = cst + cs s → cst' ≤ 40 → SC taped 0 a' t' v' → mz a' t' < mz a t → 0 ≤ ll' → ll' ≤ 7 → K 1 f' m' a' t' ta' v' w' wa' d c' cst' ll'
theorem asks_ok {tape : Int → Int} {taped ri pm : Int} (h8 : taped ≤ 800) {f : Int → Int} {m a t ta v w wa d c ll : Int} {K : Int → (Int → Int) → Int → Int → Int → Int → Int → Int → Int → Int → Int → Int → Prop} (hsc : SC taped 0 a t v) (d0 : 0 ≤ d) (d8 : d ≤ 8) (c0 : 0 ≤ c) (c1 : c ≤ pm) (c2 : pm ≤ 300) (m0 : 0 ≤ m) (m1 : m + (pm - c) ≤ 2200) (l0 : 0 ≤ ll) (l7 : ll ≤ 7) (hF : KF K) (hT : ∀ (q : Int) (x y : List Int) (f' : Int → Int) (m' a' t' ta' v' w' wa' c' ll' : Int), testC q → Ex lfR x → Ex lfR y → Wr f m (q :: (x ++ y)) f' m' → c' = c + x.length + y.length → c' ≤ pm → SC taped 0 a' t' v' → mz a' t' < mz a t → 0 ≤ ll' → ll' ≤ 7 → K 1 f' m' a' t' ta' v' w' wa' d c' ll') : wp_asks f m tape taped a t ta v w wa d c pm ll 0 ri K := by
  refine sumUp_ok h8 hsc d0 d8 c0 c1 c2 m0 (by omega) l0 l7 (fun f m a t ta v w wa d c ll q0 q1 => u0 (hF _ _ _ _ _ _ _ _ _ _ _ q0 q1)) (fun x f1 m1' a1 t1' ta1 v1 w1 wa1 c1' ll1 hx hw hc1 hc2 s1 s2 hlb => u1 ?_)
  have hm1 := hw.1
  have b60 : ∀ z, testC z → t1' ≠ 0 → wp_asks_60 K m tape taped pm 0 ri a1 c1' d f1 ll1 m1' ta1 t1' v1 wa1 w1 z := by
    intro z hz ht
    refine ⟨fun _ => ?_, fun q => absurd q (by unfold testC at hz; omega)⟩
    refine nextS h8 s1 ht (fun a3 t3 ta3 v3 s3 s4 => ahead_ok hw m0 (by omega) (fun f3 hw3 => ?_))
    refine sumUp_ok h8 s3 d0 d8 (by omega) hc2 c2 (by omega) (by omega) hlb.1 hlb.2.1 (fun f m a t ta v w wa d c ll q0 q1 => ⟨Or.inl rfl, hF _ _ _ _ _ _ _ _ _ _ _ q0 q1⟩) (fun y f4 m4 a4 t4 ta4 v4 w4 wa4 c4 ll4 hy hw4 hc4 hc5 s5 s6 hlb4 => ⟨Or.inr rfl, ?_⟩)
    refine hT z x y f4 m4 a4 t4 ta4 v4 w4 wa4 c4 ll4 hz (lfx0 hx) (lfx0 hy) ?_ (by omega) hc5 s5 (by omega) hlb4.1 hlb4.2.1
    have := hw3.app hw4
    simpa using this
  have bad : wp_asks_60 K m tape taped pm 0 ri a1 c1' d f1 ll1 m1' ta1 t1' v1 wa1 w1 (-1) := ⟨fun q => absurd rfl q, fun _ => ⟨Or.inl rfl, hF _ _ _ _ _ _ _ _ _ _ _ s1.2.2.2.1 s1.2.2.2.2⟩⟩
  exact ⟨fun _ => ⟨fun _ => ⟨fun _ => bad, fun h => b60 132 ⟨by decide, by decide⟩ (by omega)⟩, fun h => b60 131 ⟨by decide, by decide⟩ (by omega)⟩, fun h => b60 130 ⟨by decide, by decide⟩ (by omega)⟩
def PT (F : Nat → (Int → Int) → Int → (Int → Int) → Int → Int → Int → Int → Int → Int → Int → Int → Int → Int → Int → Int → Int → Int → (Int → (Int → Int) → Int → Int → Int → Int → Int → Int → Int → Int → Int → Int → Int → Prop) → Prop) (Q : List Int → Prop) (k : Nat) (extra : Int) (tape : Int → Int) (taped ri pm : Int) (n : Nat) : Prop := ∀ (f : Int → Int) (m a t ta v w wa d c cst ll : Int) (K : Int → (Int → Int) → Int → Int → Int → Int → Int → Int → Int → Int → Int → Int → Int → Prop), SC taped 0 a t v → 0 ≤ d → d ≤ 8 → 3 * (8 - d).toNat + k ≤ n → 0 ≤ c → c ≤ pm → pm ≤ 300 → 0 ≤ cst → cst ≤ 40 → 0 ≤ m → m + (pm - c) + 4 * (40 - cst) ≤ 2000 + extra → 0 ≤ ll → ll ≤ 7 → KG K → KS Q taped pm f m a t d c cst K → F n f m tape taped a t ta v w wa d c cst pm ll 0 ri K
theorem wp_block_s {n : Nat} : wp_block (n + 1) = wp_block_b (wp_block n) (wp_statement n) (wp_otherwise n) := rfl
theorem wp_statement_s {n : Nat} : wp_statement (n + 1) = wp_statement_b (wp_block n) (wp_statement n) (wp_otherwise n) := rfl
theorem wp_otherwise_s {n : Nat} : wp_otherwise (n + 1) = wp_otherwise_b (wp_block n) (wp_statement n) (wp_otherwise n) := rfl
theorem block_of {tape : Int → Int} {taped ri pm : Int} (h8 : taped ≤ 800) {n : Nat} (hS : PT wp_statement (Sm Sq) 3 40 tape taped ri pm n) : PT wp_block Sq 1 40 tape taped ri pm (n + 1) := by
  intro f m a t ta v w wa d c cst ll K hsc d0 d8 hn c0 c1 c2 k0 k40 m0 m1 l0 l7 hF hT
  rw [wp_block_s]
  refine opensS h8 hsc (by decide) d0 d8 (fun a t ta v w wa d q0 q1 => u0 (hF _ _ _ _ _ _ _ _ _ _ _ _ q0 q1)) (fun hd a2 t2 ta2 v2 s1 s2 => u1 ?_)
  refine wl12_rule (fun (f' : Int → Int) (m' a' t' _ v' _ _ d' c' k' ll' : Int) => d' = d + 1 ∧ ∃ B, Sq B ∧ Wr f m B f' m' ∧ c' = c + cp B ∧ c' ≤ pm ∧ k' = cst + cs B ∧ k' ≤ 40 ∧ SC taped 0 a' t' v' ∧ mz a' t' < mz a t ∧ 0 ≤ ll' ∧ ll' ≤ 7) (fun _ _ (a' t' : Int) _ _ _ _ _ _ _ _ => mz a' t') ?_ ⟨rfl, [], Sq.nil, Wr.nil, by rw [cp_nil]; omega, c1, by rw [cs_nil]; omega, k40, s1, s2, l0, l7⟩
  rintro P f2 m2 a3 t3 ta3 v3 w3 wa3 d3 c3 k3 ll3 ⟨rfl, B, hB, hw, hc, hc2, hk, hk2, s3, s4, l03, l73⟩ ih
  have hlen := hB.len
  have hm2 := hw.1
  refine ⟨fun _ => ?_, fun _ => ?_⟩
  · refine closesS h8 s3 (by decide) (by omega) (by omega) (fun a t ta v w wa d q0 q1 => ⟨Or.inl rfl, hF _ _ _ _ _ _ _ _ _ _ _ _ q0 q1⟩) (fun a5 t5 ta5 v5 s5 s6 => ⟨Or.inr rfl, ?_⟩)
    rw [show d + 1 - 1 = d by omega]
    exact hT B _ _ _ _ _ _ _ _ _ _ _ hB hw hc hc2 hk hk2 s5 (by omega) l03 l73
  · refine hS f2 m2 a3 t3 ta3 v3 w3 wa3 (d + 1) c3 k3 ll3 _ s3 (by omega) (by omega) (by omega) (by omega) hc2 c2 (by omega) hk2 (by omega) (by omega) l03 l73 (fun f m a t ta v w wa d c cst ll q0 q1 => u0 (hF _ _ _ _ _ _ _ _ _ _ _ _ q0 q1)) (fun s f4 m4 a4 t4 ta4 v4 w4 wa4 c4 k4 ll4 hs hw4 hc4 hc5 hk4 hk5 s5 s6 l04 l74 => u1 ?_)
    exact ih _ _ _ _ _ _ _ _ _ _ _ _ ⟨rfl, B ++ s, Sq.app hB (Sq.one hs), hw.app hw4, by rw [cp_app]; omega, hc5, by rw [cs_app]; omega, hk5, s5, by omega, l04, l74⟩ (by omega)
theorem otherwise_of {tape : Int → Int} {taped ri pm : Int} (h8 : taped ≤ 800) {n : Nat} (hB : PT wp_block Sq 1 40 tape taped ri pm n) : ∀ (f : Int → Int) (m a t ta v w wa d c cst ll : Int) (K : Int → (Int → Int) → Int → Int → Int → Int → Int → Int → Int → Int → Int → Int → Int → Prop), SC taped 0 a t v → 0 ≤ d → d ≤ 8 → 3 * (8 - d).toNat + 2 ≤ n + 1 → 0 ≤ c → c ≤ pm → pm ≤ 300 → 0 ≤ cst → cst ≤ 40 → 0 ≤ m → m + (pm - c) + 4 * (40 - cst) ≤ 2039 → 0 ≤ ll → ll ≤ 7 → KG K → (∀ (C : List Int) (f' : Int → Int) (m' a' t' ta' v' w' wa' c' cst' ll' : Int), Sq C → Wr f m (113 :: C) f' m' → c' = c + cp C → c' ≤ pm → cst' = cst + cs C → cst' ≤ 40 → SC taped 0 a' t' v' → mz a' t' ≤ mz a t → 0 ≤ ll' → ll' ≤ 7 → K 1 f' m' a' t' ta' v' w' wa' d c' cst' ll') → wp_otherwise (n + 1) f m tape taped a t ta v w wa d c cst pm ll 0 ri K := by
  intro f m a t ta v w wa d c cst ll K hsc d0 d8 hn c0 c1 c2 k0 k40 m0 m1 l0 l7 hF hT
  rw [wp_otherwise_s]
  refine write_ok m0 (by omega) (fun f1 m1' w1 => ⟨fun ht => ?_, fun _ => hT [] f1 m1' _ _ _ _ _ _ _ _ _ Sq.nil w1 (by rw [cp_nil]; omega) c1 (by rw [cs_nil]; omega) k40 hsc (Nat.le_refl _) l0 l7⟩)
  have hm1 := w1.1
  simp only [List.length_cons, List.length_nil] at hm1
  refine nextS h8 hsc (by omega) (fun a2 t2 ta2 v2 s1 s2 => ?_)
  refine hB f1 m1' a2 t2 ta2 v2 w wa d c cst ll _ s1 d0 d8 (by omega) c0 c1 c2 k0 k40 (by omega) (by omega) l0 l7 (fun f m a t ta v w wa d c cst ll q0 q1 => ⟨Or.inl rfl, hF _ _ _ _ _ _ _ _ _ _ _ _ q0 q1⟩) (fun C f3 m3 a3 t3 ta3 v3 w3 wa3 c3 k3 ll3 hC hw hc3 hc4 hk3 hk4 s3 s4 l03 l73 => ⟨Or.inr rfl, ?_⟩)
  exact hT C f3 m3 a3 t3 ta3 v3 w3 wa3 c3 k3 ll3 hC (w1.app hw) hc3 hc4 hk3 hk4 s3 (by omega) l03 l73
theorem statement_of {tape : Int → Int} {taped ri pm : Int} (h8 : taped ≤ 800) {n : Nat} (hB : PT wp_block Sq 1 40 tape taped ri pm (n + 1)) (hB' : PT wp_block Sq 1 40 tape taped ri pm n) : PT wp_statement (Sm Sq) 3 40 tape taped ri pm (n + 1 + 1) := by
  intro f m a t ta v w wa d c cst ll K hsc d0 d8 hn c0 c1 c2 k0 k40 m0 m1 l0 l7 hF hT
  have hsc' := hsc
  obtain ⟨a0, a1, hk, v0, v1⟩ := hsc'
  rw [wp_statement_s]
  have b204 : ∀ (z aA taA tA vA : Int), ((z = 112 ∧ t = 5) ∨ (z = 115 ∧ t ≠ 5)) → cst < 40 → SC taped 0 aA tA vA → mz aA tA < mz a t → wp_statement_204 (wp_block (n + 1)) (wp_otherwise (n + 1)) K f m tape taped t w wa d c cst pm ll 0 ri aA taA tA vA z := by
    intro z aA taA tA vA hz hk40 s1 s2
    refine write_ok m0 (by omega) (fun f1 m1' w1 => ?_)
    have hm1 := w1.1
    simp only [List.length_cons, List.length_nil] at hm1
    refine asks_ok h8 s1 d0 d8 c0 c1 c2 (by omega) (by omega) l0 l7 (fun f m a t ta v w wa d c ll q0 q1 => t0 (hF _ _ _ _ _ _ _ _ _ _ _ _ q0 q1)) (fun q x y f2 m2 a2 t2 ta2 v2 w2 wa2 c2' ll2 hq hx hy hw2 hc2 hc3 s3 s4 l02 l72 => t1 ?_)
    have hm2 := hw2.1
    simp only [List.length_cons, List.length_append] at hm2
    refine hB f2 m2 a2 t2 ta2 v2 w2 wa2 d c2' (cst + 1) ll2 _ s3 d0 d8 (by omega) (by omega) hc3 c2 (by omega) (by omega) (by omega) (by omega) l02 l72 (fun f m a t ta v w wa d c cst ll q0 q1 => u0 (hF _ _ _ _ _ _ _ _ _ _ _ _ q0 q1)) (fun B f3 m3 a3 t3 ta3 v3 w3 wa3 c3 k3 ll3 hB3 hw3 hc4 hc5 hk3 hk4 s5 s6 l03 l73 => u1 ?_)
    have hm3 := hw3.1
    have hl3 := hB3.len
    refine ⟨fun hne => ?_, fun he => ?_⟩
    · have hz' : z = 115 := by omega
      subst hz'
      refine write_ok (by omega) (by omega) (fun f4 m4 w4 => ?_)
      refine hT (115 :: q :: (x ++ (y ++ (B ++ [114])))) f4 m4 _ _ _ _ _ _ _ _ _ (Or.inr (Or.inr (Or.inr ⟨q, x, y, B, hq, hx, hy, hB3, rfl⟩))) ?_ ?_ hc5 ?_ hk4 s5 (by omega) l03 l73
      · have := w1.app (hw2.app (hw3.app w4))
        simpa using this
      · rw [cp_wh hq hx hy]; omega
      · rw [cs_wh hq hx hy]; omega
    · have hz' : z = 112 := by omega
      subst hz'
      refine otherwise_of h8 hB' f3 m3 a3 t3 ta3 v3 w3 wa3 d c3 k3 ll3 _ s5 d0 d8 (by omega) (by omega) hc5 c2 (by omega) hk4 (by omega) (by omega) l03 l73 (fun f m a t ta v w wa d c cst ll q0 q1 => u0 (hF _ _ _ _ _ _ _ _ _ _ _ _ q0 q1)) (fun C f4 m4 a4 t4 ta4 v4 w4 wa4 c4 k4 ll4 hC hw4 hc6 hc7 hk5 hk6 s7 s8 l04 l74 => u1 ?_)
      have hm4 := hw4.1
      have hl4 := hC.len
      simp only [List.length_cons] at hm4
      refine write_ok (by omega) (by omega) (fun f5 m5 w5 => ?_)
      refine hT (112 :: q :: (x ++ (y ++ (B ++ (113 :: (C ++ [114])))))) f5 m5 _ _ _ _ _ _ _ _ _ (Or.inr (Or.inr (Or.inl ⟨q, x, y, B, C, hq, hx, hy, hB3, hC, rfl⟩))) ?_ ?_ hc7 ?_ hk6 s7 (by omega) l04 l74
      · have := w1.app (hw2.app (hw3.app (hw4.app w5)))
        simpa using this
      · rw [cp_if hq hx hy]; omega
      · rw [cs_if hq hx hy]; omega
  have b59 : ∀ z, ((z = 0 ∧ (t = 3 ∨ t = 4 ∨ t = 5 ∨ t = 7)) ∨ (z = 1 ∧ 320 ≤ t)) → wp_statement_59 (wp_block (n + 1)) (wp_otherwise (n + 1)) K f m tape taped a t ta v w wa d c cst pm ll 0 ri z := by
    intro z hz
    refine ⟨fun hne => ⟨⟨by omega, by omega⟩, nextS h8 hsc (by omega) (fun a2 t2 ta2 v2 s1 s2 => ⟨fun hz0 => ⟨fun n4 => ⟨fun n3 => ⟨fun n5 => b204 115 a2 ta2 t2 v2 (Or.inr ⟨rfl, n5⟩) (by omega) s1 s2, fun h5 => b204 112 a2 ta2 t2 v2 (Or.inl ⟨rfl, h5⟩) (by omega) s1 s2⟩, fun h3 => ?_⟩, fun h4 => ?_⟩, fun hz1 => ?_⟩)⟩, fun _ => ⟨Or.inl rfl, hF _ _ _ _ _ _ _ _ _ _ _ _ v0 v1⟩⟩
    · refine write_ok m0 (by omega) (fun f1 m1' w1 => ?_)
      have hm1 := w1.1
      simp only [List.length_cons, List.length_nil] at hm1
      refine sumUp_ok h8 s1 d0 d8 c0 c1 c2 (by omega) (by omega) l0 l7 (fun f m a t ta v w wa d c ll q0 q1 => t0 (hF _ _ _ _ _ _ _ _ _ _ _ _ q0 q1)) (fun e f3 m3 a3 t3 ta3 v3 w3 wa3 c3 ll3 he hw3 hc3 hc4 s3 s4 hlb => t1 ?_)
      have he' := lfx0 he
      refine needS h8 s3 (by decide) (fun a t ta v w wa q0 q1 => t0 (hF _ _ _ _ _ _ _ _ _ _ _ _ q0 q1)) (fun _ a5 t5 ta5 v5 s5 s6 => t1 ?_)
      exact hT (110 :: e) f3 m3 a5 t5 ta5 v5 _ _ _ _ _ (Or.inl ⟨110, e, Or.inr rfl, he', rfl⟩) (w1.app hw3) (by rw [cp_no (by omega), he'.cpz]; exact hc3) hc4 (by rw [cs_yes (by omega), he'.csz]; omega) (by omega) s5 (by omega) hlb.1 hlb.2.1
    · refine write_ok m0 (by omega) (fun f1 m1' w1 => ?_)
      refine needS h8 s1 (by decide) (fun a t ta v w wa q0 q1 => ⟨Or.inl rfl, hF _ _ _ _ _ _ _ _ _ _ _ _ q0 q1⟩) (fun _ a5 t5 ta5 v5 s5 s6 => ⟨Or.inr rfl, ?_⟩)
      exact hT [111] f1 m1' a5 t5 ta5 v5 _ _ _ _ _ (Or.inr (Or.inl rfl)) w1 (by rw [cp_no (by omega), cp_nil]; omega) c1 (by rw [cs_yes (by omega), cs_nil]; omega) (by omega) s5 (by omega) l0 l7
    · have ht : 320 ≤ t := by omega
      have htk := hk ht
      refine ⟨⟨by omega, by omega⟩, write_ok m0 (by omega) (fun f1 m1' w1 => ?_)⟩
      have hm1 := w1.1
      simp only [List.length_cons, List.length_nil] at hm1
      refine needS h8 s1 (by decide) (fun a t ta v w wa q0 q1 => t0 (hF _ _ _ _ _ _ _ _ _ _ _ _ q0 q1)) (fun _ a3 t3 ta3 v3 s3 s4 => t1 ?_)
      refine sumUp_ok h8 s3 d0 d8 c0 c1 c2 (by omega) (by omega) l0 l7 (fun f m a t ta v w wa d c ll q0 q1 => t0 (hF _ _ _ _ _ _ _ _ _ _ _ _ q0 q1)) (fun e f4 m4 a4 t4 ta4 v4 w4 wa4 c4 ll4 he hw4 hc4 hc5 s5 s6 hlb => t1 ?_)
      have he' := lfx0 he
      refine needS h8 s5 (by decide) (fun a t ta v w wa q0 q1 => t0 (hF _ _ _ _ _ _ _ _ _ _ _ _ q0 q1)) (fun _ a6 t6 ta6 v6 s7 s8 => t1 ?_)
      exact hT ((100 + t - 320) :: e) f4 m4 a6 t6 ta6 v6 _ _ _ _ _ (Or.inl ⟨_, e, Or.inl ⟨by omega, by omega⟩, he', rfl⟩) (w1.app hw4) (by rw [cp_no (by omega), he'.cpz]; exact hc4) hc5 (by rw [cs_yes (by omega), he'.csz]; omega) (by omega) s7 (by omega) hlb.1 hlb.2.1
  have bad : ∀ {x : Prop}, x → x := fun h => h
  refine ⟨fun hlt => ⟨fun q => absurd rfl q, fun _ => ⟨fun h => b59 0 (Or.inl ⟨rfl, Or.inl h⟩), fun _ => ⟨fun h => b59 0 (Or.inl ⟨rfl, Or.inr (Or.inl h)⟩), fun _ => ⟨fun h => b59 0 (Or.inl ⟨rfl, Or.inr (Or.inr (Or.inl h))⟩), fun _ => ⟨fun h => b59 0 (Or.inl ⟨rfl, Or.inr (Or.inr (Or.inr h))⟩), fun _ => ⟨Or.inl rfl, hF _ _ _ _ _ _ _ _ _ _ _ _ v0 v1⟩⟩⟩⟩⟩⟩, fun hge => ⟨fun _ => b59 1 (Or.inr ⟨rfl, hge⟩), fun q => absurd q (by decide)⟩⟩
theorem PT_all {tape : Int → Int} {taped ri pm : Int} (h8 : taped ≤ 800) : ∀ n : Nat, (PT wp_block Sq 1 40 tape taped ri pm n ∧ PT wp_statement (Sm Sq) 3 40 tape taped ri pm n) ∧ (PT wp_block Sq 1 40 tape taped ri pm (n + 1) ∧ PT wp_statement (Sm Sq) 3 40 tape taped ri pm (n + 1)) := by
  intro n
  induction n with
  | zero =>
    have z : PT wp_statement (Sm Sq) 3 40 tape taped ri pm 0 := fun f m a t ta v w wa d c cst ll K _ _ _ hn => absurd hn (by omega)
    exact ⟨⟨fun f m a t ta v w wa d c cst ll K _ _ _ hn => absurd hn (by omega), z⟩, block_of h8 z, fun f m a t ta v w wa d c cst ll K _ _ _ hn => absurd hn (by omega)⟩
  | succ n ih => exact ⟨ih.2, block_of h8 ih.2.2, statement_of h8 ih.2.1 ih.1.1⟩
theorem statement_ok {tape : Int → Int} {taped ri pm : Int} (h8 : taped ≤ 800) : PT wp_statement (Sm Sq) 3 40 tape taped ri pm 100 := (PT_all h8 100).1.2
