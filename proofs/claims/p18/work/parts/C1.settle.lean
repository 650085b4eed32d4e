-- ===== Flow.settle: the least solution
theorem zor6 : ∀ (a b : Fin 64), (0 ≤ zior a.val b.val ∧ zior a.val b.val ≤ 63) ∧ ∀ w : Fin 6, (ziand (zishr (zior a.val b.val) w.val) 1 ≠ 0) ↔ (ziand (zishr a.val w.val) 1 ≠ 0 ∨ ziand (zishr b.val w.val) 1 ≠ 0) := by decide +kernel
theorem zan6 : ∀ (a b : Fin 64), (0 ≤ ziand a.val (zixor b.val (-1)) ∧ ziand a.val (zixor b.val (-1)) ≤ 63) ∧ ∀ w : Fin 6, (ziand (zishr (ziand a.val (zixor b.val (-1))) w.val) 1 ≠ 0) ↔ (ziand (zishr a.val w.val) 1 ≠ 0 ∧ ¬ (ziand (zishr b.val w.val) 1 ≠ 0)) := by decide +kernel
def b63 (a : Int) : Prop := 0 ≤ a ∧ a ≤ 63
theorem or63 {a b : Int} (ha : b63 a) (hb : b63 b) : b63 (zior a b) ∧ ∀ w, bv w → (bitR (zior a b) w ↔ bitR a w ∨ bitR b w) := by
  obtain ⟨i, rfl⟩ := fin64 ha.1 ha.2
  obtain ⟨j, rfl⟩ := fin64 hb.1 hb.2
  refine ⟨(zor6 i j).1, fun w hw => ?_⟩
  obtain ⟨k, rfl⟩ := fin6 hw.1 hw.2
  exact (zor6 i j).2 k
theorem an63 {a b : Int} (ha : b63 a) (hb : b63 b) : b63 (ziand a (zixor b (-1))) ∧ ∀ w, bv w → (bitR (ziand a (zixor b (-1))) w ↔ bitR a w ∧ ¬ bitR b w) := by
  obtain ⟨i, rfl⟩ := fin64 ha.1 ha.2
  obtain ⟨j, rfl⟩ := fin64 hb.1 hb.2
  refine ⟨(zan6 i j).1, fun w hw => ?_⟩
  obtain ⟨k, rfl⟩ := fin6 hw.1 hw.2
  exact (zan6 i j).2 k
theorem b63_0 : b63 0 := ⟨by decide, by decide⟩
/-- the step's value -/
def Fval (rd st x y : Int) : Int := zior rd (ziand (zior x y) (zixor st (-1)))
theorem Fval_b {rd st x y : Int} (h1 : b63 rd) (h2 : b63 st) (h3 : b63 x) (h4 : b63 y) : b63 (Fval rd st x y) ∧ ∀ w, bv w → (bitR (Fval rd st x y) w ↔ bitR rd w ∨ ((bitR x w ∨ bitR y w) ∧ ¬ bitR st w)) := by
  have o := or63 h3 h4
  have a := an63 o.1 h2
  have f := or63 h1 a.1
  refine ⟨f.1, fun w hw => ?_⟩
  unfold Fval
  rw [f.2 w hw, a.2 w hw, o.2 w hw]
def btw (x w : Int) : Nat := if ziand (zishr x w) 1 ≠ 0 then 1 else 0
def pc (x : Int) : Nat := btw x 0 + btw x 1 + btw x 2 + btw x 3 + btw x 4 + btw x 5
theorem pc_lt6 : ∀ (a b : Fin 64), (∀ w : Fin 6, ziand (zishr a.val w.val) 1 ≠ 0 → ziand (zishr b.val w.val) 1 ≠ 0) → (a ≠ b → pc a.val < pc b.val) := by decide +kernel
theorem pc_le (x : Int) : pc x ≤ 6 := by
  have h : ∀ w, btw x w ≤ 1 := fun w => by unfold btw; split <;> omega
  have := h 0; have := h 1; have := h 2; have := h 3; have := h 4; have := h 5
  unfold pc; omega
theorem pc_lt {a b : Int} (ha : b63 a) (hb : b63 b) (h : ∀ w, bv w → bitR a w → bitR b w) (hn : a ≠ b) : pc a < pc b := by
  obtain ⟨i, rfl⟩ := fin64 ha.1 ha.2
  obtain ⟨j, rfl⟩ := fin64 hb.1 hb.2
  refine pc_lt6 i j (fun w g => h w.val ⟨by omega, by have := w.isLt; omega⟩ g) (fun q => hn (by rw [q]))
def tot (f : Int → Int) : Nat → Nat
  | 0 => 0
  | n + 1 => tot f n + pc (f n)
theorem tot_le (f : Int → Int) : ∀ n, tot f n ≤ 6 * n
  | 0 => Nat.le_refl _
  | n + 1 => by have := tot_le f n; have := pc_le (f n); show tot f n + pc (f n) ≤ _; omega
theorem tot_same {f : Int → Int} {i v : Int} : ∀ {n : Nat}, (n : Int) ≤ i → tot (uZ f i v) n = tot f n
  | 0, _ => rfl
  | n + 1, h => by
    show tot (uZ f i v) n + pc (uZ f i v n) = tot f n + pc (f n)
    rw [tot_same (by omega), show uZ f i v n = f n from if_neg (by omega)]
theorem tot_upd {f : Int → Int} {i v : Int} (i0 : 0 ≤ i) : ∀ {n : Nat}, i < n → tot (uZ f i v) n + pc (f i) = tot f n + pc v
  | 0, h => by omega
  | n + 1, h => by
    show tot (uZ f i v) n + pc (uZ f i v n) + pc (f i) = tot f n + pc (f n) + pc v
    by_cases z : i = n
    · rw [tot_same (by omega), z, show uZ f n v n = v from if_pos rfl]; omega
    · have := tot_upd (f := f) (v := v) i0 (n := n) (by omega)
      rw [show uZ f i v n = f n from if_neg (by omega)]; omega
def ahv (f : Int → Int) (cnt x : Int) : Int := if 0 ≤ x ∧ x < cnt then f x else 0
def AhP (f : Int → Int) (cnt j w : Int) : Prop := bitR (ahv f cnt j) w
section ST
variable {σ : Sg} {qi : Nat} {K : Sg → Prop} {cnt : Int}
theorem aheadOf_k {x : Int} {K : Int → Prop} (hc : σ.1 qi 1 = cnt) (h40 : cnt ≤ 40) (k : K (ahv (σ.2.1 (qi + 9)) cnt x)) : wp5_F_aheadOf σ qi x K := by
  unfold ahv at k
  refine isHere_k (fun z => t1 ⟨⟨z.1, z.2.2⟩, ?_⟩) (fun z => t0 ?_)
  · rw [if_pos ⟨z.1, by omega⟩] at k; exact k
  · rw [if_neg (fun q => z ⟨q.1, by omega, by omega⟩)] at k; exact k
/-- what the rounds keep -/
def Bs (qi : Nat) (cnt : Int) (C : Int → Int → Prop) (σ s : Sg) : Prop :=
  s.1 = σ.1 ∧ (∀ k, 1 ≤ k → k ≤ 12 → k ≠ 9 → s.2.1 (qi + k) = σ.2.1 (qi + k)) ∧ (∀ j, 0 ≤ j → j < cnt → b63 (s.2.1 (qi + 9) j)) ∧ (∀ j w, bv w → AhP (s.2.1 (qi + 9)) cnt j w → C j w) ∧ (∀ j w, 0 ≤ j → j < cnt → bv w → AhP (s.2.1 (qi + 9)) cnt j w → bitR (σ.2.1 (qi + 7) j) w ∨ ((AhP (s.2.1 (qi + 9)) cnt (σ.2.1 (qi + 5) j) w ∨ AhP (s.2.1 (qi + 9)) cnt (σ.2.1 (qi + 6) j) w) ∧ ¬ bitR (σ.2.1 (qi + 8) j) w)) ∧ Fq (fl qi) No No σ s
theorem ahv_b {f : Int → Int} (h : ∀ j, 0 ≤ j → j < cnt → b63 (f j)) (x : Int) : b63 (ahv f cnt x) := by
  unfold ahv
  split
  · rename_i q; exact h x q.1 q.2
  · exact b63_0
theorem settle_k {C : Int → Int → Prop} (hc : σ.1 qi 1 = cnt) (c0 : 0 ≤ cnt) (h40 : cnt ≤ 40) (hr : ∀ j, 0 ≤ j → j < cnt → b63 (σ.2.1 (qi + 7) j)) (hs : ∀ j, 0 ≤ j → j < cnt → b63 (σ.2.1 (qi + 8) j)) (hC : EqA C (σ.2.1 (qi + 7)) (σ.2.1 (qi + 8)) (σ.2.1 (qi + 5)) (σ.2.1 (qi + 6)) 0 cnt)
    (k : ∀ s, Bs qi cnt C σ s → EqA (AhP (s.2.1 (qi + 9)) cnt) (σ.2.1 (qi + 7)) (σ.2.1 (qi + 8)) (σ.2.1 (qi + 5)) (σ.2.1 (qi + 6)) 0 cnt → K s) : wp5_F_settle σ qi K := by
  unfold wp5_F_settle
  -- all empty at first
  refine wl2_rule (fun (i : Int) (s : Sg) => 0 ≤ i ∧ i ≤ cnt ∧ s.1 = σ.1 ∧ (∀ k, 1 ≤ k → k ≤ 12 → k ≠ 9 → s.2.1 (qi + k) = σ.2.1 (qi + k)) ∧ (∀ j, 0 ≤ j → j < i → s.2.1 (qi + 9) j = 0) ∧ Fq (fl qi) No No σ s) (fun (i : Int) _ => (cnt - i).toNat) ?_ ⟨by omega, c0, rfl, fun _ _ _ _ => rfl, fun j j0 j1 => by omega, Fq.refl⟩
  rintro P i s ⟨i0, i1, e1, e2, e3, e4⟩ ih
  have ec : s.1 qi 1 = cnt := by rw [e1]; exact hc
  refine ⟨fun z => ?_, fun z => ⟨fun z2 => absurd z2 (by omega), fun _ => ⟨by omega, rng_small (by omega) (by omega), ih _ _ ⟨by omega, by omega, e1, fun k k1 k2 k3 => by rw [pF_get, if_neg (by omega)]; exact e2 k k1 k2 k3, fun j j0 j1 => ?_, e4.trans (fqF (by decide))⟩ (by omega)⟩⟩⟩
  rotate_left
  · rw [pF_get, if_pos rfl]
    by_cases hj : j = i
    · rw [hj]; exact if_pos rfl
    · rw [show uZ (s.2.1 (qi + 9)) i 0 j = s.2.1 (qi + 9) j from if_neg hj]; exact e3 j j0 (by omega)
  have hi : i = cnt := by omega
  subst hi
  clear ih
  -- the rounds
  have zero : ∀ j, ahv (s.2.1 (qi + 9)) i j = 0 := fun j => by
    unfold ahv
    split
    · rename_i q; exact e3 j q.1 q.2
    · rfl
  have bs0 : Bs qi i C σ s := ⟨e1, e2, fun j j0 j1 => by rw [e3 j j0 j1]; exact b63_0, fun j w hw q => by unfold AhP at q; rw [zero] at q; exact absurd q (no0 hw), fun j w j0 j1 hw q => by unfold AhP at q; rw [zero] at q; exact absurd q (no0 hw), e4⟩
  unfold wp5_F_settle_29
  refine wl3_rule (fun (c r : Int) (s : Sg) => 0 ≤ r ∧ r ≤ 241 ∧ Bs qi i C σ s ∧ (c = 0 → EqA (AhP (s.2.1 (qi + 9)) i) (σ.2.1 (qi + 7)) (σ.2.1 (qi + 8)) (σ.2.1 (qi + 5)) (σ.2.1 (qi + 6)) 0 i) ∧ (c ≠ 0 → r ≤ tot (s.2.1 (qi + 9)) i.toNat)) (fun _ (r : Int) _ => (241 - r).toNat) ?_ ⟨by omega, by omega, bs0, fun z => absurd z (by decide), fun _ => by omega⟩
  clear e1 e2 e3 e4 ec zero bs0 s z P i1
  rintro P c r s ⟨r0, r1, bs, h0, h1⟩ ih
  refine ⟨fun z => ?_, fun z => ⟨fun z2 => k s bs (h0 z2), fun z2 => ?_⟩⟩
  · by_cases z2 : c = 0
    · exact k s bs (h0 z2)
    · have t := h1 z2
      have := tot_le (s.2.1 (qi + 9)) i.toNat
      omega
  have ht := h1 z2
  clear h0 h1
  have em : min (s.1 qi 1) 40 = i := by rw [bs.1, hc]; exact Int.min_eq_left (by omega)
  rw [em]
  refine ⟨rng_small (by omega) (by omega), ?_⟩
  -- one round
  refine wl3_rule (fun (c' x : Int) (s' : Sg) => -1 ≤ x ∧ x < i ∧ Bs qi i C σ s' ∧ r ≤ tot (s'.2.1 (qi + 9)) i.toNat ∧ (c' = 0 → s'.2.1 (qi + 9) = s.2.1 (qi + 9) ∧ ∀ j, x < j → j < i → Fval (σ.2.1 (qi + 7) j) (σ.2.1 (qi + 8) j) (ahv (s.2.1 (qi + 9)) i (σ.2.1 (qi + 5) j)) (ahv (s.2.1 (qi + 9)) i (σ.2.1 (qi + 6) j)) = s.2.1 (qi + 9) j) ∧ (c' ≠ 0 → r + 1 ≤ tot (s'.2.1 (qi + 9)) i.toNat)) (fun _ (x : Int) _ => (x + 1).toNat) ?_ ⟨by omega, by omega, bs, ht, fun _ => ⟨rfl, fun j j0 j1 => by omega⟩, fun z => absurd rfl z⟩
  rintro P' c' x s' ⟨x0, x1, bs', ht', g0, g1⟩ ih'
  refine ⟨fun zx => ⟨rng_small (by omega) (by omega), ih _ _ _ ⟨by omega, by omega, bs', fun zc => ?_, fun zc => by have := g1 zc; omega⟩ (by omega)⟩, fun zx => ⟨by omega, ?_⟩⟩
  · obtain ⟨q1, q2⟩ := g0 zc
    intro j j0 j1 w hw
    have hb := bs'.2.2.1
    have f := Fval_b (hr j j0 j1) (hs j j0 j1) (ahv_b hb (σ.2.1 (qi + 5) j)) (ahv_b hb (σ.2.1 (qi + 6) j))
    have e : ahv (s'.2.1 (qi + 9)) i j = Fval (σ.2.1 (qi + 7) j) (σ.2.1 (qi + 8) j) (ahv (s'.2.1 (qi + 9)) i (σ.2.1 (qi + 5) j)) (ahv (s'.2.1 (qi + 9)) i (σ.2.1 (qi + 6) j)) := by
      rw [q1, q2 j (by omega) j1]
      exact if_pos ⟨j0, j1⟩
    unfold AhP
    rw [e]
    exact f.2 w hw
  · obtain ⟨b1, b2, b3, b4, b5, b6⟩ := bs'
    have ec : s'.1 qi 1 = i := by rw [b1]; exact hc
    have a5 := b2 5 (by decide) (by decide) (by decide)
    have a6 := b2 6 (by decide) (by decide) (by decide)
    have a7 := b2 7 (by decide) (by decide) (by decide)
    have a8 := b2 8 (by decide) (by decide) (by decide)
    rw [a5, a6]
    refine aheadOf_k ec (by omega) (aheadOf_k ec (by omega) ?_)
    unfold wp5_F_settle_116
    rw [a7, a8]
    have f := Fval_b (hr x zx x1) (hs x zx x1) (ahv_b b3 (σ.2.1 (qi + 5) x)) (ahv_b b3 (σ.2.1 (qi + 6) x))
    generalize hv : Fval (σ.2.1 (qi + 7) x) (σ.2.1 (qi + 8) x) (ahv (s'.2.1 (qi + 9)) i (σ.2.1 (qi + 5) x)) (ahv (s'.2.1 (qi + 9)) i (σ.2.1 (qi + 6) x)) = v at f
    have hv' : zior (σ.2.1 (qi + 7) x) (ziand (zior (ahv (s'.2.1 (qi + 9)) i (σ.2.1 (qi + 5) x)) (ahv (s'.2.1 (qi + 9)) i (σ.2.1 (qi + 6) x))) (zixor (σ.2.1 (qi + 8) x) (-1))) = v := hv
    rw [hv']
    -- the new state
    have ex : ahv (s'.2.1 (qi + 9)) i x = s'.2.1 (qi + 9) x := if_pos ⟨zx, x1⟩
    have grow : ∀ w, bv w → bitR (s'.2.1 (qi + 9) x) w → bitR v w := fun w hw q => by
      rw [f.2 w hw]
      have := b5 x w zx x1 hw (by unfold AhP; rw [ex]; exact q)
      exact this
    have e9 : (pF s' (qi + 9) (uZ (s'.2.1 (qi + 9)) x v)).2.1 (qi + 9) = uZ (s'.2.1 (qi + 9)) x v := by rw [pF_get, if_pos rfl]
    have eah : ∀ j, ahv (uZ (s'.2.1 (qi + 9)) x v) i j = if j = x then v else ahv (s'.2.1 (qi + 9)) i j := fun j => by
      by_cases q : j = x
      · subst q; rw [if_pos rfl]; unfold ahv; rw [if_pos ⟨zx, x1⟩]; exact if_pos rfl
      · rw [if_neg q]; unfold ahv
        split
        · exact if_neg q
        · rfl
    have more : ∀ j w, bv w → AhP (s'.2.1 (qi + 9)) i j w → AhP (uZ (s'.2.1 (qi + 9)) x v) i j w := fun j w hw q => by
      unfold AhP at q ⊢
      rw [eah]
      by_cases z : j = x
      · subst z; rw [if_pos rfl]; rw [ex] at q; exact grow w hw q
      · rw [if_neg z]; exact q
    have bsn : Bs qi i C σ (pF s' (qi + 9) (uZ (s'.2.1 (qi + 9)) x v)) := by
      refine ⟨b1, fun k k1 k2 k3 => by rw [pF_get, if_neg (by omega)]; exact b2 k k1 k2 k3, fun j j0 j1 => ?_, fun j w hw q => ?_, fun j w j0 j1 hw q => ?_, b6.trans (fqF (by decide))⟩
      · rw [e9]
        by_cases z : j = x
        · subst z; rw [show uZ (s'.2.1 (qi + 9)) j v j = v from if_pos rfl]; exact f.1
        · rw [show uZ (s'.2.1 (qi + 9)) x v j = s'.2.1 (qi + 9) j from if_neg z]; exact b3 j j0 j1
      · rw [e9] at q
        unfold AhP at q
        rw [eah] at q
        by_cases z : j = x
        · subst z
          rw [if_pos rfl, f.2 w hw] at q
          exact (hC j zx x1 w hw).mpr (q.imp id (fun q => ⟨q.1.imp (b4 _ w hw) (b4 _ w hw), q.2⟩))
        · rw [if_neg z] at q; exact b4 j w hw q
      · rw [e9] at q ⊢
        unfold AhP at q
        rw [eah] at q
        by_cases z : j = x
        · subst z
          rw [if_pos rfl, f.2 w hw] at q
          exact q.imp id (fun q => ⟨q.1.imp (more _ w hw) (more _ w hw), q.2⟩)
        · rw [if_neg z] at q
          exact (b5 j w j0 j1 hw q).imp id (fun q => ⟨q.1.imp (more _ w hw) (more _ w hw), q.2⟩)
    have tu := tot_upd (f := s'.2.1 (qi + 9)) (v := v) zx (n := i.toNat) (by omega)
    have tge : v ≠ s'.2.1 (qi + 9) x → tot (s'.2.1 (qi + 9)) i.toNat + 1 ≤ tot (uZ (s'.2.1 (qi + 9)) x v) i.toNat := fun z => by
      have := pc_lt (b3 x zx x1) f.1 grow (fun q => z q.symm)
      omega
    have same : v = s'.2.1 (qi + 9) x → uZ (s'.2.1 (qi + 9)) x v = s'.2.1 (qi + 9) := fun z => funext (fun j => by
      by_cases q : j = x
      · subst q; exact (if_pos rfl).trans z
      · exact if_neg q)
    have go1 : (v ≠ s'.2.1 (qi + 9) x ∨ c' ≠ 0) → P' 1 (x - 1) (pF s' (qi + 9) (uZ (s'.2.1 (qi + 9)) x v)) := fun z => by
      have key : r + 1 ≤ tot (uZ (s'.2.1 (qi + 9)) x v) i.toNat := by
        by_cases q : v = s'.2.1 (qi + 9) x
        · rcases z with z | z
          · exact absurd q z
          · rw [same q]; exact g1 z
        · have := tge q; omega
      exact ih' _ _ _ ⟨by omega, by omega, bsn, by rw [e9]; omega, fun z => absurd z (by decide), fun _ => by rw [e9]; exact key⟩ (by omega)
    refine ⟨fun z => ⟨rng_small (by omega) (by omega), go1 (Or.inr z)⟩, fun z => ⟨fun z2 => ⟨rng_small (by omega) (by omega), ?_⟩, fun z2 => ⟨rng_small (by omega) (by omega), go1 (Or.inl z2)⟩⟩⟩
    obtain ⟨q1, q2⟩ := g0 z
    refine ih' _ _ _ ⟨by omega, by omega, bsn, by rw [e9, same z2]; exact ht', fun _ => ⟨by rw [e9, same z2]; exact q1, fun j j0 j1 => ?_⟩, fun z => absurd rfl z⟩ (by omega)
    by_cases hj : j = x
    · subst hj
      rw [← q1, hv]; exact z2
    · exact q2 j (by omega) j1
end ST
