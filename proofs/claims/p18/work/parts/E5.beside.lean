-- ===== two runs beside each other
def plc : List Int → List Int → Int → Int
  | [], _, _ => -1
  | x :: A, B, j => match B with
    | [] => -1
    | y :: B => if x = y then plc A B (j + 1) else j
theorem plc_nil {B : List Int} {j : Int} : plc [] B j = -1 := rfl
theorem plc_nilr {A : List Int} {j : Int} : plc A [] j = -1 := by cases A <;> rfl
theorem plc_cons {x y : Int} {A B : List Int} {j : Int} : plc (x :: A) (y :: B) j = if x = y then plc A B (j + 1) else j := rfl
def trd (f g : RFn) : Bool := decide (f.1 = 2) || decide (g.1 = 2)
def plF (f g : RFn) : Int := plc f.2.2.1 g.2.2.1 0
def ulk (f g : RFn) : Bool := !(decide (f.2.2.1.length = g.2.2.1.length) && decide (f.1 = g.1))
def prt (f g : RFn) : Bool := !(decide (plF f g = -1)) || (!(trd f g) && ulk f g)
def cntP (g : Nat → Bool) : Nat → Nat
  | 0 => 0
  | n + 1 => cntP g n + (if g n = true then 1 else 0)
def fstP (g : Nat → Bool) : Nat → Int
  | 0 => -1
  | n + 1 => if fstP g n = -1 then (if g n = true then (n : Int) else -1) else fstP g n
def fplP (g : Nat → Bool) (pl : Nat → Int) : Nat → Int
  | 0 => -1
  | n + 1 => if fstP g n = -1 then (if g n = true then pl n else -1) else fplP g pl n
def anyP (t : Nat → Bool) : Nat → Bool
  | 0 => false
  | n + 1 => anyP t n || t n
section FP
variable {g t : Nat → Bool} {pl : Nat → Int} {n : Nat}
theorem cntP_s : cntP g (n + 1) = cntP g n + (if g n = true then 1 else 0) := rfl
theorem fstP_s : fstP g (n + 1) = if fstP g n = -1 then (if g n = true then (n : Int) else -1) else fstP g n := rfl
theorem fplP_s : fplP g pl (n + 1) = if fstP g n = -1 then (if g n = true then pl n else -1) else fplP g pl n := rfl
theorem anyP_s : anyP t (n + 1) = (anyP t n || t n) := rfl
theorem cntP_1 (h : g n = true) : cntP g (n + 1) = cntP g n + 1 := by rw [cntP_s, if_pos h]
theorem cntP_0 (h : ¬ g n = true) : cntP g (n + 1) = cntP g n := by rw [cntP_s, if_neg h, Nat.add_zero]
theorem fstP_k (h : fstP g n ≠ -1) : fstP g (n + 1) = fstP g n := by rw [fstP_s, if_neg h]
theorem fstP_1 (h : fstP g n = -1) (q : g n = true) : fstP g (n + 1) = n := by rw [fstP_s, if_pos h, if_pos q]
theorem fstP_0 (h : fstP g n = -1) (q : ¬ g n = true) : fstP g (n + 1) = -1 := by rw [fstP_s, if_pos h, if_neg q]
theorem fplP_k (h : fstP g n ≠ -1) : fplP g pl (n + 1) = fplP g pl n := by rw [fplP_s, if_neg h]
theorem fplP_1 (h : fstP g n = -1) (q : g n = true) : fplP g pl (n + 1) = pl n := by rw [fplP_s, if_pos h, if_pos q]
theorem fplP_0 (h : fstP g n = -1) (q : ¬ g n = true) : fplP g pl (n + 1) = -1 := by rw [fplP_s, if_pos h, if_neg q]
theorem cntP_le : ∀ n, cntP g n ≤ n
  | 0 => Nat.le_refl _
  | n + 1 => by
    have := cntP_le n
    by_cases q : g n = true
    · rw [cntP_1 q]; omega
    · rw [cntP_0 q]; omega
theorem fst_cnt : ∀ n, fstP g n = -1 ↔ cntP g n = 0
  | 0 => ⟨fun _ => rfl, fun _ => rfl⟩
  | n + 1 => by
    have ih := fst_cnt n
    by_cases h : fstP g n = -1
    · have hc := ih.mp h
      by_cases q : g n = true
      · rw [fstP_1 h q, cntP_1 q]; exact ⟨fun z => by omega, fun z => by omega⟩
      · rw [fstP_0 h q, cntP_0 q]; exact ⟨fun _ => hc, fun _ => rfl⟩
    · have hc : cntP g n ≠ 0 := fun z => h (ih.mpr z)
      have hc2 : cntP g (n + 1) ≠ 0 := by rw [cntP_s]; omega
      rw [fstP_k h]
      exact ⟨fun z => absurd z h, fun z => absurd z hc2⟩
theorem fst_ge : ∀ n, fstP g n = -1 ∨ (0 ≤ fstP g n ∧ fstP g n < n)
  | 0 => Or.inl rfl
  | n + 1 => by
    have ih := fst_ge n
    by_cases h : fstP g n = -1
    · by_cases q : g n = true
      · rw [fstP_1 h q]; right; omega
      · rw [fstP_0 h q]; left; rfl
    · rw [fstP_k h]
      rcases ih with z | z
      · exact absurd z h
      · right; omega
theorem fst_stay (h : fstP g n ≠ -1) : ∀ k, fstP g (n + k) = fstP g n ∧ fplP g pl (n + k) = fplP g pl n
  | 0 => ⟨rfl, rfl⟩
  | k + 1 => by
    obtain ⟨h1, h2⟩ := fst_stay h k
    have h3 : fstP g (n + k) ≠ -1 := by rw [h1]; exact h
    exact ⟨(fstP_k h3).trans h1, (fplP_k h3).trans h2⟩
/-- k more of the same kind -/
theorem blk : ∀ k, (∀ j, j < k + 1 → g (n + j) = g n ∧ t (n + j) = t n) → cntP g (n + (k + 1)) = cntP g n + (if g n = true then k + 1 else 0) ∧ fstP g (n + (k + 1)) = fstP g (n + 1) ∧ fplP g pl (n + (k + 1)) = fplP g pl (n + 1) ∧ anyP t (n + (k + 1)) = anyP t (n + 1)
  | 0, _ => ⟨rfl, rfl, rfl, rfl⟩
  | k + 1, hj => by
    obtain ⟨h1, h2, h3, h4⟩ := blk k (fun j q => hj j (by omega))
    obtain ⟨g1, g2⟩ := hj (k + 1) (by omega)
    have e4 : anyP t (n + (k + 1 + 1)) = (anyP t (n + (k + 1)) || t (n + (k + 1))) := anyP_s (n := n + (k + 1))
    by_cases q : g n = true
    · have q2 : g (n + (k + 1)) = true := by rw [g1]; exact q
      have nz : fstP g (n + (k + 1)) ≠ -1 := by
        rw [h2]
        by_cases w : fstP g n = -1
        · rw [fstP_1 w q]; omega
        · rw [fstP_k w]; exact w
      refine ⟨?_, (fstP_k nz).trans h2, (fplP_k nz).trans h3, ?_⟩
      · rw [if_pos q] at h1 ⊢
        have := cntP_1 (n := n + (k + 1)) q2
        show cntP g (n + (k + 1) + 1) = _
        omega
      · rw [e4, h4, g2, anyP_s]
        cases anyP t n <;> cases t n <;> rfl
    · have q2 : ¬ g (n + (k + 1)) = true := by rw [g1]; exact q
      rw [if_neg q] at h1
      refine ⟨?_, ?_, ?_, ?_⟩
      · rw [if_neg q]
        exact (cntP_0 (n := n + (k + 1)) q2).trans h1
      · by_cases w : fstP g (n + (k + 1)) = -1
        · exact (fstP_0 w q2).trans (w.symm.trans h2)
        · exact (fstP_k w).trans h2
      · by_cases w : fstP g (n + (k + 1)) = -1
        · have w2 : fstP g n = -1 := by
            by_cases z : fstP g n = -1
            · exact z
            · rw [h2, fstP_k z] at w; exact w
          exact (fplP_0 w q2).trans (fplP_0 w2 q).symm
        · exact (fplP_k w).trans h3
      · rw [e4, h4, g2, anyP_s]
        cases anyP t n <;> cases t n <;> rfl
/-- the first ones tell all of it where the rest repeats them -/
theorem per {p : Nat} (hg : ∀ i, g (i + p) = g i) (m j : Nat) : cntP g (m * p + j) = m * cntP g p + cntP g j := by
  have hgm : ∀ m i, g (m * p + i) = g i := by
    intro m
    induction m with
    | zero => intro i; rw [Nat.zero_mul, Nat.zero_add]
    | succ m ih => intro i; rw [Nat.succ_mul, Nat.add_right_comm, hg]; exact ih i
  have step : ∀ m j, cntP g (m * p + j) = cntP g (m * p) + cntP g j := by
    intro m j
    induction j with
    | zero => rfl
    | succ j ih =>
      show cntP g (m * p + j) + (if g (m * p + j) = true then 1 else 0) = cntP g (m * p) + (cntP g j + (if g j = true then 1 else 0))
      rw [ih, hgm, Nat.add_assoc]
  have mul : ∀ m, cntP g (m * p) = m * cntP g p := by
    intro m
    induction m with
    | zero => rw [Nat.zero_mul, Nat.zero_mul]; rfl
    | succ m ih => rw [Nat.succ_mul, step, ih, Nat.succ_mul]
  rw [step, mul]
theorem fst_none : ∀ n, fstP g n = -1 → (∀ i, i < n → g i = false) ∧ fplP g pl n = -1
  | 0, _ => ⟨fun i hi => absurd hi (Nat.not_lt_zero i), rfl⟩
  | n + 1, h => by
    by_cases w : fstP g n = -1
    · obtain ⟨h1, h2⟩ := fst_none n w
      by_cases q : g n = true
      · rw [fstP_1 w q] at h; omega
      · refine ⟨fun i hi => ?_, fplP_0 w q⟩
        by_cases e : i = n
        · rw [e]; exact Bool.eq_false_iff.mpr q
        · exact h1 i (by omega)
    · rw [fstP_k w] at h; exact absurd h w
theorem any_of : ∀ n i, i < n → t i = true → anyP t n = true
  | 0, i, hi, _ => absurd hi (Nat.not_lt_zero i)
  | n + 1, i, hi, h => by
    rw [anyP_s]
    by_cases e : i = n
    · rw [← e, h, Bool.or_true]
    · rw [any_of n i (by omega) h, Bool.true_or]
theorem per_rep {p : Nat} (hp : 1 ≤ p) {f : Nat → Bool} (hf : ∀ i, f (i + p) = f i) (i : Nat) : ∃ j, j < p ∧ f i = f j := by
  induction i using Nat.strongRecOn with
  | ind i ih =>
    by_cases q : i < p
    · exact ⟨i, q, rfl⟩
    · obtain ⟨j, j1, j2⟩ := ih (i - p) (by omega)
      refine ⟨j, j1, ?_⟩
      rw [← j2, ← hf (i - p), Nat.sub_add_cancel (by omega)]
theorem perf {p : Nat} (hp : 1 ≤ p) (hg : ∀ i, g (i + p) = g i) (ht : ∀ i, t (i + p) = t i) : ∀ k, fstP g (p + k) = fstP g p ∧ fplP g pl (p + k) = fplP g pl p ∧ anyP t (p + k) = anyP t p
  | 0 => ⟨rfl, rfl, rfl⟩
  | k + 1 => by
    obtain ⟨h1, h2, h3⟩ := perf hp hg ht k
    refine ⟨?_, ?_, ?_⟩
    · by_cases z : fstP g p = -1
      · obtain ⟨j, j1, j2⟩ := per_rep hp hg (p + k)
        have z2 : ¬ g (p + k) = true := by rw [j2, (fst_none (pl := pl) p z).1 j j1]; decide
        exact (fstP_0 (h1.trans z) z2).trans z.symm
      · exact (fstP_k (show fstP g (p + k) ≠ -1 by rw [h1]; exact z)).trans h1
    · by_cases z : fstP g p = -1
      · obtain ⟨j, j1, j2⟩ := per_rep hp hg (p + k)
        have z2 : ¬ g (p + k) = true := by rw [j2, (fst_none (pl := pl) p z).1 j j1]; decide
        exact (fplP_0 (h1.trans z) z2).trans (fst_none p z).2.symm
      · exact (fplP_k (show fstP g (p + k) ≠ -1 by rw [h1]; exact z)).trans h2
    · have e : anyP t (p + (k + 1)) = (anyP t (p + k) || t (p + k)) := rfl
      rw [e, h3]
      obtain ⟨j, j1, j2⟩ := per_rep hp ht (p + k)
      by_cases q : t (p + k) = true
      · rw [q, Bool.or_true, any_of p j j1 (by rw [← j2]; exact q)]
      · rw [Bool.eq_false_iff.mpr q, Bool.or_false]
end FP
/-- runs that nothing live tells apart -/
def obs (f : RFn) : Int × List Int × Nat := (f.1, f.2.2)
def EqS (P : Int → Prop) (s s' : RSt) : Prop := s.2 = s'.2 ∧ ∀ w : Int, 0 ≤ w → w ≤ 5 → P w → s.1 w = s'.1 w
theorem EqS.tk {P : Int → Prop} {s s' : RSt} (h : EqS P s s') : EqS P (tks s) (tks s') := ⟨by show (s.2.1, s.2.2 + 1) = (s'.2.1, s'.2.2 + 1); rw [h.1], h.2⟩
theorem stp_obs {P : Int → Prop} {s s' : RSt} (h : EqS P s s') {c : RSt → RFn} (k : obs (c (tks s)) = obs (c (tks s'))) : obs (stp s c) = obs (stp s' c) := by
  unfold stp
  by_cases q : s.2.2 = 100
  · have q2 : s'.2.2 = 100 := by rw [← h.1]; exact q
    rw [if_pos q, if_pos q2]
    show (2, s.2) = ((2, s'.2) : Int × List Int × Nat)
    rw [h.1]
  · have q2 : ¬ s'.2.2 = 100 := by rw [← h.1]; exact q
    rw [if_neg q, if_neg q2]
    exact k
theorem soS_eq {P : Int → Prop} {t : Int} {a b : List Int} {s s' : RSt} (ha : Ex lfR a) (hb : Ex lfR b) (h : EqS P s s') (hP : ∀ w, (20 + w) ∈ a ++ b → P w) : soS t a b s = soS t a b s' := by
  unfold soS
  rw [valE_on ha (fun w w0 w1 m => h.2 w w0 w1 (hP w (List.mem_append_left _ m))), valE_on hb (fun w w0 w1 m => h.2 w w0 w1 (hP w (List.mem_append_right _ m)))]
theorem RN_live : ∀ {l : List Int}, Sq l → ∀ (k : RSt → RFn) (out : Int → Prop), (∀ s s', EqS out s s' → obs (k s) = obs (k s')) → ∀ s s', EqS (LV l out) s s' → obs (RN l k s) = obs (RN l k s') := by
  intro l hl
  refine Sq.ind (P := fun l => ∀ (k : RSt → RFn) (out : Int → Prop), (∀ s s', EqS out s s' → obs (k s) = obs (k s')) → ∀ s s', EqS (LV l out) s s' → obs (RN l k s) = obs (RN l k s')) ?_ ?_ hl
  · intro k out hk s s' h
    rw [LV_nil] at h
    rw [RN_nil]
    exact hk s s' h
  · intro sl r hs hr ih k out hk s s' h
    rcases hs with ⟨v, e, hv, he, rfl⟩ | rfl | ⟨t, a, b, B, C, ht, ha, hb, hB, hC, rfl⟩ | ⟨t, a, b, B, ht, ha, hb, hB, rfl⟩
    · rw [LV_set hv he hr] at h
      rw [RN_set hv he hr, RN_set hv he hr]
      refine stp_obs h ?_
      have ev : valE (tks s).1 e = valE (tks s').1 e := valE_on he (fun w w0 w1 m => h.2 w w0 w1 (Or.inl m))
      show obs (RN r k (doS v (valE (tks s).1 e) (tks s))) = obs (RN r k (doS v (valE (tks s').1 e) (tks s')))
      rw [ev]
      refine ih k out hk _ _ ?_
      have h2 := h.tk.1
      unfold doS
      by_cases q : v = 110
      · rw [if_pos q, if_pos q]
        refine ⟨by show ((tks s).2.1 ++ _, (tks s).2.2) = ((tks s').2.1 ++ _, (tks s').2.2); rw [h2], fun w w0 w1 hw => h.2 w w0 w1 (Or.inr ⟨hw, by omega⟩)⟩
      · rw [if_neg q, if_neg q]
        refine ⟨h2, fun w w0 w1 hw => ?_⟩
        show uZ s.1 (v - 100) _ w = uZ s'.1 (v - 100) _ w
        unfold uZ
        by_cases z : w = v - 100
        · rw [if_pos z, if_pos z]
        · rw [if_neg z, if_neg z]
          exact h.2 w w0 w1 (Or.inr ⟨hw, by omega⟩)
    · rw [RN_fail hr, RN_fail hr]
      refine stp_obs h ?_
      show (1, (tks s).2) = ((1, (tks s').2) : Int × List Int × Nat)
      rw [h.tk.1]
    · rw [LV_if ht ha hb hB.1 hC.1 hr] at h
      rw [RN_if ht ha hb hB.1 hC.1 hr, RN_if ht ha hb hB.1 hC.1 hr]
      refine stp_obs h ?_
      have es : soS t a b (tks s) = soS t a b (tks s') := soS_eq ha hb h.tk (fun w m => Or.inl m)
      have kr := ih k out hk
      show obs (if soS t a b (tks s) = true then RN B (RN r k) (tks s) else RN C (RN r k) (tks s)) = obs (if soS t a b (tks s') = true then RN B (RN r k) (tks s') else RN C (RN r k) (tks s'))
      rw [es]
      by_cases q : soS t a b (tks s') = true
      · rw [if_pos q, if_pos q]
        exact hB.2 (RN r k) (LV r out) kr _ _ ⟨h.tk.1, fun w w0 w1 hw => h.2 w w0 w1 (Or.inr (Or.inl hw))⟩
      · rw [if_neg q, if_neg q]
        exact hC.2 (RN r k) (LV r out) kr _ _ ⟨h.tk.1, fun w w0 w1 hw => h.2 w w0 w1 (Or.inr (Or.inr hw))⟩
    · rw [LV_wh ht ha hb hB.1 hr] at h
      rw [RN_wh ht ha hb hB.1 hr, RN_wh ht ha hb hB.1 hr]
      have kr := ih k out hk
      have loop : ∀ (j : Nat) (s s' : RSt), EqS (fun w => (20 + w) ∈ a ++ b ∨ LV B NoV w ∨ LV r out w) s s' → obs (WH (soS t a b) (RN B) (RN r k) j s) = obs (WH (soS t a b) (RN B) (RN r k) j s') := by
        intro j
        induction j with
        | zero => intro s s' h; show (2, s.2) = ((2, s'.2) : Int × List Int × Nat); rw [h.1]
        | succ j ihj =>
          intro s s' h
          rw [WH_s, WH_s]
          refine stp_obs h ?_
          have es : soS t a b (tks s) = soS t a b (tks s') := soS_eq ha hb h.tk (fun w m => Or.inl m)
          show obs (if soS t a b (tks s) = true then RN B (WH (soS t a b) (RN B) (RN r k) j) (tks s) else RN r k (tks s)) = obs (if soS t a b (tks s') = true then RN B (WH (soS t a b) (RN B) (RN r k) j) (tks s') else RN r k (tks s'))
          rw [es]
          by_cases q : soS t a b (tks s') = true
          · rw [if_pos q, if_pos q]
            refine hB.2 _ _ ihj _ _ ⟨h.tk.1, fun w w0 w1 hw => h.2 w w0 w1 ?_⟩
            rcases (LV_T hB.1 _ w).mp hw with z | z
            · exact Or.inr (Or.inl z)
            · exact z.1
          · rw [if_neg q, if_neg q]
            exact kr _ _ ⟨h.tk.1, fun w w0 w1 hw => h.2 w w0 w1 (Or.inr (Or.inr hw))⟩
      exact loop 101 s s' h
theorem rn_live {l : List Int} (hl : Sq l) {a a' b b' : Int} (ha : LV l NoV 0 → a = a') (hb : LV l NoV 1 → b = b') : obs (rnF l a b) = obs (rnF l a' b') := by
  refine RN_live hl (fun s => (0, s)) NoV (fun s s' h => ?_) _ _ ⟨rfl, fun w w0 w1 hw => ?_⟩
  · show (0, s.2) = ((0, s'.2) : Int × List Int × Nat)
    rw [h.1]
  · show (if w = 0 then a else if w = 1 then b else 0) = if w = 0 then a' else if w = 1 then b' else 0
    by_cases z : w = 0
    · rw [if_pos z, if_pos z]; rw [z] at hw; exact ha hw
    · rw [if_neg z, if_neg z]
      by_cases z1 : w = 1
      · rw [if_pos z1, if_pos z1]; rw [z1] at hw; exact hb hw
      · rw [if_neg z1, if_neg z1]
theorem obs_eq {f f' g g' : RFn} (h : obs f = obs f') (k : obs g = obs g') : prt f g = prt f' g' ∧ plF f g = plF f' g' ∧ trd f g = trd f' g' := by
  have h1 : f.1 = f'.1 := (Prod.mk.inj h).1
  have h2 : f.2.2 = f'.2.2 := (Prod.mk.inj h).2
  have k1 : g.1 = g'.1 := (Prod.mk.inj k).1
  have k2 : g.2.2 = g'.2.2 := (Prod.mk.inj k).2
  have e2 : plF f g = plF f' g' := by unfold plF; rw [h2, k2]
  have e3 : trd f g = trd f' g' := by unfold trd; rw [h1, k1]
  refine ⟨?_, e2, e3⟩
  unfold prt ulk
  rw [e2, e3, h1, h2, k1, k2]
/-- what all inputs tell of two programs -/
noncomputable def gP (l m : List Int) (i : Nat) : Bool := prt (rnF l ((i / 16 : Nat) : Int) ((i % 16 : Nat) : Int)) (rnF m ((i / 16 : Nat) : Int) ((i % 16 : Nat) : Int))
noncomputable def tP (l m : List Int) (i : Nat) : Bool := trd (rnF l ((i / 16 : Nat) : Int) ((i % 16 : Nat) : Int)) (rnF m ((i / 16 : Nat) : Int) ((i % 16 : Nat) : Int))
noncomputable def pP (l m : List Int) (i : Nat) : Int := plF (rnF l ((i / 16 : Nat) : Int) ((i % 16 : Nat) : Int)) (rnF m ((i / 16 : Nat) : Int) ((i % 16 : Nat) : Int))
theorem gP_at {l m : List Int} {a b i : Nat} (h : i = 16 * a + b) (hb : b < 16) : gP l m i = prt (rnF l a b) (rnF m a b) ∧ tP l m i = trd (rnF l a b) (rnF m a b) ∧ pP l m i = plF (rnF l a b) (rnF m a b) := by
  have e1 : i / 16 = a := by omega
  have e2 : i % 16 = b := by omega
  unfold gP tP pP
  rw [e1, e2]
  exact ⟨rfl, rfl, rfl⟩
theorem plc_self : ∀ (A : List Int) (j : Int), plc A A j = -1
  | [], _ => rfl
  | x :: A, j => by rw [plc_cons, if_pos rfl]; exact plc_self A (j + 1)
theorem prt_self (f : RFn) : prt f f = false := by
  unfold prt ulk plF
  rw [plc_self]
  simp
theorem fst_self {l : List Int} : ∀ n, fstP (gP l l) n = -1
  | 0 => rfl
  | n + 1 => by
    show (if fstP (gP l l) n = -1 then (if gP l l n = true then (n : Int) else -1) else fstP (gP l l) n) = -1
    have : ¬ gP l l n = true := by unfold gP; rw [prt_self]; decide
    rw [if_pos (fst_self n), if_neg this]
