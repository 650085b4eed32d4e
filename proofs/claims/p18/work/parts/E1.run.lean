-- ===== what an expression is worth, and what a program does, told over its row
def ev1 (h : Int → Int) (c : Int) (st : List Int) : List Int := if c < 20 then c :: st else if c < 120 then h (c - 20) :: st else opR c (st.headD 0) (st.tail.headD 0) :: st.tail.tail
def evS (h : Int → Int) (e : List Int) (st : List Int) : List Int := e.foldr (ev1 h) st
def valE (h : Int → Int) (e : List Int) : Int := (evS h e []).headD 0
def agr6 (f g : Int → Int) : Prop := ∀ v : Int, 0 ≤ v → v ≤ 5 → f v = g v
section E1
variable {h f g : Int → Int}
theorem evS_app {a b st : List Int} : evS h (a ++ b) st = evS h a (evS h b st) := List.foldr_append
theorem evS_cons {c : Int} {a st : List Int} : evS h (c :: a) st = ev1 h c (evS h a st) := rfl
theorem ev1_op {o x y : Int} {t : List Int} (ho : opC o) : ev1 h o (x :: y :: t) = opR o x y :: t := by
  unfold opC at ho
  unfold ev1
  rw [if_neg (show ¬ o < 20 by omega), if_neg (show ¬ o < 120 by omega)] <;> rfl
theorem ev1_lf {c : Int} {t : List Int} (hc : lfR c) : ev1 h c t = (if c < 20 then c else h (c - 20)) :: t := by
  unfold lfR at hc
  unfold ev1
  by_cases q : c < 20
  · rw [if_pos q, if_pos q]
  · rw [if_neg q, if_neg q, if_pos (show c < 120 by omega)]
theorem evS_ex : ∀ {e : List Int}, Ex lfR e → ∃ v, ∀ t, evS h e t = v :: t := by
  intro e he
  refine Ex.ind (P := fun e => ∃ v, ∀ t, evS h e t = v :: t) ?_ ?_ he
  · intro c hc
    exact ⟨_, fun t => ev1_lf hc⟩
  · rintro o a b ho _ _ ⟨x, hx⟩ ⟨y, hy⟩
    refine ⟨opR o x y, fun t => ?_⟩
    rw [evS_cons, evS_app, hy, hx, ev1_op ho]
theorem evS_is {e : List Int} (he : Ex lfR e) (t : List Int) : evS h e t = valE h e :: t := by
  obtain ⟨v, hv⟩ := evS_ex (h := h) he
  have e0 : valE h e = v := by
    unfold valE
    rw [hv []] <;> rfl
  rw [hv t, e0]
theorem valE_lf {c : Int} (hc : lfR c) : valE h [c] = (if c < 20 then c else h (c - 20)) := by
  have e1 := evS_is (h := h) (Ex.leaf (lf := lfR) hc) []
  have e2 := ev1_lf (h := h) (t := []) hc
  exact (List.cons.inj (e1.symm.trans e2)).1
theorem valE_op {o : Int} {a b : List Int} (ho : opC o) (ha : Ex lfR a) (hb : Ex lfR b) : valE h (o :: (a ++ b)) = opR o (valE h a) (valE h b) := by
  have e1 := evS_is (h := h) (Ex.op ho ha hb) []
  rw [evS_cons, evS_app, evS_is hb, evS_is ha, ev1_op ho] at e1
  exact (List.cons.inj e1.symm).1
theorem valE_on : ∀ {e : List Int}, Ex lfR e → (∀ w : Int, 0 ≤ w → w ≤ 5 → (20 + w) ∈ e → f w = g w) → valE f e = valE g e := by
  intro e he
  refine Ex.ind (P := fun e => (∀ w : Int, 0 ≤ w → w ≤ 5 → (20 + w) ∈ e → f w = g w) → valE f e = valE g e) ?_ ?_ he
  · intro c hc hh
    rw [valE_lf hc, valE_lf hc]
    by_cases q : c < 20
    · rw [if_pos q, if_pos q]
    · rw [if_neg q, if_neg q]
      unfold lfR at hc
      exact hh (c - 20) (by omega) (by omega) (by rw [show 20 + (c - 20) = c by omega]; exact List.mem_cons_self)
  · intro o a b ho ha hb iha ihb hh
    rw [valE_op ho ha hb, valE_op ho ha hb, iha (fun w w0 w1 m => hh w w0 w1 (List.mem_cons_of_mem _ (List.mem_append_left _ m))), ihb (fun w w0 w1 m => hh w w0 w1 (List.mem_cons_of_mem _ (List.mem_append_right _ m)))]
theorem valE_agr {e : List Int} (he : Ex lfR e) (hh : agr6 f g) : valE f e = valE g e := valE_on he (fun w w0 w1 _ => hh w w0 w1)
theorem agr6_refl : agr6 f f := fun _ _ _ => rfl
theorem agr6_symm (hh : agr6 f g) : agr6 g f := fun v v0 v1 => (hh v v0 v1).symm
theorem agr6_upd {v x : Int} (hh : agr6 f g) : agr6 (uZ f v x) (uZ g v x) := by
  intro w w0 w1
  unfold uZ
  by_cases q : w = v
  · rw [if_pos q, if_pos q]
  · rw [if_neg q, if_neg q]; exact hh w w0 w1
end E1
/-- words, outputs, steps -/
abbrev RSt : Type := (Int → Int) × List Int × Nat
/-- how it ended, and where -/
abbrev RFn : Type := Int × RSt
def tks (s : RSt) : RSt := (s.1, s.2.1, s.2.2 + 1)
def stp (s : RSt) (c : RSt → RFn) : RFn := if s.2.2 = 100 then (2, s) else c (tks s)
def doS (v x : Int) (s : RSt) : RSt := if v = 110 then (s.1, s.2.1 ++ [x], s.2.2) else (uZ s.1 (v - 100) x, s.2)
def WH (sf : RSt → Bool) (y : (RSt → RFn) → RSt → RFn) (k : RSt → RFn) : Nat → RSt → RFn
  | 0, s => (2, s)
  | j + 1, s => stp s (fun s' => if sf s' = true then y (WH sf y k j) s' else k s')
def soS (t : Int) (a b : List Int) (s : RSt) : Bool := holdR t (valE s.1 a) (valE s.1 b)
noncomputable def RN (l : List Int) : (RSt → RFn) → RSt → RFn := SqF (X := (RSt → RFn) → RSt → RFn) (fun k => k)
  (fun v e _ y k s => stp s (fun s' => y k (doS v (valE s'.1 e) s'))) (fun _ _ _ s => stp s (fun s' => (1, s')))
  (fun t a b _ _ _ yB yC y k s => stp s (fun s' => if soS t a b s' = true then yB (y k) s' else yC (y k) s'))
  (fun t a b _ _ yB y k s => WH (soS t a b) yB (y k) 101 s) l
section RN
variable {k : RSt → RFn} {s : RSt}
theorem RN_nil : RN [] k = k := congrFun (SqF_nil (X := (RSt → RFn) → RSt → RFn)) k
theorem RN_set {v : Int} {e r : List Int} (hv : setC v ∨ v = 110) (he : Ex lfR e) (hr : Sq r) : RN ((v :: e) ++ r) k s = stp s (fun s' => RN r k (doS v (valE s'.1 e) s')) := congrFun (congrFun (SqF_set (X := (RSt → RFn) → RSt → RFn) hv he hr) k) s
theorem RN_fail {r : List Int} (hr : Sq r) : RN ([111] ++ r) k s = stp s (fun s' => (1, s')) := congrFun (congrFun (SqF_fail (X := (RSt → RFn) → RSt → RFn) hr) k) s
theorem RN_if {t : Int} {a b B C r : List Int} (ht : testC t) (ha : Ex lfR a) (hb : Ex lfR b) (hB : Sq B) (hC : Sq C) (hr : Sq r) : RN ((112 :: t :: (a ++ (b ++ (B ++ (113 :: (C ++ [114])))))) ++ r) k s = stp s (fun s' => if soS t a b s' = true then RN B (RN r k) s' else RN C (RN r k) s') := congrFun (congrFun (SqF_if (X := (RSt → RFn) → RSt → RFn) ht ha hb hB hC hr) k) s
theorem RN_wh {t : Int} {a b B r : List Int} (ht : testC t) (ha : Ex lfR a) (hb : Ex lfR b) (hB : Sq B) (hr : Sq r) : RN ((115 :: t :: (a ++ (b ++ (B ++ [114])))) ++ r) k s = WH (soS t a b) (RN B) (RN r k) 101 s := congrFun (congrFun (SqF_wh (X := (RSt → RFn) → RSt → RFn) ht ha hb hB hr) k) s
theorem stp_lt {c : RSt → RFn} (h : s.2.2 < 100) : stp s c = c (tks s) := if_neg (by omega)
theorem stp_100 {c : RSt → RFn} (h : s.2.2 = 100) : stp s c = (2, s) := if_pos h
end RN
/-- what a program does with its two inputs -/
def st0 (a b : Int) : RSt := (fun v => if v = 0 then a else if v = 1 then b else 0, [], 0)
noncomputable def rnF (l : List Int) (a b : Int) : RFn := RN l (fun s => (0, s)) (st0 a b)
