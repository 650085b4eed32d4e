-- ===== Row.reckon and Machine.go, exactly
def Sx (q : Nat) (σ σ' : Sg) : Prop := σ'.1 = σ.1 ∧ σ'.2.2 = σ.2.2 ∧ ∀ a, a ≠ q → σ'.2.1 a = σ.2.1 a
theorem Sx.refl {q : Nat} {σ : Sg} : Sx q σ σ := ⟨rfl, rfl, fun _ _ => rfl⟩
theorem Sx.trans {q : Nat} {σ σ1 σ2 : Sg} (h : Sx q σ σ1) (g : Sx q σ1 σ2) : Sx q σ σ2 := ⟨g.1.trans h.1, g.2.1.trans h.2.1, fun a z => (g.2.2 a z).trans (h.2.2 a z)⟩
theorem Sx_pF {q : Nat} {σ : Sg} {g : Int → Int} : Sx q σ (pF σ q g) := ⟨rfl, rfl, fun a z => by rw [pF_get, if_neg z]⟩
theorem RowL.of22 {σ σ' : Sg} {n : Int} {l : List Int} (h : RowL σ n l) (e : σ'.2.2 = σ.2.2) : RowL σ' n l := by
  unfold RowL at h ⊢
  rw [e]; exact h
theorem At_push {f : Int → Int} {st : List Int} {v : Int} (h : At f 0 st.reverse) : At (uZ f st.length v) 0 (v :: st).reverse := by
  have h2 := At_snoc (c := v) h
  rw [List.length_reverse, Int.zero_add] at h2
  rw [List.reverse_cons]; exact h2
theorem At_pop2 {f : Int → Int} {x y v : Int} {t : List Int} (h : At f 0 (x :: y :: t).reverse) : f t.length = y ∧ f (t.length + 1) = x ∧ At (uZ f t.length v) 0 (v :: t).reverse := by
  rw [List.reverse_cons, List.reverse_cons, List.append_assoc] at h
  obtain ⟨h1, h2⟩ := At_app.mp h
  rw [List.length_reverse, Int.zero_add] at h2
  have h3 : f t.length = y ∧ f (t.length + 1) = x ∧ True := h2
  exact ⟨h3.1, h3.2.1, At_push h1⟩
section RK
variable {σ0 : Sg} {n x0 : Int} {qi : Nat} {K : Sg → Prop} {L : Int → Int → Sg → Prop} {Lw : List Int}
def RkP (σ0 : Sg) (x0 : Int) (qi : Nat) (L : Int → Int → Sg → Prop) (Lw : List Int) (e : List Int) : Prop := ∀ (σ : Sg) (a b st : List Int) (p d q : Int), p = a.length → d = st.length → q = p + e.length - 1 → Sx (qi + 3) σ0 σ → Lw = a ++ (e ++ b) → x0 ≤ p → At (σ.2.1 (qi + 3)) 0 st.reverse → d + e.length ≤ 300 → (∀ σ', Sx (qi + 3) σ0 σ' → At (σ'.2.1 (qi + 3)) 0 (valE (σ0.2.1 (qi + 2)) e :: st).reverse → L (d + 1) (p - 1) σ') → L d q σ
theorem Rk_leaf (hL : ∀ d p s, wp5_W_reckonM_15 K qi n x0 L d p s → L d p s) (hR : RowL σ0 n Lw) {c : Int} (hc : lfR c) : RkP σ0 x0 qi L Lw [c] := by
  intro σ a b st p d q hp hd hq hs hw hx hst h3 kk
  have hv := valE_lf (h := σ0.2.1 (qi + 2)) hc
  have hno := lfR_no hc
  simp only [List.length_cons, List.length_nil] at hq h3
  have hR2 := hR.of22 hs.2.1
  rw [hw] at hR2
  have ec : σ.2.2.2 0 n p = c := by rw [hp]; exact hR2.mid (b := b)
  have hcap := hR2.2.2.2
  simp only [List.length_append, List.length_cons, List.length_nil] at hcap
  have hqp : q = p := by omega
  have hl := hR2.bd
  simp only [List.length_append, List.length_cons, List.length_nil] at hl
  have r1 : rng (p - 1) := rng_small (by omega) (by omega)
  have r2 : rng (d + 1) := rng_small (by omega) (by omega)
  unfold lfR at hc
  have fin : ∀ x, x = valE (σ0.2.1 (qi + 2)) [c] → L (d + 1) (p - 1) (pF σ (qi + 3) (uZ (σ.2.1 (qi + 3)) d x)) := by
    intro x ex
    refine kk _ (hs.trans Sx_pF) ?_
    rw [pF_get, if_pos rfl, ← ex, hd]
    exact At_push hst
  rw [hqp]
  refine hL _ _ _ ⟨fun z => absurd z (by omega), fun _ => ⟨fun z => absurd z (by omega), fun _ => ⟨⟨by omega, by omega⟩, ?_⟩⟩⟩
  rw [ec]
  refine isOperation_k (fun z => absurd z hno) (fun _ => t0 ⟨fun z => absurd z (by omega), fun _ => ⟨rng_small (by omega) (by omega), fun z => ⟨fun z2 => absurd z2 (by omega), fun z2 => ⟨⟨z, z2⟩, ⟨by omega, by omega⟩, r2, r1, fin _ ?_⟩⟩, fun z => ⟨⟨by omega, by omega⟩, r2, r1, fin _ ?_⟩⟩⟩)
  · rw [hv, if_neg (show ¬ c < 20 by omega), hs.2.2 (qi + 2) (by omega)]
  · rw [hv, if_pos (show c < 20 by omega)]
theorem Rk_op (hL : ∀ d p s, wp5_W_reckonM_15 K qi n x0 L d p s → L d p s) (hR : RowL σ0 n Lw) {o : Int} {x y : List Int} (ho : opC o) (hx : Ex lfR x) (hy : Ex lfR y) (ihx : RkP σ0 x0 qi L Lw x) (ihy : RkP σ0 x0 qi L Lw y) : RkP σ0 x0 qi L Lw (o :: (x ++ y)) := by
  intro σ a b st p d q hp hd hq hs hw hxx hst h3 kk
  have hv := valE_op (h := σ0.2.1 (qi + 2)) ho hx hy
  have hxp := hx.pos
  simp only [List.length_cons, List.length_append] at hq h3
  have hR2 := hR.of22 hs.2.1
  rw [hw] at hR2
  have hcap := hR2.2.2.2
  have hl := hR2.bd
  simp only [List.length_append, List.length_cons] at hcap hl
  refine ihy σ (a ++ (o :: x)) b st (p + 1 + x.length) d q (by simp only [List.length_append, List.length_cons]; omega) hd (by omega) hs (by rw [hw]; simp) (by omega) hst (by omega) (fun σ1 s1 u1 => ?_)
  refine ihx σ1 (a ++ [o]) (y ++ b) (valE (σ0.2.1 (qi + 2)) y :: st) (p + 1) (d + 1) _ (by simp only [List.length_append, List.length_cons, List.length_nil]; omega) (by simp only [List.length_cons]; omega) (by omega) s1 (by rw [hw]; simp) (by omega) u1 (by omega) (fun σ2 s2 u2 => ?_)
  obtain ⟨p1, p2, p3⟩ := At_pop2 (v := opR o (valE (σ0.2.1 (qi + 2)) x) (valE (σ0.2.1 (qi + 2)) y)) u2
  have hR3 := hR.of22 s2.2.1
  rw [hw] at hR3
  have ec : σ2.2.2.2 0 n p = o := by rw [hp]; exact hR3.mid
  rw [show p + 1 - 1 = p by omega, show d + 1 + 1 = d + 2 by omega]
  have r1 : rng (p - 1) := rng_small (by omega) (by omega)
  have r2 : rng (d + 2 - 1) := rng_small (by omega) (by omega)
  refine hL _ _ _ ⟨fun z => absurd z (by omega), fun _ => ⟨fun z => absurd z (by omega), fun _ => ⟨⟨by omega, by omega⟩, ?_⟩⟩⟩
  rw [ec]
  refine isOperation_k (fun _ => t1 ⟨fun z => absurd z (by omega), fun _ => ⟨fun z => absurd z (by omega), fun _ => ⟨⟨by omega, by omega⟩, ⟨by omega, by omega⟩, result_k ⟨r2, r1, ?_⟩⟩⟩⟩) (fun z => absurd ho z)
  rw [show d + 2 - 1 = d + 1 by omega, show d + 2 - 2 = d by omega, hd, p1, p2, ← hd]
  refine kk _ (s2.trans Sx_pF) ?_
  rw [pF_get, if_pos rfl, hv, hd]
  exact p3
theorem Rk_ex (hL : ∀ d p s, wp5_W_reckonM_15 K qi n x0 L d p s → L d p s) (hR : RowL σ0 n Lw) : ∀ {e : List Int}, Ex lfR e → RkP σ0 x0 qi L Lw e := by
  intro e he
  refine Ex.ind (P := RkP σ0 x0 qi L Lw) ?_ ?_ he
  · intro c hc; exact Rk_leaf hL hR hc
  · intro o x y ho hx hy ihx ihy; exact Rk_op hL hR ho hx hy ihx ihy
end RK
section R2
variable {σ : Sg} {n p q : Int} {qi : Nat} {K : Sg → Prop} {Lw a b : List Int}
theorem reckon1 {e : List Int} (hR : RowL σ n Lw) (he : Ex lfR e) (hw : Lw = a ++ (e ++ b)) (hp : p = a.length) (hq : q = p + e.length) (h3 : e.length ≤ 300) (k : ∀ σ', Sx (qi + 3) σ σ' → σ'.2.1 (qi + 3) 0 = valE (σ.2.1 (qi + 2)) e → K σ') : wp5_W_reckonM σ qi n p q K := by
  have hlen := hR.2.2.1
  have hl := hR.bd
  have hwl : Lw.length = a.length + (e.length + b.length) := by rw [hw]; simp
  have hm : min q (σ.2.2.1 0 n) = q := by omega
  unfold wp5_W_reckonM
  rw [hm]
  refine ⟨rng_small (by omega) (by omega), fun L hL => ?_⟩
  refine Rk_ex hL hR he σ a b [] p 0 (q - 1) hp rfl (by omega) Sx.refl hw (Int.le_refl _) trivial (by omega) (fun σ1 s1 t1 => hL _ _ _ ⟨fun _ => k σ1 s1 ?_, fun z => absurd z (by omega)⟩)
  have t2 : At (σ1.2.1 (qi + 3)) 0 [valE (σ.2.1 (qi + 2)) e] := t1
  exact t2.1
theorem reckon2 {x y : List Int} (hR : RowL σ n Lw) (hx : Ex lfR x) (hy : Ex lfR y) (hw : Lw = a ++ (x ++ (y ++ b))) (hp : p = a.length) (hq : q = p + x.length + y.length) (h3 : x.length + y.length ≤ 300) (k : ∀ σ', Sx (qi + 3) σ σ' → σ'.2.1 (qi + 3) 0 = valE (σ.2.1 (qi + 2)) y → σ'.2.1 (qi + 3) 1 = valE (σ.2.1 (qi + 2)) x → K σ') : wp5_W_reckonM σ qi n p q K := by
  have hlen := hR.2.2.1
  have hl := hR.bd
  have hxp := hx.pos
  have hyp := hy.pos
  have hwl : Lw.length = a.length + (x.length + (y.length + b.length)) := by rw [hw]; simp
  have hm : min q (σ.2.2.1 0 n) = q := by omega
  unfold wp5_W_reckonM
  rw [hm]
  refine ⟨rng_small (by omega) (by omega), fun L hL => ?_⟩
  refine Rk_ex hL hR hy σ (a ++ x) b [] (p + x.length) 0 (q - 1) (by simp only [List.length_append]; omega) rfl (by omega) Sx.refl (by rw [hw]; simp) (by omega) trivial (by omega) (fun σ1 s1 u1 => ?_)
  refine Rk_ex hL hR hx σ1 a (y ++ b) [valE (σ.2.1 (qi + 2)) y] p (0 + 1) _ hp (by simp) rfl s1 hw (Int.le_refl _) u1 (by omega) (fun σ2 s2 u2 => hL _ _ _ ⟨fun _ => ?_, fun z => absurd z (by omega)⟩)
  have u3 : At (σ2.2.1 (qi + 3)) 0 [valE (σ.2.1 (qi + 2)) y, valE (σ.2.1 (qi + 2)) x] := u2
  exact k σ2 s2 u3.1 u3.2.1
end R2
/-- what a run may change: three ints and three arrays of the machine -/
def MF (qi : Nat) (σ0 σ : Sg) : Prop := (∀ a b, (a ≠ qi ∨ b ≤ 1 ∨ 5 ≤ b) → σ.1 a b = σ0.1 a b) ∧ (∀ a, (a ≤ qi ∨ qi + 3 < a) → σ.2.1 a = σ0.2.1 a) ∧ σ.2.2 = σ0.2.2
theorem MF.refl {qi : Nat} {σ : Sg} : MF qi σ σ := ⟨fun _ _ _ => rfl, fun _ _ => rfl, rfl⟩
theorem MF.trans {qi : Nat} {σ σ1 σ2 : Sg} (h : MF qi σ σ1) (g : MF qi σ1 σ2) : MF qi σ σ2 := ⟨fun a b z => (g.1 a b z).trans (h.1 a b z), fun a z => (g.2.1 a z).trans (h.2.1 a z), g.2.2.trans h.2.2⟩
theorem MF_pU {qi j : Nat} {σ : Sg} {v : Int} (h : 2 ≤ j ∧ j ≤ 4) : MF qi σ (pU σ qi j v) := ⟨fun a b z => by rw [pU_get, if_neg (by omega)], fun _ _ => rfl, rfl⟩
theorem MF_pF {qi k : Nat} {σ : Sg} {g : Int → Int} (h : 1 ≤ k ∧ k ≤ 3) : MF qi σ (pF σ (qi + k) g) := ⟨fun _ _ _ => rfl, fun a z => by rw [pF_get, if_neg (by omega)], rfl⟩
theorem Sx.mf {qi : Nat} {σ σ' : Sg} (h : Sx (qi + 3) σ σ') : MF qi σ σ' := ⟨fun a b _ => by rw [h.1], fun a z => h.2.2 a (by omega), h.2.1⟩
/-- the machine in the midst of a statement -/
def Mi (qi : Nat) (σ0 σ : Sg) (h : Int → Int) (O : List Int) (m : Nat) : Prop := agr6 (σ.2.1 (qi + 2)) h ∧ At (σ.2.1 (qi + 1)) 0 O ∧ σ.1 qi 2 = O.length ∧ σ.1 qi 3 = m ∧ MF qi σ0 σ
def Ms (qi : Nat) (σ0 σ : Sg) (s : RSt) : Prop := Mi qi σ0 σ s.1 s.2.1 s.2.2 ∧ s.2.1.length ≤ s.2.2 ∧ s.2.2 ≤ 100
def GAr (qi : Nat) (σ0 : Sg) (l : List Int) (p i nx : Int) : Prop := At (σ0.2.1 (qi + 5)) i ((nmL l p).map (·.1)) ∧ At (σ0.2.1 (qi + 6)) i ((nmL l p).map (·.2.1)) ∧ At (σ0.2.1 (qi + 7)) i ((nmL l p).map (·.2.2.1)) ∧ At (σ0.2.1 (qi + 8)) i ((nmL l p).map (·.2.2.2.1)) ∧ At (σ0.2.1 (qi + 9)) i ((ynL l i nx).map (·.1)) ∧ At (σ0.2.1 (qi + 10)) i ((ynL l i nx).map (·.2))
/-- what the flow's arrays say of one statement -/
def G1 (qi : Nat) (σ0 : Sg) (i p v fr to' y no : Int) : Prop := σ0.2.1 (qi + 5) i = p ∧ σ0.2.1 (qi + 6) i = v ∧ σ0.2.1 (qi + 7) i = fr ∧ σ0.2.1 (qi + 8) i = to' ∧ σ0.2.1 (qi + 9) i = y ∧ σ0.2.1 (qi + 10) i = no
section GA
variable {σ0 : Sg} {qi : Nat} {p i nx : Int}
theorem GAr.app {s r : List Int} (hs : Sm Sq s) (hr : Sq r) (h : GAr qi σ0 (s ++ r) p i nx) : GAr qi σ0 s p i (nxt r (i + cs s) nx) ∧ GAr qi σ0 r (p + s.length) (i + cs s) nx := by
  obtain ⟨h1, h2, h3, h4, h5, h6⟩ := h
  rw [ynL_app hs hr, List.map_append] at h5 h6
  obtain ⟨a1, b1⟩ := nmA_app hs hr h1
  obtain ⟨a2, b2⟩ := nmA_app hs hr h2
  obtain ⟨a3, b3⟩ := nmA_app hs hr h3
  obtain ⟨a4, b4⟩ := nmA_app hs hr h4
  obtain ⟨a5, b5⟩ := At_app.mp h5
  obtain ⟨a6, b6⟩ := At_app.mp h6
  rw [List.length_map, ynL_len (Sq.one hs)] at b5 b6
  exact ⟨⟨a1, a2, a3, a4, a5, a6⟩, b1, b2, b3, b4, b5, b6⟩
theorem GAr.sets {v : Int} {e : List Int} (hv : setC v ∨ v = 110) (he : Ex lfR e) (h : GAr qi σ0 (v :: e) p i nx) : G1 qi σ0 i p v (p + 1) (p + 1 + e.length) nx (-1) := by
  obtain ⟨h1, h2, h3, h4, h5, h6⟩ := h
  rw [nmL_set1 hv he] at h1 h2 h3 h4
  rw [ynL_set1 hv he] at h5 h6
  exact ⟨h1.1, h2.1, h3.1, h4.1, h5.1, h6.1⟩
theorem GAr.fails (h : GAr qi σ0 [111] p i nx) : σ0.2.1 (qi + 6) i = 111 := by
  obtain ⟨_, h2, _⟩ := h
  rw [nmL_fail1] at h2
  exact h2.1
theorem GAr.ifs {t : Int} {a b B C : List Int} (ht : testC t) (ha : Ex lfR a) (hb : Ex lfR b) (hB : Sq B) (hC : Sq C) (h : GAr qi σ0 (112 :: t :: (a ++ (b ++ (B ++ (113 :: (C ++ [114])))))) p i nx) : G1 qi σ0 i p 112 (p + 2) (p + 2 + a.length + b.length) (nxt B (i + 1) nx) (nxt C (i + 1 + cs B) nx) ∧ GAr qi σ0 B (p + 2 + a.length + b.length) (i + 1) nx ∧ GAr qi σ0 C (p + 2 + a.length + b.length + B.length + 1) (i + 1 + cs B) nx := by
  obtain ⟨h1, h2, h3, h4, h5, h6⟩ := h
  rw [ynL_if1 ht ha hb hB hC, List.map_cons, List.map_append] at h5 h6
  obtain ⟨a1, b1, c1⟩ := nmA_if ht ha hb hB hC h1
  obtain ⟨a2, b2, c2⟩ := nmA_if ht ha hb hB hC h2
  obtain ⟨a3, b3, c3⟩ := nmA_if ht ha hb hB hC h3
  obtain ⟨a4, b4, c4⟩ := nmA_if ht ha hb hB hC h4
  obtain ⟨a5, b5, c5⟩ := At_tail2 h5
  obtain ⟨a6, b6, c6⟩ := At_tail2 h6
  rw [List.length_map, ynL_len hB] at c5 c6
  exact ⟨⟨a1, a2, a3, a4, a5, a6⟩, ⟨b1, b2, b3, b4, b5, b6⟩, ⟨c1, c2, c3, c4, c5, c6⟩⟩
theorem GAr.whs {t : Int} {a b B : List Int} (ht : testC t) (ha : Ex lfR a) (hb : Ex lfR b) (hB : Sq B) (h : GAr qi σ0 (115 :: t :: (a ++ (b ++ (B ++ [114])))) p i nx) : G1 qi σ0 i p 115 (p + 2) (p + 2 + a.length + b.length) (nxt B (i + 1) i) nx ∧ GAr qi σ0 B (p + 2 + a.length + b.length) (i + 1) i := by
  obtain ⟨h1, h2, h3, h4, h5, h6⟩ := h
  rw [ynL_wh1 ht ha hb hB] at h5 h6
  obtain ⟨a1, b1⟩ := nmA_wh ht ha hb hB h1
  obtain ⟨a2, b2⟩ := nmA_wh ht ha hb hB h2
  obtain ⟨a3, b3⟩ := nmA_wh ht ha hb hB h3
  obtain ⟨a4, b4⟩ := nmA_wh ht ha hb hB h4
  exact ⟨⟨a1, a2, a3, a4, h5.1, h6.1⟩, b1, b2, b3, b4, h5.2, h6.2⟩
end GA
