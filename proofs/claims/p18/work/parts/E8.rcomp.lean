-- ===== keeping and comparing all runs, in the reference
noncomputable def fI (l : List Int) (i : Nat) : RFn := rnF l ((i / 16 : Nat) : Int) ((i % 16 : Nat) : Int)
def Kp4 (l : List Int) (x y z : Int → Int) (n : Nat) : Prop := ∀ i : Nat, i < n → x i = (fI l i).1 ∧ y i = (fI l i).2.2.1.length ∧ At z (101 * i) (fI l i).2.2.1 ∧ (fI l i).2.2.1.length ≤ 100
theorem zdm16 {n : Nat} (h : n < 256) : zidiv (n : Int) 16 = ((n / 16 : Nat) : Int) ∧ zirem (n : Int) 16 = ((n % 16 : Nat) : Int) := by
  obtain ⟨e1, e2⟩ := zdm (x := (n : Int)) (y := 16) (by omega) (by omega) (by decide) (by decide)
  rw [e1, e2]
  exact ⟨by omega, by omega⟩
theorem uZe {f : Int → Int} {i v : Int} : uZ f i v i = v := if_pos rfl
theorem uZn {f : Int → Int} {i j v : Int} (h : ¬ j = i) : uZ f i v j = f j := if_neg h
section RC4
variable {row : Int → Int} {many : Int}
theorem keeps_x {l : List Int} (hw : WF row many l) {h o : Int → Int} {s e m c : Int} {x y z : Int → Int} {K : (Int → Int) → (Int → Int) → Int → Int → Int → Int → (Int → Int) → (Int → Int) → (Int → Int) → Prop} (hK : ∀ h' o' s' e' m' c' x' y' z', Kp4 l x' y' z' 256 → K h' o' s' e' m' c' x' y' z') : wp_keeps row many h o s e m c x y z K := by
  refine wl10_rule (fun (i : Int) _ _ _ _ _ _ x y z => ∃ n : Nat, i = (n : Int) ∧ n ≤ 256 ∧ Kp4 l x y z n) (fun (i : Int) _ _ _ _ _ _ _ _ _ => (256 - i).toNat) ?_ ⟨0, rfl, by decide, fun i hi => absurd hi (Nat.not_lt_zero i)⟩
  rintro P i h o s e m c x y z ⟨n, rfl, hn, hk⟩ ih
  refine ⟨fun hge => ?_, fun hlt => ?_⟩
  · have e0 : n = 256 := by omega
    rw [e0] at hk
    exact hK _ _ _ _ _ _ _ _ _ hk
  obtain ⟨e1, e2⟩ := zdm16 (n := n) (by omega)
  rw [e1, e2]
  refine runs_x hw (fun h' o' s' e' m' c' k1 k2 => ⟨⟨by omega, by omega⟩, ⟨by omega, by omega⟩, ?_⟩)
  have k1' : Rst h' o' s' m' (fI l n).2 := k1
  have k2' : e' = (fI l n).1 := k2
  obtain ⟨a1, a2, a3, a4, a5, a6⟩ := k1'
  refine wl2_rule (fun (j : Int) (z2 : Int → Int) => ∃ A1 A2 : List Int, (fI l n).2.2.1 = A1 ++ A2 ∧ j = A1.length ∧ At z2 (101 * n) A1 ∧ ∀ t : Int, t < 101 * n → z2 t = z t) (fun (j : Int) _ => (m' - j).toNat) ?_ ⟨[], (fI l n).2.2.1, rfl, rfl, trivial, fun _ _ => rfl⟩
  rintro P2 j z2 ⟨A1, A2, eA, hj, az, ez⟩ ih2
  have la : (fI l n).2.2.1.length = A1.length + A2.length := by rw [eA, List.length_append]
  refine ⟨fun hge => ⟨⟨by omega, by omega⟩, ?_⟩, fun hlt2 => ?_⟩
  · have hnil : A2 = [] := List.length_eq_zero_iff.mp (by omega)
    rw [hnil, List.append_nil] at eA
    rw [show (n : Int) + 1 = ((n + 1 : Nat) : Int) by omega]
    refine ih _ _ _ _ _ _ _ _ _ _ ⟨n + 1, rfl, by omega, fun i hi => ?_⟩ (by omega)
    by_cases q : i = n
    · rw [q]
      refine ⟨uZe.trans k2', uZe.trans a3, ?_, by omega⟩
      rw [eA]; exact az
    · obtain ⟨b1, b2, b3, b4⟩ := hk i (by omega)
      have qi : ¬ (i : Int) = n := by omega
      exact ⟨(uZn qi).trans b1, (uZn qi).trans b2, At_same (fun t t0 t1 => ez t (by omega)) b3, b4⟩
  · cases A2 with
    | nil => simp only [List.length_nil] at la; omega
    | cons v A2 =>
      simp only [List.length_cons] at la
      refine ⟨⟨by omega, by omega⟩, ⟨by omega, by omega⟩, ⟨by omega, by omega⟩, ih2 _ _ ⟨A1 ++ [v], A2, by rw [eA]; simp, by simp only [List.length_append, List.length_cons, List.length_nil]; omega, ?_, fun t ht => ?_⟩ (by omega)⟩
      · have ev : o' j = v := by
          rw [eA] at a2
          rw [hj]; exact At_mid a2
        rw [ev, hj]
        exact At_snoc az
      · exact (uZn (by omega)).trans (ez t ht)
theorem compares_x {l1 l2 : List Int} (hw : WF row many l2) {h o : Int → Int} {s e m c : Int} {x y z : Int → Int} (hk : Kp4 l1 x y z 256) {fp fpl pt at' : Int} {K : (Int → Int) → (Int → Int) → Int → Int → Int → Int → Int → Int → Int → Int → Prop} (hK : ∀ h' o' s' e' m' c' a b d t, a = fstP (gP l1 l2) 256 → b = fplP (gP l1 l2) (pP l1 l2) 256 → d = (cntP (gP l1 l2) 256 : Int) → t = (if anyP (tP l1 l2) 256 = true then (1 : Int) else 0) → K h' o' s' e' m' c' a b d t) : wp_compares row many h o s e m c x y z fp fpl pt at' K := by
  refine wl11_rule (fun (i : Int) _ _ _ _ _ _ (a b d t : Int) => ∃ n : Nat, i = (n : Int) ∧ n ≤ 256 ∧ a = fstP (gP l1 l2) n ∧ b = fplP (gP l1 l2) (pP l1 l2) n ∧ d = (cntP (gP l1 l2) n : Int) ∧ t = (if anyP (tP l1 l2) n = true then (1 : Int) else 0)) (fun (i : Int) _ _ _ _ _ _ _ _ _ _ => (256 - i).toNat) ?_ ⟨0, rfl, by decide, rfl, rfl, rfl, rfl⟩
  rintro P i h o s e m c fp fpl pt at' ⟨n, rfl, hn, i1, i2, i3, i4⟩ ih
  refine ⟨fun hge => ?_, fun hlt => ?_⟩
  · have e0 : n = 256 := by omega
    rw [e0] at i1 i2 i3 i4
    exact hK _ _ _ _ _ _ _ _ _ _ i1 i2 i3 i4
  obtain ⟨e1, e2⟩ := zdm16 (n := n) (by omega)
  rw [e1, e2]
  refine runs_x hw (fun h' o' s' e' m' c' k1 k2 => ?_)
  have k1' : Rst h' o' s' m' (fI l2 n).2 := k1
  have k2' : e' = (fI l2 n).1 := k2
  obtain ⟨a1, a2, a3, a4, a5, a6⟩ := k1'
  obtain ⟨b1, b2, b3, b4⟩ := hk n (by omega)
  have eg : gP l1 l2 n = prt (fI l1 n) (fI l2 n) := rfl
  have et : tP l1 l2 n = trd (fI l1 n) (fI l2 n) := rfl
  have ep : pP l1 l2 n = plF (fI l1 n) (fI l2 n) := rfl
  have cl := cntP_le (g := gP l1 l2) n
  have next : ∀ (a b d t : Int), a = fstP (gP l1 l2) (n + 1) → b = fplP (gP l1 l2) (pP l1 l2) (n + 1) → d = (cntP (gP l1 l2) (n + 1) : Int) → t = (if anyP (tP l1 l2) (n + 1) = true then (1 : Int) else 0) → rng ((n : Int) + 1) ∧ P ((n : Int) + 1) h' o' s' e' m' c' a b d t := fun a b d t q1 q2 q3 q4 => ⟨⟨by omega, by omega⟩, by
    rw [show (n : Int) + 1 = ((n + 1 : Nat) : Int) by omega]
    exact ih _ _ _ _ _ _ _ _ _ _ _ ⟨n + 1, rfl, by omega, q1, q2, q3, q4⟩ (by omega)⟩
  have b195 : ∀ (k z1 z2 : Int), gP l1 l2 n = true → z2 = (if anyP (tP l1 l2) (n + 1) = true then (1 : Int) else 0) → (z1 = 0 → pP l1 l2 n = -1) → (z1 ≠ 0 → pP l1 l2 n = k) → wp_compares_195 c' e' fp fpl h' n k m' o' pt z1 z2 s' P := by
    intro k z1 z2 hg hz p0 p1
    have e3 : pt + 1 = (cntP (gP l1 l2) (n + 1) : Int) := by rw [cntP_1 hg, i3]; omega
    refine ⟨⟨by omega, by omega⟩, fun q => ⟨fun q2 => next _ _ _ _ ?_ ?_ e3 hz, fun q2 => next _ _ _ _ ?_ ?_ e3 hz⟩, fun q => next _ _ _ _ ?_ ?_ e3 hz⟩
    · rw [fstP_1 (i1.symm.trans q) hg]
    · rw [fplP_1 (i1.symm.trans q) hg, p0 q2]
    · rw [fstP_1 (i1.symm.trans q) hg]
    · rw [fplP_1 (i1.symm.trans q) hg, p1 q2]
    · rw [fstP_k (by rw [← i1]; exact q)]; exact i1
    · rw [fplP_k (by rw [← i1]; exact q)]; exact i2
  have skip : ∀ (z2 : Int), gP l1 l2 n = false → z2 = (if anyP (tP l1 l2) (n + 1) = true then (1 : Int) else 0) → rng ((n : Int) + 1) ∧ P ((n : Int) + 1) h' o' s' e' m' c' fp fpl pt z2 := by
    intro z2 hg hz
    have hg' : ¬ gP l1 l2 n = true := nt_of_f hg
    refine next _ _ _ _ ?_ ?_ ?_ hz
    · rw [i1]
      by_cases q : fstP (gP l1 l2) n = -1
      · rw [fstP_0 q hg', q]
      · rw [fstP_k q]
    · rw [i2]
      by_cases q : fstP (gP l1 l2) n = -1
      · rw [fplP_0 q hg']; exact (fst_none n q).2
      · rw [fplP_k q]
    · rw [i3, cntP_0 hg']
  have b154 : ∀ (k z1 z2 z3 : Int), (tP l1 l2 n = true ↔ z2 ≠ 0) → z3 = (if anyP (tP l1 l2) (n + 1) = true then (1 : Int) else 0) → (z1 = 0 → pP l1 l2 n = -1) → (z1 ≠ 0 → pP l1 l2 n = k ∧ k ≠ -1) → wp_compares_154 x y c' e' fp fpl h' n k m' o' pt z1 z2 s' P z3 := by
    intro k z1 z2 z3 hz2 hz3 p0 p1
    have hb : z3 = 0 ∨ z3 = 1 := by
      rw [hz3]
      by_cases q : anyP (tP l1 l2) (n + 1) = true
      · rw [if_pos q]; exact Or.inr rfl
      · rw [if_neg q]; exact Or.inl rfl
    have pn : z1 = 0 → decide (plF (fI l1 n) (fI l2 n) = -1) = true := fun q => decide_eq_true (p0 q)
    refine ⟨hb, fun q => b195 _ _ _ ?_ hz3 p0 (fun q => (p1 q).1), fun q => ⟨fun q2 => skip _ ?_ hz3, fun q2 => ⟨⟨by omega, by omega⟩, fun q3 => b195 _ _ _ ?_ hz3 p0 (fun q => (p1 q).1), fun q3 => ⟨⟨by omega, by omega⟩, fun q4 => b195 _ _ _ ?_ hz3 p0 (fun q => (p1 q).1), fun q4 => skip _ ?_ hz3⟩⟩⟩⟩
    · have : plF (fI l1 n) (fI l2 n) ≠ -1 := fun e => (p1 q).2 ((p1 q).1.symm.trans e)
      rw [eg]; unfold prt
      rw [decide_eq_false this] <;> rfl
    · rw [eg]; unfold prt
      rw [pn q, ← et, hz2.mpr q2] <;> rfl
    · have tf : tP l1 l2 n = false := Bool.eq_false_iff.mpr (fun w => (hz2.mp w) q2)
      rw [eg]; unfold prt ulk
      rw [pn q, ← et, tf, decide_eq_false (show ¬ (fI l1 n).2.2.1.length = (fI l2 n).2.2.1.length from fun w => q3 (by rw [a3, b2, w]))] <;> rfl
    · have tf : tP l1 l2 n = false := Bool.eq_false_iff.mpr (fun w => (hz2.mp w) q2)
      rw [eg]; unfold prt ulk
      rw [pn q, ← et, tf, decide_eq_false (show ¬ (fI l1 n).1 = (fI l2 n).1 from fun w => q4 (by rw [k2', b1, w])), Bool.and_false] <;> rfl
    · have tf : tP l1 l2 n = false := Bool.eq_false_iff.mpr (fun w => (hz2.mp w) q2)
      rw [eg]; unfold prt ulk
      rw [pn q, ← et, tf, decide_eq_true (show (fI l1 n).1 = (fI l2 n).1 by rw [← b1, ← k2']; exact q4.symm), decide_eq_true (show (fI l1 n).2.2.1.length = (fI l2 n).2.2.1.length by omega)] <;> rfl
  have b134 : ∀ (k z1 z2 : Int), (tP l1 l2 n = true ↔ z2 ≠ 0) → (z1 = 0 → pP l1 l2 n = -1) → (z1 ≠ 0 → pP l1 l2 n = k ∧ k ≠ -1) → wp_compares_134 x y at' c' e' fp fpl h' n k m' o' pt z1 s' P z2 := by
    intro k z1 z2 hz2 p0 p1
    refine ⟨fun q => b154 k z1 z2 1 hz2 ?_ p0 p1, fun q => ⟨fun q2 => b154 k z1 z2 0 hz2 ?_ p0 p1, fun q2 => b154 k z1 z2 1 hz2 ?_ p0 p1⟩⟩
    · have : anyP (tP l1 l2) n = true := by
        by_cases w : anyP (tP l1 l2) n = true
        · exact w
        · rw [if_neg w] at i4; exact absurd i4 q
      rw [anyP_s, this, Bool.true_or, if_pos rfl]
    · have w1 : anyP (tP l1 l2) n = false := by
        by_cases w : anyP (tP l1 l2) n = true
        · rw [if_pos w] at i4; rw [i4] at q; exact absurd q (by decide)
        · exact Bool.eq_false_iff.mpr w
      have w2 : tP l1 l2 n = false := Bool.eq_false_iff.mpr (fun w => (hz2.mp w) q2)
      rw [anyP_s, w1, w2] <;> rfl
    · rw [anyP_s, hz2.mpr q2, Bool.or_true, if_pos rfl]
  have td : tP l1 l2 n = true ↔ (x n = 2 ∨ e' = 2) := by
    rw [et, b1, k2']
    unfold trd
    rw [Bool.or_eq_true, decide_eq_true_iff, decide_eq_true_iff]
  have b110 : ∀ (k z1 : Int), (z1 = 0 → pP l1 l2 n = -1) → (z1 ≠ 0 → pP l1 l2 n = k ∧ k ≠ -1) → wp_compares_110 x y at' c' e' fp fpl h' n k m' o' pt s' P z1 := by
    intro k z1 p0 p1
    refine ⟨fun q => b134 k z1 1 ⟨fun _ => by decide, fun _ => td.mpr (Or.inr q)⟩ p0 p1, fun q => ⟨⟨by omega, by omega⟩, fun q2 => b134 k z1 0 ⟨fun w => ?_, fun w => absurd rfl w⟩ p0 p1, fun q2 => b134 k z1 1 ⟨fun _ => by decide, fun _ => td.mpr (Or.inl q2)⟩ p0 p1⟩⟩
    rcases td.mp w with w | w
    · exact absurd w q2
    · exact absurd w q
  refine wl1_rule (fun (k : Int) => ∃ A1 A2 B2 : List Int, (fI l1 n).2.2.1 = A1 ++ A2 ∧ (fI l2 n).2.2.1 = A1 ++ B2 ∧ k = A1.length ∧ pP l1 l2 n = plc A2 B2 k) (fun (k : Int) => (m' - k).toNat) ?_ ⟨[], (fI l1 n).2.2.1, (fI l2 n).2.2.1, rfl, rfl, rfl, rfl⟩
  rintro P2 k ⟨A1, A2, B2, eA, eB, ek, epl⟩ ih2
  have la : (fI l1 n).2.2.1.length = A1.length + A2.length := by rw [eA, List.length_append]
  have lb : (fI l2 n).2.2.1.length = A1.length + B2.length := by rw [eB, List.length_append]
  have b87 : (pP l1 l2 n = if k < m' ∧ k < y n then k else -1) → wp_compares_87 x y at' c' e' fp fpl h' n k m' o' pt s' P := by
    intro hp
    have off : ¬ (k < m' ∧ k < y n) → wp_compares_110 x y at' c' e' fp fpl h' n k m' o' pt s' P 0 := fun w => b110 k 0 (fun _ => by rw [if_neg w] at hp; exact hp) (fun q => absurd rfl q)
    exact ⟨fun q => off (fun w => by omega), fun q => ⟨⟨by omega, by omega⟩, fun q2 => off (fun w => by omega), fun q2 => b110 k 1 (fun w => absurd w (by decide)) (fun _ => ⟨by rw [if_pos ⟨q, q2⟩] at hp; exact hp, by omega⟩)⟩⟩
  have dead : A2 = [] ∨ B2 = [] → wp_compares_87 x y at' c' e' fp fpl h' n k m' o' pt s' P := by
    intro w
    refine b87 ?_
    rcases w with rfl | rfl
    · rw [epl, plc_nil, if_neg (by simp only [List.length_nil] at la; omega)]
    · rw [epl, plc_nilr, if_neg (by simp only [List.length_nil] at lb; omega)]
  refine ⟨fun q => dead (Or.inr (List.length_eq_zero_iff.mp (by omega))), fun q => ⟨⟨by omega, by omega⟩, fun q2 => dead (Or.inl (List.length_eq_zero_iff.mp (by omega))), fun q2 => ⟨⟨by omega, by omega⟩, ⟨by omega, by omega⟩, ?_⟩⟩⟩
  cases A2 with
  | nil => simp only [List.length_nil] at la; exfalso; omega
  | cons u A2 =>
    cases B2 with
    | nil => simp only [List.length_nil] at lb; exfalso; omega
    | cons v B2 =>
      have vu : z (101 * n + k) = u := by
        rw [eA] at b3
        rw [ek]
        exact (At_app.mp b3).2.1
      have vv : o' k = v := by
        rw [eB] at a2
        rw [ek]; exact At_mid a2
      rw [vu, vv]
      rw [plc_cons] at epl
      refine ⟨fun q3 => b87 ?_, fun q3 => ⟨⟨by omega, by omega⟩, ih2 _ ⟨A1 ++ [u], A2, B2, by rw [eA]; simp, by rw [eB, q3]; simp, by simp only [List.length_append, List.length_cons, List.length_nil]; omega, by rw [epl, if_pos q3.symm]⟩ (by omega)⟩⟩
      rw [epl, if_neg (fun w : u = v => q3 w.symm), if_pos ⟨q, q2⟩]
end RC4
