-- ===== what is read, as bits; statements taken out
theorem bit_or6 : ∀ (a : Fin 64) (v w : Fin 6), (ziand (zishr (zior a.val (zishl 1 v.val)) w.val) 1 ≠ 0) ↔ (w = v ∨ ziand (zishr a.val w.val) 1 ≠ 0) := by decide +kernel
theorem bit_06 : ∀ (w : Fin 6), ziand (zishr 0 w.val) 1 = 0 := by decide +kernel
theorem bit_z6 : ∀ (a : Fin 64), zior a.val 0 = a.val := by decide +kernel
/-- the bits of r are the variables that e reads -/
def RdB (r : Int) (e : List Int) : Prop := 0 ≤ r ∧ r ≤ 63 ∧ ∀ v, 0 ≤ v → v ≤ 5 → (bitR r v ↔ (20 + v) ∈ e)
theorem fin64 {a : Int} (h0 : 0 ≤ a) (h1 : a ≤ 63) : ∃ i : Fin 64, a = (i.val : Int) := ⟨⟨a.toNat, by omega⟩, by show a = ((a.toNat : Nat) : Int); omega⟩
theorem fin6 {a : Int} (h0 : 0 ≤ a) (h1 : a ≤ 5) : ∃ i : Fin 6, a = (i.val : Int) := ⟨⟨a.toNat, by omega⟩, by show a = ((a.toNat : Nat) : Int); omega⟩
theorem bitR_or {a v w : Int} (a0 : 0 ≤ a) (a1 : a ≤ 63) (v0 : 0 ≤ v) (v1 : v ≤ 5) (w0 : 0 ≤ w) (w1 : w ≤ 5) : bitR (zior a (zishl 1 v)) w ↔ (w = v ∨ bitR a w) := by
  obtain ⟨i, rfl⟩ := fin64 a0 a1
  obtain ⟨j, rfl⟩ := fin6 v0 v1
  obtain ⟨k, rfl⟩ := fin6 w0 w1
  have h := bit_or6 i j k
  unfold bitR
  rw [h]
  constructor
  · rintro (q | q)
    · exact Or.inl (by rw [q])
    · exact Or.inr q
  · rintro (q | q)
    · exact Or.inl (Fin.ext (by omega))
    · exact Or.inr q
theorem RdB.nil : RdB 0 [] := ⟨by decide, by decide, fun v h0 h1 => by
  obtain ⟨k, rfl⟩ := fin6 h0 h1
  unfold bitR
  rw [bit_06 k]
  simp⟩
theorem RdB.snoc {r c : Int} {e : List Int} (h : RdB r e) (hc : 20 ≤ c ∧ c ≤ 25) : RdB (zior r (zishl 1 (c - 20))) (e ++ [c]) := by
  obtain ⟨h0, h1, h2⟩ := h
  have hs := zishl63 (v := c - 20) (by omega) (by omega)
  have ho := zior63 h0 h1 hs.1 hs.2
  refine ⟨ho.1, ho.2.1, fun v v0 v1 => ?_⟩
  rw [bitR_or h0 h1 (by omega) (by omega) v0 v1, h2 v v0 v1]
  constructor
  · rintro (q | q)
    · exact List.mem_append.mpr (Or.inr (List.mem_singleton.mpr (by omega)))
    · exact List.mem_append.mpr (Or.inl q)
  · intro q
    rcases List.mem_append.mp q with q | q
    · exact Or.inr q
    · exact Or.inl (by have := List.mem_singleton.mp q; omega)
theorem RdB.skip {r c : Int} {e : List Int} (h : RdB r e) (hc : ¬ (20 ≤ c ∧ c ≤ 25)) : RdB (zior r 0) (e ++ [c]) := by
  obtain ⟨h0, h1, h2⟩ := h
  obtain ⟨i, rfl⟩ := fin64 h0 h1
  rw [bit_z6 i]
  refine ⟨h0, h1, fun v v0 v1 => ?_⟩
  rw [h2 v v0 v1]
  constructor
  · intro q; exact List.mem_append.mpr (Or.inl q)
  · intro q
    rcases List.mem_append.mp q with q | q
    · exact q
    · have := List.mem_singleton.mp q; omega
theorem reads_x {row : Int → Int} {p q : Int} {e : List Int} {K : Int → Prop} (ha : At row p e) (hq : q = p + e.length) (h0 : 0 ≤ p) (h1 : q ≤ 2400) (k : ∀ r, RdB r e → K r) : wp_reads row p q K := by
  refine wl2_rule (fun r i => ∃ e1 e2 : List Int, e = e1 ++ e2 ∧ i = p + e1.length ∧ RdB r e1) (fun _ i => (q - i).toNat) ?_ ⟨[], e, rfl, by simp, RdB.nil⟩
  rintro P r i ⟨e1, e2, rfl, rfl, hr⟩ ih
  simp only [List.length_append] at hq
  refine ⟨fun z => ?_, fun z => ⟨⟨by omega, by omega⟩, ?_⟩⟩
  · have : e2 = [] := List.length_eq_zero_iff.mp (by omega)
    subst this
    rw [List.append_nil] at k
    exact k r hr
  · cases e2 with
    | nil => simp at hq; omega
    | cons c e2 =>
      have ec : row (p + e1.length) = c := (At_app.mp ha).2.1
      rw [ec]
      refine isIn_c (fun x y => t1 ⟨⟨by omega, by omega⟩, ⟨by omega, by omega⟩, ?_⟩) (fun x => t0 ⟨⟨by omega, by omega⟩, ?_⟩)
      · exact ih _ _ ⟨e1 ++ [c], e2, by simp, by simp only [List.length_append, List.length_cons, List.length_nil]; omega, hr.snoc ⟨x, y⟩⟩ (by omega)
      · exact ih _ _ ⟨e1 ++ [c], e2, by simp, by simp only [List.length_append, List.length_cons, List.length_nil]; omega, hr.skip x⟩ (by omega)
/-- the row without the statements that o names by their places -/
noncomputable def rmG (o : Int → Int) (l : List Int) : Int → List Int := SqF (X := Int → List Int) (fun _ => []) (fun v e _ y q => (if o q ≠ 0 then [] else v :: e) ++ y (q + 1 + e.length)) (fun _ y q => (if o q ≠ 0 then [] else [111]) ++ y (q + 1))
  (fun t a b B C _ y z w q => (if o q ≠ 0 then [] else 112 :: t :: (a ++ (b ++ (y (q + 2 + a.length + b.length) ++ (113 :: (z (q + 2 + a.length + b.length + B.length + 1) ++ [114])))))) ++ w (q + 2 + a.length + b.length + B.length + 1 + C.length + 1))
  (fun t a b B _ y w q => (if o q ≠ 0 then [] else 115 :: t :: (a ++ (b ++ (y (q + 2 + a.length + b.length) ++ [114])))) ++ w (q + 2 + a.length + b.length + B.length + 1)) l
noncomputable def rmF (o : Int → Int) (q : Int) (l : List Int) : List Int := rmG o l q
section RM
variable {o : Int → Int} {q : Int}
theorem rmF_nil : rmF o q [] = [] := congrFun (SqF_nil (X := Int → List Int)) q
theorem rmF_setr {v : Int} {e r : List Int} (hv : setC v ∨ v = 110) (he : Ex lfR e) (hr : Sq r) : rmF o q (v :: (e ++ r)) = (if o q ≠ 0 then [] else v :: e) ++ rmF o (q + 1 + e.length) r := congrFun (SqF_set (X := Int → List Int) hv he hr) q
theorem rmF_failr {r : List Int} (hr : Sq r) : rmF o q (111 :: r) = (if o q ≠ 0 then [] else [111]) ++ rmF o (q + 1) r := congrFun (SqF_fail (X := Int → List Int) hr) q
theorem rmF_ifr {t : Int} {a b B C r : List Int} (ht : testC t) (ha : Ex lfR a) (hb : Ex lfR b) (hB : Sq B) (hC : Sq C) (hr : Sq r) : rmF o q ((112 :: t :: (a ++ (b ++ (B ++ (113 :: (C ++ [114])))))) ++ r) = (if o q ≠ 0 then [] else 112 :: t :: (a ++ (b ++ (rmF o (q + 2 + a.length + b.length) B ++ (113 :: (rmF o (q + 2 + a.length + b.length + B.length + 1) C ++ [114])))))) ++ rmF o (q + 2 + a.length + b.length + B.length + 1 + C.length + 1) r := congrFun (SqF_if (X := Int → List Int) ht ha hb hB hC hr) q
theorem rmF_whr {t : Int} {a b B r : List Int} (ht : testC t) (ha : Ex lfR a) (hb : Ex lfR b) (hB : Sq B) (hr : Sq r) : rmF o q ((115 :: t :: (a ++ (b ++ (B ++ [114])))) ++ r) = (if o q ≠ 0 then [] else 115 :: t :: (a ++ (b ++ (rmF o (q + 2 + a.length + b.length) B ++ [114])))) ++ rmF o (q + 2 + a.length + b.length + B.length + 1) r := congrFun (SqF_wh (X := Int → List Int) ht ha hb hB hr) q
theorem rmF_set {v : Int} {e : List Int} (hv : setC v ∨ v = 110) (he : Ex lfR e) : rmF o q (v :: e) = if o q ≠ 0 then [] else v :: e := by
  have := rmF_setr (o := o) (q := q) hv he Sq.nil
  rwa [List.append_nil, rmF_nil, List.append_nil] at this
theorem rmF_fail : rmF o q [111] = if o q ≠ 0 then [] else [111] := by
  have := rmF_failr (o := o) (q := q) Sq.nil
  rwa [rmF_nil, List.append_nil] at this
theorem rmF_if {t : Int} {a b B C : List Int} (ht : testC t) (ha : Ex lfR a) (hb : Ex lfR b) (hB : Sq B) (hC : Sq C) : rmF o q (112 :: t :: (a ++ (b ++ (B ++ (113 :: (C ++ [114])))))) = if o q ≠ 0 then [] else 112 :: t :: (a ++ (b ++ (rmF o (q + 2 + a.length + b.length) B ++ (113 :: (rmF o (q + 2 + a.length + b.length + B.length + 1) C ++ [114]))))) := by
  have := rmF_ifr (o := o) (q := q) ht ha hb hB hC Sq.nil
  rwa [List.append_nil, rmF_nil, List.append_nil] at this
theorem rmF_wh {t : Int} {a b B : List Int} (ht : testC t) (ha : Ex lfR a) (hb : Ex lfR b) (hB : Sq B) : rmF o q (115 :: t :: (a ++ (b ++ (B ++ [114])))) = if o q ≠ 0 then [] else 115 :: t :: (a ++ (b ++ (rmF o (q + 2 + a.length + b.length) B ++ [114]))) := by
  have := rmF_whr (o := o) (q := q) ht ha hb hB Sq.nil
  rwa [List.append_nil, rmF_nil, List.append_nil] at this
theorem rmF_out {s : List Int} (hs : Sm Sq s) (h : o q ≠ 0) : rmF o q s = [] := by
  rcases hs with ⟨v, e, hv, he, rfl⟩ | rfl | ⟨t, a, b, B, C, ht, ha, hb, hB, hC, rfl⟩ | ⟨t, a, b, B, ht, ha, hb, hB, rfl⟩
  · rw [rmF_set hv he, if_pos h]
  · rw [rmF_fail, if_pos h]
  · rw [rmF_if ht ha hb hB hC, if_pos h]
  · rw [rmF_wh ht ha hb hB, if_pos h]
theorem rmF_cons {s r : List Int} (hs : Sm Sq s) (hr : Sq r) : rmF o q (s ++ r) = rmF o q s ++ rmF o (q + s.length) r := by
  rcases hs with ⟨v, e, hv, he, rfl⟩ | rfl | ⟨t, a, b, B, C, ht, ha, hb, hB, hC, rfl⟩ | ⟨t, a, b, B, ht, ha, hb, hB, rfl⟩
  · rw [rmF_set hv he, List.cons_append, rmF_setr hv he hr]
    exact congrArg (fun z => _ ++ rmF o z r) (by simp only [List.length_cons]; omega)
  · rw [rmF_fail]
    exact rmF_failr hr
  · rw [rmF_if ht ha hb hB hC, rmF_ifr ht ha hb hB hC hr, len_if]
    exact congrArg (fun z => _ ++ rmF o z r) (by omega)
  · rw [rmF_wh ht ha hb hB, rmF_whr ht ha hb hB hr, len_wh]
    exact congrArg (fun z => _ ++ rmF o z r) (by omega)
end RM
def CRx (row o : Int → Int) (q : Int) (l l' : List Int) : Prop := CR row o q l l' ∧ l' = rmF o q l
def CWx (row : Int → Int) (many : Int) (o : Int → Int) (l : List Int) : Prop := ∀ (q : Int), cs l ≤ 40 → At row q l → 0 ≤ q → q + l.length ≤ many → l.length ≤ 500 → ∃ l' : List Int, CRx row o q l l' ∧ ∀ (n : Nat) (f : Int → Int) (m : Int) (P : Int → (Int → Int) → Int → Prop) (K : (Int → Int) → Int → Prop), cs l ≤ n → 0 ≤ m → m + l.length ≤ 2400 → (∀ a b c, wp_copies_2 (wp_copies n) K row many o P a b c → P a b c) → (∀ f' m', Wr f m l' f' m' → P (q + l.length) f' m') → P q f m
theorem copiesx_of {row : Int → Int} {many : Int} (hm : many ≤ 2400) {o : Int → Int} {l : List Int} (hl : CWx row many o l) {q : Int} (h40 : cs l ≤ 40) (ha : At row q l) (h0 : 0 ≤ q) (h1 : q + l.length ≤ many) (h2 : l.length ≤ 500) (h3 : Lst row many (q + l.length)) : ∃ l' : List Int, CRx row o q l l' ∧ ∀ (n : Nat) (f : Int → Int) (m : Int) (K : (Int → Int) → Int → Prop), cs l + 1 ≤ n → 0 ≤ m → m + l.length ≤ 2400 → (∀ f' m', Wr f m l' f' m' → K f' m') → wp_copies n row f many m o q K := by
  obtain ⟨l', hr, hw⟩ := hl q h40 ha h0 h1 h2
  refine ⟨l', hr, fun n f m K hn m0 m1 hK => ?_⟩
  obtain ⟨n, rfl⟩ : ∃ k, n = k + 1 := ⟨n - 1, by omega⟩
  rw [wp_copies_s]
  intro P hP
  exact hw n f m P K (by omega) m0 m1 hP (fun f' m' h => hP _ _ _ (isLast_yes (by omega) hm h3 (u1 (hK f' m' h))))
theorem CWx_all {row : Int → Int} {many : Int} (hm : many ≤ 2400) {o : Int → Int} : ∀ {l : List Int}, Sq l → CWx row many o l := by
  intro l hl
  refine Sq.ind (P := CWx row many o) ?_ ?_ hl
  · intro q _ _ _ _ _
    exact ⟨[], ⟨⟨Sq.nil, Nat.le_refl _, Nat.le_refl _, Nat.le_refl _, fun ⟨p, h1, h2, _⟩ => by simp at h2; omega⟩, rmF_nil.symm⟩, fun n f m P K _ _ _ _ h => by simpa using h _ _ Wr.nil⟩
  · intro st r hs hr ih q h40 ha h0 h1 h2
    rw [cs_app] at h40
    rw [List.length_append] at h1 h2
    obtain ⟨a1, a2⟩ := At_app.mp ha
    have hp := hs.pos
    have hcs := hs.csp
    have hat := hs.at0 a1
    have hss : Sm Sq st := hs.mono (fun _ h => h.1)
    have hbe := @behind_ok row st hss q
    obtain ⟨r', hr', hw'⟩ := ih (q + st.length) (by omega) a2 (by omega) (by omega) (by omega)
    have one : ∃ s' : List Int, CRx row o q st s' ∧ ∀ (n : Nat) (f : Int → Int) (m : Int) (P : Int → (Int → Int) → Int → Prop) (K : (Int → Int) → Int → Prop), cs st ≤ n → 0 ≤ m → m + st.length ≤ 2400 → (∀ a b c, wp_copies_2 (wp_copies n) K row many o P a b c → P a b c) → (∀ f' m', Wr f m s' f' m' → P (q + st.length) f' m') → P q f m := by
      have tail : ∀ (P : Int → (Int → Int) → Int → Prop) (x : Int → Int) (y : Int), P (q + st.length) x y → wp_copies_116 row q P x y := fun P x y h => hbe (by omega) a1 h0 (by omega) (by omega) h
      by_cases hout : o q = 0
      · rcases hs with ⟨v, ex, hv, he, rfl⟩ | rfl | ⟨t, a, b, B, C, ht, hA, hB, hb, hc, rfl⟩ | ⟨t, a, b, B, ht, hA, hB, hb, rfl⟩
        · have e1 : row q = v := a1.1
          unfold setC at hv
          refine ⟨v :: ex, ⟨⟨Sq.one hss, Nat.le_refl _, Nat.le_refl _, Nat.le_refl _, fun ⟨p, p1, p2, p3, p4⟩ => ?_⟩, by rw [rmF_set (by unfold setC; exact hv) he, if_neg (fun z => z hout)]⟩, fun n f m P K hn m0 m1 hP h => hP _ _ _ (isLast_no h0 (by omega) hm hat (u0 ⟨⟨by omega, by omega⟩, fun _ => ⟨⟨by omega, by omega⟩, fun c => absurd c (by omega), fun _ => ⟨⟨by omega, by omega⟩, fun c => absurd c (by omega), fun _ => hbe (by omega) a1 h0 (by omega) (by omega) (writes_ok a1 rfl h0 (by omega) m0 m1 (fun f' m' hw => tail P _ _ (h f' m' hw)))⟩⟩, fun c => absurd hout c⟩))⟩
          by_cases hq : p = q
          · rw [hq] at p4; exact absurd hout p4
          · exact absurd p3 (he.noS a1.2 (by omega) (by simp only [List.length_cons] at p2; omega))
        · have e1 : row q = 111 := a1.1
          refine ⟨[111], ⟨⟨Sq.one hss, Nat.le_refl _, Nat.le_refl _, Nat.le_refl _, fun ⟨p, p1, p2, p3, p4⟩ => ?_⟩, by rw [rmF_fail, if_neg (fun z => z hout)]⟩, fun n f m P K hn m0 m1 hP h => hP _ _ _ (isLast_no h0 (by omega) hm hat (u0 ⟨⟨by omega, by omega⟩, fun _ => ⟨⟨by omega, by omega⟩, fun c => absurd c (by omega), fun _ => ⟨⟨by omega, by omega⟩, fun c => absurd c (by omega), fun _ => hbe (by omega) a1 h0 (by omega) (by omega) (writes_ok a1 rfl h0 (by omega) m0 m1 (fun f' m' hw => tail P _ _ (h f' m' hw)))⟩⟩, fun c => absurd hout c⟩))⟩
          have hq : p = q := by simp at p2; omega
          rw [hq] at p4; exact absurd hout p4
        · rw [cs_if ht hA hB] at h40
          have hl := len_if (t := t) (a := a) (b := b) (B := B) (C := C)
          obtain ⟨r1, r2, r3, r4, r5, r6, r7, r8⟩ := At_if.mp a1
          have lb : Lst row many (q + 2 + a.length + b.length + B.length) := Or.inr ⟨by omega, Or.inl r6⟩
          obtain ⟨B', cB', wB⟩ := copiesx_of hm hb.2 (q := q + 2 + a.length + b.length) (by omega) r5 (by omega) (by omega) (by omega) lb
          obtain ⟨C', cC', wC⟩ := copiesx_of hm hc.2 (q := q + 2 + a.length + b.length + B.length + 1) (by omega) r7 (by omega) (by omega) (by omega) (Or.inr ⟨by omega, Or.inr r8⟩)
          have hl' := len_if (t := t) (a := a) (b := b) (B := B') (C := C')
          have hs' : Sm Sq (112 :: t :: (a ++ (b ++ (B' ++ (113 :: (C' ++ [114])))))) := Or.inr (Or.inr (Or.inl ⟨t, a, b, B', C', ht, hA, hB, cB'.1.1, cC'.1.1, rfl⟩))
          obtain ⟨⟨b1, b2, b3, b4, b5⟩, b6⟩ := cB'
          obtain ⟨⟨c1, c2, c3, c4, c5⟩, c6⟩ := cC'
          refine ⟨_, ⟨⟨Sq.one hs', by rw [cs_if ht hA hB, cs_if ht hA hB]; omega, by rw [cp_if ht hA hB, cp_if ht hA hB]; omega, by omega, fun ⟨p, p1, p2, p3, p4⟩ => ?_⟩, by rw [rmF_if ht hA hB hb.1 hc.1, if_neg (fun z => z hout), b6, c6]⟩, fun n f m P K hn m0 m1 hP h => ?_⟩
          · have hS := isS_t.mp p3
            unfold testC at ht
            by_cases k0 : p = q
            · rw [k0] at p4; exact absurd hout p4
            by_cases k1 : p = q + 1
            · rw [k1, r2] at hS; omega
            by_cases k2 : p < q + 2 + a.length
            · exact absurd p3 (hA.noS r3 (by omega) k2)
            by_cases k3 : p < q + 2 + a.length + b.length
            · exact absurd p3 (hB.noS r4 (by omega) k3)
            by_cases k4 : p < q + 2 + a.length + b.length + B.length
            · have := b5 ⟨p, by omega, by omega, p3, p4⟩; omega
            by_cases k5 : p = q + 2 + a.length + b.length + B.length
            · rw [k5, r6] at hS; omega
            by_cases k6 : p < q + 2 + a.length + b.length + B.length + 1 + C.length
            · have := c5 ⟨p, by omega, by omega, p3, p4⟩; omega
            · rw [show p = q + 2 + a.length + b.length + B.length + 1 + C.length by omega, r8] at hS; omega
          · rw [cs_if ht hA hB] at hn
            refine hP _ _ _ (isLast_no h0 (by omega) hm hat (u0 ⟨⟨by omega, by omega⟩, fun _ => ⟨⟨by omega, by omega⟩, fun _ => ?_, fun c => absurd r1 c⟩, fun c => absurd hout c⟩))
            have hh : At row q (112 :: t :: (a ++ b)) := ⟨r1, r2, At_app.mpr ⟨by rw [show q + 1 + 1 = q + 2 by omega]; exact r3, by rw [show q + 1 + 1 + (a.length : Int) = q + 2 + a.length by omega]; exact r4⟩⟩
            have hhl : (112 :: t :: (a ++ b)).length = a.length + b.length + 2 := by simp only [List.length_cons, List.length_append]
            refine body_ok hA hB h0 r3 r4 (by omega) (by omega) (by omega) (writes_ok hh (by omega) h0 (by omega) m0 (by omega) (fun f1 m1' g1 => ?_))
            have e1 := g1.1
            refine body_ok hA hB h0 r3 r4 (by omega) (by omega) (by omega) (wB n f1 m1' _ (by omega) (by omega) (by omega) (fun f2 m2 g2 => ?_))
            have e2 := g2.1
            refine body_ok hA hB h0 r3 r4 (by omega) (by omega) (by omega) (close_ok hm hb.1 _ _ (by omega) r5 (by omega) (by omega) (by omega) lb ⟨⟨by omega, by omega⟩, fun c => absurd r6 c, fun _ => write_ok (by omega) (by omega) (fun f3 m3 g3 => ⟨⟨by omega, by omega⟩, ?_⟩)⟩)
            have e3 := g3.1
            simp only [List.length_cons, List.length_nil] at e3
            refine wC n f3 m3 _ (by omega) (by omega) (by omega) (fun f4 m4 g4 => write_ok (by have := g4.1; omega) (by have := g4.1; omega) (fun f5 m5 g5 => tail P _ _ (h f5 m5 ?_)))
            have := g1.app (g2.app (g3.app (g4.app g5)))
            simpa using this
        · rw [cs_wh ht hA hB] at h40
          have hl := len_wh (t := t) (a := a) (b := b) (B := B)
          obtain ⟨r1, r2, r3, r4, r5, r6⟩ := At_wh.mp a1
          have lb : Lst row many (q + 2 + a.length + b.length + B.length) := Or.inr ⟨by omega, Or.inr r6⟩
          obtain ⟨B', cB', wB⟩ := copiesx_of hm hb.2 (q := q + 2 + a.length + b.length) (by omega) r5 (by omega) (by omega) (by omega) lb
          have hl' := len_wh (t := t) (a := a) (b := b) (B := B')
          have hs' : Sm Sq (115 :: t :: (a ++ (b ++ (B' ++ [114])))) := Or.inr (Or.inr (Or.inr ⟨t, a, b, B', ht, hA, hB, cB'.1.1, rfl⟩))
          obtain ⟨⟨b1, b2, b3, b4, b5⟩, b6⟩ := cB'
          refine ⟨_, ⟨⟨Sq.one hs', by rw [cs_wh ht hA hB, cs_wh ht hA hB]; omega, by rw [cp_wh ht hA hB, cp_wh ht hA hB]; omega, by omega, fun ⟨p, p1, p2, p3, p4⟩ => ?_⟩, by rw [rmF_wh ht hA hB hb.1, if_neg (fun z => z hout), b6]⟩, fun n f m P K hn m0 m1 hP h => ?_⟩
          · have hS := isS_t.mp p3
            unfold testC at ht
            by_cases k0 : p = q
            · rw [k0] at p4; exact absurd hout p4
            by_cases k1 : p = q + 1
            · rw [k1, r2] at hS; omega
            by_cases k2 : p < q + 2 + a.length
            · exact absurd p3 (hA.noS r3 (by omega) k2)
            by_cases k3 : p < q + 2 + a.length + b.length
            · exact absurd p3 (hB.noS r4 (by omega) k3)
            by_cases k4 : p < q + 2 + a.length + b.length + B.length
            · have := b5 ⟨p, by omega, by omega, p3, p4⟩; omega
            · rw [show p = q + 2 + a.length + b.length + B.length by omega, r6] at hS; omega
          · rw [cs_wh ht hA hB] at hn
            refine hP _ _ _ (isLast_no h0 (by omega) hm hat (u0 ⟨⟨by omega, by omega⟩, fun _ => ⟨⟨by omega, by omega⟩, fun c => absurd c (by omega), fun _ => ⟨⟨by omega, by omega⟩, fun _ => ?_, fun c => absurd r1 c⟩⟩, fun c => absurd hout c⟩))
            have hh : At row q (115 :: t :: (a ++ b)) := ⟨r1, r2, At_app.mpr ⟨by rw [show q + 1 + 1 = q + 2 by omega]; exact r3, by rw [show q + 1 + 1 + (a.length : Int) = q + 2 + a.length by omega]; exact r4⟩⟩
            have hhl : (115 :: t :: (a ++ b)).length = a.length + b.length + 2 := by simp only [List.length_cons, List.length_append]
            refine body_ok hA hB h0 r3 r4 (by omega) (by omega) (by omega) (writes_ok hh (by omega) h0 (by omega) m0 (by omega) (fun f1 m1' g1 => ?_))
            have e1 := g1.1
            refine body_ok hA hB h0 r3 r4 (by omega) (by omega) (by omega) (wB n f1 m1' _ (by omega) (by omega) (by omega) (fun f2 m2 g2 => ?_))
            have e2 := g2.1
            refine body_ok hA hB h0 r3 r4 (by omega) (by omega) (by omega) (close_ok hm hb.1 _ _ (by omega) r5 (by omega) (by omega) (by omega) lb ⟨⟨by omega, by omega⟩, fun _ => write_ok (by omega) (by omega) (fun f3 m3 g3 => tail P _ _ (h f3 m3 ?_)), fun c => absurd c (by omega)⟩)
            have := g1.app (g2.app g3)
            simpa using this
      · exact ⟨[], ⟨⟨Sq.nil, Nat.zero_le _, Nat.zero_le _, Nat.zero_le _, fun _ => hp⟩, (rmF_out hss hout).symm⟩, fun n f m P K hn m0 m1 hP h => hP _ _ _ (isLast_no h0 (by omega) hm hat (u0 ⟨⟨by omega, by omega⟩, fun c => absurd c hout, fun _ => tail P _ _ (h _ _ Wr.nil)⟩))⟩
    obtain ⟨s', ⟨⟨s1, s2, s3, s4, s5⟩, s6⟩, hw1⟩ := one
    obtain ⟨⟨t1', t2, t3, t4, t5⟩, t6⟩ := hr'
    refine ⟨s' ++ r', ⟨⟨Sq.app s1 t1', by rw [cs_app, cs_app]; omega, by rw [cp_app, cp_app]; omega, by rw [List.length_append, List.length_append]; omega, fun ⟨p, p1, p2, p3, p4⟩ => ?_⟩, by rw [s6, t6]; exact (rmF_cons hss hr).symm⟩, fun n f m P K hn m0 m1 hP h => ?_⟩
    · rw [List.length_append] at p2
      rw [List.length_append, List.length_append]
      by_cases hpp : p < q + st.length
      · have := s5 ⟨p, p1, hpp, p3, p4⟩; omega
      · have := t5 ⟨p, by omega, by omega, p3, p4⟩; omega
    · rw [cs_app] at hn
      rw [List.length_append] at m1 h
      refine hw1 n f m P K (by omega) m0 (by omega) hP (fun f1 m1' g1 => ?_)
      have e1 := g1.1
      refine hw' n f1 m1' P K (by omega) (by omega) (by omega) hP (fun f2 m2 g2 => ?_)
      rw [show q + (st.length : Int) + r.length = q + ((st.length + r.length : Nat) : Int) by omega]
      exact h f2 m2 (g1.app g2)
theorem copiesx_ok {row : Int → Int} {many : Int} {l : List Int} (h : WF row many l) (o : Int → Int) : ∃ l' : List Int, CRx row o 0 l l' ∧ ∀ (f : Int → Int) (K : (Int → Int) → Int → Prop), (∀ f', At f' 0 l' → K f' l'.length) → wp_copies 100 row f many 0 o 0 K := by
  have hl := h.len
  obtain ⟨h1, h2, h3, h4, h5⟩ := h
  obtain ⟨l', a, b⟩ := copiesx_of (many := many) (by omega) (CWx_all (row := row) (o := o) (by omega) h1) (q := 0) h4 h2 (by omega) (by omega) (by omega) (Or.inl (by omega))
  exact ⟨l', a, fun f K hK => b 100 f 0 K (by omega) (by omega) (by omega) (fun f' m' hw => by rw [hw.1, show (0 : Int) + l'.length = l'.length by omega]; exact hK f' hw.2.1)⟩
/-- copies, and then turns -/
theorem copiedx {row : Int → Int} {many : Int} {l : List Int} (h : WF row many l) (o : Int → Int) : ∃ l' : List Int, CRx row o 0 l l' ∧ ∀ (f : Int → Int) (K : (Int → Int) → (Int → Int) → Int → Int → Prop), (∀ f' r', WF r' l'.length l' → K f' r' l'.length 0) → wp_copies 100 row f many 0 o 0 (fun f' m' => wp_turns row f' many m' (fun r' n' m'' => K f' r' n' m'')) := by
  have hl := h.len
  obtain ⟨l', a, b⟩ := copiesx_ok h o
  refine ⟨l', a, fun f K hK => b f _ (fun f' ha => turns_ok ha rfl ?_ (fun r' hr => hK f' r' ⟨a.1.1, hr, rfl, ?_, ?_⟩))⟩
  · have := a.1.2.2.2.1; omega
  · have := a.1.2.1; have := h.2.2.2.1; omega
  · have := a.1.2.2.1; have := h.2.2.2.2; omega
