-- ===== what at, size, run, judge and places answer, on both sides
theorem SL.get {σ : Sg} {slot slotLong : Int → Int} (h : SL σ slot slotLong) {s : Int} (s0 : 0 ≤ s) (s5 : s ≤ 5) : ∃ l : List Int, Sq l ∧ RowL σ s l ∧ At slot (520 * s) l ∧ slotLong s = l.length ∧ cs l ≤ 40 ∧ cp l ≤ 300 ∧ l.length ≤ 460 := by
  obtain ⟨l, h1, h2, h3, h4, h5, h6, h7⟩ := h s s0 s5
  have hl := h1.len
  refine ⟨l, h1, ⟨⟨s0, by omega⟩, h6, h7, ?_⟩, h2, h3, h4, h5, by omega⟩
  unfold capI
  rw [if_pos (show s < 8 by omega)]
  omega
theorem takes_get {slot slotLong row : Int → Int} {many s : Int} {l : List Int} {K : (Int → Int) → Int → Prop} (h0 : 0 ≤ s) (h5 : s ≤ 5) (hl : Sq l) (ha : At slot (520 * s) l) (hm : slotLong s = l.length) (hc : cs l ≤ 40) (hp : cp l ≤ 300) (hK : ∀ r : Int → Int, WF r l.length l → K r l.length) : wp_takes slot slotLong row many s K :=
  takes_ok h0 h5 ha hm (by have := hl.len; omega) (fun r hr => hK r ⟨hl, hr, rfl, hc, hp⟩)
/-- the cell at k, none outside -/
def getI (l : List Int) (k : Int) : Int := if 0 ≤ k ∧ k < l.length then l.getD k.toNat (-1) else -1
theorem getI_mid {a b : List Int} {c : Int} : getI (a ++ c :: b) a.length = c := by
  unfold getI
  rw [if_pos ⟨by omega, by simp only [List.length_append, List.length_cons]; omega⟩, Int.toNat_natCast, List.getD_eq_getElem?_getD, List.getElem?_append_right (Nat.le_refl _), Nat.sub_self] <;> rfl
theorem getI_out {l : List Int} {k : Int} (h : ¬ (0 ≤ k ∧ k < l.length)) : getI l k = -1 := if_neg h
theorem getI_at {f : Int → Int} {l : List Int} {p k : Int} (ha : At f p l) (h : 0 ≤ k ∧ k < l.length) : f (p + k) = getI l k := by
  obtain ⟨pre, c, post, e, hp⟩ := at_split (l := l) (k := k.toNat) (by omega)
  have ek : k = pre.length := by omega
  rw [e] at ha
  rw [ek, e, getI_mid]
  exact (At_app.mp ha).2.1
theorem cell_get {σ : Sg} {n p : Int} {l : List Int} {K : Int → Prop} (h : RowL σ n l) (k : K (getI l p)) : wp5_W_cell σ n p K := by
  by_cases q : 0 ≤ p ∧ p < l.length
  · obtain ⟨pre, c, post, e, hp⟩ := at_split (l := l) (k := p.toNat) (by omega)
    have ep : p = pre.length := by omega
    rw [ep, e, getI_mid] at k
    rw [e] at h
    exact cell_mid h ep k
  · rw [getI_out q] at k
    exact cell_out h (by omega) k
section E9
variable {σ : Sg} {slot slotLong : Int → Int} {x0 x1 x2 x3 : Int}
theorem at_both (hS : SL σ slot slotLong) : ∃ r : Int, (∀ K, K r → wp5_S_at σ x0 x1 K) ∧ ∀ K, K r → wp_at slot slotLong x0 x1 K := by
  by_cases h : 0 ≤ x0 ∧ x0 ≤ 5
  · obtain ⟨l, h1, h2, h3, h4, h5, h6, h7⟩ := hS.get h.1 h.2
    refine ⟨getI l x1, fun K k => slotAt_k (fun _ => ⟨fun z => absurd z (by omega), fun _ => ⟨⟨by omega, by omega⟩, cell_get h2 k⟩⟩) (fun z => absurd h z), fun K k => isSlot_c (fun _ _ => t1 ⟨⟨by omega, by omega⟩, ⟨by omega, by omega⟩, ?_⟩) (fun z => absurd h z)⟩
    rw [h4]
    refine isIn_c (fun q0 q1 => t1 ⟨⟨by omega, by omega⟩, ?_⟩) (fun q => t0 ?_)
    · rw [getI_at h3 ⟨q0, by omega⟩]; exact k
    · rw [getI_out (fun w => q ⟨w.1, by omega⟩)] at k; exact k
  · exact ⟨-1, fun K k => slotAt_k (fun z => absurd z h) (fun _ => ⟨fun _ => k, fun z => absurd z (by decide)⟩), fun K k => isSlot_c (fun a b => absurd ⟨a, b⟩ h) (fun _ => t0 k)⟩
/-- cells of the machine that RUNs, with its flow -/
def c8 (a : Nat) : Prop := 8 ≤ a ∧ a ≤ 24
theorem size_both (hS : SL σ slot slotLong) {row : Int → Int} {many : Int} : ∃ r : Int, (∀ K, (∀ σ', Fq c8 No No σ σ' → K r σ') → wp5_S_size σ x0 x1 K) ∧ ∀ K, (∀ a b, K r a b) → wp_size slot slotLong row many x0 x1 K := by
  by_cases h : 0 ≤ x0 ∧ x0 ≤ 5
  · obtain ⟨l, h1, h2, h3, h4, h5, h6, h7⟩ := hS.get h.1 h.2
    have cls : ∀ K : Int → Sg → Prop, (0 ≤ x0 ∧ x0 < 35) ∧ (x1 = 0 → wp5_W_statements σ x0 (fun r45 => K r45 σ)) ∧ (x1 = 1 → wp5_W_expressions σ x0 (fun r50 => K r50 σ)) ∧ (x1 = 2 → K (σ.2.2.1 0 x0) σ) ∧ (x1 = 3 → wp5_F_trace σ 12 x0 (fun σr67 => wp5_F_aheadOf σr67 12 0 (fun r78 => K r78 σr67))) ∧ (x1 < 0 ∨ 3 < x1 → K (-1) σ) → wp5_S_size σ x0 x1 K := fun K q => slotAt_k (fun _ => ⟨fun z => absurd z (by omega), fun _ => q⟩) (fun z => absurd h z)
    have hx : 0 ≤ x0 ∧ x0 < 35 := ⟨h.1, by omega⟩
    have ref : ∀ K : Int → (Int → Int) → Int → Prop, (0 ≤ x1 ∧ x1 ≤ 3) → (∀ row_r20, WF row_r20 l.length l → (x1 ≠ 0 → (x1 ≠ 1 → (x1 ≠ 2 → wp_liveFrom 100 row_r20 l.length 0 0 (fun r61 => K r61 row_r20 l.length)) ∧ (x1 = 2 → K l.length row_r20 l.length)) ∧ (x1 = 1 → wp_parts row_r20 l.length (fun r40 => K r40 row_r20 l.length))) ∧ (x1 = 0 → wp_statements row_r20 l.length (fun r28 => K r28 row_r20 l.length))) → wp_size slot slotLong row many x0 x1 K := fun K hx1 q => isSlot_c (fun _ _ => t1 (isIn_c (fun _ _ => u1 (takes_get h.1 h.2 h1 h3 h4 h5 h6 q)) (fun z => absurd hx1 z))) (fun z => absurd h z)
    by_cases q0 : x1 = 0
    · refine ⟨cs l, fun K k => cls K ⟨hx, fun _ => W_statements_k h2 (k σ Fq.refl), fun z => absurd z (by omega), fun z => absurd z (by omega), fun z => absurd z (by omega), fun z => absurd z (by omega)⟩, fun K k => ref K (by omega) (fun r w => ⟨fun z => absurd q0 z, fun _ => statements_ok w.2.1 rfl (by omega) (k _ _)⟩)⟩
    · by_cases q1 : x1 = 1
      · refine ⟨cp l, fun K k => cls K ⟨hx, fun z => absurd z (by omega), fun _ => W_expressions_k h2 (k σ Fq.refl), fun z => absurd z (by omega), fun z => absurd z (by omega), fun z => absurd z (by omega)⟩, fun K k => ref K (by omega) (fun r w => ⟨fun _ => ⟨fun z => absurd q1 z, fun _ => parts_ok w.2.1 rfl (by omega) (k _ _)⟩, fun z => absurd z q0⟩)⟩
      · by_cases q2 : x1 = 2
        · refine ⟨l.length, fun K k => cls K ⟨hx, fun z => absurd z (by omega), fun z => absurd z (by omega), fun _ => ?_, fun z => absurd z (by omega), fun z => absurd z (by omega)⟩, fun K k => ref K (by omega) (fun r w => ⟨fun _ => ⟨fun _ => ⟨fun z => absurd q2 z, fun _ => k _ _⟩, fun z => absurd z q1⟩, fun z => absurd z q0⟩)⟩
          rw [h2.2.2.1]; exact k σ Fq.refl
        · by_cases q3 : x1 = 3
          · obtain ⟨v, hv⟩ : ∃ v, BS v (LV l NoV) := by
              have : ∀ (S : Int → Prop), ∃ v, BS v S := fun S => by
                have e6 : ∀ n : Nat, n ≤ 6 → ∃ v, b63 v ∧ ∀ w, bv w → (bitR v w ↔ (w < n ∧ S w)) := by
                  intro n
                  induction n with
                  | zero => intro _; exact ⟨0, b63_0, fun w hw => ⟨fun q => absurd q (no0 hw), fun q => by have := hw.1; omega⟩⟩
                  | succ n ih =>
                    intro hn
                    obtain ⟨v, v1, v2⟩ := ih (by omega)
                    rcases Classical.em (S n) with z | z
                    · have hs := zior63 v1.1 v1.2 (zishl63 (v := n) (by omega) (by omega)).1 (zishl63 (v := n) (by omega) (by omega)).2
                      refine ⟨zior v (zishl 1 n), ⟨hs.1, hs.2.1⟩, fun w hw => (bitR_or v1.1 v1.2 (by omega) (by omega) hw.1 hw.2).trans ⟨fun q => ?_, fun q => ?_⟩⟩
                      · rcases q with q | q
                        · exact ⟨by omega, by rw [q]; exact z⟩
                        · have := (v2 w hw).mp q
                          exact ⟨by omega, this.2⟩
                      · by_cases e : w = n
                        · exact Or.inl e
                        · exact Or.inr ((v2 w hw).mpr ⟨by omega, q.2⟩)
                    · refine ⟨v, v1, fun w hw => (v2 w hw).trans ⟨fun q => ⟨by omega, q.2⟩, fun q => ⟨?_, q.2⟩⟩⟩
                      have : w ≠ n := fun e => z (by rw [← e]; exact q.2)
                      omega
                obtain ⟨v, v1, v2⟩ := e6 6 (Nat.le_refl _)
                exact ⟨v, v1, fun w hw => (v2 w hw).trans ⟨fun q => q.2, fun q => ⟨by have := hw.2; omega, q⟩⟩⟩
              exact this _
            refine ⟨v, fun K k => cls K ⟨hx, fun z => absurd z (by omega), fun z => absurd z (by omega), fun z => absurd z (by omega), fun _ => trace_k h2 h1 h5 (by omega) (fun σ1 t f => aheadOf_k t.2.1 (by omega) ?_), fun z => absurd z (by omega)⟩, fun K k => ref K (by omega) (fun r w => ⟨fun _ => ⟨fun _ => ⟨fun _ => liveFrom_x (by omega) h1 h5 w.2.1 (Int.le_refl _) (by omega) (by omega) (Or.inl (by omega)) BS.z (fun u hu => ?_), fun z => absurd z q2⟩, fun z => absurd z q1⟩, fun z => absurd z q0⟩)⟩
            · obtain ⟨_, _, _, _, _, _, _, _, _, _, hb, hA⟩ := t
              have e : ahv (σ1.2.1 (12 + 9)) (cs l) 0 = v := bits_ext (ahv_b hb 0) hv.1 (fun w hw => ((hA 0 w hw).trans (Cof0 h1)).trans (hv.2 w hw).symm)
              rw [e]
              exact k σ1 (f.mono (fun a h => by unfold fl at h; unfold c8; omega) (fun _ h => h) (fun _ h => h))
            · have e : u = v := bits_ext hu.1 hv.1 (fun w hw => (hu.2 w hw).trans (hv.2 w hw).symm)
              rw [e]
              exact k _ _
          · have no : ¬ (0 ≤ x1 ∧ x1 ≤ 3) := by omega
            exact ⟨-1, fun K k => cls K ⟨hx, fun z => absurd z q0, fun z => absurd z q1, fun z => absurd z q2, fun z => absurd z q3, fun _ => k σ Fq.refl⟩, fun K k => isSlot_c (fun _ _ => t1 (isIn_c (fun a b => absurd ⟨a, b⟩ no) (fun _ => u0 (k _ _)))) (fun z => absurd h z)⟩
  · exact ⟨-1, fun K k => slotAt_k (fun z => absurd z h) (fun _ => ⟨fun _ => k σ Fq.refl, fun z => absurd z (by decide)⟩), fun K k => isSlot_c (fun a b => absurd ⟨a, b⟩ h) (fun _ => t0 (k _ _))⟩
/-- what RUN answers -/
def tellF (f : RFn) (w : Int) : Int := if w = 0 then f.1 else if w = 1 then f.2.2.2 else if w = 2 then f.2.2.1.length else if 10 ≤ w ∧ w ≤ 15 then f.2.1 (w - 10) else getI f.2.2.1 (w - 100)
theorem tell_k {f : RFn} {w : Int} {K : Int → Prop} {qi : Nat} (hf : Rs qi σ f) (hw : rng w) (k : K (tellF f w)) : wp5_M_tell σ qi w K := by
  have hf0 := hf
  obtain ⟨a1, a2, a3, a4, a5, a6, a7⟩ := hf
  unfold tellF at k
  have t51 : w ≠ 0 → w ≠ 1 → w ≠ 2 → ¬ (10 ≤ w ∧ w ≤ 15) → wp5_M_tell_51 K σ qi w := by
    intro n0 n1 n2 n3
    rw [if_neg n0, if_neg n1, if_neg n2, if_neg n3] at k
    refine ⟨fun z => ?_, fun z => ⟨⟨by have := hw.1; omega, by have := hw.2; omega⟩, ?_⟩⟩
    · rw [getI_out (by omega)] at k; exact k
    · by_cases q : w - 100 < f.2.2.1.length
      · refine output_k hf0 ⟨by omega, q⟩ ?_
        have := getI_at a2 ⟨show 0 ≤ w - 100 by omega, q⟩
        rw [Int.zero_add] at this
        rw [this]; exact k
      · rw [getI_out (fun z => q z.2)] at k
        exact ⟨fun _ => k, fun _ => ⟨fun _ => k, fun z => absurd z (by omega)⟩⟩
  refine ⟨fun n0 => ⟨fun n1 => ⟨fun n2 => ⟨fun z => t51 n0 n1 n2 (by omega), fun z => ⟨fun z2 => t51 n0 n1 n2 (by omega), fun z2 => ⟨⟨by omega, by omega⟩, ?_⟩⟩⟩, fun z => ?_⟩, fun z => ?_⟩, fun z => ?_⟩
  · rw [if_neg n0, if_neg n1, if_neg n2, if_pos ⟨z, by omega⟩] at k
    rw [a1 (w - 10) (by omega) (by omega)]; exact k
  · rw [if_neg n0, if_neg n1, if_pos z] at k
    rw [a3]; exact k
  · rw [if_neg n0, if_pos z] at k
    rw [a4]; exact k
  · rw [if_pos z] at k
    rw [a5]; exact k
theorem run_both (hS : SL σ slot slotLong) (hx : rng x3) {row h o : Int → Int} {many s e m c : Int} : ∃ r : Int, (∀ K, (∀ σ', Fq c8 No No σ σ' → K r σ') → wp5_S_run σ x0 x1 x2 x3 K) ∧ ∀ K, (∀ a b c d e f g i, K r a b c d e f g i) → wp_run slot slotLong row many h o s e m c x0 x1 x2 x3 K := by
  by_cases hv : (0 ≤ x0 ∧ x0 ≤ 5) ∧ (0 ≤ x1 ∧ x1 ≤ 15) ∧ (0 ≤ x2 ∧ x2 ≤ 15)
  · obtain ⟨v0, v1, v2⟩ := hv
    obtain ⟨l, h1, h2, h3, h4, h5, h6, h7⟩ := hS.get v0.1 v0.2
    refine ⟨tellF (rnF l x1 x2) x3, fun K k => slotAt_k (fun _ => ⟨fun z => absurd z (by omega), fun _ => ⟨⟨by omega, by omega⟩, isWord_k (fun _ => t1 (isWord_k (fun _ => u1 ?_) (fun z => absurd v2 z))) (fun z => absurd v1 z)⟩⟩) (fun z => absurd v0 z), fun K k => isSlot_c (fun _ _ => t1 (isIn_c (fun _ _ => t1 (isIn_c (fun _ _ => u1 (takes_get v0.1 v0.2 h1 h3 h4 h5 h6 (fun r w => runs_x w (fun h' o' s' e' m' c' k1 k2 => ?_)))) (fun z => absurd v2 z))) (fun z => absurd v1 z))) (fun z => absurd v0 z)⟩
    · refine trace_k h2 h1 h5 (by omega) (fun σ1 t f => go_k t (h2.fl f) h1 h5 h6 (fun σ2 mf rs => tell_k rs hx (k σ2 ?_)))
      have f2 : Fq c8 No No σ1 σ2 := ⟨fun a z => ⟨funext (fun b => mf.1 a b (Or.inl (fun e => z (by unfold c8; omega)))), mf.2.1 a (by unfold c8 at z; omega)⟩, fun _ _ => by rw [mf.2.2]; exact ⟨rfl, rfl⟩, fun _ _ => by rw [mf.2.2], fun _ _ _ => by rw [mf.2.2]⟩
      exact (f.mono (fun a h => by unfold fl at h; unfold c8; omega) (fun _ h => h) (fun _ h => h)).trans f2
    · obtain ⟨b1, b2, b3, b4, b5, b6⟩ := k1
      have hk : ∀ v, v = tellF (rnF l x1 x2) x3 → K v r l.length h' o' s' e' m' c' := fun v ev => by rw [ev]; exact k _ _ _ _ _ _ _ _
      refine isIn_c (fun q0 q1 => t1 ⟨⟨by omega, by omega⟩, hk _ ?_⟩) (fun q => t0 ⟨⟨by omega, by omega⟩, isIn_c (fun p0 p1 => t1 ⟨⟨by omega, by omega⟩, hk _ ?_⟩) (fun p => t0 ⟨fun n0 => ⟨fun n1 => ⟨fun n2 => hk _ ?_, fun z => hk _ ?_⟩, fun z => hk _ ?_⟩, fun z => hk _ ?_⟩)⟩)
      · unfold tellF
        rw [if_neg (by omega), if_neg (by omega), if_neg (by omega), if_pos ⟨q0, q1⟩]
        exact b1 (x3 - 10) (by omega) (by omega)
      · unfold tellF
        rw [if_neg (by omega), if_neg (by omega), if_neg (by omega), if_neg q]
        have := getI_at b2 ⟨show 0 ≤ x3 - 100 by omega, show x3 - 100 < ((rnF l x1 x2).2.2.1.length : Int) by omega⟩
        rw [Int.zero_add] at this
        exact this
      · unfold tellF
        rw [if_neg n0, if_neg n1, if_neg n2, if_neg q, getI_out (by omega)]
      · unfold tellF
        rw [if_neg n0, if_neg n1, if_pos z]; exact b3
      · unfold tellF
        rw [if_neg n0, if_pos z]; exact b4
      · unfold tellF
        rw [if_pos z]; exact k2
  · refine ⟨-1, fun K k => slotAt_k (fun v0 => ⟨fun z => absurd z (by omega), fun _ => ⟨⟨by omega, by omega⟩, isWord_k (fun v1 => t1 (isWord_k (fun v2 => absurd ⟨v0, v1, v2⟩ hv) (fun _ => u0 (k σ Fq.refl)))) (fun _ => t0 (k σ Fq.refl))⟩⟩) (fun _ => ⟨fun _ => k σ Fq.refl, fun z => absurd z (by decide)⟩), fun K k => isSlot_c (fun a0 b0 => t1 (isIn_c (fun a1 b1 => t1 (isIn_c (fun a2 b2 => absurd ⟨⟨a0, b0⟩, ⟨a1, b1⟩, ⟨a2, b2⟩⟩ hv) (fun _ => u0 (k _ _ _ _ _ _ _ _)))) (fun _ => t0 (k _ _ _ _ _ _ _ _)))) (fun _ => t0 (k _ _ _ _ _ _ _ _))⟩
theorem judge_both (hS : SL σ slot slotLong) {row h o kE kM kO : Int → Int} {many s e m c fp fpl pt aT : Int} : ∃ r : Int, (∀ K, (∀ σ', Fq cj No No σ σ' → K r σ') → wp5_S_judge σ x0 x1 x2 K) ∧ ∀ K, (∀ a b c d e f g i j k l m n o p, K r a b c d e f g i j k l m n o p) → wp_judge slot slotLong row many h o s e m c kE kM kO fp fpl pt aT x0 x1 x2 K := by
  by_cases hv : (0 ≤ x0 ∧ x0 ≤ 5) ∧ (0 ≤ x1 ∧ x1 ≤ 5) ∧ (0 ≤ x2 ∧ x2 ≤ 3)
  · obtain ⟨v0, v1, v2⟩ := hv
    obtain ⟨l1, h1, h2, h3, h4, h5, h6, h7⟩ := hS.get v0.1 v0.2
    obtain ⟨l2, g1, g2, g3, g4, g5, g6, g7⟩ := hS.get v1.1 v1.2
    have m2 := fst_cnt (g := gP l1 l2) 256
    refine ⟨if x2 = 0 then (if fstP (gP l1 l2) 256 ≠ -1 then 1 else if anyP (tP l1 l2) 256 = true then 2 else 0) else if x2 = 1 then fstP (gP l1 l2) 256 else if x2 = 2 then fplP (gP l1 l2) (pP l1 l2) 256 else cntP (gP l1 l2) 256, fun K k => slotAt_k (fun _ => ⟨fun z => absurd z (by omega), fun _ => ⟨⟨by omega, by omega⟩, slotAt_k (fun _ => ⟨fun z => absurd z (by omega), fun _ => ⟨⟨by omega, by omega⟩, fun z => absurd z (by omega), fun _ => ⟨fun _ => compare_k h2 g2 h1 g1 h5 g5 h6 g6 (fun r σ' f o1 o2 o3 => ?_), fun z => absurd z (by omega)⟩⟩⟩) (fun z => absurd v1 z)⟩⟩) (fun z => absurd v0 z), fun K k => isSlot_c (fun _ _ => t1 (isSlot_c (fun _ _ => t1 (isIn_c (fun _ _ => u1 (takes_get v0.1 v0.2 h1 h3 h4 h5 h6 (fun r w => keeps_x w (fun h' o' s' e' m' c' x' y' z' k4 => takes_get v1.1 v1.2 g1 g3 g4 g5 g6 (fun r2 w2 => compares_x w2 k4 (fun h2 o2 s2 e2 m2 c2 a b d t e1 e2' e3 e4 => ?_)))))) (fun z => absurd v2 z))) (fun z => absurd v1 z))) (fun z => absurd v0 z)⟩
    · obtain ⟨d0, d1, d2, d3⟩ := o3 rfl
      have kk : ∀ v, v = (if x2 = 0 then (if fstP (gP l1 l2) 256 ≠ -1 then 1 else if anyP (tP l1 l2) 256 = true then 2 else 0) else if x2 = 1 then fstP (gP l1 l2) 256 else if x2 = 2 then fplP (gP l1 l2) (pP l1 l2) 256 else (cntP (gP l1 l2) 256 : Int)) → K v σ' := fun v ev => by rw [ev]; exact k σ' f
      refine ⟨fun z => ⟨fun z1 => ⟨fun z2 => kk _ ?_, fun z2 => kk _ ?_⟩, fun z1 => kk _ ?_⟩, fun z => kk _ ?_, fun z => kk _ ?_, fun z => kk _ ?_⟩
      · have : fstP (gP l1 l2) 256 = -1 := m2.mpr (by omega)
        rw [if_pos z, if_neg (fun q => q this)]
        by_cases w : anyP (tP l1 l2) 256 = true
        · rw [if_pos w] at d3; rw [d3] at z2; exact absurd z2 (by decide)
        · rw [if_neg w]
      · have : fstP (gP l1 l2) 256 = -1 := m2.mpr (by omega)
        rw [if_pos z, if_neg (fun q => q this)]
        by_cases w : anyP (tP l1 l2) 256 = true
        · rw [if_pos w]
        · rw [if_neg w] at d3; exact absurd d3 z2
      · have : fstP (gP l1 l2) 256 ≠ -1 := fun q => by have := m2.mp q; omega
        rw [if_pos z, if_pos this]
      · rw [if_neg (by omega), if_pos z]; exact d0
      · rw [if_neg (by omega), if_neg (by omega), if_pos z]; exact d1
      · rw [if_neg (by omega), if_neg (by omega), if_neg (by omega), d2]; omega
    · have kk : ∀ v, v = (if x2 = 0 then (if fstP (gP l1 l2) 256 ≠ -1 then 1 else if anyP (tP l1 l2) 256 = true then 2 else 0) else if x2 = 1 then fstP (gP l1 l2) 256 else if x2 = 2 then fplP (gP l1 l2) (pP l1 l2) 256 else (cntP (gP l1 l2) 256 : Int)) → K v r2 l2.length h2 o2 s2 e2 m2 c2 x' y' z' a b d t := fun v ev => by rw [ev]; exact k _ _ _ _ _ _ _ _ _ _ _ _ _ _ _
      refine ⟨fun z => ⟨fun z1 => ⟨fun z2 => kk _ ?_, fun z2 => kk _ ?_⟩, fun z1 => kk _ ?_⟩, fun z => kk _ ?_, fun z => kk _ ?_, fun z => kk _ ?_⟩
      · rw [if_pos z, if_neg (fun q => q (e1.symm.trans z1))]
        by_cases w : anyP (tP l1 l2) 256 = true
        · rw [if_pos w] at e4; rw [e4] at z2; exact absurd z2 (by decide)
        · rw [if_neg w]
      · rw [if_pos z, if_neg (fun q => q (e1.symm.trans z1))]
        by_cases w : anyP (tP l1 l2) 256 = true
        · rw [if_pos w]
        · rw [if_neg w] at e4; exact absurd e4 z2
      · rw [if_pos z, if_pos (fun q => z1 (e1.trans q))]
      · rw [if_neg (by omega), if_pos z]; exact e1
      · rw [if_neg (by omega), if_neg (by omega), if_pos z]; exact e2'
      · rw [if_neg (by omega), if_neg (by omega), if_neg (by omega)]; exact e3
  · refine ⟨-1, fun K k => slotAt_k (fun v0 => ⟨fun z => absurd z (by omega), fun _ => ⟨⟨by omega, by omega⟩, slotAt_k (fun v1 => ⟨fun z => absurd z (by omega), fun _ => ⟨⟨by omega, by omega⟩, fun _ => k σ Fq.refl, fun z => ⟨fun z2 => absurd ⟨v0, v1, z, z2⟩ hv, fun _ => k σ Fq.refl⟩⟩⟩) (fun _ => ⟨fun _ => k σ Fq.refl, fun z => absurd z (by decide)⟩)⟩⟩) (fun _ => ⟨fun _ => slotAt_k (fun v1 => ⟨fun _ => k σ Fq.refl, fun _ => ⟨⟨by omega, by omega⟩, k σ Fq.refl⟩⟩) (fun _ => ⟨fun _ => k σ Fq.refl, fun z => absurd z (by decide)⟩), fun z => absurd z (by decide)⟩), fun K k => isSlot_c (fun a0 b0 => t1 (isSlot_c (fun a1 b1 => t1 (isIn_c (fun a2 b2 => absurd ⟨⟨a0, b0⟩, ⟨a1, b1⟩, ⟨a2, b2⟩⟩ hv) (fun _ => u0 (k _ _ _ _ _ _ _ _ _ _ _ _ _ _ _)))) (fun _ => t0 (k _ _ _ _ _ _ _ _ _ _ _ _ _ _ _)))) (fun _ => t0 (k _ _ _ _ _ _ _ _ _ _ _ _ _ _ _))⟩
end E9
