-- ===== what is live, in the reference
theorem bits_ext {a b : Int} (ha : b63 a) (hb : b63 b) (h : ∀ w, bv w → (bitR a w ↔ bitR b w)) : a = b := by
  by_cases q : a = b
  · exact q
  · have h1 := pc_lt ha hb (fun w hw => (h w hw).mp) q
    have h2 := pc_lt hb ha (fun w hw => (h w hw).mpr) (fun z => q z.symm)
    omega
/-- v's bits are S -/
def BS (v : Int) (S : Int → Prop) : Prop := b63 v ∧ ∀ w, bv w → (bitR v w ↔ S w)
theorem BS.or {a b : Int} {S T : Int → Prop} (h : BS a S) (g : BS b T) : BS (zior a b) (fun w => S w ∨ T w) := by
  have o := or63 h.1 g.1
  exact ⟨o.1, fun w hw => (o.2 w hw).trans (or_congr (h.2 w hw) (g.2 w hw))⟩
theorem BS.congr {a : Int} {S T : Int → Prop} (h : BS a S) (g : ∀ w, bv w → (S w ↔ T w)) : BS a T := ⟨h.1, fun w hw => (h.2 w hw).trans (g w hw)⟩
theorem BS.z : BS 0 NoV := ⟨b63_0, fun w hw => ⟨fun q => absurd q (no0 hw), fun q => q.elim⟩⟩
theorem reads_v {row : Int → Int} {p q : Int} {e : List Int} {K : Int → Prop} (ha : At row p e) (hq : q = p + e.length) (h0 : 0 ≤ p) (h1 : q ≤ 2400) (k : ∀ v, BS v (fun w => (20 + w) ∈ e) → K v) : wp_reads row p q K :=
  reads_x ha hq h0 h1 (fun r hr => k r ⟨⟨hr.1, hr.2.1⟩, fun w hw => hr.2.2 w hw.1 hw.2⟩)
theorem LV_app {s r : List Int} (hs : Sm Sq s) (hr : Sq r) (O : Int → Prop) : LV (s ++ r) O = LV s (LV r O) := by
  rcases hs with ⟨v, e, hv, he, rfl⟩ | rfl | ⟨t, a, b, B, C, ht, hA, hB, hb, hc, rfl⟩ | ⟨t, a, b, B, ht, hA, hB, hb, rfl⟩
  · have := LV_set (out := LV r O) hv he Sq.nil
    rw [List.append_nil, LV_nil] at this
    rw [LV_set hv he hr, this]
  · have := LV_fail (out := LV r O) Sq.nil
    rw [List.append_nil] at this
    rw [LV_fail hr, this]
  · have := LV_if (out := LV r O) ht hA hB hb hc Sq.nil
    rw [List.append_nil, LV_nil] at this
    rw [LV_if ht hA hB hb hc hr, this]
  · have := LV_wh (out := LV r O) ht hA hB hb Sq.nil
    rw [List.append_nil, LV_nil] at this
    rw [LV_wh ht hA hB hb hr, this]
def LFx (row : Int → Int) (many : Int) (l : List Int) : Prop := ∀ (n : Nat) (q out : Int) (O : Int → Prop), 2 * cs l + 1 ≤ n → cs l ≤ 100 → At row q l → 0 ≤ q → q + l.length ≤ many → l.length ≤ 500 → Lst row many (q + l.length) → BS out O → ∀ K : Int → Prop, (∀ v, BS v (LV l O) → K v) → wp_liveFrom n row many q out K
theorem liveAtx_one {row : Int → Int} {many : Int} (hm : many ≤ 2400) {s : List Int} (hs : Sm (fun B => Sq B ∧ LFx row many B) s) {n : Nat} {q out : Int} {O : Int → Prop} (hn : 2 * cs s ≤ n) (h100 : cs s ≤ 100) (ha : At row q s) (h0 : 0 ≤ q) (h1 : q + s.length ≤ many) (h2 : s.length ≤ 500) (ho : BS out O) {K : Int → Prop} (k : ∀ v, BS v (LV s O) → K v) : wp_liveAt n row many q out K := by
  obtain ⟨n, rfl⟩ : ∃ m, n = m + 1 := ⟨n - 1, by have := hs.csp; omega⟩
  have hb := @behind_ok row s (hs.mono (fun _ h => h.1)) q
  have hp := hs.pos
  rw [wp_liveAt_s]
  rcases hs with ⟨v, e, hv, he, rfl⟩ | rfl | ⟨t, a, b, B, C, ht, hA, hB, hb', hc, rfl⟩ | ⟨t, a, b, B, ht, hA, hB, hb', rfl⟩
  · have e1 : row q = v := ha.1
    have hv' := hv
    unfold setC at hv'
    have lv := LV_set (out := O) hv he Sq.nil
    rw [List.append_nil, LV_nil] at lv
    rw [lv] at k
    have mem : ∀ w, bv w → ((20 + w) ∈ v :: e ↔ (20 + w) ∈ e) := fun w hw => by
      constructor
      · intro q
        rcases List.mem_cons.mp q with z | z
        · obtain ⟨w0, w1⟩ := hw; omega
        · exact z
      · exact List.mem_cons_of_mem _
    unfold wp_liveAt_b
    rw [e1]
    refine ⟨⟨by omega, by omega⟩, fun _ => ⟨fun z110 => ⟨fun c => absurd c (by omega), fun _ => hb h100 ha h0 (by omega) h2 (reads_v ha rfl h0 (by omega) (fun r hr => k _ ?_))⟩, fun z110 => hb h100 ha h0 (by omega) h2 (reads_v ha rfl h0 (by omega) (fun r hr => k _ ?_))⟩, fun c => absurd c (by omega)⟩
    · have hvv : 100 ≤ v ∧ v ≤ 105 := by omega
      have hz : BS (zishl 1 (v - 100)) (fun w => v = 100 + w) := by
        refine ⟨zishl63 (v := v - 100) (by omega) (by omega), fun w hw => ?_⟩
        have := bit_st (v := v) hw
        rw [show stC v = zishl 1 (v - 100) from if_pos hvv] at this
        exact this
      have an := an63 ho.1 hz.1
      have ba : BS (ziand out (zixor (zishl 1 (v - 100)) (-1))) (fun w => O w ∧ v ≠ 100 + w) := ⟨an.1, fun w hw => by rw [an.2 w hw, ho.2 w hw, hz.2 w hw]⟩
      refine (ba.or hr).congr (fun w hw => ?_)
      show (O w ∧ v ≠ 100 + w) ∨ (20 + w) ∈ v :: e ↔ (20 + w) ∈ e ∨ (O w ∧ v ≠ 100 + w)
      rw [mem w hw]
      exact or_comm
    · refine (ho.or hr).congr (fun w hw => ?_)
      show O w ∨ (20 + w) ∈ v :: e ↔ (20 + w) ∈ e ∨ (O w ∧ v ≠ 100 + w)
      rw [mem w hw]
      obtain ⟨w0, w1⟩ := hw
      exact ⟨fun q => q.elim (fun z => Or.inr ⟨z, by omega⟩) Or.inl, fun q => q.elim Or.inr (fun z => Or.inl z.1)⟩
  · have e1 : row q = 111 := ha.1
    have lv := LV_fail (out := O) Sq.nil
    rw [List.append_nil] at lv
    rw [lv] at k
    exact ⟨⟨by omega, by omega⟩, fun c => absurd e1 c, fun _ => k 0 BS.z⟩
  · rw [cs_if ht hA hB] at hn h100
    rw [len_if] at h1 h2
    have lv := LV_if (out := O) ht hA hB hb'.1 hc.1 Sq.nil
    rw [List.append_nil, LV_nil] at lv
    rw [lv] at k
    obtain ⟨r1, r2, r3, r4, r5, r6, r7, r8⟩ := At_if.mp ha
    have hab : At row (q + 2) (a ++ b) := At_app.mpr ⟨r3, r4⟩
    refine ⟨⟨by omega, by omega⟩, fun _ => ⟨fun _ => ⟨fun _ => ?_, fun c => absurd c (by omega)⟩, fun c => absurd c (by omega)⟩, fun c => absurd c (by omega)⟩
    refine body_ok hA hB h0 r3 r4 (by omega) (by omega) (by omega) ⟨⟨by omega, by omega⟩, reads_v hab (by rw [List.length_append]; omega) (by omega) (by omega) (fun rd hrd => ⟨fun c => absurd r1 c, fun _ => ?_⟩)⟩
    refine close_ok hm hb'.1 _ _ (by omega) r5 (by omega) (by omega) (by omega) (Or.inr ⟨by omega, Or.inl r6⟩) ?_
    refine hb'.2 n _ out O (by omega) (by omega) r5 (by omega) (by omega) (by omega) (Or.inr ⟨by omega, Or.inl r6⟩) ho _ (fun x hx => ⟨⟨by omega, by omega⟩, fun c => absurd r6 c, fun _ => ⟨⟨by omega, by omega⟩, ?_⟩⟩)
    refine hc.2 n _ out O (by omega) (by omega) r7 (by omega) (by omega) (by omega) (Or.inr ⟨by omega, Or.inr r8⟩) ho _ (fun y hy => k _ ?_)
    exact ((hrd.or hx).or hy).congr (fun w _ => or_assoc)
  · rw [cs_wh ht hA hB] at hn h100
    rw [len_wh] at h1 h2
    have lv := LV_wh (out := O) ht hA hB hb'.1 Sq.nil
    rw [List.append_nil, LV_nil] at lv
    rw [lv] at k
    obtain ⟨r1, r2, r3, r4, r5, r6⟩ := At_wh.mp ha
    have hab : At row (q + 2) (a ++ b) := At_app.mpr ⟨r3, r4⟩
    have key : ∀ (m : Nat) (set : Int) (S : Int → Prop), (63 - set).toNat = m → BS set S → (∀ w, bv w → (20 + w) ∈ a ++ b ∨ O w → S w) → (∀ w, bv w → S w → (20 + w) ∈ a ++ b ∨ LV B NoV w ∨ O w) → wl1 (wp_liveAt_137 (wp_liveFrom n) K row many (q + 2 + a.length + b.length)) set := by
      intro m
      induction m using Nat.strongRecOn with
      | ind m ih =>
        intro set S hk hS hlo hhi P hP
        refine hP _ (hb'.2 n _ set S (by omega) (by omega) r5 (by omega) (by omega) (by omega) (Or.inr ⟨by omega, Or.inr r6⟩) hS _ (fun x hx => ?_))
        have ho2 := zior63 hS.1.1 hS.1.2 hx.1.1 hx.1.2
        have ob := hS.or hx
        refine ⟨fun z => k set (hS.congr (fun w hw => ⟨hhi w hw, fun q => ?_⟩)), fun z => ?_⟩
        · rcases q with q | q | q
          · exact hlo w hw (Or.inl q)
          · have := (ob.2 w hw).mpr (Or.inr (LV_mono hb'.1 (fun q => q.elim) q))
            rw [z] at this
            exact (hS.2 w hw).mp this
          · exact hlo w hw (Or.inr q)
        · refine hb'.2 n _ set S (by omega) (by omega) r5 (by omega) (by omega) (by omega) (Or.inr ⟨by omega, Or.inr r6⟩) hS _ (fun x' hx' => ?_)
          have ex : x' = x := bits_ext hx'.1 hx.1 (fun w hw => (hx'.2 w hw).trans (hx.2 w hw).symm)
          subst ex
          refine ih (63 - zior set x').toNat (by omega) (zior set x') _ rfl ob (fun w hw q => Or.inl (hlo w hw q)) (fun w hw q => ?_) P hP
          rcases q with q | q
          · exact hhi w hw q
          · rcases (LV_T hb'.1 S w).mp q with z | z
            · exact Or.inr (Or.inl z)
            · exact hhi w hw z.1
    refine ⟨⟨by omega, by omega⟩, fun _ => ⟨fun _ => ⟨fun _ => ?_, fun c => absurd c (by omega)⟩, fun c => absurd c (by omega)⟩, fun c => absurd c (by omega)⟩
    refine body_ok hA hB h0 r3 r4 (by omega) (by omega) (by omega) ⟨⟨by omega, by omega⟩, reads_v hab (by rw [List.length_append]; omega) (by omega) (by omega) (fun rd hrd => ⟨fun _ => ?_, fun c => absurd c (by omega)⟩)⟩
    exact key _ _ _ rfl (hrd.or ho) (fun w _ q => q) (fun w _ q => q.elim Or.inl (fun z => Or.inr (Or.inr z)))
theorem LFx_all {row : Int → Int} {many : Int} (hm : many ≤ 2400) : ∀ {l : List Int}, Sq l → LFx row many l := by
  intro l hl
  refine Sq.ind (P := LFx row many) ?_ ?_ hl
  · intro n q out O hn _ _ h0 h1 _ h3 ho K k
    obtain ⟨n, rfl⟩ : ∃ m, n = m + 1 := ⟨n - 1, by omega⟩
    rw [show q + (([] : List Int).length : Int) = q by simp] at h3
    rw [wp_liveFrom_s]
    exact isLast_yes h0 hm h3 (t1 (k out (by rw [LV_nil]; exact ho)))
  · intro s r hs hr ih n q out O hn h100 ha h0 h1 h2 h3 ho K k
    rw [cs_app] at hn h100
    rw [List.length_append] at h1 h2 h3
    obtain ⟨a1, a2⟩ := At_app.mp ha
    have hp := hs.pos
    have hcs := hs.csp
    obtain ⟨n, rfl⟩ : ∃ m, n = m + 1 := ⟨n - 1, by omega⟩
    have e : q + ((s.length + r.length : Nat) : Int) = q + (s.length : Int) + r.length := by omega
    rw [e] at h3
    rw [wp_liveFrom_s]
    rw [LV_app (hs.mono (fun _ h => h.1)) hr] at k
    exact isLast_no h0 (by omega) hm (hs.at0 a1) (t0 (behind_ok (hs.mono (fun _ h => h.1)) (by omega) a1 h0 (by omega) (by omega) (ih n (q + s.length) out O (by omega) (by omega) a2 (by omega) (by omega) (by omega) h3 ho _ (fun x hx => liveAtx_one hm hs (n := n) (q := q) (out := x) (by omega) (by omega) a1 h0 (by omega) (by omega) hx k))))
theorem liveFrom_x {row : Int → Int} {many : Int} (hm : many ≤ 2400) {l : List Int} (hl : Sq l) {q out : Int} {O : Int → Prop} (hn : cs l ≤ 40) (ha : At row q l) (h0 : 0 ≤ q) (h1 : q + l.length ≤ many) (h2 : l.length ≤ 500) (h3 : Lst row many (q + l.length)) (ho : BS out O) {K : Int → Prop} (k : ∀ v, BS v (LV l O) → K v) : wp_liveFrom 100 row many q out K := LFx_all hm hl 100 q out O (by omega) (by omega) ha h0 h1 h2 h3 ho K k
theorem liveAt_x {row : Int → Int} {many : Int} (hm : many ≤ 2400) {s : List Int} (hs : Sm Sq s) {q out : Int} {O : Int → Prop} (hn : cs s ≤ 40) (ha : At row q s) (h0 : 0 ≤ q) (h1 : q + s.length ≤ many) (h2 : s.length ≤ 500) (ho : BS out O) {K : Int → Prop} (k : ∀ v, BS v (LV s O) → K v) : wp_liveAt 100 row many q out K := liveAtx_one hm (hs.mono (fun _ h => ⟨h, LFx_all hm h⟩)) (by omega) (by omega) ha h0 h1 h2 ho k
