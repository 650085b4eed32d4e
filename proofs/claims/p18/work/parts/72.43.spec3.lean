-- ===== sets of six
theorem b_or : ∀ a b : Fin 64, 0 ≤ zior a.val b.val ∧ zior a.val b.val ≤ 63 ∧ (a.val : Int) ≤ zior a.val b.val := by decide +kernel
theorem b_sh : ∀ v : Fin 6, 0 ≤ zishl 1 v.val ∧ zishl 1 v.val ≤ 63 := by decide +kernel
theorem b_an : ∀ (a : Fin 64) (v : Fin 6), 0 ≤ ziand a.val (zixor (zishl 1 v.val) (-1)) ∧ ziand a.val (zixor (zishl 1 v.val) (-1)) ≤ 63 := by decide +kernel
theorem in63 {a : Int} (h0 : 0 ≤ a) (h1 : a ≤ 63) : ∃ n : Fin 64, a = (n.val : Int) := ⟨⟨a.toNat, by omega⟩, by show a = (a.toNat : Int); omega⟩
theorem in5 {a : Int} (h0 : 0 ≤ a) (h1 : a ≤ 5) : ∃ n : Fin 6, a = (n.val : Int) := ⟨⟨a.toNat, by omega⟩, by show a = (a.toNat : Int); omega⟩
theorem zior63 {a b : Int} (h0 : 0 ≤ a) (h1 : a ≤ 63) (h2 : 0 ≤ b) (h3 : b ≤ 63) : 0 ≤ zior a b ∧ zior a b ≤ 63 ∧ a ≤ zior a b := by
  obtain ⟨x, rfl⟩ := in63 h0 h1
  obtain ⟨y, rfl⟩ := in63 h2 h3
  exact b_or x y
theorem zishl63 {v : Int} (h0 : 0 ≤ v) (h1 : v ≤ 5) : 0 ≤ zishl 1 v ∧ zishl 1 v ≤ 63 := by
  obtain ⟨x, rfl⟩ := in5 h0 h1
  exact b_sh x
theorem ziand63 {a v : Int} (h0 : 0 ≤ a) (h1 : a ≤ 63) (h2 : 0 ≤ v) (h3 : v ≤ 5) : 0 ≤ ziand a (zixor (zishl 1 v) (-1)) ∧ ziand a (zixor (zishl 1 v) (-1)) ≤ 63 := by
  obtain ⟨x, rfl⟩ := in63 h0 h1
  obtain ⟨y, rfl⟩ := in5 h2 h3
  exact b_an x y
/-- it comes to one answer, a set -/
def Ev (f : (Int → Prop) → Prop) : Prop := ∃ v : Int, 0 ≤ v ∧ v ≤ 63 ∧ ∀ K : Int → Prop, K v → f K
theorem reads_ev {row : Int → Int} {p q : Int} (h0 : 0 ≤ p) (h1 : q ≤ 2400) : Ev (wp_reads row p q) := by
  have key : ∀ (n : Nat) (acc i : Int), (q - i).toNat = n → 0 ≤ i → 0 ≤ acc → acc ≤ 63 → ∃ v : Int, 0 ≤ v ∧ v ≤ 63 ∧ ∀ K : Int → Prop, K v → wl2 (wp_reads_5 K row q) acc i := by
    intro n
    induction n with
    | zero =>
      intro acc i hn hi a0 a1
      exact ⟨acc, a0, a1, fun K hK P hP => hP _ _ ⟨fun _ => hK, fun h => absurd h (by omega)⟩⟩
    | succ n ih =>
      intro acc i hn hi a0 a1
      by_cases hc : 20 ≤ row i ∧ row i ≤ 25
      · have hs := zishl63 (v := row i - 20) (by omega) (by omega)
        have ho := zior63 a0 a1 hs.1 hs.2
        obtain ⟨v, v0, v1, hv⟩ := ih (zior acc (zishl 1 (row i - 20))) (i + 1) (by omega) (by omega) ho.1 ho.2.1
        exact ⟨v, v0, v1, fun K hK P hP => hP _ _ ⟨fun h => absurd h (by omega), fun _ => ⟨⟨by omega, by omega⟩, isIn_c (fun _ _ => t1 ⟨⟨by omega, by omega⟩, ⟨by omega, by omega⟩, hv K hK P hP⟩) (fun h => absurd hc h)⟩⟩⟩
      · have ho := zior63 a0 a1 (b := 0) (by omega) (by omega)
        obtain ⟨v, v0, v1, hv⟩ := ih (zior acc 0) (i + 1) (by omega) (by omega) ho.1 ho.2.1
        exact ⟨v, v0, v1, fun K hK P hP => hP _ _ ⟨fun h => absurd h (by omega), fun _ => ⟨⟨by omega, by omega⟩, isIn_c (fun a b => absurd ⟨a, b⟩ hc) (fun _ => t0 ⟨⟨by omega, by omega⟩, hv K hK P hP⟩)⟩⟩⟩
  exact key _ 0 p rfl h0 (by omega) (by omega)
theorem sets_ok {row : Int → Int} {p q v : Int} {K : Int → Prop} (h0 : 0 ≤ p) (h1 : q ≤ 2400) (hv0 : 0 ≤ v) (hv1 : v ≤ 5) (hK : ∀ r : Int, r = 0 ∨ r = 1 → K r) : wp_sets row p q v K := by
  refine wl2_rule (fun (b i : Int) => 0 ≤ i ∧ (b = 0 ∨ b = 1)) (fun (_ i : Int) => (q - i).toNat) ?_ ⟨h0, Or.inl rfl⟩
  rintro P b i ⟨hi, hb⟩ ih
  refine ⟨fun _ => ⟨hb, hK b hb⟩, fun h => ⟨fun _ => ⟨⟨by omega, by omega⟩, ih _ _ ⟨by omega, Or.inr rfl⟩ (by omega)⟩, fun _ => ⟨⟨by omega, by omega⟩, ⟨by omega, by omega⟩, fun _ => ⟨⟨by omega, by omega⟩, ih _ _ ⟨by omega, Or.inl rfl⟩ (by omega)⟩, fun _ => ⟨⟨by omega, by omega⟩, ih _ _ ⟨by omega, Or.inr rfl⟩ (by omega)⟩⟩⟩⟩
-- ===== what is live
theorem wp_liveFrom_s {n : Nat} : wp_liveFrom (n + 1) = wp_liveFrom_b (wp_liveFrom n) (wp_liveAt n) := rfl
theorem wp_liveAt_s {n : Nat} : wp_liveAt (n + 1) = wp_liveAt_b (wp_liveFrom n) (wp_liveAt n) := rfl
def LF (row : Int → Int) (many : Int) (l : List Int) : Prop := ∀ (n : Nat) (q out : Int), 2 * cs l + 1 ≤ n → cs l ≤ 100 → At row q l → 0 ≤ q → q + l.length ≤ many → l.length ≤ 500 → Lst row many (q + l.length) → 0 ≤ out → out ≤ 63 → Ev (wp_liveFrom n row many q out)
theorem liveAt_one {row : Int → Int} {many : Int} (hm : many ≤ 2400) {s : List Int} (hs : Sm (fun B => Sq B ∧ LF row many B) s) {n : Nat} {q out : Int} (hn : 2 * cs s ≤ n) (h100 : cs s ≤ 100) (ha : At row q s) (h0 : 0 ≤ q) (h1 : q + s.length ≤ many) (h2 : s.length ≤ 500) (o0 : 0 ≤ out) (o1 : out ≤ 63) : Ev (wp_liveAt n row many q out) := by
  obtain ⟨n, rfl⟩ : ∃ m, n = m + 1 := ⟨n - 1, by have := hs.csp; omega⟩
  have hb := @behind_ok row s (hs.mono (fun _ h => h.1)) q
  have hp := hs.pos
  rw [wp_liveAt_s]
  rcases hs with ⟨v, e, hv, he, rfl⟩ | rfl | ⟨t, a, b, B, C, ht, hA, hB, hb', hc, rfl⟩ | ⟨t, a, b, B, ht, hA, hB, hb', rfl⟩
  · have e1 : row q = v := ha.1
    unfold setC at hv
    obtain ⟨r, r0, r1, hr⟩ := reads_ev (row := row) (p := q) (q := q + (v :: e).length) h0 (by omega)
    by_cases h110 : v = 110
    · have ho := zior63 o0 o1 r0 r1
      exact ⟨zior out r, ho.1, ho.2.1, fun K hK => ⟨⟨by omega, by omega⟩, fun _ => ⟨fun c => absurd c (by omega), fun _ => hb h100 ha h0 (by omega) h2 (hr _ hK)⟩, fun c => absurd c (by omega)⟩⟩
    · have ha' := ziand63 o0 o1 (v := row q - 100) (by omega) (by omega)
      have ho := zior63 ha'.1 ha'.2 r0 r1
      exact ⟨_, ho.1, ho.2.1, fun K hK => ⟨⟨by omega, by omega⟩, fun _ => ⟨fun _ => ⟨fun c => absurd c (by omega), fun _ => hb h100 ha h0 (by omega) h2 (hr _ hK)⟩, fun c => absurd c (by omega)⟩, fun c => absurd c (by omega)⟩⟩
  · have e1 : row q = 111 := ha.1
    exact ⟨0, by omega, by omega, fun K hK => ⟨⟨by omega, by omega⟩, fun c => absurd e1 c, fun _ => hK⟩⟩
  · rw [cs_if ht hA hB] at hn h100
    rw [len_if] at h1 h2
    obtain ⟨r1, r2, r3, r4, r5, r6, r7, r8⟩ := At_if.mp ha
    obtain ⟨w, w0, w1, hw⟩ := reads_ev (row := row) (p := q + 2) (q := q + 2 + a.length + b.length) (by omega) (by omega)
    obtain ⟨x, x0, x1, hx⟩ := hb'.2 n (q + 2 + a.length + b.length) out (by omega) (by omega) r5 (by omega) (by omega) (by omega) (Or.inr ⟨by omega, Or.inl r6⟩) o0 o1
    obtain ⟨y, y0, y1, hy⟩ := hc.2 n (q + 2 + a.length + b.length + B.length + 1) out (by omega) (by omega) r7 (by omega) (by omega) (by omega) (Or.inr ⟨by omega, Or.inr r8⟩) o0 o1
    have ho := zior63 w0 w1 x0 x1
    have ho2 := zior63 ho.1 ho.2.1 y0 y1
    refine ⟨_, ho2.1, ho2.2.1, fun K hK => ⟨⟨by omega, by omega⟩, fun _ => ⟨fun _ => ⟨fun _ => ?_, fun c => absurd c (by omega)⟩, fun c => absurd c (by omega)⟩, fun c => absurd c (by omega)⟩⟩
    refine body_ok hA hB h0 r3 r4 (by omega) (by omega) (by omega) ⟨⟨by omega, by omega⟩, hw _ ⟨fun c => absurd r1 c, fun _ => ?_⟩⟩
    refine close_ok hm hb'.1 _ _ (by omega) r5 (by omega) (by omega) (by omega) (Or.inr ⟨by omega, Or.inl r6⟩) ?_
    exact hx _ ⟨⟨by omega, by omega⟩, fun c => absurd r6 c, fun _ => ⟨⟨by omega, by omega⟩, hy _ hK⟩⟩
  · rw [cs_wh ht hA hB] at hn h100
    rw [len_wh] at h1 h2
    obtain ⟨r1, r2, r3, r4, r5, r6⟩ := At_wh.mp ha
    obtain ⟨w, w0, w1, hw⟩ := reads_ev (row := row) (p := q + 2) (q := q + 2 + a.length + b.length) (by omega) (by omega)
    have key : ∀ (k : Nat) (set : Int), (63 - set).toNat = k → 0 ≤ set → set ≤ 63 → ∃ v : Int, 0 ≤ v ∧ v ≤ 63 ∧ ∀ K : Int → Prop, K v → wl1 (wp_liveAt_137 (wp_liveFrom n) K row many (q + 2 + a.length + b.length)) set := by
      intro k
      induction k using Nat.strongRecOn with
      | ind k ih =>
        intro set hk s0 s1
        obtain ⟨x, x0, x1, hx⟩ := hb'.2 n (q + 2 + a.length + b.length) set (by omega) (by omega) r5 (by omega) (by omega) (by omega) (Or.inr ⟨by omega, Or.inr r6⟩) s0 s1
        have ho := zior63 s0 s1 x0 x1
        by_cases he : zior set x = set
        · exact ⟨set, s0, s1, fun K hK P hP => hP _ (hx _ ⟨fun _ => hK, fun c => absurd he c⟩)⟩
        · obtain ⟨v, v0, v1, hv⟩ := ih (63 - zior set x).toNat (by omega) (zior set x) rfl ho.1 ho.2.1
          exact ⟨v, v0, v1, fun K hK P hP => hP _ (hx _ ⟨fun c => absurd c he, fun _ => hx _ (hv K hK P hP)⟩)⟩
    have ho := zior63 w0 w1 o0 o1
    obtain ⟨v, v0, v1, hv⟩ := key _ _ rfl ho.1 ho.2.1
    refine ⟨v, v0, v1, fun K hK => ⟨⟨by omega, by omega⟩, fun _ => ⟨fun _ => ⟨fun _ => ?_, fun c => absurd c (by omega)⟩, fun c => absurd c (by omega)⟩, fun c => absurd c (by omega)⟩⟩
    exact body_ok hA hB h0 r3 r4 (by omega) (by omega) (by omega) ⟨⟨by omega, by omega⟩, hw _ ⟨fun _ => hv K hK, fun c => absurd c (by omega)⟩⟩
theorem LF_all {row : Int → Int} {many : Int} (hm : many ≤ 2400) : ∀ {l : List Int}, Sq l → LF row many l := by
  intro l hl
  refine Sq.ind (P := LF row many) ?_ ?_ hl
  · intro n q out hn _ _ h0 h1 _ h3 o0 o1
    obtain ⟨n, rfl⟩ : ∃ m, n = m + 1 := ⟨n - 1, by omega⟩
    rw [show q + (([] : List Int).length : Int) = q by simp] at h3
    rw [wp_liveFrom_s]
    exact ⟨out, o0, o1, fun K hK => isLast_yes h0 hm h3 (t1 hK)⟩
  · intro s r hs _ ih n q out hn h100 ha h0 h1 h2 h3 o0 o1
    rw [cs_app] at hn h100
    rw [List.length_append] at h1 h2 h3
    obtain ⟨a1, a2⟩ := At_app.mp ha
    have hp := hs.pos
    have hcs := hs.csp
    obtain ⟨n, rfl⟩ : ∃ m, n = m + 1 := ⟨n - 1, by omega⟩
    have e : q + ((s.length + r.length : Nat) : Int) = q + (s.length : Int) + r.length := by omega
    rw [e] at h3
    obtain ⟨x, x0, x1, hx⟩ := ih n (q + s.length) out (by omega) (by omega) a2 (by omega) (by omega) (by omega) h3 o0 o1
    obtain ⟨y, y0, y1, hy⟩ := liveAt_one hm hs (n := n) (q := q) (out := x) (by omega) (by omega) a1 h0 (by omega) (by omega) x0 x1
    rw [wp_liveFrom_s]
    exact ⟨y, y0, y1, fun K hK => isLast_no h0 (by omega) hm (hs.at0 a1) (t0 (behind_ok (hs.mono (fun _ h => h.1)) (by omega) a1 h0 (by omega) (by omega) (hx _ (hy _ hK))))⟩
theorem liveFrom_ok {row : Int → Int} {many : Int} (hm : many ≤ 2400) {l : List Int} (hl : Sq l) {q out : Int} (hn : cs l ≤ 40) (ha : At row q l) (h0 : 0 ≤ q) (h1 : q + l.length ≤ many) (h2 : l.length ≤ 500) (h3 : Lst row many (q + l.length)) (o0 : 0 ≤ out) (o1 : out ≤ 63) : Ev (wp_liveFrom 100 row many q out) := LF_all hm hl 100 q out (by omega) (by omega) ha h0 h1 h2 h3 o0 o1
theorem liveAt_ok {row : Int → Int} {many : Int} (hm : many ≤ 2400) {s : List Int} (hs : Sm Sq s) {q out : Int} (hn : cs s ≤ 40) (ha : At row q s) (h0 : 0 ≤ q) (h1 : q + s.length ≤ many) (h2 : s.length ≤ 500) (o0 : 0 ≤ out) (o1 : out ≤ 63) : Ev (wp_liveAt 100 row many q out) := liveAt_one hm (hs.mono (fun _ h => ⟨h, LF_all hm h⟩)) (by omega) (by omega) ha h0 h1 h2 o0 o1
