-- ===== an expression inside, and another one in its place
def HasX (Q : List Int → Prop) (l : List Int) (i : Nat) : Prop := ∃ pre x post : List Int, l = pre ++ (x ++ post) ∧ pre.length = i ∧ Ex lfR x ∧ ∀ y, Ex lfR y → Q (pre ++ (y ++ post))
theorem HasX.ctx {Q Q' : List Int → Prop} {a b c : List Int} {i : Nat} (h : HasX Q b i) (hq : ∀ z, Q z → Q' (a ++ (z ++ c))) : HasX Q' (a ++ (b ++ c)) (a.length + i) := by
  obtain ⟨pre, x, post, rfl, rfl, hx, hy⟩ := h
  refine ⟨a ++ pre, x, post ++ c, by simp, by simp, hx, fun y hy' => ?_⟩
  have := hq _ (hy y hy')
  simpa using this
theorem expr_in : ∀ {e : List Int}, Ex lfR e → ∀ i : Nat, i < e.length → HasX (Ex lfR) e i := by
  intro e he
  refine Ex.ind (P := fun e => ∀ i : Nat, i < e.length → HasX (Ex lfR) e i) ?_ ?_ he
  · intro c hc i hi
    have : i = 0 := by simp at hi; exact hi
    subst this
    exact ⟨[], [c], [], rfl, rfl, Ex.leaf hc, fun y hy => by simpa using hy⟩
  · intro o a b ho ha hb iha ihb i hi
    by_cases h0 : i = 0
    · subst h0
      exact ⟨[], o :: (a ++ b), [], by simp, rfl, Ex.op ho ha hb, fun y hy => by simpa using hy⟩
    · simp only [List.length_cons, List.length_append] at hi
      by_cases h1 : i < a.length + 1
      · have := (iha (i - 1) (by omega)).ctx (Q' := Ex lfR) (a := [o]) (c := b) (fun z hz => (Ex.op ho hz hb : Ex lfR (o :: (z ++ b))))
        rw [show [o].length + (i - 1) = i by simp; omega] at this
        exact this
      · have := (ihb (i - 1 - a.length) (by omega)).ctx (Q' := Ex lfR) (a := o :: a) (c := []) (fun z hz => by have := Ex.op ho ha hz; simpa using this)
        rw [show (o :: a).length + (i - 1 - a.length) = i by simp only [List.length_cons]; omega] at this
        simpa using this
theorem At_get {g : Int → Int} : ∀ {l : List Int} {p : Int} {i : Nat}, At g p l → i < l.length → l[i]? = some (g (p + i)) := by
  intro l
  induction l with
  | nil => intro p i _ h; simp at h
  | cons c l ih =>
    intro p i ha h
    cases i with
    | zero => simp [ha.1]
    | succ i =>
      have := ih (i := i) ha.2 (by simpa using h)
      rw [List.getElem?_cons_succ, this]
      congr 2
      omega
theorem get_app {a b : List Int} {i : Nat} {c : Int} (h : (a ++ b)[i]? = some c) (hi : a.length ≤ i) : b[i - a.length]? = some c := by
  rwa [List.getElem?_append_right hi] at h
theorem Sq.hasX : ∀ {l : List Int}, Sq l → ∀ (i : Nat) (c : Int), l[i]? = some c → isP c = true → HasX Sq l i := by
  intro l hl
  refine Sq.ind (P := fun l => ∀ (i : Nat) (c : Int), l[i]? = some c → isP c = true → HasX Sq l i) ?_ ?_ hl
  · intro i c h; simp at h
  · intro s r hs hr ih i c h hc
    have hP := isP_t.mp hc
    by_cases hi : s.length ≤ i
    · have := (ih _ c (get_app h hi) hc).ctx (Q' := Sq) (a := s) (c := []) (fun z hz => by have := Sq.cons (hs.mono (fun _ h => h.1)) hz; simpa using this)
      rw [show s.length + (i - s.length) = i by omega] at this
      simpa using this
    · rw [List.getElem?_append_left (by omega)] at h
      rcases hs with ⟨v, e, hv, he, rfl⟩ | rfl | ⟨t, a, b, B, C, ht, hA, hB, hb, hcc, rfl⟩ | ⟨t, a, b, B, ht, hA, hB, hb, rfl⟩
      · cases i with
        | zero => simp at h; unfold setC at hv; omega
        | succ i =>
          have := (expr_in he i (by simp at hi; exact hi)).ctx (Q' := Sq) (a := [v]) (c := r) (fun z hz => by have := Sq.cons (Or.inl ⟨v, z, hv, hz, rfl⟩) hr; simpa using this)
          rw [show [v].length + i = i + 1 by simp; omega] at this
          simpa using this
      · cases i with
        | zero => simp at h; omega
        | succ i => simp at h
      · have ht' := ht
        unfold testC at ht'
        have mk : ∀ a' b' B' C', Ex lfR a' → Ex lfR b' → Sq B' → Sq C' → Sq ((112 :: t :: (a' ++ (b' ++ (B' ++ (113 :: (C' ++ [114])))))) ++ r) := fun a' b' B' C' h1 h2 h3 h4 => Sq.cons (Or.inr (Or.inr (Or.inl ⟨t, a', b', B', C', ht, h1, h2, h3, h4, rfl⟩))) hr
        match i, h, hi with
        | 0, h, _ => simp at h; omega
        | 1, h, _ => simp at h; omega
        | i + 2, h, hi =>
          rw [List.getElem?_cons_succ, List.getElem?_cons_succ] at h
          by_cases c1 : i < a.length
          · have := (expr_in hA i c1).ctx (Q' := Sq) (a := [112, t]) (c := (b ++ (B ++ (113 :: (C ++ [114])))) ++ r) (fun z hz => by have := mk z b B C hz hB hb.1 hcc.1; simpa using this)
            rw [show [112, t].length + i = i + 2 by simp; omega] at this
            simpa using this
          · have h := get_app h (by omega)
            by_cases c2 : i - a.length < b.length
            · have := (expr_in hB (i - a.length) c2).ctx (Q' := Sq) (a := [112, t] ++ a) (c := (B ++ (113 :: (C ++ [114]))) ++ r) (fun z hz => by have := mk a z B C hA hz hb.1 hcc.1; simpa using this)
              rw [show ([112, t] ++ a).length + (i - a.length) = i + 2 by simp; omega] at this
              simpa using this
            · have h := get_app h (by omega)
              by_cases c3 : i - a.length - b.length < B.length
              · rw [List.getElem?_append_left c3] at h
                have := (hb.2 _ c h hc).ctx (Q' := Sq) (a := [112, t] ++ a ++ b) (c := (113 :: (C ++ [114])) ++ r) (fun z hz => by have := mk a b z C hA hB hz hcc.1; simpa using this)
                rw [show ([112, t] ++ a ++ b).length + (i - a.length - b.length) = i + 2 by simp; omega] at this
                simpa using this
              · have h := get_app h (by omega)
                match hj : i - a.length - b.length - B.length, h with
                | 0, h => simp at h; omega
                | j + 1, h =>
                  rw [List.getElem?_cons_succ] at h
                  by_cases c4 : j < C.length
                  · rw [List.getElem?_append_left c4] at h
                    have := (hcc.2 _ c h hc).ctx (Q' := Sq) (a := [112, t] ++ a ++ b ++ B ++ [113]) (c := [114] ++ r) (fun z hz => by have := mk a b B z hA hB hb.1 hz; simpa using this)
                    have e : ([112, t] ++ a ++ b ++ B ++ [(113 : Int)]).length + j = i + 2 := by simp; omega
                    rw [e] at this
                    simpa using this
                  · have h := get_app h (by omega)
                    have hm := List.mem_of_getElem? h
                    rw [List.mem_singleton] at hm
                    omega
      · have ht' := ht
        unfold testC at ht'
        have mk : ∀ a' b' B', Ex lfR a' → Ex lfR b' → Sq B' → Sq ((115 :: t :: (a' ++ (b' ++ (B' ++ [114])))) ++ r) := fun a' b' B' h1 h2 h3 => Sq.cons (Or.inr (Or.inr (Or.inr ⟨t, a', b', B', ht, h1, h2, h3, rfl⟩))) hr
        match i, h, hi with
        | 0, h, _ => simp at h; omega
        | 1, h, _ => simp at h; omega
        | i + 2, h, hi =>
          rw [List.getElem?_cons_succ, List.getElem?_cons_succ] at h
          by_cases c1 : i < a.length
          · have := (expr_in hA i c1).ctx (Q' := Sq) (a := [115, t]) (c := (b ++ (B ++ [114])) ++ r) (fun z hz => by have := mk z b B hz hB hb.1; simpa using this)
            rw [show [115, t].length + i = i + 2 by simp; omega] at this
            simpa using this
          · have h := get_app h (by omega)
            by_cases c2 : i - a.length < b.length
            · have := (expr_in hB (i - a.length) c2).ctx (Q' := Sq) (a := [115, t] ++ a) (c := (B ++ [114]) ++ r) (fun z hz => by have := mk a z B hA hz hb.1; simpa using this)
              rw [show ([115, t] ++ a).length + (i - a.length) = i + 2 by simp; omega] at this
              simpa using this
            · have h := get_app h (by omega)
              by_cases c3 : i - a.length - b.length < B.length
              · rw [List.getElem?_append_left c3] at h
                have := (hb.2 _ c h hc).ctx (Q' := Sq) (a := [115, t] ++ a ++ b) (c := [114] ++ r) (fun z hz => by have := mk a b z hA hB hz; simpa using this)
                rw [show ([115, t] ++ a ++ b).length + (i - a.length - b.length) = i + 2 by simp; omega] at this
                simpa using this
              · have h := get_app h (by omega)
                have hm := List.mem_of_getElem? h
                rw [List.mem_singleton] at hm
                omega
/-- an expression of a row, at p -/
def XP (row : Int → Int) (p : Int) (x : List Int) : Prop := Ex lfR x ∧ At row p x ∧ 0 ≤ p ∧ p + x.length ≤ 460
theorem WF.xp {row : Int → Int} {many : Int} {l : List Int} (h : WF row many l) {p : Int} (h0 : 0 ≤ p) (h1 : p < many) (hc : isP (row p) = true) : ∃ pre x post, l = pre ++ (x ++ post) ∧ (pre.length : Int) = p ∧ XP row p x ∧ At row (p + x.length) post ∧ p + x.length + post.length = many ∧ ∀ y, Ex lfR y → Sq (pre ++ (y ++ post)) := by
  have hl := h.len
  have hm := h.2.2.1
  have hg := At_get (i := p.toNat) h.2.1 (by omega)
  rw [show (0 : Int) + (p.toNat : Int) = p by omega] at hg
  obtain ⟨pre, x, post, e, hp, hx, hy⟩ := h.1.hasX p.toNat (row p) hg hc
  have ha := h.2.1
  rw [e] at ha
  obtain ⟨a1, a2⟩ := At_app.mp ha
  obtain ⟨a3, a4⟩ := At_app.mp a2
  have e2 : (0 : Int) + pre.length = p := by omega
  rw [e2] at a3 a4
  have hlen : l.length = pre.length + (x.length + post.length) := by rw [e]; simp
  exact ⟨pre, x, post, e, by omega, ⟨hx, a3, h0, by omega⟩, a4, by omega, hy⟩
theorem XP.endOf {row : Int → Int} {p : Int} {x : List Int} (h : XP row p x) {K : Int → Prop} (hK : K (p + x.length)) : wp_endOf 500 row p K := by
  obtain ⟨h1, h2, h3, h4⟩ := h
  exact endOf5 h1 h2 h3 (by omega) (by omega) hK
theorem same_ev {row : Int → Int} {p q : Int} {x y : List Int} (hx : XP row p x) (hy : XP row q y) : ∃ b : Int, (b = 0 ∨ b = 1) ∧ ∀ K : Int → Prop, K b → wp_sameParts row p q K := by
  have x0 := hx.2.2.1
  have x1 := hx.2.2.2
  have y0 := hy.2.2.1
  have y1 := hy.2.2.2
  have key : ∀ (n : Nat) (s k : Int), ((x.length : Int) - k).toNat = n → 0 ≤ k → (s = 0 ∨ (s = 1 ∧ x.length = y.length)) → ∃ b : Int, (b = 0 ∨ b = 1) ∧ ∀ K : Int → Prop, K b → wl2 (wp_sameParts_29 K row p q (p + x.length)) s k := by
    intro n
    induction n with
    | zero =>
      intro s k hn hk hs
      refine ⟨s, by omega, fun K hK P hP => hP _ _ ⟨⟨by omega, by omega⟩, fun _ => ⟨by omega, hK⟩, fun c => absurd c (by omega)⟩⟩
    | succ n ih =>
      intro s k hn hk hs
      by_cases h0 : s = 0
      · exact ⟨s, by omega, fun K hK P hP => hP _ _ ⟨⟨by omega, by omega⟩, fun c => absurd c (by omega), fun _ => ⟨fun _ => ⟨by omega, hK⟩, fun c => absurd h0 c⟩⟩⟩
      · have hl : x.length = y.length := by omega
        by_cases he : row (p + k) = row (q + k)
        · obtain ⟨b, hb, hw⟩ := ih 1 (k + 1) (by omega) (by omega) (Or.inr ⟨rfl, hl⟩)
          exact ⟨b, hb, fun K hK P hP => hP _ _ ⟨⟨by omega, by omega⟩, fun c => absurd c (by omega), fun _ => ⟨fun c => absurd c h0, fun _ => ⟨⟨by omega, by omega⟩, ⟨by omega, by omega⟩, fun c => absurd he c, fun _ => ⟨⟨by omega, by omega⟩, hw K hK P hP⟩⟩⟩⟩⟩
        · obtain ⟨b, hb, hw⟩ := ih 0 (k + 1) (by omega) (by omega) (Or.inl rfl)
          exact ⟨b, hb, fun K hK P hP => hP _ _ ⟨⟨by omega, by omega⟩, fun c => absurd c (by omega), fun _ => ⟨fun c => absurd c h0, fun _ => ⟨⟨by omega, by omega⟩, ⟨by omega, by omega⟩, fun _ => ⟨⟨by omega, by omega⟩, hw K hK P hP⟩, fun c => absurd c he⟩⟩⟩⟩
  by_cases hl : x.length = y.length
  · obtain ⟨b, hb, hw⟩ := key _ 1 0 rfl (by omega) (Or.inr ⟨rfl, hl⟩)
    exact ⟨b, hb, fun K hK => hx.endOf (hy.endOf ⟨⟨by omega, by omega⟩, ⟨by omega, by omega⟩, fun c => absurd c (by omega), fun _ => hw K hK⟩)⟩
  · obtain ⟨b, hb, hw⟩ := key _ 0 0 rfl (by omega) (Or.inl rfl)
    exact ⟨b, hb, fun K hK => hx.endOf (hy.endOf ⟨⟨by omega, by omega⟩, ⟨by omega, by omega⟩, fun _ => hw K hK, fun c => absurd c (by omega)⟩)⟩
-- ===== a rule's left side
def BVd (row : Int → Int) (b : Int) : Prop := b = -1 ∨ ∃ x, XP row b x
def agr (b g : Int → Int) : Prop := ∀ k : Int, 0 ≤ k → k ≤ 2 → b k = g k
def BVa (row : Int → Int) (g : Int → Int) : Prop := ∀ k : Int, 0 ≤ k → k ≤ 2 → BVd row (g k)
def grow (g g' : Int → Int) : Prop := ∀ k : Int, 0 ≤ k → k ≤ 2 → g k ≠ -1 → g' k ≠ -1
def alb (e : List Int) (g : Int → Int) : Prop := ∀ c ∈ e, 30 ≤ c → c ≤ 32 → g (c - 30) ≠ -1
def okk (b : Int) (p : Prop) : Prop := b = 1 → p
theorem wp_fits_s {n : Nat} : wp_fits (n + 1) = wp_fits_b (wp_fits n) := rfl
theorem fits_ev {row rule : Int → Int} {r : Int} (r0 : 0 ≤ r) (r1 : r ≤ 11) : ∀ {e : List Int}, Ex lfU e → ∀ (n : Nat) (p pat : Int) (g : Int → Int), e.length ≤ n → At rule (40 * r + pat) e → 0 ≤ pat → pat + e.length ≤ 40 → (∃ x, XP row p x) → BVa row g → ∃ (b pat' : Int) (g' : Int → Int), (b = 0 ∨ b = 1) ∧ BVa row g' ∧ grow g g' ∧ okk b (pat' = pat + e.length ∧ alb e g') ∧ ∀ bound, agr bound g → ∃ bound', agr bound' g' ∧ ∀ K : Int → (Int → Int) → Int → Prop, K b bound' pat' → wp_fits n row rule bound pat r p K := by
  intro e he
  refine Ex.ind (P := fun e => ∀ (n : Nat) (p pat : Int) (g : Int → Int), e.length ≤ n → At rule (40 * r + pat) e → 0 ≤ pat → pat + e.length ≤ 40 → (∃ x, XP row p x) → BVa row g → ∃ (b pat' : Int) (g' : Int → Int), (b = 0 ∨ b = 1) ∧ BVa row g' ∧ grow g g' ∧ okk b (pat' = pat + e.length ∧ alb e g') ∧ ∀ bound, agr bound g → ∃ bound', agr bound' g' ∧ ∀ K : Int → (Int → Int) → Int → Prop, K b bound' pat' → wp_fits n row rule bound pat r p K) ?_ ?_ he
  · intro c hc n p pat g hn ha h0 h1 hx hg
    simp only [List.length_cons, List.length_nil] at hn h1
    obtain ⟨n, rfl⟩ : ∃ k, n = k + 1 := ⟨n - 1, by omega⟩
    have e1 : rule (40 * r + pat) = c := ha.1
    obtain ⟨x, hx⟩ := hx
    have hxp := hx.2.2
    have hxl := hx.1.pos
    rw [wp_fits_s]
    unfold lfU at hc
    by_cases hl : 30 ≤ c ∧ c ≤ 32
    · by_cases hb : g (c - 30) = -1
      · refine ⟨1, pat + 1, uZ g (c - 30) p, Or.inr rfl, fun k k0 k1 => ?_, fun k k0 k1 hk => ?_, fun _ => ⟨by simp, fun d hd d0 d1 => ?_⟩, fun bound hbd => ⟨uZ bound (c - 30) p, fun k k0 k1 => ?_, fun K hK => ⟨⟨by omega, by omega⟩, ⟨by omega, by omega⟩, isIn_c (fun _ _ => t1 ⟨⟨by omega, by omega⟩, fun _ => ⟨⟨by omega, by omega⟩, ?_⟩, fun q => absurd ?_ q⟩) (fun q => absurd q (by omega))⟩⟩⟩
        · by_cases hk : k = c - 30
          · rw [show uZ g (c - 30) p k = p from if_pos hk]; exact Or.inr ⟨x, hx⟩
          · rw [show uZ g (c - 30) p k = g k from if_neg hk]; exact hg k k0 k1
        · by_cases hk' : k = c - 30
          · rw [show uZ g (c - 30) p k = p from if_pos hk']; omega
          · rw [show uZ g (c - 30) p k = g k from if_neg hk']; exact hk
        · rw [List.mem_singleton.mp hd, show uZ g (c - 30) p (c - 30) = p from if_pos rfl]; omega
        · by_cases hk : k = c - 30
          · rw [show uZ g (c - 30) p k = p from if_pos hk, show uZ bound (c - 30) p k = p from if_pos hk]
          · rw [show uZ g (c - 30) p k = g k from if_neg hk, show uZ bound (c - 30) p k = bound k from if_neg hk]; exact hbd k k0 k1
        · rw [e1]; exact hK
        · rw [e1, hbd (c - 30) (by omega) (by omega)]; exact hb
      · obtain ⟨y, hy⟩ := (hg (c - 30) (by omega) (by omega)).resolve_left hb
        obtain ⟨b, hb01, hw⟩ := same_ev hy hx
        refine ⟨b, pat + 1, g, hb01, hg, fun k _ _ h => h, fun _ => ⟨by simp, fun d hd d0 d1 => ?_⟩, fun bound hbd => ⟨bound, hbd, fun K hK => ⟨⟨by omega, by omega⟩, ⟨by omega, by omega⟩, isIn_c (fun _ _ => t1 ⟨⟨by omega, by omega⟩, fun q => absurd q ?_, fun _ => ⟨⟨by omega, by omega⟩, ?_⟩⟩) (fun q => absurd q (by omega))⟩⟩⟩
        · rw [List.mem_singleton.mp hd]; exact hb
        · rw [e1, hbd (c - 30) (by omega) (by omega)]; exact hb
        · rw [e1, hbd (c - 30) (by omega) (by omega)]
          exact hw _ ⟨hb01, hK⟩
    · by_cases hr : row p = c
      · exact ⟨1, pat + 1, g, Or.inr rfl, hg, fun k _ _ h => h, fun _ => ⟨by simp, fun d hd d0 d1 => absurd ⟨by rw [← List.mem_singleton.mp hd]; exact d0, by rw [← List.mem_singleton.mp hd]; exact d1⟩ hl⟩, fun bound hbd => ⟨bound, hbd, fun K hK => ⟨⟨by omega, by omega⟩, ⟨by omega, by omega⟩, isIn_c (fun _ _ => absurd ⟨by omega, by omega⟩ hl) (fun _ => t0 ⟨⟨by omega, by omega⟩, fun _ => ⟨fun q => absurd q (by omega), fun _ => hK⟩, fun q => absurd (by omega) q⟩)⟩⟩⟩
      · exact ⟨0, pat + 1, g, Or.inl rfl, hg, fun k _ _ h => h, fun q => absurd q (by decide), fun bound hbd => ⟨bound, hbd, fun K hK => ⟨⟨by omega, by omega⟩, ⟨by omega, by omega⟩, isIn_c (fun _ _ => absurd ⟨by omega, by omega⟩ hl) (fun _ => t0 ⟨⟨by omega, by omega⟩, fun q => absurd q (by omega), fun _ => hK⟩)⟩⟩⟩
  · intro o a b ho hea heb iha ihb n p pat g hn ha h0 h1 hx hg
    simp only [List.length_cons, List.length_append] at hn h1
    obtain ⟨n, rfl⟩ : ∃ k, n = k + 1 := ⟨n - 1, by omega⟩
    have e1 : rule (40 * r + pat) = o := ha.1
    obtain ⟨a1, a2⟩ := At_app.mp ha.2
    rw [show 40 * r + pat + 1 = 40 * r + (pat + 1) by omega] at a1 a2
    have ho' := ho
    unfold opC at ho'
    obtain ⟨x, hx⟩ := hx
    have hxp := hx.2.2
    have hxl := hx.1.pos
    rw [wp_fits_s]
    by_cases hr : row p = o
    · -- the row has an operation there too
      obtain ⟨o', x1, x2, _, hx1, hx2, rfl⟩ : ∃ (o' : Int) (x1 x2 : List Int), opC o' ∧ Ex lfR x1 ∧ Ex lfR x2 ∧ x = o' :: (x1 ++ x2) := by
        rcases hx.1.cases with ⟨c, hc, rfl⟩ | h
        · have := hx.2.1.1
          unfold lfR at hc; omega
        · exact h
      obtain ⟨b1, b2⟩ := At_app.mp hx.2.1.2
      simp only [List.length_cons, List.length_append] at hxp
      have X1 : XP row (p + 1) x1 := ⟨hx1, b1, by omega, by omega⟩
      have X2 : XP row (p + 1 + x1.length) x2 := ⟨hx2, b2, by omega, by omega⟩
      obtain ⟨b', pat1, g1, hb1, G1, gr1, k1, w1⟩ := iha n (p + 1) (pat + 1) g (by omega) a1 (by omega) (by omega) ⟨x1, X1⟩ hg
      rcases hb1 with rfl | rfl
      · refine ⟨0, pat1, g1, Or.inl rfl, G1, gr1, fun q => absurd q (by decide), fun bound hbd => ?_⟩
        obtain ⟨bd1, hbd1, hw1⟩ := w1 bound hbd
        exact ⟨bd1, hbd1, fun K hK => ⟨⟨by omega, by omega⟩, ⟨by omega, by omega⟩, isIn_c (fun _ _ => by omega) (fun _ => t0 ⟨⟨by omega, by omega⟩, fun _ => ⟨fun _ => ⟨⟨by omega, by omega⟩, hw1 _ (t0 hK)⟩, fun q => absurd q (by omega)⟩, fun q => absurd (by omega) q⟩)⟩⟩
      · obtain ⟨ep1, al1⟩ := k1 rfl
        rw [show 40 * r + (pat + 1) + (a.length : Int) = 40 * r + pat1 by omega] at a2
        obtain ⟨b', pat2, g2, hb2, G2, gr2, k2, w2⟩ := ihb n (p + 1 + x1.length) pat1 g1 (by omega) a2 (by omega) (by omega) ⟨x2, X2⟩ G1
        refine ⟨b', pat2, g2, hb2, G2, fun k k0 k1 h => gr2 k k0 k1 (gr1 k k0 k1 h), fun hb => ?_, fun bound hbd => ?_⟩
        · obtain ⟨ep2, al2⟩ := k2 hb
          refine ⟨by simp only [List.length_cons, List.length_append]; omega, fun d hd d0 d1 => ?_⟩
          rcases List.mem_cons.mp hd with h | h
          · omega
          · rcases List.mem_append.mp h with h | h
            · exact gr2 _ (by omega) (by omega) (al1 d h d0 d1)
            · exact al2 d h d0 d1
        · obtain ⟨bd1, hbd1, hw1⟩ := w1 bound hbd
          obtain ⟨bd2, hbd2, hw2⟩ := w2 bd1 hbd1
          refine ⟨bd2, hbd2, fun K hK => ⟨⟨by omega, by omega⟩, ⟨by omega, by omega⟩, isIn_c (fun _ _ => by omega) (fun _ => t0 ⟨⟨by omega, by omega⟩, fun _ => ⟨fun _ => ⟨⟨by omega, by omega⟩, hw1 _ (t1 (X1.endOf (hw2 _ ?_)))⟩, fun q => absurd q (by omega)⟩, fun q => absurd (by omega) q⟩)⟩⟩
          rcases hb2 with rfl | rfl
          · exact t0 hK
          · exact t1 hK
    · exact ⟨0, pat + 1, g, Or.inl rfl, hg, fun k _ _ h => h, fun q => absurd q (by decide), fun bound hbd => ⟨bound, hbd, fun K hK => ⟨⟨by omega, by omega⟩, ⟨by omega, by omega⟩, isIn_c (fun _ _ => by omega) (fun _ => t0 ⟨⟨by omega, by omega⟩, fun q => absurd q (by omega), fun _ => hK⟩)⟩⟩⟩
