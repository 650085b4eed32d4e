-- ===== the reference's spills; registers and clash, both sides
theorem timesOf_x {row : Int → Int} {many : Int} {l : List Int} {x : Int} (ha : At row 0 l) (el : many = l.length) (hl : l.length ≤ 480) {K : Int → Prop} (k : K (cmW (cmg l) x 6)) : wp_timesOf row many x K := by
  refine wl2_rule (fun (n i : Int) => (0 ≤ i ∧ i ≤ l.length) ∧ n = cmW (cmg (l.take i.toNat)) x 6) (fun (_ i : Int) => (many - i).toNat) ?_ ⟨by omega, by
    have : ∀ n : Nat, cmW (cmg ([] : List Int)) x n = 0 := by
      intro n
      induction n with
      | zero => rfl
      | succ n ih =>
        unfold cmW
        rw [ih]
        by_cases z : bt x n = 0
        · rw [if_pos z]; rfl
        · rw [if_neg z]; rfl
    exact (this 6).symm⟩
  rintro P n i ⟨hi, hn⟩ ih
  refine ⟨fun hge => ?_, fun hlt => ⟨⟨hi.1, by omega⟩, ?_⟩⟩
  · have e : i.toNat = l.length := by omega
    rw [hn, e, List.take_length]; exact k
  · obtain ⟨pre, c, post, e, hpn⟩ := at_split (l := l) (k := i.toNat) (by omega)
    have ei : i = pre.length := by omega
    have rc : row i = c := by
      rw [e] at ha
      rw [ei]; exact At_mid ha
    have tk1 : l.take i.toNat = pre := by rw [e, show i.toNat = pre.length by omega, List.take_left]
    have tk2 : l.take (i + 1).toNat = pre ++ [c] := by
      rw [show (i + 1).toNat = pre.length + 1 by omega, e, show pre ++ c :: post = (pre ++ [c]) ++ post by simp, List.take_left' (by simp)]
    have lp : pre.length ≤ 480 := by omega
    have hb := cmW_b (g := cmg pre) (x := x) (B := 480) (fun v _ => by have := cmg_b (l := pre) (v := v); omega) 6 (by decide)
    rw [tk1] at hn
    have h6 : (480 : Int) * ((6 : Nat) : Int) = 2880 := by decide
    rw [← hn, h6] at hb
    have nx : ∀ n', n' = cmW (cmg (pre ++ [c])) x 6 → rng (i + 1) ∧ P n' (i + 1) := fun n' e' => ⟨rng_small (by omega) (by omega), ih _ _ ⟨by omega, by rw [tk2]; exact e'⟩ (by omega)⟩
    -- a variable
    have var : ∀ v0 : Int, bv v0 → (∀ v, bv v → ((c = 20 + v ∨ c = 100 + v) ↔ v = v0)) → wp_timesOf_61 x n i P v0 := by
      intro v0 hv hc
      have es : cmW (cmg (pre ++ [c])) x 6 = cmW (cmg pre) x 6 + (if bt x v0 = 0 then 0 else 1) := by
        rw [cmW_cg (g := cmg (pre ++ [c])) (h := fun v => cmg pre v + (if v = v0 then 1 else 0)) 6 (fun v w0 w1 => ?_), cmW_add hv.1 6, if_pos (show v0 < ((6 : Nat) : Int) by unfold bv at hv; omega)]
        rw [cmg_snoc]
        have := hc v ⟨w0, by omega⟩
        by_cases q : v = v0
        · rw [if_pos (this.mpr q), if_pos q]
        · rw [if_neg (fun z => q (this.mp z)), if_neg q]
      refine ⟨fun z => by unfold bv at hv; omega, fun _ => ⟨fun z => ⟨rng_small (by omega) (by omega), nx _ ?_⟩, fun z => ⟨rng_small (by omega) (by omega), nx _ ?_⟩⟩⟩
      · rw [es, if_pos ((bt01 x v0).resolve_right z), hn]
      · have z : bt x v0 = 1 := z
        rw [es, if_neg (by omega), hn]
    have nov : (∀ v, bv v → ¬ (c = 20 + v ∨ c = 100 + v)) → wp_timesOf_61 x n i P (-1) := by
      intro hc
      have es : cmW (cmg (pre ++ [c])) x 6 = cmW (cmg pre) x 6 := cmW_cg 6 (fun v w0 w1 => by rw [cmg_snoc, if_neg (hc v ⟨w0, by omega⟩)]; omega)
      exact ⟨fun _ => ⟨rng_small (by omega) (by omega), nx _ (by rw [es, hn]; omega)⟩, fun z => absurd rfl z⟩
    rw [rc]
    refine isIn_c (fun q1 q2 => t1 ⟨⟨by omega, by omega⟩, var _ ⟨by omega, by omega⟩ (fun v hv => ?_)⟩) (fun z1 => t0 (isIn_c (fun q1 q2 => t1 ⟨⟨by omega, by omega⟩, var _ ⟨by omega, by omega⟩ (fun v hv => ?_)⟩) (fun z2 => t0 (nov (fun v hv z => ?_)))))
    · unfold bv at hv; omega
    · unfold bv at hv; omega
    · unfold bv at hv; omega
theorem inRow_x {row : Int → Int} {many : Int} {l : List Int} (ha : At row 0 l) (el : many = l.length) (hl : l.length ≤ 480) {K : Int → Prop} (k : ∀ r, BS r (pres l) → K r) : wp_inRow row many K := by
  refine reads_v ha (by omega) (by decide) (by omega) (fun v hv => ?_)
  refine wl2_rule (fun (s i : Int) => (0 ≤ i ∧ i ≤ 6) ∧ BS s (fun w => (20 + w) ∈ l ∨ (w < i ∧ (100 + w) ∈ l))) (fun (_ i : Int) => (6 - i).toNat) ?_ ⟨by omega, hv.congr (fun w hw => ⟨Or.inl, fun q => q.elim id (fun q => absurd q.1 (by unfold bv at hw; omega))⟩)⟩
  rintro P s i ⟨hi, hs⟩ ih
  refine ⟨fun h6 => k s (hs.congr (fun w hw => ⟨fun q => q.imp id (fun q => q.2), fun q => q.imp id (fun q => ⟨by unfold bv at hw; omega, q⟩)⟩)), fun hlt => sets_x ha (by omega) (by decide) (by omega) ⟨hi.1, by omega⟩ (fun hin => ⟨fun z => absurd z (by decide), fun _ => ⟨rng_small (by omega) (by omega), ih _ _ ⟨by omega, ?_⟩ (by omega)⟩⟩) (fun hno => ⟨fun _ => ⟨rng_small (by omega) (by omega), ih _ _ ⟨by omega, ?_⟩ (by omega)⟩, fun z => absurd rfl z⟩)⟩
  · refine (hs.or (one_bs (v := i) ⟨hi.1, by omega⟩)).congr (fun w hw => ?_)
    constructor
    · rintro ((q | q) | q)
      · exact Or.inl q
      · exact Or.inr ⟨by omega, q.2⟩
      · exact Or.inr ⟨by omega, by rw [← q]; exact hin⟩
    · rintro (q | ⟨q1, q2⟩)
      · exact Or.inl (Or.inl q)
      · by_cases e : w = i
        · exact Or.inr e.symm
        · exact Or.inl (Or.inr ⟨by omega, q2⟩)
  · refine (hs.or BS.z).congr (fun w hw => ?_)
    constructor
    · rintro ((q | q) | q)
      · exact Or.inl q
      · exact Or.inr ⟨by omega, q.2⟩
      · exact q.elim
    · rintro (q | ⟨q1, q2⟩)
      · exact Or.inl (Or.inl q)
      · by_cases e : w = i
        · rw [e] at q2; exact absurd q2 hno
        · exact Or.inl (Or.inr ⟨by omega, q2⟩)
theorem spills_x {row f d : Int → Int} {many P m : Int} {l : List Int} (ha : At row 0 l) (el : many = l.length) (hl : l.length ≤ 480) (hP : b63 P) (m0 : 0 ≤ m) (m6 : m ≤ 6) {K : Int → (Int → Int) → Prop} (k : ∀ b d', BestE P m f (cmg l) b → K b d') : wp_spills row many f d P m K := by
  refine wl3_rule (fun (best i : Int) (_ : Int → Int) => (0 ≤ i ∧ i ≤ 64) ∧ ((best = -1 ∧ ∀ S, SubP P S → S < i → ¬ FsP P m f S) ∨ (best < i ∧ SubP P best ∧ FsP P m f best ∧ ∀ S, SubP P S → S < i → FsP P m f S → cmW (cmg l) best 6 ≤ cmW (cmg l) S 6 ∧ (S < best → cmW (cmg l) best 6 < cmW (cmg l) S 6)))) (fun (_ i : Int) _ => (64 - i).toNat) ?_ ⟨by omega, Or.inl ⟨rfl, fun S hS h => absurd hS.1.1 (by omega)⟩⟩
  rintro Q best i d2 ⟨hi, inv⟩ ih
  have subP : SubP P P := ⟨⟨hP.1, by have := hP.2; omega⟩, (subP_bits hP hP).mpr (fun _ _ q => q)⟩
  refine ⟨fun h64 => ?_, fun hlt => ?_⟩
  · rcases inv with ⟨-, no⟩ | ⟨-, h1, h2, h3⟩
    · exact absurd (Fs_P hP) (no P subP (by have := hP.2; omega))
    · exact k best d2 ⟨h1, h2, fun S hS hF => h3 S hS (by have := hS.1.2; omega) hF⟩
  have skip : ∀ d', (SubP P i → FsP P m f i → best ≠ -1 ∧ cmW (cmg l) best 6 ≤ cmW (cmg l) i 6) → rng (i + 1) ∧ Q best (i + 1) d' := by
    intro d' hno
    refine ⟨rng_small (by omega) (by omega), ih _ _ _ ⟨by omega, ?_⟩ (by omega)⟩
    rcases inv with ⟨hb, no⟩ | ⟨h0, h1, h2, h3⟩
    · refine Or.inl ⟨hb, fun S hS h hF => ?_⟩
      by_cases e : S = i
      · rw [e] at hS hF; exact (hno hS hF).1 hb
      · exact no S hS (by omega) hF
    · refine Or.inr ⟨by omega, h1, h2, fun S hS h hF => ?_⟩
      by_cases e : S = i
      · rw [e] at hS hF ⊢
        exact ⟨(hno hS hF).2, fun q => by omega⟩
      · exact h3 S hS (by omega) hF
  have b40 : SubP P i → (best = -1 ∨ cmW (cmg l) i 6 < cmW (cmg l) best 6) → wp_spills_40 f P m d2 best i Q := by
    intro hS hless
    refine deals_x m0 m6 (fun d' win => ⟨fun z => absurd z (by decide), fun _ => ⟨rng_small (by omega) (by omega), ih _ _ _ ⟨by omega, Or.inr ⟨by omega, hS, ⟨d', win.1, win.2.2.1⟩, fun S hS2 h hF => ?_⟩⟩ (by omega)⟩⟩) (fun no d' => ⟨fun _ => skip d' (fun _ ⟨b, b1, b2⟩ => absurd b2 (no b b1)), fun z => absurd rfl z⟩)
    by_cases e : S = i
    · rw [e]; exact ⟨Int.le_refl _, fun q => by omega⟩
    · rcases inv with ⟨hb, nof⟩ | ⟨h0, h1, h2, h3⟩
      · exact absurd hF (nof S hS2 (by omega))
      · have h4 := (h3 S hS2 (by omega) hF).1
        have h5 : cmW (cmg l) i 6 < cmW (cmg l) best 6 := hless.resolve_left (fun q => by have := h1.1.1; omega)
        exact ⟨by omega, fun _ => by omega⟩
  refine ⟨fun hns => skip d2 (fun hS _ => absurd hS.2 hns), fun hsub => ?_⟩
  have hS : SubP P i := ⟨⟨hi.1, hlt⟩, hsub⟩
  refine ⟨fun hb => b40 hS (Or.inl hb), fun hb => timesOf_x ha el hl (timesOf_x ha el hl ⟨fun hge => skip d2 (fun _ _ => ⟨hb, hge⟩), fun hl2 => b40 hS (Or.inr hl2)⟩)⟩
-- the answers depend on the table for the six variables alone
theorem Vdl.cf {f f' a : Int → Int} (e : ∀ v, bv v → f v = f' v) (h : Vdl f a) : Vdl f' a := fun v w hv w0 w1 h1 h2 => by rw [← e v hv]; exact h v w hv w0 w1 h1 h2
theorem FewE.cf {s k : Int} {f f' a : Int → Int} (e : ∀ v, bv v → f v = f' v) (h : FewE s f k a) : FewE s f' k a := by
  have e' : ∀ v, bv v → f' v = f v := fun v hv => (e v hv).symm
  exact ⟨h.1, ⟨h.2.1.1, h.2.1.2.1, h.2.1.2.2.1.cf e, fun b hb xb hl q => h.2.1.2.2.2 b hb xb hl (q.cf e')⟩, fun j j0 j1 b hb q => h.2.2 j j0 j1 b hb (q.cf e')⟩
theorem FsP.cf {P k S : Int} {f f' : Int → Int} (e : ∀ v, bv v → f v = f' v) (h : FsP P k f S) : FsP P k f' S := by
  obtain ⟨b, b1, b2⟩ := h
  exact ⟨b, b1, b2.cf e⟩
theorem BestE.cf {P k b : Int} {f f' g : Int → Int} (e : ∀ v, bv v → f v = f' v) (h : BestE P k f g b) : BestE P k f' g b := ⟨h.1, h.2.1.cf e, fun S hS hF => h.2.2 S hS (hF.cf (fun v hv => (e v hv).symm))⟩
/-- registers and clash, as an answer about the slots -/
def rgA (l : List Int) (w r : Int) : Prop := ∃ f P, Mx f (CX (CT l NoV)) ∧ BS P (pres l) ∧ ((w = 0 ∧ ∃ a, FewE P f r a) ∨ ((10 ≤ w ∧ w ≤ 15) ∧ ∃ n a, FewE P f n a ∧ r = a (w - 10)) ∨ ((20 ≤ w ∧ w ≤ 26) ∧ BestE P (w - 20) f (cmg l) r))
def rgO (σ : Sg) (x0 x1 r : Int) : Prop := (¬ ((0 ≤ x0 ∧ x0 ≤ 5) ∧ (x1 = 0 ∨ (10 ≤ x1 ∧ x1 ≤ 15) ∨ (20 ≤ x1 ∧ x1 ≤ 26))) ∧ r = -1) ∨ (((0 ≤ x0 ∧ x0 ≤ 5) ∧ (x1 = 0 ∨ (10 ≤ x1 ∧ x1 ≤ 15) ∨ (20 ≤ x1 ∧ x1 ≤ 26))) ∧ ∃ l, RowL σ x0 l ∧ rgA l x1 r)
theorem rgA.uq {l : List Int} {w r r' : Int} (h : rgA l w r) (h' : rgA l w r') : r = r' := by
  obtain ⟨f, P, m1, p1, h⟩ := h
  obtain ⟨f', P', m2, p2, h'⟩ := h'
  have eP : P = P' := bits_ext p1.1 p2.1 (fun v hv => (p1.2 v hv).trans (p2.2 v hv).symm)
  subst eP
  have ef : ∀ v, bv v → f' v = f v := fun v hv => m2.uq m1 hv
  rcases h with ⟨hw, a, q⟩ | ⟨hw, n, a, q, e⟩ | ⟨hw, q⟩
  · rcases h' with ⟨_, a', q'⟩ | ⟨hw', _⟩ | ⟨hw', _⟩
    · exact (q.uq (q'.cf ef)).1
    · omega
    · omega
  · rcases h' with ⟨hw', _⟩ | ⟨_, n', a', q', e'⟩ | ⟨hw', _⟩
    · omega
    · rw [e, e']
      exact (q.uq (q'.cf ef)).2 _ ⟨by omega, by omega⟩
    · omega
  · rcases h' with ⟨hw', _⟩ | ⟨hw', _⟩ | ⟨_, q'⟩
    · omega
    · omega
    · exact q.uq (q'.cf ef)
theorem rgO.uq {σ : Sg} {x0 x1 r r' : Int} (h : rgO σ x0 x1 r) (h' : rgO σ x0 x1 r') : r = r' := by
  rcases h with ⟨a, b⟩ | ⟨a, l, b, c⟩
  · rcases h' with ⟨_, b'⟩ | ⟨a', _⟩
    · rw [b, b']
    · exact absurd a' a
  · rcases h' with ⟨a', _⟩ | ⟨_, l', b', c'⟩
    · exact absurd a a'
    · have := b.uq b'
      subst this
      exact c.uq c'
def chO (σ : Sg) (x0 x1 x2 r : Int) : Prop := (¬ ((0 ≤ x0 ∧ x0 ≤ 5) ∧ bv x1 ∧ bv x2 ∧ x1 ≠ x2) ∧ r = -1) ∨ (((0 ≤ x0 ∧ x0 ≤ 5) ∧ bv x1 ∧ bv x2 ∧ x1 ≠ x2) ∧ ∃ l, RowL σ x0 l ∧ ((CX (CT l NoV) x1 x2 ∧ r = 1) ∨ (¬ CX (CT l NoV) x1 x2 ∧ r = 0)))
theorem chO.uq {σ : Sg} {x0 x1 x2 r r' : Int} (h : chO σ x0 x1 x2 r) (h' : chO σ x0 x1 x2 r') : r = r' := by
  rcases h with ⟨a, b⟩ | ⟨a, l, b, c⟩
  · rcases h' with ⟨_, b'⟩ | ⟨a', _⟩
    · rw [b, b']
    · exact absurd a' a
  · rcases h' with ⟨a', _⟩ | ⟨_, l', b', c'⟩
    · exact absurd a a'
    · have := b.uq b'
      subst this
      rcases c with ⟨c1, c2⟩ | ⟨c1, c2⟩
      · rcases c' with ⟨d1, d2⟩ | ⟨d1, d2⟩
        · rw [c2, d2]
        · exact absurd c1 d1
      · rcases c' with ⟨d1, d2⟩ | ⟨d1, d2⟩
        · exact absurd d1 c1
        · rw [c2, d2]
theorem cm_ok {l : List Int} {P : Int} (hP : BS P (pres l)) (hl : l.length ≤ 480) : CmP P (cmg l) := by
  intro v hv
  have b := cmg_b (l := l) (v := v)
  refine ⟨⟨b.1, by omega⟩, fun q => ?_, fun q => ?_⟩
  · have m := (hP.2 v hv).mp q
    have : ∃ c ∈ l, isCm v c = true := by
      rcases m with m | m
      · exact ⟨_, m, by unfold isCm; exact decide_eq_true (Or.inl rfl)⟩
      · exact ⟨_, m, by unfold isCm; exact decide_eq_true (Or.inr rfl)⟩
    obtain ⟨c, hc, e⟩ := this
    have hm : c ∈ l.filter (isCm v) := List.mem_filter.mpr ⟨hc, e⟩
    have := List.length_pos_of_mem hm
    unfold cmg
    omega
  · have : l.filter (isCm v) = [] := by
      rw [List.filter_eq_nil_iff]
      intro c hc e
      unfold isCm at e
      have e := of_decide_eq_true e
      refine q ((hP.2 v hv).mpr ?_)
      rcases e with e | e
      · exact Or.inl (by rw [← e]; exact hc)
      · exact Or.inr (by rw [← e]; exact hc)
    unfold cmg
    rw [this]
    rfl
section FBk
variable {σ : Sg} {slot slotLong : Int → Int} {x0 x1 x2 : Int}
theorem registers_kx (hS : SL σ slot slotLong) {K : Int → Sg → Prop} (k : ∀ v σ', rgO σ x0 x1 v → Fq q84 No No σ σ' → K v σ') : wp5_S_registers σ x0 x1 K := by
  refine slotAt_k (fun v0 => ⟨fun z => absurd z (by omega), fun _ => ⟨⟨by omega, by omega⟩, ?_⟩⟩) (fun hb => ⟨fun _ => k _ σ (Or.inl ⟨fun q => hb q.1, rfl⟩) Fq.refl, fun z => absurd z (by decide)⟩)
  obtain ⟨l, h1, h2, h3, h4, h5, h6, h7⟩ := hS.get v0.1 v0.2
  have ll := h1.len
  refine study_k h2 h1 h5 h6 (fun s f std => ?_)
  obtain ⟨hM, hP, hG⟩ := std
  have up : ∀ {s'}, Sx 87 s s' → Fq q84 No No σ s' := fun g => f.trans (g.fq84 ⟨by decide, by decide⟩)
  have ok : ∀ r, (x1 = 0 ∨ (10 ≤ x1 ∧ x1 ≤ 15) ∨ (20 ≤ x1 ∧ x1 ≤ 26)) → ((x1 = 0 ∧ ∃ a, FewE (s.1 84 4) (s.2.1 85) r a) ∨ ((10 ≤ x1 ∧ x1 ≤ 15) ∧ ∃ n a, FewE (s.1 84 4) (s.2.1 85) n a ∧ r = a (x1 - 10)) ∨ ((20 ≤ x1 ∧ x1 ≤ 26) ∧ BestE (s.1 84 4) (x1 - 20) (s.2.1 85) (cmg l) r)) → rgO σ x0 x1 r := fun r hx q => Or.inr ⟨⟨v0, hx⟩, l, h2, _, _, hM, hP, q⟩
  have bad : ¬ (x1 = 0 ∨ (10 ≤ x1 ∧ x1 ≤ 15) ∨ (20 ≤ x1 ∧ x1 ≤ 26)) → rgO σ x0 x1 (-1) := fun hx => Or.inl ⟨fun q => hx q.2, rfl⟩
  have r56 : x1 ≠ 0 → ¬ (10 ≤ x1 ∧ x1 ≤ 15) → wp5_S_registers_56 K x1 s := fun z0 z1 => ⟨fun z => k _ s (bad (by omega)) f, fun z => ⟨fun z2 => k _ s (bad (by omega)) f, fun z2 => ⟨rng_small (by omega) (by omega), spills_k (f := s.2.1 85) (g := cmg l) (by omega) (by omega) rfl hP.1 rfl hG (cm_ok hP (by omega)) (fun b s' g best => k b s' (ok b (by omega) (Or.inr (Or.inr ⟨by omega, best⟩))) (up g))⟩⟩⟩
  exact ⟨fun z0 => ⟨fun z => r56 z0 (by omega), fun z => ⟨fun z2 => r56 z0 (by omega), fun z2 => ⟨rng_small (by omega) (by omega), fewest_k rfl (fun n s' g few => isVariable_k (fun h => t1 ⟨⟨h.1, by omega⟩, k _ s' (ok _ (by omega) (Or.inr (Or.inl ⟨by omega, n, _, few, rfl⟩))) (up g)⟩) (fun h => absurd (show 0 ≤ x1 - 10 ∧ x1 - 10 ≤ 5 by omega) h))⟩⟩⟩, fun z0 => fewest_k rfl (fun r s' g few => k r s' (ok r (Or.inl z0) (Or.inl ⟨z0, _, few⟩)) (up g))⟩
theorem registers_x (hS : SL σ slot slotLong) {row c d : Int → Int} {many : Int} {K : Int → (Int → Int) → Int → (Int → Int) → (Int → Int) → Prop} (k : ∀ r, rgO σ x0 x1 r → ∀ a b c d, K r a b c d) : wp_registers slot slotLong row many c d x0 x1 K := by
  have bad : ¬ ((0 ≤ x0 ∧ x0 ≤ 5) ∧ (x1 = 0 ∨ (10 ≤ x1 ∧ x1 ≤ 15) ∨ (20 ≤ x1 ∧ x1 ≤ 26))) → ∀ a b c d, K (-1) a b c d := fun h => k _ (Or.inl ⟨h, rfl⟩)
  have main : 0 ≤ x0 → x0 ≤ 5 → (x1 = 0 ∨ (10 ≤ x1 ∧ x1 ≤ 15) ∨ (20 ≤ x1 ∧ x1 ≤ 26)) → wp_registers_35 K slot slotLong row many c d x0 x1 := by
    intro s0 s5 hx
    obtain ⟨l, h1, h2, h3, h4, h5, h6, h7⟩ := hS.get s0 s5
    have ll := h1.len
    refine clashIn_x s0 s5 h1 h3 h4 h5 h6 (fun r c' hw hM => inRow_x hw.2.1 rfl (by omega) (fun P hP => ?_))
    have ok : ∀ r, ((x1 = 0 ∧ ∃ a, FewE P c' r a) ∨ ((10 ≤ x1 ∧ x1 ≤ 15) ∧ ∃ n a, FewE P c' n a ∧ r = a (x1 - 10)) ∨ ((20 ≤ x1 ∧ x1 ≤ 26) ∧ BestE P (x1 - 20) c' (cmg l) r)) → rgO σ x0 x1 r := fun r q => Or.inr ⟨⟨⟨s0, s5⟩, hx⟩, l, h2, c', P, hM, hP, q⟩
    exact ⟨fun h15 => enough_x (fun n d' few => ⟨fun z => ⟨⟨by omega, by omega⟩, k _ (ok _ (Or.inr (Or.inl ⟨by omega, n, d', few, rfl⟩))) _ _ _ _⟩, fun z => k n (ok n (Or.inl ⟨z, d', few⟩)) _ _ _ _⟩), fun h15 => ⟨⟨by omega, by omega⟩, spills_x hw.2.1 rfl (by omega) hP.1 (by omega) (by omega) (fun b d' best => k b (ok b (Or.inr (Or.inr ⟨by omega, best⟩))) _ _ _ _)⟩⟩
  refine isSlot_c (fun a0 b0 => t1 ⟨fun z => main a0 b0 (Or.inl z), fun z => isIn_c (fun p q => u1 (main a0 b0 (Or.inr (Or.inl ⟨p, q⟩)))) (fun z1 => u0 (isIn_c (fun p q => u1 (main a0 b0 (Or.inr (Or.inr ⟨p, q⟩)))) (fun z2 => u0 (bad (fun q => by have := q.2; omega) _ _ _ _))))⟩) (fun h => t0 (bad (fun q => h q.1) _ _ _ _))
theorem clash_kx (hS : SL σ slot slotLong) {K : Int → Sg → Prop} (k : ∀ v σ', chO σ x0 x1 x2 v → Fq q84 No No σ σ' → K v σ') : wp5_S_clash σ x0 x1 x2 K := by
  have bad : ¬ ((0 ≤ x0 ∧ x0 ≤ 5) ∧ bv x1 ∧ bv x2 ∧ x1 ≠ x2) → K (-1) σ := fun h => k _ σ (Or.inl ⟨h, rfl⟩) Fq.refl
  refine slotAt_k (fun v0 => ⟨fun z => absurd z (by omega), fun _ => ⟨⟨by omega, by omega⟩, isVariable_k (fun b1 => t1 (isVariable_k (fun b2 => t1 ⟨fun ne => ?_, fun e => bad (fun q => q.2.2.2 e)⟩) (fun z => t0 (bad (fun q => z q.2.2.1))))) (fun z => t0 (bad (fun q => z q.2.1)))⟩⟩) (fun hb => ⟨fun _ => bad (fun q => hb q.1), fun z => absurd z (by decide)⟩)
  obtain ⟨l, h1, h2, h3, h4, h5, h6, h7⟩ := hS.get v0.1 v0.2
  refine study_k h2 h1 h5 h6 (fun s f std => ?_)
  have hb := (std.1 x1 b1).2 x2 b2
  exact clashing_k b1 b2 (fun c => ⟨fun z => absurd z (by decide), fun _ => k 1 s (Or.inr ⟨⟨v0, b1, b2, ne⟩, l, h2, Or.inl ⟨(hb.mp c).2, rfl⟩⟩) f⟩) (fun c => ⟨fun _ => k 0 s (Or.inr ⟨⟨v0, b1, b2, ne⟩, l, h2, Or.inr ⟨fun q => c (hb.mpr ⟨ne, q⟩), rfl⟩⟩) f, fun z => absurd rfl z⟩)
theorem clash_x (hS : SL σ slot slotLong) {row c : Int → Int} {many : Int} {K : Int → (Int → Int) → Int → (Int → Int) → Prop} (k : ∀ r, chO σ x0 x1 x2 r → ∀ a b c, K r a b c) : wp_clash slot slotLong row many c x0 x1 x2 K := by
  have bad : ¬ ((0 ≤ x0 ∧ x0 ≤ 5) ∧ bv x1 ∧ bv x2 ∧ x1 ≠ x2) → ∀ a b c, K (-1) a b c := fun h => k _ (Or.inl ⟨h, rfl⟩)
  refine isSlot_c (fun a0 b0 => t1 (isIn_c (fun p1 p2 => t1 (isIn_c (fun q1 q2 => t1 ⟨fun ne => ?_, fun e => bad (fun q => q.2.2.2 e) _ _ _⟩) (fun z => t0 (bad (fun q => z q.2.2.1) _ _ _)))) (fun z => t0 (bad (fun q => z q.2.1) _ _ _)))) (fun z => t0 (bad (fun q => z q.1) _ _ _))
  obtain ⟨l, h1, h2, h3, h4, h5, h6, h7⟩ := hS.get a0 b0
  refine clashIn_x a0 b0 h1 h3 h4 h5 h6 (fun r c' hw hM => ⟨⟨by omega, by omega⟩, ?_⟩)
  have hb := (hM x1 ⟨p1, p2⟩).2 x2 ⟨q1, q2⟩
  rcases bt01 (c' x1) x2 with z | z
  · have z : ziand (zishr (c' x1) x2) 1 = 0 := z
    rw [z]
    exact k 0 (Or.inr ⟨⟨⟨a0, b0⟩, ⟨p1, p2⟩, ⟨q1, q2⟩, ne⟩, l, h2, Or.inr ⟨fun q => (hb.mpr ⟨ne, q⟩) z, rfl⟩⟩) _ _ _
  · have z : ziand (zishr (c' x1) x2) 1 = 1 := z
    rw [z]
    exact k 1 (Or.inr ⟨⟨⟨a0, b0⟩, ⟨p1, p2⟩, ⟨q1, q2⟩, ne⟩, l, h2, Or.inl ⟨(hb.mp (by show ziand (zishr (c' x1) x2) 1 ≠ 0; omega)).2, rfl⟩⟩) _ _ _
end FBk
