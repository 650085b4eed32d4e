-- ===== spills: the first subset that is least in comings
def cmW (g : Int → Int) (x : Int) : Nat → Int
  | 0 => 0
  | v + 1 => cmW g x v + (if bt x v = 0 then 0 else g v)
section FA
variable {g h : Int → Int} {x y : Int}
theorem cmW_cg : ∀ n : Nat, (∀ v : Int, 0 ≤ v → v < n → g v = h v) → cmW g x n = cmW h x n := by
  intro n
  induction n with
  | zero => exact fun _ => rfl
  | succ n ih =>
    intro e
    unfold cmW
    rw [ih (fun v v0 v1 => e v v0 (by omega)), e n (by omega) (by omega)]
theorem cmW_add {v0 : Int} (hv : 0 ≤ v0) : ∀ n : Nat, cmW (fun v => g v + (if v = v0 then 1 else 0)) x n = cmW g x n + (if v0 < (n : Int) then (if bt x v0 = 0 then 0 else 1) else 0) := by
  intro n
  induction n with
  | zero => rw [if_neg (by omega)]; rfl
  | succ n ih =>
    unfold cmW
    rw [ih]
    by_cases e : (n : Int) = v0
    · rw [if_neg (show ¬ v0 < (n : Int) by omega), if_pos (show v0 < ((n + 1 : Nat) : Int) by omega), e]
      by_cases z : bt x v0 = 0
      · rw [if_pos z, if_pos z, if_pos z]
      · rw [if_neg z, if_neg z, if_neg z, if_pos rfl]; omega
    · have e2 : ((if (n : Int) = v0 then (1 : Int) else 0)) = 0 := if_neg e
      rw [e2]
      by_cases q : v0 < (n : Int)
      · rw [if_pos q, if_pos (show v0 < ((n + 1 : Nat) : Int) by omega)]
        by_cases z : bt x n = 0
        · rw [if_pos z, if_pos z]; omega
        · rw [if_neg z, if_neg z]; omega
      · rw [if_neg q, if_neg (show ¬ v0 < ((n + 1 : Nat) : Int) by omega)]
        by_cases z : bt x n = 0
        · rw [if_pos z, if_pos z]
        · rw [if_neg z, if_neg z]; omega
theorem cmW_b {B : Int} (hg : ∀ v, bv v → 0 ≤ g v ∧ g v ≤ B) : ∀ n : Nat, n ≤ 6 → 0 ≤ cmW g x n ∧ cmW g x n ≤ B * n := by
  intro n
  induction n with
  | zero => exact fun _ => ⟨by show (0 : Int) ≤ 0; decide, by show (0 : Int) ≤ B * 0; omega⟩
  | succ n ih =>
    intro hn
    have h1 := ih (by omega)
    have h2 := hg n ⟨by omega, by omega⟩
    have e : B * ((n + 1 : Nat) : Int) = B * n + B := by rw [Int.natCast_add, Int.mul_add]; omega
    unfold cmW
    rw [e]
    by_cases z : bt x n = 0
    · rw [if_pos z]; omega
    · rw [if_neg z]; omega
/-- fewer variables, fewer comings -/
theorem cmW_sub (hg : ∀ v, bv v → 0 ≤ g v) (hs : ∀ v, bv v → bitR x v → bitR y v) : ∀ n : Nat, n ≤ 6 → cmW g x n ≤ cmW g y n ∧ ((∃ v : Int, 0 ≤ v ∧ v < n ∧ ¬ bitR x v ∧ bitR y v ∧ 1 ≤ g v) → cmW g x n < cmW g y n) := by
  intro n
  induction n with
  | zero => exact fun _ => ⟨Int.le_refl 0, fun ⟨v, v0, v1, _⟩ => by omega⟩
  | succ n ih =>
    intro hn
    obtain ⟨h1, h2⟩ := ih (by omega)
    have bn : bv (n : Int) := ⟨by omega, by omega⟩
    have gn := hg n bn
    have t : (if bt x n = 0 then 0 else g n) ≤ (if bt y n = 0 then 0 else g n) := by
      by_cases z : bt x n = 0
      · rw [if_pos z]
        by_cases z2 : bt y n = 0
        · rw [if_pos z2]; exact Int.le_refl 0
        · rw [if_neg z2]; exact gn
      · have z2 : ¬ bt y n = 0 := hs n bn z
        rw [if_neg z, if_neg z2]; exact Int.le_refl _
    unfold cmW
    refine ⟨by omega, fun ⟨v, v0, v1, q1, q2, q3⟩ => ?_⟩
    by_cases e : v = n
    · rw [e] at q1 q2 q3
      have z : bt x n = 0 := Classical.not_not.mp q1
      have z2 : ¬ bt y n = 0 := q2
      rw [if_pos z, if_neg z2]
      omega
    · have := h2 ⟨v, v0, by omega, q1, q2, q3⟩
      omega
theorem cmW_same (hs : ∀ v, bv v → g v ≠ 0 → (bitR x v ↔ bitR y v)) : ∀ n : Nat, n ≤ 6 → cmW g x n = cmW g y n := by
  intro n
  induction n with
  | zero => exact fun _ => rfl
  | succ n ih =>
    intro hn
    unfold cmW
    rw [ih (by omega)]
    by_cases z : g n = 0
    · rw [z]
      by_cases q : bt x n = 0
      · by_cases q2 : bt y n = 0
        · rw [if_pos q, if_pos q2]
        · rw [if_pos q, if_neg q2]
      · by_cases q2 : bt y n = 0
        · rw [if_neg q, if_pos q2]
        · rw [if_neg q, if_neg q2]
    · have e := hs n ⟨by omega, by omega⟩ z
      by_cases q : bt x n = 0
      · have q2 : bt y n = 0 := Classical.not_not.mp (fun c => e.mpr c q)
        rw [if_pos q, if_pos q2]
      · have q2 : ¬ bt y n = 0 := e.mp q
        rw [if_neg q, if_neg q2]
end FA
/-- subsets -/
def SubP (P S : Int) : Prop := (0 ≤ S ∧ S < 64) ∧ ziand S (zixor P (-1)) = 0
def FsP (P k : Int) (f : Int → Int) (S : Int) : Prop := ∃ b, Tot (ziand P (zixor S (-1))) k b ∧ Vdl f b
def BestE (P k : Int) (f g : Int → Int) (b : Int) : Prop := SubP P b ∧ FsP P k f b ∧ ∀ S, SubP P S → FsP P k f S → cmW g b 6 ≤ cmW g S 6 ∧ (S < b → cmW g b 6 < cmW g S 6)
theorem BestE.uq {P k : Int} {f g : Int → Int} {b b' : Int} (h : BestE P k f g b) (h' : BestE P k f g b') : b = b' := by
  have q1 := h.2.2 b' h'.1 h'.2.1
  have q2 := h'.2.2 b h.1 h.2.1
  by_cases c : b < b'
  · have := q2.2 c; omega
  · by_cases c2 : b' < b
    · have := q1.2 c2; omega
    · omega
theorem subP_bits {P S : Int} (hP : b63 P) (hS : b63 S) : ziand S (zixor P (-1)) = 0 ↔ ∀ v, bv v → bitR S v → bitR P v := by
  have h := an63 hS hP
  constructor
  · intro z v hv q
    have := h.2 v hv
    rw [z] at this
    exact Classical.not_not.mp (fun c => (no0 hv) (this.mpr ⟨q, c⟩))
  · intro z
    exact bits_ext h.1 b63_0 (fun v hv => by rw [h.2 v hv]; exact ⟨fun q => absurd (z v hv q.1) q.2, fun q => absurd q (no0 hv)⟩)
theorem zan64 : ∀ (a b : Fin 64), (0 ≤ ziand a.val b.val ∧ ziand a.val b.val ≤ a.val) ∧ ∀ w : Fin 6, (ziand (zishr (ziand a.val b.val) w.val) 1 ≠ 0) ↔ (ziand (zishr a.val w.val) 1 ≠ 0 ∧ ziand (zishr b.val w.val) 1 ≠ 0) := by decide +kernel
theorem and64 {a b : Int} (ha : b63 a) (hb : b63 b) : (0 ≤ ziand a b ∧ ziand a b ≤ a) ∧ ∀ w, bv w → (bitR (ziand a b) w ↔ bitR a w ∧ bitR b w) := by
  obtain ⟨m, hm⟩ : ∃ m : Fin 64, a = (m.val : Int) := ⟨⟨a.toNat, by unfold b63 at ha; omega⟩, by unfold b63 at ha; show a = ((a.toNat : Nat) : Int); omega⟩
  obtain ⟨n, hn⟩ : ∃ n : Fin 64, b = (n.val : Int) := ⟨⟨b.toNat, by unfold b63 at hb; omega⟩, by unfold b63 at hb; show b = ((b.toNat : Nat) : Int); omega⟩
  rw [hm, hn]
  have h := zan64 m n
  refine ⟨h.1, fun w hw => ?_⟩
  obtain ⟨k, rfl⟩ := fin6 hw.1 hw.2
  exact h.2 k
/-- comings against the variables present -/
def CmP (P : Int) (g : Int → Int) : Prop := ∀ v, bv v → (0 ≤ g v ∧ g v ≤ 480) ∧ (bitR P v → 1 ≤ g v) ∧ (¬ bitR P v → g v = 0)
theorem Fs_P {P k : Int} {f : Int → Int} (hP : b63 P) : FsP P k f P := by
  have h := an63 hP hP
  refine ⟨fun _ => -1, fun v hv => ⟨fun q => absurd ((h.2 v hv).mp q).1 ((h.2 v hv).mp q).2, fun _ => rfl⟩, fun v w _ _ _ h1 _ => absurd rfl h1⟩
theorem cs_lt {P S : Int} {g : Int → Int} (hP : b63 P) (hg : CmP P g) (hS : SubP P S) (hne : S ≠ P) : cmW g S 6 < cmW g P 6 := by
  have bS : b63 S := ⟨hS.1.1, by have := hS.1.2; omega⟩
  have sb := (subP_bits hP bS).mp hS.2
  refine (cmW_sub (fun v hv => (hg v hv).1.1) sb 6 (by decide)).2 ?_
  refine Classical.byContradiction (fun no => hne (bits_ext bS hP (fun v hv => ⟨sb v hv, fun q => ?_⟩)))
  refine Classical.byContradiction (fun c => no ⟨v, hv.1, by unfold bv at hv; omega, c, q, (hg v hv).2.1 q⟩)
section FAk
variable {σ : Sg}
theorem comingsOf_k {x : Int} {g : Int → Int} {K : Int → Prop} (hg : ∀ v, bv v → σ.2.1 86 v = g v) (gb : ∀ v, bv v → 0 ≤ g v ∧ g v ≤ 480) (k : K (cmW g x 6)) : wp5_G_comingsOf σ x K := by
  refine wl2_rule (fun (n i : Int) => (0 ≤ i ∧ i ≤ 6) ∧ n = cmW g x i.toNat) (fun (_ i : Int) => (6 - i).toNat) ?_ ⟨by omega, rfl⟩
  rintro P n i ⟨hi, hn⟩ ih
  have hb := cmW_b (x := x) gb i.toNat (by omega)
  have h6 : (480 : Int) * (i.toNat : Int) ≤ 2880 := by omega
  refine ⟨fun h => ?_, fun hlt => ?_⟩
  · have e : i.toNat = 6 := by omega
    rw [hn, e]; exact k
  · have en : (i + 1).toNat = i.toNat + 1 := by omega
    have ei : ((i.toNat : Nat) : Int) = i := by omega
    have es : cmW g x (i.toNat + 1) = cmW g x i.toNat + (if bt x i = 0 then 0 else g i) := by
      show cmW g x i.toNat + (if bt x ((i.toNat : Nat) : Int) = 0 then 0 else g ((i.toNat : Nat) : Int)) = _
      rw [ei]
    have bi : bv i := ⟨hi.1, by omega⟩
    refine ⟨fun z => ⟨rng_small (by omega) (by omega), rng_small (by omega) (by omega), ih _ _ ⟨by omega, ?_⟩ (by omega)⟩, fun z => ⟨⟨hi.1, hlt⟩, ?_⟩⟩
    · rw [en, es, if_pos (show bt x i = 0 from z), hn]
    · rw [hg i bi]
      have := gb i bi
      refine ⟨rng_small (by omega) (by omega), rng_small (by omega) (by omega), ih _ _ ⟨by omega, ?_⟩ (by omega)⟩
      rw [en, es, if_neg (show ¬ bt x i = 0 from z), hn]
theorem spills_k {m : Int} {P : Int} {f g : Int → Int} {K : Int → Sg → Prop} (m0 : 0 ≤ m) (hm : m ≤ 100) (eP : σ.1 84 4 = P) (hP : b63 P) (hf : σ.2.1 85 = f) (hg : ∀ v, bv v → σ.2.1 86 v = g v) (gp : CmP P g) (k : ∀ b σ', Sx 87 σ σ' → BestE P m f g b → K b σ') : wp5_G_spills σ m K := by
  have x : ∀ g b : Int → Int, Ext 0 g b := fun g b w w0 w1 => by omega
  have pt : ∀ s j : Int, ∀ g, PreT s j 0 g := fun s j g w w0 w1 => by omega
  have pv : ∀ g, PreW f 0 g := fun g x w w0 w1 w2 => by omega
  have gb : ∀ v, bv v → 0 ≤ g v ∧ g v ≤ 480 := fun v hv => (gp v hv).1
  have subP : SubP P P := ⟨⟨hP.1, by have := hP.2; omega⟩, (subP_bits hP hP).mpr (fun _ _ q => q)⟩
  refine comingsOf_k hg gb ?_
  rw [eP]
  refine wl4_rule (fun (best least i : Int) (t : Sg) => (0 ≤ i ∧ i ≤ 64) ∧ Sx 87 σ t ∧ SubP P best ∧ FsP P m f best ∧ least = cmW g best 6 ∧ (best = P ∨ best < i) ∧ ∀ S, 0 ≤ S → S < i → FsP P m f S → cmW g best 6 ≤ cmW g S 6 ∧ (SubP P S → S < best → cmW g best 6 < cmW g S 6)) (fun (_ _ i : Int) _ => (64 - i).toNat) ?_ ⟨by omega, Sx.refl, subP, Fs_P hP, rfl, Or.inl rfl, fun S s0 s1 => by omega⟩
  rintro Q best least i t ⟨hi, ft, hsub, hfs, hl, hb, inv⟩ ih
  have e84 : t.1 84 4 = P := by rw [ft.1]; exact eP
  have t85 : t.2.1 85 = f := (ft.2.2 85 (by decide)).trans hf
  have hgt : ∀ v, bv v → t.2.1 86 v = g v := fun v hv => by rw [ft.2.2 86 (by decide)]; exact hg v hv
  refine ⟨fun h64 => k best t ft ⟨hsub, hfs, fun S hS hF => ⟨(inv S hS.1.1 (by have := hS.1.2; omega) hF).1, fun q => (inv S hS.1.1 (by have := hS.1.2; omega) hF).2 hS q⟩⟩, fun hlt => comingsOf_k hgt gb ?_⟩
  -- a set that isn't taken
  have skip : ∀ t', Sx 87 σ t' → (FsP P m f i → least ≤ cmW g i 6) → rng (i + 1) ∧ Q best least (i + 1) t' := by
    intro t' ft' hno
    refine ⟨rng_small (by omega) (by omega), ih _ _ _ _ ⟨by omega, ft', hsub, hfs, hl, hb.imp id (fun q => by omega), fun S s0 s1 hF => ?_⟩ (by omega)⟩
    by_cases e : S = i
    · rw [e] at hF ⊢
      have h1 := hno hF
      refine ⟨by omega, fun hS q => ?_⟩
      rcases hb with hb | hb
      · have := cs_lt hP gp hS (by omega)
        rw [hb] at hl
        omega
      · omega
    · exact inv S s0 (by omega) hF
  refine ⟨fun hge => skip t ft (fun _ => hge), fun hle => ?_⟩
  rw [e84]
  refine deal0_k m0 hm t85 (pt _ _ _) (pv _) (fun σ' f' win => ⟨fun z => absurd z (by decide), fun _ => ?_⟩) (fun σ' f' _ no => ⟨fun _ => skip σ' (ft.trans f') (fun ⟨b, hb1, hb2⟩ => absurd hb2 (no b hb1 (x _ _))), fun z => absurd rfl z⟩)
  have hF : FsP P m f i := ⟨_, win.1, win.2.2.1⟩
  have bi : b63 i := ⟨hi.1, by omega⟩
  have hSub : SubP P i := by
    refine ⟨⟨hi.1, hlt⟩, Classical.byContradiction (fun z => ?_)⟩
    have a := and64 bi hP
    have bS : b63 (ziand i P) := ⟨a.1.1, by have := a.1.2; omega⟩
    have sS : SubP P (ziand i P) := ⟨⟨a.1.1, by have := a.1.2; omega⟩, (subP_bits hP bS).mpr (fun v hv q => ((a.2 v hv).mp q).2)⟩
    have ne : ziand i P ≠ i := fun q => z (by rw [q] at sS; exact sS.2)
    have hc : cmW g (ziand i P) 6 = cmW g i 6 := cmW_same (fun v hv h0 => by
      rw [a.2 v hv]
      exact ⟨fun q => q.1, fun q => ⟨q, Classical.byContradiction (fun c => h0 ((gp v hv).2.2 c))⟩⟩) 6 (by decide)
    have e2 : ziand P (zixor (ziand i P) (-1)) = ziand P (zixor i (-1)) := by
      have h1 := an63 hP bS
      have h2 := an63 hP bi
      refine bits_ext h1.1 h2.1 (fun v hv => ?_)
      rw [h1.2 v hv, h2.2 v hv, a.2 v hv]
      exact ⟨fun q => ⟨q.1, fun c => q.2 ⟨c, q.1⟩⟩, fun q => ⟨q.1, fun c => q.2 c.1⟩⟩
    have hF2 : FsP P m f (ziand i P) := by
      obtain ⟨b, b1, b2⟩ := hF
      exact ⟨b, by rw [e2]; exact b1, b2⟩
    have := (inv _ a.1.1 (by have := a.1.2; omega) hF2).1
    omega
  refine ⟨rng_small (by omega) (by omega), ih _ _ _ _ ⟨by omega, ft.trans f', hSub, hF, rfl, Or.inr (by omega), fun S s0 s1 hFS => ?_⟩ (by omega)⟩
  by_cases e : S = i
  · rw [e]; exact ⟨Int.le_refl _, fun _ q => by omega⟩
  · have := (inv S s0 (by omega) hFS).1
    exact ⟨by omega, fun _ _ => by omega⟩
end FAk
