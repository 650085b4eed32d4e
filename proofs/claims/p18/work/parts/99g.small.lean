-- ===== feed, end, fault, item, clear: class and reference
theorem byte_rg (x : Int) : 0 ≤ ziand x 255 ∧ ziand x 255 ≤ 255 := by
  unfold ziand
  have e : (zI x &&& zI 255).toInt = ((zI x).toBitVec &&& 255#32).toInt := rfl
  rw [e]
  have h : ((zI x).toBitVec &&& 255#32).toNat ≤ 255 := by
    rw [BitVec.toNat_and]
    exact Nat.and_le_right
  rw [BitVec.toInt_eq_toNat_of_lt (by omega)]
  omega
theorem sh_bits (b : BitVec 32) (k : Nat) (hk : k ≤ 24) : (b >>> k) &&& 255#32 = (b.sshiftRight k) &&& 255#32 := by
  apply BitVec.eq_of_getLsbD_eq
  intro i hi
  rw [BitVec.getLsbD_and, BitVec.getLsbD_and]
  by_cases h8 : i < 8
  · congr 1
    rw [BitVec.getLsbD_ushiftRight, BitVec.getLsbD_sshiftRight]
    simp only [show ¬ (32 ≤ i) by omega, decide_false, Bool.not_false, Bool.true_and, show k + i < 32 by omega, if_true]
  · have : (255#32).getLsbD i = false := by
      have q : (255#32 : BitVec 32) = BitVec.ofNat 32 255 := rfl
      rw [BitVec.getLsbD_ofNat]
      have : Nat.testBit 255 i = false := Nat.testBit_lt_two_pow (by
        calc 255 < 2 ^ 8 := by decide
          _ ≤ 2 ^ i := Nat.pow_le_pow_right (by decide) (by omega))
      rw [this]; simp
    rw [this, Bool.and_false, Bool.and_false]
theorem sh_same (x : Int) (y : Int) (hy : y = 0 ∨ y = 8 ∨ y = 16 ∨ y = 24) : ziand (ziushr x y) 255 = ziand (zishr x y) 255 := by
  unfold ziand
  rw [← ziushr_eq, ← zishr_eq]
  have key : ∀ k : Nat, k ≤ 24 → ((zI x).toBitVec >>> k) &&& 255#32 = ((zI x).toBitVec.sshiftRight k) &&& 255#32 := fun k hk => sh_bits _ k hk
  rcases hy with rfl | rfl | rfl | rfl
  · exact congrArg BitVec.toInt (key 0 (by decide))
  · exact congrArg BitVec.toInt (key 8 (by decide))
  · exact congrArg BitVec.toInt (key 16 (by decide))
  · exact congrArg BitVec.toInt (key 24 (by decide))
theorem rem4 (j : Nat) (hj : j < 20) : zirem (j : Int) 4 = ((j % 4 : Nat) : Int) := by
  have : ∀ n : Fin 20, zirem ((n.val : Nat) : Int) 4 = ((n.val % 4 : Nat) : Int) := by decide
  exact this ⟨j, hj⟩
def byS (σ : Sg) (v : Int) : Sg := pU (pF σ 4 (uZ (σ.2.1 4) (σ.1 3 1) v)) 3 1 (σ.1 3 1 + 1)
def byW (x y : Int) : Int := ziand (zishr x y) 255
def ptS (σ : Sg) (x : Int) : Sg := byS (byS (byS (byS σ (byW x 24)) (byW x 16)) (byW x 8)) (byW x 0)
theorem put_at {σ : Sg} {x : Int} {P : Sg → Prop} (h0 : 0 ≤ σ.1 3 1) (h8 : σ.1 3 1 + 4 ≤ 800) (h : P (ptS σ x)) : wp5_T_put σ x P := by
  unfold wp5_T_put
  intro L hL
  have st : ∀ (y : Int) (τ : Sg), (y = 0 ∨ y = 8 ∨ y = 16 ∨ y = 24) → 0 ≤ τ.1 3 1 ∧ τ.1 3 1 < 800 → L (y - 8) (byS τ (byW x y)) → L y τ := by
    intro y τ hy hτ hL'
    refine hL _ _ ?_
    unfold wp5_T_put_3
    rw [sh_same x y hy]
    exact ⟨fun z => absurd z (by omega), fun _ => ⟨fun z => absurd z (by omega), fun _ => ⟨hτ, ⟨by omega, by omega⟩, ⟨by omega, by omega⟩, hL'⟩⟩⟩
  have e1 : ∀ τ v, (byS τ v).1 3 1 = τ.1 3 1 + 1 := fun _ _ => rfl
  refine st 24 σ (by omega) (by omega) (st 16 _ (by omega) (by rw [e1]; omega) (st 8 _ (by omega) (by rw [e1, e1]; omega) (st 0 _ (by omega) (by rw [e1, e1, e1]; omega) ?_)))
  refine hL _ _ ?_
  unfold wp5_T_put_3
  exact ⟨fun _ => h, fun z => absurd z (by decide)⟩
theorem feed_both {σ : Sg} {x0 x1 x2 x3 x4 : Int} (h0 : 0 ≤ σ.1 3 1) (h8 : σ.1 3 1 ≤ 800) :
    ∃ r σ', (∀ K, K r σ' → wp5_S_feed σ x0 x1 x2 x3 x4 K) ∧ (∀ K, K r (σ'.2.1 4) (σ'.1 3 1) → wp_feed (σ.2.1 4) (σ.1 3 1) x0 x1 x2 x3 x4 K) ∧
      (∀ a b, (a ≠ 3 ∨ b ≠ 1) → σ'.1 a b = σ.1 a b) ∧ (∀ a, a ≠ 4 → σ'.2.1 a = σ.2.1 a) ∧ σ'.2.2 = σ.2.2 ∧ (0 ≤ σ'.1 3 1 ∧ σ'.1 3 1 ≤ 800) ∧ ((∀ j, 0 ≤ j → j < 800 → 0 ≤ σ.2.1 4 j ∧ σ.2.1 4 j ≤ 255) → ∀ j, 0 ≤ j → j < 800 → 0 ≤ σ'.2.1 4 j ∧ σ'.2.1 4 j ≤ 255) := by
  by_cases h : σ.1 3 1 + 20 ≤ 800
  · obtain ⟨σ', e'⟩ : ∃ σ', σ' = ptS (ptS (ptS (ptS (ptS σ x0) x1) x2) x3) x4 := ⟨_, rfl⟩
    have e1 : ∀ τ v, (ptS τ v).1 3 1 = τ.1 3 1 + 1 + 1 + 1 + 1 := fun _ _ => rfl
    have len' : σ'.1 3 1 = σ.1 3 1 + 20 := by rw [e', e1, e1, e1, e1, e1]; omega
    refine ⟨σ.1 3 1 + 20, σ', fun K hK => ?_, fun K hK => ?_, ?_, ?_, ?_, ?_, ?_⟩
    · unfold wp5_S_feed
      refine ⟨⟨by omega, by omega⟩, fun _ => ?_, fun z => absurd z (by omega)⟩
      refine put_at h0 (by omega) (put_at (by rw [e1]; omega) (by rw [e1]; omega) (put_at (by rw [e1, e1]; omega) (by rw [e1, e1]; omega) (put_at (by rw [e1, e1, e1]; omega) (by rw [e1, e1, e1]; omega) (put_at (by rw [e1, e1, e1, e1]; omega) (by rw [e1, e1, e1, e1]; omega) ?_))))
      rw [← e', len']; exact hK
    · unfold wp_feed
      refine ⟨⟨by omega, by omega⟩, fun _ Q hQ => ?_, fun z => absurd z (by omega)⟩
      have st : ∀ (j : Nat) (f : Int → Int) (v : Int), j < 20 → (v = if j < 4 then x0 else if j < 8 then x1 else if j < 12 then x2 else if j < 16 then x3 else x4) → Q ((j : Int) + 1) (uZ f (σ.1 3 1 + j) (byW v (24 - 8 * ((j % 4 : Nat) : Int)))) (σ.1 3 1 + j + 1) → Q (j : Int) f (σ.1 3 1 + j) := by
        intro j f v hj hv hq
        refine hQ _ _ _ ?_
        have f71 : ∀ v', v' = v → wp_feed_71 (j : Int) f (σ.1 3 1 + j) Q v' := by
          intro v' hv'
          unfold wp_feed_71
          rw [hv', rem4 j hj]
          exact ⟨⟨by omega, by omega⟩, ⟨by omega, by omega⟩, ⟨by omega, by omega⟩, hq⟩
        unfold wp_feed_18
        refine ⟨fun z => absurd z (by omega), fun _ => ⟨fun z1 => ⟨fun z2 => ⟨fun z3 => ⟨fun z4 => f71 _ ?_, fun z4 => f71 _ ?_⟩, fun z3 => f71 _ ?_⟩, fun z2 => f71 _ ?_⟩, fun z1 => f71 _ ?_⟩⟩
        · rw [hv, if_neg (by omega), if_neg (by omega), if_neg (by omega), if_neg (by omega)]
        · rw [hv, if_neg (by omega), if_neg (by omega), if_neg (by omega), if_pos (by omega)]
        · rw [hv, if_neg (by omega), if_neg (by omega), if_pos (by omega)]
        · rw [hv, if_neg (by omega), if_pos (by omega)]
        · rw [hv, if_pos (by omega)]
      have s4 : ∀ (q : Nat) (τ : Sg) (v : Int), q < 5 → (v = if 4 * q < 4 then x0 else if 4 * q < 8 then x1 else if 4 * q < 12 then x2 else if 4 * q < 16 then x3 else x4) → τ.1 3 1 = σ.1 3 1 + ((4 * q : Nat) : Int) → Q (((4 * (q + 1) : Nat)) : Int) ((ptS τ v).2.1 4) ((ptS τ v).1 3 1) → Q ((4 * q : Nat) : Int) (τ.2.1 4) (τ.1 3 1) := by
        intro q τ v hq hv hτ hQ'
        have b0 : (ptS τ v).2.1 4 = uZ (uZ (uZ (uZ (τ.2.1 4) (τ.1 3 1) (byW v 24)) (τ.1 3 1 + 1) (byW v 16)) (τ.1 3 1 + 1 + 1) (byW v 8)) (τ.1 3 1 + 1 + 1 + 1) (byW v 0) := rfl
        rw [b0, e1, hτ] at hQ'
        rw [hτ]
        have m0 : (4 * q) % 4 = 0 := by omega
        have m1 : (4 * q + 1) % 4 = 1 := by omega
        have m2 : (4 * q + 2) % 4 = 2 := by omega
        have m3 : (4 * q + 3) % 4 = 3 := by omega
        have vv : ∀ d, d < 4 → v = if 4 * q + d < 4 then x0 else if 4 * q + d < 8 then x1 else if 4 * q + d < 12 then x2 else if 4 * q + d < 16 then x3 else x4 := by
          intro d hd
          rw [hv]
          obtain rfl | rfl | rfl | rfl | rfl : q = 0 ∨ q = 1 ∨ q = 2 ∨ q = 3 ∨ q = 4 := by omega
          · rw [if_pos (by omega), if_pos (by omega)]
          · rw [if_neg (by omega), if_pos (by omega), if_neg (by omega), if_pos (by omega)]
          · rw [if_neg (by omega), if_neg (by omega), if_pos (by omega), if_neg (by omega), if_neg (by omega), if_pos (by omega)]
          · rw [if_neg (by omega), if_neg (by omega), if_neg (by omega), if_pos (by omega), if_neg (by omega), if_neg (by omega), if_neg (by omega), if_pos (by omega)]
          · rw [if_neg (by omega), if_neg (by omega), if_neg (by omega), if_neg (by omega), if_neg (by omega), if_neg (by omega), if_neg (by omega), if_neg (by omega)]
        refine st (4 * q) _ v (by omega) (vv 0 (by omega)) ?_
        have t1 := st (4 * q + 1) (uZ (τ.2.1 4) (σ.1 3 1 + ((4 * q : Nat) : Int)) (byW v (24 - 8 * ((4 * q % 4 : Nat) : Int)))) v (by omega) (vv 1 (by omega))
        have t2 := st (4 * q + 2) (uZ (uZ (τ.2.1 4) (σ.1 3 1 + ((4 * q : Nat) : Int)) (byW v 24)) (σ.1 3 1 + ((4 * q + 1 : Nat) : Int)) (byW v 16)) v (by omega) (vv 2 (by omega))
        have t3 := st (4 * q + 3) (uZ (uZ (uZ (τ.2.1 4) (σ.1 3 1 + ((4 * q : Nat) : Int)) (byW v 24)) (σ.1 3 1 + ((4 * q + 1 : Nat) : Int)) (byW v 16)) (σ.1 3 1 + ((4 * q + 2 : Nat) : Int)) (byW v 8)) v (by omega) (vv 3 (by omega))
        rw [m0] at t1 ⊢
        rw [m1] at t1
        rw [m2] at t2
        rw [m3] at t3
        have c1 : ((4 * q + 1 : Nat) : Int) = ((4 * q : Nat) : Int) + 1 := by omega
        have c2 : ((4 * q + 2 : Nat) : Int) = ((4 * q : Nat) : Int) + 1 + 1 := by omega
        have c3 : ((4 * q + 3 : Nat) : Int) = ((4 * q : Nat) : Int) + 1 + 1 + 1 := by omega
        have c4 : ((4 * (q + 1) : Nat) : Int) = ((4 * q : Nat) : Int) + 1 + 1 + 1 + 1 := by omega
        rw [c1] at t1
        rw [c1, c2] at t2
        rw [c1, c2, c3] at t3
        rw [c4] at hQ'
        simp only [← Int.add_assoc] at t1 t2 t3 hQ' ⊢
        exact t1 (t2 (t3 hQ'))
      have z0 : Q ((4 * 0 : Nat) : Int) (σ.2.1 4) (σ.1 3 1) := by
        refine s4 0 σ x0 (by omega) (by rw [if_pos (by omega)]) (by omega) ?_
        refine s4 1 (ptS σ x0) x1 (by omega) (by rw [if_neg (by omega), if_pos (by omega)]) (by rw [e1]; omega) ?_
        refine s4 2 (ptS (ptS σ x0) x1) x2 (by omega) (by rw [if_neg (by omega), if_neg (by omega), if_pos (by omega)]) (by rw [e1, e1]; omega) ?_
        refine s4 3 (ptS (ptS (ptS σ x0) x1) x2) x3 (by omega) (by rw [if_neg (by omega), if_neg (by omega), if_neg (by omega), if_pos (by omega)]) (by rw [e1, e1, e1]; omega) ?_
        refine s4 4 (ptS (ptS (ptS (ptS σ x0) x1) x2) x3) x4 (by omega) (by rw [if_neg (by omega), if_neg (by omega), if_neg (by omega), if_neg (by omega)]) (by rw [e1, e1, e1, e1]; omega) ?_
        rw [← e']
        refine hQ _ _ _ ?_
        unfold wp_feed_18
        refine ⟨fun _ => ?_, fun z => absurd z (by decide)⟩
        rw [len'] at hK ⊢
        exact hK
      exact z0
    · intro a b z
      have bn : ∀ τ v, (byS τ v).1 a b = τ.1 a b := fun τ v => by
        show (pU (pF τ 4 (uZ (τ.2.1 4) (τ.1 3 1) v)) 3 1 (τ.1 3 1 + 1)).1 a b = _
        rw [pU_ne z]; rfl
      have pn : ∀ τ v, (ptS τ v).1 a b = τ.1 a b := fun τ v => by unfold ptS; rw [bn, bn, bn, bn]
      rw [e', pn, pn, pn, pn, pn]
    · intro a z
      have bn : ∀ τ v, (byS τ v).2.1 a = τ.2.1 a := fun τ v => by
        show (bif Nat.beq a 4 then _ else τ.2.1 a) = _
        rw [show Nat.beq a 4 = false from Bool.eq_false_iff.mpr (fun q => z (Nat.eq_of_beq_eq_true q))]; rfl
      have pn : ∀ τ v, (ptS τ v).2.1 a = τ.2.1 a := fun τ v => by unfold ptS; rw [bn, bn, bn, bn]
      rw [e', pn, pn, pn, pn, pn]
    · rw [e']; rfl
    · omega
    · intro hb
      have bn : ∀ τ v, (0 ≤ v ∧ v ≤ 255) → (∀ j, 0 ≤ j → j < 800 → 0 ≤ τ.2.1 4 j ∧ τ.2.1 4 j ≤ 255) → ∀ j, 0 ≤ j → j < 800 → 0 ≤ (byS τ v).2.1 4 j ∧ (byS τ v).2.1 4 j ≤ 255 := by
        intro τ v hv hτ j j0 j1
        show 0 ≤ uZ (τ.2.1 4) (τ.1 3 1) v j ∧ uZ (τ.2.1 4) (τ.1 3 1) v j ≤ 255
        by_cases q : j = τ.1 3 1
        · rw [q, uZ_eq]; exact hv
        · rw [uZ_ne q]; exact hτ j j0 j1
      have pn : ∀ τ v, (∀ j, 0 ≤ j → j < 800 → 0 ≤ τ.2.1 4 j ∧ τ.2.1 4 j ≤ 255) → ∀ j, 0 ≤ j → j < 800 → 0 ≤ (ptS τ v).2.1 4 j ∧ (ptS τ v).2.1 4 j ≤ 255 := fun τ v hτ => bn _ _ (byte_rg _) (bn _ _ (byte_rg _) (bn _ _ (byte_rg _) (bn _ _ (byte_rg _) hτ)))
      rw [e']
      exact pn _ _ (pn _ _ (pn _ _ (pn _ _ (pn _ _ hb))))
  · refine ⟨-1, σ, fun K hK => ?_, fun K hK => ?_, fun _ _ _ => rfl, fun _ _ => rfl, rfl, ⟨h0, h8⟩, fun hb => hb⟩
    · unfold wp5_S_feed
      exact ⟨⟨by omega, by omega⟩, fun z => absurd z h, fun _ => hK⟩
    · unfold wp_feed
      exact ⟨⟨by omega, by omega⟩, fun z => absurd z h, fun _ => hK⟩
