section SYX
variable {σ u : Sg} {I I' : Nat → Int} {F F' : Nat → Int → Int} {LX RX : Int → List Int}
theorem p_ruleOf {x0 x1 : Int} (h : Twn σ I F LX RX) : ∃ (PC : Int → Sg → Prop) (PR : Int → (Nat → Int) → (Nat → Int → Int) → Prop), wp5_S_ruleOf σ x0 x1 PC ∧ wp_ruleOf (I 23) (F 24) (F 27) (I 33) (F 41) (F 42) (I 43) (F 44) x0 x1 (fun r (c0 : Int) (c1 : (Int → Int)) (c2 : (Int → Int)) (c3 : Int) (c4 : (Int → Int)) => PR r (sI (sI I 33 c0) 43 c3) (sF (sF (sF F 41 c1) 42 c2) 44 c4)) ∧ ∀ x u x' I' F', PC x u → PR x' I' F' → ∃ LX' RX', Twn u I' F' LX' RX' := by
  refine ⟨(fun _ u => Fq c25 No f4 σ u), (fun _ I' F' => kpI I I' ∧ kpF F F' ∧ F' 0 = F 0 ∧ F' 1 = F 1), ruleOf_k h.2.2.2.2.2.1.1.2 (fun r r0 r1 => (h.2.2.2.2.2.1.2 r r0 r1).2) (fun v σ' f => f), ruleOf_ok h.rw (fun _ _ _ _ _ _ => ⟨⟨rfl, rfl, rfl, rfl, rfl⟩, ⟨rfl, rfl, rfl, rfl, rfl, rfl⟩, rfl, rfl⟩), ?_⟩
  rintro x u x' I' F' f ⟨b2, b3, b4, b5⟩
  exact ⟨LX, RX, h.keep f ⟨fun q => by simp only [c25] at q; omega, fun q => by simp only [c25] at q; omega, fun q => by simp only [c25] at q; omega, fun q => by simp only [c25] at q; omega, fun q => by simp only [c25] at q; omega, fun q => by simp only [f4] at q; omega⟩ (fun n hn q => q.elim) b2 b3 b4 b5⟩
end SYX
