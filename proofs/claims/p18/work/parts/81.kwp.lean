def wp5_T_put_3 (K : Sg → Prop) (x0 : Int) (L3 : Int → Sg → Prop) (l2_3 : Int) (σ3 : Sg) : Prop :=
  (l2_3 < 0 → K σ3) ∧ (0 ≤ l2_3 → (800 ≤ (σ3.1 3 1) → K σ3) ∧ ((σ3.1 3 1) < 800 → (0 ≤ (σ3.1 3 1) ∧ (σ3.1 3 1) < 800) ∧ rng ((σ3.1 3 1) + 1) ∧ rng (l2_3 - 8) ∧ L3 (l2_3 - 8) (pU (pF σ3 4 (uZ (σ3.2.1 4) (σ3.1 3 1) (ziand (ziushr x0 l2_3) 255))) 3 1 ((σ3.1 3 1) + 1))))
def wp5_T_put (σ : Sg) (x0 : Int) (K : Sg → Prop) : Prop :=
  wl2 (wp5_T_put_3 K x0) 24 σ
def wp5_S_feed (σ : Sg) (x0 : Int) (x1 : Int) (x2 : Int) (x3 : Int) (x4 : Int) (K : Int → Sg → Prop) : Prop :=
  rng ((σ.1 3 1) + 20) ∧ (((σ.1 3 1) + 20) ≤ 800 → wp5_T_put σ x0 (fun σr28 => wp5_T_put σr28 x1 (fun σr34 => wp5_T_put σr34 x2 (fun σr40 => wp5_T_put σr40 x3 (fun σr47 => wp5_T_put σr47 x4 (fun σr54 => K (σr54.1 3 1) σr54)))))) ∧ (800 < ((σ.1 3 1) + 20) → K (-1) σ)
def wp5_T_shorten (σ : Sg) (x0 : Int) (K : Int → Sg → Prop) : Prop :=
  (x0 < 0 → K 0 σ) ∧ (0 ≤ x0 → (x0 ≤ (σ.1 3 1) → K 1 (pU σ 3 1 x0)) ∧ ((σ.1 3 1) < x0 → K 0 σ))
def wp5_S_end (σ : Sg) (x0 : Int) (K : Int → Sg → Prop) : Prop :=
  wp5_T_shorten σ x0 (fun r8 σr8 => (r8 = 0 ∨ r8 = 1) ∧ K r8 σr8)
def wp5_S_fault (σ : Sg) (x0 : Int) (K : Int → Prop) : Prop :=
  (x0 ≠ 0 → (x0 ≠ 1 → K (-1)) ∧ (x0 = 1 → K (σ.1 2 2))) ∧ (x0 = 0 → K (σ.1 2 1))
def wp5_S_slotAt (σ : Sg) (x0 : Int) (K : Int → Prop) : Prop :=
  (x0 < 0 → K (-1)) ∧ (0 ≤ x0 → (6 ≤ x0 → K (-1)) ∧ (x0 < 6 → (0 ≤ x0 ∧ x0 < 6) ∧ K x0))
def wp5_R_drop (σ : Sg) (K : Sg → Prop) : Prop :=
  wp5_T_shorten (pU (pU σ 2 1 0) 2 2 (-1)) 0 (fun r15 σr15 => K σr15)
def wp5_T_rewind (σ : Sg) (K : Sg → Prop) : Prop :=
  K (pU (pU (pU (pU σ 3 5 0) 3 4 0) 3 2 0) 3 3 0)
def wp5_R_begin_n1 (σ : Sg) (x0 : Int) (x2 : Int) (K : Sg → Prop) : Prop :=
  wp5_T_rewind (pU (pU (pU (pU (pU (pY (pU (pU (pU σ 2 1 0) 2 2 (-1)) 2 3 x0) 0 x0 0) 2 4 (-1)) 2 7 0) 2 8 0) 2 9 x2) 2 13 0) (fun σr52 => K σr52)
def wp5_R_beginProgram (σ : Sg) (x0 : Int) (K : Sg → Prop) : Prop :=
  wp5_R_begin_n1 σ x0 300 (fun σr6 => K (pU σr6 2 5 0))
def wp5_T_byteAt (σ : Sg) (x0 : Int) (K : Int → Prop) : Prop :=
  (x0 < 0 → K (-1)) ∧ (0 ≤ x0 → ((σ.1 3 1) ≤ x0 → K (-1)) ∧ (x0 < (σ.1 3 1) → (0 ≤ x0 ∧ x0 < 800) ∧ K (σ.2.1 4 x0)))
def wp5_T_isSmallLetter (x0 : Int) (K : Int → Prop) : Prop :=
  (x0 < 97 → K 0) ∧ (97 ≤ x0 → (122 < x0 → K 0) ∧ (x0 ≤ 122 → K 1))
def wp5_T_isLetter (x0 : Int) (K : Int → Prop) : Prop :=
  wp5_T_isSmallLetter x0 (fun r1 => (r1 ≠ 0 → K 1) ∧ (r1 = 0 → (x0 < 65 → K 0) ∧ (65 ≤ x0 → (90 < x0 → K 0) ∧ (x0 ≤ 90 → K 1))))
def wp5_T_isDigit (x0 : Int) (K : Int → Prop) : Prop :=
  (x0 < 48 → K 0) ∧ (48 ≤ x0 → (57 < x0 → K 0) ∧ (x0 ≤ 57 → K 1))
def wp5_T_isSign_59 (K : Int → Prop) (x0 : Int) (s0_35 : Int) (s0_59 : Int) : Prop :=
  (s0_35 ≠ 0 → K 1) ∧ (s0_35 = 0 → (s0_59 ≠ 0 → K 1) ∧ (s0_59 = 0 → (x0 = 59 → K 1) ∧ (x0 ≠ 59 → (x0 = 123 → K 1) ∧ (x0 ≠ 123 → (x0 ≠ 125 → K 0) ∧ (x0 = 125 → K 1)))))
def wp5_T_isSign_54 (K : Int → Prop) (x0 : Int) (s0_35 : Int) : Prop :=
  wp5_T_isSign_59 K x0 s0_35 1
def wp5_T_isSign_35 (K : Int → Prop) (x0 : Int) (s0_35 : Int) : Prop :=
  (x0 = 60 → wp5_T_isSign_54 K x0 s0_35) ∧ (x0 ≠ 60 → (x0 = 61 → wp5_T_isSign_54 K x0 s0_35) ∧ (x0 ≠ 61 → (x0 ≠ 62 → wp5_T_isSign_59 K x0 s0_35 0) ∧ (x0 = 62 → wp5_T_isSign_54 K x0 s0_35)))
def wp5_T_isSign_30 (K : Int → Prop) (x0 : Int) : Prop :=
  wp5_T_isSign_35 K x0 1
def wp5_T_isSign (x0 : Int) (K : Int → Prop) : Prop :=
  (x0 = 43 → wp5_T_isSign_30 K x0) ∧ (x0 ≠ 43 → (x0 = 45 → wp5_T_isSign_30 K x0) ∧ (x0 ≠ 45 → (x0 = 42 → wp5_T_isSign_30 K x0) ∧ (x0 ≠ 42 → (x0 = 40 → wp5_T_isSign_30 K x0) ∧ (x0 ≠ 40 → (x0 ≠ 41 → wp5_T_isSign_35 K x0 0) ∧ (x0 = 41 → wp5_T_isSign_30 K x0)))))
def wp5_T_takeSign_75 (K : Sg → Prop) (σ : Sg) (x0 : Int) : Prop :=
  wp5_T_isSign x0 (fun r77 => (r77 = 0 → K (pU (pU σ 3 5 ((σ.1 3 4) + 1)) 3 2 0)) ∧ (r77 ≠ 0 → K (pU (pU σ 3 5 ((σ.1 3 4) + 1)) 3 2 x0)))
def wp5_T_takeSign (σ : Sg) (x0 : Int) (x1 : Int) (K : Sg → Prop) : Prop :=
  rng ((σ.1 3 4) + 1) ∧ (x0 ≠ (-1) → (x1 = 0 → wp5_T_takeSign_75 K σ x0) ∧ (x1 ≠ 0 → (x0 ≠ 45 → wp5_T_takeSign_75 K σ x0) ∧ (x0 = 45 → wp5_T_byteAt (pU σ 3 5 ((σ.1 3 4) + 1)) ((σ.1 3 4) + 1) (fun r48 => (r48 ≠ 62 → wp5_T_takeSign_75 K σ x0) ∧ (r48 = 62 → rng ((σ.1 3 4) + 2) ∧ K (pU (pU (pU σ 3 5 ((σ.1 3 4) + 1)) 3 2 9) 3 5 ((σ.1 3 4) + 2))))))) ∧ (x0 = (-1) → K (pU (pU (pU σ 3 5 ((σ.1 3 4) + 1)) 3 2 1) 3 5 (σ.1 3 4)))
def wp5_T_takeDigits_87 (K : Sg → Prop) (σ18 : Sg) : Prop :=
  rng ((σ18.1 3 5) - (σ18.1 3 4)) ∧ (4 < ((σ18.1 3 5) - (σ18.1 3 4)) → K (pU σ18 3 2 0)) ∧ (((σ18.1 3 5) - (σ18.1 3 4)) ≤ 4 → K (pU σ18 3 2 2))
def wp5_T_takeDigits_18 (K : Sg → Prop) (L18 : Int → Sg → Prop) (l1_18 : Int) (σ18 : Sg) : Prop :=
  ((σ18.1 3 1) ≤ l1_18 → wp5_T_takeDigits_87 K σ18) ∧ (l1_18 < (σ18.1 3 1) → wp5_T_byteAt σ18 l1_18 (fun r28 => wp5_T_isDigit r28 (fun r31 => (r31 = 0 → wp5_T_takeDigits_87 K σ18) ∧ (r31 ≠ 0 → rng (l1_18 - (σ18.1 3 4)) ∧ (4 ≤ (l1_18 - (σ18.1 3 4)) → rng (l1_18 + 1) ∧ L18 (l1_18 + 1) (pU (pU σ18 3 3 (σ18.1 3 3)) 3 5 (l1_18 + 1))) ∧ ((l1_18 - (σ18.1 3 4)) < 4 → wp5_T_byteAt σ18 l1_18 (fun r57 => rng ((((σ18.1 3 3) * 10) + r57) - 48) ∧ rng (l1_18 + 1) ∧ L18 (l1_18 + 1) (pU (pU σ18 3 3 ((((σ18.1 3 3) * 10) + r57) - 48)) 3 5 (l1_18 + 1))))))))
def wp5_T_takeDigits (σ : Sg) (K : Sg → Prop) : Prop :=
  wl2 (wp5_T_takeDigits_18 K) (σ.1 3 4) (pU (pU σ 3 5 (σ.1 3 4)) 3 3 0)
def wp5_T_isText_20 (K : Int → Prop) (σ : Sg) (x0 : Int) (L20 : Int → Prop) (l2_20 : Int) : Prop :=
  ((litN x0) ≤ l2_20 → K 1) ∧ (l2_20 < (litN x0) → rng ((σ.1 3 4) + l2_20) ∧ wp5_T_byteAt σ ((σ.1 3 4) + l2_20) (fun r35 => (0 ≤ l2_20 ∧ l2_20 < litN x0) ∧ (r35 = (litC x0 l2_20) → rng (l2_20 + 1) ∧ L20 (l2_20 + 1)) ∧ (r35 ≠ (litC x0 l2_20) → K 0)))
def wp5_T_isText (σ : Sg) (x0 : Int) (K : Int → Prop) : Prop :=
  rng ((σ.1 3 5) - (σ.1 3 4)) ∧ ((litN x0) = ((σ.1 3 5) - (σ.1 3 4)) → wl1 (wp5_T_isText_20 K σ x0) 0) ∧ ((litN x0) ≠ ((σ.1 3 5) - (σ.1 3 4)) → K 0)
def wp5_T_takeLetters_45 (K : Sg → Prop) (σ13 : Sg) : Prop :=
  wp5_T_byteAt σ13 (σ13.1 3 4) (fun r51 => rng (r51 - 97) ∧ rng ((σ13.1 3 5) - (σ13.1 3 4)) ∧ (((σ13.1 3 5) - (σ13.1 3 4)) ≠ 1 → wp5_T_isText (pU σ13 3 3 (r51 - 97)) 0 (fun r102 => (r102 = 0 → wp5_T_isText (pU σ13 3 3 (r51 - 97)) 1 (fun r119 => (r119 = 0 → wp5_T_isText (pU σ13 3 3 (r51 - 97)) 2 (fun r136 => (r136 = 0 → wp5_T_isText (pU σ13 3 3 (r51 - 97)) 3 (fun r154 => (r154 = 0 → wp5_T_isText (pU σ13 3 3 (r51 - 97)) 4 (fun r173 => (r173 = 0 → K (pU (pU σ13 3 3 (r51 - 97)) 3 2 0)) ∧ (r173 ≠ 0 → K (pU (pU σ13 3 3 (r51 - 97)) 3 2 8)))) ∧ (r154 ≠ 0 → K (pU (pU σ13 3 3 (r51 - 97)) 3 2 7)))) ∧ (r136 ≠ 0 → K (pU (pU σ13 3 3 (r51 - 97)) 3 2 6)))) ∧ (r119 ≠ 0 → K (pU (pU σ13 3 3 (r51 - 97)) 3 2 5)))) ∧ (r102 ≠ 0 → K (pU (pU σ13 3 3 (r51 - 97)) 3 2 4)))) ∧ (((σ13.1 3 5) - (σ13.1 3 4)) = 1 → wp5_T_byteAt (pU σ13 3 3 (r51 - 97)) (σ13.1 3 4) (fun r79 => wp5_T_isSmallLetter r79 (fun r82 => (r82 = 0 → K (pU (pU σ13 3 3 (r51 - 97)) 3 2 0)) ∧ (r82 ≠ 0 → K (pU (pU σ13 3 3 (r51 - 97)) 3 2 3))))))
def wp5_T_takeLetters_13 (K : Sg → Prop) (L13 : Int → Sg → Prop) (l1_13 : Int) (σ13 : Sg) : Prop :=
  ((σ13.1 3 1) ≤ l1_13 → wp5_T_takeLetters_45 K σ13) ∧ (l1_13 < (σ13.1 3 1) → wp5_T_byteAt σ13 l1_13 (fun r23 => wp5_T_isLetter r23 (fun r26 => (r26 = 0 → wp5_T_takeLetters_45 K σ13) ∧ (r26 ≠ 0 → rng (l1_13 + 1) ∧ L13 (l1_13 + 1) (pU σ13 3 5 (l1_13 + 1))))))
def wp5_T_takeLetters (σ : Sg) (K : Sg → Prop) : Prop :=
  wl2 (wp5_T_takeLetters_13 K) (σ.1 3 4) (pU σ 3 5 (σ.1 3 4))
def wp5_T_advance_54 (K : Sg → Prop) (x0 : Int) (σ13 : Sg) : Prop :=
  wp5_T_byteAt σ13 (σ13.1 3 4) (fun r59 => wp5_T_isLetter r59 (fun r64 => (r64 = 0 → wp5_T_isDigit r59 (fun r78 => (r78 = 0 → wp5_T_takeSign σ13 r59 x0 (fun σr94 => K σr94)) ∧ (r78 ≠ 0 → wp5_T_takeDigits σ13 (fun σr85 => K σr85)))) ∧ (r64 ≠ 0 → wp5_T_takeLetters σ13 (fun σr71 => K σr71))))
def wp5_T_advance_13 (K : Sg → Prop) (x0 : Int) (L13 : Int → Sg → Prop) (l2_13 : Int) (σ13 : Sg) : Prop :=
  ((σ13.1 3 1) ≤ l2_13 → wp5_T_advance_54 K x0 σ13) ∧ (l2_13 < (σ13.1 3 1) → wp5_T_byteAt σ13 l2_13 (fun r23 => (r23 = 32 → rng (l2_13 + 1) ∧ L13 (l2_13 + 1) (pU σ13 3 4 (l2_13 + 1))) ∧ (r23 ≠ 32 → wp5_T_byteAt σ13 l2_13 (fun r33 => (r33 ≠ 10 → wp5_T_advance_54 K x0 σ13) ∧ (r33 = 10 → rng (l2_13 + 1) ∧ L13 (l2_13 + 1) (pU σ13 3 4 (l2_13 + 1)))))))
def wp5_T_advance (σ : Sg) (x0 : Int) (K : Sg → Prop) : Prop :=
  wl2 (wp5_T_advance_13 K x0) (σ.1 3 5) (pU σ 3 4 (σ.1 3 5))
def wp5_W_add (σ : Sg) (n0 : Int) (x0 : Int) (K : Sg → Prop) : Prop :=
  ((capI n0) ≤ (σ.2.2.1 0 n0) → K σ) ∧ ((σ.2.2.1 0 n0) < (capI n0) → (0 ≤ (σ.2.2.1 0 n0) ∧ (σ.2.2.1 0 n0) < (capI n0)) ∧ rng ((σ.2.2.1 0 n0) + 1) ∧ K (pY (pZ σ 0 n0 (uZ (σ.2.2.2 0 n0) (σ.2.2.1 0 n0) x0)) 0 n0 ((σ.2.2.1 0 n0) + 1)))
def wp5_R_closeBlock (σ : Sg) (K : Sg → Prop) : Prop :=
  ((σ.1 2 13) ≤ 0 → K σ) ∧ (0 < (σ.1 2 13) → ((σ.1 2 13) ≤ 8 → rng ((σ.1 2 13) - 1) ∧ (0 ≤ ((σ.1 2 13) - 1) ∧ ((σ.1 2 13) - 1) < 8) ∧ ((σ.2.1 5 ((σ.1 2 13) - 1)) ≠ 112 → (0 ≤ (σ.1 2 3) ∧ (σ.1 2 3) < 35) ∧ wp5_W_add (pU σ 2 13 ((σ.1 2 13) - 1)) (σ.1 2 3) 114 (fun σr64 => K (pU σr64 2 5 0))) ∧ ((σ.2.1 5 ((σ.1 2 13) - 1)) = 112 → (0 ≤ (σ.1 2 3) ∧ (σ.1 2 3) < 35) ∧ wp5_W_add (pU σ 2 13 ((σ.1 2 13) - 1)) (σ.1 2 3) 113 (fun σr47 => K (pU σr47 2 5 1)))) ∧ (8 < (σ.1 2 13) → K σ))
def wp5_R_refuse (σ : Sg) (x0 : Int) (K : Sg → Prop) : Prop :=
  K (pU (pU σ 2 1 x0) 2 2 (σ.1 3 4))
def wp5_R_beginExpression (σ : Sg) (x0 : Int) (K : Sg → Prop) : Prop :=
  (0 ≤ (σ.1 2 3) ∧ (σ.1 2 3) < 35) ∧ K (pU (pU (pU (pU σ 2 6 x0) 2 10 (σ.2.2.1 0 (σ.1 2 3))) 2 11 (σ.2.2.1 0 (σ.1 2 3))) 2 5 5)
def wp5_R_beginStatement_91 (K : Sg → Prop) (σ : Sg) (s0_91 : Int) : Prop :=
  wp5_W_add σ (σ.1 2 3) s0_91 (fun σr91 => (0 ≤ (σr91.1 2 3) ∧ (σr91.1 2 3) < 35) ∧ wp5_W_add (pU σr91 2 12 (σr91.2.2.1 0 (σr91.1 2 3))) (σr91.1 2 3) 130 (fun σr112 => wp5_R_beginExpression σr112 1 (fun σr117 => K σr117)))
def wp5_R_beginStatement (σ : Sg) (x0 : Int) (K : Sg → Prop) : Prop :=
  (x0 ≠ 4 → (x0 ≠ 5 → (x0 ≠ 3 → (0 ≤ (σ.1 2 3) ∧ (σ.1 2 3) < 35) ∧ (x0 ≠ 6 → wp5_R_beginStatement_91 K σ 115) ∧ (x0 = 6 → wp5_R_beginStatement_91 K σ 112)) ∧ (x0 = 3 → (0 ≤ (σ.1 2 3) ∧ (σ.1 2 3) < 35) ∧ rng (100 + (σ.1 3 3)) ∧ wp5_W_add σ (σ.1 2 3) (100 + (σ.1 3 3)) (fun σr63 => K (pU σr63 2 5 3)))) ∧ (x0 = 5 → (0 ≤ (σ.1 2 3) ∧ (σ.1 2 3) < 35) ∧ wp5_W_add σ (σ.1 2 3) 111 (fun σr33 => K (pU σr33 2 5 4)))) ∧ (x0 = 4 → (0 ≤ (σ.1 2 3) ∧ (σ.1 2 3) < 35) ∧ wp5_W_add σ (σ.1 2 3) 110 (fun σr11 => wp5_R_beginExpression σr11 0 (fun σr16 => K σr16)))
def wp5_R_takeStatement_118 (K : Sg → Prop) (σ : Sg) : Prop :=
  ((σ.1 2 7) < 40 → rng ((σ.1 2 7) + 1) ∧ wp5_R_beginStatement (pU σ 2 7 ((σ.1 2 7) + 1)) (σ.1 3 2) (fun σr147 => K σr147)) ∧ (40 ≤ (σ.1 2 7) → wp5_R_refuse σ 3 (fun σr129 => K σr129))
def wp5_R_takeStatement_95 (K : Sg → Prop) (σ : Sg) (s0_61 : Int) (s0_77 : Int) (s0_95 : Int) : Prop :=
  (s0_61 ≠ 0 → wp5_R_takeStatement_118 K σ) ∧ (s0_61 = 0 → (s0_77 ≠ 0 → wp5_R_takeStatement_118 K σ) ∧ (s0_77 = 0 → (s0_95 ≠ 0 → wp5_R_takeStatement_118 K σ) ∧ (s0_95 = 0 → wp5_R_refuse σ 1 (fun σr112 => K σr112))))
def wp5_R_takeStatement_90 (K : Sg → Prop) (σ : Sg) (s0_61 : Int) (s0_77 : Int) : Prop :=
  wp5_R_takeStatement_95 K σ s0_61 s0_77 1
def wp5_R_takeStatement_77 (K : Sg → Prop) (σ : Sg) (s0_61 : Int) (s0_77 : Int) : Prop :=
  ((σ.1 3 2) = 6 → wp5_R_takeStatement_90 K σ s0_61 s0_77) ∧ ((σ.1 3 2) ≠ 6 → ((σ.1 3 2) ≠ 8 → wp5_R_takeStatement_95 K σ s0_61 s0_77 0) ∧ ((σ.1 3 2) = 8 → wp5_R_takeStatement_90 K σ s0_61 s0_77))
def wp5_R_takeStatement_72 (K : Sg → Prop) (σ : Sg) (s0_61 : Int) : Prop :=
  wp5_R_takeStatement_77 K σ s0_61 1
def wp5_R_takeStatement_61 (K : Sg → Prop) (σ : Sg) (s0_61 : Int) : Prop :=
  ((σ.1 3 2) = 4 → wp5_R_takeStatement_72 K σ s0_61) ∧ ((σ.1 3 2) ≠ 4 → ((σ.1 3 2) ≠ 5 → wp5_R_takeStatement_77 K σ s0_61 0) ∧ ((σ.1 3 2) = 5 → wp5_R_takeStatement_72 K σ s0_61))
def wp5_R_takeStatement_60 (K : Sg → Prop) (σ : Sg) : Prop :=
  wp5_R_takeStatement_61 K σ 0
def wp5_R_takeStatement_39 (K : Sg → Prop) (σ : Sg) : Prop :=
  ((σ.1 3 2) ≠ 3 → wp5_R_takeStatement_60 K σ) ∧ ((σ.1 3 2) = 3 → (6 ≤ (σ.1 3 3) → wp5_R_takeStatement_60 K σ) ∧ ((σ.1 3 3) < 6 → wp5_R_takeStatement_61 K σ 1))
def wp5_R_takeStatement_21 (K : Sg → Prop) (σ : Sg) : Prop :=
  ((σ.1 3 2) ≠ 125 → wp5_R_takeStatement_39 K σ) ∧ ((σ.1 3 2) = 125 → ((σ.1 2 13) ≤ 0 → wp5_R_takeStatement_39 K σ) ∧ (0 < (σ.1 2 13) → wp5_R_closeBlock σ (fun σr35 => K σr35)))
def wp5_R_takeStatement (σ : Sg) (K : Sg → Prop) : Prop :=
  ((σ.1 3 2) ≠ 1 → wp5_R_takeStatement_21 K σ) ∧ ((σ.1 3 2) = 1 → ((σ.1 2 13) ≠ 0 → wp5_R_takeStatement_21 K σ) ∧ ((σ.1 2 13) = 0 → K σ))
def wp5_R_takeBehindThen (σ : Sg) (K : Sg → Prop) : Prop :=
  ((σ.1 3 2) ≠ 7 → (0 ≤ (σ.1 2 3) ∧ (σ.1 2 3) < 35) ∧ wp5_W_add σ (σ.1 2 3) 114 (fun σr26 => wp5_R_takeStatement (pU σr26 2 5 0) (fun σr35 => K σr35))) ∧ ((σ.1 3 2) = 7 → K (pU σ 2 5 2))
def wp5_R_open_16 (K : Int → Sg → Prop) (σ : Sg) : Prop :=
  wp5_R_refuse σ 3 (fun σr18 => K 0 σr18)
def wp5_R_open (σ : Sg) (x0 : Int) (K : Int → Sg → Prop) : Prop :=
  ((σ.1 2 13) < 0 → wp5_R_open_16 K σ) ∧ (0 ≤ (σ.1 2 13) → ((σ.1 2 13) < 8 → (0 ≤ (σ.1 2 13) ∧ (σ.1 2 13) < 8) ∧ rng ((σ.1 2 13) + 1) ∧ K 1 (pU (pF (pF (pF σ 5 (uZ (σ.2.1 5) (σ.1 2 13) x0)) 6 (uZ (σ.2.1 6) (σ.1 2 13) (σ.1 2 10))) 7 (uZ (σ.2.1 7) (σ.1 2 13) (σ.1 2 11))) 2 13 ((σ.1 2 13) + 1))) ∧ (8 ≤ (σ.1 2 13) → wp5_R_open_16 K σ))
def wp5_R_openBlock (σ : Sg) (x0 : Int) (K : Sg → Prop) : Prop :=
  wp5_R_open σ x0 (fun r2 σr2 => (r2 = 0 → K σr2) ∧ (r2 ≠ 0 → K (pU σr2 2 5 0)))
def wp5_R_takeElseBrace (σ : Sg) (K : Sg → Prop) : Prop :=
  ((σ.1 3 2) ≠ 123 → wp5_R_refuse σ 1 (fun σr23 => K σr23)) ∧ ((σ.1 3 2) = 123 → wp5_R_openBlock σ 113 (fun σr15 => K σr15))
def wp5_R_takeSetSign (σ : Sg) (K : Sg → Prop) : Prop :=
  ((σ.1 3 2) ≠ 61 → wp5_R_refuse σ 1 (fun σr22 => K σr22)) ∧ ((σ.1 3 2) = 61 → wp5_R_beginExpression σ 0 (fun σr14 => K σr14))
def wp5_R_takeSemicolon (σ : Sg) (K : Sg → Prop) : Prop :=
  ((σ.1 3 2) ≠ 59 → wp5_R_refuse σ 1 (fun σr22 => K σr22)) ∧ ((σ.1 3 2) = 59 → K (pU σ 2 5 0))
def wp5_U_hasLetter (σ : Sg) (n0 : Int) (x0 : Int) (K : Int → Prop) : Prop :=
  (x0 < 0 → K 0) ∧ (0 ≤ x0 → (3 ≤ x0 → K 0) ∧ (x0 < 3 → ((ziand (zishr (σ.2.2.1 1 n0) x0) 1) = 0 → K 0) ∧ ((ziand (zishr (σ.2.2.1 1 n0) x0) 1) ≠ 0 → K 1)))
def wp5_R_countThing (σ : Sg) (K : Int → Sg → Prop) : Prop :=
  ((σ.1 2 8) < (σ.1 2 9) → rng ((σ.1 2 8) + 1) ∧ K 1 (pU σ 2 8 ((σ.1 2 8) + 1))) ∧ ((σ.1 2 9) ≤ (σ.1 2 8) → wp5_R_refuse σ 3 (fun σr13 => K 0 σr13))
def wp5_R_takeLetter_49 (K : Sg → Prop) (σ : Sg) : Prop :=
  wp5_R_refuse σ 1 (fun σr51 => K σr51)
def wp5_R_takeLetter_91 (K : Sg → Prop) (σ : Sg) (s0_27 : Int) : Prop :=
  wp5_R_countThing σ (fun r92 σr92 => (r92 = 0 → K σr92) ∧ (r92 ≠ 0 → (0 ≤ (σr92.1 2 3) ∧ (σr92.1 2 3) < 35) ∧ rng (20 + s0_27) ∧ wp5_W_add σr92 (σr92.1 2 3) (20 + s0_27) (fun σr106 => K (pU σr106 2 5 6))))
def wp5_R_takeLetter_46 (K : Sg → Prop) (σ : Sg) (s0_27 : Int) (s0_46 : Int) : Prop :=
  (s0_27 < s0_46 → ((σ.1 2 6) ≠ 4 → wp5_R_takeLetter_91 K σ s0_27) ∧ ((σ.1 2 6) = 4 → ((σ.1 2 4) < 0 → wp5_R_takeLetter_91 K σ s0_27) ∧ (0 ≤ (σ.1 2 4) → (0 ≤ (σ.1 2 4) ∧ (σ.1 2 4) < 12) ∧ wp5_U_hasLetter σ (σ.1 2 4) s0_27 (fun r77 => (r77 ≠ 0 → wp5_R_takeLetter_91 K σ s0_27) ∧ (r77 = 0 → wp5_R_refuse σ 2 (fun σr85 => K σr85)))))) ∧ (s0_46 ≤ s0_27 → wp5_R_takeLetter_49 K σ)
def wp5_R_takeLetter_27 (K : Sg → Prop) (σ : Sg) (s0_27 : Int) : Prop :=
  (s0_27 < 0 → wp5_R_takeLetter_49 K σ) ∧ (0 ≤ s0_27 → ((σ.1 2 4) < 0 → wp5_R_takeLetter_46 K σ s0_27 6) ∧ (0 ≤ (σ.1 2 4) → (0 ≤ (σ.1 2 4) ∧ (σ.1 2 4) < 12) ∧ wp5_R_takeLetter_46 K σ s0_27 3))
def wp5_R_takeLetter (σ : Sg) (K : Sg → Prop) : Prop :=
  ((σ.1 2 4) < 0 → wp5_R_takeLetter_27 K σ (σ.1 3 3)) ∧ (0 ≤ (σ.1 2 4) → (0 ≤ (σ.1 2 4) ∧ (σ.1 2 4) < 12) ∧ rng ((σ.1 3 3) - 23) ∧ wp5_R_takeLetter_27 K σ ((σ.1 3 3) - 23))
def wp5_R_takeNumber (σ : Sg) (K : Sg → Prop) : Prop :=
  ((σ.1 3 3) < 16 → wp5_R_countThing σ (fun r21 σr21 => (r21 = 0 → K σr21) ∧ (r21 ≠ 0 → (0 ≤ (σr21.1 2 3) ∧ (σr21.1 2 3) < 35) ∧ wp5_W_add σr21 (σr21.1 2 3) (σr21.1 3 3) (fun σr38 => K (pU σr38 2 5 6))))) ∧ (16 ≤ (σ.1 3 3) → wp5_R_refuse σ 2 (fun σr14 => K σr14))
def wp5_R_takeOperand (σ : Sg) (K : Sg → Prop) : Prop :=
  ((σ.1 3 2) ≠ 40 → ((σ.1 3 2) ≠ 2 → ((σ.1 3 2) ≠ 3 → wp5_R_refuse σ 1 (fun σr83 => K σr83)) ∧ ((σ.1 3 2) = 3 → wp5_R_takeLetter σ (fun σr75 => K σr75))) ∧ ((σ.1 3 2) = 2 → wp5_R_takeNumber σ (fun σr57 => K σr57))) ∧ ((σ.1 3 2) = 40 → wp5_R_open σ 0 (fun r14 σr14 => (r14 = 0 → K σr14) ∧ (r14 ≠ 0 → (0 ≤ (σr14.1 2 3) ∧ (σr14.1 2 3) < 35) ∧ K (pU (pU σr14 2 10 (σr14.2.2.1 0 (σr14.1 2 3))) 2 11 (σr14.2.2.1 0 (σr14.1 2 3))))))
def wp5_W_change (σ : Sg) (n0 : Int) (x0 : Int) (x1 : Int) (K : Sg → Prop) : Prop :=
  (x0 < 0 → K σ) ∧ (0 ≤ x0 → ((σ.2.2.1 0 n0) ≤ x0 → K σ) ∧ (x0 < (σ.2.2.1 0 n0) → (0 ≤ x0 ∧ x0 < (capI n0)) ∧ K (pZ σ 0 n0 (uZ (σ.2.2.2 0 n0) x0 x1))))
def wp5_W_cell (σ : Sg) (n0 : Int) (x0 : Int) (K : Int → Prop) : Prop :=
  (x0 < 0 → K (-1)) ∧ (0 ≤ x0 → ((σ.2.2.1 0 n0) ≤ x0 → K (-1)) ∧ (x0 < (σ.2.2.1 0 n0) → (0 ≤ x0 ∧ x0 < (capI n0)) ∧ K (σ.2.2.2 0 n0 x0)))
def wp5_U_letterOf (x0 : Int) (K : Int → Prop) : Prop :=
  (x0 < 20 → K (-1)) ∧ (20 ≤ x0 → (23 ≤ x0 → K (-1)) ∧ (x0 < 23 → rng (x0 - 20) ∧ K (x0 - 20)))
def wp5_U_noteLetters_7 (K : Sg → Prop) (n0 : Int) (L7 : Int → Sg → Prop) (l1_7 : Int) (σ7 : Sg) : Prop :=
  ((σ7.2.2.1 0 (11 + 2 * n0)) ≤ l1_7 → K σ7) ∧ (l1_7 < (σ7.2.2.1 0 (11 + 2 * n0)) → wp5_W_cell σ7 (11 + 2 * n0) l1_7 (fun r23 => wp5_U_letterOf r23 (fun r26 => (r26 ≠ (-1) → rng (l1_7 + 1) ∧ L7 (l1_7 + 1) (pY σ7 1 n0 (zior (σ7.2.2.1 1 n0) (zishl 1 r26)))) ∧ (r26 = (-1) → rng (l1_7 + 1) ∧ L7 (l1_7 + 1) (pY σ7 1 n0 (zior (σ7.2.2.1 1 n0) 0))))))
def wp5_U_noteLetters (σ : Sg) (n0 : Int) (K : Sg → Prop) : Prop :=
  wl2 (wp5_U_noteLetters_7 K n0) 0 (pY σ 1 n0 0)
def wp5_R_endExpression_197 (K : Sg → Prop) (σ : Sg) : Prop :=
  wp5_R_refuse σ 1 (fun σr199 => K σr199)
def wp5_R_endExpression_184 (K : Sg → Prop) (σ : Sg) (x0 : Int) : Prop :=
  ((σ.1 2 6) ≠ 4 → wp5_R_endExpression_197 K σ) ∧ ((σ.1 2 6) = 4 → (x0 = 1 → K σ) ∧ (x0 ≠ 1 → wp5_R_endExpression_197 K σ))
def wp5_R_endExpression_137 (K : Sg → Prop) (σ : Sg) (x0 : Int) : Prop :=
  ((σ.1 2 6) ≠ 3 → wp5_R_endExpression_184 K σ x0) ∧ ((σ.1 2 6) = 3 → (x0 ≠ 9 → wp5_R_endExpression_184 K σ x0) ∧ (x0 = 9 → ((σ.1 2 4) < 0 → wp5_R_endExpression_184 K σ x0) ∧ (0 ≤ (σ.1 2 4) → (0 ≤ (σ.1 2 4) ∧ (σ.1 2 4) < 12) ∧ wp5_U_noteLetters σ (σ.1 2 4) (fun σr162 => (0 ≤ (σr162.1 2 4) ∧ (σr162.1 2 4) < 12) ∧ wp5_R_beginExpression (pU σr162 2 3 (12 + 2 * (σr162.1 2 4))) 4 (fun σr178 => K σr178)))))
def wp5_R_endExpression_103 (K : Sg → Prop) (σ : Sg) (x0 : Int) : Prop :=
  ((σ.1 2 6) ≠ 2 → wp5_R_endExpression_137 K σ x0) ∧ ((σ.1 2 6) = 2 → (x0 ≠ 123 → wp5_R_endExpression_137 K σ x0) ∧ (x0 = 123 → (0 ≤ (σ.1 2 3) ∧ (σ.1 2 3) < 35) ∧ rng ((σ.1 2 12) - 1) ∧ wp5_W_cell σ (σ.1 2 3) ((σ.1 2 12) - 1) (fun r128 => wp5_R_openBlock σ r128 (fun σr131 => K σr131))))
def wp5_R_endExpression_92 (K : Sg → Prop) (σ : Sg) (s0_92 : Int) : Prop :=
  wp5_W_change σ (σ.1 2 3) (σ.1 2 12) s0_92 (fun σr92 => wp5_R_beginExpression σr92 2 (fun σr97 => K σr97))
def wp5_R_endExpression_45 (K : Sg → Prop) (σ : Sg) (x0 : Int) (s0_23 : Int) : Prop :=
  ((σ.1 2 6) ≠ 1 → wp5_R_endExpression_103 K σ x0) ∧ ((σ.1 2 6) = 1 → (s0_23 = 0 → wp5_R_endExpression_103 K σ x0) ∧ (s0_23 ≠ 0 → (0 ≤ (σ.1 2 3) ∧ (σ.1 2 3) < 35) ∧ (x0 ≠ 60 → (x0 ≠ 61 → wp5_R_endExpression_92 K σ 132) ∧ (x0 = 61 → wp5_R_endExpression_92 K σ 131)) ∧ (x0 = 60 → wp5_R_endExpression_92 K σ 130)))
def wp5_R_endExpression_23 (K : Sg → Prop) (σ : Sg) (x0 : Int) (s0_23 : Int) : Prop :=
  ((σ.1 2 6) ≠ 0 → wp5_R_endExpression_45 K σ x0 s0_23) ∧ ((σ.1 2 6) = 0 → (x0 ≠ 59 → wp5_R_endExpression_45 K σ x0 s0_23) ∧ (x0 = 59 → K (pU σ 2 5 0)))
def wp5_R_endExpression_18 (K : Sg → Prop) (σ : Sg) (x0 : Int) : Prop :=
  wp5_R_endExpression_23 K σ x0 1
def wp5_R_endExpression (σ : Sg) (x0 : Int) (K : Sg → Prop) : Prop :=
  (x0 = 60 → wp5_R_endExpression_18 K σ x0) ∧ (x0 ≠ 60 → (x0 = 61 → wp5_R_endExpression_18 K σ x0) ∧ (x0 ≠ 61 → (x0 ≠ 62 → wp5_R_endExpression_23 K σ x0 0) ∧ (x0 = 62 → wp5_R_endExpression_18 K σ x0)))
def wp5_W_insert (σ : Sg) (n0 : Int) (x0 : Int) (x1 : Int) (K : Sg → Prop) : Prop :=
  (x0 < 0 → K σ) ∧ (0 ≤ x0 → ((σ.2.2.1 0 n0) < x0 → K σ) ∧ (x0 ≤ (σ.2.2.1 0 n0) → ((capI n0) ≤ (σ.2.2.1 0 n0) → K σ) ∧ ((σ.2.2.1 0 n0) < (capI n0) → ((0 : Int) ≤ x0 ∧ (0 : Int) ≤ (x0 + 1) ∧ (0 : Int) ≤ ((σ.2.2.1 0 n0) - x0) ∧ (x0 : Int) + ((σ.2.2.1 0 n0) - x0) ≤ capI n0 ∧ ((x0 + 1) : Int) + ((σ.2.2.1 0 n0) - x0) ≤ capI n0) ∧ (0 ≤ x0 ∧ x0 < (capI n0)) ∧ rng ((σ.2.2.1 0 n0) + 1) ∧ K (pY (pZ (pZ σ 0 n0 (cpI (σ.2.2.2 0 n0) (σ.2.2.2 0 n0) x0 (x0 + 1) ((σ.2.2.1 0 n0) - x0))) 0 n0 (uZ ((uF (σ.2.2.2 0) n0 (cpI (σ.2.2.2 0 n0) (σ.2.2.2 0 n0) x0 (x0 + 1) ((σ.2.2.1 0 n0) - x0))) n0) x0 x1)) 0 n0 ((σ.2.2.1 0 n0) + 1)))))
def wp5_R_takeOperation_51 (K : Sg → Prop) (σr1 : Sg) (s0_51 : Int) : Prop :=
  wp5_W_insert σr1 (σr1.1 2 3) (σr1.1 2 10) s0_51 (fun σr51 => (0 ≤ (σr51.1 2 3) ∧ (σr51.1 2 3) < 35) ∧ K (pU (pU σr51 2 11 (σr51.2.2.1 0 (σr51.1 2 3))) 2 5 5))
def wp5_R_takeOperation (σ : Sg) (x0 : Int) (K : Sg → Prop) : Prop :=
  wp5_R_countThing σ (fun r1 σr1 => (r1 ≠ 0 → (x0 ≠ 42 → (0 ≤ (σr1.1 2 3) ∧ (σr1.1 2 3) < 35) ∧ (x0 ≠ 43 → wp5_R_takeOperation_51 K σr1 121) ∧ (x0 = 43 → wp5_R_takeOperation_51 K σr1 120)) ∧ (x0 = 42 → (0 ≤ (σr1.1 2 3) ∧ (σr1.1 2 3) < 35) ∧ wp5_W_insert σr1 (σr1.1 2 3) (σr1.1 2 11) 122 (fun σr24 => K (pU σr24 2 5 5)))) ∧ (r1 = 0 → K σr1))
def wp5_R_takeBehindOperand_62 (K : Sg → Prop) (σ : Sg) : Prop :=
  wp5_R_takeOperation σ (σ.1 3 2) (fun σr64 => K σr64)
def wp5_R_takeBehindOperand_43 (K : Sg → Prop) (σ : Sg) (s0_43 : Int) : Prop :=
  ((σ.1 3 2) = 43 → wp5_R_takeBehindOperand_62 K σ) ∧ ((σ.1 3 2) ≠ 43 → ((σ.1 3 2) = 45 → wp5_R_takeBehindOperand_62 K σ) ∧ ((σ.1 3 2) ≠ 45 → ((σ.1 3 2) ≠ 42 → (s0_43 ≠ 0 → ((σ.1 3 2) ≠ 41 → wp5_R_refuse σ 1 (fun σr129 => K σr129)) ∧ ((σ.1 3 2) = 41 → rng ((σ.1 2 13) - 1) ∧ (0 ≤ ((σ.1 2 13) - 1) ∧ ((σ.1 2 13) - 1) < 8) ∧ K (pU (pU (pU σ 2 13 ((σ.1 2 13) - 1)) 2 10 (σ.2.1 6 ((σ.1 2 13) - 1))) 2 11 (σ.2.1 7 ((σ.1 2 13) - 1))))) ∧ (s0_43 = 0 → wp5_R_endExpression σ (σ.1 3 2) (fun σr76 => K σr76))) ∧ ((σ.1 3 2) = 42 → wp5_R_takeBehindOperand_62 K σ)))
def wp5_R_takeBehindOperand_42 (K : Sg → Prop) (σ : Sg) : Prop :=
  wp5_R_takeBehindOperand_43 K σ 0
def wp5_R_takeBehindOperand (σ : Sg) (K : Sg → Prop) : Prop :=
  ((σ.1 2 13) ≤ 0 → wp5_R_takeBehindOperand_42 K σ) ∧ (0 < (σ.1 2 13) → (8 < (σ.1 2 13) → wp5_R_takeBehindOperand_42 K σ) ∧ ((σ.1 2 13) ≤ 8 → (0 ≤ ((σ.1 2 13) - 1) ∧ ((σ.1 2 13) - 1) < 8) ∧ ((σ.2.1 5 ((σ.1 2 13) - 1)) ≠ 0 → wp5_R_takeBehindOperand_42 K σ) ∧ ((σ.2.1 5 ((σ.1 2 13) - 1)) = 0 → wp5_R_takeBehindOperand_43 K σ 1)))
def wp5_R_readAll_140 (K : Int → Sg → Prop) (σ2 : Sg) : Prop :=
  wp5_T_shorten σ2 0 (fun r145 σr145 => ((σr145.1 2 1) ≠ 0 → K 0 σr145) ∧ ((σr145.1 2 1) = 0 → K 1 σr145))
def wp5_R_readAll_43 (l1_2 : Int) (σ2 : Sg) (L2 : Int → Sg → Prop) (s0_43 : Int) : Prop :=
  wp5_T_advance σ2 s0_43 (fun σr43 => ((σr43.1 2 5) = 1 → wp5_R_takeBehindThen σr43 (fun σr89 => rng (l1_2 + 1) ∧ L2 (l1_2 + 1) σr89)) ∧ ((σr43.1 2 5) = 2 → wp5_R_takeElseBrace σr43 (fun σr96 => rng (l1_2 + 1) ∧ L2 (l1_2 + 1) σr96)) ∧ ((σr43.1 2 5) = 3 → wp5_R_takeSetSign σr43 (fun σr103 => rng (l1_2 + 1) ∧ L2 (l1_2 + 1) σr103)) ∧ ((σr43.1 2 5) = 4 → wp5_R_takeSemicolon σr43 (fun σr110 => rng (l1_2 + 1) ∧ L2 (l1_2 + 1) σr110)) ∧ ((σr43.1 2 5) = 5 → wp5_R_takeOperand σr43 (fun σr117 => rng (l1_2 + 1) ∧ L2 (l1_2 + 1) σr117)) ∧ ((σr43.1 2 5) = 6 → wp5_R_takeBehindOperand σr43 (fun σr124 => rng (l1_2 + 1) ∧ L2 (l1_2 + 1) σr124)) ∧ ((σr43.1 2 5) < 1 ∨ 6 < (σr43.1 2 5) → wp5_R_takeStatement σr43 (fun σr131 => rng (l1_2 + 1) ∧ L2 (l1_2 + 1) σr131)))
def wp5_R_readAll_2 (K : Int → Sg → Prop) (L2 : Int → Sg → Prop) (l1_2 : Int) (σ2 : Sg) : Prop :=
  (800 < l1_2 → wp5_R_readAll_140 K σ2) ∧ (l1_2 ≤ 800 → ((σ2.1 2 1) ≠ 0 → wp5_R_readAll_140 K σ2) ∧ ((σ2.1 2 1) = 0 → ((σ2.1 3 2) = 1 → wp5_R_readAll_140 K σ2) ∧ ((σ2.1 3 2) ≠ 1 → ((σ2.1 2 4) < 0 → wp5_R_readAll_43 l1_2 σ2 L2 0) ∧ (0 ≤ (σ2.1 2 4) → (0 ≤ (σ2.1 2 4) ∧ (σ2.1 2 4) < 12) ∧ wp5_R_readAll_43 l1_2 σ2 L2 1))))
def wp5_R_readAll (σ : Sg) (K : Int → Sg → Prop) : Prop :=
  wl2 (wp5_R_readAll_2 K) 0 σ
def wp5_W_addPart (σ : Sg) (n0 : Int) (x0 : Int) (x1 : Int) (x2 : Int) (K : Sg → Prop) : Prop :=
  (x1 < 0 → K σ) ∧ (0 ≤ x1 → rng (x2 - x1) ∧ ((x2 - x1) ≤ 0 → K σ) ∧ (0 < (x2 - x1) → ((σ.2.2.1 0 x0) < x2 → K σ) ∧ (x2 ≤ (σ.2.2.1 0 x0) → rng ((capI n0) - (σ.2.2.1 0 n0)) ∧ (((capI n0) - (σ.2.2.1 0 n0)) < (x2 - x1) → K σ) ∧ ((x2 - x1) ≤ ((capI n0) - (σ.2.2.1 0 n0)) → ((0 : Int) ≤ x1 ∧ (0 : Int) ≤ (σ.2.2.1 0 n0) ∧ (0 : Int) ≤ (x2 - x1) ∧ (x1 : Int) + (x2 - x1) ≤ capI x0 ∧ ((σ.2.2.1 0 n0) : Int) + (x2 - x1) ≤ capI n0) ∧ rng ((σ.2.2.1 0 n0) + (x2 - x1)) ∧ K (pY (pZ σ 0 n0 (cpI (σ.2.2.2 0 x0) (σ.2.2.2 0 n0) x1 (σ.2.2.1 0 n0) (x2 - x1))) 0 n0 ((σ.2.2.1 0 n0) + (x2 - x1)))))))
def wp5_W_copy (σ : Sg) (n0 : Int) (x0 : Int) (K : Sg → Prop) : Prop :=
  (x0 = n0 → K σ) ∧ (x0 ≠ n0 → wp5_W_addPart (pY σ 0 n0 0) n0 x0 0 ((uZ (σ.2.2.1 0) n0 0) x0) (fun σr17 => K σr17))
def wp5_W_isStatement_12 (K : Int → Prop) (x0 : Int) : Prop :=
  (x0 = 110 → K 1) ∧ (x0 ≠ 110 → (x0 = 111 → K 1) ∧ (x0 ≠ 111 → (x0 = 112 → K 1) ∧ (x0 ≠ 112 → (x0 ≠ 115 → K 0) ∧ (x0 = 115 → K 1))))
def wp5_W_isStatement (x0 : Int) (K : Int → Prop) : Prop :=
  (x0 < 100 → wp5_W_isStatement_12 K x0) ∧ (100 ≤ x0 → (x0 < 106 → K 1) ∧ (106 ≤ x0 → wp5_W_isStatement_12 K x0))
def wp5_W_statements_4 (K : Int → Prop) (σ : Sg) (n0 : Int) (L4 : Int → Int → Prop) (l1_4 : Int) (l2_4 : Int) : Prop :=
  ((σ.2.2.1 0 n0) ≤ l2_4 → K l1_4) ∧ (l2_4 < (σ.2.2.1 0 n0) → (0 ≤ l2_4 ∧ l2_4 < (capI n0)) ∧ wp5_W_isStatement (σ.2.2.2 0 n0 l2_4) (fun r18 => (r18 = 0 → rng (l2_4 + 1) ∧ L4 l1_4 (l2_4 + 1)) ∧ (r18 ≠ 0 → rng (l1_4 + 1) ∧ rng (l2_4 + 1) ∧ L4 (l1_4 + 1) (l2_4 + 1))))
def wp5_W_statements (σ : Sg) (n0 : Int) (K : Int → Prop) : Prop :=
  wl2 (wp5_W_statements_4 K σ n0) 0 0
def wp5_S_program (σ : Sg) (x0 : Int) (K : Int → Sg → Prop) : Prop :=
  wp5_S_slotAt σ x0 (fun r2 => (r2 < 0 → wp5_R_drop σ (fun σr14 => K (-1) σr14)) ∧ (0 ≤ r2 → (0 ≤ r2 ∧ r2 < 35) ∧ wp5_R_beginProgram σ 8 (fun σr27 => wp5_R_readAll σr27 (fun r34 σr34 => (r34 ≠ 0 → wp5_W_copy σr34 r2 8 (fun σr47 => wp5_W_statements σr47 r2 (fun r51 => K r51 σr47))) ∧ (r34 = 0 → K (-1) σr34)))))
def wp5_P_ruleAt (σ : Sg) (x0 : Int) (K : Int → Prop) : Prop :=
  (x0 < 0 → K (-1)) ∧ (0 ≤ x0 → (12 ≤ x0 → K (-1)) ∧ (x0 < 12 → (0 ≤ x0 ∧ x0 < 12) ∧ K x0))
def wp5_U_forget (σ : Sg) (n0 : Int) (K : Sg → Prop) : Prop :=
  K (pY (pY (pY σ 0 (11 + 2 * n0) 0) 0 (12 + 2 * n0) 0) 1 n0 0)
def wp5_R_begin (σ : Sg) (x0 : Int) (x1 : Int) (x2 : Int) (K : Sg → Prop) : Prop :=
  wp5_T_rewind (pU (pU (pU (pU (pU (pY (pU (pU (pU σ 2 1 0) 2 2 (-1)) 2 3 x0) 0 x0 0) 2 4 x1) 2 7 0) 2 8 0) 2 9 x2) 2 13 0) (fun σr52 => K σr52)
def wp5_R_beginRule (σ : Sg) (x0 : Int) (K : Sg → Prop) : Prop :=
  wp5_U_forget σ x0 (fun σr1 => wp5_R_begin σr1 (11 + 2 * x0) x0 40 (fun σr12 => wp5_R_beginExpression σr12 3 (fun σr17 => K σr17)))
def wp5_S_rule (σ : Sg) (K : Int → Sg → Prop) : Prop :=
  wp5_P_ruleAt σ (σ.1 0 1) (fun r8 => (r8 < 0 → wp5_R_drop σ (fun σr20 => K (-1) σr20)) ∧ (0 ≤ r8 → (0 ≤ r8 ∧ r8 < 12) ∧ wp5_R_beginRule σ r8 (fun σr30 => wp5_R_readAll σr30 (fun r37 σr37 => (r37 ≠ 0 → rng ((σr37.1 0 1) + 1) ∧ rng (((σr37.1 0 1) + 1) - 1) ∧ K (((σr37.1 0 1) + 1) - 1) (pU σr37 0 1 ((σr37.1 0 1) + 1))) ∧ (r37 = 0 → K (-1) σr37)))))
def wp5_P_isPass (x0 : Int) (K : Int → Prop) : Prop :=
  (x0 < 0 → K 0) ∧ (0 ≤ x0 → (6 ≤ x0 → K 0) ∧ (x0 < 6 → K 1))
def wp5_P_addItem (σ : Sg) (x0 : Int) (x1 : Int) (K : Int → Sg → Prop) : Prop :=
  wp5_P_isPass x0 (fun r1 => (r1 = 0 → K (-1) σ) ∧ (r1 ≠ 0 → (0 ≤ x0 ∧ x0 < 6) ∧ ((σ.2.1 69 x0) < 8 → (0 ≤ (σ.2.1 69 x0) ∧ (σ.2.1 69 x0) < 8) ∧ rng ((σ.2.1 69 x0) + 1) ∧ K ((uZ (σ.2.1 69) x0 ((σ.2.1 69 x0) + 1)) x0) (pF (pZ σ 1 x0 (uZ (σ.2.2.2 1 x0) (σ.2.1 69 x0) x1)) 69 (uZ (σ.2.1 69) x0 ((σ.2.1 69 x0) + 1)))) ∧ (8 ≤ (σ.2.1 69 x0) → K (-1) σ)))
def wp5_S_item_48 (K : Int → Sg → Prop) (σ : Sg) (x0 : Int) (x1 : Int) : Prop :=
  wp5_P_addItem σ x0 x1 (fun r54 σr54 => K r54 σr54)
def wp5_S_item_35 (K : Int → Sg → Prop) (σ : Sg) (x0 : Int) (x1 : Int) (s0_17 : Int) (s0_35 : Int) : Prop :=
  (s0_17 ≠ 0 → wp5_S_item_48 K σ x0 x1) ∧ (s0_17 = 0 → (s0_35 ≠ 0 → wp5_S_item_48 K σ x0 x1) ∧ (s0_35 = 0 → K (-1) σ))
def wp5_S_item_34 (K : Int → Sg → Prop) (σ : Sg) (x0 : Int) (x1 : Int) (s0_17 : Int) : Prop :=
  wp5_S_item_35 K σ x0 x1 s0_17 0
def wp5_S_item_17 (K : Int → Sg → Prop) (σ : Sg) (x0 : Int) (x1 : Int) (s0_17 : Int) : Prop :=
  (x1 < 20 → wp5_S_item_34 K σ x0 x1 s0_17) ∧ (20 ≤ x1 → (24 < x1 → wp5_S_item_34 K σ x0 x1 s0_17) ∧ (x1 ≤ 24 → wp5_S_item_35 K σ x0 x1 s0_17 1))
def wp5_S_item_16 (K : Int → Sg → Prop) (σ : Sg) (x0 : Int) (x1 : Int) : Prop :=
  wp5_S_item_17 K σ x0 x1 0
def wp5_S_item (σ : Sg) (x0 : Int) (x1 : Int) (K : Int → Sg → Prop) : Prop :=
  (x1 < 0 → wp5_S_item_16 K σ x0 x1) ∧ (0 ≤ x1 → ((σ.1 0 1) ≤ x1 → wp5_S_item_16 K σ x0 x1) ∧ (x1 < (σ.1 0 1) → wp5_S_item_17 K σ x0 x1 1))
def wp5_P_dropItems (σ : Sg) (x0 : Int) (K : Int → Sg → Prop) : Prop :=
  wp5_P_isPass x0 (fun r1 => (r1 ≠ 0 → (0 ≤ x0 ∧ x0 < 6) ∧ K 1 (pF σ 69 (uZ (σ.2.1 69) x0 0))) ∧ (r1 = 0 → K 0 σ))
def wp5_S_clear (σ : Sg) (x0 : Int) (K : Int → Sg → Prop) : Prop :=
  wp5_P_dropItems σ x0 (fun r5 σr5 => (r5 = 0 ∨ r5 = 1) ∧ K r5 σr5)
def wp5_S_at (σ : Sg) (x0 : Int) (x1 : Int) (K : Int → Prop) : Prop :=
  wp5_S_slotAt σ x0 (fun r2 => (r2 < 0 → K (-1)) ∧ (0 ≤ r2 → (0 ≤ r2 ∧ r2 < 35) ∧ wp5_W_cell σ r2 x1 (fun r16 => K r16)))
def wp5_W_isExpression_22 (K : Int → Prop) (x0 : Int) : Prop :=
  (x0 < 120 → K 0) ∧ (120 ≤ x0 → (122 < x0 → K 0) ∧ (x0 ≤ 122 → K 1))
def wp5_W_isExpression_10 (K : Int → Prop) (x0 : Int) : Prop :=
  (x0 < 20 → wp5_W_isExpression_22 K x0) ∧ (20 ≤ x0 → (x0 < 26 → K 1) ∧ (26 ≤ x0 → wp5_W_isExpression_22 K x0))
def wp5_W_isExpression (x0 : Int) (K : Int → Prop) : Prop :=
  (x0 < 0 → wp5_W_isExpression_10 K x0) ∧ (0 ≤ x0 → (x0 < 16 → K 1) ∧ (16 ≤ x0 → wp5_W_isExpression_10 K x0))
def wp5_W_expressions_4 (K : Int → Prop) (σ : Sg) (n0 : Int) (L4 : Int → Int → Prop) (l1_4 : Int) (l2_4 : Int) : Prop :=
  ((σ.2.2.1 0 n0) ≤ l2_4 → K l1_4) ∧ (l2_4 < (σ.2.2.1 0 n0) → (0 ≤ l2_4 ∧ l2_4 < (capI n0)) ∧ wp5_W_isExpression (σ.2.2.2 0 n0 l2_4) (fun r18 => (r18 = 0 → rng (l2_4 + 1) ∧ L4 l1_4 (l2_4 + 1)) ∧ (r18 ≠ 0 → rng (l1_4 + 1) ∧ rng (l2_4 + 1) ∧ L4 (l1_4 + 1) (l2_4 + 1))))
def wp5_W_expressions (σ : Sg) (n0 : Int) (K : Int → Prop) : Prop :=
  wl2 (wp5_W_expressions_4 K σ n0) 0 0
def wp5_W_isBranch (x0 : Int) (K : Int → Prop) : Prop :=
  (x0 = 112 → K 1) ∧ (x0 ≠ 112 → (x0 ≠ 115 → K 0) ∧ (x0 = 115 → K 1))
def wp5_W_isSet (x0 : Int) (K : Int → Prop) : Prop :=
  (x0 < 100 → K 0) ∧ (100 ≤ x0 → (106 ≤ x0 → K 0) ∧ (x0 < 106 → K 1))
def wp5_F_begin_80 (K : Sg → Prop) (σ : Sg) (qi : Nat) (x0 : Int) (x1 : Int) (s0_55 : Int) (s0_80 : Int) : Prop :=
  rng ((σ.1 qi 1) + 1) ∧ K (pU (pF (pF (pF (pF (pF (pF (pF (pF σ (qi + 1) (uZ (σ.2.1 (qi + 1)) (σ.1 qi 1) x0)) (qi + 2) (uZ (σ.2.1 (qi + 2)) (σ.1 qi 1) x1)) (qi + 8) (uZ (σ.2.1 (qi + 8)) (σ.1 qi 1) s0_55)) (qi + 3) (uZ (σ.2.1 (qi + 3)) (σ.1 qi 1) s0_80)) (qi + 4) (uZ (σ.2.1 (qi + 4)) (σ.1 qi 1) ((uZ (σ.2.1 (qi + 3)) (σ.1 qi 1) s0_80) (σ.1 qi 1)))) (qi + 7) (uZ (σ.2.1 (qi + 7)) (σ.1 qi 1) 0)) (qi + 5) (uZ (σ.2.1 (qi + 5)) (σ.1 qi 1) (-1))) (qi + 6) (uZ (σ.2.1 (qi + 6)) (σ.1 qi 1) (-1))) qi 1 ((σ.1 qi 1) + 1))
def wp5_F_begin_55 (K : Sg → Prop) (σ : Sg) (qi : Nat) (x0 : Int) (x1 : Int) (s0_55 : Int) : Prop :=
  wp5_W_isBranch x1 (fun r65 => (r65 = 0 → rng (x0 + 1) ∧ wp5_F_begin_80 K σ qi x0 x1 s0_55 (x0 + 1)) ∧ (r65 ≠ 0 → rng (x0 + 2) ∧ wp5_F_begin_80 K σ qi x0 x1 s0_55 (x0 + 2)))
def wp5_F_begin (σ : Sg) (qi : Nat) (x0 : Int) (x1 : Int) (K : Sg → Prop) : Prop :=
  ((σ.1 qi 1) < 40 → (0 ≤ (σ.1 qi 1) ∧ (σ.1 qi 1) < 40) ∧ wp5_W_isSet x1 (fun r39 => (r39 = 0 → wp5_F_begin_55 K σ qi x0 x1 0) ∧ (r39 ≠ 0 → wp5_F_begin_55 K σ qi x0 x1 (zishl 1 (x1 - 100))))) ∧ (40 ≤ (σ.1 qi 1) → K σ)
def wp5_F_isHere (σ : Sg) (qi : Nat) (x0 : Int) (K : Int → Prop) : Prop :=
  (x0 < 0 → K 0) ∧ (0 ≤ x0 → ((σ.1 qi 1) ≤ x0 → K 0) ∧ (x0 < (σ.1 qi 1) → (40 ≤ x0 → K 0) ∧ (x0 < 40 → K 1)))
def wp5_W_isRead (x0 : Int) (K : Int → Prop) : Prop :=
  (x0 < 20 → K 0) ∧ (20 ≤ x0 → (26 ≤ x0 → K 0) ∧ (x0 < 26 → K 1))
def wp5_F_number_164 (qi : Nat) (l1_9 : Int) (l2_9 : Int) (r34 : Int) (σ9 : Sg) (L9 : Int → Int → Sg → Prop) : Prop :=
  wp5_W_isExpression r34 (fun r165 => (r165 = 0 → rng (l2_9 + 1) ∧ L9 l1_9 (l2_9 + 1) (pF σ9 (qi + 12) (uZ (σ9.2.1 (qi + 12)) l2_9 (-1)))) ∧ (r165 ≠ 0 → rng ((σ9.1 qi 1) - 1) ∧ wp5_F_isHere (pF σ9 (qi + 12) (uZ (σ9.2.1 (qi + 12)) l2_9 (-1))) qi ((σ9.1 qi 1) - 1) (fun r178 => (r178 = 0 → rng (l2_9 + 1) ∧ L9 l1_9 (l2_9 + 1) (pF σ9 (qi + 12) (uZ (σ9.2.1 (qi + 12)) l2_9 (-1)))) ∧ (r178 ≠ 0 → rng (l2_9 + 1) ∧ (0 ≤ ((σ9.1 qi 1) - 1) ∧ ((σ9.1 qi 1) - 1) < 40) ∧ wp5_W_isRead r34 (fun r211 => (r211 = 0 → L9 l1_9 (l2_9 + 1) (pF (pF (pF σ9 (qi + 12) (uZ (σ9.2.1 (qi + 12)) l2_9 (-1))) (qi + 4) (uZ (σ9.2.1 (qi + 4)) ((σ9.1 qi 1) - 1) (l2_9 + 1))) (qi + 7) (uZ (σ9.2.1 (qi + 7)) ((σ9.1 qi 1) - 1) (zior (σ9.2.1 (qi + 7) ((σ9.1 qi 1) - 1)) 0)))) ∧ (r211 ≠ 0 → L9 l1_9 (l2_9 + 1) (pF (pF (pF σ9 (qi + 12) (uZ (σ9.2.1 (qi + 12)) l2_9 (-1))) (qi + 4) (uZ (σ9.2.1 (qi + 4)) ((σ9.1 qi 1) - 1) (l2_9 + 1))) (qi + 7) (uZ (σ9.2.1 (qi + 7)) ((σ9.1 qi 1) - 1) (zior (σ9.2.1 (qi + 7) ((σ9.1 qi 1) - 1)) (zishl 1 (r34 - 20)))))))))))
def wp5_F_number_136 (qi : Nat) (l1_9 : Int) (l2_9 : Int) (r34 : Int) (σ9 : Sg) (L9 : Int → Int → Sg → Prop) : Prop :=
  (r34 ≠ 114 → wp5_F_number_164 qi l1_9 l2_9 r34 σ9 L9) ∧ (r34 = 114 → (l1_9 ≤ 0 → wp5_F_number_164 qi l1_9 l2_9 r34 σ9 L9) ∧ (0 < l1_9 → (0 ≤ (l1_9 - 1) ∧ (l1_9 - 1) < 40) ∧ rng (l1_9 - 1) ∧ rng (l2_9 + 1) ∧ L9 (l1_9 - 1) (l2_9 + 1) (pF (pF σ9 (qi + 12) (uZ (σ9.2.1 (qi + 12)) l2_9 (-1))) (qi + 12) (uZ (uZ (σ9.2.1 (qi + 12)) l2_9 (-1)) l2_9 (σ9.2.1 (qi + 11) (l1_9 - 1))))))
def wp5_F_number_109 (qi : Nat) (l1_9 : Int) (l2_9 : Int) (r34 : Int) (σ9 : Sg) (L9 : Int → Int → Sg → Prop) : Prop :=
  (r34 ≠ 113 → wp5_F_number_136 qi l1_9 l2_9 r34 σ9 L9) ∧ (r34 = 113 → (l1_9 ≤ 0 → wp5_F_number_136 qi l1_9 l2_9 r34 σ9 L9) ∧ (0 < l1_9 → (0 ≤ (l1_9 - 1) ∧ (l1_9 - 1) < 40) ∧ rng (l2_9 + 1) ∧ L9 l1_9 (l2_9 + 1) (pF (pF σ9 (qi + 12) (uZ (σ9.2.1 (qi + 12)) l2_9 (-1))) (qi + 12) (uZ (uZ (σ9.2.1 (qi + 12)) l2_9 (-1)) l2_9 (σ9.2.1 (qi + 11) (l1_9 - 1))))))
def wp5_F_number_100 (qi : Nat) (l2_9 : Int) (r34 : Int) (L9 : Int → Int → Sg → Prop) (l1_100 : Int) (σ100 : Sg) : Prop :=
  wp5_F_begin σ100 qi l2_9 r34 (fun σr103 => rng (l2_9 + 1) ∧ L9 l1_100 (l2_9 + 1) σr103)
def wp5_F_number_9 (K : Sg → Prop) (qi : Nat) (L9 : Int → Int → Sg → Prop) (l1_9 : Int) (l2_9 : Int) (σ9 : Sg) : Prop :=
  (0 ≤ (σ9.1 qi 0) ∧ (σ9.1 qi 0) < 35) ∧ ((σ9.2.2.1 0 (σ9.1 qi 0)) ≤ l2_9 → K σ9) ∧ (l2_9 < (σ9.2.2.1 0 (σ9.1 qi 0)) → (480 ≤ l2_9 → K σ9) ∧ (l2_9 < 480 → wp5_W_cell σ9 (σ9.1 qi 0) l2_9 (fun r34 => (0 ≤ l2_9 ∧ l2_9 < 480) ∧ wp5_W_isStatement r34 (fun r46 => (r46 = 0 → wp5_F_number_109 qi l1_9 l2_9 r34 σ9 L9) ∧ (r46 ≠ 0 → (40 ≤ (σ9.1 qi 1) → wp5_F_number_109 qi l1_9 l2_9 r34 σ9 L9) ∧ ((σ9.1 qi 1) < 40 → wp5_W_isBranch r34 (fun r72 => (r72 = 0 → wp5_F_number_100 qi l2_9 r34 L9 l1_9 (pF (pF σ9 (qi + 12) (uZ (σ9.2.1 (qi + 12)) l2_9 (-1))) (qi + 12) (uZ (uZ (σ9.2.1 (qi + 12)) l2_9 (-1)) l2_9 (σ9.1 qi 1)))) ∧ (r72 ≠ 0 → (40 ≤ l1_9 → wp5_F_number_100 qi l2_9 r34 L9 l1_9 (pF (pF σ9 (qi + 12) (uZ (σ9.2.1 (qi + 12)) l2_9 (-1))) (qi + 12) (uZ (uZ (σ9.2.1 (qi + 12)) l2_9 (-1)) l2_9 (σ9.1 qi 1)))) ∧ (l1_9 < 40 → (0 ≤ l1_9 ∧ l1_9 < 40) ∧ rng (l1_9 + 1) ∧ wp5_F_number_100 qi l2_9 r34 L9 (l1_9 + 1) (pF (pF (pF σ9 (qi + 12) (uZ (σ9.2.1 (qi + 12)) l2_9 (-1))) (qi + 12) (uZ (uZ (σ9.2.1 (qi + 12)) l2_9 (-1)) l2_9 (σ9.1 qi 1))) (qi + 11) (uZ (σ9.2.1 (qi + 11)) l1_9 (σ9.1 qi 1))))))))))))
def wp5_F_number (σ : Sg) (qi : Nat) (K : Sg → Prop) : Prop :=
  wl3 (wp5_F_number_9 K qi) 0 0 (pU σ qi 1 0)
def wp5_F_linkAt_73 (K : Int → Sg → Prop) (qi : Nat) (x0 : Int) (x1 : Int) (σ73 : Sg) : Prop :=
  (x0 ≠ 115 → K x1 σ73) ∧ (x0 = 115 → (0 ≤ x1 ∧ x1 < 40) ∧ K x1 (pF σ73 (qi + 6) (uZ (σ73.2.1 (qi + 6)) x1 (σ73.2.1 (qi + 10) x1))))
def wp5_F_linkAt (σ : Sg) (qi : Nat) (x0 : Int) (x1 : Int) (x2 : Int) (K : Int → Sg → Prop) : Prop :=
  wp5_F_isHere σ qi x1 (fun r2 => (r2 ≠ 0 → (x0 ≠ 114 → (x0 ≠ 113 → (x0 = 111 → wp5_F_linkAt_73 K qi x0 x1 σ) ∧ (x0 ≠ 111 → (0 ≤ x1 ∧ x1 < 40) ∧ wp5_F_linkAt_73 K qi x0 x1 (pF σ (qi + 5) (uZ (σ.2.1 (qi + 5)) x1 x2)))) ∧ (x0 = 113 → (0 ≤ x1 ∧ x1 < 40) ∧ K (σ.2.1 (qi + 10) x1) (pF σ (qi + 6) (uZ (σ.2.1 (qi + 6)) x1 x2)))) ∧ (x0 = 114 → (0 ≤ x1 ∧ x1 < 40) ∧ ((σ.2.1 (qi + 2) x1) ≠ 115 → K x2 (pF σ (qi + 10) (uZ (σ.2.1 (qi + 10)) x1 x2))) ∧ ((σ.2.1 (qi + 2) x1) = 115 → K x1 (pF σ (qi + 10) (uZ (σ.2.1 (qi + 10)) x1 x2))))) ∧ (r2 = 0 → K x2 σ))
def wp5_F_link_20 (K : Sg → Prop) (qi : Nat) (L20 : Int → Int → Sg → Prop) (l1_20 : Int) (l2_20 : Int) (σ20 : Sg) : Prop :=
  (l2_20 < 0 → K σ20) ∧ (0 ≤ l2_20 → (0 ≤ l2_20 ∧ l2_20 < 480) ∧ wp5_F_isHere σ20 qi (σ20.2.1 (qi + 12) l2_20) (fun r33 => (r33 = 0 → rng (l2_20 - 1) ∧ L20 l1_20 (l2_20 - 1) σ20) ∧ (r33 ≠ 0 → (0 ≤ (σ20.1 qi 0) ∧ (σ20.1 qi 0) < 35) ∧ wp5_W_cell σ20 (σ20.1 qi 0) l2_20 (fun r45 => wp5_F_linkAt σ20 qi r45 (σ20.2.1 (qi + 12) l2_20) l1_20 (fun r50 σr50 => rng (l2_20 - 1) ∧ L20 r50 (l2_20 - 1) σr50)))))
def wp5_F_link (σ : Sg) (qi : Nat) (K : Sg → Prop) : Prop :=
  (0 ≤ (σ.1 qi 0) ∧ (σ.1 qi 0) < 35) ∧ rng ((min (σ.2.2.1 0 (σ.1 qi 0)) 480) - 1) ∧ wl3 (wp5_F_link_20 K qi) (-1) ((min (σ.2.2.1 0 (σ.1 qi 0)) 480) - 1) σ
def wp5_F_aheadOf (σ : Sg) (qi : Nat) (x0 : Int) (K : Int → Prop) : Prop :=
  wp5_F_isHere σ qi x0 (fun r2 => (r2 = 0 → K 0) ∧ (r2 ≠ 0 → (0 ≤ x0 ∧ x0 < 40) ∧ K (σ.2.1 (qi + 9) x0)))
def wp5_F_settle_116 (qi : Nat) (l3_58 : Int) (r75 : Int) (r85 : Int) (σ58 : Sg) (L58 : Int → Int → Sg → Prop) : Prop :=
  rng (l3_58 - 1) ∧ L58 1 (l3_58 - 1) (pF σ58 (qi + 9) (uZ (σ58.2.1 (qi + 9)) l3_58 (zior (σ58.2.1 (qi + 7) l3_58) (ziand (zior r75 r85) (zixor (σ58.2.1 (qi + 8) l3_58) (-1))))))
def wp5_F_settle_58 (qi : Nat) (l2_33 : Int) (L33 : Int → Int → Sg → Prop) (L58 : Int → Int → Sg → Prop) (l1_58 : Int) (l3_58 : Int) (σ58 : Sg) : Prop :=
  (l3_58 < 0 → rng (l2_33 + 1) ∧ L33 l1_58 (l2_33 + 1) σ58) ∧ (0 ≤ l3_58 → (0 ≤ l3_58 ∧ l3_58 < 40) ∧ wp5_F_aheadOf σ58 qi (σ58.2.1 (qi + 5) l3_58) (fun r75 => wp5_F_aheadOf σ58 qi (σ58.2.1 (qi + 6) l3_58) (fun r85 => (l1_58 ≠ 0 → wp5_F_settle_116 qi l3_58 r75 r85 σ58 L58) ∧ (l1_58 = 0 → ((zior (σ58.2.1 (qi + 7) l3_58) (ziand (zior r75 r85) (zixor (σ58.2.1 (qi + 8) l3_58) (-1)))) = (σ58.2.1 (qi + 9) l3_58) → rng (l3_58 - 1) ∧ L58 0 (l3_58 - 1) (pF σ58 (qi + 9) (uZ (σ58.2.1 (qi + 9)) l3_58 (zior (σ58.2.1 (qi + 7) l3_58) (ziand (zior r75 r85) (zixor (σ58.2.1 (qi + 8) l3_58) (-1))))))) ∧ ((zior (σ58.2.1 (qi + 7) l3_58) (ziand (zior r75 r85) (zixor (σ58.2.1 (qi + 8) l3_58) (-1)))) ≠ (σ58.2.1 (qi + 9) l3_58) → wp5_F_settle_116 qi l3_58 r75 r85 σ58 L58)))))
def wp5_F_settle_33 (K : Sg → Prop) (qi : Nat) (L33 : Int → Int → Sg → Prop) (l1_33 : Int) (l2_33 : Int) (σ33 : Sg) : Prop :=
  (241 ≤ l2_33 → K σ33) ∧ (l2_33 < 241 → (l1_33 = 0 → K σ33) ∧ (l1_33 ≠ 0 → rng ((min (σ33.1 qi 1) 40) - 1) ∧ wl3 (wp5_F_settle_58 qi l2_33 L33) 0 ((min (σ33.1 qi 1) 40) - 1) σ33))
def wp5_F_settle_29 (K : Sg → Prop) (qi : Nat) (σ2 : Sg) : Prop :=
  wl3 (wp5_F_settle_33 K qi) 1 0 σ2
def wp5_F_settle_2 (K : Sg → Prop) (qi : Nat) (L2 : Int → Sg → Prop) (l1_2 : Int) (σ2 : Sg) : Prop :=
  ((σ2.1 qi 1) ≤ l1_2 → wp5_F_settle_29 K qi σ2) ∧ (l1_2 < (σ2.1 qi 1) → (40 ≤ l1_2 → wp5_F_settle_29 K qi σ2) ∧ (l1_2 < 40 → (0 ≤ l1_2 ∧ l1_2 < 40) ∧ rng (l1_2 + 1) ∧ L2 (l1_2 + 1) (pF σ2 (qi + 9) (uZ (σ2.2.1 (qi + 9)) l1_2 0))))
def wp5_F_settle (σ : Sg) (qi : Nat) (K : Sg → Prop) : Prop :=
  wl2 (wp5_F_settle_2 K qi) 0 σ
def wp5_F_trace (σ : Sg) (qi : Nat) (x0 : Int) (K : Sg → Prop) : Prop :=
  wp5_F_number (pU σ qi 0 x0) qi (fun σr6 => wp5_F_link σr6 qi (fun σr10 => wp5_F_settle σr10 qi (fun σr14 => K σr14)))
def wp5_S_size (σ : Sg) (x0 : Int) (x1 : Int) (K : Int → Sg → Prop) : Prop :=
  wp5_S_slotAt σ x0 (fun r2 => (r2 < 0 → K (-1) σ) ∧ (0 ≤ r2 → (0 ≤ r2 ∧ r2 < 35) ∧ (x1 = 0 → wp5_W_statements σ r2 (fun r45 => K r45 σ)) ∧ (x1 = 1 → wp5_W_expressions σ r2 (fun r50 => K r50 σ)) ∧ (x1 = 2 → K (σ.2.2.1 0 r2) σ) ∧ (x1 = 3 → wp5_F_trace σ 12 r2 (fun σr67 => wp5_F_aheadOf σr67 12 0 (fun r78 => K r78 σr67))) ∧ (x1 < 0 ∨ 3 < x1 → K (-1) σ)))
def wp5_S_isWord (x0 : Int) (K : Int → Prop) : Prop :=
  (x0 < 0 → K 0) ∧ (0 ≤ x0 → (16 ≤ x0 → K 0) ∧ (x0 < 16 → K 1))
def wp5_W_isOperation (x0 : Int) (K : Int → Prop) : Prop :=
  (x0 < 120 → K 0) ∧ (120 ≤ x0 → (122 < x0 → K 0) ∧ (x0 ≤ 122 → K 1))
def wp5_W_result (x0 : Int) (x1 : Int) (x2 : Int) (K : Int → Prop) : Prop :=
  (x0 ≠ 120 → (x0 ≠ 121 → K (ziand (x1 * x2) 15)) ∧ (x0 = 121 → K (ziand (x1 - x2) 15))) ∧ (x0 = 120 → K (ziand (x1 + x2) 15))
def wp5_W_reckonM_15 (K : Sg → Prop) (qi : Nat) (n0 : Int) (x0 : Int) (L15 : Int → Int → Sg → Prop) (l5_15 : Int) (l6_15 : Int) (σ15 : Sg) : Prop :=
  (l6_15 < x0 → K σ15) ∧ (x0 ≤ l6_15 → (l6_15 < 0 → K σ15) ∧ (0 ≤ l6_15 → (0 ≤ l6_15 ∧ l6_15 < (capI n0)) ∧ wp5_W_isOperation (σ15.2.2.2 0 n0 l6_15) (fun r37 => (r37 = 0 → (300 ≤ l5_15 → rng (l6_15 - 1) ∧ L15 l5_15 (l6_15 - 1) σ15) ∧ (l5_15 < 300 → rng ((σ15.2.2.2 0 n0 l6_15) - 20) ∧ (0 ≤ ((σ15.2.2.2 0 n0 l6_15) - 20) → (6 ≤ ((σ15.2.2.2 0 n0 l6_15) - 20) → (0 ≤ l5_15 ∧ l5_15 < 300) ∧ rng (l5_15 + 1) ∧ rng (l6_15 - 1) ∧ L15 (l5_15 + 1) (l6_15 - 1) (pF σ15 (qi + 3) (uZ (σ15.2.1 (qi + 3)) l5_15 0))) ∧ (((σ15.2.2.2 0 n0 l6_15) - 20) < 6 → (0 ≤ ((σ15.2.2.2 0 n0 l6_15) - 20) ∧ ((σ15.2.2.2 0 n0 l6_15) - 20) < 6) ∧ (0 ≤ l5_15 ∧ l5_15 < 300) ∧ rng (l5_15 + 1) ∧ rng (l6_15 - 1) ∧ L15 (l5_15 + 1) (l6_15 - 1) (pF σ15 (qi + 3) (uZ (σ15.2.1 (qi + 3)) l5_15 (σ15.2.1 (qi + 2) ((σ15.2.2.2 0 n0 l6_15) - 20)))))) ∧ (((σ15.2.2.2 0 n0 l6_15) - 20) < 0 → (0 ≤ l5_15 ∧ l5_15 < 300) ∧ rng (l5_15 + 1) ∧ rng (l6_15 - 1) ∧ L15 (l5_15 + 1) (l6_15 - 1) (pF σ15 (qi + 3) (uZ (σ15.2.1 (qi + 3)) l5_15 (σ15.2.2.2 0 n0 l6_15)))))) ∧ (r37 ≠ 0 → (l5_15 < 2 → rng (l6_15 - 1) ∧ L15 l5_15 (l6_15 - 1) σ15) ∧ (2 ≤ l5_15 → (300 < l5_15 → rng (l6_15 - 1) ∧ L15 l5_15 (l6_15 - 1) σ15) ∧ (l5_15 ≤ 300 → (0 ≤ (l5_15 - 1) ∧ (l5_15 - 1) < 300) ∧ (0 ≤ (l5_15 - 2) ∧ (l5_15 - 2) < 300) ∧ wp5_W_result (σ15.2.2.2 0 n0 l6_15) (σ15.2.1 (qi + 3) (l5_15 - 1)) (σ15.2.1 (qi + 3) (l5_15 - 2)) (fun r79 => rng (l5_15 - 1) ∧ rng (l6_15 - 1) ∧ L15 (l5_15 - 1) (l6_15 - 1) (pF σ15 (qi + 3) (uZ (σ15.2.1 (qi + 3)) (l5_15 - 2) r79)))))))))
def wp5_W_reckonM (σ : Sg) (qi : Nat) (n0 : Int) (x0 : Int) (x1 : Int) (K : Sg → Prop) : Prop :=
  rng ((min x1 (σ.2.2.1 0 n0)) - 1) ∧ wl3 (wp5_W_reckonM_15 K qi n0 x0) 0 ((min x1 (σ.2.2.1 0 n0)) - 1) σ
def wp5_W_holds (x0 : Int) (x1 : Int) (x2 : Int) (K : Int → Prop) : Prop :=
  (x0 ≠ 130 → (x0 ≠ 131 → (x1 ≤ x2 → K 0) ∧ (x2 < x1 → K 1)) ∧ (x0 = 131 → (x1 ≠ x2 → K 0) ∧ (x1 = x2 → K 1))) ∧ (x0 = 130 → (x2 ≤ x1 → K 0) ∧ (x1 < x2 → K 1))
def wp5_M_doStatement_184 (K : Int → Sg → Prop) (σ : Sg) (qi : Nat) (x0 : Int) (σr65 : Sg) : Prop :=
  wp5_W_isSet (σ.2.1 (qi + 6) x0) (fun r185 => (r185 = 0 → K (σr65.2.1 (qi + 9) x0) σr65) ∧ (r185 ≠ 0 → (0 ≤ ((σ.2.1 (qi + 6) x0) - 100) ∧ ((σ.2.1 (qi + 6) x0) - 100) < 6) ∧ K (σr65.2.1 (qi + 9) x0) (pF σr65 (qi + 2) (uZ (σr65.2.1 (qi + 2)) ((σ.2.1 (qi + 6) x0) - 100) (σr65.2.1 (qi + 3) 0)))))
def wp5_M_doStatement (σ : Sg) (qi : Nat) (x0 : Int) (K : Int → Sg → Prop) : Prop :=
  wp5_F_isHere σ (qi + 4) x0 (fun r5 => (r5 ≠ 0 → (0 ≤ x0 ∧ x0 < 40) ∧ ((σ.2.1 (qi + 6) x0) ≠ 111 → (0 ≤ (σ.1 (qi + 4) 0) ∧ (σ.1 (qi + 4) 0) < 35) ∧ wp5_W_reckonM σ qi (σ.1 (qi + 4) 0) (σ.2.1 (qi + 7) x0) (σ.2.1 (qi + 8) x0) (fun σr65 => wp5_W_isBranch (σ.2.1 (qi + 6) x0) (fun r69 => (r69 = 0 → ((σ.2.1 (qi + 6) x0) ≠ 110 → wp5_M_doStatement_184 K σ qi x0 σr65) ∧ ((σ.2.1 (qi + 6) x0) = 110 → (100 ≤ (σr65.1 qi 2) → wp5_M_doStatement_184 K σ qi x0 σr65) ∧ ((σr65.1 qi 2) < 100 → (0 ≤ (σr65.1 qi 2) ∧ (σr65.1 qi 2) < 100) ∧ rng ((σr65.1 qi 2) + 1) ∧ K (σr65.2.1 (qi + 9) x0) (pU (pF σr65 (qi + 1) (uZ (σr65.2.1 (qi + 1)) (σr65.1 qi 2) (σr65.2.1 (qi + 3) 0))) qi 2 ((σr65.1 qi 2) + 1))))) ∧ (r69 ≠ 0 → (0 ≤ (σr65.1 (qi + 4) 0) ∧ (σr65.1 (qi + 4) 0) < 35) ∧ rng ((σr65.2.1 (qi + 5) x0) + 1) ∧ wp5_W_cell σr65 (σr65.1 (qi + 4) 0) ((σr65.2.1 (qi + 5) x0) + 1) (fun r93 => wp5_W_holds r93 (σr65.2.1 (qi + 3) 1) (σr65.2.1 (qi + 3) 0) (fun r108 => (r108 = 0 → K (σr65.2.1 (qi + 10) x0) σr65) ∧ (r108 ≠ 0 → K (σr65.2.1 (qi + 9) x0) σr65))))))) ∧ ((σ.2.1 (qi + 6) x0) = 111 → K (-2) σ)) ∧ (r5 = 0 → K (-1) σ))
def wp5_M_go_99 (K : Sg → Prop) (qi : Nat) (l3_67 : Int) (σ67 : Sg) : Prop :=
  (l3_67 ≠ (-2) → (l3_67 < 0 → K (pU σ67 qi 4 0)) ∧ (0 ≤ l3_67 → K (pU σ67 qi 4 2))) ∧ (l3_67 = (-2) → K (pU σ67 qi 4 1))
def wp5_M_go_67 (K : Sg → Prop) (qi : Nat) (L67 : Int → Sg → Prop) (l3_67 : Int) (σ67 : Sg) : Prop :=
  (100 ≤ (σ67.1 qi 3) → wp5_M_go_99 K qi l3_67 σ67) ∧ ((σ67.1 qi 3) < 100 → (l3_67 < 0 → wp5_M_go_99 K qi l3_67 σ67) ∧ (0 ≤ l3_67 → wp5_M_doStatement σ67 qi l3_67 (fun r82 σr82 => rng ((σr82.1 qi 3) + 1) ∧ L67 r82 (pU σr82 qi 3 ((σr82.1 qi 3) + 1)))))
def wp5_M_go_61 (K : Sg → Prop) (qi : Nat) (σ2 : Sg) (s0_61 : Int) : Prop :=
  wl2 (wp5_M_go_67 K qi) s0_61 (pU (pU σ2 qi 2 0) qi 3 0)
def wp5_M_go_2 (K : Sg → Prop) (qi : Nat) (x0 : Int) (x1 : Int) (L2 : Int → Sg → Prop) (l3_2 : Int) (σ2 : Sg) : Prop :=
  (6 ≤ l3_2 → ((σ2.1 (qi + 4) 1) ≤ 0 → wp5_M_go_61 K qi σ2 (-1)) ∧ (0 < (σ2.1 (qi + 4) 1) → wp5_M_go_61 K qi σ2 0)) ∧ (l3_2 < 6 → (l3_2 ≠ 0 → (l3_2 ≠ 1 → (0 ≤ l3_2 ∧ l3_2 < 6) ∧ rng (l3_2 + 1) ∧ L2 (l3_2 + 1) (pF σ2 (qi + 2) (uZ (σ2.2.1 (qi + 2)) l3_2 0))) ∧ (l3_2 = 1 → (0 ≤ l3_2 ∧ l3_2 < 6) ∧ rng (l3_2 + 1) ∧ L2 (l3_2 + 1) (pF σ2 (qi + 2) (uZ (σ2.2.1 (qi + 2)) l3_2 x1)))) ∧ (l3_2 = 0 → (0 ≤ l3_2 ∧ l3_2 < 6) ∧ rng (l3_2 + 1) ∧ L2 (l3_2 + 1) (pF σ2 (qi + 2) (uZ (σ2.2.1 (qi + 2)) l3_2 x0))))
def wp5_M_go (σ : Sg) (qi : Nat) (x0 : Int) (x1 : Int) (K : Sg → Prop) : Prop :=
  wl2 (wp5_M_go_2 K qi x0 x1) 0 σ
def wp5_M_output (σ : Sg) (qi : Nat) (x0 : Int) (K : Int → Prop) : Prop :=
  (x0 < 0 → K (-1)) ∧ (0 ≤ x0 → ((σ.1 qi 2) ≤ x0 → K (-1)) ∧ (x0 < (σ.1 qi 2) → (100 ≤ x0 → K (-1)) ∧ (x0 < 100 → (0 ≤ x0 ∧ x0 < 100) ∧ K (σ.2.1 (qi + 1) x0))))
def wp5_M_tell_51 (K : Int → Prop) (σ : Sg) (qi : Nat) (x0 : Int) : Prop :=
  (x0 < 100 → K (-1)) ∧ (100 ≤ x0 → rng (x0 - 100) ∧ wp5_M_output σ qi (x0 - 100) (fun r62 => K r62))
def wp5_M_tell (σ : Sg) (qi : Nat) (x0 : Int) (K : Int → Prop) : Prop :=
  (x0 ≠ 0 → (x0 ≠ 1 → (x0 ≠ 2 → (x0 < 10 → wp5_M_tell_51 K σ qi x0) ∧ (10 ≤ x0 → (16 ≤ x0 → wp5_M_tell_51 K σ qi x0) ∧ (x0 < 16 → (0 ≤ (x0 - 10) ∧ (x0 - 10) < 6) ∧ K (σ.2.1 (qi + 2) (x0 - 10))))) ∧ (x0 = 2 → K (σ.1 qi 2))) ∧ (x0 = 1 → K (σ.1 qi 3))) ∧ (x0 = 0 → K (σ.1 qi 4))
def wp5_S_run (σ : Sg) (x0 : Int) (x1 : Int) (x2 : Int) (x3 : Int) (K : Int → Sg → Prop) : Prop :=
  wp5_S_slotAt σ x0 (fun r2 => (r2 < 0 → K (-1) σ) ∧ (0 ≤ r2 → (0 ≤ r2 ∧ r2 < 35) ∧ wp5_S_isWord x1 (fun r13 => (r13 = 0 → K (-1) σ) ∧ (r13 ≠ 0 → wp5_S_isWord x2 (fun r20 => (r20 ≠ 0 → wp5_F_trace σ 12 r2 (fun σr37 => wp5_M_go σr37 8 x1 x2 (fun σr46 => wp5_M_tell σr46 8 x3 (fun r55 => K r55 σr46)))) ∧ (r20 = 0 → K (-1) σ))))))
def wp5_J_placeThatDiffers_20 (K : Int → Prop) (σ : Sg) (L20 : Int → Prop) (l2_20 : Int) : Prop :=
  ((min (σ.1 33 2) (σ.1 50 2)) ≤ l2_20 → K (-1)) ∧ (l2_20 < (min (σ.1 33 2) (σ.1 50 2)) → wp5_M_output σ 33 l2_20 (fun r30 => wp5_M_output σ 50 l2_20 (fun r38 => (r30 = r38 → rng (l2_20 + 1) ∧ L20 (l2_20 + 1)) ∧ (r30 ≠ r38 → K l2_20))))
def wp5_J_placeThatDiffers (σ : Sg) (K : Int → Prop) : Prop :=
  wl1 (wp5_J_placeThatDiffers_20 K σ) 0
def wp5_M_isTired (σ : Sg) (qi : Nat) (K : Int → Prop) : Prop :=
  ((σ.1 qi 4) ≠ 2 → K 0) ∧ ((σ.1 qi 4) = 2 → K 1)
def wp5_J_note_110 (K : Sg → Prop) (σ : Sg) (x0 : Int) (x1 : Int) (r1 : Int) (s0_91 : Int) : Prop :=
  ((σ.1 32 2) ≠ 0 → rng ((σ.1 32 2) + x1) ∧ K (pU (pU σ 32 3 s0_91) 32 2 ((σ.1 32 2) + x1))) ∧ ((σ.1 32 2) = 0 → rng ((σ.1 32 2) + x1) ∧ K (pU (pU (pU (pU σ 32 3 s0_91) 32 0 x0) 32 1 r1) 32 2 ((σ.1 32 2) + x1)))
def wp5_J_note_91 (K : Sg → Prop) (σ : Sg) (x0 : Int) (x1 : Int) (r1 : Int) (s0_30 : Int) (s0_71 : Int) (s0_91 : Int) : Prop :=
  (s0_91 = 0 ∨ s0_91 = 1) ∧ (r1 ≠ (-1) → wp5_J_note_110 K σ x0 x1 r1 s0_91) ∧ (r1 = (-1) → (s0_30 ≠ 0 → K (pU σ 32 3 s0_91)) ∧ (s0_30 = 0 → (s0_71 ≠ 0 → wp5_J_note_110 K σ x0 x1 r1 s0_91) ∧ (s0_71 = 0 → K (pU σ 32 3 s0_91))))
def wp5_J_note_86 (K : Sg → Prop) (σ : Sg) (x0 : Int) (x1 : Int) (r1 : Int) (s0_30 : Int) (s0_71 : Int) : Prop :=
  wp5_J_note_91 K σ x0 x1 r1 s0_30 s0_71 1
def wp5_J_note_71 (K : Sg → Prop) (σ : Sg) (x0 : Int) (x1 : Int) (r1 : Int) (s0_30 : Int) (s0_71 : Int) : Prop :=
  ((σ.1 32 3) ≠ 0 → wp5_J_note_86 K σ x0 x1 r1 s0_30 s0_71) ∧ ((σ.1 32 3) = 0 → (s0_30 = 0 → wp5_J_note_91 K σ x0 x1 r1 s0_30 s0_71 0) ∧ (s0_30 ≠ 0 → wp5_J_note_86 K σ x0 x1 r1 s0_30 s0_71))
def wp5_J_note_66 (K : Sg → Prop) (σ : Sg) (x0 : Int) (x1 : Int) (r1 : Int) (s0_30 : Int) : Prop :=
  wp5_J_note_71 K σ x0 x1 r1 s0_30 1
def wp5_J_note_30 (K : Sg → Prop) (σ : Sg) (x0 : Int) (x1 : Int) (r1 : Int) (s0_30 : Int) : Prop :=
  ((σ.1 33 2) ≠ (σ.1 50 2) → wp5_J_note_66 K σ x0 x1 r1 s0_30) ∧ ((σ.1 33 2) = (σ.1 50 2) → ((σ.1 33 4) = (σ.1 50 4) → wp5_J_note_71 K σ x0 x1 r1 s0_30 0) ∧ ((σ.1 33 4) ≠ (σ.1 50 4) → wp5_J_note_66 K σ x0 x1 r1 s0_30))
def wp5_J_note_25 (K : Sg → Prop) (σ : Sg) (x0 : Int) (x1 : Int) (r1 : Int) : Prop :=
  wp5_J_note_30 K σ x0 x1 r1 1
def wp5_J_note (σ : Sg) (x0 : Int) (x1 : Int) (K : Sg → Prop) : Prop :=
  wp5_J_placeThatDiffers σ (fun r1 => wp5_M_isTired σ 33 (fun r9 => (r9 ≠ 0 → wp5_J_note_25 K σ x0 x1 r1) ∧ (r9 = 0 → wp5_M_isTired σ 50 (fun r19 => (r19 = 0 → wp5_J_note_30 K σ x0 x1 r1 0) ∧ (r19 ≠ 0 → wp5_J_note_25 K σ x0 x1 r1)))))
def wp5_J_compare_110 (K : Int → Sg → Prop) (x2 : Int) (l7_100 : Int) (s0_80 : Int) (s0_95 : Int) (L100 : Int → Sg → Prop) (L110 : Int → Sg → Prop) (l8_110 : Int) (σ110 : Sg) : Prop :=
  (16 ≤ l8_110 → rng (l7_100 + s0_80) ∧ L100 (l7_100 + s0_80) σ110) ∧ (l8_110 < 16 → wp5_M_go σ110 33 l7_100 l8_110 (fun σr125 => wp5_M_go σr125 50 l7_100 l8_110 (fun σr136 => rng ((16 * l7_100) + l8_110) ∧ rng (s0_80 * s0_95) ∧ wp5_J_note σr136 ((16 * l7_100) + l8_110) (s0_80 * s0_95) (fun σr153 => (x2 = 0 → rng (l8_110 + s0_95) ∧ L110 (l8_110 + s0_95) σr153) ∧ (x2 ≠ 0 → ((σr153.1 32 2) ≤ 0 → rng (l8_110 + s0_95) ∧ L110 (l8_110 + s0_95) σr153) ∧ (0 < (σr153.1 32 2) → K 1 σr153))))))
def wp5_J_compare_100 (K : Int → Sg → Prop) (x2 : Int) (s0_80 : Int) (s0_95 : Int) (L100 : Int → Sg → Prop) (l7_100 : Int) (σ100 : Sg) : Prop :=
  (16 ≤ l7_100 → ((σ100.1 32 2) ≤ 0 → K 0 σ100) ∧ (0 < (σ100.1 32 2) → K 1 σ100)) ∧ (l7_100 < 16 → wl2 (wp5_J_compare_110 K x2 l7_100 s0_80 s0_95 L100) 0 σ100)
def wp5_J_compare_95 (K : Int → Sg → Prop) (x2 : Int) (s0_80 : Int) (σr39 : Sg) (s0_95 : Int) : Prop :=
  wl2 (wp5_J_compare_100 K x2 s0_80 s0_95) 0 σr39
def wp5_J_compare_80 (K : Int → Sg → Prop) (x2 : Int) (r50 : Int) (r61 : Int) (σr39 : Sg) (s0_80 : Int) : Prop :=
  ((ziand (zior r50 r61) 2) = 0 → wp5_J_compare_95 K x2 s0_80 σr39 16) ∧ ((ziand (zior r50 r61) 2) ≠ 0 → wp5_J_compare_95 K x2 s0_80 σr39 1)
def wp5_J_compare (σ : Sg) (x0 : Int) (x1 : Int) (x2 : Int) (K : Int → Sg → Prop) : Prop :=
  wp5_F_trace (pU (pU (pU (pU σ 32 0 (-1)) 32 1 (-1)) 32 2 0) 32 3 0) 37 x0 (fun σr28 => wp5_F_trace σr28 54 x1 (fun σr39 => wp5_F_aheadOf σr39 37 0 (fun r50 => wp5_F_aheadOf σr39 54 0 (fun r61 => ((ziand (zior r50 r61) 1) = 0 → wp5_J_compare_80 K x2 r50 r61 σr39 16) ∧ ((ziand (zior r50 r61) 1) ≠ 0 → wp5_J_compare_80 K x2 r50 r61 σr39 1)))))
def wp5_J_verdict (σ : Sg) (K : Int → Prop) : Prop :=
  ((σ.1 32 2) ≤ 0 → ((σ.1 32 3) = 0 → K 0) ∧ ((σ.1 32 3) ≠ 0 → K 2)) ∧ (0 < (σ.1 32 2) → K 1)
def wp5_S_judge (σ : Sg) (x0 : Int) (x1 : Int) (x2 : Int) (K : Int → Sg → Prop) : Prop :=
  wp5_S_slotAt σ x0 (fun r2 => (r2 < 0 → wp5_S_slotAt σ x1 (fun r9 => (r9 < 0 → K (-1) σ) ∧ (0 ≤ r9 → (0 ≤ r9 ∧ r9 < 35) ∧ K (-1) σ))) ∧ (0 ≤ r2 → (0 ≤ r2 ∧ r2 < 35) ∧ wp5_S_slotAt σ x1 (fun r9 => (r9 < 0 → K (-1) σ) ∧ (0 ≤ r9 → (0 ≤ r9 ∧ r9 < 35) ∧ (x2 < 0 → K (-1) σ) ∧ (0 ≤ x2 → (x2 ≤ 3 → wp5_J_compare σ r2 r9 0 (fun r51 σr51 => (x2 = 0 → wp5_J_verdict σr51 (fun r86 => K r86 σr51)) ∧ (x2 = 1 → K (σr51.1 32 0) σr51) ∧ (x2 = 2 → K (σr51.1 32 1) σr51) ∧ (x2 < 0 ∨ 2 < x2 → K (σr51.1 32 2) σr51))) ∧ (3 < x2 → K (-1) σ))))))
def wp5_S_ruleAt (σ : Sg) (x0 : Int) (K : Int → Prop) : Prop :=
  ((σ.1 0 1) ≤ x0 → K (-1)) ∧ (x0 < (σ.1 0 1) → wp5_P_ruleAt σ x0 (fun r13 => (r13 < 0 → K (-1)) ∧ (0 ≤ r13 → (0 ≤ r13 ∧ r13 < 12) ∧ K r13)))
def wp5_W_expressionEnd_8 (K : Int → Prop) (σ : Sg) (n0 : Int) (L8 : Int → Int → Prop) (l2_8 : Int) (l3_8 : Int) : Prop :=
  (l3_8 ≤ 0 → K l2_8) ∧ (0 < l3_8 → ((σ.2.2.1 0 n0) ≤ l2_8 → K l2_8) ∧ (l2_8 < (σ.2.2.1 0 n0) → (0 ≤ l2_8 ∧ l2_8 < (capI n0)) ∧ wp5_W_isOperation (σ.2.2.2 0 n0 l2_8) (fun r27 => (r27 = 0 → rng (l2_8 + 1) ∧ rng (l3_8 + (-1)) ∧ L8 (l2_8 + 1) (l3_8 + (-1))) ∧ (r27 ≠ 0 → rng (l2_8 + 1) ∧ rng (l3_8 + 1) ∧ L8 (l2_8 + 1) (l3_8 + 1)))))
def wp5_W_expressionEnd (σ : Sg) (n0 : Int) (x0 : Int) (K : Int → Prop) : Prop :=
  wl2 (wp5_W_expressionEnd_8 K σ n0) (max x0 0) 1
def wp5_W_repeats_33 (K : Int → Prop) (σ : Sg) (n0 : Int) (x0 : Int) (x1 : Int) (x2 : Int) (L33 : Int → Prop) (l4_33 : Int) : Prop :=
  (x2 ≤ l4_33 → K 1) ∧ (l4_33 < x2 → (0 ≤ (x0 + l4_33) ∧ (x0 + l4_33) < (capI n0)) ∧ (0 ≤ (x1 + l4_33) ∧ (x1 + l4_33) < (capI n0)) ∧ ((σ.2.2.2 0 n0 (x0 + l4_33)) = (σ.2.2.2 0 n0 (x1 + l4_33)) → rng (l4_33 + 1) ∧ L33 (l4_33 + 1)) ∧ ((σ.2.2.2 0 n0 (x0 + l4_33)) ≠ (σ.2.2.2 0 n0 (x1 + l4_33)) → K 0))
def wp5_W_repeats (σ : Sg) (n0 : Int) (x0 : Int) (x1 : Int) (x2 : Int) (K : Int → Prop) : Prop :=
  (x0 < 0 → K 0) ∧ (0 ≤ x0 → (x1 < 0 → K 0) ∧ (0 ≤ x1 → rng ((σ.2.2.1 0 n0) - x0) ∧ (((σ.2.2.1 0 n0) - x0) < x2 → K 0) ∧ (x2 ≤ ((σ.2.2.1 0 n0) - x0) → rng ((σ.2.2.1 0 n0) - x1) ∧ (x2 ≤ ((σ.2.2.1 0 n0) - x1) → wl1 (wp5_W_repeats_33 K σ n0 x0 x1 x2) 0) ∧ (((σ.2.2.1 0 n0) - x1) < x2 → K 0))))
def wp5_U_bind (σ : Sg) (n0 : Int) (x0 : Int) (x1 : Int) (x2 : Int) (x3 : Int) (K : Int → Sg → Prop) : Prop :=
  (x1 < 0 → K 0 σ) ∧ (0 ≤ x1 → (x1 < 3 → (0 ≤ x1 ∧ x1 < 3) ∧ ((σ.2.2.2 2 n0 x1) = (-1) → K 1 (pZ (pZ σ 2 n0 (uZ (σ.2.2.2 2 n0) x1 x2)) 3 n0 (uZ (σ.2.2.2 3 n0) x1 x3))) ∧ ((σ.2.2.2 2 n0 x1) ≠ (-1) → rng ((σ.2.2.2 3 n0 x1) - (σ.2.2.2 2 n0 x1)) ∧ rng (x3 - x2) ∧ (((σ.2.2.2 3 n0 x1) - (σ.2.2.2 2 n0 x1)) ≠ (x3 - x2) → K 0 σ) ∧ (((σ.2.2.2 3 n0 x1) - (σ.2.2.2 2 n0 x1)) = (x3 - x2) → wp5_W_repeats σ x0 (σ.2.2.2 2 n0 x1) x2 (x3 - x2) (fun r55 => (r55 = 0 → K 0 σ) ∧ (r55 ≠ 0 → K 1 σ))))) ∧ (3 ≤ x1 → K 0 σ))
def wp5_U_matches_45 (K : Int → Sg → Prop) (n0 : Int) (x0 : Int) (L45 : Int → Int → Sg → Prop) (l3_45 : Int) (l4_45 : Int) (σ45 : Sg) : Prop :=
  ((σ45.2.2.1 0 (11 + 2 * n0)) ≤ l4_45 → K 1 σ45) ∧ (l4_45 < (σ45.2.2.1 0 (11 + 2 * n0)) → wp5_W_cell σ45 (11 + 2 * n0) l4_45 (fun r63 => wp5_U_letterOf r63 (fun r66 => (r66 = (-1) → wp5_W_cell σ45 (11 + 2 * n0) l4_45 (fun r111 => wp5_W_cell σ45 x0 l3_45 (fun r116 => (r111 ≠ r116 → K 0 σ45) ∧ (r111 = r116 → rng (l3_45 + 1) ∧ rng (l4_45 + 1) ∧ L45 (l3_45 + 1) (l4_45 + 1) σ45)))) ∧ (r66 ≠ (-1) → wp5_W_expressionEnd σ45 x0 l3_45 (fun r79 => wp5_U_bind σ45 n0 x0 r66 l3_45 r79 (fun r91 σr91 => (r91 ≠ 0 → rng (l4_45 + 1) ∧ L45 r79 (l4_45 + 1) σr91) ∧ (r91 = 0 → K 0 σr91)))))))
def wp5_U_matches_15 (K : Int → Sg → Prop) (n0 : Int) (x0 : Int) (x1 : Int) (L15 : Int → Sg → Prop) (l3_15 : Int) (σ15 : Sg) : Prop :=
  (3 ≤ l3_15 → wl3 (wp5_U_matches_45 K n0 x0) x1 0 σ15) ∧ (l3_15 < 3 → (0 ≤ l3_15 ∧ l3_15 < 3) ∧ rng (l3_15 + 1) ∧ L15 (l3_15 + 1) (pZ (pZ σ15 2 n0 (uZ (σ15.2.2.2 2 n0) l3_15 (-1))) 3 n0 (uZ (σ15.2.2.2 3 n0) l3_15 (-1))))
def wp5_U_matches (σ : Sg) (n0 : Int) (x0 : Int) (x1 : Int) (K : Int → Sg → Prop) : Prop :=
  wp5_W_cell σ x0 x1 (fun r2 => wp5_W_isExpression r2 (fun r5 => (r5 ≠ 0 → wl2 (wp5_U_matches_15 K n0 x0 x1) 0 σ) ∧ (r5 = 0 → K 0 σ)))
def wp5_U_countIn_4 (K : Int → Sg → Prop) (n0 : Int) (x0 : Int) (L4 : Int → Int → Sg → Prop) (l2_4 : Int) (l3_4 : Int) (σ4 : Sg) : Prop :=
  ((σ4.2.2.1 0 x0) ≤ l3_4 → K l2_4 σ4) ∧ (l3_4 < (σ4.2.2.1 0 x0) → wp5_U_matches σ4 n0 x0 l3_4 (fun r15 σr15 => (r15 = 0 → rng (l3_4 + 1) ∧ L4 l2_4 (l3_4 + 1) σr15) ∧ (r15 ≠ 0 → rng (l2_4 + 1) ∧ rng (l3_4 + 1) ∧ L4 (l2_4 + 1) (l3_4 + 1) σr15)))
def wp5_U_countIn (σ : Sg) (n0 : Int) (x0 : Int) (K : Int → Sg → Prop) : Prop :=
  wl3 (wp5_U_countIn_4 K n0 x0) 0 0 σ
def wp5_S_places (σ : Sg) (x0 : Int) (x1 : Int) (K : Int → Sg → Prop) : Prop :=
  wp5_S_ruleAt σ x0 (fun r2 => (r2 < 0 → wp5_S_slotAt σ x1 (fun r8 => (r8 < 0 → K (-1) σ) ∧ (0 ≤ r8 → (0 ≤ r8 ∧ r8 < 35) ∧ K (-1) σ))) ∧ (0 ≤ r2 → (0 ≤ r2 ∧ r2 < 12) ∧ wp5_S_slotAt σ x1 (fun r8 => (r8 < 0 → K (-1) σ) ∧ (0 ≤ r8 → (0 ≤ r8 ∧ r8 < 35) ∧ wp5_U_countIn σ r2 r8 (fun r29 σr29 => K r29 σr29)))))
def wp5_U_placeIn_5 (K : Int → Sg → Prop) (n0 : Int) (x0 : Int) (x1 : Int) (L5 : Int → Int → Sg → Prop) (l3_5 : Int) (l4_5 : Int) (σ5 : Sg) : Prop :=
  ((σ5.2.2.1 0 x0) ≤ l4_5 → K (-1) σ5) ∧ (l4_5 < (σ5.2.2.1 0 x0) → (x1 < 0 → K (-1) σ5) ∧ (0 ≤ x1 → wp5_U_matches σ5 n0 x0 l4_5 (fun r22 σr22 => (r22 = 0 → rng (l4_5 + 1) ∧ L5 l3_5 (l4_5 + 1) σr22) ∧ (r22 ≠ 0 → (l3_5 ≠ x1 → rng (l3_5 + 1) ∧ rng (l4_5 + 1) ∧ L5 (l3_5 + 1) (l4_5 + 1) σr22) ∧ (l3_5 = x1 → K l4_5 σr22)))))
def wp5_U_placeIn (σ : Sg) (n0 : Int) (x0 : Int) (x1 : Int) (K : Int → Sg → Prop) : Prop :=
  wl3 (wp5_U_placeIn_5 K n0 x0 x1) 0 0 σ
def wp5_U_lengthOfRight_4 (K : Int → Prop) (σ : Sg) (n0 : Int) (L4 : Int → Int → Prop) (l1_4 : Int) (l2_4 : Int) : Prop :=
  ((σ.2.2.1 0 (12 + 2 * n0)) ≤ l2_4 → K l1_4) ∧ (l2_4 < (σ.2.2.1 0 (12 + 2 * n0)) → wp5_W_cell σ (12 + 2 * n0) l2_4 (fun r20 => wp5_U_letterOf r20 (fun r23 => (r23 ≠ (-1) → (0 ≤ r23 ∧ r23 < 3) ∧ rng (l1_4 + ((σ.2.2.2 3 n0 r23) - (σ.2.2.2 2 n0 r23))) ∧ rng (l2_4 + 1) ∧ L4 (l1_4 + ((σ.2.2.2 3 n0 r23) - (σ.2.2.2 2 n0 r23))) (l2_4 + 1)) ∧ (r23 = (-1) → rng (l1_4 + 1) ∧ rng (l2_4 + 1) ∧ L4 (l1_4 + 1) (l2_4 + 1)))))
def wp5_U_lengthOfRight (σ : Sg) (n0 : Int) (K : Int → Prop) : Prop :=
  wl2 (wp5_U_lengthOfRight_4 K σ n0) 0 0
def wp5_U_rewrite_55 (K : Int → Sg → Prop) (n0 : Int) (x0 : Int) (x2 : Int) (r13 : Int) (L55 : Int → Sg → Prop) (l5_55 : Int) (σ55 : Sg) : Prop :=
  ((σ55.2.2.1 0 (12 + 2 * n0)) ≤ l5_55 → wp5_W_addPart σ55 x2 x0 r13 (σ55.2.2.1 0 x0) (fun σr136 => K 1 σr136)) ∧ (l5_55 < (σ55.2.2.1 0 (12 + 2 * n0)) → wp5_W_cell σ55 (12 + 2 * n0) l5_55 (fun r73 => wp5_U_letterOf r73 (fun r76 => (r76 ≠ (-1) → (0 ≤ r76 ∧ r76 < 3) ∧ wp5_W_addPart σ55 x2 x0 (σ55.2.2.2 2 n0 r76) (σ55.2.2.2 3 n0 r76) (fun σr119 => rng (l5_55 + 1) ∧ L55 (l5_55 + 1) σr119)) ∧ (r76 = (-1) → wp5_W_cell σ55 (12 + 2 * n0) l5_55 (fun r94 => wp5_W_add σ55 x2 r94 (fun σr97 => rng (l5_55 + 1) ∧ L55 (l5_55 + 1) σr97))))))
def wp5_U_rewrite (σ : Sg) (n0 : Int) (x0 : Int) (x1 : Int) (x2 : Int) (K : Int → Sg → Prop) : Prop :=
  wp5_U_matches σ n0 x0 x1 (fun r3 σr3 => (r3 ≠ 0 → wp5_W_expressionEnd σr3 x0 x1 (fun r13 => wp5_W_expressions σr3 x0 (fun r19 => wp5_U_lengthOfRight σr3 n0 (fun r28 => rng ((r19 - (r13 - x1)) + r28) ∧ (((r19 - (r13 - x1)) + r28) ≤ 300 → wp5_W_addPart (pY σr3 0 x2 0) x2 x0 0 x1 (fun σr49 => wl2 (wp5_U_rewrite_55 K n0 x0 x2 r13) 0 σr49)) ∧ (300 < ((r19 - (r13 - x1)) + r28) → K 0 σr3))))) ∧ (r3 = 0 → K 0 σr3))
def wp5_S_apply (σ : Sg) (x0 : Int) (x1 : Int) (x2 : Int) (x3 : Int) (K : Int → Sg → Prop) : Prop :=
  wp5_S_ruleAt σ x0 (fun r2 => (r2 < 0 → wp5_S_slotAt σ x1 (fun r9 => (r9 < 0 → wp5_S_slotAt σ x3 (fun r17 => (r17 < 0 → K 0 σ) ∧ (0 ≤ r17 → (0 ≤ r17 ∧ r17 < 35) ∧ K 0 σ))) ∧ (0 ≤ r9 → (0 ≤ r9 ∧ r9 < 35) ∧ wp5_S_slotAt σ x3 (fun r17 => (r17 < 0 → K 0 σ) ∧ (0 ≤ r17 → (0 ≤ r17 ∧ r17 < 35) ∧ K 0 σ))))) ∧ (0 ≤ r2 → (0 ≤ r2 ∧ r2 < 12) ∧ wp5_S_slotAt σ x1 (fun r9 => (r9 < 0 → wp5_S_slotAt σ x3 (fun r17 => (r17 < 0 → K 0 σ) ∧ (0 ≤ r17 → (0 ≤ r17 ∧ r17 < 35) ∧ K 0 σ))) ∧ (0 ≤ r9 → (0 ≤ r9 ∧ r9 < 35) ∧ wp5_S_slotAt σ x3 (fun r17 => (r17 < 0 → K 0 σ) ∧ (0 ≤ r17 → (0 ≤ r17 ∧ r17 < 35) ∧ wp5_U_placeIn σ r2 r9 x2 (fun r44 σr44 => (r44 = (-1) → K 0 σr44) ∧ (r44 ≠ (-1) → wp5_U_rewrite σr44 r2 r9 r44 8 (fun r65 σr65 => (r65 ≠ 0 → wp5_W_copy σr65 r17 8 (fun σr79 => K 1 σr79)) ∧ (r65 = 0 → K 0 σr65))))))))))
def wp5_W_isNumber (x0 : Int) (K : Int → Prop) : Prop :=
  (x0 < 0 → K 0) ∧ (0 ≤ x0 → (16 ≤ x0 → K 0) ∧ (x0 < 16 → K 1))
def wp5_W_remove (σ : Sg) (n0 : Int) (x0 : Int) (x1 : Int) (K : Sg → Prop) : Prop :=
  (x0 < 0 → K σ) ∧ (0 ≤ x0 → (x1 ≤ x0 → K σ) ∧ (x0 < x1 → ((σ.2.2.1 0 n0) < x1 → K σ) ∧ (x1 ≤ (σ.2.2.1 0 n0) → ((0 : Int) ≤ x1 ∧ (0 : Int) ≤ x0 ∧ (0 : Int) ≤ ((σ.2.2.1 0 n0) - x1) ∧ (x1 : Int) + ((σ.2.2.1 0 n0) - x1) ≤ capI n0 ∧ (x0 : Int) + ((σ.2.2.1 0 n0) - x1) ≤ capI n0) ∧ rng ((σ.2.2.1 0 n0) - (x1 - x0)) ∧ K (pY (pZ σ 0 n0 (cpI (σ.2.2.2 0 n0) (σ.2.2.2 0 n0) x1 x0 ((σ.2.2.1 0 n0) - x1))) 0 n0 ((σ.2.2.1 0 n0) - (x1 - x0))))))
def wp5_A_foldOperations_7 (K : Sg → Prop) (x0 : Int) (L7 : Int → Sg → Prop) (l2_7 : Int) (σ7 : Sg) : Prop :=
  (l2_7 < 0 → K σ7) ∧ (0 ≤ l2_7 → wp5_W_cell σ7 x0 l2_7 (fun r13 => rng (l2_7 + 1) ∧ wp5_W_cell σ7 x0 (l2_7 + 1) (fun r21 => rng (l2_7 + 2) ∧ wp5_W_cell σ7 x0 (l2_7 + 2) (fun r30 => wp5_W_isOperation r13 (fun r36 => (r36 = 0 → rng (l2_7 - 1) ∧ L7 (l2_7 - 1) σ7) ∧ (r36 ≠ 0 → wp5_W_isNumber r21 (fun r44 => (r44 = 0 → rng (l2_7 - 1) ∧ L7 (l2_7 - 1) σ7) ∧ (r44 ≠ 0 → wp5_W_isNumber r30 (fun r52 => (r52 = 0 → rng (l2_7 - 1) ∧ L7 (l2_7 - 1) σ7) ∧ (r52 ≠ 0 → wp5_W_result r13 r21 r30 (fun r65 => wp5_W_change σ7 x0 l2_7 r65 (fun σr68 => rng (l2_7 + 3) ∧ wp5_W_remove σr68 x0 (l2_7 + 1) (l2_7 + 3) (fun σr78 => rng (l2_7 - 1) ∧ L7 (l2_7 - 1) σr78)))))))))))))
def wp5_A_foldOperations (σ : Sg) (x0 : Int) (K : Sg → Prop) : Prop :=
  rng ((σ.2.2.1 0 x0) - 1) ∧ wl2 (wp5_A_foldOperations_7 K x0) ((σ.2.2.1 0 x0) - 1) σ
def wp5_W_closeOf_8 (K : Int → Prop) (σ : Sg) (n0 : Int) (L8 : Int → Int → Prop) (l2_8 : Int) (l3_8 : Int) : Prop :=
  ((σ.2.2.1 0 n0) ≤ l3_8 → K (σ.2.2.1 0 n0)) ∧ (l3_8 < (σ.2.2.1 0 n0) → (0 ≤ l3_8 ∧ l3_8 < (capI n0)) ∧ wp5_W_isBranch (σ.2.2.2 0 n0 l3_8) (fun r22 => (r22 = 0 → ((σ.2.2.2 0 n0 l3_8) ≠ 114 → rng (l3_8 + 1) ∧ L8 l2_8 (l3_8 + 1)) ∧ ((σ.2.2.2 0 n0 l3_8) = 114 → rng (l2_8 - 1) ∧ ((l2_8 - 1) ≠ 0 → rng (l3_8 + 1) ∧ L8 (l2_8 - 1) (l3_8 + 1)) ∧ ((l2_8 - 1) = 0 → K l3_8))) ∧ (r22 ≠ 0 → rng (l2_8 + 1) ∧ rng (l3_8 + 1) ∧ L8 (l2_8 + 1) (l3_8 + 1))))
def wp5_W_closeOf (σ : Sg) (n0 : Int) (x0 : Int) (K : Int → Prop) : Prop :=
  wl2 (wp5_W_closeOf_8 K σ n0) 0 (max x0 0)
def wp5_W_elseOf_8 (K : Int → Prop) (σ : Sg) (n0 : Int) (L8 : Int → Int → Prop) (l2_8 : Int) (l3_8 : Int) : Prop :=
  ((σ.2.2.1 0 n0) ≤ l3_8 → K (σ.2.2.1 0 n0)) ∧ (l3_8 < (σ.2.2.1 0 n0) → (0 ≤ l3_8 ∧ l3_8 < (capI n0)) ∧ wp5_W_isBranch (σ.2.2.2 0 n0 l3_8) (fun r22 => (r22 = 0 → ((σ.2.2.2 0 n0 l3_8) ≠ 114 → ((σ.2.2.2 0 n0 l3_8) ≠ 113 → rng (l3_8 + 1) ∧ L8 l2_8 (l3_8 + 1)) ∧ ((σ.2.2.2 0 n0 l3_8) = 113 → (l2_8 ≠ 1 → rng (l3_8 + 1) ∧ L8 l2_8 (l3_8 + 1)) ∧ (l2_8 = 1 → K l3_8))) ∧ ((σ.2.2.2 0 n0 l3_8) = 114 → rng (l2_8 - 1) ∧ rng (l3_8 + 1) ∧ L8 (l2_8 - 1) (l3_8 + 1))) ∧ (r22 ≠ 0 → rng (l2_8 + 1) ∧ rng (l3_8 + 1) ∧ L8 (l2_8 + 1) (l3_8 + 1))))
def wp5_W_elseOf (σ : Sg) (n0 : Int) (x0 : Int) (K : Int → Prop) : Prop :=
  wl2 (wp5_W_elseOf_8 K σ n0) 0 (max x0 0)
def wp5_A_foldBranch (σ : Sg) (x0 : Int) (x1 : Int) (x2 : Int) (K : Sg → Prop) : Prop :=
  wp5_W_closeOf σ x0 x1 (fun r2 => wp5_W_cell σ x0 x1 (fun r9 => (r9 ≠ 115 → wp5_W_elseOf σ x0 x1 (fun r33 => (x2 = 0 → rng (r2 + 1) ∧ wp5_W_remove σ x0 r2 (r2 + 1) (fun σr70 => rng (r33 + 1) ∧ wp5_W_remove σr70 x0 x1 (r33 + 1) (fun σr79 => K σr79))) ∧ (x2 ≠ 0 → rng (r2 + 1) ∧ wp5_W_remove σ x0 r33 (r2 + 1) (fun σr49 => rng (x1 + 4) ∧ wp5_W_remove σr49 x0 x1 (x1 + 4) (fun σr57 => K σr57))))) ∧ (r9 = 115 → (x2 ≠ 0 → K σ) ∧ (x2 = 0 → rng (r2 + 1) ∧ wp5_W_remove σ x0 x1 (r2 + 1) (fun σr27 => K σr27)))))
def wp5_A_fold_47 (x0 : Int) (l2_12 : Int) (σ12 : Sg) (L12 : Int → Sg → Prop) (s0_47 : Int) : Prop :=
  wp5_W_cell σ12 x0 l2_12 (fun r50 => wp5_W_isBranch r50 (fun r53 => (r53 = 0 → rng (l2_12 - 1) ∧ L12 (l2_12 - 1) σ12) ∧ (r53 ≠ 0 → (s0_47 = 0 → rng (l2_12 - 1) ∧ L12 (l2_12 - 1) σ12) ∧ (s0_47 ≠ 0 → rng (l2_12 + 1) ∧ wp5_W_cell σ12 x0 (l2_12 + 1) (fun r70 => wp5_W_cell σ12 x0 (l2_12 + 2) (fun r77 => rng (l2_12 + 3) ∧ wp5_W_cell σ12 x0 (l2_12 + 3) (fun r84 => wp5_W_holds r70 r77 r84 (fun r87 => wp5_A_foldBranch σ12 x0 l2_12 r87 (fun σr90 => rng (l2_12 - 1) ∧ L12 (l2_12 - 1) σr90)))))))))
def wp5_A_fold_46 (x0 : Int) (l2_12 : Int) (σ12 : Sg) (L12 : Int → Sg → Prop) : Prop :=
  wp5_A_fold_47 x0 l2_12 σ12 L12 0
def wp5_A_fold_12 (K : Sg → Prop) (x0 : Int) (L12 : Int → Sg → Prop) (l2_12 : Int) (σ12 : Sg) : Prop :=
  (l2_12 < 0 → K σ12) ∧ (0 ≤ l2_12 → rng (l2_12 + 2) ∧ wp5_W_cell σ12 x0 (l2_12 + 2) (fun r20 => wp5_W_isNumber r20 (fun r23 => (r23 = 0 → wp5_A_fold_46 x0 l2_12 σ12 L12) ∧ (r23 ≠ 0 → rng (l2_12 + 3) ∧ wp5_W_cell σ12 x0 (l2_12 + 3) (fun r33 => wp5_W_isNumber r33 (fun r36 => (r36 = 0 → wp5_A_fold_46 x0 l2_12 σ12 L12) ∧ (r36 ≠ 0 → wp5_A_fold_47 x0 l2_12 σ12 L12 1)))))))
def wp5_A_fold (σ : Sg) (x0 : Int) (K : Sg → Prop) : Prop :=
  wp5_A_foldOperations σ x0 (fun σr2 => rng ((σr2.2.2.1 0 x0) - 1) ∧ wl2 (wp5_A_fold_12 K x0) ((σr2.2.2.1 0 x0) - 1) σr2)
def wp5_F_setBy (σ : Sg) (qi : Nat) (x0 : Int) (K : Int → Prop) : Prop :=
  wp5_F_isHere σ qi x0 (fun r2 => (r2 = 0 → K 0) ∧ (r2 ≠ 0 → (0 ≤ x0 ∧ x0 < 40) ∧ K (σ.2.1 (qi + 8) x0)))
def wp5_F_behind (σ : Sg) (qi : Nat) (x0 : Int) (K : Int → Prop) : Prop :=
  wp5_F_isHere σ qi x0 (fun r2 => (r2 = 0 → K 0) ∧ (r2 ≠ 0 → (0 ≤ x0 ∧ x0 < 40) ∧ wp5_F_aheadOf σ qi (σ.2.1 (qi + 5) x0) (fun r15 => wp5_F_aheadOf σ qi (σ.2.1 (qi + 6) x0) (fun r25 => K (zior r15 r25)))))
def wp5_A_dead_35 (x0 : Int) (l3_4 : Int) (L4 : Int → Int → Sg → Prop) (L35 : Int → Int → Sg → Prop) (l2_35 : Int) (l4_35 : Int) (σ35 : Sg) : Prop :=
  (l4_35 < 0 → rng (l3_4 + 1) ∧ L4 l2_35 (l3_4 + 1) σ35) ∧ (0 ≤ l4_35 → wp5_F_setBy σ35 71 l4_35 (fun r46 => (r46 = 0 → rng (l4_35 - 1) ∧ L35 l2_35 (l4_35 - 1) σ35) ∧ (r46 ≠ 0 → wp5_F_behind σ35 71 l4_35 (fun r64 => ((ziand r46 r64) ≠ 0 → rng (l4_35 - 1) ∧ L35 l2_35 (l4_35 - 1) σ35) ∧ ((ziand r46 r64) = 0 → wp5_F_isHere σ35 71 l4_35 (fun r77 => (r77 = 0 → rng (l4_35 - 1) ∧ L35 l2_35 (l4_35 - 1) σ35) ∧ (r77 ≠ 0 → (0 ≤ l4_35 ∧ l4_35 < 40) ∧ wp5_W_remove σ35 x0 (σ35.2.1 72 l4_35) (σ35.2.1 75 l4_35) (fun σr104 => rng (l4_35 - 1) ∧ L35 1 (l4_35 - 1) σr104))))))))
def wp5_A_dead_4 (K : Sg → Prop) (x0 : Int) (L4 : Int → Int → Sg → Prop) (l2_4 : Int) (l3_4 : Int) (σ4 : Sg) : Prop :=
  (40 < l3_4 → K σ4) ∧ (l3_4 ≤ 40 → (l2_4 = 0 → K σ4) ∧ (l2_4 ≠ 0 → wp5_F_trace σ4 71 x0 (fun σr21 => rng ((σr21.1 71 1) - 1) ∧ wl3 (wp5_A_dead_35 x0 l3_4 L4) 0 ((σr21.1 71 1) - 1) σr21)))
def wp5_A_dead (σ : Sg) (x0 : Int) (K : Sg → Prop) : Prop :=
  wl3 (wp5_A_dead_4 K x0) 1 0 σ
def wp5_W_has_7 (K : Int → Prop) (σ : Sg) (n0 : Int) (x0 : Int) (x2 : Int) (L7 : Int → Prop) (l4_7 : Int) : Prop :=
  (x2 ≤ l4_7 → K 0) ∧ (l4_7 < x2 → ((σ.2.2.1 0 n0) ≤ l4_7 → K 0) ∧ (l4_7 < (σ.2.2.1 0 n0) → (0 ≤ l4_7 ∧ l4_7 < (capI n0)) ∧ ((σ.2.2.2 0 n0 l4_7) ≠ x0 → rng (l4_7 + 1) ∧ L7 (l4_7 + 1)) ∧ ((σ.2.2.2 0 n0 l4_7) = x0 → K 1)))
def wp5_W_has (σ : Sg) (n0 : Int) (x0 : Int) (x1 : Int) (x2 : Int) (K : Int → Prop) : Prop :=
  wl1 (wp5_W_has_7 K σ n0 x0 x2) (max x1 0)
def wp5_A_hastyDead_7 (K : Sg → Prop) (x0 : Int) (L7 : Int → Sg → Prop) (l2_7 : Int) (σ7 : Sg) : Prop :=
  (l2_7 < 0 → K σ7) ∧ (0 ≤ l2_7 → wp5_W_cell σ7 x0 l2_7 (fun r13 => rng (l2_7 + 1) ∧ wp5_W_expressionEnd σ7 x0 (l2_7 + 1) (fun r21 => wp5_W_isSet r13 (fun r27 => (r27 = 0 → rng (l2_7 - 1) ∧ L7 (l2_7 - 1) σ7) ∧ (r27 ≠ 0 → rng ((r13 - 100) + 20) ∧ wp5_W_has σ7 x0 ((r13 - 100) + 20) r21 (σ7.2.2.1 0 x0) (fun r47 => (r47 ≠ 0 → rng (l2_7 - 1) ∧ L7 (l2_7 - 1) σ7) ∧ (r47 = 0 → wp5_W_remove σ7 x0 l2_7 r21 (fun σr57 => rng (l2_7 - 1) ∧ L7 (l2_7 - 1) σr57))))))))
def wp5_A_hastyDead (σ : Sg) (x0 : Int) (K : Sg → Prop) : Prop :=
  rng ((σ.2.2.1 0 x0) - 1) ∧ wl2 (wp5_A_hastyDead_7 K x0) ((σ.2.2.1 0 x0) - 1) σ
def wp5_W_statementEnd (σ : Sg) (n0 : Int) (x0 : Int) (K : Int → Prop) : Prop :=
  wp5_W_cell σ n0 x0 (fun r2 => wp5_W_isBranch r2 (fun r7 => (r7 = 0 → (r2 ≠ 111 → rng (x0 + 1) ∧ wp5_W_expressionEnd σ n0 (x0 + 1) (fun r37 => K r37)) ∧ (r2 = 111 → rng (x0 + 1) ∧ K (x0 + 1))) ∧ (r7 ≠ 0 → wp5_W_closeOf σ n0 x0 (fun r15 => rng (r15 + 1) ∧ K (r15 + 1)))))
def wp5_W_replace_7 (K : Sg → Prop) (n0 : Int) (x0 : Int) (x1 : Int) (x3 : Int) (L7 : Int → Sg → Prop) (l5_7 : Int) (σ7 : Sg) : Prop :=
  (x3 ≤ l5_7 → K σ7) ∧ (l5_7 < x3 → ((σ7.2.2.1 0 n0) ≤ l5_7 → K σ7) ∧ (l5_7 < (σ7.2.2.1 0 n0) → (0 ≤ l5_7 ∧ l5_7 < (capI n0)) ∧ ((σ7.2.2.2 0 n0 l5_7) ≠ x0 → rng (l5_7 + 1) ∧ L7 (l5_7 + 1) σ7) ∧ ((σ7.2.2.2 0 n0 l5_7) = x0 → rng (l5_7 + 1) ∧ L7 (l5_7 + 1) (pZ σ7 0 n0 (uZ (σ7.2.2.2 0 n0) l5_7 x1)))))
def wp5_W_replace (σ : Sg) (n0 : Int) (x0 : Int) (x1 : Int) (x2 : Int) (x3 : Int) (K : Sg → Prop) : Prop :=
  wl2 (wp5_W_replace_7 K n0 x0 x1 x3) (max x2 0) σ
def wp5_A_copyBehind_65 (K : Sg → Prop) (x0 : Int) (x2 : Int) (x3 : Int) (l5_6 : Int) (l6_6 : Int) (r28 : Int) (r42 : Int) (σ6 : Sg) (L6 : Int → Int → Sg → Prop) : Prop :=
  rng (20 + x2) ∧ rng (20 + x3) ∧ wp5_W_replace σ6 x0 (20 + x2) (20 + x3) l5_6 r28 (fun σr79 => (r42 = 0 → rng (l6_6 + 1) ∧ L6 r28 (l6_6 + 1) σr79) ∧ (r42 ≠ 0 → K σr79))
def wp5_A_copyBehind_6 (K : Sg → Prop) (x0 : Int) (x2 : Int) (x3 : Int) (L6 : Int → Int → Sg → Prop) (l5_6 : Int) (l6_6 : Int) (σ6 : Sg) : Prop :=
  (40 ≤ l6_6 → K σ6) ∧ (l6_6 < 40 → wp5_W_cell σ6 x0 l5_6 (fun r16 => wp5_W_isStatement r16 (fun r19 => (r19 = 0 → K σ6) ∧ (r19 ≠ 0 → wp5_W_statementEnd σ6 x0 l5_6 (fun r28 => rng (100 + x2) ∧ wp5_W_has σ6 x0 (100 + x2) l5_6 r28 (fun r42 => (r42 = 0 → wp5_A_copyBehind_65 K x0 x2 x3 l5_6 l6_6 r28 r42 σ6 L6) ∧ (r42 ≠ 0 → wp5_W_cell σ6 x0 l5_6 (fun r55 => wp5_W_isBranch r55 (fun r58 => (r58 = 0 → wp5_A_copyBehind_65 K x0 x2 x3 l5_6 l6_6 r28 r42 σ6 L6) ∧ (r58 ≠ 0 → K σ6))))))))))
def wp5_A_copyBehind (σ : Sg) (x0 : Int) (x1 : Int) (x2 : Int) (x3 : Int) (K : Sg → Prop) : Prop :=
  wl3 (wp5_A_copyBehind_6 K x0 x2 x3) x1 0 σ
def wp5_A_hastyCopy_2 (K : Sg → Prop) (x0 : Int) (L2 : Int → Sg → Prop) (l2_2 : Int) (σ2 : Sg) : Prop :=
  ((σ2.2.2.1 0 x0) ≤ l2_2 → K σ2) ∧ (l2_2 < (σ2.2.2.1 0 x0) → wp5_W_cell σ2 x0 l2_2 (fun r12 => rng (l2_2 + 1) ∧ wp5_W_cell σ2 x0 (l2_2 + 1) (fun r23 => wp5_W_cell σ2 x0 l2_2 (fun r33 => wp5_W_isSet r33 (fun r36 => (r36 = 0 → L2 (l2_2 + 1) σ2) ∧ (r36 ≠ 0 → wp5_W_cell σ2 x0 (l2_2 + 1) (fun r46 => wp5_W_isRead r46 (fun r49 => (r49 = 0 → L2 (l2_2 + 1) σ2) ∧ (r49 ≠ 0 → rng (r12 - 100) ∧ rng (r23 - 20) ∧ ((r12 - 100) = (r23 - 20) → L2 (l2_2 + 1) σ2) ∧ ((r12 - 100) ≠ (r23 - 20) → rng (l2_2 + 2) ∧ wp5_A_copyBehind σ2 x0 (l2_2 + 2) (r12 - 100) (r23 - 20) (fun σr69 => L2 (l2_2 + 1) σr69)))))))))))
def wp5_A_hastyCopy (σ : Sg) (x0 : Int) (K : Sg → Prop) : Prop :=
  wl2 (wp5_A_hastyCopy_2 K x0) 0 σ
def wp5_A_unroll_10 (K : Sg → Prop) (x0 : Int) (L10 : Int → Sg → Prop) (l2_10 : Int) (σ10 : Sg) : Prop :=
  ((σ10.2.2.1 0 x0) ≤ l2_10 → wp5_W_copy σ10 x0 10 (fun σr117 => K σr117)) ∧ (l2_10 < (σ10.2.2.1 0 x0) → wp5_W_cell σ10 x0 l2_10 (fun r20 => (r20 ≠ 115 → wp5_W_cell σ10 x0 l2_10 (fun r100 => wp5_W_add σ10 10 r100 (fun σr103 => rng (l2_10 + 1) ∧ L10 (l2_10 + 1) σr103))) ∧ (r20 = 115 → wp5_W_closeOf σ10 x0 l2_10 (fun r30 => wp5_W_add σ10 10 112 (fun σr40 => rng (l2_10 + 1) ∧ wp5_W_addPart σr40 10 x0 (l2_10 + 1) r30 (fun σr52 => rng (r30 + 1) ∧ wp5_W_addPart σr52 10 x0 l2_10 (r30 + 1) (fun σr64 => wp5_W_add σr64 10 113 (fun σr73 => wp5_W_add σr73 10 114 (fun σr82 => rng ((max l2_10 r30) + 1) ∧ L10 ((max l2_10 r30) + 1) σr82)))))))))
def wp5_A_unroll (σ : Sg) (x0 : Int) (K : Sg → Prop) : Prop :=
  wl2 (wp5_A_unroll_10 K x0) 0 (pY σ 0 10 0)
def wp5_P_applyRule_n0 (σ : Sg) (K : Int → Sg → Prop) : Prop :=
  K 0 σ
def wp5_P_applyRule_8 (K : Int → Sg → Prop) (x0 : Int) (L8 : Int → Sg → Prop) (l2_8 : Int) (σ8 : Sg) : Prop :=
  (50 ≤ l2_8 → K 1 σ8) ∧ (l2_8 < 50 → wp5_U_placeIn σ8 x0 9 0 (fun r20 σr20 => (r20 ≠ (-1) → wp5_U_rewrite σr20 x0 9 r20 10 (fun r44 σr44 => (r44 ≠ 0 → wp5_W_copy σr44 9 10 (fun σr63 => rng (l2_8 + 1) ∧ L8 (l2_8 + 1) σr63)) ∧ (r44 = 0 → K 0 σr44))) ∧ (r20 = (-1) → K 1 σr20)))
def wp5_P_applyRule (σ : Sg) (x0 : Int) (K : Int → Sg → Prop) : Prop :=
  wl2 (wp5_P_applyRule_8 K x0) 0 σ
def wp5_W_isTooLarge (σ : Sg) (n0 : Int) (K : Int → Prop) : Prop :=
  wp5_W_statements σ n0 (fun r1 => (40 < r1 → K 1) ∧ (r1 ≤ 40 → wp5_W_expressions σ n0 (fun r10 => (r10 ≤ 300 → K 0) ∧ (300 < r10 → K 1))))
def wp5_P_makeOf_168 (K : Int → Sg → Prop) (l3_19 : Int) (L19 : Int → Sg → Prop) (l4_168 : Int) (σ168 : Sg) : Prop :=
  (l4_168 = 0 → K 0 σ168) ∧ (l4_168 ≠ 0 → wp5_W_isTooLarge σ168 9 (fun r177 => (r177 = 0 → rng (l3_19 + 1) ∧ L19 (l3_19 + 1) σ168) ∧ (r177 ≠ 0 → K 0 σ168)))
def wp5_P_makeOf_19 (K : Int → Sg → Prop) (x0 : Int) (L19 : Int → Sg → Prop) (l3_19 : Int) (σ19 : Sg) : Prop :=
  (0 ≤ x0 ∧ x0 < 6) ∧ ((σ19.2.1 69 x0) ≤ l3_19 → K 1 σ19) ∧ (l3_19 < (σ19.2.1 69 x0) → (8 ≤ l3_19 → K 1 σ19) ∧ (l3_19 < 8 → (0 ≤ l3_19 ∧ l3_19 < 8) ∧ ((σ19.2.2.2 1 x0 l3_19) = 20 → wp5_A_fold σ19 9 (fun σr88 => wp5_P_makeOf_168 K l3_19 L19 1 σr88)) ∧ ((σ19.2.2.2 1 x0 l3_19) = 21 → wp5_A_dead σ19 9 (fun σr102 => wp5_P_makeOf_168 K l3_19 L19 1 σr102)) ∧ ((σ19.2.2.2 1 x0 l3_19) = 22 → wp5_A_hastyDead σ19 9 (fun σr116 => wp5_P_makeOf_168 K l3_19 L19 1 σr116)) ∧ ((σ19.2.2.2 1 x0 l3_19) = 23 → wp5_A_hastyCopy σ19 9 (fun σr130 => wp5_P_makeOf_168 K l3_19 L19 1 σr130)) ∧ ((σ19.2.2.2 1 x0 l3_19) = 24 → wp5_A_unroll σ19 9 (fun σr144 => wp5_P_makeOf_168 K l3_19 L19 1 σr144)) ∧ ((σ19.2.2.2 1 x0 l3_19) < 20 ∨ 24 < (σ19.2.2.2 1 x0 l3_19) → wp5_P_ruleAt σ19 (σ19.2.2.2 1 x0 l3_19) (fun r160 => (r160 < 0 → wp5_P_applyRule_n0 σ19 (fun r163 σr163 => wp5_P_makeOf_168 K l3_19 L19 r163 σr163)) ∧ (0 ≤ r160 → (0 ≤ r160 ∧ r160 < 12) ∧ wp5_P_applyRule σ19 r160 (fun r163 σr163 => wp5_P_makeOf_168 K l3_19 L19 r163 σr163))))))
def wp5_P_makeOf (σ : Sg) (x0 : Int) (x1 : Int) (K : Int → Sg → Prop) : Prop :=
  wp5_P_isPass x0 (fun r1 => (r1 ≠ 0 → wp5_W_copy σ 9 x1 (fun σr14 => wl2 (wp5_P_makeOf_19 K x0) 0 σr14)) ∧ (r1 = 0 → K 0 σ))
def wp5_S_make (σ : Sg) (x0 : Int) (x1 : Int) (x2 : Int) (K : Int → Sg → Prop) : Prop :=
  wp5_S_slotAt σ x1 (fun r2 => (r2 < 0 → wp5_S_slotAt σ x2 (fun r9 => (r9 < 0 → K (-1) σ) ∧ (0 ≤ r9 → (0 ≤ r9 ∧ r9 < 35) ∧ K (-1) σ))) ∧ (0 ≤ r2 → (0 ≤ r2 ∧ r2 < 35) ∧ wp5_S_slotAt σ x2 (fun r9 => (r9 < 0 → K (-1) σ) ∧ (0 ≤ r9 → (0 ≤ r9 ∧ r9 < 35) ∧ wp5_P_makeOf σ x0 r2 (fun r31 σr31 => (r31 ≠ 0 → wp5_W_copy σr31 r9 9 (fun σr48 => wp5_W_statements σr48 r9 (fun r53 => K r53 σr48))) ∧ (r31 = 0 → K (-1) σr31))))))
def wp5_W_isLike_15 (K : Int → Prop) (σ : Sg) (n0 : Int) (x0 : Int) (L15 : Int → Prop) (l2_15 : Int) : Prop :=
  ((σ.2.2.1 0 n0) ≤ l2_15 → K 1) ∧ (l2_15 < (σ.2.2.1 0 n0) → (0 ≤ l2_15 ∧ l2_15 < (capI n0)) ∧ (0 ≤ l2_15 ∧ l2_15 < (capI x0)) ∧ ((σ.2.2.2 0 n0 l2_15) = (σ.2.2.2 0 x0 l2_15) → rng (l2_15 + 1) ∧ L15 (l2_15 + 1)) ∧ ((σ.2.2.2 0 n0 l2_15) ≠ (σ.2.2.2 0 x0 l2_15) → K 0))
def wp5_W_isLike (σ : Sg) (n0 : Int) (x0 : Int) (K : Int → Prop) : Prop :=
  ((σ.2.2.1 0 n0) = (σ.2.2.1 0 x0) → wl1 (wp5_W_isLike_15 K σ n0 x0) 0) ∧ ((σ.2.2.1 0 n0) ≠ (σ.2.2.1 0 x0) → K 0)
def wp5_P_madeWrong (σ : Sg) (x0 : Int) (K : Int → Sg → Prop) : Prop :=
  wp5_W_isLike σ x0 9 (fun r5 => (r5 ≠ 0 → K 0 σ) ∧ (r5 = 0 → wp5_J_compare σ x0 9 1 (fun r21 σr21 => (r21 = 0 → K 0 σr21) ∧ (r21 ≠ 0 → K 1 σr21))))
def wp5_P_findBad_20 (K : Sg → Prop) (L20 : Int → Sg → Prop) (l2_20 : Int) (σ20 : Sg) : Prop :=
  (6 ≤ l2_20 → K σ20) ∧ (l2_20 < 6 → ((σ20.1 31 3) ≠ (-1) → K σ20) ∧ ((σ20.1 31 3) = (-1) → wp5_P_makeOf σ20 l2_20 6 (fun r40 σr40 => (r40 ≠ 0 → wp5_P_madeWrong σr40 6 (fun r59 σr59 => (r59 = 0 → wp5_W_copy σr59 6 9 (fun σr92 => rng (l2_20 + 1) ∧ L20 (l2_20 + 1) σr92)) ∧ (r59 ≠ 0 → rng (l2_20 + 1) ∧ L20 (l2_20 + 1) (pU (pU σr59 31 3 l2_20) 31 4 (σr59.1 32 0))))) ∧ (r40 = 0 → rng (l2_20 + 1) ∧ L20 (l2_20 + 1) (pU σr40 31 3 l2_20)))))
def wp5_P_findBad (σ : Sg) (x0 : Int) (K : Sg → Prop) : Prop :=
  wp5_W_copy (pU (pU σ 31 3 (-1)) 31 4 (-1)) 6 x0 (fun σr15 => wl2 (wp5_P_findBad_20 K) 0 σr15)
def wp5_S_blame (σ : Sg) (x0 : Int) (x1 : Int) (K : Int → Sg → Prop) : Prop :=
  wp5_S_slotAt σ x0 (fun r2 => (r2 < 0 → K (-1) σ) ∧ (0 ≤ r2 → (0 ≤ r2 ∧ r2 < 35) ∧ (x1 < 0 → K (-1) σ) ∧ (0 ≤ x1 → (x1 ≤ 1 → wp5_P_findBad σ r2 (fun σr26 => (x1 ≠ 0 → K (σr26.1 31 4) σr26) ∧ (x1 = 0 → K (σr26.1 31 3) σr26))) ∧ (1 < x1 → K (-1) σ))))
def wp5_P_cutDown_164 (l4_67 : Int) (l5_49 : Int) (σ67 : Sg) (L49 : Int → Int → Sg → Prop) : Prop :=
  (l4_67 = 0 → rng (l5_49 + 1) ∧ L49 l4_67 (l5_49 + 1) σ67) ∧ (l4_67 ≠ 0 → wp5_W_copy σ67 6 7 (fun σr177 => rng (l5_49 + 1) ∧ L49 l4_67 (l5_49 + 1) σr177))
def wp5_P_cutDown_67 (x0 : Int) (l5_49 : Int) (L49 : Int → Int → Sg → Prop) (L67 : Int → Int → Sg → Prop) (l4_67 : Int) (l6_67 : Int) (σ67 : Sg) : Prop :=
  ((σ67.2.2.1 0 6) ≤ l6_67 → wp5_P_cutDown_164 l4_67 l5_49 σ67 L49) ∧ (l6_67 < (σ67.2.2.1 0 6) → (l4_67 ≠ 0 → wp5_P_cutDown_164 l4_67 l5_49 σ67 L49) ∧ (l4_67 = 0 → wp5_W_cell σ67 6 l6_67 (fun r90 => wp5_W_isStatement r90 (fun r93 => (r93 = 0 → rng (l6_67 + 1) ∧ L67 l4_67 (l6_67 + 1) σ67) ∧ (r93 ≠ 0 → wp5_W_copy σ67 7 6 (fun σr107 => wp5_W_statementEnd σr107 6 l6_67 (fun r122 => wp5_W_remove σr107 7 l6_67 r122 (fun σr125 => wp5_P_makeOf σr125 x0 7 (fun r134 σr134 => (r134 = 0 → rng (l6_67 + 1) ∧ L67 0 (l6_67 + 1) σr134) ∧ (r134 ≠ 0 → wp5_P_madeWrong σr134 7 (fun r145 σr145 => (r145 = 0 → rng (l6_67 + 1) ∧ L67 0 (l6_67 + 1) σr145) ∧ (r145 ≠ 0 → rng (l6_67 + 1) ∧ L67 1 (l6_67 + 1) σr145))))))))))))
def wp5_P_cutDown_49 (K : Int → Sg → Prop) (x0 : Int) (L49 : Int → Int → Sg → Prop) (l4_49 : Int) (l5_49 : Int) (σ49 : Sg) : Prop :=
  (12 ≤ l5_49 → K 1 σ49) ∧ (l5_49 < 12 → (l4_49 = 0 → K 1 σ49) ∧ (l4_49 ≠ 0 → wl3 (wp5_P_cutDown_67 x0 l5_49 L49) 0 0 σ49))
def wp5_P_cutDown (σ : Sg) (x0 : Int) (x1 : Int) (K : Int → Sg → Prop) : Prop :=
  wp5_W_statements σ x1 (fun r1 => (r1 < 1 → K 0 σ) ∧ (1 ≤ r1 → (12 < r1 → K 0 σ) ∧ (r1 ≤ 12 → wp5_P_makeOf σ x0 x1 (fun r19 σr19 => (r19 = 0 → K 0 σr19) ∧ (r19 ≠ 0 → wp5_P_madeWrong σr19 x1 (fun r27 σr27 => (r27 ≠ 0 → wp5_W_copy σr27 6 x1 (fun σr40 => wl3 (wp5_P_cutDown_49 K x0) 1 0 σr40)) ∧ (r27 = 0 → K 0 σr27)))))))
def wp5_S_cut (σ : Sg) (x0 : Int) (x1 : Int) (x2 : Int) (K : Int → Sg → Prop) : Prop :=
  wp5_S_slotAt σ x1 (fun r2 => (r2 < 0 → wp5_S_slotAt σ x2 (fun r9 => (r9 < 0 → K (-1) σ) ∧ (0 ≤ r9 → (0 ≤ r9 ∧ r9 < 35) ∧ K (-1) σ))) ∧ (0 ≤ r2 → (0 ≤ r2 ∧ r2 < 35) ∧ wp5_S_slotAt σ x2 (fun r9 => (r9 < 0 → K (-1) σ) ∧ (0 ≤ r9 → (0 ≤ r9 ∧ r9 < 35) ∧ wp5_P_cutDown σ x0 r2 (fun r31 σr31 => (r31 ≠ 0 → wp5_W_copy σr31 r9 6 (fun σr48 => wp5_W_statements σr48 r9 (fun r53 => K r53 σr48))) ∧ (r31 = 0 → K (-1) σr31))))))
def wp5_S_isVariable (x0 : Int) (K : Int → Prop) : Prop :=
  (x0 < 0 → K 0) ∧ (0 ≤ x0 → (6 ≤ x0 → K 0) ∧ (x0 < 6 → K 1))
def wp5_G_count_29 (K : Sg → Prop) (σ : Sg) (s0_29 : Int) : Prop :=
  wp5_S_isVariable s0_29 (fun r31 => (r31 = 0 → K σ) ∧ (r31 ≠ 0 → (0 ≤ s0_29 ∧ s0_29 < 6) ∧ rng ((σ.2.1 86 s0_29) + 1) ∧ K (pU (pF σ 86 (uZ (σ.2.1 86) s0_29 ((σ.2.1 86 s0_29) + 1))) 84 4 (zior (σ.1 84 4) (zishl 1 s0_29)))))
def wp5_G_count (σ : Sg) (x0 : Int) (K : Sg → Prop) : Prop :=
  wp5_W_isSet x0 (fun r1 => (r1 = 0 → wp5_W_isRead x0 (fun r15 => (r15 = 0 → wp5_G_count_29 K σ (-1)) ∧ (r15 ≠ 0 → rng (x0 - 20) ∧ wp5_G_count_29 K σ (x0 - 20)))) ∧ (r1 ≠ 0 → rng (x0 - 100) ∧ wp5_G_count_29 K σ (x0 - 100)))
def wp5_G_noteClashes_35 (x0 : Int) (x1 : Int) (l3_2 : Int) (L2 : Int → Sg → Prop) (σ35 : Sg) : Prop :=
  ((ziand x1 (zishl 1 l3_2)) = 0 → rng (l3_2 + 1) ∧ L2 (l3_2 + 1) σ35) ∧ ((ziand x1 (zishl 1 l3_2)) ≠ 0 → (0 ≤ l3_2 ∧ l3_2 < 6) ∧ rng (l3_2 + 1) ∧ L2 (l3_2 + 1) (pF σ35 85 (uZ (σ35.2.1 85) l3_2 (zior (σ35.2.1 85 l3_2) (ziand x0 (zixor (zishl 1 l3_2) (-1)))))))
def wp5_G_noteClashes_2 (K : Sg → Prop) (x0 : Int) (x1 : Int) (L2 : Int → Sg → Prop) (l3_2 : Int) (σ2 : Sg) : Prop :=
  (6 ≤ l3_2 → K σ2) ∧ (l3_2 < 6 → ((ziand x0 (zishl 1 l3_2)) = 0 → wp5_G_noteClashes_35 x0 x1 l3_2 L2 σ2) ∧ ((ziand x0 (zishl 1 l3_2)) ≠ 0 → (0 ≤ l3_2 ∧ l3_2 < 6) ∧ wp5_G_noteClashes_35 x0 x1 l3_2 L2 (pF σ2 85 (uZ (σ2.2.1 85) l3_2 (zior (σ2.2.1 85 l3_2) (ziand x1 (zixor (zishl 1 l3_2) (-1))))))))
def wp5_G_noteClashes (σ : Sg) (x0 : Int) (x1 : Int) (K : Sg → Prop) : Prop :=
  wl2 (wp5_G_noteClashes_2 K x0 x1) 0 σ
def wp5_G_study_68 (K : Sg → Prop) (L68 : Int → Sg → Prop) (l2_68 : Int) (σ68 : Sg) : Prop :=
  ((σ68.1 88 1) ≤ l2_68 → K σ68) ∧ (l2_68 < (σ68.1 88 1) → wp5_F_aheadOf σ68 88 l2_68 (fun r85 => wp5_F_aheadOf σ68 88 l2_68 (fun r93 => wp5_G_noteClashes σ68 r85 r93 (fun σr96 => wp5_F_setBy σr96 88 l2_68 (fun r105 => wp5_F_behind σr96 88 l2_68 (fun r113 => wp5_G_noteClashes σr96 r105 r113 (fun σr116 => rng (l2_68 + 1) ∧ L68 (l2_68 + 1) σr116)))))))
def wp5_G_study_43 (K : Sg → Prop) (x0 : Int) (L43 : Int → Sg → Prop) (l2_43 : Int) (σ43 : Sg) : Prop :=
  ((σ43.2.2.1 0 x0) ≤ l2_43 → wl2 (wp5_G_study_68 K) 0 σ43) ∧ (l2_43 < (σ43.2.2.1 0 x0) → wp5_W_cell σ43 x0 l2_43 (fun r54 => wp5_G_count σ43 r54 (fun σr57 => rng (l2_43 + 1) ∧ L43 (l2_43 + 1) σr57)))
def wp5_G_study_15 (K : Sg → Prop) (x0 : Int) (L15 : Int → Sg → Prop) (l2_15 : Int) (σ15 : Sg) : Prop :=
  (6 ≤ l2_15 → wl2 (wp5_G_study_43 K x0) 0 σ15) ∧ (l2_15 < 6 → (0 ≤ l2_15 ∧ l2_15 < 6) ∧ rng (l2_15 + 1) ∧ L15 (l2_15 + 1) (pF (pF σ15 85 (uZ (σ15.2.1 85) l2_15 0)) 86 (uZ (σ15.2.1 86) l2_15 0)))
def wp5_G_study (σ : Sg) (x0 : Int) (K : Sg → Prop) : Prop :=
  wp5_F_trace σ 88 x0 (fun σr5 => wl2 (wp5_G_study_15 K x0) 0 (pU σr5 84 4 0))
def wp5_G_clashing (σ : Sg) (x0 : Int) (x1 : Int) (K : Int → Prop) : Prop :=
  wp5_S_isVariable x0 (fun r1 => (r1 = 0 → K 0) ∧ (r1 ≠ 0 → wp5_S_isVariable x1 (fun r8 => (r8 = 0 → K 0) ∧ (r8 ≠ 0 → (0 ≤ x0 ∧ x0 < 6) ∧ ((ziand (zishr (σ.2.1 85 x0) x1) 1) = 0 → K 0) ∧ ((ziand (zishr (σ.2.1 85 x0) x1) 1) ≠ 0 → K 1)))))
def wp5_G_isFree_2 (K : Int → Prop) (σ : Sg) (x0 : Int) (x1 : Int) (L2 : Int → Prop) (l3_2 : Int) : Prop :=
  (x0 ≤ l3_2 → K 1) ∧ (l3_2 < x0 → (6 ≤ l3_2 → K 1) ∧ (l3_2 < 6 → (0 ≤ l3_2 ∧ l3_2 < 6) ∧ ((σ.2.1 87 l3_2) ≠ x1 → rng (l3_2 + 1) ∧ L2 (l3_2 + 1)) ∧ ((σ.2.1 87 l3_2) = x1 → wp5_G_clashing σ x0 l3_2 (fun r26 => (r26 = 0 → rng (l3_2 + 1) ∧ L2 (l3_2 + 1)) ∧ (r26 ≠ 0 → K 0)))))
def wp5_G_isFree (σ : Sg) (x0 : Int) (x1 : Int) (K : Int → Prop) : Prop :=
  wl1 (wp5_G_isFree_2 K σ x0 x1) 0
def wp5_G_deal6_37 (K : Int → Sg → Prop) (σ : Sg) (x2 : Int) (L37 : Int → Prop) (l4_37 : Int) : Prop :=
  (x2 ≤ l4_37 → K 0 (pF (pF σ 87 (uZ (σ.2.1 87) 6 (-1))) 87 (uZ (uZ (σ.2.1 87) 6 (-1)) 6 (-1)))) ∧ (l4_37 < x2 → wp5_G_isFree (pF σ 87 (uZ (σ.2.1 87) 6 (-1))) 6 l4_37 (fun r47 => (r47 = 0 → rng (l4_37 + 1) ∧ L37 (l4_37 + 1)) ∧ (r47 ≠ 0 → False)))
def wp5_G_deal6 (σ : Sg) (x1 : Int) (x2 : Int) (K : Int → Sg → Prop) : Prop :=
  wp5_S_isVariable 6 (fun r1 => (r1 ≠ 0 → ((0 : Int) ≤ 6 ∧ (6 : Int) < 6) ∧ ((ziand (zishr x1 6) 1) ≠ 0 → wl1 (wp5_G_deal6_37 K σ x2) 0) ∧ ((ziand (zishr x1 6) 1) = 0 → False)) ∧ (r1 = 0 → K 1 σ))
def wp5_G_deal5_37 (K : Int → Sg → Prop) (x1 : Int) (x2 : Int) (L37 : Int → Sg → Prop) (l4_37 : Int) (σ37 : Sg) : Prop :=
  (x2 ≤ l4_37 → K 0 (pF σ37 87 (uZ (σ37.2.1 87) 5 (-1)))) ∧ (l4_37 < x2 → wp5_G_isFree σ37 5 l4_37 (fun r47 => (r47 = 0 → rng (l4_37 + 1) ∧ L37 (l4_37 + 1) σ37) ∧ (r47 ≠ 0 → wp5_G_deal6 (pF σ37 87 (uZ (σ37.2.1 87) 5 l4_37)) x1 x2 (fun r67 σr67 => (r67 = 0 → rng (l4_37 + 1) ∧ L37 (l4_37 + 1) σr67) ∧ (r67 ≠ 0 → K 1 σr67)))))
def wp5_G_deal5 (σ : Sg) (x1 : Int) (x2 : Int) (K : Int → Sg → Prop) : Prop :=
  wp5_S_isVariable 5 (fun r1 => (r1 ≠ 0 → ((ziand (zishr x1 5) 1) ≠ 0 → wl2 (wp5_G_deal5_37 K x1 x2) 0 (pF σ 87 (uZ (σ.2.1 87) 5 (-1)))) ∧ ((ziand (zishr x1 5) 1) = 0 → wp5_G_deal6 (pF σ 87 (uZ (σ.2.1 87) 5 (-1))) x1 x2 (fun r30 σr30 => (r30 = 0 ∨ r30 = 1) ∧ K r30 σr30))) ∧ (r1 = 0 → K 1 σ))
def wp5_G_deal4_37 (K : Int → Sg → Prop) (x1 : Int) (x2 : Int) (L37 : Int → Sg → Prop) (l4_37 : Int) (σ37 : Sg) : Prop :=
  (x2 ≤ l4_37 → K 0 (pF σ37 87 (uZ (σ37.2.1 87) 4 (-1)))) ∧ (l4_37 < x2 → wp5_G_isFree σ37 4 l4_37 (fun r47 => (r47 = 0 → rng (l4_37 + 1) ∧ L37 (l4_37 + 1) σ37) ∧ (r47 ≠ 0 → wp5_G_deal5 (pF σ37 87 (uZ (σ37.2.1 87) 4 l4_37)) x1 x2 (fun r67 σr67 => (r67 = 0 → rng (l4_37 + 1) ∧ L37 (l4_37 + 1) σr67) ∧ (r67 ≠ 0 → K 1 σr67)))))
def wp5_G_deal4 (σ : Sg) (x1 : Int) (x2 : Int) (K : Int → Sg → Prop) : Prop :=
  wp5_S_isVariable 4 (fun r1 => (r1 ≠ 0 → ((ziand (zishr x1 4) 1) ≠ 0 → wl2 (wp5_G_deal4_37 K x1 x2) 0 (pF σ 87 (uZ (σ.2.1 87) 4 (-1)))) ∧ ((ziand (zishr x1 4) 1) = 0 → wp5_G_deal5 (pF σ 87 (uZ (σ.2.1 87) 4 (-1))) x1 x2 (fun r30 σr30 => (r30 = 0 ∨ r30 = 1) ∧ K r30 σr30))) ∧ (r1 = 0 → K 1 σ))
def wp5_G_deal3_37 (K : Int → Sg → Prop) (x1 : Int) (x2 : Int) (L37 : Int → Sg → Prop) (l4_37 : Int) (σ37 : Sg) : Prop :=
  (x2 ≤ l4_37 → K 0 (pF σ37 87 (uZ (σ37.2.1 87) 3 (-1)))) ∧ (l4_37 < x2 → wp5_G_isFree σ37 3 l4_37 (fun r47 => (r47 = 0 → rng (l4_37 + 1) ∧ L37 (l4_37 + 1) σ37) ∧ (r47 ≠ 0 → wp5_G_deal4 (pF σ37 87 (uZ (σ37.2.1 87) 3 l4_37)) x1 x2 (fun r67 σr67 => (r67 = 0 → rng (l4_37 + 1) ∧ L37 (l4_37 + 1) σr67) ∧ (r67 ≠ 0 → K 1 σr67)))))
def wp5_G_deal3 (σ : Sg) (x1 : Int) (x2 : Int) (K : Int → Sg → Prop) : Prop :=
  wp5_S_isVariable 3 (fun r1 => (r1 ≠ 0 → ((ziand (zishr x1 3) 1) ≠ 0 → wl2 (wp5_G_deal3_37 K x1 x2) 0 (pF σ 87 (uZ (σ.2.1 87) 3 (-1)))) ∧ ((ziand (zishr x1 3) 1) = 0 → wp5_G_deal4 (pF σ 87 (uZ (σ.2.1 87) 3 (-1))) x1 x2 (fun r30 σr30 => (r30 = 0 ∨ r30 = 1) ∧ K r30 σr30))) ∧ (r1 = 0 → K 1 σ))
def wp5_G_deal2_37 (K : Int → Sg → Prop) (x1 : Int) (x2 : Int) (L37 : Int → Sg → Prop) (l4_37 : Int) (σ37 : Sg) : Prop :=
  (x2 ≤ l4_37 → K 0 (pF σ37 87 (uZ (σ37.2.1 87) 2 (-1)))) ∧ (l4_37 < x2 → wp5_G_isFree σ37 2 l4_37 (fun r47 => (r47 = 0 → rng (l4_37 + 1) ∧ L37 (l4_37 + 1) σ37) ∧ (r47 ≠ 0 → wp5_G_deal3 (pF σ37 87 (uZ (σ37.2.1 87) 2 l4_37)) x1 x2 (fun r67 σr67 => (r67 = 0 → rng (l4_37 + 1) ∧ L37 (l4_37 + 1) σr67) ∧ (r67 ≠ 0 → K 1 σr67)))))
def wp5_G_deal2 (σ : Sg) (x1 : Int) (x2 : Int) (K : Int → Sg → Prop) : Prop :=
  wp5_S_isVariable 2 (fun r1 => (r1 ≠ 0 → ((ziand (zishr x1 2) 1) ≠ 0 → wl2 (wp5_G_deal2_37 K x1 x2) 0 (pF σ 87 (uZ (σ.2.1 87) 2 (-1)))) ∧ ((ziand (zishr x1 2) 1) = 0 → wp5_G_deal3 (pF σ 87 (uZ (σ.2.1 87) 2 (-1))) x1 x2 (fun r30 σr30 => (r30 = 0 ∨ r30 = 1) ∧ K r30 σr30))) ∧ (r1 = 0 → K 1 σ))
def wp5_G_deal1_37 (K : Int → Sg → Prop) (x1 : Int) (x2 : Int) (L37 : Int → Sg → Prop) (l4_37 : Int) (σ37 : Sg) : Prop :=
  (x2 ≤ l4_37 → K 0 (pF σ37 87 (uZ (σ37.2.1 87) 1 (-1)))) ∧ (l4_37 < x2 → wp5_G_isFree σ37 1 l4_37 (fun r47 => (r47 = 0 → rng (l4_37 + 1) ∧ L37 (l4_37 + 1) σ37) ∧ (r47 ≠ 0 → wp5_G_deal2 (pF σ37 87 (uZ (σ37.2.1 87) 1 l4_37)) x1 x2 (fun r67 σr67 => (r67 = 0 → rng (l4_37 + 1) ∧ L37 (l4_37 + 1) σr67) ∧ (r67 ≠ 0 → K 1 σr67)))))
def wp5_G_deal1 (σ : Sg) (x1 : Int) (x2 : Int) (K : Int → Sg → Prop) : Prop :=
  wp5_S_isVariable 1 (fun r1 => (r1 ≠ 0 → ((ziand (zishr x1 1) 1) ≠ 0 → wl2 (wp5_G_deal1_37 K x1 x2) 0 (pF σ 87 (uZ (σ.2.1 87) 1 (-1)))) ∧ ((ziand (zishr x1 1) 1) = 0 → wp5_G_deal2 (pF σ 87 (uZ (σ.2.1 87) 1 (-1))) x1 x2 (fun r30 σr30 => (r30 = 0 ∨ r30 = 1) ∧ K r30 σr30))) ∧ (r1 = 0 → K 1 σ))
def wp5_G_deal0_37 (K : Int → Sg → Prop) (x1 : Int) (x2 : Int) (L37 : Int → Sg → Prop) (l4_37 : Int) (σ37 : Sg) : Prop :=
  (x2 ≤ l4_37 → K 0 (pF σ37 87 (uZ (σ37.2.1 87) 0 (-1)))) ∧ (l4_37 < x2 → wp5_G_isFree σ37 0 l4_37 (fun r47 => (r47 = 0 → rng (l4_37 + 1) ∧ L37 (l4_37 + 1) σ37) ∧ (r47 ≠ 0 → wp5_G_deal1 (pF σ37 87 (uZ (σ37.2.1 87) 0 l4_37)) x1 x2 (fun r67 σr67 => (r67 = 0 → rng (l4_37 + 1) ∧ L37 (l4_37 + 1) σr67) ∧ (r67 ≠ 0 → K 1 σr67)))))
def wp5_G_deal0 (σ : Sg) (x1 : Int) (x2 : Int) (K : Int → Sg → Prop) : Prop :=
  wp5_S_isVariable 0 (fun r1 => (r1 ≠ 0 → ((ziand (zishr x1 0) 1) ≠ 0 → wl2 (wp5_G_deal0_37 K x1 x2) 0 (pF σ 87 (uZ (σ.2.1 87) 0 (-1)))) ∧ ((ziand (zishr x1 0) 1) = 0 → wp5_G_deal1 (pF σ 87 (uZ (σ.2.1 87) 0 (-1))) x1 x2 (fun r30 σr30 => (r30 = 0 ∨ r30 = 1) ∧ K r30 σr30))) ∧ (r1 = 0 → K 1 σ))
def wp5_G_fewest_2 (K : Int → Sg → Prop) (L2 : Int → Sg → Prop) (l1_2 : Int) (σ2 : Sg) : Prop :=
  (6 ≤ l1_2 → wp5_G_deal0 σ2 (σ2.1 84 4) 6 (fun r37 σr37 => K 6 σr37)) ∧ (l1_2 < 6 → wp5_G_deal0 σ2 (σ2.1 84 4) l1_2 (fun r15 σr15 => (r15 = 0 → rng (l1_2 + 1) ∧ L2 (l1_2 + 1) σr15) ∧ (r15 ≠ 0 → K l1_2 σr15)))
def wp5_G_fewest (σ : Sg) (K : Int → Sg → Prop) : Prop :=
  wl2 (wp5_G_fewest_2 K) 0 σ
def wp5_G_registerOf (σ : Sg) (x0 : Int) (K : Int → Sg → Prop) : Prop :=
  wp5_G_fewest σ (fun r1 σr1 => wp5_S_isVariable x0 (fun r6 => (r6 = 0 → K (-1) σr1) ∧ (r6 ≠ 0 → (0 ≤ x0 ∧ x0 < 6) ∧ K (σr1.2.1 87 x0) σr1)))
def wp5_G_comingsOf_4 (K : Int → Prop) (σ : Sg) (x0 : Int) (L4 : Int → Int → Prop) (l2_4 : Int) (l3_4 : Int) : Prop :=
  (6 ≤ l3_4 → K l2_4) ∧ (l3_4 < 6 → ((ziand (zishr x0 l3_4) 1) = 0 → rng (l2_4 + 0) ∧ rng (l3_4 + 1) ∧ L4 (l2_4 + 0) (l3_4 + 1)) ∧ ((ziand (zishr x0 l3_4) 1) ≠ 0 → (0 ≤ l3_4 ∧ l3_4 < 6) ∧ rng (l2_4 + (σ.2.1 86 l3_4)) ∧ rng (l3_4 + 1) ∧ L4 (l2_4 + (σ.2.1 86 l3_4)) (l3_4 + 1)))
def wp5_G_comingsOf (σ : Sg) (x0 : Int) (K : Int → Prop) : Prop :=
  wl2 (wp5_G_comingsOf_4 K σ x0) 0 0
def wp5_G_spills_17 (K : Int → Sg → Prop) (x0 : Int) (L17 : Int → Int → Int → Sg → Prop) (l2_17 : Int) (l3_17 : Int) (l4_17 : Int) (σ17 : Sg) : Prop :=
  (64 ≤ l4_17 → K l2_17 σ17) ∧ (l4_17 < 64 → wp5_G_comingsOf σ17 l4_17 (fun r27 => (l3_17 ≤ r27 → rng (l4_17 + 1) ∧ L17 l2_17 l3_17 (l4_17 + 1) σ17) ∧ (r27 < l3_17 → wp5_G_deal0 σ17 (ziand (σ17.1 84 4) (zixor l4_17 (-1))) x0 (fun r50 σr50 => (r50 = 0 → rng (l4_17 + 1) ∧ L17 l2_17 l3_17 (l4_17 + 1) σr50) ∧ (r50 ≠ 0 → rng (l4_17 + 1) ∧ L17 l4_17 r27 (l4_17 + 1) σr50)))))
def wp5_G_spills (σ : Sg) (x0 : Int) (K : Int → Sg → Prop) : Prop :=
  wp5_G_comingsOf σ (σ.1 84 4) (fun r10 => wl4 (wp5_G_spills_17 K x0) (σ.1 84 4) r10 0 σ)
def wp5_S_registers_56 (K : Int → Sg → Prop) (x1 : Int) (σr17 : Sg) : Prop :=
  (x1 < 20 → K (-1) σr17) ∧ (20 ≤ x1 → (26 < x1 → K (-1) σr17) ∧ (x1 ≤ 26 → rng (x1 - 20) ∧ wp5_G_spills σr17 (x1 - 20) (fun r76 σr76 => K r76 σr76)))
def wp5_S_registers (σ : Sg) (x0 : Int) (x1 : Int) (K : Int → Sg → Prop) : Prop :=
  wp5_S_slotAt σ x0 (fun r2 => (r2 < 0 → K (-1) σ) ∧ (0 ≤ r2 → (0 ≤ r2 ∧ r2 < 35) ∧ wp5_G_study σ r2 (fun σr17 => (x1 ≠ 0 → (x1 < 10 → wp5_S_registers_56 K x1 σr17) ∧ (10 ≤ x1 → (16 ≤ x1 → wp5_S_registers_56 K x1 σr17) ∧ (x1 < 16 → rng (x1 - 10) ∧ wp5_G_registerOf σr17 (x1 - 10) (fun r52 σr52 => K r52 σr52)))) ∧ (x1 = 0 → wp5_G_fewest σr17 (fun r28 σr28 => K r28 σr28)))))
def wp5_S_clash (σ : Sg) (x0 : Int) (x1 : Int) (x2 : Int) (K : Int → Sg → Prop) : Prop :=
  wp5_S_slotAt σ x0 (fun r2 => (r2 < 0 → K (-1) σ) ∧ (0 ≤ r2 → (0 ≤ r2 ∧ r2 < 35) ∧ wp5_S_isVariable x1 (fun r13 => (r13 = 0 → K (-1) σ) ∧ (r13 ≠ 0 → wp5_S_isVariable x2 (fun r20 => (r20 = 0 → K (-1) σ) ∧ (r20 ≠ 0 → (x1 ≠ x2 → wp5_G_study σ r2 (fun σr39 => wp5_G_clashing σr39 x1 x2 (fun r48 => (r48 = 0 → K 0 σr39) ∧ (r48 ≠ 0 → K 1 σr39)))) ∧ (x1 = x2 → K (-1) σ)))))))
def wp5_W_reckonP_15 (K : Sg → Prop) (n0 : Int) (x0 : Int) (L15 : Int → Int → Sg → Prop) (l5_15 : Int) (l6_15 : Int) (σ15 : Sg) : Prop :=
  (l6_15 < x0 → K σ15) ∧ (x0 ≤ l6_15 → (l6_15 < 0 → K σ15) ∧ (0 ≤ l6_15 → (0 ≤ l6_15 ∧ l6_15 < (capI n0)) ∧ wp5_W_isOperation (σ15.2.2.2 0 n0 l6_15) (fun r37 => (r37 = 0 → (40 ≤ l5_15 → rng (l6_15 - 1) ∧ L15 l5_15 (l6_15 - 1) σ15) ∧ (l5_15 < 40 → rng ((σ15.2.2.2 0 n0 l6_15) - 20) ∧ (0 ≤ ((σ15.2.2.2 0 n0 l6_15) - 20) → (3 ≤ ((σ15.2.2.2 0 n0 l6_15) - 20) → (0 ≤ l5_15 ∧ l5_15 < 40) ∧ rng (l5_15 + 1) ∧ rng (l6_15 - 1) ∧ L15 (l5_15 + 1) (l6_15 - 1) (pF σ15 27 (uZ (σ15.2.1 27) l5_15 0))) ∧ (((σ15.2.2.2 0 n0 l6_15) - 20) < 3 → (0 ≤ ((σ15.2.2.2 0 n0 l6_15) - 20) ∧ ((σ15.2.2.2 0 n0 l6_15) - 20) < 3) ∧ (0 ≤ l5_15 ∧ l5_15 < 40) ∧ rng (l5_15 + 1) ∧ rng (l6_15 - 1) ∧ L15 (l5_15 + 1) (l6_15 - 1) (pF σ15 27 (uZ (σ15.2.1 27) l5_15 (σ15.2.1 26 ((σ15.2.2.2 0 n0 l6_15) - 20)))))) ∧ (((σ15.2.2.2 0 n0 l6_15) - 20) < 0 → (0 ≤ l5_15 ∧ l5_15 < 40) ∧ rng (l5_15 + 1) ∧ rng (l6_15 - 1) ∧ L15 (l5_15 + 1) (l6_15 - 1) (pF σ15 27 (uZ (σ15.2.1 27) l5_15 (σ15.2.2.2 0 n0 l6_15)))))) ∧ (r37 ≠ 0 → (l5_15 < 2 → rng (l6_15 - 1) ∧ L15 l5_15 (l6_15 - 1) σ15) ∧ (2 ≤ l5_15 → (40 < l5_15 → rng (l6_15 - 1) ∧ L15 l5_15 (l6_15 - 1) σ15) ∧ (l5_15 ≤ 40 → (0 ≤ (l5_15 - 1) ∧ (l5_15 - 1) < 40) ∧ (0 ≤ (l5_15 - 2) ∧ (l5_15 - 2) < 40) ∧ wp5_W_result (σ15.2.2.2 0 n0 l6_15) (σ15.2.1 27 (l5_15 - 1)) (σ15.2.1 27 (l5_15 - 2)) (fun r79 => rng (l5_15 - 1) ∧ rng (l6_15 - 1) ∧ L15 (l5_15 - 1) (l6_15 - 1) (pF σ15 27 (uZ (σ15.2.1 27) (l5_15 - 2) r79)))))))))
def wp5_W_reckonP (σ : Sg) (n0 : Int) (x0 : Int) (x1 : Int) (K : Sg → Prop) : Prop :=
  rng ((min x1 (σ.2.2.1 0 n0)) - 1) ∧ wl3 (wp5_W_reckonP_15 K n0 x0) 0 ((min x1 (σ.2.2.1 0 n0)) - 1) σ
def wp5_B_valueOf (σ : Sg) (x0 : Int) (K : Int → Sg → Prop) : Prop :=
  wp5_W_reckonP σ x0 0 (σ.2.2.1 0 x0) (fun σr14 => K (σr14.2.1 27 0) σr14)
def wp5_B_tryOne (σ : Sg) (x0 : Int) (x1 : Int) (x2 : Int) (x3 : Int) (K : Sg → Prop) : Prop :=
  wp5_B_valueOf (pF (pF (pF σ 26 (uZ (σ.2.1 26) 0 x1)) 26 (uZ (uZ (σ.2.1 26) 0 x1) 1 x2)) 26 (uZ (uZ (uZ (σ.2.1 26) 0 x1) 1 x2) 2 x3)) (11 + 2 * x0) (fun r27 σr27 => wp5_B_valueOf σr27 (12 + 2 * x0) (fun r35 σr35 => (r27 ≠ r35 → ((σr35.1 25 1) ≠ 0 → rng ((σr35.1 25 1) + 1) ∧ K (pU σr35 25 1 ((σr35.1 25 1) + 1))) ∧ ((σr35.1 25 1) = 0 → rng ((((x1 * 16) + x2) * 16) + x3) ∧ rng ((σr35.1 25 1) + 1) ∧ K (pU (pU σr35 25 0 ((((x1 * 16) + x2) * 16) + x3)) 25 1 ((σr35.1 25 1) + 1)))) ∧ (r27 = r35 → K σr35)))
def wp5_B_tryAll_77 (x0 : Int) (l5_59 : Int) (l6_68 : Int) (s0_54 : Int) (L68 : Int → Sg → Prop) (L77 : Int → Sg → Prop) (l7_77 : Int) (σ77 : Sg) : Prop :=
  (s0_54 ≤ l7_77 → rng (l6_68 + 1) ∧ L68 (l6_68 + 1) σ77) ∧ (l7_77 < s0_54 → wp5_B_tryOne σ77 x0 l5_59 l6_68 l7_77 (fun σr92 => rng (l7_77 + 1) ∧ L77 (l7_77 + 1) σr92))
def wp5_B_tryAll_68 (x0 : Int) (l5_59 : Int) (s0_39 : Int) (s0_54 : Int) (L59 : Int → Sg → Prop) (L68 : Int → Sg → Prop) (l6_68 : Int) (σ68 : Sg) : Prop :=
  (s0_39 ≤ l6_68 → rng (l5_59 + 1) ∧ L59 (l5_59 + 1) σ68) ∧ (l6_68 < s0_39 → wl2 (wp5_B_tryAll_77 x0 l5_59 l6_68 s0_54 L68) 0 σ68)
def wp5_B_tryAll_59 (K : Sg → Prop) (x0 : Int) (s0_24 : Int) (s0_39 : Int) (s0_54 : Int) (L59 : Int → Sg → Prop) (l5_59 : Int) (σ59 : Sg) : Prop :=
  (s0_24 ≤ l5_59 → K σ59) ∧ (l5_59 < s0_24 → wl2 (wp5_B_tryAll_68 x0 l5_59 s0_39 s0_54 L59) 0 σ59)
def wp5_B_tryAll_54 (K : Sg → Prop) (σ : Sg) (x0 : Int) (s0_24 : Int) (s0_39 : Int) (s0_54 : Int) : Prop :=
  wl2 (wp5_B_tryAll_59 K x0 s0_24 s0_39 s0_54) 0 (pU (pU σ 25 0 (-1)) 25 1 0)
def wp5_B_tryAll_39 (K : Sg → Prop) (σ : Sg) (x0 : Int) (s0_24 : Int) (s0_39 : Int) : Prop :=
  wp5_U_hasLetter (pU (pU σ 25 0 (-1)) 25 1 0) x0 2 (fun r42 => (r42 = 0 → wp5_B_tryAll_54 K σ x0 s0_24 s0_39 1) ∧ (r42 ≠ 0 → wp5_B_tryAll_54 K σ x0 s0_24 s0_39 16))
def wp5_B_tryAll_24 (K : Sg → Prop) (σ : Sg) (x0 : Int) (s0_24 : Int) : Prop :=
  wp5_U_hasLetter (pU (pU σ 25 0 (-1)) 25 1 0) x0 1 (fun r27 => (r27 = 0 → wp5_B_tryAll_39 K σ x0 s0_24 1) ∧ (r27 ≠ 0 → wp5_B_tryAll_39 K σ x0 s0_24 16))
def wp5_B_tryAll (σ : Sg) (x0 : Int) (K : Sg → Prop) : Prop :=
  wp5_U_hasLetter (pU (pU σ 25 0 (-1)) 25 1 0) x0 0 (fun r12 => (r12 = 0 → wp5_B_tryAll_24 K σ x0 1) ∧ (r12 ≠ 0 → wp5_B_tryAll_24 K σ x0 16))
def wp5_B_mostTimes_66 (l3_10 : Int) (l4_10 : Int) (r18 : Int) (σ10 : Sg) (L10 : Int → Int → Sg → Prop) : Prop :=
  (l3_10 < 2 → rng (l4_10 - 1) ∧ L10 l3_10 (l4_10 - 1) σ10) ∧ (2 ≤ l3_10 → (40 < l3_10 → rng (l4_10 - 1) ∧ L10 l3_10 (l4_10 - 1) σ10) ∧ (l3_10 ≤ 40 → (0 ≤ (l3_10 - 1) ∧ (l3_10 - 1) < 40) ∧ (0 ≤ (l3_10 - 2) ∧ (l3_10 - 2) < 40) ∧ (r18 ≠ 122 → rng (l3_10 - 1) ∧ rng (l4_10 - 1) ∧ L10 (l3_10 - 1) (l4_10 - 1) (pF σ10 27 (uZ (σ10.2.1 27) (l3_10 - 2) (max (σ10.2.1 27 (l3_10 - 1)) (σ10.2.1 27 (l3_10 - 2)))))) ∧ (r18 = 122 → rng ((σ10.2.1 27 (l3_10 - 1)) + (σ10.2.1 27 (l3_10 - 2))) ∧ rng (l3_10 - 1) ∧ rng (l4_10 - 1) ∧ L10 (l3_10 - 1) (l4_10 - 1) (pF σ10 27 (uZ (σ10.2.1 27) (l3_10 - 2) ((σ10.2.1 27 (l3_10 - 1)) + (σ10.2.1 27 (l3_10 - 2))))))))
def wp5_B_mostTimes_10 (K : Int → Sg → Prop) (x0 : Int) (x1 : Int) (L10 : Int → Int → Sg → Prop) (l3_10 : Int) (l4_10 : Int) (σ10 : Sg) : Prop :=
  (l4_10 < 0 → (l3_10 ≤ 0 → K 0 σ10) ∧ (0 < l3_10 → K (σ10.2.1 27 0) σ10)) ∧ (0 ≤ l4_10 → wp5_W_cell σ10 x0 l4_10 (fun r18 => wp5_W_isOperation r18 (fun r25 => (r25 ≠ 0 → wp5_B_mostTimes_66 l3_10 l4_10 r18 σ10 L10) ∧ (r25 = 0 → (40 ≤ l3_10 → wp5_B_mostTimes_66 l3_10 l4_10 r18 σ10 L10) ∧ (l3_10 < 40 → rng (20 + x1) ∧ (r18 ≠ (20 + x1) → (0 ≤ l3_10 ∧ l3_10 < 40) ∧ rng (l3_10 + 1) ∧ rng (l4_10 - 1) ∧ L10 (l3_10 + 1) (l4_10 - 1) (pF σ10 27 (uZ (σ10.2.1 27) l3_10 0))) ∧ (r18 = (20 + x1) → (0 ≤ l3_10 ∧ l3_10 < 40) ∧ rng (l3_10 + 1) ∧ rng (l4_10 - 1) ∧ L10 (l3_10 + 1) (l4_10 - 1) (pF σ10 27 (uZ (σ10.2.1 27) l3_10 1))))))))
def wp5_B_mostTimes (σ : Sg) (x0 : Int) (x1 : Int) (K : Int → Sg → Prop) : Prop :=
  rng ((σ.2.2.1 0 x0) - 1) ∧ wl3 (wp5_B_mostTimes_10 K x0 x1) 0 ((σ.2.2.1 0 x0) - 1) σ
def wp5_B_hasForm_2 (K : Int → Sg → Prop) (x0 : Int) (L2 : Int → Sg → Prop) (l2_2 : Int) (σ2 : Sg) : Prop :=
  (3 ≤ l2_2 → K 1 σ2) ∧ (l2_2 < 3 → wp5_B_mostTimes σ2 x0 l2_2 (fun r10 σr10 => (r10 ≤ 7 → rng (l2_2 + 1) ∧ L2 (l2_2 + 1) σr10) ∧ (7 < r10 → K 0 σr10)))
def wp5_B_hasForm (σ : Sg) (x0 : Int) (K : Int → Sg → Prop) : Prop :=
  wl2 (wp5_B_hasForm_2 K x0) 0 σ
def wp5_B_beginForm_37 (K : Sg → Prop) (x0 : Int) (x1 : Int) (r19 : Int) (σ2 : Sg) (s0_37 : Int) : Prop :=
  (512 ≤ s0_37 → K σ2) ∧ (s0_37 < 512 → (r19 ≠ (-1) → (0 ≤ s0_37 ∧ s0_37 < 512) ∧ K (pZ σ2 4 x0 (uZ (σ2.2.2.2 4 x0) s0_37 1))) ∧ (r19 = (-1) → (0 ≤ s0_37 ∧ s0_37 < 512) ∧ K (pZ σ2 4 x0 (uZ (σ2.2.2.2 4 x0) s0_37 (ziand x1 15)))))
def wp5_B_beginForm_2 (K : Sg → Prop) (x0 : Int) (x1 : Int) (L2 : Int → Sg → Prop) (l3_2 : Int) (σ2 : Sg) : Prop :=
  (512 ≤ l3_2 → wp5_U_letterOf x1 (fun r19 => (r19 ≠ (-1) → wp5_B_beginForm_37 K x0 x1 r19 σ2 (zishl 1 (3 * r19))) ∧ (r19 = (-1) → wp5_B_beginForm_37 K x0 x1 r19 σ2 0))) ∧ (l3_2 < 512 → (0 ≤ l3_2 ∧ l3_2 < 512) ∧ rng (l3_2 + 1) ∧ L2 (l3_2 + 1) (pZ σ2 4 x0 (uZ (σ2.2.2.2 4 x0) l3_2 0)))
def wp5_B_beginForm (σ : Sg) (x0 : Int) (x1 : Int) (K : Sg → Prop) : Prop :=
  wl2 (wp5_B_beginForm_2 K x0 x1) 0 σ
def wp5_B_addUp_3 (K : Sg → Prop) (x0 : Int) (x1 : Int) (x2 : Int) (L3 : Int → Sg → Prop) (l4_3 : Int) (σ3 : Sg) : Prop :=
  (512 ≤ l4_3 → K σ3) ∧ (l4_3 < 512 → (512 ≤ l4_3 → K σ3) ∧ (l4_3 < 512 → (0 ≤ l4_3 ∧ l4_3 < 512) ∧ wp5_W_result x2 (σ3.2.2.2 4 x0 l4_3) (σ3.2.2.2 4 x1 l4_3) (fun r29 => rng (l4_3 + 1) ∧ L3 (l4_3 + 1) (pZ σ3 4 x1 (uZ (σ3.2.2.2 4 x1) l4_3 r29)))))
def wp5_B_addUp (σ : Sg) (x0 : Int) (x1 : Int) (x2 : Int) (K : Sg → Prop) : Prop :=
  wl2 (wp5_B_addUp_3 K x0 x1 x2) 0 σ
def wp5_B_addMultiple_3 (K : Sg → Prop) (x0 : Int) (x1 : Int) (x2 : Int) (L3 : Int → Sg → Prop) (l4_3 : Int) (σ3 : Sg) : Prop :=
  (512 ≤ l4_3 → K σ3) ∧ (l4_3 < 512 → rng (x0 + l4_3) ∧ (512 ≤ (x0 + l4_3) → K σ3) ∧ ((x0 + l4_3) < 512 → (0 ≤ (x0 + l4_3) ∧ (x0 + l4_3) < 512) ∧ (0 ≤ l4_3 ∧ l4_3 < 512) ∧ rng (l4_3 + 1) ∧ L3 (l4_3 + 1) (pF σ3 29 (uZ (σ3.2.1 29) (x0 + l4_3) (ziand ((σ3.2.1 29 (x0 + l4_3)) + (x1 * (σ3.2.2.2 4 x2 l4_3))) 15)))))
def wp5_B_addMultiple (σ : Sg) (x0 : Int) (x1 : Int) (x2 : Int) (K : Sg → Prop) : Prop :=
  wl2 (wp5_B_addMultiple_3 K x0 x1 x2) 0 σ
def wp5_B_multiply_24 (K : Sg → Prop) (x0 : Int) (x1 : Int) (L24 : Int → Sg → Prop) (l3_24 : Int) (σ24 : Sg) : Prop :=
  (512 ≤ l3_24 → ((0 : Int) ≤ 0 ∧ (0 : Int) ≤ 0 ∧ (0 : Int) ≤ (min 512 512) ∧ (0 : Int) + (min 512 512) ≤ 512 ∧ (0 : Int) + (min 512 512) ≤ 512) ∧ K (pZ σ24 4 x1 (cpI (σ24.2.1 29) (σ24.2.2.2 4 x1) 0 0 (min 512 512)))) ∧ (l3_24 < 512 → (0 ≤ l3_24 ∧ l3_24 < 512) ∧ ((σ24.2.2.2 4 x0 l3_24) = 0 → rng (l3_24 + 1) ∧ L24 (l3_24 + 1) σ24) ∧ ((σ24.2.2.2 4 x0 l3_24) ≠ 0 → wp5_B_addMultiple σ24 l3_24 (σ24.2.2.2 4 x0 l3_24) x1 (fun σr42 => rng (l3_24 + 1) ∧ L24 (l3_24 + 1) σr42)))
def wp5_B_multiply_2 (K : Sg → Prop) (x0 : Int) (x1 : Int) (L2 : Int → Sg → Prop) (l3_2 : Int) (σ2 : Sg) : Prop :=
  (512 ≤ l3_2 → wl2 (wp5_B_multiply_24 K x0 x1) 0 σ2) ∧ (l3_2 < 512 → (0 ≤ l3_2 ∧ l3_2 < 512) ∧ rng (l3_2 + 1) ∧ L2 (l3_2 + 1) (pF σ2 29 (uZ (σ2.2.1 29) l3_2 0)))
def wp5_B_multiply (σ : Sg) (x0 : Int) (x1 : Int) (K : Sg → Prop) : Prop :=
  wl2 (wp5_B_multiply_2 K x0 x1) 0 σ
def wp5_B_multiplyOut_52 (l2_9 : Int) (l3_9 : Int) (r15 : Int) (σ9 : Sg) (L9 : Int → Int → Sg → Prop) : Prop :=
  (l2_9 < 2 → rng (l3_9 - 1) ∧ L9 l2_9 (l3_9 - 1) σ9) ∧ (2 ≤ l2_9 → (20 < l2_9 → rng (l3_9 - 1) ∧ L9 l2_9 (l3_9 - 1) σ9) ∧ (l2_9 ≤ 20 → (r15 ≠ 122 → (0 ≤ (l2_9 - 1) ∧ (l2_9 - 1) < 20) ∧ (0 ≤ (l2_9 - 2) ∧ (l2_9 - 2) < 20) ∧ wp5_B_addUp σ9 (l2_9 - 1) (l2_9 - 2) r15 (fun σr112 => rng (l2_9 - 1) ∧ rng (l3_9 - 1) ∧ L9 (l2_9 - 1) (l3_9 - 1) σr112)) ∧ (r15 = 122 → (0 ≤ (l2_9 - 1) ∧ (l2_9 - 1) < 20) ∧ (0 ≤ (l2_9 - 2) ∧ (l2_9 - 2) < 20) ∧ wp5_B_multiply σ9 (l2_9 - 1) (l2_9 - 2) (fun σr87 => rng (l2_9 - 1) ∧ rng (l3_9 - 1) ∧ L9 (l2_9 - 1) (l3_9 - 1) σr87))))
def wp5_B_multiplyOut_9 (K : Sg → Prop) (x0 : Int) (L9 : Int → Int → Sg → Prop) (l2_9 : Int) (l3_9 : Int) (σ9 : Sg) : Prop :=
  (l3_9 < 0 → K σ9) ∧ (0 ≤ l3_9 → wp5_W_cell σ9 x0 l3_9 (fun r15 => wp5_W_isOperation r15 (fun r22 => (r22 ≠ 0 → wp5_B_multiplyOut_52 l2_9 l3_9 r15 σ9 L9) ∧ (r22 = 0 → (20 ≤ l2_9 → wp5_B_multiplyOut_52 l2_9 l3_9 r15 σ9 L9) ∧ (l2_9 < 20 → (0 ≤ l2_9 ∧ l2_9 < 20) ∧ wp5_B_beginForm σ9 l2_9 r15 (fun σr43 => rng (l2_9 + 1) ∧ rng (l3_9 - 1) ∧ L9 (l2_9 + 1) (l3_9 - 1) σr43))))))
def wp5_B_multiplyOut (σ : Sg) (x0 : Int) (K : Sg → Prop) : Prop :=
  rng ((σ.2.2.1 0 x0) - 1) ∧ wl3 (wp5_B_multiplyOut_9 K x0) 0 ((σ.2.2.1 0 x0) - 1) σ
def wp5_B_compareForms_60 (K : Int → Sg → Prop) (σr55 : Sg) (L60 : Int → Prop) (l2_60 : Int) : Prop :=
  (512 ≤ l2_60 → K 1 σr55) ∧ (l2_60 < 512 → (0 ≤ l2_60 ∧ l2_60 < 512) ∧ ((σr55.2.2.2 4 0 l2_60) = (σr55.2.1 28 l2_60) → rng (l2_60 + 1) ∧ L60 (l2_60 + 1)) ∧ ((σr55.2.2.2 4 0 l2_60) ≠ (σr55.2.1 28 l2_60) → K 0 σr55))
def wp5_B_compareForms (σ : Sg) (x0 : Int) (K : Int → Sg → Prop) : Prop :=
  wp5_B_hasForm σ (11 + 2 * x0) (fun r5 σr5 => (r5 = 0 → K (-1) σr5) ∧ (r5 ≠ 0 → wp5_B_hasForm σr5 (12 + 2 * x0) (fun r16 σr16 => (r16 ≠ 0 → wp5_B_multiplyOut σr16 (11 + 2 * x0) (fun σr29 => ((0 : Int) ≤ 0 ∧ (0 : Int) ≤ 0 ∧ (0 : Int) ≤ 512 ∧ (0 : Int) + 512 ≤ 512 ∧ (0 : Int) + 512 ≤ 512) ∧ wp5_B_multiplyOut (pF σr29 28 (cpI (σr29.2.2.2 4 0) (σr29.2.1 28) 0 0 512)) (12 + 2 * x0) (fun σr55 => wl1 (wp5_B_compareForms_60 K σr55) 0))) ∧ (r16 = 0 → K (-1) σr16))))
def wp5_S_ruleOf (σ : Sg) (x0 : Int) (x1 : Int) (K : Int → Sg → Prop) : Prop :=
  wp5_S_ruleAt σ x0 (fun r2 => (r2 < 0 → K (-2) σ) ∧ (0 ≤ r2 → (0 ≤ r2 ∧ r2 < 12) ∧ (x1 ≠ 2 → wp5_B_tryAll σ r2 (fun σr32 => (x1 = 0 → ((σr32.1 25 1) ≠ 0 → K 0 σr32) ∧ ((σr32.1 25 1) = 0 → K 1 σr32)) ∧ (x1 = 1 → K (σr32.1 25 0) σr32) ∧ (x1 = 2 → K (-2) σr32) ∧ (x1 = 3 → K (σr32.1 25 1) σr32) ∧ (x1 < 0 ∨ 3 < x1 → K (-2) σr32))) ∧ (x1 = 2 → wp5_B_compareForms σ r2 (fun r23 σr23 => K r23 σr23))))
