def wp5_T_put_3 (K : Sg → Prop) (x0 : Int) (L3 : Int → Sg → Prop) (l2_3 : Int) (σ3 : Sg) : Prop :=
  (l2_3 < 0 → K σ3) ∧ (0 ≤ l2_3 → (800 ≤ (σ3.1 3 1) → K σ3) ∧ ((σ3.1 3 1) < 800 → (0 ≤ (σ3.1 3 1) ∧ (σ3.1 3 1) < 800) ∧ rng ((σ3.1 3 1) + 1) ∧ rng (l2_3 - 8) ∧ L3 (l2_3 - 8) (pU (pF σ3 4 (uZ (σ3.2.1 4) (σ3.1 3 1) (ziand (ziushr x0 l2_3) 255))) 3 1 ((σ3.1 3 1) + 1))))
def wp5_T_put (σ : Sg) (x0 : Int) (K : Sg → Prop) : Prop :=
  wl2 (wp5_T_put_3 K x0) 24 σ
def wp5_S_feed (σ : Sg) (x0 : Int) (x1 : Int) (x2 : Int) (x3 : Int) (x4 : Int) (K : Int → Sg → Prop) : Prop :=
  rng ((σ.1 3 1) + 20) ∧ (((σ.1 3 1) + 20) ≤ 800 → wp5_T_put σ x0 (fun σr28 => wp5_T_put σr28 x1 (fun σr34 => wp5_T_put σr34 x2 (fun σr40 => wp5_T_put σr40 x3 (fun σr47 => wp5_T_put σr47 x4 (fun σr54 => K (σr54.1 3 1) σr54)))))) ∧ (800 < ((σ.1 3 1) + 20) → K (-1) σ)
def wp5_T_shorten (σ : Sg) (x0 : Int) (K : Int → Sg → Prop) : Prop :=
  (x0 < 0 → K 0 σ) ∧ (0 ≤ x0 → (x0 ≤ (σ.1 3 1) → K 1 (pU σ 3 1 x0)) ∧ ((σ.1 3 1) < x0 → K 0 σ))
def wp5_S_end (σ : Sg) (x0 : Int) (K : Int → Sg → Prop) : Prop :=
  wp5_T_shorten σ x0 (fun r8 σr8 => (r8 = 0 ∨ r8 = 1) ∧ K r8 σr8)
def wp5_S_fault (σ : Sg) (x0 : Int) (K : Int → Prop) : Prop :=
  (x0 ≠ 0 → (x0 ≠ 1 → K (-1)) ∧ (x0 = 1 → K (σ.1 2 2))) ∧ (x0 = 0 → K (σ.1 2 1))
def wp5_S_slotAt (σ : Sg) (x0 : Int) (K : Int → Prop) : Prop :=
  (x0 < 0 → K (-1)) ∧ (0 ≤ x0 → (6 ≤ x0 → K (-1)) ∧ (x0 < 6 → (0 ≤ x0 ∧ x0 < 6) ∧ K x0))
def wp5_R_drop (σ : Sg) (K : Sg → Prop) : Prop :=
  wp5_T_shorten (pU (pU σ 2 1 0) 2 2 (-1)) 0 (fun r15 σr15 => K σr15)
def wp5_T_rewind (σ : Sg) (K : Sg → Prop) : Prop :=
  K (pU (pU (pU (pU σ 3 5 0) 3 4 0) 3 2 0) 3 3 0)
def wp5_R_begin_n1 (σ : Sg) (x0 : Int) (x2 : Int) (K : Sg → Prop) : Prop :=
  wp5_T_rewind (pU (pU (pU (pU (pU (pY (pU (pU (pU σ 2 1 0) 2 2 (-1)) 2 3 x0) 0 x0 0) 2 4 (-1)) 2 7 0) 2 8 0) 2 9 x2) 2 13 0) (fun σr52 => K σr52)
def wp5_R_beginProgram (σ : Sg) (x0 : Int) (K : Sg → Prop) : Prop :=
  wp5_R_begin_n1 σ x0 300 (fun σr6 => K (pU σr6 2 5 0))
def wp5_T_byteAt (σ : Sg) (x0 : Int) (K : Int → Prop) : Prop :=
  (x0 < 0 → K (-1)) ∧ (0 ≤ x0 → ((σ.1 3 1) ≤ x0 → K (-1)) ∧ (x0 < (σ.1 3 1) → (0 ≤ x0 ∧ x0 < 800) ∧ K (σ.2.1 4 x0)))
def wp5_T_isSmallLetter (x0 : Int) (K : Int → Prop) : Prop :=
  (x0 < 97 → K 0) ∧ (97 ≤ x0 → (122 < x0 → K 0) ∧ (x0 ≤ 122 → K 1))
def wp5_T_isLetter (x0 : Int) (K : Int → Prop) : Prop :=
  wp5_T_isSmallLetter x0 (fun r1 => (r1 ≠ 0 → K 1) ∧ (r1 = 0 → (x0 < 65 → K 0) ∧ (65 ≤ x0 → (90 < x0 → K 0) ∧ (x0 ≤ 90 → K 1))))
def wp5_T_isDigit (x0 : Int) (K : Int → Prop) : Prop :=
  (x0 < 48 → K 0) ∧ (48 ≤ x0 → (57 < x0 → K 0) ∧ (x0 ≤ 57 → K 1))
def wp5_T_isSign_59 (K : Int → Prop) (x0 : Int) (s0_35 : Int) (s0_59 : Int) : Prop :=
  (s0_35 ≠ 0 → K 1) ∧ (s0_35 = 0 → (s0_59 ≠ 0 → K 1) ∧ (s0_59 = 0 → (x0 = 59 → K 1) ∧ (x0 ≠ 59 → (x0 = 123 → K 1) ∧ (x0 ≠ 123 → (x0 ≠ 125 → K 0) ∧ (x0 = 125 → K 1)))))
def wp5_T_isSign_54 (K : Int → Prop) (x0 : Int) (s0_35 : Int) : Prop :=
  wp5_T_isSign_59 K x0 s0_35 1
def wp5_T_isSign_35 (K : Int → Prop) (x0 : Int) (s0_35 : Int) : Prop :=
  (x0 = 60 → wp5_T_isSign_54 K x0 s0_35) ∧ (x0 ≠ 60 → (x0 = 61 → wp5_T_isSign_54 K x0 s0_35) ∧ (x0 ≠ 61 → (x0 ≠ 62 → wp5_T_isSign_59 K x0 s0_35 0) ∧ (x0 = 62 → wp5_T_isSign_54 K x0 s0_35)))
def wp5_T_isSign_30 (K : Int → Prop) (x0 : Int) : Prop :=
  wp5_T_isSign_35 K x0 1
def wp5_T_isSign (x0 : Int) (K : Int → Prop) : Prop :=
  (x0 = 43 → wp5_T_isSign_30 K x0) ∧ (x0 ≠ 43 → (x0 = 45 → wp5_T_isSign_30 K x0) ∧ (x0 ≠ 45 → (x0 = 42 → wp5_T_isSign_30 K x0) ∧ (x0 ≠ 42 → (x0 = 40 → wp5_T_isSign_30 K x0) ∧ (x0 ≠ 40 → (x0 ≠ 41 → wp5_T_isSign_35 K x0 0) ∧ (x0 = 41 → wp5_T_isSign_30 K x0)))))
def wp5_T_takeSign_75 (K : Sg → Prop) (σ : Sg) (x0 : Int) : Prop :=
  wp5_T_isSign x0 (fun r77 => (r77 = 0 → K (pU (pU σ 3 5 ((σ.1 3 4) + 1)) 3 2 0)) ∧ (r77 ≠ 0 → K (pU (pU σ 3 5 ((σ.1 3 4) + 1)) 3 2 x0)))
def wp5_T_takeSign (σ : Sg) (x0 : Int) (x1 : Int) (K : Sg → Prop) : Prop :=
  rng ((σ.1 3 4) + 1) ∧ (x0 ≠ (-1) → (x1 = 0 → wp5_T_takeSign_75 K σ x0) ∧ (x1 ≠ 0 → (x0 ≠ 45 → wp5_T_takeSign_75 K σ x0) ∧ (x0 = 45 → wp5_T_byteAt (pU σ 3 5 ((σ.1 3 4) + 1)) ((σ.1 3 4) + 1) (fun r48 => (r48 ≠ 62 → wp5_T_takeSign_75 K σ x0) ∧ (r48 = 62 → rng ((σ.1 3 4) + 2) ∧ K (pU (pU (pU σ 3 5 ((σ.1 3 4) + 1)) 3 2 9) 3 5 ((σ.1 3 4) + 2))))))) ∧ (x0 = (-1) → K (pU (pU (pU σ 3 5 ((σ.1 3 4) + 1)) 3 2 1) 3 5 (σ.1 3 4)))
def wp5_T_takeDigits_87 (K : Sg → Prop) (σ18 : Sg) : Prop :=
  rng ((σ18.1 3 5) - (σ18.1 3 4)) ∧ (4 < ((σ18.1 3 5) - (σ18.1 3 4)) → K (pU σ18 3 2 0)) ∧ (((σ18.1 3 5) - (σ18.1 3 4)) ≤ 4 → K (pU σ18 3 2 2))
def wp5_T_takeDigits_18 (K : Sg → Prop) (L18 : Int → Sg → Prop) (l1_18 : Int) (σ18 : Sg) : Prop :=
  ((σ18.1 3 1) ≤ l1_18 → wp5_T_takeDigits_87 K σ18) ∧ (l1_18 < (σ18.1 3 1) → wp5_T_byteAt σ18 l1_18 (fun r28 => wp5_T_isDigit r28 (fun r31 => (r31 = 0 → wp5_T_takeDigits_87 K σ18) ∧ (r31 ≠ 0 → rng (l1_18 - (σ18.1 3 4)) ∧ (4 ≤ (l1_18 - (σ18.1 3 4)) → rng (l1_18 + 1) ∧ L18 (l1_18 + 1) (pU (pU σ18 3 3 (σ18.1 3 3)) 3 5 (l1_18 + 1))) ∧ ((l1_18 - (σ18.1 3 4)) < 4 → wp5_T_byteAt σ18 l1_18 (fun r57 => rng ((((σ18.1 3 3) * 10) + r57) - 48) ∧ rng (l1_18 + 1) ∧ L18 (l1_18 + 1) (pU (pU σ18 3 3 ((((σ18.1 3 3) * 10) + r57) - 48)) 3 5 (l1_18 + 1))))))))
def wp5_T_takeDigits (σ : Sg) (K : Sg → Prop) : Prop :=
  wl2 (wp5_T_takeDigits_18 K) (σ.1 3 4) (pU (pU σ 3 5 (σ.1 3 4)) 3 3 0)
def wp5_T_isText_20 (K : Int → Prop) (σ : Sg) (x0 : Int) (L20 : Int → Prop) (l2_20 : Int) : Prop :=
  ((litN x0) ≤ l2_20 → K 1) ∧ (l2_20 < (litN x0) → rng ((σ.1 3 4) + l2_20) ∧ wp5_T_byteAt σ ((σ.1 3 4) + l2_20) (fun r35 => (0 ≤ l2_20 ∧ l2_20 < litN x0) ∧ (r35 = (litC x0 l2_20) → rng (l2_20 + 1) ∧ L20 (l2_20 + 1)) ∧ (r35 ≠ (litC x0 l2_20) → K 0)))
def wp5_T_isText (σ : Sg) (x0 : Int) (K : Int → Prop) : Prop :=
  rng ((σ.1 3 5) - (σ.1 3 4)) ∧ ((litN x0) = ((σ.1 3 5) - (σ.1 3 4)) → wl1 (wp5_T_isText_20 K σ x0) 0) ∧ ((litN x0) ≠ ((σ.1 3 5) - (σ.1 3 4)) → K 0)
def wp5_T_takeLetters_45 (K : Sg → Prop) (σ13 : Sg) : Prop :=
  wp5_T_byteAt σ13 (σ13.1 3 4) (fun r51 => rng (r51 - 97) ∧ rng ((σ13.1 3 5) - (σ13.1 3 4)) ∧ (((σ13.1 3 5) - (σ13.1 3 4)) ≠ 1 → wp5_T_isText (pU σ13 3 3 (r51 - 97)) 0 (fun r102 => (r102 = 0 → wp5_T_isText (pU σ13 3 3 (r51 - 97)) 1 (fun r119 => (r119 = 0 → wp5_T_isText (pU σ13 3 3 (r51 - 97)) 2 (fun r136 => (r136 = 0 → wp5_T_isText (pU σ13 3 3 (r51 - 97)) 3 (fun r154 => (r154 = 0 → wp5_T_isText (pU σ13 3 3 (r51 - 97)) 4 (fun r173 => (r173 = 0 → K (pU (pU σ13 3 3 (r51 - 97)) 3 2 0)) ∧ (r173 ≠ 0 → K (pU (pU σ13 3 3 (r51 - 97)) 3 2 8)))) ∧ (r154 ≠ 0 → K (pU (pU σ13 3 3 (r51 - 97)) 3 2 7)))) ∧ (r136 ≠ 0 → K (pU (pU σ13 3 3 (r51 - 97)) 3 2 6)))) ∧ (r119 ≠ 0 → K (pU (pU σ13 3 3 (r51 - 97)) 3 2 5)))) ∧ (r102 ≠ 0 → K (pU (pU σ13 3 3 (r51 - 97)) 3 2 4)))) ∧ (((σ13.1 3 5) - (σ13.1 3 4)) = 1 → wp5_T_byteAt (pU σ13 3 3 (r51 - 97)) (σ13.1 3 4) (fun r79 => wp5_T_isSmallLetter r79 (fun r82 => (r82 = 0 → K (pU (pU σ13 3 3 (r51 - 97)) 3 2 0)) ∧ (r82 ≠ 0 → K (pU (pU σ13 3 3 (r51 - 97)) 3 2 3))))))
def wp5_T_takeLetters_13 (K : Sg → Prop) (L13 : Int → Sg → Prop) (l1_13 : Int) (σ13 : Sg) : Prop :=
  ((σ13.1 3 1) ≤ l1_13 → wp5_T_takeLetters_45 K σ13) ∧ (l1_13 < (σ13.1 3 1) → wp5_T_byteAt σ13 l1_13 (fun r23 => wp5_T_isLetter r23 (fun r26 => (r26 = 0 → wp5_T_takeLetters_45 K σ13) ∧ (r26 ≠ 0 → rng (l1_13 + 1) ∧ L13 (l1_13 + 1) (pU σ13 3 5 (l1_13 + 1))))))
def wp5_T_takeLetters (σ : Sg) (K : Sg → Prop) : Prop :=
  wl2 (wp5_T_takeLetters_13 K) (σ.1 3 4) (pU σ 3 5 (σ.1 3 4))
def wp5_T_advance_54 (K : Sg → Prop) (x0 : Int) (σ13 : Sg) : Prop :=
  wp5_T_byteAt σ13 (σ13.1 3 4) (fun r59 => wp5_T_isLetter r59 (fun r64 => (r64 = 0 → wp5_T_isDigit r59 (fun r78 => (r78 = 0 → wp5_T_takeSign σ13 r59 x0 (fun σr94 => K σr94)) ∧ (r78 ≠ 0 → wp5_T_takeDigits σ13 (fun σr85 => K σr85)))) ∧ (r64 ≠ 0 → wp5_T_takeLetters σ13 (fun σr71 => K σr71))))
def wp5_T_advance_13 (K : Sg → Prop) (x0 : Int) (L13 : Int → Sg → Prop) (l2_13 : Int) (σ13 : Sg) : Prop :=
  ((σ13.1 3 1) ≤ l2_13 → wp5_T_advance_54 K x0 σ13) ∧ (l2_13 < (σ13.1 3 1) → wp5_T_byteAt σ13 l2_13 (fun r23 => (r23 = 32 → rng (l2_13 + 1) ∧ L13 (l2_13 + 1) (pU σ13 3 4 (l2_13 + 1))) ∧ (r23 ≠ 32 → wp5_T_byteAt σ13 l2_13 (fun r33 => (r33 ≠ 10 → wp5_T_advance_54 K x0 σ13) ∧ (r33 = 10 → rng (l2_13 + 1) ∧ L13 (l2_13 + 1) (pU σ13 3 4 (l2_13 + 1)))))))
def wp5_T_advance (σ : Sg) (x0 : Int) (K : Sg → Prop) : Prop :=
  wl2 (wp5_T_advance_13 K x0) (σ.1 3 5) (pU σ 3 4 (σ.1 3 5))
def wp5_W_add (σ : Sg) (n0 : Int) (x0 : Int) (K : Sg → Prop) : Prop :=
  ((capI n0) ≤ (σ.2.2.1 0 n0) → K σ) ∧ ((σ.2.2.1 0 n0) < (capI n0) → (0 ≤ (σ.2.2.1 0 n0) ∧ (σ.2.2.1 0 n0) < (capI n0)) ∧ rng ((σ.2.2.1 0 n0) + 1) ∧ K (pY (pZ σ 0 n0 (uZ (σ.2.2.2 0 n0) (σ.2.2.1 0 n0) x0)) 0 n0 ((σ.2.2.1 0 n0) + 1)))
def wp5_R_closeBlock (σ : Sg) (K : Sg → Prop) : Prop :=
  ((σ.1 2 13) ≤ 0 → K σ) ∧ (0 < (σ.1 2 13) → ((σ.1 2 13) ≤ 8 → rng ((σ.1 2 13) - 1) ∧ (0 ≤ ((σ.1 2 13) - 1) ∧ ((σ.1 2 13) - 1) < 8) ∧ ((σ.2.1 5 ((σ.1 2 13) - 1)) ≠ 112 → (0 ≤ (σ.1 2 3) ∧ (σ.1 2 3) < 35) ∧ wp5_W_add (pU σ 2 13 ((σ.1 2 13) - 1)) (σ.1 2 3) 114 (fun σr64 => K (pU σr64 2 5 0))) ∧ ((σ.2.1 5 ((σ.1 2 13) - 1)) = 112 → (0 ≤ (σ.1 2 3) ∧ (σ.1 2 3) < 35) ∧ wp5_W_add (pU σ 2 13 ((σ.1 2 13) - 1)) (σ.1 2 3) 113 (fun σr47 => K (pU σr47 2 5 1)))) ∧ (8 < (σ.1 2 13) → K σ))
def wp5_R_refuse (σ : Sg) (x0 : Int) (K : Sg → Prop) : Prop :=
  K (pU (pU σ 2 1 x0) 2 2 (σ.1 3 4))
def wp5_R_beginExpression (σ : Sg) (x0 : Int) (K : Sg → Prop) : Prop :=
  (0 ≤ (σ.1 2 3) ∧ (σ.1 2 3) < 35) ∧ K (pU (pU (pU (pU σ 2 6 x0) 2 10 (σ.2.2.1 0 (σ.1 2 3))) 2 11 (σ.2.2.1 0 (σ.1 2 3))) 2 5 5)
def wp5_R_beginStatement_91 (K : Sg → Prop) (σ : Sg) (s0_91 : Int) : Prop :=
  wp5_W_add σ (σ.1 2 3) s0_91 (fun σr91 => (0 ≤ (σr91.1 2 3) ∧ (σr91.1 2 3) < 35) ∧ wp5_W_add (pU σr91 2 12 (σr91.2.2.1 0 (σr91.1 2 3))) (σr91.1 2 3) 130 (fun σr112 => wp5_R_beginExpression σr112 1 (fun σr117 => K σr117)))
def wp5_R_beginStatement (σ : Sg) (x0 : Int) (K : Sg → Prop) : Prop :=
  (x0 ≠ 4 → (x0 ≠ 5 → (x0 ≠ 3 → (0 ≤ (σ.1 2 3) ∧ (σ.1 2 3) < 35) ∧ (x0 ≠ 6 → wp5_R_beginStatement_91 K σ 115) ∧ (x0 = 6 → wp5_R_beginStatement_91 K σ 112)) ∧ (x0 = 3 → (0 ≤ (σ.1 2 3) ∧ (σ.1 2 3) < 35) ∧ rng (100 + (σ.1 3 3)) ∧ wp5_W_add σ (σ.1 2 3) (100 + (σ.1 3 3)) (fun σr63 => K (pU σr63 2 5 3)))) ∧ (x0 = 5 → (0 ≤ (σ.1 2 3) ∧ (σ.1 2 3) < 35) ∧ wp5_W_add σ (σ.1 2 3) 111 (fun σr33 => K (pU σr33 2 5 4)))) ∧ (x0 = 4 → (0 ≤ (σ.1 2 3) ∧ (σ.1 2 3) < 35) ∧ wp5_W_add σ (σ.1 2 3) 110 (fun σr11 => wp5_R_beginExpression σr11 0 (fun σr16 => K σr16)))
def wp5_R_takeStatement_118 (K : Sg → Prop) (σ : Sg) : Prop :=
  ((σ.1 2 7) < 40 → rng ((σ.1 2 7) + 1) ∧ wp5_R_beginStatement (pU σ 2 7 ((σ.1 2 7) + 1)) (σ.1 3 2) (fun σr147 => K σr147)) ∧ (40 ≤ (σ.1 2 7) → wp5_R_refuse σ 3 (fun σr129 => K σr129))
def wp5_R_takeStatement_95 (K : Sg → Prop) (σ : Sg) (s0_61 : Int) (s0_77 : Int) (s0_95 : Int) : Prop :=
  (s0_61 ≠ 0 → wp5_R_takeStatement_118 K σ) ∧ (s0_61 = 0 → (s0_77 ≠ 0 → wp5_R_takeStatement_118 K σ) ∧ (s0_77 = 0 → (s0_95 ≠ 0 → wp5_R_takeStatement_118 K σ) ∧ (s0_95 = 0 → wp5_R_refuse σ 1 (fun σr112 => K σr112))))
def wp5_R_takeStatement_90 (K : Sg → Prop) (σ : Sg) (s0_61 : Int) (s0_77 : Int) : Prop :=
  wp5_R_takeStatement_95 K σ s0_61 s0_77 1
def wp5_R_takeStatement_77 (K : Sg → Prop) (σ : Sg) (s0_61 : Int) (s0_77 : Int) : Prop :=
  ((σ.1 3 2) = 6 → wp5_R_takeStatement_90 K σ s0_61 s0_77) ∧ ((σ.1 3 2) ≠ 6 → ((σ.1 3 2) ≠ 8 → wp5_R_takeStatement_95 K σ s0_61 s0_77 0) ∧ ((σ.1 3 2) = 8 → wp5_R_takeStatement_90 K σ s0_61 s0_77))
def wp5_R_takeStatement_72 (K : Sg → Prop) (σ : Sg) (s0_61 : Int) : Prop :=
  wp5_R_takeStatement_77 K σ s0_61 1
def wp5_R_takeStatement_61 (K : Sg → Prop) (σ : Sg) (s0_61 : Int) : Prop :=
  ((σ.1 3 2) = 4 → wp5_R_takeStatement_72 K σ s0_61) ∧ ((σ.1 3 2) ≠ 4 → ((σ.1 3 2) ≠ 5 → wp5_R_takeStatement_77 K σ s0_61 0) ∧ ((σ.1 3 2) = 5 → wp5_R_takeStatement_72 K σ s0_61))
def wp5_R_takeStatement_60 (K : Sg → Prop) (σ : Sg) : Prop :=
  wp5_R_takeStatement_61 K σ 0
def wp5_R_takeStatement_39 (K : Sg → Prop) (σ : Sg) : Prop :=
  ((σ.1 3 2) ≠ 3 → wp5_R_takeStatement_60 K σ) ∧ ((σ.1 3 2) = 3 → (6 ≤ (σ.1 3 3) → wp5_R_takeStatement_60 K σ) ∧ ((σ.1 3 3) < 6 → wp5_R_takeStatement_61 K σ 1))
def wp5_R_takeStatement_21 (K : Sg → Prop) (σ : Sg) : Prop :=
  ((σ.1 3 2) ≠ 125 → wp5_R_takeStatement_39 K σ) ∧ ((σ.1 3 2) = 125 → ((σ.1 2 13) ≤ 0 → wp5_R_takeStatement_39 K σ) ∧ (0 < (σ.1 2 13) → wp5_R_closeBlock σ (fun σr35 => K σr35)))
def wp5_R_takeStatement (σ : Sg) (K : Sg → Prop) : Prop :=
  ((σ.1 3 2) ≠ 1 → wp5_R_takeStatement_21 K σ) ∧ ((σ.1 3 2) = 1 → ((σ.1 2 13) ≠ 0 → wp5_R_takeStatement_21 K σ) ∧ ((σ.1 2 13) = 0 → K σ))
def wp5_R_takeBehindThen (σ : Sg) (K : Sg → Prop) : Prop :=
  ((σ.1 3 2) ≠ 7 → (0 ≤ (σ.1 2 3) ∧ (σ.1 2 3) < 35) ∧ wp5_W_add σ (σ.1 2 3) 114 (fun σr26 => wp5_R_takeStatement (pU σr26 2 5 0) (fun σr35 => K σr35))) ∧ ((σ.1 3 2) = 7 → K (pU σ 2 5 2))
def wp5_R_open_16 (K : Int → Sg → Prop) (σ : Sg) : Prop :=
  wp5_R_refuse σ 3 (fun σr18 => K 0 σr18)
def wp5_R_open (σ : Sg) (x0 : Int) (K : Int → Sg → Prop) : Prop :=
  ((σ.1 2 13) < 0 → wp5_R_open_16 K σ) ∧ (0 ≤ (σ.1 2 13) → ((σ.1 2 13) < 8 → (0 ≤ (σ.1 2 13) ∧ (σ.1 2 13) < 8) ∧ rng ((σ.1 2 13) + 1) ∧ K 1 (pU (pF (pF (pF σ 5 (uZ (σ.2.1 5) (σ.1 2 13) x0)) 6 (uZ (σ.2.1 6) (σ.1 2 13) (σ.1 2 10))) 7 (uZ (σ.2.1 7) (σ.1 2 13) (σ.1 2 11))) 2 13 ((σ.1 2 13) + 1))) ∧ (8 ≤ (σ.1 2 13) → wp5_R_open_16 K σ))
def wp5_R_openBlock (σ : Sg) (x0 : Int) (K : Sg → Prop) : Prop :=
  wp5_R_open σ x0 (fun r2 σr2 => (r2 = 0 → K σr2) ∧ (r2 ≠ 0 → K (pU σr2 2 5 0)))
def wp5_R_takeElseBrace (σ : Sg) (K : Sg → Prop) : Prop :=
  ((σ.1 3 2) ≠ 123 → wp5_R_refuse σ 1 (fun σr23 => K σr23)) ∧ ((σ.1 3 2) = 123 → wp5_R_openBlock σ 113 (fun σr15 => K σr15))
def wp5_R_takeSetSign (σ : Sg) (K : Sg → Prop) : Prop :=
  ((σ.1 3 2) ≠ 61 → wp5_R_refuse σ 1 (fun σr22 => K σr22)) ∧ ((σ.1 3 2) = 61 → wp5_R_beginExpression σ 0 (fun σr14 => K σr14))
def wp5_R_takeSemicolon (σ : Sg) (K : Sg → Prop) : Prop :=
  ((σ.1 3 2) ≠ 59 → wp5_R_refuse σ 1 (fun σr22 => K σr22)) ∧ ((σ.1 3 2) = 59 → K (pU σ 2 5 0))
def wp5_U_hasLetter (σ : Sg) (n0 : Int) (x0 : Int) (K : Int → Prop) : Prop :=
  (x0 < 0 → K 0) ∧ (0 ≤ x0 → (3 ≤ x0 → K 0) ∧ (x0 < 3 → ((ziand (zishr (σ.2.2.1 1 n0) x0) 1) = 0 → K 0) ∧ ((ziand (zishr (σ.2.2.1 1 n0) x0) 1) ≠ 0 → K 1)))
def wp5_R_countThing (σ : Sg) (K : Int → Sg → Prop) : Prop :=
  ((σ.1 2 8) < (σ.1 2 9) → rng ((σ.1 2 8) + 1) ∧ K 1 (pU σ 2 8 ((σ.1 2 8) + 1))) ∧ ((σ.1 2 9) ≤ (σ.1 2 8) → wp5_R_refuse σ 3 (fun σr13 => K 0 σr13))
def wp5_R_takeLetter_49 (K : Sg → Prop) (σ : Sg) : Prop :=
  wp5_R_refuse σ 1 (fun σr51 => K σr51)
def wp5_R_takeLetter_91 (K : Sg → Prop) (σ : Sg) (s0_27 : Int) : Prop :=
  wp5_R_countThing σ (fun r92 σr92 => (r92 = 0 → K σr92) ∧ (r92 ≠ 0 → (0 ≤ (σr92.1 2 3) ∧ (σr92.1 2 3) < 35) ∧ rng (20 + s0_27) ∧ wp5_W_add σr92 (σr92.1 2 3) (20 + s0_27) (fun σr106 => K (pU σr106 2 5 6))))
def wp5_R_takeLetter_46 (K : Sg → Prop) (σ : Sg) (s0_27 : Int) (s0_46 : Int) : Prop :=
  (s0_27 < s0_46 → ((σ.1 2 6) ≠ 4 → wp5_R_takeLetter_91 K σ s0_27) ∧ ((σ.1 2 6) = 4 → ((σ.1 2 4) < 0 → wp5_R_takeLetter_91 K σ s0_27) ∧ (0 ≤ (σ.1 2 4) → (0 ≤ (σ.1 2 4) ∧ (σ.1 2 4) < 12) ∧ wp5_U_hasLetter σ (σ.1 2 4) s0_27 (fun r77 => (r77 ≠ 0 → wp5_R_takeLetter_91 K σ s0_27) ∧ (r77 = 0 → wp5_R_refuse σ 2 (fun σr85 => K σr85)))))) ∧ (s0_46 ≤ s0_27 → wp5_R_takeLetter_49 K σ)
def wp5_R_takeLetter_27 (K : Sg → Prop) (σ : Sg) (s0_27 : Int) : Prop :=
  (s0_27 < 0 → wp5_R_takeLetter_49 K σ) ∧ (0 ≤ s0_27 → ((σ.1 2 4) < 0 → wp5_R_takeLetter_46 K σ s0_27 6) ∧ (0 ≤ (σ.1 2 4) → (0 ≤ (σ.1 2 4) ∧ (σ.1 2 4) < 12) ∧ wp5_R_takeLetter_46 K σ s0_27 3))
def wp5_R_takeLetter (σ : Sg) (K : Sg → Prop) : Prop :=
  ((σ.1 2 4) < 0 → wp5_R_takeLetter_27 K σ (σ.1 3 3)) ∧ (0 ≤ (σ.1 2 4) → (0 ≤ (σ.1 2 4) ∧ (σ.1 2 4) < 12) ∧ rng ((σ.1 3 3) - 23) ∧ wp5_R_takeLetter_27 K σ ((σ.1 3 3) - 23))
def wp5_R_takeNumber (σ : Sg) (K : Sg → Prop) : Prop :=
  ((σ.1 3 3) < 16 → wp5_R_countThing σ (fun r21 σr21 => (r21 = 0 → K σr21) ∧ (r21 ≠ 0 → (0 ≤ (σr21.1 2 3) ∧ (σr21.1 2 3) < 35) ∧ wp5_W_add σr21 (σr21.1 2 3) (σr21.1 3 3) (fun σr38 => K (pU σr38 2 5 6))))) ∧ (16 ≤ (σ.1 3 3) → wp5_R_refuse σ 2 (fun σr14 => K σr14))
def wp5_R_takeOperand (σ : Sg) (K : Sg → Prop) : Prop :=
  ((σ.1 3 2) ≠ 40 → ((σ.1 3 2) ≠ 2 → ((σ.1 3 2) ≠ 3 → wp5_R_refuse σ 1 (fun σr83 => K σr83)) ∧ ((σ.1 3 2) = 3 → wp5_R_takeLetter σ (fun σr75 => K σr75))) ∧ ((σ.1 3 2) = 2 → wp5_R_takeNumber σ (fun σr57 => K σr57))) ∧ ((σ.1 3 2) = 40 → wp5_R_open σ 0 (fun r14 σr14 => (r14 = 0 → K σr14) ∧ (r14 ≠ 0 → (0 ≤ (σr14.1 2 3) ∧ (σr14.1 2 3) < 35) ∧ K (pU (pU σr14 2 10 (σr14.2.2.1 0 (σr14.1 2 3))) 2 11 (σr14.2.2.1 0 (σr14.1 2 3))))))
def wp5_W_change (σ : Sg) (n0 : Int) (x0 : Int) (x1 : Int) (K : Sg → Prop) : Prop :=
  (x0 < 0 → K σ) ∧ (0 ≤ x0 → ((σ.2.2.1 0 n0) ≤ x0 → K σ) ∧ (x0 < (σ.2.2.1 0 n0) → (0 ≤ x0 ∧ x0 < (capI n0)) ∧ K (pZ σ 0 n0 (uZ (σ.2.2.2 0 n0) x0 x1))))
def wp5_W_cell (σ : Sg) (n0 : Int) (x0 : Int) (K : Int → Prop) : Prop :=
  (x0 < 0 → K (-1)) ∧ (0 ≤ x0 → ((σ.2.2.1 0 n0) ≤ x0 → K (-1)) ∧ (x0 < (σ.2.2.1 0 n0) → (0 ≤ x0 ∧ x0 < (capI n0)) ∧ K (σ.2.2.2 0 n0 x0)))
def wp5_U_letterOf (x0 : Int) (K : Int → Prop) : Prop :=
  (x0 < 20 → K (-1)) ∧ (20 ≤ x0 → (23 ≤ x0 → K (-1)) ∧ (x0 < 23 → rng (x0 - 20) ∧ K (x0 - 20)))
def wp5_U_noteLetters_7 (K : Sg → Prop) (n0 : Int) (L7 : Int → Sg → Prop) (l1_7 : Int) (σ7 : Sg) : Prop :=
  ((σ7.2.2.1 0 (11 + 2 * n0)) ≤ l1_7 → K σ7) ∧ (l1_7 < (σ7.2.2.1 0 (11 + 2 * n0)) → wp5_W_cell σ7 (11 + 2 * n0) l1_7 (fun r23 => wp5_U_letterOf r23 (fun r26 => (r26 ≠ (-1) → rng (l1_7 + 1) ∧ L7 (l1_7 + 1) (pY σ7 1 n0 (zior (σ7.2.2.1 1 n0) (zishl 1 r26)))) ∧ (r26 = (-1) → rng (l1_7 + 1) ∧ L7 (l1_7 + 1) (pY σ7 1 n0 (zior (σ7.2.2.1 1 n0) 0))))))
def wp5_U_noteLetters (σ : Sg) (n0 : Int) (K : Sg → Prop) : Prop :=
  wl2 (wp5_U_noteLetters_7 K n0) 0 (pY σ 1 n0 0)
def wp5_R_endExpression_197 (K : Sg → Prop) (σ : Sg) : Prop :=
  wp5_R_refuse σ 1 (fun σr199 => K σr199)
def wp5_R_endExpression_184 (K : Sg → Prop) (σ : Sg) (x0 : Int) : Prop :=
  ((σ.1 2 6) ≠ 4 → wp5_R_endExpression_197 K σ) ∧ ((σ.1 2 6) = 4 → (x0 = 1 → K σ) ∧ (x0 ≠ 1 → wp5_R_endExpression_197 K σ))
def wp5_R_endExpression_137 (K : Sg → Prop) (σ : Sg) (x0 : Int) : Prop :=
  ((σ.1 2 6) ≠ 3 → wp5_R_endExpression_184 K σ x0) ∧ ((σ.1 2 6) = 3 → (x0 ≠ 9 → wp5_R_endExpression_184 K σ x0) ∧ (x0 = 9 → ((σ.1 2 4) < 0 → wp5_R_endExpression_184 K σ x0) ∧ (0 ≤ (σ.1 2 4) → (0 ≤ (σ.1 2 4) ∧ (σ.1 2 4) < 12) ∧ wp5_U_noteLetters σ (σ.1 2 4) (fun σr162 => (0 ≤ (σr162.1 2 4) ∧ (σr162.1 2 4) < 12) ∧ wp5_R_beginExpression (pU σr162 2 3 (12 + 2 * (σr162.1 2 4))) 4 (fun σr178 => K σr178)))))
def wp5_R_endExpression_103 (K : Sg → Prop) (σ : Sg) (x0 : Int) : Prop :=
  ((σ.1 2 6) ≠ 2 → wp5_R_endExpression_137 K σ x0) ∧ ((σ.1 2 6) = 2 → (x0 ≠ 123 → wp5_R_endExpression_137 K σ x0) ∧ (x0 = 123 → (0 ≤ (σ.1 2 3) ∧ (σ.1 2 3) < 35) ∧ rng ((σ.1 2 12) - 1) ∧ wp5_W_cell σ (σ.1 2 3) ((σ.1 2 12) - 1) (fun r128 => wp5_R_openBlock σ r128 (fun σr131 => K σr131))))
def wp5_R_endExpression_92 (K : Sg → Prop) (σ : Sg) (s0_92 : Int) : Prop :=
  wp5_W_change σ (σ.1 2 3) (σ.1 2 12) s0_92 (fun σr92 => wp5_R_beginExpression σr92 2 (fun σr97 => K σr97))
def wp5_R_endExpression_45 (K : Sg → Prop) (σ : Sg) (x0 : Int) (s0_23 : Int) : Prop :=
  ((σ.1 2 6) ≠ 1 → wp5_R_endExpression_103 K σ x0) ∧ ((σ.1 2 6) = 1 → (s0_23 = 0 → wp5_R_endExpression_103 K σ x0) ∧ (s0_23 ≠ 0 → (0 ≤ (σ.1 2 3) ∧ (σ.1 2 3) < 35) ∧ (x0 ≠ 60 → (x0 ≠ 61 → wp5_R_endExpression_92 K σ 132) ∧ (x0 = 61 → wp5_R_endExpression_92 K σ 131)) ∧ (x0 = 60 → wp5_R_endExpression_92 K σ 130)))
def wp5_R_endExpression_23 (K : Sg → Prop) (σ : Sg) (x0 : Int) (s0_23 : Int) : Prop :=
  ((σ.1 2 6) ≠ 0 → wp5_R_endExpression_45 K σ x0 s0_23) ∧ ((σ.1 2 6) = 0 → (x0 ≠ 59 → wp5_R_endExpression_45 K σ x0 s0_23) ∧ (x0 = 59 → K (pU σ 2 5 0)))
def wp5_R_endExpression_18 (K : Sg → Prop) (σ : Sg) (x0 : Int) : Prop :=
  wp5_R_endExpression_23 K σ x0 1
def wp5_R_endExpression (σ : Sg) (x0 : Int) (K : Sg → Prop) : Prop :=
  (x0 = 60 → wp5_R_endExpression_18 K σ x0) ∧ (x0 ≠ 60 → (x0 = 61 → wp5_R_endExpression_18 K σ x0) ∧ (x0 ≠ 61 → (x0 ≠ 62 → wp5_R_endExpression_23 K σ x0 0) ∧ (x0 = 62 → wp5_R_endExpression_18 K σ x0)))
def wp5_W_insert (σ : Sg) (n0 : Int) (x0 : Int) (x1 : Int) (K : Sg → Prop) : Prop :=
  (x0 < 0 → K σ) ∧ (0 ≤ x0 → ((σ.2.2.1 0 n0) < x0 → K σ) ∧ (x0 ≤ (σ.2.2.1 0 n0) → ((capI n0) ≤ (σ.2.2.1 0 n0) → K σ) ∧ ((σ.2.2.1 0 n0) < (capI n0) → (0 ≤ x0 ∧ 0 ≤ (x0 + 1) ∧ 0 ≤ ((σ.2.2.1 0 n0) - x0) ∧ x0 + ((σ.2.2.1 0 n0) - x0) ≤ capI n0 ∧ (x0 + 1) + ((σ.2.2.1 0 n0) - x0) ≤ capI n0) ∧ (0 ≤ x0 ∧ x0 < (capI n0)) ∧ rng ((σ.2.2.1 0 n0) + 1) ∧ K (pY (pZ (pZ σ 0 n0 (cpI (σ.2.2.2 0 n0) (σ.2.2.2 0 n0) x0 (x0 + 1) ((σ.2.2.1 0 n0) - x0))) 0 n0 (uZ ((uF (σ.2.2.2 0) n0 (cpI (σ.2.2.2 0 n0) (σ.2.2.2 0 n0) x0 (x0 + 1) ((σ.2.2.1 0 n0) - x0))) n0) x0 x1)) 0 n0 ((σ.2.2.1 0 n0) + 1)))))
def wp5_R_takeOperation_51 (K : Sg → Prop) (σr1 : Sg) (s0_51 : Int) : Prop :=
  wp5_W_insert σr1 (σr1.1 2 3) (σr1.1 2 10) s0_51 (fun σr51 => (0 ≤ (σr51.1 2 3) ∧ (σr51.1 2 3) < 35) ∧ K (pU (pU σr51 2 11 (σr51.2.2.1 0 (σr51.1 2 3))) 2 5 5))
def wp5_R_takeOperation (σ : Sg) (x0 : Int) (K : Sg → Prop) : Prop :=
  wp5_R_countThing σ (fun r1 σr1 => (r1 ≠ 0 → (x0 ≠ 42 → (0 ≤ (σr1.1 2 3) ∧ (σr1.1 2 3) < 35) ∧ (x0 ≠ 43 → wp5_R_takeOperation_51 K σr1 121) ∧ (x0 = 43 → wp5_R_takeOperation_51 K σr1 120)) ∧ (x0 = 42 → (0 ≤ (σr1.1 2 3) ∧ (σr1.1 2 3) < 35) ∧ wp5_W_insert σr1 (σr1.1 2 3) (σr1.1 2 11) 122 (fun σr24 => K (pU σr24 2 5 5)))) ∧ (r1 = 0 → K σr1))
def wp5_R_takeBehindOperand_62 (K : Sg → Prop) (σ : Sg) : Prop :=
  wp5_R_takeOperation σ (σ.1 3 2) (fun σr64 => K σr64)
def wp5_R_takeBehindOperand_43 (K : Sg → Prop) (σ : Sg) (s0_43 : Int) : Prop :=
  ((σ.1 3 2) = 43 → wp5_R_takeBehindOperand_62 K σ) ∧ ((σ.1 3 2) ≠ 43 → ((σ.1 3 2) = 45 → wp5_R_takeBehindOperand_62 K σ) ∧ ((σ.1 3 2) ≠ 45 → ((σ.1 3 2) ≠ 42 → (s0_43 ≠ 0 → ((σ.1 3 2) ≠ 41 → wp5_R_refuse σ 1 (fun σr129 => K σr129)) ∧ ((σ.1 3 2) = 41 → rng ((σ.1 2 13) - 1) ∧ (0 ≤ ((σ.1 2 13) - 1) ∧ ((σ.1 2 13) - 1) < 8) ∧ K (pU (pU (pU σ 2 13 ((σ.1 2 13) - 1)) 2 10 (σ.2.1 6 ((σ.1 2 13) - 1))) 2 11 (σ.2.1 7 ((σ.1 2 13) - 1))))) ∧ (s0_43 = 0 → wp5_R_endExpression σ (σ.1 3 2) (fun σr76 => K σr76))) ∧ ((σ.1 3 2) = 42 → wp5_R_takeBehindOperand_62 K σ)))
def wp5_R_takeBehindOperand_42 (K : Sg → Prop) (σ : Sg) : Prop :=
  wp5_R_takeBehindOperand_43 K σ 0
def wp5_R_takeBehindOperand (σ : Sg) (K : Sg → Prop) : Prop :=
  ((σ.1 2 13) ≤ 0 → wp5_R_takeBehindOperand_42 K σ) ∧ (0 < (σ.1 2 13) → (8 < (σ.1 2 13) → wp5_R_takeBehindOperand_42 K σ) ∧ ((σ.1 2 13) ≤ 8 → (0 ≤ ((σ.1 2 13) - 1) ∧ ((σ.1 2 13) - 1) < 8) ∧ ((σ.2.1 5 ((σ.1 2 13) - 1)) ≠ 0 → wp5_R_takeBehindOperand_42 K σ) ∧ ((σ.2.1 5 ((σ.1 2 13) - 1)) = 0 → wp5_R_takeBehindOperand_43 K σ 1)))
def wp5_R_readAll_140 (K : Int → Sg → Prop) (σ2 : Sg) : Prop :=
  wp5_T_shorten σ2 0 (fun r145 σr145 => ((σr145.1 2 1) ≠ 0 → K 0 σr145) ∧ ((σr145.1 2 1) = 0 → K 1 σr145))
def wp5_R_readAll_43 (l1_2 : Int) (σ2 : Sg) (L2 : Int → Sg → Prop) (s0_43 : Int) : Prop :=
  wp5_T_advance σ2 s0_43 (fun σr43 => ((σr43.1 2 5) = 1 → wp5_R_takeBehindThen σr43 (fun σr89 => rng (l1_2 + 1) ∧ L2 (l1_2 + 1) σr89)) ∧ ((σr43.1 2 5) = 2 → wp5_R_takeElseBrace σr43 (fun σr96 => rng (l1_2 + 1) ∧ L2 (l1_2 + 1) σr96)) ∧ ((σr43.1 2 5) = 3 → wp5_R_takeSetSign σr43 (fun σr103 => rng (l1_2 + 1) ∧ L2 (l1_2 + 1) σr103)) ∧ ((σr43.1 2 5) = 4 → wp5_R_takeSemicolon σr43 (fun σr110 => rng (l1_2 + 1) ∧ L2 (l1_2 + 1) σr110)) ∧ ((σr43.1 2 5) = 5 → wp5_R_takeOperand σr43 (fun σr117 => rng (l1_2 + 1) ∧ L2 (l1_2 + 1) σr117)) ∧ ((σr43.1 2 5) = 6 → wp5_R_takeBehindOperand σr43 (fun σr124 => rng (l1_2 + 1) ∧ L2 (l1_2 + 1) σr124)) ∧ ((σr43.1 2 5) < 1 ∨ 6 < (σr43.1 2 5) → wp5_R_takeStatement σr43 (fun σr131 => rng (l1_2 + 1) ∧ L2 (l1_2 + 1) σr131)))
def wp5_R_readAll_2 (K : Int → Sg → Prop) (L2 : Int → Sg → Prop) (l1_2 : Int) (σ2 : Sg) : Prop :=
  (800 < l1_2 → wp5_R_readAll_140 K σ2) ∧ (l1_2 ≤ 800 → ((σ2.1 2 1) ≠ 0 → wp5_R_readAll_140 K σ2) ∧ ((σ2.1 2 1) = 0 → ((σ2.1 3 2) = 1 → wp5_R_readAll_140 K σ2) ∧ ((σ2.1 3 2) ≠ 1 → ((σ2.1 2 4) < 0 → wp5_R_readAll_43 l1_2 σ2 L2 0) ∧ (0 ≤ (σ2.1 2 4) → (0 ≤ (σ2.1 2 4) ∧ (σ2.1 2 4) < 12) ∧ wp5_R_readAll_43 l1_2 σ2 L2 1))))
def wp5_R_readAll (σ : Sg) (K : Int → Sg → Prop) : Prop :=
  wl2 (wp5_R_readAll_2 K) 0 σ
def wp5_W_addPart (σ : Sg) (n0 : Int) (x0 : Int) (x1 : Int) (x2 : Int) (K : Sg → Prop) : Prop :=
  (x1 < 0 → K σ) ∧ (0 ≤ x1 → rng (x2 - x1) ∧ ((x2 - x1) ≤ 0 → K σ) ∧ (0 < (x2 - x1) → ((σ.2.2.1 0 x0) < x2 → K σ) ∧ (x2 ≤ (σ.2.2.1 0 x0) → rng ((capI n0) - (σ.2.2.1 0 n0)) ∧ (((capI n0) - (σ.2.2.1 0 n0)) < (x2 - x1) → K σ) ∧ ((x2 - x1) ≤ ((capI n0) - (σ.2.2.1 0 n0)) → (0 ≤ x1 ∧ 0 ≤ (σ.2.2.1 0 n0) ∧ 0 ≤ (x2 - x1) ∧ x1 + (x2 - x1) ≤ capI x0 ∧ (σ.2.2.1 0 n0) + (x2 - x1) ≤ capI n0) ∧ rng ((σ.2.2.1 0 n0) + (x2 - x1)) ∧ K (pY (pZ σ 0 n0 (cpI (σ.2.2.2 0 x0) (σ.2.2.2 0 n0) x1 (σ.2.2.1 0 n0) (x2 - x1))) 0 n0 ((σ.2.2.1 0 n0) + (x2 - x1)))))))
def wp5_W_copy (σ : Sg) (n0 : Int) (x0 : Int) (K : Sg → Prop) : Prop :=
  (x0 = n0 → K σ) ∧ (x0 ≠ n0 → wp5_W_addPart (pY σ 0 n0 0) n0 x0 0 ((uZ (σ.2.2.1 0) n0 0) x0) (fun σr17 => K σr17))
def wp5_W_isStatement_12 (K : Int → Prop) (x0 : Int) : Prop :=
  (x0 = 110 → K 1) ∧ (x0 ≠ 110 → (x0 = 111 → K 1) ∧ (x0 ≠ 111 → (x0 = 112 → K 1) ∧ (x0 ≠ 112 → (x0 ≠ 115 → K 0) ∧ (x0 = 115 → K 1))))
def wp5_W_isStatement (x0 : Int) (K : Int → Prop) : Prop :=
  (x0 < 100 → wp5_W_isStatement_12 K x0) ∧ (100 ≤ x0 → (x0 < 106 → K 1) ∧ (106 ≤ x0 → wp5_W_isStatement_12 K x0))
def wp5_W_statements_4 (K : Int → Prop) (σ : Sg) (n0 : Int) (L4 : Int → Int → Prop) (l1_4 : Int) (l2_4 : Int) : Prop :=
  ((σ.2.2.1 0 n0) ≤ l2_4 → K l1_4) ∧ (l2_4 < (σ.2.2.1 0 n0) → (0 ≤ l2_4 ∧ l2_4 < (capI n0)) ∧ wp5_W_isStatement (σ.2.2.2 0 n0 l2_4) (fun r18 => (r18 = 0 → rng (l2_4 + 1) ∧ L4 l1_4 (l2_4 + 1)) ∧ (r18 ≠ 0 → rng (l1_4 + 1) ∧ rng (l2_4 + 1) ∧ L4 (l1_4 + 1) (l2_4 + 1))))
def wp5_W_statements (σ : Sg) (n0 : Int) (K : Int → Prop) : Prop :=
  wl2 (wp5_W_statements_4 K σ n0) 0 0
def wp5_S_program (σ : Sg) (x0 : Int) (K : Int → Sg → Prop) : Prop :=
  wp5_S_slotAt σ x0 (fun r2 => (r2 < 0 → wp5_R_drop σ (fun σr14 => K (-1) σr14)) ∧ (0 ≤ r2 → (0 ≤ r2 ∧ r2 < 35) ∧ wp5_R_beginProgram σ 8 (fun σr27 => wp5_R_readAll σr27 (fun r34 σr34 => (r34 ≠ 0 → wp5_W_copy σr34 r2 8 (fun σr47 => wp5_W_statements σr47 r2 (fun r51 => K r51 σr47))) ∧ (r34 = 0 → K (-1) σr34)))))
def wp5_P_ruleAt (σ : Sg) (x0 : Int) (K : Int → Prop) : Prop :=
  (x0 < 0 → K (-1)) ∧ (0 ≤ x0 → (12 ≤ x0 → K (-1)) ∧ (x0 < 12 → (0 ≤ x0 ∧ x0 < 12) ∧ K x0))
def wp5_U_forget (σ : Sg) (n0 : Int) (K : Sg → Prop) : Prop :=
  K (pY (pY (pY σ 0 (11 + 2 * n0) 0) 0 (12 + 2 * n0) 0) 1 n0 0)
def wp5_R_begin (σ : Sg) (x0 : Int) (x1 : Int) (x2 : Int) (K : Sg → Prop) : Prop :=
  wp5_T_rewind (pU (pU (pU (pU (pU (pY (pU (pU (pU σ 2 1 0) 2 2 (-1)) 2 3 x0) 0 x0 0) 2 4 x1) 2 7 0) 2 8 0) 2 9 x2) 2 13 0) (fun σr52 => K σr52)
def wp5_R_beginRule (σ : Sg) (x0 : Int) (K : Sg → Prop) : Prop :=
  wp5_U_forget σ x0 (fun σr1 => wp5_R_begin σr1 (11 + 2 * x0) x0 40 (fun σr12 => wp5_R_beginExpression σr12 3 (fun σr17 => K σr17)))
def wp5_S_rule (σ : Sg) (K : Int → Sg → Prop) : Prop :=
  wp5_P_ruleAt σ (σ.1 0 1) (fun r8 => (r8 < 0 → wp5_R_drop σ (fun σr20 => K (-1) σr20)) ∧ (0 ≤ r8 → (0 ≤ r8 ∧ r8 < 12) ∧ wp5_R_beginRule σ r8 (fun σr30 => wp5_R_readAll σr30 (fun r37 σr37 => (r37 ≠ 0 → rng ((σr37.1 0 1) + 1) ∧ rng (((σr37.1 0 1) + 1) - 1) ∧ K (((σr37.1 0 1) + 1) - 1) (pU σr37 0 1 ((σr37.1 0 1) + 1))) ∧ (r37 = 0 → K (-1) σr37)))))
def wp5_P_isPass (x0 : Int) (K : Int → Prop) : Prop :=
  (x0 < 0 → K 0) ∧ (0 ≤ x0 → (6 ≤ x0 → K 0) ∧ (x0 < 6 → K 1))
def wp5_P_addItem (σ : Sg) (x0 : Int) (x1 : Int) (K : Int → Sg → Prop) : Prop :=
  wp5_P_isPass x0 (fun r1 => (r1 = 0 → K (-1) σ) ∧ (r1 ≠ 0 → (0 ≤ x0 ∧ x0 < 6) ∧ ((σ.2.1 69 x0) < 8 → (0 ≤ (σ.2.1 69 x0) ∧ (σ.2.1 69 x0) < 8) ∧ rng ((σ.2.1 69 x0) + 1) ∧ K ((uZ (σ.2.1 69) x0 ((σ.2.1 69 x0) + 1)) x0) (pF (pZ σ 1 x0 (uZ (σ.2.2.2 1 x0) (σ.2.1 69 x0) x1)) 69 (uZ (σ.2.1 69) x0 ((σ.2.1 69 x0) + 1)))) ∧ (8 ≤ (σ.2.1 69 x0) → K (-1) σ)))
def wp5_S_item_48 (K : Int → Sg → Prop) (σ : Sg) (x0 : Int) (x1 : Int) : Prop :=
  wp5_P_addItem σ x0 x1 (fun r54 σr54 => K r54 σr54)
def wp5_S_item_35 (K : Int → Sg → Prop) (σ : Sg) (x0 : Int) (x1 : Int) (s0_17 : Int) (s0_35 : Int) : Prop :=
  (s0_17 ≠ 0 → wp5_S_item_48 K σ x0 x1) ∧ (s0_17 = 0 → (s0_35 ≠ 0 → wp5_S_item_48 K σ x0 x1) ∧ (s0_35 = 0 → K (-1) σ))
def wp5_S_item_34 (K : Int → Sg → Prop) (σ : Sg) (x0 : Int) (x1 : Int) (s0_17 : Int) : Prop :=
  wp5_S_item_35 K σ x0 x1 s0_17 0
def wp5_S_item_17 (K : Int → Sg → Prop) (σ : Sg) (x0 : Int) (x1 : Int) (s0_17 : Int) : Prop :=
  (x1 < 20 → wp5_S_item_34 K σ x0 x1 s0_17) ∧ (20 ≤ x1 → (24 < x1 → wp5_S_item_34 K σ x0 x1 s0_17) ∧ (x1 ≤ 24 → wp5_S_item_35 K σ x0 x1 s0_17 1))
def wp5_S_item_16 (K : Int → Sg → Prop) (σ : Sg) (x0 : Int) (x1 : Int) : Prop :=
  wp5_S_item_17 K σ x0 x1 0
def wp5_S_item (σ : Sg) (x0 : Int) (x1 : Int) (K : Int → Sg → Prop) : Prop :=
  (x1 < 0 → wp5_S_item_16 K σ x0 x1) ∧ (0 ≤ x1 → ((σ.1 0 1) ≤ x1 → wp5_S_item_16 K σ x0 x1) ∧ (x1 < (σ.1 0 1) → wp5_S_item_17 K σ x0 x1 1))
def wp5_P_dropItems (σ : Sg) (x0 : Int) (K : Int → Sg → Prop) : Prop :=
  wp5_P_isPass x0 (fun r1 => (r1 ≠ 0 → (0 ≤ x0 ∧ x0 < 6) ∧ K 1 (pF σ 69 (uZ (σ.2.1 69) x0 0))) ∧ (r1 = 0 → K 0 σ))
def wp5_S_clear (σ : Sg) (x0 : Int) (K : Int → Sg → Prop) : Prop :=
  wp5_P_dropItems σ x0 (fun r5 σr5 => (r5 = 0 ∨ r5 = 1) ∧ K r5 σr5)
