def w_X8_tourWithout_107 : zWs := ([(107, 38), (107, 52)], [128, 129, 139, 140, 141])
theorem R0_X8_tourWithout_107_p12 {K2 : Int32 → Int32 → zMM → Option (Int32 × zMM)}
    (hK2 : ∀ (a0 : Int32) (a1 : Int32) (M M' : zMM) (v : Int32), K2 a0 a1 M = some (v, M') → z_fr w_X8_tourWithout_107 M M') : ∀ (n : Nat) (x1 : Int32) (x2 : Int32) (x3 : Int32) (M M' : zMM) (v : Int32), f_X8_tourWithout_107_p12 K2 n x1 x2 x3 M = some (v, M') → z_fr w_X8_tourWithout_107 M M' := by
  intro n
  induction n with
  | zero => intro x1 x2 x3 M M' v h; cases h
  | succ n ih =>
    intro x1 x2 x3 M M' v h
    replace h : (  if ((1 : Int32) <<< ((M 109 1) &&& 31)) ≤ x3 then
    K2 x1 (x2 + (1 : Int32)) M
  else
    if z_ib x2 4 = true then
      if z_ib x2 4 = true then
        z_bi (f_X8_thingsOf_107 x3 M) fun v9 M10 =>
        z_bi (f_X8_priceOf_107 (M 138 x2.toNatClampNeg) (M 137 x2.toNatClampNeg) v9 M10) fun v12 M13 =>
        if z_ib (((32 : Int32) * x2) + x3) 128 = true then
          f_X8_tourWithout_107_p12 K2 n x1 x2 (x3 + (1 : Int32)) (z_up M13 139 (((32 : Int32) * x2) + x3).toNatClampNeg v12)
        else none
      else none
    else none) = some (v, M') := h
    by_cases g1 : ((1 : Int32) <<< ((M 109 1) &&& 31)) ≤ x3
    · replace h := (if_pos g1).symm.trans h
      exact z_fr.refl.trans (hK2 _ _ _ _ _ h)
    · replace h := (if_neg g1).symm.trans h
      obtain ⟨g2, h⟩ := z_ifn h
      obtain ⟨g3, h⟩ := z_ifn h
      obtain ⟨v9, M10, c4, h⟩ := z_bi_c h
      have q4 : z_fr w_X8_tourWithout_107 M M10 := z_fr.refl.sub (R_X8_thingsOf_107 c4) (by decide)
      obtain ⟨v12, M13, c5, h⟩ := z_bi_c h
      have q5 : z_fr w_X8_tourWithout_107 M M13 := q4.sub (R_X8_priceOf_107 c5) (by decide)
      obtain ⟨g6, h⟩ := z_ifn h
      exact (q5.up rfl).trans (ih _ _ _ _ _ _ h)
theorem R_X8_tourWithout_107_p12 {K2 : Int32 → Int32 → zMM → Option (Int32 × zMM)}
    (hK2 : ∀ (a0 : Int32) (a1 : Int32) (M M' : zMM) (v : Int32), K2 a0 a1 M = some (v, M') → z_fr w_X8_tourWithout_107 M M') {n : Nat} {x1 : Int32} {x2 : Int32} {x3 : Int32} {M M' : zMM} {v : Int32} (h : f_X8_tourWithout_107_p12 K2 n x1 x2 x3 M = some (v, M')) : z_fr w_X8_tourWithout_107 M M' := R0_X8_tourWithout_107_p12 hK2 _ _ _ _ _ _ _ h
theorem R0_X8_tourWithout_107_p2 : ∀ (n : Nat) (x1 : Int32) (x2 : Int32) (M M' : zMM) (v : Int32), f_X8_tourWithout_107_p2  n x1 x2 M = some (v, M') → z_fr w_X8_tourWithout_107 M M' := by
  intro n
  induction n with
  | zero => intro x1 x2 M M' v h; cases h
  | succ n ih =>
    intro x1 x2 M M' v h
    replace h : (  if (M 107 32) ≤ x2 then
    z_bv (f_X8_tourOn_107 8 (0 : Int32) x1 (z_up M 107 52 (-1 : Int32))) fun M4 =>
    some ((M4 107 52), M4)
  else
    f_X8_tourWithout_107_p12 (f_X8_tourWithout_107_p2 n) z_fuel x1 x2 (0 : Int32) M) = some (v, M') := h
    by_cases g1 : (M 107 32) ≤ x2
    · replace h := (if_pos g1).symm.trans h
      obtain ⟨M4, c2, h⟩ := z_bv_c h
      have q2 : z_fr w_X8_tourWithout_107 M M4 := (z_fr.refl.up rfl).sub (R_X8_tourOn_107 c2) (by decide)
      cases h
      exact q2
    · replace h := (if_neg g1).symm.trans h
      exact z_fr.refl.trans (R_X8_tourWithout_107_p12 ih h)
theorem R_X8_tourWithout_107_p2 {n : Nat} {x1 : Int32} {x2 : Int32} {M M' : zMM} {v : Int32} (h : f_X8_tourWithout_107_p2  n x1 x2 M = some (v, M')) : z_fr w_X8_tourWithout_107 M M' := R0_X8_tourWithout_107_p2 _ _ _ _ _ _ h
theorem R_X8_tourWithout_107 {x1 : Int32} {M M' : zMM} {v : Int32} (h : f_X8_tourWithout_107 x1 M = some (v, M')) : z_fr w_X8_tourWithout_107 M M' := by
  replace h : (  f_X8_tourWithout_107_p2 z_fuel x1 (0 : Int32) M) = some (v, M') := h
  exact z_fr.refl.trans (R_X8_tourWithout_107_p2 h)
def w_X8_spared_107 : zWs := ([(107, 1), (107, 38), (107, 52)], [128, 129, 139, 140, 141])
theorem R0_X8_spared_107_p27 : ∀ (n : Nat) (x1 : Int32) (x2 : Int32) (x3 : Int32) (x4 : Int32) (M M' : zMM) (v : Int32), f_X8_spared_107_p27  n x1 x2 x3 x4 M = some (v, M') → z_fr w_X8_spared_107 M M' := by
  intro n
  induction n with
  | zero => intro x1 x2 x3 x4 M M' v h; cases h
  | succ n ih =>
    intro x1 x2 x3 x4 M M' v h
    replace h : (  if (M 109 1) ≤ x4 then
    if x1 = 0 then
      some (x2, M)
    else
      some (x3, M)
  else
    z_bi (f_X8_tourWithout_107 x4 M) fun v9 M10 =>
    if v9 = (-1 : Int32) then
      f_X8_spared_107_p27 n x1 x2 x3 (x4 + (1 : Int32)) M10
    else
      if x2 = (-1 : Int32) then
        f_X8_spared_107_p27 n x1 x4 v9 (x4 + (1 : Int32)) M10
      else
        if v9 < x3 then
          f_X8_spared_107_p27 n x1 x4 v9 (x4 + (1 : Int32)) M10
        else
          f_X8_spared_107_p27 n x1 x2 x3 (x4 + (1 : Int32)) M10) = some (v, M') := h
    by_cases g1 : (M 109 1) ≤ x4
    · replace h := (if_pos g1).symm.trans h
      by_cases g2 : x1 = 0
      · replace h := (if_pos g2).symm.trans h
        cases h
        exact z_fr.refl
      · replace h := (if_neg g2).symm.trans h
        cases h
        exact z_fr.refl
    · replace h := (if_neg g1).symm.trans h
      obtain ⟨v9, M10, c3, h⟩ := z_bi_c h
      have q3 : z_fr w_X8_spared_107 M M10 := z_fr.refl.sub (R_X8_tourWithout_107 c3) (by decide)
      by_cases g4 : v9 = (-1 : Int32)
      · replace h := (if_pos g4).symm.trans h
        exact q3.trans (ih _ _ _ _ _ _ _ h)
      · replace h := (if_neg g4).symm.trans h
        by_cases g5 : x2 = (-1 : Int32)
        · replace h := (if_pos g5).symm.trans h
          exact q3.trans (ih _ _ _ _ _ _ _ h)
        · replace h := (if_neg g5).symm.trans h
          by_cases g6 : v9 < x3
          · replace h := (if_pos g6).symm.trans h
            exact q3.trans (ih _ _ _ _ _ _ _ h)
          · replace h := (if_neg g6).symm.trans h
            exact q3.trans (ih _ _ _ _ _ _ _ h)
theorem R_X8_spared_107_p27 {n : Nat} {x1 : Int32} {x2 : Int32} {x3 : Int32} {x4 : Int32} {M M' : zMM} {v : Int32} (h : f_X8_spared_107_p27  n x1 x2 x3 x4 M = some (v, M')) : z_fr w_X8_spared_107 M M' := R0_X8_spared_107_p27 _ _ _ _ _ _ _ _ h
theorem R_X8_spared_107 {x1 : Int32} {M M' : zMM} {v : Int32} (h : f_X8_spared_107 x1 M = some (v, M')) : z_fr w_X8_spared_107 M M' := by
  replace h : (  if x1 < 0 then
    z_bi (f_X8_fail_107 (1 : Int32) (z_up M 107 1 (0 : Int32))) fun v3 M4 =>
    some (v3, M4)
  else
    if x1 ≤ (1 : Int32) then
      f_X8_spared_107_p27 z_fuel x1 (-1 : Int32) (-1 : Int32) (0 : Int32) (z_up M 107 1 (0 : Int32))
    else
      z_bi (f_X8_fail_107 (1 : Int32) (z_up M 107 1 (0 : Int32))) fun v15 M16 =>
      some (v15, M16)) = some (v, M') := h
  by_cases g1 : x1 < 0
  · replace h := (if_pos g1).symm.trans h
    obtain ⟨v3, M4, c2, h⟩ := z_bi_c h
    have q2 : z_fr w_X8_spared_107 M M4 := (z_fr.refl.up rfl).sub (R_X8_fail_107 c2) (by decide)
    cases h
    exact q2
  · replace h := (if_neg g1).symm.trans h
    by_cases g3 : x1 ≤ (1 : Int32)
    · replace h := (if_pos g3).symm.trans h
      exact (z_fr.refl.up rfl).trans (R_X8_spared_107_p27 h)
    · replace h := (if_neg g3).symm.trans h
      obtain ⟨v15, M16, c4, h⟩ := z_bi_c h
      have q4 : z_fr w_X8_spared_107 M M16 := (z_fr.refl.up rfl).sub (R_X8_fail_107 c4) (by decide)
      cases h
      exact q4
def w_X8_thrown_107 : zWs := ([], [])
theorem R_X8_thrown_107 {M M' : zMM} {v : Int32} (h : f_X8_thrown_107 M = some (v, M')) : z_fr w_X8_thrown_107 M M' := by
  replace h : (  some ((M 107 1), M)) = some (v, M') := h
  cases h
  exact z_fr.refl
def w_X8_byteAt_107 : zWs := ([], [])
theorem R_X8_byteAt_107 {x1 : Int32} {M M' : zMM} {v : Int32} (h : f_X8_byteAt_107 x1 M = some (v, M')) : z_fr w_X8_byteAt_107 M M' := by
  replace h : (  if (M 107 19) ≤ x1 then
    some ((-1 : Int32), M)
  else
    if z_ib x1 700 = true then
      some ((M 123 x1.toNatClampNeg), M)
    else none) = some (v, M') := h
  by_cases g1 : (M 107 19) ≤ x1
  · replace h := (if_pos g1).symm.trans h
    cases h
    exact z_fr.refl
  · replace h := (if_neg g1).symm.trans h
    obtain ⟨g2, h⟩ := z_ifn h
    cases h
    exact z_fr.refl
def w_X8_isLetter : zWs := ([], [])
theorem R_X8_isLetter {x0 : Int32} {M M' : zMM} {v : Int32} (h : f_X8_isLetter x0 M = some (v, M')) : z_fr w_X8_isLetter M M' := by
  replace h : (  if x0 < (97 : Int32) then
    some ((0 : Int32), M)
  else
    if (122 : Int32) < x0 then
      some ((0 : Int32), M)
    else
      some ((1 : Int32), M)) = some (v, M') := h
  by_cases g1 : x0 < (97 : Int32)
  · replace h := (if_pos g1).symm.trans h
    cases h
    exact z_fr.refl
  · replace h := (if_neg g1).symm.trans h
    by_cases g2 : (122 : Int32) < x0
    · replace h := (if_pos g2).symm.trans h
      cases h
      exact z_fr.refl
    · replace h := (if_neg g2).symm.trans h
      cases h
      exact z_fr.refl
def w_X8_isDigit : zWs := ([], [])
theorem R_X8_isDigit {x0 : Int32} {M M' : zMM} {v : Int32} (h : f_X8_isDigit x0 M = some (v, M')) : z_fr w_X8_isDigit M M' := by
  replace h : (  if x0 < (48 : Int32) then
    some ((0 : Int32), M)
  else
    if (57 : Int32) < x0 then
      some ((0 : Int32), M)
    else
      some ((1 : Int32), M)) = some (v, M') := h
  by_cases g1 : x0 < (48 : Int32)
  · replace h := (if_pos g1).symm.trans h
    cases h
    exact z_fr.refl
  · replace h := (if_neg g1).symm.trans h
    by_cases g2 : (57 : Int32) < x0
    · replace h := (if_pos g2).symm.trans h
      cases h
      exact z_fr.refl
    · replace h := (if_neg g2).symm.trans h
      cases h
      exact z_fr.refl
def w_X8_stepOn_107 : zWs := ([(107, 18), (107, 20), (107, 21), (107, 22), (107, 23)], [])
theorem R0_X8_stepOn_107_p123 : ∀ (n : Nat)  (M M' : zMM) , f_X8_stepOn_107_p123  n  M = some M' → z_fr w_X8_stepOn_107 M M' := by
  intro n
  induction n with
  | zero => intro  M M' h; cases h
  | succ n ih =>
    intro  M M' h
    replace h : (  z_bi (f_X8_byteAt_107 (M 107 18) M) fun v23 M24 =>
  z_bi (f_X8_isDigit v23 M24) fun v26 M27 =>
  if v26 = 0 then
    some (z_up (z_up M27 107 20 (2 : Int32)) 107 23 (M27 107 18))
  else
    z_bi (f_X8_byteAt_107 (M27 107 18) M27) fun v30 M31 =>
    f_X8_stepOn_107_p123 n  (z_up (z_up M31 107 21 (z_min (100000 : Int32) ((((10 : Int32) * (M27 107 21)) + v30) - (48 : Int32)))) 107 18 ((M31 107 18) + (1 : Int32)))) = some M' := h
    obtain ⟨v23, M24, c1, h⟩ := z_bi_c h
    have q1 : z_fr w_X8_stepOn_107 M M24 := z_fr.refl.sub (R_X8_byteAt_107 c1) (by decide)
    obtain ⟨v26, M27, c2, h⟩ := z_bi_c h
    have q2 : z_fr w_X8_stepOn_107 M M27 := q1.sub (R_X8_isDigit c2) (by decide)
    by_cases g3 : v26 = 0
    · replace h := (if_pos g3).symm.trans h
      cases h
      exact ((q2.up rfl).up rfl)
    · replace h := (if_neg g3).symm.trans h
      obtain ⟨v30, M31, c4, h⟩ := z_bi_c h
      have q4 : z_fr w_X8_stepOn_107 M M31 := q2.sub (R_X8_byteAt_107 c4) (by decide)
      exact ((q4.up rfl).up rfl).trans (ih _ _ h)
theorem R_X8_stepOn_107_p123 {n : Nat}  {M M' : zMM} (h : f_X8_stepOn_107_p123  n  M = some M') : z_fr w_X8_stepOn_107 M M' := R0_X8_stepOn_107_p123 _ _ _ h
theorem R0_X8_stepOn_107_p76 : ∀ (n : Nat)  (M M' : zMM) , f_X8_stepOn_107_p76  n  M = some M' → z_fr w_X8_stepOn_107 M M' := by
  intro n
  induction n with
  | zero => intro  M M' h; cases h
  | succ n ih =>
    intro  M M' h
    replace h : (  z_bi (f_X8_byteAt_107 (M 107 18) M) fun v33 M34 =>
  z_bi (f_X8_isLetter v33 M34) fun v36 M37 =>
  if v36 = 0 then
    some (z_up (z_up M37 107 20 (1 : Int32)) 107 23 (M37 107 18))
  else
    f_X8_stepOn_107_p76 n  (z_up M37 107 18 ((M37 107 18) + (1 : Int32)))) = some M' := h
    obtain ⟨v33, M34, c1, h⟩ := z_bi_c h
    have q1 : z_fr w_X8_stepOn_107 M M34 := z_fr.refl.sub (R_X8_byteAt_107 c1) (by decide)
    obtain ⟨v36, M37, c2, h⟩ := z_bi_c h
    have q2 : z_fr w_X8_stepOn_107 M M37 := q1.sub (R_X8_isLetter c2) (by decide)
    by_cases g3 : v36 = 0
    · replace h := (if_pos g3).symm.trans h
      cases h
      exact ((q2.up rfl).up rfl)
    · replace h := (if_neg g3).symm.trans h
      exact (q2.up rfl).trans (ih _ _ h)
theorem R_X8_stepOn_107_p76 {n : Nat}  {M M' : zMM} (h : f_X8_stepOn_107_p76  n  M = some M') : z_fr w_X8_stepOn_107 M M' := R0_X8_stepOn_107_p76 _ _ _ h
theorem R0_X8_stepOn_107_p0 : ∀ (n : Nat)  (M M' : zMM) , f_X8_stepOn_107_p0  n  M = some M' → z_fr w_X8_stepOn_107 M M' := by
  intro n
  induction n with
  | zero => intro  M M' h; cases h
  | succ n ih =>
    intro  M M' h
    replace h : (  z_bi (f_X8_byteAt_107 (M 107 18) M) fun v2 M3 =>
  if v2 = (32 : Int32) then
    f_X8_stepOn_107_p0 n  (z_up M3 107 18 ((M3 107 18) + (1 : Int32)))
  else
    z_bi (f_X8_byteAt_107 (M3 107 18) M3) fun v6 M7 =>
    if v6 = (10 : Int32) then
      f_X8_stepOn_107_p0 n  (z_up M7 107 18 ((M7 107 18) + (1 : Int32)))
    else
      z_bi (f_X8_byteAt_107 (M7 107 18) (z_up M7 107 22 (M7 107 18))) fun v10 M11 =>
      if v10 = (-1 : Int32) then
        some (z_up (z_up M11 107 20 (0 : Int32)) 107 23 (M11 107 18))
      else
        z_bi (f_X8_isLetter v10 M11) fun v14 M15 =>
        if v14 = 0 then
          z_bi (f_X8_isDigit v10 M15) fun v18 M19 =>
          if v18 = 0 then
            if v10 = (59 : Int32) then
              some (z_up (z_up (z_up M19 107 18 ((M19 107 18) + (1 : Int32))) 107 20 (3 : Int32)) 107 23 ((M19 107 18) + (1 : Int32)))
            else
              some (z_up (z_up (z_up M19 107 18 ((M19 107 18) + (1 : Int32))) 107 20 (4 : Int32)) 107 23 ((M19 107 18) + (1 : Int32)))
          else
            f_X8_stepOn_107_p123 z_fuel  (z_up M19 107 21 (0 : Int32))
        else
          f_X8_stepOn_107_p76 z_fuel  M15) = some M' := h
    obtain ⟨v2, M3, c1, h⟩ := z_bi_c h
    have q1 : z_fr w_X8_stepOn_107 M M3 := z_fr.refl.sub (R_X8_byteAt_107 c1) (by decide)
    by_cases g2 : v2 = (32 : Int32)
    · replace h := (if_pos g2).symm.trans h
      exact (q1.up rfl).trans (ih _ _ h)
    · replace h := (if_neg g2).symm.trans h
      obtain ⟨v6, M7, c3, h⟩ := z_bi_c h
      have q3 : z_fr w_X8_stepOn_107 M M7 := q1.sub (R_X8_byteAt_107 c3) (by decide)
      by_cases g4 : v6 = (10 : Int32)
      · replace h := (if_pos g4).symm.trans h
        exact (q3.up rfl).trans (ih _ _ h)
      · replace h := (if_neg g4).symm.trans h
        obtain ⟨v10, M11, c5, h⟩ := z_bi_c h
        have q5 : z_fr w_X8_stepOn_107 M M11 := (q3.up rfl).sub (R_X8_byteAt_107 c5) (by decide)
        by_cases g6 : v10 = (-1 : Int32)
        · replace h := (if_pos g6).symm.trans h
          cases h
          exact ((q5.up rfl).up rfl)
        · replace h := (if_neg g6).symm.trans h
          obtain ⟨v14, M15, c7, h⟩ := z_bi_c h
          have q7 : z_fr w_X8_stepOn_107 M M15 := q5.sub (R_X8_isLetter c7) (by decide)
          by_cases g8 : v14 = 0
          · replace h := (if_pos g8).symm.trans h
            obtain ⟨v18, M19, c9, h⟩ := z_bi_c h
            have q9 : z_fr w_X8_stepOn_107 M M19 := q7.sub (R_X8_isDigit c9) (by decide)
            by_cases g10 : v18 = 0
            · replace h := (if_pos g10).symm.trans h
              by_cases g11 : v10 = (59 : Int32)
              · replace h := (if_pos g11).symm.trans h
                cases h
                exact (((q9.up rfl).up rfl).up rfl)
              · replace h := (if_neg g11).symm.trans h
                cases h
                exact (((q9.up rfl).up rfl).up rfl)
            · replace h := (if_neg g10).symm.trans h
              exact (q9.up rfl).trans (R_X8_stepOn_107_p123 h)
          · replace h := (if_neg g8).symm.trans h
            exact q7.trans (R_X8_stepOn_107_p76 h)
theorem R_X8_stepOn_107_p0 {n : Nat}  {M M' : zMM} (h : f_X8_stepOn_107_p0  n  M = some M') : z_fr w_X8_stepOn_107 M M' := R0_X8_stepOn_107_p0 _ _ _ h
theorem R_X8_stepOn_107 {M M' : zMM} (h : f_X8_stepOn_107 M = some M') : z_fr w_X8_stepOn_107 M M' := by
  replace h : (  f_X8_stepOn_107_p0 z_fuel  M) = some M' := h
  exact z_fr.refl.trans (R_X8_stepOn_107_p0 h)
def w_X8_nextOf_107 : zWs := ([], [])
theorem R0_X8_nextOf_107_p2 : ∀ (n : Nat) (x1 : Int32) (x2 : Int32) (x3 : Int32) (M M' : zMM) (v : Int32), f_X8_nextOf_107_p2  n x1 x2 x3 M = some (v, M') → z_fr w_X8_nextOf_107 M M' := by
  intro n
  induction n with
  | zero => intro x1 x2 x3 M M' v h; cases h
  | succ n ih =>
    intro x1 x2 x3 M M' v h
    replace h : (  if (5 : Int32) ≤ x3 then
    some ((-1 : Int32), M)
  else
    if x1 = x2 then
      some ((-1 : Int32), M)
    else
      if z_ib (((5 : Int32) * x1) + x2) 25 = true then
        if (1000000 : Int32) ≤ (M 126 (((5 : Int32) * x1) + x2).toNatClampNeg) then
          some ((-1 : Int32), M)
        else
          if z_ib (((5 : Int32) * x1) + x3) 50 = true then
            if (M 114 (((5 : Int32) * x1) + x3).toNatClampNeg) ≤ 0 then
              f_X8_nextOf_107_p2 n x1 x2 (x3 + (1 : Int32)) M
            else
              if z_ib (((5 : Int32) * x1) + x3) 50 = true then
                if z_ib (((5 : Int32) * x3) + x2) 25 = true then
                  if z_ib (((5 : Int32) * x1) + x2) 25 = true then
                    if ((M 114 (((5 : Int32) * x1) + x3).toNatClampNeg) + (M 126 (((5 : Int32) * x3) + x2).toNatClampNeg)) = (M 126 (((5 : Int32) * x1) + x2).toNatClampNeg) then
                      some (x3, M)
                    else
                      f_X8_nextOf_107_p2 n x1 x2 (x3 + (1 : Int32)) M
                  else none
                else none
              else none
          else none
      else none) = some (v, M') := h
    by_cases g1 : (5 : Int32) ≤ x3
    · replace h := (if_pos g1).symm.trans h
      cases h
      exact z_fr.refl
    · replace h := (if_neg g1).symm.trans h
      by_cases g2 : x1 = x2
      · replace h := (if_pos g2).symm.trans h
        cases h
        exact z_fr.refl
      · replace h := (if_neg g2).symm.trans h
        obtain ⟨g3, h⟩ := z_ifn h
        by_cases g4 : (1000000 : Int32) ≤ (M 126 (((5 : Int32) * x1) + x2).toNatClampNeg)
        · replace h := (if_pos g4).symm.trans h
          cases h
          exact z_fr.refl
        · replace h := (if_neg g4).symm.trans h
          obtain ⟨g5, h⟩ := z_ifn h
          by_cases g6 : (M 114 (((5 : Int32) * x1) + x3).toNatClampNeg) ≤ 0
          · replace h := (if_pos g6).symm.trans h
            exact z_fr.refl.trans (ih _ _ _ _ _ _ h)
          · replace h := (if_neg g6).symm.trans h
            obtain ⟨g7, h⟩ := z_ifn h
            obtain ⟨g8, h⟩ := z_ifn h
            obtain ⟨g9, h⟩ := z_ifn h
            by_cases g10 : ((M 114 (((5 : Int32) * x1) + x3).toNatClampNeg) + (M 126 (((5 : Int32) * x3) + x2).toNatClampNeg)) = (M 126 (((5 : Int32) * x1) + x2).toNatClampNeg)
            · replace h := (if_pos g10).symm.trans h
              cases h
              exact z_fr.refl
            · replace h := (if_neg g10).symm.trans h
              exact z_fr.refl.trans (ih _ _ _ _ _ _ h)
theorem R_X8_nextOf_107_p2 {n : Nat} {x1 : Int32} {x2 : Int32} {x3 : Int32} {M M' : zMM} {v : Int32} (h : f_X8_nextOf_107_p2  n x1 x2 x3 M = some (v, M')) : z_fr w_X8_nextOf_107 M M' := R0_X8_nextOf_107_p2 _ _ _ _ _ _ _ h
theorem R_X8_nextOf_107 {x1 : Int32} {x2 : Int32} {M M' : zMM} {v : Int32} (h : f_X8_nextOf_107 x1 x2 M = some (v, M')) : z_fr w_X8_nextOf_107 M M' := by
  replace h : (  f_X8_nextOf_107_p2 z_fuel x1 x2 (0 : Int32) M) = some (v, M') := h
  exact z_fr.refl.trans (R_X8_nextOf_107_p2 h)
def w_X8_tellWays_107 : zWs := ([], [126, 127])
theorem R0_X8_tellWays_107_p166 {K159 : Int32 → zMM → Option zMM}
    (hK159 : ∀ (a0 : Int32) (M M' : zMM), K159 a0 M = some M' → z_fr w_X8_tellWays_107 M M') : ∀ (n : Nat) (x1 : Int32) (x2 : Int32) (M M' : zMM) , f_X8_tellWays_107_p166 K159 n x1 x2 M = some M' → z_fr w_X8_tellWays_107 M M' := by
  intro n
  induction n with
  | zero => intro x1 x2 M M' h; cases h
  | succ n ih =>
    intro x1 x2 M M' h
    replace h : (  if (5 : Int32) ≤ x2 then
    K159 (x1 + (1 : Int32)) M
  else
    z_bi (f_X8_nextOf_107 x1 x2 M) fun v6 M7 =>
    if z_ib (((5 : Int32) * x1) + x2) 25 = true then
      f_X8_tellWays_107_p166 K159 n x1 (x2 + (1 : Int32)) (z_up M7 127 (((5 : Int32) * x1) + x2).toNatClampNeg v6)
    else none) = some M' := h
    by_cases g1 : (5 : Int32) ≤ x2
    · replace h := (if_pos g1).symm.trans h
      exact z_fr.refl.trans (hK159 _ _ _ h)
    · replace h := (if_neg g1).symm.trans h
      obtain ⟨v6, M7, c2, h⟩ := z_bi_c h
      have q2 : z_fr w_X8_tellWays_107 M M7 := z_fr.refl.sub (R_X8_nextOf_107 c2) (by decide)
      obtain ⟨g3, h⟩ := z_ifn h
      exact (q2.up rfl).trans (ih _ _ _ _ h)
theorem R_X8_tellWays_107_p166 {K159 : Int32 → zMM → Option zMM}
    (hK159 : ∀ (a0 : Int32) (M M' : zMM), K159 a0 M = some M' → z_fr w_X8_tellWays_107 M M') {n : Nat} {x1 : Int32} {x2 : Int32} {M M' : zMM} (h : f_X8_tellWays_107_p166 K159 n x1 x2 M = some M') : z_fr w_X8_tellWays_107 M M' := R0_X8_tellWays_107_p166 hK159 _ _ _ _ _ h
theorem R0_X8_tellWays_107_p159 : ∀ (n : Nat) (x1 : Int32) (M M' : zMM) , f_X8_tellWays_107_p159  n x1 M = some M' → z_fr w_X8_tellWays_107 M M' := by
  intro n
  induction n with
  | zero => intro x1 M M' h; cases h
  | succ n ih =>
    intro x1 M M' h
    replace h : (  if (5 : Int32) ≤ x1 then
    some M
  else
    f_X8_tellWays_107_p166 (f_X8_tellWays_107_p159 n) z_fuel x1 (0 : Int32) M) = some M' := h
    by_cases g1 : (5 : Int32) ≤ x1
    · replace h := (if_pos g1).symm.trans h
      cases h
      exact z_fr.refl
    · replace h := (if_neg g1).symm.trans h
      exact z_fr.refl.trans (R_X8_tellWays_107_p166 ih h)
theorem R_X8_tellWays_107_p159 {n : Nat} {x1 : Int32} {M M' : zMM} (h : f_X8_tellWays_107_p159  n x1 M = some M') : z_fr w_X8_tellWays_107 M M' := R0_X8_tellWays_107_p159 _ _ _ _ h
theorem R0_X8_tellWays_107_p90 {K76 : Int32 → zMM → Option zMM} {K83 : Int32 → Int32 → zMM → Option zMM}
    (hK76 : ∀ (a0 : Int32) (M M' : zMM), K76 a0 M = some M' → z_fr w_X8_tellWays_107 M M')
    (hK83 : ∀ (a0 : Int32) (a1 : Int32) (M M' : zMM), K83 a0 a1 M = some M' → z_fr w_X8_tellWays_107 M M') : ∀ (n : Nat) (x1 : Int32) (x2 : Int32) (x3 : Int32) (M M' : zMM) , f_X8_tellWays_107_p90 K76 K83 n x1 x2 x3 M = some M' → z_fr w_X8_tellWays_107 M M' := by
  intro n
  induction n with
  | zero => intro x1 x2 x3 M M' h; cases h
  | succ n ih =>
    intro x1 x2 x3 M M' h
    replace h : (  if (5 : Int32) ≤ x3 then
    K83 x1 (x2 + (1 : Int32)) M
  else
    if z_ib (((5 : Int32) * x2) + x3) 25 = true then
      if z_ib (((5 : Int32) * x2) + x1) 25 = true then
        if z_ib (((5 : Int32) * x1) + x3) 25 = true then
          if z_ib (((5 : Int32) * x2) + x3) 25 = true then
            f_X8_tellWays_107_p90 K76 K83 n x1 x2 (x3 + (1 : Int32)) (z_up M 126 (((5 : Int32) * x2) + x3).toNatClampNeg (z_min (M 126 (((5 : Int32) * x2) + x3).toNatClampNeg) ((M 126 (((5 : Int32) * x2) + x1).toNatClampNeg) + (M 126 (((5 : Int32) * x1) + x3).toNatClampNeg))))
          else none
        else none
      else none
    else none) = some M' := h
    by_cases g1 : (5 : Int32) ≤ x3
    · replace h := (if_pos g1).symm.trans h
      exact z_fr.refl.trans (hK83 _ _ _ _ h)
    · replace h := (if_neg g1).symm.trans h
      obtain ⟨g2, h⟩ := z_ifn h
      obtain ⟨g3, h⟩ := z_ifn h
      obtain ⟨g4, h⟩ := z_ifn h
      obtain ⟨g5, h⟩ := z_ifn h
      exact (z_fr.refl.up rfl).trans (ih _ _ _ _ _ h)
theorem R_X8_tellWays_107_p90 {K76 : Int32 → zMM → Option zMM} {K83 : Int32 → Int32 → zMM → Option zMM}
    (hK76 : ∀ (a0 : Int32) (M M' : zMM), K76 a0 M = some M' → z_fr w_X8_tellWays_107 M M')
    (hK83 : ∀ (a0 : Int32) (a1 : Int32) (M M' : zMM), K83 a0 a1 M = some M' → z_fr w_X8_tellWays_107 M M') {n : Nat} {x1 : Int32} {x2 : Int32} {x3 : Int32} {M M' : zMM} (h : f_X8_tellWays_107_p90 K76 K83 n x1 x2 x3 M = some M') : z_fr w_X8_tellWays_107 M M' := R0_X8_tellWays_107_p90 hK76 hK83 _ _ _ _ _ _ h
theorem R0_X8_tellWays_107_p83 {K76 : Int32 → zMM → Option zMM}
    (hK76 : ∀ (a0 : Int32) (M M' : zMM), K76 a0 M = some M' → z_fr w_X8_tellWays_107 M M') : ∀ (n : Nat) (x1 : Int32) (x2 : Int32) (M M' : zMM) , f_X8_tellWays_107_p83 K76 n x1 x2 M = some M' → z_fr w_X8_tellWays_107 M M' := by
  intro n
  induction n with
  | zero => intro x1 x2 M M' h; cases h
  | succ n ih =>
    intro x1 x2 M M' h
    replace h : (  if (5 : Int32) ≤ x2 then
    K76 (x1 + (1 : Int32)) M
  else
    f_X8_tellWays_107_p90 K76 (f_X8_tellWays_107_p83 K76 n) z_fuel x1 x2 (0 : Int32) M) = some M' := h
    by_cases g1 : (5 : Int32) ≤ x2
    · replace h := (if_pos g1).symm.trans h
      exact z_fr.refl.trans (hK76 _ _ _ h)
    · replace h := (if_neg g1).symm.trans h
      exact z_fr.refl.trans (R_X8_tellWays_107_p90 hK76 ih h)
theorem R_X8_tellWays_107_p83 {K76 : Int32 → zMM → Option zMM}
    (hK76 : ∀ (a0 : Int32) (M M' : zMM), K76 a0 M = some M' → z_fr w_X8_tellWays_107 M M') {n : Nat} {x1 : Int32} {x2 : Int32} {M M' : zMM} (h : f_X8_tellWays_107_p83 K76 n x1 x2 M = some M') : z_fr w_X8_tellWays_107 M M' := R0_X8_tellWays_107_p83 hK76 _ _ _ _ _ h
theorem R0_X8_tellWays_107_p76 : ∀ (n : Nat) (x1 : Int32) (M M' : zMM) , f_X8_tellWays_107_p76  n x1 M = some M' → z_fr w_X8_tellWays_107 M M' := by
  intro n
  induction n with
  | zero => intro x1 M M' h; cases h
  | succ n ih =>
    intro x1 M M' h
    replace h : (  if (5 : Int32) ≤ x1 then
    f_X8_tellWays_107_p159 z_fuel (0 : Int32) M
  else
    f_X8_tellWays_107_p83 (f_X8_tellWays_107_p76 n) z_fuel x1 (0 : Int32) M) = some M' := h
    by_cases g1 : (5 : Int32) ≤ x1
    · replace h := (if_pos g1).symm.trans h
      exact z_fr.refl.trans (R_X8_tellWays_107_p159 h)
    · replace h := (if_neg g1).symm.trans h
      exact z_fr.refl.trans (R_X8_tellWays_107_p83 ih h)
theorem R_X8_tellWays_107_p76 {n : Nat} {x1 : Int32} {M M' : zMM} (h : f_X8_tellWays_107_p76  n x1 M = some M') : z_fr w_X8_tellWays_107 M M' := R0_X8_tellWays_107_p76 _ _ _ _ h
theorem R0_X8_tellWays_107_p9 {K2 : Int32 → zMM → Option zMM}
    (hK2 : ∀ (a0 : Int32) (M M' : zMM), K2 a0 M = some M' → z_fr w_X8_tellWays_107 M M') : ∀ (n : Nat) (x1 : Int32) (x2 : Int32) (M M' : zMM) , f_X8_tellWays_107_p9 K2 n x1 x2 M = some M' → z_fr w_X8_tellWays_107 M M' := by
  intro n
  induction n with
  | zero => intro x1 x2 M M' h; cases h
  | succ n ih =>
    intro x1 x2 M M' h
    replace h : (  if (5 : Int32) ≤ x2 then
    K2 (x1 + (1 : Int32)) M
  else
    if x1 = x2 then
      if z_ib (((5 : Int32) * x1) + x2) 25 = true then
        f_X8_tellWays_107_p9 K2 n x1 (x2 + (1 : Int32)) (z_up M 126 (((5 : Int32) * x1) + x2).toNatClampNeg (0 : Int32))
      else none
    else
      if z_ib (((5 : Int32) * x1) + x2) 50 = true then
        if (M 114 (((5 : Int32) * x1) + x2).toNatClampNeg) ≤ 0 then
          if z_ib (((5 : Int32) * x1) + x2) 25 = true then
            f_X8_tellWays_107_p9 K2 n x1 (x2 + (1 : Int32)) (z_up M 126 (((5 : Int32) * x1) + x2).toNatClampNeg (1000000 : Int32))
          else none
        else
          if z_ib (((5 : Int32) * x1) + x2) 50 = true then
            if z_ib (((5 : Int32) * x1) + x2) 25 = true then
              f_X8_tellWays_107_p9 K2 n x1 (x2 + (1 : Int32)) (z_up M 126 (((5 : Int32) * x1) + x2).toNatClampNeg (M 114 (((5 : Int32) * x1) + x2).toNatClampNeg))
            else none
          else none
      else none) = some M' := h
    by_cases g1 : (5 : Int32) ≤ x2
    · replace h := (if_pos g1).symm.trans h
      exact z_fr.refl.trans (hK2 _ _ _ h)
    · replace h := (if_neg g1).symm.trans h
      by_cases g2 : x1 = x2
      · replace h := (if_pos g2).symm.trans h
        obtain ⟨g3, h⟩ := z_ifn h
        exact (z_fr.refl.up rfl).trans (ih _ _ _ _ h)
      · replace h := (if_neg g2).symm.trans h
        obtain ⟨g4, h⟩ := z_ifn h
        by_cases g5 : (M 114 (((5 : Int32) * x1) + x2).toNatClampNeg) ≤ 0
        · replace h := (if_pos g5).symm.trans h
          obtain ⟨g6, h⟩ := z_ifn h
          exact (z_fr.refl.up rfl).trans (ih _ _ _ _ h)
        · replace h := (if_neg g5).symm.trans h
          obtain ⟨g7, h⟩ := z_ifn h
          obtain ⟨g8, h⟩ := z_ifn h
          exact (z_fr.refl.up rfl).trans (ih _ _ _ _ h)
theorem R_X8_tellWays_107_p9 {K2 : Int32 → zMM → Option zMM}
    (hK2 : ∀ (a0 : Int32) (M M' : zMM), K2 a0 M = some M' → z_fr w_X8_tellWays_107 M M') {n : Nat} {x1 : Int32} {x2 : Int32} {M M' : zMM} (h : f_X8_tellWays_107_p9 K2 n x1 x2 M = some M') : z_fr w_X8_tellWays_107 M M' := R0_X8_tellWays_107_p9 hK2 _ _ _ _ _ h
theorem R0_X8_tellWays_107_p2 : ∀ (n : Nat) (x1 : Int32) (M M' : zMM) , f_X8_tellWays_107_p2  n x1 M = some M' → z_fr w_X8_tellWays_107 M M' := by
  intro n
  induction n with
  | zero => intro x1 M M' h; cases h
  | succ n ih =>
    intro x1 M M' h
    replace h : (  if (5 : Int32) ≤ x1 then
    f_X8_tellWays_107_p76 z_fuel (0 : Int32) M
  else
    f_X8_tellWays_107_p9 (f_X8_tellWays_107_p2 n) z_fuel x1 (0 : Int32) M) = some M' := h
    by_cases g1 : (5 : Int32) ≤ x1
    · replace h := (if_pos g1).symm.trans h
      exact z_fr.refl.trans (R_X8_tellWays_107_p76 h)
    · replace h := (if_neg g1).symm.trans h
      exact z_fr.refl.trans (R_X8_tellWays_107_p9 ih h)
theorem R_X8_tellWays_107_p2 {n : Nat} {x1 : Int32} {M M' : zMM} (h : f_X8_tellWays_107_p2  n x1 M = some M') : z_fr w_X8_tellWays_107 M M' := R0_X8_tellWays_107_p2 _ _ _ _ h
theorem R_X8_tellWays_107 {M M' : zMM} (h : f_X8_tellWays_107 M = some M') : z_fr w_X8_tellWays_107 M M' := by
  replace h : (  f_X8_tellWays_107_p2 z_fuel (0 : Int32) M) = some M' := h
  exact z_fr.refl.trans (R_X8_tellWays_107_p2 h)
def w_X8_take_107 : zWs := ([(107, 29), (107, 31), (107, 32), (107, 33), (107, 53), (107, 54)], [109, 110, 111, 112, 113, 114, 116, 117, 118, 119, 120, 121, 124, 125, 126, 127])
theorem R0_X8_take_107_p86 : ∀ (n : Nat) (x1 : Int32) (M M' : zMM) , f_X8_take_107_p86  n x1 M = some M' → z_fr w_X8_take_107 M M' := by
  intro n
  induction n with
  | zero => intro x1 M M' h; cases h
  | succ n ih =>
    intro x1 M M' h
    replace h : (  if (5 : Int32) ≤ x1 then
    z_bv (f_X8_tellWays_107  (z_up (z_up (z_up (z_up (z_up (z_up M 107 29 (0 : Int32)) 107 33 (0 : Int32)) 107 31 (0 : Int32)) 107 32 (0 : Int32)) 107 53 (0 : Int32)) 107 54 (0 : Int32))) fun M28 =>
    some M28
  else
    if (M 109 1) ≤ x1 then
      if z_ib x1 5 = true then
        if z_ib x1 5 = true then
          f_X8_take_107_p86 n (x1 + (1 : Int32)) (z_up (z_up M 124 x1.toNatClampNeg (0 : Int32)) 125 x1.toNatClampNeg (0 : Int32))
        else none
      else none
    else
      if z_ib x1 5 = true then
        if z_ib x1 5 = true then
          if z_ib x1 5 = true then
            f_X8_take_107_p86 n (x1 + (1 : Int32)) (z_up (z_up M 124 x1.toNatClampNeg (M 115 x1.toNatClampNeg)) 125 x1.toNatClampNeg (0 : Int32))
          else none
        else none
      else none) = some M' := h
    by_cases g1 : (5 : Int32) ≤ x1
    · replace h := (if_pos g1).symm.trans h
      obtain ⟨M28, c2, h⟩ := z_bv_c h
      have q2 : z_fr w_X8_take_107 M M28 := ((((((z_fr.refl.up rfl).up rfl).up rfl).up rfl).up rfl).up rfl).sub (R_X8_tellWays_107 c2) (by decide)
      cases h
      exact q2
    · replace h := (if_neg g1).symm.trans h
      by_cases g3 : (M 109 1) ≤ x1
      · replace h := (if_pos g3).symm.trans h
        obtain ⟨g4, h⟩ := z_ifn h
        obtain ⟨g5, h⟩ := z_ifn h
        exact ((z_fr.refl.up rfl).up rfl).trans (ih _ _ _ h)
      · replace h := (if_neg g3).symm.trans h
        obtain ⟨g6, h⟩ := z_ifn h
        obtain ⟨g7, h⟩ := z_ifn h
        obtain ⟨g8, h⟩ := z_ifn h
        exact ((z_fr.refl.up rfl).up rfl).trans (ih _ _ _ h)
theorem R_X8_take_107_p86 {n : Nat} {x1 : Int32} {M M' : zMM} (h : f_X8_take_107_p86  n x1 M = some M') : z_fr w_X8_take_107 M M' := R0_X8_take_107_p86 _ _ _ _ h
theorem R_X8_take_107 {M M' : zMM} (h : f_X8_take_107 M = some M') : z_fr w_X8_take_107 M M' := by
  replace h : (  z_bv (some (z_th M 109 0 5)) fun M2 =>
  z_bv (some (z_th M2 110 0 5)) fun M4 =>
  z_bv (some (z_th M4 111 0 5)) fun M6 =>
  z_bv (some (z_th M6 112 0 5)) fun M8 =>
  z_bv (some (z_th M8 113 0 5)) fun M10 =>
  z_bv (some (z_th M10 114 0 25)) fun M12 =>
  z_bv (some (z_th M12 116 0 11)) fun M14 =>
  z_bv (some (z_th M14 117 0 11)) fun M16 =>
  z_bv (some (z_th M16 118 0 4)) fun M18 =>
  z_bv (some (z_th M18 119 0 16)) fun M20 =>
  z_bv (some (z_th M20 120 0 4)) fun M22 =>
  z_bv (some (z_th M22 121 0 400)) fun M24 =>
  f_X8_take_107_p86 z_fuel (0 : Int32) M24) = some M' := h
  obtain ⟨M2, c1, h⟩ := z_bv_c h
  have q1 : z_fr w_X8_take_107 M M2 := Option.some.inj c1 ▸ (z_fr.refl.th rfl)
  obtain ⟨M4, c2, h⟩ := z_bv_c h
  have q2 : z_fr w_X8_take_107 M M4 := Option.some.inj c2 ▸ (q1.th rfl)
  obtain ⟨M6, c3, h⟩ := z_bv_c h
  have q3 : z_fr w_X8_take_107 M M6 := Option.some.inj c3 ▸ (q2.th rfl)
  obtain ⟨M8, c4, h⟩ := z_bv_c h
  have q4 : z_fr w_X8_take_107 M M8 := Option.some.inj c4 ▸ (q3.th rfl)
  obtain ⟨M10, c5, h⟩ := z_bv_c h
  have q5 : z_fr w_X8_take_107 M M10 := Option.some.inj c5 ▸ (q4.th rfl)
  obtain ⟨M12, c6, h⟩ := z_bv_c h
  have q6 : z_fr w_X8_take_107 M M12 := Option.some.inj c6 ▸ (q5.th rfl)
  obtain ⟨M14, c7, h⟩ := z_bv_c h
  have q7 : z_fr w_X8_take_107 M M14 := Option.some.inj c7 ▸ (q6.th rfl)
  obtain ⟨M16, c8, h⟩ := z_bv_c h
  have q8 : z_fr w_X8_take_107 M M16 := Option.some.inj c8 ▸ (q7.th rfl)
  obtain ⟨M18, c9, h⟩ := z_bv_c h
  have q9 : z_fr w_X8_take_107 M M18 := Option.some.inj c9 ▸ (q8.th rfl)
  obtain ⟨M20, c10, h⟩ := z_bv_c h
  have q10 : z_fr w_X8_take_107 M M20 := Option.some.inj c10 ▸ (q9.th rfl)
  obtain ⟨M22, c11, h⟩ := z_bv_c h
  have q11 : z_fr w_X8_take_107 M M22 := Option.some.inj c11 ▸ (q10.th rfl)
  obtain ⟨M24, c12, h⟩ := z_bv_c h
  have q12 : z_fr w_X8_take_107 M M24 := Option.some.inj c12 ▸ (q11.th rfl)
  exact q12.trans (R_X8_take_107_p86 h)
def w_X8_is_107 : zWs := ([], [])
theorem R0_X8_is_107_p39 {s : Nat} : ∀ (n : Nat) (x2 : Int32) (x3 : Int32) (M M' : zMM) (v : Int32), f_X8_is_107_p39 s n x2 x3 M = some (v, M') → z_fr w_X8_is_107 M M' := by
  intro n
  induction n with
  | zero => intro x2 x3 M M' v h; cases h
  | succ n ih =>
    intro x2 x3 M M' v h
    replace h : (  if x2 = 0 then
    if z_zb x2 = true then some (x2, M) else none
  else
    if (z_sl s) ≤ x3 then
      if z_zb x2 = true then some (x2, M) else none
    else
      if z_ib x3 (z_sn s) = true then
        if z_ib ((M 107 22) + x3) 700 = true then
          if (z_ch (M (s + 24) x3.toNatClampNeg)) = (M 123 ((M 107 22) + x3).toNatClampNeg) then
            f_X8_is_107_p39 s n (1 : Int32) (x3 + (1 : Int32)) M
          else
            f_X8_is_107_p39 s n (0 : Int32) (x3 + (1 : Int32)) M
        else none
      else none) = some (v, M') := h
    by_cases g1 : x2 = 0
    · replace h := (if_pos g1).symm.trans h
      obtain ⟨g2, h⟩ := z_ifn h
      cases h
      exact z_fr.refl
    · replace h := (if_neg g1).symm.trans h
      by_cases g3 : (z_sl s) ≤ x3
      · replace h := (if_pos g3).symm.trans h
        obtain ⟨g4, h⟩ := z_ifn h
        cases h
        exact z_fr.refl
      · replace h := (if_neg g3).symm.trans h
        obtain ⟨g5, h⟩ := z_ifn h
        obtain ⟨g6, h⟩ := z_ifn h
        by_cases g7 : (z_ch (M (s + 24) x3.toNatClampNeg)) = (M 123 ((M 107 22) + x3).toNatClampNeg)
        · replace h := (if_pos g7).symm.trans h
          exact z_fr.refl.trans (ih _ _ _ _ _ h)
        · replace h := (if_neg g7).symm.trans h
          exact z_fr.refl.trans (ih _ _ _ _ _ h)
theorem R_X8_is_107_p39 {s : Nat} {n : Nat} {x2 : Int32} {x3 : Int32} {M M' : zMM} {v : Int32} (h : f_X8_is_107_p39 s n x2 x3 M = some (v, M')) : z_fr w_X8_is_107 M M' := R0_X8_is_107_p39 _ _ _ _ _ _ h
theorem R_X8_is_107 {s : Nat} {M M' : zMM} {v : Int32} (h : f_X8_is_107 s M = some (v, M')) : z_fr w_X8_is_107 M M' := by
  replace h : (  if 3 ≤ s ∧ s < 27 then
  if (M 107 24) = 0 then
    if (M 107 20) = (1 : Int32) then
      if (z_sl s) = ((M 107 23) - (M 107 22)) then
        f_X8_is_107_p39 s z_fuel (1 : Int32) (0 : Int32) M
      else
        f_X8_is_107_p39 s z_fuel (0 : Int32) (0 : Int32) M
    else
      f_X8_is_107_p39 s z_fuel (0 : Int32) (0 : Int32) M
  else
    f_X8_is_107_p39 s z_fuel (0 : Int32) (0 : Int32) M
  else none) = some (v, M') := h
  obtain ⟨g1, h⟩ := z_ifn h
  by_cases g2 : (M 107 24) = 0
  · replace h := (if_pos g2).symm.trans h
    by_cases g3 : (M 107 20) = (1 : Int32)
    · replace h := (if_pos g3).symm.trans h
      by_cases g4 : (z_sl s) = ((M 107 23) - (M 107 22))
      · replace h := (if_pos g4).symm.trans h
        exact z_fr.refl.trans (R_X8_is_107_p39 h)
      · replace h := (if_neg g4).symm.trans h
        exact z_fr.refl.trans (R_X8_is_107_p39 h)
    · replace h := (if_neg g3).symm.trans h
      exact z_fr.refl.trans (R_X8_is_107_p39 h)
  · replace h := (if_neg g2).symm.trans h
    exact z_fr.refl.trans (R_X8_is_107_p39 h)
def w_X8_passes_107_21 : zWs := ([(107, 18), (107, 20), (107, 21), (107, 22), (107, 23)], [])
theorem R_X8_passes_107_21 {M M' : zMM} {v : Int32} (h : f_X8_passes_107_21 M = some (v, M')) : z_fr w_X8_passes_107_21 M M' := by
  replace h : (  z_bi (f_X8_is_107 21 M) fun v2 M3 =>
  if v2 = 0 then
    if z_zb v2 = true then some (v2, M3) else none
  else
    z_bv (f_X8_stepOn_107  M3) fun M8 =>
    if z_zb v2 = true then some (v2, M8) else none) = some (v, M') := h
  obtain ⟨v2, M3, c1, h⟩ := z_bi_c h
  have q1 : z_fr w_X8_passes_107_21 M M3 := z_fr.refl.sub (R_X8_is_107 c1) (by decide)
  by_cases g2 : v2 = 0
  · replace h := (if_pos g2).symm.trans h
    obtain ⟨g3, h⟩ := z_ifn h
    cases h
    exact q1
  · replace h := (if_neg g2).symm.trans h
    obtain ⟨M8, c4, h⟩ := z_bv_c h
    have q4 : z_fr w_X8_passes_107_21 M M8 := q1.sub (R_X8_stepOn_107 c4) (by decide)
    obtain ⟨g5, h⟩ := z_ifn h
    cases h
    exact q4
def w_X8_passes_107_25 : zWs := ([(107, 18), (107, 20), (107, 21), (107, 22), (107, 23)], [])
theorem R_X8_passes_107_25 {M M' : zMM} {v : Int32} (h : f_X8_passes_107_25 M = some (v, M')) : z_fr w_X8_passes_107_25 M M' := by
  replace h : (  z_bi (f_X8_is_107 25 M) fun v2 M3 =>
  if v2 = 0 then
    if z_zb v2 = true then some (v2, M3) else none
  else
    z_bv (f_X8_stepOn_107  M3) fun M8 =>
    if z_zb v2 = true then some (v2, M8) else none) = some (v, M') := h
  obtain ⟨v2, M3, c1, h⟩ := z_bi_c h
  have q1 : z_fr w_X8_passes_107_25 M M3 := z_fr.refl.sub (R_X8_is_107 c1) (by decide)
  by_cases g2 : v2 = 0
  · replace h := (if_pos g2).symm.trans h
    obtain ⟨g3, h⟩ := z_ifn h
    cases h
    exact q1
  · replace h := (if_neg g2).symm.trans h
    obtain ⟨M8, c4, h⟩ := z_bv_c h
    have q4 : z_fr w_X8_passes_107_25 M M8 := q1.sub (R_X8_stepOn_107 c4) (by decide)
    obtain ⟨g5, h⟩ := z_ifn h
    cases h
    exact q4
def w_X8_wrong_107 : zWs := ([(107, 24), (107, 25)], [])
theorem R_X8_wrong_107 {x1 : Int32} {M M' : zMM} (h : f_X8_wrong_107 x1 M = some M') : z_fr w_X8_wrong_107 M M' := by
  replace h : (  if (M 107 24) = 0 then
    some (z_up (z_up M 107 24 x1) 107 25 (M 107 22))
  else
    some M) = some M' := h
  by_cases g1 : (M 107 24) = 0
  · replace h := (if_pos g1).symm.trans h
    cases h
    exact ((z_fr.refl.up rfl).up rfl)
  · replace h := (if_neg g1).symm.trans h
    cases h
    exact z_fr.refl
def w_X8_numberNow_107 : zWs := ([(107, 24), (107, 25)], [])
theorem R_X8_numberNow_107_p54 {M M' : zMM} {v : Int32} (h : f_X8_numberNow_107_p54 M = some (v, M')) : z_fr w_X8_numberNow_107 M M' := by
  replace h : (  z_bv (f_X8_wrong_107 (2 : Int32) M) fun M6 =>
  if (M6 107 24) = 0 then
    some ((M6 107 21), M6)
  else
    some ((0 : Int32), M6)) = some (v, M') := h
  obtain ⟨M6, c1, h⟩ := z_bv_c h
  have q1 : z_fr w_X8_numberNow_107 M M6 := z_fr.refl.sub (R_X8_wrong_107 c1) (by decide)
  by_cases g2 : (M6 107 24) = 0
  · replace h := (if_pos g2).symm.trans h
    cases h
    exact q1
  · replace h := (if_neg g2).symm.trans h
    cases h
    exact q1
theorem R_X8_numberNow_107 {x1 : Int32} {x2 : Int32} {M M' : zMM} {v : Int32} (h : f_X8_numberNow_107 x1 x2 M = some (v, M')) : z_fr w_X8_numberNow_107 M M' := by
  replace h : (  if (M 107 24) = 0 then
    if (M 107 20) = (2 : Int32) then
      if (4 : Int32) < ((M 107 23) - (M 107 22)) then
        f_X8_numberNow_107_p54  M
      else
        if (M 107 21) < x1 then
          f_X8_numberNow_107_p54  M
        else
          if (M 107 21) ≤ x2 then
            if (M 107 24) = 0 then
              some ((M 107 21), M)
            else
              some ((0 : Int32), M)
          else
            f_X8_numberNow_107_p54  M
    else
      z_bv (f_X8_wrong_107 (1 : Int32) M) fun M13 =>
      if (M13 107 24) = 0 then
        some ((M13 107 21), M13)
      else
        some ((0 : Int32), M13)
  else
    some ((0 : Int32), M)) = some (v, M') := h
  by_cases g1 : (M 107 24) = 0
  · replace h := (if_pos g1).symm.trans h
    by_cases g2 : (M 107 20) = (2 : Int32)
    · replace h := (if_pos g2).symm.trans h
      by_cases g3 : (4 : Int32) < ((M 107 23) - (M 107 22))
      · replace h := (if_pos g3).symm.trans h
        exact z_fr.refl.trans (R_X8_numberNow_107_p54 h)
      · replace h := (if_neg g3).symm.trans h
        by_cases g4 : (M 107 21) < x1
        · replace h := (if_pos g4).symm.trans h
          exact z_fr.refl.trans (R_X8_numberNow_107_p54 h)
        · replace h := (if_neg g4).symm.trans h
          by_cases g5 : (M 107 21) ≤ x2
          · replace h := (if_pos g5).symm.trans h
            by_cases g6 : (M 107 24) = 0
            · replace h := (if_pos g6).symm.trans h
              cases h
              exact z_fr.refl
            · replace h := (if_neg g6).symm.trans h
              cases h
              exact z_fr.refl
          · replace h := (if_neg g5).symm.trans h
            exact z_fr.refl.trans (R_X8_numberNow_107_p54 h)
    · replace h := (if_neg g2).symm.trans h
      obtain ⟨M13, c7, h⟩ := z_bv_c h
      have q7 : z_fr w_X8_numberNow_107 M M13 := z_fr.refl.sub (R_X8_wrong_107 c7) (by decide)
      by_cases g8 : (M13 107 24) = 0
      · replace h := (if_pos g8).symm.trans h
        cases h
        exact q7
      · replace h := (if_neg g8).symm.trans h
        cases h
        exact q7
  · replace h := (if_neg g1).symm.trans h
    cases h
    exact z_fr.refl
def w_X8_readNumber_107 : zWs := ([(107, 18), (107, 20), (107, 21), (107, 22), (107, 23), (107, 24), (107, 25)], [])
theorem R_X8_readNumber_107 {x1 : Int32} {x2 : Int32} {M M' : zMM} {v : Int32} (h : f_X8_readNumber_107 x1 x2 M = some (v, M')) : z_fr w_X8_readNumber_107 M M' := by
  replace h : (  z_bi (f_X8_numberNow_107 x1 x2 M) fun v2 M3 =>
  if (M3 107 24) = 0 then
    z_bv (f_X8_stepOn_107  M3) fun M7 =>
    some (v2, M7)
  else
    some (v2, M3)) = some (v, M') := h
  obtain ⟨v2, M3, c1, h⟩ := z_bi_c h
  have q1 : z_fr w_X8_readNumber_107 M M3 := z_fr.refl.sub (R_X8_numberNow_107 c1) (by decide)
  by_cases g2 : (M3 107 24) = 0
  · replace h := (if_pos g2).symm.trans h
    obtain ⟨M7, c3, h⟩ := z_bv_c h
    have q3 : z_fr w_X8_readNumber_107 M M7 := q1.sub (R_X8_stepOn_107 c3) (by decide)
    cases h
    exact q3
  · replace h := (if_neg g2).symm.trans h
    cases h
    exact q1
def w_X8_readLike_107 : zWs := ([(107, 18), (107, 20), (107, 21), (107, 22), (107, 23), (107, 24), (107, 25)], [121])
theorem R_X8_readLike_107_p54 {x3 : Int32} {M M' : zMM} (h : f_X8_readLike_107_p54 x3 M = some M') : z_fr w_X8_readLike_107 M M' := by
  replace h : (  if (M 107 24) = 0 then
    z_bv (f_X8_stepOn_107  M) fun M15 =>
    z_bi (f_X8_readNumber_107 (0 : Int32) (99 : Int32) M15) fun v17 M18 =>
    if z_ib x3 800 = true then
      some (z_up M18 121 x3.toNatClampNeg v17)
    else none
  else
    some M) = some M' := h
  by_cases g1 : (M 107 24) = 0
  · replace h := (if_pos g1).symm.trans h
    obtain ⟨M15, c2, h⟩ := z_bv_c h
    have q2 : z_fr w_X8_readLike_107 M M15 := z_fr.refl.sub (R_X8_stepOn_107 c2) (by decide)
    obtain ⟨v17, M18, c3, h⟩ := z_bi_c h
    have q3 : z_fr w_X8_readLike_107 M M18 := q2.sub (R_X8_readNumber_107 c3) (by decide)
    obtain ⟨g4, h⟩ := z_ifn h
    cases h
    exact (q3.up rfl)
  · replace h := (if_neg g1).symm.trans h
    cases h
    exact z_fr.refl
theorem R_X8_readLike_107_p49 {x3 : Int32} {M M' : zMM} (h : f_X8_readLike_107_p49 x3 M = some M') : z_fr w_X8_readLike_107 M M' := by
  replace h : (  z_bv (f_X8_wrong_107 (4 : Int32) M) fun M11 =>
  f_X8_readLike_107_p54 x3 M11) = some M' := h
  obtain ⟨M11, c1, h⟩ := z_bv_c h
  have q1 : z_fr w_X8_readLike_107 M M11 := z_fr.refl.sub (R_X8_wrong_107 c1) (by decide)
  exact q1.trans (R_X8_readLike_107_p54 h)
theorem R_X8_readLike_107 {M M' : zMM} (h : f_X8_readLike_107 M = some M') : z_fr w_X8_readLike_107 M M' := by
  replace h : (  z_bi (f_X8_readNumber_107 (0 : Int32) (19 : Int32) M) fun v2 M3 =>
  z_bi (f_X8_numberNow_107 (0 : Int32) (19 : Int32) M3) fun v5 M6 =>
  if (M6 107 24) = 0 then
    if v2 = v5 then
      f_X8_readLike_107_p49 (((400 : Int32) + ((20 : Int32) * v2)) + v5) M6
    else
      if z_ib (((400 : Int32) + ((20 : Int32) * v2)) + v5) 800 = true then
        if (M6 121 (((400 : Int32) + ((20 : Int32) * v2)) + v5).toNatClampNeg) = (-1 : Int32) then
          f_X8_readLike_107_p54 (((400 : Int32) + ((20 : Int32) * v2)) + v5) M6
        else
          f_X8_readLike_107_p49 (((400 : Int32) + ((20 : Int32) * v2)) + v5) M6
      else none
  else
    f_X8_readLike_107_p54 (((400 : Int32) + ((20 : Int32) * v2)) + v5) M6) = some M' := h
  obtain ⟨v2, M3, c1, h⟩ := z_bi_c h
  have q1 : z_fr w_X8_readLike_107 M M3 := z_fr.refl.sub (R_X8_readNumber_107 c1) (by decide)
  obtain ⟨v5, M6, c2, h⟩ := z_bi_c h
  have q2 : z_fr w_X8_readLike_107 M M6 := q1.sub (R_X8_numberNow_107 c2) (by decide)
  by_cases g3 : (M6 107 24) = 0
  · replace h := (if_pos g3).symm.trans h
    by_cases g4 : v2 = v5
    · replace h := (if_pos g4).symm.trans h
      exact q2.trans (R_X8_readLike_107_p49 h)
    · replace h := (if_neg g4).symm.trans h
      obtain ⟨g5, h⟩ := z_ifn h
      by_cases g6 : (M6 121 (((400 : Int32) + ((20 : Int32) * v2)) + v5).toNatClampNeg) = (-1 : Int32)
      · replace h := (if_pos g6).symm.trans h
        exact q2.trans (R_X8_readLike_107_p54 h)
      · replace h := (if_neg g6).symm.trans h
        exact q2.trans (R_X8_readLike_107_p49 h)
  · replace h := (if_neg g3).symm.trans h
    exact q2.trans (R_X8_readLike_107_p54 h)
def w_X8_begin_107 : zWs := ([(107, 18), (107, 20), (107, 21), (107, 22), (107, 23), (107, 24), (107, 25)], [])
theorem R_X8_begin_107 {x1 : Int32} {x2 : Int32} {M M' : zMM} {v : Int32} (h : f_X8_begin_107 x1 x2 M = some (v, M')) : z_fr w_X8_begin_107 M M' := by
  replace h : (  if z_ib ((5 : Int32) + x1) 10 = true then
    if (M 109 ((5 : Int32) + x1).toNatClampNeg) = x2 then
      z_bv (f_X8_wrong_107 (2 : Int32) M) fun M5 =>
      if (M5 107 24) = 0 then
        z_bv (f_X8_stepOn_107  M5) fun M9 =>
        some ((1 : Int32), M9)
      else
        some ((0 : Int32), M5)
    else
      if (M 107 24) = 0 then
        z_bv (f_X8_stepOn_107  M) fun M13 =>
        some ((1 : Int32), M13)
      else
        some ((0 : Int32), M)
  else none) = some (v, M') := h
  obtain ⟨g1, h⟩ := z_ifn h
  by_cases g2 : (M 109 ((5 : Int32) + x1).toNatClampNeg) = x2
  · replace h := (if_pos g2).symm.trans h
    obtain ⟨M5, c3, h⟩ := z_bv_c h
    have q3 : z_fr w_X8_begin_107 M M5 := z_fr.refl.sub (R_X8_wrong_107 c3) (by decide)
    by_cases g4 : (M5 107 24) = 0
    · replace h := (if_pos g4).symm.trans h
      obtain ⟨M9, c5, h⟩ := z_bv_c h
      have q5 : z_fr w_X8_begin_107 M M9 := q3.sub (R_X8_stepOn_107 c5) (by decide)
      cases h
      exact q5
    · replace h := (if_neg g4).symm.trans h
      cases h
      exact q3
  · replace h := (if_neg g2).symm.trans h
    by_cases g6 : (M 107 24) = 0
    · replace h := (if_pos g6).symm.trans h
      obtain ⟨M13, c7, h⟩ := z_bv_c h
      have q7 : z_fr w_X8_begin_107 M M13 := z_fr.refl.sub (R_X8_stepOn_107 c7) (by decide)
      cases h
      exact q7
    · replace h := (if_neg g6).symm.trans h
      cases h
      exact z_fr.refl
def w_X8_readPlay_107 : zWs := ([(107, 18), (107, 20), (107, 21), (107, 22), (107, 23), (107, 24), (107, 25)], [109, 118, 119, 120])
theorem R_X8_readPlay_107_p70 {K40 : Int32 → zMM → Option zMM} {x1 : Int32}
    (hK40 : ∀ (a0 : Int32) (M M' : zMM), K40 a0 M = some M' → z_fr w_X8_readPlay_107 M M') {M M' : zMM} (h : f_X8_readPlay_107_p70 K40 x1 M = some M') : z_fr w_X8_readPlay_107 M M' := by
  replace h : (  z_bi (f_X8_readNumber_107 (0 : Int32) (19 : Int32) M) fun v18 M19 =>
  if (M19 107 24) = 0 then
    if z_ib x1 8 = true then
      if z_ib (((4 : Int32) * x1) + (M19 120 x1.toNatClampNeg)) 32 = true then
        if z_ib x1 8 = true then
          if z_ib x1 8 = true then
            if (M19 107 20) = (2 : Int32) then
              K40 x1 (z_up (z_up M19 119 (((4 : Int32) * x1) + (M19 120 x1.toNatClampNeg)).toNatClampNeg v18) 120 x1.toNatClampNeg ((M19 120 x1.toNatClampNeg) + (1 : Int32)))
            else
              some (z_up (z_up (z_up M19 119 (((4 : Int32) * x1) + (M19 120 x1.toNatClampNeg)).toNatClampNeg v18) 120 x1.toNatClampNeg ((M19 120 x1.toNatClampNeg) + (1 : Int32))) 109 8 ((M19 109 8) + (1 : Int32)))
          else none
        else none
      else none
    else none
  else
    some M19) = some M' := h
  obtain ⟨v18, M19, c1, h⟩ := z_bi_c h
  have q1 : z_fr w_X8_readPlay_107 M M19 := z_fr.refl.sub (R_X8_readNumber_107 c1) (by decide)
  by_cases g2 : (M19 107 24) = 0
  · replace h := (if_pos g2).symm.trans h
    obtain ⟨g3, h⟩ := z_ifn h
    obtain ⟨g4, h⟩ := z_ifn h
    obtain ⟨g5, h⟩ := z_ifn h
    obtain ⟨g6, h⟩ := z_ifn h
    by_cases g7 : (M19 107 20) = (2 : Int32)
    · replace h := (if_pos g7).symm.trans h
      exact ((q1.up rfl).up rfl).trans (hK40 _ _ _ h)
    · replace h := (if_neg g7).symm.trans h
      cases h
      exact (((q1.up rfl).up rfl).up rfl)
  · replace h := (if_neg g2).symm.trans h
    cases h
    exact q1
theorem R0_X8_readPlay_107_p40 : ∀ (n : Nat) (x1 : Int32) (M M' : zMM) , f_X8_readPlay_107_p40  n x1 M = some M' → z_fr w_X8_readPlay_107 M M' := by
  intro n
  induction n with
  | zero => intro x1 M M' h; cases h
  | succ n ih =>
    intro x1 M M' h
    replace h : (  if (M 107 24) = 0 then
    if (M 107 20) = (2 : Int32) then
      if z_ib x1 8 = true then
        if (M 120 x1.toNatClampNeg) = (4 : Int32) then
          z_bv (f_X8_wrong_107 (2 : Int32) M) fun M16 =>
          f_X8_readPlay_107_p70 (f_X8_readPlay_107_p40 n) x1 M16
        else
          f_X8_readPlay_107_p70 (f_X8_readPlay_107_p40 n) x1 M
      else none
    else
      f_X8_readPlay_107_p70 (f_X8_readPlay_107_p40 n) x1 M
  else
    f_X8_readPlay_107_p70 (f_X8_readPlay_107_p40 n) x1 M) = some M' := h
    by_cases g1 : (M 107 24) = 0
    · replace h := (if_pos g1).symm.trans h
      by_cases g2 : (M 107 20) = (2 : Int32)
      · replace h := (if_pos g2).symm.trans h
        obtain ⟨g3, h⟩ := z_ifn h
        by_cases g4 : (M 120 x1.toNatClampNeg) = (4 : Int32)
        · replace h := (if_pos g4).symm.trans h
          obtain ⟨M16, c5, h⟩ := z_bv_c h
          have q5 : z_fr w_X8_readPlay_107 M M16 := z_fr.refl.sub (R_X8_wrong_107 c5) (by decide)
          exact q5.trans (R_X8_readPlay_107_p70 ih h)
        · replace h := (if_neg g4).symm.trans h
          exact z_fr.refl.trans (R_X8_readPlay_107_p70 ih h)
      · replace h := (if_neg g2).symm.trans h
        exact z_fr.refl.trans (R_X8_readPlay_107_p70 ih h)
    · replace h := (if_neg g1).symm.trans h
      exact z_fr.refl.trans (R_X8_readPlay_107_p70 ih h)
theorem R_X8_readPlay_107_p40 {n : Nat} {x1 : Int32} {M M' : zMM} (h : f_X8_readPlay_107_p40  n x1 M = some M') : z_fr w_X8_readPlay_107 M M' := R0_X8_readPlay_107_p40 _ _ _ _ h
theorem R_X8_readPlay_107 {M M' : zMM} (h : f_X8_readPlay_107 M = some M') : z_fr w_X8_readPlay_107 M M' := by
  replace h : (  z_bi (f_X8_begin_107 (3 : Int32) (4 : Int32) M) fun v2 M3 =>
  if v2 = 0 then
    some M3
  else
    z_bi (f_X8_readNumber_107 (1 : Int32) (20 : Int32) M3) fun v6 M7 =>
    if z_ib ((4 : Int32) + (M3 109 8)) 8 = true then
      if z_ib ((4 : Int32) + (M3 109 8)) 8 = true then
        f_X8_readPlay_107_p40 z_fuel ((4 : Int32) + (M3 109 8)) (z_up (z_up M7 118 ((4 : Int32) + (M3 109 8)).toNatClampNeg v6) 120 ((4 : Int32) + (M3 109 8)).toNatClampNeg (0 : Int32))
      else none
    else none) = some M' := h
  obtain ⟨v2, M3, c1, h⟩ := z_bi_c h
  have q1 : z_fr w_X8_readPlay_107 M M3 := z_fr.refl.sub (R_X8_begin_107 c1) (by decide)
  by_cases g2 : v2 = 0
  · replace h := (if_pos g2).symm.trans h
    cases h
    exact q1
  · replace h := (if_neg g2).symm.trans h
    obtain ⟨v6, M7, c3, h⟩ := z_bi_c h
    have q3 : z_fr w_X8_readPlay_107 M M7 := q1.sub (R_X8_readNumber_107 c3) (by decide)
    obtain ⟨g4, h⟩ := z_ifn h
    obtain ⟨g5, h⟩ := z_ifn h
    exact ((q3.up rfl).up rfl).trans (R_X8_readPlay_107_p40 h)
def w_X8_oneNow_107 : zWs := ([(107, 24), (107, 25)], [])
theorem R_X8_oneNow_107 {x1 : Int32} {M M' : zMM} {v : Int32} (h : f_X8_oneNow_107 x1 M = some (v, M')) : z_fr w_X8_oneNow_107 M M' := by
  replace h : (  z_bi (f_X8_numberNow_107 (0 : Int32) (9999 : Int32) M) fun v2 M3 =>
  if (M3 107 24) = 0 then
    if z_ib ((5 : Int32) + x1) 10 = true then
      if v2 < (M3 109 ((5 : Int32) + x1).toNatClampNeg) then
        if (M3 107 24) = 0 then
          some (v2, M3)
        else
          some ((0 : Int32), M3)
      else
        z_bv (f_X8_wrong_107 (3 : Int32) M3) fun M10 =>
        if (M10 107 24) = 0 then
          some (v2, M10)
        else
          some ((0 : Int32), M10)
    else none
  else
    if (M3 107 24) = 0 then
      some (v2, M3)
    else
      some ((0 : Int32), M3)) = some (v, M') := h
  obtain ⟨v2, M3, c1, h⟩ := z_bi_c h
  have q1 : z_fr w_X8_oneNow_107 M M3 := z_fr.refl.sub (R_X8_numberNow_107 c1) (by decide)
  by_cases g2 : (M3 107 24) = 0
  · replace h := (if_pos g2).symm.trans h
    obtain ⟨g3, h⟩ := z_ifn h
    by_cases g4 : v2 < (M3 109 ((5 : Int32) + x1).toNatClampNeg)
    · replace h := (if_pos g4).symm.trans h
      by_cases g5 : (M3 107 24) = 0
      · replace h := (if_pos g5).symm.trans h
        cases h
        exact q1
      · replace h := (if_neg g5).symm.trans h
        cases h
        exact q1
    · replace h := (if_neg g4).symm.trans h
      obtain ⟨M10, c6, h⟩ := z_bv_c h
      have q6 : z_fr w_X8_oneNow_107 M M10 := q1.sub (R_X8_wrong_107 c6) (by decide)
      by_cases g7 : (M10 107 24) = 0
      · replace h := (if_pos g7).symm.trans h
        cases h
        exact q6
      · replace h := (if_neg g7).symm.trans h
        cases h
        exact q6
  · replace h := (if_neg g2).symm.trans h
    by_cases g8 : (M3 107 24) = 0
    · replace h := (if_pos g8).symm.trans h
      cases h
      exact q1
    · replace h := (if_neg g8).symm.trans h
      cases h
      exact q1
def w_X8_readOne_107 : zWs := ([(107, 18), (107, 20), (107, 21), (107, 22), (107, 23), (107, 24), (107, 25)], [])
theorem R_X8_readOne_107 {x1 : Int32} {M M' : zMM} {v : Int32} (h : f_X8_readOne_107 x1 M = some (v, M')) : z_fr w_X8_readOne_107 M M' := by
  replace h : (  z_bi (f_X8_oneNow_107 x1 M) fun v2 M3 =>
  if (M3 107 24) = 0 then
    z_bv (f_X8_stepOn_107  M3) fun M7 =>
    some (v2, M7)
  else
    some (v2, M3)) = some (v, M') := h
  obtain ⟨v2, M3, c1, h⟩ := z_bi_c h
  have q1 : z_fr w_X8_readOne_107 M M3 := z_fr.refl.sub (R_X8_oneNow_107 c1) (by decide)
  by_cases g2 : (M3 107 24) = 0
  · replace h := (if_pos g2).symm.trans h
    obtain ⟨M7, c3, h⟩ := z_bv_c h
    have q3 : z_fr w_X8_readOne_107 M M7 := q1.sub (R_X8_stepOn_107 c3) (by decide)
    cases h
    exact q3
  · replace h := (if_neg g2).symm.trans h
    cases h
    exact q1
def w_X8_readThing_107 : zWs := ([(107, 18), (107, 20), (107, 21), (107, 22), (107, 23), (107, 24), (107, 25)], [109, 116, 117])
theorem R_X8_readThing_107 {M M' : zMM} (h : f_X8_readThing_107 M = some M') : z_fr w_X8_readThing_107 M M' := by
  replace h : (  z_bi (f_X8_begin_107 (2 : Int32) (10 : Int32) M) fun v2 M3 =>
  if v2 = 0 then
    some M3
  else
    z_bi (f_X8_readNumber_107 (0 : Int32) (19 : Int32) M3) fun v6 M7 =>
    if z_ib ((11 : Int32) + (M3 109 7)) 22 = true then
      z_bi (f_X8_readOne_107 (1 : Int32) (z_up M7 116 ((11 : Int32) + (M3 109 7)).toNatClampNeg v6)) fun v10 M11 =>
      if z_ib ((11 : Int32) + (M3 109 7)) 22 = true then
        some (z_up (z_up M11 117 ((11 : Int32) + (M3 109 7)).toNatClampNeg v10) 109 7 ((M11 109 7) + (1 : Int32)))
      else none
    else none) = some M' := h
  obtain ⟨v2, M3, c1, h⟩ := z_bi_c h
  have q1 : z_fr w_X8_readThing_107 M M3 := z_fr.refl.sub (R_X8_begin_107 c1) (by decide)
  by_cases g2 : v2 = 0
  · replace h := (if_pos g2).symm.trans h
    cases h
    exact q1
  · replace h := (if_neg g2).symm.trans h
    obtain ⟨v6, M7, c3, h⟩ := z_bi_c h
    have q3 : z_fr w_X8_readThing_107 M M7 := q1.sub (R_X8_readNumber_107 c3) (by decide)
    obtain ⟨g4, h⟩ := z_ifn h
    obtain ⟨v10, M11, c5, h⟩ := z_bi_c h
    have q5 : z_fr w_X8_readThing_107 M M11 := (q3.up rfl).sub (R_X8_readOne_107 c5) (by decide)
    obtain ⟨g6, h⟩ := z_ifn h
    cases h
    exact ((q5.up rfl).up rfl)
def w_X8_readTrain_107 : zWs := ([(107, 18), (107, 20), (107, 21), (107, 22), (107, 23), (107, 24), (107, 25)], [114])
theorem R_X8_readTrain_107_p47 {x3 : Int32} {M M' : zMM} (h : f_X8_readTrain_107_p47 x3 M = some M') : z_fr w_X8_readTrain_107 M M' := by
  replace h : (  if (M 107 24) = 0 then
    z_bv (f_X8_stepOn_107  M) fun M15 =>
    z_bi (f_X8_readNumber_107 (1 : Int32) (9 : Int32) M15) fun v17 M18 =>
    if z_ib x3 50 = true then
      some (z_up M18 114 x3.toNatClampNeg v17)
    else none
  else
    some M) = some M' := h
  by_cases g1 : (M 107 24) = 0
  · replace h := (if_pos g1).symm.trans h
    obtain ⟨M15, c2, h⟩ := z_bv_c h
    have q2 : z_fr w_X8_readTrain_107 M M15 := z_fr.refl.sub (R_X8_stepOn_107 c2) (by decide)
    obtain ⟨v17, M18, c3, h⟩ := z_bi_c h
    have q3 : z_fr w_X8_readTrain_107 M M18 := q2.sub (R_X8_readNumber_107 c3) (by decide)
    obtain ⟨g4, h⟩ := z_ifn h
    cases h
    exact (q3.up rfl)
  · replace h := (if_neg g1).symm.trans h
    cases h
    exact z_fr.refl
theorem R_X8_readTrain_107_p42 {x3 : Int32} {M M' : zMM} (h : f_X8_readTrain_107_p42 x3 M = some M') : z_fr w_X8_readTrain_107 M M' := by
  replace h : (  z_bv (f_X8_wrong_107 (4 : Int32) M) fun M11 =>
  f_X8_readTrain_107_p47 x3 M11) = some M' := h
  obtain ⟨M11, c1, h⟩ := z_bv_c h
  have q1 : z_fr w_X8_readTrain_107 M M11 := z_fr.refl.sub (R_X8_wrong_107 c1) (by decide)
  exact q1.trans (R_X8_readTrain_107_p47 h)
theorem R_X8_readTrain_107 {M M' : zMM} (h : f_X8_readTrain_107 M = some M') : z_fr w_X8_readTrain_107 M M' := by
  replace h : (  z_bi (f_X8_readOne_107 (0 : Int32) M) fun v2 M3 =>
  z_bi (f_X8_oneNow_107 (0 : Int32) M3) fun v5 M6 =>
  if (M6 107 24) = 0 then
    if v2 = v5 then
      f_X8_readTrain_107_p42 (((25 : Int32) + ((5 : Int32) * v2)) + v5) M6
    else
      if z_ib (((25 : Int32) + ((5 : Int32) * v2)) + v5) 50 = true then
        if (M6 114 (((25 : Int32) + ((5 : Int32) * v2)) + v5).toNatClampNeg) ≤ 0 then
          f_X8_readTrain_107_p47 (((25 : Int32) + ((5 : Int32) * v2)) + v5) M6
        else
          f_X8_readTrain_107_p42 (((25 : Int32) + ((5 : Int32) * v2)) + v5) M6
      else none
  else
    f_X8_readTrain_107_p47 (((25 : Int32) + ((5 : Int32) * v2)) + v5) M6) = some M' := h
  obtain ⟨v2, M3, c1, h⟩ := z_bi_c h
  have q1 : z_fr w_X8_readTrain_107 M M3 := z_fr.refl.sub (R_X8_readOne_107 c1) (by decide)
  obtain ⟨v5, M6, c2, h⟩ := z_bi_c h
  have q2 : z_fr w_X8_readTrain_107 M M6 := q1.sub (R_X8_oneNow_107 c2) (by decide)
  by_cases g3 : (M6 107 24) = 0
  · replace h := (if_pos g3).symm.trans h
    by_cases g4 : v2 = v5
    · replace h := (if_pos g4).symm.trans h
      exact q2.trans (R_X8_readTrain_107_p42 h)
    · replace h := (if_neg g4).symm.trans h
      obtain ⟨g5, h⟩ := z_ifn h
      by_cases g6 : (M6 114 (((25 : Int32) + ((5 : Int32) * v2)) + v5).toNatClampNeg) ≤ 0
      · replace h := (if_pos g6).symm.trans h
        exact q2.trans (R_X8_readTrain_107_p47 h)
      · replace h := (if_neg g6).symm.trans h
        exact q2.trans (R_X8_readTrain_107_p42 h)
  · replace h := (if_neg g3).symm.trans h
    exact q2.trans (R_X8_readTrain_107_p47 h)
def w_X8_passes_107_20 : zWs := ([(107, 18), (107, 20), (107, 21), (107, 22), (107, 23)], [])
theorem R_X8_passes_107_20 {M M' : zMM} {v : Int32} (h : f_X8_passes_107_20 M = some (v, M')) : z_fr w_X8_passes_107_20 M M' := by
  replace h : (  z_bi (f_X8_is_107 20 M) fun v2 M3 =>
  if v2 = 0 then
    if z_zb v2 = true then some (v2, M3) else none
  else
    z_bv (f_X8_stepOn_107  M3) fun M8 =>
    if z_zb v2 = true then some (v2, M8) else none) = some (v, M') := h
  obtain ⟨v2, M3, c1, h⟩ := z_bi_c h
  have q1 : z_fr w_X8_passes_107_20 M M3 := z_fr.refl.sub (R_X8_is_107 c1) (by decide)
  by_cases g2 : v2 = 0
  · replace h := (if_pos g2).symm.trans h
    obtain ⟨g3, h⟩ := z_ifn h
    cases h
    exact q1
  · replace h := (if_neg g2).symm.trans h
    obtain ⟨M8, c4, h⟩ := z_bv_c h
    have q4 : z_fr w_X8_passes_107_20 M M8 := q1.sub (R_X8_stepOn_107 c4) (by decide)
    obtain ⟨g5, h⟩ := z_ifn h
    cases h
    exact q4
def w_X8_readTown_107 : zWs := ([(107, 18), (107, 20), (107, 21), (107, 22), (107, 23), (107, 24), (107, 25)], [109, 110, 111, 112, 113])
theorem R_X8_readTown_107_p151 {a0 : Int32} {a1 : Int32} {M M' : zMM} (h : f_X8_readTown_107_p151 a0 a1 M = some M') : z_fr w_X8_readTown_107 M M' := by
  replace h : (  if z_ib a1 10 = true then
    some (z_up (z_up M 113 a1.toNatClampNeg a0) 109 5 ((M 109 5) + (1 : Int32)))
  else none) = some M' := h
  obtain ⟨g1, h⟩ := z_ifn h
  cases h
  exact ((z_fr.refl.up rfl).up rfl)
theorem R_X8_readTown_107_p130 {x1 : Int32} {x3 : Int32} {a0 : Int32} {a1 : Int32} {M M' : zMM} (h : f_X8_readTown_107_p130 x1 x3 a0 a1 M = some M') : z_fr w_X8_readTown_107 M M' := by
  replace h : (  if z_ib a1 10 = true then
    if x3 = 0 then
      f_X8_readTown_107_p151 (0 : Int32) x1 (z_up M 112 a1.toNatClampNeg a0)
    else
      z_bi (f_X8_readNumber_107 (0 : Int32) (99 : Int32) (z_up M 112 a1.toNatClampNeg a0)) fun v25 M26 =>
      f_X8_readTown_107_p151 v25 x1 M26
  else none) = some M' := h
  obtain ⟨g1, h⟩ := z_ifn h
  by_cases g2 : x3 = 0
  · replace h := (if_pos g2).symm.trans h
    exact (z_fr.refl.up rfl).trans (R_X8_readTown_107_p151 h)
  · replace h := (if_neg g2).symm.trans h
    obtain ⟨v25, M26, c3, h⟩ := z_bi_c h
    have q3 : z_fr w_X8_readTown_107 M M26 := (z_fr.refl.up rfl).sub (R_X8_readNumber_107 c3) (by decide)
    exact q3.trans (R_X8_readTown_107_p151 h)
theorem R_X8_readTown_107_p102 {x1 : Int32} {a0 : Int32} {a1 : Int32} {M M' : zMM} (h : f_X8_readTown_107_p102 x1 a0 a1 M = some M') : z_fr w_X8_readTown_107 M M' := by
  replace h : (  if z_ib a1 10 = true then
    z_bi (f_X8_passes_107_20  (z_up M 111 a1.toNatClampNeg a0)) fun v18 M19 =>
    if v18 = 0 then
      f_X8_readTown_107_p130 x1 v18 (0 : Int32) x1 M19
    else
      z_bi (f_X8_readNumber_107 (0 : Int32) (9 : Int32) M19) fun v28 M29 =>
      f_X8_readTown_107_p130 x1 v18 v28 x1 M29
  else none) = some M' := h
  obtain ⟨g1, h⟩ := z_ifn h
  obtain ⟨v18, M19, c2, h⟩ := z_bi_c h
  have q2 : z_fr w_X8_readTown_107 M M19 := (z_fr.refl.up rfl).sub (R_X8_passes_107_20 c2) (by decide)
  by_cases g3 : v18 = 0
  · replace h := (if_pos g3).symm.trans h
    exact q2.trans (R_X8_readTown_107_p130 h)
  · replace h := (if_neg g3).symm.trans h
    obtain ⟨v28, M29, c4, h⟩ := z_bi_c h
    have q4 : z_fr w_X8_readTown_107 M M29 := q2.sub (R_X8_readNumber_107 c4) (by decide)
    exact q4.trans (R_X8_readTown_107_p130 h)
theorem R_X8_readTown_107_p74 {x1 : Int32} {x2 : Int32} {M M' : zMM} (h : f_X8_readTown_107_p74 x1 x2 M = some M') : z_fr w_X8_readTown_107 M M' := by
  replace h : (  if z_ib x1 10 = true then
    if x2 = 0 then
      f_X8_readTown_107_p102 x1 (0 : Int32) x1 (z_up M 110 x1.toNatClampNeg x2)
    else
      z_bi (f_X8_readNumber_107 (0 : Int32) (1000 : Int32) (z_up M 110 x1.toNatClampNeg x2)) fun v31 M32 =>
      f_X8_readTown_107_p102 x1 v31 x1 M32
  else none) = some M' := h
  obtain ⟨g1, h⟩ := z_ifn h
  by_cases g2 : x2 = 0
  · replace h := (if_pos g2).symm.trans h
    exact (z_fr.refl.up rfl).trans (R_X8_readTown_107_p102 h)
  · replace h := (if_neg g2).symm.trans h
    obtain ⟨v31, M32, c3, h⟩ := z_bi_c h
    have q3 : z_fr w_X8_readTown_107 M M32 := (z_fr.refl.up rfl).sub (R_X8_readNumber_107 c3) (by decide)
    exact q3.trans (R_X8_readTown_107_p102 h)
theorem R_X8_readTown_107_p63 {x1 : Int32} {x2 : Int32} {M M' : zMM} (h : f_X8_readTown_107_p63 x1 x2 M = some M') : z_fr w_X8_readTown_107 M M' := by
  replace h : (  if (M 107 24) = 0 then
    z_bv (f_X8_stepOn_107  M) fun M13 =>
    f_X8_readTown_107_p74 x1 x2 M13
  else
    f_X8_readTown_107_p74 x1 x2 M) = some M' := h
  by_cases g1 : (M 107 24) = 0
  · replace h := (if_pos g1).symm.trans h
    obtain ⟨M13, c2, h⟩ := z_bv_c h
    have q2 : z_fr w_X8_readTown_107 M M13 := z_fr.refl.sub (R_X8_stepOn_107 c2) (by decide)
    exact q2.trans (R_X8_readTown_107_p74 h)
  · replace h := (if_neg g1).symm.trans h
    exact z_fr.refl.trans (R_X8_readTown_107_p74 h)
theorem R0_X8_readTown_107_p23 : ∀ (n : Nat) (x1 : Int32) (x2 : Int32) (x3 : Int32) (M M' : zMM) , f_X8_readTown_107_p23  n x1 x2 x3 M = some M' → z_fr w_X8_readTown_107 M M' := by
  intro n
  induction n with
  | zero => intro x1 x2 x3 M M' h; cases h
  | succ n ih =>
    intro x1 x2 x3 M M' h
    replace h : (  if (4 : Int32) ≤ x3 then
    if x2 = (-1 : Int32) then
      z_bv (f_X8_wrong_107 (1 : Int32) M) fun M9 =>
      f_X8_readTown_107_p63 x1 x2 M9
    else
      f_X8_readTown_107_p63 x1 x2 M
  else
    if z_ib x3 4 = true then
      z_bi (f_X8_is_107 (z_kd x3) M) fun v35 M36 =>
      if v35 = 0 then
        f_X8_readTown_107_p23 n x1 x2 (x3 + (1 : Int32)) M36
      else
        f_X8_readTown_107_p23 n x1 x3 (x3 + (1 : Int32)) M36
    else none) = some M' := h
    by_cases g1 : (4 : Int32) ≤ x3
    · replace h := (if_pos g1).symm.trans h
      by_cases g2 : x2 = (-1 : Int32)
      · replace h := (if_pos g2).symm.trans h
        obtain ⟨M9, c3, h⟩ := z_bv_c h
        have q3 : z_fr w_X8_readTown_107 M M9 := z_fr.refl.sub (R_X8_wrong_107 c3) (by decide)
        exact q3.trans (R_X8_readTown_107_p63 h)
      · replace h := (if_neg g2).symm.trans h
        exact z_fr.refl.trans (R_X8_readTown_107_p63 h)
    · replace h := (if_neg g1).symm.trans h
      obtain ⟨g4, h⟩ := z_ifn h
      obtain ⟨v35, M36, c5, h⟩ := z_bi_c h
      have q5 : z_fr w_X8_readTown_107 M M36 := z_fr.refl.sub (R_X8_is_107 c5) (by decide)
      by_cases g6 : v35 = 0
      · replace h := (if_pos g6).symm.trans h
        exact q5.trans (ih _ _ _ _ _ h)
      · replace h := (if_neg g6).symm.trans h
        exact q5.trans (ih _ _ _ _ _ h)
theorem R_X8_readTown_107_p23 {n : Nat} {x1 : Int32} {x2 : Int32} {x3 : Int32} {M M' : zMM} (h : f_X8_readTown_107_p23  n x1 x2 x3 M = some M') : z_fr w_X8_readTown_107 M M' := R0_X8_readTown_107_p23 _ _ _ _ _ _ h
theorem R_X8_readTown_107 {M M' : zMM} (h : f_X8_readTown_107 M = some M') : z_fr w_X8_readTown_107 M M' := by
  replace h : (  z_bi (f_X8_begin_107 (0 : Int32) (5 : Int32) M) fun v2 M3 =>
  if v2 = 0 then
    some M3
  else
    f_X8_readTown_107_p23 z_fuel ((5 : Int32) + (M3 109 5)) (-1 : Int32) (0 : Int32) M3) = some M' := h
  obtain ⟨v2, M3, c1, h⟩ := z_bi_c h
  have q1 : z_fr w_X8_readTown_107 M M3 := z_fr.refl.sub (R_X8_begin_107 c1) (by decide)
  by_cases g2 : v2 = 0
  · replace h := (if_pos g2).symm.trans h
    cases h
    exact q1
  · replace h := (if_neg g2).symm.trans h
    exact q1.trans (R_X8_readTown_107_p23 h)
def w_X8_readLine_107 : zWs := ([(107, 18), (107, 20), (107, 21), (107, 22), (107, 23), (107, 24), (107, 25)], [109, 110, 111, 112, 113, 114, 115, 116, 117, 118, 119, 120, 121])
theorem R_X8_readLine_107_p187 {x2 : Int32} {M M' : zMM} {v : Int32} (h : f_X8_readLine_107_p187 x2 M = some (v, M')) : z_fr w_X8_readLine_107 M M' := by
  replace h : (  if (M 107 24) = 0 then
    if (M 107 20) = (3 : Int32) then
      if (M 107 24) = 0 then
        z_bv (f_X8_stepOn_107  M) fun M44 =>
        if z_zb x2 = true then some (x2, M44) else none
      else
        if z_zb x2 = true then some (x2, M) else none
    else
      z_bv (f_X8_wrong_107 (1 : Int32) M) fun M49 =>
      if (M49 107 24) = 0 then
        z_bv (f_X8_stepOn_107  M49) fun M53 =>
        if z_zb x2 = true then some (x2, M53) else none
      else
        if z_zb x2 = true then some (x2, M49) else none
  else
    if (M 107 24) = 0 then
      z_bv (f_X8_stepOn_107  M) fun M59 =>
      if z_zb x2 = true then some (x2, M59) else none
    else
      if z_zb x2 = true then some (x2, M) else none) = some (v, M') := h
  by_cases g1 : (M 107 24) = 0
  · replace h := (if_pos g1).symm.trans h
    by_cases g2 : (M 107 20) = (3 : Int32)
    · replace h := (if_pos g2).symm.trans h
      by_cases g3 : (M 107 24) = 0
      · replace h := (if_pos g3).symm.trans h
        obtain ⟨M44, c4, h⟩ := z_bv_c h
        have q4 : z_fr w_X8_readLine_107 M M44 := z_fr.refl.sub (R_X8_stepOn_107 c4) (by decide)
        obtain ⟨g5, h⟩ := z_ifn h
        cases h
        exact q4
      · replace h := (if_neg g3).symm.trans h
        obtain ⟨g6, h⟩ := z_ifn h
        cases h
        exact z_fr.refl
    · replace h := (if_neg g2).symm.trans h
      obtain ⟨M49, c7, h⟩ := z_bv_c h
      have q7 : z_fr w_X8_readLine_107 M M49 := z_fr.refl.sub (R_X8_wrong_107 c7) (by decide)
      by_cases g8 : (M49 107 24) = 0
      · replace h := (if_pos g8).symm.trans h
        obtain ⟨M53, c9, h⟩ := z_bv_c h
        have q9 : z_fr w_X8_readLine_107 M M53 := q7.sub (R_X8_stepOn_107 c9) (by decide)
        obtain ⟨g10, h⟩ := z_ifn h
        cases h
        exact q9
      · replace h := (if_neg g8).symm.trans h
        obtain ⟨g11, h⟩ := z_ifn h
        cases h
        exact q7
  · replace h := (if_neg g1).symm.trans h
    by_cases g12 : (M 107 24) = 0
    · replace h := (if_pos g12).symm.trans h
      obtain ⟨M59, c13, h⟩ := z_bv_c h
      have q13 : z_fr w_X8_readLine_107 M M59 := z_fr.refl.sub (R_X8_stepOn_107 c13) (by decide)
      obtain ⟨g14, h⟩ := z_ifn h
      cases h
      exact q13
    · replace h := (if_neg g12).symm.trans h
      obtain ⟨g15, h⟩ := z_ifn h
      cases h
      exact z_fr.refl
theorem R_X8_readLine_107_p171 {M M' : zMM} {v : Int32} (h : f_X8_readLine_107_p171 M = some (v, M')) : z_fr w_X8_readLine_107 M M' := by
  replace h : (  z_bi (f_X8_readNumber_107 (1 : Int32) (40 : Int32) M) fun v37 M38 =>
  f_X8_readLine_107_p187 (1 : Int32) (z_up M38 109 9 v37)) = some (v, M') := h
  obtain ⟨v37, M38, c1, h⟩ := z_bi_c h
  have q1 : z_fr w_X8_readLine_107 M M38 := z_fr.refl.sub (R_X8_readNumber_107 c1) (by decide)
  exact (q1.up rfl).trans (R_X8_readLine_107_p187 h)
theorem R_X8_readLine_107_p160 {M M' : zMM} {v : Int32} (h : f_X8_readLine_107_p160 M = some (v, M')) : z_fr w_X8_readLine_107 M M' := by
  replace h : (  if (M 107 24) = 0 then
    z_bv (f_X8_stepOn_107  M) fun M35 =>
    f_X8_readLine_107_p171  M35
  else
    f_X8_readLine_107_p171  M) = some (v, M') := h
  by_cases g1 : (M 107 24) = 0
  · replace h := (if_pos g1).symm.trans h
    obtain ⟨M35, c2, h⟩ := z_bv_c h
    have q2 : z_fr w_X8_readLine_107 M M35 := z_fr.refl.sub (R_X8_stepOn_107 c2) (by decide)
    exact q2.trans (R_X8_readLine_107_p171 h)
  · replace h := (if_neg g1).symm.trans h
    exact z_fr.refl.trans (R_X8_readLine_107_p171 h)
theorem R_X8_readLine_107 {x1 : Int32} {M M' : zMM} {v : Int32} (h : f_X8_readLine_107 x1 M = some (v, M')) : z_fr w_X8_readLine_107 M M' := by
  replace h : (  z_bi (f_X8_is_107 19 M) fun v2 M3 =>
  if v2 = 0 then
    z_bi (f_X8_passes_107_21  M3) fun v6 M7 =>
    if v6 = 0 then
      z_bi (f_X8_is_107 22 M7) fun v10 M11 =>
      if v10 = 0 then
        z_bi (f_X8_is_107 23 M11) fun v14 M15 =>
        if v14 = 0 then
          z_bi (f_X8_is_107 24 M15) fun v18 M19 =>
          if v18 = 0 then
            z_bi (f_X8_passes_107_25  M19) fun v22 M23 =>
            if v22 = 0 then
              z_bi (f_X8_is_107 26 M23) fun v26 M27 =>
              if v26 = 0 then
                z_bv (f_X8_wrong_107 (1 : Int32) M27) fun M31 =>
                f_X8_readLine_107_p160  M31
              else
                if x1 = 0 then
                  f_X8_readLine_107_p160  M27
                else
                  z_bv (f_X8_wrong_107 (5 : Int32) M27) fun M65 =>
                  f_X8_readLine_107_p160  M65
            else
              z_bv (f_X8_readLike_107  M23) fun M68 =>
              f_X8_readLine_107_p187 x1 M68
          else
            z_bv (f_X8_readPlay_107  M19) fun M71 =>
            f_X8_readLine_107_p187 x1 M71
        else
          z_bv (f_X8_readThing_107  M15) fun M74 =>
          f_X8_readLine_107_p187 x1 M74
      else
        z_bi (f_X8_begin_107 (1 : Int32) (5 : Int32) M11) fun v76 M77 =>
        if v76 = 0 then
          f_X8_readLine_107_p187 x1 M77
        else
          z_bi (f_X8_readOne_107 (0 : Int32) M77) fun v80 M81 =>
          if z_ib (M77 109 6) 5 = true then
            f_X8_readLine_107_p187 x1 (z_up (z_up M81 115 (M77 109 6).toNatClampNeg v80) 109 6 ((M81 109 6) + (1 : Int32)))
          else none
    else
      z_bv (f_X8_readTrain_107  M7) fun M85 =>
      f_X8_readLine_107_p187 x1 M85
  else
    z_bv (f_X8_readTown_107  M3) fun M88 =>
    f_X8_readLine_107_p187 x1 M88) = some (v, M') := h
  obtain ⟨v2, M3, c1, h⟩ := z_bi_c h
  have q1 : z_fr w_X8_readLine_107 M M3 := z_fr.refl.sub (R_X8_is_107 c1) (by decide)
  by_cases g2 : v2 = 0
  · replace h := (if_pos g2).symm.trans h
    obtain ⟨v6, M7, c3, h⟩ := z_bi_c h
    have q3 : z_fr w_X8_readLine_107 M M7 := q1.sub (R_X8_passes_107_21 c3) (by decide)
    by_cases g4 : v6 = 0
    · replace h := (if_pos g4).symm.trans h
      obtain ⟨v10, M11, c5, h⟩ := z_bi_c h
      have q5 : z_fr w_X8_readLine_107 M M11 := q3.sub (R_X8_is_107 c5) (by decide)
      by_cases g6 : v10 = 0
      · replace h := (if_pos g6).symm.trans h
        obtain ⟨v14, M15, c7, h⟩ := z_bi_c h
        have q7 : z_fr w_X8_readLine_107 M M15 := q5.sub (R_X8_is_107 c7) (by decide)
        by_cases g8 : v14 = 0
        · replace h := (if_pos g8).symm.trans h
          obtain ⟨v18, M19, c9, h⟩ := z_bi_c h
          have q9 : z_fr w_X8_readLine_107 M M19 := q7.sub (R_X8_is_107 c9) (by decide)
          by_cases g10 : v18 = 0
          · replace h := (if_pos g10).symm.trans h
            obtain ⟨v22, M23, c11, h⟩ := z_bi_c h
            have q11 : z_fr w_X8_readLine_107 M M23 := q9.sub (R_X8_passes_107_25 c11) (by decide)
            by_cases g12 : v22 = 0
            · replace h := (if_pos g12).symm.trans h
              obtain ⟨v26, M27, c13, h⟩ := z_bi_c h
              have q13 : z_fr w_X8_readLine_107 M M27 := q11.sub (R_X8_is_107 c13) (by decide)
              by_cases g14 : v26 = 0
              · replace h := (if_pos g14).symm.trans h
                obtain ⟨M31, c15, h⟩ := z_bv_c h
                have q15 : z_fr w_X8_readLine_107 M M31 := q13.sub (R_X8_wrong_107 c15) (by decide)
                exact q15.trans (R_X8_readLine_107_p160 h)
              · replace h := (if_neg g14).symm.trans h
                by_cases g16 : x1 = 0
                · replace h := (if_pos g16).symm.trans h
                  exact q13.trans (R_X8_readLine_107_p160 h)
                · replace h := (if_neg g16).symm.trans h
                  obtain ⟨M65, c17, h⟩ := z_bv_c h
                  have q17 : z_fr w_X8_readLine_107 M M65 := q13.sub (R_X8_wrong_107 c17) (by decide)
                  exact q17.trans (R_X8_readLine_107_p160 h)
            · replace h := (if_neg g12).symm.trans h
              obtain ⟨M68, c18, h⟩ := z_bv_c h
              have q18 : z_fr w_X8_readLine_107 M M68 := q11.sub (R_X8_readLike_107 c18) (by decide)
              exact q18.trans (R_X8_readLine_107_p187 h)
          · replace h := (if_neg g10).symm.trans h
            obtain ⟨M71, c19, h⟩ := z_bv_c h
            have q19 : z_fr w_X8_readLine_107 M M71 := q9.sub (R_X8_readPlay_107 c19) (by decide)
            exact q19.trans (R_X8_readLine_107_p187 h)
        · replace h := (if_neg g8).symm.trans h
          obtain ⟨M74, c20, h⟩ := z_bv_c h
          have q20 : z_fr w_X8_readLine_107 M M74 := q7.sub (R_X8_readThing_107 c20) (by decide)
          exact q20.trans (R_X8_readLine_107_p187 h)
      · replace h := (if_neg g6).symm.trans h
        obtain ⟨v76, M77, c21, h⟩ := z_bi_c h
        have q21 : z_fr w_X8_readLine_107 M M77 := q5.sub (R_X8_begin_107 c21) (by decide)
        by_cases g22 : v76 = 0
        · replace h := (if_pos g22).symm.trans h
          exact q21.trans (R_X8_readLine_107_p187 h)
        · replace h := (if_neg g22).symm.trans h
          obtain ⟨v80, M81, c23, h⟩ := z_bi_c h
          have q23 : z_fr w_X8_readLine_107 M M81 := q21.sub (R_X8_readOne_107 c23) (by decide)
          obtain ⟨g24, h⟩ := z_ifn h
          exact ((q23.up rfl).up rfl).trans (R_X8_readLine_107_p187 h)
    · replace h := (if_neg g4).symm.trans h
      obtain ⟨M85, c25, h⟩ := z_bv_c h
      have q25 : z_fr w_X8_readLine_107 M M85 := q3.sub (R_X8_readTrain_107 c25) (by decide)
      exact q25.trans (R_X8_readLine_107_p187 h)
  · replace h := (if_neg g2).symm.trans h
    obtain ⟨M88, c26, h⟩ := z_bv_c h
    have q26 : z_fr w_X8_readLine_107 M M88 := q1.sub (R_X8_readTown_107 c26) (by decide)
    exact q26.trans (R_X8_readLine_107_p187 h)
def w_X8_told_107 : zWs := ([(107, 1), (107, 17), (107, 18), (107, 19), (107, 20), (107, 21), (107, 22), (107, 23), (107, 24), (107, 25), (107, 26), (107, 29), (107, 31), (107, 32), (107, 33), (107, 53), (107, 54)], [109, 110, 111, 112, 113, 114, 115, 116, 117, 118, 119, 120, 121, 122, 124, 125, 126, 127])
theorem R_X8_told_107_p159 {M M' : zMM} {v : Int32} (h : f_X8_told_107_p159 M = some (v, M')) : z_fr w_X8_told_107 M M' := by
  replace h : (  if (M 107 24) = 0 then
    z_bv (f_X8_take_107  M) fun M17 =>
    some ((0 : Int32), M17)
  else
    some ((M 107 24), (z_up (z_up M 107 26 (M 107 25)) 122 0 ((M 122 0) + (1 : Int32))))) = some (v, M') := h
  by_cases g1 : (M 107 24) = 0
  · replace h := (if_pos g1).symm.trans h
    obtain ⟨M17, c2, h⟩ := z_bv_c h
    have q2 : z_fr w_X8_told_107 M M17 := z_fr.refl.sub (R_X8_take_107 c2) (by decide)
    cases h
    exact q2
  · replace h := (if_neg g1).symm.trans h
    cases h
    exact ((z_fr.refl.up rfl).up rfl)
theorem R0_X8_told_107_p136 : ∀ (n : Nat) (x2 : Int32) (M M' : zMM) (v : Int32), f_X8_told_107_p136  n x2 M = some (v, M') → z_fr w_X8_told_107 M M' := by
  intro n
  induction n with
  | zero => intro x2 M M' v h; cases h
  | succ n ih =>
    intro x2 M M' v h
    replace h : (  if (M 107 24) = 0 then
    if (M 107 20) = 0 then
      f_X8_told_107_p159  M
    else
      z_bi (f_X8_readLine_107 x2 M) fun v19 M20 =>
      f_X8_told_107_p136 n v19 M20
  else
    f_X8_told_107_p159  M) = some (v, M') := h
    by_cases g1 : (M 107 24) = 0
    · replace h := (if_pos g1).symm.trans h
      by_cases g2 : (M 107 20) = 0
      · replace h := (if_pos g2).symm.trans h
        exact z_fr.refl.trans (R_X8_told_107_p159 h)
      · replace h := (if_neg g2).symm.trans h
        obtain ⟨v19, M20, c3, h⟩ := z_bi_c h
        have q3 : z_fr w_X8_told_107 M M20 := z_fr.refl.sub (R_X8_readLine_107 c3) (by decide)
        exact q3.trans (ih _ _ _ _ h)
    · replace h := (if_neg g1).symm.trans h
      exact z_fr.refl.trans (R_X8_told_107_p159 h)
theorem R_X8_told_107_p136 {n : Nat} {x2 : Int32} {M M' : zMM} {v : Int32} (h : f_X8_told_107_p136  n x2 M = some (v, M')) : z_fr w_X8_told_107 M M' := R0_X8_told_107_p136 _ _ _ _ _ h
theorem R0_X8_told_107_p106 : ∀ (n : Nat) (x2 : Int32) (M M' : zMM) (v : Int32), f_X8_told_107_p106  n x2 M = some (v, M') → z_fr w_X8_told_107 M M' := by
  intro n
  induction n with
  | zero => intro x2 M M' v h; cases h
  | succ n ih =>
    intro x2 M M' v h
    replace h : (  if (400 : Int32) ≤ x2 then
    z_bv (f_X8_stepOn_107  M) fun M11 =>
    f_X8_told_107_p136 z_fuel (0 : Int32) M11
  else
    if z_ib ((400 : Int32) + x2) 800 = true then
      f_X8_told_107_p106 n (x2 + (1 : Int32)) (z_up M 121 ((400 : Int32) + x2).toNatClampNeg (-1 : Int32))
    else none) = some (v, M') := h
    by_cases g1 : (400 : Int32) ≤ x2
    · replace h := (if_pos g1).symm.trans h
      obtain ⟨M11, c2, h⟩ := z_bv_c h
      have q2 : z_fr w_X8_told_107 M M11 := z_fr.refl.sub (R_X8_stepOn_107 c2) (by decide)
      exact q2.trans (R_X8_told_107_p136 h)
    · replace h := (if_neg g1).symm.trans h
      obtain ⟨g3, h⟩ := z_ifn h
      exact (z_fr.refl.up rfl).trans (ih _ _ _ _ h)
theorem R_X8_told_107_p106 {n : Nat} {x2 : Int32} {M M' : zMM} {v : Int32} (h : f_X8_told_107_p106  n x2 M = some (v, M')) : z_fr w_X8_told_107 M M' := R0_X8_told_107_p106 _ _ _ _ _ h
theorem R0_X8_told_107_p82 : ∀ (n : Nat) (x2 : Int32) (M M' : zMM) (v : Int32), f_X8_told_107_p82  n x2 M = some (v, M') → z_fr w_X8_told_107 M M' := by
  intro n
  induction n with
  | zero => intro x2 M M' v h; cases h
  | succ n ih =>
    intro x2 M M' v h
    replace h : (  if (25 : Int32) ≤ x2 then
    f_X8_told_107_p106 z_fuel (0 : Int32) M
  else
    if z_ib ((25 : Int32) + x2) 50 = true then
      f_X8_told_107_p82 n (x2 + (1 : Int32)) (z_up M 114 ((25 : Int32) + x2).toNatClampNeg (0 : Int32))
    else none) = some (v, M') := h
    by_cases g1 : (25 : Int32) ≤ x2
    · replace h := (if_pos g1).symm.trans h
      exact z_fr.refl.trans (R_X8_told_107_p106 h)
    · replace h := (if_neg g1).symm.trans h
      obtain ⟨g2, h⟩ := z_ifn h
      exact (z_fr.refl.up rfl).trans (ih _ _ _ _ h)
theorem R_X8_told_107_p82 {n : Nat} {x2 : Int32} {M M' : zMM} {v : Int32} (h : f_X8_told_107_p82  n x2 M = some (v, M')) : z_fr w_X8_told_107 M M' := R0_X8_told_107_p82 _ _ _ _ _ h
theorem R0_X8_told_107_p50 : ∀ (n : Nat) (x2 : Int32) (M M' : zMM) (v : Int32), f_X8_told_107_p50  n x2 M = some (v, M') → z_fr w_X8_told_107 M M' := by
  intro n
  induction n with
  | zero => intro x2 M M' v h; cases h
  | succ n ih =>
    intro x2 M M' v h
    replace h : (  if (10 : Int32) ≤ x2 then
    f_X8_told_107_p82 z_fuel (0 : Int32) M
  else
    if x2 = (9 : Int32) then
      if z_ib x2 10 = true then
        f_X8_told_107_p50 n (x2 + (1 : Int32)) (z_up M 109 x2.toNatClampNeg (11 : Int32))
      else none
    else
      if z_ib x2 10 = true then
        f_X8_told_107_p50 n (x2 + (1 : Int32)) (z_up M 109 x2.toNatClampNeg (0 : Int32))
      else none) = some (v, M') := h
    by_cases g1 : (10 : Int32) ≤ x2
    · replace h := (if_pos g1).symm.trans h
      exact z_fr.refl.trans (R_X8_told_107_p82 h)
    · replace h := (if_neg g1).symm.trans h
      by_cases g2 : x2 = (9 : Int32)
      · replace h := (if_pos g2).symm.trans h
        obtain ⟨g3, h⟩ := z_ifn h
        exact (z_fr.refl.up rfl).trans (ih _ _ _ _ h)
      · replace h := (if_neg g2).symm.trans h
        obtain ⟨g4, h⟩ := z_ifn h
        exact (z_fr.refl.up rfl).trans (ih _ _ _ _ h)
theorem R_X8_told_107_p50 {n : Nat} {x2 : Int32} {M M' : zMM} {v : Int32} (h : f_X8_told_107_p50  n x2 M = some (v, M')) : z_fr w_X8_told_107 M M' := R0_X8_told_107_p50 _ _ _ _ _ h
theorem R_X8_told_107 {x1 : Int32} {M M' : zMM} {v : Int32} (h : f_X8_told_107 x1 M = some (v, M')) : z_fr w_X8_told_107 M M' := by
  replace h : (  if x1 < 0 then
    z_bi (f_X8_fail_107 (1 : Int32) (z_up M 107 1 (0 : Int32))) fun v3 M4 =>
    some (v3, M4)
  else
    if x1 ≤ (M 107 17) then
      f_X8_told_107_p50 z_fuel (5 : Int32) (z_up (z_up (z_up (z_up (z_up (z_up M 107 1 (0 : Int32)) 107 17 (0 : Int32)) 107 19 x1) 107 18 (0 : Int32)) 107 24 (0 : Int32)) 107 26 (-1 : Int32))
    else
      z_bi (f_X8_fail_107 (1 : Int32) (z_up M 107 1 (0 : Int32))) fun v27 M28 =>
      some (v27, M28)) = some (v, M') := h
  by_cases g1 : x1 < 0
  · replace h := (if_pos g1).symm.trans h
    obtain ⟨v3, M4, c2, h⟩ := z_bi_c h
    have q2 : z_fr w_X8_told_107 M M4 := (z_fr.refl.up rfl).sub (R_X8_fail_107 c2) (by decide)
    cases h
    exact q2
  · replace h := (if_neg g1).symm.trans h
    by_cases g3 : x1 ≤ (M 107 17)
    · replace h := (if_pos g3).symm.trans h
      exact ((((((z_fr.refl.up rfl).up rfl).up rfl).up rfl).up rfl).up rfl).trans (R_X8_told_107_p50 h)
    · replace h := (if_neg g3).symm.trans h
      obtain ⟨v27, M28, c4, h⟩ := z_bi_c h
      have q4 : z_fr w_X8_told_107 M M28 := (z_fr.refl.up rfl).sub (R_X8_fail_107 c4) (by decide)
      cases h
      exact q4
def w_X8_tonight_107 : zWs := ([(107, 1), (107, 38)], [128, 129])
theorem R_X8_tonight_107_p83 {K36 : Int32 → Int32 → Int32 → Int32 → Int32 → zMM → Option (Int32 × zMM)} {x1 : Int32} {x2 : Int32} {x3 : Int32} {x4 : Int32} {x5 : Int32} {a0 : Int32}
    (hK36 : ∀ (a0 : Int32) (a1 : Int32) (a2 : Int32) (a3 : Int32) (a4 : Int32) (M M' : zMM) (v : Int32), K36 a0 a1 a2 a3 a4 M = some (v, M') → z_fr w_X8_tonight_107 M M') {M M' : zMM} {v : Int32} (h : f_X8_tonight_107_p83 K36 x1 x2 x3 x4 x5 a0 M = some (v, M')) : z_fr w_X8_tonight_107 M M' := by
  replace h : (  if a0 = (-1 : Int32) then
    K36 x1 x2 x3 x4 (x5 + (1 : Int32)) M
  else
    if x3 = (-1 : Int32) then
      K36 x1 x2 x5 a0 (x5 + (1 : Int32)) M
    else
      if a0 < x4 then
        K36 x1 x2 x5 a0 (x5 + (1 : Int32)) M
      else
        K36 x1 x2 x3 x4 (x5 + (1 : Int32)) M) = some (v, M') := h
  by_cases g1 : a0 = (-1 : Int32)
  · replace h := (if_pos g1).symm.trans h
    exact z_fr.refl.trans (hK36 _ _ _ _ _ _ _ _ h)
  · replace h := (if_neg g1).symm.trans h
    by_cases g2 : x3 = (-1 : Int32)
    · replace h := (if_pos g2).symm.trans h
      exact z_fr.refl.trans (hK36 _ _ _ _ _ _ _ _ h)
    · replace h := (if_neg g2).symm.trans h
      by_cases g3 : a0 < x4
      · replace h := (if_pos g3).symm.trans h
        exact z_fr.refl.trans (hK36 _ _ _ _ _ _ _ _ h)
      · replace h := (if_neg g3).symm.trans h
        exact z_fr.refl.trans (hK36 _ _ _ _ _ _ _ _ h)
theorem R0_X8_tonight_107_p36 : ∀ (n : Nat) (x1 : Int32) (x2 : Int32) (x3 : Int32) (x4 : Int32) (x5 : Int32) (M M' : zMM) (v : Int32), f_X8_tonight_107_p36  n x1 x2 x3 x4 x5 M = some (v, M') → z_fr w_X8_tonight_107 M M' := by
  intro n
  induction n with
  | zero => intro x1 x2 x3 x4 x5 M M' v h; cases h
  | succ n ih =>
    intro x1 x2 x3 x4 x5 M M' v h
    replace h : (  if (M 109 3) ≤ x5 then
    if x2 = 0 then
      some (x3, M)
    else
      some (x4, M)
  else
    if z_ib x5 8 = true then
      if (M 109 4) < (M 118 x5.toNatClampNeg) then
        f_X8_tonight_107_p83 (f_X8_tonight_107_p36 n) x1 x2 x3 x4 x5 (-1 : Int32) M
      else
        z_bi (f_X8_trunksAt_107 x1 M) fun v21 M22 =>
        z_bi (f_X8_thingsOf_107 v21 M22) fun v24 M25 =>
        z_bi (f_X8_priceOf_107 x5 x1 v24 M25) fun v27 M28 =>
        f_X8_tonight_107_p83 (f_X8_tonight_107_p36 n) x1 x2 x3 x4 x5 v27 M28
    else none) = some (v, M') := h
    by_cases g1 : (M 109 3) ≤ x5
    · replace h := (if_pos g1).symm.trans h
      by_cases g2 : x2 = 0
      · replace h := (if_pos g2).symm.trans h
        cases h
        exact z_fr.refl
      · replace h := (if_neg g2).symm.trans h
        cases h
        exact z_fr.refl
    · replace h := (if_neg g1).symm.trans h
      obtain ⟨g3, h⟩ := z_ifn h
      by_cases g4 : (M 109 4) < (M 118 x5.toNatClampNeg)
      · replace h := (if_pos g4).symm.trans h
        exact z_fr.refl.trans (R_X8_tonight_107_p83 ih h)
      · replace h := (if_neg g4).symm.trans h
        obtain ⟨v21, M22, c5, h⟩ := z_bi_c h
        have q5 : z_fr w_X8_tonight_107 M M22 := z_fr.refl.sub (R_X8_trunksAt_107 c5) (by decide)
        obtain ⟨v24, M25, c6, h⟩ := z_bi_c h
        have q6 : z_fr w_X8_tonight_107 M M25 := q5.sub (R_X8_thingsOf_107 c6) (by decide)
        obtain ⟨v27, M28, c7, h⟩ := z_bi_c h
        have q7 : z_fr w_X8_tonight_107 M M28 := q6.sub (R_X8_priceOf_107 c7) (by decide)
        exact q7.trans (R_X8_tonight_107_p83 ih h)
theorem R_X8_tonight_107_p36 {n : Nat} {x1 : Int32} {x2 : Int32} {x3 : Int32} {x4 : Int32} {x5 : Int32} {M M' : zMM} {v : Int32} (h : f_X8_tonight_107_p36  n x1 x2 x3 x4 x5 M = some (v, M')) : z_fr w_X8_tonight_107 M M' := R0_X8_tonight_107_p36 _ _ _ _ _ _ _ _ _ h
theorem R_X8_tonight_107 {x1 : Int32} {x2 : Int32} {M M' : zMM} {v : Int32} (h : f_X8_tonight_107 x1 x2 M = some (v, M')) : z_fr w_X8_tonight_107 M M' := by
  replace h : (  z_bi (f_X8_isTown_107 x1 (z_up M 107 1 (0 : Int32))) fun v2 M3 =>
  if v2 = 0 then
    z_bi (f_X8_fail_107 (1 : Int32) M3) fun v6 M7 =>
    some (v6, M7)
  else
    if x2 < 0 then
      z_bi (f_X8_fail_107 (1 : Int32) M3) fun v10 M11 =>
      some (v10, M11)
    else
      if x2 ≤ (1 : Int32) then
        f_X8_tonight_107_p36 z_fuel x1 x2 (-1 : Int32) (-1 : Int32) (0 : Int32) M3
      else
        z_bi (f_X8_fail_107 (1 : Int32) M3) fun v30 M31 =>
        some (v30, M31)) = some (v, M') := h
  obtain ⟨v2, M3, c1, h⟩ := z_bi_c h
  have q1 : z_fr w_X8_tonight_107 M M3 := (z_fr.refl.up rfl).sub (R_X8_isTown_107 c1) (by decide)
  by_cases g2 : v2 = 0
  · replace h := (if_pos g2).symm.trans h
    obtain ⟨v6, M7, c3, h⟩ := z_bi_c h
    have q3 : z_fr w_X8_tonight_107 M M7 := q1.sub (R_X8_fail_107 c3) (by decide)
    cases h
    exact q3
  · replace h := (if_neg g2).symm.trans h
    by_cases g4 : x2 < 0
    · replace h := (if_pos g4).symm.trans h
      obtain ⟨v10, M11, c5, h⟩ := z_bi_c h
      have q5 : z_fr w_X8_tonight_107 M M11 := q1.sub (R_X8_fail_107 c5) (by decide)
      cases h
      exact q5
    · replace h := (if_neg g4).symm.trans h
      by_cases g6 : x2 ≤ (1 : Int32)
      · replace h := (if_pos g6).symm.trans h
        exact q1.trans (R_X8_tonight_107_p36 h)
      · replace h := (if_neg g6).symm.trans h
        obtain ⟨v30, M31, c7, h⟩ := z_bi_c h
        have q7 : z_fr w_X8_tonight_107 M M31 := q1.sub (R_X8_fail_107 c7) (by decide)
        cases h
        exact q7
def w_X8_tour_107 : zWs := ([(107, 1), (107, 38), (107, 52), (107, 53)], [128, 129, 139, 140, 141, 142])
theorem R0_X8_tour_107_p23 : ∀ (n : Nat) (x1 : Int32) (x2 : Int32) (M M' : zMM) (v : Int32), f_X8_tour_107_p23  n x1 x2 M = some (v, M') → z_fr w_X8_tour_107 M M' := by
  intro n
  induction n with
  | zero => intro x1 x2 M M' v h; cases h
  | succ n ih =>
    intro x1 x2 M M' v h
    replace h : (  if (5 : Int32) ≤ x2 then
    some (x1, M)
  else
    if z_ib x2 5 = true then
      if z_ib x2 5 = true then
        f_X8_tour_107_p23 n x1 (x2 + (1 : Int32)) (z_up M 142 x2.toNatClampNeg (M 141 x2.toNatClampNeg))
      else none
    else none) = some (v, M') := h
    by_cases g1 : (5 : Int32) ≤ x2
    · replace h := (if_pos g1).symm.trans h
      cases h
      exact z_fr.refl
    · replace h := (if_neg g1).symm.trans h
      obtain ⟨g2, h⟩ := z_ifn h
      obtain ⟨g3, h⟩ := z_ifn h
      exact (z_fr.refl.up rfl).trans (ih _ _ _ _ _ h)
theorem R_X8_tour_107_p23 {n : Nat} {x1 : Int32} {x2 : Int32} {M M' : zMM} {v : Int32} (h : f_X8_tour_107_p23  n x1 x2 M = some (v, M')) : z_fr w_X8_tour_107 M M' := R0_X8_tour_107_p23 _ _ _ _ _ _ h
theorem R_X8_tour_107 {M M' : zMM} {v : Int32} (h : f_X8_tour_107 M = some (v, M')) : z_fr w_X8_tour_107 M M' := by
  replace h : (  z_bi (f_X8_tourWithout_107 (-1 : Int32) (z_up M 107 1 (0 : Int32))) fun v2 M3 =>
  if v2 = (-1 : Int32) then
    some (v2, M3)
  else
    f_X8_tour_107_p23 z_fuel v2 (0 : Int32) (z_up M3 107 53 (1 : Int32))) = some (v, M') := h
  obtain ⟨v2, M3, c1, h⟩ := z_bi_c h
  have q1 : z_fr w_X8_tour_107 M M3 := (z_fr.refl.up rfl).sub (R_X8_tourWithout_107 c1) (by decide)
  by_cases g2 : v2 = (-1 : Int32)
  · replace h := (if_pos g2).symm.trans h
    cases h
    exact q1
  · replace h := (if_neg g2).symm.trans h
    exact (q1.up rfl).trans (R_X8_tour_107_p23 h)
def w_X8_town_107 : zWs := ([(107, 1)], [])
theorem R_X8_town_107 {x1 : Int32} {x2 : Int32} {M M' : zMM} {v : Int32} (h : f_X8_town_107 x1 x2 M = some (v, M')) : z_fr w_X8_town_107 M M' := by
  replace h : (  z_bi (f_X8_isTown_107 x1 (z_up M 107 1 (0 : Int32))) fun v2 M3 =>
  if v2 = 0 then
    z_bi (f_X8_fail_107 (1 : Int32) M3) fun v6 M7 =>
    some (v6, M7)
  else
    if x2 = (0 : Int32) then
      if z_ib x1 10 = true then
        some ((M3 110 x1.toNatClampNeg), M3)
      else none
    else
      if x2 = (1 : Int32) then
        if z_ib x1 10 = true then
          some ((M3 111 x1.toNatClampNeg), M3)
        else none
      else
        if x2 = (2 : Int32) then
          if z_ib x1 10 = true then
            some ((M3 112 x1.toNatClampNeg), M3)
          else none
        else
          if x2 = (3 : Int32) then
            if z_ib x1 10 = true then
              some ((M3 113 x1.toNatClampNeg), M3)
            else none
          else
            if x2 = (4 : Int32) then
              z_bi (f_X8_trunksAt_107 x1 M3) fun v18 M19 =>
              some (v18, M19)
            else
              if x2 = (5 : Int32) then
                z_bi (f_X8_trunksAt_107 x1 M3) fun v22 M23 =>
                z_bi (f_X8_thingsOf_107 v22 M23) fun v25 M26 =>
                some (v25, M26)
              else
                z_bi (f_X8_fail_107 (1 : Int32) M3) fun v28 M29 =>
                some (v28, M29)) = some (v, M') := h
  obtain ⟨v2, M3, c1, h⟩ := z_bi_c h
  have q1 : z_fr w_X8_town_107 M M3 := (z_fr.refl.up rfl).sub (R_X8_isTown_107 c1) (by decide)
  by_cases g2 : v2 = 0
  · replace h := (if_pos g2).symm.trans h
    obtain ⟨v6, M7, c3, h⟩ := z_bi_c h
    have q3 : z_fr w_X8_town_107 M M7 := q1.sub (R_X8_fail_107 c3) (by decide)
    cases h
    exact q3
  · replace h := (if_neg g2).symm.trans h
    by_cases g4 : x2 = (0 : Int32)
    · replace h := (if_pos g4).symm.trans h
      obtain ⟨g5, h⟩ := z_ifn h
      cases h
      exact q1
    · replace h := (if_neg g4).symm.trans h
      by_cases g6 : x2 = (1 : Int32)
      · replace h := (if_pos g6).symm.trans h
        obtain ⟨g7, h⟩ := z_ifn h
        cases h
        exact q1
      · replace h := (if_neg g6).symm.trans h
        by_cases g8 : x2 = (2 : Int32)
        · replace h := (if_pos g8).symm.trans h
          obtain ⟨g9, h⟩ := z_ifn h
          cases h
          exact q1
        · replace h := (if_neg g8).symm.trans h
          by_cases g10 : x2 = (3 : Int32)
          · replace h := (if_pos g10).symm.trans h
            obtain ⟨g11, h⟩ := z_ifn h
            cases h
            exact q1
          · replace h := (if_neg g10).symm.trans h
            by_cases g12 : x2 = (4 : Int32)
            · replace h := (if_pos g12).symm.trans h
              obtain ⟨v18, M19, c13, h⟩ := z_bi_c h
              have q13 : z_fr w_X8_town_107 M M19 := q1.sub (R_X8_trunksAt_107 c13) (by decide)
              cases h
              exact q13
            · replace h := (if_neg g12).symm.trans h
              by_cases g14 : x2 = (5 : Int32)
              · replace h := (if_pos g14).symm.trans h
                obtain ⟨v22, M23, c15, h⟩ := z_bi_c h
                have q15 : z_fr w_X8_town_107 M M23 := q1.sub (R_X8_trunksAt_107 c15) (by decide)
                obtain ⟨v25, M26, c16, h⟩ := z_bi_c h
                have q16 : z_fr w_X8_town_107 M M26 := q15.sub (R_X8_thingsOf_107 c16) (by decide)
                cases h
                exact q16
              · replace h := (if_neg g14).symm.trans h
                obtain ⟨v28, M29, c17, h⟩ := z_bi_c h
                have q17 : z_fr w_X8_town_107 M M29 := q1.sub (R_X8_fail_107 c17) (by decide)
                cases h
                exact q17
def w_X8_trunk_107 : zWs := ([(107, 1)], [])
theorem R_X8_trunk_107 {x1 : Int32} {x2 : Int32} {M M' : zMM} {v : Int32} (h : f_X8_trunk_107 x1 x2 M = some (v, M')) : z_fr w_X8_trunk_107 M M' := by
  replace h : (  z_bi (f_X8_isTrunk_107 x1 (z_up M 107 1 (0 : Int32))) fun v2 M3 =>
  if v2 = 0 then
    z_bi (f_X8_fail_107 (1 : Int32) M3) fun v6 M7 =>
    some (v6, M7)
  else
    if x2 = (0 : Int32) then
      if z_ib x1 5 = true then
        if (M3 107 29) < (M3 125 x1.toNatClampNeg) then
          some ((-1 : Int32), M3)
        else
          if z_ib x1 5 = true then
            some ((M3 124 x1.toNatClampNeg), M3)
          else none
      else none
    else
      if x2 = (1 : Int32) then
        if z_ib x1 5 = true then
          some ((M3 124 x1.toNatClampNeg), M3)
        else none
      else
        if x2 = (2 : Int32) then
          if z_ib x1 5 = true then
            some ((M3 125 x1.toNatClampNeg), M3)
          else none
        else
          if x2 = (3 : Int32) then
            z_bi (f_X8_thingsOf_107 ((1 : Int32) <<< (x1 &&& 31)) M3) fun v18 M19 =>
            some (v18, M19)
          else
            z_bi (f_X8_fail_107 (1 : Int32) M3) fun v21 M22 =>
            some (v21, M22)) = some (v, M') := h
  obtain ⟨v2, M3, c1, h⟩ := z_bi_c h
  have q1 : z_fr w_X8_trunk_107 M M3 := (z_fr.refl.up rfl).sub (R_X8_isTrunk_107 c1) (by decide)
  by_cases g2 : v2 = 0
  · replace h := (if_pos g2).symm.trans h
    obtain ⟨v6, M7, c3, h⟩ := z_bi_c h
    have q3 : z_fr w_X8_trunk_107 M M7 := q1.sub (R_X8_fail_107 c3) (by decide)
    cases h
    exact q3
  · replace h := (if_neg g2).symm.trans h
    by_cases g4 : x2 = (0 : Int32)
    · replace h := (if_pos g4).symm.trans h
      obtain ⟨g5, h⟩ := z_ifn h
      by_cases g6 : (M3 107 29) < (M3 125 x1.toNatClampNeg)
      · replace h := (if_pos g6).symm.trans h
        cases h
        exact q1
      · replace h := (if_neg g6).symm.trans h
        obtain ⟨g7, h⟩ := z_ifn h
        cases h
        exact q1
    · replace h := (if_neg g4).symm.trans h
      by_cases g8 : x2 = (1 : Int32)
      · replace h := (if_pos g8).symm.trans h
        obtain ⟨g9, h⟩ := z_ifn h
        cases h
        exact q1
      · replace h := (if_neg g8).symm.trans h
        by_cases g10 : x2 = (2 : Int32)
        · replace h := (if_pos g10).symm.trans h
          obtain ⟨g11, h⟩ := z_ifn h
          cases h
          exact q1
        · replace h := (if_neg g10).symm.trans h
          by_cases g12 : x2 = (3 : Int32)
          · replace h := (if_pos g12).symm.trans h
            obtain ⟨v18, M19, c13, h⟩ := z_bi_c h
            have q13 : z_fr w_X8_trunk_107 M M19 := q1.sub (R_X8_thingsOf_107 c13) (by decide)
            cases h
            exact q13
          · replace h := (if_neg g12).symm.trans h
            obtain ⟨v21, M22, c14, h⟩ := z_bi_c h
            have q14 : z_fr w_X8_trunk_107 M M22 := q1.sub (R_X8_fail_107 c14) (by decide)
            cases h
            exact q14
def w_X8_undo_107 : zWs := ([(107, 1), (107, 29), (107, 30), (107, 31), (107, 33)], [124, 125])
theorem R_X8_undo_107_p69 {M M' : zMM} {v : Int32} (h : f_X8_undo_107_p69 M = some (v, M')) : z_fr w_X8_undo_107 M M' := by
  replace h : (  if z_ib (M 107 31) 100 = true then
    if z_ib (M 107 31) 100 = true then
      if z_ib (M 107 31) 100 = true then
        if z_zb (M 135 (M 107 31).toNatClampNeg) = true then
          some ((1 : Int32), (z_up (z_up (z_up M 107 29 (M 133 (M 107 31).toNatClampNeg)) 107 30 (M 134 (M 107 31).toNatClampNeg)) 107 33 (M 135 (M 107 31).toNatClampNeg)))
        else none
      else none
    else none
  else none) = some (v, M') := h
  obtain ⟨g1, h⟩ := z_ifn h
  obtain ⟨g2, h⟩ := z_ifn h
  obtain ⟨g3, h⟩ := z_ifn h
  obtain ⟨g4, h⟩ := z_ifn h
  cases h
  exact (((z_fr.refl.up rfl).up rfl).up rfl)
theorem R_X8_undo_107 {M M' : zMM} {v : Int32} (h : f_X8_undo_107 M = some (v, M')) : z_fr w_X8_undo_107 M M' := by
  replace h : (  if (M 107 31) = 0 then
    some ((0 : Int32), (z_up M 107 1 (0 : Int32)))
  else
    if z_ib ((M 107 31) - (1 : Int32)) 100 = true then
      if (M 130 ((M 107 31) - (1 : Int32)).toNatClampNeg) = (-1 : Int32) then
        f_X8_undo_107_p69  (z_up (z_up M 107 1 (0 : Int32)) 107 31 ((M 107 31) - (1 : Int32)))
      else
        if z_ib ((M 107 31) - (1 : Int32)) 100 = true then
          if z_ib (M 130 ((M 107 31) - (1 : Int32)).toNatClampNeg) 5 = true then
            if z_ib ((M 107 31) - (1 : Int32)) 100 = true then
              if z_ib (M 130 ((M 107 31) - (1 : Int32)).toNatClampNeg) 5 = true then
                f_X8_undo_107_p69  (z_up (z_up (z_up (z_up M 107 1 (0 : Int32)) 107 31 ((M 107 31) - (1 : Int32))) 124 (M 130 ((M 107 31) - (1 : Int32)).toNatClampNeg).toNatClampNeg (M 131 ((M 107 31) - (1 : Int32)).toNatClampNeg)) 125 (M 130 ((M 107 31) - (1 : Int32)).toNatClampNeg).toNatClampNeg (M 132 ((M 107 31) - (1 : Int32)).toNatClampNeg))
              else none
            else none
          else none
        else none
    else none) = some (v, M') := h
  by_cases g1 : (M 107 31) = 0
  · replace h := (if_pos g1).symm.trans h
    cases h
    exact (z_fr.refl.up rfl)
  · replace h := (if_neg g1).symm.trans h
    obtain ⟨g2, h⟩ := z_ifn h
    by_cases g3 : (M 130 ((M 107 31) - (1 : Int32)).toNatClampNeg) = (-1 : Int32)
    · replace h := (if_pos g3).symm.trans h
      exact ((z_fr.refl.up rfl).up rfl).trans (R_X8_undo_107_p69 h)
    · replace h := (if_neg g3).symm.trans h
      obtain ⟨g4, h⟩ := z_ifn h
      obtain ⟨g5, h⟩ := z_ifn h
      obtain ⟨g6, h⟩ := z_ifn h
      obtain ⟨g7, h⟩ := z_ifn h
      exact ((((z_fr.refl.up rfl).up rfl).up rfl).up rfl).trans (R_X8_undo_107_p69 h)
def w_X8_priceWith_107 : zWs := ([(107, 38)], [116, 128, 129])
theorem R_X8_priceWith_107_p32 {x1 : Int32} {x2 : Int32} {x4 : Int32} {M M' : zMM} {v : Int32} (h : f_X8_priceWith_107_p32 x1 x2 x4 M = some (v, M')) : z_fr w_X8_priceWith_107 M M' := by
  replace h : (  z_bi (f_X8_priceOf_107 x1 x2 x4 M) fun v9 M10 =>
  if v9 = (-1 : Int32) then
    some ((1000 : Int32), M10)
  else
    some (v9, M10)) = some (v, M') := h
  obtain ⟨v9, M10, c1, h⟩ := z_bi_c h
  have q1 : z_fr w_X8_priceWith_107 M M10 := z_fr.refl.sub (R_X8_priceOf_107 c1) (by decide)
  by_cases g2 : v9 = (-1 : Int32)
  · replace h := (if_pos g2).symm.trans h
    cases h
    exact q1
  · replace h := (if_neg g2).symm.trans h
    cases h
    exact q1
theorem R_X8_priceWith_107 {x1 : Int32} {x2 : Int32} {x3 : Int32} {M M' : zMM} {v : Int32} (h : f_X8_priceWith_107 x1 x2 x3 M = some (v, M')) : z_fr w_X8_priceWith_107 M M' := by
  replace h : (  z_bi (f_X8_trunksAt_107 x2 M) fun v2 M3 =>
  z_bi (f_X8_thingsOf_107 v2 M3) fun v5 M6 =>
  if x3 = (-1 : Int32) then
    f_X8_priceWith_107_p32 x1 x2 v5 M6
  else
    f_X8_priceWith_107_p32 x1 x2 (v5 ||| (1024 : Int32)) (z_up M6 116 10 x3)) = some (v, M') := h
  obtain ⟨v2, M3, c1, h⟩ := z_bi_c h
  have q1 : z_fr w_X8_priceWith_107 M M3 := z_fr.refl.sub (R_X8_trunksAt_107 c1) (by decide)
  obtain ⟨v5, M6, c2, h⟩ := z_bi_c h
  have q2 : z_fr w_X8_priceWith_107 M M6 := q1.sub (R_X8_thingsOf_107 c2) (by decide)
  by_cases g3 : x3 = (-1 : Int32)
  · replace h := (if_pos g3).symm.trans h
    exact q2.trans (R_X8_priceWith_107_p32 h)
  · replace h := (if_neg g3).symm.trans h
    exact (q2.up rfl).trans (R_X8_priceWith_107_p32 h)
def w_X8_unopened_107 : zWs := ([(107, 1), (107, 38)], [116, 128, 129])
theorem R_X8_unopened_107_p64 {K36 : Int32 → Int32 → Int32 → Int32 → Int32 → Int32 → Int32 → Int32 → zMM → Option (Int32 × zMM)} {x1 : Int32} {x2 : Int32} {x3 : Int32} {x4 : Int32} {x5 : Int32} {x6 : Int32} {x7 : Int32} {x8 : Int32} {a0 : Int32}
    (hK36 : ∀ (a0 : Int32) (a1 : Int32) (a2 : Int32) (a3 : Int32) (a4 : Int32) (a5 : Int32) (a6 : Int32) (a7 : Int32) (M M' : zMM) (v : Int32), K36 a0 a1 a2 a3 a4 a5 a6 a7 M = some (v, M') → z_fr w_X8_unopened_107 M M') {M M' : zMM} {v : Int32} (h : f_X8_unopened_107_p64 K36 x1 x2 x3 x4 x5 x6 x7 x8 a0 M = some (v, M')) : z_fr w_X8_unopened_107 M M' := by
  replace h : (  z_bi (f_X8_isIn a0 (-1 : Int32) (1999 : Int32) M) fun v26 M27 =>
  if v26 = 0 then
    z_bi (f_X8_fail_107 (2 : Int32) M27) fun v30 M31 =>
    some (v30, M31)
  else
    if a0 = (-1 : Int32) then
      K36 x1 x2 x3 x4 x5 x6 x7 (x8 + (1 : Int32)) M27
    else
      z_bi (f_X8_priceWith_107 x1 x2 (a0 / (100 : Int32)) M27) fun v34 M35 =>
      K36 x1 x2 x3 x4 x5 (x6 + (a0 - a0 / (100 : Int32) * (100 : Int32))) (x7 + ((a0 - a0 / (100 : Int32) * (100 : Int32)) * v34)) (x8 + (1 : Int32)) M35) = some (v, M') := h
  obtain ⟨v26, M27, c1, h⟩ := z_bi_c h
  have q1 : z_fr w_X8_unopened_107 M M27 := z_fr.refl.sub (R_X8_isIn c1) (by decide)
  by_cases g2 : v26 = 0
  · replace h := (if_pos g2).symm.trans h
    obtain ⟨v30, M31, c3, h⟩ := z_bi_c h
    have q3 : z_fr w_X8_unopened_107 M M31 := q1.sub (R_X8_fail_107 c3) (by decide)
    cases h
    exact q3
  · replace h := (if_neg g2).symm.trans h
    by_cases g4 : a0 = (-1 : Int32)
    · replace h := (if_pos g4).symm.trans h
      exact q1.trans (hK36 _ _ _ _ _ _ _ _ _ _ _ h)
    · replace h := (if_neg g4).symm.trans h
      obtain ⟨v34, M35, c5, h⟩ := z_bi_c h
      have q5 : z_fr w_X8_unopened_107 M M35 := q1.sub (R_X8_priceWith_107 c5) (by decide)
      exact q5.trans (hK36 _ _ _ _ _ _ _ _ _ _ _ h)
theorem R0_X8_unopened_107_p36 : ∀ (n : Nat) (x1 : Int32) (x2 : Int32) (x3 : Int32) (x4 : Int32) (x5 : Int32) (x6 : Int32) (x7 : Int32) (x8 : Int32) (M M' : zMM) (v : Int32), f_X8_unopened_107_p36  n x1 x2 x3 x4 x5 x6 x7 x8 M = some (v, M') → z_fr w_X8_unopened_107 M M' := by
  intro n
  induction n with
  | zero => intro x1 x2 x3 x4 x5 x6 x7 x8 M M' v h; cases h
  | succ n ih =>
    intro x1 x2 x3 x4 x5 x6 x7 x8 M M' v h
    replace h : (  if (3 : Int32) ≤ x8 then
    if x6 = 0 then
      z_bi (f_X8_fail_107 (2 : Int32) M) fun v18 M19 =>
      some (v18, M19)
    else
      z_bi (f_X8_priceWith_107 x1 x2 (-1 : Int32) M) fun v21 M22 =>
      if ¬ x6 = 0 then
        some ((v21 - (x7 / x6)), M22)
      else none
  else
    if x8 = 0 then
      f_X8_unopened_107_p64 (f_X8_unopened_107_p36 n) x1 x2 x3 x4 x5 x6 x7 x8 x3 M
    else
      if x8 = (1 : Int32) then
        f_X8_unopened_107_p64 (f_X8_unopened_107_p36 n) x1 x2 x3 x4 x5 x6 x7 x8 x4 M
      else
        f_X8_unopened_107_p64 (f_X8_unopened_107_p36 n) x1 x2 x3 x4 x5 x6 x7 x8 x5 M) = some (v, M') := h
    by_cases g1 : (3 : Int32) ≤ x8
    · replace h := (if_pos g1).symm.trans h
      by_cases g2 : x6 = 0
      · replace h := (if_pos g2).symm.trans h
        obtain ⟨v18, M19, c3, h⟩ := z_bi_c h
        have q3 : z_fr w_X8_unopened_107 M M19 := z_fr.refl.sub (R_X8_fail_107 c3) (by decide)
        cases h
        exact q3
      · replace h := (if_neg g2).symm.trans h
        obtain ⟨v21, M22, c4, h⟩ := z_bi_c h
        have q4 : z_fr w_X8_unopened_107 M M22 := z_fr.refl.sub (R_X8_priceWith_107 c4) (by decide)
        obtain ⟨g5, h⟩ := z_ifn h
        cases h
        exact q4
    · replace h := (if_neg g1).symm.trans h
      by_cases g6 : x8 = 0
      · replace h := (if_pos g6).symm.trans h
        exact z_fr.refl.trans (R_X8_unopened_107_p64 ih h)
      · replace h := (if_neg g6).symm.trans h
        by_cases g7 : x8 = (1 : Int32)
        · replace h := (if_pos g7).symm.trans h
          exact z_fr.refl.trans (R_X8_unopened_107_p64 ih h)
        · replace h := (if_neg g7).symm.trans h
          exact z_fr.refl.trans (R_X8_unopened_107_p64 ih h)
theorem R_X8_unopened_107_p36 {n : Nat} {x1 : Int32} {x2 : Int32} {x3 : Int32} {x4 : Int32} {x5 : Int32} {x6 : Int32} {x7 : Int32} {x8 : Int32} {M M' : zMM} {v : Int32} (h : f_X8_unopened_107_p36  n x1 x2 x3 x4 x5 x6 x7 x8 M = some (v, M')) : z_fr w_X8_unopened_107 M M' := R0_X8_unopened_107_p36 _ _ _ _ _ _ _ _ _ _ _ _ h
theorem R_X8_unopened_107 {x1 : Int32} {x2 : Int32} {x3 : Int32} {x4 : Int32} {x5 : Int32} {M M' : zMM} {v : Int32} (h : f_X8_unopened_107 x1 x2 x3 x4 x5 M = some (v, M')) : z_fr w_X8_unopened_107 M M' := by
  replace h : (  z_bi (f_X8_isPlay_107 x1 (z_up M 107 1 (0 : Int32))) fun v2 M3 =>
  if v2 = 0 then
    z_bi (f_X8_fail_107 (1 : Int32) M3) fun v6 M7 =>
    some (v6, M7)
  else
    z_bi (f_X8_isTown_107 x2 M3) fun v9 M10 =>
    if v9 = 0 then
      z_bi (f_X8_fail_107 (1 : Int32) M10) fun v13 M14 =>
      some (v13, M14)
    else
      f_X8_unopened_107_p36 z_fuel x1 x2 x3 x4 x5 (0 : Int32) (0 : Int32) (0 : Int32) M10) = some (v, M') := h
  obtain ⟨v2, M3, c1, h⟩ := z_bi_c h
  have q1 : z_fr w_X8_unopened_107 M M3 := (z_fr.refl.up rfl).sub (R_X8_isPlay_107 c1) (by decide)
  by_cases g2 : v2 = 0
  · replace h := (if_pos g2).symm.trans h
    obtain ⟨v6, M7, c3, h⟩ := z_bi_c h
    have q3 : z_fr w_X8_unopened_107 M M7 := q1.sub (R_X8_fail_107 c3) (by decide)
    cases h
    exact q3
  · replace h := (if_neg g2).symm.trans h
    obtain ⟨v9, M10, c4, h⟩ := z_bi_c h
    have q4 : z_fr w_X8_unopened_107 M M10 := q1.sub (R_X8_isTown_107 c4) (by decide)
    by_cases g5 : v9 = 0
    · replace h := (if_pos g5).symm.trans h
      obtain ⟨v13, M14, c6, h⟩ := z_bi_c h
      have q6 : z_fr w_X8_unopened_107 M M14 := q4.sub (R_X8_fail_107 c6) (by decide)
      cases h
      exact q6
    · replace h := (if_neg g5).symm.trans h
      exact q4.trans (R_X8_unopened_107_p36 h)
def w_X8_way_107 : zWs := ([(107, 1)], [])
theorem R_X8_way_107 {x1 : Int32} {x2 : Int32} {M M' : zMM} {v : Int32} (h : f_X8_way_107 x1 x2 M = some (v, M')) : z_fr w_X8_way_107 M M' := by
  replace h : (  z_bi (f_X8_isTown_107 x1 (z_up M 107 1 (0 : Int32))) fun v2 M3 =>
  if v2 = 0 then
    z_bi (f_X8_fail_107 (1 : Int32) M3) fun v6 M7 =>
    some (v6, M7)
  else
    z_bi (f_X8_isTown_107 x2 M3) fun v9 M10 =>
    if v9 = 0 then
      z_bi (f_X8_fail_107 (1 : Int32) M10) fun v13 M14 =>
      some (v13, M14)
    else
      z_bi (f_X8_hasWay_107 x1 x2 M10) fun v16 M17 =>
      if v16 = 0 then
        some ((-1 : Int32), M17)
      else
        if z_ib (((5 : Int32) * x1) + x2) 25 = true then
          some ((M17 126 (((5 : Int32) * x1) + x2).toNatClampNeg), M17)
        else none) = some (v, M') := h
  obtain ⟨v2, M3, c1, h⟩ := z_bi_c h
  have q1 : z_fr w_X8_way_107 M M3 := (z_fr.refl.up rfl).sub (R_X8_isTown_107 c1) (by decide)
  by_cases g2 : v2 = 0
  · replace h := (if_pos g2).symm.trans h
    obtain ⟨v6, M7, c3, h⟩ := z_bi_c h
    have q3 : z_fr w_X8_way_107 M M7 := q1.sub (R_X8_fail_107 c3) (by decide)
    cases h
    exact q3
  · replace h := (if_neg g2).symm.trans h
    obtain ⟨v9, M10, c4, h⟩ := z_bi_c h
    have q4 : z_fr w_X8_way_107 M M10 := q1.sub (R_X8_isTown_107 c4) (by decide)
    by_cases g5 : v9 = 0
    · replace h := (if_pos g5).symm.trans h
      obtain ⟨v13, M14, c6, h⟩ := z_bi_c h
      have q6 : z_fr w_X8_way_107 M M14 := q4.sub (R_X8_fail_107 c6) (by decide)
      cases h
      exact q6
    · replace h := (if_neg g5).symm.trans h
      obtain ⟨v16, M17, c7, h⟩ := z_bi_c h
      have q7 : z_fr w_X8_way_107 M M17 := q4.sub (R_X8_hasWay_107 c7) (by decide)
      by_cases g8 : v16 = 0
      · replace h := (if_pos g8).symm.trans h
        cases h
        exact q7
      · replace h := (if_neg g8).symm.trans h
        obtain ⟨g9, h⟩ := z_ifn h
        cases h
        exact q7
