def w_X3_readTrain_79 : zWs := ([(79, 3), (79, 4), (79, 5), (79, 6), (79, 7), (79, 9), (79, 10)], [71])
theorem R_X3_readTrain_79_p73 {x1 : Int32} {x2 : Int32} {M M' : zMM} (h : f_X3_readTrain_79_p73 x1 x2 M = some M') : z_fr w_X3_readTrain_79 M M' := by
  replace h : (  z_bi (f_X3_takeNumber_79 (1 : Int32) (9 : Int32) M) fun v21 M22 =>
  z_bi (f_X3_endsWell_79  M22) fun v24 M25 =>
  if v24 = 0 then
    some M25
  else
    z_bv (some (z_pt M25 71 25 ((x1 * (5 : Int32)) + x2) v21)) fun M28 =>
    some M28) = some M' := h
  obtain ⟨v21, M22, c1, h⟩ := z_bi_c h
  have q1 : z_fr w_X3_readTrain_79 M M22 := z_fr.refl.sub (R_X3_takeNumber_79 c1) (by decide)
  obtain ⟨v24, M25, c2, h⟩ := z_bi_c h
  have q2 : z_fr w_X3_readTrain_79 M M25 := q1.sub (R_X3_endsWell_79 c2) (by decide)
  by_cases g3 : v24 = 0
  · replace h := (if_pos g3).symm.trans h
    cases h
    exact q2
  · replace h := (if_neg g3).symm.trans h
    obtain ⟨M28, c4, h⟩ := z_bv_c h
    have q4 : z_fr w_X3_readTrain_79 M M28 := Option.some.inj c4 ▸ (q2.pt rfl)
    cases h
    exact q4
theorem R_X3_readTrain_79_p64 {x1 : Int32} {x2 : Int32} {M M' : zMM} (h : f_X3_readTrain_79_p64 x1 x2 M = some M') : z_fr w_X3_readTrain_79 M M' := by
  replace h : (  z_bv (f_X3_fail_79 (4 : Int32) (M 79 7) M) fun M19 =>
  f_X3_readTrain_79_p73 x1 x2 M19) = some M' := h
  obtain ⟨M19, c1, h⟩ := z_bv_c h
  have q1 : z_fr w_X3_readTrain_79 M M19 := z_fr.refl.sub (R_X3_fail_79 c1) (by decide)
  exact q1.trans (R_X3_readTrain_79_p73 h)
theorem R_X3_readTrain_79 {M M' : zMM} (h : f_X3_readTrain_79 M = some M') : z_fr w_X3_readTrain_79 M M' := by
  replace h : (  z_bv (f_X3_step_79  M) fun M3 =>
  z_bi (f_X3_takeNumber_79 (0 : Int32) (9999 : Int32) M3) fun v5 M6 =>
  z_bv (f_X3_checkTold_79 v5 (M6 66 0) M6) fun M9 =>
  z_bi (f_X3_takeNumber_79 (0 : Int32) (9999 : Int32) M9) fun v11 M12 =>
  z_bv (f_X3_checkTold_79 v11 (M12 66 0) M12) fun M15 =>
  if v5 = v11 then
    f_X3_readTrain_79_p64 v5 v11 M15
  else
    z_bi (f_X5_trainDays_66 v5 v11 M15) fun v30 M31 =>
    if v30 = (-1 : Int32) then
      f_X3_readTrain_79_p73 v5 v11 M31
    else
      f_X3_readTrain_79_p64 v5 v11 M31) = some M' := h
  obtain ⟨M3, c1, h⟩ := z_bv_c h
  have q1 : z_fr w_X3_readTrain_79 M M3 := z_fr.refl.sub (R_X3_step_79 c1) (by decide)
  obtain ⟨v5, M6, c2, h⟩ := z_bi_c h
  have q2 : z_fr w_X3_readTrain_79 M M6 := q1.sub (R_X3_takeNumber_79 c2) (by decide)
  obtain ⟨M9, c3, h⟩ := z_bv_c h
  have q3 : z_fr w_X3_readTrain_79 M M9 := q2.sub (R_X3_checkTold_79 c3) (by decide)
  obtain ⟨v11, M12, c4, h⟩ := z_bi_c h
  have q4 : z_fr w_X3_readTrain_79 M M12 := q3.sub (R_X3_takeNumber_79 c4) (by decide)
  obtain ⟨M15, c5, h⟩ := z_bv_c h
  have q5 : z_fr w_X3_readTrain_79 M M15 := q4.sub (R_X3_checkTold_79 c5) (by decide)
  by_cases g6 : v5 = v11
  · replace h := (if_pos g6).symm.trans h
    exact q5.trans (R_X3_readTrain_79_p64 h)
  · replace h := (if_neg g6).symm.trans h
    obtain ⟨v30, M31, c7, h⟩ := z_bi_c h
    have q7 : z_fr w_X3_readTrain_79 M M31 := q5.sub (R_X5_trainDays_66 c7) (by decide)
    by_cases g8 : v30 = (-1 : Int32)
    · replace h := (if_pos g8).symm.trans h
      exact q7.trans (R_X3_readTrain_79_p73 h)
    · replace h := (if_neg g8).symm.trans h
      exact q7.trans (R_X3_readTrain_79_p64 h)
def w_X3_takeKind_79 : zWs := ([(79, 3), (79, 4), (79, 5), (79, 6), (79, 9), (79, 10)], [])
theorem R_X3_takeKind_79 {M M' : zMM} {v : Int32} (h : f_X3_takeKind_79 M = some (v, M')) : z_fr w_X3_takeKind_79 M M' := by
  replace h : (  z_bi (f_X3_isWord_79 4 M) fun v2 M3 =>
  if v2 = 0 then
    z_bi (f_X3_isWord_79 5 M3) fun v6 M7 =>
    if v6 = 0 then
      z_bi (f_X3_isWord_79 6 M7) fun v10 M11 =>
      if v10 = 0 then
        z_bi (f_X3_isWord_79 7 M11) fun v14 M15 =>
        if v14 = 0 then
          z_bv (f_X3_fail_79 (1 : Int32) (M15 79 4) M15) fun M19 =>
          z_bv (f_X3_step_79  M19) fun M22 =>
          some ((-1 : Int32), M22)
        else
          z_bv (f_X3_step_79  M15) fun M25 =>
          some ((3 : Int32), M25)
      else
        z_bv (f_X3_step_79  M11) fun M28 =>
        some ((2 : Int32), M28)
    else
      z_bv (f_X3_step_79  M7) fun M31 =>
      some ((1 : Int32), M31)
  else
    z_bv (f_X3_step_79  M3) fun M34 =>
    some ((0 : Int32), M34)) = some (v, M') := h
  obtain ⟨v2, M3, c1, h⟩ := z_bi_c h
  have q1 : z_fr w_X3_takeKind_79 M M3 := z_fr.refl.sub (R_X3_isWord_79 c1) (by decide)
  by_cases g2 : v2 = 0
  · replace h := (if_pos g2).symm.trans h
    obtain ⟨v6, M7, c3, h⟩ := z_bi_c h
    have q3 : z_fr w_X3_takeKind_79 M M7 := q1.sub (R_X3_isWord_79 c3) (by decide)
    by_cases g4 : v6 = 0
    · replace h := (if_pos g4).symm.trans h
      obtain ⟨v10, M11, c5, h⟩ := z_bi_c h
      have q5 : z_fr w_X3_takeKind_79 M M11 := q3.sub (R_X3_isWord_79 c5) (by decide)
      by_cases g6 : v10 = 0
      · replace h := (if_pos g6).symm.trans h
        obtain ⟨v14, M15, c7, h⟩ := z_bi_c h
        have q7 : z_fr w_X3_takeKind_79 M M15 := q5.sub (R_X3_isWord_79 c7) (by decide)
        by_cases g8 : v14 = 0
        · replace h := (if_pos g8).symm.trans h
          obtain ⟨M19, c9, h⟩ := z_bv_c h
          have q9 : z_fr w_X3_takeKind_79 M M19 := q7.sub (R_X3_fail_79 c9) (by decide)
          obtain ⟨M22, c10, h⟩ := z_bv_c h
          have q10 : z_fr w_X3_takeKind_79 M M22 := q9.sub (R_X3_step_79 c10) (by decide)
          cases h
          exact q10
        · replace h := (if_neg g8).symm.trans h
          obtain ⟨M25, c11, h⟩ := z_bv_c h
          have q11 : z_fr w_X3_takeKind_79 M M25 := q7.sub (R_X3_step_79 c11) (by decide)
          cases h
          exact q11
      · replace h := (if_neg g6).symm.trans h
        obtain ⟨M28, c12, h⟩ := z_bv_c h
        have q12 : z_fr w_X3_takeKind_79 M M28 := q5.sub (R_X3_step_79 c12) (by decide)
        cases h
        exact q12
    · replace h := (if_neg g4).symm.trans h
      obtain ⟨M31, c13, h⟩ := z_bv_c h
      have q13 : z_fr w_X3_takeKind_79 M M31 := q3.sub (R_X3_step_79 c13) (by decide)
      cases h
      exact q13
  · replace h := (if_neg g2).symm.trans h
    obtain ⟨M34, c14, h⟩ := z_bv_c h
    have q14 : z_fr w_X3_takeKind_79 M M34 := q1.sub (R_X3_step_79 c14) (by decide)
    cases h
    exact q14
def w_X3_readTown_79 : zWs := ([(66, 0), (79, 3), (79, 4), (79, 5), (79, 6), (79, 7), (79, 9), (79, 10)], [67, 68, 69, 70])
theorem R_X3_readTown_79_p69 {x1 : Int32} {x2 : Int32} {x3 : Int32} {x4 : Int32} {M M' : zMM} (h : f_X3_readTown_79_p69 x1 x2 x3 x4 M = some M') : z_fr w_X3_readTown_79 M M' := by
  replace h : (  z_bi (f_X3_endsWell_79  M) fun v13 M14 =>
  if v13 = 0 then
    some M14
  else
    z_bv (some (z_pt M14 67 5 (M14 66 0) x1)) fun M17 =>
    z_bv (some (z_pt M17 68 5 (M17 66 0) x2)) fun M19 =>
    z_bv (some (z_pt M19 69 5 (M19 66 0) x3)) fun M21 =>
    z_bv (some (z_pt M21 70 5 (M21 66 0) x4)) fun M23 =>
    some (z_up M23 66 0 ((M23 66 0) + (1 : Int32)))) = some M' := h
  obtain ⟨v13, M14, c1, h⟩ := z_bi_c h
  have q1 : z_fr w_X3_readTown_79 M M14 := z_fr.refl.sub (R_X3_endsWell_79 c1) (by decide)
  by_cases g2 : v13 = 0
  · replace h := (if_pos g2).symm.trans h
    cases h
    exact q1
  · replace h := (if_neg g2).symm.trans h
    obtain ⟨M17, c3, h⟩ := z_bv_c h
    have q3 : z_fr w_X3_readTown_79 M M17 := Option.some.inj c3 ▸ (q1.pt rfl)
    obtain ⟨M19, c4, h⟩ := z_bv_c h
    have q4 : z_fr w_X3_readTown_79 M M19 := Option.some.inj c4 ▸ (q3.pt rfl)
    obtain ⟨M21, c5, h⟩ := z_bv_c h
    have q5 : z_fr w_X3_readTown_79 M M21 := Option.some.inj c5 ▸ (q4.pt rfl)
    obtain ⟨M23, c6, h⟩ := z_bv_c h
    have q6 : z_fr w_X3_readTown_79 M M23 := Option.some.inj c6 ▸ (q5.pt rfl)
    cases h
    exact (q6.up rfl)
theorem R_X3_readTown_79_p33 {x1 : Int32} {a0 : Int32} {M M' : zMM} (h : f_X3_readTown_79_p33 x1 a0 M = some M') : z_fr w_X3_readTown_79 M M' := by
  replace h : (  z_bi (f_X3_isWord_79 8 M) fun v9 M10 =>
  if v9 = 0 then
    f_X3_readTown_79_p69 x1 a0 (0 : Int32) (0 : Int32) M10
  else
    z_bv (f_X3_step_79  M10) fun M26 =>
    z_bi (f_X3_takeNumber_79 (0 : Int32) (9 : Int32) M26) fun v28 M29 =>
    z_bi (f_X3_takeNumber_79 (0 : Int32) (99 : Int32) M29) fun v31 M32 =>
    f_X3_readTown_79_p69 x1 a0 v28 v31 M32) = some M' := h
  obtain ⟨v9, M10, c1, h⟩ := z_bi_c h
  have q1 : z_fr w_X3_readTown_79 M M10 := z_fr.refl.sub (R_X3_isWord_79 c1) (by decide)
  by_cases g2 : v9 = 0
  · replace h := (if_pos g2).symm.trans h
    exact q1.trans (R_X3_readTown_79_p69 h)
  · replace h := (if_neg g2).symm.trans h
    obtain ⟨M26, c3, h⟩ := z_bv_c h
    have q3 : z_fr w_X3_readTown_79 M M26 := q1.sub (R_X3_step_79 c3) (by decide)
    obtain ⟨v28, M29, c4, h⟩ := z_bi_c h
    have q4 : z_fr w_X3_readTown_79 M M29 := q3.sub (R_X3_takeNumber_79 c4) (by decide)
    obtain ⟨v31, M32, c5, h⟩ := z_bi_c h
    have q5 : z_fr w_X3_readTown_79 M M32 := q4.sub (R_X3_takeNumber_79 c5) (by decide)
    exact q5.trans (R_X3_readTown_79_p69 h)
theorem R_X3_readTown_79 {M M' : zMM} (h : f_X3_readTown_79 M = some M') : z_fr w_X3_readTown_79 M M' := by
  replace h : (  z_bv (f_X3_takeHead_79 (M 66 0) (5 : Int32) M) fun M3 =>
  z_bi (f_X3_takeKind_79  M3) fun v5 M6 =>
  if v5 = 0 then
    f_X3_readTown_79_p33 v5 (0 : Int32) M6
  else
    z_bi (f_X3_takeNumber_79 (0 : Int32) (1000 : Int32) M6) fun v34 M35 =>
    f_X3_readTown_79_p33 v5 v34 M35) = some M' := h
  obtain ⟨M3, c1, h⟩ := z_bv_c h
  have q1 : z_fr w_X3_readTown_79 M M3 := z_fr.refl.sub (R_X3_takeHead_79 c1) (by decide)
  obtain ⟨v5, M6, c2, h⟩ := z_bi_c h
  have q2 : z_fr w_X3_readTown_79 M M6 := q1.sub (R_X3_takeKind_79 c2) (by decide)
  by_cases g3 : v5 = 0
  · replace h := (if_pos g3).symm.trans h
    exact q2.trans (R_X3_readTown_79_p33 h)
  · replace h := (if_neg g3).symm.trans h
    obtain ⟨v34, M35, c4, h⟩ := z_bi_c h
    have q4 : z_fr w_X3_readTown_79 M M35 := q2.sub (R_X3_takeNumber_79 c4) (by decide)
    exact q4.trans (R_X3_readTown_79_p33 h)
def w_X3_readLine_79 : zWs := ([(66, 0), (66, 6), (66, 8), (66, 11), (66, 16), (79, 3), (79, 4), (79, 5), (79, 6), (79, 7), (79, 8), (79, 9), (79, 10)], [67, 68, 69, 70, 71, 72, 73, 74, 75, 76, 77, 78])
theorem R_X3_readLine_79 {M M' : zMM} (h : f_X3_readLine_79 M = some M') : z_fr w_X3_readLine_79 M M' := by
  replace h : (  z_bi (f_X3_isWord_79 3 M) fun v2 M3 =>
  if v2 = 0 then
    z_bi (f_X3_isWord_79 9 M3) fun v6 M7 =>
    if v6 = 0 then
      z_bi (f_X3_isWord_79 10 M7) fun v10 M11 =>
      if v10 = 0 then
        z_bi (f_X3_isWord_79 11 M11) fun v14 M15 =>
        if v14 = 0 then
          z_bi (f_X3_isWord_79 12 M15) fun v18 M19 =>
          if v18 = 0 then
            z_bi (f_X3_isWord_79 13 M19) fun v22 M23 =>
            if v22 = 0 then
              z_bi (f_X3_isWord_79 14 M23) fun v26 M27 =>
              if v26 = 0 then
                z_bv (f_X3_fail_79 (1 : Int32) (M27 79 4) M27) fun M31 =>
                some M31
              else
                z_bv (f_X3_readTroupe_79  M27) fun M34 =>
                some M34
            else
              z_bv (f_X3_readLike_79  M23) fun M37 =>
              some M37
          else
            z_bv (f_X3_readPlay_79  M19) fun M40 =>
            some M40
        else
          z_bv (f_X3_readThing_79  M15) fun M43 =>
          some M43
      else
        z_bv (f_X3_readTrunk_79  M11) fun M46 =>
        some M46
    else
      z_bv (f_X3_readTrain_79  M7) fun M49 =>
      some M49
  else
    z_bv (f_X3_readTown_79  M3) fun M52 =>
    some M52) = some M' := h
  obtain ⟨v2, M3, c1, h⟩ := z_bi_c h
  have q1 : z_fr w_X3_readLine_79 M M3 := z_fr.refl.sub (R_X3_isWord_79 c1) (by decide)
  by_cases g2 : v2 = 0
  · replace h := (if_pos g2).symm.trans h
    obtain ⟨v6, M7, c3, h⟩ := z_bi_c h
    have q3 : z_fr w_X3_readLine_79 M M7 := q1.sub (R_X3_isWord_79 c3) (by decide)
    by_cases g4 : v6 = 0
    · replace h := (if_pos g4).symm.trans h
      obtain ⟨v10, M11, c5, h⟩ := z_bi_c h
      have q5 : z_fr w_X3_readLine_79 M M11 := q3.sub (R_X3_isWord_79 c5) (by decide)
      by_cases g6 : v10 = 0
      · replace h := (if_pos g6).symm.trans h
        obtain ⟨v14, M15, c7, h⟩ := z_bi_c h
        have q7 : z_fr w_X3_readLine_79 M M15 := q5.sub (R_X3_isWord_79 c7) (by decide)
        by_cases g8 : v14 = 0
        · replace h := (if_pos g8).symm.trans h
          obtain ⟨v18, M19, c9, h⟩ := z_bi_c h
          have q9 : z_fr w_X3_readLine_79 M M19 := q7.sub (R_X3_isWord_79 c9) (by decide)
          by_cases g10 : v18 = 0
          · replace h := (if_pos g10).symm.trans h
            obtain ⟨v22, M23, c11, h⟩ := z_bi_c h
            have q11 : z_fr w_X3_readLine_79 M M23 := q9.sub (R_X3_isWord_79 c11) (by decide)
            by_cases g12 : v22 = 0
            · replace h := (if_pos g12).symm.trans h
              obtain ⟨v26, M27, c13, h⟩ := z_bi_c h
              have q13 : z_fr w_X3_readLine_79 M M27 := q11.sub (R_X3_isWord_79 c13) (by decide)
              by_cases g14 : v26 = 0
              · replace h := (if_pos g14).symm.trans h
                obtain ⟨M31, c15, h⟩ := z_bv_c h
                have q15 : z_fr w_X3_readLine_79 M M31 := q13.sub (R_X3_fail_79 c15) (by decide)
                cases h
                exact q15
              · replace h := (if_neg g14).symm.trans h
                obtain ⟨M34, c16, h⟩ := z_bv_c h
                have q16 : z_fr w_X3_readLine_79 M M34 := q13.sub (R_X3_readTroupe_79 c16) (by decide)
                cases h
                exact q16
            · replace h := (if_neg g12).symm.trans h
              obtain ⟨M37, c17, h⟩ := z_bv_c h
              have q17 : z_fr w_X3_readLine_79 M M37 := q11.sub (R_X3_readLike_79 c17) (by decide)
              cases h
              exact q17
          · replace h := (if_neg g10).symm.trans h
            obtain ⟨M40, c18, h⟩ := z_bv_c h
            have q18 : z_fr w_X3_readLine_79 M M40 := q9.sub (R_X3_readPlay_79 c18) (by decide)
            cases h
            exact q18
        · replace h := (if_neg g8).symm.trans h
          obtain ⟨M43, c19, h⟩ := z_bv_c h
          have q19 : z_fr w_X3_readLine_79 M M43 := q7.sub (R_X3_readThing_79 c19) (by decide)
          cases h
          exact q19
      · replace h := (if_neg g6).symm.trans h
        obtain ⟨M46, c20, h⟩ := z_bv_c h
        have q20 : z_fr w_X3_readLine_79 M M46 := q5.sub (R_X3_readTrunk_79 c20) (by decide)
        cases h
        exact q20
    · replace h := (if_neg g4).symm.trans h
      obtain ⟨M49, c21, h⟩ := z_bv_c h
      have q21 : z_fr w_X3_readLine_79 M M49 := q3.sub (R_X3_readTrain_79 c21) (by decide)
      cases h
      exact q21
  · replace h := (if_neg g2).symm.trans h
    obtain ⟨M52, c22, h⟩ := z_bv_c h
    have q22 : z_fr w_X3_readLine_79 M M52 := q1.sub (R_X3_readTown_79 c22) (by decide)
    cases h
    exact q22
def w_X3_read_79 : zWs := ([(66, 0), (66, 6), (66, 8), (66, 11), (66, 16), (79, 2), (79, 3), (79, 4), (79, 5), (79, 6), (79, 7), (79, 8), (79, 9), (79, 10)], [67, 68, 69, 70, 71, 72, 73, 74, 75, 76, 77, 78])
theorem R0_X3_read_79_p46 : ∀ (n : Nat) (x2 : Int32) (M M' : zMM) (v : Int32), f_X3_read_79_p46  n x2 M = some (v, M') → z_fr w_X3_read_79 M M' := by
  intro n
  induction n with
  | zero => intro x2 M M' v h; cases h
  | succ n ih =>
    intro x2 M M' v h
    replace h : (  if (M 79 2) < x2 then
    some ((M 79 9), M)
  else
    if (M 79 3) = 0 then
      some ((M 79 9), M)
    else
      if (M 79 9) = 0 then
        z_bv (f_X3_readLine_79  M) fun M12 =>
        f_X3_read_79_p46 n (x2 + (1 : Int32)) M12
      else
        some ((M 79 9), M)) = some (v, M') := h
    by_cases g1 : (M 79 2) < x2
    · replace h := (if_pos g1).symm.trans h
      cases h
      exact z_fr.refl
    · replace h := (if_neg g1).symm.trans h
      by_cases g2 : (M 79 3) = 0
      · replace h := (if_pos g2).symm.trans h
        cases h
        exact z_fr.refl
      · replace h := (if_neg g2).symm.trans h
        by_cases g3 : (M 79 9) = 0
        · replace h := (if_pos g3).symm.trans h
          obtain ⟨M12, c4, h⟩ := z_bv_c h
          have q4 : z_fr w_X3_read_79 M M12 := z_fr.refl.sub (R_X3_readLine_79 c4) (by decide)
          exact q4.trans (ih _ _ _ _ h)
        · replace h := (if_neg g3).symm.trans h
          cases h
          exact z_fr.refl
theorem R_X3_read_79_p46 {n : Nat} {x2 : Int32} {M M' : zMM} {v : Int32} (h : f_X3_read_79_p46  n x2 M = some (v, M')) : z_fr w_X3_read_79 M M' := R0_X3_read_79_p46 _ _ _ _ _ h
theorem R_X3_read_79 {x1 : Int32} {M M' : zMM} {v : Int32} (h : f_X3_read_79 x1 M = some (v, M')) : z_fr w_X3_read_79 M M' := by
  replace h : (  z_bv (f_X5_clear_66  (z_up (z_up (z_up (z_up (z_up M 79 2 (z_min x1 (700 : Int32))) 79 5 (0 : Int32)) 79 9 (0 : Int32)) 79 10 (-1 : Int32)) 79 8 (0 : Int32))) fun M3 =>
  z_bv (f_X3_step_79  M3) fun M6 =>
  f_X3_read_79_p46 z_fuel (0 : Int32) M6) = some (v, M') := h
  obtain ⟨M3, c1, h⟩ := z_bv_c h
  have q1 : z_fr w_X3_read_79 M M3 := (((((z_fr.refl.up rfl).up rfl).up rfl).up rfl).up rfl).sub (R_X5_clear_66 c1) (by decide)
  obtain ⟨M6, c2, h⟩ := z_bv_c h
  have q2 : z_fr w_X3_read_79 M M6 := q1.sub (R_X3_step_79 c2) (by decide)
  exact q2.trans (R_X3_read_79_p46 h)
def w_X3_faultPlace_79 : zWs := ([], [])
theorem R_X3_faultPlace_79 {M M' : zMM} {v : Int32} (h : f_X3_faultPlace_79 M = some (v, M')) : z_fr w_X3_faultPlace_79 M M' := by
  replace h : (  some ((M 79 10), M)) = some (v, M') := h
  cases h
  exact z_fr.refl
def w_X5_takeFrom_53_66 : zWs := ([(53, 0), (53, 6), (53, 8), (53, 11), (53, 16)], [54, 55, 56, 57, 58, 59, 60, 61, 62, 63, 64, 65])
theorem R_X5_takeFrom_53_66 {M M' : zMM} (h : f_X5_takeFrom_53_66 M = some M') : z_fr w_X5_takeFrom_53_66 M M' := by
  replace h : (  z_bv (some (z_cp (z_up (z_up (z_up (z_up (z_up M 53 0 (M 66 0)) 53 6 (M 66 6)) 53 8 (M 66 8)) 53 11 (M 66 11)) 53 16 (M 66 16)) 67 54 5)) fun M2 =>
  z_bv (some (z_cp M2 68 55 5)) fun M4 =>
  z_bv (some (z_cp M4 69 56 5)) fun M6 =>
  z_bv (some (z_cp M6 70 57 5)) fun M8 =>
  z_bv (some (z_cp M8 71 58 25)) fun M10 =>
  z_bv (some (z_cp M10 72 59 5)) fun M12 =>
  z_bv (some (z_cp M12 73 60 10)) fun M14 =>
  z_bv (some (z_cp M14 74 61 10)) fun M16 =>
  z_bv (some (z_cp M16 75 62 4)) fun M18 =>
  z_bv (some (z_cp M18 76 63 4)) fun M20 =>
  z_bv (some (z_cp M20 77 64 16)) fun M22 =>
  z_bv (some (z_cp M22 78 65 400)) fun M24 =>
  some M24) = some M' := h
  obtain ⟨M2, c1, h⟩ := z_bv_c h
  have q1 : z_fr w_X5_takeFrom_53_66 M M2 := Option.some.inj c1 ▸ ((((((z_fr.refl.up rfl).up rfl).up rfl).up rfl).up rfl).cp rfl)
  obtain ⟨M4, c2, h⟩ := z_bv_c h
  have q2 : z_fr w_X5_takeFrom_53_66 M M4 := Option.some.inj c2 ▸ (q1.cp rfl)
  obtain ⟨M6, c3, h⟩ := z_bv_c h
  have q3 : z_fr w_X5_takeFrom_53_66 M M6 := Option.some.inj c3 ▸ (q2.cp rfl)
  obtain ⟨M8, c4, h⟩ := z_bv_c h
  have q4 : z_fr w_X5_takeFrom_53_66 M M8 := Option.some.inj c4 ▸ (q3.cp rfl)
  obtain ⟨M10, c5, h⟩ := z_bv_c h
  have q5 : z_fr w_X5_takeFrom_53_66 M M10 := Option.some.inj c5 ▸ (q4.cp rfl)
  obtain ⟨M12, c6, h⟩ := z_bv_c h
  have q6 : z_fr w_X5_takeFrom_53_66 M M12 := Option.some.inj c6 ▸ (q5.cp rfl)
  obtain ⟨M14, c7, h⟩ := z_bv_c h
  have q7 : z_fr w_X5_takeFrom_53_66 M M14 := Option.some.inj c7 ▸ (q6.cp rfl)
  obtain ⟨M16, c8, h⟩ := z_bv_c h
  have q8 : z_fr w_X5_takeFrom_53_66 M M16 := Option.some.inj c8 ▸ (q7.cp rfl)
  obtain ⟨M18, c9, h⟩ := z_bv_c h
  have q9 : z_fr w_X5_takeFrom_53_66 M M18 := Option.some.inj c9 ▸ (q8.cp rfl)
  obtain ⟨M20, c10, h⟩ := z_bv_c h
  have q10 : z_fr w_X5_takeFrom_53_66 M M20 := Option.some.inj c10 ▸ (q9.cp rfl)
  obtain ⟨M22, c11, h⟩ := z_bv_c h
  have q11 : z_fr w_X5_takeFrom_53_66 M M22 := Option.some.inj c11 ▸ (q10.cp rfl)
  obtain ⟨M24, c12, h⟩ := z_bv_c h
  have q12 : z_fr w_X5_takeFrom_53_66 M M24 := Option.some.inj c12 ▸ (q11.cp rfl)
  cases h
  exact q12
def w_X6_measure_80 : zWs := ([], [81])
theorem R0_X6_measure_80_p56 {K42 : Int32 → zMM → Option zMM} {K49 : Int32 → Int32 → zMM → Option zMM}
    (hK42 : ∀ (a0 : Int32) (M M' : zMM), K42 a0 M = some M' → z_fr w_X6_measure_80 M M')
    (hK49 : ∀ (a0 : Int32) (a1 : Int32) (M M' : zMM), K49 a0 a1 M = some M' → z_fr w_X6_measure_80 M M') : ∀ (n : Nat) (x1 : Int32) (x2 : Int32) (x3 : Int32) (M M' : zMM) , f_X6_measure_80_p56 K42 K49 n x1 x2 x3 M = some M' → z_fr w_X6_measure_80 M M' := by
  intro n
  induction n with
  | zero => intro x1 x2 x3 M M' h; cases h
  | succ n ih =>
    intro x1 x2 x3 M M' h
    replace h : (  if (5 : Int32) ≤ x3 then
    K49 x1 (x2 + (1 : Int32)) M
  else
    z_bi (f_X6_span_80 x2 x1 M) fun v8 M9 =>
    z_bi (f_X6_span_80 x1 x3 M9) fun v11 M12 =>
    z_bi (f_X6_joined v8 v11 M12) fun v14 M15 =>
    z_bi (f_X6_span_80 x2 x3 M15) fun v17 M18 =>
    z_bi (f_X7_isLess v14 v17 M18) fun v20 M21 =>
    if v20 = 0 then
      f_X6_measure_80_p56 K42 K49 n x1 x2 (x3 + (1 : Int32)) M21
    else
      z_bv (some (z_pt M21 81 25 ((x2 * (5 : Int32)) + x3) v14)) fun M24 =>
      f_X6_measure_80_p56 K42 K49 n x1 x2 (x3 + (1 : Int32)) M24) = some M' := h
    by_cases g1 : (5 : Int32) ≤ x3
    · replace h := (if_pos g1).symm.trans h
      exact z_fr.refl.trans (hK49 _ _ _ _ h)
    · replace h := (if_neg g1).symm.trans h
      obtain ⟨v8, M9, c2, h⟩ := z_bi_c h
      have q2 : z_fr w_X6_measure_80 M M9 := z_fr.refl.sub (R_X6_span_80 c2) (by decide)
      obtain ⟨v11, M12, c3, h⟩ := z_bi_c h
      have q3 : z_fr w_X6_measure_80 M M12 := q2.sub (R_X6_span_80 c3) (by decide)
      obtain ⟨v14, M15, c4, h⟩ := z_bi_c h
      have q4 : z_fr w_X6_measure_80 M M15 := q3.sub (R_X6_joined c4) (by decide)
      obtain ⟨v17, M18, c5, h⟩ := z_bi_c h
      have q5 : z_fr w_X6_measure_80 M M18 := q4.sub (R_X6_span_80 c5) (by decide)
      obtain ⟨v20, M21, c6, h⟩ := z_bi_c h
      have q6 : z_fr w_X6_measure_80 M M21 := q5.sub (R_X7_isLess c6) (by decide)
      by_cases g7 : v20 = 0
      · replace h := (if_pos g7).symm.trans h
        exact q6.trans (ih _ _ _ _ _ h)
      · replace h := (if_neg g7).symm.trans h
        obtain ⟨M24, c8, h⟩ := z_bv_c h
        have q8 : z_fr w_X6_measure_80 M M24 := Option.some.inj c8 ▸ (q6.pt rfl)
        exact q8.trans (ih _ _ _ _ _ h)
theorem R_X6_measure_80_p56 {K42 : Int32 → zMM → Option zMM} {K49 : Int32 → Int32 → zMM → Option zMM}
    (hK42 : ∀ (a0 : Int32) (M M' : zMM), K42 a0 M = some M' → z_fr w_X6_measure_80 M M')
    (hK49 : ∀ (a0 : Int32) (a1 : Int32) (M M' : zMM), K49 a0 a1 M = some M' → z_fr w_X6_measure_80 M M') {n : Nat} {x1 : Int32} {x2 : Int32} {x3 : Int32} {M M' : zMM} (h : f_X6_measure_80_p56 K42 K49 n x1 x2 x3 M = some M') : z_fr w_X6_measure_80 M M' := R0_X6_measure_80_p56 hK42 hK49 _ _ _ _ _ _ h
theorem R0_X6_measure_80_p49 {K42 : Int32 → zMM → Option zMM}
    (hK42 : ∀ (a0 : Int32) (M M' : zMM), K42 a0 M = some M' → z_fr w_X6_measure_80 M M') : ∀ (n : Nat) (x1 : Int32) (x2 : Int32) (M M' : zMM) , f_X6_measure_80_p49 K42 n x1 x2 M = some M' → z_fr w_X6_measure_80 M M' := by
  intro n
  induction n with
  | zero => intro x1 x2 M M' h; cases h
  | succ n ih =>
    intro x1 x2 M M' h
    replace h : (  if (5 : Int32) ≤ x2 then
    K42 (x1 + (1 : Int32)) M
  else
    f_X6_measure_80_p56 K42 (f_X6_measure_80_p49 K42 n) z_fuel x1 x2 (0 : Int32) M) = some M' := h
    by_cases g1 : (5 : Int32) ≤ x2
    · replace h := (if_pos g1).symm.trans h
      exact z_fr.refl.trans (hK42 _ _ _ h)
    · replace h := (if_neg g1).symm.trans h
      exact z_fr.refl.trans (R_X6_measure_80_p56 hK42 ih h)
theorem R_X6_measure_80_p49 {K42 : Int32 → zMM → Option zMM}
    (hK42 : ∀ (a0 : Int32) (M M' : zMM), K42 a0 M = some M' → z_fr w_X6_measure_80 M M') {n : Nat} {x1 : Int32} {x2 : Int32} {M M' : zMM} (h : f_X6_measure_80_p49 K42 n x1 x2 M = some M') : z_fr w_X6_measure_80 M M' := R0_X6_measure_80_p49 hK42 _ _ _ _ _ h
theorem R0_X6_measure_80_p42 : ∀ (n : Nat) (x1 : Int32) (M M' : zMM) , f_X6_measure_80_p42  n x1 M = some M' → z_fr w_X6_measure_80 M M' := by
  intro n
  induction n with
  | zero => intro x1 M M' h; cases h
  | succ n ih =>
    intro x1 M M' h
    replace h : (  if (5 : Int32) ≤ x1 then
    some M
  else
    f_X6_measure_80_p49 (f_X6_measure_80_p42 n) z_fuel x1 (0 : Int32) M) = some M' := h
    by_cases g1 : (5 : Int32) ≤ x1
    · replace h := (if_pos g1).symm.trans h
      cases h
      exact z_fr.refl
    · replace h := (if_neg g1).symm.trans h
      exact z_fr.refl.trans (R_X6_measure_80_p49 ih h)
theorem R_X6_measure_80_p42 {n : Nat} {x1 : Int32} {M M' : zMM} (h : f_X6_measure_80_p42  n x1 M = some M') : z_fr w_X6_measure_80 M M' := R0_X6_measure_80_p42 _ _ _ _ h
theorem R0_X6_measure_80_p16 : ∀ (n : Nat) (x1 : Int32) (M M' : zMM) , f_X6_measure_80_p16  n x1 M = some M' → z_fr w_X6_measure_80 M M' := by
  intro n
  induction n with
  | zero => intro x1 M M' h; cases h
  | succ n ih =>
    intro x1 M M' h
    replace h : (  if (5 : Int32) ≤ x1 then
    f_X6_measure_80_p42 z_fuel (0 : Int32) M
  else
    z_bv (some (z_pt M 81 25 ((x1 * (5 : Int32)) + x1) (0 : Int32))) fun M26 =>
    f_X6_measure_80_p16 n (x1 + (1 : Int32)) M26) = some M' := h
    by_cases g1 : (5 : Int32) ≤ x1
    · replace h := (if_pos g1).symm.trans h
      exact z_fr.refl.trans (R_X6_measure_80_p42 h)
    · replace h := (if_neg g1).symm.trans h
      obtain ⟨M26, c2, h⟩ := z_bv_c h
      have q2 : z_fr w_X6_measure_80 M M26 := Option.some.inj c2 ▸ (z_fr.refl.pt rfl)
      exact q2.trans (ih _ _ _ h)
theorem R_X6_measure_80_p16 {n : Nat} {x1 : Int32} {M M' : zMM} (h : f_X6_measure_80_p16  n x1 M = some M') : z_fr w_X6_measure_80 M M' := R0_X6_measure_80_p16 _ _ _ _ h
theorem R_X6_measure_80 {M M' : zMM} (h : f_X6_measure_80 M = some M') : z_fr w_X6_measure_80 M M' := by
  replace h : (  z_bv (some (z_cp M 58 81 25)) fun M2 =>
  f_X6_measure_80_p16 z_fuel (0 : Int32) M2) = some M' := h
  obtain ⟨M2, c1, h⟩ := z_bv_c h
  have q1 : z_fr w_X6_measure_80 M M2 := Option.some.inj c1 ▸ (z_fr.refl.cp rfl)
  exact q1.trans (R_X6_measure_80_p16 h)
def w_X2_clear_83 : zWs := ([], [84])
theorem R_X2_clear_83 {M M' : zMM} (h : f_X2_clear_83 M = some M') : z_fr w_X2_clear_83 M M' := by
  replace h : (  z_bv (some (z_fl M 84 0 640 (-2 : Int32))) fun M2 =>
  some M2) = some M' := h
  obtain ⟨M2, c1, h⟩ := z_bv_c h
  have q1 : z_fr w_X2_clear_83 M M2 := Option.some.inj c1 ▸ (z_fr.refl.fl rfl)
  cases h
  exact q1
def w_X4_begin_87_53 : zWs := ([(87, 2), (87, 3), (87, 4), (87, 5)], [88, 89])
theorem R0_X4_begin_87_53_p2 : ∀ (n : Nat) (x2 : Int32) (M M' : zMM) , f_X4_begin_87_53_p2  n x2 M = some M' → z_fr w_X4_begin_87_53 M M' := by
  intro n
  induction n with
  | zero => intro x2 M M' h; cases h
  | succ n ih =>
    intro x2 M M' h
    replace h : (  if (5 : Int32) ≤ x2 then
    some (z_up (z_up (z_up (z_up M 87 2 (0 : Int32)) 87 3 (0 : Int32)) 87 4 (0 : Int32)) 87 5 (0 : Int32))
  else
    if (M 53 6) ≤ x2 then
      z_bv (f_X4_place_87 x2 (-1 : Int32) (0 : Int32) M) fun M5 =>
      f_X4_begin_87_53_p2 n (x2 + (1 : Int32)) M5
    else
      z_bv (f_X4_place_87 x2 (z_at M 59 5 x2) (0 : Int32) M) fun M8 =>
      f_X4_begin_87_53_p2 n (x2 + (1 : Int32)) M8) = some M' := h
    by_cases g1 : (5 : Int32) ≤ x2
    · replace h := (if_pos g1).symm.trans h
      cases h
      exact ((((z_fr.refl.up rfl).up rfl).up rfl).up rfl)
    · replace h := (if_neg g1).symm.trans h
      by_cases g2 : (M 53 6) ≤ x2
      · replace h := (if_pos g2).symm.trans h
        obtain ⟨M5, c3, h⟩ := z_bv_c h
        have q3 : z_fr w_X4_begin_87_53 M M5 := z_fr.refl.sub (R_X4_place_87 c3) (by decide)
        exact q3.trans (ih _ _ _ h)
      · replace h := (if_neg g2).symm.trans h
        obtain ⟨M8, c4, h⟩ := z_bv_c h
        have q4 : z_fr w_X4_begin_87_53 M M8 := z_fr.refl.sub (R_X4_place_87 c4) (by decide)
        exact q4.trans (ih _ _ _ h)
theorem R_X4_begin_87_53_p2 {n : Nat} {x2 : Int32} {M M' : zMM} (h : f_X4_begin_87_53_p2  n x2 M = some M') : z_fr w_X4_begin_87_53 M M' := R0_X4_begin_87_53_p2 _ _ _ _ h
theorem R_X4_begin_87_53 {M M' : zMM} (h : f_X4_begin_87_53 M = some M') : z_fr w_X4_begin_87_53 M M' := by
  replace h : (  f_X4_begin_87_53_p2 z_fuel (0 : Int32) M) = some M' := h
  exact z_fr.refl.trans (R_X4_begin_87_53_p2 h)
def w_X1_drop_103 : zWs := ([(103, 7)], [])
theorem R_X1_drop_103 {M M' : zMM} (h : f_X1_drop_103 M = some M') : z_fr w_X1_drop_103 M M' := by
  replace h : (  some (z_up M 103 7 (0 : Int32))) = some M' := h
  cases h
  exact (z_fr.refl.up rfl)
def w_X7_told_51 : zWs := ([(51, 1), (51, 2), (51, 10), (53, 0), (53, 6), (53, 8), (53, 11), (53, 16), (66, 0), (66, 6), (66, 8), (66, 11), (66, 16), (79, 2), (79, 3), (79, 4), (79, 5), (79, 6), (79, 7), (79, 8), (79, 9), (79, 10), (87, 2), (87, 3), (87, 4), (87, 5), (101, 2), (103, 7)], [54, 55, 56, 57, 58, 59, 60, 61, 62, 63, 64, 65, 67, 68, 69, 70, 71, 72, 73, 74, 75, 76, 77, 78, 81, 84, 88, 89, 93])
theorem R_X7_told_51 {x1 : Int32} {M M' : zMM} {v : (Int32 ⊕ Nat)} (h : f_X7_told_51 x1 M = some (v, M')) : z_fr w_X7_told_51 M M' := by
  replace h : (  if x1 < 0 then
    some (.inr 1, M)
  else
    if x1 ≤ (M 51 1) then
      z_bi (f_X3_read_79 x1 M) fun v4 M5 =>
      z_bi (f_X3_faultPlace_79  (z_up M5 51 1 (0 : Int32))) fun v7 M8 =>
      if v4 = 0 then
        z_bv (f_X5_takeFrom_53_66  (z_up M8 51 2 v7)) fun M12 =>
        z_bv (f_X6_measure_80  M12) fun M15 =>
        z_bv (f_X2_clear_83  M15) fun M18 =>
        z_bv (f_X4_begin_87_53  M18) fun M21 =>
        z_bv (f_X0_clear_101  M21) fun M24 =>
        z_bv (f_X1_drop_103  M24) fun M27 =>
        some (.inl (0 : Int32), (z_up M27 51 10 (0 : Int32)))
      else
        z_bv (f_X4_refuse_87 (0 : Int32) (z_up M8 51 2 v7)) fun M30 =>
        some (.inl v4, M30)
    else
      some (.inr 1, M)) = some (v, M') := h
  by_cases g1 : x1 < 0
  · replace h := (if_pos g1).symm.trans h
    cases h
    exact z_fr.refl
  · replace h := (if_neg g1).symm.trans h
    by_cases g2 : x1 ≤ (M 51 1)
    · replace h := (if_pos g2).symm.trans h
      obtain ⟨v4, M5, c3, h⟩ := z_bi_c h
      have q3 : z_fr w_X7_told_51 M M5 := z_fr.refl.sub (R_X3_read_79 c3) (by decide)
      obtain ⟨v7, M8, c4, h⟩ := z_bi_c h
      have q4 : z_fr w_X7_told_51 M M8 := (q3.up rfl).sub (R_X3_faultPlace_79 c4) (by decide)
      by_cases g5 : v4 = 0
      · replace h := (if_pos g5).symm.trans h
        obtain ⟨M12, c6, h⟩ := z_bv_c h
        have q6 : z_fr w_X7_told_51 M M12 := (q4.up rfl).sub (R_X5_takeFrom_53_66 c6) (by decide)
        obtain ⟨M15, c7, h⟩ := z_bv_c h
        have q7 : z_fr w_X7_told_51 M M15 := q6.sub (R_X6_measure_80 c7) (by decide)
        obtain ⟨M18, c8, h⟩ := z_bv_c h
        have q8 : z_fr w_X7_told_51 M M18 := q7.sub (R_X2_clear_83 c8) (by decide)
        obtain ⟨M21, c9, h⟩ := z_bv_c h
        have q9 : z_fr w_X7_told_51 M M21 := q8.sub (R_X4_begin_87_53 c9) (by decide)
        obtain ⟨M24, c10, h⟩ := z_bv_c h
        have q10 : z_fr w_X7_told_51 M M24 := q9.sub (R_X0_clear_101 c10) (by decide)
        obtain ⟨M27, c11, h⟩ := z_bv_c h
        have q11 : z_fr w_X7_told_51 M M27 := q10.sub (R_X1_drop_103 c11) (by decide)
        cases h
        exact (q11.up rfl)
      · replace h := (if_neg g5).symm.trans h
        obtain ⟨M30, c12, h⟩ := z_bv_c h
        have q12 : z_fr w_X7_told_51 M M30 := (q4.up rfl).sub (R_X4_refuse_87 c12) (by decide)
        cases h
        exact q12
    · replace h := (if_neg g2).symm.trans h
      cases h
      exact z_fr.refl
def w_X7_tonight_51 : zWs := ([], [84, 85, 86])
theorem R0_X7_tonight_51_p27 : ∀ (n : Nat) (x1 : Int32) (x2 : Int32) (x3 : Int32) (x4 : Int32) (x5 : Int32) (x6 : Int32) (M M' : zMM) (v : (Int32 ⊕ Nat)), f_X7_tonight_51_p27  n x1 x2 x3 x4 x5 x6 M = some (v, M') → z_fr w_X7_tonight_51 M M' := by
  intro n
  induction n with
  | zero => intro x1 x2 x3 x4 x5 x6 M M' v h; cases h
  | succ n ih =>
    intro x1 x2 x3 x4 x5 x6 M M' v h
    replace h : (  if (M 53 11) ≤ x6 then
    if x2 = 0 then
      some (.inl x3, M)
    else
      some (.inl x4, M)
  else
    if (M 53 16) < (z_at M 62 4 x6) then
      f_X7_tonight_51_p27 n x1 x2 x3 x4 x5 (x6 + (1 : Int32)) M
    else
      z_bi (f_X2_byTrunks_83 x6 x1 x5 M) fun v16 M17 =>
      z_bi (f_X7_isLess v16 x4 M17) fun v19 M20 =>
      if v19 = 0 then
        f_X7_tonight_51_p27 n x1 x2 x3 x4 x5 (x6 + (1 : Int32)) M20
      else
        f_X7_tonight_51_p27 n x1 x2 x6 v16 x5 (x6 + (1 : Int32)) M20) = some (v, M') := h
    by_cases g1 : (M 53 11) ≤ x6
    · replace h := (if_pos g1).symm.trans h
      by_cases g2 : x2 = 0
      · replace h := (if_pos g2).symm.trans h
        cases h
        exact z_fr.refl
      · replace h := (if_neg g2).symm.trans h
        cases h
        exact z_fr.refl
    · replace h := (if_neg g1).symm.trans h
      by_cases g3 : (M 53 16) < (z_at M 62 4 x6)
      · replace h := (if_pos g3).symm.trans h
        exact z_fr.refl.trans (ih _ _ _ _ _ _ _ _ _ h)
      · replace h := (if_neg g3).symm.trans h
        obtain ⟨v16, M17, c4, h⟩ := z_bi_c h
        have q4 : z_fr w_X7_tonight_51 M M17 := z_fr.refl.sub (R_X2_byTrunks_83 c4) (by decide)
        obtain ⟨v19, M20, c5, h⟩ := z_bi_c h
        have q5 : z_fr w_X7_tonight_51 M M20 := q4.sub (R_X7_isLess c5) (by decide)
        by_cases g6 : v19 = 0
        · replace h := (if_pos g6).symm.trans h
          exact q5.trans (ih _ _ _ _ _ _ _ _ _ h)
        · replace h := (if_neg g6).symm.trans h
          exact q5.trans (ih _ _ _ _ _ _ _ _ _ h)
theorem R_X7_tonight_51_p27 {n : Nat} {x1 : Int32} {x2 : Int32} {x3 : Int32} {x4 : Int32} {x5 : Int32} {x6 : Int32} {M M' : zMM} {v : (Int32 ⊕ Nat)} (h : f_X7_tonight_51_p27  n x1 x2 x3 x4 x5 x6 M = some (v, M')) : z_fr w_X7_tonight_51 M M' := R0_X7_tonight_51_p27 _ _ _ _ _ _ _ _ _ _ h
theorem R_X7_tonight_51 {x1 : Int32} {x2 : Int32} {M M' : zMM} {v : (Int32 ⊕ Nat)} (h : f_X7_tonight_51 x1 x2 M = some (v, M')) : z_fr w_X7_tonight_51 M M' := by
  replace h : (  z_bt (f_X7_checkTown_51 x1 M) fun v2 M3 =>
    z_bt (f_X7_checkPair x2 M3) fun v6 M7 =>
      z_bi (f_X4_trunksIn_87 x1 M7) fun v10 M11 =>
      f_X7_tonight_51_p27 z_fuel x1 x2 (-1 : Int32) (-1 : Int32) v10 (0 : Int32) M11) = some (v, M') := h
  rcases z_bt_c h with ⟨v2, M3, c1, h⟩ | ⟨e, c1, -⟩
  · have q1 : z_fr w_X7_tonight_51 M M3 := z_fr.refl.sub (R_X7_checkTown_51 c1) (by decide)
    rcases z_bt_c h with ⟨v6, M7, c2, h⟩ | ⟨e, c2, -⟩
    · have q2 : z_fr w_X7_tonight_51 M M7 := q1.sub (R_X7_checkPair c2) (by decide)
      obtain ⟨v10, M11, c3, h⟩ := z_bi_c h
      have q3 : z_fr w_X7_tonight_51 M M11 := q2.sub (R_X4_trunksIn_87 c3) (by decide)
      exact q3.trans (R_X7_tonight_51_p27 h)
    · exact q1.sub (R_X7_checkPair c2) (by decide)
  · exact z_fr.refl.sub (R_X7_checkTown_51 c1) (by decide)
def w_X1_firstSet_103 : zWs := ([], [])
theorem R0_X1_firstSet_103_p3 : ∀ (n : Nat) (x1 : Int32) (x2 : Int32) (x3 : Int32) (x4 : Int32) (M M' : zMM) (v : Int32), f_X1_firstSet_103_p3  n x1 x2 x3 x4 M = some (v, M') → z_fr w_X1_firstSet_103 M M' := by
  intro n
  induction n with
  | zero => intro x1 x2 x3 x4 M M' v h; cases h
  | succ n ih =>
    intro x1 x2 x3 x4 M M' v h
    replace h : (  if (16 : Int32) ≤ x4 then
    some ((0 : Int32), M)
  else
    z_bi (f_X1_fitOf_103 x1 x4 M) fun v3 M4 =>
    if v3 = 0 then
      f_X1_firstSet_103_p3 n x1 x2 x3 (x4 + (1 : Int32)) M4
    else
      z_bi (f_X1_spread x4 x1 M4) fun v7 M8 =>
      z_bi (f_X1_leastFrom_103 8 (x1 + (1 : Int32)) (x2 ||| v7) (-1 : Int32) M8) fun v10 M11 =>
      if v10 = x3 then
        some (x4, M11)
      else
        f_X1_firstSet_103_p3 n x1 x2 x3 (x4 + (1 : Int32)) M11) = some (v, M') := h
    by_cases g1 : (16 : Int32) ≤ x4
    · replace h := (if_pos g1).symm.trans h
      cases h
      exact z_fr.refl
    · replace h := (if_neg g1).symm.trans h
      obtain ⟨v3, M4, c2, h⟩ := z_bi_c h
      have q2 : z_fr w_X1_firstSet_103 M M4 := z_fr.refl.sub (R_X1_fitOf_103 c2) (by decide)
      by_cases g3 : v3 = 0
      · replace h := (if_pos g3).symm.trans h
        exact q2.trans (ih _ _ _ _ _ _ _ h)
      · replace h := (if_neg g3).symm.trans h
        obtain ⟨v7, M8, c4, h⟩ := z_bi_c h
        have q4 : z_fr w_X1_firstSet_103 M M8 := q2.sub (R_X1_spread c4) (by decide)
        obtain ⟨v10, M11, c5, h⟩ := z_bi_c h
        have q5 : z_fr w_X1_firstSet_103 M M11 := q4.sub (R_X1_leastFrom_103 c5) (by decide)
        by_cases g6 : v10 = x3
        · replace h := (if_pos g6).symm.trans h
          cases h
          exact q5
        · replace h := (if_neg g6).symm.trans h
          exact q5.trans (ih _ _ _ _ _ _ _ h)
theorem R_X1_firstSet_103_p3 {n : Nat} {x1 : Int32} {x2 : Int32} {x3 : Int32} {x4 : Int32} {M M' : zMM} {v : Int32} (h : f_X1_firstSet_103_p3  n x1 x2 x3 x4 M = some (v, M')) : z_fr w_X1_firstSet_103 M M' := R0_X1_firstSet_103_p3 _ _ _ _ _ _ _ _ h
theorem R_X1_firstSet_103 {x1 : Int32} {x2 : Int32} {x3 : Int32} {M M' : zMM} {v : Int32} (h : f_X1_firstSet_103 x1 x2 x3 M = some (v, M')) : z_fr w_X1_firstSet_103 M M' := by
  replace h : (  f_X1_firstSet_103_p3 z_fuel x1 x2 x3 (0 : Int32) M) = some (v, M') := h
  exact z_fr.refl.trans (R_X1_firstSet_103_p3 h)
def w_X1_plan_103 : zWs := ([(103, 7)], [84, 85, 86, 104, 105, 106])
theorem R0_X1_plan_103_p27 : ∀ (n : Nat) (x1 : Int32) (x2 : Int32) (x3 : Int32) (M M' : zMM) (v : Int32), f_X1_plan_103_p27  n x1 x2 x3 M = some (v, M') → z_fr w_X1_plan_103 M M' := by
  intro n
  induction n with
  | zero => intro x1 x2 x3 M M' v h; cases h
  | succ n ih =>
    intro x1 x2 x3 M M' v h
    replace h : (  if (M 53 6) ≤ x3 then
    some (x1, (z_up M 103 7 (1 : Int32)))
  else
    z_bi (f_X1_firstSet_103 x3 x2 x1 M) fun v13 M14 =>
    z_bv (some (z_pt M14 106 5 x3 v13)) fun M16 =>
    z_bi (f_X1_spread v13 x3 M16) fun v18 M19 =>
    f_X1_plan_103_p27 n x1 (x2 ||| v18) (x3 + (1 : Int32)) M19) = some (v, M') := h
    by_cases g1 : (M 53 6) ≤ x3
    · replace h := (if_pos g1).symm.trans h
      cases h
      exact (z_fr.refl.up rfl)
    · replace h := (if_neg g1).symm.trans h
      obtain ⟨v13, M14, c2, h⟩ := z_bi_c h
      have q2 : z_fr w_X1_plan_103 M M14 := z_fr.refl.sub (R_X1_firstSet_103 c2) (by decide)
      obtain ⟨M16, c3, h⟩ := z_bv_c h
      have q3 : z_fr w_X1_plan_103 M M16 := Option.some.inj c3 ▸ (q2.pt rfl)
      obtain ⟨v18, M19, c4, h⟩ := z_bi_c h
      have q4 : z_fr w_X1_plan_103 M M19 := q3.sub (R_X1_spread c4) (by decide)
      exact q4.trans (ih _ _ _ _ _ _ h)
theorem R_X1_plan_103_p27 {n : Nat} {x1 : Int32} {x2 : Int32} {x3 : Int32} {M M' : zMM} {v : Int32} (h : f_X1_plan_103_p27  n x1 x2 x3 M = some (v, M')) : z_fr w_X1_plan_103 M M' := R0_X1_plan_103_p27 _ _ _ _ _ _ _ h
theorem R_X1_plan_103 {M M' : zMM} {v : Int32} (h : f_X1_plan_103 M = some (v, M')) : z_fr w_X1_plan_103 M M' := by
  replace h : (  z_bv (f_X1_findFits_103  M) fun M3 =>
  z_bv (f_X1_findCosts_103  M3) fun M6 =>
  z_bi (f_X1_leastFrom_103 8 (0 : Int32) (0 : Int32) (-1 : Int32) M6) fun v8 M9 =>
  if v8 = (-1 : Int32) then
    some ((-1 : Int32), M9)
  else
    f_X1_plan_103_p27 z_fuel v8 (0 : Int32) (0 : Int32) M9) = some (v, M') := h
  obtain ⟨M3, c1, h⟩ := z_bv_c h
  have q1 : z_fr w_X1_plan_103 M M3 := z_fr.refl.sub (R_X1_findFits_103 c1) (by decide)
  obtain ⟨M6, c2, h⟩ := z_bv_c h
  have q2 : z_fr w_X1_plan_103 M M6 := q1.sub (R_X1_findCosts_103 c2) (by decide)
  obtain ⟨v8, M9, c3, h⟩ := z_bi_c h
  have q3 : z_fr w_X1_plan_103 M M9 := q2.sub (R_X1_leastFrom_103 c3) (by decide)
  by_cases g4 : v8 = (-1 : Int32)
  · replace h := (if_pos g4).symm.trans h
    cases h
    exact q3
  · replace h := (if_neg g4).symm.trans h
    exact q3.trans (R_X1_plan_103_p27 h)
def w_X7_tour_51 : zWs := ([(103, 7)], [84, 85, 86, 104, 105, 106])
theorem R_X7_tour_51 {M M' : zMM} {v : Int32} (h : f_X7_tour_51 M = some (v, M')) : z_fr w_X7_tour_51 M M' := by
  replace h : (  z_bi (f_X1_plan_103  M) fun v2 M3 =>
  some (v2, M3)) = some (v, M') := h
  obtain ⟨v2, M3, c1, h⟩ := z_bi_c h
  have q1 : z_fr w_X7_tour_51 M M3 := z_fr.refl.sub (R_X1_plan_103 c1) (by decide)
  cases h
  exact q1
def w_X7_town_51 : zWs := ([], [])
theorem R_X7_town_51 {x1 : Int32} {x2 : Int32} {M M' : zMM} {v : (Int32 ⊕ Nat)} (h : f_X7_town_51 x1 x2 M = some (v, M')) : z_fr w_X7_town_51 M M' := by
  replace h : (  z_bt (f_X7_checkTown_51 x1 M) fun v2 M3 =>
    if x2 = (0 : Int32) then
      some (.inl (z_at M3 54 5 x1), M3)
    else
      if x2 = (1 : Int32) then
        some (.inl (z_at M3 55 5 x1), M3)
      else
        if x2 = (2 : Int32) then
          some (.inl (z_at M3 56 5 x1), M3)
        else
          if x2 = (3 : Int32) then
            some (.inl (z_at M3 57 5 x1), M3)
          else
            if x2 = (4 : Int32) then
              z_bi (f_X4_trunksIn_87 x1 M3) fun v11 M12 =>
              some (.inl v11, M12)
            else
              if x2 = (5 : Int32) then
                z_bi (f_X4_trunksIn_87 x1 M3) fun v15 M16 =>
                z_bi (f_X5_thingsOf_53 v15 M16) fun v18 M19 =>
                some (.inl v18, M19)
              else
                some (.inr 0, M3)) = some (v, M') := h
  rcases z_bt_c h with ⟨v2, M3, c1, h⟩ | ⟨e, c1, -⟩
  · have q1 : z_fr w_X7_town_51 M M3 := z_fr.refl.sub (R_X7_checkTown_51 c1) (by decide)
    by_cases g2 : x2 = (0 : Int32)
    · replace h := (if_pos g2).symm.trans h
      cases h
      exact q1
    · replace h := (if_neg g2).symm.trans h
      by_cases g3 : x2 = (1 : Int32)
      · replace h := (if_pos g3).symm.trans h
        cases h
        exact q1
      · replace h := (if_neg g3).symm.trans h
        by_cases g4 : x2 = (2 : Int32)
        · replace h := (if_pos g4).symm.trans h
          cases h
          exact q1
        · replace h := (if_neg g4).symm.trans h
          by_cases g5 : x2 = (3 : Int32)
          · replace h := (if_pos g5).symm.trans h
            cases h
            exact q1
          · replace h := (if_neg g5).symm.trans h
            by_cases g6 : x2 = (4 : Int32)
            · replace h := (if_pos g6).symm.trans h
              obtain ⟨v11, M12, c7, h⟩ := z_bi_c h
              have q7 : z_fr w_X7_town_51 M M12 := q1.sub (R_X4_trunksIn_87 c7) (by decide)
              cases h
              exact q7
            · replace h := (if_neg g6).symm.trans h
              by_cases g8 : x2 = (5 : Int32)
              · replace h := (if_pos g8).symm.trans h
                obtain ⟨v15, M16, c9, h⟩ := z_bi_c h
                have q9 : z_fr w_X7_town_51 M M16 := q1.sub (R_X4_trunksIn_87 c9) (by decide)
                obtain ⟨v18, M19, c10, h⟩ := z_bi_c h
                have q10 : z_fr w_X7_town_51 M M19 := q9.sub (R_X5_thingsOf_53 c10) (by decide)
                cases h
                exact q10
              · replace h := (if_neg g8).symm.trans h
                cases h
                exact q1
  · exact z_fr.refl.sub (R_X7_checkTown_51 c1) (by decide)
def w_X7_trunk_51 : zWs := ([], [])
theorem R_X7_trunk_51 {x1 : Int32} {x2 : Int32} {M M' : zMM} {v : (Int32 ⊕ Nat)} (h : f_X7_trunk_51 x1 x2 M = some (v, M')) : z_fr w_X7_trunk_51 M M' := by
  replace h : (  z_bt (f_X7_checkTrunk_51 x1 M) fun v2 M3 =>
    if x2 = (0 : Int32) then
      z_bi (f_X4_isThere_87 x1 M3) fun v7 M8 =>
      if v7 = 0 then
        some (.inl (-1 : Int32), M8)
      else
        some (.inl (z_at M8 88 5 x1), M8)
    else
      if x2 = (1 : Int32) then
        some (.inl (z_at M3 88 5 x1), M3)
      else
        if x2 = (2 : Int32) then
          some (.inl (z_at M3 89 5 x1), M3)
        else
          if x2 = (3 : Int32) then
            z_bi (f_X5_thingsOf_53 ((1 : Int32) <<< (x1 &&& 31)) M3) fun v14 M15 =>
            some (.inl v14, M15)
          else
            some (.inr 0, M3)) = some (v, M') := h
  rcases z_bt_c h with ⟨v2, M3, c1, h⟩ | ⟨e, c1, -⟩
  · have q1 : z_fr w_X7_trunk_51 M M3 := z_fr.refl.sub (R_X7_checkTrunk_51 c1) (by decide)
    by_cases g2 : x2 = (0 : Int32)
    · replace h := (if_pos g2).symm.trans h
      obtain ⟨v7, M8, c3, h⟩ := z_bi_c h
      have q3 : z_fr w_X7_trunk_51 M M8 := q1.sub (R_X4_isThere_87 c3) (by decide)
      by_cases g4 : v7 = 0
      · replace h := (if_pos g4).symm.trans h
        cases h
        exact q3
      · replace h := (if_neg g4).symm.trans h
        cases h
        exact q3
    · replace h := (if_neg g2).symm.trans h
      by_cases g5 : x2 = (1 : Int32)
      · replace h := (if_pos g5).symm.trans h
        cases h
        exact q1
      · replace h := (if_neg g5).symm.trans h
        by_cases g6 : x2 = (2 : Int32)
        · replace h := (if_pos g6).symm.trans h
          cases h
          exact q1
        · replace h := (if_neg g6).symm.trans h
          by_cases g7 : x2 = (3 : Int32)
          · replace h := (if_pos g7).symm.trans h
            obtain ⟨v14, M15, c8, h⟩ := z_bi_c h
            have q8 : z_fr w_X7_trunk_51 M M15 := q1.sub (R_X5_thingsOf_53 c8) (by decide)
            cases h
            exact q8
          · replace h := (if_neg g7).symm.trans h
            cases h
            exact q1
  · exact z_fr.refl.sub (R_X7_checkTrunk_51 c1) (by decide)
def w_X0_bringBack_101_87 : zWs := ([(87, 2), (87, 3), (87, 4), (101, 1), (101, 2)], [88, 89])
theorem R0_X0_bringBack_101_87_p68 : ∀ (n : Nat) (x2 : Int32) (x3 : Int32) (M M' : zMM) (v : Int32), f_X0_bringBack_101_87_p68  n x2 x3 M = some (v, M') → z_fr w_X0_bringBack_101_87 M M' := by
  intro n
  induction n with
  | zero => intro x2 x3 M M' v h; cases h
  | succ n ih =>
    intro x2 x3 M M' v h
    replace h : (  if (5 : Int32) ≤ x3 then
    if (M 101 1) ≤ 0 then
      some ((1 : Int32), (z_up (z_up M 101 1 (99 : Int32)) 101 2 ((M 101 2) - (1 : Int32))))
    else
      some ((1 : Int32), (z_up (z_up M 101 1 ((M 101 1) - (1 : Int32))) 101 2 ((M 101 2) - (1 : Int32))))
  else
    z_bv (f_X4_place_87 x3 (z_at M 102 1300 ((x2 + (3 : Int32)) + ((2 : Int32) * x3))) (z_at M 102 1300 ((x2 + (4 : Int32)) + ((2 : Int32) * x3))) M) fun M8 =>
    f_X0_bringBack_101_87_p68 n x2 (x3 + (1 : Int32)) M8) = some (v, M') := h
    by_cases g1 : (5 : Int32) ≤ x3
    · replace h := (if_pos g1).symm.trans h
      by_cases g2 : (M 101 1) ≤ 0
      · replace h := (if_pos g2).symm.trans h
        cases h
        exact ((z_fr.refl.up rfl).up rfl)
      · replace h := (if_neg g2).symm.trans h
        cases h
        exact ((z_fr.refl.up rfl).up rfl)
    · replace h := (if_neg g1).symm.trans h
      obtain ⟨M8, c3, h⟩ := z_bv_c h
      have q3 : z_fr w_X0_bringBack_101_87 M M8 := z_fr.refl.sub (R_X4_place_87 c3) (by decide)
      exact q3.trans (ih _ _ _ _ _ h)
theorem R_X0_bringBack_101_87_p68 {n : Nat} {x2 : Int32} {x3 : Int32} {M M' : zMM} {v : Int32} (h : f_X0_bringBack_101_87_p68  n x2 x3 M = some (v, M')) : z_fr w_X0_bringBack_101_87 M M' := R0_X0_bringBack_101_87_p68 _ _ _ _ _ _ h
theorem R_X0_bringBack_101_87_p49 {x2 : Int32} {a0 : Int32} {M M' : zMM} {v : Int32} (h : f_X0_bringBack_101_87_p49 x2 a0 M = some (v, M')) : z_fr w_X0_bringBack_101_87 M M' := by
  replace h : (  if z_zb a0 = true then
    f_X0_bringBack_101_87_p68 z_fuel x2 (0 : Int32) (z_up (z_up M 87 3 a0) 87 4 (z_at M 102 1300 (x2 + (2 : Int32))))
  else none) = some (v, M') := h
  obtain ⟨g1, h⟩ := z_ifn h
  exact ((z_fr.refl.up rfl).up rfl).trans (R_X0_bringBack_101_87_p68 h)
theorem R_X0_bringBack_101_87 {M M' : zMM} {v : Int32} (h : f_X0_bringBack_101_87 M = some (v, M')) : z_fr w_X0_bringBack_101_87 M M' := by
  replace h : (  if 0 < (M 101 2) then
    if (z_at M 102 1300 (((M 101 1) * (13 : Int32)) + (1 : Int32))) = (1 : Int32) then
      f_X0_bringBack_101_87_p49 ((M 101 1) * (13 : Int32)) (1 : Int32) (z_up M 87 2 (z_at M 102 1300 ((M 101 1) * (13 : Int32))))
    else
      f_X0_bringBack_101_87_p49 ((M 101 1) * (13 : Int32)) (0 : Int32) (z_up M 87 2 (z_at M 102 1300 ((M 101 1) * (13 : Int32))))
  else
    some ((0 : Int32), M)) = some (v, M') := h
  by_cases g1 : 0 < (M 101 2)
  · replace h := (if_pos g1).symm.trans h
    by_cases g2 : (z_at M 102 1300 (((M 101 1) * (13 : Int32)) + (1 : Int32))) = (1 : Int32)
    · replace h := (if_pos g2).symm.trans h
      exact (z_fr.refl.up rfl).trans (R_X0_bringBack_101_87_p49 h)
    · replace h := (if_neg g2).symm.trans h
      exact (z_fr.refl.up rfl).trans (R_X0_bringBack_101_87_p49 h)
  · replace h := (if_neg g1).symm.trans h
    cases h
    exact z_fr.refl
def w_X7_undo_51 : zWs := ([(87, 2), (87, 3), (87, 4), (101, 1), (101, 2)], [88, 89])
theorem R_X7_undo_51 {M M' : zMM} {v : Int32} (h : f_X7_undo_51 M = some (v, M')) : z_fr w_X7_undo_51 M M' := by
  replace h : (  z_bi (f_X0_bringBack_101_87  M) fun v2 M3 =>
  if z_zb v2 = true then some (v2, M3) else none) = some (v, M') := h
  obtain ⟨v2, M3, c1, h⟩ := z_bi_c h
  have q1 : z_fr w_X7_undo_51 M M3 := z_fr.refl.sub (R_X0_bringBack_101_87 c1) (by decide)
  obtain ⟨g2, h⟩ := z_ifn h
  cases h
  exact q1
def w_X7_weightOf : zWs := ([], [])
theorem R_X7_weightOf {x0 : Int32} {M M' : zMM} {v : (Int32 ⊕ Nat)} (h : f_X7_weightOf x0 M = some (v, M')) : z_fr w_X7_weightOf M M' := by
  replace h : (  if x0 < (-1 : Int32) then
    some (.inr 1, M)
  else
    if x0 < (2000 : Int32) then
      if x0 = (-1 : Int32) then
        some (.inl (0 : Int32), M)
      else
        some (.inl (x0 - x0 / (100 : Int32) * (100 : Int32)), M)
    else
      some (.inr 1, M)) = some (v, M') := h
  by_cases g1 : x0 < (-1 : Int32)
  · replace h := (if_pos g1).symm.trans h
    cases h
    exact z_fr.refl
  · replace h := (if_neg g1).symm.trans h
    by_cases g2 : x0 < (2000 : Int32)
    · replace h := (if_pos g2).symm.trans h
      by_cases g3 : x0 = (-1 : Int32)
      · replace h := (if_pos g3).symm.trans h
        cases h
        exact z_fr.refl
      · replace h := (if_neg g3).symm.trans h
        cases h
        exact z_fr.refl
    · replace h := (if_neg g2).symm.trans h
      cases h
      exact z_fr.refl
def w_X7_orThousand : zWs := ([], [])
theorem R_X7_orThousand {x0 : Int32} {M M' : zMM} {v : Int32} (h : f_X7_orThousand x0 M = some (v, M')) : z_fr w_X7_orThousand M M' := by
  replace h : (  if x0 = (-1 : Int32) then
    some ((1000 : Int32), M)
  else
    some (x0, M)) = some (v, M') := h
  by_cases g1 : x0 = (-1 : Int32)
  · replace h := (if_pos g1).symm.trans h
    cases h
    exact z_fr.refl
  · replace h := (if_neg g1).symm.trans h
    cases h
    exact z_fr.refl
def w_X7_weighed_51 : zWs := ([], [85, 86])
theorem R_X7_weighed_51 {x1 : Int32} {x2 : Int32} {x3 : Int32} {x4 : Int32} {M M' : zMM} {v : Int32} (h : f_X7_weighed_51 x1 x2 x3 x4 M = some (v, M')) : z_fr w_X7_weighed_51 M M' := by
  replace h : (  if x4 = (-1 : Int32) then
    some ((0 : Int32), M)
  else
    z_bi (f_X2_byThings_83 x1 x2 x3 (x4 / (100 : Int32)) M) fun v3 M4 =>
    z_bi (f_X7_orThousand v3 M4) fun v6 M7 =>
    some (((x4 - x4 / (100 : Int32) * (100 : Int32)) * v6), M7)) = some (v, M') := h
  by_cases g1 : x4 = (-1 : Int32)
  · replace h := (if_pos g1).symm.trans h
    cases h
    exact z_fr.refl
  · replace h := (if_neg g1).symm.trans h
    obtain ⟨v3, M4, c2, h⟩ := z_bi_c h
    have q2 : z_fr w_X7_weighed_51 M M4 := z_fr.refl.sub (R_X2_byThings_83 c2) (by decide)
    obtain ⟨v6, M7, c3, h⟩ := z_bi_c h
    have q3 : z_fr w_X7_weighed_51 M M7 := q2.sub (R_X7_orThousand c3) (by decide)
    cases h
    exact q3
def w_X7_unopened_51 : zWs := ([], [85, 86])
theorem R_X7_unopened_51 {x1 : Int32} {x2 : Int32} {x3 : Int32} {x4 : Int32} {x5 : Int32} {M M' : zMM} {v : (Int32 ⊕ Nat)} (h : f_X7_unopened_51 x1 x2 x3 x4 x5 M = some (v, M')) : z_fr w_X7_unopened_51 M M' := by
  replace h : (  z_bt (f_X7_checkPlay_51 x1 M) fun v2 M3 =>
    z_bt (f_X7_checkTown_51 x2 M3) fun v6 M7 =>
      z_bt (f_X7_weightOf x3 M7) fun v10 M11 =>
        z_bt (f_X7_weightOf x4 M11) fun v14 M15 =>
          z_bt (f_X7_weightOf x5 M15) fun v18 M19 =>
            if 0 < ((v10 + v14) + v18) then
              z_bi (f_X4_trunksIn_87 x2 M19) fun v23 M24 =>
              z_bi (f_X5_thingsOf_53 v23 M24) fun v26 M27 =>
              z_bi (f_X2_byThings_83 x1 x2 v26 (-1 : Int32) M27) fun v29 M30 =>
              z_bi (f_X7_orThousand v29 M30) fun v32 M33 =>
              z_bi (f_X7_weighed_51 x1 x2 v26 x3 M33) fun v35 M36 =>
              z_bi (f_X7_weighed_51 x1 x2 v26 x4 M36) fun v38 M39 =>
              z_bi (f_X7_weighed_51 x1 x2 v26 x5 M39) fun v41 M42 =>
              if ¬ ((v10 + v14) + v18) = 0 then
                some (.inl (v32 - (((v35 + v38) + v41) / ((v10 + v14) + v18))), M42)
              else none
            else
              some (.inr 1, M19)) = some (v, M') := h
  rcases z_bt_c h with ⟨v2, M3, c1, h⟩ | ⟨e, c1, -⟩
  · have q1 : z_fr w_X7_unopened_51 M M3 := z_fr.refl.sub (R_X7_checkPlay_51 c1) (by decide)
    rcases z_bt_c h with ⟨v6, M7, c2, h⟩ | ⟨e, c2, -⟩
    · have q2 : z_fr w_X7_unopened_51 M M7 := q1.sub (R_X7_checkTown_51 c2) (by decide)
      rcases z_bt_c h with ⟨v10, M11, c3, h⟩ | ⟨e, c3, -⟩
      · have q3 : z_fr w_X7_unopened_51 M M11 := q2.sub (R_X7_weightOf c3) (by decide)
        rcases z_bt_c h with ⟨v14, M15, c4, h⟩ | ⟨e, c4, -⟩
        · have q4 : z_fr w_X7_unopened_51 M M15 := q3.sub (R_X7_weightOf c4) (by decide)
          rcases z_bt_c h with ⟨v18, M19, c5, h⟩ | ⟨e, c5, -⟩
          · have q5 : z_fr w_X7_unopened_51 M M19 := q4.sub (R_X7_weightOf c5) (by decide)
            by_cases g6 : 0 < ((v10 + v14) + v18)
            · replace h := (if_pos g6).symm.trans h
              obtain ⟨v23, M24, c7, h⟩ := z_bi_c h
              have q7 : z_fr w_X7_unopened_51 M M24 := q5.sub (R_X4_trunksIn_87 c7) (by decide)
              obtain ⟨v26, M27, c8, h⟩ := z_bi_c h
              have q8 : z_fr w_X7_unopened_51 M M27 := q7.sub (R_X5_thingsOf_53 c8) (by decide)
              obtain ⟨v29, M30, c9, h⟩ := z_bi_c h
              have q9 : z_fr w_X7_unopened_51 M M30 := q8.sub (R_X2_byThings_83 c9) (by decide)
              obtain ⟨v32, M33, c10, h⟩ := z_bi_c h
              have q10 : z_fr w_X7_unopened_51 M M33 := q9.sub (R_X7_orThousand c10) (by decide)
              obtain ⟨v35, M36, c11, h⟩ := z_bi_c h
              have q11 : z_fr w_X7_unopened_51 M M36 := q10.sub (R_X7_weighed_51 c11) (by decide)
              obtain ⟨v38, M39, c12, h⟩ := z_bi_c h
              have q12 : z_fr w_X7_unopened_51 M M39 := q11.sub (R_X7_weighed_51 c12) (by decide)
              obtain ⟨v41, M42, c13, h⟩ := z_bi_c h
              have q13 : z_fr w_X7_unopened_51 M M42 := q12.sub (R_X7_weighed_51 c13) (by decide)
              obtain ⟨g14, h⟩ := z_ifn h
              cases h
              exact q13
            · replace h := (if_neg g6).symm.trans h
              cases h
              exact q5
          · exact q4.sub (R_X7_weightOf c5) (by decide)
        · exact q3.sub (R_X7_weightOf c4) (by decide)
      · exact q2.sub (R_X7_weightOf c3) (by decide)
    · exact q1.sub (R_X7_checkTown_51 c2) (by decide)
  · exact z_fr.refl.sub (R_X7_checkPlay_51 c1) (by decide)
def w_X7_way_51 : zWs := ([], [])
theorem R_X7_way_51 {x1 : Int32} {x2 : Int32} {M M' : zMM} {v : (Int32 ⊕ Nat)} (h : f_X7_way_51 x1 x2 M = some (v, M')) : z_fr w_X7_way_51 M M' := by
  replace h : (  z_bt (f_X7_checkTown_51 x1 M) fun v2 M3 =>
    z_bt (f_X7_checkTown_51 x2 M3) fun v6 M7 =>
      z_bi (f_X6_span_80 x1 x2 M7) fun v10 M11 =>
      some (.inl v10, M11)) = some (v, M') := h
  rcases z_bt_c h with ⟨v2, M3, c1, h⟩ | ⟨e, c1, -⟩
  · have q1 : z_fr w_X7_way_51 M M3 := z_fr.refl.sub (R_X7_checkTown_51 c1) (by decide)
    rcases z_bt_c h with ⟨v6, M7, c2, h⟩ | ⟨e, c2, -⟩
    · have q2 : z_fr w_X7_way_51 M M7 := q1.sub (R_X7_checkTown_51 c2) (by decide)
      obtain ⟨v10, M11, c3, h⟩ := z_bi_c h
      have q3 : z_fr w_X7_way_51 M M11 := q2.sub (R_X6_span_80 c3) (by decide)
      cases h
      exact q3
    · exact q1.sub (R_X7_checkTown_51 c2) (by decide)
  · exact z_fr.refl.sub (R_X7_checkTown_51 c1) (by decide)
def w_X8_isIn : zWs := ([], [])
theorem R_X8_isIn {x0 : Int32} {x1 : Int32} {x2 : Int32} {M M' : zMM} {v : Int32} (h : f_X8_isIn x0 x1 x2 M = some (v, M')) : z_fr w_X8_isIn M M' := by
  replace h : (  if x0 < x1 then
    some ((0 : Int32), M)
  else
    if x2 < x0 then
      some ((0 : Int32), M)
    else
      some ((1 : Int32), M)) = some (v, M') := h
  by_cases g1 : x0 < x1
  · replace h := (if_pos g1).symm.trans h
    cases h
    exact z_fr.refl
  · replace h := (if_neg g1).symm.trans h
    by_cases g2 : x2 < x0
    · replace h := (if_pos g2).symm.trans h
      cases h
      exact z_fr.refl
    · replace h := (if_neg g2).symm.trans h
      cases h
      exact z_fr.refl
def w_X8_isTown_107 : zWs := ([], [])
theorem R_X8_isTown_107 {x1 : Int32} {M M' : zMM} {v : Int32} (h : f_X8_isTown_107 x1 M = some (v, M')) : z_fr w_X8_isTown_107 M M' := by
  replace h : (  z_bi (f_X8_isIn x1 (0 : Int32) ((M 109 0) - (1 : Int32)) M) fun v2 M3 =>
  if z_zb v2 = true then some (v2, M3) else none) = some (v, M') := h
  obtain ⟨v2, M3, c1, h⟩ := z_bi_c h
  have q1 : z_fr w_X8_isTown_107 M M3 := z_fr.refl.sub (R_X8_isIn c1) (by decide)
  obtain ⟨g2, h⟩ := z_ifn h
  cases h
  exact q1
def w_X8_fail_107 : zWs := ([(107, 1)], [])
theorem R_X8_fail_107 {x1 : Int32} {M M' : zMM} {v : Int32} (h : f_X8_fail_107 x1 M = some (v, M')) : z_fr w_X8_fail_107 M M' := by
  replace h : (  some ((0 : Int32), (z_up M 107 1 x1))) = some (v, M') := h
  cases h
  exact (z_fr.refl.up rfl)
def w_X8_trunksAt_107 : zWs := ([], [])
theorem R0_X8_trunksAt_107_p4 : ∀ (n : Nat) (x1 : Int32) (x2 : Int32) (x3 : Int32) (M M' : zMM) (v : Int32), f_X8_trunksAt_107_p4  n x1 x2 x3 M = some (v, M') → z_fr w_X8_trunksAt_107 M M' := by
  intro n
  induction n with
  | zero => intro x1 x2 x3 M M' v h; cases h
  | succ n ih =>
    intro x1 x2 x3 M M' v h
    replace h : (  if (M 109 1) ≤ x3 then
    some (x2, M)
  else
    if z_ib x3 5 = true then
      if (M 124 x3.toNatClampNeg) = x1 then
        if z_ib x3 5 = true then
          if (M 107 29) < (M 125 x3.toNatClampNeg) then
            f_X8_trunksAt_107_p4 n x1 (x2 ||| (0 : Int32)) (x3 + (1 : Int32)) M
          else
            f_X8_trunksAt_107_p4 n x1 (x2 ||| ((1 : Int32) <<< (x3 &&& 31))) (x3 + (1 : Int32)) M
        else none
      else
        f_X8_trunksAt_107_p4 n x1 (x2 ||| (0 : Int32)) (x3 + (1 : Int32)) M
    else none) = some (v, M') := h
    by_cases g1 : (M 109 1) ≤ x3
    · replace h := (if_pos g1).symm.trans h
      cases h
      exact z_fr.refl
    · replace h := (if_neg g1).symm.trans h
      obtain ⟨g2, h⟩ := z_ifn h
      by_cases g3 : (M 124 x3.toNatClampNeg) = x1
      · replace h := (if_pos g3).symm.trans h
        obtain ⟨g4, h⟩ := z_ifn h
        by_cases g5 : (M 107 29) < (M 125 x3.toNatClampNeg)
        · replace h := (if_pos g5).symm.trans h
          exact z_fr.refl.trans (ih _ _ _ _ _ _ h)
        · replace h := (if_neg g5).symm.trans h
          exact z_fr.refl.trans (ih _ _ _ _ _ _ h)
      · replace h := (if_neg g3).symm.trans h
        exact z_fr.refl.trans (ih _ _ _ _ _ _ h)
theorem R_X8_trunksAt_107_p4 {n : Nat} {x1 : Int32} {x2 : Int32} {x3 : Int32} {M M' : zMM} {v : Int32} (h : f_X8_trunksAt_107_p4  n x1 x2 x3 M = some (v, M')) : z_fr w_X8_trunksAt_107 M M' := R0_X8_trunksAt_107_p4 _ _ _ _ _ _ _ h
theorem R_X8_trunksAt_107 {x1 : Int32} {M M' : zMM} {v : Int32} (h : f_X8_trunksAt_107 x1 M = some (v, M')) : z_fr w_X8_trunksAt_107 M M' := by
  replace h : (  f_X8_trunksAt_107_p4 z_fuel x1 (0 : Int32) (0 : Int32) M) = some (v, M') := h
  exact z_fr.refl.trans (R_X8_trunksAt_107_p4 h)
def w_X8_thingsOf_107 : zWs := ([], [])
theorem R0_X8_thingsOf_107_p4 : ∀ (n : Nat) (x1 : Int32) (x2 : Int32) (x3 : Int32) (M M' : zMM) (v : Int32), f_X8_thingsOf_107_p4  n x1 x2 x3 M = some (v, M') → z_fr w_X8_thingsOf_107 M M' := by
  intro n
  induction n with
  | zero => intro x1 x2 x3 M M' v h; cases h
  | succ n ih =>
    intro x1 x2 x3 M M' v h
    replace h : (  if (M 109 2) ≤ x3 then
    some (x2, M)
  else
    if z_ib x3 22 = true then
      if ((x1 >>> ((M 117 x3.toNatClampNeg) &&& 31)) &&& (1 : Int32)) = (1 : Int32) then
        f_X8_thingsOf_107_p4 n x1 (x2 ||| ((1 : Int32) <<< (x3 &&& 31))) (x3 + (1 : Int32)) M
      else
        f_X8_thingsOf_107_p4 n x1 (x2 ||| (0 : Int32)) (x3 + (1 : Int32)) M
    else none) = some (v, M') := h
    by_cases g1 : (M 109 2) ≤ x3
    · replace h := (if_pos g1).symm.trans h
      cases h
      exact z_fr.refl
    · replace h := (if_neg g1).symm.trans h
      obtain ⟨g2, h⟩ := z_ifn h
      by_cases g3 : ((x1 >>> ((M 117 x3.toNatClampNeg) &&& 31)) &&& (1 : Int32)) = (1 : Int32)
      · replace h := (if_pos g3).symm.trans h
        exact z_fr.refl.trans (ih _ _ _ _ _ _ h)
      · replace h := (if_neg g3).symm.trans h
        exact z_fr.refl.trans (ih _ _ _ _ _ _ h)
theorem R_X8_thingsOf_107_p4 {n : Nat} {x1 : Int32} {x2 : Int32} {x3 : Int32} {M M' : zMM} {v : Int32} (h : f_X8_thingsOf_107_p4  n x1 x2 x3 M = some (v, M')) : z_fr w_X8_thingsOf_107 M M' := R0_X8_thingsOf_107_p4 _ _ _ _ _ _ _ h
theorem R_X8_thingsOf_107 {x1 : Int32} {M M' : zMM} {v : Int32} (h : f_X8_thingsOf_107 x1 M = some (v, M')) : z_fr w_X8_thingsOf_107 M M' := by
  replace h : (  f_X8_thingsOf_107_p4 z_fuel x1 (0 : Int32) (0 : Int32) M) = some (v, M') := h
  exact z_fr.refl.trans (R_X8_thingsOf_107_p4 h)
def w_X8_standsFor_107 : zWs := ([], [])
theorem R_X8_standsFor_107 {x1 : Int32} {x2 : Int32} {M M' : zMM} {v : Int32} (h : f_X8_standsFor_107 x1 x2 M = some (v, M')) : z_fr w_X8_standsFor_107 M M' := by
  replace h : (  if z_ib x1 22 = true then
    if (M 116 x1.toNatClampNeg) = x2 then
      some ((0 : Int32), M)
    else
      if z_ib x1 22 = true then
        if z_ib (((20 : Int32) * (M 116 x1.toNatClampNeg)) + x2) 800 = true then
          some ((M 121 (((20 : Int32) * (M 116 x1.toNatClampNeg)) + x2).toNatClampNeg), M)
        else none
      else none
  else none) = some (v, M') := h
  obtain ⟨g1, h⟩ := z_ifn h
  by_cases g2 : (M 116 x1.toNatClampNeg) = x2
  · replace h := (if_pos g2).symm.trans h
    cases h
    exact z_fr.refl
  · replace h := (if_neg g2).symm.trans h
    obtain ⟨g3, h⟩ := z_ifn h
    obtain ⟨g4, h⟩ := z_ifn h
    cases h
    exact z_fr.refl
def w_X8_fillOn_107 : zWs := ([(107, 38)], [128, 129])
theorem R0_X8_fillOn_107_p29 {S : Int32 → Int32 → Int32 → Int32 → Int32 → Int32 → zMM → Option zMM}
    (hS : ∀ (a0 : Int32) (a1 : Int32) (a2 : Int32) (a3 : Int32) (a4 : Int32) (a5 : Int32) (M M' : zMM), S a0 a1 a2 a3 a4 a5 M = some M' → z_fr w_X8_fillOn_107 M M') : ∀ (n : Nat) (x3 : Int32) (x7 : Int32) (M M' : zMM) , f_X8_fillOn_107_p29 S n x3 x7 M = some M' → z_fr w_X8_fillOn_107 M M' := by
  intro n
  induction n with
  | zero => intro x3 x7 M M' h; cases h
  | succ n ih =>
    intro x3 x7 M M' h
    replace h : (  if x3 ≤ x7 then
    some M
  else
    if z_ib x7 4 = true then
      if z_ib x7 4 = true then
        f_X8_fillOn_107_p29 S n x3 (x7 + (1 : Int32)) (z_up M 129 x7.toNatClampNeg (M 128 x7.toNatClampNeg))
      else none
    else none) = some M' := h
    by_cases g1 : x3 ≤ x7
    · replace h := (if_pos g1).symm.trans h
      cases h
      exact z_fr.refl
    · replace h := (if_neg g1).symm.trans h
      obtain ⟨g2, h⟩ := z_ifn h
      obtain ⟨g3, h⟩ := z_ifn h
      exact (z_fr.refl.up rfl).trans (ih _ _ _ _ h)
theorem R_X8_fillOn_107_p29 {S : Int32 → Int32 → Int32 → Int32 → Int32 → Int32 → zMM → Option zMM}
    (hS : ∀ (a0 : Int32) (a1 : Int32) (a2 : Int32) (a3 : Int32) (a4 : Int32) (a5 : Int32) (M M' : zMM), S a0 a1 a2 a3 a4 a5 M = some M' → z_fr w_X8_fillOn_107 M M') {n : Nat} {x3 : Int32} {x7 : Int32} {M M' : zMM} (h : f_X8_fillOn_107_p29 S n x3 x7 M = some M') : z_fr w_X8_fillOn_107 M M' := R0_X8_fillOn_107_p29 hS _ _ _ _ _ h
theorem R0_X8_fillOn_107_p59 {S : Int32 → Int32 → Int32 → Int32 → Int32 → Int32 → zMM → Option zMM}
    (hS : ∀ (a0 : Int32) (a1 : Int32) (a2 : Int32) (a3 : Int32) (a4 : Int32) (a5 : Int32) (M M' : zMM), S a0 a1 a2 a3 a4 a5 M = some M' → z_fr w_X8_fillOn_107 M M') : ∀ (n : Nat) (x1 : Int32) (x2 : Int32) (x3 : Int32) (x4 : Int32) (x5 : Int32) (x6 : Int32) (x7 : Int32) (M M' : zMM) , f_X8_fillOn_107_p59 S n x1 x2 x3 x4 x5 x6 x7 M = some M' → z_fr w_X8_fillOn_107 M M' := by
  intro n
  induction n with
  | zero => intro x1 x2 x3 x4 x5 x6 x7 M M' h; cases h
  | succ n ih =>
    intro x1 x2 x3 x4 x5 x6 x7 M M' h
    replace h : (  if (10 : Int32) < x7 then
    if z_ib x2 10 = true then
      if x5 = (M 112 x2.toNatClampNeg) then
        some M
      else
        if z_ib x3 4 = true then
          if z_ib x2 10 = true then
            z_bv (S x1 x2 (x3 + (1 : Int32)) x4 (x5 + (1 : Int32)) (x6 + (M 113 x2.toNatClampNeg)) (z_up M 128 x3.toNatClampNeg (99 : Int32))) fun M14 =>
            some M14
          else none
        else none
    else none
  else
    if ((x4 >>> (x7 &&& 31)) &&& (1 : Int32)) = 0 then
      f_X8_fillOn_107_p59 S n x1 x2 x3 x4 x5 x6 (x7 + (1 : Int32)) M
    else
      if z_ib (((4 : Int32) * x1) + x3) 32 = true then
        z_bi (f_X8_standsFor_107 x7 (M 119 (((4 : Int32) * x1) + x3).toNatClampNeg) M) fun v18 M19 =>
        if v18 = (-1 : Int32) then
          f_X8_fillOn_107_p59 S n x1 x2 x3 x4 x5 x6 (x7 + (1 : Int32)) M19
        else
          if z_ib x3 4 = true then
            z_bv (S x1 x2 (x3 + (1 : Int32)) (x4 &&& (((1 : Int32) <<< (x7 &&& 31)) ^^^ (-1 : Int32))) x5 (x6 + v18) (z_up M19 128 x3.toNatClampNeg x7)) fun M24 =>
            f_X8_fillOn_107_p59 S n x1 x2 x3 x4 x5 x6 (x7 + (1 : Int32)) M24
          else none
      else none) = some M' := h
    by_cases g1 : (10 : Int32) < x7
    · replace h := (if_pos g1).symm.trans h
      obtain ⟨g2, h⟩ := z_ifn h
      by_cases g3 : x5 = (M 112 x2.toNatClampNeg)
      · replace h := (if_pos g3).symm.trans h
        cases h
        exact z_fr.refl
      · replace h := (if_neg g3).symm.trans h
        obtain ⟨g4, h⟩ := z_ifn h
        obtain ⟨g5, h⟩ := z_ifn h
        obtain ⟨M14, c6, h⟩ := z_bv_c h
        have q6 : z_fr w_X8_fillOn_107 M M14 := (z_fr.refl.up rfl).trans (hS _ _ _ _ _ _ _ _ c6)
        cases h
        exact q6
    · replace h := (if_neg g1).symm.trans h
      by_cases g7 : ((x4 >>> (x7 &&& 31)) &&& (1 : Int32)) = 0
      · replace h := (if_pos g7).symm.trans h
        exact z_fr.refl.trans (ih _ _ _ _ _ _ _ _ _ h)
      · replace h := (if_neg g7).symm.trans h
        obtain ⟨g8, h⟩ := z_ifn h
        obtain ⟨v18, M19, c9, h⟩ := z_bi_c h
        have q9 : z_fr w_X8_fillOn_107 M M19 := z_fr.refl.sub (R_X8_standsFor_107 c9) (by decide)
        by_cases g10 : v18 = (-1 : Int32)
        · replace h := (if_pos g10).symm.trans h
          exact q9.trans (ih _ _ _ _ _ _ _ _ _ h)
        · replace h := (if_neg g10).symm.trans h
          obtain ⟨g11, h⟩ := z_ifn h
          obtain ⟨M24, c12, h⟩ := z_bv_c h
          have q12 : z_fr w_X8_fillOn_107 M M24 := (q9.up rfl).trans (hS _ _ _ _ _ _ _ _ c12)
          exact q12.trans (ih _ _ _ _ _ _ _ _ _ h)
theorem R_X8_fillOn_107_p59 {S : Int32 → Int32 → Int32 → Int32 → Int32 → Int32 → zMM → Option zMM}
    (hS : ∀ (a0 : Int32) (a1 : Int32) (a2 : Int32) (a3 : Int32) (a4 : Int32) (a5 : Int32) (M M' : zMM), S a0 a1 a2 a3 a4 a5 M = some M' → z_fr w_X8_fillOn_107 M M') {n : Nat} {x1 : Int32} {x2 : Int32} {x3 : Int32} {x4 : Int32} {x5 : Int32} {x6 : Int32} {x7 : Int32} {M M' : zMM} (h : f_X8_fillOn_107_p59 S n x1 x2 x3 x4 x5 x6 x7 M = some M') : z_fr w_X8_fillOn_107 M M' := R0_X8_fillOn_107_p59 hS _ _ _ _ _ _ _ _ _ _ h
theorem R0_X8_fillOn_107 : ∀ (D : Nat) (x1 : Int32) (x2 : Int32) (x3 : Int32) (x4 : Int32) (x5 : Int32) (x6 : Int32) (M M' : zMM) , f_X8_fillOn_107  D x1 x2 x3 x4 x5 x6 M = some M' → z_fr w_X8_fillOn_107 M M' := by
  intro D
  induction D with
  | zero => intro x1 x2 x3 x4 x5 x6 M M' h; cases h
  | succ D ihD =>
    intro x1 x2 x3 x4 x5 x6 M M' h
    replace h : (  if x6 < (M 107 38) then
    if z_ib x1 8 = true then
      if x3 = (M 120 x1.toNatClampNeg) then
        f_X8_fillOn_107_p29 (f_X8_fillOn_107 D) z_fuel x3 (0 : Int32) (z_up M 107 38 x6)
      else
        f_X8_fillOn_107_p59 (f_X8_fillOn_107 D) z_fuel x1 x2 x3 x4 x5 x6 (0 : Int32) M
    else none
  else
    some M) = some M' := h
    by_cases g1 : x6 < (M 107 38)
    · replace h := (if_pos g1).symm.trans h
      obtain ⟨g2, h⟩ := z_ifn h
      by_cases g3 : x3 = (M 120 x1.toNatClampNeg)
      · replace h := (if_pos g3).symm.trans h
        exact (z_fr.refl.up rfl).trans (R_X8_fillOn_107_p29 ihD h)
      · replace h := (if_neg g3).symm.trans h
        exact z_fr.refl.trans (R_X8_fillOn_107_p59 ihD h)
    · replace h := (if_neg g1).symm.trans h
      cases h
      exact z_fr.refl
theorem R_X8_fillOn_107 {D : Nat} {x1 : Int32} {x2 : Int32} {x3 : Int32} {x4 : Int32} {x5 : Int32} {x6 : Int32} {M M' : zMM} (h : f_X8_fillOn_107  D x1 x2 x3 x4 x5 x6 M = some M') : z_fr w_X8_fillOn_107 M M' := R0_X8_fillOn_107 _ _ _ _ _ _ _ _ _ h
def w_X8_priceOf_107 : zWs := ([(107, 38)], [128, 129])
theorem R_X8_priceOf_107 {x1 : Int32} {x2 : Int32} {x3 : Int32} {M M' : zMM} {v : Int32} (h : f_X8_priceOf_107 x1 x2 x3 M = some (v, M')) : z_fr w_X8_priceOf_107 M M' := by
  replace h : (  z_bv (f_X8_fillOn_107 8 x1 x2 (0 : Int32) x3 (0 : Int32) (0 : Int32) (z_up M 107 38 (1000000 : Int32))) fun M3 =>
  if (M3 107 38) = (1000000 : Int32) then
    some ((-1 : Int32), M3)
  else
    some ((M3 107 38), M3)) = some (v, M') := h
  obtain ⟨M3, c1, h⟩ := z_bv_c h
  have q1 : z_fr w_X8_priceOf_107 M M3 := (z_fr.refl.up rfl).sub (R_X8_fillOn_107 c1) (by decide)
  by_cases g2 : (M3 107 38) = (1000000 : Int32)
  · replace h := (if_pos g2).symm.trans h
    cases h
    exact q1
  · replace h := (if_neg g2).symm.trans h
    cases h
    exact q1
def w_X8_both_107 : zWs := ([(107, 1), (107, 38)], [128, 129])
theorem R_X8_both_107_p184 {K45 : Int32 → Int32 → Int32 → Int32 → Int32 → Int32 → zMM → Option (Int32 × zMM)} {x1 : Int32} {x2 : Int32} {x3 : Int32} {x6 : Int32} {x7 : Int32} {x8 : Int32} {x9 : Int32} {x10 : Int32}
    (hK45 : ∀ (a0 : Int32) (a1 : Int32) (a2 : Int32) (a3 : Int32) (a4 : Int32) (a5 : Int32) (M M' : zMM) (v : Int32), K45 a0 a1 a2 a3 a4 a5 M = some (v, M') → z_fr w_X8_both_107 M M') {M M' : zMM} {v : Int32} (h : f_X8_both_107_p184 K45 x1 x2 x3 x6 x7 x8 x9 x10 M = some (v, M')) : z_fr w_X8_both_107 M M' := by
  replace h : (  K45 x1 x2 x3 (((8 : Int32) * x7) + x8) (x9 + x10) (x6 + (1 : Int32)) M) = some (v, M') := h
  exact z_fr.refl.trans (hK45 _ _ _ _ _ _ _ _ _ h)
theorem R0_X8_both_107_p45 : ∀ (n : Nat) (x1 : Int32) (x2 : Int32) (x3 : Int32) (x4 : Int32) (x5 : Int32) (x6 : Int32) (M M' : zMM) (v : Int32), f_X8_both_107_p45  n x1 x2 x3 x4 x5 x6 M = some (v, M') → z_fr w_X8_both_107 M M' := by
  intro n
  induction n with
  | zero => intro x1 x2 x3 x4 x5 x6 M M' v h; cases h
  | succ n ih =>
    intro x1 x2 x3 x4 x5 x6 M M' v h
    replace h : (  if ((M 109 3) * (M 109 3)) ≤ x6 then
    if x3 = 0 then
      some (x4, M)
    else
      some (x5, M)
  else
    if x1 = x2 then
      if x3 = 0 then
        some (x4, M)
      else
        some (x5, M)
    else
      if ¬ (M 109 3) = 0 then
        if ¬ (M 109 3) = 0 then
          if z_ib (x6 / (M 109 3)) 8 = true then
            if z_ib (x6 - x6 / (M 109 3) * (M 109 3)) 8 = true then
              if ((M 118 (x6 / (M 109 3)).toNatClampNeg) + (M 118 (x6 - x6 / (M 109 3) * (M 109 3)).toNatClampNeg)) ≤ (M 109 4) then
                z_bi (f_X8_trunksAt_107 x1 M) fun v30 M31 =>
                z_bi (f_X8_thingsOf_107 v30 M31) fun v33 M34 =>
                z_bi (f_X8_priceOf_107 (x6 / (M 109 3)) x1 v33 M34) fun v36 M37 =>
                z_bi (f_X8_trunksAt_107 x2 M37) fun v39 M40 =>
                z_bi (f_X8_thingsOf_107 v39 M40) fun v42 M43 =>
                z_bi (f_X8_priceOf_107 (x6 - x6 / (M 109 3) * (M 109 3)) x2 v42 M43) fun v45 M46 =>
                if v36 = (-1 : Int32) then
                  f_X8_both_107_p45 n x1 x2 x3 x4 x5 (x6 + (1 : Int32)) M46
                else
                  if v45 = (-1 : Int32) then
                    f_X8_both_107_p45 n x1 x2 x3 x4 x5 (x6 + (1 : Int32)) M46
                  else
                    if x4 = (-1 : Int32) then
                      f_X8_both_107_p184 (f_X8_both_107_p45 n) x1 x2 x3 x6 (x6 / (M 109 3)) (x6 - x6 / (M 109 3) * (M 109 3)) v36 v45 M46
                    else
                      if (v36 + v45) < x5 then
                        f_X8_both_107_p184 (f_X8_both_107_p45 n) x1 x2 x3 x6 (x6 / (M 109 3)) (x6 - x6 / (M 109 3) * (M 109 3)) v36 v45 M46
                      else
                        f_X8_both_107_p45 n x1 x2 x3 x4 x5 (x6 + (1 : Int32)) M46
              else
                f_X8_both_107_p45 n x1 x2 x3 x4 x5 (x6 + (1 : Int32)) M
            else none
          else none
        else none
      else none) = some (v, M') := h
    by_cases g1 : ((M 109 3) * (M 109 3)) ≤ x6
    · replace h := (if_pos g1).symm.trans h
      by_cases g2 : x3 = 0
      · replace h := (if_pos g2).symm.trans h
        cases h
        exact z_fr.refl
      · replace h := (if_neg g2).symm.trans h
        cases h
        exact z_fr.refl
    · replace h := (if_neg g1).symm.trans h
      by_cases g3 : x1 = x2
      · replace h := (if_pos g3).symm.trans h
        by_cases g4 : x3 = 0
        · replace h := (if_pos g4).symm.trans h
          cases h
          exact z_fr.refl
        · replace h := (if_neg g4).symm.trans h
          cases h
          exact z_fr.refl
      · replace h := (if_neg g3).symm.trans h
        obtain ⟨g5, h⟩ := z_ifn h
        obtain ⟨g6, h⟩ := z_ifn h
        obtain ⟨g7, h⟩ := z_ifn h
        obtain ⟨g8, h⟩ := z_ifn h
        by_cases g9 : ((M 118 (x6 / (M 109 3)).toNatClampNeg) + (M 118 (x6 - x6 / (M 109 3) * (M 109 3)).toNatClampNeg)) ≤ (M 109 4)
        · replace h := (if_pos g9).symm.trans h
          obtain ⟨v30, M31, c10, h⟩ := z_bi_c h
          have q10 : z_fr w_X8_both_107 M M31 := z_fr.refl.sub (R_X8_trunksAt_107 c10) (by decide)
          obtain ⟨v33, M34, c11, h⟩ := z_bi_c h
          have q11 : z_fr w_X8_both_107 M M34 := q10.sub (R_X8_thingsOf_107 c11) (by decide)
          obtain ⟨v36, M37, c12, h⟩ := z_bi_c h
          have q12 : z_fr w_X8_both_107 M M37 := q11.sub (R_X8_priceOf_107 c12) (by decide)
          obtain ⟨v39, M40, c13, h⟩ := z_bi_c h
          have q13 : z_fr w_X8_both_107 M M40 := q12.sub (R_X8_trunksAt_107 c13) (by decide)
          obtain ⟨v42, M43, c14, h⟩ := z_bi_c h
          have q14 : z_fr w_X8_both_107 M M43 := q13.sub (R_X8_thingsOf_107 c14) (by decide)
          obtain ⟨v45, M46, c15, h⟩ := z_bi_c h
          have q15 : z_fr w_X8_both_107 M M46 := q14.sub (R_X8_priceOf_107 c15) (by decide)
          by_cases g16 : v36 = (-1 : Int32)
          · replace h := (if_pos g16).symm.trans h
            exact q15.trans (ih _ _ _ _ _ _ _ _ _ h)
          · replace h := (if_neg g16).symm.trans h
            by_cases g17 : v45 = (-1 : Int32)
            · replace h := (if_pos g17).symm.trans h
              exact q15.trans (ih _ _ _ _ _ _ _ _ _ h)
            · replace h := (if_neg g17).symm.trans h
              by_cases g18 : x4 = (-1 : Int32)
              · replace h := (if_pos g18).symm.trans h
                exact q15.trans (R_X8_both_107_p184 ih h)
              · replace h := (if_neg g18).symm.trans h
                by_cases g19 : (v36 + v45) < x5
                · replace h := (if_pos g19).symm.trans h
                  exact q15.trans (R_X8_both_107_p184 ih h)
                · replace h := (if_neg g19).symm.trans h
                  exact q15.trans (ih _ _ _ _ _ _ _ _ _ h)
        · replace h := (if_neg g9).symm.trans h
          exact z_fr.refl.trans (ih _ _ _ _ _ _ _ _ _ h)
theorem R_X8_both_107_p45 {n : Nat} {x1 : Int32} {x2 : Int32} {x3 : Int32} {x4 : Int32} {x5 : Int32} {x6 : Int32} {M M' : zMM} {v : Int32} (h : f_X8_both_107_p45  n x1 x2 x3 x4 x5 x6 M = some (v, M')) : z_fr w_X8_both_107 M M' := R0_X8_both_107_p45 _ _ _ _ _ _ _ _ _ _ h
theorem R_X8_both_107 {x1 : Int32} {x2 : Int32} {x3 : Int32} {M M' : zMM} {v : Int32} (h : f_X8_both_107 x1 x2 x3 M = some (v, M')) : z_fr w_X8_both_107 M M' := by
  replace h : (  z_bi (f_X8_isTown_107 x1 (z_up M 107 1 (0 : Int32))) fun v2 M3 =>
  if v2 = 0 then
    z_bi (f_X8_fail_107 (1 : Int32) M3) fun v6 M7 =>
    some (v6, M7)
  else
    z_bi (f_X8_isTown_107 x2 M3) fun v9 M10 =>
    if v9 = 0 then
      z_bi (f_X8_fail_107 (1 : Int32) M10) fun v13 M14 =>
      some (v13, M14)
    else
      if x3 < 0 then
        z_bi (f_X8_fail_107 (1 : Int32) M10) fun v17 M18 =>
        some (v17, M18)
      else
        if x3 ≤ (1 : Int32) then
          f_X8_both_107_p45 z_fuel x1 x2 x3 (-1 : Int32) (-1 : Int32) (0 : Int32) M10
        else
          z_bi (f_X8_fail_107 (1 : Int32) M10) fun v52 M53 =>
          some (v52, M53)) = some (v, M') := h
  obtain ⟨v2, M3, c1, h⟩ := z_bi_c h
  have q1 : z_fr w_X8_both_107 M M3 := (z_fr.refl.up rfl).sub (R_X8_isTown_107 c1) (by decide)
  by_cases g2 : v2 = 0
  · replace h := (if_pos g2).symm.trans h
    obtain ⟨v6, M7, c3, h⟩ := z_bi_c h
    have q3 : z_fr w_X8_both_107 M M7 := q1.sub (R_X8_fail_107 c3) (by decide)
    cases h
    exact q3
  · replace h := (if_neg g2).symm.trans h
    obtain ⟨v9, M10, c4, h⟩ := z_bi_c h
    have q4 : z_fr w_X8_both_107 M M10 := q1.sub (R_X8_isTown_107 c4) (by decide)
    by_cases g5 : v9 = 0
    · replace h := (if_pos g5).symm.trans h
      obtain ⟨v13, M14, c6, h⟩ := z_bi_c h
      have q6 : z_fr w_X8_both_107 M M14 := q4.sub (R_X8_fail_107 c6) (by decide)
      cases h
      exact q6
    · replace h := (if_neg g5).symm.trans h
      by_cases g7 : x3 < 0
      · replace h := (if_pos g7).symm.trans h
        obtain ⟨v17, M18, c8, h⟩ := z_bi_c h
        have q8 : z_fr w_X8_both_107 M M18 := q4.sub (R_X8_fail_107 c8) (by decide)
        cases h
        exact q8
      · replace h := (if_neg g7).symm.trans h
        by_cases g9 : x3 ≤ (1 : Int32)
        · replace h := (if_pos g9).symm.trans h
          exact q4.trans (R_X8_both_107_p45 h)
        · replace h := (if_neg g9).symm.trans h
          obtain ⟨v52, M53, c10, h⟩ := z_bi_c h
          have q10 : z_fr w_X8_both_107 M M53 := q4.sub (R_X8_fail_107 c10) (by decide)
          cases h
          exact q10
def w_X8_hasWay_107 : zWs := ([], [])
theorem R_X8_hasWay_107 {x1 : Int32} {x2 : Int32} {M M' : zMM} {v : Int32} (h : f_X8_hasWay_107 x1 x2 M = some (v, M')) : z_fr w_X8_hasWay_107 M M' := by
  replace h : (  if z_ib (((5 : Int32) * x1) + x2) 25 = true then
    if (1000000 : Int32) ≤ (M 126 (((5 : Int32) * x1) + x2).toNatClampNeg) then
      some ((0 : Int32), M)
    else
      some ((1 : Int32), M)
  else none) = some (v, M') := h
  obtain ⟨g1, h⟩ := z_ifn h
  by_cases g2 : (1000000 : Int32) ≤ (M 126 (((5 : Int32) * x1) + x2).toNatClampNeg)
  · replace h := (if_pos g2).symm.trans h
    cases h
    exact z_fr.refl
  · replace h := (if_neg g2).symm.trans h
    cases h
    exact z_fr.refl
def w_X8_clerksOf_107 : zWs := ([], [])
theorem R0_X8_clerksOf_107_p5 : ∀ (n : Nat) (x2 : Int32) (x3 : Int32) (x4 : Int32) (M M' : zMM) (v : Int32), f_X8_clerksOf_107_p5  n x2 x3 x4 M = some (v, M') → z_fr w_X8_clerksOf_107 M M' := by
  intro n
  induction n with
  | zero => intro x2 x3 x4 M M' v h; cases h
  | succ n ih =>
    intro x2 x3 x4 M M' v h
    replace h : (  if x4 = x2 then
    some (x3, M)
  else
    if z_ib (((5 : Int32) * x4) + x2) 25 = true then
      f_X8_clerksOf_107_p5 n x2 (x3 + (1 : Int32)) (M 127 (((5 : Int32) * x4) + x2).toNatClampNeg) M
    else none) = some (v, M') := h
    by_cases g1 : x4 = x2
    · replace h := (if_pos g1).symm.trans h
      cases h
      exact z_fr.refl
    · replace h := (if_neg g1).symm.trans h
      obtain ⟨g2, h⟩ := z_ifn h
      exact z_fr.refl.trans (ih _ _ _ _ _ _ h)
theorem R_X8_clerksOf_107_p5 {n : Nat} {x2 : Int32} {x3 : Int32} {x4 : Int32} {M M' : zMM} {v : Int32} (h : f_X8_clerksOf_107_p5  n x2 x3 x4 M = some (v, M')) : z_fr w_X8_clerksOf_107 M M' := R0_X8_clerksOf_107_p5 _ _ _ _ _ _ _ h
theorem R_X8_clerksOf_107 {x1 : Int32} {x2 : Int32} {M M' : zMM} {v : Int32} (h : f_X8_clerksOf_107 x1 x2 M = some (v, M')) : z_fr w_X8_clerksOf_107 M M' := by
  replace h : (  f_X8_clerksOf_107_p5 z_fuel x2 (0 : Int32) x1 M) = some (v, M') := h
  exact z_fr.refl.trans (R_X8_clerksOf_107_p5 h)
def w_X8_clerkAt_107 : zWs := ([], [])
theorem R0_X8_clerkAt_107_p6 : ∀ (n : Nat) (x2 : Int32) (x3 : Int32) (x4 : Int32) (x5 : Int32) (M M' : zMM) (v : Int32), f_X8_clerkAt_107_p6  n x2 x3 x4 x5 M = some (v, M') → z_fr w_X8_clerkAt_107 M M' := by
  intro n
  induction n with
  | zero => intro x2 x3 x4 x5 M M' v h; cases h
  | succ n ih =>
    intro x2 x3 x4 x5 M M' v h
    replace h : (  if x3 ≤ x5 then
    some (x4, M)
  else
    if z_ib (((5 : Int32) * x4) + x2) 25 = true then
      f_X8_clerkAt_107_p6 n x2 x3 (M 127 (((5 : Int32) * x4) + x2).toNatClampNeg) (x5 + (1 : Int32)) M
    else none) = some (v, M') := h
    by_cases g1 : x3 ≤ x5
    · replace h := (if_pos g1).symm.trans h
      cases h
      exact z_fr.refl
    · replace h := (if_neg g1).symm.trans h
      obtain ⟨g2, h⟩ := z_ifn h
      exact z_fr.refl.trans (ih _ _ _ _ _ _ _ h)
theorem R_X8_clerkAt_107_p6 {n : Nat} {x2 : Int32} {x3 : Int32} {x4 : Int32} {x5 : Int32} {M M' : zMM} {v : Int32} (h : f_X8_clerkAt_107_p6  n x2 x3 x4 x5 M = some (v, M')) : z_fr w_X8_clerkAt_107 M M' := R0_X8_clerkAt_107_p6 _ _ _ _ _ _ _ _ h
theorem R_X8_clerkAt_107 {x1 : Int32} {x2 : Int32} {x3 : Int32} {M M' : zMM} {v : Int32} (h : f_X8_clerkAt_107 x1 x2 x3 M = some (v, M')) : z_fr w_X8_clerkAt_107 M M' := by
  replace h : (  f_X8_clerkAt_107_p6 z_fuel x2 x3 x1 (0 : Int32) M) = some (v, M') := h
  exact z_fr.refl.trans (R_X8_clerkAt_107_p6 h)
def w_X8_clerk_107 : zWs := ([(107, 1)], [])
theorem R_X8_clerk_107 {x1 : Int32} {x2 : Int32} {x3 : Int32} {M M' : zMM} {v : Int32} (h : f_X8_clerk_107 x1 x2 x3 M = some (v, M')) : z_fr w_X8_clerk_107 M M' := by
  replace h : (  z_bi (f_X8_isTown_107 x1 (z_up M 107 1 (0 : Int32))) fun v2 M3 =>
  if v2 = 0 then
    z_bi (f_X8_fail_107 (1 : Int32) M3) fun v6 M7 =>
    some (v6, M7)
  else
    z_bi (f_X8_isTown_107 x2 M3) fun v9 M10 =>
    if v9 = 0 then
      z_bi (f_X8_fail_107 (1 : Int32) M10) fun v13 M14 =>
      some (v13, M14)
    else
      z_bi (f_X8_hasWay_107 x1 x2 M10) fun v16 M17 =>
      if v16 = 0 then
        z_bi (f_X8_fail_107 (1 : Int32) M17) fun v20 M21 =>
        some (v20, M21)
      else
        z_bi (f_X8_clerksOf_107 x1 x2 M17) fun v23 M24 =>
        if x3 = (-1 : Int32) then
          some (v23, M24)
        else
          z_bi (f_X8_isIn x3 (0 : Int32) (v23 - (1 : Int32)) M24) fun v27 M28 =>
          if v27 = 0 then
            z_bi (f_X8_fail_107 (1 : Int32) M28) fun v31 M32 =>
            some (v31, M32)
          else
            z_bi (f_X8_clerkAt_107 x1 x2 x3 M28) fun v34 M35 =>
            some (v34, M35)) = some (v, M') := h
  obtain ⟨v2, M3, c1, h⟩ := z_bi_c h
  have q1 : z_fr w_X8_clerk_107 M M3 := (z_fr.refl.up rfl).sub (R_X8_isTown_107 c1) (by decide)
  by_cases g2 : v2 = 0
  · replace h := (if_pos g2).symm.trans h
    obtain ⟨v6, M7, c3, h⟩ := z_bi_c h
    have q3 : z_fr w_X8_clerk_107 M M7 := q1.sub (R_X8_fail_107 c3) (by decide)
    cases h
    exact q3
  · replace h := (if_neg g2).symm.trans h
    obtain ⟨v9, M10, c4, h⟩ := z_bi_c h
    have q4 : z_fr w_X8_clerk_107 M M10 := q1.sub (R_X8_isTown_107 c4) (by decide)
    by_cases g5 : v9 = 0
    · replace h := (if_pos g5).symm.trans h
      obtain ⟨v13, M14, c6, h⟩ := z_bi_c h
      have q6 : z_fr w_X8_clerk_107 M M14 := q4.sub (R_X8_fail_107 c6) (by decide)
      cases h
      exact q6
    · replace h := (if_neg g5).symm.trans h
      obtain ⟨v16, M17, c7, h⟩ := z_bi_c h
      have q7 : z_fr w_X8_clerk_107 M M17 := q4.sub (R_X8_hasWay_107 c7) (by decide)
      by_cases g8 : v16 = 0
      · replace h := (if_pos g8).symm.trans h
        obtain ⟨v20, M21, c9, h⟩ := z_bi_c h
        have q9 : z_fr w_X8_clerk_107 M M21 := q7.sub (R_X8_fail_107 c9) (by decide)
        cases h
        exact q9
      · replace h := (if_neg g8).symm.trans h
        obtain ⟨v23, M24, c10, h⟩ := z_bi_c h
        have q10 : z_fr w_X8_clerk_107 M M24 := q7.sub (R_X8_clerksOf_107 c10) (by decide)
        by_cases g11 : x3 = (-1 : Int32)
        · replace h := (if_pos g11).symm.trans h
          cases h
          exact q10
        · replace h := (if_neg g11).symm.trans h
          obtain ⟨v27, M28, c12, h⟩ := z_bi_c h
          have q12 : z_fr w_X8_clerk_107 M M28 := q10.sub (R_X8_isIn c12) (by decide)
          by_cases g13 : v27 = 0
          · replace h := (if_pos g13).symm.trans h
            obtain ⟨v31, M32, c14, h⟩ := z_bi_c h
            have q14 : z_fr w_X8_clerk_107 M M32 := q12.sub (R_X8_fail_107 c14) (by decide)
            cases h
            exact q14
          · replace h := (if_neg g13).symm.trans h
            obtain ⟨v34, M35, c15, h⟩ := z_bi_c h
            have q15 : z_fr w_X8_clerk_107 M M35 := q12.sub (R_X8_clerkAt_107 c15) (by decide)
            cases h
            exact q15
def w_X8_count_107 : zWs := ([(107, 1)], [])
theorem R_X8_count_107 {x1 : Int32} {M M' : zMM} {v : Int32} (h : f_X8_count_107 x1 M = some (v, M')) : z_fr w_X8_count_107 M M' := by
  replace h : (  z_bi (f_X8_isIn x1 (0 : Int32) (4 : Int32) (z_up M 107 1 (0 : Int32))) fun v2 M3 =>
  if v2 = 0 then
    if x1 = (5 : Int32) then
      some ((M3 107 29), M3)
    else
      if x1 = (6 : Int32) then
        some ((M3 107 32), M3)
      else
        if x1 = (7 : Int32) then
          some ((M3 107 31), M3)
        else
          if x1 = (8 : Int32) then
            if (M3 107 33) = 0 then
              some ((0 : Int32), M3)
            else
              some ((1 : Int32), M3)
          else
            if x1 = (9 : Int32) then
              some ((M3 107 17), M3)
            else
              if x1 = (10 : Int32) then
                if z_ib (x1 - (10 : Int32)) 3 = true then
                  some ((M3 122 (x1 - (10 : Int32)).toNatClampNeg), M3)
                else none
              else
                if x1 = (11 : Int32) then
                  if z_ib (x1 - (10 : Int32)) 3 = true then
                    some ((M3 122 (x1 - (10 : Int32)).toNatClampNeg), M3)
                  else none
                else
                  if x1 = (12 : Int32) then
                    if z_ib (x1 - (10 : Int32)) 3 = true then
                      some ((M3 122 (x1 - (10 : Int32)).toNatClampNeg), M3)
                    else none
                  else
                    z_bi (f_X8_fail_107 (1 : Int32) M3) fun v18 M19 =>
                    some (v18, M19)
  else
    if z_ib x1 10 = true then
      some ((M3 109 x1.toNatClampNeg), M3)
    else none) = some (v, M') := h
  obtain ⟨v2, M3, c1, h⟩ := z_bi_c h
  have q1 : z_fr w_X8_count_107 M M3 := (z_fr.refl.up rfl).sub (R_X8_isIn c1) (by decide)
  by_cases g2 : v2 = 0
  · replace h := (if_pos g2).symm.trans h
    by_cases g3 : x1 = (5 : Int32)
    · replace h := (if_pos g3).symm.trans h
      cases h
      exact q1
    · replace h := (if_neg g3).symm.trans h
      by_cases g4 : x1 = (6 : Int32)
      · replace h := (if_pos g4).symm.trans h
        cases h
        exact q1
      · replace h := (if_neg g4).symm.trans h
        by_cases g5 : x1 = (7 : Int32)
        · replace h := (if_pos g5).symm.trans h
          cases h
          exact q1
        · replace h := (if_neg g5).symm.trans h
          by_cases g6 : x1 = (8 : Int32)
          · replace h := (if_pos g6).symm.trans h
            by_cases g7 : (M3 107 33) = 0
            · replace h := (if_pos g7).symm.trans h
              cases h
              exact q1
            · replace h := (if_neg g7).symm.trans h
              cases h
              exact q1
          · replace h := (if_neg g6).symm.trans h
            by_cases g8 : x1 = (9 : Int32)
            · replace h := (if_pos g8).symm.trans h
              cases h
              exact q1
            · replace h := (if_neg g8).symm.trans h
              by_cases g9 : x1 = (10 : Int32)
              · replace h := (if_pos g9).symm.trans h
                obtain ⟨g10, h⟩ := z_ifn h
                cases h
                exact q1
              · replace h := (if_neg g9).symm.trans h
                by_cases g11 : x1 = (11 : Int32)
                · replace h := (if_pos g11).symm.trans h
                  obtain ⟨g12, h⟩ := z_ifn h
                  cases h
                  exact q1
                · replace h := (if_neg g11).symm.trans h
                  by_cases g13 : x1 = (12 : Int32)
                  · replace h := (if_pos g13).symm.trans h
                    obtain ⟨g14, h⟩ := z_ifn h
                    cases h
                    exact q1
                  · replace h := (if_neg g13).symm.trans h
                    obtain ⟨v18, M19, c15, h⟩ := z_bi_c h
                    have q15 : z_fr w_X8_count_107 M M19 := q1.sub (R_X8_fail_107 c15) (by decide)
                    cases h
                    exact q15
  · replace h := (if_neg g2).symm.trans h
    obtain ⟨g16, h⟩ := z_ifn h
    cases h
    exact q1
def w_X8_note_107 : zWs := ([(107, 31)], [130, 131, 132, 133, 134, 135])
theorem R_X8_note_107_p176 {a0 : Int32} {a1 : Int32} {M M' : zMM} (h : f_X8_note_107_p176 a0 a1 M = some M') : z_fr w_X8_note_107 M M' := by
  replace h : (  if z_ib a1 100 = true then
    if z_ib (M 107 31) 100 = true then
      if z_ib (M 107 31) 100 = true then
        if z_zb (M 107 33) = true then
          if z_ib (M 107 31) 100 = true then
            some (z_up (z_up (z_up (z_up (z_up M 132 a1.toNatClampNeg a0) 133 (M 107 31).toNatClampNeg (M 107 29)) 134 (M 107 31).toNatClampNeg (M 107 30)) 135 (M 107 31).toNatClampNeg (M 107 33)) 107 31 ((M 107 31) + (1 : Int32)))
          else none
        else none
      else none
    else none
  else none) = some M' := h
  obtain ⟨g1, h⟩ := z_ifn h
  obtain ⟨g2, h⟩ := z_ifn h
  obtain ⟨g3, h⟩ := z_ifn h
  obtain ⟨g4, h⟩ := z_ifn h
  obtain ⟨g5, h⟩ := z_ifn h
  cases h
  exact (((((z_fr.refl.up rfl).up rfl).up rfl).up rfl).up rfl)
theorem R_X8_note_107_p152 {x1 : Int32} {a0 : Int32} {a1 : Int32} {M M' : zMM} (h : f_X8_note_107_p152 x1 a0 a1 M = some M') : z_fr w_X8_note_107 M M' := by
  replace h : (  if z_ib a1 100 = true then
    if x1 = (-1 : Int32) then
      f_X8_note_107_p176 (0 : Int32) (M 107 31) (z_up M 131 a1.toNatClampNeg a0)
    else
      if z_ib x1 5 = true then
        f_X8_note_107_p176 (M 125 x1.toNatClampNeg) (M 107 31) (z_up M 131 a1.toNatClampNeg a0)
      else none
  else none) = some M' := h
  obtain ⟨g1, h⟩ := z_ifn h
  by_cases g2 : x1 = (-1 : Int32)
  · replace h := (if_pos g2).symm.trans h
    exact (z_fr.refl.up rfl).trans (R_X8_note_107_p176 h)
  · replace h := (if_neg g2).symm.trans h
    obtain ⟨g3, h⟩ := z_ifn h
    exact (z_fr.refl.up rfl).trans (R_X8_note_107_p176 h)
theorem R_X8_note_107_p119 {x1 : Int32} {M M' : zMM} (h : f_X8_note_107_p119 x1 M = some M') : z_fr w_X8_note_107 M M' := by
  replace h : (  if z_ib (M 107 31) 100 = true then
    if x1 = (-1 : Int32) then
      f_X8_note_107_p152 x1 (0 : Int32) (M 107 31) (z_up M 130 (M 107 31).toNatClampNeg x1)
    else
      if z_ib x1 5 = true then
        f_X8_note_107_p152 x1 (M 124 x1.toNatClampNeg) (M 107 31) (z_up M 130 (M 107 31).toNatClampNeg x1)
      else none
  else none) = some M' := h
  obtain ⟨g1, h⟩ := z_ifn h
  by_cases g2 : x1 = (-1 : Int32)
  · replace h := (if_pos g2).symm.trans h
    exact (z_fr.refl.up rfl).trans (R_X8_note_107_p152 h)
  · replace h := (if_neg g2).symm.trans h
    obtain ⟨g3, h⟩ := z_ifn h
    exact (z_fr.refl.up rfl).trans (R_X8_note_107_p152 h)
theorem R0_X8_note_107_p11 : ∀ (n : Nat) (x1 : Int32) (x2 : Int32) (M M' : zMM) , f_X8_note_107_p11  n x1 x2 M = some M' → z_fr w_X8_note_107 M M' := by
  intro n
  induction n with
  | zero => intro x1 x2 M M' h; cases h
  | succ n ih =>
    intro x1 x2 M M' h
    replace h : (  if (100 : Int32) ≤ (x2 + (1 : Int32)) then
    f_X8_note_107_p119 x1 (z_up M 107 31 ((M 107 31) - (1 : Int32)))
  else
    if z_ib (x2 + (1 : Int32)) 100 = true then
      if z_ib x2 100 = true then
        if z_ib (x2 + (1 : Int32)) 100 = true then
          if z_ib x2 100 = true then
            if z_ib (x2 + (1 : Int32)) 100 = true then
              if z_ib x2 100 = true then
                if z_ib (x2 + (1 : Int32)) 100 = true then
                  if z_ib x2 100 = true then
                    if z_ib (x2 + (1 : Int32)) 100 = true then
                      if z_ib x2 100 = true then
                        if z_ib (x2 + (1 : Int32)) 100 = true then
                          if z_zb (M 135 (x2 + (1 : Int32)).toNatClampNeg) = true then
                            if z_ib x2 100 = true then
                              f_X8_note_107_p11 n x1 (x2 + (1 : Int32)) (z_up (z_up (z_up (z_up (z_up (z_up M 130 x2.toNatClampNeg (M 130 (x2 + (1 : Int32)).toNatClampNeg)) 131 x2.toNatClampNeg (M 131 (x2 + (1 : Int32)).toNatClampNeg)) 132 x2.toNatClampNeg (M 132 (x2 + (1 : Int32)).toNatClampNeg)) 133 x2.toNatClampNeg (M 133 (x2 + (1 : Int32)).toNatClampNeg)) 134 x2.toNatClampNeg (M 134 (x2 + (1 : Int32)).toNatClampNeg)) 135 x2.toNatClampNeg (M 135 (x2 + (1 : Int32)).toNatClampNeg))
                            else none
                          else none
                        else none
                      else none
                    else none
                  else none
                else none
              else none
            else none
          else none
        else none
      else none
    else none) = some M' := h
    by_cases g1 : (100 : Int32) ≤ (x2 + (1 : Int32))
    · replace h := (if_pos g1).symm.trans h
      exact (z_fr.refl.up rfl).trans (R_X8_note_107_p119 h)
    · replace h := (if_neg g1).symm.trans h
      obtain ⟨g2, h⟩ := z_ifn h
      obtain ⟨g3, h⟩ := z_ifn h
      obtain ⟨g4, h⟩ := z_ifn h
      obtain ⟨g5, h⟩ := z_ifn h
      obtain ⟨g6, h⟩ := z_ifn h
      obtain ⟨g7, h⟩ := z_ifn h
      obtain ⟨g8, h⟩ := z_ifn h
      obtain ⟨g9, h⟩ := z_ifn h
      obtain ⟨g10, h⟩ := z_ifn h
      obtain ⟨g11, h⟩ := z_ifn h
      obtain ⟨g12, h⟩ := z_ifn h
      obtain ⟨g13, h⟩ := z_ifn h
      obtain ⟨g14, h⟩ := z_ifn h
      exact ((((((z_fr.refl.up rfl).up rfl).up rfl).up rfl).up rfl).up rfl).trans (ih _ _ _ _ h)
theorem R_X8_note_107_p11 {n : Nat} {x1 : Int32} {x2 : Int32} {M M' : zMM} (h : f_X8_note_107_p11  n x1 x2 M = some M') : z_fr w_X8_note_107 M M' := R0_X8_note_107_p11 _ _ _ _ _ h
theorem R_X8_note_107 {x1 : Int32} {M M' : zMM} (h : f_X8_note_107 x1 M = some M') : z_fr w_X8_note_107 M M' := by
  replace h : (  if (M 107 31) = (100 : Int32) then
    f_X8_note_107_p11 z_fuel x1 (0 : Int32) M
  else
    f_X8_note_107_p119 x1 M) = some M' := h
  by_cases g1 : (M 107 31) = (100 : Int32)
  · replace h := (if_pos g1).symm.trans h
    exact z_fr.refl.trans (R_X8_note_107_p11 h)
  · replace h := (if_neg g1).symm.trans h
    exact z_fr.refl.trans (R_X8_note_107_p119 h)
def w_X8_days_107 : zWs := ([(107, 1), (107, 29), (107, 31)], [130, 131, 132, 133, 134, 135])
theorem R_X8_days_107 {x1 : Int32} {M M' : zMM} {v : Int32} (h : f_X8_days_107 x1 M = some (v, M')) : z_fr w_X8_days_107 M M' := by
  replace h : (  z_bi (f_X8_isIn x1 (0 : Int32) (99 : Int32) (z_up M 107 1 (0 : Int32))) fun v2 M3 =>
  if v2 = 0 then
    z_bi (f_X8_fail_107 (1 : Int32) M3) fun v6 M7 =>
    some (v6, M7)
  else
    z_bv (f_X8_note_107 (-1 : Int32) M3) fun M10 =>
    some (((M10 107 29) + x1), (z_up M10 107 29 ((M10 107 29) + x1)))) = some (v, M') := h
  obtain ⟨v2, M3, c1, h⟩ := z_bi_c h
  have q1 : z_fr w_X8_days_107 M M3 := (z_fr.refl.up rfl).sub (R_X8_isIn c1) (by decide)
  by_cases g2 : v2 = 0
  · replace h := (if_pos g2).symm.trans h
    obtain ⟨v6, M7, c3, h⟩ := z_bi_c h
    have q3 : z_fr w_X8_days_107 M M7 := q1.sub (R_X8_fail_107 c3) (by decide)
    cases h
    exact q3
  · replace h := (if_neg g2).symm.trans h
    obtain ⟨M10, c4, h⟩ := z_bv_c h
    have q4 : z_fr w_X8_days_107 M M10 := q1.sub (R_X8_note_107 c4) (by decide)
    cases h
    exact (q4.up rfl)
def w_X8_fault_107 : zWs := ([(107, 1)], [])
theorem R_X8_fault_107 {M M' : zMM} {v : Int32} (h : f_X8_fault_107 M = some (v, M')) : z_fr w_X8_fault_107 M M' := by
  replace h : (  some ((M 107 26), (z_up M 107 1 (0 : Int32)))) = some (v, M') := h
  cases h
  exact (z_fr.refl.up rfl)
def w_X8_feed_107 : zWs := ([(107, 1), (107, 17)], [123])
theorem R_X8_feed_107_p76 {K23 : Int32 → Int32 → Int32 → Int32 → Int32 → Int32 → zMM → Option (Int32 × zMM)} {x1 : Int32} {x2 : Int32} {x3 : Int32} {x4 : Int32} {x5 : Int32} {x6 : Int32} {a0 : Int32}
    (hK23 : ∀ (a0 : Int32) (a1 : Int32) (a2 : Int32) (a3 : Int32) (a4 : Int32) (a5 : Int32) (M M' : zMM) (v : Int32), K23 a0 a1 a2 a3 a4 a5 M = some (v, M') → z_fr w_X8_feed_107 M M') {M M' : zMM} {v : Int32} (h : f_X8_feed_107_p76 K23 x1 x2 x3 x4 x5 x6 a0 M = some (v, M')) : z_fr w_X8_feed_107 M M' := by
  replace h : (  if z_ib (M 107 17) 700 = true then
    K23 x1 x2 x3 x4 x5 (x6 + (1 : Int32)) (z_up (z_up M 123 (M 107 17).toNatClampNeg ((a0 >>> (((24 : Int32) - ((8 : Int32) * (x6 - x6 / (4 : Int32) * (4 : Int32)))) &&& 31)) &&& (255 : Int32))) 107 17 ((M 107 17) + (1 : Int32)))
  else none) = some (v, M') := h
  obtain ⟨g1, h⟩ := z_ifn h
  exact ((z_fr.refl.up rfl).up rfl).trans (hK23 _ _ _ _ _ _ _ _ _ h)
theorem R0_X8_feed_107_p23 : ∀ (n : Nat) (x1 : Int32) (x2 : Int32) (x3 : Int32) (x4 : Int32) (x5 : Int32) (x6 : Int32) (M M' : zMM) (v : Int32), f_X8_feed_107_p23  n x1 x2 x3 x4 x5 x6 M = some (v, M') → z_fr w_X8_feed_107 M M' := by
  intro n
  induction n with
  | zero => intro x1 x2 x3 x4 x5 x6 M M' v h; cases h
  | succ n ih =>
    intro x1 x2 x3 x4 x5 x6 M M' v h
    replace h : (  if (20 : Int32) ≤ x6 then
    some ((M 107 17), M)
  else
    if (4 : Int32) ≤ x6 then
      if (8 : Int32) ≤ x6 then
        if (12 : Int32) ≤ x6 then
          if (16 : Int32) ≤ x6 then
            f_X8_feed_107_p76 (f_X8_feed_107_p23 n) x1 x2 x3 x4 x5 x6 x5 M
          else
            f_X8_feed_107_p76 (f_X8_feed_107_p23 n) x1 x2 x3 x4 x5 x6 x4 M
        else
          f_X8_feed_107_p76 (f_X8_feed_107_p23 n) x1 x2 x3 x4 x5 x6 x3 M
      else
        f_X8_feed_107_p76 (f_X8_feed_107_p23 n) x1 x2 x3 x4 x5 x6 x2 M
    else
      f_X8_feed_107_p76 (f_X8_feed_107_p23 n) x1 x2 x3 x4 x5 x6 x1 M) = some (v, M') := h
    by_cases g1 : (20 : Int32) ≤ x6
    · replace h := (if_pos g1).symm.trans h
      cases h
      exact z_fr.refl
    · replace h := (if_neg g1).symm.trans h
      by_cases g2 : (4 : Int32) ≤ x6
      · replace h := (if_pos g2).symm.trans h
        by_cases g3 : (8 : Int32) ≤ x6
        · replace h := (if_pos g3).symm.trans h
          by_cases g4 : (12 : Int32) ≤ x6
          · replace h := (if_pos g4).symm.trans h
            by_cases g5 : (16 : Int32) ≤ x6
            · replace h := (if_pos g5).symm.trans h
              exact z_fr.refl.trans (R_X8_feed_107_p76 ih h)
            · replace h := (if_neg g5).symm.trans h
              exact z_fr.refl.trans (R_X8_feed_107_p76 ih h)
          · replace h := (if_neg g4).symm.trans h
            exact z_fr.refl.trans (R_X8_feed_107_p76 ih h)
        · replace h := (if_neg g3).symm.trans h
          exact z_fr.refl.trans (R_X8_feed_107_p76 ih h)
      · replace h := (if_neg g2).symm.trans h
        exact z_fr.refl.trans (R_X8_feed_107_p76 ih h)
theorem R_X8_feed_107_p23 {n : Nat} {x1 : Int32} {x2 : Int32} {x3 : Int32} {x4 : Int32} {x5 : Int32} {x6 : Int32} {M M' : zMM} {v : Int32} (h : f_X8_feed_107_p23  n x1 x2 x3 x4 x5 x6 M = some (v, M')) : z_fr w_X8_feed_107 M M' := R0_X8_feed_107_p23 _ _ _ _ _ _ _ _ _ _ h
theorem R_X8_feed_107 {x1 : Int32} {x2 : Int32} {x3 : Int32} {x4 : Int32} {x5 : Int32} {M M' : zMM} {v : Int32} (h : f_X8_feed_107 x1 x2 x3 x4 x5 M = some (v, M')) : z_fr w_X8_feed_107 M M' := by
  replace h : (  if ((M 107 17) + (20 : Int32)) ≤ (700 : Int32) then
    f_X8_feed_107_p23 z_fuel x1 x2 x3 x4 x5 (0 : Int32) (z_up M 107 1 (0 : Int32))
  else
    some ((-1 : Int32), (z_up M 107 1 (0 : Int32)))) = some (v, M') := h
  by_cases g1 : ((M 107 17) + (20 : Int32)) ≤ (700 : Int32)
  · replace h := (if_pos g1).symm.trans h
    exact (z_fr.refl.up rfl).trans (R_X8_feed_107_p23 h)
  · replace h := (if_neg g1).symm.trans h
    cases h
    exact (z_fr.refl.up rfl)
def w_X8_isPlay_107 : zWs := ([], [])
theorem R_X8_isPlay_107 {x1 : Int32} {M M' : zMM} {v : Int32} (h : f_X8_isPlay_107 x1 M = some (v, M')) : z_fr w_X8_isPlay_107 M M' := by
  replace h : (  z_bi (f_X8_isIn x1 (0 : Int32) ((M 109 3) - (1 : Int32)) M) fun v2 M3 =>
  if z_zb v2 = true then some (v2, M3) else none) = some (v, M') := h
  obtain ⟨v2, M3, c1, h⟩ := z_bi_c h
  have q1 : z_fr w_X8_isPlay_107 M M3 := z_fr.refl.sub (R_X8_isIn c1) (by decide)
  obtain ⟨g2, h⟩ := z_ifn h
  cases h
  exact q1
def w_X8_filled_107 : zWs := ([(107, 1), (107, 38)], [128, 129])
theorem R_X8_filled_107 {x1 : Int32} {x2 : Int32} {x3 : Int32} {M M' : zMM} {v : Int32} (h : f_X8_filled_107 x1 x2 x3 M = some (v, M')) : z_fr w_X8_filled_107 M M' := by
  replace h : (  z_bi (f_X8_isPlay_107 x1 (z_up M 107 1 (0 : Int32))) fun v2 M3 =>
  if v2 = 0 then
    z_bi (f_X8_fail_107 (1 : Int32) M3) fun v6 M7 =>
    some (v6, M7)
  else
    z_bi (f_X8_isTown_107 x2 M3) fun v9 M10 =>
    if v9 = 0 then
      z_bi (f_X8_fail_107 (1 : Int32) M10) fun v13 M14 =>
      some (v13, M14)
    else
      if z_ib x1 8 = true then
        z_bi (f_X8_isIn x3 (0 : Int32) ((M10 120 x1.toNatClampNeg) - (1 : Int32)) M10) fun v17 M18 =>
        if v17 = 0 then
          z_bi (f_X8_fail_107 (1 : Int32) M18) fun v21 M22 =>
          some (v21, M22)
        else
          z_bi (f_X8_trunksAt_107 x2 M18) fun v24 M25 =>
          z_bi (f_X8_thingsOf_107 v24 M25) fun v27 M28 =>
          z_bi (f_X8_priceOf_107 x1 x2 v27 M28) fun v30 M31 =>
          if v30 = (-1 : Int32) then
            some ((-1 : Int32), M31)
          else
            if z_ib x3 4 = true then
              some ((M31 129 x3.toNatClampNeg), M31)
            else none
      else none) = some (v, M') := h
  obtain ⟨v2, M3, c1, h⟩ := z_bi_c h
  have q1 : z_fr w_X8_filled_107 M M3 := (z_fr.refl.up rfl).sub (R_X8_isPlay_107 c1) (by decide)
  by_cases g2 : v2 = 0
  · replace h := (if_pos g2).symm.trans h
    obtain ⟨v6, M7, c3, h⟩ := z_bi_c h
    have q3 : z_fr w_X8_filled_107 M M7 := q1.sub (R_X8_fail_107 c3) (by decide)
    cases h
    exact q3
  · replace h := (if_neg g2).symm.trans h
    obtain ⟨v9, M10, c4, h⟩ := z_bi_c h
    have q4 : z_fr w_X8_filled_107 M M10 := q1.sub (R_X8_isTown_107 c4) (by decide)
    by_cases g5 : v9 = 0
    · replace h := (if_pos g5).symm.trans h
      obtain ⟨v13, M14, c6, h⟩ := z_bi_c h
      have q6 : z_fr w_X8_filled_107 M M14 := q4.sub (R_X8_fail_107 c6) (by decide)
      cases h
      exact q6
    · replace h := (if_neg g5).symm.trans h
      obtain ⟨g7, h⟩ := z_ifn h
      obtain ⟨v17, M18, c8, h⟩ := z_bi_c h
      have q8 : z_fr w_X8_filled_107 M M18 := q4.sub (R_X8_isIn c8) (by decide)
      by_cases g9 : v17 = 0
      · replace h := (if_pos g9).symm.trans h
        obtain ⟨v21, M22, c10, h⟩ := z_bi_c h
        have q10 : z_fr w_X8_filled_107 M M22 := q8.sub (R_X8_fail_107 c10) (by decide)
        cases h
        exact q10
      · replace h := (if_neg g9).symm.trans h
        obtain ⟨v24, M25, c11, h⟩ := z_bi_c h
        have q11 : z_fr w_X8_filled_107 M M25 := q8.sub (R_X8_trunksAt_107 c11) (by decide)
        obtain ⟨v27, M28, c12, h⟩ := z_bi_c h
        have q12 : z_fr w_X8_filled_107 M M28 := q11.sub (R_X8_thingsOf_107 c12) (by decide)
        obtain ⟨v30, M31, c13, h⟩ := z_bi_c h
        have q13 : z_fr w_X8_filled_107 M M31 := q12.sub (R_X8_priceOf_107 c13) (by decide)
        by_cases g14 : v30 = (-1 : Int32)
        · replace h := (if_pos g14).symm.trans h
          cases h
          exact q13
        · replace h := (if_neg g14).symm.trans h
          obtain ⟨g15, h⟩ := z_ifn h
          cases h
          exact q13
def w_X8_forget_107 : zWs := ([(107, 1), (107, 32)], [])
theorem R_X8_forget_107 {M M' : zMM} (h : f_X8_forget_107 M = some M') : z_fr w_X8_forget_107 M M' := by
  replace h : (  some (z_up (z_up M 107 1 (0 : Int32)) 107 32 (0 : Int32))) = some M' := h
  cases h
  exact ((z_fr.refl.up rfl).up rfl)
def w_X8_image_107 : zWs := ([(107, 1), (107, 54), (107, 55), (107, 56), (107, 57), (107, 58)], [143, 144, 145, 146, 147, 148])
theorem R_X8_image_107 {M M' : zMM} (h : f_X8_image_107 M = some M') : z_fr w_X8_image_107 M M' := by
  replace h : (  if z_zb (M 107 33) = true then
    z_bv (some (z_cp (z_up (z_up (z_up (z_up (z_up (z_up M 107 1 (0 : Int32)) 107 54 (1 : Int32)) 107 55 (M 107 33)) 107 56 (M 107 29)) 107 57 (M 107 30)) 107 58 (M 107 32)) 124 143 5)) fun M3 =>
    z_bv (some (z_cp M3 125 144 5)) fun M5 =>
    z_bv (some (z_cp M5 136 145 4)) fun M7 =>
    z_bv (some (z_cp M7 137 146 4)) fun M9 =>
    z_bv (some (z_cp M9 138 147 4)) fun M11 =>
    z_bv (some (z_cp M11 122 148 3)) fun M13 =>
    some M13
  else none) = some M' := h
  obtain ⟨g1, h⟩ := z_ifn h
  obtain ⟨M3, c2, h⟩ := z_bv_c h
  have q2 : z_fr w_X8_image_107 M M3 := Option.some.inj c2 ▸ (((((((z_fr.refl.up rfl).up rfl).up rfl).up rfl).up rfl).up rfl).cp rfl)
  obtain ⟨M5, c3, h⟩ := z_bv_c h
  have q3 : z_fr w_X8_image_107 M M5 := Option.some.inj c3 ▸ (q2.cp rfl)
  obtain ⟨M7, c4, h⟩ := z_bv_c h
  have q4 : z_fr w_X8_image_107 M M7 := Option.some.inj c4 ▸ (q3.cp rfl)
  obtain ⟨M9, c5, h⟩ := z_bv_c h
  have q5 : z_fr w_X8_image_107 M M9 := Option.some.inj c5 ▸ (q4.cp rfl)
  obtain ⟨M11, c6, h⟩ := z_bv_c h
  have q6 : z_fr w_X8_image_107 M M11 := Option.some.inj c6 ▸ (q5.cp rfl)
  obtain ⟨M13, c7, h⟩ := z_bv_c h
  have q7 : z_fr w_X8_image_107 M M13 := Option.some.inj c7 ▸ (q6.cp rfl)
  cases h
  exact q7
def w_X8_elsewhere_107 : zWs := ([], [])
theorem R0_X8_elsewhere_107_p2 : ∀ (n : Nat) (x1 : Int32) (x2 : Int32) (x3 : Int32) (M M' : zMM) (v : Int32), f_X8_elsewhere_107_p2  n x1 x2 x3 M = some (v, M') → z_fr w_X8_elsewhere_107 M M' := by
  intro n
  induction n with
  | zero => intro x1 x2 x3 M M' v h; cases h
  | succ n ih =>
    intro x1 x2 x3 M M' v h
    replace h : (  if (5 : Int32) ≤ x3 then
    some ((-1 : Int32), M)
  else
    if x3 = x2 then
      f_X8_elsewhere_107_p2 n x1 x2 (x3 + (1 : Int32)) M
    else
      if z_ib (((5 : Int32) * x1) + x3) 50 = true then
        if (M 114 (((5 : Int32) * x1) + x3).toNatClampNeg) ≤ 0 then
          f_X8_elsewhere_107_p2 n x1 x2 (x3 + (1 : Int32)) M
        else
          some (x3, M)
      else none) = some (v, M') := h
    by_cases g1 : (5 : Int32) ≤ x3
    · replace h := (if_pos g1).symm.trans h
      cases h
      exact z_fr.refl
    · replace h := (if_neg g1).symm.trans h
      by_cases g2 : x3 = x2
      · replace h := (if_pos g2).symm.trans h
        exact z_fr.refl.trans (ih _ _ _ _ _ _ h)
      · replace h := (if_neg g2).symm.trans h
        obtain ⟨g3, h⟩ := z_ifn h
        by_cases g4 : (M 114 (((5 : Int32) * x1) + x3).toNatClampNeg) ≤ 0
        · replace h := (if_pos g4).symm.trans h
          exact z_fr.refl.trans (ih _ _ _ _ _ _ h)
        · replace h := (if_neg g4).symm.trans h
          cases h
          exact z_fr.refl
theorem R_X8_elsewhere_107_p2 {n : Nat} {x1 : Int32} {x2 : Int32} {x3 : Int32} {M M' : zMM} {v : Int32} (h : f_X8_elsewhere_107_p2  n x1 x2 x3 M = some (v, M')) : z_fr w_X8_elsewhere_107 M M' := R0_X8_elsewhere_107_p2 _ _ _ _ _ _ _ h
theorem R_X8_elsewhere_107 {x1 : Int32} {x2 : Int32} {M M' : zMM} {v : Int32} (h : f_X8_elsewhere_107 x1 x2 M = some (v, M')) : z_fr w_X8_elsewhere_107 M M' := by
  replace h : (  f_X8_elsewhere_107_p2 z_fuel x1 x2 (0 : Int32) M) = some (v, M') := h
  exact z_fr.refl.trans (R_X8_elsewhere_107_p2 h)
def w_X8_slipOf_107 : zWs := ([], [])
theorem R_X8_slipOf_107_p44 {x1 : Int32} {a0 : Int32} {M M' : zMM} {v : Int32} (h : f_X8_slipOf_107_p44 x1 a0 M = some (v, M')) : z_fr w_X8_slipOf_107 M M' := by
  replace h : (  if a0 = 0 then
    some ((0 : Int32), M)
  else
    if z_ib x1 10 = true then
      some ((M 111 x1.toNatClampNeg), M)
    else none) = some (v, M') := h
  by_cases g1 : a0 = 0
  · replace h := (if_pos g1).symm.trans h
    cases h
    exact z_fr.refl
  · replace h := (if_neg g1).symm.trans h
    obtain ⟨g2, h⟩ := z_ifn h
    cases h
    exact z_fr.refl
theorem R_X8_slipOf_107_p39 {x1 : Int32} {M M' : zMM} {v : Int32} (h : f_X8_slipOf_107_p39 x1 M = some (v, M')) : z_fr w_X8_slipOf_107 M M' := by
  replace h : (  f_X8_slipOf_107_p44 x1 (1 : Int32) M) = some (v, M') := h
  exact z_fr.refl.trans (R_X8_slipOf_107_p44 h)
theorem R_X8_slipOf_107_p43 {x1 : Int32} {M M' : zMM} {v : Int32} (h : f_X8_slipOf_107_p43 x1 M = some (v, M')) : z_fr w_X8_slipOf_107 M M' := by
  replace h : (  f_X8_slipOf_107_p44 x1 (0 : Int32) M) = some (v, M') := h
  exact z_fr.refl.trans (R_X8_slipOf_107_p44 h)
theorem R_X8_slipOf_107 {x1 : Int32} {x2 : Int32} {M M' : zMM} {v : Int32} (h : f_X8_slipOf_107 x1 x2 M = some (v, M')) : z_fr w_X8_slipOf_107 M M' := by
  replace h : (  if z_ib x1 10 = true then
    if (M 110 x1.toNatClampNeg) = (3 : Int32) then
      f_X8_slipOf_107_p39 x1 M
    else
      if z_ib x1 10 = true then
        if (M 110 x1.toNatClampNeg) = (1 : Int32) then
          if z_ib (((5 : Int32) * x1) + x2) 25 = true then
            z_bi (f_X8_elsewhere_107 x1 (M 127 (((5 : Int32) * x1) + x2).toNatClampNeg) M) fun v9 M10 =>
            if v9 = (-1 : Int32) then
              f_X8_slipOf_107_p43 x1 M10
            else
              f_X8_slipOf_107_p39 x1 M10
          else none
        else
          f_X8_slipOf_107_p43 x1 M
      else none
  else none) = some (v, M') := h
  obtain ⟨g1, h⟩ := z_ifn h
  by_cases g2 : (M 110 x1.toNatClampNeg) = (3 : Int32)
  · replace h := (if_pos g2).symm.trans h
    exact z_fr.refl.trans (R_X8_slipOf_107_p39 h)
  · replace h := (if_neg g2).symm.trans h
    obtain ⟨g3, h⟩ := z_ifn h
    by_cases g4 : (M 110 x1.toNatClampNeg) = (1 : Int32)
    · replace h := (if_pos g4).symm.trans h
      obtain ⟨g5, h⟩ := z_ifn h
      obtain ⟨v9, M10, c6, h⟩ := z_bi_c h
      have q6 : z_fr w_X8_slipOf_107 M M10 := z_fr.refl.sub (R_X8_elsewhere_107 c6) (by decide)
      by_cases g7 : v9 = (-1 : Int32)
      · replace h := (if_pos g7).symm.trans h
        exact q6.trans (R_X8_slipOf_107_p43 h)
      · replace h := (if_neg g7).symm.trans h
        exact q6.trans (R_X8_slipOf_107_p39 h)
    · replace h := (if_neg g4).symm.trans h
      exact z_fr.refl.trans (R_X8_slipOf_107_p43 h)
def w_X8_lostBy_107 : zWs := ([], [])
theorem R0_X8_lostBy_107_p6 : ∀ (n : Nat) (x1 : Int32) (x2 : Int32) (x3 : Int32) (x4 : Int32) (y5 : Int64) (x7 : Int32) (M M' : zMM) (v : Int64), f_X8_lostBy_107_p6  n x1 x2 x3 x4 y5 x7 M = some (v, M') → z_fr w_X8_lostBy_107 M M' := by
  intro n
  induction n with
  | zero => intro x1 x2 x3 x4 y5 x7 M M' v h; cases h
  | succ n ih =>
    intro x1 x2 x3 x4 y5 x7 M M' v h
    replace h : (  if x4 ≤ x7 then
    some (y5, M)
  else
    z_bi (f_X8_clerkAt_107 x1 x2 x7 M) fun v3 M4 =>
    z_bi (f_X8_slipOf_107 v3 x2 M4) fun v6 M7 =>
    if x3 ≤ x7 then
      if x7 = x3 then
        f_X8_lostBy_107_p6 n x1 x2 x3 x4 (y5 * v6.toInt64) (x7 + (1 : Int32)) M7
      else
        f_X8_lostBy_107_p6 n x1 x2 x3 x4 (y5 * (1000 : Int64)) (x7 + (1 : Int32)) M7
    else
      f_X8_lostBy_107_p6 n x1 x2 x3 x4 (y5 * ((1000 : Int32) - v6).toInt64) (x7 + (1 : Int32)) M7) = some (v, M') := h
    by_cases g1 : x4 ≤ x7
    · replace h := (if_pos g1).symm.trans h
      cases h
      exact z_fr.refl
    · replace h := (if_neg g1).symm.trans h
      obtain ⟨v3, M4, c2, h⟩ := z_bi_c h
      have q2 : z_fr w_X8_lostBy_107 M M4 := z_fr.refl.sub (R_X8_clerkAt_107 c2) (by decide)
      obtain ⟨v6, M7, c3, h⟩ := z_bi_c h
      have q3 : z_fr w_X8_lostBy_107 M M7 := q2.sub (R_X8_slipOf_107 c3) (by decide)
      by_cases g4 : x3 ≤ x7
      · replace h := (if_pos g4).symm.trans h
        by_cases g5 : x7 = x3
        · replace h := (if_pos g5).symm.trans h
          exact q3.trans (ih _ _ _ _ _ _ _ _ _ h)
        · replace h := (if_neg g5).symm.trans h
          exact q3.trans (ih _ _ _ _ _ _ _ _ _ h)
      · replace h := (if_neg g4).symm.trans h
        exact q3.trans (ih _ _ _ _ _ _ _ _ _ h)
theorem R_X8_lostBy_107_p6 {n : Nat} {x1 : Int32} {x2 : Int32} {x3 : Int32} {x4 : Int32} {y5 : Int64} {x7 : Int32} {M M' : zMM} {v : Int64} (h : f_X8_lostBy_107_p6  n x1 x2 x3 x4 y5 x7 M = some (v, M')) : z_fr w_X8_lostBy_107 M M' := R0_X8_lostBy_107_p6 _ _ _ _ _ _ _ _ _ _ h
theorem R_X8_lostBy_107 {x1 : Int32} {x2 : Int32} {x3 : Int32} {x4 : Int32} {M M' : zMM} {v : Int64} (h : f_X8_lostBy_107 x1 x2 x3 x4 M = some (v, M')) : z_fr w_X8_lostBy_107 M M' := by
  replace h : (  f_X8_lostBy_107_p6 z_fuel x1 x2 x3 x4 (1 : Int64) (0 : Int32) M) = some (v, M') := h
  exact z_fr.refl.trans (R_X8_lostBy_107_p6 h)
def w_X8_common : zWs := ([], [])
theorem R0_X8_common_p6 : ∀ (n : Nat) (y4 : Int64) (y6 : Int64) (M M' : zMM) (v : Int64), f_X8_common_p6  n y4 y6 M = some (v, M') → z_fr w_X8_common M M' := by
  intro n
  induction n with
  | zero => intro y4 y6 M M' v h; cases h
  | succ n ih =>
    intro y4 y6 M M' v h
    replace h : (  if (lg_cmp y6 (0 : Int64)) = 0 then
    some (y4, M)
  else
    if ¬ y6 = 0 then
      f_X8_common_p6 n y6 (y4 - y4 / y6 * y6) M
    else none) = some (v, M') := h
    by_cases g1 : (lg_cmp y6 (0 : Int64)) = 0
    · replace h := (if_pos g1).symm.trans h
      cases h
      exact z_fr.refl
    · replace h := (if_neg g1).symm.trans h
      obtain ⟨g2, h⟩ := z_ifn h
      exact z_fr.refl.trans (ih _ _ _ _ _ h)
theorem R_X8_common_p6 {n : Nat} {y4 : Int64} {y6 : Int64} {M M' : zMM} {v : Int64} (h : f_X8_common_p6  n y4 y6 M = some (v, M')) : z_fr w_X8_common M M' := R0_X8_common_p6 _ _ _ _ _ _ h
theorem R_X8_common {y0 : Int64} {y2 : Int64} {M M' : zMM} {v : Int64} (h : f_X8_common y0 y2 M = some (v, M')) : z_fr w_X8_common M M' := by
  replace h : (  f_X8_common_p6 z_fuel y0 y2 M) = some (v, M') := h
  exact z_fr.refl.trans (R_X8_common_p6 h)
def w_X8_lost_107 : zWs := ([(107, 1)], [])
theorem R_X8_lost_107_p135 {x4 : Int32} {y6 : Int64} {y8 : Int64} {b0 : Int64} {M M' : zMM} {v : Int64} (h : f_X8_lost_107_p135 x4 y6 y8 b0 M = some (v, M')) : z_fr w_X8_lost_107 M M' := by
  replace h : (  if x4 = 0 then
    if ¬ b0 = 0 then
      some ((y8 / b0), M)
    else none
  else
    if (lg_cmp y6 (0 : Int64)) = 0 then
      some ((1 : Int64), M)
    else
      if ¬ b0 = 0 then
        some ((y6 / b0), M)
      else none) = some (v, M') := h
  by_cases g1 : x4 = 0
  · replace h := (if_pos g1).symm.trans h
    obtain ⟨g2, h⟩ := z_ifn h
    cases h
    exact z_fr.refl
  · replace h := (if_neg g1).symm.trans h
    by_cases g3 : (lg_cmp y6 (0 : Int64)) = 0
    · replace h := (if_pos g3).symm.trans h
      cases h
      exact z_fr.refl
    · replace h := (if_neg g3).symm.trans h
      obtain ⟨g4, h⟩ := z_ifn h
      cases h
      exact z_fr.refl
theorem R0_X8_lost_107_p78 : ∀ (n : Nat) (x1 : Int32) (x2 : Int32) (x3 : Int32) (x4 : Int32) (x5 : Int32) (y6 : Int64) (x8 : Int32) (M M' : zMM) (v : Int64), f_X8_lost_107_p78  n x1 x2 x3 x4 x5 y6 x8 M = some (v, M') → z_fr w_X8_lost_107 M M' := by
  intro n
  induction n with
  | zero => intro x1 x2 x3 x4 x5 y6 x8 M M' v h; cases h
  | succ n ih =>
    intro x1 x2 x3 x4 x5 y6 x8 M M' v h
    replace h : (  if x5 ≤ x8 then
    z_bi (f_X8_lostBy_107 x1 x2 x3 x5 M) fun v45 M46 =>
    if (lg_cmp y6 (0 : Int64)) = 0 then
      f_X8_lost_107_p135 x4 y6 v45 (1 : Int64) M46
    else
      z_bi (f_X8_common y6 v45 M46) fun v53 M54 =>
      f_X8_lost_107_p135 x4 y6 v45 v53 M54
  else
    z_bi (f_X8_lostBy_107 x1 x2 x8 x5 M) fun v56 M57 =>
    f_X8_lost_107_p78 n x1 x2 x3 x4 x5 (y6 + v56) (x8 + (1 : Int32)) M57) = some (v, M') := h
    by_cases g1 : x5 ≤ x8
    · replace h := (if_pos g1).symm.trans h
      obtain ⟨v45, M46, c2, h⟩ := z_bi_c h
      have q2 : z_fr w_X8_lost_107 M M46 := z_fr.refl.sub (R_X8_lostBy_107 c2) (by decide)
      by_cases g3 : (lg_cmp y6 (0 : Int64)) = 0
      · replace h := (if_pos g3).symm.trans h
        exact q2.trans (R_X8_lost_107_p135 h)
      · replace h := (if_neg g3).symm.trans h
        obtain ⟨v53, M54, c4, h⟩ := z_bi_c h
        have q4 : z_fr w_X8_lost_107 M M54 := q2.sub (R_X8_common c4) (by decide)
        exact q4.trans (R_X8_lost_107_p135 h)
    · replace h := (if_neg g1).symm.trans h
      obtain ⟨v56, M57, c5, h⟩ := z_bi_c h
      have q5 : z_fr w_X8_lost_107 M M57 := z_fr.refl.sub (R_X8_lostBy_107 c5) (by decide)
      exact q5.trans (ih _ _ _ _ _ _ _ _ _ _ h)
theorem R_X8_lost_107_p78 {n : Nat} {x1 : Int32} {x2 : Int32} {x3 : Int32} {x4 : Int32} {x5 : Int32} {y6 : Int64} {x8 : Int32} {M M' : zMM} {v : Int64} (h : f_X8_lost_107_p78  n x1 x2 x3 x4 x5 y6 x8 M = some (v, M')) : z_fr w_X8_lost_107 M M' := R0_X8_lost_107_p78 _ _ _ _ _ _ _ _ _ _ _ h
theorem R_X8_lost_107 {x1 : Int32} {x2 : Int32} {x3 : Int32} {x4 : Int32} {M M' : zMM} {v : Int64} (h : f_X8_lost_107 x1 x2 x3 x4 M = some (v, M')) : z_fr w_X8_lost_107 M M' := by
  replace h : (  z_bi (f_X8_isTown_107 x1 (z_up M 107 1 (0 : Int32))) fun v2 M3 =>
  if v2 = 0 then
    z_bi (f_X8_fail_107 (1 : Int32) M3) fun v6 M7 =>
    some (v6.toInt64, M7)
  else
    z_bi (f_X8_isTown_107 x2 M3) fun v9 M10 =>
    if v9 = 0 then
      z_bi (f_X8_fail_107 (1 : Int32) M10) fun v13 M14 =>
      some (v13.toInt64, M14)
    else
      if x4 < 0 then
        z_bi (f_X8_fail_107 (1 : Int32) M10) fun v17 M18 =>
        some (v17.toInt64, M18)
      else
        if (1 : Int32) < x4 then
          z_bi (f_X8_fail_107 (1 : Int32) M10) fun v21 M22 =>
          some (v21.toInt64, M22)
        else
          z_bi (f_X8_hasWay_107 x1 x2 M10) fun v24 M25 =>
          if v24 = 0 then
            z_bi (f_X8_fail_107 (1 : Int32) M25) fun v28 M29 =>
            some (v28.toInt64, M29)
          else
            z_bi (f_X8_clerksOf_107 x1 x2 M25) fun v31 M32 =>
            z_bi (f_X8_isIn x3 (0 : Int32) (v31 - (1 : Int32)) M32) fun v34 M35 =>
            if v34 = 0 then
              z_bi (f_X8_fail_107 (1 : Int32) M35) fun v38 M39 =>
              some (v38.toInt64, M39)
            else
              z_bi (f_X8_clerksOf_107 x1 x2 M35) fun v41 M42 =>
              f_X8_lost_107_p78 z_fuel x1 x2 x3 x4 v41 (0 : Int64) (0 : Int32) M42) = some (v, M') := h
  obtain ⟨v2, M3, c1, h⟩ := z_bi_c h
  have q1 : z_fr w_X8_lost_107 M M3 := (z_fr.refl.up rfl).sub (R_X8_isTown_107 c1) (by decide)
  by_cases g2 : v2 = 0
  · replace h := (if_pos g2).symm.trans h
    obtain ⟨v6, M7, c3, h⟩ := z_bi_c h
    have q3 : z_fr w_X8_lost_107 M M7 := q1.sub (R_X8_fail_107 c3) (by decide)
    cases h
    exact q3
  · replace h := (if_neg g2).symm.trans h
    obtain ⟨v9, M10, c4, h⟩ := z_bi_c h
    have q4 : z_fr w_X8_lost_107 M M10 := q1.sub (R_X8_isTown_107 c4) (by decide)
    by_cases g5 : v9 = 0
    · replace h := (if_pos g5).symm.trans h
      obtain ⟨v13, M14, c6, h⟩ := z_bi_c h
      have q6 : z_fr w_X8_lost_107 M M14 := q4.sub (R_X8_fail_107 c6) (by decide)
      cases h
      exact q6
    · replace h := (if_neg g5).symm.trans h
      by_cases g7 : x4 < 0
      · replace h := (if_pos g7).symm.trans h
        obtain ⟨v17, M18, c8, h⟩ := z_bi_c h
        have q8 : z_fr w_X8_lost_107 M M18 := q4.sub (R_X8_fail_107 c8) (by decide)
        cases h
        exact q8
      · replace h := (if_neg g7).symm.trans h
        by_cases g9 : (1 : Int32) < x4
        · replace h := (if_pos g9).symm.trans h
          obtain ⟨v21, M22, c10, h⟩ := z_bi_c h
          have q10 : z_fr w_X8_lost_107 M M22 := q4.sub (R_X8_fail_107 c10) (by decide)
          cases h
          exact q10
        · replace h := (if_neg g9).symm.trans h
          obtain ⟨v24, M25, c11, h⟩ := z_bi_c h
          have q11 : z_fr w_X8_lost_107 M M25 := q4.sub (R_X8_hasWay_107 c11) (by decide)
          by_cases g12 : v24 = 0
          · replace h := (if_pos g12).symm.trans h
            obtain ⟨v28, M29, c13, h⟩ := z_bi_c h
            have q13 : z_fr w_X8_lost_107 M M29 := q11.sub (R_X8_fail_107 c13) (by decide)
            cases h
            exact q13
          · replace h := (if_neg g12).symm.trans h
            obtain ⟨v31, M32, c14, h⟩ := z_bi_c h
            have q14 : z_fr w_X8_lost_107 M M32 := q11.sub (R_X8_clerksOf_107 c14) (by decide)
            obtain ⟨v34, M35, c15, h⟩ := z_bi_c h
            have q15 : z_fr w_X8_lost_107 M M35 := q14.sub (R_X8_isIn c15) (by decide)
            by_cases g16 : v34 = 0
            · replace h := (if_pos g16).symm.trans h
              obtain ⟨v38, M39, c17, h⟩ := z_bi_c h
              have q17 : z_fr w_X8_lost_107 M M39 := q15.sub (R_X8_fail_107 c17) (by decide)
              cases h
              exact q17
            · replace h := (if_neg g16).symm.trans h
              obtain ⟨v41, M42, c18, h⟩ := z_bi_c h
              have q18 : z_fr w_X8_lost_107 M M42 := q15.sub (R_X8_clerksOf_107 c18) (by decide)
              exact q18.trans (R_X8_lost_107_p78 h)
def w_X8_night_107 : zWs := ([(107, 1), (107, 32)], [122, 136, 137, 138])
theorem R_X8_night_107_p66 {M M' : zMM} {v : Int32} (h : f_X8_night_107_p66 M = some (v, M')) : z_fr w_X8_night_107 M M' := by
  replace h : (  some ((-1 : Int32), (z_up M 122 2 ((M 122 2) + (1 : Int32))))) = some (v, M') := h
  cases h
  exact (z_fr.refl.up rfl)
theorem R_X8_night_107_p58 {x1 : Int32} {x2 : Int32} {x3 : Int32} {a0 : Int32} {a1 : Int32} {M M' : zMM} {v : Int32} (h : f_X8_night_107_p58 x1 x2 x3 a0 a1 M = some (v, M')) : z_fr w_X8_night_107 M M' := by
  replace h : (  z_bi (f_X8_isIn a1 a0 (99 : Int32) M) fun v18 M19 =>
  if v18 = 0 then
    f_X8_night_107_p66  M19
  else
    if z_ib (M19 107 32) 4 = true then
      if z_ib (M19 107 32) 4 = true then
        if z_ib (M19 107 32) 4 = true then
          some (((M19 107 32) + (1 : Int32)), (z_up (z_up (z_up (z_up M19 136 (M19 107 32).toNatClampNeg x1) 137 (M19 107 32).toNatClampNeg x2) 138 (M19 107 32).toNatClampNeg x3) 107 32 ((M19 107 32) + (1 : Int32))))
        else none
      else none
    else none) = some (v, M') := h
  obtain ⟨v18, M19, c1, h⟩ := z_bi_c h
  have q1 : z_fr w_X8_night_107 M M19 := z_fr.refl.sub (R_X8_isIn c1) (by decide)
  by_cases g2 : v18 = 0
  · replace h := (if_pos g2).symm.trans h
    exact q1.trans (R_X8_night_107_p66 h)
  · replace h := (if_neg g2).symm.trans h
    obtain ⟨g3, h⟩ := z_ifn h
    obtain ⟨g4, h⟩ := z_ifn h
    obtain ⟨g5, h⟩ := z_ifn h
    cases h
    exact ((((q1.up rfl).up rfl).up rfl).up rfl)
theorem R_X8_night_107 {x1 : Int32} {x2 : Int32} {x3 : Int32} {M M' : zMM} {v : Int32} (h : f_X8_night_107 x1 x2 x3 M = some (v, M')) : z_fr w_X8_night_107 M M' := by
  replace h : (  z_bi (f_X8_isTown_107 x2 (z_up M 107 1 (0 : Int32))) fun v2 M3 =>
  if v2 = 0 then
    z_bi (f_X8_fail_107 (1 : Int32) M3) fun v6 M7 =>
    some (v6, M7)
  else
    z_bi (f_X8_isPlay_107 x3 M3) fun v9 M10 =>
    if v9 = 0 then
      z_bi (f_X8_fail_107 (1 : Int32) M10) fun v13 M14 =>
      some (v13, M14)
    else
      if (M10 107 32) = (4 : Int32) then
        f_X8_night_107_p66  M10
      else
        if (M10 107 32) = 0 then
          f_X8_night_107_p58 x1 x2 x3 (0 : Int32) x1 M10
        else
          if z_ib ((M10 107 32) - (1 : Int32)) 4 = true then
            f_X8_night_107_p58 x1 x2 x3 (M10 136 ((M10 107 32) - (1 : Int32)).toNatClampNeg) x1 M10
          else none) = some (v, M') := h
  obtain ⟨v2, M3, c1, h⟩ := z_bi_c h
  have q1 : z_fr w_X8_night_107 M M3 := (z_fr.refl.up rfl).sub (R_X8_isTown_107 c1) (by decide)
  by_cases g2 : v2 = 0
  · replace h := (if_pos g2).symm.trans h
    obtain ⟨v6, M7, c3, h⟩ := z_bi_c h
    have q3 : z_fr w_X8_night_107 M M7 := q1.sub (R_X8_fail_107 c3) (by decide)
    cases h
    exact q3
  · replace h := (if_neg g2).symm.trans h
    obtain ⟨v9, M10, c4, h⟩ := z_bi_c h
    have q4 : z_fr w_X8_night_107 M M10 := q1.sub (R_X8_isPlay_107 c4) (by decide)
    by_cases g5 : v9 = 0
    · replace h := (if_pos g5).symm.trans h
      obtain ⟨v13, M14, c6, h⟩ := z_bi_c h
      have q6 : z_fr w_X8_night_107 M M14 := q4.sub (R_X8_fail_107 c6) (by decide)
      cases h
      exact q6
    · replace h := (if_neg g5).symm.trans h
      by_cases g7 : (M10 107 32) = (4 : Int32)
      · replace h := (if_pos g7).symm.trans h
        exact q4.trans (R_X8_night_107_p66 h)
      · replace h := (if_neg g7).symm.trans h
        by_cases g8 : (M10 107 32) = 0
        · replace h := (if_pos g8).symm.trans h
          exact q4.trans (R_X8_night_107_p58 h)
        · replace h := (if_neg g8).symm.trans h
          obtain ⟨g9, h⟩ := z_ifn h
          exact q4.trans (R_X8_night_107_p58 h)
def w_X8_price_107 : zWs := ([(107, 1), (107, 38)], [128, 129])
theorem R_X8_price_107 {x1 : Int32} {x2 : Int32} {x3 : Int32} {M M' : zMM} {v : Int32} (h : f_X8_price_107 x1 x2 x3 M = some (v, M')) : z_fr w_X8_price_107 M M' := by
  replace h : (  z_bi (f_X8_isPlay_107 x1 (z_up M 107 1 (0 : Int32))) fun v2 M3 =>
  if v2 = 0 then
    z_bi (f_X8_fail_107 (1 : Int32) M3) fun v6 M7 =>
    some (v6, M7)
  else
    z_bi (f_X8_isTown_107 x2 M3) fun v9 M10 =>
    if v9 = 0 then
      z_bi (f_X8_fail_107 (1 : Int32) M10) fun v13 M14 =>
      some (v13, M14)
    else
      z_bi (f_X8_isIn x3 (0 : Int32) (((1 : Int32) <<< ((M10 109 2) &&& 31)) - (1 : Int32)) M10) fun v16 M17 =>
      if v16 = 0 then
        z_bi (f_X8_fail_107 (2 : Int32) M17) fun v20 M21 =>
        some (v20, M21)
      else
        z_bi (f_X8_priceOf_107 x1 x2 x3 M17) fun v23 M24 =>
        some (v23, M24)) = some (v, M') := h
  obtain ⟨v2, M3, c1, h⟩ := z_bi_c h
  have q1 : z_fr w_X8_price_107 M M3 := (z_fr.refl.up rfl).sub (R_X8_isPlay_107 c1) (by decide)
  by_cases g2 : v2 = 0
  · replace h := (if_pos g2).symm.trans h
    obtain ⟨v6, M7, c3, h⟩ := z_bi_c h
    have q3 : z_fr w_X8_price_107 M M7 := q1.sub (R_X8_fail_107 c3) (by decide)
    cases h
    exact q3
  · replace h := (if_neg g2).symm.trans h
    obtain ⟨v9, M10, c4, h⟩ := z_bi_c h
    have q4 : z_fr w_X8_price_107 M M10 := q1.sub (R_X8_isTown_107 c4) (by decide)
    by_cases g5 : v9 = 0
    · replace h := (if_pos g5).symm.trans h
      obtain ⟨v13, M14, c6, h⟩ := z_bi_c h
      have q6 : z_fr w_X8_price_107 M M14 := q4.sub (R_X8_fail_107 c6) (by decide)
      cases h
      exact q6
    · replace h := (if_neg g5).symm.trans h
      obtain ⟨v16, M17, c7, h⟩ := z_bi_c h
      have q7 : z_fr w_X8_price_107 M M17 := q4.sub (R_X8_isIn c7) (by decide)
      by_cases g8 : v16 = 0
      · replace h := (if_pos g8).symm.trans h
        obtain ⟨v20, M21, c9, h⟩ := z_bi_c h
        have q9 : z_fr w_X8_price_107 M M21 := q7.sub (R_X8_fail_107 c9) (by decide)
        cases h
        exact q9
      · replace h := (if_neg g8).symm.trans h
        obtain ⟨v23, M24, c10, h⟩ := z_bi_c h
        have q10 : z_fr w_X8_price_107 M M24 := q7.sub (R_X8_priceOf_107 c10) (by decide)
        cases h
        exact q10
def w_X8_restore_107 : zWs := ([(107, 1), (107, 29), (107, 30), (107, 31), (107, 32), (107, 33)], [122, 124, 125, 136, 137, 138])
theorem R_X8_restore_107 {M M' : zMM} {v : Int32} (h : f_X8_restore_107 M = some (v, M')) : z_fr w_X8_restore_107 M M' := by
  replace h : (  if (M 107 54) = 0 then
    some ((0 : Int32), (z_up M 107 1 (0 : Int32)))
  else
    if z_zb (M 107 55) = true then
      z_bv (some (z_cp (z_up (z_up (z_up (z_up (z_up (z_up M 107 1 (0 : Int32)) 107 33 (M 107 55)) 107 29 (M 107 56)) 107 30 (M 107 57)) 107 32 (M 107 58)) 107 31 (0 : Int32)) 143 124 5)) fun M4 =>
      z_bv (some (z_cp M4 144 125 5)) fun M6 =>
      z_bv (some (z_cp M6 145 136 4)) fun M8 =>
      z_bv (some (z_cp M8 146 137 4)) fun M10 =>
      z_bv (some (z_cp M10 147 138 4)) fun M12 =>
      z_bv (some (z_cp M12 148 122 3)) fun M14 =>
      some ((1 : Int32), M14)
    else none) = some (v, M') := h
  by_cases g1 : (M 107 54) = 0
  · replace h := (if_pos g1).symm.trans h
    cases h
    exact (z_fr.refl.up rfl)
  · replace h := (if_neg g1).symm.trans h
    obtain ⟨g2, h⟩ := z_ifn h
    obtain ⟨M4, c3, h⟩ := z_bv_c h
    have q3 : z_fr w_X8_restore_107 M M4 := Option.some.inj c3 ▸ (((((((z_fr.refl.up rfl).up rfl).up rfl).up rfl).up rfl).up rfl).cp rfl)
    obtain ⟨M6, c4, h⟩ := z_bv_c h
    have q4 : z_fr w_X8_restore_107 M M6 := Option.some.inj c4 ▸ (q3.cp rfl)
    obtain ⟨M8, c5, h⟩ := z_bv_c h
    have q5 : z_fr w_X8_restore_107 M M8 := Option.some.inj c5 ▸ (q4.cp rfl)
    obtain ⟨M10, c6, h⟩ := z_bv_c h
    have q6 : z_fr w_X8_restore_107 M M10 := Option.some.inj c6 ▸ (q5.cp rfl)
    obtain ⟨M12, c7, h⟩ := z_bv_c h
    have q7 : z_fr w_X8_restore_107 M M12 := Option.some.inj c7 ▸ (q6.cp rfl)
    obtain ⟨M14, c8, h⟩ := z_bv_c h
    have q8 : z_fr w_X8_restore_107 M M14 := Option.some.inj c8 ▸ (q7.cp rfl)
    cases h
    exact q8
def w_X8_isTrunk_107 : zWs := ([], [])
theorem R_X8_isTrunk_107 {x1 : Int32} {M M' : zMM} {v : Int32} (h : f_X8_isTrunk_107 x1 M = some (v, M')) : z_fr w_X8_isTrunk_107 M M' := by
  replace h : (  z_bi (f_X8_isIn x1 (0 : Int32) ((M 109 1) - (1 : Int32)) M) fun v2 M3 =>
  if z_zb v2 = true then some (v2, M3) else none) = some (v, M') := h
  obtain ⟨v2, M3, c1, h⟩ := z_bi_c h
  have q1 : z_fr w_X8_isTrunk_107 M M3 := z_fr.refl.sub (R_X8_isIn c1) (by decide)
  obtain ⟨g2, h⟩ := z_ifn h
  cases h
  exact q1
def w_X8_rides_107 : zWs := ([(107, 1)], [])
theorem R_X8_rides_107 {x1 : Int32} {M M' : zMM} {v : Int32} (h : f_X8_rides_107 x1 M = some (v, M')) : z_fr w_X8_rides_107 M M' := by
  replace h : (  z_bi (f_X8_isTrunk_107 x1 (z_up M 107 1 (0 : Int32))) fun v2 M3 =>
  if v2 = 0 then
    z_bi (f_X8_fail_107 (1 : Int32) M3) fun v6 M7 =>
    some (v6, M7)
  else
    if (M3 107 53) = 0 then
      z_bi (f_X8_fail_107 (1 : Int32) M3) fun v10 M11 =>
      some (v10, M11)
    else
      if z_ib x1 5 = true then
        some ((M3 142 x1.toNatClampNeg), M3)
      else none) = some (v, M') := h
  obtain ⟨v2, M3, c1, h⟩ := z_bi_c h
  have q1 : z_fr w_X8_rides_107 M M3 := (z_fr.refl.up rfl).sub (R_X8_isTrunk_107 c1) (by decide)
  by_cases g2 : v2 = 0
  · replace h := (if_pos g2).symm.trans h
    obtain ⟨v6, M7, c3, h⟩ := z_bi_c h
    have q3 : z_fr w_X8_rides_107 M M7 := q1.sub (R_X8_fail_107 c3) (by decide)
    cases h
    exact q3
  · replace h := (if_neg g2).symm.trans h
    by_cases g4 : (M3 107 53) = 0
    · replace h := (if_pos g4).symm.trans h
      obtain ⟨v10, M11, c5, h⟩ := z_bi_c h
      have q5 : z_fr w_X8_rides_107 M M11 := q1.sub (R_X8_fail_107 c5) (by decide)
      cases h
      exact q5
    · replace h := (if_neg g4).symm.trans h
      obtain ⟨g6, h⟩ := z_ifn h
      cases h
      exact q1
def w_X8_seed_107 : zWs := ([(107, 1), (107, 30), (107, 33)], [])
theorem R_X8_seed_107 {x1 : Int32} {M M' : zMM} (h : f_X8_seed_107 x1 M = some M') : z_fr w_X8_seed_107 M M' := by
  replace h : (  some (z_up (z_up (z_up M 107 1 (0 : Int32)) 107 30 x1) 107 33 (1 : Int32))) = some M' := h
  cases h
  exact (((z_fr.refl.up rfl).up rfl).up rfl)
def w_X8_slips_107 : zWs := ([(107, 30)], [])
theorem R_X8_slips_107 {x1 : Int32} {M M' : zMM} {v : Int32} (h : f_X8_slips_107 x1 M = some (v, M')) : z_fr w_X8_slips_107 M M' := by
  replace h : (  if (M 107 33) = 0 then
    some ((0 : Int32), M)
  else
    if z_ib x1 10 = true then
      if (M 111 x1.toNatClampNeg) ≤ ((((((M 107 30) * (1103515245 : Int32)) + (12345 : Int32)) >>> ((16 : Int32) &&& 31)) &&& (32767 : Int32)) - (((((M 107 30) * (1103515245 : Int32)) + (12345 : Int32)) >>> ((16 : Int32) &&& 31)) &&& (32767 : Int32)) / (1000 : Int32) * (1000 : Int32)) then
        some ((0 : Int32), (z_up M 107 30 (((M 107 30) * (1103515245 : Int32)) + (12345 : Int32))))
      else
        some ((1 : Int32), (z_up M 107 30 (((M 107 30) * (1103515245 : Int32)) + (12345 : Int32))))
    else none) = some (v, M') := h
  by_cases g1 : (M 107 33) = 0
  · replace h := (if_pos g1).symm.trans h
    cases h
    exact z_fr.refl
  · replace h := (if_neg g1).symm.trans h
    obtain ⟨g2, h⟩ := z_ifn h
    by_cases g3 : (M 111 x1.toNatClampNeg) ≤ ((((((M 107 30) * (1103515245 : Int32)) + (12345 : Int32)) >>> ((16 : Int32) &&& 31)) &&& (32767 : Int32)) - (((((M 107 30) * (1103515245 : Int32)) + (12345 : Int32)) >>> ((16 : Int32) &&& 31)) &&& (32767 : Int32)) / (1000 : Int32) * (1000 : Int32))
    · replace h := (if_pos g3).symm.trans h
      cases h
      exact (z_fr.refl.up rfl)
    · replace h := (if_neg g3).symm.trans h
      cases h
      exact (z_fr.refl.up rfl)
def w_X8_send_107 : zWs := ([(107, 1), (107, 30), (107, 31)], [122, 124, 125, 130, 131, 132, 133, 134, 135])
theorem R_X8_send_107_p64 {M M' : zMM} {v : Int32} (h : f_X8_send_107_p64 M = some (v, M')) : z_fr w_X8_send_107 M M' := by
  replace h : (  some ((-1 : Int32), (z_up M 122 1 ((M 122 1) + (1 : Int32))))) = some (v, M') := h
  cases h
  exact (z_fr.refl.up rfl)
theorem R_X8_send_107_p243 {x1 : Int32} {x3 : Int32} {x4 : Int32} {M M' : zMM} {v : Int32} (h : f_X8_send_107_p243 x1 x3 x4 M = some (v, M')) : z_fr w_X8_send_107 M M' := by
  replace h : (  if z_ib x1 5 = true then
    if z_ib x1 5 = true then
      some (x4, (z_up (z_up M 124 x1.toNatClampNeg x3) 125 x1.toNatClampNeg x4))
    else none
  else none) = some (v, M') := h
  obtain ⟨g1, h⟩ := z_ifn h
  obtain ⟨g2, h⟩ := z_ifn h
  cases h
  exact ((z_fr.refl.up rfl).up rfl)
theorem R_X8_send_107_p200 {K97 : Int32 → Int32 → Int32 → Int32 → Int32 → zMM → Option (Int32 × zMM)} {x1 : Int32} {x2 : Int32} {x3 : Int32} {x4 : Int32} {x5 : Int32} {x6 : Int32} {x7 : Int32}
    (hK97 : ∀ (a0 : Int32) (a1 : Int32) (a2 : Int32) (a3 : Int32) (a4 : Int32) (M M' : zMM) (v : Int32), K97 a0 a1 a2 a3 a4 M = some (v, M') → z_fr w_X8_send_107 M M') {M M' : zMM} {v : Int32} (h : f_X8_send_107_p200 K97 x1 x2 x3 x4 x5 x6 x7 M = some (v, M')) : z_fr w_X8_send_107 M M' := by
  replace h : (  if z_ib (((5 : Int32) * x3) + x7) 50 = true then
    if x6 = 0 then
      K97 x1 x2 x7 (x4 + ((M 114 (((5 : Int32) * x3) + x7).toNatClampNeg) + (0 : Int32))) x5 M
    else
      if z_ib x3 10 = true then
        if (M 110 x3.toNatClampNeg) = (2 : Int32) then
          K97 x1 x2 x7 (x4 + ((M 114 (((5 : Int32) * x3) + x7).toNatClampNeg) + (1 : Int32))) x5 M
        else
          K97 x1 x2 x7 (x4 + ((M 114 (((5 : Int32) * x3) + x7).toNatClampNeg) + (0 : Int32))) x5 M
      else none
  else none) = some (v, M') := h
  obtain ⟨g1, h⟩ := z_ifn h
  by_cases g2 : x6 = 0
  · replace h := (if_pos g2).symm.trans h
    exact z_fr.refl.trans (hK97 _ _ _ _ _ _ _ _ h)
  · replace h := (if_neg g2).symm.trans h
    obtain ⟨g3, h⟩ := z_ifn h
    by_cases g4 : (M 110 x3.toNatClampNeg) = (2 : Int32)
    · replace h := (if_pos g4).symm.trans h
      exact z_fr.refl.trans (hK97 _ _ _ _ _ _ _ _ h)
    · replace h := (if_neg g4).symm.trans h
      exact z_fr.refl.trans (hK97 _ _ _ _ _ _ _ _ h)
theorem R_X8_send_107_p191 {K97 : Int32 → Int32 → Int32 → Int32 → Int32 → zMM → Option (Int32 × zMM)} {x1 : Int32} {x2 : Int32} {x3 : Int32} {x4 : Int32} {x5 : Int32} {x6 : Int32} {x7 : Int32} {x8 : Int32}
    (hK97 : ∀ (a0 : Int32) (a1 : Int32) (a2 : Int32) (a3 : Int32) (a4 : Int32) (M M' : zMM) (v : Int32), K97 a0 a1 a2 a3 a4 M = some (v, M') → z_fr w_X8_send_107 M M') {M M' : zMM} {v : Int32} (h : f_X8_send_107_p191 K97 x1 x2 x3 x4 x5 x6 x7 x8 M = some (v, M')) : z_fr w_X8_send_107 M M' := by
  replace h : (  if x5 = 0 then
    f_X8_send_107_p200 K97 x1 x2 x3 x4 x5 x6 x8 M
  else
    f_X8_send_107_p200 K97 x1 x2 x3 x4 x5 x6 x7 M) = some (v, M') := h
  by_cases g1 : x5 = 0
  · replace h := (if_pos g1).symm.trans h
    exact z_fr.refl.trans (R_X8_send_107_p200 hK97 h)
  · replace h := (if_neg g1).symm.trans h
    exact z_fr.refl.trans (R_X8_send_107_p200 hK97 h)
theorem R_X8_send_107_p171 {K97 : Int32 → Int32 → Int32 → Int32 → Int32 → zMM → Option (Int32 × zMM)} {x1 : Int32} {x2 : Int32} {x3 : Int32} {x4 : Int32} {x6 : Int32} {x7 : Int32} {x8 : Int32} {a0 : Int32}
    (hK97 : ∀ (a0 : Int32) (a1 : Int32) (a2 : Int32) (a3 : Int32) (a4 : Int32) (M M' : zMM) (v : Int32), K97 a0 a1 a2 a3 a4 M = some (v, M') → z_fr w_X8_send_107 M M') {M M' : zMM} {v : Int32} (h : f_X8_send_107_p171 K97 x1 x2 x3 x4 x6 x7 x8 a0 M = some (v, M')) : z_fr w_X8_send_107 M M' := by
  replace h : (  if x6 = 0 then
    f_X8_send_107_p191 K97 x1 x2 x3 x4 a0 x6 x7 x8 M
  else
    if z_ib x3 10 = true then
      if (M 110 x3.toNatClampNeg) = (3 : Int32) then
        K97 x1 x2 x3 x4 a0 M
      else
        f_X8_send_107_p191 K97 x1 x2 x3 x4 a0 x6 x7 x8 M
    else none) = some (v, M') := h
  by_cases g1 : x6 = 0
  · replace h := (if_pos g1).symm.trans h
    exact z_fr.refl.trans (R_X8_send_107_p191 hK97 h)
  · replace h := (if_neg g1).symm.trans h
    obtain ⟨g2, h⟩ := z_ifn h
    by_cases g3 : (M 110 x3.toNatClampNeg) = (3 : Int32)
    · replace h := (if_pos g3).symm.trans h
      exact z_fr.refl.trans (hK97 _ _ _ _ _ _ _ _ h)
    · replace h := (if_neg g3).symm.trans h
      exact z_fr.refl.trans (R_X8_send_107_p191 hK97 h)
theorem R_X8_send_107_p166 {K97 : Int32 → Int32 → Int32 → Int32 → Int32 → zMM → Option (Int32 × zMM)} {x1 : Int32} {x2 : Int32} {x3 : Int32} {x4 : Int32} {x6 : Int32} {x7 : Int32} {x8 : Int32}
    (hK97 : ∀ (a0 : Int32) (a1 : Int32) (a2 : Int32) (a3 : Int32) (a4 : Int32) (M M' : zMM) (v : Int32), K97 a0 a1 a2 a3 a4 M = some (v, M') → z_fr w_X8_send_107 M M') {M M' : zMM} {v : Int32} (h : f_X8_send_107_p166 K97 x1 x2 x3 x4 x6 x7 x8 M = some (v, M')) : z_fr w_X8_send_107 M M' := by
  replace h : (  f_X8_send_107_p171 K97 x1 x2 x3 x4 x6 x7 x8 (1 : Int32) M) = some (v, M') := h
  exact z_fr.refl.trans (R_X8_send_107_p171 hK97 h)
theorem R_X8_send_107_p170 {K97 : Int32 → Int32 → Int32 → Int32 → Int32 → zMM → Option (Int32 × zMM)} {x1 : Int32} {x2 : Int32} {x3 : Int32} {x4 : Int32} {x6 : Int32} {x7 : Int32} {x8 : Int32}
    (hK97 : ∀ (a0 : Int32) (a1 : Int32) (a2 : Int32) (a3 : Int32) (a4 : Int32) (M M' : zMM) (v : Int32), K97 a0 a1 a2 a3 a4 M = some (v, M') → z_fr w_X8_send_107 M M') {M M' : zMM} {v : Int32} (h : f_X8_send_107_p170 K97 x1 x2 x3 x4 x6 x7 x8 M = some (v, M')) : z_fr w_X8_send_107 M M' := by
  replace h : (  f_X8_send_107_p171 K97 x1 x2 x3 x4 x6 x7 x8 (0 : Int32) M) = some (v, M') := h
  exact z_fr.refl.trans (R_X8_send_107_p171 hK97 h)
theorem R0_X8_send_107_p97 : ∀ (n : Nat) (x1 : Int32) (x2 : Int32) (x3 : Int32) (x4 : Int32) (x5 : Int32) (M M' : zMM) (v : Int32), f_X8_send_107_p97  n x1 x2 x3 x4 x5 M = some (v, M') → z_fr w_X8_send_107 M M' := by
  intro n
  induction n with
  | zero => intro x1 x2 x3 x4 x5 M M' v h; cases h
  | succ n ih =>
    intro x1 x2 x3 x4 x5 M M' v h
    replace h : (  if x5 = 0 then
    f_X8_send_107_p243 x1 x3 x4 M
  else
    if x3 = x2 then
      f_X8_send_107_p243 x1 x3 x4 M
    else
      z_bi (f_X8_slips_107 x3 M) fun v33 M34 =>
      if z_ib (((5 : Int32) * x3) + x2) 25 = true then
        z_bi (f_X8_elsewhere_107 x3 (M34 127 (((5 : Int32) * x3) + x2).toNatClampNeg) M34) fun v37 M38 =>
        if v33 = 0 then
          f_X8_send_107_p166 (f_X8_send_107_p97 n) x1 x2 x3 x4 v33 (M34 127 (((5 : Int32) * x3) + x2).toNatClampNeg) v37 M38
        else
          if z_ib x3 10 = true then
            if (M38 110 x3.toNatClampNeg) = (3 : Int32) then
              f_X8_send_107_p170 (f_X8_send_107_p97 n) x1 x2 x3 x4 v33 (M34 127 (((5 : Int32) * x3) + x2).toNatClampNeg) v37 M38
            else
              if z_ib x3 10 = true then
                if (M38 110 x3.toNatClampNeg) = (1 : Int32) then
                  if v37 = (-1 : Int32) then
                    f_X8_send_107_p166 (f_X8_send_107_p97 n) x1 x2 x3 x4 v33 (M34 127 (((5 : Int32) * x3) + x2).toNatClampNeg) v37 M38
                  else
                    f_X8_send_107_p170 (f_X8_send_107_p97 n) x1 x2 x3 x4 v33 (M34 127 (((5 : Int32) * x3) + x2).toNatClampNeg) v37 M38
                else
                  f_X8_send_107_p166 (f_X8_send_107_p97 n) x1 x2 x3 x4 v33 (M34 127 (((5 : Int32) * x3) + x2).toNatClampNeg) v37 M38
              else none
          else none
      else none) = some (v, M') := h
    by_cases g1 : x5 = 0
    · replace h := (if_pos g1).symm.trans h
      exact z_fr.refl.trans (R_X8_send_107_p243 h)
    · replace h := (if_neg g1).symm.trans h
      by_cases g2 : x3 = x2
      · replace h := (if_pos g2).symm.trans h
        exact z_fr.refl.trans (R_X8_send_107_p243 h)
      · replace h := (if_neg g2).symm.trans h
        obtain ⟨v33, M34, c3, h⟩ := z_bi_c h
        have q3 : z_fr w_X8_send_107 M M34 := z_fr.refl.sub (R_X8_slips_107 c3) (by decide)
        obtain ⟨g4, h⟩ := z_ifn h
        obtain ⟨v37, M38, c5, h⟩ := z_bi_c h
        have q5 : z_fr w_X8_send_107 M M38 := q3.sub (R_X8_elsewhere_107 c5) (by decide)
        by_cases g6 : v33 = 0
        · replace h := (if_pos g6).symm.trans h
          exact q5.trans (R_X8_send_107_p166 ih h)
        · replace h := (if_neg g6).symm.trans h
          obtain ⟨g7, h⟩ := z_ifn h
          by_cases g8 : (M38 110 x3.toNatClampNeg) = (3 : Int32)
          · replace h := (if_pos g8).symm.trans h
            exact q5.trans (R_X8_send_107_p170 ih h)
          · replace h := (if_neg g8).symm.trans h
            obtain ⟨g9, h⟩ := z_ifn h
            by_cases g10 : (M38 110 x3.toNatClampNeg) = (1 : Int32)
            · replace h := (if_pos g10).symm.trans h
              by_cases g11 : v37 = (-1 : Int32)
              · replace h := (if_pos g11).symm.trans h
                exact q5.trans (R_X8_send_107_p166 ih h)
              · replace h := (if_neg g11).symm.trans h
                exact q5.trans (R_X8_send_107_p170 ih h)
            · replace h := (if_neg g10).symm.trans h
              exact q5.trans (R_X8_send_107_p166 ih h)
theorem R_X8_send_107_p97 {n : Nat} {x1 : Int32} {x2 : Int32} {x3 : Int32} {x4 : Int32} {x5 : Int32} {M M' : zMM} {v : Int32} (h : f_X8_send_107_p97  n x1 x2 x3 x4 x5 M = some (v, M')) : z_fr w_X8_send_107 M M' := R0_X8_send_107_p97 _ _ _ _ _ _ _ _ _ h
theorem R_X8_send_107 {x1 : Int32} {x2 : Int32} {M M' : zMM} {v : Int32} (h : f_X8_send_107 x1 x2 M = some (v, M')) : z_fr w_X8_send_107 M M' := by
  replace h : (  z_bi (f_X8_isTrunk_107 x1 (z_up M 107 1 (0 : Int32))) fun v2 M3 =>
  if v2 = 0 then
    z_bi (f_X8_fail_107 (1 : Int32) M3) fun v6 M7 =>
    some (v6, M7)
  else
    z_bi (f_X8_isTown_107 x2 M3) fun v9 M10 =>
    if v9 = 0 then
      z_bi (f_X8_fail_107 (1 : Int32) M10) fun v13 M14 =>
      some (v13, M14)
    else
      if z_ib x1 5 = true then
        if (M10 107 29) < (M10 125 x1.toNatClampNeg) then
          f_X8_send_107_p64  M10
        else
          if z_ib x1 5 = true then
            if (M10 124 x1.toNatClampNeg) = x2 then
              f_X8_send_107_p64  M10
            else
              if z_ib x1 5 = true then
                z_bi (f_X8_hasWay_107 (M10 124 x1.toNatClampNeg) x2 M10) fun v21 M22 =>
                if v21 = 0 then
                  f_X8_send_107_p64  M22
                else
                  z_bv (f_X8_note_107 x1 M22) fun M26 =>
                  if z_ib x1 5 = true then
                    f_X8_send_107_p97 z_fuel x1 x2 (M26 124 x1.toNatClampNeg) (M26 107 29) (1 : Int32) M26
                  else none
              else none
          else none
      else none) = some (v, M') := h
  obtain ⟨v2, M3, c1, h⟩ := z_bi_c h
  have q1 : z_fr w_X8_send_107 M M3 := (z_fr.refl.up rfl).sub (R_X8_isTrunk_107 c1) (by decide)
  by_cases g2 : v2 = 0
  · replace h := (if_pos g2).symm.trans h
    obtain ⟨v6, M7, c3, h⟩ := z_bi_c h
    have q3 : z_fr w_X8_send_107 M M7 := q1.sub (R_X8_fail_107 c3) (by decide)
    cases h
    exact q3
  · replace h := (if_neg g2).symm.trans h
    obtain ⟨v9, M10, c4, h⟩ := z_bi_c h
    have q4 : z_fr w_X8_send_107 M M10 := q1.sub (R_X8_isTown_107 c4) (by decide)
    by_cases g5 : v9 = 0
    · replace h := (if_pos g5).symm.trans h
      obtain ⟨v13, M14, c6, h⟩ := z_bi_c h
      have q6 : z_fr w_X8_send_107 M M14 := q4.sub (R_X8_fail_107 c6) (by decide)
      cases h
      exact q6
    · replace h := (if_neg g5).symm.trans h
      obtain ⟨g7, h⟩ := z_ifn h
      by_cases g8 : (M10 107 29) < (M10 125 x1.toNatClampNeg)
      · replace h := (if_pos g8).symm.trans h
        exact q4.trans (R_X8_send_107_p64 h)
      · replace h := (if_neg g8).symm.trans h
        obtain ⟨g9, h⟩ := z_ifn h
        by_cases g10 : (M10 124 x1.toNatClampNeg) = x2
        · replace h := (if_pos g10).symm.trans h
          exact q4.trans (R_X8_send_107_p64 h)
        · replace h := (if_neg g10).symm.trans h
          obtain ⟨g11, h⟩ := z_ifn h
          obtain ⟨v21, M22, c12, h⟩ := z_bi_c h
          have q12 : z_fr w_X8_send_107 M M22 := q4.sub (R_X8_hasWay_107 c12) (by decide)
          by_cases g13 : v21 = 0
          · replace h := (if_pos g13).symm.trans h
            exact q12.trans (R_X8_send_107_p64 h)
          · replace h := (if_neg g13).symm.trans h
            obtain ⟨M26, c14, h⟩ := z_bv_c h
            have q14 : z_fr w_X8_send_107 M M26 := q12.sub (R_X8_note_107 c14) (by decide)
            obtain ⟨g15, h⟩ := z_ifn h
            exact q14.trans (R_X8_send_107_p97 h)
def w_X8_canBe_107 : zWs := ([], [])
theorem R0_X8_canBe_107_p25 : ∀ (n : Nat) (x2 : Int32) (x3 : Int32) (x4 : Int32) (x5 : Int32) (M M' : zMM) (v : Int32), f_X8_canBe_107_p25  n x2 x3 x4 x5 M = some (v, M') → z_fr w_X8_canBe_107 M M' := by
  intro n
  induction n with
  | zero => intro x2 x3 x4 x5 M M' v h; cases h
  | succ n ih =>
    intro x2 x3 x4 x5 M M' v h
    replace h : (  if (M 107 32) ≤ x5 then
    some ((1 : Int32), M)
  else
    if ((x2 >>> (x5 &&& 31)) &&& (1 : Int32)) = 0 then
      f_X8_canBe_107_p25 n x2 x3 x4 (x5 + (1 : Int32)) M
    else
      if z_ib x5 4 = true then
        if z_ib x5 4 = true then
          if (M 136 x5.toNatClampNeg) < (M 107 29) then
            some ((0 : Int32), M)
          else
            z_bi (f_X8_hasWay_107 x3 (M 137 x5.toNatClampNeg) M) fun v9 M10 =>
            if v9 = 0 then
              some ((0 : Int32), M10)
            else
              if z_ib (((5 : Int32) * x3) + (M 137 x5.toNatClampNeg)) 25 = true then
                if z_ib x5 4 = true then
                  if (x4 + (M10 126 (((5 : Int32) * x3) + (M 137 x5.toNatClampNeg)).toNatClampNeg)) ≤ (M10 136 x5.toNatClampNeg) then
                    if z_ib x5 4 = true then
                      f_X8_canBe_107_p25 n x2 (M 137 x5.toNatClampNeg) (M10 136 x5.toNatClampNeg) (x5 + (1 : Int32)) M10
                    else none
                  else
                    some ((0 : Int32), M10)
                else none
              else none
        else none
      else none) = some (v, M') := h
    by_cases g1 : (M 107 32) ≤ x5
    · replace h := (if_pos g1).symm.trans h
      cases h
      exact z_fr.refl
    · replace h := (if_neg g1).symm.trans h
      by_cases g2 : ((x2 >>> (x5 &&& 31)) &&& (1 : Int32)) = 0
      · replace h := (if_pos g2).symm.trans h
        exact z_fr.refl.trans (ih _ _ _ _ _ _ _ h)
      · replace h := (if_neg g2).symm.trans h
        obtain ⟨g3, h⟩ := z_ifn h
        obtain ⟨g4, h⟩ := z_ifn h
        by_cases g5 : (M 136 x5.toNatClampNeg) < (M 107 29)
        · replace h := (if_pos g5).symm.trans h
          cases h
          exact z_fr.refl
        · replace h := (if_neg g5).symm.trans h
          obtain ⟨v9, M10, c6, h⟩ := z_bi_c h
          have q6 : z_fr w_X8_canBe_107 M M10 := z_fr.refl.sub (R_X8_hasWay_107 c6) (by decide)
          by_cases g7 : v9 = 0
          · replace h := (if_pos g7).symm.trans h
            cases h
            exact q6
          · replace h := (if_neg g7).symm.trans h
            obtain ⟨g8, h⟩ := z_ifn h
            obtain ⟨g9, h⟩ := z_ifn h
            by_cases g10 : (x4 + (M10 126 (((5 : Int32) * x3) + (M 137 x5.toNatClampNeg)).toNatClampNeg)) ≤ (M10 136 x5.toNatClampNeg)
            · replace h := (if_pos g10).symm.trans h
              obtain ⟨g11, h⟩ := z_ifn h
              exact q6.trans (ih _ _ _ _ _ _ _ h)
            · replace h := (if_neg g10).symm.trans h
              cases h
              exact q6
theorem R_X8_canBe_107_p25 {n : Nat} {x2 : Int32} {x3 : Int32} {x4 : Int32} {x5 : Int32} {M M' : zMM} {v : Int32} (h : f_X8_canBe_107_p25  n x2 x3 x4 x5 M = some (v, M')) : z_fr w_X8_canBe_107 M M' := R0_X8_canBe_107_p25 _ _ _ _ _ _ _ _ h
theorem R_X8_canBe_107 {x1 : Int32} {x2 : Int32} {M M' : zMM} {v : Int32} (h : f_X8_canBe_107 x1 x2 M = some (v, M')) : z_fr w_X8_canBe_107 M M' := by
  replace h : (  if z_ib x1 5 = true then
    if z_ib x1 5 = true then
      f_X8_canBe_107_p25 z_fuel x2 (M 124 x1.toNatClampNeg) (z_max (M 107 29) (M 125 x1.toNatClampNeg)) (0 : Int32) M
    else none
  else none) = some (v, M') := h
  obtain ⟨g1, h⟩ := z_ifn h
  obtain ⟨g2, h⟩ := z_ifn h
  exact z_fr.refl.trans (R_X8_canBe_107_p25 h)
def w_X8_tourOn_107 : zWs := ([(107, 52)], [140, 141])
theorem R0_X8_tourOn_107_p127 {S : Int32 → Int32 → zMM → Option zMM}
    (hS : ∀ (a0 : Int32) (a1 : Int32) (M M' : zMM), S a0 a1 M = some M' → z_fr w_X8_tourOn_107 M M') : ∀ (n : Nat) (x1 : Int32) (x4 : Int32) (M M' : zMM) , f_X8_tourOn_107_p127 S n x1 x4 M = some M' → z_fr w_X8_tourOn_107 M M' := by
  intro n
  induction n with
  | zero => intro x1 x4 M M' h; cases h
  | succ n ih =>
    intro x1 x4 M M' h
    replace h : (  if x1 ≤ x4 then
    some M
  else
    if z_ib x4 5 = true then
      if z_ib x4 5 = true then
        f_X8_tourOn_107_p127 S n x1 (x4 + (1 : Int32)) (z_up M 141 x4.toNatClampNeg (M 140 x4.toNatClampNeg))
      else none
    else none) = some M' := h
    by_cases g1 : x1 ≤ x4
    · replace h := (if_pos g1).symm.trans h
      cases h
      exact z_fr.refl
    · replace h := (if_neg g1).symm.trans h
      obtain ⟨g2, h⟩ := z_ifn h
      obtain ⟨g3, h⟩ := z_ifn h
      exact (z_fr.refl.up rfl).trans (ih _ _ _ _ h)
theorem R_X8_tourOn_107_p127 {S : Int32 → Int32 → zMM → Option zMM}
    (hS : ∀ (a0 : Int32) (a1 : Int32) (M M' : zMM), S a0 a1 M = some M' → z_fr w_X8_tourOn_107 M M') {n : Nat} {x1 : Int32} {x4 : Int32} {M M' : zMM} (h : f_X8_tourOn_107_p127 S n x1 x4 M = some M') : z_fr w_X8_tourOn_107 M M' := R0_X8_tourOn_107_p127 hS _ _ _ _ _ h
theorem R0_X8_tourOn_107_p30 {S : Int32 → Int32 → zMM → Option zMM} {K15 : Int32 → Int32 → Int32 → zMM → Option zMM}
    (hS : ∀ (a0 : Int32) (a1 : Int32) (M M' : zMM), S a0 a1 M = some M' → z_fr w_X8_tourOn_107 M M')
    (hK15 : ∀ (a0 : Int32) (a1 : Int32) (a2 : Int32) (M M' : zMM), K15 a0 a1 a2 M = some M' → z_fr w_X8_tourOn_107 M M') : ∀ (n : Nat) (x1 : Int32) (x3 : Int32) (x4 : Int32) (x5 : Int32) (x6 : Int32) (M M' : zMM) , f_X8_tourOn_107_p30 S K15 n x1 x3 x4 x5 x6 M = some M' → z_fr w_X8_tourOn_107 M M' := by
  intro n
  induction n with
  | zero => intro x1 x3 x4 x5 x6 M M' h; cases h
  | succ n ih =>
    intro x1 x3 x4 x5 x6 M M' h
    replace h : (  if x1 ≤ x6 then
    if z_ib (((32 : Int32) * x4) + x5) 128 = true then
      if (M 139 (((32 : Int32) * x4) + x5).toNatClampNeg) = (-1 : Int32) then
        some M
      else
        if z_ib (((32 : Int32) * x4) + x5) 128 = true then
          K15 x1 (x3 + (M 139 (((32 : Int32) * x4) + x5).toNatClampNeg)) (x4 + (1 : Int32)) M
        else none
    else none
  else
    if z_ib x6 5 = true then
      f_X8_tourOn_107_p30 S K15 n x1 x3 x4 (x5 ||| ((((M 140 x6.toNatClampNeg) >>> (x4 &&& 31)) &&& (1 : Int32)) <<< (x6 &&& 31))) (x6 + (1 : Int32)) M
    else none) = some M' := h
    by_cases g1 : x1 ≤ x6
    · replace h := (if_pos g1).symm.trans h
      obtain ⟨g2, h⟩ := z_ifn h
      by_cases g3 : (M 139 (((32 : Int32) * x4) + x5).toNatClampNeg) = (-1 : Int32)
      · replace h := (if_pos g3).symm.trans h
        cases h
        exact z_fr.refl
      · replace h := (if_neg g3).symm.trans h
        obtain ⟨g4, h⟩ := z_ifn h
        exact z_fr.refl.trans (hK15 _ _ _ _ _ h)
    · replace h := (if_neg g1).symm.trans h
      obtain ⟨g5, h⟩ := z_ifn h
      exact z_fr.refl.trans (ih _ _ _ _ _ _ _ h)
theorem R_X8_tourOn_107_p30 {S : Int32 → Int32 → zMM → Option zMM} {K15 : Int32 → Int32 → Int32 → zMM → Option zMM}
    (hS : ∀ (a0 : Int32) (a1 : Int32) (M M' : zMM), S a0 a1 M = some M' → z_fr w_X8_tourOn_107 M M')
    (hK15 : ∀ (a0 : Int32) (a1 : Int32) (a2 : Int32) (M M' : zMM), K15 a0 a1 a2 M = some M' → z_fr w_X8_tourOn_107 M M') {n : Nat} {x1 : Int32} {x3 : Int32} {x4 : Int32} {x5 : Int32} {x6 : Int32} {M M' : zMM} (h : f_X8_tourOn_107_p30 S K15 n x1 x3 x4 x5 x6 M = some M') : z_fr w_X8_tourOn_107 M M' := R0_X8_tourOn_107_p30 hS hK15 _ _ _ _ _ _ _ _ h
theorem R0_X8_tourOn_107_p15 {S : Int32 → Int32 → zMM → Option zMM}
    (hS : ∀ (a0 : Int32) (a1 : Int32) (M M' : zMM), S a0 a1 M = some M' → z_fr w_X8_tourOn_107 M M') : ∀ (n : Nat) (x1 : Int32) (x3 : Int32) (x4 : Int32) (M M' : zMM) , f_X8_tourOn_107_p15 S n x1 x3 x4 M = some M' → z_fr w_X8_tourOn_107 M M' := by
  intro n
  induction n with
  | zero => intro x1 x3 x4 M M' h; cases h
  | succ n ih =>
    intro x1 x3 x4 M M' h
    replace h : (  if (M 107 32) ≤ x4 then
    if (M 107 52) = (-1 : Int32) then
      f_X8_tourOn_107_p127 S z_fuel x1 (0 : Int32) (z_up M 107 52 x3)
    else
      if x3 < (M 107 52) then
        f_X8_tourOn_107_p127 S z_fuel x1 (0 : Int32) (z_up M 107 52 x3)
      else
        some M
  else
    f_X8_tourOn_107_p30 S (f_X8_tourOn_107_p15 S n) z_fuel x1 x3 x4 (0 : Int32) (0 : Int32) M) = some M' := h
    by_cases g1 : (M 107 32) ≤ x4
    · replace h := (if_pos g1).symm.trans h
      by_cases g2 : (M 107 52) = (-1 : Int32)
      · replace h := (if_pos g2).symm.trans h
        exact (z_fr.refl.up rfl).trans (R_X8_tourOn_107_p127 hS h)
      · replace h := (if_neg g2).symm.trans h
        by_cases g3 : x3 < (M 107 52)
        · replace h := (if_pos g3).symm.trans h
          exact (z_fr.refl.up rfl).trans (R_X8_tourOn_107_p127 hS h)
        · replace h := (if_neg g3).symm.trans h
          cases h
          exact z_fr.refl
    · replace h := (if_neg g1).symm.trans h
      exact z_fr.refl.trans (R_X8_tourOn_107_p30 hS ih h)
theorem R_X8_tourOn_107_p15 {S : Int32 → Int32 → zMM → Option zMM}
    (hS : ∀ (a0 : Int32) (a1 : Int32) (M M' : zMM), S a0 a1 M = some M' → z_fr w_X8_tourOn_107 M M') {n : Nat} {x1 : Int32} {x3 : Int32} {x4 : Int32} {M M' : zMM} (h : f_X8_tourOn_107_p15 S n x1 x3 x4 M = some M') : z_fr w_X8_tourOn_107 M M' := R0_X8_tourOn_107_p15 hS _ _ _ _ _ _ h
theorem R_X8_tourOn_107_p172 {S : Int32 → Int32 → zMM → Option zMM} {K156 : Int32 → Int32 → Int32 → zMM → Option zMM} {x1 : Int32} {x2 : Int32} {x3 : Int32} {a0 : Int32} {a1 : Int32}
    (hS : ∀ (a0 : Int32) (a1 : Int32) (M M' : zMM), S a0 a1 M = some M' → z_fr w_X8_tourOn_107 M M')
    (hK156 : ∀ (a0 : Int32) (a1 : Int32) (a2 : Int32) (M M' : zMM), K156 a0 a1 a2 M = some M' → z_fr w_X8_tourOn_107 M M') {M M' : zMM} (h : f_X8_tourOn_107_p172 S K156 x1 x2 x3 a0 a1 M = some M') : z_fr w_X8_tourOn_107 M M' := by
  replace h : (  if a0 ≤ a1 then
    some M
  else
    z_bi (f_X8_canBe_107 x1 x3 M) fun v16 M17 =>
    if v16 = 0 then
      K156 x1 x2 (x3 + (1 : Int32)) M17
    else
      if z_ib x1 5 = true then
        z_bv (S (x1 + (1 : Int32)) x2 (z_up M17 140 x1.toNatClampNeg x3)) fun M22 =>
        K156 x1 x2 (x3 + (1 : Int32)) M22
      else none) = some M' := h
  by_cases g1 : a0 ≤ a1
  · replace h := (if_pos g1).symm.trans h
    cases h
    exact z_fr.refl
  · replace h := (if_neg g1).symm.trans h
    obtain ⟨v16, M17, c2, h⟩ := z_bi_c h
    have q2 : z_fr w_X8_tourOn_107 M M17 := z_fr.refl.sub (R_X8_canBe_107 c2) (by decide)
    by_cases g3 : v16 = 0
    · replace h := (if_pos g3).symm.trans h
      exact q2.trans (hK156 _ _ _ _ _ h)
    · replace h := (if_neg g3).symm.trans h
      obtain ⟨g4, h⟩ := z_ifn h
      obtain ⟨M22, c5, h⟩ := z_bv_c h
      have q5 : z_fr w_X8_tourOn_107 M M22 := (q2.up rfl).trans (hS _ _ _ _ c5)
      exact q5.trans (hK156 _ _ _ _ _ h)
theorem R0_X8_tourOn_107_p156 {S : Int32 → Int32 → zMM → Option zMM}
    (hS : ∀ (a0 : Int32) (a1 : Int32) (M M' : zMM), S a0 a1 M = some M' → z_fr w_X8_tourOn_107 M M') : ∀ (n : Nat) (x1 : Int32) (x2 : Int32) (x3 : Int32) (M M' : zMM) , f_X8_tourOn_107_p156 S n x1 x2 x3 M = some M' → z_fr w_X8_tourOn_107 M M' := by
  intro n
  induction n with
  | zero => intro x1 x2 x3 M M' h; cases h
  | succ n ih =>
    intro x1 x2 x3 M M' h
    replace h : (  if x1 = x2 then
    f_X8_tourOn_107_p172 S (f_X8_tourOn_107_p156 S n) x1 x2 x3 (1 : Int32) x3 M
  else
    f_X8_tourOn_107_p172 S (f_X8_tourOn_107_p156 S n) x1 x2 x3 ((1 : Int32) <<< ((M 107 32) &&& 31)) x3 M) = some M' := h
    by_cases g1 : x1 = x2
    · replace h := (if_pos g1).symm.trans h
      exact z_fr.refl.trans (R_X8_tourOn_107_p172 hS ih h)
    · replace h := (if_neg g1).symm.trans h
      exact z_fr.refl.trans (R_X8_tourOn_107_p172 hS ih h)
theorem R_X8_tourOn_107_p156 {S : Int32 → Int32 → zMM → Option zMM}
    (hS : ∀ (a0 : Int32) (a1 : Int32) (M M' : zMM), S a0 a1 M = some M' → z_fr w_X8_tourOn_107 M M') {n : Nat} {x1 : Int32} {x2 : Int32} {x3 : Int32} {M M' : zMM} (h : f_X8_tourOn_107_p156 S n x1 x2 x3 M = some M') : z_fr w_X8_tourOn_107 M M' := R0_X8_tourOn_107_p156 hS _ _ _ _ _ _ h
theorem R0_X8_tourOn_107 : ∀ (D : Nat) (x1 : Int32) (x2 : Int32) (M M' : zMM) , f_X8_tourOn_107  D x1 x2 M = some M' → z_fr w_X8_tourOn_107 M M' := by
  intro D
  induction D with
  | zero => intro x1 x2 M M' h; cases h
  | succ D ihD =>
    intro x1 x2 M M' h
    replace h : (  if x1 = (M 109 1) then
    f_X8_tourOn_107_p15 (f_X8_tourOn_107 D) z_fuel x1 (0 : Int32) (0 : Int32) M
  else
    f_X8_tourOn_107_p156 (f_X8_tourOn_107 D) z_fuel x1 x2 (0 : Int32) M) = some M' := h
    by_cases g1 : x1 = (M 109 1)
    · replace h := (if_pos g1).symm.trans h
      exact z_fr.refl.trans (R_X8_tourOn_107_p15 ihD h)
    · replace h := (if_neg g1).symm.trans h
      exact z_fr.refl.trans (R_X8_tourOn_107_p156 ihD h)
theorem R_X8_tourOn_107 {D : Nat} {x1 : Int32} {x2 : Int32} {M M' : zMM} (h : f_X8_tourOn_107  D x1 x2 M = some M') : z_fr w_X8_tourOn_107 M M' := R0_X8_tourOn_107 _ _ _ _ _ h
