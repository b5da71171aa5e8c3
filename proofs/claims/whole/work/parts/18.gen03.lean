/-! X5_clear 66 -/
def f_X5_clear_66_p44 : Nat → Int32 → zMM → Option zMM
  | 0, _, _ => none
  | n + 1, x1, M =>
  if (20 : Int32) ≤ x1 then
    some M
  else
    z_bv (some (z_pt M 78 400 ((x1 * (20 : Int32)) + x1) (0 : Int32))) fun M7 =>
    f_X5_clear_66_p44 n (x1 + (1 : Int32)) M7
def f_X5_clear_66  (M : zMM) : Option zMM :=
  z_bv (some (z_fl (z_up (z_up (z_up (z_up (z_up M 66 0 (0 : Int32)) 66 6 (0 : Int32)) 66 8 (0 : Int32)) 66 11 (0 : Int32)) 66 16 (11 : Int32)) 71 0 25 (-1 : Int32))) fun M2 =>
  z_bv (some (z_fl M2 78 0 400 (-1 : Int32))) fun M4 =>
  f_X5_clear_66_p44 z_fuel (0 : Int32) M4
theorem A_X5_clear_66_p44 {l : Launch} (hl : l.stackTraces = false) {Ls d : Nat} {Lm : zML} :
    ∀ (n : Nat) (x1 : Int32) (M M' : zMM) , f_X5_clear_66_p44 n x1 M = some M' → z_AW l mX5_clear (d + 1) 0 0 44 [.ref 66, .int x1] [] (z_L0 Ls, M, Lm) (.inl none) (z_L0 Ls, M', Lm) := by
  intro n
  induction n with
  | zero => intro x1 M M' h; cases h
  | succ n ih =>
    intro x1 M M' h
    replace h : (  if (20 : Int32) ≤ x1 then
    some M
  else
    z_bv (some (z_pt M 78 400 ((x1 * (20 : Int32)) + x1) (0 : Int32))) fun M7 =>
    f_X5_clear_66_p44 n (x1 + (1 : Int32)) M7) = some M' := h
    refine z_iload_n dX5_clear_44 rfl ?_
    refine z_bp kb_p20 dX5_clear_45 ?_
    refine z_icmp_ge (tgt := 70) dX5_clear_47 rfl (fun g5 => ?_) (fun g5 => ?_)
    · replace h := (if_pos g5).symm.trans h
      cases h
      exact z_return dX5_clear_70 rfl
    · replace h := (if_neg g5).symm.trans h
      refine z_aload_n dX5_clear_50 rfl ?_
      refine z_getR (q := 78) fl_X5_45 dX5_clear_51 en_66 rfl ?_
      refine z_iload_n dX5_clear_54 rfl ?_
      refine z_bp kb_p20 dX5_clear_55 ?_
      refine z_imul dX5_clear_57 ?_
      refine z_iload_n dX5_clear_58 rfl ?_
      refine z_iadd dX5_clear_59 ?_
      refine z_ic kc_p0 dX5_clear_60 ?_
      obtain ⟨M7, c6, h⟩ := z_bv_c h
      refine z_cN (av := [.ref 78, .int ((x1 * (20 : Int32)) + x1), .int (0 : Int32)]) (st := []) lk_X5_73 dX5_clear_61 (z_Ct.to (A_X7_put (d := d + 0) hl (by decide) (by decide) en_78) c6) rfl rfl (Nat.le_of_ble_eq_true rfl) rfl z_len rfl rfl ?_
      refine z_ii (ls' := [.ref 66, .int (x1 + (1 : Int32))]) kc_p1 dX5_clear_64 rfl (by decide) rfl ?_
      refine z_goto (tgt := 44) dX5_clear_67 rfl ?_
      exact ih (x1 + (1 : Int32)) _ _ h
theorem A_X5_clear_66 {l : Launch} (hl : l.stackTraces = false) {Ls d : Nat} {Lm : zML}  {M M' : zMM} (h : f_X5_clear_66  M = some M') : z_Ct l mX5_clear (d + 1) 0 0 [.ref 66] (z_L0 Ls, M, Lm) (.inl none) (z_L0 Ls, M', Lm) := by
  replace h : (  z_bv (some (z_fl (z_up (z_up (z_up (z_up (z_up M 66 0 (0 : Int32)) 66 6 (0 : Int32)) 66 8 (0 : Int32)) 66 11 (0 : Int32)) 66 16 (11 : Int32)) 71 0 25 (-1 : Int32))) fun M2 =>
  z_bv (some (z_fl M2 78 0 400 (-1 : Int32))) fun M4 =>
  f_X5_clear_66_p44 z_fuel (0 : Int32) M4) = some M' := h
  refine z_Ct.of hl (by decide) (Nat.le_of_ble_eq_true rfl) rfl ?_
  show z_AW l mX5_clear (d + 1) 0 0 0 [.ref 66, .null] [] (z_L0 Ls, M, Lm) (.inl none) (z_L0 Ls, M', Lm)
  refine z_aload_n dX5_clear_0 rfl ?_
  refine z_ic kc_p0 dX5_clear_1 ?_
  refine z_pI fp_X5_51 dX5_clear_2 (by decide) en_66 rfl ?_
  refine z_aload_n dX5_clear_5 rfl ?_
  refine z_ic kc_p0 dX5_clear_6 ?_
  refine z_pI fp_X5_55 dX5_clear_7 (by decide) en_66 rfl ?_
  refine z_aload_n dX5_clear_10 rfl ?_
  refine z_ic kc_p0 dX5_clear_11 ?_
  refine z_pI fp_X5_58 dX5_clear_12 (by decide) en_66 rfl ?_
  refine z_aload_n dX5_clear_15 rfl ?_
  refine z_ic kc_p0 dX5_clear_16 ?_
  refine z_pI fp_X5_61 dX5_clear_17 (by decide) en_66 rfl ?_
  refine z_aload_n dX5_clear_20 rfl ?_
  refine z_bp kb_p11 dX5_clear_21 ?_
  refine z_pI fp_X5_64 dX5_clear_23 (by decide) en_66 rfl ?_
  refine z_aload_n dX5_clear_26 rfl ?_
  refine z_getR (q := 71) fl_X5_24 dX5_clear_27 en_66 rfl ?_
  refine z_ic kc_m1 dX5_clear_30 ?_
  obtain ⟨M2, c1, h⟩ := z_bv_c h
  refine z_cS (av := [.ref 71, .int (-1 : Int32)]) (st := []) lk_X5_67 dX5_clear_31 (z_Ct.to (A_J7_fill_53178 (d := d + 0) hl (by decide) (by decide) en_71) c1) rfl rfl (Nat.le_of_ble_eq_true rfl) rfl z_len rfl rfl ?_
  refine z_aload_n dX5_clear_34 rfl ?_
  refine z_getR (q := 78) fl_X5_45 dX5_clear_35 en_66 rfl ?_
  refine z_ic kc_m1 dX5_clear_38 ?_
  obtain ⟨M4, c3, h⟩ := z_bv_c h
  refine z_cS (av := [.ref 78, .int (-1 : Int32)]) (st := []) lk_X5_67 dX5_clear_39 (z_Ct.to (A_J7_fill_53178 (d := d + 0) hl (by decide) (by decide) en_78) c3) rfl rfl (Nat.le_of_ble_eq_true rfl) rfl z_len rfl rfl ?_
  refine z_ic kc_p0 dX5_clear_42 ?_
  refine z_istore_n (ls' := [.ref 66, .int (0 : Int32)]) dX5_clear_43 (by decide) rfl ?_
  exact A_X5_clear_66_p44 hl z_fuel (0 : Int32) _ _ h
/-! X3_byteAt 79 -/
def f_X3_byteAt_79 (x1 : Int32) (M : zMM) : Option (Int32 × zMM) :=
  if x1 < 0 then
    some ((-1 : Int32), M)
  else
    if (700 : Int32) ≤ x1 then
      some ((-1 : Int32), M)
    else
      if z_ib x1 700 = true then
        some ((M 52 x1.toNatClampNeg), M)
      else none
theorem A_X3_byteAt_79 {l : Launch} (hl : l.stackTraces = false) {Ls d : Nat} {Lm : zML} {x1 : Int32} {M M' : zMM} {v : Int32} (h : f_X3_byteAt_79 x1 M = some (v, M')) : z_Ct l mX3_byteAt (d + 0) 0 0 [.ref 79, .int x1] (z_L0 Ls, M, Lm) (.inl (some (.int v))) (z_L0 Ls, M', Lm) := by
  replace h : (  if x1 < 0 then
    some ((-1 : Int32), M)
  else
    if (700 : Int32) ≤ x1 then
      some ((-1 : Int32), M)
    else
      if z_ib x1 700 = true then
        some ((M 52 x1.toNatClampNeg), M)
      else none) = some (v, M') := h
  refine z_Ct.of hl (by decide) (Nat.le_of_ble_eq_true rfl) rfl ?_
  show z_AW l mX3_byteAt (d + 0) 0 0 0 [.ref 79, .int x1] [] (z_L0 Ls, M, Lm) (.inl (some (.int v))) (z_L0 Ls, M', Lm)
  refine z_iload_n dX3_byteAt_0 rfl ?_
  refine z_if_lt (tgt := 22) dX3_byteAt_1 rfl (fun g1 => ?_) (fun g1 => ?_)
  · replace h := (if_pos g1).symm.trans h
    refine z_ic kc_m1 dX3_byteAt_22 ?_
    cases h
    exact z_rI dX3_byteAt_23 rfl
  · replace h := (if_neg g1).symm.trans h
    refine z_iload_n dX3_byteAt_4 rfl ?_
    refine z_aload_n dX3_byteAt_5 rfl ?_
    refine z_getR (q := 52) fl_X3_40 dX3_byteAt_6 en_79 rfl ?_
    refine z_al9 dX3_byteAt_9 en_52 (by decide) ka_p700 ?_
    refine z_icmp_ge (tgt := 22) dX3_byteAt_10 rfl (fun g2 => ?_) (fun g2 => ?_)
    · replace h := (if_pos g2).symm.trans h
      refine z_ic kc_m1 dX3_byteAt_22 ?_
      cases h
      exact z_rI dX3_byteAt_23 rfl
    · replace h := (if_neg g2).symm.trans h
      refine z_aload_n dX3_byteAt_13 rfl ?_
      refine z_getR (q := 52) fl_X3_40 dX3_byteAt_14 en_79 rfl ?_
      refine z_iload_n dX3_byteAt_17 rfl ?_
      obtain ⟨g3, h⟩ := z_ifn h
      refine z_bl (v := (M 52 x1.toNatClampNeg)) dX3_byteAt_18 en_52 rfl (z_ib_in g3) rfl ?_
      refine z_goto (tgt := 23) dX3_byteAt_19 rfl ?_
      cases h
      exact z_rI dX3_byteAt_23 rfl
/-! X3_isLetter  -/
def f_X3_isLetter (x0 : Int32) (M : zMM) : Option (Int32 × zMM) :=
  if x0 < (97 : Int32) then
    some ((0 : Int32), M)
  else
    if (122 : Int32) < x0 then
      some ((0 : Int32), M)
    else
      some ((1 : Int32), M)
theorem A_X3_isLetter {l : Launch} (hl : l.stackTraces = false) {Ls d : Nat} {Lm : zML} {x0 : Int32} {M M' : zMM} {v : Int32} (h : f_X3_isLetter x0 M = some (v, M')) : z_Ct l mX3_isLetter (d + 0) 0 0 [.int x0] (z_L0 Ls, M, Lm) (.inl (some (.int v))) (z_L0 Ls, M', Lm) := by
  replace h : (  if x0 < (97 : Int32) then
    some ((0 : Int32), M)
  else
    if (122 : Int32) < x0 then
      some ((0 : Int32), M)
    else
      some ((1 : Int32), M)) = some (v, M') := h
  refine z_Ct.of hl (by decide) (Nat.le_of_ble_eq_true rfl) rfl ?_
  show z_AW l mX3_isLetter (d + 0) 0 0 0 [.int x0] [] (z_L0 Ls, M, Lm) (.inl (some (.int v))) (z_L0 Ls, M', Lm)
  refine z_iload_n dX3_isLetter_0 rfl ?_
  refine z_bp kb_p97 dX3_isLetter_1 ?_
  refine z_icmp_lt (tgt := 16) dX3_isLetter_3 rfl (fun g1 => ?_) (fun g1 => ?_)
  · replace h := (if_pos g1).symm.trans h
    refine z_ic kc_p0 dX3_isLetter_16 ?_
    cases h
    exact z_rZ dX3_isLetter_17 rfl rfl
  · replace h := (if_neg g1).symm.trans h
    refine z_iload_n dX3_isLetter_6 rfl ?_
    refine z_bp kb_p122 dX3_isLetter_7 ?_
    refine z_icmp_gt (tgt := 16) dX3_isLetter_9 rfl (fun g2 => ?_) (fun g2 => ?_)
    · replace h := (if_pos g2).symm.trans h
      refine z_ic kc_p0 dX3_isLetter_16 ?_
      cases h
      exact z_rZ dX3_isLetter_17 rfl rfl
    · replace h := (if_neg g2).symm.trans h
      refine z_ic kc_p1 dX3_isLetter_12 ?_
      refine z_goto (tgt := 17) dX3_isLetter_13 rfl ?_
      cases h
      exact z_rZ dX3_isLetter_17 rfl rfl
/-! X3_isDigit  -/
def f_X3_isDigit (x0 : Int32) (M : zMM) : Option (Int32 × zMM) :=
  if x0 < (48 : Int32) then
    some ((0 : Int32), M)
  else
    if (57 : Int32) < x0 then
      some ((0 : Int32), M)
    else
      some ((1 : Int32), M)
theorem A_X3_isDigit {l : Launch} (hl : l.stackTraces = false) {Ls d : Nat} {Lm : zML} {x0 : Int32} {M M' : zMM} {v : Int32} (h : f_X3_isDigit x0 M = some (v, M')) : z_Ct l mX3_isDigit (d + 0) 0 0 [.int x0] (z_L0 Ls, M, Lm) (.inl (some (.int v))) (z_L0 Ls, M', Lm) := by
  replace h : (  if x0 < (48 : Int32) then
    some ((0 : Int32), M)
  else
    if (57 : Int32) < x0 then
      some ((0 : Int32), M)
    else
      some ((1 : Int32), M)) = some (v, M') := h
  refine z_Ct.of hl (by decide) (Nat.le_of_ble_eq_true rfl) rfl ?_
  show z_AW l mX3_isDigit (d + 0) 0 0 0 [.int x0] [] (z_L0 Ls, M, Lm) (.inl (some (.int v))) (z_L0 Ls, M', Lm)
  refine z_iload_n dX3_isDigit_0 rfl ?_
  refine z_bp kb_p48 dX3_isDigit_1 ?_
  refine z_icmp_lt (tgt := 16) dX3_isDigit_3 rfl (fun g1 => ?_) (fun g1 => ?_)
  · replace h := (if_pos g1).symm.trans h
    refine z_ic kc_p0 dX3_isDigit_16 ?_
    cases h
    exact z_rZ dX3_isDigit_17 rfl rfl
  · replace h := (if_neg g1).symm.trans h
    refine z_iload_n dX3_isDigit_6 rfl ?_
    refine z_bp kb_p57 dX3_isDigit_7 ?_
    refine z_icmp_gt (tgt := 16) dX3_isDigit_9 rfl (fun g2 => ?_) (fun g2 => ?_)
    · replace h := (if_pos g2).symm.trans h
      refine z_ic kc_p0 dX3_isDigit_16 ?_
      cases h
      exact z_rZ dX3_isDigit_17 rfl rfl
    · replace h := (if_neg g2).symm.trans h
      refine z_ic kc_p1 dX3_isDigit_12 ?_
      refine z_goto (tgt := 17) dX3_isDigit_13 rfl ?_
      cases h
      exact z_rZ dX3_isDigit_17 rfl rfl
/-! X3_isBlank  -/
def f_X3_isBlank (x0 : Int32) (M : zMM) : Option (Int32 × zMM) :=
  if x0 = (32 : Int32) then
    some ((1 : Int32), M)
  else
    if x0 = (10 : Int32) then
      some ((1 : Int32), M)
    else
      some ((0 : Int32), M)
theorem A_X3_isBlank {l : Launch} (hl : l.stackTraces = false) {Ls d : Nat} {Lm : zML} {x0 : Int32} {M M' : zMM} {v : Int32} (h : f_X3_isBlank x0 M = some (v, M')) : z_Ct l mX3_isBlank (d + 0) 0 0 [.int x0] (z_L0 Ls, M, Lm) (.inl (some (.int v))) (z_L0 Ls, M', Lm) := by
  replace h : (  if x0 = (32 : Int32) then
    some ((1 : Int32), M)
  else
    if x0 = (10 : Int32) then
      some ((1 : Int32), M)
    else
      some ((0 : Int32), M)) = some (v, M') := h
  refine z_Ct.of hl (by decide) (Nat.le_of_ble_eq_true rfl) rfl ?_
  show z_AW l mX3_isBlank (d + 0) 0 0 0 [.int x0] [] (z_L0 Ls, M, Lm) (.inl (some (.int v))) (z_L0 Ls, M', Lm)
  refine z_iload_n dX3_isBlank_0 rfl ?_
  refine z_bp kb_p32 dX3_isBlank_1 ?_
  refine z_icmp_eq (tgt := 12) dX3_isBlank_3 rfl (fun g1 => ?_) (fun g1 => ?_)
  · replace h := (if_pos g1).symm.trans h
    refine z_ic kc_p1 dX3_isBlank_12 ?_
    refine z_goto (tgt := 17) dX3_isBlank_13 rfl ?_
    cases h
    exact z_rZ dX3_isBlank_17 rfl rfl
  · replace h := (if_neg g1).symm.trans h
    refine z_iload_n dX3_isBlank_6 rfl ?_
    refine z_bp kb_p10 dX3_isBlank_7 ?_
    refine z_icmp_ne (tgt := 16) dX3_isBlank_9 rfl (fun g2 => ?_) (fun g2 => ?_)
    · replace h := (if_pos g2).symm.trans h
      refine z_ic kc_p1 dX3_isBlank_12 ?_
      refine z_goto (tgt := 17) dX3_isBlank_13 rfl ?_
      cases h
      exact z_rZ dX3_isBlank_17 rfl rfl
    · replace h := (if_neg g2).symm.trans h
      refine z_ic kc_p0 dX3_isBlank_16 ?_
      cases h
      exact z_rZ dX3_isBlank_17 rfl rfl
/-! X3_step 79 -/
def f_X3_step_79_p141 : Nat → zMM → Option zMM
  | 0, _ => none
  | n + 1, M =>
  if (M 79 2) ≤ (M 79 5) then
    some M
  else
    z_bi (f_X3_byteAt_79 (M 79 5) M) fun v17 M18 =>
    z_bi (f_X3_isDigit v17 M18) fun v20 M21 =>
    if v20 = 0 then
      some M21
    else
      if (4 : Int32) ≤ ((M21 79 5) - (M21 79 4)) then
        f_X3_step_79_p141 n  (z_up (z_up M21 79 6 (M21 79 6)) 79 5 ((M21 79 5) + (1 : Int32)))
      else
        z_bi (f_X3_byteAt_79 (M21 79 5) M21) fun v25 M26 =>
        f_X3_step_79_p141 n  (z_up (z_up M26 79 6 ((((M21 79 6) * (10 : Int32)) + v25) - (48 : Int32))) 79 5 ((M26 79 5) + (1 : Int32)))
def f_X3_step_79_p91 : Nat → zMM → Option zMM
  | 0, _ => none
  | n + 1, M =>
  if (M 79 2) ≤ (M 79 5) then
    some M
  else
    z_bi (f_X3_byteAt_79 (M 79 5) M) fun v29 M30 =>
    z_bi (f_X3_isLetter v29 M30) fun v32 M33 =>
    if v32 = 0 then
      some M33
    else
      f_X3_step_79_p91 n  (z_up M33 79 5 ((M33 79 5) + (1 : Int32)))
def f_X3_step_79_p38 (M : zMM) : Option zMM :=
  z_bi (f_X3_byteAt_79 (M 79 5) (z_up M 79 4 (M 79 5))) fun v3 M4 =>
  if (M4 79 5) < (M4 79 2) then
    z_bi (f_X3_isLetter v3 (z_up M4 79 6 (0 : Int32))) fun v7 M8 =>
    if v7 = 0 then
      z_bi (f_X3_isDigit v3 M8) fun v11 M12 =>
      if v11 = 0 then
        if v3 = (59 : Int32) then
          some (z_up (z_up M12 79 3 (3 : Int32)) 79 5 ((M12 79 5) + (1 : Int32)))
        else
          some (z_up (z_up M12 79 3 (4 : Int32)) 79 5 ((M12 79 5) + (1 : Int32)))
      else
        f_X3_step_79_p141 z_fuel  (z_up M12 79 3 (2 : Int32))
    else
      f_X3_step_79_p91 z_fuel  (z_up M8 79 3 (1 : Int32))
  else
    some (z_up (z_up M4 79 6 (0 : Int32)) 79 3 (0 : Int32))
def f_X3_step_79_p0 : Nat → zMM → Option zMM
  | 0, _ => none
  | n + 1, M =>
  if (M 79 2) ≤ (M 79 5) then
    f_X3_step_79_p38  M
  else
    z_bi (f_X3_byteAt_79 (M 79 5) M) fun v36 M37 =>
    z_bi (f_X3_isBlank v36 M37) fun v39 M40 =>
    if v39 = 0 then
      f_X3_step_79_p38  M40
    else
      f_X3_step_79_p0 n  (z_up M40 79 5 ((M40 79 5) + (1 : Int32)))
def f_X3_step_79  (M : zMM) : Option zMM :=
  f_X3_step_79_p0 z_fuel  M
theorem A_X3_step_79_p141 {l : Launch} (hl : l.stackTraces = false) {Ls d : Nat} {Lm : zML} :
    ∀ (n : Nat) (M M' : zMM) , f_X3_step_79_p141 n  M = some M' → z_AW l mX3_step (d + 1) 0 0 141 [.ref 79, .null] [] (z_L0 Ls, M, Lm) (.inl none) (z_L0 Ls, M', Lm) := by
  intro n
  induction n with
  | zero => intro  M M' h; cases h
  | succ n ih =>
    intro  M M' h
    replace h : (  if (M 79 2) ≤ (M 79 5) then
    some M
  else
    z_bi (f_X3_byteAt_79 (M 79 5) M) fun v17 M18 =>
    z_bi (f_X3_isDigit v17 M18) fun v20 M21 =>
    if v20 = 0 then
      some M21
    else
      if (4 : Int32) ≤ ((M21 79 5) - (M21 79 4)) then
        f_X3_step_79_p141 n  (z_up (z_up M21 79 6 (M21 79 6)) 79 5 ((M21 79 5) + (1 : Int32)))
      else
        z_bi (f_X3_byteAt_79 (M21 79 5) M21) fun v25 M26 =>
        f_X3_step_79_p141 n  (z_up (z_up M26 79 6 ((((M21 79 6) * (10 : Int32)) + v25) - (48 : Int32))) 79 5 ((M26 79 5) + (1 : Int32)))) = some M' := h
    refine z_aload_n dX3_step_141 rfl ?_
    refine z_gI (v := (M 79 5)) fl_X3_21 dX3_step_142 en_79 rfl rfl ?_
    refine z_aload_n dX3_step_145 rfl ?_
    refine z_gI (v := (M 79 2)) fl_X3_9 dX3_step_146 en_79 rfl rfl ?_
    refine z_icmp_ge (tgt := 247) dX3_step_149 rfl (fun g15 => ?_) (fun g15 => ?_)
    · replace h := (if_pos g15).symm.trans h
      cases h
      exact z_return dX3_step_247 rfl
    · replace h := (if_neg g15).symm.trans h
      refine z_aload_n dX3_step_152 rfl ?_
      refine z_aload_n dX3_step_153 rfl ?_
      refine z_gI (v := (M 79 5)) fl_X3_21 dX3_step_154 en_79 rfl rfl ?_
      obtain ⟨v17, M18, c16, h⟩ := z_bi_c h
      refine z_cV (av := [.int (M 79 5)]) (st := []) lk_X3_65 dX3_step_157 (A_X3_byteAt_79 (d := d + 0) hl c16) rfl rfl en_79 rfl (Nat.le_of_ble_eq_true rfl) rfl z_len rfl rfl ?_
      obtain ⟨v20, M21, c19, h⟩ := z_bi_c h
      refine z_cS (av := [.int v17]) (st := []) lk_X3_76 dX3_step_160 (A_X3_isDigit (d := d + 0) hl c19) rfl rfl (Nat.le_of_ble_eq_true rfl) rfl z_len rfl rfl ?_
      refine z_if_eq (tgt := 247) dX3_step_163 rfl (fun g22 => ?_) (fun g22 => ?_)
      · replace h := (if_pos g22).symm.trans h
        cases h
        exact z_return dX3_step_247 rfl
      · replace h := (if_neg g22).symm.trans h
        refine z_aload_n dX3_step_166 rfl ?_
        refine z_aload_n dX3_step_167 rfl ?_
        refine z_gI (v := (M21 79 5)) fl_X3_21 dX3_step_168 en_79 rfl rfl ?_
        refine z_aload_n dX3_step_171 rfl ?_
        refine z_gI (v := (M21 79 4)) fl_X3_18 dX3_step_172 en_79 rfl rfl ?_
        refine z_isub dX3_step_175 ?_
        refine z_ic kc_p4 dX3_step_176 ?_
        refine z_icmp_ge (tgt := 202) dX3_step_177 rfl (fun g23 => ?_) (fun g23 => ?_)
        · replace h := (if_pos g23).symm.trans h
          refine z_aload_n dX3_step_202 rfl ?_
          refine z_gI (v := (M21 79 6)) fl_X3_24 dX3_step_203 en_79 rfl rfl ?_
          refine z_pI fp_X3_24 dX3_step_206 (by decide) en_79 rfl ?_
          refine z_aload_n dX3_step_209 rfl ?_
          refine z_dup dX3_step_210 rfl ?_
          refine z_gI (v := (M21 79 5)) fl_X3_21 dX3_step_211 en_79 rfl rfl ?_
          refine z_ic kc_p1 dX3_step_214 ?_
          refine z_iadd dX3_step_215 ?_
          refine z_pI fp_X3_21 dX3_step_216 (by decide) en_79 rfl ?_
          refine z_goto (tgt := 141) dX3_step_219 rfl ?_
          exact ih  _ _ h
        · replace h := (if_neg g23).symm.trans h
          refine z_aload_n dX3_step_180 rfl ?_
          refine z_gI (v := (M21 79 6)) fl_X3_24 dX3_step_181 en_79 rfl rfl ?_
          refine z_bp kb_p10 dX3_step_184 ?_
          refine z_imul dX3_step_186 ?_
          refine z_aload_n dX3_step_187 rfl ?_
          refine z_aload_n dX3_step_188 rfl ?_
          refine z_gI (v := (M21 79 5)) fl_X3_21 dX3_step_189 en_79 rfl rfl ?_
          obtain ⟨v25, M26, c24, h⟩ := z_bi_c h
          refine z_cV (av := [.int (M21 79 5)]) (st := [.int ((M21 79 6) * (10 : Int32)), .ref 79]) lk_X3_65 dX3_step_192 (A_X3_byteAt_79 (d := d + 0) hl c24) rfl rfl en_79 rfl (Nat.le_of_ble_eq_true rfl) rfl z_len rfl rfl ?_
          refine z_iadd dX3_step_195 ?_
          refine z_bp kb_p48 dX3_step_196 ?_
          refine z_isub dX3_step_198 ?_
          refine z_goto (tgt := 206) dX3_step_199 rfl ?_
          refine z_pI fp_X3_24 dX3_step_206 (by decide) en_79 rfl ?_
          refine z_aload_n dX3_step_209 rfl ?_
          refine z_dup dX3_step_210 rfl ?_
          refine z_gI (v := (M26 79 5)) fl_X3_21 dX3_step_211 en_79 rfl rfl ?_
          refine z_ic kc_p1 dX3_step_214 ?_
          refine z_iadd dX3_step_215 ?_
          refine z_pI fp_X3_21 dX3_step_216 (by decide) en_79 rfl ?_
          refine z_goto (tgt := 141) dX3_step_219 rfl ?_
          exact ih  _ _ h
theorem A_X3_step_79_p91 {l : Launch} (hl : l.stackTraces = false) {Ls d : Nat} {Lm : zML} :
    ∀ (n : Nat) (M M' : zMM) , f_X3_step_79_p91 n  M = some M' → z_AW l mX3_step (d + 1) 0 0 91 [.ref 79, .null] [] (z_L0 Ls, M, Lm) (.inl none) (z_L0 Ls, M', Lm) := by
  intro n
  induction n with
  | zero => intro  M M' h; cases h
  | succ n ih =>
    intro  M M' h
    replace h : (  if (M 79 2) ≤ (M 79 5) then
    some M
  else
    z_bi (f_X3_byteAt_79 (M 79 5) M) fun v29 M30 =>
    z_bi (f_X3_isLetter v29 M30) fun v32 M33 =>
    if v32 = 0 then
      some M33
    else
      f_X3_step_79_p91 n  (z_up M33 79 5 ((M33 79 5) + (1 : Int32)))) = some M' := h
    refine z_aload_n dX3_step_91 rfl ?_
    refine z_gI (v := (M 79 5)) fl_X3_21 dX3_step_92 en_79 rfl rfl ?_
    refine z_aload_n dX3_step_95 rfl ?_
    refine z_gI (v := (M 79 2)) fl_X3_9 dX3_step_96 en_79 rfl rfl ?_
    refine z_icmp_ge (tgt := 247) dX3_step_99 rfl (fun g27 => ?_) (fun g27 => ?_)
    · replace h := (if_pos g27).symm.trans h
      cases h
      exact z_return dX3_step_247 rfl
    · replace h := (if_neg g27).symm.trans h
      refine z_aload_n dX3_step_102 rfl ?_
      refine z_aload_n dX3_step_103 rfl ?_
      refine z_gI (v := (M 79 5)) fl_X3_21 dX3_step_104 en_79 rfl rfl ?_
      obtain ⟨v29, M30, c28, h⟩ := z_bi_c h
      refine z_cV (av := [.int (M 79 5)]) (st := []) lk_X3_65 dX3_step_107 (A_X3_byteAt_79 (d := d + 0) hl c28) rfl rfl en_79 rfl (Nat.le_of_ble_eq_true rfl) rfl z_len rfl rfl ?_
      obtain ⟨v32, M33, c31, h⟩ := z_bi_c h
      refine z_cS (av := [.int v29]) (st := []) lk_X3_73 dX3_step_110 (A_X3_isLetter (d := d + 0) hl c31) rfl rfl (Nat.le_of_ble_eq_true rfl) rfl z_len rfl rfl ?_
      refine z_if_eq (tgt := 247) dX3_step_113 rfl (fun g34 => ?_) (fun g34 => ?_)
      · replace h := (if_pos g34).symm.trans h
        cases h
        exact z_return dX3_step_247 rfl
      · replace h := (if_neg g34).symm.trans h
        refine z_aload_n dX3_step_116 rfl ?_
        refine z_dup dX3_step_117 rfl ?_
        refine z_gI (v := (M33 79 5)) fl_X3_21 dX3_step_118 en_79 rfl rfl ?_
        refine z_ic kc_p1 dX3_step_121 ?_
        refine z_iadd dX3_step_122 ?_
        refine z_pI fp_X3_21 dX3_step_123 (by decide) en_79 rfl ?_
        refine z_goto (tgt := 91) dX3_step_126 rfl ?_
        exact ih  _ _ h
theorem A_X3_step_79_p38 {l : Launch} (hl : l.stackTraces = false) {Ls d : Nat} {Lm : zML} :
    ∀ (M M' : zMM) , f_X3_step_79_p38  M = some M' → z_AW l mX3_step (d + 1) 0 0 38 [.ref 79, .null] [] (z_L0 Ls, M, Lm) (.inl none) (z_L0 Ls, M', Lm) := by
  intro  M M' h
  replace h : (  z_bi (f_X3_byteAt_79 (M 79 5) (z_up M 79 4 (M 79 5))) fun v3 M4 =>
  if (M4 79 5) < (M4 79 2) then
    z_bi (f_X3_isLetter v3 (z_up M4 79 6 (0 : Int32))) fun v7 M8 =>
    if v7 = 0 then
      z_bi (f_X3_isDigit v3 M8) fun v11 M12 =>
      if v11 = 0 then
        if v3 = (59 : Int32) then
          some (z_up (z_up M12 79 3 (3 : Int32)) 79 5 ((M12 79 5) + (1 : Int32)))
        else
          some (z_up (z_up M12 79 3 (4 : Int32)) 79 5 ((M12 79 5) + (1 : Int32)))
      else
        f_X3_step_79_p141 z_fuel  (z_up M12 79 3 (2 : Int32))
    else
      f_X3_step_79_p91 z_fuel  (z_up M8 79 3 (1 : Int32))
  else
    some (z_up (z_up M4 79 6 (0 : Int32)) 79 3 (0 : Int32))) = some M' := h
  refine z_aload_n dX3_step_38 rfl ?_
  refine z_aload_n dX3_step_39 rfl ?_
  refine z_gI (v := (M 79 5)) fl_X3_21 dX3_step_40 en_79 rfl rfl ?_
  refine z_pI fp_X3_18 dX3_step_43 (by decide) en_79 rfl ?_
  refine z_aload_n dX3_step_46 rfl ?_
  refine z_aload_n dX3_step_47 rfl ?_
  refine z_gI (v := (M 79 5)) fl_X3_21 dX3_step_48 en_79 rfl rfl ?_
  obtain ⟨v3, M4, c2, h⟩ := z_bi_c h
  refine z_cV (av := [.int (M 79 5)]) (st := []) lk_X3_65 dX3_step_51 (A_X3_byteAt_79 (d := d + 0) hl c2) rfl rfl en_79 rfl (Nat.le_of_ble_eq_true rfl) rfl z_len rfl rfl ?_
  refine z_istore_n (ls' := [.ref 79, .int v3]) dX3_step_54 (by decide) rfl ?_
  refine z_aload_n dX3_step_55 rfl ?_
  refine z_ic kc_p0 dX3_step_56 ?_
  refine z_pI fp_X3_24 dX3_step_57 (by decide) en_79 rfl ?_
  refine z_aload_n dX3_step_60 rfl ?_
  refine z_gI (v := (M4 79 5)) fl_X3_21 dX3_step_61 en_79 rfl rfl ?_
  refine z_aload_n dX3_step_64 rfl ?_
  refine z_gI (v := (M4 79 2)) fl_X3_9 dX3_step_65 en_79 rfl rfl ?_
  refine z_icmp_lt (tgt := 79) dX3_step_68 rfl (fun g5 => ?_) (fun g5 => ?_)
  · replace h := (if_pos g5).symm.trans h
    refine z_iload_n dX3_step_79 rfl ?_
    obtain ⟨v7, M8, c6, h⟩ := z_bi_c h
    refine z_cS (av := [.int v3]) (st := []) lk_X3_73 dX3_step_80 (A_X3_isLetter (d := d + 0) hl c6) rfl rfl (Nat.le_of_ble_eq_true rfl) rfl z_len rfl rfl ?_
    refine z_if_eq (tgt := 129) dX3_step_83 rfl (fun g9 => ?_) (fun g9 => ?_)
    · replace h := (if_pos g9).symm.trans h
      refine z_iload_n dX3_step_129 rfl ?_
      obtain ⟨v11, M12, c10, h⟩ := z_bi_c h
      refine z_cS (av := [.int v3]) (st := []) lk_X3_76 dX3_step_130 (A_X3_isDigit (d := d + 0) hl c10) rfl rfl (Nat.le_of_ble_eq_true rfl) rfl z_len rfl rfl ?_
      refine z_if_eq (tgt := 222) dX3_step_133 rfl (fun g13 => ?_) (fun g13 => ?_)
      · replace h := (if_pos g13).symm.trans h
        refine z_aload_n dX3_step_222 rfl ?_
        refine z_iload_n dX3_step_223 rfl ?_
        refine z_bp kb_p59 dX3_step_224 ?_
        refine z_icmp_ne (tgt := 233) dX3_step_226 rfl (fun g14 => ?_) (fun g14 => ?_)
        · replace h := (if_pos g14).symm.trans h
          refine z_ic kc_p3 dX3_step_229 ?_
          refine z_goto (tgt := 234) dX3_step_230 rfl ?_
          refine z_pI fp_X3_15 dX3_step_234 (by decide) en_79 rfl ?_
          refine z_aload_n dX3_step_237 rfl ?_
          refine z_dup dX3_step_238 rfl ?_
          refine z_gI (v := (M12 79 5)) fl_X3_21 dX3_step_239 en_79 rfl rfl ?_
          refine z_ic kc_p1 dX3_step_242 ?_
          refine z_iadd dX3_step_243 ?_
          refine z_pI fp_X3_21 dX3_step_244 (by decide) en_79 rfl ?_
          cases h
          exact z_return dX3_step_247 rfl
        · replace h := (if_neg g14).symm.trans h
          refine z_ic kc_p4 dX3_step_233 ?_
          refine z_pI fp_X3_15 dX3_step_234 (by decide) en_79 rfl ?_
          refine z_aload_n dX3_step_237 rfl ?_
          refine z_dup dX3_step_238 rfl ?_
          refine z_gI (v := (M12 79 5)) fl_X3_21 dX3_step_239 en_79 rfl rfl ?_
          refine z_ic kc_p1 dX3_step_242 ?_
          refine z_iadd dX3_step_243 ?_
          refine z_pI fp_X3_21 dX3_step_244 (by decide) en_79 rfl ?_
          cases h
          exact z_return dX3_step_247 rfl
      · replace h := (if_neg g13).symm.trans h
        refine z_aload_n dX3_step_136 rfl ?_
        refine z_ic kc_p2 dX3_step_137 ?_
        refine z_pI fp_X3_15 dX3_step_138 (by decide) en_79 rfl ?_
        refine z_fg (ls' := [.ref 79, .null]) ⟨Or.inr rfl, Or.inl rfl, trivial⟩ ?_
        exact A_X3_step_79_p141 hl z_fuel  _ _ h
    · replace h := (if_neg g9).symm.trans h
      refine z_aload_n dX3_step_86 rfl ?_
      refine z_ic kc_p1 dX3_step_87 ?_
      refine z_pI fp_X3_15 dX3_step_88 (by decide) en_79 rfl ?_
      refine z_fg (ls' := [.ref 79, .null]) ⟨Or.inr rfl, Or.inl rfl, trivial⟩ ?_
      exact A_X3_step_79_p91 hl z_fuel  _ _ h
  · replace h := (if_neg g5).symm.trans h
    refine z_aload_n dX3_step_71 rfl ?_
    refine z_ic kc_p0 dX3_step_72 ?_
    refine z_pI fp_X3_15 dX3_step_73 (by decide) en_79 rfl ?_
    refine z_goto (tgt := 247) dX3_step_76 rfl ?_
    cases h
    exact z_return dX3_step_247 rfl
theorem A_X3_step_79_p0 {l : Launch} (hl : l.stackTraces = false) {Ls d : Nat} {Lm : zML} :
    ∀ (n : Nat) (M M' : zMM) , f_X3_step_79_p0 n  M = some M' → z_AW l mX3_step (d + 1) 0 0 0 [.ref 79, .null] [] (z_L0 Ls, M, Lm) (.inl none) (z_L0 Ls, M', Lm) := by
  intro n
  induction n with
  | zero => intro  M M' h; cases h
  | succ n ih =>
    intro  M M' h
    replace h : (  if (M 79 2) ≤ (M 79 5) then
    f_X3_step_79_p38  M
  else
    z_bi (f_X3_byteAt_79 (M 79 5) M) fun v36 M37 =>
    z_bi (f_X3_isBlank v36 M37) fun v39 M40 =>
    if v39 = 0 then
      f_X3_step_79_p38  M40
    else
      f_X3_step_79_p0 n  (z_up M40 79 5 ((M40 79 5) + (1 : Int32)))) = some M' := h
    refine z_aload_n dX3_step_0 rfl ?_
    refine z_gI (v := (M 79 5)) fl_X3_21 dX3_step_1 en_79 rfl rfl ?_
    refine z_aload_n dX3_step_4 rfl ?_
    refine z_gI (v := (M 79 2)) fl_X3_9 dX3_step_5 en_79 rfl rfl ?_
    refine z_icmp_ge (tgt := 38) dX3_step_8 rfl (fun g1 => ?_) (fun g1 => ?_)
    · replace h := (if_pos g1).symm.trans h
      exact A_X3_step_79_p38 hl  _ _ h
    · replace h := (if_neg g1).symm.trans h
      refine z_aload_n dX3_step_11 rfl ?_
      refine z_aload_n dX3_step_12 rfl ?_
      refine z_gI (v := (M 79 5)) fl_X3_21 dX3_step_13 en_79 rfl rfl ?_
      obtain ⟨v36, M37, c35, h⟩ := z_bi_c h
      refine z_cV (av := [.int (M 79 5)]) (st := []) lk_X3_65 dX3_step_16 (A_X3_byteAt_79 (d := d + 0) hl c35) rfl rfl en_79 rfl (Nat.le_of_ble_eq_true rfl) rfl z_len rfl rfl ?_
      obtain ⟨v39, M40, c38, h⟩ := z_bi_c h
      refine z_cS (av := [.int v36]) (st := []) lk_X3_69 dX3_step_19 (A_X3_isBlank (d := d + 0) hl c38) rfl rfl (Nat.le_of_ble_eq_true rfl) rfl z_len rfl rfl ?_
      refine z_if_eq (tgt := 38) dX3_step_22 rfl (fun g41 => ?_) (fun g41 => ?_)
      · replace h := (if_pos g41).symm.trans h
        exact A_X3_step_79_p38 hl  _ _ h
      · replace h := (if_neg g41).symm.trans h
        refine z_aload_n dX3_step_25 rfl ?_
        refine z_dup dX3_step_26 rfl ?_
        refine z_gI (v := (M40 79 5)) fl_X3_21 dX3_step_27 en_79 rfl rfl ?_
        refine z_ic kc_p1 dX3_step_30 ?_
        refine z_iadd dX3_step_31 ?_
        refine z_pI fp_X3_21 dX3_step_32 (by decide) en_79 rfl ?_
        refine z_goto (tgt := 0) dX3_step_35 rfl ?_
        exact ih  _ _ h
theorem A_X3_step_79 {l : Launch} (hl : l.stackTraces = false) {Ls d : Nat} {Lm : zML}  {M M' : zMM} (h : f_X3_step_79  M = some M') : z_Ct l mX3_step (d + 1) 0 0 [.ref 79] (z_L0 Ls, M, Lm) (.inl none) (z_L0 Ls, M', Lm) := by
  replace h : (  f_X3_step_79_p0 z_fuel  M) = some M' := h
  refine z_Ct.of hl (by decide) (Nat.le_of_ble_eq_true rfl) rfl ?_
  show z_AW l mX3_step (d + 1) 0 0 0 [.ref 79, .null] [] (z_L0 Ls, M, Lm) (.inl none) (z_L0 Ls, M', Lm)
  exact A_X3_step_79_p0 hl z_fuel  _ _ h
/-! X3_isWord 79 None -/
def f_X3_isWord_79_p28 (s : Nat) : Nat → Int32 → zMM → Option (Int32 × zMM)
  | 0, _, _ => none
  | n + 1, x2, M =>
  if (z_sl s) ≤ x2 then
    some ((1 : Int32), M)
  else
    z_bi (f_X3_byteAt_79 ((M 79 4) + x2) M) fun v5 M6 =>
    if z_ib x2 (z_sn s) = true then
      if v5 = (z_ch (M6 (s + 24) x2.toNatClampNeg)) then
        f_X3_isWord_79_p28 s n (x2 + (1 : Int32)) M6
      else
        some ((0 : Int32), M6)
    else none
def f_X3_isWord_79 (s : Nat) (M : zMM) : Option (Int32 × zMM) :=
  if 3 ≤ s ∧ s < 27 then
  if (M 79 3) = (1 : Int32) then
    if ((M 79 5) - (M 79 4)) = (z_sl s) then
      f_X3_isWord_79_p28 s z_fuel (0 : Int32) M
    else
      some ((0 : Int32), M)
  else
    some ((0 : Int32), M)
  else none
theorem A_X3_isWord_79_p28 {l : Launch} (hl : l.stackTraces = false) {Ls d : Nat} {Lm : zML} {s : Nat} (hs : 3 ≤ s ∧ s < 27) :
    ∀ (n : Nat) (x2 : Int32) (M M' : zMM) (v : Int32) , f_X3_isWord_79_p28 s n x2 M = some (v, M') → z_AW l mX3_isWord (d + 4) 0 0 28 [.ref 79, .ref s, .int x2] [] (z_L0 Ls, M, Lm) (.inl (some (.int v))) (z_L0 Ls, M', Lm) := by
  intro n
  induction n with
  | zero => intro x2 M M' v h; cases h
  | succ n ih =>
    intro x2 M M' v h
    replace h : (  if (z_sl s) ≤ x2 then
    some ((1 : Int32), M)
  else
    z_bi (f_X3_byteAt_79 ((M 79 4) + x2) M) fun v5 M6 =>
    if z_ib x2 (z_sn s) = true then
      if v5 = (z_ch (M6 (s + 24) x2.toNatClampNeg)) then
        f_X3_isWord_79_p28 s n (x2 + (1 : Int32)) M6
      else
        some ((0 : Int32), M6)
    else none) = some (v, M') := h
    refine z_iload_n dX3_isWord_28 rfl ?_
    refine z_aload_n dX3_isWord_29 rfl ?_
    refine z_cQ (av := []) (st := [.int x2]) lk_X3_79 rfl dX3_isWord_30 (A_J0_length_8abf5 (d := d + 2) hl (z_se hs) (z_sw hs) z_sl_ok (z_sb hs)) rfl rfl (z_se hs) (Nat.le_of_ble_eq_true rfl) rfl z_len (show z_rbB [.ref 79, .ref s, .int x2, .int x2] 150 = true from (z_rb_c rfl (z_rb_c (z_sb1 hs) (z_rb_c rfl (z_rb_c rfl rfl))))) rfl ?_
    refine z_icmp_ge (tgt := 62) dX3_isWord_33 rfl (fun g3 => ?_) (fun g3 => ?_)
    · replace h := (if_pos g3).symm.trans h
      refine z_ic kc_p1 dX3_isWord_62 ?_
      cases h
      exact z_rZ dX3_isWord_63 rfl rfl
    · replace h := (if_neg g3).symm.trans h
      refine z_aload_n dX3_isWord_36 rfl ?_
      refine z_aload_n dX3_isWord_37 rfl ?_
      refine z_gI (v := (M 79 4)) fl_X3_18 dX3_isWord_38 en_79 rfl rfl ?_
      refine z_iload_n dX3_isWord_41 rfl ?_
      refine z_iadd dX3_isWord_42 ?_
      obtain ⟨v5, M6, c4, h⟩ := z_bi_c h
      refine z_cV (av := [.int ((M 79 4) + x2)]) (st := []) lk_X3_65 dX3_isWord_43 (A_X3_byteAt_79 (d := d + 3) hl c4) rfl rfl en_79 rfl (Nat.le_of_ble_eq_true rfl) rfl z_len (show z_rbB [.ref 79, .ref s, .int x2] 150 = true from (z_rb_c rfl (z_rb_c (z_sb1 hs) (z_rb_c rfl rfl)))) rfl ?_
      refine z_aload_n dX3_isWord_46 rfl ?_
      refine z_iload_n dX3_isWord_47 rfl ?_
      obtain ⟨g7, h⟩ := z_ifn h
      refine z_cQ (av := [.int x2]) (st := [.int v5]) lk_X3_84 rfl dX3_isWord_48 (A_J0_charAt_5068e (d := d + 0) hl (z_sn_lt _) (z_se hs) (z_sw hs) (z_ib_in g7) (z_sb2 hs)) rfl rfl (z_se hs) (Nat.le_of_ble_eq_true rfl) rfl z_len (show z_rbB [.ref 79, .ref s, .int x2, .int v5] 150 = true from (z_rb_c rfl (z_rb_c (z_sb1 hs) (z_rb_c rfl (z_rb_c rfl rfl))))) rfl ?_
      refine z_icmp_eq (tgt := 56) dX3_isWord_51 rfl (fun g8 => ?_) (fun g8 => ?_)
      · replace h := (if_pos g8).symm.trans h
        refine z_ii (ls' := [.ref 79, .ref s, .int (x2 + (1 : Int32))]) kc_p1 dX3_isWord_56 rfl (by decide) rfl ?_
        refine z_goto (tgt := 28) dX3_isWord_59 rfl ?_
        exact ih (x2 + (1 : Int32)) _ _ _ h
      · replace h := (if_neg g8).symm.trans h
        refine z_ic kc_p0 dX3_isWord_54 ?_
        cases h
        exact z_rZ dX3_isWord_55 rfl rfl
theorem A_X3_isWord_79 {l : Launch} (hl : l.stackTraces = false) {Ls d : Nat} {Lm : zML} {s : Nat} {M M' : zMM} {v : Int32} (h : f_X3_isWord_79 s M = some (v, M')) : z_Ct l mX3_isWord (d + 4) 0 0 [.ref 79, .ref s] (z_L0 Ls, M, Lm) (.inl (some (.int v))) (z_L0 Ls, M', Lm) := by
  replace h : (  if 3 ≤ s ∧ s < 27 then
  if (M 79 3) = (1 : Int32) then
    if ((M 79 5) - (M 79 4)) = (z_sl s) then
      f_X3_isWord_79_p28 s z_fuel (0 : Int32) M
    else
      some ((0 : Int32), M)
  else
    some ((0 : Int32), M)
  else none) = some (v, M') := h
  obtain ⟨hs, h⟩ := z_ifn h
  refine z_Ct.of hl (by decide) (Nat.le_of_ble_eq_true rfl) rfl ?_
  show z_AW l mX3_isWord (d + 4) 0 0 0 [.ref 79, .ref s, .null] [] (z_L0 Ls, M, Lm) (.inl (some (.int v))) (z_L0 Ls, M', Lm)
  refine z_aload_n dX3_isWord_0 rfl ?_
  refine z_gI (v := (M 79 3)) fl_X3_15 dX3_isWord_1 en_79 rfl rfl ?_
  refine z_ic kc_p1 dX3_isWord_4 ?_
  refine z_icmp_ne (tgt := 24) dX3_isWord_5 rfl (fun g1 => ?_) (fun g1 => ?_)
  · replace h := (if_pos g1).symm.trans h
    refine z_aload_n dX3_isWord_8 rfl ?_
    refine z_gI (v := (M 79 5)) fl_X3_21 dX3_isWord_9 en_79 rfl rfl ?_
    refine z_aload_n dX3_isWord_12 rfl ?_
    refine z_gI (v := (M 79 4)) fl_X3_18 dX3_isWord_13 en_79 rfl rfl ?_
    refine z_isub dX3_isWord_16 ?_
    refine z_aload_n dX3_isWord_17 rfl ?_
    refine z_cQ (av := []) (st := [.int ((M 79 5) - (M 79 4))]) lk_X3_79 rfl dX3_isWord_18 (A_J0_length_8abf5 (d := d + 2) hl (z_se hs) (z_sw hs) z_sl_ok (z_sb hs)) rfl rfl (z_se hs) (Nat.le_of_ble_eq_true rfl) rfl z_len (show z_rbB [.ref 79, .ref s, .null, .int ((M 79 5) - (M 79 4))] 150 = true from (z_rb_c rfl (z_rb_c (z_sb1 hs) (z_rb_c rfl (z_rb_c rfl rfl))))) rfl ?_
    refine z_icmp_eq (tgt := 26) dX3_isWord_21 rfl (fun g2 => ?_) (fun g2 => ?_)
    · replace h := (if_pos g2).symm.trans h
      refine z_ic kc_p0 dX3_isWord_26 ?_
      refine z_istore_n (ls' := [.ref 79, .ref s, .int (0 : Int32)]) dX3_isWord_27 (by decide) rfl ?_
      exact A_X3_isWord_79_p28 hl hs z_fuel (0 : Int32) _ _ _ h
    · replace h := (if_neg g2).symm.trans h
      refine z_ic kc_p0 dX3_isWord_24 ?_
      cases h
      exact z_rZ dX3_isWord_25 rfl rfl
  · replace h := (if_neg g1).symm.trans h
    refine z_ic kc_p0 dX3_isWord_24 ?_
    cases h
    exact z_rZ dX3_isWord_25 rfl rfl
/-! X3_fail 79 -/
def f_X3_fail_79 (x1 : Int32) (x2 : Int32) (M : zMM) : Option zMM :=
  if (M 79 9) = 0 then
    some (z_up (z_up M 79 9 x1) 79 10 x2)
  else
    some M
theorem A_X3_fail_79 {l : Launch} (hl : l.stackTraces = false) {Ls d : Nat} {Lm : zML} {x1 : Int32} {x2 : Int32} {M M' : zMM} (h : f_X3_fail_79 x1 x2 M = some M') : z_Ct l mX3_fail (d + 0) 0 0 [.ref 79, .int x1, .int x2] (z_L0 Ls, M, Lm) (.inl none) (z_L0 Ls, M', Lm) := by
  replace h : (  if (M 79 9) = 0 then
    some (z_up (z_up M 79 9 x1) 79 10 x2)
  else
    some M) = some M' := h
  refine z_Ct.of hl (by decide) (Nat.le_of_ble_eq_true rfl) rfl ?_
  show z_AW l mX3_fail (d + 0) 0 0 0 [.ref 79, .int x1, .int x2] [] (z_L0 Ls, M, Lm) (.inl none) (z_L0 Ls, M', Lm)
  refine z_aload_n dX3_fail_0 rfl ?_
  refine z_gI (v := (M 79 9)) fl_X3_34 dX3_fail_1 en_79 rfl rfl ?_
  refine z_if_ne (tgt := 17) dX3_fail_4 rfl (fun g1 => ?_) (fun g1 => ?_)
  · replace h := (if_pos g1).symm.trans h
    refine z_aload_n dX3_fail_7 rfl ?_
    refine z_iload_n dX3_fail_8 rfl ?_
    refine z_pI fp_X3_34 dX3_fail_9 (by decide) en_79 rfl ?_
    refine z_aload_n dX3_fail_12 rfl ?_
    refine z_iload_n dX3_fail_13 rfl ?_
    refine z_pI fp_X3_37 dX3_fail_14 (by decide) en_79 rfl ?_
    cases h
    exact z_return dX3_fail_17 rfl
  · replace h := (if_neg g1).symm.trans h
    cases h
    exact z_return dX3_fail_17 rfl
/-! X3_takeNumber 79 -/
def f_X3_takeNumber_79 (x1 : Int32) (x2 : Int32) (M : zMM) : Option (Int32 × zMM) :=
  if (M 79 3) = (2 : Int32) then
    if (4 : Int32) < ((M 79 5) - (M 79 4)) then
      z_bv (f_X3_fail_79 (2 : Int32) (M 79 4) M) fun M5 =>
      some ((-1 : Int32), M5)
    else
      if (M 79 6) < x1 then
        z_bv (f_X3_fail_79 (2 : Int32) (M 79 4) M) fun M9 =>
        some ((-1 : Int32), M9)
      else
        if (M 79 6) ≤ x2 then
          z_bv (f_X3_step_79  (z_up M 79 7 (M 79 4))) fun M13 =>
          some ((M 79 6), M13)
        else
          z_bv (f_X3_fail_79 (2 : Int32) (M 79 4) M) fun M16 =>
          some ((-1 : Int32), M16)
  else
    z_bv (f_X3_fail_79 (1 : Int32) (M 79 4) M) fun M19 =>
    some ((-1 : Int32), M19)
theorem A_X3_takeNumber_79 {l : Launch} (hl : l.stackTraces = false) {Ls d : Nat} {Lm : zML} {x1 : Int32} {x2 : Int32} {M M' : zMM} {v : Int32} (h : f_X3_takeNumber_79 x1 x2 M = some (v, M')) : z_Ct l mX3_takeNumber (d + 2) 0 0 [.ref 79, .int x1, .int x2] (z_L0 Ls, M, Lm) (.inl (some (.int v))) (z_L0 Ls, M', Lm) := by
  replace h : (  if (M 79 3) = (2 : Int32) then
    if (4 : Int32) < ((M 79 5) - (M 79 4)) then
      z_bv (f_X3_fail_79 (2 : Int32) (M 79 4) M) fun M5 =>
      some ((-1 : Int32), M5)
    else
      if (M 79 6) < x1 then
        z_bv (f_X3_fail_79 (2 : Int32) (M 79 4) M) fun M9 =>
        some ((-1 : Int32), M9)
      else
        if (M 79 6) ≤ x2 then
          z_bv (f_X3_step_79  (z_up M 79 7 (M 79 4))) fun M13 =>
          some ((M 79 6), M13)
        else
          z_bv (f_X3_fail_79 (2 : Int32) (M 79 4) M) fun M16 =>
          some ((-1 : Int32), M16)
  else
    z_bv (f_X3_fail_79 (1 : Int32) (M 79 4) M) fun M19 =>
    some ((-1 : Int32), M19)) = some (v, M') := h
  refine z_Ct.of hl (by decide) (Nat.le_of_ble_eq_true rfl) rfl ?_
  show z_AW l mX3_takeNumber (d + 2) 0 0 0 [.ref 79, .int x1, .int x2, .null] [] (z_L0 Ls, M, Lm) (.inl (some (.int v))) (z_L0 Ls, M', Lm)
  refine z_aload_n dX3_takeNumber_0 rfl ?_
  refine z_gI (v := (M 79 3)) fl_X3_15 dX3_takeNumber_1 en_79 rfl rfl ?_
  refine z_ic kc_p2 dX3_takeNumber_4 ?_
  refine z_icmp_eq (tgt := 19) dX3_takeNumber_5 rfl (fun g1 => ?_) (fun g1 => ?_)
  · replace h := (if_pos g1).symm.trans h
    refine z_aload_n dX3_takeNumber_19 rfl ?_
    refine z_gI (v := (M 79 5)) fl_X3_21 dX3_takeNumber_20 en_79 rfl rfl ?_
    refine z_aload_n dX3_takeNumber_23 rfl ?_
    refine z_gI (v := (M 79 4)) fl_X3_18 dX3_takeNumber_24 en_79 rfl rfl ?_
    refine z_isub dX3_takeNumber_27 ?_
    refine z_ic kc_p4 dX3_takeNumber_28 ?_
    refine z_icmp_gt (tgt := 48) dX3_takeNumber_29 rfl (fun g2 => ?_) (fun g2 => ?_)
    · replace h := (if_pos g2).symm.trans h
      refine z_aload_n dX3_takeNumber_48 rfl ?_
      refine z_ic kc_p2 dX3_takeNumber_49 ?_
      refine z_aload_n dX3_takeNumber_50 rfl ?_
      refine z_gI (v := (M 79 4)) fl_X3_18 dX3_takeNumber_51 en_79 rfl rfl ?_
      obtain ⟨M5, c3, h⟩ := z_bv_c h
      refine z_cV (av := [.int (2 : Int32), .int (M 79 4)]) (st := []) lk_X3_88 dX3_takeNumber_54 (A_X3_fail_79 (d := d + 1) hl c3) rfl rfl en_79 rfl (Nat.le_of_ble_eq_true rfl) rfl z_len rfl rfl ?_
      refine z_ic kc_m1 dX3_takeNumber_57 ?_
      cases h
      exact z_rI dX3_takeNumber_58 rfl
    · replace h := (if_neg g2).symm.trans h
      refine z_aload_n dX3_takeNumber_32 rfl ?_
      refine z_gI (v := (M 79 6)) fl_X3_24 dX3_takeNumber_33 en_79 rfl rfl ?_
      refine z_iload_n dX3_takeNumber_36 rfl ?_
      refine z_icmp_lt (tgt := 48) dX3_takeNumber_37 rfl (fun g6 => ?_) (fun g6 => ?_)
      · replace h := (if_pos g6).symm.trans h
        refine z_aload_n dX3_takeNumber_48 rfl ?_
        refine z_ic kc_p2 dX3_takeNumber_49 ?_
        refine z_aload_n dX3_takeNumber_50 rfl ?_
        refine z_gI (v := (M 79 4)) fl_X3_18 dX3_takeNumber_51 en_79 rfl rfl ?_
        obtain ⟨M9, c7, h⟩ := z_bv_c h
        refine z_cV (av := [.int (2 : Int32), .int (M 79 4)]) (st := []) lk_X3_88 dX3_takeNumber_54 (A_X3_fail_79 (d := d + 1) hl c7) rfl rfl en_79 rfl (Nat.le_of_ble_eq_true rfl) rfl z_len rfl rfl ?_
        refine z_ic kc_m1 dX3_takeNumber_57 ?_
        cases h
        exact z_rI dX3_takeNumber_58 rfl
      · replace h := (if_neg g6).symm.trans h
        refine z_aload_n dX3_takeNumber_40 rfl ?_
        refine z_gI (v := (M 79 6)) fl_X3_24 dX3_takeNumber_41 en_79 rfl rfl ?_
        refine z_iload_n dX3_takeNumber_44 rfl ?_
        refine z_icmp_le (tgt := 59) dX3_takeNumber_45 rfl (fun g10 => ?_) (fun g10 => ?_)
        · replace h := (if_pos g10).symm.trans h
          refine z_aload_n dX3_takeNumber_59 rfl ?_
          refine z_gI (v := (M 79 6)) fl_X3_24 dX3_takeNumber_60 en_79 rfl rfl ?_
          refine z_istore_n (ls' := [.ref 79, .int x1, .int x2, .int (M 79 6)]) dX3_takeNumber_63 (by decide) rfl ?_
          refine z_aload_n dX3_takeNumber_64 rfl ?_
          refine z_aload_n dX3_takeNumber_65 rfl ?_
          refine z_gI (v := (M 79 4)) fl_X3_18 dX3_takeNumber_66 en_79 rfl rfl ?_
          refine z_pI fp_X3_27 dX3_takeNumber_69 (by decide) en_79 rfl ?_
          refine z_aload_n dX3_takeNumber_72 rfl ?_
          obtain ⟨M13, c11, h⟩ := z_bv_c h
          refine z_cV (av := []) (st := []) lk_X3_59 dX3_takeNumber_73 (A_X3_step_79 (d := d + 0) hl c11) rfl rfl en_79 rfl (Nat.le_of_ble_eq_true rfl) rfl z_len rfl rfl ?_
          refine z_iload_n dX3_takeNumber_76 rfl ?_
          cases h
          exact z_rI dX3_takeNumber_77 rfl
        · replace h := (if_neg g10).symm.trans h
          refine z_aload_n dX3_takeNumber_48 rfl ?_
          refine z_ic kc_p2 dX3_takeNumber_49 ?_
          refine z_aload_n dX3_takeNumber_50 rfl ?_
          refine z_gI (v := (M 79 4)) fl_X3_18 dX3_takeNumber_51 en_79 rfl rfl ?_
          obtain ⟨M16, c14, h⟩ := z_bv_c h
          refine z_cV (av := [.int (2 : Int32), .int (M 79 4)]) (st := []) lk_X3_88 dX3_takeNumber_54 (A_X3_fail_79 (d := d + 1) hl c14) rfl rfl en_79 rfl (Nat.le_of_ble_eq_true rfl) rfl z_len rfl rfl ?_
          refine z_ic kc_m1 dX3_takeNumber_57 ?_
          cases h
          exact z_rI dX3_takeNumber_58 rfl
  · replace h := (if_neg g1).symm.trans h
    refine z_aload_n dX3_takeNumber_8 rfl ?_
    refine z_ic kc_p1 dX3_takeNumber_9 ?_
    refine z_aload_n dX3_takeNumber_10 rfl ?_
    refine z_gI (v := (M 79 4)) fl_X3_18 dX3_takeNumber_11 en_79 rfl rfl ?_
    obtain ⟨M19, c17, h⟩ := z_bv_c h
    refine z_cV (av := [.int (1 : Int32), .int (M 79 4)]) (st := []) lk_X3_88 dX3_takeNumber_14 (A_X3_fail_79 (d := d + 1) hl c17) rfl rfl en_79 rfl (Nat.le_of_ble_eq_true rfl) rfl z_len rfl rfl ?_
    refine z_ic kc_m1 dX3_takeNumber_17 ?_
    cases h
    exact z_rI dX3_takeNumber_18 rfl
/-! X3_endsWell 79 -/
def f_X3_endsWell_79  (M : zMM) : Option (Int32 × zMM) :=
  if (M 79 3) = (3 : Int32) then
    z_bv (f_X3_step_79  M) fun M4 =>
    if (M4 79 9) = 0 then
      some ((1 : Int32), M4)
    else
      some ((0 : Int32), M4)
  else
    z_bv (f_X3_fail_79 (1 : Int32) (M 79 4) M) fun M8 =>
    z_bv (f_X3_step_79  M8) fun M11 =>
    if (M11 79 9) = 0 then
      some ((1 : Int32), M11)
    else
      some ((0 : Int32), M11)
theorem A_X3_endsWell_79 {l : Launch} (hl : l.stackTraces = false) {Ls d : Nat} {Lm : zML}  {M M' : zMM} {v : Int32} (h : f_X3_endsWell_79  M = some (v, M')) : z_Ct l mX3_endsWell (d + 2) 0 0 [.ref 79] (z_L0 Ls, M, Lm) (.inl (some (.int v))) (z_L0 Ls, M', Lm) := by
  replace h : (  if (M 79 3) = (3 : Int32) then
    z_bv (f_X3_step_79  M) fun M4 =>
    if (M4 79 9) = 0 then
      some ((1 : Int32), M4)
    else
      some ((0 : Int32), M4)
  else
    z_bv (f_X3_fail_79 (1 : Int32) (M 79 4) M) fun M8 =>
    z_bv (f_X3_step_79  M8) fun M11 =>
    if (M11 79 9) = 0 then
      some ((1 : Int32), M11)
    else
      some ((0 : Int32), M11)) = some (v, M') := h
  refine z_Ct.of hl (by decide) (Nat.le_of_ble_eq_true rfl) rfl ?_
  show z_AW l mX3_endsWell (d + 2) 0 0 0 [.ref 79] [] (z_L0 Ls, M, Lm) (.inl (some (.int v))) (z_L0 Ls, M', Lm)
  refine z_aload_n dX3_endsWell_0 rfl ?_
  refine z_gI (v := (M 79 3)) fl_X3_15 dX3_endsWell_1 en_79 rfl rfl ?_
  refine z_ic kc_p3 dX3_endsWell_4 ?_
  refine z_icmp_eq (tgt := 17) dX3_endsWell_5 rfl (fun g1 => ?_) (fun g1 => ?_)
  · replace h := (if_pos g1).symm.trans h
    refine z_aload_n dX3_endsWell_17 rfl ?_
    obtain ⟨M4, c2, h⟩ := z_bv_c h
    refine z_cV (av := []) (st := []) lk_X3_59 dX3_endsWell_18 (A_X3_step_79 (d := d + 0) hl c2) rfl rfl en_79 rfl (Nat.le_of_ble_eq_true rfl) rfl z_len rfl rfl ?_
    refine z_aload_n dX3_endsWell_21 rfl ?_
    refine z_gI (v := (M4 79 9)) fl_X3_34 dX3_endsWell_22 en_79 rfl rfl ?_
    refine z_if_ne (tgt := 32) dX3_endsWell_25 rfl (fun g5 => ?_) (fun g5 => ?_)
    · replace h := (if_pos g5).symm.trans h
      refine z_ic kc_p1 dX3_endsWell_28 ?_
      refine z_goto (tgt := 33) dX3_endsWell_29 rfl ?_
      cases h
      exact z_rZ dX3_endsWell_33 rfl rfl
    · replace h := (if_neg g5).symm.trans h
      refine z_ic kc_p0 dX3_endsWell_32 ?_
      cases h
      exact z_rZ dX3_endsWell_33 rfl rfl
  · replace h := (if_neg g1).symm.trans h
    refine z_aload_n dX3_endsWell_8 rfl ?_
    refine z_ic kc_p1 dX3_endsWell_9 ?_
    refine z_aload_n dX3_endsWell_10 rfl ?_
    refine z_gI (v := (M 79 4)) fl_X3_18 dX3_endsWell_11 en_79 rfl rfl ?_
    obtain ⟨M8, c6, h⟩ := z_bv_c h
    refine z_cV (av := [.int (1 : Int32), .int (M 79 4)]) (st := []) lk_X3_88 dX3_endsWell_14 (A_X3_fail_79 (d := d + 1) hl c6) rfl rfl en_79 rfl (Nat.le_of_ble_eq_true rfl) rfl z_len rfl rfl ?_
    refine z_aload_n dX3_endsWell_17 rfl ?_
    obtain ⟨M11, c9, h⟩ := z_bv_c h
    refine z_cV (av := []) (st := []) lk_X3_59 dX3_endsWell_18 (A_X3_step_79 (d := d + 0) hl c9) rfl rfl en_79 rfl (Nat.le_of_ble_eq_true rfl) rfl z_len rfl rfl ?_
    refine z_aload_n dX3_endsWell_21 rfl ?_
    refine z_gI (v := (M11 79 9)) fl_X3_34 dX3_endsWell_22 en_79 rfl rfl ?_
    refine z_if_ne (tgt := 32) dX3_endsWell_25 rfl (fun g12 => ?_) (fun g12 => ?_)
    · replace h := (if_pos g12).symm.trans h
      refine z_ic kc_p1 dX3_endsWell_28 ?_
      refine z_goto (tgt := 33) dX3_endsWell_29 rfl ?_
      cases h
      exact z_rZ dX3_endsWell_33 rfl rfl
    · replace h := (if_neg g12).symm.trans h
      refine z_ic kc_p0 dX3_endsWell_32 ?_
      cases h
      exact z_rZ dX3_endsWell_33 rfl rfl
/-! X3_readTroupe 79 -/
def f_X3_readTroupe_79_p16 (M : zMM) : Option zMM :=
  z_bv (f_X3_step_79  M) fun M4 =>
  z_bi (f_X3_takeNumber_79 (1 : Int32) (40 : Int32) M4) fun v6 M7 =>
  z_bi (f_X3_endsWell_79  M7) fun v9 M10 =>
  if v9 = 0 then
    some M10
  else
    some (z_up (z_up M10 66 16 v6) 79 8 (1 : Int32))
def f_X3_readTroupe_79  (M : zMM) : Option zMM :=
  if (M 79 8) = 0 then
    f_X3_readTroupe_79_p16  M
  else
    z_bv (f_X3_fail_79 (5 : Int32) (M 79 4) M) fun M14 =>
    f_X3_readTroupe_79_p16  M14
theorem A_X3_readTroupe_79_p16 {l : Launch} (hl : l.stackTraces = false) {Ls d : Nat} {Lm : zML} :
    ∀ (M M' : zMM) , f_X3_readTroupe_79_p16  M = some M' → z_AW l mX3_readTroupe (d + 3) 0 0 16 [.ref 79, .null] [] (z_L0 Ls, M, Lm) (.inl none) (z_L0 Ls, M', Lm) := by
  intro  M M' h
  replace h : (  z_bv (f_X3_step_79  M) fun M4 =>
  z_bi (f_X3_takeNumber_79 (1 : Int32) (40 : Int32) M4) fun v6 M7 =>
  z_bi (f_X3_endsWell_79  M7) fun v9 M10 =>
  if v9 = 0 then
    some M10
  else
    some (z_up (z_up M10 66 16 v6) 79 8 (1 : Int32))) = some M' := h
  refine z_aload_n dX3_readTroupe_16 rfl ?_
  obtain ⟨M4, c2, h⟩ := z_bv_c h
  refine z_cV (av := []) (st := []) lk_X3_59 dX3_readTroupe_17 (A_X3_step_79 (d := d + 1) hl c2) rfl rfl en_79 rfl (Nat.le_of_ble_eq_true rfl) rfl z_len rfl rfl ?_
  refine z_aload_n dX3_readTroupe_20 rfl ?_
  refine z_ic kc_p1 dX3_readTroupe_21 ?_
  refine z_bp kb_p40 dX3_readTroupe_22 ?_
  obtain ⟨v6, M7, c5, h⟩ := z_bi_c h
  refine z_cV (av := [.int (1 : Int32), .int (40 : Int32)]) (st := []) lk_X3_140 dX3_readTroupe_24 (A_X3_takeNumber_79 (d := d + 0) hl c5) rfl rfl en_79 rfl (Nat.le_of_ble_eq_true rfl) rfl z_len rfl rfl ?_
  refine z_istore_n (ls' := [.ref 79, .int v6]) dX3_readTroupe_27 (by decide) rfl ?_
  refine z_aload_n dX3_readTroupe_28 rfl ?_
  obtain ⟨v9, M10, c8, h⟩ := z_bi_c h
  refine z_cV (av := []) (st := []) lk_X3_145 dX3_readTroupe_29 (A_X3_endsWell_79 (d := d + 0) hl c8) rfl rfl en_79 rfl (Nat.le_of_ble_eq_true rfl) rfl z_len rfl rfl ?_
  refine z_if_eq (tgt := 48) dX3_readTroupe_32 rfl (fun g11 => ?_) (fun g11 => ?_)
  · replace h := (if_pos g11).symm.trans h
    cases h
    exact z_return dX3_readTroupe_48 rfl
  · replace h := (if_neg g11).symm.trans h
    refine z_aload_n dX3_readTroupe_35 rfl ?_
    refine z_getR (q := 66) fl_X3_44 dX3_readTroupe_36 en_79 rfl ?_
    refine z_iload_n dX3_readTroupe_39 rfl ?_
    refine z_pI fp_X3_214 dX3_readTroupe_40 (by decide) en_66 rfl ?_
    refine z_aload_n dX3_readTroupe_43 rfl ?_
    refine z_ic kc_p1 dX3_readTroupe_44 ?_
    refine z_pZ fp_X3_30 dX3_readTroupe_45 (by decide) en_79 rfl rfl ?_
    cases h
    exact z_return dX3_readTroupe_48 rfl
theorem A_X3_readTroupe_79 {l : Launch} (hl : l.stackTraces = false) {Ls d : Nat} {Lm : zML}  {M M' : zMM} (h : f_X3_readTroupe_79  M = some M') : z_Ct l mX3_readTroupe (d + 3) 0 0 [.ref 79] (z_L0 Ls, M, Lm) (.inl none) (z_L0 Ls, M', Lm) := by
  replace h : (  if (M 79 8) = 0 then
    f_X3_readTroupe_79_p16  M
  else
    z_bv (f_X3_fail_79 (5 : Int32) (M 79 4) M) fun M14 =>
    f_X3_readTroupe_79_p16  M14) = some M' := h
  refine z_Ct.of hl (by decide) (Nat.le_of_ble_eq_true rfl) rfl ?_
  show z_AW l mX3_readTroupe (d + 3) 0 0 0 [.ref 79, .null] [] (z_L0 Ls, M, Lm) (.inl none) (z_L0 Ls, M', Lm)
  refine z_aload_n dX3_readTroupe_0 rfl ?_
  refine z_gI (v := (M 79 8)) fl_X3_30 dX3_readTroupe_1 en_79 rfl rfl ?_
  refine z_if_eq (tgt := 16) dX3_readTroupe_4 rfl (fun g1 => ?_) (fun g1 => ?_)
  · replace h := (if_pos g1).symm.trans h
    exact A_X3_readTroupe_79_p16 hl  _ _ h
  · replace h := (if_neg g1).symm.trans h
    refine z_aload_n dX3_readTroupe_7 rfl ?_
    refine z_ic kc_p5 dX3_readTroupe_8 ?_
    refine z_aload_n dX3_readTroupe_9 rfl ?_
    refine z_gI (v := (M 79 4)) fl_X3_18 dX3_readTroupe_10 en_79 rfl rfl ?_
    obtain ⟨M14, c12, h⟩ := z_bv_c h
    refine z_cV (av := [.int (5 : Int32), .int (M 79 4)]) (st := []) lk_X3_88 dX3_readTroupe_13 (A_X3_fail_79 (d := d + 2) hl c12) rfl rfl en_79 rfl (Nat.le_of_ble_eq_true rfl) rfl z_len rfl rfl ?_
    exact A_X3_readTroupe_79_p16 hl  _ _ h
/-! X5_shameOf 66 -/
def f_X5_shameOf_66 (x1 : Int32) (x2 : Int32) (M : zMM) : Option (Int32 × zMM) :=
  some ((z_at M 78 400 ((x1 * (20 : Int32)) + x2)), M)
theorem A_X5_shameOf_66 {l : Launch} (hl : l.stackTraces = false) {Ls d : Nat} {Lm : zML} {x1 : Int32} {x2 : Int32} {M M' : zMM} {v : Int32} (h : f_X5_shameOf_66 x1 x2 M = some (v, M')) : z_Ct l mX5_shameOf (d + 1) 0 0 [.ref 66, .int x1, .int x2] (z_L0 Ls, M, Lm) (.inl (some (.int v))) (z_L0 Ls, M', Lm) := by
  replace h : (  some ((z_at M 78 400 ((x1 * (20 : Int32)) + x2)), M)) = some (v, M') := h
  refine z_Ct.of hl (by decide) (Nat.le_of_ble_eq_true rfl) rfl ?_
  show z_AW l mX5_shameOf (d + 1) 0 0 0 [.ref 66, .int x1, .int x2] [] (z_L0 Ls, M, Lm) (.inl (some (.int v))) (z_L0 Ls, M', Lm)
  refine z_aload_n dX5_shameOf_0 rfl ?_
  refine z_getR (q := 78) fl_X5_45 dX5_shameOf_1 en_66 rfl ?_
  refine z_iload_n dX5_shameOf_4 rfl ?_
  refine z_bp kb_p20 dX5_shameOf_5 ?_
  refine z_imul dX5_shameOf_7 ?_
  refine z_iload_n dX5_shameOf_8 rfl ?_
  refine z_iadd dX5_shameOf_9 ?_
  refine z_cN (av := [.ref 78, .int ((x1 * (20 : Int32)) + x2)]) (st := []) (v := some (.int (z_at M 78 400 ((x1 * (20 : Int32)) + x2)))) lk_X5_81 dX5_shameOf_10 (A_X7_at (d := d + 0) hl (by decide) en_78) rfl rfl (Nat.le_of_ble_eq_true rfl) rfl z_len rfl rfl ?_
  cases h
  exact z_rI dX5_shameOf_13 rfl
/-! X3_readLike 79 -/
def f_X3_readLike_79_p42 (x1 : Int32) (x2 : Int32) (M : zMM) : Option zMM :=
  z_bi (f_X3_takeNumber_79 (0 : Int32) (99 : Int32) M) fun v15 M16 =>
  z_bi (f_X3_endsWell_79  M16) fun v18 M19 =>
  if v18 = 0 then
    some M19
  else
    z_bv (some (z_pt M19 78 400 ((x1 * (20 : Int32)) + x2) v15)) fun M22 =>
    some M22
def f_X3_readLike_79  (M : zMM) : Option zMM :=
  z_bv (f_X3_step_79  M) fun M3 =>
  z_bi (f_X3_takeNumber_79 (0 : Int32) (19 : Int32) M3) fun v5 M6 =>
  z_bi (f_X3_takeNumber_79 (0 : Int32) (19 : Int32) M6) fun v8 M9 =>
  z_bi (f_X5_shameOf_66 v5 v8 M9) fun v11 M12 =>
  if v11 = (-1 : Int32) then
    f_X3_readLike_79_p42 v5 v8 M12
  else
    z_bv (f_X3_fail_79 (4 : Int32) (M12 79 7) M12) fun M25 =>
    f_X3_readLike_79_p42 v5 v8 M25
theorem A_X3_readLike_79_p42 {l : Launch} (hl : l.stackTraces = false) {Ls d : Nat} {Lm : zML} :
    ∀ (x1 : Int32) (x2 : Int32) (M M' : zMM) , f_X3_readLike_79_p42 x1 x2 M = some M' → z_AW l mX3_readLike (d + 3) 0 0 42 [.ref 79, .int x1, .int x2, .null] [] (z_L0 Ls, M, Lm) (.inl none) (z_L0 Ls, M', Lm) := by
  intro x1 x2 M M' h
  replace h : (  z_bi (f_X3_takeNumber_79 (0 : Int32) (99 : Int32) M) fun v15 M16 =>
  z_bi (f_X3_endsWell_79  M16) fun v18 M19 =>
  if v18 = 0 then
    some M19
  else
    z_bv (some (z_pt M19 78 400 ((x1 * (20 : Int32)) + x2) v15)) fun M22 =>
    some M22) = some M' := h
  refine z_aload_n dX3_readLike_42 rfl ?_
  refine z_ic kc_p0 dX3_readLike_43 ?_
  refine z_bp kb_p99 dX3_readLike_44 ?_
  obtain ⟨v15, M16, c14, h⟩ := z_bi_c h
  refine z_cV (av := [.int (0 : Int32), .int (99 : Int32)]) (st := []) lk_X3_140 dX3_readLike_46 (A_X3_takeNumber_79 (d := d + 0) hl c14) rfl rfl en_79 rfl (Nat.le_of_ble_eq_true rfl) rfl z_len rfl rfl ?_
  refine z_istore_n (ls' := [.ref 79, .int x1, .int x2, .int v15]) dX3_readLike_49 (by decide) rfl ?_
  refine z_aload_n dX3_readLike_50 rfl ?_
  obtain ⟨v18, M19, c17, h⟩ := z_bi_c h
  refine z_cV (av := []) (st := []) lk_X3_145 dX3_readLike_51 (A_X3_endsWell_79 (d := d + 0) hl c17) rfl rfl en_79 rfl (Nat.le_of_ble_eq_true rfl) rfl z_len rfl rfl ?_
  refine z_if_eq (tgt := 74) dX3_readLike_54 rfl (fun g20 => ?_) (fun g20 => ?_)
  · replace h := (if_pos g20).symm.trans h
    cases h
    exact z_return dX3_readLike_74 rfl
  · replace h := (if_neg g20).symm.trans h
    refine z_aload_n dX3_readLike_57 rfl ?_
    refine z_getR (q := 66) fl_X3_44 dX3_readLike_58 en_79 rfl ?_
    refine z_getR (q := 78) fl_X3_211 dX3_readLike_61 en_66 rfl ?_
    refine z_iload_n dX3_readLike_64 rfl ?_
    refine z_bp kb_p20 dX3_readLike_65 ?_
    refine z_imul dX3_readLike_67 ?_
    refine z_iload_n dX3_readLike_68 rfl ?_
    refine z_iadd dX3_readLike_69 ?_
    refine z_iload_n dX3_readLike_70 rfl ?_
    obtain ⟨M22, c21, h⟩ := z_bv_c h
    refine z_cN (av := [.ref 78, .int ((x1 * (20 : Int32)) + x2), .int v15]) (st := []) lk_X3_153 dX3_readLike_71 (z_Ct.to (A_X7_put (d := d + 2) hl (by decide) (by decide) en_78) c21) rfl rfl (Nat.le_of_ble_eq_true rfl) rfl z_len rfl rfl ?_
    cases h
    exact z_return dX3_readLike_74 rfl
theorem A_X3_readLike_79 {l : Launch} (hl : l.stackTraces = false) {Ls d : Nat} {Lm : zML}  {M M' : zMM} (h : f_X3_readLike_79  M = some M') : z_Ct l mX3_readLike (d + 3) 0 0 [.ref 79] (z_L0 Ls, M, Lm) (.inl none) (z_L0 Ls, M', Lm) := by
  replace h : (  z_bv (f_X3_step_79  M) fun M3 =>
  z_bi (f_X3_takeNumber_79 (0 : Int32) (19 : Int32) M3) fun v5 M6 =>
  z_bi (f_X3_takeNumber_79 (0 : Int32) (19 : Int32) M6) fun v8 M9 =>
  z_bi (f_X5_shameOf_66 v5 v8 M9) fun v11 M12 =>
  if v11 = (-1 : Int32) then
    f_X3_readLike_79_p42 v5 v8 M12
  else
    z_bv (f_X3_fail_79 (4 : Int32) (M12 79 7) M12) fun M25 =>
    f_X3_readLike_79_p42 v5 v8 M25) = some M' := h
  refine z_Ct.of hl (by decide) (Nat.le_of_ble_eq_true rfl) rfl ?_
  show z_AW l mX3_readLike (d + 3) 0 0 0 [.ref 79, .null, .null, .null] [] (z_L0 Ls, M, Lm) (.inl none) (z_L0 Ls, M', Lm)
  refine z_aload_n dX3_readLike_0 rfl ?_
  obtain ⟨M3, c1, h⟩ := z_bv_c h
  refine z_cV (av := []) (st := []) lk_X3_59 dX3_readLike_1 (A_X3_step_79 (d := d + 1) hl c1) rfl rfl en_79 rfl (Nat.le_of_ble_eq_true rfl) rfl z_len rfl rfl ?_
  refine z_aload_n dX3_readLike_4 rfl ?_
  refine z_ic kc_p0 dX3_readLike_5 ?_
  refine z_bp kb_p19 dX3_readLike_6 ?_
  obtain ⟨v5, M6, c4, h⟩ := z_bi_c h
  refine z_cV (av := [.int (0 : Int32), .int (19 : Int32)]) (st := []) lk_X3_140 dX3_readLike_8 (A_X3_takeNumber_79 (d := d + 0) hl c4) rfl rfl en_79 rfl (Nat.le_of_ble_eq_true rfl) rfl z_len rfl rfl ?_
  refine z_istore_n (ls' := [.ref 79, .int v5, .null, .null]) dX3_readLike_11 (by decide) rfl ?_
  refine z_aload_n dX3_readLike_12 rfl ?_
  refine z_ic kc_p0 dX3_readLike_13 ?_
  refine z_bp kb_p19 dX3_readLike_14 ?_
  obtain ⟨v8, M9, c7, h⟩ := z_bi_c h
  refine z_cV (av := [.int (0 : Int32), .int (19 : Int32)]) (st := []) lk_X3_140 dX3_readLike_16 (A_X3_takeNumber_79 (d := d + 0) hl c7) rfl rfl en_79 rfl (Nat.le_of_ble_eq_true rfl) rfl z_len rfl rfl ?_
  refine z_istore_n (ls' := [.ref 79, .int v5, .int v8, .null]) dX3_readLike_19 (by decide) rfl ?_
  refine z_aload_n dX3_readLike_20 rfl ?_
  refine z_getR (q := 66) fl_X3_44 dX3_readLike_21 en_79 rfl ?_
  refine z_iload_n dX3_readLike_24 rfl ?_
  refine z_iload_n dX3_readLike_25 rfl ?_
  obtain ⟨v11, M12, c10, h⟩ := z_bi_c h
  refine z_cV (av := [.int v5, .int v8]) (st := []) lk_X3_208 dX3_readLike_26 (A_X5_shameOf_66 (d := d + 1) hl c10) rfl rfl en_66 rfl (Nat.le_of_ble_eq_true rfl) rfl z_len rfl rfl ?_
  refine z_ic kc_m1 dX3_readLike_29 ?_
  refine z_icmp_eq (tgt := 42) dX3_readLike_30 rfl (fun g13 => ?_) (fun g13 => ?_)
  · replace h := (if_pos g13).symm.trans h
    exact A_X3_readLike_79_p42 hl v5 v8 _ _ h
  · replace h := (if_neg g13).symm.trans h
    refine z_aload_n dX3_readLike_33 rfl ?_
    refine z_ic kc_p4 dX3_readLike_34 ?_
    refine z_aload_n dX3_readLike_35 rfl ?_
    refine z_gI (v := (M12 79 7)) fl_X3_27 dX3_readLike_36 en_79 rfl rfl ?_
    obtain ⟨M25, c23, h⟩ := z_bv_c h
    refine z_cV (av := [.int (4 : Int32), .int (M12 79 7)]) (st := []) lk_X3_88 dX3_readLike_39 (A_X3_fail_79 (d := d + 2) hl c23) rfl rfl en_79 rfl (Nat.le_of_ble_eq_true rfl) rfl z_len rfl rfl ?_
    exact A_X3_readLike_79_p42 hl v5 v8 _ _ h
/-! X3_takeHead 79 -/
def f_X3_takeHead_79 (x1 : Int32) (x2 : Int32) (M : zMM) : Option zMM :=
  if x1 < x2 then
    z_bv (f_X3_step_79  M) fun M4 =>
    some M4
  else
    z_bv (f_X3_fail_79 (2 : Int32) (M 79 4) M) fun M7 =>
    z_bv (f_X3_step_79  M7) fun M10 =>
    some M10
theorem A_X3_takeHead_79 {l : Launch} (hl : l.stackTraces = false) {Ls d : Nat} {Lm : zML} {x1 : Int32} {x2 : Int32} {M M' : zMM} (h : f_X3_takeHead_79 x1 x2 M = some M') : z_Ct l mX3_takeHead (d + 2) 0 0 [.ref 79, .int x1, .int x2] (z_L0 Ls, M, Lm) (.inl none) (z_L0 Ls, M', Lm) := by
  replace h : (  if x1 < x2 then
    z_bv (f_X3_step_79  M) fun M4 =>
    some M4
  else
    z_bv (f_X3_fail_79 (2 : Int32) (M 79 4) M) fun M7 =>
    z_bv (f_X3_step_79  M7) fun M10 =>
    some M10) = some M' := h
  refine z_Ct.of hl (by decide) (Nat.le_of_ble_eq_true rfl) rfl ?_
  show z_AW l mX3_takeHead (d + 2) 0 0 0 [.ref 79, .int x1, .int x2] [] (z_L0 Ls, M, Lm) (.inl none) (z_L0 Ls, M', Lm)
  refine z_iload_n dX3_takeHead_0 rfl ?_
  refine z_iload_n dX3_takeHead_1 rfl ?_
  refine z_icmp_lt (tgt := 14) dX3_takeHead_2 rfl (fun g1 => ?_) (fun g1 => ?_)
  · replace h := (if_pos g1).symm.trans h
    refine z_aload_n dX3_takeHead_14 rfl ?_
    obtain ⟨M4, c2, h⟩ := z_bv_c h
    refine z_cV (av := []) (st := []) lk_X3_59 dX3_takeHead_15 (A_X3_step_79 (d := d + 0) hl c2) rfl rfl en_79 rfl (Nat.le_of_ble_eq_true rfl) rfl z_len rfl rfl ?_
    cases h
    exact z_return dX3_takeHead_18 rfl
  · replace h := (if_neg g1).symm.trans h
    refine z_aload_n dX3_takeHead_5 rfl ?_
    refine z_ic kc_p2 dX3_takeHead_6 ?_
    refine z_aload_n dX3_takeHead_7 rfl ?_
    refine z_gI (v := (M 79 4)) fl_X3_18 dX3_takeHead_8 en_79 rfl rfl ?_
    obtain ⟨M7, c5, h⟩ := z_bv_c h
    refine z_cV (av := [.int (2 : Int32), .int (M 79 4)]) (st := []) lk_X3_88 dX3_takeHead_11 (A_X3_fail_79 (d := d + 1) hl c5) rfl rfl en_79 rfl (Nat.le_of_ble_eq_true rfl) rfl z_len rfl rfl ?_
    refine z_aload_n dX3_takeHead_14 rfl ?_
    obtain ⟨M10, c8, h⟩ := z_bv_c h
    refine z_cV (av := []) (st := []) lk_X3_59 dX3_takeHead_15 (A_X3_step_79 (d := d + 0) hl c8) rfl rfl en_79 rfl (Nat.le_of_ble_eq_true rfl) rfl z_len rfl rfl ?_
    cases h
    exact z_return dX3_takeHead_18 rfl
/-! X3_readPlay 79 -/
def f_X3_readPlay_79_p83 (x1 : Int32) (x2 : Int32) (M : zMM) : Option zMM :=
  z_bi (f_X3_endsWell_79  M) fun v18 M19 =>
  if v18 = 0 then
    some M19
  else
    z_bv (some (z_pt M19 75 4 (M19 66 11) x1)) fun M22 =>
    z_bv (some (z_pt M22 76 4 (M22 66 11) x2)) fun M24 =>
    some (z_up M24 66 11 ((M24 66 11) + (1 : Int32)))
def f_X3_readPlay_79_p66 (x1 : Int32) (x2 : Int32) (M : zMM) : Option zMM :=
  if (M 79 3) = (2 : Int32) then
    z_bv (f_X3_fail_79 (2 : Int32) (M 79 4) M) fun M16 =>
    f_X3_readPlay_79_p83 x1 x2 M16
  else
    f_X3_readPlay_79_p83 x1 x2 M
def f_X3_readPlay_79_p22 : Nat → Int32 → Int32 → zMM → Option zMM
  | 0, _, _, _ => none
  | n + 1, x1, x2, M =>
  z_bi (f_X3_takeNumber_79 (0 : Int32) (19 : Int32) M) fun v8 M9 =>
  z_bv (some (z_pt M9 77 16 (((M 66 11) * (4 : Int32)) + x2) v8)) fun M11 =>
  if (4 : Int32) ≤ (x2 + (1 : Int32)) then
    f_X3_readPlay_79_p66 x1 (x2 + (1 : Int32)) M11
  else
    if (M11 79 3) = (2 : Int32) then
      f_X3_readPlay_79_p22 n x1 (x2 + (1 : Int32)) M11
    else
      f_X3_readPlay_79_p66 x1 (x2 + (1 : Int32)) M11
def f_X3_readPlay_79  (M : zMM) : Option zMM :=
  z_bv (f_X3_takeHead_79 (M 66 11) (4 : Int32) M) fun M3 =>
  z_bi (f_X3_takeNumber_79 (1 : Int32) (20 : Int32) M3) fun v5 M6 =>
  f_X3_readPlay_79_p22 z_fuel v5 (0 : Int32) M6
theorem A_X3_readPlay_79_p83 {l : Launch} (hl : l.stackTraces = false) {Ls d : Nat} {Lm : zML} :
    ∀ (x1 : Int32) (x2 : Int32) (M M' : zMM) , f_X3_readPlay_79_p83 x1 x2 M = some M' → z_AW l mX3_readPlay (d + 3) 0 0 83 [.ref 79, .int x1, .int x2] [] (z_L0 Ls, M, Lm) (.inl none) (z_L0 Ls, M', Lm) := by
  intro x1 x2 M M' h
  replace h : (  z_bi (f_X3_endsWell_79  M) fun v18 M19 =>
  if v18 = 0 then
    some M19
  else
    z_bv (some (z_pt M19 75 4 (M19 66 11) x1)) fun M22 =>
    z_bv (some (z_pt M22 76 4 (M22 66 11) x2)) fun M24 =>
    some (z_up M24 66 11 ((M24 66 11) + (1 : Int32)))) = some M' := h
  refine z_aload_n dX3_readPlay_83 rfl ?_
  obtain ⟨v18, M19, c17, h⟩ := z_bi_c h
  refine z_cV (av := []) (st := []) lk_X3_145 dX3_readPlay_84 (A_X3_endsWell_79 (d := d + 0) hl c17) rfl rfl en_79 rfl (Nat.le_of_ble_eq_true rfl) rfl z_len rfl rfl ?_
  refine z_if_eq (tgt := 139) dX3_readPlay_87 rfl (fun g20 => ?_) (fun g20 => ?_)
  · replace h := (if_pos g20).symm.trans h
    cases h
    exact z_return dX3_readPlay_139 rfl
  · replace h := (if_neg g20).symm.trans h
    refine z_aload_n dX3_readPlay_90 rfl ?_
    refine z_getR (q := 66) fl_X3_44 dX3_readPlay_91 en_79 rfl ?_
    refine z_getR (q := 75) fl_X3_202 dX3_readPlay_94 en_66 rfl ?_
    refine z_aload_n dX3_readPlay_97 rfl ?_
    refine z_getR (q := 66) fl_X3_44 dX3_readPlay_98 en_79 rfl ?_
    refine z_gI (v := (M19 66 11)) fl_X3_196 dX3_readPlay_101 en_66 rfl rfl ?_
    refine z_iload_n dX3_readPlay_104 rfl ?_
    obtain ⟨M22, c21, h⟩ := z_bv_c h
    refine z_cN (av := [.ref 75, .int (M19 66 11), .int x1]) (st := []) lk_X3_153 dX3_readPlay_105 (z_Ct.to (A_X7_put (d := d + 2) hl (by decide) (by decide) en_75) c21) rfl rfl (Nat.le_of_ble_eq_true rfl) rfl z_len rfl rfl ?_
    refine z_aload_n dX3_readPlay_108 rfl ?_
    refine z_getR (q := 66) fl_X3_44 dX3_readPlay_109 en_79 rfl ?_
    refine z_getR (q := 76) fl_X3_205 dX3_readPlay_112 en_66 rfl ?_
    refine z_aload_n dX3_readPlay_115 rfl ?_
    refine z_getR (q := 66) fl_X3_44 dX3_readPlay_116 en_79 rfl ?_
    refine z_gI (v := (M22 66 11)) fl_X3_196 dX3_readPlay_119 en_66 rfl rfl ?_
    refine z_iload_n dX3_readPlay_122 rfl ?_
    obtain ⟨M24, c23, h⟩ := z_bv_c h
    refine z_cN (av := [.ref 76, .int (M22 66 11), .int x2]) (st := []) lk_X3_153 dX3_readPlay_123 (z_Ct.to (A_X7_put (d := d + 2) hl (by decide) (by decide) en_76) c23) rfl rfl (Nat.le_of_ble_eq_true rfl) rfl z_len rfl rfl ?_
    refine z_aload_n dX3_readPlay_126 rfl ?_
    refine z_getR (q := 66) fl_X3_44 dX3_readPlay_127 en_79 rfl ?_
    refine z_dup dX3_readPlay_130 rfl ?_
    refine z_gI (v := (M24 66 11)) fl_X3_196 dX3_readPlay_131 en_66 rfl rfl ?_
    refine z_ic kc_p1 dX3_readPlay_134 ?_
    refine z_iadd dX3_readPlay_135 ?_
    refine z_pI fp_X3_196 dX3_readPlay_136 (by decide) en_66 rfl ?_
    cases h
    exact z_return dX3_readPlay_139 rfl
theorem A_X3_readPlay_79_p66 {l : Launch} (hl : l.stackTraces = false) {Ls d : Nat} {Lm : zML} :
    ∀ (x1 : Int32) (x2 : Int32) (M M' : zMM) , f_X3_readPlay_79_p66 x1 x2 M = some M' → z_AW l mX3_readPlay (d + 3) 0 0 66 [.ref 79, .int x1, .int x2] [] (z_L0 Ls, M, Lm) (.inl none) (z_L0 Ls, M', Lm) := by
  intro x1 x2 M M' h
  replace h : (  if (M 79 3) = (2 : Int32) then
    z_bv (f_X3_fail_79 (2 : Int32) (M 79 4) M) fun M16 =>
    f_X3_readPlay_79_p83 x1 x2 M16
  else
    f_X3_readPlay_79_p83 x1 x2 M) = some M' := h
  refine z_aload_n dX3_readPlay_66 rfl ?_
  refine z_gI (v := (M 79 3)) fl_X3_15 dX3_readPlay_67 en_79 rfl rfl ?_
  refine z_ic kc_p2 dX3_readPlay_70 ?_
  refine z_icmp_ne (tgt := 83) dX3_readPlay_71 rfl (fun g13 => ?_) (fun g13 => ?_)
  · replace h := (if_pos g13).symm.trans h
    refine z_aload_n dX3_readPlay_74 rfl ?_
    refine z_ic kc_p2 dX3_readPlay_75 ?_
    refine z_aload_n dX3_readPlay_76 rfl ?_
    refine z_gI (v := (M 79 4)) fl_X3_18 dX3_readPlay_77 en_79 rfl rfl ?_
    obtain ⟨M16, c14, h⟩ := z_bv_c h
    refine z_cV (av := [.int (2 : Int32), .int (M 79 4)]) (st := []) lk_X3_88 dX3_readPlay_80 (A_X3_fail_79 (d := d + 2) hl c14) rfl rfl en_79 rfl (Nat.le_of_ble_eq_true rfl) rfl z_len rfl rfl ?_
    exact A_X3_readPlay_79_p83 hl x1 x2 _ _ h
  · replace h := (if_neg g13).symm.trans h
    exact A_X3_readPlay_79_p83 hl x1 x2 _ _ h
theorem A_X3_readPlay_79_p22 {l : Launch} (hl : l.stackTraces = false) {Ls d : Nat} {Lm : zML} :
    ∀ (n : Nat) (x1 : Int32) (x2 : Int32) (M M' : zMM) , f_X3_readPlay_79_p22 n x1 x2 M = some M' → z_AW l mX3_readPlay (d + 3) 0 0 22 [.ref 79, .int x1, .int x2] [] (z_L0 Ls, M, Lm) (.inl none) (z_L0 Ls, M', Lm) := by
  intro n
  induction n with
  | zero => intro x1 x2 M M' h; cases h
  | succ n ih =>
    intro x1 x2 M M' h
    replace h : (  z_bi (f_X3_takeNumber_79 (0 : Int32) (19 : Int32) M) fun v8 M9 =>
  z_bv (some (z_pt M9 77 16 (((M 66 11) * (4 : Int32)) + x2) v8)) fun M11 =>
  if (4 : Int32) ≤ (x2 + (1 : Int32)) then
    f_X3_readPlay_79_p66 x1 (x2 + (1 : Int32)) M11
  else
    if (M11 79 3) = (2 : Int32) then
      f_X3_readPlay_79_p22 n x1 (x2 + (1 : Int32)) M11
    else
      f_X3_readPlay_79_p66 x1 (x2 + (1 : Int32)) M11) = some M' := h
    refine z_aload_n dX3_readPlay_22 rfl ?_
    refine z_getR (q := 66) fl_X3_44 dX3_readPlay_23 en_79 rfl ?_
    refine z_getR (q := 77) fl_X3_199 dX3_readPlay_26 en_66 rfl ?_
    refine z_aload_n dX3_readPlay_29 rfl ?_
    refine z_getR (q := 66) fl_X3_44 dX3_readPlay_30 en_79 rfl ?_
    refine z_gI (v := (M 66 11)) fl_X3_196 dX3_readPlay_33 en_66 rfl rfl ?_
    refine z_ic kc_p4 dX3_readPlay_36 ?_
    refine z_imul dX3_readPlay_37 ?_
    refine z_iload_n dX3_readPlay_38 rfl ?_
    refine z_iadd dX3_readPlay_39 ?_
    refine z_aload_n dX3_readPlay_40 rfl ?_
    refine z_ic kc_p0 dX3_readPlay_41 ?_
    refine z_bp kb_p19 dX3_readPlay_42 ?_
    obtain ⟨v8, M9, c7, h⟩ := z_bi_c h
    refine z_cV (av := [.int (0 : Int32), .int (19 : Int32)]) (st := [.int (((M 66 11) * (4 : Int32)) + x2), .ref 77]) lk_X3_140 dX3_readPlay_44 (A_X3_takeNumber_79 (d := d + 0) hl c7) rfl rfl en_79 rfl (Nat.le_of_ble_eq_true rfl) rfl z_len rfl rfl ?_
    obtain ⟨M11, c10, h⟩ := z_bv_c h
    refine z_cN (av := [.ref 77, .int (((M 66 11) * (4 : Int32)) + x2), .int v8]) (st := []) lk_X3_153 dX3_readPlay_47 (z_Ct.to (A_X7_put (d := d + 2) hl (by decide) (by decide) en_77) c10) rfl rfl (Nat.le_of_ble_eq_true rfl) rfl z_len rfl rfl ?_
    refine z_ii (ls' := [.ref 79, .int x1, .int (x2 + (1 : Int32))]) kc_p1 dX3_readPlay_50 rfl (by decide) rfl ?_
    refine z_iload_n dX3_readPlay_53 rfl ?_
    refine z_ic kc_p4 dX3_readPlay_54 ?_
    refine z_icmp_ge (tgt := 66) dX3_readPlay_55 rfl (fun g12 => ?_) (fun g12 => ?_)
    · replace h := (if_pos g12).symm.trans h
      exact A_X3_readPlay_79_p66 hl x1 (x2 + (1 : Int32)) _ _ h
    · replace h := (if_neg g12).symm.trans h
      refine z_aload_n dX3_readPlay_58 rfl ?_
      refine z_gI (v := (M11 79 3)) fl_X3_15 dX3_readPlay_59 en_79 rfl rfl ?_
      refine z_ic kc_p2 dX3_readPlay_62 ?_
      refine z_icmp_eq (tgt := 22) dX3_readPlay_63 rfl (fun g25 => ?_) (fun g25 => ?_)
      · replace h := (if_pos g25).symm.trans h
        exact ih x1 (x2 + (1 : Int32)) _ _ h
      · replace h := (if_neg g25).symm.trans h
        exact A_X3_readPlay_79_p66 hl x1 (x2 + (1 : Int32)) _ _ h
theorem A_X3_readPlay_79 {l : Launch} (hl : l.stackTraces = false) {Ls d : Nat} {Lm : zML}  {M M' : zMM} (h : f_X3_readPlay_79  M = some M') : z_Ct l mX3_readPlay (d + 3) 0 0 [.ref 79] (z_L0 Ls, M, Lm) (.inl none) (z_L0 Ls, M', Lm) := by
  replace h : (  z_bv (f_X3_takeHead_79 (M 66 11) (4 : Int32) M) fun M3 =>
  z_bi (f_X3_takeNumber_79 (1 : Int32) (20 : Int32) M3) fun v5 M6 =>
  f_X3_readPlay_79_p22 z_fuel v5 (0 : Int32) M6) = some M' := h
  refine z_Ct.of hl (by decide) (Nat.le_of_ble_eq_true rfl) rfl ?_
  show z_AW l mX3_readPlay (d + 3) 0 0 0 [.ref 79, .null, .null] [] (z_L0 Ls, M, Lm) (.inl none) (z_L0 Ls, M', Lm)
  refine z_aload_n dX3_readPlay_0 rfl ?_
  refine z_aload_n dX3_readPlay_1 rfl ?_
  refine z_getR (q := 66) fl_X3_44 dX3_readPlay_2 en_79 rfl ?_
  refine z_gI (v := (M 66 11)) fl_X3_196 dX3_readPlay_5 en_66 rfl rfl ?_
  refine z_ic kc_p4 dX3_readPlay_8 ?_
  obtain ⟨M3, c1, h⟩ := z_bv_c h
  refine z_cV (av := [.int (M 66 11), .int (4 : Int32)]) (st := []) lk_X3_134 dX3_readPlay_9 (A_X3_takeHead_79 (d := d + 0) hl c1) rfl rfl en_79 rfl (Nat.le_of_ble_eq_true rfl) rfl z_len rfl rfl ?_
  refine z_aload_n dX3_readPlay_12 rfl ?_
  refine z_ic kc_p1 dX3_readPlay_13 ?_
  refine z_bp kb_p20 dX3_readPlay_14 ?_
  obtain ⟨v5, M6, c4, h⟩ := z_bi_c h
  refine z_cV (av := [.int (1 : Int32), .int (20 : Int32)]) (st := []) lk_X3_140 dX3_readPlay_16 (A_X3_takeNumber_79 (d := d + 0) hl c4) rfl rfl en_79 rfl (Nat.le_of_ble_eq_true rfl) rfl z_len rfl rfl ?_
  refine z_istore_n (ls' := [.ref 79, .int v5, .null]) dX3_readPlay_19 (by decide) rfl ?_
  refine z_ic kc_p0 dX3_readPlay_20 ?_
  refine z_istore_n (ls' := [.ref 79, .int v5, .int (0 : Int32)]) dX3_readPlay_21 (by decide) rfl ?_
  exact A_X3_readPlay_79_p22 hl z_fuel v5 (0 : Int32) _ _ h
/-! X3_checkTold 79 -/
def f_X3_checkTold_79 (x1 : Int32) (x2 : Int32) (M : zMM) : Option zMM :=
  if x1 < x2 then
    some M
  else
    z_bv (f_X3_fail_79 (3 : Int32) (M 79 7) M) fun M4 =>
    some M4
theorem A_X3_checkTold_79 {l : Launch} (hl : l.stackTraces = false) {Ls d : Nat} {Lm : zML} {x1 : Int32} {x2 : Int32} {M M' : zMM} (h : f_X3_checkTold_79 x1 x2 M = some M') : z_Ct l mX3_checkTold (d + 1) 0 0 [.ref 79, .int x1, .int x2] (z_L0 Ls, M, Lm) (.inl none) (z_L0 Ls, M', Lm) := by
  replace h : (  if x1 < x2 then
    some M
  else
    z_bv (f_X3_fail_79 (3 : Int32) (M 79 7) M) fun M4 =>
    some M4) = some M' := h
  refine z_Ct.of hl (by decide) (Nat.le_of_ble_eq_true rfl) rfl ?_
  show z_AW l mX3_checkTold (d + 1) 0 0 0 [.ref 79, .int x1, .int x2] [] (z_L0 Ls, M, Lm) (.inl none) (z_L0 Ls, M', Lm)
  refine z_iload_n dX3_checkTold_0 rfl ?_
  refine z_iload_n dX3_checkTold_1 rfl ?_
  refine z_icmp_lt (tgt := 14) dX3_checkTold_2 rfl (fun g1 => ?_) (fun g1 => ?_)
  · replace h := (if_pos g1).symm.trans h
    cases h
    exact z_return dX3_checkTold_14 rfl
  · replace h := (if_neg g1).symm.trans h
    refine z_aload_n dX3_checkTold_5 rfl ?_
    refine z_ic kc_p3 dX3_checkTold_6 ?_
    refine z_aload_n dX3_checkTold_7 rfl ?_
    refine z_gI (v := (M 79 7)) fl_X3_27 dX3_checkTold_8 en_79 rfl rfl ?_
    obtain ⟨M4, c2, h⟩ := z_bv_c h
    refine z_cV (av := [.int (3 : Int32), .int (M 79 7)]) (st := []) lk_X3_88 dX3_checkTold_11 (A_X3_fail_79 (d := d + 0) hl c2) rfl rfl en_79 rfl (Nat.le_of_ble_eq_true rfl) rfl z_len rfl rfl ?_
    cases h
    exact z_return dX3_checkTold_14 rfl
/-! X3_readThing 79 -/
def f_X3_readThing_79  (M : zMM) : Option zMM :=
  z_bv (f_X3_takeHead_79 (M 66 8) (10 : Int32) M) fun M3 =>
  z_bi (f_X3_takeNumber_79 (0 : Int32) (19 : Int32) M3) fun v5 M6 =>
  z_bi (f_X3_takeNumber_79 (0 : Int32) (9999 : Int32) M6) fun v8 M9 =>
  z_bv (f_X3_checkTold_79 v8 (M9 66 6) M9) fun M12 =>
  z_bi (f_X3_endsWell_79  M12) fun v14 M15 =>
  if v14 = 0 then
    some M15
  else
    z_bv (some (z_pt M15 73 10 (M15 66 8) v5)) fun M18 =>
    z_bv (some (z_pt M18 74 10 (M18 66 8) v8)) fun M20 =>
    some (z_up M20 66 8 ((M20 66 8) + (1 : Int32)))
theorem A_X3_readThing_79 {l : Launch} (hl : l.stackTraces = false) {Ls d : Nat} {Lm : zML}  {M M' : zMM} (h : f_X3_readThing_79  M = some M') : z_Ct l mX3_readThing (d + 3) 0 0 [.ref 79] (z_L0 Ls, M, Lm) (.inl none) (z_L0 Ls, M', Lm) := by
  replace h : (  z_bv (f_X3_takeHead_79 (M 66 8) (10 : Int32) M) fun M3 =>
  z_bi (f_X3_takeNumber_79 (0 : Int32) (19 : Int32) M3) fun v5 M6 =>
  z_bi (f_X3_takeNumber_79 (0 : Int32) (9999 : Int32) M6) fun v8 M9 =>
  z_bv (f_X3_checkTold_79 v8 (M9 66 6) M9) fun M12 =>
  z_bi (f_X3_endsWell_79  M12) fun v14 M15 =>
  if v14 = 0 then
    some M15
  else
    z_bv (some (z_pt M15 73 10 (M15 66 8) v5)) fun M18 =>
    z_bv (some (z_pt M18 74 10 (M18 66 8) v8)) fun M20 =>
    some (z_up M20 66 8 ((M20 66 8) + (1 : Int32)))) = some M' := h
  refine z_Ct.of hl (by decide) (Nat.le_of_ble_eq_true rfl) rfl ?_
  show z_AW l mX3_readThing (d + 3) 0 0 0 [.ref 79, .null, .null] [] (z_L0 Ls, M, Lm) (.inl none) (z_L0 Ls, M', Lm)
  refine z_aload_n dX3_readThing_0 rfl ?_
  refine z_aload_n dX3_readThing_1 rfl ?_
  refine z_getR (q := 66) fl_X3_44 dX3_readThing_2 en_79 rfl ?_
  refine z_gI (v := (M 66 8)) fl_X3_187 dX3_readThing_5 en_66 rfl rfl ?_
  refine z_bp kb_p10 dX3_readThing_8 ?_
  obtain ⟨M3, c1, h⟩ := z_bv_c h
  refine z_cV (av := [.int (M 66 8), .int (10 : Int32)]) (st := []) lk_X3_134 dX3_readThing_10 (A_X3_takeHead_79 (d := d + 0) hl c1) rfl rfl en_79 rfl (Nat.le_of_ble_eq_true rfl) rfl z_len rfl rfl ?_
  refine z_aload_n dX3_readThing_13 rfl ?_
  refine z_ic kc_p0 dX3_readThing_14 ?_
  refine z_bp kb_p19 dX3_readThing_15 ?_
  obtain ⟨v5, M6, c4, h⟩ := z_bi_c h
  refine z_cV (av := [.int (0 : Int32), .int (19 : Int32)]) (st := []) lk_X3_140 dX3_readThing_17 (A_X3_takeNumber_79 (d := d + 0) hl c4) rfl rfl en_79 rfl (Nat.le_of_ble_eq_true rfl) rfl z_len rfl rfl ?_
  refine z_istore_n (ls' := [.ref 79, .int v5, .null]) dX3_readThing_20 (by decide) rfl ?_
  refine z_aload_n dX3_readThing_21 rfl ?_
  refine z_ic kc_p0 dX3_readThing_22 ?_
  refine z_sp ks_p9999 dX3_readThing_23 ?_
  obtain ⟨v8, M9, c7, h⟩ := z_bi_c h
  refine z_cV (av := [.int (0 : Int32), .int (9999 : Int32)]) (st := []) lk_X3_140 dX3_readThing_26 (A_X3_takeNumber_79 (d := d + 0) hl c7) rfl rfl en_79 rfl (Nat.le_of_ble_eq_true rfl) rfl z_len rfl rfl ?_
  refine z_istore_n (ls' := [.ref 79, .int v5, .int v8]) dX3_readThing_29 (by decide) rfl ?_
  refine z_aload_n dX3_readThing_30 rfl ?_
  refine z_iload_n dX3_readThing_31 rfl ?_
  refine z_aload_n dX3_readThing_32 rfl ?_
  refine z_getR (q := 66) fl_X3_44 dX3_readThing_33 en_79 rfl ?_
  refine z_gI (v := (M9 66 6)) fl_X3_181 dX3_readThing_36 en_66 rfl rfl ?_
  obtain ⟨M12, c10, h⟩ := z_bv_c h
  refine z_cV (av := [.int v8, .int (M9 66 6)]) (st := []) lk_X3_173 dX3_readThing_39 (A_X3_checkTold_79 (d := d + 1) hl c10) rfl rfl en_79 rfl (Nat.le_of_ble_eq_true rfl) rfl z_len rfl rfl ?_
  refine z_aload_n dX3_readThing_42 rfl ?_
  obtain ⟨v14, M15, c13, h⟩ := z_bi_c h
  refine z_cV (av := []) (st := []) lk_X3_145 dX3_readThing_43 (A_X3_endsWell_79 (d := d + 0) hl c13) rfl rfl en_79 rfl (Nat.le_of_ble_eq_true rfl) rfl z_len rfl rfl ?_
  refine z_if_eq (tgt := 98) dX3_readThing_46 rfl (fun g16 => ?_) (fun g16 => ?_)
  · replace h := (if_pos g16).symm.trans h
    cases h
    exact z_return dX3_readThing_98 rfl
  · replace h := (if_neg g16).symm.trans h
    refine z_aload_n dX3_readThing_49 rfl ?_
    refine z_getR (q := 66) fl_X3_44 dX3_readThing_50 en_79 rfl ?_
    refine z_getR (q := 73) fl_X3_190 dX3_readThing_53 en_66 rfl ?_
    refine z_aload_n dX3_readThing_56 rfl ?_
    refine z_getR (q := 66) fl_X3_44 dX3_readThing_57 en_79 rfl ?_
    refine z_gI (v := (M15 66 8)) fl_X3_187 dX3_readThing_60 en_66 rfl rfl ?_
    refine z_iload_n dX3_readThing_63 rfl ?_
    obtain ⟨M18, c17, h⟩ := z_bv_c h
    refine z_cN (av := [.ref 73, .int (M15 66 8), .int v5]) (st := []) lk_X3_153 dX3_readThing_64 (z_Ct.to (A_X7_put (d := d + 2) hl (by decide) (by decide) en_73) c17) rfl rfl (Nat.le_of_ble_eq_true rfl) rfl z_len rfl rfl ?_
    refine z_aload_n dX3_readThing_67 rfl ?_
    refine z_getR (q := 66) fl_X3_44 dX3_readThing_68 en_79 rfl ?_
    refine z_getR (q := 74) fl_X3_193 dX3_readThing_71 en_66 rfl ?_
    refine z_aload_n dX3_readThing_74 rfl ?_
    refine z_getR (q := 66) fl_X3_44 dX3_readThing_75 en_79 rfl ?_
    refine z_gI (v := (M18 66 8)) fl_X3_187 dX3_readThing_78 en_66 rfl rfl ?_
    refine z_iload_n dX3_readThing_81 rfl ?_
    obtain ⟨M20, c19, h⟩ := z_bv_c h
    refine z_cN (av := [.ref 74, .int (M18 66 8), .int v8]) (st := []) lk_X3_153 dX3_readThing_82 (z_Ct.to (A_X7_put (d := d + 2) hl (by decide) (by decide) en_74) c19) rfl rfl (Nat.le_of_ble_eq_true rfl) rfl z_len rfl rfl ?_
    refine z_aload_n dX3_readThing_85 rfl ?_
    refine z_getR (q := 66) fl_X3_44 dX3_readThing_86 en_79 rfl ?_
    refine z_dup dX3_readThing_89 rfl ?_
    refine z_gI (v := (M20 66 8)) fl_X3_187 dX3_readThing_90 en_66 rfl rfl ?_
    refine z_ic kc_p1 dX3_readThing_93 ?_
    refine z_iadd dX3_readThing_94 ?_
    refine z_pI fp_X3_187 dX3_readThing_95 (by decide) en_66 rfl ?_
    cases h
    exact z_return dX3_readThing_98 rfl
/-! X3_readTrunk 79 -/
def f_X3_readTrunk_79  (M : zMM) : Option zMM :=
  z_bv (f_X3_takeHead_79 (M 66 6) (5 : Int32) M) fun M3 =>
  z_bi (f_X3_takeNumber_79 (0 : Int32) (9999 : Int32) M3) fun v5 M6 =>
  z_bv (f_X3_checkTold_79 v5 (M6 66 0) M6) fun M9 =>
  z_bi (f_X3_endsWell_79  M9) fun v11 M12 =>
  if v11 = 0 then
    some M12
  else
    z_bv (some (z_pt M12 72 5 (M12 66 6) v5)) fun M15 =>
    some (z_up M15 66 6 ((M15 66 6) + (1 : Int32)))
theorem A_X3_readTrunk_79 {l : Launch} (hl : l.stackTraces = false) {Ls d : Nat} {Lm : zML}  {M M' : zMM} (h : f_X3_readTrunk_79  M = some M') : z_Ct l mX3_readTrunk (d + 3) 0 0 [.ref 79] (z_L0 Ls, M, Lm) (.inl none) (z_L0 Ls, M', Lm) := by
  replace h : (  z_bv (f_X3_takeHead_79 (M 66 6) (5 : Int32) M) fun M3 =>
  z_bi (f_X3_takeNumber_79 (0 : Int32) (9999 : Int32) M3) fun v5 M6 =>
  z_bv (f_X3_checkTold_79 v5 (M6 66 0) M6) fun M9 =>
  z_bi (f_X3_endsWell_79  M9) fun v11 M12 =>
  if v11 = 0 then
    some M12
  else
    z_bv (some (z_pt M12 72 5 (M12 66 6) v5)) fun M15 =>
    some (z_up M15 66 6 ((M15 66 6) + (1 : Int32)))) = some M' := h
  refine z_Ct.of hl (by decide) (Nat.le_of_ble_eq_true rfl) rfl ?_
  show z_AW l mX3_readTrunk (d + 3) 0 0 0 [.ref 79, .null] [] (z_L0 Ls, M, Lm) (.inl none) (z_L0 Ls, M', Lm)
  refine z_aload_n dX3_readTrunk_0 rfl ?_
  refine z_aload_n dX3_readTrunk_1 rfl ?_
  refine z_getR (q := 66) fl_X3_44 dX3_readTrunk_2 en_79 rfl ?_
  refine z_gI (v := (M 66 6)) fl_X3_181 dX3_readTrunk_5 en_66 rfl rfl ?_
  refine z_ic kc_p5 dX3_readTrunk_8 ?_
  obtain ⟨M3, c1, h⟩ := z_bv_c h
  refine z_cV (av := [.int (M 66 6), .int (5 : Int32)]) (st := []) lk_X3_134 dX3_readTrunk_9 (A_X3_takeHead_79 (d := d + 0) hl c1) rfl rfl en_79 rfl (Nat.le_of_ble_eq_true rfl) rfl z_len rfl rfl ?_
  refine z_aload_n dX3_readTrunk_12 rfl ?_
  refine z_ic kc_p0 dX3_readTrunk_13 ?_
  refine z_sp ks_p9999 dX3_readTrunk_14 ?_
  obtain ⟨v5, M6, c4, h⟩ := z_bi_c h
  refine z_cV (av := [.int (0 : Int32), .int (9999 : Int32)]) (st := []) lk_X3_140 dX3_readTrunk_17 (A_X3_takeNumber_79 (d := d + 0) hl c4) rfl rfl en_79 rfl (Nat.le_of_ble_eq_true rfl) rfl z_len rfl rfl ?_
  refine z_istore_n (ls' := [.ref 79, .int v5]) dX3_readTrunk_20 (by decide) rfl ?_
  refine z_aload_n dX3_readTrunk_21 rfl ?_
  refine z_iload_n dX3_readTrunk_22 rfl ?_
  refine z_aload_n dX3_readTrunk_23 rfl ?_
  refine z_getR (q := 66) fl_X3_44 dX3_readTrunk_24 en_79 rfl ?_
  refine z_gI (v := (M6 66 0)) fl_X3_131 dX3_readTrunk_27 en_66 rfl rfl ?_
  obtain ⟨M9, c7, h⟩ := z_bv_c h
  refine z_cV (av := [.int v5, .int (M6 66 0)]) (st := []) lk_X3_173 dX3_readTrunk_30 (A_X3_checkTold_79 (d := d + 1) hl c7) rfl rfl en_79 rfl (Nat.le_of_ble_eq_true rfl) rfl z_len rfl rfl ?_
  refine z_aload_n dX3_readTrunk_33 rfl ?_
  obtain ⟨v11, M12, c10, h⟩ := z_bi_c h
  refine z_cV (av := []) (st := []) lk_X3_145 dX3_readTrunk_34 (A_X3_endsWell_79 (d := d + 0) hl c10) rfl rfl en_79 rfl (Nat.le_of_ble_eq_true rfl) rfl z_len rfl rfl ?_
  refine z_if_eq (tgt := 71) dX3_readTrunk_37 rfl (fun g13 => ?_) (fun g13 => ?_)
  · replace h := (if_pos g13).symm.trans h
    cases h
    exact z_return dX3_readTrunk_71 rfl
  · replace h := (if_neg g13).symm.trans h
    refine z_aload_n dX3_readTrunk_40 rfl ?_
    refine z_getR (q := 66) fl_X3_44 dX3_readTrunk_41 en_79 rfl ?_
    refine z_getR (q := 72) fl_X3_184 dX3_readTrunk_44 en_66 rfl ?_
    refine z_aload_n dX3_readTrunk_47 rfl ?_
    refine z_getR (q := 66) fl_X3_44 dX3_readTrunk_48 en_79 rfl ?_
    refine z_gI (v := (M12 66 6)) fl_X3_181 dX3_readTrunk_51 en_66 rfl rfl ?_
    refine z_iload_n dX3_readTrunk_54 rfl ?_
    obtain ⟨M15, c14, h⟩ := z_bv_c h
    refine z_cN (av := [.ref 72, .int (M12 66 6), .int v5]) (st := []) lk_X3_153 dX3_readTrunk_55 (z_Ct.to (A_X7_put (d := d + 2) hl (by decide) (by decide) en_72) c14) rfl rfl (Nat.le_of_ble_eq_true rfl) rfl z_len rfl rfl ?_
    refine z_aload_n dX3_readTrunk_58 rfl ?_
    refine z_getR (q := 66) fl_X3_44 dX3_readTrunk_59 en_79 rfl ?_
    refine z_dup dX3_readTrunk_62 rfl ?_
    refine z_gI (v := (M15 66 6)) fl_X3_181 dX3_readTrunk_63 en_66 rfl rfl ?_
    refine z_ic kc_p1 dX3_readTrunk_66 ?_
    refine z_iadd dX3_readTrunk_67 ?_
    refine z_pI fp_X3_181 dX3_readTrunk_68 (by decide) en_66 rfl ?_
    cases h
    exact z_return dX3_readTrunk_71 rfl
/-! X5_trainDays 66 -/
def f_X5_trainDays_66 (x1 : Int32) (x2 : Int32) (M : zMM) : Option (Int32 × zMM) :=
  some ((z_at M 71 25 ((x1 * (5 : Int32)) + x2)), M)
theorem A_X5_trainDays_66 {l : Launch} (hl : l.stackTraces = false) {Ls d : Nat} {Lm : zML} {x1 : Int32} {x2 : Int32} {M M' : zMM} {v : Int32} (h : f_X5_trainDays_66 x1 x2 M = some (v, M')) : z_Ct l mX5_trainDays (d + 1) 0 0 [.ref 66, .int x1, .int x2] (z_L0 Ls, M, Lm) (.inl (some (.int v))) (z_L0 Ls, M', Lm) := by
  replace h : (  some ((z_at M 71 25 ((x1 * (5 : Int32)) + x2)), M)) = some (v, M') := h
  refine z_Ct.of hl (by decide) (Nat.le_of_ble_eq_true rfl) rfl ?_
  show z_AW l mX5_trainDays (d + 1) 0 0 0 [.ref 66, .int x1, .int x2] [] (z_L0 Ls, M, Lm) (.inl (some (.int v))) (z_L0 Ls, M', Lm)
  refine z_aload_n dX5_trainDays_0 rfl ?_
  refine z_getR (q := 71) fl_X5_24 dX5_trainDays_1 en_66 rfl ?_
  refine z_iload_n dX5_trainDays_4 rfl ?_
  refine z_ic kc_p5 dX5_trainDays_5 ?_
  refine z_imul dX5_trainDays_6 ?_
  refine z_iload_n dX5_trainDays_7 rfl ?_
  refine z_iadd dX5_trainDays_8 ?_
  refine z_cN (av := [.ref 71, .int ((x1 * (5 : Int32)) + x2)]) (st := []) (v := some (.int (z_at M 71 25 ((x1 * (5 : Int32)) + x2)))) lk_X5_81 dX5_trainDays_9 (A_X7_at (d := d + 0) hl (by decide) en_71) rfl rfl (Nat.le_of_ble_eq_true rfl) rfl z_len rfl rfl ?_
  cases h
  exact z_rI dX5_trainDays_12 rfl
/-! X3_readTrain 79 -/
def f_X3_readTrain_79_p73 (x1 : Int32) (x2 : Int32) (M : zMM) : Option zMM :=
  z_bi (f_X3_takeNumber_79 (1 : Int32) (9 : Int32) M) fun v21 M22 =>
  z_bi (f_X3_endsWell_79  M22) fun v24 M25 =>
  if v24 = 0 then
    some M25
  else
    z_bv (some (z_pt M25 71 25 ((x1 * (5 : Int32)) + x2) v21)) fun M28 =>
    some M28
def f_X3_readTrain_79_p64 (x1 : Int32) (x2 : Int32) (M : zMM) : Option zMM :=
  z_bv (f_X3_fail_79 (4 : Int32) (M 79 7) M) fun M19 =>
  f_X3_readTrain_79_p73 x1 x2 M19
def f_X3_readTrain_79  (M : zMM) : Option zMM :=
  z_bv (f_X3_step_79  M) fun M3 =>
  z_bi (f_X3_takeNumber_79 (0 : Int32) (9999 : Int32) M3) fun v5 M6 =>
  z_bv (f_X3_checkTold_79 v5 (M6 66 0) M6) fun M9 =>
  z_bi (f_X3_takeNumber_79 (0 : Int32) (9999 : Int32) M9) fun v11 M12 =>
  z_bv (f_X3_checkTold_79 v11 (M12 66 0) M12) fun M15 =>
  if v5 = v11 then
    f_X3_readTrain_79_p64 v5 v11 M15
  else
    z_bi (f_X5_trainDays_66 v5 v11 M15) fun v30 M31 =>
    if v30 = (-1 : Int32) then
      f_X3_readTrain_79_p73 v5 v11 M31
    else
      f_X3_readTrain_79_p64 v5 v11 M31
theorem A_X3_readTrain_79_p73 {l : Launch} (hl : l.stackTraces = false) {Ls d : Nat} {Lm : zML} :
    ∀ (x1 : Int32) (x2 : Int32) (M M' : zMM) , f_X3_readTrain_79_p73 x1 x2 M = some M' → z_AW l mX3_readTrain (d + 3) 0 0 73 [.ref 79, .int x1, .int x2, .null] [] (z_L0 Ls, M, Lm) (.inl none) (z_L0 Ls, M', Lm) := by
  intro x1 x2 M M' h
  replace h : (  z_bi (f_X3_takeNumber_79 (1 : Int32) (9 : Int32) M) fun v21 M22 =>
  z_bi (f_X3_endsWell_79  M22) fun v24 M25 =>
  if v24 = 0 then
    some M25
  else
    z_bv (some (z_pt M25 71 25 ((x1 * (5 : Int32)) + x2) v21)) fun M28 =>
    some M28) = some M' := h
  refine z_aload_n dX3_readTrain_73 rfl ?_
  refine z_ic kc_p1 dX3_readTrain_74 ?_
  refine z_bp kb_p9 dX3_readTrain_75 ?_
  obtain ⟨v21, M22, c20, h⟩ := z_bi_c h
  refine z_cV (av := [.int (1 : Int32), .int (9 : Int32)]) (st := []) lk_X3_140 dX3_readTrain_77 (A_X3_takeNumber_79 (d := d + 0) hl c20) rfl rfl en_79 rfl (Nat.le_of_ble_eq_true rfl) rfl z_len rfl rfl ?_
  refine z_istore_n (ls' := [.ref 79, .int x1, .int x2, .int v21]) dX3_readTrain_80 (by decide) rfl ?_
  refine z_aload_n dX3_readTrain_81 rfl ?_
  obtain ⟨v24, M25, c23, h⟩ := z_bi_c h
  refine z_cV (av := []) (st := []) lk_X3_145 dX3_readTrain_82 (A_X3_endsWell_79 (d := d + 0) hl c23) rfl rfl en_79 rfl (Nat.le_of_ble_eq_true rfl) rfl z_len rfl rfl ?_
  refine z_if_eq (tgt := 104) dX3_readTrain_85 rfl (fun g26 => ?_) (fun g26 => ?_)
  · replace h := (if_pos g26).symm.trans h
    cases h
    exact z_return dX3_readTrain_104 rfl
  · replace h := (if_neg g26).symm.trans h
    refine z_aload_n dX3_readTrain_88 rfl ?_
    refine z_getR (q := 66) fl_X3_44 dX3_readTrain_89 en_79 rfl ?_
    refine z_getR (q := 71) fl_X3_179 dX3_readTrain_92 en_66 rfl ?_
    refine z_iload_n dX3_readTrain_95 rfl ?_
    refine z_ic kc_p5 dX3_readTrain_96 ?_
    refine z_imul dX3_readTrain_97 ?_
    refine z_iload_n dX3_readTrain_98 rfl ?_
    refine z_iadd dX3_readTrain_99 ?_
    refine z_iload_n dX3_readTrain_100 rfl ?_
    obtain ⟨M28, c27, h⟩ := z_bv_c h
    refine z_cN (av := [.ref 71, .int ((x1 * (5 : Int32)) + x2), .int v21]) (st := []) lk_X3_153 dX3_readTrain_101 (z_Ct.to (A_X7_put (d := d + 2) hl (by decide) (by decide) en_71) c27) rfl rfl (Nat.le_of_ble_eq_true rfl) rfl z_len rfl rfl ?_
    cases h
    exact z_return dX3_readTrain_104 rfl
theorem A_X3_readTrain_79_p64 {l : Launch} (hl : l.stackTraces = false) {Ls d : Nat} {Lm : zML} :
    ∀ (x1 : Int32) (x2 : Int32) (M M' : zMM) , f_X3_readTrain_79_p64 x1 x2 M = some M' → z_AW l mX3_readTrain (d + 3) 0 0 64 [.ref 79, .int x1, .int x2, .null] [] (z_L0 Ls, M, Lm) (.inl none) (z_L0 Ls, M', Lm) := by
  intro x1 x2 M M' h
  replace h : (  z_bv (f_X3_fail_79 (4 : Int32) (M 79 7) M) fun M19 =>
  f_X3_readTrain_79_p73 x1 x2 M19) = some M' := h
  refine z_aload_n dX3_readTrain_64 rfl ?_
  refine z_ic kc_p4 dX3_readTrain_65 ?_
  refine z_aload_n dX3_readTrain_66 rfl ?_
  refine z_gI (v := (M 79 7)) fl_X3_27 dX3_readTrain_67 en_79 rfl rfl ?_
  obtain ⟨M19, c17, h⟩ := z_bv_c h
  refine z_cV (av := [.int (4 : Int32), .int (M 79 7)]) (st := []) lk_X3_88 dX3_readTrain_70 (A_X3_fail_79 (d := d + 2) hl c17) rfl rfl en_79 rfl (Nat.le_of_ble_eq_true rfl) rfl z_len rfl rfl ?_
  exact A_X3_readTrain_79_p73 hl x1 x2 _ _ h
theorem A_X3_readTrain_79 {l : Launch} (hl : l.stackTraces = false) {Ls d : Nat} {Lm : zML}  {M M' : zMM} (h : f_X3_readTrain_79  M = some M') : z_Ct l mX3_readTrain (d + 3) 0 0 [.ref 79] (z_L0 Ls, M, Lm) (.inl none) (z_L0 Ls, M', Lm) := by
  replace h : (  z_bv (f_X3_step_79  M) fun M3 =>
  z_bi (f_X3_takeNumber_79 (0 : Int32) (9999 : Int32) M3) fun v5 M6 =>
  z_bv (f_X3_checkTold_79 v5 (M6 66 0) M6) fun M9 =>
  z_bi (f_X3_takeNumber_79 (0 : Int32) (9999 : Int32) M9) fun v11 M12 =>
  z_bv (f_X3_checkTold_79 v11 (M12 66 0) M12) fun M15 =>
  if v5 = v11 then
    f_X3_readTrain_79_p64 v5 v11 M15
  else
    z_bi (f_X5_trainDays_66 v5 v11 M15) fun v30 M31 =>
    if v30 = (-1 : Int32) then
      f_X3_readTrain_79_p73 v5 v11 M31
    else
      f_X3_readTrain_79_p64 v5 v11 M31) = some M' := h
  refine z_Ct.of hl (by decide) (Nat.le_of_ble_eq_true rfl) rfl ?_
  show z_AW l mX3_readTrain (d + 3) 0 0 0 [.ref 79, .null, .null, .null] [] (z_L0 Ls, M, Lm) (.inl none) (z_L0 Ls, M', Lm)
  refine z_aload_n dX3_readTrain_0 rfl ?_
  obtain ⟨M3, c1, h⟩ := z_bv_c h
  refine z_cV (av := []) (st := []) lk_X3_59 dX3_readTrain_1 (A_X3_step_79 (d := d + 1) hl c1) rfl rfl en_79 rfl (Nat.le_of_ble_eq_true rfl) rfl z_len rfl rfl ?_
  refine z_aload_n dX3_readTrain_4 rfl ?_
  refine z_ic kc_p0 dX3_readTrain_5 ?_
  refine z_sp ks_p9999 dX3_readTrain_6 ?_
  obtain ⟨v5, M6, c4, h⟩ := z_bi_c h
  refine z_cV (av := [.int (0 : Int32), .int (9999 : Int32)]) (st := []) lk_X3_140 dX3_readTrain_9 (A_X3_takeNumber_79 (d := d + 0) hl c4) rfl rfl en_79 rfl (Nat.le_of_ble_eq_true rfl) rfl z_len rfl rfl ?_
  refine z_istore_n (ls' := [.ref 79, .int v5, .null, .null]) dX3_readTrain_12 (by decide) rfl ?_
  refine z_aload_n dX3_readTrain_13 rfl ?_
  refine z_iload_n dX3_readTrain_14 rfl ?_
  refine z_aload_n dX3_readTrain_15 rfl ?_
  refine z_getR (q := 66) fl_X3_44 dX3_readTrain_16 en_79 rfl ?_
  refine z_gI (v := (M6 66 0)) fl_X3_131 dX3_readTrain_19 en_66 rfl rfl ?_
  obtain ⟨M9, c7, h⟩ := z_bv_c h
  refine z_cV (av := [.int v5, .int (M6 66 0)]) (st := []) lk_X3_173 dX3_readTrain_22 (A_X3_checkTold_79 (d := d + 1) hl c7) rfl rfl en_79 rfl (Nat.le_of_ble_eq_true rfl) rfl z_len rfl rfl ?_
  refine z_aload_n dX3_readTrain_25 rfl ?_
  refine z_ic kc_p0 dX3_readTrain_26 ?_
  refine z_sp ks_p9999 dX3_readTrain_27 ?_
  obtain ⟨v11, M12, c10, h⟩ := z_bi_c h
  refine z_cV (av := [.int (0 : Int32), .int (9999 : Int32)]) (st := []) lk_X3_140 dX3_readTrain_30 (A_X3_takeNumber_79 (d := d + 0) hl c10) rfl rfl en_79 rfl (Nat.le_of_ble_eq_true rfl) rfl z_len rfl rfl ?_
  refine z_istore_n (ls' := [.ref 79, .int v5, .int v11, .null]) dX3_readTrain_33 (by decide) rfl ?_
  refine z_aload_n dX3_readTrain_34 rfl ?_
  refine z_iload_n dX3_readTrain_35 rfl ?_
  refine z_aload_n dX3_readTrain_36 rfl ?_
  refine z_getR (q := 66) fl_X3_44 dX3_readTrain_37 en_79 rfl ?_
  refine z_gI (v := (M12 66 0)) fl_X3_131 dX3_readTrain_40 en_66 rfl rfl ?_
  obtain ⟨M15, c13, h⟩ := z_bv_c h
  refine z_cV (av := [.int v11, .int (M12 66 0)]) (st := []) lk_X3_173 dX3_readTrain_43 (A_X3_checkTold_79 (d := d + 1) hl c13) rfl rfl en_79 rfl (Nat.le_of_ble_eq_true rfl) rfl z_len rfl rfl ?_
  refine z_iload_n dX3_readTrain_46 rfl ?_
  refine z_iload_n dX3_readTrain_47 rfl ?_
  refine z_icmp_eq (tgt := 64) dX3_readTrain_48 rfl (fun g16 => ?_) (fun g16 => ?_)
  · replace h := (if_pos g16).symm.trans h
    exact A_X3_readTrain_79_p64 hl v5 v11 _ _ h
  · replace h := (if_neg g16).symm.trans h
    refine z_aload_n dX3_readTrain_51 rfl ?_
    refine z_getR (q := 66) fl_X3_44 dX3_readTrain_52 en_79 rfl ?_
    refine z_iload_n dX3_readTrain_55 rfl ?_
    refine z_iload_n dX3_readTrain_56 rfl ?_
    obtain ⟨v30, M31, c29, h⟩ := z_bi_c h
    refine z_cV (av := [.int v5, .int v11]) (st := []) lk_X3_176 dX3_readTrain_57 (A_X5_trainDays_66 (d := d + 1) hl c29) rfl rfl en_66 rfl (Nat.le_of_ble_eq_true rfl) rfl z_len rfl rfl ?_
    refine z_ic kc_m1 dX3_readTrain_60 ?_
    refine z_icmp_eq (tgt := 73) dX3_readTrain_61 rfl (fun g32 => ?_) (fun g32 => ?_)
    · replace h := (if_pos g32).symm.trans h
      exact A_X3_readTrain_79_p73 hl v5 v11 _ _ h
    · replace h := (if_neg g32).symm.trans h
      exact A_X3_readTrain_79_p64 hl v5 v11 _ _ h
/-! X3_takeKind 79 -/
def f_X3_takeKind_79  (M : zMM) : Option (Int32 × zMM) :=
  z_bi (f_X3_isWord_79 4 M) fun v2 M3 =>
  if v2 = 0 then
    z_bi (f_X3_isWord_79 5 M3) fun v6 M7 =>
    if v6 = 0 then
      z_bi (f_X3_isWord_79 6 M7) fun v10 M11 =>
      if v10 = 0 then
        z_bi (f_X3_isWord_79 7 M11) fun v14 M15 =>
        if v14 = 0 then
          z_bv (f_X3_fail_79 (1 : Int32) (M15 79 4) M15) fun M19 =>
          z_bv (f_X3_step_79  M19) fun M22 =>
          some ((-1 : Int32), M22)
        else
          z_bv (f_X3_step_79  M15) fun M25 =>
          some ((3 : Int32), M25)
      else
        z_bv (f_X3_step_79  M11) fun M28 =>
        some ((2 : Int32), M28)
    else
      z_bv (f_X3_step_79  M7) fun M31 =>
      some ((1 : Int32), M31)
  else
    z_bv (f_X3_step_79  M3) fun M34 =>
    some ((0 : Int32), M34)
theorem A_X3_takeKind_79 {l : Launch} (hl : l.stackTraces = false) {Ls d : Nat} {Lm : zML}  {M M' : zMM} {v : Int32} (h : f_X3_takeKind_79  M = some (v, M')) : z_Ct l mX3_takeKind (d + 5) 0 0 [.ref 79] (z_L0 Ls, M, Lm) (.inl (some (.int v))) (z_L0 Ls, M', Lm) := by
  replace h : (  z_bi (f_X3_isWord_79 4 M) fun v2 M3 =>
  if v2 = 0 then
    z_bi (f_X3_isWord_79 5 M3) fun v6 M7 =>
    if v6 = 0 then
      z_bi (f_X3_isWord_79 6 M7) fun v10 M11 =>
      if v10 = 0 then
        z_bi (f_X3_isWord_79 7 M11) fun v14 M15 =>
        if v14 = 0 then
          z_bv (f_X3_fail_79 (1 : Int32) (M15 79 4) M15) fun M19 =>
          z_bv (f_X3_step_79  M19) fun M22 =>
          some ((-1 : Int32), M22)
        else
          z_bv (f_X3_step_79  M15) fun M25 =>
          some ((3 : Int32), M25)
      else
        z_bv (f_X3_step_79  M11) fun M28 =>
        some ((2 : Int32), M28)
    else
      z_bv (f_X3_step_79  M7) fun M31 =>
      some ((1 : Int32), M31)
  else
    z_bv (f_X3_step_79  M3) fun M34 =>
    some ((0 : Int32), M34)) = some (v, M') := h
  refine z_Ct.of hl (by decide) (Nat.le_of_ble_eq_true rfl) rfl ?_
  show z_AW l mX3_takeKind (d + 5) 0 0 0 [.ref 79, .null] [] (z_L0 Ls, M, Lm) (.inl (some (.int v))) (z_L0 Ls, M', Lm)
  refine z_ic kc_m1 dX3_takeKind_0 ?_
  refine z_istore_n (ls' := [.ref 79, .int (-1 : Int32)]) dX3_takeKind_1 (by decide) rfl ?_
  refine z_aload_n dX3_takeKind_2 rfl ?_
  refine z_ldcS (tx := "careful") (q := 4) (by decide +kernel) dX3_takeKind_3 ?_
  obtain ⟨v2, M3, c1, h⟩ := z_bi_c h
  refine z_cV (av := [.ref 4]) (st := []) lk_X3_94 dX3_takeKind_5 (A_X3_isWord_79 (d := d + 0) hl c1) rfl rfl en_79 rfl (Nat.le_of_ble_eq_true rfl) rfl z_len rfl rfl ?_
  refine z_if_eq (tgt := 16) dX3_takeKind_8 rfl (fun g4 => ?_) (fun g4 => ?_)
  · replace h := (if_pos g4).symm.trans h
    refine z_aload_n dX3_takeKind_16 rfl ?_
    refine z_ldcS (tx := "drunk") (q := 5) (by decide +kernel) dX3_takeKind_17 ?_
    obtain ⟨v6, M7, c5, h⟩ := z_bi_c h
    refine z_cV (av := [.ref 5]) (st := []) lk_X3_94 dX3_takeKind_19 (A_X3_isWord_79 (d := d + 0) hl c5) rfl rfl en_79 rfl (Nat.le_of_ble_eq_true rfl) rfl z_len rfl rfl ?_
    refine z_if_eq (tgt := 30) dX3_takeKind_22 rfl (fun g8 => ?_) (fun g8 => ?_)
    · replace h := (if_pos g8).symm.trans h
      refine z_aload_n dX3_takeKind_30 rfl ?_
      refine z_ldcS (tx := "slow") (q := 6) (by decide +kernel) dX3_takeKind_31 ?_
      obtain ⟨v10, M11, c9, h⟩ := z_bi_c h
      refine z_cV (av := [.ref 6]) (st := []) lk_X3_94 dX3_takeKind_33 (A_X3_isWord_79 (d := d + 0) hl c9) rfl rfl en_79 rfl (Nat.le_of_ble_eq_true rfl) rfl z_len rfl rfl ?_
      refine z_if_eq (tgt := 44) dX3_takeKind_36 rfl (fun g12 => ?_) (fun g12 => ?_)
      · replace h := (if_pos g12).symm.trans h
        refine z_aload_n dX3_takeKind_44 rfl ?_
        refine z_ldcS (tx := "lazy") (q := 7) (by decide +kernel) dX3_takeKind_45 ?_
        obtain ⟨v14, M15, c13, h⟩ := z_bi_c h
        refine z_cV (av := [.ref 7]) (st := []) lk_X3_94 dX3_takeKind_47 (A_X3_isWord_79 (d := d + 0) hl c13) rfl rfl en_79 rfl (Nat.le_of_ble_eq_true rfl) rfl z_len rfl rfl ?_
        refine z_if_eq (tgt := 58) dX3_takeKind_50 rfl (fun g16 => ?_) (fun g16 => ?_)
        · replace h := (if_pos g16).symm.trans h
          refine z_aload_n dX3_takeKind_58 rfl ?_
          refine z_ic kc_p1 dX3_takeKind_59 ?_
          refine z_aload_n dX3_takeKind_60 rfl ?_
          refine z_gI (v := (M15 79 4)) fl_X3_18 dX3_takeKind_61 en_79 rfl rfl ?_
          obtain ⟨M19, c17, h⟩ := z_bv_c h
          refine z_cV (av := [.int (1 : Int32), .int (M15 79 4)]) (st := []) lk_X3_88 dX3_takeKind_64 (A_X3_fail_79 (d := d + 4) hl c17) rfl rfl en_79 rfl (Nat.le_of_ble_eq_true rfl) rfl z_len rfl rfl ?_
          refine z_aload_n dX3_takeKind_67 rfl ?_
          obtain ⟨M22, c20, h⟩ := z_bv_c h
          refine z_cV (av := []) (st := []) lk_X3_59 dX3_takeKind_68 (A_X3_step_79 (d := d + 3) hl c20) rfl rfl en_79 rfl (Nat.le_of_ble_eq_true rfl) rfl z_len rfl rfl ?_
          refine z_iload_n dX3_takeKind_71 rfl ?_
          cases h
          exact z_rI dX3_takeKind_72 rfl
        · replace h := (if_neg g16).symm.trans h
          refine z_ic kc_p3 dX3_takeKind_53 ?_
          refine z_istore_n (ls' := [.ref 79, .int (3 : Int32)]) dX3_takeKind_54 (by decide) rfl ?_
          refine z_goto (tgt := 67) dX3_takeKind_55 rfl ?_
          refine z_aload_n dX3_takeKind_67 rfl ?_
          obtain ⟨M25, c23, h⟩ := z_bv_c h
          refine z_cV (av := []) (st := []) lk_X3_59 dX3_takeKind_68 (A_X3_step_79 (d := d + 3) hl c23) rfl rfl en_79 rfl (Nat.le_of_ble_eq_true rfl) rfl z_len rfl rfl ?_
          refine z_iload_n dX3_takeKind_71 rfl ?_
          cases h
          exact z_rI dX3_takeKind_72 rfl
      · replace h := (if_neg g12).symm.trans h
        refine z_ic kc_p2 dX3_takeKind_39 ?_
        refine z_istore_n (ls' := [.ref 79, .int (2 : Int32)]) dX3_takeKind_40 (by decide) rfl ?_
        refine z_goto (tgt := 67) dX3_takeKind_41 rfl ?_
        refine z_aload_n dX3_takeKind_67 rfl ?_
        obtain ⟨M28, c26, h⟩ := z_bv_c h
        refine z_cV (av := []) (st := []) lk_X3_59 dX3_takeKind_68 (A_X3_step_79 (d := d + 3) hl c26) rfl rfl en_79 rfl (Nat.le_of_ble_eq_true rfl) rfl z_len rfl rfl ?_
        refine z_iload_n dX3_takeKind_71 rfl ?_
        cases h
        exact z_rI dX3_takeKind_72 rfl
    · replace h := (if_neg g8).symm.trans h
      refine z_ic kc_p1 dX3_takeKind_25 ?_
      refine z_istore_n (ls' := [.ref 79, .int (1 : Int32)]) dX3_takeKind_26 (by decide) rfl ?_
      refine z_goto (tgt := 67) dX3_takeKind_27 rfl ?_
      refine z_aload_n dX3_takeKind_67 rfl ?_
      obtain ⟨M31, c29, h⟩ := z_bv_c h
      refine z_cV (av := []) (st := []) lk_X3_59 dX3_takeKind_68 (A_X3_step_79 (d := d + 3) hl c29) rfl rfl en_79 rfl (Nat.le_of_ble_eq_true rfl) rfl z_len rfl rfl ?_
      refine z_iload_n dX3_takeKind_71 rfl ?_
      cases h
      exact z_rI dX3_takeKind_72 rfl
  · replace h := (if_neg g4).symm.trans h
    refine z_ic kc_p0 dX3_takeKind_11 ?_
    refine z_istore_n (ls' := [.ref 79, .int (0 : Int32)]) dX3_takeKind_12 (by decide) rfl ?_
    refine z_goto (tgt := 67) dX3_takeKind_13 rfl ?_
    refine z_aload_n dX3_takeKind_67 rfl ?_
    obtain ⟨M34, c32, h⟩ := z_bv_c h
    refine z_cV (av := []) (st := []) lk_X3_59 dX3_takeKind_68 (A_X3_step_79 (d := d + 3) hl c32) rfl rfl en_79 rfl (Nat.le_of_ble_eq_true rfl) rfl z_len rfl rfl ?_
    refine z_iload_n dX3_takeKind_71 rfl ?_
    cases h
    exact z_rI dX3_takeKind_72 rfl
/-! X3_readTown 79 -/
def f_X3_readTown_79_p69 (x1 : Int32) (x2 : Int32) (x3 : Int32) (x4 : Int32) (M : zMM) : Option zMM :=
  z_bi (f_X3_endsWell_79  M) fun v13 M14 =>
  if v13 = 0 then
    some M14
  else
    z_bv (some (z_pt M14 67 5 (M14 66 0) x1)) fun M17 =>
    z_bv (some (z_pt M17 68 5 (M17 66 0) x2)) fun M19 =>
    z_bv (some (z_pt M19 69 5 (M19 66 0) x3)) fun M21 =>
    z_bv (some (z_pt M21 70 5 (M21 66 0) x4)) fun M23 =>
    some (z_up M23 66 0 ((M23 66 0) + (1 : Int32)))
def f_X3_readTown_79_p33 (x1 : Int32) (a0 : Int32) (M : zMM) : Option zMM :=
  z_bi (f_X3_isWord_79 8 M) fun v9 M10 =>
  if v9 = 0 then
    f_X3_readTown_79_p69 x1 a0 (0 : Int32) (0 : Int32) M10
  else
    z_bv (f_X3_step_79  M10) fun M26 =>
    z_bi (f_X3_takeNumber_79 (0 : Int32) (9 : Int32) M26) fun v28 M29 =>
    z_bi (f_X3_takeNumber_79 (0 : Int32) (99 : Int32) M29) fun v31 M32 =>
    f_X3_readTown_79_p69 x1 a0 v28 v31 M32
def f_X3_readTown_79  (M : zMM) : Option zMM :=
  z_bv (f_X3_takeHead_79 (M 66 0) (5 : Int32) M) fun M3 =>
  z_bi (f_X3_takeKind_79  M3) fun v5 M6 =>
  if v5 = 0 then
    f_X3_readTown_79_p33 v5 (0 : Int32) M6
  else
    z_bi (f_X3_takeNumber_79 (0 : Int32) (1000 : Int32) M6) fun v34 M35 =>
    f_X3_readTown_79_p33 v5 v34 M35
theorem A_X3_readTown_79_p69 {l : Launch} (hl : l.stackTraces = false) {Ls d : Nat} {Lm : zML} :
    ∀ (x1 : Int32) (x2 : Int32) (x3 : Int32) (x4 : Int32) (M M' : zMM) , f_X3_readTown_79_p69 x1 x2 x3 x4 M = some M' → z_AW l mX3_readTown (d + 6) 0 0 69 [.ref 79, .int x1, .int x2, .int x3, .int x4] [] (z_L0 Ls, M, Lm) (.inl none) (z_L0 Ls, M', Lm) := by
  intro x1 x2 x3 x4 M M' h
  replace h : (  z_bi (f_X3_endsWell_79  M) fun v13 M14 =>
  if v13 = 0 then
    some M14
  else
    z_bv (some (z_pt M14 67 5 (M14 66 0) x1)) fun M17 =>
    z_bv (some (z_pt M17 68 5 (M17 66 0) x2)) fun M19 =>
    z_bv (some (z_pt M19 69 5 (M19 66 0) x3)) fun M21 =>
    z_bv (some (z_pt M21 70 5 (M21 66 0) x4)) fun M23 =>
    some (z_up M23 66 0 ((M23 66 0) + (1 : Int32)))) = some M' := h
  refine z_aload_n dX3_readTown_69 rfl ?_
  obtain ⟨v13, M14, c12, h⟩ := z_bi_c h
  refine z_cV (av := []) (st := []) lk_X3_145 dX3_readTown_70 (A_X3_endsWell_79 (d := d + 3) hl c12) rfl rfl en_79 rfl (Nat.le_of_ble_eq_true rfl) rfl z_len rfl rfl ?_
  refine z_if_eq (tgt := 162) dX3_readTown_73 rfl (fun g15 => ?_) (fun g15 => ?_)
  · replace h := (if_pos g15).symm.trans h
    cases h
    exact z_return dX3_readTown_162 rfl
  · replace h := (if_neg g15).symm.trans h
    refine z_aload_n dX3_readTown_76 rfl ?_
    refine z_getR (q := 66) fl_X3_44 dX3_readTown_77 en_79 rfl ?_
    refine z_getR (q := 67) fl_X3_149 dX3_readTown_80 en_66 rfl ?_
    refine z_aload_n dX3_readTown_83 rfl ?_
    refine z_getR (q := 66) fl_X3_44 dX3_readTown_84 en_79 rfl ?_
    refine z_gI (v := (M14 66 0)) fl_X3_131 dX3_readTown_87 en_66 rfl rfl ?_
    refine z_iload_n dX3_readTown_90 rfl ?_
    obtain ⟨M17, c16, h⟩ := z_bv_c h
    refine z_cN (av := [.ref 67, .int (M14 66 0), .int x1]) (st := []) lk_X3_153 dX3_readTown_91 (z_Ct.to (A_X7_put (d := d + 5) hl (by decide) (by decide) en_67) c16) rfl rfl (Nat.le_of_ble_eq_true rfl) rfl z_len rfl rfl ?_
    refine z_aload_n dX3_readTown_94 rfl ?_
    refine z_getR (q := 66) fl_X3_44 dX3_readTown_95 en_79 rfl ?_
    refine z_getR (q := 68) fl_X3_157 dX3_readTown_98 en_66 rfl ?_
    refine z_aload_n dX3_readTown_101 rfl ?_
    refine z_getR (q := 66) fl_X3_44 dX3_readTown_102 en_79 rfl ?_
    refine z_gI (v := (M17 66 0)) fl_X3_131 dX3_readTown_105 en_66 rfl rfl ?_
    refine z_iload_n dX3_readTown_108 rfl ?_
    obtain ⟨M19, c18, h⟩ := z_bv_c h
    refine z_cN (av := [.ref 68, .int (M17 66 0), .int x2]) (st := []) lk_X3_153 dX3_readTown_109 (z_Ct.to (A_X7_put (d := d + 5) hl (by decide) (by decide) en_68) c18) rfl rfl (Nat.le_of_ble_eq_true rfl) rfl z_len rfl rfl ?_
    refine z_aload_n dX3_readTown_112 rfl ?_
    refine z_getR (q := 66) fl_X3_44 dX3_readTown_113 en_79 rfl ?_
    refine z_getR (q := 69) fl_X3_160 dX3_readTown_116 en_66 rfl ?_
    refine z_aload_n dX3_readTown_119 rfl ?_
    refine z_getR (q := 66) fl_X3_44 dX3_readTown_120 en_79 rfl ?_
    refine z_gI (v := (M19 66 0)) fl_X3_131 dX3_readTown_123 en_66 rfl rfl ?_
    refine z_iload_n dX3_readTown_126 rfl ?_
    obtain ⟨M21, c20, h⟩ := z_bv_c h
    refine z_cN (av := [.ref 69, .int (M19 66 0), .int x3]) (st := []) lk_X3_153 dX3_readTown_127 (z_Ct.to (A_X7_put (d := d + 5) hl (by decide) (by decide) en_69) c20) rfl rfl (Nat.le_of_ble_eq_true rfl) rfl z_len rfl rfl ?_
    refine z_aload_n dX3_readTown_130 rfl ?_
    refine z_getR (q := 66) fl_X3_44 dX3_readTown_131 en_79 rfl ?_
    refine z_getR (q := 70) fl_X3_162 dX3_readTown_134 en_66 rfl ?_
    refine z_aload_n dX3_readTown_137 rfl ?_
    refine z_getR (q := 66) fl_X3_44 dX3_readTown_138 en_79 rfl ?_
    refine z_gI (v := (M21 66 0)) fl_X3_131 dX3_readTown_141 en_66 rfl rfl ?_
    refine z_iload dX3_readTown_144 rfl ?_
    obtain ⟨M23, c22, h⟩ := z_bv_c h
    refine z_cN (av := [.ref 70, .int (M21 66 0), .int x4]) (st := []) lk_X3_153 dX3_readTown_146 (z_Ct.to (A_X7_put (d := d + 5) hl (by decide) (by decide) en_70) c22) rfl rfl (Nat.le_of_ble_eq_true rfl) rfl z_len rfl rfl ?_
    refine z_aload_n dX3_readTown_149 rfl ?_
    refine z_getR (q := 66) fl_X3_44 dX3_readTown_150 en_79 rfl ?_
    refine z_dup dX3_readTown_153 rfl ?_
    refine z_gI (v := (M23 66 0)) fl_X3_131 dX3_readTown_154 en_66 rfl rfl ?_
    refine z_ic kc_p1 dX3_readTown_157 ?_
    refine z_iadd dX3_readTown_158 ?_
    refine z_pI fp_X3_131 dX3_readTown_159 (by decide) en_66 rfl ?_
    cases h
    exact z_return dX3_readTown_162 rfl
theorem A_X3_readTown_79_p33 {l : Launch} (hl : l.stackTraces = false) {Ls d : Nat} {Lm : zML} :
    ∀ (x1 : Int32) (a0 : Int32) (M M' : zMM) , f_X3_readTown_79_p33 x1 a0 M = some M' → z_AW l mX3_readTown (d + 6) 0 0 33 [.ref 79, .int x1, .null, .null, .null] [.int a0] (z_L0 Ls, M, Lm) (.inl none) (z_L0 Ls, M', Lm) := by
  intro x1 a0 M M' h
  replace h : (  z_bi (f_X3_isWord_79 8 M) fun v9 M10 =>
  if v9 = 0 then
    f_X3_readTown_79_p69 x1 a0 (0 : Int32) (0 : Int32) M10
  else
    z_bv (f_X3_step_79  M10) fun M26 =>
    z_bi (f_X3_takeNumber_79 (0 : Int32) (9 : Int32) M26) fun v28 M29 =>
    z_bi (f_X3_takeNumber_79 (0 : Int32) (99 : Int32) M29) fun v31 M32 =>
    f_X3_readTown_79_p69 x1 a0 v28 v31 M32) = some M' := h
  refine z_istore_n (ls' := [.ref 79, .int x1, .int a0, .null, .null]) dX3_readTown_33 (by decide) rfl ?_
  refine z_ic kc_p0 dX3_readTown_34 ?_
  refine z_istore_n (ls' := [.ref 79, .int x1, .int a0, .int (0 : Int32), .null]) dX3_readTown_35 (by decide) rfl ?_
  refine z_ic kc_p0 dX3_readTown_36 ?_
  refine z_istore (ls' := [.ref 79, .int x1, .int a0, .int (0 : Int32), .int (0 : Int32)]) dX3_readTown_37 (by decide) rfl ?_
  refine z_aload_n dX3_readTown_39 rfl ?_
  refine z_ldcS (tx := "lends") (q := 8) (by decide +kernel) dX3_readTown_40 ?_
  obtain ⟨v9, M10, c8, h⟩ := z_bi_c h
  refine z_cV (av := [.ref 8]) (st := []) lk_X3_94 dX3_readTown_42 (A_X3_isWord_79 (d := d + 1) hl c8) rfl rfl en_79 rfl (Nat.le_of_ble_eq_true rfl) rfl z_len rfl rfl ?_
  refine z_if_eq (tgt := 69) dX3_readTown_45 rfl (fun g11 => ?_) (fun g11 => ?_)
  · replace h := (if_pos g11).symm.trans h
    exact A_X3_readTown_79_p69 hl x1 a0 (0 : Int32) (0 : Int32) _ _ h
  · replace h := (if_neg g11).symm.trans h
    refine z_aload_n dX3_readTown_48 rfl ?_
    obtain ⟨M26, c24, h⟩ := z_bv_c h
    refine z_cV (av := []) (st := []) lk_X3_59 dX3_readTown_49 (A_X3_step_79 (d := d + 4) hl c24) rfl rfl en_79 rfl (Nat.le_of_ble_eq_true rfl) rfl z_len rfl rfl ?_
    refine z_aload_n dX3_readTown_52 rfl ?_
    refine z_ic kc_p0 dX3_readTown_53 ?_
    refine z_bp kb_p9 dX3_readTown_54 ?_
    obtain ⟨v28, M29, c27, h⟩ := z_bi_c h
    refine z_cV (av := [.int (0 : Int32), .int (9 : Int32)]) (st := []) lk_X3_140 dX3_readTown_56 (A_X3_takeNumber_79 (d := d + 3) hl c27) rfl rfl en_79 rfl (Nat.le_of_ble_eq_true rfl) rfl z_len rfl rfl ?_
    refine z_istore_n (ls' := [.ref 79, .int x1, .int a0, .int v28, .int (0 : Int32)]) dX3_readTown_59 (by decide) rfl ?_
    refine z_aload_n dX3_readTown_60 rfl ?_
    refine z_ic kc_p0 dX3_readTown_61 ?_
    refine z_bp kb_p99 dX3_readTown_62 ?_
    obtain ⟨v31, M32, c30, h⟩ := z_bi_c h
    refine z_cV (av := [.int (0 : Int32), .int (99 : Int32)]) (st := []) lk_X3_140 dX3_readTown_64 (A_X3_takeNumber_79 (d := d + 3) hl c30) rfl rfl en_79 rfl (Nat.le_of_ble_eq_true rfl) rfl z_len rfl rfl ?_
    refine z_istore (ls' := [.ref 79, .int x1, .int a0, .int v28, .int v31]) dX3_readTown_67 (by decide) rfl ?_
    exact A_X3_readTown_79_p69 hl x1 a0 v28 v31 _ _ h
theorem A_X3_readTown_79 {l : Launch} (hl : l.stackTraces = false) {Ls d : Nat} {Lm : zML}  {M M' : zMM} (h : f_X3_readTown_79  M = some M') : z_Ct l mX3_readTown (d + 6) 0 0 [.ref 79] (z_L0 Ls, M, Lm) (.inl none) (z_L0 Ls, M', Lm) := by
  replace h : (  z_bv (f_X3_takeHead_79 (M 66 0) (5 : Int32) M) fun M3 =>
  z_bi (f_X3_takeKind_79  M3) fun v5 M6 =>
  if v5 = 0 then
    f_X3_readTown_79_p33 v5 (0 : Int32) M6
  else
    z_bi (f_X3_takeNumber_79 (0 : Int32) (1000 : Int32) M6) fun v34 M35 =>
    f_X3_readTown_79_p33 v5 v34 M35) = some M' := h
  refine z_Ct.of hl (by decide) (Nat.le_of_ble_eq_true rfl) rfl ?_
  show z_AW l mX3_readTown (d + 6) 0 0 0 [.ref 79, .null, .null, .null, .null] [] (z_L0 Ls, M, Lm) (.inl none) (z_L0 Ls, M', Lm)
  refine z_aload_n dX3_readTown_0 rfl ?_
  refine z_aload_n dX3_readTown_1 rfl ?_
  refine z_getR (q := 66) fl_X3_44 dX3_readTown_2 en_79 rfl ?_
  refine z_gI (v := (M 66 0)) fl_X3_131 dX3_readTown_5 en_66 rfl rfl ?_
  refine z_ic kc_p5 dX3_readTown_8 ?_
  obtain ⟨M3, c1, h⟩ := z_bv_c h
  refine z_cV (av := [.int (M 66 0), .int (5 : Int32)]) (st := []) lk_X3_134 dX3_readTown_9 (A_X3_takeHead_79 (d := d + 3) hl c1) rfl rfl en_79 rfl (Nat.le_of_ble_eq_true rfl) rfl z_len rfl rfl ?_
  refine z_aload_n dX3_readTown_12 rfl ?_
  obtain ⟨v5, M6, c4, h⟩ := z_bi_c h
  refine z_cV (av := []) (st := []) lk_X3_137 dX3_readTown_13 (A_X3_takeKind_79 (d := d + 0) hl c4) rfl rfl en_79 rfl (Nat.le_of_ble_eq_true rfl) rfl z_len rfl rfl ?_
  refine z_istore_n (ls' := [.ref 79, .int v5, .null, .null, .null]) dX3_readTown_16 (by decide) rfl ?_
  refine z_iload_n dX3_readTown_17 rfl ?_
  refine z_if_ne (tgt := 25) dX3_readTown_18 rfl (fun g7 => ?_) (fun g7 => ?_)
  · replace h := (if_pos g7).symm.trans h
    refine z_ic kc_p0 dX3_readTown_21 ?_
    refine z_goto (tgt := 33) dX3_readTown_22 rfl ?_
    exact A_X3_readTown_79_p33 hl v5 (0 : Int32) _ _ h
  · replace h := (if_neg g7).symm.trans h
    refine z_aload_n dX3_readTown_25 rfl ?_
    refine z_ic kc_p0 dX3_readTown_26 ?_
    refine z_sp ks_p1000 dX3_readTown_27 ?_
    obtain ⟨v34, M35, c33, h⟩ := z_bi_c h
    refine z_cV (av := [.int (0 : Int32), .int (1000 : Int32)]) (st := []) lk_X3_140 dX3_readTown_30 (A_X3_takeNumber_79 (d := d + 3) hl c33) rfl rfl en_79 rfl (Nat.le_of_ble_eq_true rfl) rfl z_len rfl rfl ?_
    exact A_X3_readTown_79_p33 hl v5 v34 _ _ h
/-! X3_readLine 79 -/
def f_X3_readLine_79  (M : zMM) : Option zMM :=
  z_bi (f_X3_isWord_79 3 M) fun v2 M3 =>
  if v2 = 0 then
    z_bi (f_X3_isWord_79 9 M3) fun v6 M7 =>
    if v6 = 0 then
      z_bi (f_X3_isWord_79 10 M7) fun v10 M11 =>
      if v10 = 0 then
        z_bi (f_X3_isWord_79 11 M11) fun v14 M15 =>
        if v14 = 0 then
          z_bi (f_X3_isWord_79 12 M15) fun v18 M19 =>
          if v18 = 0 then
            z_bi (f_X3_isWord_79 13 M19) fun v22 M23 =>
            if v22 = 0 then
              z_bi (f_X3_isWord_79 14 M23) fun v26 M27 =>
              if v26 = 0 then
                z_bv (f_X3_fail_79 (1 : Int32) (M27 79 4) M27) fun M31 =>
                some M31
              else
                z_bv (f_X3_readTroupe_79  M27) fun M34 =>
                some M34
            else
              z_bv (f_X3_readLike_79  M23) fun M37 =>
              some M37
          else
            z_bv (f_X3_readPlay_79  M19) fun M40 =>
            some M40
        else
          z_bv (f_X3_readThing_79  M15) fun M43 =>
          some M43
      else
        z_bv (f_X3_readTrunk_79  M11) fun M46 =>
        some M46
    else
      z_bv (f_X3_readTrain_79  M7) fun M49 =>
      some M49
  else
    z_bv (f_X3_readTown_79  M3) fun M52 =>
    some M52
theorem A_X3_readLine_79 {l : Launch} (hl : l.stackTraces = false) {Ls d : Nat} {Lm : zML}  {M M' : zMM} (h : f_X3_readLine_79  M = some M') : z_Ct l mX3_readLine (d + 7) 0 0 [.ref 79] (z_L0 Ls, M, Lm) (.inl none) (z_L0 Ls, M', Lm) := by
  replace h : (  z_bi (f_X3_isWord_79 3 M) fun v2 M3 =>
  if v2 = 0 then
    z_bi (f_X3_isWord_79 9 M3) fun v6 M7 =>
    if v6 = 0 then
      z_bi (f_X3_isWord_79 10 M7) fun v10 M11 =>
      if v10 = 0 then
        z_bi (f_X3_isWord_79 11 M11) fun v14 M15 =>
        if v14 = 0 then
          z_bi (f_X3_isWord_79 12 M15) fun v18 M19 =>
          if v18 = 0 then
            z_bi (f_X3_isWord_79 13 M19) fun v22 M23 =>
            if v22 = 0 then
              z_bi (f_X3_isWord_79 14 M23) fun v26 M27 =>
              if v26 = 0 then
                z_bv (f_X3_fail_79 (1 : Int32) (M27 79 4) M27) fun M31 =>
                some M31
              else
                z_bv (f_X3_readTroupe_79  M27) fun M34 =>
                some M34
            else
              z_bv (f_X3_readLike_79  M23) fun M37 =>
              some M37
          else
            z_bv (f_X3_readPlay_79  M19) fun M40 =>
            some M40
        else
          z_bv (f_X3_readThing_79  M15) fun M43 =>
          some M43
      else
        z_bv (f_X3_readTrunk_79  M11) fun M46 =>
        some M46
    else
      z_bv (f_X3_readTrain_79  M7) fun M49 =>
      some M49
  else
    z_bv (f_X3_readTown_79  M3) fun M52 =>
    some M52) = some M' := h
  refine z_Ct.of hl (by decide) (Nat.le_of_ble_eq_true rfl) rfl ?_
  show z_AW l mX3_readLine (d + 7) 0 0 0 [.ref 79] [] (z_L0 Ls, M, Lm) (.inl none) (z_L0 Ls, M', Lm)
  refine z_aload_n dX3_readLine_0 rfl ?_
  refine z_ldcS (tx := "town") (q := 3) (by decide +kernel) dX3_readLine_1 ?_
  obtain ⟨v2, M3, c1, h⟩ := z_bi_c h
  refine z_cV (av := [.ref 3]) (st := []) lk_X3_94 dX3_readLine_3 (A_X3_isWord_79 (d := d + 2) hl c1) rfl rfl en_79 rfl (Nat.le_of_ble_eq_true rfl) rfl z_len rfl rfl ?_
  refine z_if_eq (tgt := 16) dX3_readLine_6 rfl (fun g4 => ?_) (fun g4 => ?_)
  · replace h := (if_pos g4).symm.trans h
    refine z_aload_n dX3_readLine_16 rfl ?_
    refine z_ldcS (tx := "train") (q := 9) (by decide +kernel) dX3_readLine_17 ?_
    obtain ⟨v6, M7, c5, h⟩ := z_bi_c h
    refine z_cV (av := [.ref 9]) (st := []) lk_X3_94 dX3_readLine_19 (A_X3_isWord_79 (d := d + 2) hl c5) rfl rfl en_79 rfl (Nat.le_of_ble_eq_true rfl) rfl z_len rfl rfl ?_
    refine z_if_eq (tgt := 32) dX3_readLine_22 rfl (fun g8 => ?_) (fun g8 => ?_)
    · replace h := (if_pos g8).symm.trans h
      refine z_aload_n dX3_readLine_32 rfl ?_
      refine z_ldcS (tx := "trunk") (q := 10) (by decide +kernel) dX3_readLine_33 ?_
      obtain ⟨v10, M11, c9, h⟩ := z_bi_c h
      refine z_cV (av := [.ref 10]) (st := []) lk_X3_94 dX3_readLine_35 (A_X3_isWord_79 (d := d + 2) hl c9) rfl rfl en_79 rfl (Nat.le_of_ble_eq_true rfl) rfl z_len rfl rfl ?_
      refine z_if_eq (tgt := 48) dX3_readLine_38 rfl (fun g12 => ?_) (fun g12 => ?_)
      · replace h := (if_pos g12).symm.trans h
        refine z_aload_n dX3_readLine_48 rfl ?_
        refine z_ldcS (tx := "thing") (q := 11) (by decide +kernel) dX3_readLine_49 ?_
        obtain ⟨v14, M15, c13, h⟩ := z_bi_c h
        refine z_cV (av := [.ref 11]) (st := []) lk_X3_94 dX3_readLine_51 (A_X3_isWord_79 (d := d + 2) hl c13) rfl rfl en_79 rfl (Nat.le_of_ble_eq_true rfl) rfl z_len rfl rfl ?_
        refine z_if_eq (tgt := 64) dX3_readLine_54 rfl (fun g16 => ?_) (fun g16 => ?_)
        · replace h := (if_pos g16).symm.trans h
          refine z_aload_n dX3_readLine_64 rfl ?_
          refine z_ldcS (tx := "play") (q := 12) (by decide +kernel) dX3_readLine_65 ?_
          obtain ⟨v18, M19, c17, h⟩ := z_bi_c h
          refine z_cV (av := [.ref 12]) (st := []) lk_X3_94 dX3_readLine_67 (A_X3_isWord_79 (d := d + 2) hl c17) rfl rfl en_79 rfl (Nat.le_of_ble_eq_true rfl) rfl z_len rfl rfl ?_
          refine z_if_eq (tgt := 80) dX3_readLine_70 rfl (fun g20 => ?_) (fun g20 => ?_)
          · replace h := (if_pos g20).symm.trans h
            refine z_aload_n dX3_readLine_80 rfl ?_
            refine z_ldcS (tx := "like") (q := 13) (by decide +kernel) dX3_readLine_81 ?_
            obtain ⟨v22, M23, c21, h⟩ := z_bi_c h
            refine z_cV (av := [.ref 13]) (st := []) lk_X3_94 dX3_readLine_83 (A_X3_isWord_79 (d := d + 2) hl c21) rfl rfl en_79 rfl (Nat.le_of_ble_eq_true rfl) rfl z_len rfl rfl ?_
            refine z_if_eq (tgt := 96) dX3_readLine_86 rfl (fun g24 => ?_) (fun g24 => ?_)
            · replace h := (if_pos g24).symm.trans h
              refine z_aload_n dX3_readLine_96 rfl ?_
              refine z_ldcS (tx := "troupe") (q := 14) (by decide +kernel) dX3_readLine_97 ?_
              obtain ⟨v26, M27, c25, h⟩ := z_bi_c h
              refine z_cV (av := [.ref 14]) (st := []) lk_X3_94 dX3_readLine_99 (A_X3_isWord_79 (d := d + 2) hl c25) rfl rfl en_79 rfl (Nat.le_of_ble_eq_true rfl) rfl z_len rfl rfl ?_
              refine z_if_eq (tgt := 112) dX3_readLine_102 rfl (fun g28 => ?_) (fun g28 => ?_)
              · replace h := (if_pos g28).symm.trans h
                refine z_aload_n dX3_readLine_112 rfl ?_
                refine z_ic kc_p1 dX3_readLine_113 ?_
                refine z_aload_n dX3_readLine_114 rfl ?_
                refine z_gI (v := (M27 79 4)) fl_X3_18 dX3_readLine_115 en_79 rfl rfl ?_
                obtain ⟨M31, c29, h⟩ := z_bv_c h
                refine z_cV (av := [.int (1 : Int32), .int (M27 79 4)]) (st := []) lk_X3_88 dX3_readLine_118 (A_X3_fail_79 (d := d + 6) hl c29) rfl rfl en_79 rfl (Nat.le_of_ble_eq_true rfl) rfl z_len rfl rfl ?_
                cases h
                exact z_return dX3_readLine_121 rfl
              · replace h := (if_neg g28).symm.trans h
                refine z_aload_n dX3_readLine_105 rfl ?_
                obtain ⟨M34, c32, h⟩ := z_bv_c h
                refine z_cV (av := []) (st := []) lk_X3_128 dX3_readLine_106 (A_X3_readTroupe_79 (d := d + 3) hl c32) rfl rfl en_79 rfl (Nat.le_of_ble_eq_true rfl) rfl z_len rfl rfl ?_
                refine z_goto (tgt := 121) dX3_readLine_109 rfl ?_
                cases h
                exact z_return dX3_readLine_121 rfl
            · replace h := (if_neg g24).symm.trans h
              refine z_aload_n dX3_readLine_89 rfl ?_
              obtain ⟨M37, c35, h⟩ := z_bv_c h
              refine z_cV (av := []) (st := []) lk_X3_123 dX3_readLine_90 (A_X3_readLike_79 (d := d + 3) hl c35) rfl rfl en_79 rfl (Nat.le_of_ble_eq_true rfl) rfl z_len rfl rfl ?_
              refine z_goto (tgt := 121) dX3_readLine_93 rfl ?_
              cases h
              exact z_return dX3_readLine_121 rfl
          · replace h := (if_neg g20).symm.trans h
            refine z_aload_n dX3_readLine_73 rfl ?_
            obtain ⟨M40, c38, h⟩ := z_bv_c h
            refine z_cV (av := []) (st := []) lk_X3_118 dX3_readLine_74 (A_X3_readPlay_79 (d := d + 3) hl c38) rfl rfl en_79 rfl (Nat.le_of_ble_eq_true rfl) rfl z_len rfl rfl ?_
            refine z_goto (tgt := 121) dX3_readLine_77 rfl ?_
            cases h
            exact z_return dX3_readLine_121 rfl
        · replace h := (if_neg g16).symm.trans h
          refine z_aload_n dX3_readLine_57 rfl ?_
          obtain ⟨M43, c41, h⟩ := z_bv_c h
          refine z_cV (av := []) (st := []) lk_X3_113 dX3_readLine_58 (A_X3_readThing_79 (d := d + 3) hl c41) rfl rfl en_79 rfl (Nat.le_of_ble_eq_true rfl) rfl z_len rfl rfl ?_
          refine z_goto (tgt := 121) dX3_readLine_61 rfl ?_
          cases h
          exact z_return dX3_readLine_121 rfl
      · replace h := (if_neg g12).symm.trans h
        refine z_aload_n dX3_readLine_41 rfl ?_
        obtain ⟨M46, c44, h⟩ := z_bv_c h
        refine z_cV (av := []) (st := []) lk_X3_108 dX3_readLine_42 (A_X3_readTrunk_79 (d := d + 3) hl c44) rfl rfl en_79 rfl (Nat.le_of_ble_eq_true rfl) rfl z_len rfl rfl ?_
        refine z_goto (tgt := 121) dX3_readLine_45 rfl ?_
        cases h
        exact z_return dX3_readLine_121 rfl
    · replace h := (if_neg g8).symm.trans h
      refine z_aload_n dX3_readLine_25 rfl ?_
      obtain ⟨M49, c47, h⟩ := z_bv_c h
      refine z_cV (av := []) (st := []) lk_X3_103 dX3_readLine_26 (A_X3_readTrain_79 (d := d + 3) hl c47) rfl rfl en_79 rfl (Nat.le_of_ble_eq_true rfl) rfl z_len rfl rfl ?_
      refine z_goto (tgt := 121) dX3_readLine_29 rfl ?_
      cases h
      exact z_return dX3_readLine_121 rfl
  · replace h := (if_neg g4).symm.trans h
    refine z_aload_n dX3_readLine_9 rfl ?_
    obtain ⟨M52, c50, h⟩ := z_bv_c h
    refine z_cV (av := []) (st := []) lk_X3_98 dX3_readLine_10 (A_X3_readTown_79 (d := d + 0) hl c50) rfl rfl en_79 rfl (Nat.le_of_ble_eq_true rfl) rfl z_len rfl rfl ?_
    refine z_goto (tgt := 121) dX3_readLine_13 rfl ?_
    cases h
    exact z_return dX3_readLine_121 rfl
