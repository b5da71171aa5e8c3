/-! X8_readNumber 107 -/
def f_X8_readNumber_107 (x1 : Int32) (x2 : Int32) (M : zMM) : Option (Int32 × zMM) :=
  z_bi (f_X8_numberNow_107 x1 x2 M) fun v2 M3 =>
  if (M3 107 24) = 0 then
    z_bv (f_X8_stepOn_107  M3) fun M7 =>
    some (v2, M7)
  else
    some (v2, M3)
theorem A_X8_readNumber_107 {l : Launch} (hl : l.stackTraces = false) {Ls d : Nat} {Lm : zML} {x1 : Int32} {x2 : Int32} {M M' : zMM} {v : Int32} (h : f_X8_readNumber_107 x1 x2 M = some (v, M')) : z_Ct l mX8_readNumber (d + 2) 0 0 [.ref 107, .int x1, .int x2] (z_L0 Ls, M, Lm) (.inl (some (.int v))) (z_L0 Ls, M', Lm) := by
  replace h : (  z_bi (f_X8_numberNow_107 x1 x2 M) fun v2 M3 =>
  if (M3 107 24) = 0 then
    z_bv (f_X8_stepOn_107  M3) fun M7 =>
    some (v2, M7)
  else
    some (v2, M3)) = some (v, M') := h
  refine z_Ct.of hl (by decide) (Nat.le_of_ble_eq_true rfl) rfl ?_
  show z_AW l mX8_readNumber (d + 2) 0 0 0 [.ref 107, .int x1, .int x2, .null] [] (z_L0 Ls, M, Lm) (.inl (some (.int v))) (z_L0 Ls, M', Lm)
  refine z_aload_n dX8_readNumber_0 rfl ?_
  refine z_iload_n dX8_readNumber_1 rfl ?_
  refine z_iload_n dX8_readNumber_2 rfl ?_
  obtain ⟨v2, M3, c1, h⟩ := z_bi_c h
  refine z_cV (av := [.int x1, .int x2]) (st := []) lk_X8_220 dX8_readNumber_3 (A_X8_numberNow_107 (d := d + 0) hl c1) rfl rfl en_107 rfl (Nat.le_of_ble_eq_true rfl) rfl z_len rfl rfl ?_
  refine z_istore_n (ls' := [.ref 107, .int x1, .int x2, .int v2]) dX8_readNumber_6 (by decide) rfl ?_
  refine z_aload_n dX8_readNumber_7 rfl ?_
  refine z_gI (v := (M3 107 24)) fl_X8_195 dX8_readNumber_8 en_107 rfl rfl ?_
  refine z_if_ne (tgt := 18) dX8_readNumber_11 rfl (fun g4 => ?_) (fun g4 => ?_)
  · replace h := (if_pos g4).symm.trans h
    refine z_aload_n dX8_readNumber_14 rfl ?_
    obtain ⟨M7, c5, h⟩ := z_bv_c h
    refine z_cV (av := []) (st := []) lk_X8_213 dX8_readNumber_15 (A_X8_stepOn_107 (d := d + 0) hl c5) rfl rfl en_107 rfl (Nat.le_of_ble_eq_true rfl) rfl z_len rfl rfl ?_
    refine z_iload_n dX8_readNumber_18 rfl ?_
    cases h
    exact z_rI dX8_readNumber_19 rfl
  · replace h := (if_neg g4).symm.trans h
    refine z_iload_n dX8_readNumber_18 rfl ?_
    cases h
    exact z_rI dX8_readNumber_19 rfl
/-! X8_readLike 107 -/
def f_X8_readLike_107_p54 (x3 : Int32) (M : zMM) : Option zMM :=
  if (M 107 24) = 0 then
    z_bv (f_X8_stepOn_107  M) fun M15 =>
    z_bi (f_X8_readNumber_107 (0 : Int32) (99 : Int32) M15) fun v17 M18 =>
    if z_ib x3 800 = true then
      some (z_up M18 121 x3.toNatClampNeg v17)
    else none
  else
    some M
def f_X8_readLike_107_p49 (x3 : Int32) (M : zMM) : Option zMM :=
  z_bv (f_X8_wrong_107 (4 : Int32) M) fun M11 =>
  f_X8_readLike_107_p54 x3 M11
def f_X8_readLike_107  (M : zMM) : Option zMM :=
  z_bi (f_X8_readNumber_107 (0 : Int32) (19 : Int32) M) fun v2 M3 =>
  z_bi (f_X8_numberNow_107 (0 : Int32) (19 : Int32) M3) fun v5 M6 =>
  if (M6 107 24) = 0 then
    if v2 = v5 then
      f_X8_readLike_107_p49 (((400 : Int32) + ((20 : Int32) * v2)) + v5) M6
    else
      if z_ib (((400 : Int32) + ((20 : Int32) * v2)) + v5) 800 = true then
        if (M6 121 (((400 : Int32) + ((20 : Int32) * v2)) + v5).toNatClampNeg) = (-1 : Int32) then
          f_X8_readLike_107_p54 (((400 : Int32) + ((20 : Int32) * v2)) + v5) M6
        else
          f_X8_readLike_107_p49 (((400 : Int32) + ((20 : Int32) * v2)) + v5) M6
      else none
  else
    f_X8_readLike_107_p54 (((400 : Int32) + ((20 : Int32) * v2)) + v5) M6
theorem A_X8_readLike_107_p54 {l : Launch} (hl : l.stackTraces = false) {Ls d : Nat} {Lm : zML} :
    ∀ (x3 : Int32) (M M' : zMM) , f_X8_readLike_107_p54 x3 M = some M' → z_AW l mX8_readLike (d + 3) 0 0 54 [.ref 107, .null, .null, .int x3] [] (z_L0 Ls, M, Lm) (.inl none) (z_L0 Ls, M', Lm) := by
  intro x3 M M' h
  replace h : (  if (M 107 24) = 0 then
    z_bv (f_X8_stepOn_107  M) fun M15 =>
    z_bi (f_X8_readNumber_107 (0 : Int32) (99 : Int32) M15) fun v17 M18 =>
    if z_ib x3 800 = true then
      some (z_up M18 121 x3.toNatClampNeg v17)
    else none
  else
    some M) = some M' := h
  refine z_aload_n dX8_readLike_54 rfl ?_
  refine z_gI (v := (M 107 24)) fl_X8_195 dX8_readLike_55 en_107 rfl rfl ?_
  refine z_if_eq (tgt := 62) dX8_readLike_58 rfl (fun g12 => ?_) (fun g12 => ?_)
  · replace h := (if_pos g12).symm.trans h
    refine z_aload_n dX8_readLike_62 rfl ?_
    obtain ⟨M15, c13, h⟩ := z_bv_c h
    refine z_cV (av := []) (st := []) lk_X8_213 dX8_readLike_63 (A_X8_stepOn_107 (d := d + 1) hl c13) rfl rfl en_107 rfl (Nat.le_of_ble_eq_true rfl) rfl z_len rfl rfl ?_
    refine z_aload_n dX8_readLike_66 rfl ?_
    refine z_getR (q := 121) fl_X8_60 dX8_readLike_67 en_107 rfl ?_
    refine z_iload_n dX8_readLike_70 rfl ?_
    refine z_aload_n dX8_readLike_71 rfl ?_
    refine z_ic kc_p0 dX8_readLike_72 ?_
    refine z_bp kb_p99 dX8_readLike_73 ?_
    obtain ⟨v17, M18, c16, h⟩ := z_bi_c h
    refine z_cV (av := [.int (0 : Int32), .int (99 : Int32)]) (st := [.int x3, .ref 121]) lk_X8_230 dX8_readLike_75 (A_X8_readNumber_107 (d := d + 0) hl c16) rfl rfl en_107 rfl (Nat.le_of_ble_eq_true rfl) rfl z_len rfl rfl ?_
    obtain ⟨g19, h⟩ := z_ifn h
    refine z_as dX8_readLike_78 (by decide) en_121 rfl (z_ib_in g19) ?_
    cases h
    exact z_return dX8_readLike_79 rfl
  · replace h := (if_neg g12).symm.trans h
    cases h
    exact z_return dX8_readLike_61 rfl
theorem A_X8_readLike_107_p49 {l : Launch} (hl : l.stackTraces = false) {Ls d : Nat} {Lm : zML} :
    ∀ (x3 : Int32) (M M' : zMM) , f_X8_readLike_107_p49 x3 M = some M' → z_AW l mX8_readLike (d + 3) 0 0 49 [.ref 107, .null, .null, .int x3] [] (z_L0 Ls, M, Lm) (.inl none) (z_L0 Ls, M', Lm) := by
  intro x3 M M' h
  replace h : (  z_bv (f_X8_wrong_107 (4 : Int32) M) fun M11 =>
  f_X8_readLike_107_p54 x3 M11) = some M' := h
  refine z_aload_n dX8_readLike_49 rfl ?_
  refine z_ic kc_p4 dX8_readLike_50 ?_
  obtain ⟨M11, c9, h⟩ := z_bv_c h
  refine z_cV (av := [.int (4 : Int32)]) (st := []) lk_X8_216 dX8_readLike_51 (A_X8_wrong_107 (d := d + 2) hl c9) rfl rfl en_107 rfl (Nat.le_of_ble_eq_true rfl) rfl z_len rfl rfl ?_
  exact A_X8_readLike_107_p54 hl x3 _ _ h
theorem A_X8_readLike_107 {l : Launch} (hl : l.stackTraces = false) {Ls d : Nat} {Lm : zML}  {M M' : zMM} (h : f_X8_readLike_107  M = some M') : z_Ct l mX8_readLike (d + 3) 0 0 [.ref 107] (z_L0 Ls, M, Lm) (.inl none) (z_L0 Ls, M', Lm) := by
  replace h : (  z_bi (f_X8_readNumber_107 (0 : Int32) (19 : Int32) M) fun v2 M3 =>
  z_bi (f_X8_numberNow_107 (0 : Int32) (19 : Int32) M3) fun v5 M6 =>
  if (M6 107 24) = 0 then
    if v2 = v5 then
      f_X8_readLike_107_p49 (((400 : Int32) + ((20 : Int32) * v2)) + v5) M6
    else
      if z_ib (((400 : Int32) + ((20 : Int32) * v2)) + v5) 800 = true then
        if (M6 121 (((400 : Int32) + ((20 : Int32) * v2)) + v5).toNatClampNeg) = (-1 : Int32) then
          f_X8_readLike_107_p54 (((400 : Int32) + ((20 : Int32) * v2)) + v5) M6
        else
          f_X8_readLike_107_p49 (((400 : Int32) + ((20 : Int32) * v2)) + v5) M6
      else none
  else
    f_X8_readLike_107_p54 (((400 : Int32) + ((20 : Int32) * v2)) + v5) M6) = some M' := h
  refine z_Ct.of hl (by decide) (Nat.le_of_ble_eq_true rfl) rfl ?_
  show z_AW l mX8_readLike (d + 3) 0 0 0 [.ref 107, .null, .null, .null] [] (z_L0 Ls, M, Lm) (.inl none) (z_L0 Ls, M', Lm)
  refine z_aload_n dX8_readLike_0 rfl ?_
  refine z_ic kc_p0 dX8_readLike_1 ?_
  refine z_bp kb_p19 dX8_readLike_2 ?_
  obtain ⟨v2, M3, c1, h⟩ := z_bi_c h
  refine z_cV (av := [.int (0 : Int32), .int (19 : Int32)]) (st := []) lk_X8_230 dX8_readLike_4 (A_X8_readNumber_107 (d := d + 0) hl c1) rfl rfl en_107 rfl (Nat.le_of_ble_eq_true rfl) rfl z_len rfl rfl ?_
  refine z_istore_n (ls' := [.ref 107, .int v2, .null, .null]) dX8_readLike_7 (by decide) rfl ?_
  refine z_aload_n dX8_readLike_8 rfl ?_
  refine z_ic kc_p0 dX8_readLike_9 ?_
  refine z_bp kb_p19 dX8_readLike_10 ?_
  obtain ⟨v5, M6, c4, h⟩ := z_bi_c h
  refine z_cV (av := [.int (0 : Int32), .int (19 : Int32)]) (st := []) lk_X8_220 dX8_readLike_12 (A_X8_numberNow_107 (d := d + 1) hl c4) rfl rfl en_107 rfl (Nat.le_of_ble_eq_true rfl) rfl z_len rfl rfl ?_
  refine z_istore_n (ls' := [.ref 107, .int v2, .int v5, .null]) dX8_readLike_15 (by decide) rfl ?_
  refine z_sp ks_p400 dX8_readLike_16 ?_
  refine z_bp kb_p20 dX8_readLike_19 ?_
  refine z_iload_n dX8_readLike_21 rfl ?_
  refine z_imul dX8_readLike_22 ?_
  refine z_iadd dX8_readLike_23 ?_
  refine z_iload_n dX8_readLike_24 rfl ?_
  refine z_iadd dX8_readLike_25 ?_
  refine z_istore_n (ls' := [.ref 107, .int v2, .int v5, .int (((400 : Int32) + ((20 : Int32) * v2)) + v5)]) dX8_readLike_26 (by decide) rfl ?_
  refine z_aload_n dX8_readLike_27 rfl ?_
  refine z_gI (v := (M6 107 24)) fl_X8_195 dX8_readLike_28 en_107 rfl rfl ?_
  refine z_if_ne (tgt := 54) dX8_readLike_31 rfl (fun g7 => ?_) (fun g7 => ?_)
  · replace h := (if_pos g7).symm.trans h
    refine z_iload_n dX8_readLike_34 rfl ?_
    refine z_iload_n dX8_readLike_35 rfl ?_
    refine z_icmp_eq (tgt := 49) dX8_readLike_36 rfl (fun g8 => ?_) (fun g8 => ?_)
    · replace h := (if_pos g8).symm.trans h
      refine z_fg (ls' := [.ref 107, .null, .null, .int (((400 : Int32) + ((20 : Int32) * v2)) + v5)]) ⟨Or.inr rfl, Or.inl rfl, Or.inl rfl, Or.inr rfl, trivial⟩ ?_
      exact A_X8_readLike_107_p49 hl (((400 : Int32) + ((20 : Int32) * v2)) + v5) _ _ h
    · replace h := (if_neg g8).symm.trans h
      refine z_aload_n dX8_readLike_39 rfl ?_
      refine z_getR (q := 121) fl_X8_60 dX8_readLike_40 en_107 rfl ?_
      refine z_iload_n dX8_readLike_43 rfl ?_
      obtain ⟨g20, h⟩ := z_ifn h
      refine z_al (v := (M6 121 (((400 : Int32) + ((20 : Int32) * v2)) + v5).toNatClampNeg)) dX8_readLike_44 en_121 rfl (z_ib_in g20) rfl ?_
      refine z_ic kc_m1 dX8_readLike_45 ?_
      refine z_icmp_eq (tgt := 54) dX8_readLike_46 rfl (fun g21 => ?_) (fun g21 => ?_)
      · replace h := (if_pos g21).symm.trans h
        refine z_fg (ls' := [.ref 107, .null, .null, .int (((400 : Int32) + ((20 : Int32) * v2)) + v5)]) ⟨Or.inr rfl, Or.inl rfl, Or.inl rfl, Or.inr rfl, trivial⟩ ?_
        exact A_X8_readLike_107_p54 hl (((400 : Int32) + ((20 : Int32) * v2)) + v5) _ _ h
      · replace h := (if_neg g21).symm.trans h
        refine z_fg (ls' := [.ref 107, .null, .null, .int (((400 : Int32) + ((20 : Int32) * v2)) + v5)]) ⟨Or.inr rfl, Or.inl rfl, Or.inl rfl, Or.inr rfl, trivial⟩ ?_
        exact A_X8_readLike_107_p49 hl (((400 : Int32) + ((20 : Int32) * v2)) + v5) _ _ h
  · replace h := (if_neg g7).symm.trans h
    refine z_fg (ls' := [.ref 107, .null, .null, .int (((400 : Int32) + ((20 : Int32) * v2)) + v5)]) ⟨Or.inr rfl, Or.inl rfl, Or.inl rfl, Or.inr rfl, trivial⟩ ?_
    exact A_X8_readLike_107_p54 hl (((400 : Int32) + ((20 : Int32) * v2)) + v5) _ _ h
/-! X8_begin 107 -/
def f_X8_begin_107 (x1 : Int32) (x2 : Int32) (M : zMM) : Option (Int32 × zMM) :=
  if z_ib ((5 : Int32) + x1) 10 = true then
    if (M 109 ((5 : Int32) + x1).toNatClampNeg) = x2 then
      z_bv (f_X8_wrong_107 (2 : Int32) M) fun M5 =>
      if (M5 107 24) = 0 then
        z_bv (f_X8_stepOn_107  M5) fun M9 =>
        some ((1 : Int32), M9)
      else
        some ((0 : Int32), M5)
    else
      if (M 107 24) = 0 then
        z_bv (f_X8_stepOn_107  M) fun M13 =>
        some ((1 : Int32), M13)
      else
        some ((0 : Int32), M)
  else none
theorem A_X8_begin_107 {l : Launch} (hl : l.stackTraces = false) {Ls d : Nat} {Lm : zML} {x1 : Int32} {x2 : Int32} {M M' : zMM} {v : Int32} (h : f_X8_begin_107 x1 x2 M = some (v, M')) : z_Ct l mX8_begin (d + 2) 0 0 [.ref 107, .int x1, .int x2] (z_L0 Ls, M, Lm) (.inl (some (.int v))) (z_L0 Ls, M', Lm) := by
  replace h : (  if z_ib ((5 : Int32) + x1) 10 = true then
    if (M 109 ((5 : Int32) + x1).toNatClampNeg) = x2 then
      z_bv (f_X8_wrong_107 (2 : Int32) M) fun M5 =>
      if (M5 107 24) = 0 then
        z_bv (f_X8_stepOn_107  M5) fun M9 =>
        some ((1 : Int32), M9)
      else
        some ((0 : Int32), M5)
    else
      if (M 107 24) = 0 then
        z_bv (f_X8_stepOn_107  M) fun M13 =>
        some ((1 : Int32), M13)
      else
        some ((0 : Int32), M)
  else none) = some (v, M') := h
  refine z_Ct.of hl (by decide) (Nat.le_of_ble_eq_true rfl) rfl ?_
  show z_AW l mX8_begin (d + 2) 0 0 0 [.ref 107, .int x1, .int x2] [] (z_L0 Ls, M, Lm) (.inl (some (.int v))) (z_L0 Ls, M', Lm)
  refine z_aload_n dX8_begin_0 rfl ?_
  refine z_getR (q := 109) fl_X8_23 dX8_begin_1 en_107 rfl ?_
  refine z_ic kc_p5 dX8_begin_4 ?_
  refine z_iload_n dX8_begin_5 rfl ?_
  refine z_iadd dX8_begin_6 ?_
  obtain ⟨g1, h⟩ := z_ifn h
  refine z_al (v := (M 109 ((5 : Int32) + x1).toNatClampNeg)) dX8_begin_7 en_109 rfl (z_ib_in g1) rfl ?_
  refine z_iload_n dX8_begin_8 rfl ?_
  refine z_icmp_ne (tgt := 17) dX8_begin_9 rfl (fun g2 => ?_) (fun g2 => ?_)
  · replace h := (if_pos g2).symm.trans h
    refine z_aload_n dX8_begin_12 rfl ?_
    refine z_ic kc_p2 dX8_begin_13 ?_
    obtain ⟨M5, c3, h⟩ := z_bv_c h
    refine z_cV (av := [.int (2 : Int32)]) (st := []) lk_X8_216 dX8_begin_14 (A_X8_wrong_107 (d := d + 1) hl c3) rfl rfl en_107 rfl (Nat.le_of_ble_eq_true rfl) rfl z_len rfl rfl ?_
    refine z_aload_n dX8_begin_17 rfl ?_
    refine z_gI (v := (M5 107 24)) fl_X8_195 dX8_begin_18 en_107 rfl rfl ?_
    refine z_if_eq (tgt := 26) dX8_begin_21 rfl (fun g6 => ?_) (fun g6 => ?_)
    · replace h := (if_pos g6).symm.trans h
      refine z_aload_n dX8_begin_26 rfl ?_
      obtain ⟨M9, c7, h⟩ := z_bv_c h
      refine z_cV (av := []) (st := []) lk_X8_213 dX8_begin_27 (A_X8_stepOn_107 (d := d + 0) hl c7) rfl rfl en_107 rfl (Nat.le_of_ble_eq_true rfl) rfl z_len rfl rfl ?_
      refine z_ic kc_p1 dX8_begin_30 ?_
      cases h
      exact z_rZ dX8_begin_31 rfl rfl
    · replace h := (if_neg g6).symm.trans h
      refine z_ic kc_p0 dX8_begin_24 ?_
      cases h
      exact z_rZ dX8_begin_25 rfl rfl
  · replace h := (if_neg g2).symm.trans h
    refine z_aload_n dX8_begin_17 rfl ?_
    refine z_gI (v := (M 107 24)) fl_X8_195 dX8_begin_18 en_107 rfl rfl ?_
    refine z_if_eq (tgt := 26) dX8_begin_21 rfl (fun g10 => ?_) (fun g10 => ?_)
    · replace h := (if_pos g10).symm.trans h
      refine z_aload_n dX8_begin_26 rfl ?_
      obtain ⟨M13, c11, h⟩ := z_bv_c h
      refine z_cV (av := []) (st := []) lk_X8_213 dX8_begin_27 (A_X8_stepOn_107 (d := d + 0) hl c11) rfl rfl en_107 rfl (Nat.le_of_ble_eq_true rfl) rfl z_len rfl rfl ?_
      refine z_ic kc_p1 dX8_begin_30 ?_
      cases h
      exact z_rZ dX8_begin_31 rfl rfl
    · replace h := (if_neg g10).symm.trans h
      refine z_ic kc_p0 dX8_begin_24 ?_
      cases h
      exact z_rZ dX8_begin_25 rfl rfl
/-! X8_readPlay 107 -/
def f_X8_readPlay_107_p70 (K40 : Int32 → zMM → Option zMM) (x1 : Int32) (M : zMM) : Option zMM :=
  z_bi (f_X8_readNumber_107 (0 : Int32) (19 : Int32) M) fun v18 M19 =>
  if (M19 107 24) = 0 then
    if z_ib x1 8 = true then
      if z_ib (((4 : Int32) * x1) + (M19 120 x1.toNatClampNeg)) 32 = true then
        if z_ib x1 8 = true then
          if z_ib x1 8 = true then
            if (M19 107 20) = (2 : Int32) then
              K40 x1 (z_up (z_up M19 119 (((4 : Int32) * x1) + (M19 120 x1.toNatClampNeg)).toNatClampNeg v18) 120 x1.toNatClampNeg ((M19 120 x1.toNatClampNeg) + (1 : Int32)))
            else
              some (z_up (z_up (z_up M19 119 (((4 : Int32) * x1) + (M19 120 x1.toNatClampNeg)).toNatClampNeg v18) 120 x1.toNatClampNeg ((M19 120 x1.toNatClampNeg) + (1 : Int32))) 109 8 ((M19 109 8) + (1 : Int32)))
          else none
        else none
      else none
    else none
  else
    some M19
def f_X8_readPlay_107_p40 : Nat → Int32 → zMM → Option zMM
  | 0, _, _ => none
  | n + 1, x1, M =>
  if (M 107 24) = 0 then
    if (M 107 20) = (2 : Int32) then
      if z_ib x1 8 = true then
        if (M 120 x1.toNatClampNeg) = (4 : Int32) then
          z_bv (f_X8_wrong_107 (2 : Int32) M) fun M16 =>
          f_X8_readPlay_107_p70 (f_X8_readPlay_107_p40 n) x1 M16
        else
          f_X8_readPlay_107_p70 (f_X8_readPlay_107_p40 n) x1 M
      else none
    else
      f_X8_readPlay_107_p70 (f_X8_readPlay_107_p40 n) x1 M
  else
    f_X8_readPlay_107_p70 (f_X8_readPlay_107_p40 n) x1 M
def f_X8_readPlay_107  (M : zMM) : Option zMM :=
  z_bi (f_X8_begin_107 (3 : Int32) (4 : Int32) M) fun v2 M3 =>
  if v2 = 0 then
    some M3
  else
    z_bi (f_X8_readNumber_107 (1 : Int32) (20 : Int32) M3) fun v6 M7 =>
    if z_ib ((4 : Int32) + (M3 109 8)) 8 = true then
      if z_ib ((4 : Int32) + (M3 109 8)) 8 = true then
        f_X8_readPlay_107_p40 z_fuel ((4 : Int32) + (M3 109 8)) (z_up (z_up M7 118 ((4 : Int32) + (M3 109 8)).toNatClampNeg v6) 120 ((4 : Int32) + (M3 109 8)).toNatClampNeg (0 : Int32))
      else none
    else none
theorem A_X8_readPlay_107_p70 {l : Launch} (hl : l.stackTraces = false) {Ls d : Nat} {Lm : zML} {K40 : Int32 → zMM → Option zMM}
    (hK40 : ∀ (x1 : Int32) (M M' : zMM) , K40 x1 M = some M' → z_AW l mX8_readPlay (d + 3) 0 0 40 [.ref 107, .int x1, .null] [] (z_L0 Ls, M, Lm) (.inl none) (z_L0 Ls, M', Lm)) :
    ∀ (x1 : Int32) (M M' : zMM) , f_X8_readPlay_107_p70 K40 x1 M = some M' → z_AW l mX8_readPlay (d + 3) 0 0 70 [.ref 107, .int x1, .null] [] (z_L0 Ls, M, Lm) (.inl none) (z_L0 Ls, M', Lm) := by
  intro x1 M M' h
  replace h : (  z_bi (f_X8_readNumber_107 (0 : Int32) (19 : Int32) M) fun v18 M19 =>
  if (M19 107 24) = 0 then
    if z_ib x1 8 = true then
      if z_ib (((4 : Int32) * x1) + (M19 120 x1.toNatClampNeg)) 32 = true then
        if z_ib x1 8 = true then
          if z_ib x1 8 = true then
            if (M19 107 20) = (2 : Int32) then
              K40 x1 (z_up (z_up M19 119 (((4 : Int32) * x1) + (M19 120 x1.toNatClampNeg)).toNatClampNeg v18) 120 x1.toNatClampNeg ((M19 120 x1.toNatClampNeg) + (1 : Int32)))
            else
              some (z_up (z_up (z_up M19 119 (((4 : Int32) * x1) + (M19 120 x1.toNatClampNeg)).toNatClampNeg v18) 120 x1.toNatClampNeg ((M19 120 x1.toNatClampNeg) + (1 : Int32))) 109 8 ((M19 109 8) + (1 : Int32)))
          else none
        else none
      else none
    else none
  else
    some M19) = some M' := h
  refine z_aload_n dX8_readPlay_70 rfl ?_
  refine z_ic kc_p0 dX8_readPlay_71 ?_
  refine z_bp kb_p19 dX8_readPlay_72 ?_
  obtain ⟨v18, M19, c17, h⟩ := z_bi_c h
  refine z_cV (av := [.int (0 : Int32), .int (19 : Int32)]) (st := []) lk_X8_230 dX8_readPlay_74 (A_X8_readNumber_107 (d := d + 0) hl c17) rfl rfl en_107 rfl (Nat.le_of_ble_eq_true rfl) rfl z_len rfl rfl ?_
  refine z_istore_n (ls' := [.ref 107, .int x1, .int v18]) dX8_readPlay_77 (by decide) rfl ?_
  refine z_aload_n dX8_readPlay_78 rfl ?_
  refine z_gI (v := (M19 107 24)) fl_X8_195 dX8_readPlay_79 en_107 rfl rfl ?_
  refine z_if_eq (tgt := 86) dX8_readPlay_82 rfl (fun g20 => ?_) (fun g20 => ?_)
  · replace h := (if_pos g20).symm.trans h
    refine z_aload_n dX8_readPlay_86 rfl ?_
    refine z_getR (q := 119) fl_X8_54 dX8_readPlay_87 en_107 rfl ?_
    refine z_ic kc_p4 dX8_readPlay_90 ?_
    refine z_iload_n dX8_readPlay_91 rfl ?_
    refine z_imul dX8_readPlay_92 ?_
    refine z_aload_n dX8_readPlay_93 rfl ?_
    refine z_getR (q := 120) fl_X8_57 dX8_readPlay_94 en_107 rfl ?_
    refine z_iload_n dX8_readPlay_97 rfl ?_
    obtain ⟨g21, h⟩ := z_ifn h
    refine z_al (v := (M19 120 x1.toNatClampNeg)) dX8_readPlay_98 en_120 rfl (z_ib_in g21) rfl ?_
    refine z_iadd dX8_readPlay_99 ?_
    refine z_iload_n dX8_readPlay_100 rfl ?_
    obtain ⟨g22, h⟩ := z_ifn h
    refine z_as dX8_readPlay_101 (by decide) en_119 rfl (z_ib_in g22) ?_
    refine z_aload_n dX8_readPlay_102 rfl ?_
    refine z_getR (q := 120) fl_X8_57 dX8_readPlay_103 en_107 rfl ?_
    refine z_iload_n dX8_readPlay_106 rfl ?_
    refine z_dup2 dX8_readPlay_107 rfl rfl ?_
    obtain ⟨g23, h⟩ := z_ifn h
    refine z_al (v := (M19 120 x1.toNatClampNeg)) dX8_readPlay_108 en_120 rfl (z_ib_in g23) rfl ?_
    refine z_ic kc_p1 dX8_readPlay_109 ?_
    refine z_iadd dX8_readPlay_110 ?_
    obtain ⟨g24, h⟩ := z_ifn h
    refine z_as dX8_readPlay_111 (by decide) en_120 rfl (z_ib_in g24) ?_
    refine z_aload_n dX8_readPlay_112 rfl ?_
    refine z_gI (v := (M19 107 20)) fl_X8_172 dX8_readPlay_113 en_107 rfl rfl ?_
    refine z_ic kc_p2 dX8_readPlay_116 ?_
    refine z_icmp_eq (tgt := 40) dX8_readPlay_117 rfl (fun g25 => ?_) (fun g25 => ?_)
    · replace h := (if_pos g25).symm.trans h
      refine z_fg (ls' := [.ref 107, .int x1, .null]) ⟨Or.inr rfl, Or.inr rfl, Or.inl rfl, trivial⟩ ?_
      exact hK40 x1 _ _ h
    · replace h := (if_neg g25).symm.trans h
      refine z_aload_n dX8_readPlay_120 rfl ?_
      refine z_getR (q := 109) fl_X8_23 dX8_readPlay_121 en_107 rfl ?_
      refine z_bp kb_p8 dX8_readPlay_124 ?_
      refine z_dup2 dX8_readPlay_126 rfl rfl ?_
      refine z_al (v := (M19 109 8)) dX8_readPlay_127 en_109 kn_p8 (z_ib_in rfl) rfl ?_
      refine z_ic kc_p1 dX8_readPlay_128 ?_
      refine z_iadd dX8_readPlay_129 ?_
      refine z_as dX8_readPlay_130 (by decide) en_109 kn_p8 (z_ib_in rfl) ?_
      cases h
      exact z_return dX8_readPlay_131 rfl
  · replace h := (if_neg g20).symm.trans h
    cases h
    exact z_return dX8_readPlay_85 rfl
theorem A_X8_readPlay_107_p40 {l : Launch} (hl : l.stackTraces = false) {Ls d : Nat} {Lm : zML} :
    ∀ (n : Nat) (x1 : Int32) (M M' : zMM) , f_X8_readPlay_107_p40 n x1 M = some M' → z_AW l mX8_readPlay (d + 3) 0 0 40 [.ref 107, .int x1, .null] [] (z_L0 Ls, M, Lm) (.inl none) (z_L0 Ls, M', Lm) := by
  intro n
  induction n with
  | zero => intro x1 M M' h; cases h
  | succ n ih =>
    intro x1 M M' h
    replace h : (  if (M 107 24) = 0 then
    if (M 107 20) = (2 : Int32) then
      if z_ib x1 8 = true then
        if (M 120 x1.toNatClampNeg) = (4 : Int32) then
          z_bv (f_X8_wrong_107 (2 : Int32) M) fun M16 =>
          f_X8_readPlay_107_p70 (f_X8_readPlay_107_p40 n) x1 M16
        else
          f_X8_readPlay_107_p70 (f_X8_readPlay_107_p40 n) x1 M
      else none
    else
      f_X8_readPlay_107_p70 (f_X8_readPlay_107_p40 n) x1 M
  else
    f_X8_readPlay_107_p70 (f_X8_readPlay_107_p40 n) x1 M) = some M' := h
    refine z_aload_n dX8_readPlay_40 rfl ?_
    refine z_gI (v := (M 107 24)) fl_X8_195 dX8_readPlay_41 en_107 rfl rfl ?_
    refine z_if_ne (tgt := 70) dX8_readPlay_44 rfl (fun g10 => ?_) (fun g10 => ?_)
    · replace h := (if_pos g10).symm.trans h
      refine z_aload_n dX8_readPlay_47 rfl ?_
      refine z_gI (v := (M 107 20)) fl_X8_172 dX8_readPlay_48 en_107 rfl rfl ?_
      refine z_ic kc_p2 dX8_readPlay_51 ?_
      refine z_icmp_ne (tgt := 70) dX8_readPlay_52 rfl (fun g11 => ?_) (fun g11 => ?_)
      · replace h := (if_pos g11).symm.trans h
        refine z_aload_n dX8_readPlay_55 rfl ?_
        refine z_getR (q := 120) fl_X8_57 dX8_readPlay_56 en_107 rfl ?_
        refine z_iload_n dX8_readPlay_59 rfl ?_
        obtain ⟨g12, h⟩ := z_ifn h
        refine z_al (v := (M 120 x1.toNatClampNeg)) dX8_readPlay_60 en_120 rfl (z_ib_in g12) rfl ?_
        refine z_ic kc_p4 dX8_readPlay_61 ?_
        refine z_icmp_ne (tgt := 70) dX8_readPlay_62 rfl (fun g13 => ?_) (fun g13 => ?_)
        · replace h := (if_pos g13).symm.trans h
          refine z_aload_n dX8_readPlay_65 rfl ?_
          refine z_ic kc_p2 dX8_readPlay_66 ?_
          obtain ⟨M16, c14, h⟩ := z_bv_c h
          refine z_cV (av := [.int (2 : Int32)]) (st := []) lk_X8_216 dX8_readPlay_67 (A_X8_wrong_107 (d := d + 2) hl c14) rfl rfl en_107 rfl (Nat.le_of_ble_eq_true rfl) rfl z_len rfl rfl ?_
          exact A_X8_readPlay_107_p70 hl ih x1 _ _ h
        · replace h := (if_neg g13).symm.trans h
          exact A_X8_readPlay_107_p70 hl ih x1 _ _ h
      · replace h := (if_neg g11).symm.trans h
        exact A_X8_readPlay_107_p70 hl ih x1 _ _ h
    · replace h := (if_neg g10).symm.trans h
      exact A_X8_readPlay_107_p70 hl ih x1 _ _ h
theorem A_X8_readPlay_107 {l : Launch} (hl : l.stackTraces = false) {Ls d : Nat} {Lm : zML}  {M M' : zMM} (h : f_X8_readPlay_107  M = some M') : z_Ct l mX8_readPlay (d + 3) 0 0 [.ref 107] (z_L0 Ls, M, Lm) (.inl none) (z_L0 Ls, M', Lm) := by
  replace h : (  z_bi (f_X8_begin_107 (3 : Int32) (4 : Int32) M) fun v2 M3 =>
  if v2 = 0 then
    some M3
  else
    z_bi (f_X8_readNumber_107 (1 : Int32) (20 : Int32) M3) fun v6 M7 =>
    if z_ib ((4 : Int32) + (M3 109 8)) 8 = true then
      if z_ib ((4 : Int32) + (M3 109 8)) 8 = true then
        f_X8_readPlay_107_p40 z_fuel ((4 : Int32) + (M3 109 8)) (z_up (z_up M7 118 ((4 : Int32) + (M3 109 8)).toNatClampNeg v6) 120 ((4 : Int32) + (M3 109 8)).toNatClampNeg (0 : Int32))
      else none
    else none) = some M' := h
  refine z_Ct.of hl (by decide) (Nat.le_of_ble_eq_true rfl) rfl ?_
  show z_AW l mX8_readPlay (d + 3) 0 0 0 [.ref 107, .null, .null] [] (z_L0 Ls, M, Lm) (.inl none) (z_L0 Ls, M', Lm)
  refine z_aload_n dX8_readPlay_0 rfl ?_
  refine z_ic kc_p3 dX8_readPlay_1 ?_
  refine z_ic kc_p4 dX8_readPlay_2 ?_
  obtain ⟨v2, M3, c1, h⟩ := z_bi_c h
  refine z_cV (av := [.int (3 : Int32), .int (4 : Int32)]) (st := []) lk_X8_226 dX8_readPlay_3 (A_X8_begin_107 (d := d + 0) hl c1) rfl rfl en_107 rfl (Nat.le_of_ble_eq_true rfl) rfl z_len rfl rfl ?_
  refine z_if_ne (tgt := 10) dX8_readPlay_6 rfl (fun g4 => ?_) (fun g4 => ?_)
  · replace h := (if_pos g4).symm.trans h
    cases h
    exact z_return dX8_readPlay_9 rfl
  · replace h := (if_neg g4).symm.trans h
    refine z_ic kc_p4 dX8_readPlay_10 ?_
    refine z_aload_n dX8_readPlay_11 rfl ?_
    refine z_getR (q := 109) fl_X8_23 dX8_readPlay_12 en_107 rfl ?_
    refine z_bp kb_p8 dX8_readPlay_15 ?_
    refine z_al (v := (M3 109 8)) dX8_readPlay_17 en_109 kn_p8 (z_ib_in rfl) rfl ?_
    refine z_iadd dX8_readPlay_18 ?_
    refine z_istore_n (ls' := [.ref 107, .int ((4 : Int32) + (M3 109 8)), .null]) dX8_readPlay_19 (by decide) rfl ?_
    refine z_aload_n dX8_readPlay_20 rfl ?_
    refine z_getR (q := 118) fl_X8_51 dX8_readPlay_21 en_107 rfl ?_
    refine z_iload_n dX8_readPlay_24 rfl ?_
    refine z_aload_n dX8_readPlay_25 rfl ?_
    refine z_ic kc_p1 dX8_readPlay_26 ?_
    refine z_bp kb_p20 dX8_readPlay_27 ?_
    obtain ⟨v6, M7, c5, h⟩ := z_bi_c h
    refine z_cV (av := [.int (1 : Int32), .int (20 : Int32)]) (st := [.int ((4 : Int32) + (M3 109 8)), .ref 118]) lk_X8_230 dX8_readPlay_29 (A_X8_readNumber_107 (d := d + 0) hl c5) rfl rfl en_107 rfl (Nat.le_of_ble_eq_true rfl) rfl z_len rfl rfl ?_
    obtain ⟨g8, h⟩ := z_ifn h
    refine z_as dX8_readPlay_32 (by decide) en_118 rfl (z_ib_in g8) ?_
    refine z_aload_n dX8_readPlay_33 rfl ?_
    refine z_getR (q := 120) fl_X8_57 dX8_readPlay_34 en_107 rfl ?_
    refine z_iload_n dX8_readPlay_37 rfl ?_
    refine z_ic kc_p0 dX8_readPlay_38 ?_
    obtain ⟨g9, h⟩ := z_ifn h
    refine z_as dX8_readPlay_39 (by decide) en_120 rfl (z_ib_in g9) ?_
    exact A_X8_readPlay_107_p40 hl z_fuel ((4 : Int32) + (M3 109 8)) _ _ h
/-! X8_oneNow 107 -/
def f_X8_oneNow_107 (x1 : Int32) (M : zMM) : Option (Int32 × zMM) :=
  z_bi (f_X8_numberNow_107 (0 : Int32) (9999 : Int32) M) fun v2 M3 =>
  if (M3 107 24) = 0 then
    if z_ib ((5 : Int32) + x1) 10 = true then
      if v2 < (M3 109 ((5 : Int32) + x1).toNatClampNeg) then
        if (M3 107 24) = 0 then
          some (v2, M3)
        else
          some ((0 : Int32), M3)
      else
        z_bv (f_X8_wrong_107 (3 : Int32) M3) fun M10 =>
        if (M10 107 24) = 0 then
          some (v2, M10)
        else
          some ((0 : Int32), M10)
    else none
  else
    if (M3 107 24) = 0 then
      some (v2, M3)
    else
      some ((0 : Int32), M3)
theorem A_X8_oneNow_107 {l : Launch} (hl : l.stackTraces = false) {Ls d : Nat} {Lm : zML} {x1 : Int32} {M M' : zMM} {v : Int32} (h : f_X8_oneNow_107 x1 M = some (v, M')) : z_Ct l mX8_oneNow (d + 2) 0 0 [.ref 107, .int x1] (z_L0 Ls, M, Lm) (.inl (some (.int v))) (z_L0 Ls, M', Lm) := by
  replace h : (  z_bi (f_X8_numberNow_107 (0 : Int32) (9999 : Int32) M) fun v2 M3 =>
  if (M3 107 24) = 0 then
    if z_ib ((5 : Int32) + x1) 10 = true then
      if v2 < (M3 109 ((5 : Int32) + x1).toNatClampNeg) then
        if (M3 107 24) = 0 then
          some (v2, M3)
        else
          some ((0 : Int32), M3)
      else
        z_bv (f_X8_wrong_107 (3 : Int32) M3) fun M10 =>
        if (M10 107 24) = 0 then
          some (v2, M10)
        else
          some ((0 : Int32), M10)
    else none
  else
    if (M3 107 24) = 0 then
      some (v2, M3)
    else
      some ((0 : Int32), M3)) = some (v, M') := h
  refine z_Ct.of hl (by decide) (Nat.le_of_ble_eq_true rfl) rfl ?_
  show z_AW l mX8_oneNow (d + 2) 0 0 0 [.ref 107, .int x1, .null] [] (z_L0 Ls, M, Lm) (.inl (some (.int v))) (z_L0 Ls, M', Lm)
  refine z_aload_n dX8_oneNow_0 rfl ?_
  refine z_ic kc_p0 dX8_oneNow_1 ?_
  refine z_sp ks_p9999 dX8_oneNow_2 ?_
  obtain ⟨v2, M3, c1, h⟩ := z_bi_c h
  refine z_cV (av := [.int (0 : Int32), .int (9999 : Int32)]) (st := []) lk_X8_220 dX8_oneNow_5 (A_X8_numberNow_107 (d := d + 0) hl c1) rfl rfl en_107 rfl (Nat.le_of_ble_eq_true rfl) rfl z_len rfl rfl ?_
  refine z_istore_n (ls' := [.ref 107, .int x1, .int v2]) dX8_oneNow_8 (by decide) rfl ?_
  refine z_aload_n dX8_oneNow_9 rfl ?_
  refine z_gI (v := (M3 107 24)) fl_X8_195 dX8_oneNow_10 en_107 rfl rfl ?_
  refine z_if_ne (tgt := 33) dX8_oneNow_13 rfl (fun g4 => ?_) (fun g4 => ?_)
  · replace h := (if_pos g4).symm.trans h
    refine z_iload_n dX8_oneNow_16 rfl ?_
    refine z_aload_n dX8_oneNow_17 rfl ?_
    refine z_getR (q := 109) fl_X8_23 dX8_oneNow_18 en_107 rfl ?_
    refine z_ic kc_p5 dX8_oneNow_21 ?_
    refine z_iload_n dX8_oneNow_22 rfl ?_
    refine z_iadd dX8_oneNow_23 ?_
    obtain ⟨g5, h⟩ := z_ifn h
    refine z_al (v := (M3 109 ((5 : Int32) + x1).toNatClampNeg)) dX8_oneNow_24 en_109 rfl (z_ib_in g5) rfl ?_
    refine z_icmp_lt (tgt := 33) dX8_oneNow_25 rfl (fun g6 => ?_) (fun g6 => ?_)
    · replace h := (if_pos g6).symm.trans h
      refine z_aload_n dX8_oneNow_33 rfl ?_
      refine z_gI (v := (M3 107 24)) fl_X8_195 dX8_oneNow_34 en_107 rfl rfl ?_
      refine z_if_ne (tgt := 44) dX8_oneNow_37 rfl (fun g7 => ?_) (fun g7 => ?_)
      · replace h := (if_pos g7).symm.trans h
        refine z_iload_n dX8_oneNow_40 rfl ?_
        refine z_goto (tgt := 45) dX8_oneNow_41 rfl ?_
        cases h
        exact z_rI dX8_oneNow_45 rfl
      · replace h := (if_neg g7).symm.trans h
        refine z_ic kc_p0 dX8_oneNow_44 ?_
        cases h
        exact z_rI dX8_oneNow_45 rfl
    · replace h := (if_neg g6).symm.trans h
      refine z_aload_n dX8_oneNow_28 rfl ?_
      refine z_ic kc_p3 dX8_oneNow_29 ?_
      obtain ⟨M10, c8, h⟩ := z_bv_c h
      refine z_cV (av := [.int (3 : Int32)]) (st := []) lk_X8_216 dX8_oneNow_30 (A_X8_wrong_107 (d := d + 1) hl c8) rfl rfl en_107 rfl (Nat.le_of_ble_eq_true rfl) rfl z_len rfl rfl ?_
      refine z_aload_n dX8_oneNow_33 rfl ?_
      refine z_gI (v := (M10 107 24)) fl_X8_195 dX8_oneNow_34 en_107 rfl rfl ?_
      refine z_if_ne (tgt := 44) dX8_oneNow_37 rfl (fun g11 => ?_) (fun g11 => ?_)
      · replace h := (if_pos g11).symm.trans h
        refine z_iload_n dX8_oneNow_40 rfl ?_
        refine z_goto (tgt := 45) dX8_oneNow_41 rfl ?_
        cases h
        exact z_rI dX8_oneNow_45 rfl
      · replace h := (if_neg g11).symm.trans h
        refine z_ic kc_p0 dX8_oneNow_44 ?_
        cases h
        exact z_rI dX8_oneNow_45 rfl
  · replace h := (if_neg g4).symm.trans h
    refine z_aload_n dX8_oneNow_33 rfl ?_
    refine z_gI (v := (M3 107 24)) fl_X8_195 dX8_oneNow_34 en_107 rfl rfl ?_
    refine z_if_ne (tgt := 44) dX8_oneNow_37 rfl (fun g12 => ?_) (fun g12 => ?_)
    · replace h := (if_pos g12).symm.trans h
      refine z_iload_n dX8_oneNow_40 rfl ?_
      refine z_goto (tgt := 45) dX8_oneNow_41 rfl ?_
      cases h
      exact z_rI dX8_oneNow_45 rfl
    · replace h := (if_neg g12).symm.trans h
      refine z_ic kc_p0 dX8_oneNow_44 ?_
      cases h
      exact z_rI dX8_oneNow_45 rfl
/-! X8_readOne 107 -/
def f_X8_readOne_107 (x1 : Int32) (M : zMM) : Option (Int32 × zMM) :=
  z_bi (f_X8_oneNow_107 x1 M) fun v2 M3 =>
  if (M3 107 24) = 0 then
    z_bv (f_X8_stepOn_107  M3) fun M7 =>
    some (v2, M7)
  else
    some (v2, M3)
theorem A_X8_readOne_107 {l : Launch} (hl : l.stackTraces = false) {Ls d : Nat} {Lm : zML} {x1 : Int32} {M M' : zMM} {v : Int32} (h : f_X8_readOne_107 x1 M = some (v, M')) : z_Ct l mX8_readOne (d + 3) 0 0 [.ref 107, .int x1] (z_L0 Ls, M, Lm) (.inl (some (.int v))) (z_L0 Ls, M', Lm) := by
  replace h : (  z_bi (f_X8_oneNow_107 x1 M) fun v2 M3 =>
  if (M3 107 24) = 0 then
    z_bv (f_X8_stepOn_107  M3) fun M7 =>
    some (v2, M7)
  else
    some (v2, M3)) = some (v, M') := h
  refine z_Ct.of hl (by decide) (Nat.le_of_ble_eq_true rfl) rfl ?_
  show z_AW l mX8_readOne (d + 3) 0 0 0 [.ref 107, .int x1, .null] [] (z_L0 Ls, M, Lm) (.inl (some (.int v))) (z_L0 Ls, M', Lm)
  refine z_aload_n dX8_readOne_0 rfl ?_
  refine z_iload_n dX8_readOne_1 rfl ?_
  obtain ⟨v2, M3, c1, h⟩ := z_bi_c h
  refine z_cV (av := [.int x1]) (st := []) lk_X8_223 dX8_readOne_2 (A_X8_oneNow_107 (d := d + 0) hl c1) rfl rfl en_107 rfl (Nat.le_of_ble_eq_true rfl) rfl z_len rfl rfl ?_
  refine z_istore_n (ls' := [.ref 107, .int x1, .int v2]) dX8_readOne_5 (by decide) rfl ?_
  refine z_aload_n dX8_readOne_6 rfl ?_
  refine z_gI (v := (M3 107 24)) fl_X8_195 dX8_readOne_7 en_107 rfl rfl ?_
  refine z_if_ne (tgt := 17) dX8_readOne_10 rfl (fun g4 => ?_) (fun g4 => ?_)
  · replace h := (if_pos g4).symm.trans h
    refine z_aload_n dX8_readOne_13 rfl ?_
    obtain ⟨M7, c5, h⟩ := z_bv_c h
    refine z_cV (av := []) (st := []) lk_X8_213 dX8_readOne_14 (A_X8_stepOn_107 (d := d + 1) hl c5) rfl rfl en_107 rfl (Nat.le_of_ble_eq_true rfl) rfl z_len rfl rfl ?_
    refine z_iload_n dX8_readOne_17 rfl ?_
    cases h
    exact z_rI dX8_readOne_18 rfl
  · replace h := (if_neg g4).symm.trans h
    refine z_iload_n dX8_readOne_17 rfl ?_
    cases h
    exact z_rI dX8_readOne_18 rfl
/-! X8_readThing 107 -/
def f_X8_readThing_107  (M : zMM) : Option zMM :=
  z_bi (f_X8_begin_107 (2 : Int32) (10 : Int32) M) fun v2 M3 =>
  if v2 = 0 then
    some M3
  else
    z_bi (f_X8_readNumber_107 (0 : Int32) (19 : Int32) M3) fun v6 M7 =>
    if z_ib ((11 : Int32) + (M3 109 7)) 22 = true then
      z_bi (f_X8_readOne_107 (1 : Int32) (z_up M7 116 ((11 : Int32) + (M3 109 7)).toNatClampNeg v6)) fun v10 M11 =>
      if z_ib ((11 : Int32) + (M3 109 7)) 22 = true then
        some (z_up (z_up M11 117 ((11 : Int32) + (M3 109 7)).toNatClampNeg v10) 109 7 ((M11 109 7) + (1 : Int32)))
      else none
    else none
theorem A_X8_readThing_107 {l : Launch} (hl : l.stackTraces = false) {Ls d : Nat} {Lm : zML}  {M M' : zMM} (h : f_X8_readThing_107  M = some M') : z_Ct l mX8_readThing (d + 4) 0 0 [.ref 107] (z_L0 Ls, M, Lm) (.inl none) (z_L0 Ls, M', Lm) := by
  replace h : (  z_bi (f_X8_begin_107 (2 : Int32) (10 : Int32) M) fun v2 M3 =>
  if v2 = 0 then
    some M3
  else
    z_bi (f_X8_readNumber_107 (0 : Int32) (19 : Int32) M3) fun v6 M7 =>
    if z_ib ((11 : Int32) + (M3 109 7)) 22 = true then
      z_bi (f_X8_readOne_107 (1 : Int32) (z_up M7 116 ((11 : Int32) + (M3 109 7)).toNatClampNeg v6)) fun v10 M11 =>
      if z_ib ((11 : Int32) + (M3 109 7)) 22 = true then
        some (z_up (z_up M11 117 ((11 : Int32) + (M3 109 7)).toNatClampNeg v10) 109 7 ((M11 109 7) + (1 : Int32)))
      else none
    else none) = some M' := h
  refine z_Ct.of hl (by decide) (Nat.le_of_ble_eq_true rfl) rfl ?_
  show z_AW l mX8_readThing (d + 4) 0 0 0 [.ref 107, .null] [] (z_L0 Ls, M, Lm) (.inl none) (z_L0 Ls, M', Lm)
  refine z_aload_n dX8_readThing_0 rfl ?_
  refine z_ic kc_p2 dX8_readThing_1 ?_
  refine z_bp kb_p10 dX8_readThing_2 ?_
  obtain ⟨v2, M3, c1, h⟩ := z_bi_c h
  refine z_cV (av := [.int (2 : Int32), .int (10 : Int32)]) (st := []) lk_X8_226 dX8_readThing_4 (A_X8_begin_107 (d := d + 1) hl c1) rfl rfl en_107 rfl (Nat.le_of_ble_eq_true rfl) rfl z_len rfl rfl ?_
  refine z_if_ne (tgt := 11) dX8_readThing_7 rfl (fun g4 => ?_) (fun g4 => ?_)
  · replace h := (if_pos g4).symm.trans h
    cases h
    exact z_return dX8_readThing_10 rfl
  · replace h := (if_neg g4).symm.trans h
    refine z_bp kb_p11 dX8_readThing_11 ?_
    refine z_aload_n dX8_readThing_13 rfl ?_
    refine z_getR (q := 109) fl_X8_23 dX8_readThing_14 en_107 rfl ?_
    refine z_bp kb_p7 dX8_readThing_17 ?_
    refine z_al (v := (M3 109 7)) dX8_readThing_19 en_109 kn_p7 (z_ib_in rfl) rfl ?_
    refine z_iadd dX8_readThing_20 ?_
    refine z_istore_n (ls' := [.ref 107, .int ((11 : Int32) + (M3 109 7))]) dX8_readThing_21 (by decide) rfl ?_
    refine z_aload_n dX8_readThing_22 rfl ?_
    refine z_getR (q := 116) fl_X8_45 dX8_readThing_23 en_107 rfl ?_
    refine z_iload_n dX8_readThing_26 rfl ?_
    refine z_aload_n dX8_readThing_27 rfl ?_
    refine z_ic kc_p0 dX8_readThing_28 ?_
    refine z_bp kb_p19 dX8_readThing_29 ?_
    obtain ⟨v6, M7, c5, h⟩ := z_bi_c h
    refine z_cV (av := [.int (0 : Int32), .int (19 : Int32)]) (st := [.int ((11 : Int32) + (M3 109 7)), .ref 116]) lk_X8_230 dX8_readThing_31 (A_X8_readNumber_107 (d := d + 1) hl c5) rfl rfl en_107 rfl (Nat.le_of_ble_eq_true rfl) rfl z_len rfl rfl ?_
    obtain ⟨g8, h⟩ := z_ifn h
    refine z_as dX8_readThing_34 (by decide) en_116 rfl (z_ib_in g8) ?_
    refine z_aload_n dX8_readThing_35 rfl ?_
    refine z_getR (q := 117) fl_X8_48 dX8_readThing_36 en_107 rfl ?_
    refine z_iload_n dX8_readThing_39 rfl ?_
    refine z_aload_n dX8_readThing_40 rfl ?_
    refine z_ic kc_p1 dX8_readThing_41 ?_
    obtain ⟨v10, M11, c9, h⟩ := z_bi_c h
    refine z_cV (av := [.int (1 : Int32)]) (st := [.int ((11 : Int32) + (M3 109 7)), .ref 117]) lk_X8_237 dX8_readThing_42 (A_X8_readOne_107 (d := d + 0) hl c9) rfl rfl en_107 rfl (Nat.le_of_ble_eq_true rfl) rfl z_len rfl rfl ?_
    obtain ⟨g12, h⟩ := z_ifn h
    refine z_as dX8_readThing_45 (by decide) en_117 rfl (z_ib_in g12) ?_
    refine z_aload_n dX8_readThing_46 rfl ?_
    refine z_getR (q := 109) fl_X8_23 dX8_readThing_47 en_107 rfl ?_
    refine z_bp kb_p7 dX8_readThing_50 ?_
    refine z_dup2 dX8_readThing_52 rfl rfl ?_
    refine z_al (v := (M11 109 7)) dX8_readThing_53 en_109 kn_p7 (z_ib_in rfl) rfl ?_
    refine z_ic kc_p1 dX8_readThing_54 ?_
    refine z_iadd dX8_readThing_55 ?_
    refine z_as dX8_readThing_56 (by decide) en_109 kn_p7 (z_ib_in rfl) ?_
    cases h
    exact z_return dX8_readThing_57 rfl
/-! X8_readTrain 107 -/
def f_X8_readTrain_107_p47 (x3 : Int32) (M : zMM) : Option zMM :=
  if (M 107 24) = 0 then
    z_bv (f_X8_stepOn_107  M) fun M15 =>
    z_bi (f_X8_readNumber_107 (1 : Int32) (9 : Int32) M15) fun v17 M18 =>
    if z_ib x3 50 = true then
      some (z_up M18 114 x3.toNatClampNeg v17)
    else none
  else
    some M
def f_X8_readTrain_107_p42 (x3 : Int32) (M : zMM) : Option zMM :=
  z_bv (f_X8_wrong_107 (4 : Int32) M) fun M11 =>
  f_X8_readTrain_107_p47 x3 M11
def f_X8_readTrain_107  (M : zMM) : Option zMM :=
  z_bi (f_X8_readOne_107 (0 : Int32) M) fun v2 M3 =>
  z_bi (f_X8_oneNow_107 (0 : Int32) M3) fun v5 M6 =>
  if (M6 107 24) = 0 then
    if v2 = v5 then
      f_X8_readTrain_107_p42 (((25 : Int32) + ((5 : Int32) * v2)) + v5) M6
    else
      if z_ib (((25 : Int32) + ((5 : Int32) * v2)) + v5) 50 = true then
        if (M6 114 (((25 : Int32) + ((5 : Int32) * v2)) + v5).toNatClampNeg) ≤ 0 then
          f_X8_readTrain_107_p47 (((25 : Int32) + ((5 : Int32) * v2)) + v5) M6
        else
          f_X8_readTrain_107_p42 (((25 : Int32) + ((5 : Int32) * v2)) + v5) M6
      else none
  else
    f_X8_readTrain_107_p47 (((25 : Int32) + ((5 : Int32) * v2)) + v5) M6
theorem A_X8_readTrain_107_p47 {l : Launch} (hl : l.stackTraces = false) {Ls d : Nat} {Lm : zML} :
    ∀ (x3 : Int32) (M M' : zMM) , f_X8_readTrain_107_p47 x3 M = some M' → z_AW l mX8_readTrain (d + 4) 0 0 47 [.ref 107, .null, .null, .int x3] [] (z_L0 Ls, M, Lm) (.inl none) (z_L0 Ls, M', Lm) := by
  intro x3 M M' h
  replace h : (  if (M 107 24) = 0 then
    z_bv (f_X8_stepOn_107  M) fun M15 =>
    z_bi (f_X8_readNumber_107 (1 : Int32) (9 : Int32) M15) fun v17 M18 =>
    if z_ib x3 50 = true then
      some (z_up M18 114 x3.toNatClampNeg v17)
    else none
  else
    some M) = some M' := h
  refine z_aload_n dX8_readTrain_47 rfl ?_
  refine z_gI (v := (M 107 24)) fl_X8_195 dX8_readTrain_48 en_107 rfl rfl ?_
  refine z_if_eq (tgt := 55) dX8_readTrain_51 rfl (fun g12 => ?_) (fun g12 => ?_)
  · replace h := (if_pos g12).symm.trans h
    refine z_aload_n dX8_readTrain_55 rfl ?_
    obtain ⟨M15, c13, h⟩ := z_bv_c h
    refine z_cV (av := []) (st := []) lk_X8_213 dX8_readTrain_56 (A_X8_stepOn_107 (d := d + 2) hl c13) rfl rfl en_107 rfl (Nat.le_of_ble_eq_true rfl) rfl z_len rfl rfl ?_
    refine z_aload_n dX8_readTrain_59 rfl ?_
    refine z_getR (q := 114) fl_X8_39 dX8_readTrain_60 en_107 rfl ?_
    refine z_iload_n dX8_readTrain_63 rfl ?_
    refine z_aload_n dX8_readTrain_64 rfl ?_
    refine z_ic kc_p1 dX8_readTrain_65 ?_
    refine z_bp kb_p9 dX8_readTrain_66 ?_
    obtain ⟨v17, M18, c16, h⟩ := z_bi_c h
    refine z_cV (av := [.int (1 : Int32), .int (9 : Int32)]) (st := [.int x3, .ref 114]) lk_X8_230 dX8_readTrain_68 (A_X8_readNumber_107 (d := d + 1) hl c16) rfl rfl en_107 rfl (Nat.le_of_ble_eq_true rfl) rfl z_len rfl rfl ?_
    obtain ⟨g19, h⟩ := z_ifn h
    refine z_as dX8_readTrain_71 (by decide) en_114 rfl (z_ib_in g19) ?_
    cases h
    exact z_return dX8_readTrain_72 rfl
  · replace h := (if_neg g12).symm.trans h
    cases h
    exact z_return dX8_readTrain_54 rfl
theorem A_X8_readTrain_107_p42 {l : Launch} (hl : l.stackTraces = false) {Ls d : Nat} {Lm : zML} :
    ∀ (x3 : Int32) (M M' : zMM) , f_X8_readTrain_107_p42 x3 M = some M' → z_AW l mX8_readTrain (d + 4) 0 0 42 [.ref 107, .null, .null, .int x3] [] (z_L0 Ls, M, Lm) (.inl none) (z_L0 Ls, M', Lm) := by
  intro x3 M M' h
  replace h : (  z_bv (f_X8_wrong_107 (4 : Int32) M) fun M11 =>
  f_X8_readTrain_107_p47 x3 M11) = some M' := h
  refine z_aload_n dX8_readTrain_42 rfl ?_
  refine z_ic kc_p4 dX8_readTrain_43 ?_
  obtain ⟨M11, c9, h⟩ := z_bv_c h
  refine z_cV (av := [.int (4 : Int32)]) (st := []) lk_X8_216 dX8_readTrain_44 (A_X8_wrong_107 (d := d + 3) hl c9) rfl rfl en_107 rfl (Nat.le_of_ble_eq_true rfl) rfl z_len rfl rfl ?_
  exact A_X8_readTrain_107_p47 hl x3 _ _ h
theorem A_X8_readTrain_107 {l : Launch} (hl : l.stackTraces = false) {Ls d : Nat} {Lm : zML}  {M M' : zMM} (h : f_X8_readTrain_107  M = some M') : z_Ct l mX8_readTrain (d + 4) 0 0 [.ref 107] (z_L0 Ls, M, Lm) (.inl none) (z_L0 Ls, M', Lm) := by
  replace h : (  z_bi (f_X8_readOne_107 (0 : Int32) M) fun v2 M3 =>
  z_bi (f_X8_oneNow_107 (0 : Int32) M3) fun v5 M6 =>
  if (M6 107 24) = 0 then
    if v2 = v5 then
      f_X8_readTrain_107_p42 (((25 : Int32) + ((5 : Int32) * v2)) + v5) M6
    else
      if z_ib (((25 : Int32) + ((5 : Int32) * v2)) + v5) 50 = true then
        if (M6 114 (((25 : Int32) + ((5 : Int32) * v2)) + v5).toNatClampNeg) ≤ 0 then
          f_X8_readTrain_107_p47 (((25 : Int32) + ((5 : Int32) * v2)) + v5) M6
        else
          f_X8_readTrain_107_p42 (((25 : Int32) + ((5 : Int32) * v2)) + v5) M6
      else none
  else
    f_X8_readTrain_107_p47 (((25 : Int32) + ((5 : Int32) * v2)) + v5) M6) = some M' := h
  refine z_Ct.of hl (by decide) (Nat.le_of_ble_eq_true rfl) rfl ?_
  show z_AW l mX8_readTrain (d + 4) 0 0 0 [.ref 107, .null, .null, .null] [] (z_L0 Ls, M, Lm) (.inl none) (z_L0 Ls, M', Lm)
  refine z_aload_n dX8_readTrain_0 rfl ?_
  refine z_ic kc_p0 dX8_readTrain_1 ?_
  obtain ⟨v2, M3, c1, h⟩ := z_bi_c h
  refine z_cV (av := [.int (0 : Int32)]) (st := []) lk_X8_237 dX8_readTrain_2 (A_X8_readOne_107 (d := d + 0) hl c1) rfl rfl en_107 rfl (Nat.le_of_ble_eq_true rfl) rfl z_len rfl rfl ?_
  refine z_istore_n (ls' := [.ref 107, .int v2, .null, .null]) dX8_readTrain_5 (by decide) rfl ?_
  refine z_aload_n dX8_readTrain_6 rfl ?_
  refine z_ic kc_p0 dX8_readTrain_7 ?_
  obtain ⟨v5, M6, c4, h⟩ := z_bi_c h
  refine z_cV (av := [.int (0 : Int32)]) (st := []) lk_X8_223 dX8_readTrain_8 (A_X8_oneNow_107 (d := d + 1) hl c4) rfl rfl en_107 rfl (Nat.le_of_ble_eq_true rfl) rfl z_len rfl rfl ?_
  refine z_istore_n (ls' := [.ref 107, .int v2, .int v5, .null]) dX8_readTrain_11 (by decide) rfl ?_
  refine z_bp kb_p25 dX8_readTrain_12 ?_
  refine z_ic kc_p5 dX8_readTrain_14 ?_
  refine z_iload_n dX8_readTrain_15 rfl ?_
  refine z_imul dX8_readTrain_16 ?_
  refine z_iadd dX8_readTrain_17 ?_
  refine z_iload_n dX8_readTrain_18 rfl ?_
  refine z_iadd dX8_readTrain_19 ?_
  refine z_istore_n (ls' := [.ref 107, .int v2, .int v5, .int (((25 : Int32) + ((5 : Int32) * v2)) + v5)]) dX8_readTrain_20 (by decide) rfl ?_
  refine z_aload_n dX8_readTrain_21 rfl ?_
  refine z_gI (v := (M6 107 24)) fl_X8_195 dX8_readTrain_22 en_107 rfl rfl ?_
  refine z_if_ne (tgt := 47) dX8_readTrain_25 rfl (fun g7 => ?_) (fun g7 => ?_)
  · replace h := (if_pos g7).symm.trans h
    refine z_iload_n dX8_readTrain_28 rfl ?_
    refine z_iload_n dX8_readTrain_29 rfl ?_
    refine z_icmp_eq (tgt := 42) dX8_readTrain_30 rfl (fun g8 => ?_) (fun g8 => ?_)
    · replace h := (if_pos g8).symm.trans h
      refine z_fg (ls' := [.ref 107, .null, .null, .int (((25 : Int32) + ((5 : Int32) * v2)) + v5)]) ⟨Or.inr rfl, Or.inl rfl, Or.inl rfl, Or.inr rfl, trivial⟩ ?_
      exact A_X8_readTrain_107_p42 hl (((25 : Int32) + ((5 : Int32) * v2)) + v5) _ _ h
    · replace h := (if_neg g8).symm.trans h
      refine z_aload_n dX8_readTrain_33 rfl ?_
      refine z_getR (q := 114) fl_X8_39 dX8_readTrain_34 en_107 rfl ?_
      refine z_iload_n dX8_readTrain_37 rfl ?_
      obtain ⟨g20, h⟩ := z_ifn h
      refine z_al (v := (M6 114 (((25 : Int32) + ((5 : Int32) * v2)) + v5).toNatClampNeg)) dX8_readTrain_38 en_114 rfl (z_ib_in g20) rfl ?_
      refine z_if_le (tgt := 47) dX8_readTrain_39 rfl (fun g21 => ?_) (fun g21 => ?_)
      · replace h := (if_pos g21).symm.trans h
        refine z_fg (ls' := [.ref 107, .null, .null, .int (((25 : Int32) + ((5 : Int32) * v2)) + v5)]) ⟨Or.inr rfl, Or.inl rfl, Or.inl rfl, Or.inr rfl, trivial⟩ ?_
        exact A_X8_readTrain_107_p47 hl (((25 : Int32) + ((5 : Int32) * v2)) + v5) _ _ h
      · replace h := (if_neg g21).symm.trans h
        refine z_fg (ls' := [.ref 107, .null, .null, .int (((25 : Int32) + ((5 : Int32) * v2)) + v5)]) ⟨Or.inr rfl, Or.inl rfl, Or.inl rfl, Or.inr rfl, trivial⟩ ?_
        exact A_X8_readTrain_107_p42 hl (((25 : Int32) + ((5 : Int32) * v2)) + v5) _ _ h
  · replace h := (if_neg g7).symm.trans h
    refine z_fg (ls' := [.ref 107, .null, .null, .int (((25 : Int32) + ((5 : Int32) * v2)) + v5)]) ⟨Or.inr rfl, Or.inl rfl, Or.inl rfl, Or.inr rfl, trivial⟩ ?_
    exact A_X8_readTrain_107_p47 hl (((25 : Int32) + ((5 : Int32) * v2)) + v5) _ _ h
/-! X8_passes 107 20 -/
def f_X8_passes_107_20  (M : zMM) : Option (Int32 × zMM) :=
  z_bi (f_X8_is_107 20 M) fun v2 M3 =>
  if v2 = 0 then
    if z_zb v2 = true then some (v2, M3) else none
  else
    z_bv (f_X8_stepOn_107  M3) fun M8 =>
    if z_zb v2 = true then some (v2, M8) else none
theorem A_X8_passes_107_20 {l : Launch} (hl : l.stackTraces = false) {Ls d : Nat} {Lm : zML}  {M M' : zMM} {v : Int32} (h : f_X8_passes_107_20  M = some (v, M')) : z_Ct l mX8_passes (d + 5) 0 0 [.ref 107, .ref 20] (z_L0 Ls, M, Lm) (.inl (some (.int v))) (z_L0 Ls, M', Lm) := by
  replace h : (  z_bi (f_X8_is_107 20 M) fun v2 M3 =>
  if v2 = 0 then
    if z_zb v2 = true then some (v2, M3) else none
  else
    z_bv (f_X8_stepOn_107  M3) fun M8 =>
    if z_zb v2 = true then some (v2, M8) else none) = some (v, M') := h
  refine z_Ct.of hl (by decide) (Nat.le_of_ble_eq_true rfl) rfl ?_
  show z_AW l mX8_passes (d + 5) 0 0 0 [.ref 107, .ref 20, .null] [] (z_L0 Ls, M, Lm) (.inl (some (.int v))) (z_L0 Ls, M', Lm)
  refine z_aload_n dX8_passes_0 rfl ?_
  refine z_aload_n dX8_passes_1 rfl ?_
  obtain ⟨v2, M3, c1, h⟩ := z_bi_c h
  refine z_cV (av := [.ref 20]) (st := []) lk_X8_209 dX8_passes_2 (A_X8_is_107 (d := d + 0) hl c1) rfl rfl en_107 rfl (Nat.le_of_ble_eq_true rfl) rfl z_len rfl rfl ?_
  refine z_istore_n (ls' := [.ref 107, .ref 20, .int v2]) dX8_passes_5 (by decide) rfl ?_
  refine z_iload_n dX8_passes_6 rfl ?_
  refine z_if_eq (tgt := 14) dX8_passes_7 rfl (fun g4 => ?_) (fun g4 => ?_)
  · replace h := (if_pos g4).symm.trans h
    refine z_iload_n dX8_passes_14 rfl ?_
    obtain ⟨g5, h⟩ := z_ifn h
    cases h
    exact z_rZ dX8_passes_15 rfl g5
  · replace h := (if_neg g4).symm.trans h
    refine z_aload_n dX8_passes_10 rfl ?_
    obtain ⟨M8, c6, h⟩ := z_bv_c h
    refine z_cV (av := []) (st := []) lk_X8_213 dX8_passes_11 (A_X8_stepOn_107 (d := d + 3) hl c6) rfl rfl en_107 rfl (Nat.le_of_ble_eq_true rfl) rfl z_len rfl rfl ?_
    refine z_iload_n dX8_passes_14 rfl ?_
    obtain ⟨g9, h⟩ := z_ifn h
    cases h
    exact z_rZ dX8_passes_15 rfl g9
/-! X8_readTown 107 -/
def f_X8_readTown_107_p151 (a0 : Int32) (a1 : Int32) (M : zMM) : Option zMM :=
  if z_ib a1 10 = true then
    some (z_up (z_up M 113 a1.toNatClampNeg a0) 109 5 ((M 109 5) + (1 : Int32)))
  else none
def f_X8_readTown_107_p130 (x1 : Int32) (x3 : Int32) (a0 : Int32) (a1 : Int32) (M : zMM) : Option zMM :=
  if z_ib a1 10 = true then
    if x3 = 0 then
      f_X8_readTown_107_p151 (0 : Int32) x1 (z_up M 112 a1.toNatClampNeg a0)
    else
      z_bi (f_X8_readNumber_107 (0 : Int32) (99 : Int32) (z_up M 112 a1.toNatClampNeg a0)) fun v25 M26 =>
      f_X8_readTown_107_p151 v25 x1 M26
  else none
def f_X8_readTown_107_p102 (x1 : Int32) (a0 : Int32) (a1 : Int32) (M : zMM) : Option zMM :=
  if z_ib a1 10 = true then
    z_bi (f_X8_passes_107_20  (z_up M 111 a1.toNatClampNeg a0)) fun v18 M19 =>
    if v18 = 0 then
      f_X8_readTown_107_p130 x1 v18 (0 : Int32) x1 M19
    else
      z_bi (f_X8_readNumber_107 (0 : Int32) (9 : Int32) M19) fun v28 M29 =>
      f_X8_readTown_107_p130 x1 v18 v28 x1 M29
  else none
def f_X8_readTown_107_p74 (x1 : Int32) (x2 : Int32) (M : zMM) : Option zMM :=
  if z_ib x1 10 = true then
    if x2 = 0 then
      f_X8_readTown_107_p102 x1 (0 : Int32) x1 (z_up M 110 x1.toNatClampNeg x2)
    else
      z_bi (f_X8_readNumber_107 (0 : Int32) (1000 : Int32) (z_up M 110 x1.toNatClampNeg x2)) fun v31 M32 =>
      f_X8_readTown_107_p102 x1 v31 x1 M32
  else none
def f_X8_readTown_107_p63 (x1 : Int32) (x2 : Int32) (M : zMM) : Option zMM :=
  if (M 107 24) = 0 then
    z_bv (f_X8_stepOn_107  M) fun M13 =>
    f_X8_readTown_107_p74 x1 x2 M13
  else
    f_X8_readTown_107_p74 x1 x2 M
def f_X8_readTown_107_p23 : Nat → Int32 → Int32 → Int32 → zMM → Option zMM
  | 0, _, _, _, _ => none
  | n + 1, x1, x2, x3, M =>
  if (4 : Int32) ≤ x3 then
    if x2 = (-1 : Int32) then
      z_bv (f_X8_wrong_107 (1 : Int32) M) fun M9 =>
      f_X8_readTown_107_p63 x1 x2 M9
    else
      f_X8_readTown_107_p63 x1 x2 M
  else
    if z_ib x3 4 = true then
      z_bi (f_X8_is_107 (z_kd x3) M) fun v35 M36 =>
      if v35 = 0 then
        f_X8_readTown_107_p23 n x1 x2 (x3 + (1 : Int32)) M36
      else
        f_X8_readTown_107_p23 n x1 x3 (x3 + (1 : Int32)) M36
    else none
def f_X8_readTown_107  (M : zMM) : Option zMM :=
  z_bi (f_X8_begin_107 (0 : Int32) (5 : Int32) M) fun v2 M3 =>
  if v2 = 0 then
    some M3
  else
    f_X8_readTown_107_p23 z_fuel ((5 : Int32) + (M3 109 5)) (-1 : Int32) (0 : Int32) M3
theorem A_X8_readTown_107_p151 {l : Launch} (hl : l.stackTraces = false) {Ls d : Nat} {Lm : zML} :
    ∀ (a0 : Int32) (a1 : Int32) (M M' : zMM) , f_X8_readTown_107_p151 a0 a1 M = some M' → z_AW l mX8_readTown (d + 6) 0 0 151 [.ref 107, .null, .null, .null] [.int a0, .int a1, .ref 113] (z_L0 Ls, M, Lm) (.inl none) (z_L0 Ls, M', Lm) := by
  intro a0 a1 M M' h
  replace h : (  if z_ib a1 10 = true then
    some (z_up (z_up M 113 a1.toNatClampNeg a0) 109 5 ((M 109 5) + (1 : Int32)))
  else none) = some M' := h
  obtain ⟨g23, h⟩ := z_ifn h
  refine z_as dX8_readTown_151 (by decide) en_113 rfl (z_ib_in g23) ?_
  refine z_aload_n dX8_readTown_152 rfl ?_
  refine z_getR (q := 109) fl_X8_23 dX8_readTown_153 en_107 rfl ?_
  refine z_ic kc_p5 dX8_readTown_156 ?_
  refine z_dup2 dX8_readTown_157 rfl rfl ?_
  refine z_al (v := (M 109 5)) dX8_readTown_158 en_109 kn_p5 (z_ib_in rfl) rfl ?_
  refine z_ic kc_p1 dX8_readTown_159 ?_
  refine z_iadd dX8_readTown_160 ?_
  refine z_as dX8_readTown_161 (by decide) en_109 kn_p5 (z_ib_in rfl) ?_
  cases h
  exact z_return dX8_readTown_162 rfl
theorem A_X8_readTown_107_p130 {l : Launch} (hl : l.stackTraces = false) {Ls d : Nat} {Lm : zML} :
    ∀ (x1 : Int32) (x3 : Int32) (a0 : Int32) (a1 : Int32) (M M' : zMM) , f_X8_readTown_107_p130 x1 x3 a0 a1 M = some M' → z_AW l mX8_readTown (d + 6) 0 0 130 [.ref 107, .int x1, .null, .int x3] [.int a0, .int a1, .ref 112] (z_L0 Ls, M, Lm) (.inl none) (z_L0 Ls, M', Lm) := by
  intro x1 x3 a0 a1 M M' h
  replace h : (  if z_ib a1 10 = true then
    if x3 = 0 then
      f_X8_readTown_107_p151 (0 : Int32) x1 (z_up M 112 a1.toNatClampNeg a0)
    else
      z_bi (f_X8_readNumber_107 (0 : Int32) (99 : Int32) (z_up M 112 a1.toNatClampNeg a0)) fun v25 M26 =>
      f_X8_readTown_107_p151 v25 x1 M26
  else none) = some M' := h
  obtain ⟨g21, h⟩ := z_ifn h
  refine z_as dX8_readTown_130 (by decide) en_112 rfl (z_ib_in g21) ?_
  refine z_aload_n dX8_readTown_131 rfl ?_
  refine z_getR (q := 113) fl_X8_36 dX8_readTown_132 en_107 rfl ?_
  refine z_iload_n dX8_readTown_135 rfl ?_
  refine z_iload_n dX8_readTown_136 rfl ?_
  refine z_if_eq (tgt := 150) dX8_readTown_137 rfl (fun g22 => ?_) (fun g22 => ?_)
  · replace h := (if_pos g22).symm.trans h
    refine z_ic kc_p0 dX8_readTown_150 ?_
    refine z_fg (ls' := [.ref 107, .null, .null, .null]) ⟨Or.inr rfl, Or.inl rfl, Or.inl rfl, Or.inl rfl, trivial⟩ ?_
    exact A_X8_readTown_107_p151 hl (0 : Int32) x1 _ _ h
  · replace h := (if_neg g22).symm.trans h
    refine z_aload_n dX8_readTown_140 rfl ?_
    refine z_ic kc_p0 dX8_readTown_141 ?_
    refine z_bp kb_p99 dX8_readTown_142 ?_
    obtain ⟨v25, M26, c24, h⟩ := z_bi_c h
    refine z_cV (av := [.int (0 : Int32), .int (99 : Int32)]) (st := [.int x1, .ref 113]) lk_X8_230 dX8_readTown_144 (A_X8_readNumber_107 (d := d + 3) hl c24) rfl rfl en_107 rfl (Nat.le_of_ble_eq_true rfl) rfl z_len rfl rfl ?_
    refine z_goto (tgt := 151) dX8_readTown_147 rfl ?_
    refine z_fg (ls' := [.ref 107, .null, .null, .null]) ⟨Or.inr rfl, Or.inl rfl, Or.inl rfl, Or.inl rfl, trivial⟩ ?_
    exact A_X8_readTown_107_p151 hl v25 x1 _ _ h
theorem A_X8_readTown_107_p102 {l : Launch} (hl : l.stackTraces = false) {Ls d : Nat} {Lm : zML} :
    ∀ (x1 : Int32) (a0 : Int32) (a1 : Int32) (M M' : zMM) , f_X8_readTown_107_p102 x1 a0 a1 M = some M' → z_AW l mX8_readTown (d + 6) 0 0 102 [.ref 107, .int x1, .null, .null] [.int a0, .int a1, .ref 111] (z_L0 Ls, M, Lm) (.inl none) (z_L0 Ls, M', Lm) := by
  intro x1 a0 a1 M M' h
  replace h : (  if z_ib a1 10 = true then
    z_bi (f_X8_passes_107_20  (z_up M 111 a1.toNatClampNeg a0)) fun v18 M19 =>
    if v18 = 0 then
      f_X8_readTown_107_p130 x1 v18 (0 : Int32) x1 M19
    else
      z_bi (f_X8_readNumber_107 (0 : Int32) (9 : Int32) M19) fun v28 M29 =>
      f_X8_readTown_107_p130 x1 v18 v28 x1 M29
  else none) = some M' := h
  obtain ⟨g16, h⟩ := z_ifn h
  refine z_as dX8_readTown_102 (by decide) en_111 rfl (z_ib_in g16) ?_
  refine z_aload_n dX8_readTown_103 rfl ?_
  refine z_ldcS (tx := "lends") (q := 20) (by decide +kernel) dX8_readTown_104 ?_
  obtain ⟨v18, M19, c17, h⟩ := z_bi_c h
  refine z_cV (av := [.ref 20]) (st := []) lk_X8_234 dX8_readTown_106 (A_X8_passes_107_20 (d := d + 0) hl c17) rfl rfl en_107 rfl (Nat.le_of_ble_eq_true rfl) rfl z_len rfl rfl ?_
  refine z_istore_n (ls' := [.ref 107, .int x1, .null, .int v18]) dX8_readTown_109 (by decide) rfl ?_
  refine z_aload_n dX8_readTown_110 rfl ?_
  refine z_getR (q := 112) fl_X8_33 dX8_readTown_111 en_107 rfl ?_
  refine z_iload_n dX8_readTown_114 rfl ?_
  refine z_iload_n dX8_readTown_115 rfl ?_
  refine z_if_eq (tgt := 129) dX8_readTown_116 rfl (fun g20 => ?_) (fun g20 => ?_)
  · replace h := (if_pos g20).symm.trans h
    refine z_ic kc_p0 dX8_readTown_129 ?_
    exact A_X8_readTown_107_p130 hl x1 v18 (0 : Int32) x1 _ _ h
  · replace h := (if_neg g20).symm.trans h
    refine z_aload_n dX8_readTown_119 rfl ?_
    refine z_ic kc_p0 dX8_readTown_120 ?_
    refine z_bp kb_p9 dX8_readTown_121 ?_
    obtain ⟨v28, M29, c27, h⟩ := z_bi_c h
    refine z_cV (av := [.int (0 : Int32), .int (9 : Int32)]) (st := [.int x1, .ref 112]) lk_X8_230 dX8_readTown_123 (A_X8_readNumber_107 (d := d + 3) hl c27) rfl rfl en_107 rfl (Nat.le_of_ble_eq_true rfl) rfl z_len rfl rfl ?_
    refine z_goto (tgt := 130) dX8_readTown_126 rfl ?_
    exact A_X8_readTown_107_p130 hl x1 v18 v28 x1 _ _ h
theorem A_X8_readTown_107_p74 {l : Launch} (hl : l.stackTraces = false) {Ls d : Nat} {Lm : zML} :
    ∀ (x1 : Int32) (x2 : Int32) (M M' : zMM) , f_X8_readTown_107_p74 x1 x2 M = some M' → z_AW l mX8_readTown (d + 6) 0 0 74 [.ref 107, .int x1, .int x2, .null] [] (z_L0 Ls, M, Lm) (.inl none) (z_L0 Ls, M', Lm) := by
  intro x1 x2 M M' h
  replace h : (  if z_ib x1 10 = true then
    if x2 = 0 then
      f_X8_readTown_107_p102 x1 (0 : Int32) x1 (z_up M 110 x1.toNatClampNeg x2)
    else
      z_bi (f_X8_readNumber_107 (0 : Int32) (1000 : Int32) (z_up M 110 x1.toNatClampNeg x2)) fun v31 M32 =>
      f_X8_readTown_107_p102 x1 v31 x1 M32
  else none) = some M' := h
  refine z_aload_n dX8_readTown_74 rfl ?_
  refine z_getR (q := 110) fl_X8_27 dX8_readTown_75 en_107 rfl ?_
  refine z_iload_n dX8_readTown_78 rfl ?_
  refine z_iload_n dX8_readTown_79 rfl ?_
  obtain ⟨g14, h⟩ := z_ifn h
  refine z_as dX8_readTown_80 (by decide) en_110 rfl (z_ib_in g14) ?_
  refine z_aload_n dX8_readTown_81 rfl ?_
  refine z_getR (q := 111) fl_X8_30 dX8_readTown_82 en_107 rfl ?_
  refine z_iload_n dX8_readTown_85 rfl ?_
  refine z_iload_n dX8_readTown_86 rfl ?_
  refine z_if_ne (tgt := 94) dX8_readTown_87 rfl (fun g15 => ?_) (fun g15 => ?_)
  · replace h := (if_pos g15).symm.trans h
    refine z_ic kc_p0 dX8_readTown_90 ?_
    refine z_goto (tgt := 102) dX8_readTown_91 rfl ?_
    refine z_fg (ls' := [.ref 107, .int x1, .null, .null]) ⟨Or.inr rfl, Or.inr rfl, Or.inl rfl, Or.inl rfl, trivial⟩ ?_
    exact A_X8_readTown_107_p102 hl x1 (0 : Int32) x1 _ _ h
  · replace h := (if_neg g15).symm.trans h
    refine z_aload_n dX8_readTown_94 rfl ?_
    refine z_ic kc_p0 dX8_readTown_95 ?_
    refine z_sp ks_p1000 dX8_readTown_96 ?_
    obtain ⟨v31, M32, c30, h⟩ := z_bi_c h
    refine z_cV (av := [.int (0 : Int32), .int (1000 : Int32)]) (st := [.int x1, .ref 111]) lk_X8_230 dX8_readTown_99 (A_X8_readNumber_107 (d := d + 3) hl c30) rfl rfl en_107 rfl (Nat.le_of_ble_eq_true rfl) rfl z_len rfl rfl ?_
    refine z_fg (ls' := [.ref 107, .int x1, .null, .null]) ⟨Or.inr rfl, Or.inr rfl, Or.inl rfl, Or.inl rfl, trivial⟩ ?_
    exact A_X8_readTown_107_p102 hl x1 v31 x1 _ _ h
theorem A_X8_readTown_107_p63 {l : Launch} (hl : l.stackTraces = false) {Ls d : Nat} {Lm : zML} :
    ∀ (x1 : Int32) (x2 : Int32) (M M' : zMM) , f_X8_readTown_107_p63 x1 x2 M = some M' → z_AW l mX8_readTown (d + 6) 0 0 63 [.ref 107, .int x1, .int x2, .null] [] (z_L0 Ls, M, Lm) (.inl none) (z_L0 Ls, M', Lm) := by
  intro x1 x2 M M' h
  replace h : (  if (M 107 24) = 0 then
    z_bv (f_X8_stepOn_107  M) fun M13 =>
    f_X8_readTown_107_p74 x1 x2 M13
  else
    f_X8_readTown_107_p74 x1 x2 M) = some M' := h
  refine z_aload_n dX8_readTown_63 rfl ?_
  refine z_gI (v := (M 107 24)) fl_X8_195 dX8_readTown_64 en_107 rfl rfl ?_
  refine z_if_ne (tgt := 74) dX8_readTown_67 rfl (fun g10 => ?_) (fun g10 => ?_)
  · replace h := (if_pos g10).symm.trans h
    refine z_aload_n dX8_readTown_70 rfl ?_
    obtain ⟨M13, c11, h⟩ := z_bv_c h
    refine z_cV (av := []) (st := []) lk_X8_213 dX8_readTown_71 (A_X8_stepOn_107 (d := d + 4) hl c11) rfl rfl en_107 rfl (Nat.le_of_ble_eq_true rfl) rfl z_len rfl rfl ?_
    exact A_X8_readTown_107_p74 hl x1 x2 _ _ h
  · replace h := (if_neg g10).symm.trans h
    exact A_X8_readTown_107_p74 hl x1 x2 _ _ h
theorem A_X8_readTown_107_p23 {l : Launch} (hl : l.stackTraces = false) {Ls d : Nat} {Lm : zML} :
    ∀ (n : Nat) (x1 : Int32) (x2 : Int32) (x3 : Int32) (M M' : zMM) , f_X8_readTown_107_p23 n x1 x2 x3 M = some M' → z_AW l mX8_readTown (d + 6) 0 0 23 [.ref 107, .int x1, .int x2, .int x3] [] (z_L0 Ls, M, Lm) (.inl none) (z_L0 Ls, M', Lm) := by
  intro n
  induction n with
  | zero => intro x1 x2 x3 M M' h; cases h
  | succ n ih =>
    intro x1 x2 x3 M M' h
    replace h : (  if (4 : Int32) ≤ x3 then
    if x2 = (-1 : Int32) then
      z_bv (f_X8_wrong_107 (1 : Int32) M) fun M9 =>
      f_X8_readTown_107_p63 x1 x2 M9
    else
      f_X8_readTown_107_p63 x1 x2 M
  else
    if z_ib x3 4 = true then
      z_bi (f_X8_is_107 (z_kd x3) M) fun v35 M36 =>
      if v35 = 0 then
        f_X8_readTown_107_p23 n x1 x2 (x3 + (1 : Int32)) M36
      else
        f_X8_readTown_107_p23 n x1 x3 (x3 + (1 : Int32)) M36
    else none) = some M' := h
    refine z_iload_n dX8_readTown_23 rfl ?_
    refine z_aload_n dX8_readTown_24 rfl ?_
    refine z_getR (q := 108) fl_X8_17 dX8_readTown_25 en_107 rfl ?_
    refine z_al9 dX8_readTown_28 en_108 (by decide) ka_p4 ?_
    refine z_icmp_ge (tgt := 53) dX8_readTown_29 rfl (fun g5 => ?_) (fun g5 => ?_)
    · replace h := (if_pos g5).symm.trans h
      refine z_iload_n dX8_readTown_53 rfl ?_
      refine z_ic kc_m1 dX8_readTown_54 ?_
      refine z_icmp_ne (tgt := 63) dX8_readTown_55 rfl (fun g6 => ?_) (fun g6 => ?_)
      · replace h := (if_pos g6).symm.trans h
        refine z_aload_n dX8_readTown_58 rfl ?_
        refine z_ic kc_p1 dX8_readTown_59 ?_
        obtain ⟨M9, c7, h⟩ := z_bv_c h
        refine z_cV (av := [.int (1 : Int32)]) (st := []) lk_X8_216 dX8_readTown_60 (A_X8_wrong_107 (d := d + 5) hl c7) rfl rfl en_107 rfl (Nat.le_of_ble_eq_true rfl) rfl z_len rfl rfl ?_
        refine z_fg (ls' := [.ref 107, .int x1, .int x2, .null]) ⟨Or.inr rfl, Or.inr rfl, Or.inr rfl, Or.inl rfl, trivial⟩ ?_
        exact A_X8_readTown_107_p63 hl x1 x2 _ _ h
      · replace h := (if_neg g6).symm.trans h
        refine z_fg (ls' := [.ref 107, .int x1, .int x2, .null]) ⟨Or.inr rfl, Or.inr rfl, Or.inr rfl, Or.inl rfl, trivial⟩ ?_
        exact A_X8_readTown_107_p63 hl x1 x2 _ _ h
    · replace h := (if_neg g5).symm.trans h
      refine z_aload_n dX8_readTown_32 rfl ?_
      refine z_aload_n dX8_readTown_33 rfl ?_
      refine z_getR (q := 108) fl_X8_17 dX8_readTown_34 en_107 rfl ?_
      refine z_iload_n dX8_readTown_37 rfl ?_
      obtain ⟨g33, h⟩ := z_ifn h
      refine z_aaload (q := (z_kd x3)) dX8_readTown_38 en_108 (z_ib_in g33) (z_kd_ok g33) ?_
      obtain ⟨v35, M36, c34, h⟩ := z_bi_c h
      refine z_cV (av := [.ref (z_kd x3)]) (st := []) lk_X8_209 dX8_readTown_39 (A_X8_is_107 (d := d + 1) hl c34) rfl rfl en_107 rfl (Nat.le_of_ble_eq_true rfl) rfl z_len rfl rfl ?_
      refine z_if_eq (tgt := 47) dX8_readTown_42 rfl (fun g37 => ?_) (fun g37 => ?_)
      · replace h := (if_pos g37).symm.trans h
        refine z_ii (ls' := [.ref 107, .int x1, .int x2, .int (x3 + (1 : Int32))]) kc_p1 dX8_readTown_47 rfl (by decide) rfl ?_
        refine z_goto (tgt := 23) dX8_readTown_50 rfl ?_
        exact ih x1 x2 (x3 + (1 : Int32)) _ _ h
      · replace h := (if_neg g37).symm.trans h
        refine z_iload_n dX8_readTown_45 rfl ?_
        refine z_istore_n (ls' := [.ref 107, .int x1, .int x3, .int x3]) dX8_readTown_46 (by decide) rfl ?_
        refine z_ii (ls' := [.ref 107, .int x1, .int x3, .int (x3 + (1 : Int32))]) kc_p1 dX8_readTown_47 rfl (by decide) rfl ?_
        refine z_goto (tgt := 23) dX8_readTown_50 rfl ?_
        exact ih x1 x3 (x3 + (1 : Int32)) _ _ h
theorem A_X8_readTown_107 {l : Launch} (hl : l.stackTraces = false) {Ls d : Nat} {Lm : zML}  {M M' : zMM} (h : f_X8_readTown_107  M = some M') : z_Ct l mX8_readTown (d + 6) 0 0 [.ref 107] (z_L0 Ls, M, Lm) (.inl none) (z_L0 Ls, M', Lm) := by
  replace h : (  z_bi (f_X8_begin_107 (0 : Int32) (5 : Int32) M) fun v2 M3 =>
  if v2 = 0 then
    some M3
  else
    f_X8_readTown_107_p23 z_fuel ((5 : Int32) + (M3 109 5)) (-1 : Int32) (0 : Int32) M3) = some M' := h
  refine z_Ct.of hl (by decide) (Nat.le_of_ble_eq_true rfl) rfl ?_
  show z_AW l mX8_readTown (d + 6) 0 0 0 [.ref 107, .null, .null, .null] [] (z_L0 Ls, M, Lm) (.inl none) (z_L0 Ls, M', Lm)
  refine z_aload_n dX8_readTown_0 rfl ?_
  refine z_ic kc_p0 dX8_readTown_1 ?_
  refine z_ic kc_p5 dX8_readTown_2 ?_
  obtain ⟨v2, M3, c1, h⟩ := z_bi_c h
  refine z_cV (av := [.int (0 : Int32), .int (5 : Int32)]) (st := []) lk_X8_226 dX8_readTown_3 (A_X8_begin_107 (d := d + 3) hl c1) rfl rfl en_107 rfl (Nat.le_of_ble_eq_true rfl) rfl z_len rfl rfl ?_
  refine z_if_ne (tgt := 10) dX8_readTown_6 rfl (fun g4 => ?_) (fun g4 => ?_)
  · replace h := (if_pos g4).symm.trans h
    cases h
    exact z_return dX8_readTown_9 rfl
  · replace h := (if_neg g4).symm.trans h
    refine z_ic kc_p5 dX8_readTown_10 ?_
    refine z_aload_n dX8_readTown_11 rfl ?_
    refine z_getR (q := 109) fl_X8_23 dX8_readTown_12 en_107 rfl ?_
    refine z_ic kc_p5 dX8_readTown_15 ?_
    refine z_al (v := (M3 109 5)) dX8_readTown_16 en_109 kn_p5 (z_ib_in rfl) rfl ?_
    refine z_iadd dX8_readTown_17 ?_
    refine z_istore_n (ls' := [.ref 107, .int ((5 : Int32) + (M3 109 5)), .null, .null]) dX8_readTown_18 (by decide) rfl ?_
    refine z_ic kc_m1 dX8_readTown_19 ?_
    refine z_istore_n (ls' := [.ref 107, .int ((5 : Int32) + (M3 109 5)), .int (-1 : Int32), .null]) dX8_readTown_20 (by decide) rfl ?_
    refine z_ic kc_p0 dX8_readTown_21 ?_
    refine z_istore_n (ls' := [.ref 107, .int ((5 : Int32) + (M3 109 5)), .int (-1 : Int32), .int (0 : Int32)]) dX8_readTown_22 (by decide) rfl ?_
    exact A_X8_readTown_107_p23 hl z_fuel ((5 : Int32) + (M3 109 5)) (-1 : Int32) (0 : Int32) _ _ h
/-! X8_readLine 107 -/
def f_X8_readLine_107_p187 (x2 : Int32) (M : zMM) : Option (Int32 × zMM) :=
  if (M 107 24) = 0 then
    if (M 107 20) = (3 : Int32) then
      if (M 107 24) = 0 then
        z_bv (f_X8_stepOn_107  M) fun M44 =>
        if z_zb x2 = true then some (x2, M44) else none
      else
        if z_zb x2 = true then some (x2, M) else none
    else
      z_bv (f_X8_wrong_107 (1 : Int32) M) fun M49 =>
      if (M49 107 24) = 0 then
        z_bv (f_X8_stepOn_107  M49) fun M53 =>
        if z_zb x2 = true then some (x2, M53) else none
      else
        if z_zb x2 = true then some (x2, M49) else none
  else
    if (M 107 24) = 0 then
      z_bv (f_X8_stepOn_107  M) fun M59 =>
      if z_zb x2 = true then some (x2, M59) else none
    else
      if z_zb x2 = true then some (x2, M) else none
def f_X8_readLine_107_p171 (M : zMM) : Option (Int32 × zMM) :=
  z_bi (f_X8_readNumber_107 (1 : Int32) (40 : Int32) M) fun v37 M38 =>
  f_X8_readLine_107_p187 (1 : Int32) (z_up M38 109 9 v37)
def f_X8_readLine_107_p160 (M : zMM) : Option (Int32 × zMM) :=
  if (M 107 24) = 0 then
    z_bv (f_X8_stepOn_107  M) fun M35 =>
    f_X8_readLine_107_p171  M35
  else
    f_X8_readLine_107_p171  M
def f_X8_readLine_107 (x1 : Int32) (M : zMM) : Option (Int32 × zMM) :=
  z_bi (f_X8_is_107 19 M) fun v2 M3 =>
  if v2 = 0 then
    z_bi (f_X8_passes_107_21  M3) fun v6 M7 =>
    if v6 = 0 then
      z_bi (f_X8_is_107 22 M7) fun v10 M11 =>
      if v10 = 0 then
        z_bi (f_X8_is_107 23 M11) fun v14 M15 =>
        if v14 = 0 then
          z_bi (f_X8_is_107 24 M15) fun v18 M19 =>
          if v18 = 0 then
            z_bi (f_X8_passes_107_25  M19) fun v22 M23 =>
            if v22 = 0 then
              z_bi (f_X8_is_107 26 M23) fun v26 M27 =>
              if v26 = 0 then
                z_bv (f_X8_wrong_107 (1 : Int32) M27) fun M31 =>
                f_X8_readLine_107_p160  M31
              else
                if x1 = 0 then
                  f_X8_readLine_107_p160  M27
                else
                  z_bv (f_X8_wrong_107 (5 : Int32) M27) fun M65 =>
                  f_X8_readLine_107_p160  M65
            else
              z_bv (f_X8_readLike_107  M23) fun M68 =>
              f_X8_readLine_107_p187 x1 M68
          else
            z_bv (f_X8_readPlay_107  M19) fun M71 =>
            f_X8_readLine_107_p187 x1 M71
        else
          z_bv (f_X8_readThing_107  M15) fun M74 =>
          f_X8_readLine_107_p187 x1 M74
      else
        z_bi (f_X8_begin_107 (1 : Int32) (5 : Int32) M11) fun v76 M77 =>
        if v76 = 0 then
          f_X8_readLine_107_p187 x1 M77
        else
          z_bi (f_X8_readOne_107 (0 : Int32) M77) fun v80 M81 =>
          if z_ib (M77 109 6) 5 = true then
            f_X8_readLine_107_p187 x1 (z_up (z_up M81 115 (M77 109 6).toNatClampNeg v80) 109 6 ((M81 109 6) + (1 : Int32)))
          else none
    else
      z_bv (f_X8_readTrain_107  M7) fun M85 =>
      f_X8_readLine_107_p187 x1 M85
  else
    z_bv (f_X8_readTown_107  M3) fun M88 =>
    f_X8_readLine_107_p187 x1 M88
theorem A_X8_readLine_107_p187 {l : Launch} (hl : l.stackTraces = false) {Ls d : Nat} {Lm : zML} :
    ∀ (x2 : Int32) (M M' : zMM) (v : Int32) , f_X8_readLine_107_p187 x2 M = some (v, M') → z_AW l mX8_readLine (d + 7) 0 0 187 [.ref 107, .null, .int x2] [] (z_L0 Ls, M, Lm) (.inl (some (.int v))) (z_L0 Ls, M', Lm) := by
  intro x2 M M' v h
  replace h : (  if (M 107 24) = 0 then
    if (M 107 20) = (3 : Int32) then
      if (M 107 24) = 0 then
        z_bv (f_X8_stepOn_107  M) fun M44 =>
        if z_zb x2 = true then some (x2, M44) else none
      else
        if z_zb x2 = true then some (x2, M) else none
    else
      z_bv (f_X8_wrong_107 (1 : Int32) M) fun M49 =>
      if (M49 107 24) = 0 then
        z_bv (f_X8_stepOn_107  M49) fun M53 =>
        if z_zb x2 = true then some (x2, M53) else none
      else
        if z_zb x2 = true then some (x2, M49) else none
  else
    if (M 107 24) = 0 then
      z_bv (f_X8_stepOn_107  M) fun M59 =>
      if z_zb x2 = true then some (x2, M59) else none
    else
      if z_zb x2 = true then some (x2, M) else none) = some (v, M') := h
  refine z_aload_n dX8_readLine_187 rfl ?_
  refine z_gI (v := (M 107 24)) fl_X8_195 dX8_readLine_188 en_107 rfl rfl ?_
  refine z_if_ne (tgt := 207) dX8_readLine_191 rfl (fun g39 => ?_) (fun g39 => ?_)
  · replace h := (if_pos g39).symm.trans h
    refine z_aload_n dX8_readLine_194 rfl ?_
    refine z_gI (v := (M 107 20)) fl_X8_172 dX8_readLine_195 en_107 rfl rfl ?_
    refine z_ic kc_p3 dX8_readLine_198 ?_
    refine z_icmp_eq (tgt := 207) dX8_readLine_199 rfl (fun g40 => ?_) (fun g40 => ?_)
    · replace h := (if_pos g40).symm.trans h
      refine z_aload_n dX8_readLine_207 rfl ?_
      refine z_gI (v := (M 107 24)) fl_X8_195 dX8_readLine_208 en_107 rfl rfl ?_
      refine z_if_ne (tgt := 218) dX8_readLine_211 rfl (fun g41 => ?_) (fun g41 => ?_)
      · replace h := (if_pos g41).symm.trans h
        refine z_aload_n dX8_readLine_214 rfl ?_
        obtain ⟨M44, c42, h⟩ := z_bv_c h
        refine z_cV (av := []) (st := []) lk_X8_213 dX8_readLine_215 (A_X8_stepOn_107 (d := d + 5) hl c42) rfl rfl en_107 rfl (Nat.le_of_ble_eq_true rfl) rfl z_len rfl rfl ?_
        refine z_iload_n dX8_readLine_218 rfl ?_
        obtain ⟨g45, h⟩ := z_ifn h
        cases h
        exact z_rZ dX8_readLine_219 rfl g45
      · replace h := (if_neg g41).symm.trans h
        refine z_iload_n dX8_readLine_218 rfl ?_
        obtain ⟨g46, h⟩ := z_ifn h
        cases h
        exact z_rZ dX8_readLine_219 rfl g46
    · replace h := (if_neg g40).symm.trans h
      refine z_aload_n dX8_readLine_202 rfl ?_
      refine z_ic kc_p1 dX8_readLine_203 ?_
      obtain ⟨M49, c47, h⟩ := z_bv_c h
      refine z_cV (av := [.int (1 : Int32)]) (st := []) lk_X8_216 dX8_readLine_204 (A_X8_wrong_107 (d := d + 6) hl c47) rfl rfl en_107 rfl (Nat.le_of_ble_eq_true rfl) rfl z_len rfl rfl ?_
      refine z_aload_n dX8_readLine_207 rfl ?_
      refine z_gI (v := (M49 107 24)) fl_X8_195 dX8_readLine_208 en_107 rfl rfl ?_
      refine z_if_ne (tgt := 218) dX8_readLine_211 rfl (fun g50 => ?_) (fun g50 => ?_)
      · replace h := (if_pos g50).symm.trans h
        refine z_aload_n dX8_readLine_214 rfl ?_
        obtain ⟨M53, c51, h⟩ := z_bv_c h
        refine z_cV (av := []) (st := []) lk_X8_213 dX8_readLine_215 (A_X8_stepOn_107 (d := d + 5) hl c51) rfl rfl en_107 rfl (Nat.le_of_ble_eq_true rfl) rfl z_len rfl rfl ?_
        refine z_iload_n dX8_readLine_218 rfl ?_
        obtain ⟨g54, h⟩ := z_ifn h
        cases h
        exact z_rZ dX8_readLine_219 rfl g54
      · replace h := (if_neg g50).symm.trans h
        refine z_iload_n dX8_readLine_218 rfl ?_
        obtain ⟨g55, h⟩ := z_ifn h
        cases h
        exact z_rZ dX8_readLine_219 rfl g55
  · replace h := (if_neg g39).symm.trans h
    refine z_aload_n dX8_readLine_207 rfl ?_
    refine z_gI (v := (M 107 24)) fl_X8_195 dX8_readLine_208 en_107 rfl rfl ?_
    refine z_if_ne (tgt := 218) dX8_readLine_211 rfl (fun g56 => ?_) (fun g56 => ?_)
    · replace h := (if_pos g56).symm.trans h
      refine z_aload_n dX8_readLine_214 rfl ?_
      obtain ⟨M59, c57, h⟩ := z_bv_c h
      refine z_cV (av := []) (st := []) lk_X8_213 dX8_readLine_215 (A_X8_stepOn_107 (d := d + 5) hl c57) rfl rfl en_107 rfl (Nat.le_of_ble_eq_true rfl) rfl z_len rfl rfl ?_
      refine z_iload_n dX8_readLine_218 rfl ?_
      obtain ⟨g60, h⟩ := z_ifn h
      cases h
      exact z_rZ dX8_readLine_219 rfl g60
    · replace h := (if_neg g56).symm.trans h
      refine z_iload_n dX8_readLine_218 rfl ?_
      obtain ⟨g61, h⟩ := z_ifn h
      cases h
      exact z_rZ dX8_readLine_219 rfl g61
theorem A_X8_readLine_107_p171 {l : Launch} (hl : l.stackTraces = false) {Ls d : Nat} {Lm : zML} :
    ∀ (M M' : zMM) (v : Int32) , f_X8_readLine_107_p171  M = some (v, M') → z_AW l mX8_readLine (d + 7) 0 0 171 [.ref 107, .null, .null] [] (z_L0 Ls, M, Lm) (.inl (some (.int v))) (z_L0 Ls, M', Lm) := by
  intro  M M' v h
  replace h : (  z_bi (f_X8_readNumber_107 (1 : Int32) (40 : Int32) M) fun v37 M38 =>
  f_X8_readLine_107_p187 (1 : Int32) (z_up M38 109 9 v37)) = some (v, M') := h
  refine z_aload_n dX8_readLine_171 rfl ?_
  refine z_getR (q := 109) fl_X8_23 dX8_readLine_172 en_107 rfl ?_
  refine z_bp kb_p9 dX8_readLine_175 ?_
  refine z_aload_n dX8_readLine_177 rfl ?_
  refine z_ic kc_p1 dX8_readLine_178 ?_
  refine z_bp kb_p40 dX8_readLine_179 ?_
  obtain ⟨v37, M38, c36, h⟩ := z_bi_c h
  refine z_cV (av := [.int (1 : Int32), .int (40 : Int32)]) (st := [.int (9 : Int32), .ref 109]) lk_X8_230 dX8_readLine_181 (A_X8_readNumber_107 (d := d + 4) hl c36) rfl rfl en_107 rfl (Nat.le_of_ble_eq_true rfl) rfl z_len rfl rfl ?_
  refine z_as dX8_readLine_184 (by decide) en_109 kn_p9 (z_ib_in rfl) ?_
  refine z_ic kc_p1 dX8_readLine_185 ?_
  refine z_istore_n (ls' := [.ref 107, .null, .int (1 : Int32)]) dX8_readLine_186 (by decide) rfl ?_
  exact A_X8_readLine_107_p187 hl (1 : Int32) _ _ _ h
theorem A_X8_readLine_107_p160 {l : Launch} (hl : l.stackTraces = false) {Ls d : Nat} {Lm : zML} :
    ∀ (M M' : zMM) (v : Int32) , f_X8_readLine_107_p160  M = some (v, M') → z_AW l mX8_readLine (d + 7) 0 0 160 [.ref 107, .null, .null] [] (z_L0 Ls, M, Lm) (.inl (some (.int v))) (z_L0 Ls, M', Lm) := by
  intro  M M' v h
  replace h : (  if (M 107 24) = 0 then
    z_bv (f_X8_stepOn_107  M) fun M35 =>
    f_X8_readLine_107_p171  M35
  else
    f_X8_readLine_107_p171  M) = some (v, M') := h
  refine z_aload_n dX8_readLine_160 rfl ?_
  refine z_gI (v := (M 107 24)) fl_X8_195 dX8_readLine_161 en_107 rfl rfl ?_
  refine z_if_ne (tgt := 171) dX8_readLine_164 rfl (fun g32 => ?_) (fun g32 => ?_)
  · replace h := (if_pos g32).symm.trans h
    refine z_aload_n dX8_readLine_167 rfl ?_
    obtain ⟨M35, c33, h⟩ := z_bv_c h
    refine z_cV (av := []) (st := []) lk_X8_213 dX8_readLine_168 (A_X8_stepOn_107 (d := d + 5) hl c33) rfl rfl en_107 rfl (Nat.le_of_ble_eq_true rfl) rfl z_len rfl rfl ?_
    exact A_X8_readLine_107_p171 hl  _ _ _ h
  · replace h := (if_neg g32).symm.trans h
    exact A_X8_readLine_107_p171 hl  _ _ _ h
theorem A_X8_readLine_107 {l : Launch} (hl : l.stackTraces = false) {Ls d : Nat} {Lm : zML} {x1 : Int32} {M M' : zMM} {v : Int32} (h : f_X8_readLine_107 x1 M = some (v, M')) : z_Ct l mX8_readLine (d + 7) 0 0 [.ref 107, .int x1] (z_L0 Ls, M, Lm) (.inl (some (.int v))) (z_L0 Ls, M', Lm) := by
  replace h : (  z_bi (f_X8_is_107 19 M) fun v2 M3 =>
  if v2 = 0 then
    z_bi (f_X8_passes_107_21  M3) fun v6 M7 =>
    if v6 = 0 then
      z_bi (f_X8_is_107 22 M7) fun v10 M11 =>
      if v10 = 0 then
        z_bi (f_X8_is_107 23 M11) fun v14 M15 =>
        if v14 = 0 then
          z_bi (f_X8_is_107 24 M15) fun v18 M19 =>
          if v18 = 0 then
            z_bi (f_X8_passes_107_25  M19) fun v22 M23 =>
            if v22 = 0 then
              z_bi (f_X8_is_107 26 M23) fun v26 M27 =>
              if v26 = 0 then
                z_bv (f_X8_wrong_107 (1 : Int32) M27) fun M31 =>
                f_X8_readLine_107_p160  M31
              else
                if x1 = 0 then
                  f_X8_readLine_107_p160  M27
                else
                  z_bv (f_X8_wrong_107 (5 : Int32) M27) fun M65 =>
                  f_X8_readLine_107_p160  M65
            else
              z_bv (f_X8_readLike_107  M23) fun M68 =>
              f_X8_readLine_107_p187 x1 M68
          else
            z_bv (f_X8_readPlay_107  M19) fun M71 =>
            f_X8_readLine_107_p187 x1 M71
        else
          z_bv (f_X8_readThing_107  M15) fun M74 =>
          f_X8_readLine_107_p187 x1 M74
      else
        z_bi (f_X8_begin_107 (1 : Int32) (5 : Int32) M11) fun v76 M77 =>
        if v76 = 0 then
          f_X8_readLine_107_p187 x1 M77
        else
          z_bi (f_X8_readOne_107 (0 : Int32) M77) fun v80 M81 =>
          if z_ib (M77 109 6) 5 = true then
            f_X8_readLine_107_p187 x1 (z_up (z_up M81 115 (M77 109 6).toNatClampNeg v80) 109 6 ((M81 109 6) + (1 : Int32)))
          else none
    else
      z_bv (f_X8_readTrain_107  M7) fun M85 =>
      f_X8_readLine_107_p187 x1 M85
  else
    z_bv (f_X8_readTown_107  M3) fun M88 =>
    f_X8_readLine_107_p187 x1 M88) = some (v, M') := h
  refine z_Ct.of hl (by decide) (Nat.le_of_ble_eq_true rfl) rfl ?_
  show z_AW l mX8_readLine (d + 7) 0 0 0 [.ref 107, .int x1, .null] [] (z_L0 Ls, M, Lm) (.inl (some (.int v))) (z_L0 Ls, M', Lm)
  refine z_iload_n dX8_readLine_0 rfl ?_
  refine z_istore_n (ls' := [.ref 107, .int x1, .int x1]) dX8_readLine_1 (by decide) rfl ?_
  refine z_aload_n dX8_readLine_2 rfl ?_
  refine z_ldcS (tx := "town") (q := 19) (by decide +kernel) dX8_readLine_3 ?_
  obtain ⟨v2, M3, c1, h⟩ := z_bi_c h
  refine z_cV (av := [.ref 19]) (st := []) lk_X8_209 dX8_readLine_5 (A_X8_is_107 (d := d + 2) hl c1) rfl rfl en_107 rfl (Nat.le_of_ble_eq_true rfl) rfl z_len rfl rfl ?_
  refine z_if_eq (tgt := 18) dX8_readLine_8 rfl (fun g4 => ?_) (fun g4 => ?_)
  · replace h := (if_pos g4).symm.trans h
    refine z_aload_n dX8_readLine_18 rfl ?_
    refine z_ldcS (tx := "train") (q := 21) (by decide +kernel) dX8_readLine_19 ?_
    obtain ⟨v6, M7, c5, h⟩ := z_bi_c h
    refine z_cV (av := [.ref 21]) (st := []) lk_X8_234 dX8_readLine_21 (A_X8_passes_107_21 (d := d + 1) hl c5) rfl rfl en_107 rfl (Nat.le_of_ble_eq_true rfl) rfl z_len rfl rfl ?_
    refine z_if_eq (tgt := 34) dX8_readLine_24 rfl (fun g8 => ?_) (fun g8 => ?_)
    · replace h := (if_pos g8).symm.trans h
      refine z_aload_n dX8_readLine_34 rfl ?_
      refine z_ldcS (tx := "trunk") (q := 22) (by decide +kernel) dX8_readLine_35 ?_
      obtain ⟨v10, M11, c9, h⟩ := z_bi_c h
      refine z_cV (av := [.ref 22]) (st := []) lk_X8_209 dX8_readLine_37 (A_X8_is_107 (d := d + 2) hl c9) rfl rfl en_107 rfl (Nat.le_of_ble_eq_true rfl) rfl z_len rfl rfl ?_
      refine z_if_eq (tgt := 83) dX8_readLine_40 rfl (fun g12 => ?_) (fun g12 => ?_)
      · replace h := (if_pos g12).symm.trans h
        refine z_aload_n dX8_readLine_83 rfl ?_
        refine z_ldcS (tx := "thing") (q := 23) (by decide +kernel) dX8_readLine_84 ?_
        obtain ⟨v14, M15, c13, h⟩ := z_bi_c h
        refine z_cV (av := [.ref 23]) (st := []) lk_X8_209 dX8_readLine_86 (A_X8_is_107 (d := d + 2) hl c13) rfl rfl en_107 rfl (Nat.le_of_ble_eq_true rfl) rfl z_len rfl rfl ?_
        refine z_if_eq (tgt := 99) dX8_readLine_89 rfl (fun g16 => ?_) (fun g16 => ?_)
        · replace h := (if_pos g16).symm.trans h
          refine z_aload_n dX8_readLine_99 rfl ?_
          refine z_ldcSW (tx := "play") (q := 24) (by decide +kernel) dX8_readLine_100 ?_
          obtain ⟨v18, M19, c17, h⟩ := z_bi_c h
          refine z_cV (av := [.ref 24]) (st := []) lk_X8_209 dX8_readLine_103 (A_X8_is_107 (d := d + 2) hl c17) rfl rfl en_107 rfl (Nat.le_of_ble_eq_true rfl) rfl z_len rfl rfl ?_
          refine z_if_eq (tgt := 116) dX8_readLine_106 rfl (fun g20 => ?_) (fun g20 => ?_)
          · replace h := (if_pos g20).symm.trans h
            refine z_aload_n dX8_readLine_116 rfl ?_
            refine z_ldcSW (tx := "like") (q := 25) (by decide +kernel) dX8_readLine_117 ?_
            obtain ⟨v22, M23, c21, h⟩ := z_bi_c h
            refine z_cV (av := [.ref 25]) (st := []) lk_X8_234 dX8_readLine_120 (A_X8_passes_107_25 (d := d + 1) hl c21) rfl rfl en_107 rfl (Nat.le_of_ble_eq_true rfl) rfl z_len rfl rfl ?_
            refine z_if_eq (tgt := 133) dX8_readLine_123 rfl (fun g24 => ?_) (fun g24 => ?_)
            · replace h := (if_pos g24).symm.trans h
              refine z_aload_n dX8_readLine_133 rfl ?_
              refine z_ldcSW (tx := "troupe") (q := 26) (by decide +kernel) dX8_readLine_134 ?_
              obtain ⟨v26, M27, c25, h⟩ := z_bi_c h
              refine z_cV (av := [.ref 26]) (st := []) lk_X8_209 dX8_readLine_137 (A_X8_is_107 (d := d + 2) hl c25) rfl rfl en_107 rfl (Nat.le_of_ble_eq_true rfl) rfl z_len rfl rfl ?_
              refine z_if_ne (tgt := 151) dX8_readLine_140 rfl (fun g28 => ?_) (fun g28 => ?_)
              · replace h := (if_pos g28).symm.trans h
                refine z_aload_n dX8_readLine_143 rfl ?_
                refine z_ic kc_p1 dX8_readLine_144 ?_
                obtain ⟨M31, c29, h⟩ := z_bv_c h
                refine z_cV (av := [.int (1 : Int32)]) (st := []) lk_X8_216 dX8_readLine_145 (A_X8_wrong_107 (d := d + 6) hl c29) rfl rfl en_107 rfl (Nat.le_of_ble_eq_true rfl) rfl z_len rfl rfl ?_
                refine z_goto (tgt := 160) dX8_readLine_148 rfl ?_
                refine z_fg (ls' := [.ref 107, .null, .null]) ⟨Or.inr rfl, Or.inl rfl, Or.inl rfl, trivial⟩ ?_
                exact A_X8_readLine_107_p160 hl  _ _ _ h
              · replace h := (if_neg g28).symm.trans h
                refine z_iload_n dX8_readLine_151 rfl ?_
                refine z_if_eq (tgt := 160) dX8_readLine_152 rfl (fun g62 => ?_) (fun g62 => ?_)
                · replace h := (if_pos g62).symm.trans h
                  refine z_fg (ls' := [.ref 107, .null, .null]) ⟨Or.inr rfl, Or.inl rfl, Or.inl rfl, trivial⟩ ?_
                  exact A_X8_readLine_107_p160 hl  _ _ _ h
                · replace h := (if_neg g62).symm.trans h
                  refine z_aload_n dX8_readLine_155 rfl ?_
                  refine z_ic kc_p5 dX8_readLine_156 ?_
                  obtain ⟨M65, c63, h⟩ := z_bv_c h
                  refine z_cV (av := [.int (5 : Int32)]) (st := []) lk_X8_216 dX8_readLine_157 (A_X8_wrong_107 (d := d + 6) hl c63) rfl rfl en_107 rfl (Nat.le_of_ble_eq_true rfl) rfl z_len rfl rfl ?_
                  refine z_fg (ls' := [.ref 107, .null, .null]) ⟨Or.inr rfl, Or.inl rfl, Or.inl rfl, trivial⟩ ?_
                  exact A_X8_readLine_107_p160 hl  _ _ _ h
            · replace h := (if_neg g24).symm.trans h
              refine z_aload_n dX8_readLine_126 rfl ?_
              obtain ⟨M68, c66, h⟩ := z_bv_c h
              refine z_cV (av := []) (st := []) lk_X8_263 dX8_readLine_127 (A_X8_readLike_107 (d := d + 3) hl c66) rfl rfl en_107 rfl (Nat.le_of_ble_eq_true rfl) rfl z_len rfl rfl ?_
              refine z_goto (tgt := 187) dX8_readLine_130 rfl ?_
              refine z_fg (ls' := [.ref 107, .null, .int x1]) ⟨Or.inr rfl, Or.inl rfl, Or.inr rfl, trivial⟩ ?_
              exact A_X8_readLine_107_p187 hl x1 _ _ _ h
          · replace h := (if_neg g20).symm.trans h
            refine z_aload_n dX8_readLine_109 rfl ?_
            obtain ⟨M71, c69, h⟩ := z_bv_c h
            refine z_cV (av := []) (st := []) lk_X8_258 dX8_readLine_110 (A_X8_readPlay_107 (d := d + 3) hl c69) rfl rfl en_107 rfl (Nat.le_of_ble_eq_true rfl) rfl z_len rfl rfl ?_
            refine z_goto (tgt := 187) dX8_readLine_113 rfl ?_
            refine z_fg (ls' := [.ref 107, .null, .int x1]) ⟨Or.inr rfl, Or.inl rfl, Or.inr rfl, trivial⟩ ?_
            exact A_X8_readLine_107_p187 hl x1 _ _ _ h
        · replace h := (if_neg g16).symm.trans h
          refine z_aload_n dX8_readLine_92 rfl ?_
          obtain ⟨M74, c72, h⟩ := z_bv_c h
          refine z_cV (av := []) (st := []) lk_X8_253 dX8_readLine_93 (A_X8_readThing_107 (d := d + 2) hl c72) rfl rfl en_107 rfl (Nat.le_of_ble_eq_true rfl) rfl z_len rfl rfl ?_
          refine z_goto (tgt := 187) dX8_readLine_96 rfl ?_
          refine z_fg (ls' := [.ref 107, .null, .int x1]) ⟨Or.inr rfl, Or.inl rfl, Or.inr rfl, trivial⟩ ?_
          exact A_X8_readLine_107_p187 hl x1 _ _ _ h
      · replace h := (if_neg g12).symm.trans h
        refine z_aload_n dX8_readLine_43 rfl ?_
        refine z_ic kc_p1 dX8_readLine_44 ?_
        refine z_ic kc_p5 dX8_readLine_45 ?_
        obtain ⟨v76, M77, c75, h⟩ := z_bi_c h
        refine z_cV (av := [.int (1 : Int32), .int (5 : Int32)]) (st := []) lk_X8_226 dX8_readLine_46 (A_X8_begin_107 (d := d + 4) hl c75) rfl rfl en_107 rfl (Nat.le_of_ble_eq_true rfl) rfl z_len rfl rfl ?_
        refine z_if_eq (tgt := 187) dX8_readLine_49 rfl (fun g78 => ?_) (fun g78 => ?_)
        · replace h := (if_pos g78).symm.trans h
          refine z_fg (ls' := [.ref 107, .null, .int x1]) ⟨Or.inr rfl, Or.inl rfl, Or.inr rfl, trivial⟩ ?_
          exact A_X8_readLine_107_p187 hl x1 _ _ _ h
        · replace h := (if_neg g78).symm.trans h
          refine z_aload_n dX8_readLine_52 rfl ?_
          refine z_getR (q := 115) fl_X8_42 dX8_readLine_53 en_107 rfl ?_
          refine z_aload_n dX8_readLine_56 rfl ?_
          refine z_getR (q := 109) fl_X8_23 dX8_readLine_57 en_107 rfl ?_
          refine z_bp kb_p6 dX8_readLine_60 ?_
          refine z_al (v := (M77 109 6)) dX8_readLine_62 en_109 kn_p6 (z_ib_in rfl) rfl ?_
          refine z_aload_n dX8_readLine_63 rfl ?_
          refine z_ic kc_p0 dX8_readLine_64 ?_
          obtain ⟨v80, M81, c79, h⟩ := z_bi_c h
          refine z_cV (av := [.int (0 : Int32)]) (st := [.int (M77 109 6), .ref 115]) lk_X8_237 dX8_readLine_65 (A_X8_readOne_107 (d := d + 3) hl c79) rfl rfl en_107 rfl (Nat.le_of_ble_eq_true rfl) rfl z_len rfl rfl ?_
          obtain ⟨g82, h⟩ := z_ifn h
          refine z_as dX8_readLine_68 (by decide) en_115 rfl (z_ib_in g82) ?_
          refine z_aload_n dX8_readLine_69 rfl ?_
          refine z_getR (q := 109) fl_X8_23 dX8_readLine_70 en_107 rfl ?_
          refine z_bp kb_p6 dX8_readLine_73 ?_
          refine z_dup2 dX8_readLine_75 rfl rfl ?_
          refine z_al (v := (M81 109 6)) dX8_readLine_76 en_109 kn_p6 (z_ib_in rfl) rfl ?_
          refine z_ic kc_p1 dX8_readLine_77 ?_
          refine z_iadd dX8_readLine_78 ?_
          refine z_as dX8_readLine_79 (by decide) en_109 kn_p6 (z_ib_in rfl) ?_
          refine z_goto (tgt := 187) dX8_readLine_80 rfl ?_
          refine z_fg (ls' := [.ref 107, .null, .int x1]) ⟨Or.inr rfl, Or.inl rfl, Or.inr rfl, trivial⟩ ?_
          exact A_X8_readLine_107_p187 hl x1 _ _ _ h
    · replace h := (if_neg g8).symm.trans h
      refine z_aload_n dX8_readLine_27 rfl ?_
      obtain ⟨M85, c83, h⟩ := z_bv_c h
      refine z_cV (av := []) (st := []) lk_X8_246 dX8_readLine_28 (A_X8_readTrain_107 (d := d + 2) hl c83) rfl rfl en_107 rfl (Nat.le_of_ble_eq_true rfl) rfl z_len rfl rfl ?_
      refine z_goto (tgt := 187) dX8_readLine_31 rfl ?_
      refine z_fg (ls' := [.ref 107, .null, .int x1]) ⟨Or.inr rfl, Or.inl rfl, Or.inr rfl, trivial⟩ ?_
      exact A_X8_readLine_107_p187 hl x1 _ _ _ h
  · replace h := (if_neg g4).symm.trans h
    refine z_aload_n dX8_readLine_11 rfl ?_
    obtain ⟨M88, c86, h⟩ := z_bv_c h
    refine z_cV (av := []) (st := []) lk_X8_242 dX8_readLine_12 (A_X8_readTown_107 (d := d + 0) hl c86) rfl rfl en_107 rfl (Nat.le_of_ble_eq_true rfl) rfl z_len rfl rfl ?_
    refine z_goto (tgt := 187) dX8_readLine_15 rfl ?_
    refine z_fg (ls' := [.ref 107, .null, .int x1]) ⟨Or.inr rfl, Or.inl rfl, Or.inr rfl, trivial⟩ ?_
    exact A_X8_readLine_107_p187 hl x1 _ _ _ h
/-! X8_told 107 -/
def f_X8_told_107_p159 (M : zMM) : Option (Int32 × zMM) :=
  if (M 107 24) = 0 then
    z_bv (f_X8_take_107  M) fun M17 =>
    some ((0 : Int32), M17)
  else
    some ((M 107 24), (z_up (z_up M 107 26 (M 107 25)) 122 0 ((M 122 0) + (1 : Int32))))
def f_X8_told_107_p136 : Nat → Int32 → zMM → Option (Int32 × zMM)
  | 0, _, _ => none
  | n + 1, x2, M =>
  if (M 107 24) = 0 then
    if (M 107 20) = 0 then
      f_X8_told_107_p159  M
    else
      z_bi (f_X8_readLine_107 x2 M) fun v19 M20 =>
      f_X8_told_107_p136 n v19 M20
  else
    f_X8_told_107_p159  M
def f_X8_told_107_p106 : Nat → Int32 → zMM → Option (Int32 × zMM)
  | 0, _, _ => none
  | n + 1, x2, M =>
  if (400 : Int32) ≤ x2 then
    z_bv (f_X8_stepOn_107  M) fun M11 =>
    f_X8_told_107_p136 z_fuel (0 : Int32) M11
  else
    if z_ib ((400 : Int32) + x2) 800 = true then
      f_X8_told_107_p106 n (x2 + (1 : Int32)) (z_up M 121 ((400 : Int32) + x2).toNatClampNeg (-1 : Int32))
    else none
def f_X8_told_107_p82 : Nat → Int32 → zMM → Option (Int32 × zMM)
  | 0, _, _ => none
  | n + 1, x2, M =>
  if (25 : Int32) ≤ x2 then
    f_X8_told_107_p106 z_fuel (0 : Int32) M
  else
    if z_ib ((25 : Int32) + x2) 50 = true then
      f_X8_told_107_p82 n (x2 + (1 : Int32)) (z_up M 114 ((25 : Int32) + x2).toNatClampNeg (0 : Int32))
    else none
def f_X8_told_107_p50 : Nat → Int32 → zMM → Option (Int32 × zMM)
  | 0, _, _ => none
  | n + 1, x2, M =>
  if (10 : Int32) ≤ x2 then
    f_X8_told_107_p82 z_fuel (0 : Int32) M
  else
    if x2 = (9 : Int32) then
      if z_ib x2 10 = true then
        f_X8_told_107_p50 n (x2 + (1 : Int32)) (z_up M 109 x2.toNatClampNeg (11 : Int32))
      else none
    else
      if z_ib x2 10 = true then
        f_X8_told_107_p50 n (x2 + (1 : Int32)) (z_up M 109 x2.toNatClampNeg (0 : Int32))
      else none
def f_X8_told_107 (x1 : Int32) (M : zMM) : Option (Int32 × zMM) :=
  if x1 < 0 then
    z_bi (f_X8_fail_107 (1 : Int32) (z_up M 107 1 (0 : Int32))) fun v3 M4 =>
    some (v3, M4)
  else
    if x1 ≤ (M 107 17) then
      f_X8_told_107_p50 z_fuel (5 : Int32) (z_up (z_up (z_up (z_up (z_up (z_up M 107 1 (0 : Int32)) 107 17 (0 : Int32)) 107 19 x1) 107 18 (0 : Int32)) 107 24 (0 : Int32)) 107 26 (-1 : Int32))
    else
      z_bi (f_X8_fail_107 (1 : Int32) (z_up M 107 1 (0 : Int32))) fun v27 M28 =>
      some (v27, M28)
theorem A_X8_told_107_p159 {l : Launch} (hl : l.stackTraces = false) {Ls d : Nat} {Lm : zML} :
    ∀ (M M' : zMM) (v : Int32) , f_X8_told_107_p159  M = some (v, M') → z_AW l mX8_told (d + 8) 0 0 159 [.ref 107, .null, .null] [] (z_L0 Ls, M, Lm) (.inl (some (.int v))) (z_L0 Ls, M', Lm) := by
  intro  M M' v h
  replace h : (  if (M 107 24) = 0 then
    z_bv (f_X8_take_107  M) fun M17 =>
    some ((0 : Int32), M17)
  else
    some ((M 107 24), (z_up (z_up M 107 26 (M 107 25)) 122 0 ((M 122 0) + (1 : Int32))))) = some (v, M') := h
  refine z_aload_n dX8_told_159 rfl ?_
  refine z_gI (v := (M 107 24)) fl_X8_195 dX8_told_160 en_107 rfl rfl ?_
  refine z_if_eq (tgt := 189) dX8_told_163 rfl (fun g14 => ?_) (fun g14 => ?_)
  · replace h := (if_pos g14).symm.trans h
    refine z_aload_n dX8_told_189 rfl ?_
    obtain ⟨M17, c15, h⟩ := z_bv_c h
    refine z_cV (av := []) (st := []) lk_X8_275 dX8_told_190 (A_X8_take_107 (d := d + 5) hl c15) rfl rfl en_107 rfl (Nat.le_of_ble_eq_true rfl) rfl z_len rfl rfl ?_
    refine z_ic kc_p0 dX8_told_193 ?_
    cases h
    exact z_rI dX8_told_194 rfl
  · replace h := (if_neg g14).symm.trans h
    refine z_aload_n dX8_told_166 rfl ?_
    refine z_aload_n dX8_told_167 rfl ?_
    refine z_gI (v := (M 107 25)) fl_X8_198 dX8_told_168 en_107 rfl rfl ?_
    refine z_pI fp_X8_69 dX8_told_171 (by decide) en_107 rfl ?_
    refine z_aload_n dX8_told_174 rfl ?_
    refine z_getR (q := 122) fl_X8_63 dX8_told_175 en_107 rfl ?_
    refine z_ic kc_p0 dX8_told_178 ?_
    refine z_dup2 dX8_told_179 rfl rfl ?_
    refine z_al (v := (M 122 0)) dX8_told_180 en_122 kn_p0 (z_ib_in rfl) rfl ?_
    refine z_ic kc_p1 dX8_told_181 ?_
    refine z_iadd dX8_told_182 ?_
    refine z_as dX8_told_183 (by decide) en_122 kn_p0 (z_ib_in rfl) ?_
    refine z_aload_n dX8_told_184 rfl ?_
    refine z_gI (v := (M 107 24)) fl_X8_195 dX8_told_185 en_107 rfl rfl ?_
    cases h
    exact z_rI dX8_told_188 rfl
theorem A_X8_told_107_p136 {l : Launch} (hl : l.stackTraces = false) {Ls d : Nat} {Lm : zML} :
    ∀ (n : Nat) (x2 : Int32) (M M' : zMM) (v : Int32) , f_X8_told_107_p136 n x2 M = some (v, M') → z_AW l mX8_told (d + 8) 0 0 136 [.ref 107, .null, .int x2] [] (z_L0 Ls, M, Lm) (.inl (some (.int v))) (z_L0 Ls, M', Lm) := by
  intro n
  induction n with
  | zero => intro x2 M M' v h; cases h
  | succ n ih =>
    intro x2 M M' v h
    replace h : (  if (M 107 24) = 0 then
    if (M 107 20) = 0 then
      f_X8_told_107_p159  M
    else
      z_bi (f_X8_readLine_107 x2 M) fun v19 M20 =>
      f_X8_told_107_p136 n v19 M20
  else
    f_X8_told_107_p159  M) = some (v, M') := h
    refine z_aload_n dX8_told_136 rfl ?_
    refine z_gI (v := (M 107 24)) fl_X8_195 dX8_told_137 en_107 rfl rfl ?_
    refine z_if_ne (tgt := 159) dX8_told_140 rfl (fun g12 => ?_) (fun g12 => ?_)
    · replace h := (if_pos g12).symm.trans h
      refine z_aload_n dX8_told_143 rfl ?_
      refine z_gI (v := (M 107 20)) fl_X8_172 dX8_told_144 en_107 rfl rfl ?_
      refine z_if_eq (tgt := 159) dX8_told_147 rfl (fun g13 => ?_) (fun g13 => ?_)
      · replace h := (if_pos g13).symm.trans h
        refine z_fg (ls' := [.ref 107, .null, .null]) ⟨Or.inr rfl, Or.inl rfl, Or.inl rfl, trivial⟩ ?_
        exact A_X8_told_107_p159 hl  _ _ _ h
      · replace h := (if_neg g13).symm.trans h
        refine z_aload_n dX8_told_150 rfl ?_
        refine z_iload_n dX8_told_151 rfl ?_
        obtain ⟨v19, M20, c18, h⟩ := z_bi_c h
        refine z_cV (av := [.int x2]) (st := []) lk_X8_271 dX8_told_152 (A_X8_readLine_107 (d := d + 0) hl c18) rfl rfl en_107 rfl (Nat.le_of_ble_eq_true rfl) rfl z_len rfl rfl ?_
        refine z_istore_n (ls' := [.ref 107, .null, .int v19]) dX8_told_155 (by decide) rfl ?_
        refine z_goto (tgt := 136) dX8_told_156 rfl ?_
        exact ih v19 _ _ _ h
    · replace h := (if_neg g12).symm.trans h
      refine z_fg (ls' := [.ref 107, .null, .null]) ⟨Or.inr rfl, Or.inl rfl, Or.inl rfl, trivial⟩ ?_
      exact A_X8_told_107_p159 hl  _ _ _ h
theorem A_X8_told_107_p106 {l : Launch} (hl : l.stackTraces = false) {Ls d : Nat} {Lm : zML} :
    ∀ (n : Nat) (x2 : Int32) (M M' : zMM) (v : Int32) , f_X8_told_107_p106 n x2 M = some (v, M') → z_AW l mX8_told (d + 8) 0 0 106 [.ref 107, .null, .int x2] [] (z_L0 Ls, M, Lm) (.inl (some (.int v))) (z_L0 Ls, M', Lm) := by
  intro n
  induction n with
  | zero => intro x2 M M' v h; cases h
  | succ n ih =>
    intro x2 M M' v h
    replace h : (  if (400 : Int32) ≤ x2 then
    z_bv (f_X8_stepOn_107  M) fun M11 =>
    f_X8_told_107_p136 z_fuel (0 : Int32) M11
  else
    if z_ib ((400 : Int32) + x2) 800 = true then
      f_X8_told_107_p106 n (x2 + (1 : Int32)) (z_up M 121 ((400 : Int32) + x2).toNatClampNeg (-1 : Int32))
    else none) = some (v, M') := h
    refine z_iload_n dX8_told_106 rfl ?_
    refine z_sp ks_p400 dX8_told_107 ?_
    refine z_icmp_ge (tgt := 130) dX8_told_110 rfl (fun g8 => ?_) (fun g8 => ?_)
    · replace h := (if_pos g8).symm.trans h
      refine z_aload_n dX8_told_130 rfl ?_
      obtain ⟨M11, c9, h⟩ := z_bv_c h
      refine z_cV (av := []) (st := []) lk_X8_213 dX8_told_131 (A_X8_stepOn_107 (d := d + 6) hl c9) rfl rfl en_107 rfl (Nat.le_of_ble_eq_true rfl) rfl z_len rfl rfl ?_
      refine z_ic kc_p0 dX8_told_134 ?_
      refine z_istore_n (ls' := [.ref 107, .null, .int (0 : Int32)]) dX8_told_135 (by decide) rfl ?_
      exact A_X8_told_107_p136 hl z_fuel (0 : Int32) _ _ _ h
    · replace h := (if_neg g8).symm.trans h
      refine z_aload_n dX8_told_113 rfl ?_
      refine z_getR (q := 121) fl_X8_60 dX8_told_114 en_107 rfl ?_
      refine z_sp ks_p400 dX8_told_117 ?_
      refine z_iload_n dX8_told_120 rfl ?_
      refine z_iadd dX8_told_121 ?_
      refine z_ic kc_m1 dX8_told_122 ?_
      obtain ⟨g21, h⟩ := z_ifn h
      refine z_as dX8_told_123 (by decide) en_121 rfl (z_ib_in g21) ?_
      refine z_ii (ls' := [.ref 107, .null, .int (x2 + (1 : Int32))]) kc_p1 dX8_told_124 rfl (by decide) rfl ?_
      refine z_goto (tgt := 106) dX8_told_127 rfl ?_
      exact ih (x2 + (1 : Int32)) _ _ _ h
theorem A_X8_told_107_p82 {l : Launch} (hl : l.stackTraces = false) {Ls d : Nat} {Lm : zML} :
    ∀ (n : Nat) (x2 : Int32) (M M' : zMM) (v : Int32) , f_X8_told_107_p82 n x2 M = some (v, M') → z_AW l mX8_told (d + 8) 0 0 82 [.ref 107, .null, .int x2] [] (z_L0 Ls, M, Lm) (.inl (some (.int v))) (z_L0 Ls, M', Lm) := by
  intro n
  induction n with
  | zero => intro x2 M M' v h; cases h
  | succ n ih =>
    intro x2 M M' v h
    replace h : (  if (25 : Int32) ≤ x2 then
    f_X8_told_107_p106 z_fuel (0 : Int32) M
  else
    if z_ib ((25 : Int32) + x2) 50 = true then
      f_X8_told_107_p82 n (x2 + (1 : Int32)) (z_up M 114 ((25 : Int32) + x2).toNatClampNeg (0 : Int32))
    else none) = some (v, M') := h
    refine z_iload_n dX8_told_82 rfl ?_
    refine z_bp kb_p25 dX8_told_83 ?_
    refine z_icmp_ge (tgt := 104) dX8_told_85 rfl (fun g7 => ?_) (fun g7 => ?_)
    · replace h := (if_pos g7).symm.trans h
      refine z_ic kc_p0 dX8_told_104 ?_
      refine z_istore_n (ls' := [.ref 107, .null, .int (0 : Int32)]) dX8_told_105 (by decide) rfl ?_
      exact A_X8_told_107_p106 hl z_fuel (0 : Int32) _ _ _ h
    · replace h := (if_neg g7).symm.trans h
      refine z_aload_n dX8_told_88 rfl ?_
      refine z_getR (q := 114) fl_X8_39 dX8_told_89 en_107 rfl ?_
      refine z_bp kb_p25 dX8_told_92 ?_
      refine z_iload_n dX8_told_94 rfl ?_
      refine z_iadd dX8_told_95 ?_
      refine z_ic kc_p0 dX8_told_96 ?_
      obtain ⟨g22, h⟩ := z_ifn h
      refine z_as dX8_told_97 (by decide) en_114 rfl (z_ib_in g22) ?_
      refine z_ii (ls' := [.ref 107, .null, .int (x2 + (1 : Int32))]) kc_p1 dX8_told_98 rfl (by decide) rfl ?_
      refine z_goto (tgt := 82) dX8_told_101 rfl ?_
      exact ih (x2 + (1 : Int32)) _ _ _ h
theorem A_X8_told_107_p50 {l : Launch} (hl : l.stackTraces = false) {Ls d : Nat} {Lm : zML} :
    ∀ (n : Nat) (x2 : Int32) (M M' : zMM) (v : Int32) , f_X8_told_107_p50 n x2 M = some (v, M') → z_AW l mX8_told (d + 8) 0 0 50 [.ref 107, .null, .int x2] [] (z_L0 Ls, M, Lm) (.inl (some (.int v))) (z_L0 Ls, M', Lm) := by
  intro n
  induction n with
  | zero => intro x2 M M' v h; cases h
  | succ n ih =>
    intro x2 M M' v h
    replace h : (  if (10 : Int32) ≤ x2 then
    f_X8_told_107_p82 z_fuel (0 : Int32) M
  else
    if x2 = (9 : Int32) then
      if z_ib x2 10 = true then
        f_X8_told_107_p50 n (x2 + (1 : Int32)) (z_up M 109 x2.toNatClampNeg (11 : Int32))
      else none
    else
      if z_ib x2 10 = true then
        f_X8_told_107_p50 n (x2 + (1 : Int32)) (z_up M 109 x2.toNatClampNeg (0 : Int32))
      else none) = some (v, M') := h
    refine z_iload_n dX8_told_50 rfl ?_
    refine z_bp kb_p10 dX8_told_51 ?_
    refine z_icmp_ge (tgt := 80) dX8_told_53 rfl (fun g6 => ?_) (fun g6 => ?_)
    · replace h := (if_pos g6).symm.trans h
      refine z_ic kc_p0 dX8_told_80 ?_
      refine z_istore_n (ls' := [.ref 107, .null, .int (0 : Int32)]) dX8_told_81 (by decide) rfl ?_
      exact A_X8_told_107_p82 hl z_fuel (0 : Int32) _ _ _ h
    · replace h := (if_neg g6).symm.trans h
      refine z_aload_n dX8_told_56 rfl ?_
      refine z_getR (q := 109) fl_X8_23 dX8_told_57 en_107 rfl ?_
      refine z_iload_n dX8_told_60 rfl ?_
      refine z_iload_n dX8_told_61 rfl ?_
      refine z_bp kb_p9 dX8_told_62 ?_
      refine z_icmp_ne (tgt := 72) dX8_told_64 rfl (fun g23 => ?_) (fun g23 => ?_)
      · replace h := (if_pos g23).symm.trans h
        refine z_bp kb_p11 dX8_told_67 ?_
        refine z_goto (tgt := 73) dX8_told_69 rfl ?_
        obtain ⟨g24, h⟩ := z_ifn h
        refine z_as dX8_told_73 (by decide) en_109 rfl (z_ib_in g24) ?_
        refine z_ii (ls' := [.ref 107, .null, .int (x2 + (1 : Int32))]) kc_p1 dX8_told_74 rfl (by decide) rfl ?_
        refine z_goto (tgt := 50) dX8_told_77 rfl ?_
        exact ih (x2 + (1 : Int32)) _ _ _ h
      · replace h := (if_neg g23).symm.trans h
        refine z_ic kc_p0 dX8_told_72 ?_
        obtain ⟨g25, h⟩ := z_ifn h
        refine z_as dX8_told_73 (by decide) en_109 rfl (z_ib_in g25) ?_
        refine z_ii (ls' := [.ref 107, .null, .int (x2 + (1 : Int32))]) kc_p1 dX8_told_74 rfl (by decide) rfl ?_
        refine z_goto (tgt := 50) dX8_told_77 rfl ?_
        exact ih (x2 + (1 : Int32)) _ _ _ h
theorem A_X8_told_107 {l : Launch} (hl : l.stackTraces = false) {Ls d : Nat} {Lm : zML} {x1 : Int32} {M M' : zMM} {v : Int32} (h : f_X8_told_107 x1 M = some (v, M')) : z_Ct l mX8_told (d + 8) 0 0 [.ref 107, .int x1] (z_L0 Ls, M, Lm) (.inl (some (.int v))) (z_L0 Ls, M', Lm) := by
  replace h : (  if x1 < 0 then
    z_bi (f_X8_fail_107 (1 : Int32) (z_up M 107 1 (0 : Int32))) fun v3 M4 =>
    some (v3, M4)
  else
    if x1 ≤ (M 107 17) then
      f_X8_told_107_p50 z_fuel (5 : Int32) (z_up (z_up (z_up (z_up (z_up (z_up M 107 1 (0 : Int32)) 107 17 (0 : Int32)) 107 19 x1) 107 18 (0 : Int32)) 107 24 (0 : Int32)) 107 26 (-1 : Int32))
    else
      z_bi (f_X8_fail_107 (1 : Int32) (z_up M 107 1 (0 : Int32))) fun v27 M28 =>
      some (v27, M28)) = some (v, M') := h
  refine z_Ct.of hl (by decide) (Nat.le_of_ble_eq_true rfl) rfl ?_
  show z_AW l mX8_told (d + 8) 0 0 0 [.ref 107, .int x1, .null] [] (z_L0 Ls, M, Lm) (.inl (some (.int v))) (z_L0 Ls, M', Lm)
  refine z_aload_n dX8_told_0 rfl ?_
  refine z_ic kc_p0 dX8_told_1 ?_
  refine z_pI fp_X8_149 dX8_told_2 (by decide) en_107 rfl ?_
  refine z_iload_n dX8_told_5 rfl ?_
  refine z_if_lt (tgt := 17) dX8_told_6 rfl (fun g1 => ?_) (fun g1 => ?_)
  · replace h := (if_pos g1).symm.trans h
    refine z_aload_n dX8_told_17 rfl ?_
    refine z_ic kc_p1 dX8_told_18 ?_
    obtain ⟨v3, M4, c2, h⟩ := z_bi_c h
    refine z_cV (av := [.int (1 : Int32)]) (st := []) lk_X8_268 dX8_told_19 (A_X8_fail_107 (d := d + 7) hl c2) rfl rfl en_107 rfl (Nat.le_of_ble_eq_true rfl) rfl z_len rfl rfl ?_
    cases h
    exact z_rI dX8_told_22 rfl
  · replace h := (if_neg g1).symm.trans h
    refine z_iload_n dX8_told_9 rfl ?_
    refine z_aload_n dX8_told_10 rfl ?_
    refine z_gI (v := (M 107 17)) fl_X8_156 dX8_told_11 en_107 rfl rfl ?_
    refine z_icmp_le (tgt := 23) dX8_told_14 rfl (fun g5 => ?_) (fun g5 => ?_)
    · replace h := (if_pos g5).symm.trans h
      refine z_aload_n dX8_told_23 rfl ?_
      refine z_ic kc_p0 dX8_told_24 ?_
      refine z_pI fp_X8_156 dX8_told_25 (by decide) en_107 rfl ?_
      refine z_aload_n dX8_told_28 rfl ?_
      refine z_iload_n dX8_told_29 rfl ?_
      refine z_pI fp_X8_159 dX8_told_30 (by decide) en_107 rfl ?_
      refine z_aload_n dX8_told_33 rfl ?_
      refine z_ic kc_p0 dX8_told_34 ?_
      refine z_pI fp_X8_162 dX8_told_35 (by decide) en_107 rfl ?_
      refine z_aload_n dX8_told_38 rfl ?_
      refine z_ic kc_p0 dX8_told_39 ?_
      refine z_pI fp_X8_195 dX8_told_40 (by decide) en_107 rfl ?_
      refine z_aload_n dX8_told_43 rfl ?_
      refine z_ic kc_m1 dX8_told_44 ?_
      refine z_pI fp_X8_69 dX8_told_45 (by decide) en_107 rfl ?_
      refine z_ic kc_p5 dX8_told_48 ?_
      refine z_istore_n (ls' := [.ref 107, .int x1, .int (5 : Int32)]) dX8_told_49 (by decide) rfl ?_
      refine z_fg (ls' := [.ref 107, .null, .int (5 : Int32)]) ⟨Or.inr rfl, Or.inl rfl, Or.inr rfl, trivial⟩ ?_
      exact A_X8_told_107_p50 hl z_fuel (5 : Int32) _ _ _ h
    · replace h := (if_neg g5).symm.trans h
      refine z_aload_n dX8_told_17 rfl ?_
      refine z_ic kc_p1 dX8_told_18 ?_
      obtain ⟨v27, M28, c26, h⟩ := z_bi_c h
      refine z_cV (av := [.int (1 : Int32)]) (st := []) lk_X8_268 dX8_told_19 (A_X8_fail_107 (d := d + 7) hl c26) rfl rfl en_107 rfl (Nat.le_of_ble_eq_true rfl) rfl z_len rfl rfl ?_
      cases h
      exact z_rI dX8_told_22 rfl
/-! X8_tonight 107 -/
def f_X8_tonight_107_p83 (K36 : Int32 → Int32 → Int32 → Int32 → Int32 → zMM → Option (Int32 × zMM)) (x1 : Int32) (x2 : Int32) (x3 : Int32) (x4 : Int32) (x5 : Int32) (a0 : Int32) (M : zMM) : Option (Int32 × zMM) :=
  if a0 = (-1 : Int32) then
    K36 x1 x2 x3 x4 (x5 + (1 : Int32)) M
  else
    if x3 = (-1 : Int32) then
      K36 x1 x2 x5 a0 (x5 + (1 : Int32)) M
    else
      if a0 < x4 then
        K36 x1 x2 x5 a0 (x5 + (1 : Int32)) M
      else
        K36 x1 x2 x3 x4 (x5 + (1 : Int32)) M
def f_X8_tonight_107_p36 : Nat → Int32 → Int32 → Int32 → Int32 → Int32 → zMM → Option (Int32 × zMM)
  | 0, _, _, _, _, _, _ => none
  | n + 1, x1, x2, x3, x4, x5, M =>
  if (M 109 3) ≤ x5 then
    if x2 = 0 then
      some (x3, M)
    else
      some (x4, M)
  else
    if z_ib x5 8 = true then
      if (M 109 4) < (M 118 x5.toNatClampNeg) then
        f_X8_tonight_107_p83 (f_X8_tonight_107_p36 n) x1 x2 x3 x4 x5 (-1 : Int32) M
      else
        z_bi (f_X8_trunksAt_107 x1 M) fun v21 M22 =>
        z_bi (f_X8_thingsOf_107 v21 M22) fun v24 M25 =>
        z_bi (f_X8_priceOf_107 x5 x1 v24 M25) fun v27 M28 =>
        f_X8_tonight_107_p83 (f_X8_tonight_107_p36 n) x1 x2 x3 x4 x5 v27 M28
    else none
def f_X8_tonight_107 (x1 : Int32) (x2 : Int32) (M : zMM) : Option (Int32 × zMM) :=
  z_bi (f_X8_isTown_107 x1 (z_up M 107 1 (0 : Int32))) fun v2 M3 =>
  if v2 = 0 then
    z_bi (f_X8_fail_107 (1 : Int32) M3) fun v6 M7 =>
    some (v6, M7)
  else
    if x2 < 0 then
      z_bi (f_X8_fail_107 (1 : Int32) M3) fun v10 M11 =>
      some (v10, M11)
    else
      if x2 ≤ (1 : Int32) then
        f_X8_tonight_107_p36 z_fuel x1 x2 (-1 : Int32) (-1 : Int32) (0 : Int32) M3
      else
        z_bi (f_X8_fail_107 (1 : Int32) M3) fun v30 M31 =>
        some (v30, M31)
theorem A_X8_tonight_107_p83 {l : Launch} (hl : l.stackTraces = false) {Ls d : Nat} {Lm : zML} {K36 : Int32 → Int32 → Int32 → Int32 → Int32 → zMM → Option (Int32 × zMM)}
    (hK36 : ∀ (x1 : Int32) (x2 : Int32) (x3 : Int32) (x4 : Int32) (x5 : Int32) (M M' : zMM) (v : Int32) , K36 x1 x2 x3 x4 x5 M = some (v, M') → z_AW l mX8_tonight (d + 11) 0 0 36 [.ref 107, .int x1, .int x2, .int x3, .int x4, .int x5, .null] [] (z_L0 Ls, M, Lm) (.inl (some (.int v))) (z_L0 Ls, M', Lm)) :
    ∀ (x1 : Int32) (x2 : Int32) (x3 : Int32) (x4 : Int32) (x5 : Int32) (a0 : Int32) (M M' : zMM) (v : Int32) , f_X8_tonight_107_p83 K36 x1 x2 x3 x4 x5 a0 M = some (v, M') → z_AW l mX8_tonight (d + 11) 0 0 83 [.ref 107, .int x1, .int x2, .int x3, .int x4, .int x5, .null] [.int a0] (z_L0 Ls, M, Lm) (.inl (some (.int v))) (z_L0 Ls, M', Lm) := by
  intro x1 x2 x3 x4 x5 a0 M M' v h
  replace h : (  if a0 = (-1 : Int32) then
    K36 x1 x2 x3 x4 (x5 + (1 : Int32)) M
  else
    if x3 = (-1 : Int32) then
      K36 x1 x2 x5 a0 (x5 + (1 : Int32)) M
    else
      if a0 < x4 then
        K36 x1 x2 x5 a0 (x5 + (1 : Int32)) M
      else
        K36 x1 x2 x3 x4 (x5 + (1 : Int32)) M) = some (v, M') := h
  refine z_istore (ls' := [.ref 107, .int x1, .int x2, .int x3, .int x4, .int x5, .int a0]) dX8_tonight_83 (by decide) rfl ?_
  refine z_iload dX8_tonight_85 rfl ?_
  refine z_ic kc_m1 dX8_tonight_87 ?_
  refine z_icmp_eq (tgt := 113) dX8_tonight_88 rfl (fun g17 => ?_) (fun g17 => ?_)
  · replace h := (if_pos g17).symm.trans h
    refine z_ii (ls' := [.ref 107, .int x1, .int x2, .int x3, .int x4, .int (x5 + (1 : Int32)), .int a0]) kc_p1 dX8_tonight_113 rfl (by decide) rfl ?_
    refine z_goto (tgt := 36) dX8_tonight_116 rfl ?_
    refine z_fg (ls' := [.ref 107, .int x1, .int x2, .int x3, .int x4, .int (x5 + (1 : Int32)), .null]) ⟨Or.inr rfl, Or.inr rfl, Or.inr rfl, Or.inr rfl, Or.inr rfl, Or.inr rfl, Or.inl rfl, trivial⟩ ?_
    exact hK36 x1 x2 x3 x4 (x5 + (1 : Int32)) _ _ _ h
  · replace h := (if_neg g17).symm.trans h
    refine z_iload_n dX8_tonight_91 rfl ?_
    refine z_ic kc_m1 dX8_tonight_92 ?_
    refine z_icmp_eq (tgt := 106) dX8_tonight_93 rfl (fun g18 => ?_) (fun g18 => ?_)
    · replace h := (if_pos g18).symm.trans h
      refine z_iload dX8_tonight_106 rfl ?_
      refine z_istore_n (ls' := [.ref 107, .int x1, .int x2, .int x5, .int x4, .int x5, .int a0]) dX8_tonight_108 (by decide) rfl ?_
      refine z_iload dX8_tonight_109 rfl ?_
      refine z_istore (ls' := [.ref 107, .int x1, .int x2, .int x5, .int a0, .int x5, .int a0]) dX8_tonight_111 (by decide) rfl ?_
      refine z_ii (ls' := [.ref 107, .int x1, .int x2, .int x5, .int a0, .int (x5 + (1 : Int32)), .int a0]) kc_p1 dX8_tonight_113 rfl (by decide) rfl ?_
      refine z_goto (tgt := 36) dX8_tonight_116 rfl ?_
      refine z_fg (ls' := [.ref 107, .int x1, .int x2, .int x5, .int a0, .int (x5 + (1 : Int32)), .null]) ⟨Or.inr rfl, Or.inr rfl, Or.inr rfl, Or.inr rfl, Or.inr rfl, Or.inr rfl, Or.inl rfl, trivial⟩ ?_
      exact hK36 x1 x2 x5 a0 (x5 + (1 : Int32)) _ _ _ h
    · replace h := (if_neg g18).symm.trans h
      refine z_iload dX8_tonight_96 rfl ?_
      refine z_iload dX8_tonight_98 rfl ?_
      refine z_icmp_lt (tgt := 106) dX8_tonight_100 rfl (fun g19 => ?_) (fun g19 => ?_)
      · replace h := (if_pos g19).symm.trans h
        refine z_iload dX8_tonight_106 rfl ?_
        refine z_istore_n (ls' := [.ref 107, .int x1, .int x2, .int x5, .int x4, .int x5, .int a0]) dX8_tonight_108 (by decide) rfl ?_
        refine z_iload dX8_tonight_109 rfl ?_
        refine z_istore (ls' := [.ref 107, .int x1, .int x2, .int x5, .int a0, .int x5, .int a0]) dX8_tonight_111 (by decide) rfl ?_
        refine z_ii (ls' := [.ref 107, .int x1, .int x2, .int x5, .int a0, .int (x5 + (1 : Int32)), .int a0]) kc_p1 dX8_tonight_113 rfl (by decide) rfl ?_
        refine z_goto (tgt := 36) dX8_tonight_116 rfl ?_
        refine z_fg (ls' := [.ref 107, .int x1, .int x2, .int x5, .int a0, .int (x5 + (1 : Int32)), .null]) ⟨Or.inr rfl, Or.inr rfl, Or.inr rfl, Or.inr rfl, Or.inr rfl, Or.inr rfl, Or.inl rfl, trivial⟩ ?_
        exact hK36 x1 x2 x5 a0 (x5 + (1 : Int32)) _ _ _ h
      · replace h := (if_neg g19).symm.trans h
        refine z_goto (tgt := 113) dX8_tonight_103 rfl ?_
        refine z_ii (ls' := [.ref 107, .int x1, .int x2, .int x3, .int x4, .int (x5 + (1 : Int32)), .int a0]) kc_p1 dX8_tonight_113 rfl (by decide) rfl ?_
        refine z_goto (tgt := 36) dX8_tonight_116 rfl ?_
        refine z_fg (ls' := [.ref 107, .int x1, .int x2, .int x3, .int x4, .int (x5 + (1 : Int32)), .null]) ⟨Or.inr rfl, Or.inr rfl, Or.inr rfl, Or.inr rfl, Or.inr rfl, Or.inr rfl, Or.inl rfl, trivial⟩ ?_
        exact hK36 x1 x2 x3 x4 (x5 + (1 : Int32)) _ _ _ h
theorem A_X8_tonight_107_p36 {l : Launch} (hl : l.stackTraces = false) {Ls d : Nat} {Lm : zML} :
    ∀ (n : Nat) (x1 : Int32) (x2 : Int32) (x3 : Int32) (x4 : Int32) (x5 : Int32) (M M' : zMM) (v : Int32) , f_X8_tonight_107_p36 n x1 x2 x3 x4 x5 M = some (v, M') → z_AW l mX8_tonight (d + 11) 0 0 36 [.ref 107, .int x1, .int x2, .int x3, .int x4, .int x5, .null] [] (z_L0 Ls, M, Lm) (.inl (some (.int v))) (z_L0 Ls, M', Lm) := by
  intro n
  induction n with
  | zero => intro x1 x2 x3 x4 x5 M M' v h; cases h
  | succ n ih =>
    intro x1 x2 x3 x4 x5 M M' v h
    replace h : (  if (M 109 3) ≤ x5 then
    if x2 = 0 then
      some (x3, M)
    else
      some (x4, M)
  else
    if z_ib x5 8 = true then
      if (M 109 4) < (M 118 x5.toNatClampNeg) then
        f_X8_tonight_107_p83 (f_X8_tonight_107_p36 n) x1 x2 x3 x4 x5 (-1 : Int32) M
      else
        z_bi (f_X8_trunksAt_107 x1 M) fun v21 M22 =>
        z_bi (f_X8_thingsOf_107 v21 M22) fun v24 M25 =>
        z_bi (f_X8_priceOf_107 x5 x1 v24 M25) fun v27 M28 =>
        f_X8_tonight_107_p83 (f_X8_tonight_107_p36 n) x1 x2 x3 x4 x5 v27 M28
    else none) = some (v, M') := h
    refine z_iload dX8_tonight_36 rfl ?_
    refine z_aload_n dX8_tonight_38 rfl ?_
    refine z_getR (q := 109) fl_X8_23 dX8_tonight_39 en_107 rfl ?_
    refine z_ic kc_p3 dX8_tonight_42 ?_
    refine z_al (v := (M 109 3)) dX8_tonight_43 en_109 kn_p3 (z_ib_in rfl) rfl ?_
    refine z_icmp_ge (tgt := 119) dX8_tonight_44 rfl (fun g13 => ?_) (fun g13 => ?_)
    · replace h := (if_pos g13).symm.trans h
      refine z_iload_n dX8_tonight_119 rfl ?_
      refine z_if_ne (tgt := 127) dX8_tonight_120 rfl (fun g14 => ?_) (fun g14 => ?_)
      · replace h := (if_pos g14).symm.trans h
        refine z_iload_n dX8_tonight_123 rfl ?_
        refine z_goto (tgt := 129) dX8_tonight_124 rfl ?_
        cases h
        exact z_rI dX8_tonight_129 rfl
      · replace h := (if_neg g14).symm.trans h
        refine z_iload dX8_tonight_127 rfl ?_
        cases h
        exact z_rI dX8_tonight_129 rfl
    · replace h := (if_neg g13).symm.trans h
      refine z_aload_n dX8_tonight_47 rfl ?_
      refine z_getR (q := 118) fl_X8_51 dX8_tonight_48 en_107 rfl ?_
      refine z_iload dX8_tonight_51 rfl ?_
      obtain ⟨g15, h⟩ := z_ifn h
      refine z_al (v := (M 118 x5.toNatClampNeg)) dX8_tonight_53 en_118 rfl (z_ib_in g15) rfl ?_
      refine z_aload_n dX8_tonight_54 rfl ?_
      refine z_getR (q := 109) fl_X8_23 dX8_tonight_55 en_107 rfl ?_
      refine z_ic kc_p4 dX8_tonight_58 ?_
      refine z_al (v := (M 109 4)) dX8_tonight_59 en_109 kn_p4 (z_ib_in rfl) rfl ?_
      refine z_icmp_gt (tgt := 82) dX8_tonight_60 rfl (fun g16 => ?_) (fun g16 => ?_)
      · replace h := (if_pos g16).symm.trans h
        refine z_ic kc_m1 dX8_tonight_82 ?_
        exact A_X8_tonight_107_p83 hl ih x1 x2 x3 x4 x5 (-1 : Int32) _ _ _ h
      · replace h := (if_neg g16).symm.trans h
        refine z_aload_n dX8_tonight_63 rfl ?_
        refine z_iload dX8_tonight_64 rfl ?_
        refine z_iload_n dX8_tonight_66 rfl ?_
        refine z_aload_n dX8_tonight_67 rfl ?_
        refine z_aload_n dX8_tonight_68 rfl ?_
        refine z_iload_n dX8_tonight_69 rfl ?_
        obtain ⟨v21, M22, c20, h⟩ := z_bi_c h
        refine z_cV (av := [.int x1]) (st := [.ref 107, .int x1, .int x5, .ref 107]) lk_X8_307 dX8_tonight_70 (A_X8_trunksAt_107 (d := d + 10) hl c20) rfl rfl en_107 rfl (Nat.le_of_ble_eq_true rfl) rfl z_len rfl rfl ?_
        obtain ⟨v24, M25, c23, h⟩ := z_bi_c h
        refine z_cV (av := [.int v21]) (st := [.int x1, .int x5, .ref 107]) lk_X8_310 dX8_tonight_73 (A_X8_thingsOf_107 (d := d + 10) hl c23) rfl rfl en_107 rfl (Nat.le_of_ble_eq_true rfl) rfl z_len rfl rfl ?_
        obtain ⟨v27, M28, c26, h⟩ := z_bi_c h
        refine z_cV (av := [.int x5, .int x1, .int v24]) (st := []) lk_X8_359 dX8_tonight_76 (A_X8_priceOf_107 (d := d + 0) hl c26) rfl rfl en_107 rfl (Nat.le_of_ble_eq_true rfl) rfl z_len rfl rfl ?_
        refine z_goto (tgt := 83) dX8_tonight_79 rfl ?_
        exact A_X8_tonight_107_p83 hl ih x1 x2 x3 x4 x5 v27 _ _ _ h
theorem A_X8_tonight_107 {l : Launch} (hl : l.stackTraces = false) {Ls d : Nat} {Lm : zML} {x1 : Int32} {x2 : Int32} {M M' : zMM} {v : Int32} (h : f_X8_tonight_107 x1 x2 M = some (v, M')) : z_Ct l mX8_tonight (d + 11) 0 0 [.ref 107, .int x1, .int x2] (z_L0 Ls, M, Lm) (.inl (some (.int v))) (z_L0 Ls, M', Lm) := by
  replace h : (  z_bi (f_X8_isTown_107 x1 (z_up M 107 1 (0 : Int32))) fun v2 M3 =>
  if v2 = 0 then
    z_bi (f_X8_fail_107 (1 : Int32) M3) fun v6 M7 =>
    some (v6, M7)
  else
    if x2 < 0 then
      z_bi (f_X8_fail_107 (1 : Int32) M3) fun v10 M11 =>
      some (v10, M11)
    else
      if x2 ≤ (1 : Int32) then
        f_X8_tonight_107_p36 z_fuel x1 x2 (-1 : Int32) (-1 : Int32) (0 : Int32) M3
      else
        z_bi (f_X8_fail_107 (1 : Int32) M3) fun v30 M31 =>
        some (v30, M31)) = some (v, M') := h
  refine z_Ct.of hl (by decide) (Nat.le_of_ble_eq_true rfl) rfl ?_
  show z_AW l mX8_tonight (d + 11) 0 0 0 [.ref 107, .int x1, .int x2, .null, .null, .null, .null] [] (z_L0 Ls, M, Lm) (.inl (some (.int v))) (z_L0 Ls, M', Lm)
  refine z_aload_n dX8_tonight_0 rfl ?_
  refine z_ic kc_p0 dX8_tonight_1 ?_
  refine z_pI fp_X8_149 dX8_tonight_2 (by decide) en_107 rfl ?_
  refine z_aload_n dX8_tonight_5 rfl ?_
  refine z_iload_n dX8_tonight_6 rfl ?_
  obtain ⟨v2, M3, c1, h⟩ := z_bi_c h
  refine z_cV (av := [.int x1]) (st := []) lk_X8_304 dX8_tonight_7 (A_X8_isTown_107 (d := d + 9) hl c1) rfl rfl en_107 rfl (Nat.le_of_ble_eq_true rfl) rfl z_len rfl rfl ?_
  refine z_if_eq (tgt := 22) dX8_tonight_10 rfl (fun g4 => ?_) (fun g4 => ?_)
  · replace h := (if_pos g4).symm.trans h
    refine z_aload_n dX8_tonight_22 rfl ?_
    refine z_ic kc_p1 dX8_tonight_23 ?_
    obtain ⟨v6, M7, c5, h⟩ := z_bi_c h
    refine z_cV (av := [.int (1 : Int32)]) (st := []) lk_X8_268 dX8_tonight_24 (A_X8_fail_107 (d := d + 10) hl c5) rfl rfl en_107 rfl (Nat.le_of_ble_eq_true rfl) rfl z_len rfl rfl ?_
    cases h
    exact z_rI dX8_tonight_27 rfl
  · replace h := (if_neg g4).symm.trans h
    refine z_iload_n dX8_tonight_13 rfl ?_
    refine z_if_lt (tgt := 22) dX8_tonight_14 rfl (fun g8 => ?_) (fun g8 => ?_)
    · replace h := (if_pos g8).symm.trans h
      refine z_aload_n dX8_tonight_22 rfl ?_
      refine z_ic kc_p1 dX8_tonight_23 ?_
      obtain ⟨v10, M11, c9, h⟩ := z_bi_c h
      refine z_cV (av := [.int (1 : Int32)]) (st := []) lk_X8_268 dX8_tonight_24 (A_X8_fail_107 (d := d + 10) hl c9) rfl rfl en_107 rfl (Nat.le_of_ble_eq_true rfl) rfl z_len rfl rfl ?_
      cases h
      exact z_rI dX8_tonight_27 rfl
    · replace h := (if_neg g8).symm.trans h
      refine z_iload_n dX8_tonight_17 rfl ?_
      refine z_ic kc_p1 dX8_tonight_18 ?_
      refine z_icmp_le (tgt := 28) dX8_tonight_19 rfl (fun g12 => ?_) (fun g12 => ?_)
      · replace h := (if_pos g12).symm.trans h
        refine z_ic kc_m1 dX8_tonight_28 ?_
        refine z_istore_n (ls' := [.ref 107, .int x1, .int x2, .int (-1 : Int32), .null, .null, .null]) dX8_tonight_29 (by decide) rfl ?_
        refine z_ic kc_m1 dX8_tonight_30 ?_
        refine z_istore (ls' := [.ref 107, .int x1, .int x2, .int (-1 : Int32), .int (-1 : Int32), .null, .null]) dX8_tonight_31 (by decide) rfl ?_
        refine z_ic kc_p0 dX8_tonight_33 ?_
        refine z_istore (ls' := [.ref 107, .int x1, .int x2, .int (-1 : Int32), .int (-1 : Int32), .int (0 : Int32), .null]) dX8_tonight_34 (by decide) rfl ?_
        exact A_X8_tonight_107_p36 hl z_fuel x1 x2 (-1 : Int32) (-1 : Int32) (0 : Int32) _ _ _ h
      · replace h := (if_neg g12).symm.trans h
        refine z_aload_n dX8_tonight_22 rfl ?_
        refine z_ic kc_p1 dX8_tonight_23 ?_
        obtain ⟨v30, M31, c29, h⟩ := z_bi_c h
        refine z_cV (av := [.int (1 : Int32)]) (st := []) lk_X8_268 dX8_tonight_24 (A_X8_fail_107 (d := d + 10) hl c29) rfl rfl en_107 rfl (Nat.le_of_ble_eq_true rfl) rfl z_len rfl rfl ?_
        cases h
        exact z_rI dX8_tonight_27 rfl
/-! X8_tour 107 -/
def f_X8_tour_107_p23 : Nat → Int32 → Int32 → zMM → Option (Int32 × zMM)
  | 0, _, _, _ => none
  | n + 1, x1, x2, M =>
  if (5 : Int32) ≤ x2 then
    some (x1, M)
  else
    if z_ib x2 5 = true then
      if z_ib x2 5 = true then
        f_X8_tour_107_p23 n x1 (x2 + (1 : Int32)) (z_up M 142 x2.toNatClampNeg (M 141 x2.toNatClampNeg))
      else none
    else none
def f_X8_tour_107  (M : zMM) : Option (Int32 × zMM) :=
  z_bi (f_X8_tourWithout_107 (-1 : Int32) (z_up M 107 1 (0 : Int32))) fun v2 M3 =>
  if v2 = (-1 : Int32) then
    some (v2, M3)
  else
    f_X8_tour_107_p23 z_fuel v2 (0 : Int32) (z_up M3 107 53 (1 : Int32))
theorem A_X8_tour_107_p23 {l : Launch} (hl : l.stackTraces = false) {Ls d : Nat} {Lm : zML} :
    ∀ (n : Nat) (x1 : Int32) (x2 : Int32) (M M' : zMM) (v : Int32) , f_X8_tour_107_p23 n x1 x2 M = some (v, M') → z_AW l mX8_tour (d + 12) 0 0 23 [.ref 107, .int x1, .int x2] [] (z_L0 Ls, M, Lm) (.inl (some (.int v))) (z_L0 Ls, M', Lm) := by
  intro n
  induction n with
  | zero => intro x1 x2 M M' v h; cases h
  | succ n ih =>
    intro x1 x2 M M' v h
    replace h : (  if (5 : Int32) ≤ x2 then
    some (x1, M)
  else
    if z_ib x2 5 = true then
      if z_ib x2 5 = true then
        f_X8_tour_107_p23 n x1 (x2 + (1 : Int32)) (z_up M 142 x2.toNatClampNeg (M 141 x2.toNatClampNeg))
      else none
    else none) = some (v, M') := h
    refine z_iload_n dX8_tour_23 rfl ?_
    refine z_ic kc_p5 dX8_tour_24 ?_
    refine z_icmp_ge (tgt := 46) dX8_tour_25 rfl (fun g5 => ?_) (fun g5 => ?_)
    · replace h := (if_pos g5).symm.trans h
      refine z_iload_n dX8_tour_46 rfl ?_
      cases h
      exact z_rI dX8_tour_47 rfl
    · replace h := (if_neg g5).symm.trans h
      refine z_aload_n dX8_tour_28 rfl ?_
      refine z_getR (q := 142) fl_X8_128 dX8_tour_29 en_107 rfl ?_
      refine z_iload_n dX8_tour_32 rfl ?_
      refine z_aload_n dX8_tour_33 rfl ?_
      refine z_getR (q := 141) fl_X8_125 dX8_tour_34 en_107 rfl ?_
      refine z_iload_n dX8_tour_37 rfl ?_
      obtain ⟨g6, h⟩ := z_ifn h
      refine z_al (v := (M 141 x2.toNatClampNeg)) dX8_tour_38 en_141 rfl (z_ib_in g6) rfl ?_
      obtain ⟨g7, h⟩ := z_ifn h
      refine z_as dX8_tour_39 (by decide) en_142 rfl (z_ib_in g7) ?_
      refine z_ii (ls' := [.ref 107, .int x1, .int (x2 + (1 : Int32))]) kc_p1 dX8_tour_40 rfl (by decide) rfl ?_
      refine z_goto (tgt := 23) dX8_tour_43 rfl ?_
      exact ih x1 (x2 + (1 : Int32)) _ _ _ h
theorem A_X8_tour_107 {l : Launch} (hl : l.stackTraces = false) {Ls d : Nat} {Lm : zML}  {M M' : zMM} {v : Int32} (h : f_X8_tour_107  M = some (v, M')) : z_Ct l mX8_tour (d + 12) 0 0 [.ref 107] (z_L0 Ls, M, Lm) (.inl (some (.int v))) (z_L0 Ls, M', Lm) := by
  replace h : (  z_bi (f_X8_tourWithout_107 (-1 : Int32) (z_up M 107 1 (0 : Int32))) fun v2 M3 =>
  if v2 = (-1 : Int32) then
    some (v2, M3)
  else
    f_X8_tour_107_p23 z_fuel v2 (0 : Int32) (z_up M3 107 53 (1 : Int32))) = some (v, M') := h
  refine z_Ct.of hl (by decide) (Nat.le_of_ble_eq_true rfl) rfl ?_
  show z_AW l mX8_tour (d + 12) 0 0 0 [.ref 107, .null, .null] [] (z_L0 Ls, M, Lm) (.inl (some (.int v))) (z_L0 Ls, M', Lm)
  refine z_aload_n dX8_tour_0 rfl ?_
  refine z_ic kc_p0 dX8_tour_1 ?_
  refine z_pI fp_X8_149 dX8_tour_2 (by decide) en_107 rfl ?_
  refine z_aload_n dX8_tour_5 rfl ?_
  refine z_ic kc_m1 dX8_tour_6 ?_
  obtain ⟨v2, M3, c1, h⟩ := z_bi_c h
  refine z_cV (av := [.int (-1 : Int32)]) (st := []) lk_X8_385 dX8_tour_7 (A_X8_tourWithout_107 (d := d + 0) hl c1) rfl rfl en_107 rfl (Nat.le_of_ble_eq_true rfl) rfl z_len rfl rfl ?_
  refine z_istore_n (ls' := [.ref 107, .int v2, .null]) dX8_tour_10 (by decide) rfl ?_
  refine z_iload_n dX8_tour_11 rfl ?_
  refine z_ic kc_m1 dX8_tour_12 ?_
  refine z_icmp_eq (tgt := 46) dX8_tour_13 rfl (fun g4 => ?_) (fun g4 => ?_)
  · replace h := (if_pos g4).symm.trans h
    refine z_iload_n dX8_tour_46 rfl ?_
    cases h
    exact z_rI dX8_tour_47 rfl
  · replace h := (if_neg g4).symm.trans h
    refine z_aload_n dX8_tour_16 rfl ?_
    refine z_ic kc_p1 dX8_tour_17 ?_
    refine z_pZ fp_X8_295 dX8_tour_18 (by decide) en_107 rfl rfl ?_
    refine z_ic kc_p0 dX8_tour_21 ?_
    refine z_istore_n (ls' := [.ref 107, .int v2, .int (0 : Int32)]) dX8_tour_22 (by decide) rfl ?_
    exact A_X8_tour_107_p23 hl z_fuel v2 (0 : Int32) _ _ _ h
