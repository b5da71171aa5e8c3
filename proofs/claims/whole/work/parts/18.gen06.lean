/-! X8_image 107 -/
def f_X8_image_107  (M : zMM) : Option zMM :=
  if z_zb (M 107 33) = true then
    z_bv (some (z_cp (z_up (z_up (z_up (z_up (z_up (z_up M 107 1 (0 : Int32)) 107 54 (1 : Int32)) 107 55 (M 107 33)) 107 56 (M 107 29)) 107 57 (M 107 30)) 107 58 (M 107 32)) 124 143 5)) fun M3 =>
    z_bv (some (z_cp M3 125 144 5)) fun M5 =>
    z_bv (some (z_cp M5 136 145 4)) fun M7 =>
    z_bv (some (z_cp M7 137 146 4)) fun M9 =>
    z_bv (some (z_cp M9 138 147 4)) fun M11 =>
    z_bv (some (z_cp M11 122 148 3)) fun M13 =>
    some M13
  else none
theorem A_X8_image_107 {l : Launch} (hl : l.stackTraces = false) {Ls d : Nat} {Lm : zML}  {M M' : zMM} (h : f_X8_image_107  M = some M') : z_Ct l mX8_image (d + 1) 0 0 [.ref 107] (z_L0 Ls, M, Lm) (.inl none) (z_L0 Ls, M', Lm) := by
  replace h : (  if z_zb (M 107 33) = true then
    z_bv (some (z_cp (z_up (z_up (z_up (z_up (z_up (z_up M 107 1 (0 : Int32)) 107 54 (1 : Int32)) 107 55 (M 107 33)) 107 56 (M 107 29)) 107 57 (M 107 30)) 107 58 (M 107 32)) 124 143 5)) fun M3 =>
    z_bv (some (z_cp M3 125 144 5)) fun M5 =>
    z_bv (some (z_cp M5 136 145 4)) fun M7 =>
    z_bv (some (z_cp M7 137 146 4)) fun M9 =>
    z_bv (some (z_cp M9 138 147 4)) fun M11 =>
    z_bv (some (z_cp M11 122 148 3)) fun M13 =>
    some M13
  else none) = some M' := h
  refine z_Ct.of hl (by decide) (Nat.le_of_ble_eq_true rfl) rfl ?_
  show z_AW l mX8_image (d + 1) 0 0 0 [.ref 107] [] (z_L0 Ls, M, Lm) (.inl none) (z_L0 Ls, M', Lm)
  refine z_aload_n dX8_image_0 rfl ?_
  refine z_ic kc_p0 dX8_image_1 ?_
  refine z_pI fp_X8_149 dX8_image_2 (by decide) en_107 rfl ?_
  refine z_aload_n dX8_image_5 rfl ?_
  refine z_ic kc_p1 dX8_image_6 ?_
  refine z_pZ fp_X8_298 dX8_image_7 (by decide) en_107 rfl rfl ?_
  refine z_aload_n dX8_image_10 rfl ?_
  refine z_aload_n dX8_image_11 rfl ?_
  refine z_gI (v := (M 107 33)) fl_X8_285 dX8_image_12 en_107 rfl rfl ?_
  obtain ⟨g1, h⟩ := z_ifn h
  refine z_pZ fp_X8_391 dX8_image_15 (by decide) en_107 rfl g1 ?_
  refine z_aload_n dX8_image_18 rfl ?_
  refine z_aload_n dX8_image_19 rfl ?_
  refine z_gI (v := (M 107 29)) fl_X8_282 dX8_image_20 en_107 rfl rfl ?_
  refine z_pI fp_X8_394 dX8_image_23 (by decide) en_107 rfl ?_
  refine z_aload_n dX8_image_26 rfl ?_
  refine z_aload_n dX8_image_27 rfl ?_
  refine z_gI (v := (M 107 30)) fl_X8_362 dX8_image_28 en_107 rfl rfl ?_
  refine z_pI fp_X8_397 dX8_image_31 (by decide) en_107 rfl ?_
  refine z_aload_n dX8_image_34 rfl ?_
  refine z_aload_n dX8_image_35 rfl ?_
  refine z_gI (v := (M 107 32)) fl_X8_292 dX8_image_36 en_107 rfl rfl ?_
  refine z_pI fp_X8_400 dX8_image_39 (by decide) en_107 rfl ?_
  refine z_aload_n dX8_image_42 rfl ?_
  refine z_getR (q := 143) fl_X8_131 dX8_image_43 en_107 rfl ?_
  refine z_aload_n dX8_image_46 rfl ?_
  refine z_getR (q := 124) fl_X8_73 dX8_image_47 en_107 rfl ?_
  obtain ⟨M3, c2, h⟩ := z_bv_c h
  refine z_cS (av := [.ref 143, .ref 124]) (st := []) lk_X8_403 dX8_image_50 (z_Ct.to (A_X8_be (d := d + 0) hl (by decide) (by decide) (by decide) (by decide) en_143 en_124) c2) rfl rfl (Nat.le_of_ble_eq_true rfl) rfl z_len rfl rfl ?_
  refine z_aload_n dX8_image_53 rfl ?_
  refine z_getR (q := 144) fl_X8_134 dX8_image_54 en_107 rfl ?_
  refine z_aload_n dX8_image_57 rfl ?_
  refine z_getR (q := 125) fl_X8_76 dX8_image_58 en_107 rfl ?_
  obtain ⟨M5, c4, h⟩ := z_bv_c h
  refine z_cS (av := [.ref 144, .ref 125]) (st := []) lk_X8_403 dX8_image_61 (z_Ct.to (A_X8_be (d := d + 0) hl (by decide) (by decide) (by decide) (by decide) en_144 en_125) c4) rfl rfl (Nat.le_of_ble_eq_true rfl) rfl z_len rfl rfl ?_
  refine z_aload_n dX8_image_64 rfl ?_
  refine z_getR (q := 145) fl_X8_137 dX8_image_65 en_107 rfl ?_
  refine z_aload_n dX8_image_68 rfl ?_
  refine z_getR (q := 136) fl_X8_110 dX8_image_69 en_107 rfl ?_
  obtain ⟨M7, c6, h⟩ := z_bv_c h
  refine z_cS (av := [.ref 145, .ref 136]) (st := []) lk_X8_403 dX8_image_72 (z_Ct.to (A_X8_be (d := d + 0) hl (by decide) (by decide) (by decide) (by decide) en_145 en_136) c6) rfl rfl (Nat.le_of_ble_eq_true rfl) rfl z_len rfl rfl ?_
  refine z_aload_n dX8_image_75 rfl ?_
  refine z_getR (q := 146) fl_X8_140 dX8_image_76 en_107 rfl ?_
  refine z_aload_n dX8_image_79 rfl ?_
  refine z_getR (q := 137) fl_X8_113 dX8_image_80 en_107 rfl ?_
  obtain ⟨M9, c8, h⟩ := z_bv_c h
  refine z_cS (av := [.ref 146, .ref 137]) (st := []) lk_X8_403 dX8_image_83 (z_Ct.to (A_X8_be (d := d + 0) hl (by decide) (by decide) (by decide) (by decide) en_146 en_137) c8) rfl rfl (Nat.le_of_ble_eq_true rfl) rfl z_len rfl rfl ?_
  refine z_aload_n dX8_image_86 rfl ?_
  refine z_getR (q := 147) fl_X8_143 dX8_image_87 en_107 rfl ?_
  refine z_aload_n dX8_image_90 rfl ?_
  refine z_getR (q := 138) fl_X8_116 dX8_image_91 en_107 rfl ?_
  obtain ⟨M11, c10, h⟩ := z_bv_c h
  refine z_cS (av := [.ref 147, .ref 138]) (st := []) lk_X8_403 dX8_image_94 (z_Ct.to (A_X8_be (d := d + 0) hl (by decide) (by decide) (by decide) (by decide) en_147 en_138) c10) rfl rfl (Nat.le_of_ble_eq_true rfl) rfl z_len rfl rfl ?_
  refine z_aload_n dX8_image_97 rfl ?_
  refine z_getR (q := 148) fl_X8_146 dX8_image_98 en_107 rfl ?_
  refine z_aload_n dX8_image_101 rfl ?_
  refine z_getR (q := 122) fl_X8_63 dX8_image_102 en_107 rfl ?_
  obtain ⟨M13, c12, h⟩ := z_bv_c h
  refine z_cS (av := [.ref 148, .ref 122]) (st := []) lk_X8_403 dX8_image_105 (z_Ct.to (A_X8_be (d := d + 0) hl (by decide) (by decide) (by decide) (by decide) en_148 en_122) c12) rfl rfl (Nat.le_of_ble_eq_true rfl) rfl z_len rfl rfl ?_
  cases h
  exact z_return dX8_image_108 rfl
/-! X8_elsewhere 107 -/
def f_X8_elsewhere_107_p2 : Nat → Int32 → Int32 → Int32 → zMM → Option (Int32 × zMM)
  | 0, _, _, _, _ => none
  | n + 1, x1, x2, x3, M =>
  if (5 : Int32) ≤ x3 then
    some ((-1 : Int32), M)
  else
    if x3 = x2 then
      f_X8_elsewhere_107_p2 n x1 x2 (x3 + (1 : Int32)) M
    else
      if z_ib (((5 : Int32) * x1) + x3) 50 = true then
        if (M 114 (((5 : Int32) * x1) + x3).toNatClampNeg) ≤ 0 then
          f_X8_elsewhere_107_p2 n x1 x2 (x3 + (1 : Int32)) M
        else
          some (x3, M)
      else none
def f_X8_elsewhere_107 (x1 : Int32) (x2 : Int32) (M : zMM) : Option (Int32 × zMM) :=
  f_X8_elsewhere_107_p2 z_fuel x1 x2 (0 : Int32) M
theorem A_X8_elsewhere_107_p2 {l : Launch} (hl : l.stackTraces = false) {Ls d : Nat} {Lm : zML} :
    ∀ (n : Nat) (x1 : Int32) (x2 : Int32) (x3 : Int32) (M M' : zMM) (v : Int32) , f_X8_elsewhere_107_p2 n x1 x2 x3 M = some (v, M') → z_AW l mX8_elsewhere (d + 0) 0 0 2 [.ref 107, .int x1, .int x2, .int x3] [] (z_L0 Ls, M, Lm) (.inl (some (.int v))) (z_L0 Ls, M', Lm) := by
  intro n
  induction n with
  | zero => intro x1 x2 x3 M M' v h; cases h
  | succ n ih =>
    intro x1 x2 x3 M M' v h
    replace h : (  if (5 : Int32) ≤ x3 then
    some ((-1 : Int32), M)
  else
    if x3 = x2 then
      f_X8_elsewhere_107_p2 n x1 x2 (x3 + (1 : Int32)) M
    else
      if z_ib (((5 : Int32) * x1) + x3) 50 = true then
        if (M 114 (((5 : Int32) * x1) + x3).toNatClampNeg) ≤ 0 then
          f_X8_elsewhere_107_p2 n x1 x2 (x3 + (1 : Int32)) M
        else
          some (x3, M)
      else none) = some (v, M') := h
    refine z_iload_n dX8_elsewhere_2 rfl ?_
    refine z_ic kc_p5 dX8_elsewhere_3 ?_
    refine z_icmp_ge (tgt := 33) dX8_elsewhere_4 rfl (fun g1 => ?_) (fun g1 => ?_)
    · replace h := (if_pos g1).symm.trans h
      refine z_ic kc_m1 dX8_elsewhere_33 ?_
      cases h
      exact z_rI dX8_elsewhere_34 rfl
    · replace h := (if_neg g1).symm.trans h
      refine z_iload_n dX8_elsewhere_7 rfl ?_
      refine z_iload_n dX8_elsewhere_8 rfl ?_
      refine z_icmp_eq (tgt := 27) dX8_elsewhere_9 rfl (fun g2 => ?_) (fun g2 => ?_)
      · replace h := (if_pos g2).symm.trans h
        refine z_ii (ls' := [.ref 107, .int x1, .int x2, .int (x3 + (1 : Int32))]) kc_p1 dX8_elsewhere_27 rfl (by decide) rfl ?_
        refine z_goto (tgt := 2) dX8_elsewhere_30 rfl ?_
        exact ih x1 x2 (x3 + (1 : Int32)) _ _ _ h
      · replace h := (if_neg g2).symm.trans h
        refine z_aload_n dX8_elsewhere_12 rfl ?_
        refine z_getR (q := 114) fl_X8_39 dX8_elsewhere_13 en_107 rfl ?_
        refine z_ic kc_p5 dX8_elsewhere_16 ?_
        refine z_iload_n dX8_elsewhere_17 rfl ?_
        refine z_imul dX8_elsewhere_18 ?_
        refine z_iload_n dX8_elsewhere_19 rfl ?_
        refine z_iadd dX8_elsewhere_20 ?_
        obtain ⟨g3, h⟩ := z_ifn h
        refine z_al (v := (M 114 (((5 : Int32) * x1) + x3).toNatClampNeg)) dX8_elsewhere_21 en_114 rfl (z_ib_in g3) rfl ?_
        refine z_if_le (tgt := 27) dX8_elsewhere_22 rfl (fun g4 => ?_) (fun g4 => ?_)
        · replace h := (if_pos g4).symm.trans h
          refine z_ii (ls' := [.ref 107, .int x1, .int x2, .int (x3 + (1 : Int32))]) kc_p1 dX8_elsewhere_27 rfl (by decide) rfl ?_
          refine z_goto (tgt := 2) dX8_elsewhere_30 rfl ?_
          exact ih x1 x2 (x3 + (1 : Int32)) _ _ _ h
        · replace h := (if_neg g4).symm.trans h
          refine z_iload_n dX8_elsewhere_25 rfl ?_
          cases h
          exact z_rI dX8_elsewhere_26 rfl
theorem A_X8_elsewhere_107 {l : Launch} (hl : l.stackTraces = false) {Ls d : Nat} {Lm : zML} {x1 : Int32} {x2 : Int32} {M M' : zMM} {v : Int32} (h : f_X8_elsewhere_107 x1 x2 M = some (v, M')) : z_Ct l mX8_elsewhere (d + 0) 0 0 [.ref 107, .int x1, .int x2] (z_L0 Ls, M, Lm) (.inl (some (.int v))) (z_L0 Ls, M', Lm) := by
  replace h : (  f_X8_elsewhere_107_p2 z_fuel x1 x2 (0 : Int32) M) = some (v, M') := h
  refine z_Ct.of hl (by decide) (Nat.le_of_ble_eq_true rfl) rfl ?_
  show z_AW l mX8_elsewhere (d + 0) 0 0 0 [.ref 107, .int x1, .int x2, .null] [] (z_L0 Ls, M, Lm) (.inl (some (.int v))) (z_L0 Ls, M', Lm)
  refine z_ic kc_p0 dX8_elsewhere_0 ?_
  refine z_istore_n (ls' := [.ref 107, .int x1, .int x2, .int (0 : Int32)]) dX8_elsewhere_1 (by decide) rfl ?_
  exact A_X8_elsewhere_107_p2 hl z_fuel x1 x2 (0 : Int32) _ _ _ h
/-! X8_slipOf 107 -/
def f_X8_slipOf_107_p44 (x1 : Int32) (a0 : Int32) (M : zMM) : Option (Int32 × zMM) :=
  if a0 = 0 then
    some ((0 : Int32), M)
  else
    if z_ib x1 10 = true then
      some ((M 111 x1.toNatClampNeg), M)
    else none
def f_X8_slipOf_107_p39 (x1 : Int32) (M : zMM) : Option (Int32 × zMM) :=
  f_X8_slipOf_107_p44 x1 (1 : Int32) M
def f_X8_slipOf_107_p43 (x1 : Int32) (M : zMM) : Option (Int32 × zMM) :=
  f_X8_slipOf_107_p44 x1 (0 : Int32) M
def f_X8_slipOf_107 (x1 : Int32) (x2 : Int32) (M : zMM) : Option (Int32 × zMM) :=
  if z_ib x1 10 = true then
    if (M 110 x1.toNatClampNeg) = (3 : Int32) then
      f_X8_slipOf_107_p39 x1 M
    else
      if z_ib x1 10 = true then
        if (M 110 x1.toNatClampNeg) = (1 : Int32) then
          if z_ib (((5 : Int32) * x1) + x2) 25 = true then
            z_bi (f_X8_elsewhere_107 x1 (M 127 (((5 : Int32) * x1) + x2).toNatClampNeg) M) fun v9 M10 =>
            if v9 = (-1 : Int32) then
              f_X8_slipOf_107_p43 x1 M10
            else
              f_X8_slipOf_107_p39 x1 M10
          else none
        else
          f_X8_slipOf_107_p43 x1 M
      else none
  else none
theorem A_X8_slipOf_107_p44 {l : Launch} (hl : l.stackTraces = false) {Ls d : Nat} {Lm : zML} :
    ∀ (x1 : Int32) (a0 : Int32) (M M' : zMM) (v : Int32) , f_X8_slipOf_107_p44 x1 a0 M = some (v, M') → z_AW l mX8_slipOf (d + 1) 0 0 44 [.ref 107, .int x1, .null, .null] [.int a0] (z_L0 Ls, M, Lm) (.inl (some (.int v))) (z_L0 Ls, M', Lm) := by
  intro x1 a0 M M' v h
  replace h : (  if a0 = 0 then
    some ((0 : Int32), M)
  else
    if z_ib x1 10 = true then
      some ((M 111 x1.toNatClampNeg), M)
    else none) = some (v, M') := h
  refine z_istore_n (ls' := [.ref 107, .int x1, .null, .int a0]) dX8_slipOf_44 (by decide) rfl ?_
  refine z_iload_n dX8_slipOf_45 rfl ?_
  refine z_if_eq (tgt := 58) dX8_slipOf_46 rfl (fun g3 => ?_) (fun g3 => ?_)
  · replace h := (if_pos g3).symm.trans h
    refine z_ic kc_p0 dX8_slipOf_58 ?_
    cases h
    exact z_rI dX8_slipOf_59 rfl
  · replace h := (if_neg g3).symm.trans h
    refine z_aload_n dX8_slipOf_49 rfl ?_
    refine z_getR (q := 111) fl_X8_30 dX8_slipOf_50 en_107 rfl ?_
    refine z_iload_n dX8_slipOf_53 rfl ?_
    obtain ⟨g4, h⟩ := z_ifn h
    refine z_al (v := (M 111 x1.toNatClampNeg)) dX8_slipOf_54 en_111 rfl (z_ib_in g4) rfl ?_
    refine z_goto (tgt := 59) dX8_slipOf_55 rfl ?_
    cases h
    exact z_rI dX8_slipOf_59 rfl
theorem A_X8_slipOf_107_p39 {l : Launch} (hl : l.stackTraces = false) {Ls d : Nat} {Lm : zML} :
    ∀ (x1 : Int32) (M M' : zMM) (v : Int32) , f_X8_slipOf_107_p39 x1 M = some (v, M') → z_AW l mX8_slipOf (d + 1) 0 0 39 [.ref 107, .int x1, .null, .null] [] (z_L0 Ls, M, Lm) (.inl (some (.int v))) (z_L0 Ls, M', Lm) := by
  intro x1 M M' v h
  replace h : (  f_X8_slipOf_107_p44 x1 (1 : Int32) M) = some (v, M') := h
  refine z_ic kc_p1 dX8_slipOf_39 ?_
  refine z_goto (tgt := 44) dX8_slipOf_40 rfl ?_
  exact A_X8_slipOf_107_p44 hl x1 (1 : Int32) _ _ _ h
theorem A_X8_slipOf_107_p43 {l : Launch} (hl : l.stackTraces = false) {Ls d : Nat} {Lm : zML} :
    ∀ (x1 : Int32) (M M' : zMM) (v : Int32) , f_X8_slipOf_107_p43 x1 M = some (v, M') → z_AW l mX8_slipOf (d + 1) 0 0 43 [.ref 107, .int x1, .null, .null] [] (z_L0 Ls, M, Lm) (.inl (some (.int v))) (z_L0 Ls, M', Lm) := by
  intro x1 M M' v h
  replace h : (  f_X8_slipOf_107_p44 x1 (0 : Int32) M) = some (v, M') := h
  refine z_ic kc_p0 dX8_slipOf_43 ?_
  exact A_X8_slipOf_107_p44 hl x1 (0 : Int32) _ _ _ h
theorem A_X8_slipOf_107 {l : Launch} (hl : l.stackTraces = false) {Ls d : Nat} {Lm : zML} {x1 : Int32} {x2 : Int32} {M M' : zMM} {v : Int32} (h : f_X8_slipOf_107 x1 x2 M = some (v, M')) : z_Ct l mX8_slipOf (d + 1) 0 0 [.ref 107, .int x1, .int x2] (z_L0 Ls, M, Lm) (.inl (some (.int v))) (z_L0 Ls, M', Lm) := by
  replace h : (  if z_ib x1 10 = true then
    if (M 110 x1.toNatClampNeg) = (3 : Int32) then
      f_X8_slipOf_107_p39 x1 M
    else
      if z_ib x1 10 = true then
        if (M 110 x1.toNatClampNeg) = (1 : Int32) then
          if z_ib (((5 : Int32) * x1) + x2) 25 = true then
            z_bi (f_X8_elsewhere_107 x1 (M 127 (((5 : Int32) * x1) + x2).toNatClampNeg) M) fun v9 M10 =>
            if v9 = (-1 : Int32) then
              f_X8_slipOf_107_p43 x1 M10
            else
              f_X8_slipOf_107_p39 x1 M10
          else none
        else
          f_X8_slipOf_107_p43 x1 M
      else none
  else none) = some (v, M') := h
  refine z_Ct.of hl (by decide) (Nat.le_of_ble_eq_true rfl) rfl ?_
  show z_AW l mX8_slipOf (d + 1) 0 0 0 [.ref 107, .int x1, .int x2, .null] [] (z_L0 Ls, M, Lm) (.inl (some (.int v))) (z_L0 Ls, M', Lm)
  refine z_aload_n dX8_slipOf_0 rfl ?_
  refine z_getR (q := 110) fl_X8_27 dX8_slipOf_1 en_107 rfl ?_
  refine z_iload_n dX8_slipOf_4 rfl ?_
  obtain ⟨g1, h⟩ := z_ifn h
  refine z_al (v := (M 110 x1.toNatClampNeg)) dX8_slipOf_5 en_110 rfl (z_ib_in g1) rfl ?_
  refine z_ic kc_p3 dX8_slipOf_6 ?_
  refine z_icmp_eq (tgt := 39) dX8_slipOf_7 rfl (fun g2 => ?_) (fun g2 => ?_)
  · replace h := (if_pos g2).symm.trans h
    refine z_fg (ls' := [.ref 107, .int x1, .null, .null]) ⟨Or.inr rfl, Or.inr rfl, Or.inl rfl, Or.inl rfl, trivial⟩ ?_
    exact A_X8_slipOf_107_p39 hl x1 _ _ _ h
  · replace h := (if_neg g2).symm.trans h
    refine z_aload_n dX8_slipOf_10 rfl ?_
    refine z_getR (q := 110) fl_X8_27 dX8_slipOf_11 en_107 rfl ?_
    refine z_iload_n dX8_slipOf_14 rfl ?_
    obtain ⟨g5, h⟩ := z_ifn h
    refine z_al (v := (M 110 x1.toNatClampNeg)) dX8_slipOf_15 en_110 rfl (z_ib_in g5) rfl ?_
    refine z_ic kc_p1 dX8_slipOf_16 ?_
    refine z_icmp_ne (tgt := 43) dX8_slipOf_17 rfl (fun g6 => ?_) (fun g6 => ?_)
    · replace h := (if_pos g6).symm.trans h
      refine z_aload_n dX8_slipOf_20 rfl ?_
      refine z_iload_n dX8_slipOf_21 rfl ?_
      refine z_aload_n dX8_slipOf_22 rfl ?_
      refine z_getR (q := 127) fl_X8_82 dX8_slipOf_23 en_107 rfl ?_
      refine z_ic kc_p5 dX8_slipOf_26 ?_
      refine z_iload_n dX8_slipOf_27 rfl ?_
      refine z_imul dX8_slipOf_28 ?_
      refine z_iload_n dX8_slipOf_29 rfl ?_
      refine z_iadd dX8_slipOf_30 ?_
      obtain ⟨g7, h⟩ := z_ifn h
      refine z_al (v := (M 127 (((5 : Int32) * x1) + x2).toNatClampNeg)) dX8_slipOf_31 en_127 rfl (z_ib_in g7) rfl ?_
      obtain ⟨v9, M10, c8, h⟩ := z_bi_c h
      refine z_cV (av := [.int x1, .int (M 127 (((5 : Int32) * x1) + x2).toNatClampNeg)]) (st := []) lk_X8_330 dX8_slipOf_32 (A_X8_elsewhere_107 (d := d + 0) hl c8) rfl rfl en_107 rfl (Nat.le_of_ble_eq_true rfl) rfl z_len rfl rfl ?_
      refine z_ic kc_m1 dX8_slipOf_35 ?_
      refine z_icmp_eq (tgt := 43) dX8_slipOf_36 rfl (fun g11 => ?_) (fun g11 => ?_)
      · replace h := (if_pos g11).symm.trans h
        refine z_fg (ls' := [.ref 107, .int x1, .null, .null]) ⟨Or.inr rfl, Or.inr rfl, Or.inl rfl, Or.inl rfl, trivial⟩ ?_
        exact A_X8_slipOf_107_p43 hl x1 _ _ _ h
      · replace h := (if_neg g11).symm.trans h
        refine z_fg (ls' := [.ref 107, .int x1, .null, .null]) ⟨Or.inr rfl, Or.inr rfl, Or.inl rfl, Or.inl rfl, trivial⟩ ?_
        exact A_X8_slipOf_107_p39 hl x1 _ _ _ h
    · replace h := (if_neg g6).symm.trans h
      refine z_fg (ls' := [.ref 107, .int x1, .null, .null]) ⟨Or.inr rfl, Or.inr rfl, Or.inl rfl, Or.inl rfl, trivial⟩ ?_
      exact A_X8_slipOf_107_p43 hl x1 _ _ _ h
/-! X8_lostBy 107 -/
def f_X8_lostBy_107_p6 : Nat → Int32 → Int32 → Int32 → Int32 → Int64 → Int32 → zMM → Option (Int64 × zMM)
  | 0, _, _, _, _, _, _, _ => none
  | n + 1, x1, x2, x3, x4, y5, x7, M =>
  if x4 ≤ x7 then
    some (y5, M)
  else
    z_bi (f_X8_clerkAt_107 x1 x2 x7 M) fun v3 M4 =>
    z_bi (f_X8_slipOf_107 v3 x2 M4) fun v6 M7 =>
    if x3 ≤ x7 then
      if x7 = x3 then
        f_X8_lostBy_107_p6 n x1 x2 x3 x4 (y5 * v6.toInt64) (x7 + (1 : Int32)) M7
      else
        f_X8_lostBy_107_p6 n x1 x2 x3 x4 (y5 * (1000 : Int64)) (x7 + (1 : Int32)) M7
    else
      f_X8_lostBy_107_p6 n x1 x2 x3 x4 (y5 * ((1000 : Int32) - v6).toInt64) (x7 + (1 : Int32)) M7
def f_X8_lostBy_107 (x1 : Int32) (x2 : Int32) (x3 : Int32) (x4 : Int32) (M : zMM) : Option (Int64 × zMM) :=
  f_X8_lostBy_107_p6 z_fuel x1 x2 x3 x4 (1 : Int64) (0 : Int32) M
theorem A_X8_lostBy_107_p6 {l : Launch} (hl : l.stackTraces = false) {Ls d : Nat} {Lm : zML} :
    ∀ (n : Nat) (x1 : Int32) (x2 : Int32) (x3 : Int32) (x4 : Int32) (y5 : Int64) (x7 : Int32) (M M' : zMM) (v : Int64) , f_X8_lostBy_107_p6 n x1 x2 x3 x4 y5 x7 M = some (v, M') → z_AW l mX8_lostBy (d + 2) 0 0 6 [.ref 107, .int x1, .int x2, .int x3, .int x4, .long y5, .null, .int x7, .null] [] (z_L0 Ls, M, Lm) (.inl (some (.long v))) (z_L0 Ls, M', Lm) := by
  intro n
  induction n with
  | zero => intro x1 x2 x3 x4 y5 x7 M M' v h; cases h
  | succ n ih =>
    intro x1 x2 x3 x4 y5 x7 M M' v h
    replace h : (  if x4 ≤ x7 then
    some (y5, M)
  else
    z_bi (f_X8_clerkAt_107 x1 x2 x7 M) fun v3 M4 =>
    z_bi (f_X8_slipOf_107 v3 x2 M4) fun v6 M7 =>
    if x3 ≤ x7 then
      if x7 = x3 then
        f_X8_lostBy_107_p6 n x1 x2 x3 x4 (y5 * v6.toInt64) (x7 + (1 : Int32)) M7
      else
        f_X8_lostBy_107_p6 n x1 x2 x3 x4 (y5 * (1000 : Int64)) (x7 + (1 : Int32)) M7
    else
      f_X8_lostBy_107_p6 n x1 x2 x3 x4 (y5 * ((1000 : Int32) - v6).toInt64) (x7 + (1 : Int32)) M7) = some (v, M') := h
    refine z_iload dX8_lostBy_6 rfl ?_
    refine z_iload dX8_lostBy_8 rfl ?_
    refine z_icmp_ge (tgt := 70) dX8_lostBy_10 rfl (fun g1 => ?_) (fun g1 => ?_)
    · replace h := (if_pos g1).symm.trans h
      refine z_lload dX8_lostBy_70 rfl ?_
      cases h
      exact z_lreturn dX8_lostBy_72 rfl
    · replace h := (if_neg g1).symm.trans h
      refine z_aload_n dX8_lostBy_13 rfl ?_
      refine z_aload_n dX8_lostBy_14 rfl ?_
      refine z_iload_n dX8_lostBy_15 rfl ?_
      refine z_iload_n dX8_lostBy_16 rfl ?_
      refine z_iload dX8_lostBy_17 rfl ?_
      obtain ⟨v3, M4, c2, h⟩ := z_bi_c h
      refine z_cV (av := [.int x1, .int x2, .int x7]) (st := [.ref 107]) lk_X8_326 dX8_lostBy_19 (A_X8_clerkAt_107 (d := d + 1) hl c2) rfl rfl en_107 rfl (Nat.le_of_ble_eq_true rfl) rfl z_len rfl rfl ?_
      refine z_iload_n dX8_lostBy_22 rfl ?_
      obtain ⟨v6, M7, c5, h⟩ := z_bi_c h
      refine z_cV (av := [.int v3, .int x2]) (st := []) lk_X8_333 dX8_lostBy_23 (A_X8_slipOf_107 (d := d + 0) hl c5) rfl rfl en_107 rfl (Nat.le_of_ble_eq_true rfl) rfl z_len rfl rfl ?_
      refine z_istore (ls' := [.ref 107, .int x1, .int x2, .int x3, .int x4, .long y5, .null, .int x7, .int v6]) dX8_lostBy_26 (by decide) rfl ?_
      refine z_lload dX8_lostBy_28 rfl ?_
      refine z_iload dX8_lostBy_30 rfl ?_
      refine z_iload_n dX8_lostBy_32 rfl ?_
      refine z_icmp_ge (tgt := 46) dX8_lostBy_33 rfl (fun g8 => ?_) (fun g8 => ?_)
      · replace h := (if_pos g8).symm.trans h
        refine z_iload dX8_lostBy_46 rfl ?_
        refine z_iload_n dX8_lostBy_48 rfl ?_
        refine z_icmp_ne (tgt := 58) dX8_lostBy_49 rfl (fun g9 => ?_) (fun g9 => ?_)
        · replace h := (if_pos g9).symm.trans h
          refine z_iload dX8_lostBy_52 rfl ?_
          refine z_i2l dX8_lostBy_54 ?_
          refine z_goto (tgt := 61) dX8_lostBy_55 rfl ?_
          refine z_lmul dX8_lostBy_61 ?_
          refine z_lstore (ls' := [.ref 107, .int x1, .int x2, .int x3, .int x4, .long (y5 * v6.toInt64), .null, .int x7, .int v6]) dX8_lostBy_62 (by decide) rfl ?_
          refine z_ii (ls' := [.ref 107, .int x1, .int x2, .int x3, .int x4, .long (y5 * v6.toInt64), .null, .int (x7 + (1 : Int32)), .int v6]) kc_p1 dX8_lostBy_64 rfl (by decide) rfl ?_
          refine z_goto (tgt := 6) dX8_lostBy_67 rfl ?_
          refine z_fg (ls' := [.ref 107, .int x1, .int x2, .int x3, .int x4, .long (y5 * v6.toInt64), .null, .int (x7 + (1 : Int32)), .null]) ⟨Or.inr rfl, Or.inr rfl, Or.inr rfl, Or.inr rfl, Or.inr rfl, Or.inr rfl, Or.inl rfl, Or.inr rfl, Or.inl rfl, trivial⟩ ?_
          exact ih x1 x2 x3 x4 (y5 * v6.toInt64) (x7 + (1 : Int32)) _ _ _ h
        · replace h := (if_neg g9).symm.trans h
          refine z_ldc2 (v := 1000) kl_X8_336 dX8_lostBy_58 ?_
          refine z_lmul dX8_lostBy_61 ?_
          refine z_lstore (ls' := [.ref 107, .int x1, .int x2, .int x3, .int x4, .long (y5 * (1000 : Int64)), .null, .int x7, .int v6]) dX8_lostBy_62 (by decide) rfl ?_
          refine z_ii (ls' := [.ref 107, .int x1, .int x2, .int x3, .int x4, .long (y5 * (1000 : Int64)), .null, .int (x7 + (1 : Int32)), .int v6]) kc_p1 dX8_lostBy_64 rfl (by decide) rfl ?_
          refine z_goto (tgt := 6) dX8_lostBy_67 rfl ?_
          refine z_fg (ls' := [.ref 107, .int x1, .int x2, .int x3, .int x4, .long (y5 * (1000 : Int64)), .null, .int (x7 + (1 : Int32)), .null]) ⟨Or.inr rfl, Or.inr rfl, Or.inr rfl, Or.inr rfl, Or.inr rfl, Or.inr rfl, Or.inl rfl, Or.inr rfl, Or.inl rfl, trivial⟩ ?_
          exact ih x1 x2 x3 x4 (y5 * (1000 : Int64)) (x7 + (1 : Int32)) _ _ _ h
      · replace h := (if_neg g8).symm.trans h
        refine z_sp ks_p1000 dX8_lostBy_36 ?_
        refine z_iload dX8_lostBy_39 rfl ?_
        refine z_isub dX8_lostBy_41 ?_
        refine z_i2l dX8_lostBy_42 ?_
        refine z_goto (tgt := 61) dX8_lostBy_43 rfl ?_
        refine z_lmul dX8_lostBy_61 ?_
        refine z_lstore (ls' := [.ref 107, .int x1, .int x2, .int x3, .int x4, .long (y5 * ((1000 : Int32) - v6).toInt64), .null, .int x7, .int v6]) dX8_lostBy_62 (by decide) rfl ?_
        refine z_ii (ls' := [.ref 107, .int x1, .int x2, .int x3, .int x4, .long (y5 * ((1000 : Int32) - v6).toInt64), .null, .int (x7 + (1 : Int32)), .int v6]) kc_p1 dX8_lostBy_64 rfl (by decide) rfl ?_
        refine z_goto (tgt := 6) dX8_lostBy_67 rfl ?_
        refine z_fg (ls' := [.ref 107, .int x1, .int x2, .int x3, .int x4, .long (y5 * ((1000 : Int32) - v6).toInt64), .null, .int (x7 + (1 : Int32)), .null]) ⟨Or.inr rfl, Or.inr rfl, Or.inr rfl, Or.inr rfl, Or.inr rfl, Or.inr rfl, Or.inl rfl, Or.inr rfl, Or.inl rfl, trivial⟩ ?_
        exact ih x1 x2 x3 x4 (y5 * ((1000 : Int32) - v6).toInt64) (x7 + (1 : Int32)) _ _ _ h
theorem A_X8_lostBy_107 {l : Launch} (hl : l.stackTraces = false) {Ls d : Nat} {Lm : zML} {x1 : Int32} {x2 : Int32} {x3 : Int32} {x4 : Int32} {M M' : zMM} {v : Int64} (h : f_X8_lostBy_107 x1 x2 x3 x4 M = some (v, M')) : z_Ct l mX8_lostBy (d + 2) 0 0 [.ref 107, .int x1, .int x2, .int x3, .int x4] (z_L0 Ls, M, Lm) (.inl (some (.long v))) (z_L0 Ls, M', Lm) := by
  replace h : (  f_X8_lostBy_107_p6 z_fuel x1 x2 x3 x4 (1 : Int64) (0 : Int32) M) = some (v, M') := h
  refine z_Ct.of hl (by decide) (Nat.le_of_ble_eq_true rfl) rfl ?_
  show z_AW l mX8_lostBy (d + 2) 0 0 0 [.ref 107, .int x1, .int x2, .int x3, .int x4, .null, .null, .null, .null] [] (z_L0 Ls, M, Lm) (.inl (some (.long v))) (z_L0 Ls, M', Lm)
  refine z_lc kl_p1 dX8_lostBy_0 ?_
  refine z_lstore (ls' := [.ref 107, .int x1, .int x2, .int x3, .int x4, .long (1 : Int64), .null, .null, .null]) dX8_lostBy_1 (by decide) rfl ?_
  refine z_ic kc_p0 dX8_lostBy_3 ?_
  refine z_istore (ls' := [.ref 107, .int x1, .int x2, .int x3, .int x4, .long (1 : Int64), .null, .int (0 : Int32), .null]) dX8_lostBy_4 (by decide) rfl ?_
  exact A_X8_lostBy_107_p6 hl z_fuel x1 x2 x3 x4 (1 : Int64) (0 : Int32) _ _ _ h
/-! X8_common  -/
def f_X8_common_p6 : Nat → Int64 → Int64 → zMM → Option (Int64 × zMM)
  | 0, _, _, _ => none
  | n + 1, y4, y6, M =>
  if (lg_cmp y6 (0 : Int64)) = 0 then
    some (y4, M)
  else
    if ¬ y6 = 0 then
      f_X8_common_p6 n y6 (y4 - y4 / y6 * y6) M
    else none
def f_X8_common (y0 : Int64) (y2 : Int64) (M : zMM) : Option (Int64 × zMM) :=
  f_X8_common_p6 z_fuel y0 y2 M
theorem A_X8_common_p6 {l : Launch} (hl : l.stackTraces = false) {Ls d : Nat} {Lm : zML} :
    ∀ (n : Nat) (y4 : Int64) (y6 : Int64) (M M' : zMM) (v : Int64) , f_X8_common_p6 n y4 y6 M = some (v, M') → z_AW l mX8_common (d + 0) 0 0 6 [.null, .null, .null, .null, .long y4, .null, .long y6, .null, .null, .null] [] (z_L0 Ls, M, Lm) (.inl (some (.long v))) (z_L0 Ls, M', Lm) := by
  intro n
  induction n with
  | zero => intro y4 y6 M M' v h; cases h
  | succ n ih =>
    intro y4 y6 M M' v h
    replace h : (  if (lg_cmp y6 (0 : Int64)) = 0 then
    some (y4, M)
  else
    if ¬ y6 = 0 then
      f_X8_common_p6 n y6 (y4 - y4 / y6 * y6) M
    else none) = some (v, M') := h
    refine z_lload dX8_common_6 rfl ?_
    refine z_lc kl_p0 dX8_common_8 ?_
    refine z_lcmp dX8_common_9 ?_
    refine z_if_eq (tgt := 31) dX8_common_10 rfl (fun g1 => ?_) (fun g1 => ?_)
    · replace h := (if_pos g1).symm.trans h
      refine z_lload dX8_common_31 rfl ?_
      cases h
      exact z_lreturn dX8_common_33 rfl
    · replace h := (if_neg g1).symm.trans h
      refine z_lload dX8_common_13 rfl ?_
      refine z_lload dX8_common_15 rfl ?_
      obtain ⟨g2, h⟩ := z_ifn h
      refine z_lrem dX8_common_17 g2 ?_
      refine z_lstore (ls' := [.null, .null, .null, .null, .long y4, .null, .long y6, .null, .long (y4 - y4 / y6 * y6), .null]) dX8_common_18 (by decide) rfl ?_
      refine z_lload dX8_common_20 rfl ?_
      refine z_lstore (ls' := [.null, .null, .null, .null, .long y6, .null, .long y6, .null, .long (y4 - y4 / y6 * y6), .null]) dX8_common_22 (by decide) rfl ?_
      refine z_lload dX8_common_24 rfl ?_
      refine z_lstore (ls' := [.null, .null, .null, .null, .long y6, .null, .long (y4 - y4 / y6 * y6), .null, .long (y4 - y4 / y6 * y6), .null]) dX8_common_26 (by decide) rfl ?_
      refine z_goto (tgt := 6) dX8_common_28 rfl ?_
      refine z_fg (ls' := [.null, .null, .null, .null, .long y6, .null, .long (y4 - y4 / y6 * y6), .null, .null, .null]) ⟨Or.inl rfl, Or.inl rfl, Or.inl rfl, Or.inl rfl, Or.inr rfl, Or.inl rfl, Or.inr rfl, Or.inl rfl, Or.inl rfl, Or.inl rfl, trivial⟩ ?_
      exact ih y6 (y4 - y4 / y6 * y6) _ _ _ h
theorem A_X8_common {l : Launch} (hl : l.stackTraces = false) {Ls d : Nat} {Lm : zML} {y0 : Int64} {y2 : Int64} {M M' : zMM} {v : Int64} (h : f_X8_common y0 y2 M = some (v, M')) : z_Ct l mX8_common (d + 0) 0 0 [.long y0, .long y2] (z_L0 Ls, M, Lm) (.inl (some (.long v))) (z_L0 Ls, M', Lm) := by
  replace h : (  f_X8_common_p6 z_fuel y0 y2 M) = some (v, M') := h
  refine z_Ct.of hl (by decide) (Nat.le_of_ble_eq_true rfl) rfl ?_
  show z_AW l mX8_common (d + 0) 0 0 0 [.long y0, .null, .long y2, .null, .null, .null, .null, .null, .null, .null] [] (z_L0 Ls, M, Lm) (.inl (some (.long v))) (z_L0 Ls, M', Lm)
  refine z_lload_n dX8_common_0 rfl ?_
  refine z_lstore (ls' := [.long y0, .null, .long y2, .null, .long y0, .null, .null, .null, .null, .null]) dX8_common_1 (by decide) rfl ?_
  refine z_lload_n dX8_common_3 rfl ?_
  refine z_lstore (ls' := [.long y0, .null, .long y2, .null, .long y0, .null, .long y2, .null, .null, .null]) dX8_common_4 (by decide) rfl ?_
  refine z_fg (ls' := [.null, .null, .null, .null, .long y0, .null, .long y2, .null, .null, .null]) ⟨Or.inl rfl, Or.inl rfl, Or.inl rfl, Or.inl rfl, Or.inr rfl, Or.inl rfl, Or.inr rfl, Or.inl rfl, Or.inl rfl, Or.inl rfl, trivial⟩ ?_
  exact A_X8_common_p6 hl z_fuel y0 y2 _ _ _ h
/-! X8_lost 107 -/
def f_X8_lost_107_p135 (x4 : Int32) (y6 : Int64) (y8 : Int64) (b0 : Int64) (M : zMM) : Option (Int64 × zMM) :=
  if x4 = 0 then
    if ¬ b0 = 0 then
      some ((y8 / b0), M)
    else none
  else
    if (lg_cmp y6 (0 : Int64)) = 0 then
      some ((1 : Int64), M)
    else
      if ¬ b0 = 0 then
        some ((y6 / b0), M)
      else none
def f_X8_lost_107_p78 : Nat → Int32 → Int32 → Int32 → Int32 → Int32 → Int64 → Int32 → zMM → Option (Int64 × zMM)
  | 0, _, _, _, _, _, _, _, _ => none
  | n + 1, x1, x2, x3, x4, x5, y6, x8, M =>
  if x5 ≤ x8 then
    z_bi (f_X8_lostBy_107 x1 x2 x3 x5 M) fun v45 M46 =>
    if (lg_cmp y6 (0 : Int64)) = 0 then
      f_X8_lost_107_p135 x4 y6 v45 (1 : Int64) M46
    else
      z_bi (f_X8_common y6 v45 M46) fun v53 M54 =>
      f_X8_lost_107_p135 x4 y6 v45 v53 M54
  else
    z_bi (f_X8_lostBy_107 x1 x2 x8 x5 M) fun v56 M57 =>
    f_X8_lost_107_p78 n x1 x2 x3 x4 x5 (y6 + v56) (x8 + (1 : Int32)) M57
def f_X8_lost_107 (x1 : Int32) (x2 : Int32) (x3 : Int32) (x4 : Int32) (M : zMM) : Option (Int64 × zMM) :=
  z_bi (f_X8_isTown_107 x1 (z_up M 107 1 (0 : Int32))) fun v2 M3 =>
  if v2 = 0 then
    z_bi (f_X8_fail_107 (1 : Int32) M3) fun v6 M7 =>
    some (v6.toInt64, M7)
  else
    z_bi (f_X8_isTown_107 x2 M3) fun v9 M10 =>
    if v9 = 0 then
      z_bi (f_X8_fail_107 (1 : Int32) M10) fun v13 M14 =>
      some (v13.toInt64, M14)
    else
      if x4 < 0 then
        z_bi (f_X8_fail_107 (1 : Int32) M10) fun v17 M18 =>
        some (v17.toInt64, M18)
      else
        if (1 : Int32) < x4 then
          z_bi (f_X8_fail_107 (1 : Int32) M10) fun v21 M22 =>
          some (v21.toInt64, M22)
        else
          z_bi (f_X8_hasWay_107 x1 x2 M10) fun v24 M25 =>
          if v24 = 0 then
            z_bi (f_X8_fail_107 (1 : Int32) M25) fun v28 M29 =>
            some (v28.toInt64, M29)
          else
            z_bi (f_X8_clerksOf_107 x1 x2 M25) fun v31 M32 =>
            z_bi (f_X8_isIn x3 (0 : Int32) (v31 - (1 : Int32)) M32) fun v34 M35 =>
            if v34 = 0 then
              z_bi (f_X8_fail_107 (1 : Int32) M35) fun v38 M39 =>
              some (v38.toInt64, M39)
            else
              z_bi (f_X8_clerksOf_107 x1 x2 M35) fun v41 M42 =>
              f_X8_lost_107_p78 z_fuel x1 x2 x3 x4 v41 (0 : Int64) (0 : Int32) M42
theorem A_X8_lost_107_p135 {l : Launch} (hl : l.stackTraces = false) {Ls d : Nat} {Lm : zML} :
    ∀ (x4 : Int32) (y6 : Int64) (y8 : Int64) (b0 : Int64) (M M' : zMM) (v : Int64) , f_X8_lost_107_p135 x4 y6 y8 b0 M = some (v, M') → z_AW l mX8_lost (d + 3) 0 0 135 [.null, .null, .null, .null, .int x4, .null, .long y6, .null, .long y8, .null, .null, .null] [.long b0] (z_L0 Ls, M, Lm) (.inl (some (.long v))) (z_L0 Ls, M', Lm) := by
  intro x4 y6 y8 b0 M M' v h
  replace h : (  if x4 = 0 then
    if ¬ b0 = 0 then
      some ((y8 / b0), M)
    else none
  else
    if (lg_cmp y6 (0 : Int64)) = 0 then
      some ((1 : Int64), M)
    else
      if ¬ b0 = 0 then
        some ((y6 / b0), M)
      else none) = some (v, M') := h
  refine z_lstore (ls' := [.null, .null, .null, .null, .int x4, .null, .long y6, .null, .long y8, .null, .long b0, .null]) dX8_lost_135 (by decide) rfl ?_
  refine z_iload dX8_lost_137 rfl ?_
  refine z_if_ne (tgt := 150) dX8_lost_139 rfl (fun g48 => ?_) (fun g48 => ?_)
  · replace h := (if_pos g48).symm.trans h
    refine z_lload dX8_lost_142 rfl ?_
    refine z_lload dX8_lost_144 rfl ?_
    obtain ⟨g49, h⟩ := z_ifn h
    refine z_ldiv dX8_lost_146 g49 ?_
    refine z_goto (tgt := 166) dX8_lost_147 rfl ?_
    cases h
    exact z_lreturn dX8_lost_166 rfl
  · replace h := (if_neg g48).symm.trans h
    refine z_lload dX8_lost_150 rfl ?_
    refine z_lc kl_p0 dX8_lost_152 ?_
    refine z_lcmp dX8_lost_153 ?_
    refine z_if_ne (tgt := 161) dX8_lost_154 rfl (fun g50 => ?_) (fun g50 => ?_)
    · replace h := (if_pos g50).symm.trans h
      refine z_lc kl_p1 dX8_lost_157 ?_
      refine z_goto (tgt := 166) dX8_lost_158 rfl ?_
      cases h
      exact z_lreturn dX8_lost_166 rfl
    · replace h := (if_neg g50).symm.trans h
      refine z_lload dX8_lost_161 rfl ?_
      refine z_lload dX8_lost_163 rfl ?_
      obtain ⟨g51, h⟩ := z_ifn h
      refine z_ldiv dX8_lost_165 g51 ?_
      cases h
      exact z_lreturn dX8_lost_166 rfl
theorem A_X8_lost_107_p78 {l : Launch} (hl : l.stackTraces = false) {Ls d : Nat} {Lm : zML} :
    ∀ (n : Nat) (x1 : Int32) (x2 : Int32) (x3 : Int32) (x4 : Int32) (x5 : Int32) (y6 : Int64) (x8 : Int32) (M M' : zMM) (v : Int64) , f_X8_lost_107_p78 n x1 x2 x3 x4 x5 y6 x8 M = some (v, M') → z_AW l mX8_lost (d + 3) 0 0 78 [.ref 107, .int x1, .int x2, .int x3, .int x4, .int x5, .long y6, .null, .int x8, .null, .null, .null] [] (z_L0 Ls, M, Lm) (.inl (some (.long v))) (z_L0 Ls, M', Lm) := by
  intro n
  induction n with
  | zero => intro x1 x2 x3 x4 x5 y6 x8 M M' v h; cases h
  | succ n ih =>
    intro x1 x2 x3 x4 x5 y6 x8 M M' v h
    replace h : (  if x5 ≤ x8 then
    z_bi (f_X8_lostBy_107 x1 x2 x3 x5 M) fun v45 M46 =>
    if (lg_cmp y6 (0 : Int64)) = 0 then
      f_X8_lost_107_p135 x4 y6 v45 (1 : Int64) M46
    else
      z_bi (f_X8_common y6 v45 M46) fun v53 M54 =>
      f_X8_lost_107_p135 x4 y6 v45 v53 M54
  else
    z_bi (f_X8_lostBy_107 x1 x2 x8 x5 M) fun v56 M57 =>
    f_X8_lost_107_p78 n x1 x2 x3 x4 x5 (y6 + v56) (x8 + (1 : Int32)) M57) = some (v, M') := h
    refine z_iload dX8_lost_78 rfl ?_
    refine z_iload dX8_lost_80 rfl ?_
    refine z_icmp_ge (tgt := 106) dX8_lost_82 rfl (fun g43 => ?_) (fun g43 => ?_)
    · replace h := (if_pos g43).symm.trans h
      refine z_aload_n dX8_lost_106 rfl ?_
      refine z_iload_n dX8_lost_107 rfl ?_
      refine z_iload_n dX8_lost_108 rfl ?_
      refine z_iload_n dX8_lost_109 rfl ?_
      refine z_iload dX8_lost_110 rfl ?_
      obtain ⟨v45, M46, c44, h⟩ := z_bi_c h
      refine z_cV (av := [.int x1, .int x2, .int x3, .int x5]) (st := []) lk_X8_338 dX8_lost_112 (A_X8_lostBy_107 (d := d + 0) hl c44) rfl rfl en_107 rfl (Nat.le_of_ble_eq_true rfl) rfl z_len rfl rfl ?_
      refine z_lstore (ls' := [.ref 107, .int x1, .int x2, .int x3, .int x4, .int x5, .long y6, .null, .long v45, .null, .null, .null]) dX8_lost_115 (by decide) rfl ?_
      refine z_lload dX8_lost_117 rfl ?_
      refine z_lc kl_p0 dX8_lost_119 ?_
      refine z_lcmp dX8_lost_120 ?_
      refine z_if_ne (tgt := 128) dX8_lost_121 rfl (fun g47 => ?_) (fun g47 => ?_)
      · replace h := (if_pos g47).symm.trans h
        refine z_lc kl_p1 dX8_lost_124 ?_
        refine z_goto (tgt := 135) dX8_lost_125 rfl ?_
        refine z_fg (ls' := [.null, .null, .null, .null, .int x4, .null, .long y6, .null, .long v45, .null, .null, .null]) ⟨Or.inl rfl, Or.inl rfl, Or.inl rfl, Or.inl rfl, Or.inr rfl, Or.inl rfl, Or.inr rfl, Or.inl rfl, Or.inr rfl, Or.inl rfl, Or.inl rfl, Or.inl rfl, trivial⟩ ?_
        exact A_X8_lost_107_p135 hl x4 y6 v45 (1 : Int64) _ _ _ h
      · replace h := (if_neg g47).symm.trans h
        refine z_lload dX8_lost_128 rfl ?_
        refine z_lload dX8_lost_130 rfl ?_
        obtain ⟨v53, M54, c52, h⟩ := z_bi_c h
        refine z_cS (av := [.long y6, .long v45]) (st := []) lk_X8_342 dX8_lost_132 (A_X8_common (d := d + 2) hl c52) rfl rfl (Nat.le_of_ble_eq_true rfl) rfl z_len rfl rfl ?_
        refine z_fg (ls' := [.null, .null, .null, .null, .int x4, .null, .long y6, .null, .long v45, .null, .null, .null]) ⟨Or.inl rfl, Or.inl rfl, Or.inl rfl, Or.inl rfl, Or.inr rfl, Or.inl rfl, Or.inr rfl, Or.inl rfl, Or.inr rfl, Or.inl rfl, Or.inl rfl, Or.inl rfl, trivial⟩ ?_
        exact A_X8_lost_107_p135 hl x4 y6 v45 v53 _ _ _ h
    · replace h := (if_neg g43).symm.trans h
      refine z_lload dX8_lost_85 rfl ?_
      refine z_aload_n dX8_lost_87 rfl ?_
      refine z_iload_n dX8_lost_88 rfl ?_
      refine z_iload_n dX8_lost_89 rfl ?_
      refine z_iload dX8_lost_90 rfl ?_
      refine z_iload dX8_lost_92 rfl ?_
      obtain ⟨v56, M57, c55, h⟩ := z_bi_c h
      refine z_cV (av := [.int x1, .int x2, .int x8, .int x5]) (st := [.long y6]) lk_X8_338 dX8_lost_94 (A_X8_lostBy_107 (d := d + 0) hl c55) rfl rfl en_107 rfl (Nat.le_of_ble_eq_true rfl) rfl z_len rfl rfl ?_
      refine z_ladd dX8_lost_97 ?_
      refine z_lstore (ls' := [.ref 107, .int x1, .int x2, .int x3, .int x4, .int x5, .long (y6 + v56), .null, .int x8, .null, .null, .null]) dX8_lost_98 (by decide) rfl ?_
      refine z_ii (ls' := [.ref 107, .int x1, .int x2, .int x3, .int x4, .int x5, .long (y6 + v56), .null, .int (x8 + (1 : Int32)), .null, .null, .null]) kc_p1 dX8_lost_100 rfl (by decide) rfl ?_
      refine z_goto (tgt := 78) dX8_lost_103 rfl ?_
      exact ih x1 x2 x3 x4 x5 (y6 + v56) (x8 + (1 : Int32)) _ _ _ h
theorem A_X8_lost_107 {l : Launch} (hl : l.stackTraces = false) {Ls d : Nat} {Lm : zML} {x1 : Int32} {x2 : Int32} {x3 : Int32} {x4 : Int32} {M M' : zMM} {v : Int64} (h : f_X8_lost_107 x1 x2 x3 x4 M = some (v, M')) : z_Ct l mX8_lost (d + 3) 0 0 [.ref 107, .int x1, .int x2, .int x3, .int x4] (z_L0 Ls, M, Lm) (.inl (some (.long v))) (z_L0 Ls, M', Lm) := by
  replace h : (  z_bi (f_X8_isTown_107 x1 (z_up M 107 1 (0 : Int32))) fun v2 M3 =>
  if v2 = 0 then
    z_bi (f_X8_fail_107 (1 : Int32) M3) fun v6 M7 =>
    some (v6.toInt64, M7)
  else
    z_bi (f_X8_isTown_107 x2 M3) fun v9 M10 =>
    if v9 = 0 then
      z_bi (f_X8_fail_107 (1 : Int32) M10) fun v13 M14 =>
      some (v13.toInt64, M14)
    else
      if x4 < 0 then
        z_bi (f_X8_fail_107 (1 : Int32) M10) fun v17 M18 =>
        some (v17.toInt64, M18)
      else
        if (1 : Int32) < x4 then
          z_bi (f_X8_fail_107 (1 : Int32) M10) fun v21 M22 =>
          some (v21.toInt64, M22)
        else
          z_bi (f_X8_hasWay_107 x1 x2 M10) fun v24 M25 =>
          if v24 = 0 then
            z_bi (f_X8_fail_107 (1 : Int32) M25) fun v28 M29 =>
            some (v28.toInt64, M29)
          else
            z_bi (f_X8_clerksOf_107 x1 x2 M25) fun v31 M32 =>
            z_bi (f_X8_isIn x3 (0 : Int32) (v31 - (1 : Int32)) M32) fun v34 M35 =>
            if v34 = 0 then
              z_bi (f_X8_fail_107 (1 : Int32) M35) fun v38 M39 =>
              some (v38.toInt64, M39)
            else
              z_bi (f_X8_clerksOf_107 x1 x2 M35) fun v41 M42 =>
              f_X8_lost_107_p78 z_fuel x1 x2 x3 x4 v41 (0 : Int64) (0 : Int32) M42) = some (v, M') := h
  refine z_Ct.of hl (by decide) (Nat.le_of_ble_eq_true rfl) rfl ?_
  show z_AW l mX8_lost (d + 3) 0 0 0 [.ref 107, .int x1, .int x2, .int x3, .int x4, .null, .null, .null, .null, .null, .null, .null] [] (z_L0 Ls, M, Lm) (.inl (some (.long v))) (z_L0 Ls, M', Lm)
  refine z_aload_n dX8_lost_0 rfl ?_
  refine z_ic kc_p0 dX8_lost_1 ?_
  refine z_pI fp_X8_149 dX8_lost_2 (by decide) en_107 rfl ?_
  refine z_aload_n dX8_lost_5 rfl ?_
  refine z_iload_n dX8_lost_6 rfl ?_
  obtain ⟨v2, M3, c1, h⟩ := z_bi_c h
  refine z_cV (av := [.int x1]) (st := []) lk_X8_304 dX8_lost_7 (A_X8_isTown_107 (d := d + 1) hl c1) rfl rfl en_107 rfl (Nat.le_of_ble_eq_true rfl) rfl z_len rfl rfl ?_
  refine z_if_eq (tgt := 57) dX8_lost_10 rfl (fun g4 => ?_) (fun g4 => ?_)
  · replace h := (if_pos g4).symm.trans h
    refine z_aload_n dX8_lost_57 rfl ?_
    refine z_ic kc_p1 dX8_lost_58 ?_
    obtain ⟨v6, M7, c5, h⟩ := z_bi_c h
    refine z_cV (av := [.int (1 : Int32)]) (st := []) lk_X8_268 dX8_lost_59 (A_X8_fail_107 (d := d + 2) hl c5) rfl rfl en_107 rfl (Nat.le_of_ble_eq_true rfl) rfl z_len rfl rfl ?_
    refine z_i2l dX8_lost_62 ?_
    cases h
    exact z_lreturn dX8_lost_63 rfl
  · replace h := (if_neg g4).symm.trans h
    refine z_aload_n dX8_lost_13 rfl ?_
    refine z_iload_n dX8_lost_14 rfl ?_
    obtain ⟨v9, M10, c8, h⟩ := z_bi_c h
    refine z_cV (av := [.int x2]) (st := []) lk_X8_304 dX8_lost_15 (A_X8_isTown_107 (d := d + 1) hl c8) rfl rfl en_107 rfl (Nat.le_of_ble_eq_true rfl) rfl z_len rfl rfl ?_
    refine z_if_eq (tgt := 57) dX8_lost_18 rfl (fun g11 => ?_) (fun g11 => ?_)
    · replace h := (if_pos g11).symm.trans h
      refine z_aload_n dX8_lost_57 rfl ?_
      refine z_ic kc_p1 dX8_lost_58 ?_
      obtain ⟨v13, M14, c12, h⟩ := z_bi_c h
      refine z_cV (av := [.int (1 : Int32)]) (st := []) lk_X8_268 dX8_lost_59 (A_X8_fail_107 (d := d + 2) hl c12) rfl rfl en_107 rfl (Nat.le_of_ble_eq_true rfl) rfl z_len rfl rfl ?_
      refine z_i2l dX8_lost_62 ?_
      cases h
      exact z_lreturn dX8_lost_63 rfl
    · replace h := (if_neg g11).symm.trans h
      refine z_iload dX8_lost_21 rfl ?_
      refine z_if_lt (tgt := 57) dX8_lost_23 rfl (fun g15 => ?_) (fun g15 => ?_)
      · replace h := (if_pos g15).symm.trans h
        refine z_aload_n dX8_lost_57 rfl ?_
        refine z_ic kc_p1 dX8_lost_58 ?_
        obtain ⟨v17, M18, c16, h⟩ := z_bi_c h
        refine z_cV (av := [.int (1 : Int32)]) (st := []) lk_X8_268 dX8_lost_59 (A_X8_fail_107 (d := d + 2) hl c16) rfl rfl en_107 rfl (Nat.le_of_ble_eq_true rfl) rfl z_len rfl rfl ?_
        refine z_i2l dX8_lost_62 ?_
        cases h
        exact z_lreturn dX8_lost_63 rfl
      · replace h := (if_neg g15).symm.trans h
        refine z_iload dX8_lost_26 rfl ?_
        refine z_ic kc_p1 dX8_lost_28 ?_
        refine z_icmp_gt (tgt := 57) dX8_lost_29 rfl (fun g19 => ?_) (fun g19 => ?_)
        · replace h := (if_pos g19).symm.trans h
          refine z_aload_n dX8_lost_57 rfl ?_
          refine z_ic kc_p1 dX8_lost_58 ?_
          obtain ⟨v21, M22, c20, h⟩ := z_bi_c h
          refine z_cV (av := [.int (1 : Int32)]) (st := []) lk_X8_268 dX8_lost_59 (A_X8_fail_107 (d := d + 2) hl c20) rfl rfl en_107 rfl (Nat.le_of_ble_eq_true rfl) rfl z_len rfl rfl ?_
          refine z_i2l dX8_lost_62 ?_
          cases h
          exact z_lreturn dX8_lost_63 rfl
        · replace h := (if_neg g19).symm.trans h
          refine z_aload_n dX8_lost_32 rfl ?_
          refine z_iload_n dX8_lost_33 rfl ?_
          refine z_iload_n dX8_lost_34 rfl ?_
          obtain ⟨v24, M25, c23, h⟩ := z_bi_c h
          refine z_cV (av := [.int x1, .int x2]) (st := []) lk_X8_320 dX8_lost_35 (A_X8_hasWay_107 (d := d + 2) hl c23) rfl rfl en_107 rfl (Nat.le_of_ble_eq_true rfl) rfl z_len rfl rfl ?_
          refine z_if_eq (tgt := 57) dX8_lost_38 rfl (fun g26 => ?_) (fun g26 => ?_)
          · replace h := (if_pos g26).symm.trans h
            refine z_aload_n dX8_lost_57 rfl ?_
            refine z_ic kc_p1 dX8_lost_58 ?_
            obtain ⟨v28, M29, c27, h⟩ := z_bi_c h
            refine z_cV (av := [.int (1 : Int32)]) (st := []) lk_X8_268 dX8_lost_59 (A_X8_fail_107 (d := d + 2) hl c27) rfl rfl en_107 rfl (Nat.le_of_ble_eq_true rfl) rfl z_len rfl rfl ?_
            refine z_i2l dX8_lost_62 ?_
            cases h
            exact z_lreturn dX8_lost_63 rfl
          · replace h := (if_neg g26).symm.trans h
            refine z_iload_n dX8_lost_41 rfl ?_
            refine z_ic kc_p0 dX8_lost_42 ?_
            refine z_aload_n dX8_lost_43 rfl ?_
            refine z_iload_n dX8_lost_44 rfl ?_
            refine z_iload_n dX8_lost_45 rfl ?_
            obtain ⟨v31, M32, c30, h⟩ := z_bi_c h
            refine z_cV (av := [.int x1, .int x2]) (st := [.int (0 : Int32), .int x3]) lk_X8_323 dX8_lost_46 (A_X8_clerksOf_107 (d := d + 2) hl c30) rfl rfl en_107 rfl (Nat.le_of_ble_eq_true rfl) rfl z_len rfl rfl ?_
            refine z_ic kc_p1 dX8_lost_49 ?_
            refine z_isub dX8_lost_50 ?_
            obtain ⟨v34, M35, c33, h⟩ := z_bi_c h
            refine z_cS (av := [.int x3, .int (0 : Int32), .int (v31 - (1 : Int32))]) (st := []) lk_X8_152 dX8_lost_51 (A_X8_isIn (d := d + 2) hl c33) rfl rfl (Nat.le_of_ble_eq_true rfl) rfl z_len rfl rfl ?_
            refine z_if_ne (tgt := 64) dX8_lost_54 rfl (fun g36 => ?_) (fun g36 => ?_)
            · replace h := (if_pos g36).symm.trans h
              refine z_aload_n dX8_lost_57 rfl ?_
              refine z_ic kc_p1 dX8_lost_58 ?_
              obtain ⟨v38, M39, c37, h⟩ := z_bi_c h
              refine z_cV (av := [.int (1 : Int32)]) (st := []) lk_X8_268 dX8_lost_59 (A_X8_fail_107 (d := d + 2) hl c37) rfl rfl en_107 rfl (Nat.le_of_ble_eq_true rfl) rfl z_len rfl rfl ?_
              refine z_i2l dX8_lost_62 ?_
              cases h
              exact z_lreturn dX8_lost_63 rfl
            · replace h := (if_neg g36).symm.trans h
              refine z_aload_n dX8_lost_64 rfl ?_
              refine z_iload_n dX8_lost_65 rfl ?_
              refine z_iload_n dX8_lost_66 rfl ?_
              obtain ⟨v41, M42, c40, h⟩ := z_bi_c h
              refine z_cV (av := [.int x1, .int x2]) (st := []) lk_X8_323 dX8_lost_67 (A_X8_clerksOf_107 (d := d + 2) hl c40) rfl rfl en_107 rfl (Nat.le_of_ble_eq_true rfl) rfl z_len rfl rfl ?_
              refine z_istore (ls' := [.ref 107, .int x1, .int x2, .int x3, .int x4, .int v41, .null, .null, .null, .null, .null, .null]) dX8_lost_70 (by decide) rfl ?_
              refine z_lc kl_p0 dX8_lost_72 ?_
              refine z_lstore (ls' := [.ref 107, .int x1, .int x2, .int x3, .int x4, .int v41, .long (0 : Int64), .null, .null, .null, .null, .null]) dX8_lost_73 (by decide) rfl ?_
              refine z_ic kc_p0 dX8_lost_75 ?_
              refine z_istore (ls' := [.ref 107, .int x1, .int x2, .int x3, .int x4, .int v41, .long (0 : Int64), .null, .int (0 : Int32), .null, .null, .null]) dX8_lost_76 (by decide) rfl ?_
              exact A_X8_lost_107_p78 hl z_fuel x1 x2 x3 x4 v41 (0 : Int64) (0 : Int32) _ _ _ h
/-! X8_night 107 -/
def f_X8_night_107_p66 (M : zMM) : Option (Int32 × zMM) :=
  some ((-1 : Int32), (z_up M 122 2 ((M 122 2) + (1 : Int32))))
def f_X8_night_107_p58 (x1 : Int32) (x2 : Int32) (x3 : Int32) (a0 : Int32) (a1 : Int32) (M : zMM) : Option (Int32 × zMM) :=
  z_bi (f_X8_isIn a1 a0 (99 : Int32) M) fun v18 M19 =>
  if v18 = 0 then
    f_X8_night_107_p66  M19
  else
    if z_ib (M19 107 32) 4 = true then
      if z_ib (M19 107 32) 4 = true then
        if z_ib (M19 107 32) 4 = true then
          some (((M19 107 32) + (1 : Int32)), (z_up (z_up (z_up (z_up M19 136 (M19 107 32).toNatClampNeg x1) 137 (M19 107 32).toNatClampNeg x2) 138 (M19 107 32).toNatClampNeg x3) 107 32 ((M19 107 32) + (1 : Int32))))
        else none
      else none
    else none
def f_X8_night_107 (x1 : Int32) (x2 : Int32) (x3 : Int32) (M : zMM) : Option (Int32 × zMM) :=
  z_bi (f_X8_isTown_107 x2 (z_up M 107 1 (0 : Int32))) fun v2 M3 =>
  if v2 = 0 then
    z_bi (f_X8_fail_107 (1 : Int32) M3) fun v6 M7 =>
    some (v6, M7)
  else
    z_bi (f_X8_isPlay_107 x3 M3) fun v9 M10 =>
    if v9 = 0 then
      z_bi (f_X8_fail_107 (1 : Int32) M10) fun v13 M14 =>
      some (v13, M14)
    else
      if (M10 107 32) = (4 : Int32) then
        f_X8_night_107_p66  M10
      else
        if (M10 107 32) = 0 then
          f_X8_night_107_p58 x1 x2 x3 (0 : Int32) x1 M10
        else
          if z_ib ((M10 107 32) - (1 : Int32)) 4 = true then
            f_X8_night_107_p58 x1 x2 x3 (M10 136 ((M10 107 32) - (1 : Int32)).toNatClampNeg) x1 M10
          else none
theorem A_X8_night_107_p66 {l : Launch} (hl : l.stackTraces = false) {Ls d : Nat} {Lm : zML} :
    ∀ (M M' : zMM) (v : Int32) , f_X8_night_107_p66  M = some (v, M') → z_AW l mX8_night (d + 2) 0 0 66 [.ref 107, .null, .null, .null] [] (z_L0 Ls, M, Lm) (.inl (some (.int v))) (z_L0 Ls, M', Lm) := by
  intro  M M' v h
  replace h : (  some ((-1 : Int32), (z_up M 122 2 ((M 122 2) + (1 : Int32))))) = some (v, M') := h
  refine z_aload_n dX8_night_66 rfl ?_
  refine z_getR (q := 122) fl_X8_63 dX8_night_67 en_107 rfl ?_
  refine z_ic kc_p2 dX8_night_70 ?_
  refine z_dup2 dX8_night_71 rfl rfl ?_
  refine z_al (v := (M 122 2)) dX8_night_72 en_122 kn_p2 (z_ib_in rfl) rfl ?_
  refine z_ic kc_p1 dX8_night_73 ?_
  refine z_iadd dX8_night_74 ?_
  refine z_as dX8_night_75 (by decide) en_122 kn_p2 (z_ib_in rfl) ?_
  refine z_ic kc_m1 dX8_night_76 ?_
  cases h
  exact z_rI dX8_night_77 rfl
theorem A_X8_night_107_p58 {l : Launch} (hl : l.stackTraces = false) {Ls d : Nat} {Lm : zML} :
    ∀ (x1 : Int32) (x2 : Int32) (x3 : Int32) (a0 : Int32) (a1 : Int32) (M M' : zMM) (v : Int32) , f_X8_night_107_p58 x1 x2 x3 a0 a1 M = some (v, M') → z_AW l mX8_night (d + 2) 0 0 58 [.ref 107, .int x1, .int x2, .int x3] [.int a0, .int a1] (z_L0 Ls, M, Lm) (.inl (some (.int v))) (z_L0 Ls, M', Lm) := by
  intro x1 x2 x3 a0 a1 M M' v h
  replace h : (  z_bi (f_X8_isIn a1 a0 (99 : Int32) M) fun v18 M19 =>
  if v18 = 0 then
    f_X8_night_107_p66  M19
  else
    if z_ib (M19 107 32) 4 = true then
      if z_ib (M19 107 32) 4 = true then
        if z_ib (M19 107 32) 4 = true then
          some (((M19 107 32) + (1 : Int32)), (z_up (z_up (z_up (z_up M19 136 (M19 107 32).toNatClampNeg x1) 137 (M19 107 32).toNatClampNeg x2) 138 (M19 107 32).toNatClampNeg x3) 107 32 ((M19 107 32) + (1 : Int32))))
        else none
      else none
    else none) = some (v, M') := h
  refine z_bp kb_p99 dX8_night_58 ?_
  obtain ⟨v18, M19, c17, h⟩ := z_bi_c h
  refine z_cS (av := [.int a1, .int a0, .int (99 : Int32)]) (st := []) lk_X8_152 dX8_night_60 (A_X8_isIn (d := d + 1) hl c17) rfl rfl (Nat.le_of_ble_eq_true rfl) rfl z_len rfl rfl ?_
  refine z_if_ne (tgt := 78) dX8_night_63 rfl (fun g20 => ?_) (fun g20 => ?_)
  · replace h := (if_pos g20).symm.trans h
    refine z_fg (ls' := [.ref 107, .null, .null, .null]) ⟨Or.inr rfl, Or.inl rfl, Or.inl rfl, Or.inl rfl, trivial⟩ ?_
    exact A_X8_night_107_p66 hl  _ _ _ h
  · replace h := (if_neg g20).symm.trans h
    refine z_aload_n dX8_night_78 rfl ?_
    refine z_getR (q := 136) fl_X8_110 dX8_night_79 en_107 rfl ?_
    refine z_aload_n dX8_night_82 rfl ?_
    refine z_gI (v := (M19 107 32)) fl_X8_292 dX8_night_83 en_107 rfl rfl ?_
    refine z_iload_n dX8_night_86 rfl ?_
    obtain ⟨g21, h⟩ := z_ifn h
    refine z_as dX8_night_87 (by decide) en_136 rfl (z_ib_in g21) ?_
    refine z_aload_n dX8_night_88 rfl ?_
    refine z_getR (q := 137) fl_X8_113 dX8_night_89 en_107 rfl ?_
    refine z_aload_n dX8_night_92 rfl ?_
    refine z_gI (v := (M19 107 32)) fl_X8_292 dX8_night_93 en_107 rfl rfl ?_
    refine z_iload_n dX8_night_96 rfl ?_
    obtain ⟨g22, h⟩ := z_ifn h
    refine z_as dX8_night_97 (by decide) en_137 rfl (z_ib_in g22) ?_
    refine z_aload_n dX8_night_98 rfl ?_
    refine z_getR (q := 138) fl_X8_116 dX8_night_99 en_107 rfl ?_
    refine z_aload_n dX8_night_102 rfl ?_
    refine z_gI (v := (M19 107 32)) fl_X8_292 dX8_night_103 en_107 rfl rfl ?_
    refine z_iload_n dX8_night_106 rfl ?_
    obtain ⟨g23, h⟩ := z_ifn h
    refine z_as dX8_night_107 (by decide) en_138 rfl (z_ib_in g23) ?_
    refine z_aload_n dX8_night_108 rfl ?_
    refine z_dup dX8_night_109 rfl ?_
    refine z_gI (v := (M19 107 32)) fl_X8_292 dX8_night_110 en_107 rfl rfl ?_
    refine z_ic kc_p1 dX8_night_113 ?_
    refine z_iadd dX8_night_114 ?_
    refine z_pI fp_X8_292 dX8_night_115 (by decide) en_107 rfl ?_
    refine z_aload_n dX8_night_118 rfl ?_
    refine z_gI (v := ((M19 107 32) + (1 : Int32))) fl_X8_292 dX8_night_119 en_107 rfl rfl ?_
    cases h
    exact z_rI dX8_night_122 rfl
theorem A_X8_night_107 {l : Launch} (hl : l.stackTraces = false) {Ls d : Nat} {Lm : zML} {x1 : Int32} {x2 : Int32} {x3 : Int32} {M M' : zMM} {v : Int32} (h : f_X8_night_107 x1 x2 x3 M = some (v, M')) : z_Ct l mX8_night (d + 2) 0 0 [.ref 107, .int x1, .int x2, .int x3] (z_L0 Ls, M, Lm) (.inl (some (.int v))) (z_L0 Ls, M', Lm) := by
  replace h : (  z_bi (f_X8_isTown_107 x2 (z_up M 107 1 (0 : Int32))) fun v2 M3 =>
  if v2 = 0 then
    z_bi (f_X8_fail_107 (1 : Int32) M3) fun v6 M7 =>
    some (v6, M7)
  else
    z_bi (f_X8_isPlay_107 x3 M3) fun v9 M10 =>
    if v9 = 0 then
      z_bi (f_X8_fail_107 (1 : Int32) M10) fun v13 M14 =>
      some (v13, M14)
    else
      if (M10 107 32) = (4 : Int32) then
        f_X8_night_107_p66  M10
      else
        if (M10 107 32) = 0 then
          f_X8_night_107_p58 x1 x2 x3 (0 : Int32) x1 M10
        else
          if z_ib ((M10 107 32) - (1 : Int32)) 4 = true then
            f_X8_night_107_p58 x1 x2 x3 (M10 136 ((M10 107 32) - (1 : Int32)).toNatClampNeg) x1 M10
          else none) = some (v, M') := h
  refine z_Ct.of hl (by decide) (Nat.le_of_ble_eq_true rfl) rfl ?_
  show z_AW l mX8_night (d + 2) 0 0 0 [.ref 107, .int x1, .int x2, .int x3] [] (z_L0 Ls, M, Lm) (.inl (some (.int v))) (z_L0 Ls, M', Lm)
  refine z_aload_n dX8_night_0 rfl ?_
  refine z_ic kc_p0 dX8_night_1 ?_
  refine z_pI fp_X8_149 dX8_night_2 (by decide) en_107 rfl ?_
  refine z_aload_n dX8_night_5 rfl ?_
  refine z_iload_n dX8_night_6 rfl ?_
  obtain ⟨v2, M3, c1, h⟩ := z_bi_c h
  refine z_cV (av := [.int x2]) (st := []) lk_X8_304 dX8_night_7 (A_X8_isTown_107 (d := d + 0) hl c1) rfl rfl en_107 rfl (Nat.le_of_ble_eq_true rfl) rfl z_len rfl rfl ?_
  refine z_if_eq (tgt := 21) dX8_night_10 rfl (fun g4 => ?_) (fun g4 => ?_)
  · replace h := (if_pos g4).symm.trans h
    refine z_aload_n dX8_night_21 rfl ?_
    refine z_ic kc_p1 dX8_night_22 ?_
    obtain ⟨v6, M7, c5, h⟩ := z_bi_c h
    refine z_cV (av := [.int (1 : Int32)]) (st := []) lk_X8_268 dX8_night_23 (A_X8_fail_107 (d := d + 1) hl c5) rfl rfl en_107 rfl (Nat.le_of_ble_eq_true rfl) rfl z_len rfl rfl ?_
    cases h
    exact z_rI dX8_night_26 rfl
  · replace h := (if_neg g4).symm.trans h
    refine z_aload_n dX8_night_13 rfl ?_
    refine z_iload_n dX8_night_14 rfl ?_
    obtain ⟨v9, M10, c8, h⟩ := z_bi_c h
    refine z_cV (av := [.int x3]) (st := []) lk_X8_356 dX8_night_15 (A_X8_isPlay_107 (d := d + 0) hl c8) rfl rfl en_107 rfl (Nat.le_of_ble_eq_true rfl) rfl z_len rfl rfl ?_
    refine z_if_ne (tgt := 27) dX8_night_18 rfl (fun g11 => ?_) (fun g11 => ?_)
    · replace h := (if_pos g11).symm.trans h
      refine z_aload_n dX8_night_21 rfl ?_
      refine z_ic kc_p1 dX8_night_22 ?_
      obtain ⟨v13, M14, c12, h⟩ := z_bi_c h
      refine z_cV (av := [.int (1 : Int32)]) (st := []) lk_X8_268 dX8_night_23 (A_X8_fail_107 (d := d + 1) hl c12) rfl rfl en_107 rfl (Nat.le_of_ble_eq_true rfl) rfl z_len rfl rfl ?_
      cases h
      exact z_rI dX8_night_26 rfl
    · replace h := (if_neg g11).symm.trans h
      refine z_aload_n dX8_night_27 rfl ?_
      refine z_gI (v := (M10 107 32)) fl_X8_292 dX8_night_28 en_107 rfl rfl ?_
      refine z_ic kc_p4 dX8_night_31 ?_
      refine z_icmp_eq (tgt := 66) dX8_night_32 rfl (fun g15 => ?_) (fun g15 => ?_)
      · replace h := (if_pos g15).symm.trans h
        refine z_fg (ls' := [.ref 107, .null, .null, .null]) ⟨Or.inr rfl, Or.inl rfl, Or.inl rfl, Or.inl rfl, trivial⟩ ?_
        exact A_X8_night_107_p66 hl  _ _ _ h
      · replace h := (if_neg g15).symm.trans h
        refine z_iload_n dX8_night_35 rfl ?_
        refine z_aload_n dX8_night_36 rfl ?_
        refine z_gI (v := (M10 107 32)) fl_X8_292 dX8_night_37 en_107 rfl rfl ?_
        refine z_if_ne (tgt := 47) dX8_night_40 rfl (fun g16 => ?_) (fun g16 => ?_)
        · replace h := (if_pos g16).symm.trans h
          refine z_ic kc_p0 dX8_night_43 ?_
          refine z_goto (tgt := 58) dX8_night_44 rfl ?_
          exact A_X8_night_107_p58 hl x1 x2 x3 (0 : Int32) x1 _ _ _ h
        · replace h := (if_neg g16).symm.trans h
          refine z_aload_n dX8_night_47 rfl ?_
          refine z_getR (q := 136) fl_X8_110 dX8_night_48 en_107 rfl ?_
          refine z_aload_n dX8_night_51 rfl ?_
          refine z_gI (v := (M10 107 32)) fl_X8_292 dX8_night_52 en_107 rfl rfl ?_
          refine z_ic kc_p1 dX8_night_55 ?_
          refine z_isub dX8_night_56 ?_
          obtain ⟨g24, h⟩ := z_ifn h
          refine z_al (v := (M10 136 ((M10 107 32) - (1 : Int32)).toNatClampNeg)) dX8_night_57 en_136 rfl (z_ib_in g24) rfl ?_
          exact A_X8_night_107_p58 hl x1 x2 x3 (M10 136 ((M10 107 32) - (1 : Int32)).toNatClampNeg) x1 _ _ _ h
/-! X8_price 107 -/
def f_X8_price_107 (x1 : Int32) (x2 : Int32) (x3 : Int32) (M : zMM) : Option (Int32 × zMM) :=
  z_bi (f_X8_isPlay_107 x1 (z_up M 107 1 (0 : Int32))) fun v2 M3 =>
  if v2 = 0 then
    z_bi (f_X8_fail_107 (1 : Int32) M3) fun v6 M7 =>
    some (v6, M7)
  else
    z_bi (f_X8_isTown_107 x2 M3) fun v9 M10 =>
    if v9 = 0 then
      z_bi (f_X8_fail_107 (1 : Int32) M10) fun v13 M14 =>
      some (v13, M14)
    else
      z_bi (f_X8_isIn x3 (0 : Int32) (((1 : Int32) <<< ((M10 109 2) &&& 31)) - (1 : Int32)) M10) fun v16 M17 =>
      if v16 = 0 then
        z_bi (f_X8_fail_107 (2 : Int32) M17) fun v20 M21 =>
        some (v20, M21)
      else
        z_bi (f_X8_priceOf_107 x1 x2 x3 M17) fun v23 M24 =>
        some (v23, M24)
theorem A_X8_price_107 {l : Launch} (hl : l.stackTraces = false) {Ls d : Nat} {Lm : zML} {x1 : Int32} {x2 : Int32} {x3 : Int32} {M M' : zMM} {v : Int32} (h : f_X8_price_107 x1 x2 x3 M = some (v, M')) : z_Ct l mX8_price (d + 11) 0 0 [.ref 107, .int x1, .int x2, .int x3] (z_L0 Ls, M, Lm) (.inl (some (.int v))) (z_L0 Ls, M', Lm) := by
  replace h : (  z_bi (f_X8_isPlay_107 x1 (z_up M 107 1 (0 : Int32))) fun v2 M3 =>
  if v2 = 0 then
    z_bi (f_X8_fail_107 (1 : Int32) M3) fun v6 M7 =>
    some (v6, M7)
  else
    z_bi (f_X8_isTown_107 x2 M3) fun v9 M10 =>
    if v9 = 0 then
      z_bi (f_X8_fail_107 (1 : Int32) M10) fun v13 M14 =>
      some (v13, M14)
    else
      z_bi (f_X8_isIn x3 (0 : Int32) (((1 : Int32) <<< ((M10 109 2) &&& 31)) - (1 : Int32)) M10) fun v16 M17 =>
      if v16 = 0 then
        z_bi (f_X8_fail_107 (2 : Int32) M17) fun v20 M21 =>
        some (v20, M21)
      else
        z_bi (f_X8_priceOf_107 x1 x2 x3 M17) fun v23 M24 =>
        some (v23, M24)) = some (v, M') := h
  refine z_Ct.of hl (by decide) (Nat.le_of_ble_eq_true rfl) rfl ?_
  show z_AW l mX8_price (d + 11) 0 0 0 [.ref 107, .int x1, .int x2, .int x3] [] (z_L0 Ls, M, Lm) (.inl (some (.int v))) (z_L0 Ls, M', Lm)
  refine z_aload_n dX8_price_0 rfl ?_
  refine z_ic kc_p0 dX8_price_1 ?_
  refine z_pI fp_X8_149 dX8_price_2 (by decide) en_107 rfl ?_
  refine z_aload_n dX8_price_5 rfl ?_
  refine z_iload_n dX8_price_6 rfl ?_
  obtain ⟨v2, M3, c1, h⟩ := z_bi_c h
  refine z_cV (av := [.int x1]) (st := []) lk_X8_356 dX8_price_7 (A_X8_isPlay_107 (d := d + 9) hl c1) rfl rfl en_107 rfl (Nat.le_of_ble_eq_true rfl) rfl z_len rfl rfl ?_
  refine z_if_eq (tgt := 21) dX8_price_10 rfl (fun g4 => ?_) (fun g4 => ?_)
  · replace h := (if_pos g4).symm.trans h
    refine z_aload_n dX8_price_21 rfl ?_
    refine z_ic kc_p1 dX8_price_22 ?_
    obtain ⟨v6, M7, c5, h⟩ := z_bi_c h
    refine z_cV (av := [.int (1 : Int32)]) (st := []) lk_X8_268 dX8_price_23 (A_X8_fail_107 (d := d + 10) hl c5) rfl rfl en_107 rfl (Nat.le_of_ble_eq_true rfl) rfl z_len rfl rfl ?_
    cases h
    exact z_rI dX8_price_26 rfl
  · replace h := (if_neg g4).symm.trans h
    refine z_aload_n dX8_price_13 rfl ?_
    refine z_iload_n dX8_price_14 rfl ?_
    obtain ⟨v9, M10, c8, h⟩ := z_bi_c h
    refine z_cV (av := [.int x2]) (st := []) lk_X8_304 dX8_price_15 (A_X8_isTown_107 (d := d + 9) hl c8) rfl rfl en_107 rfl (Nat.le_of_ble_eq_true rfl) rfl z_len rfl rfl ?_
    refine z_if_ne (tgt := 27) dX8_price_18 rfl (fun g11 => ?_) (fun g11 => ?_)
    · replace h := (if_pos g11).symm.trans h
      refine z_aload_n dX8_price_21 rfl ?_
      refine z_ic kc_p1 dX8_price_22 ?_
      obtain ⟨v13, M14, c12, h⟩ := z_bi_c h
      refine z_cV (av := [.int (1 : Int32)]) (st := []) lk_X8_268 dX8_price_23 (A_X8_fail_107 (d := d + 10) hl c12) rfl rfl en_107 rfl (Nat.le_of_ble_eq_true rfl) rfl z_len rfl rfl ?_
      cases h
      exact z_rI dX8_price_26 rfl
    · replace h := (if_neg g11).symm.trans h
      refine z_iload_n dX8_price_27 rfl ?_
      refine z_ic kc_p0 dX8_price_28 ?_
      refine z_ic kc_p1 dX8_price_29 ?_
      refine z_aload_n dX8_price_30 rfl ?_
      refine z_getR (q := 109) fl_X8_23 dX8_price_31 en_107 rfl ?_
      refine z_ic kc_p2 dX8_price_34 ?_
      refine z_al (v := (M10 109 2)) dX8_price_35 en_109 kn_p2 (z_ib_in rfl) rfl ?_
      refine z_ishl dX8_price_36 ?_
      refine z_ic kc_p1 dX8_price_37 ?_
      refine z_isub dX8_price_38 ?_
      obtain ⟨v16, M17, c15, h⟩ := z_bi_c h
      refine z_cS (av := [.int x3, .int (0 : Int32), .int (((1 : Int32) <<< ((M10 109 2) &&& 31)) - (1 : Int32))]) (st := []) lk_X8_152 dX8_price_39 (A_X8_isIn (d := d + 10) hl c15) rfl rfl (Nat.le_of_ble_eq_true rfl) rfl z_len rfl rfl ?_
      refine z_if_eq (tgt := 55) dX8_price_42 rfl (fun g18 => ?_) (fun g18 => ?_)
      · replace h := (if_pos g18).symm.trans h
        refine z_aload_n dX8_price_55 rfl ?_
        refine z_ic kc_p2 dX8_price_56 ?_
        obtain ⟨v20, M21, c19, h⟩ := z_bi_c h
        refine z_cV (av := [.int (2 : Int32)]) (st := []) lk_X8_268 dX8_price_57 (A_X8_fail_107 (d := d + 10) hl c19) rfl rfl en_107 rfl (Nat.le_of_ble_eq_true rfl) rfl z_len rfl rfl ?_
        cases h
        exact z_rI dX8_price_60 rfl
      · replace h := (if_neg g18).symm.trans h
        refine z_aload_n dX8_price_45 rfl ?_
        refine z_iload_n dX8_price_46 rfl ?_
        refine z_iload_n dX8_price_47 rfl ?_
        refine z_iload_n dX8_price_48 rfl ?_
        obtain ⟨v23, M24, c22, h⟩ := z_bi_c h
        refine z_cV (av := [.int x1, .int x2, .int x3]) (st := []) lk_X8_359 dX8_price_49 (A_X8_priceOf_107 (d := d + 0) hl c22) rfl rfl en_107 rfl (Nat.le_of_ble_eq_true rfl) rfl z_len rfl rfl ?_
        refine z_goto (tgt := 60) dX8_price_52 rfl ?_
        cases h
        exact z_rI dX8_price_60 rfl
/-! X8_restore 107 -/
def f_X8_restore_107  (M : zMM) : Option (Int32 × zMM) :=
  if (M 107 54) = 0 then
    some ((0 : Int32), (z_up M 107 1 (0 : Int32)))
  else
    if z_zb (M 107 55) = true then
      z_bv (some (z_cp (z_up (z_up (z_up (z_up (z_up (z_up M 107 1 (0 : Int32)) 107 33 (M 107 55)) 107 29 (M 107 56)) 107 30 (M 107 57)) 107 32 (M 107 58)) 107 31 (0 : Int32)) 143 124 5)) fun M4 =>
      z_bv (some (z_cp M4 144 125 5)) fun M6 =>
      z_bv (some (z_cp M6 145 136 4)) fun M8 =>
      z_bv (some (z_cp M8 146 137 4)) fun M10 =>
      z_bv (some (z_cp M10 147 138 4)) fun M12 =>
      z_bv (some (z_cp M12 148 122 3)) fun M14 =>
      some ((1 : Int32), M14)
    else none
theorem A_X8_restore_107 {l : Launch} (hl : l.stackTraces = false) {Ls d : Nat} {Lm : zML}  {M M' : zMM} {v : Int32} (h : f_X8_restore_107  M = some (v, M')) : z_Ct l mX8_restore (d + 1) 0 0 [.ref 107] (z_L0 Ls, M, Lm) (.inl (some (.int v))) (z_L0 Ls, M', Lm) := by
  replace h : (  if (M 107 54) = 0 then
    some ((0 : Int32), (z_up M 107 1 (0 : Int32)))
  else
    if z_zb (M 107 55) = true then
      z_bv (some (z_cp (z_up (z_up (z_up (z_up (z_up (z_up M 107 1 (0 : Int32)) 107 33 (M 107 55)) 107 29 (M 107 56)) 107 30 (M 107 57)) 107 32 (M 107 58)) 107 31 (0 : Int32)) 143 124 5)) fun M4 =>
      z_bv (some (z_cp M4 144 125 5)) fun M6 =>
      z_bv (some (z_cp M6 145 136 4)) fun M8 =>
      z_bv (some (z_cp M8 146 137 4)) fun M10 =>
      z_bv (some (z_cp M10 147 138 4)) fun M12 =>
      z_bv (some (z_cp M12 148 122 3)) fun M14 =>
      some ((1 : Int32), M14)
    else none) = some (v, M') := h
  refine z_Ct.of hl (by decide) (Nat.le_of_ble_eq_true rfl) rfl ?_
  show z_AW l mX8_restore (d + 1) 0 0 0 [.ref 107] [] (z_L0 Ls, M, Lm) (.inl (some (.int v))) (z_L0 Ls, M', Lm)
  refine z_aload_n dX8_restore_0 rfl ?_
  refine z_ic kc_p0 dX8_restore_1 ?_
  refine z_pI fp_X8_149 dX8_restore_2 (by decide) en_107 rfl ?_
  refine z_aload_n dX8_restore_5 rfl ?_
  refine z_gI (v := (M 107 54)) fl_X8_298 dX8_restore_6 en_107 rfl rfl ?_
  refine z_if_ne (tgt := 14) dX8_restore_9 rfl (fun g1 => ?_) (fun g1 => ?_)
  · replace h := (if_pos g1).symm.trans h
    refine z_ic kc_p0 dX8_restore_12 ?_
    cases h
    exact z_rZ dX8_restore_13 rfl rfl
  · replace h := (if_neg g1).symm.trans h
    refine z_aload_n dX8_restore_14 rfl ?_
    refine z_aload_n dX8_restore_15 rfl ?_
    refine z_gI (v := (M 107 55)) fl_X8_391 dX8_restore_16 en_107 rfl rfl ?_
    obtain ⟨g2, h⟩ := z_ifn h
    refine z_pZ fp_X8_285 dX8_restore_19 (by decide) en_107 rfl g2 ?_
    refine z_aload_n dX8_restore_22 rfl ?_
    refine z_aload_n dX8_restore_23 rfl ?_
    refine z_gI (v := (M 107 56)) fl_X8_394 dX8_restore_24 en_107 rfl rfl ?_
    refine z_pI fp_X8_282 dX8_restore_27 (by decide) en_107 rfl ?_
    refine z_aload_n dX8_restore_30 rfl ?_
    refine z_aload_n dX8_restore_31 rfl ?_
    refine z_gI (v := (M 107 57)) fl_X8_397 dX8_restore_32 en_107 rfl rfl ?_
    refine z_pI fp_X8_362 dX8_restore_35 (by decide) en_107 rfl ?_
    refine z_aload_n dX8_restore_38 rfl ?_
    refine z_aload_n dX8_restore_39 rfl ?_
    refine z_gI (v := (M 107 58)) fl_X8_400 dX8_restore_40 en_107 rfl rfl ?_
    refine z_pI fp_X8_292 dX8_restore_43 (by decide) en_107 rfl ?_
    refine z_aload_n dX8_restore_46 rfl ?_
    refine z_ic kc_p0 dX8_restore_47 ?_
    refine z_pI fp_X8_289 dX8_restore_48 (by decide) en_107 rfl ?_
    refine z_aload_n dX8_restore_51 rfl ?_
    refine z_getR (q := 124) fl_X8_73 dX8_restore_52 en_107 rfl ?_
    refine z_aload_n dX8_restore_55 rfl ?_
    refine z_getR (q := 143) fl_X8_131 dX8_restore_56 en_107 rfl ?_
    obtain ⟨M4, c3, h⟩ := z_bv_c h
    refine z_cS (av := [.ref 124, .ref 143]) (st := []) lk_X8_403 dX8_restore_59 (z_Ct.to (A_X8_be (d := d + 0) hl (by decide) (by decide) (by decide) (by decide) en_124 en_143) c3) rfl rfl (Nat.le_of_ble_eq_true rfl) rfl z_len rfl rfl ?_
    refine z_aload_n dX8_restore_62 rfl ?_
    refine z_getR (q := 125) fl_X8_76 dX8_restore_63 en_107 rfl ?_
    refine z_aload_n dX8_restore_66 rfl ?_
    refine z_getR (q := 144) fl_X8_134 dX8_restore_67 en_107 rfl ?_
    obtain ⟨M6, c5, h⟩ := z_bv_c h
    refine z_cS (av := [.ref 125, .ref 144]) (st := []) lk_X8_403 dX8_restore_70 (z_Ct.to (A_X8_be (d := d + 0) hl (by decide) (by decide) (by decide) (by decide) en_125 en_144) c5) rfl rfl (Nat.le_of_ble_eq_true rfl) rfl z_len rfl rfl ?_
    refine z_aload_n dX8_restore_73 rfl ?_
    refine z_getR (q := 136) fl_X8_110 dX8_restore_74 en_107 rfl ?_
    refine z_aload_n dX8_restore_77 rfl ?_
    refine z_getR (q := 145) fl_X8_137 dX8_restore_78 en_107 rfl ?_
    obtain ⟨M8, c7, h⟩ := z_bv_c h
    refine z_cS (av := [.ref 136, .ref 145]) (st := []) lk_X8_403 dX8_restore_81 (z_Ct.to (A_X8_be (d := d + 0) hl (by decide) (by decide) (by decide) (by decide) en_136 en_145) c7) rfl rfl (Nat.le_of_ble_eq_true rfl) rfl z_len rfl rfl ?_
    refine z_aload_n dX8_restore_84 rfl ?_
    refine z_getR (q := 137) fl_X8_113 dX8_restore_85 en_107 rfl ?_
    refine z_aload_n dX8_restore_88 rfl ?_
    refine z_getR (q := 146) fl_X8_140 dX8_restore_89 en_107 rfl ?_
    obtain ⟨M10, c9, h⟩ := z_bv_c h
    refine z_cS (av := [.ref 137, .ref 146]) (st := []) lk_X8_403 dX8_restore_92 (z_Ct.to (A_X8_be (d := d + 0) hl (by decide) (by decide) (by decide) (by decide) en_137 en_146) c9) rfl rfl (Nat.le_of_ble_eq_true rfl) rfl z_len rfl rfl ?_
    refine z_aload_n dX8_restore_95 rfl ?_
    refine z_getR (q := 138) fl_X8_116 dX8_restore_96 en_107 rfl ?_
    refine z_aload_n dX8_restore_99 rfl ?_
    refine z_getR (q := 147) fl_X8_143 dX8_restore_100 en_107 rfl ?_
    obtain ⟨M12, c11, h⟩ := z_bv_c h
    refine z_cS (av := [.ref 138, .ref 147]) (st := []) lk_X8_403 dX8_restore_103 (z_Ct.to (A_X8_be (d := d + 0) hl (by decide) (by decide) (by decide) (by decide) en_138 en_147) c11) rfl rfl (Nat.le_of_ble_eq_true rfl) rfl z_len rfl rfl ?_
    refine z_aload_n dX8_restore_106 rfl ?_
    refine z_getR (q := 122) fl_X8_63 dX8_restore_107 en_107 rfl ?_
    refine z_aload_n dX8_restore_110 rfl ?_
    refine z_getR (q := 148) fl_X8_146 dX8_restore_111 en_107 rfl ?_
    obtain ⟨M14, c13, h⟩ := z_bv_c h
    refine z_cS (av := [.ref 122, .ref 148]) (st := []) lk_X8_403 dX8_restore_114 (z_Ct.to (A_X8_be (d := d + 0) hl (by decide) (by decide) (by decide) (by decide) en_122 en_148) c13) rfl rfl (Nat.le_of_ble_eq_true rfl) rfl z_len rfl rfl ?_
    refine z_ic kc_p1 dX8_restore_117 ?_
    cases h
    exact z_rZ dX8_restore_118 rfl rfl
/-! X8_isTrunk 107 -/
def f_X8_isTrunk_107 (x1 : Int32) (M : zMM) : Option (Int32 × zMM) :=
  z_bi (f_X8_isIn x1 (0 : Int32) ((M 109 1) - (1 : Int32)) M) fun v2 M3 =>
  if z_zb v2 = true then some (v2, M3) else none
theorem A_X8_isTrunk_107 {l : Launch} (hl : l.stackTraces = false) {Ls d : Nat} {Lm : zML} {x1 : Int32} {M M' : zMM} {v : Int32} (h : f_X8_isTrunk_107 x1 M = some (v, M')) : z_Ct l mX8_isTrunk (d + 1) 0 0 [.ref 107, .int x1] (z_L0 Ls, M, Lm) (.inl (some (.int v))) (z_L0 Ls, M', Lm) := by
  replace h : (  z_bi (f_X8_isIn x1 (0 : Int32) ((M 109 1) - (1 : Int32)) M) fun v2 M3 =>
  if z_zb v2 = true then some (v2, M3) else none) = some (v, M') := h
  refine z_Ct.of hl (by decide) (Nat.le_of_ble_eq_true rfl) rfl ?_
  show z_AW l mX8_isTrunk (d + 1) 0 0 0 [.ref 107, .int x1] [] (z_L0 Ls, M, Lm) (.inl (some (.int v))) (z_L0 Ls, M', Lm)
  refine z_iload_n dX8_isTrunk_0 rfl ?_
  refine z_ic kc_p0 dX8_isTrunk_1 ?_
  refine z_aload_n dX8_isTrunk_2 rfl ?_
  refine z_getR (q := 109) fl_X8_23 dX8_isTrunk_3 en_107 rfl ?_
  refine z_ic kc_p1 dX8_isTrunk_6 ?_
  refine z_al (v := (M 109 1)) dX8_isTrunk_7 en_109 kn_p1 (z_ib_in rfl) rfl ?_
  refine z_ic kc_p1 dX8_isTrunk_8 ?_
  refine z_isub dX8_isTrunk_9 ?_
  obtain ⟨v2, M3, c1, h⟩ := z_bi_c h
  refine z_cS (av := [.int x1, .int (0 : Int32), .int ((M 109 1) - (1 : Int32))]) (st := []) lk_X8_152 dX8_isTrunk_10 (A_X8_isIn (d := d + 0) hl c1) rfl rfl (Nat.le_of_ble_eq_true rfl) rfl z_len rfl rfl ?_
  obtain ⟨g4, h⟩ := z_ifn h
  cases h
  exact z_rZ dX8_isTrunk_13 rfl g4
/-! X8_rides 107 -/
def f_X8_rides_107 (x1 : Int32) (M : zMM) : Option (Int32 × zMM) :=
  z_bi (f_X8_isTrunk_107 x1 (z_up M 107 1 (0 : Int32))) fun v2 M3 =>
  if v2 = 0 then
    z_bi (f_X8_fail_107 (1 : Int32) M3) fun v6 M7 =>
    some (v6, M7)
  else
    if (M3 107 53) = 0 then
      z_bi (f_X8_fail_107 (1 : Int32) M3) fun v10 M11 =>
      some (v10, M11)
    else
      if z_ib x1 5 = true then
        some ((M3 142 x1.toNatClampNeg), M3)
      else none
theorem A_X8_rides_107 {l : Launch} (hl : l.stackTraces = false) {Ls d : Nat} {Lm : zML} {x1 : Int32} {M M' : zMM} {v : Int32} (h : f_X8_rides_107 x1 M = some (v, M')) : z_Ct l mX8_rides (d + 2) 0 0 [.ref 107, .int x1] (z_L0 Ls, M, Lm) (.inl (some (.int v))) (z_L0 Ls, M', Lm) := by
  replace h : (  z_bi (f_X8_isTrunk_107 x1 (z_up M 107 1 (0 : Int32))) fun v2 M3 =>
  if v2 = 0 then
    z_bi (f_X8_fail_107 (1 : Int32) M3) fun v6 M7 =>
    some (v6, M7)
  else
    if (M3 107 53) = 0 then
      z_bi (f_X8_fail_107 (1 : Int32) M3) fun v10 M11 =>
      some (v10, M11)
    else
      if z_ib x1 5 = true then
        some ((M3 142 x1.toNatClampNeg), M3)
      else none) = some (v, M') := h
  refine z_Ct.of hl (by decide) (Nat.le_of_ble_eq_true rfl) rfl ?_
  show z_AW l mX8_rides (d + 2) 0 0 0 [.ref 107, .int x1] [] (z_L0 Ls, M, Lm) (.inl (some (.int v))) (z_L0 Ls, M', Lm)
  refine z_aload_n dX8_rides_0 rfl ?_
  refine z_ic kc_p0 dX8_rides_1 ?_
  refine z_pI fp_X8_149 dX8_rides_2 (by decide) en_107 rfl ?_
  refine z_aload_n dX8_rides_5 rfl ?_
  refine z_iload_n dX8_rides_6 rfl ?_
  obtain ⟨v2, M3, c1, h⟩ := z_bi_c h
  refine z_cV (av := [.int x1]) (st := []) lk_X8_313 dX8_rides_7 (A_X8_isTrunk_107 (d := d + 0) hl c1) rfl rfl en_107 rfl (Nat.le_of_ble_eq_true rfl) rfl z_len rfl rfl ?_
  refine z_if_eq (tgt := 29) dX8_rides_10 rfl (fun g4 => ?_) (fun g4 => ?_)
  · replace h := (if_pos g4).symm.trans h
    refine z_aload_n dX8_rides_29 rfl ?_
    refine z_ic kc_p1 dX8_rides_30 ?_
    obtain ⟨v6, M7, c5, h⟩ := z_bi_c h
    refine z_cV (av := [.int (1 : Int32)]) (st := []) lk_X8_268 dX8_rides_31 (A_X8_fail_107 (d := d + 1) hl c5) rfl rfl en_107 rfl (Nat.le_of_ble_eq_true rfl) rfl z_len rfl rfl ?_
    cases h
    exact z_rI dX8_rides_34 rfl
  · replace h := (if_neg g4).symm.trans h
    refine z_aload_n dX8_rides_13 rfl ?_
    refine z_gI (v := (M3 107 53)) fl_X8_295 dX8_rides_14 en_107 rfl rfl ?_
    refine z_if_eq (tgt := 29) dX8_rides_17 rfl (fun g8 => ?_) (fun g8 => ?_)
    · replace h := (if_pos g8).symm.trans h
      refine z_aload_n dX8_rides_29 rfl ?_
      refine z_ic kc_p1 dX8_rides_30 ?_
      obtain ⟨v10, M11, c9, h⟩ := z_bi_c h
      refine z_cV (av := [.int (1 : Int32)]) (st := []) lk_X8_268 dX8_rides_31 (A_X8_fail_107 (d := d + 1) hl c9) rfl rfl en_107 rfl (Nat.le_of_ble_eq_true rfl) rfl z_len rfl rfl ?_
      cases h
      exact z_rI dX8_rides_34 rfl
    · replace h := (if_neg g8).symm.trans h
      refine z_aload_n dX8_rides_20 rfl ?_
      refine z_getR (q := 142) fl_X8_128 dX8_rides_21 en_107 rfl ?_
      refine z_iload_n dX8_rides_24 rfl ?_
      obtain ⟨g12, h⟩ := z_ifn h
      refine z_al (v := (M3 142 x1.toNatClampNeg)) dX8_rides_25 en_142 rfl (z_ib_in g12) rfl ?_
      refine z_goto (tgt := 34) dX8_rides_26 rfl ?_
      cases h
      exact z_rI dX8_rides_34 rfl
/-! X8_seed 107 -/
def f_X8_seed_107 (x1 : Int32) (M : zMM) : Option zMM :=
  some (z_up (z_up (z_up M 107 1 (0 : Int32)) 107 30 x1) 107 33 (1 : Int32))
theorem A_X8_seed_107 {l : Launch} (hl : l.stackTraces = false) {Ls d : Nat} {Lm : zML} {x1 : Int32} {M M' : zMM} (h : f_X8_seed_107 x1 M = some M') : z_Ct l mX8_seed (d + 0) 0 0 [.ref 107, .int x1] (z_L0 Ls, M, Lm) (.inl none) (z_L0 Ls, M', Lm) := by
  replace h : (  some (z_up (z_up (z_up M 107 1 (0 : Int32)) 107 30 x1) 107 33 (1 : Int32))) = some M' := h
  refine z_Ct.of hl (by decide) (Nat.le_of_ble_eq_true rfl) rfl ?_
  show z_AW l mX8_seed (d + 0) 0 0 0 [.ref 107, .int x1] [] (z_L0 Ls, M, Lm) (.inl none) (z_L0 Ls, M', Lm)
  refine z_aload_n dX8_seed_0 rfl ?_
  refine z_ic kc_p0 dX8_seed_1 ?_
  refine z_pI fp_X8_149 dX8_seed_2 (by decide) en_107 rfl ?_
  refine z_aload_n dX8_seed_5 rfl ?_
  refine z_iload_n dX8_seed_6 rfl ?_
  refine z_pI fp_X8_362 dX8_seed_7 (by decide) en_107 rfl ?_
  refine z_aload_n dX8_seed_10 rfl ?_
  refine z_ic kc_p1 dX8_seed_11 ?_
  refine z_pZ fp_X8_285 dX8_seed_12 (by decide) en_107 rfl rfl ?_
  cases h
  exact z_return dX8_seed_15 rfl
/-! X8_slips 107 -/
def f_X8_slips_107 (x1 : Int32) (M : zMM) : Option (Int32 × zMM) :=
  if (M 107 33) = 0 then
    some ((0 : Int32), M)
  else
    if z_ib x1 10 = true then
      if (M 111 x1.toNatClampNeg) ≤ ((((((M 107 30) * (1103515245 : Int32)) + (12345 : Int32)) >>> ((16 : Int32) &&& 31)) &&& (32767 : Int32)) - (((((M 107 30) * (1103515245 : Int32)) + (12345 : Int32)) >>> ((16 : Int32) &&& 31)) &&& (32767 : Int32)) / (1000 : Int32) * (1000 : Int32)) then
        some ((0 : Int32), (z_up M 107 30 (((M 107 30) * (1103515245 : Int32)) + (12345 : Int32))))
      else
        some ((1 : Int32), (z_up M 107 30 (((M 107 30) * (1103515245 : Int32)) + (12345 : Int32))))
    else none
theorem A_X8_slips_107 {l : Launch} (hl : l.stackTraces = false) {Ls d : Nat} {Lm : zML} {x1 : Int32} {M M' : zMM} {v : Int32} (h : f_X8_slips_107 x1 M = some (v, M')) : z_Ct l mX8_slips (d + 0) 0 0 [.ref 107, .int x1] (z_L0 Ls, M, Lm) (.inl (some (.int v))) (z_L0 Ls, M', Lm) := by
  replace h : (  if (M 107 33) = 0 then
    some ((0 : Int32), M)
  else
    if z_ib x1 10 = true then
      if (M 111 x1.toNatClampNeg) ≤ ((((((M 107 30) * (1103515245 : Int32)) + (12345 : Int32)) >>> ((16 : Int32) &&& 31)) &&& (32767 : Int32)) - (((((M 107 30) * (1103515245 : Int32)) + (12345 : Int32)) >>> ((16 : Int32) &&& 31)) &&& (32767 : Int32)) / (1000 : Int32) * (1000 : Int32)) then
        some ((0 : Int32), (z_up M 107 30 (((M 107 30) * (1103515245 : Int32)) + (12345 : Int32))))
      else
        some ((1 : Int32), (z_up M 107 30 (((M 107 30) * (1103515245 : Int32)) + (12345 : Int32))))
    else none) = some (v, M') := h
  refine z_Ct.of hl (by decide) (Nat.le_of_ble_eq_true rfl) rfl ?_
  show z_AW l mX8_slips (d + 0) 0 0 0 [.ref 107, .int x1] [] (z_L0 Ls, M, Lm) (.inl (some (.int v))) (z_L0 Ls, M', Lm)
  refine z_aload_n dX8_slips_0 rfl ?_
  refine z_gI (v := (M 107 33)) fl_X8_285 dX8_slips_1 en_107 rfl rfl ?_
  refine z_if_ne (tgt := 9) dX8_slips_4 rfl (fun g1 => ?_) (fun g1 => ?_)
  · replace h := (if_pos g1).symm.trans h
    refine z_ic kc_p0 dX8_slips_7 ?_
    cases h
    exact z_rZ dX8_slips_8 rfl rfl
  · replace h := (if_neg g1).symm.trans h
    refine z_aload_n dX8_slips_9 rfl ?_
    refine z_aload_n dX8_slips_10 rfl ?_
    refine z_gI (v := (M 107 30)) fl_X8_362 dX8_slips_11 en_107 rfl rfl ?_
    refine z_ldcw (v := (1103515245 : Int32)) kc_X8_365 dX8_slips_14 ?_
    refine z_imul dX8_slips_17 ?_
    refine z_sp ks_p12345 dX8_slips_18 ?_
    refine z_iadd dX8_slips_21 ?_
    refine z_pI fp_X8_362 dX8_slips_22 (by decide) en_107 rfl ?_
    refine z_aload_n dX8_slips_25 rfl ?_
    refine z_gI (v := (((M 107 30) * (1103515245 : Int32)) + (12345 : Int32))) fl_X8_362 dX8_slips_26 en_107 rfl rfl ?_
    refine z_bp kb_p16 dX8_slips_29 ?_
    refine z_ishr dX8_slips_31 ?_
    refine z_sp ks_p32767 dX8_slips_32 ?_
    refine z_iand dX8_slips_35 ?_
    refine z_sp ks_p1000 dX8_slips_36 ?_
    refine z_irem dX8_slips_39 (by decide) ?_
    refine z_aload_n dX8_slips_40 rfl ?_
    refine z_getR (q := 111) fl_X8_30 dX8_slips_41 en_107 rfl ?_
    refine z_iload_n dX8_slips_44 rfl ?_
    obtain ⟨g2, h⟩ := z_ifn h
    refine z_al (v := (M 111 x1.toNatClampNeg)) dX8_slips_45 en_111 rfl (z_ib_in g2) rfl ?_
    refine z_icmp_ge (tgt := 53) dX8_slips_46 rfl (fun g3 => ?_) (fun g3 => ?_)
    · replace h := (if_pos g3).symm.trans h
      refine z_ic kc_p0 dX8_slips_53 ?_
      cases h
      exact z_rZ dX8_slips_54 rfl rfl
    · replace h := (if_neg g3).symm.trans h
      refine z_ic kc_p1 dX8_slips_49 ?_
      refine z_goto (tgt := 54) dX8_slips_50 rfl ?_
      cases h
      exact z_rZ dX8_slips_54 rfl rfl
/-! X8_send 107 -/
def f_X8_send_107_p64 (M : zMM) : Option (Int32 × zMM) :=
  some ((-1 : Int32), (z_up M 122 1 ((M 122 1) + (1 : Int32))))
def f_X8_send_107_p243 (x1 : Int32) (x3 : Int32) (x4 : Int32) (M : zMM) : Option (Int32 × zMM) :=
  if z_ib x1 5 = true then
    if z_ib x1 5 = true then
      some (x4, (z_up (z_up M 124 x1.toNatClampNeg x3) 125 x1.toNatClampNeg x4))
    else none
  else none
def f_X8_send_107_p200 (K97 : Int32 → Int32 → Int32 → Int32 → Int32 → zMM → Option (Int32 × zMM)) (x1 : Int32) (x2 : Int32) (x3 : Int32) (x4 : Int32) (x5 : Int32) (x6 : Int32) (x7 : Int32) (M : zMM) : Option (Int32 × zMM) :=
  if z_ib (((5 : Int32) * x3) + x7) 50 = true then
    if x6 = 0 then
      K97 x1 x2 x7 (x4 + ((M 114 (((5 : Int32) * x3) + x7).toNatClampNeg) + (0 : Int32))) x5 M
    else
      if z_ib x3 10 = true then
        if (M 110 x3.toNatClampNeg) = (2 : Int32) then
          K97 x1 x2 x7 (x4 + ((M 114 (((5 : Int32) * x3) + x7).toNatClampNeg) + (1 : Int32))) x5 M
        else
          K97 x1 x2 x7 (x4 + ((M 114 (((5 : Int32) * x3) + x7).toNatClampNeg) + (0 : Int32))) x5 M
      else none
  else none
def f_X8_send_107_p191 (K97 : Int32 → Int32 → Int32 → Int32 → Int32 → zMM → Option (Int32 × zMM)) (x1 : Int32) (x2 : Int32) (x3 : Int32) (x4 : Int32) (x5 : Int32) (x6 : Int32) (x7 : Int32) (x8 : Int32) (M : zMM) : Option (Int32 × zMM) :=
  if x5 = 0 then
    f_X8_send_107_p200 K97 x1 x2 x3 x4 x5 x6 x8 M
  else
    f_X8_send_107_p200 K97 x1 x2 x3 x4 x5 x6 x7 M
def f_X8_send_107_p171 (K97 : Int32 → Int32 → Int32 → Int32 → Int32 → zMM → Option (Int32 × zMM)) (x1 : Int32) (x2 : Int32) (x3 : Int32) (x4 : Int32) (x6 : Int32) (x7 : Int32) (x8 : Int32) (a0 : Int32) (M : zMM) : Option (Int32 × zMM) :=
  if x6 = 0 then
    f_X8_send_107_p191 K97 x1 x2 x3 x4 a0 x6 x7 x8 M
  else
    if z_ib x3 10 = true then
      if (M 110 x3.toNatClampNeg) = (3 : Int32) then
        K97 x1 x2 x3 x4 a0 M
      else
        f_X8_send_107_p191 K97 x1 x2 x3 x4 a0 x6 x7 x8 M
    else none
def f_X8_send_107_p166 (K97 : Int32 → Int32 → Int32 → Int32 → Int32 → zMM → Option (Int32 × zMM)) (x1 : Int32) (x2 : Int32) (x3 : Int32) (x4 : Int32) (x6 : Int32) (x7 : Int32) (x8 : Int32) (M : zMM) : Option (Int32 × zMM) :=
  f_X8_send_107_p171 K97 x1 x2 x3 x4 x6 x7 x8 (1 : Int32) M
def f_X8_send_107_p170 (K97 : Int32 → Int32 → Int32 → Int32 → Int32 → zMM → Option (Int32 × zMM)) (x1 : Int32) (x2 : Int32) (x3 : Int32) (x4 : Int32) (x6 : Int32) (x7 : Int32) (x8 : Int32) (M : zMM) : Option (Int32 × zMM) :=
  f_X8_send_107_p171 K97 x1 x2 x3 x4 x6 x7 x8 (0 : Int32) M
def f_X8_send_107_p97 : Nat → Int32 → Int32 → Int32 → Int32 → Int32 → zMM → Option (Int32 × zMM)
  | 0, _, _, _, _, _, _ => none
  | n + 1, x1, x2, x3, x4, x5, M =>
  if x5 = 0 then
    f_X8_send_107_p243 x1 x3 x4 M
  else
    if x3 = x2 then
      f_X8_send_107_p243 x1 x3 x4 M
    else
      z_bi (f_X8_slips_107 x3 M) fun v33 M34 =>
      if z_ib (((5 : Int32) * x3) + x2) 25 = true then
        z_bi (f_X8_elsewhere_107 x3 (M34 127 (((5 : Int32) * x3) + x2).toNatClampNeg) M34) fun v37 M38 =>
        if v33 = 0 then
          f_X8_send_107_p166 (f_X8_send_107_p97 n) x1 x2 x3 x4 v33 (M34 127 (((5 : Int32) * x3) + x2).toNatClampNeg) v37 M38
        else
          if z_ib x3 10 = true then
            if (M38 110 x3.toNatClampNeg) = (3 : Int32) then
              f_X8_send_107_p170 (f_X8_send_107_p97 n) x1 x2 x3 x4 v33 (M34 127 (((5 : Int32) * x3) + x2).toNatClampNeg) v37 M38
            else
              if z_ib x3 10 = true then
                if (M38 110 x3.toNatClampNeg) = (1 : Int32) then
                  if v37 = (-1 : Int32) then
                    f_X8_send_107_p166 (f_X8_send_107_p97 n) x1 x2 x3 x4 v33 (M34 127 (((5 : Int32) * x3) + x2).toNatClampNeg) v37 M38
                  else
                    f_X8_send_107_p170 (f_X8_send_107_p97 n) x1 x2 x3 x4 v33 (M34 127 (((5 : Int32) * x3) + x2).toNatClampNeg) v37 M38
                else
                  f_X8_send_107_p166 (f_X8_send_107_p97 n) x1 x2 x3 x4 v33 (M34 127 (((5 : Int32) * x3) + x2).toNatClampNeg) v37 M38
              else none
          else none
      else none
def f_X8_send_107 (x1 : Int32) (x2 : Int32) (M : zMM) : Option (Int32 × zMM) :=
  z_bi (f_X8_isTrunk_107 x1 (z_up M 107 1 (0 : Int32))) fun v2 M3 =>
  if v2 = 0 then
    z_bi (f_X8_fail_107 (1 : Int32) M3) fun v6 M7 =>
    some (v6, M7)
  else
    z_bi (f_X8_isTown_107 x2 M3) fun v9 M10 =>
    if v9 = 0 then
      z_bi (f_X8_fail_107 (1 : Int32) M10) fun v13 M14 =>
      some (v13, M14)
    else
      if z_ib x1 5 = true then
        if (M10 107 29) < (M10 125 x1.toNatClampNeg) then
          f_X8_send_107_p64  M10
        else
          if z_ib x1 5 = true then
            if (M10 124 x1.toNatClampNeg) = x2 then
              f_X8_send_107_p64  M10
            else
              if z_ib x1 5 = true then
                z_bi (f_X8_hasWay_107 (M10 124 x1.toNatClampNeg) x2 M10) fun v21 M22 =>
                if v21 = 0 then
                  f_X8_send_107_p64  M22
                else
                  z_bv (f_X8_note_107 x1 M22) fun M26 =>
                  if z_ib x1 5 = true then
                    f_X8_send_107_p97 z_fuel x1 x2 (M26 124 x1.toNatClampNeg) (M26 107 29) (1 : Int32) M26
                  else none
              else none
          else none
      else none
theorem A_X8_send_107_p64 {l : Launch} (hl : l.stackTraces = false) {Ls d : Nat} {Lm : zML} :
    ∀ (M M' : zMM) (v : Int32) , f_X8_send_107_p64  M = some (v, M') → z_AW l mX8_send (d + 2) 0 0 64 [.ref 107, .null, .null, .null, .null, .null, .null, .null, .null] [] (z_L0 Ls, M, Lm) (.inl (some (.int v))) (z_L0 Ls, M', Lm) := by
  intro  M M' v h
  replace h : (  some ((-1 : Int32), (z_up M 122 1 ((M 122 1) + (1 : Int32))))) = some (v, M') := h
  refine z_aload_n dX8_send_64 rfl ?_
  refine z_getR (q := 122) fl_X8_63 dX8_send_65 en_107 rfl ?_
  refine z_ic kc_p1 dX8_send_68 ?_
  refine z_dup2 dX8_send_69 rfl rfl ?_
  refine z_al (v := (M 122 1)) dX8_send_70 en_122 kn_p1 (z_ib_in rfl) rfl ?_
  refine z_ic kc_p1 dX8_send_71 ?_
  refine z_iadd dX8_send_72 ?_
  refine z_as dX8_send_73 (by decide) en_122 kn_p1 (z_ib_in rfl) ?_
  refine z_ic kc_m1 dX8_send_74 ?_
  cases h
  exact z_rI dX8_send_75 rfl
theorem A_X8_send_107_p243 {l : Launch} (hl : l.stackTraces = false) {Ls d : Nat} {Lm : zML} :
    ∀ (x1 : Int32) (x3 : Int32) (x4 : Int32) (M M' : zMM) (v : Int32) , f_X8_send_107_p243 x1 x3 x4 M = some (v, M') → z_AW l mX8_send (d + 2) 0 0 243 [.ref 107, .int x1, .null, .int x3, .int x4, .null, .null, .null, .null] [] (z_L0 Ls, M, Lm) (.inl (some (.int v))) (z_L0 Ls, M', Lm) := by
  intro x1 x3 x4 M M' v h
  replace h : (  if z_ib x1 5 = true then
    if z_ib x1 5 = true then
      some (x4, (z_up (z_up M 124 x1.toNatClampNeg x3) 125 x1.toNatClampNeg x4))
    else none
  else none) = some (v, M') := h
  refine z_aload_n dX8_send_243 rfl ?_
  refine z_getR (q := 124) fl_X8_73 dX8_send_244 en_107 rfl ?_
  refine z_iload_n dX8_send_247 rfl ?_
  refine z_iload_n dX8_send_248 rfl ?_
  obtain ⟨g29, h⟩ := z_ifn h
  refine z_as dX8_send_249 (by decide) en_124 rfl (z_ib_in g29) ?_
  refine z_aload_n dX8_send_250 rfl ?_
  refine z_getR (q := 125) fl_X8_76 dX8_send_251 en_107 rfl ?_
  refine z_iload_n dX8_send_254 rfl ?_
  refine z_iload dX8_send_255 rfl ?_
  obtain ⟨g30, h⟩ := z_ifn h
  refine z_as dX8_send_257 (by decide) en_125 rfl (z_ib_in g30) ?_
  refine z_iload dX8_send_258 rfl ?_
  cases h
  exact z_rI dX8_send_260 rfl
theorem A_X8_send_107_p200 {l : Launch} (hl : l.stackTraces = false) {Ls d : Nat} {Lm : zML} {K97 : Int32 → Int32 → Int32 → Int32 → Int32 → zMM → Option (Int32 × zMM)}
    (hK97 : ∀ (x1 : Int32) (x2 : Int32) (x3 : Int32) (x4 : Int32) (x5 : Int32) (M M' : zMM) (v : Int32) , K97 x1 x2 x3 x4 x5 M = some (v, M') → z_AW l mX8_send (d + 2) 0 0 97 [.ref 107, .int x1, .int x2, .int x3, .int x4, .int x5, .null, .null, .null] [] (z_L0 Ls, M, Lm) (.inl (some (.int v))) (z_L0 Ls, M', Lm)) :
    ∀ (x1 : Int32) (x2 : Int32) (x3 : Int32) (x4 : Int32) (x5 : Int32) (x6 : Int32) (x7 : Int32) (M M' : zMM) (v : Int32) , f_X8_send_107_p200 K97 x1 x2 x3 x4 x5 x6 x7 M = some (v, M') → z_AW l mX8_send (d + 2) 0 0 200 [.ref 107, .int x1, .int x2, .int x3, .int x4, .int x5, .int x6, .int x7, .null] [] (z_L0 Ls, M, Lm) (.inl (some (.int v))) (z_L0 Ls, M', Lm) := by
  intro x1 x2 x3 x4 x5 x6 x7 M M' v h
  replace h : (  if z_ib (((5 : Int32) * x3) + x7) 50 = true then
    if x6 = 0 then
      K97 x1 x2 x7 (x4 + ((M 114 (((5 : Int32) * x3) + x7).toNatClampNeg) + (0 : Int32))) x5 M
    else
      if z_ib x3 10 = true then
        if (M 110 x3.toNatClampNeg) = (2 : Int32) then
          K97 x1 x2 x7 (x4 + ((M 114 (((5 : Int32) * x3) + x7).toNatClampNeg) + (1 : Int32))) x5 M
        else
          K97 x1 x2 x7 (x4 + ((M 114 (((5 : Int32) * x3) + x7).toNatClampNeg) + (0 : Int32))) x5 M
      else none
  else none) = some (v, M') := h
  refine z_iload dX8_send_200 rfl ?_
  refine z_aload_n dX8_send_202 rfl ?_
  refine z_getR (q := 114) fl_X8_39 dX8_send_203 en_107 rfl ?_
  refine z_ic kc_p5 dX8_send_206 ?_
  refine z_iload_n dX8_send_207 rfl ?_
  refine z_imul dX8_send_208 ?_
  refine z_iload dX8_send_209 rfl ?_
  refine z_iadd dX8_send_211 ?_
  obtain ⟨g42, h⟩ := z_ifn h
  refine z_al (v := (M 114 (((5 : Int32) * x3) + x7).toNatClampNeg)) dX8_send_212 en_114 rfl (z_ib_in g42) rfl ?_
  refine z_iload dX8_send_213 rfl ?_
  refine z_if_eq (tgt := 232) dX8_send_215 rfl (fun g43 => ?_) (fun g43 => ?_)
  · replace h := (if_pos g43).symm.trans h
    refine z_ic kc_p0 dX8_send_232 ?_
    refine z_iadd dX8_send_233 ?_
    refine z_iadd dX8_send_234 ?_
    refine z_istore (ls' := [.ref 107, .int x1, .int x2, .int x3, .int (x4 + ((M 114 (((5 : Int32) * x3) + x7).toNatClampNeg) + (0 : Int32))), .int x5, .int x6, .int x7, .null]) dX8_send_235 (by decide) rfl ?_
    refine z_iload dX8_send_237 rfl ?_
    refine z_istore_n (ls' := [.ref 107, .int x1, .int x2, .int x7, .int (x4 + ((M 114 (((5 : Int32) * x3) + x7).toNatClampNeg) + (0 : Int32))), .int x5, .int x6, .int x7, .null]) dX8_send_239 (by decide) rfl ?_
    refine z_goto (tgt := 97) dX8_send_240 rfl ?_
    refine z_fg (ls' := [.ref 107, .int x1, .int x2, .int x7, .int (x4 + ((M 114 (((5 : Int32) * x3) + x7).toNatClampNeg) + (0 : Int32))), .int x5, .null, .null, .null]) ⟨Or.inr rfl, Or.inr rfl, Or.inr rfl, Or.inr rfl, Or.inr rfl, Or.inr rfl, Or.inl rfl, Or.inl rfl, Or.inl rfl, trivial⟩ ?_
    exact hK97 x1 x2 x7 (x4 + ((M 114 (((5 : Int32) * x3) + x7).toNatClampNeg) + (0 : Int32))) x5 _ _ _ h
  · replace h := (if_neg g43).symm.trans h
    refine z_aload_n dX8_send_218 rfl ?_
    refine z_getR (q := 110) fl_X8_27 dX8_send_219 en_107 rfl ?_
    refine z_iload_n dX8_send_222 rfl ?_
    obtain ⟨g44, h⟩ := z_ifn h
    refine z_al (v := (M 110 x3.toNatClampNeg)) dX8_send_223 en_110 rfl (z_ib_in g44) rfl ?_
    refine z_ic kc_p2 dX8_send_224 ?_
    refine z_icmp_ne (tgt := 232) dX8_send_225 rfl (fun g45 => ?_) (fun g45 => ?_)
    · replace h := (if_pos g45).symm.trans h
      refine z_ic kc_p1 dX8_send_228 ?_
      refine z_goto (tgt := 233) dX8_send_229 rfl ?_
      refine z_iadd dX8_send_233 ?_
      refine z_iadd dX8_send_234 ?_
      refine z_istore (ls' := [.ref 107, .int x1, .int x2, .int x3, .int (x4 + ((M 114 (((5 : Int32) * x3) + x7).toNatClampNeg) + (1 : Int32))), .int x5, .int x6, .int x7, .null]) dX8_send_235 (by decide) rfl ?_
      refine z_iload dX8_send_237 rfl ?_
      refine z_istore_n (ls' := [.ref 107, .int x1, .int x2, .int x7, .int (x4 + ((M 114 (((5 : Int32) * x3) + x7).toNatClampNeg) + (1 : Int32))), .int x5, .int x6, .int x7, .null]) dX8_send_239 (by decide) rfl ?_
      refine z_goto (tgt := 97) dX8_send_240 rfl ?_
      refine z_fg (ls' := [.ref 107, .int x1, .int x2, .int x7, .int (x4 + ((M 114 (((5 : Int32) * x3) + x7).toNatClampNeg) + (1 : Int32))), .int x5, .null, .null, .null]) ⟨Or.inr rfl, Or.inr rfl, Or.inr rfl, Or.inr rfl, Or.inr rfl, Or.inr rfl, Or.inl rfl, Or.inl rfl, Or.inl rfl, trivial⟩ ?_
      exact hK97 x1 x2 x7 (x4 + ((M 114 (((5 : Int32) * x3) + x7).toNatClampNeg) + (1 : Int32))) x5 _ _ _ h
    · replace h := (if_neg g45).symm.trans h
      refine z_ic kc_p0 dX8_send_232 ?_
      refine z_iadd dX8_send_233 ?_
      refine z_iadd dX8_send_234 ?_
      refine z_istore (ls' := [.ref 107, .int x1, .int x2, .int x3, .int (x4 + ((M 114 (((5 : Int32) * x3) + x7).toNatClampNeg) + (0 : Int32))), .int x5, .int x6, .int x7, .null]) dX8_send_235 (by decide) rfl ?_
      refine z_iload dX8_send_237 rfl ?_
      refine z_istore_n (ls' := [.ref 107, .int x1, .int x2, .int x7, .int (x4 + ((M 114 (((5 : Int32) * x3) + x7).toNatClampNeg) + (0 : Int32))), .int x5, .int x6, .int x7, .null]) dX8_send_239 (by decide) rfl ?_
      refine z_goto (tgt := 97) dX8_send_240 rfl ?_
      refine z_fg (ls' := [.ref 107, .int x1, .int x2, .int x7, .int (x4 + ((M 114 (((5 : Int32) * x3) + x7).toNatClampNeg) + (0 : Int32))), .int x5, .null, .null, .null]) ⟨Or.inr rfl, Or.inr rfl, Or.inr rfl, Or.inr rfl, Or.inr rfl, Or.inr rfl, Or.inl rfl, Or.inl rfl, Or.inl rfl, trivial⟩ ?_
      exact hK97 x1 x2 x7 (x4 + ((M 114 (((5 : Int32) * x3) + x7).toNatClampNeg) + (0 : Int32))) x5 _ _ _ h
theorem A_X8_send_107_p191 {l : Launch} (hl : l.stackTraces = false) {Ls d : Nat} {Lm : zML} {K97 : Int32 → Int32 → Int32 → Int32 → Int32 → zMM → Option (Int32 × zMM)}
    (hK97 : ∀ (x1 : Int32) (x2 : Int32) (x3 : Int32) (x4 : Int32) (x5 : Int32) (M M' : zMM) (v : Int32) , K97 x1 x2 x3 x4 x5 M = some (v, M') → z_AW l mX8_send (d + 2) 0 0 97 [.ref 107, .int x1, .int x2, .int x3, .int x4, .int x5, .null, .null, .null] [] (z_L0 Ls, M, Lm) (.inl (some (.int v))) (z_L0 Ls, M', Lm)) :
    ∀ (x1 : Int32) (x2 : Int32) (x3 : Int32) (x4 : Int32) (x5 : Int32) (x6 : Int32) (x7 : Int32) (x8 : Int32) (M M' : zMM) (v : Int32) , f_X8_send_107_p191 K97 x1 x2 x3 x4 x5 x6 x7 x8 M = some (v, M') → z_AW l mX8_send (d + 2) 0 0 191 [.ref 107, .int x1, .int x2, .int x3, .int x4, .int x5, .int x6, .int x7, .int x8] [] (z_L0 Ls, M, Lm) (.inl (some (.int v))) (z_L0 Ls, M', Lm) := by
  intro x1 x2 x3 x4 x5 x6 x7 x8 M M' v h
  replace h : (  if x5 = 0 then
    f_X8_send_107_p200 K97 x1 x2 x3 x4 x5 x6 x8 M
  else
    f_X8_send_107_p200 K97 x1 x2 x3 x4 x5 x6 x7 M) = some (v, M') := h
  refine z_iload dX8_send_191 rfl ?_
  refine z_if_ne (tgt := 200) dX8_send_193 rfl (fun g41 => ?_) (fun g41 => ?_)
  · replace h := (if_pos g41).symm.trans h
    refine z_iload dX8_send_196 rfl ?_
    refine z_istore (ls' := [.ref 107, .int x1, .int x2, .int x3, .int x4, .int x5, .int x6, .int x8, .int x8]) dX8_send_198 (by decide) rfl ?_
    refine z_fg (ls' := [.ref 107, .int x1, .int x2, .int x3, .int x4, .int x5, .int x6, .int x8, .null]) ⟨Or.inr rfl, Or.inr rfl, Or.inr rfl, Or.inr rfl, Or.inr rfl, Or.inr rfl, Or.inr rfl, Or.inr rfl, Or.inl rfl, trivial⟩ ?_
    exact A_X8_send_107_p200 hl hK97 x1 x2 x3 x4 x5 x6 x8 _ _ _ h
  · replace h := (if_neg g41).symm.trans h
    refine z_fg (ls' := [.ref 107, .int x1, .int x2, .int x3, .int x4, .int x5, .int x6, .int x7, .null]) ⟨Or.inr rfl, Or.inr rfl, Or.inr rfl, Or.inr rfl, Or.inr rfl, Or.inr rfl, Or.inr rfl, Or.inr rfl, Or.inl rfl, trivial⟩ ?_
    exact A_X8_send_107_p200 hl hK97 x1 x2 x3 x4 x5 x6 x7 _ _ _ h
theorem A_X8_send_107_p171 {l : Launch} (hl : l.stackTraces = false) {Ls d : Nat} {Lm : zML} {K97 : Int32 → Int32 → Int32 → Int32 → Int32 → zMM → Option (Int32 × zMM)}
    (hK97 : ∀ (x1 : Int32) (x2 : Int32) (x3 : Int32) (x4 : Int32) (x5 : Int32) (M M' : zMM) (v : Int32) , K97 x1 x2 x3 x4 x5 M = some (v, M') → z_AW l mX8_send (d + 2) 0 0 97 [.ref 107, .int x1, .int x2, .int x3, .int x4, .int x5, .null, .null, .null] [] (z_L0 Ls, M, Lm) (.inl (some (.int v))) (z_L0 Ls, M', Lm)) :
    ∀ (x1 : Int32) (x2 : Int32) (x3 : Int32) (x4 : Int32) (x6 : Int32) (x7 : Int32) (x8 : Int32) (a0 : Int32) (M M' : zMM) (v : Int32) , f_X8_send_107_p171 K97 x1 x2 x3 x4 x6 x7 x8 a0 M = some (v, M') → z_AW l mX8_send (d + 2) 0 0 171 [.ref 107, .int x1, .int x2, .int x3, .int x4, .null, .int x6, .int x7, .int x8] [.int a0] (z_L0 Ls, M, Lm) (.inl (some (.int v))) (z_L0 Ls, M', Lm) := by
  intro x1 x2 x3 x4 x6 x7 x8 a0 M M' v h
  replace h : (  if x6 = 0 then
    f_X8_send_107_p191 K97 x1 x2 x3 x4 a0 x6 x7 x8 M
  else
    if z_ib x3 10 = true then
      if (M 110 x3.toNatClampNeg) = (3 : Int32) then
        K97 x1 x2 x3 x4 a0 M
      else
        f_X8_send_107_p191 K97 x1 x2 x3 x4 a0 x6 x7 x8 M
    else none) = some (v, M') := h
  refine z_istore (ls' := [.ref 107, .int x1, .int x2, .int x3, .int x4, .int a0, .int x6, .int x7, .int x8]) dX8_send_171 (by decide) rfl ?_
  refine z_iload dX8_send_173 rfl ?_
  refine z_if_eq (tgt := 191) dX8_send_175 rfl (fun g40 => ?_) (fun g40 => ?_)
  · replace h := (if_pos g40).symm.trans h
    exact A_X8_send_107_p191 hl hK97 x1 x2 x3 x4 a0 x6 x7 x8 _ _ _ h
  · replace h := (if_neg g40).symm.trans h
    refine z_aload_n dX8_send_178 rfl ?_
    refine z_getR (q := 110) fl_X8_27 dX8_send_179 en_107 rfl ?_
    refine z_iload_n dX8_send_182 rfl ?_
    obtain ⟨g46, h⟩ := z_ifn h
    refine z_al (v := (M 110 x3.toNatClampNeg)) dX8_send_183 en_110 rfl (z_ib_in g46) rfl ?_
    refine z_ic kc_p3 dX8_send_184 ?_
    refine z_icmp_ne (tgt := 191) dX8_send_185 rfl (fun g47 => ?_) (fun g47 => ?_)
    · replace h := (if_pos g47).symm.trans h
      refine z_goto (tgt := 97) dX8_send_188 rfl ?_
      refine z_fg (ls' := [.ref 107, .int x1, .int x2, .int x3, .int x4, .int a0, .null, .null, .null]) ⟨Or.inr rfl, Or.inr rfl, Or.inr rfl, Or.inr rfl, Or.inr rfl, Or.inr rfl, Or.inl rfl, Or.inl rfl, Or.inl rfl, trivial⟩ ?_
      exact hK97 x1 x2 x3 x4 a0 _ _ _ h
    · replace h := (if_neg g47).symm.trans h
      exact A_X8_send_107_p191 hl hK97 x1 x2 x3 x4 a0 x6 x7 x8 _ _ _ h
theorem A_X8_send_107_p166 {l : Launch} (hl : l.stackTraces = false) {Ls d : Nat} {Lm : zML} {K97 : Int32 → Int32 → Int32 → Int32 → Int32 → zMM → Option (Int32 × zMM)}
    (hK97 : ∀ (x1 : Int32) (x2 : Int32) (x3 : Int32) (x4 : Int32) (x5 : Int32) (M M' : zMM) (v : Int32) , K97 x1 x2 x3 x4 x5 M = some (v, M') → z_AW l mX8_send (d + 2) 0 0 97 [.ref 107, .int x1, .int x2, .int x3, .int x4, .int x5, .null, .null, .null] [] (z_L0 Ls, M, Lm) (.inl (some (.int v))) (z_L0 Ls, M', Lm)) :
    ∀ (x1 : Int32) (x2 : Int32) (x3 : Int32) (x4 : Int32) (x6 : Int32) (x7 : Int32) (x8 : Int32) (M M' : zMM) (v : Int32) , f_X8_send_107_p166 K97 x1 x2 x3 x4 x6 x7 x8 M = some (v, M') → z_AW l mX8_send (d + 2) 0 0 166 [.ref 107, .int x1, .int x2, .int x3, .int x4, .null, .int x6, .int x7, .int x8] [] (z_L0 Ls, M, Lm) (.inl (some (.int v))) (z_L0 Ls, M', Lm) := by
  intro x1 x2 x3 x4 x6 x7 x8 M M' v h
  replace h : (  f_X8_send_107_p171 K97 x1 x2 x3 x4 x6 x7 x8 (1 : Int32) M) = some (v, M') := h
  refine z_ic kc_p1 dX8_send_166 ?_
  refine z_goto (tgt := 171) dX8_send_167 rfl ?_
  exact A_X8_send_107_p171 hl hK97 x1 x2 x3 x4 x6 x7 x8 (1 : Int32) _ _ _ h
theorem A_X8_send_107_p170 {l : Launch} (hl : l.stackTraces = false) {Ls d : Nat} {Lm : zML} {K97 : Int32 → Int32 → Int32 → Int32 → Int32 → zMM → Option (Int32 × zMM)}
    (hK97 : ∀ (x1 : Int32) (x2 : Int32) (x3 : Int32) (x4 : Int32) (x5 : Int32) (M M' : zMM) (v : Int32) , K97 x1 x2 x3 x4 x5 M = some (v, M') → z_AW l mX8_send (d + 2) 0 0 97 [.ref 107, .int x1, .int x2, .int x3, .int x4, .int x5, .null, .null, .null] [] (z_L0 Ls, M, Lm) (.inl (some (.int v))) (z_L0 Ls, M', Lm)) :
    ∀ (x1 : Int32) (x2 : Int32) (x3 : Int32) (x4 : Int32) (x6 : Int32) (x7 : Int32) (x8 : Int32) (M M' : zMM) (v : Int32) , f_X8_send_107_p170 K97 x1 x2 x3 x4 x6 x7 x8 M = some (v, M') → z_AW l mX8_send (d + 2) 0 0 170 [.ref 107, .int x1, .int x2, .int x3, .int x4, .null, .int x6, .int x7, .int x8] [] (z_L0 Ls, M, Lm) (.inl (some (.int v))) (z_L0 Ls, M', Lm) := by
  intro x1 x2 x3 x4 x6 x7 x8 M M' v h
  replace h : (  f_X8_send_107_p171 K97 x1 x2 x3 x4 x6 x7 x8 (0 : Int32) M) = some (v, M') := h
  refine z_ic kc_p0 dX8_send_170 ?_
  exact A_X8_send_107_p171 hl hK97 x1 x2 x3 x4 x6 x7 x8 (0 : Int32) _ _ _ h
theorem A_X8_send_107_p97 {l : Launch} (hl : l.stackTraces = false) {Ls d : Nat} {Lm : zML} :
    ∀ (n : Nat) (x1 : Int32) (x2 : Int32) (x3 : Int32) (x4 : Int32) (x5 : Int32) (M M' : zMM) (v : Int32) , f_X8_send_107_p97 n x1 x2 x3 x4 x5 M = some (v, M') → z_AW l mX8_send (d + 2) 0 0 97 [.ref 107, .int x1, .int x2, .int x3, .int x4, .int x5, .null, .null, .null] [] (z_L0 Ls, M, Lm) (.inl (some (.int v))) (z_L0 Ls, M', Lm) := by
  intro n
  induction n with
  | zero => intro x1 x2 x3 x4 x5 M M' v h; cases h
  | succ n ih =>
    intro x1 x2 x3 x4 x5 M M' v h
    replace h : (  if x5 = 0 then
    f_X8_send_107_p243 x1 x3 x4 M
  else
    if x3 = x2 then
      f_X8_send_107_p243 x1 x3 x4 M
    else
      z_bi (f_X8_slips_107 x3 M) fun v33 M34 =>
      if z_ib (((5 : Int32) * x3) + x2) 25 = true then
        z_bi (f_X8_elsewhere_107 x3 (M34 127 (((5 : Int32) * x3) + x2).toNatClampNeg) M34) fun v37 M38 =>
        if v33 = 0 then
          f_X8_send_107_p166 (f_X8_send_107_p97 n) x1 x2 x3 x4 v33 (M34 127 (((5 : Int32) * x3) + x2).toNatClampNeg) v37 M38
        else
          if z_ib x3 10 = true then
            if (M38 110 x3.toNatClampNeg) = (3 : Int32) then
              f_X8_send_107_p170 (f_X8_send_107_p97 n) x1 x2 x3 x4 v33 (M34 127 (((5 : Int32) * x3) + x2).toNatClampNeg) v37 M38
            else
              if z_ib x3 10 = true then
                if (M38 110 x3.toNatClampNeg) = (1 : Int32) then
                  if v37 = (-1 : Int32) then
                    f_X8_send_107_p166 (f_X8_send_107_p97 n) x1 x2 x3 x4 v33 (M34 127 (((5 : Int32) * x3) + x2).toNatClampNeg) v37 M38
                  else
                    f_X8_send_107_p170 (f_X8_send_107_p97 n) x1 x2 x3 x4 v33 (M34 127 (((5 : Int32) * x3) + x2).toNatClampNeg) v37 M38
                else
                  f_X8_send_107_p166 (f_X8_send_107_p97 n) x1 x2 x3 x4 v33 (M34 127 (((5 : Int32) * x3) + x2).toNatClampNeg) v37 M38
              else none
          else none
      else none) = some (v, M') := h
    refine z_iload dX8_send_97 rfl ?_
    refine z_if_eq (tgt := 243) dX8_send_99 rfl (fun g28 => ?_) (fun g28 => ?_)
    · replace h := (if_pos g28).symm.trans h
      refine z_fg (ls' := [.ref 107, .int x1, .null, .int x3, .int x4, .null, .null, .null, .null]) ⟨Or.inr rfl, Or.inr rfl, Or.inl rfl, Or.inr rfl, Or.inr rfl, Or.inl rfl, Or.inl rfl, Or.inl rfl, Or.inl rfl, trivial⟩ ?_
      exact A_X8_send_107_p243 hl x1 x3 x4 _ _ _ h
    · replace h := (if_neg g28).symm.trans h
      refine z_iload_n dX8_send_102 rfl ?_
      refine z_iload_n dX8_send_103 rfl ?_
      refine z_icmp_eq (tgt := 243) dX8_send_104 rfl (fun g31 => ?_) (fun g31 => ?_)
      · replace h := (if_pos g31).symm.trans h
        refine z_fg (ls' := [.ref 107, .int x1, .null, .int x3, .int x4, .null, .null, .null, .null]) ⟨Or.inr rfl, Or.inr rfl, Or.inl rfl, Or.inr rfl, Or.inr rfl, Or.inl rfl, Or.inl rfl, Or.inl rfl, Or.inl rfl, trivial⟩ ?_
        exact A_X8_send_107_p243 hl x1 x3 x4 _ _ _ h
      · replace h := (if_neg g31).symm.trans h
        refine z_aload_n dX8_send_107 rfl ?_
        refine z_iload_n dX8_send_108 rfl ?_
        obtain ⟨v33, M34, c32, h⟩ := z_bi_c h
        refine z_cV (av := [.int x3]) (st := []) lk_X8_369 dX8_send_109 (A_X8_slips_107 (d := d + 1) hl c32) rfl rfl en_107 rfl (Nat.le_of_ble_eq_true rfl) rfl z_len rfl rfl ?_
        refine z_istore (ls' := [.ref 107, .int x1, .int x2, .int x3, .int x4, .int x5, .int v33, .null, .null]) dX8_send_112 (by decide) rfl ?_
        refine z_aload_n dX8_send_114 rfl ?_
        refine z_getR (q := 127) fl_X8_82 dX8_send_115 en_107 rfl ?_
        refine z_ic kc_p5 dX8_send_118 ?_
        refine z_iload_n dX8_send_119 rfl ?_
        refine z_imul dX8_send_120 ?_
        refine z_iload_n dX8_send_121 rfl ?_
        refine z_iadd dX8_send_122 ?_
        obtain ⟨g35, h⟩ := z_ifn h
        refine z_al (v := (M34 127 (((5 : Int32) * x3) + x2).toNatClampNeg)) dX8_send_123 en_127 rfl (z_ib_in g35) rfl ?_
        refine z_istore (ls' := [.ref 107, .int x1, .int x2, .int x3, .int x4, .int x5, .int v33, .int (M34 127 (((5 : Int32) * x3) + x2).toNatClampNeg), .null]) dX8_send_124 (by decide) rfl ?_
        refine z_aload_n dX8_send_126 rfl ?_
        refine z_iload_n dX8_send_127 rfl ?_
        refine z_iload dX8_send_128 rfl ?_
        obtain ⟨v37, M38, c36, h⟩ := z_bi_c h
        refine z_cV (av := [.int x3, .int (M34 127 (((5 : Int32) * x3) + x2).toNatClampNeg)]) (st := []) lk_X8_330 dX8_send_130 (A_X8_elsewhere_107 (d := d + 1) hl c36) rfl rfl en_107 rfl (Nat.le_of_ble_eq_true rfl) rfl z_len rfl rfl ?_
        refine z_istore (ls' := [.ref 107, .int x1, .int x2, .int x3, .int x4, .int x5, .int v33, .int (M34 127 (((5 : Int32) * x3) + x2).toNatClampNeg), .int v37]) dX8_send_133 (by decide) rfl ?_
        refine z_iload dX8_send_135 rfl ?_
        refine z_if_eq (tgt := 166) dX8_send_137 rfl (fun g39 => ?_) (fun g39 => ?_)
        · replace h := (if_pos g39).symm.trans h
          refine z_fg (ls' := [.ref 107, .int x1, .int x2, .int x3, .int x4, .null, .int v33, .int (M34 127 (((5 : Int32) * x3) + x2).toNatClampNeg), .int v37]) ⟨Or.inr rfl, Or.inr rfl, Or.inr rfl, Or.inr rfl, Or.inr rfl, Or.inl rfl, Or.inr rfl, Or.inr rfl, Or.inr rfl, trivial⟩ ?_
          exact A_X8_send_107_p166 hl ih x1 x2 x3 x4 v33 (M34 127 (((5 : Int32) * x3) + x2).toNatClampNeg) v37 _ _ _ h
        · replace h := (if_neg g39).symm.trans h
          refine z_aload_n dX8_send_140 rfl ?_
          refine z_getR (q := 110) fl_X8_27 dX8_send_141 en_107 rfl ?_
          refine z_iload_n dX8_send_144 rfl ?_
          obtain ⟨g48, h⟩ := z_ifn h
          refine z_al (v := (M38 110 x3.toNatClampNeg)) dX8_send_145 en_110 rfl (z_ib_in g48) rfl ?_
          refine z_ic kc_p3 dX8_send_146 ?_
          refine z_icmp_eq (tgt := 170) dX8_send_147 rfl (fun g49 => ?_) (fun g49 => ?_)
          · replace h := (if_pos g49).symm.trans h
            refine z_fg (ls' := [.ref 107, .int x1, .int x2, .int x3, .int x4, .null, .int v33, .int (M34 127 (((5 : Int32) * x3) + x2).toNatClampNeg), .int v37]) ⟨Or.inr rfl, Or.inr rfl, Or.inr rfl, Or.inr rfl, Or.inr rfl, Or.inl rfl, Or.inr rfl, Or.inr rfl, Or.inr rfl, trivial⟩ ?_
            exact A_X8_send_107_p170 hl ih x1 x2 x3 x4 v33 (M34 127 (((5 : Int32) * x3) + x2).toNatClampNeg) v37 _ _ _ h
          · replace h := (if_neg g49).symm.trans h
            refine z_aload_n dX8_send_150 rfl ?_
            refine z_getR (q := 110) fl_X8_27 dX8_send_151 en_107 rfl ?_
            refine z_iload_n dX8_send_154 rfl ?_
            obtain ⟨g50, h⟩ := z_ifn h
            refine z_al (v := (M38 110 x3.toNatClampNeg)) dX8_send_155 en_110 rfl (z_ib_in g50) rfl ?_
            refine z_ic kc_p1 dX8_send_156 ?_
            refine z_icmp_ne (tgt := 166) dX8_send_157 rfl (fun g51 => ?_) (fun g51 => ?_)
            · replace h := (if_pos g51).symm.trans h
              refine z_iload dX8_send_160 rfl ?_
              refine z_ic kc_m1 dX8_send_162 ?_
              refine z_icmp_ne (tgt := 170) dX8_send_163 rfl (fun g52 => ?_) (fun g52 => ?_)
              · replace h := (if_pos g52).symm.trans h
                refine z_fg (ls' := [.ref 107, .int x1, .int x2, .int x3, .int x4, .null, .int v33, .int (M34 127 (((5 : Int32) * x3) + x2).toNatClampNeg), .int v37]) ⟨Or.inr rfl, Or.inr rfl, Or.inr rfl, Or.inr rfl, Or.inr rfl, Or.inl rfl, Or.inr rfl, Or.inr rfl, Or.inr rfl, trivial⟩ ?_
                exact A_X8_send_107_p166 hl ih x1 x2 x3 x4 v33 (M34 127 (((5 : Int32) * x3) + x2).toNatClampNeg) v37 _ _ _ h
              · replace h := (if_neg g52).symm.trans h
                refine z_fg (ls' := [.ref 107, .int x1, .int x2, .int x3, .int x4, .null, .int v33, .int (M34 127 (((5 : Int32) * x3) + x2).toNatClampNeg), .int v37]) ⟨Or.inr rfl, Or.inr rfl, Or.inr rfl, Or.inr rfl, Or.inr rfl, Or.inl rfl, Or.inr rfl, Or.inr rfl, Or.inr rfl, trivial⟩ ?_
                exact A_X8_send_107_p170 hl ih x1 x2 x3 x4 v33 (M34 127 (((5 : Int32) * x3) + x2).toNatClampNeg) v37 _ _ _ h
            · replace h := (if_neg g51).symm.trans h
              refine z_fg (ls' := [.ref 107, .int x1, .int x2, .int x3, .int x4, .null, .int v33, .int (M34 127 (((5 : Int32) * x3) + x2).toNatClampNeg), .int v37]) ⟨Or.inr rfl, Or.inr rfl, Or.inr rfl, Or.inr rfl, Or.inr rfl, Or.inl rfl, Or.inr rfl, Or.inr rfl, Or.inr rfl, trivial⟩ ?_
              exact A_X8_send_107_p166 hl ih x1 x2 x3 x4 v33 (M34 127 (((5 : Int32) * x3) + x2).toNatClampNeg) v37 _ _ _ h
theorem A_X8_send_107 {l : Launch} (hl : l.stackTraces = false) {Ls d : Nat} {Lm : zML} {x1 : Int32} {x2 : Int32} {M M' : zMM} {v : Int32} (h : f_X8_send_107 x1 x2 M = some (v, M')) : z_Ct l mX8_send (d + 2) 0 0 [.ref 107, .int x1, .int x2] (z_L0 Ls, M, Lm) (.inl (some (.int v))) (z_L0 Ls, M', Lm) := by
  replace h : (  z_bi (f_X8_isTrunk_107 x1 (z_up M 107 1 (0 : Int32))) fun v2 M3 =>
  if v2 = 0 then
    z_bi (f_X8_fail_107 (1 : Int32) M3) fun v6 M7 =>
    some (v6, M7)
  else
    z_bi (f_X8_isTown_107 x2 M3) fun v9 M10 =>
    if v9 = 0 then
      z_bi (f_X8_fail_107 (1 : Int32) M10) fun v13 M14 =>
      some (v13, M14)
    else
      if z_ib x1 5 = true then
        if (M10 107 29) < (M10 125 x1.toNatClampNeg) then
          f_X8_send_107_p64  M10
        else
          if z_ib x1 5 = true then
            if (M10 124 x1.toNatClampNeg) = x2 then
              f_X8_send_107_p64  M10
            else
              if z_ib x1 5 = true then
                z_bi (f_X8_hasWay_107 (M10 124 x1.toNatClampNeg) x2 M10) fun v21 M22 =>
                if v21 = 0 then
                  f_X8_send_107_p64  M22
                else
                  z_bv (f_X8_note_107 x1 M22) fun M26 =>
                  if z_ib x1 5 = true then
                    f_X8_send_107_p97 z_fuel x1 x2 (M26 124 x1.toNatClampNeg) (M26 107 29) (1 : Int32) M26
                  else none
              else none
          else none
      else none) = some (v, M') := h
  refine z_Ct.of hl (by decide) (Nat.le_of_ble_eq_true rfl) rfl ?_
  show z_AW l mX8_send (d + 2) 0 0 0 [.ref 107, .int x1, .int x2, .null, .null, .null, .null, .null, .null] [] (z_L0 Ls, M, Lm) (.inl (some (.int v))) (z_L0 Ls, M', Lm)
  refine z_aload_n dX8_send_0 rfl ?_
  refine z_ic kc_p0 dX8_send_1 ?_
  refine z_pI fp_X8_149 dX8_send_2 (by decide) en_107 rfl ?_
  refine z_aload_n dX8_send_5 rfl ?_
  refine z_iload_n dX8_send_6 rfl ?_
  obtain ⟨v2, M3, c1, h⟩ := z_bi_c h
  refine z_cV (av := [.int x1]) (st := []) lk_X8_313 dX8_send_7 (A_X8_isTrunk_107 (d := d + 0) hl c1) rfl rfl en_107 rfl (Nat.le_of_ble_eq_true rfl) rfl z_len rfl rfl ?_
  refine z_if_eq (tgt := 21) dX8_send_10 rfl (fun g4 => ?_) (fun g4 => ?_)
  · replace h := (if_pos g4).symm.trans h
    refine z_aload_n dX8_send_21 rfl ?_
    refine z_ic kc_p1 dX8_send_22 ?_
    obtain ⟨v6, M7, c5, h⟩ := z_bi_c h
    refine z_cV (av := [.int (1 : Int32)]) (st := []) lk_X8_268 dX8_send_23 (A_X8_fail_107 (d := d + 1) hl c5) rfl rfl en_107 rfl (Nat.le_of_ble_eq_true rfl) rfl z_len rfl rfl ?_
    cases h
    exact z_rI dX8_send_26 rfl
  · replace h := (if_neg g4).symm.trans h
    refine z_aload_n dX8_send_13 rfl ?_
    refine z_iload_n dX8_send_14 rfl ?_
    obtain ⟨v9, M10, c8, h⟩ := z_bi_c h
    refine z_cV (av := [.int x2]) (st := []) lk_X8_304 dX8_send_15 (A_X8_isTown_107 (d := d + 0) hl c8) rfl rfl en_107 rfl (Nat.le_of_ble_eq_true rfl) rfl z_len rfl rfl ?_
    refine z_if_ne (tgt := 27) dX8_send_18 rfl (fun g11 => ?_) (fun g11 => ?_)
    · replace h := (if_pos g11).symm.trans h
      refine z_aload_n dX8_send_21 rfl ?_
      refine z_ic kc_p1 dX8_send_22 ?_
      obtain ⟨v13, M14, c12, h⟩ := z_bi_c h
      refine z_cV (av := [.int (1 : Int32)]) (st := []) lk_X8_268 dX8_send_23 (A_X8_fail_107 (d := d + 1) hl c12) rfl rfl en_107 rfl (Nat.le_of_ble_eq_true rfl) rfl z_len rfl rfl ?_
      cases h
      exact z_rI dX8_send_26 rfl
    · replace h := (if_neg g11).symm.trans h
      refine z_aload_n dX8_send_27 rfl ?_
      refine z_getR (q := 125) fl_X8_76 dX8_send_28 en_107 rfl ?_
      refine z_iload_n dX8_send_31 rfl ?_
      obtain ⟨g15, h⟩ := z_ifn h
      refine z_al (v := (M10 125 x1.toNatClampNeg)) dX8_send_32 en_125 rfl (z_ib_in g15) rfl ?_
      refine z_aload_n dX8_send_33 rfl ?_
      refine z_gI (v := (M10 107 29)) fl_X8_282 dX8_send_34 en_107 rfl rfl ?_
      refine z_icmp_gt (tgt := 64) dX8_send_37 rfl (fun g16 => ?_) (fun g16 => ?_)
      · replace h := (if_pos g16).symm.trans h
        refine z_fg (ls' := [.ref 107, .null, .null, .null, .null, .null, .null, .null, .null]) ⟨Or.inr rfl, Or.inl rfl, Or.inl rfl, Or.inl rfl, Or.inl rfl, Or.inl rfl, Or.inl rfl, Or.inl rfl, Or.inl rfl, trivial⟩ ?_
        exact A_X8_send_107_p64 hl  _ _ _ h
      · replace h := (if_neg g16).symm.trans h
        refine z_aload_n dX8_send_40 rfl ?_
        refine z_getR (q := 124) fl_X8_73 dX8_send_41 en_107 rfl ?_
        refine z_iload_n dX8_send_44 rfl ?_
        obtain ⟨g17, h⟩ := z_ifn h
        refine z_al (v := (M10 124 x1.toNatClampNeg)) dX8_send_45 en_124 rfl (z_ib_in g17) rfl ?_
        refine z_iload_n dX8_send_46 rfl ?_
        refine z_icmp_eq (tgt := 64) dX8_send_47 rfl (fun g18 => ?_) (fun g18 => ?_)
        · replace h := (if_pos g18).symm.trans h
          refine z_fg (ls' := [.ref 107, .null, .null, .null, .null, .null, .null, .null, .null]) ⟨Or.inr rfl, Or.inl rfl, Or.inl rfl, Or.inl rfl, Or.inl rfl, Or.inl rfl, Or.inl rfl, Or.inl rfl, Or.inl rfl, trivial⟩ ?_
          exact A_X8_send_107_p64 hl  _ _ _ h
        · replace h := (if_neg g18).symm.trans h
          refine z_aload_n dX8_send_50 rfl ?_
          refine z_aload_n dX8_send_51 rfl ?_
          refine z_getR (q := 124) fl_X8_73 dX8_send_52 en_107 rfl ?_
          refine z_iload_n dX8_send_55 rfl ?_
          obtain ⟨g19, h⟩ := z_ifn h
          refine z_al (v := (M10 124 x1.toNatClampNeg)) dX8_send_56 en_124 rfl (z_ib_in g19) rfl ?_
          refine z_iload_n dX8_send_57 rfl ?_
          obtain ⟨v21, M22, c20, h⟩ := z_bi_c h
          refine z_cV (av := [.int (M10 124 x1.toNatClampNeg), .int x2]) (st := []) lk_X8_320 dX8_send_58 (A_X8_hasWay_107 (d := d + 1) hl c20) rfl rfl en_107 rfl (Nat.le_of_ble_eq_true rfl) rfl z_len rfl rfl ?_
          refine z_if_ne (tgt := 76) dX8_send_61 rfl (fun g23 => ?_) (fun g23 => ?_)
          · replace h := (if_pos g23).symm.trans h
            refine z_fg (ls' := [.ref 107, .null, .null, .null, .null, .null, .null, .null, .null]) ⟨Or.inr rfl, Or.inl rfl, Or.inl rfl, Or.inl rfl, Or.inl rfl, Or.inl rfl, Or.inl rfl, Or.inl rfl, Or.inl rfl, trivial⟩ ?_
            exact A_X8_send_107_p64 hl  _ _ _ h
          · replace h := (if_neg g23).symm.trans h
            refine z_aload_n dX8_send_76 rfl ?_
            refine z_iload_n dX8_send_77 rfl ?_
            obtain ⟨M26, c24, h⟩ := z_bv_c h
            refine z_cV (av := [.int x1]) (st := []) lk_X8_366 dX8_send_78 (A_X8_note_107 (d := d + 1) hl c24) rfl rfl en_107 rfl (Nat.le_of_ble_eq_true rfl) rfl z_len rfl rfl ?_
            refine z_aload_n dX8_send_81 rfl ?_
            refine z_getR (q := 124) fl_X8_73 dX8_send_82 en_107 rfl ?_
            refine z_iload_n dX8_send_85 rfl ?_
            obtain ⟨g27, h⟩ := z_ifn h
            refine z_al (v := (M26 124 x1.toNatClampNeg)) dX8_send_86 en_124 rfl (z_ib_in g27) rfl ?_
            refine z_istore_n (ls' := [.ref 107, .int x1, .int x2, .int (M26 124 x1.toNatClampNeg), .null, .null, .null, .null, .null]) dX8_send_87 (by decide) rfl ?_
            refine z_aload_n dX8_send_88 rfl ?_
            refine z_gI (v := (M26 107 29)) fl_X8_282 dX8_send_89 en_107 rfl rfl ?_
            refine z_istore (ls' := [.ref 107, .int x1, .int x2, .int (M26 124 x1.toNatClampNeg), .int (M26 107 29), .null, .null, .null, .null]) dX8_send_92 (by decide) rfl ?_
            refine z_ic kc_p1 dX8_send_94 ?_
            refine z_istore (ls' := [.ref 107, .int x1, .int x2, .int (M26 124 x1.toNatClampNeg), .int (M26 107 29), .int (1 : Int32), .null, .null, .null]) dX8_send_95 (by decide) rfl ?_
            exact A_X8_send_107_p97 hl z_fuel x1 x2 (M26 124 x1.toNatClampNeg) (M26 107 29) (1 : Int32) _ _ _ h
/-! X8_canBe 107 -/
def f_X8_canBe_107_p25 : Nat → Int32 → Int32 → Int32 → Int32 → zMM → Option (Int32 × zMM)
  | 0, _, _, _, _, _ => none
  | n + 1, x2, x3, x4, x5, M =>
  if (M 107 32) ≤ x5 then
    some ((1 : Int32), M)
  else
    if ((x2 >>> (x5 &&& 31)) &&& (1 : Int32)) = 0 then
      f_X8_canBe_107_p25 n x2 x3 x4 (x5 + (1 : Int32)) M
    else
      if z_ib x5 4 = true then
        if z_ib x5 4 = true then
          if (M 136 x5.toNatClampNeg) < (M 107 29) then
            some ((0 : Int32), M)
          else
            z_bi (f_X8_hasWay_107 x3 (M 137 x5.toNatClampNeg) M) fun v9 M10 =>
            if v9 = 0 then
              some ((0 : Int32), M10)
            else
              if z_ib (((5 : Int32) * x3) + (M 137 x5.toNatClampNeg)) 25 = true then
                if z_ib x5 4 = true then
                  if (x4 + (M10 126 (((5 : Int32) * x3) + (M 137 x5.toNatClampNeg)).toNatClampNeg)) ≤ (M10 136 x5.toNatClampNeg) then
                    if z_ib x5 4 = true then
                      f_X8_canBe_107_p25 n x2 (M 137 x5.toNatClampNeg) (M10 136 x5.toNatClampNeg) (x5 + (1 : Int32)) M10
                    else none
                  else
                    some ((0 : Int32), M10)
                else none
              else none
        else none
      else none
def f_X8_canBe_107 (x1 : Int32) (x2 : Int32) (M : zMM) : Option (Int32 × zMM) :=
  if z_ib x1 5 = true then
    if z_ib x1 5 = true then
      f_X8_canBe_107_p25 z_fuel x2 (M 124 x1.toNatClampNeg) (z_max (M 107 29) (M 125 x1.toNatClampNeg)) (0 : Int32) M
    else none
  else none
theorem A_X8_canBe_107_p25 {l : Launch} (hl : l.stackTraces = false) {Ls d : Nat} {Lm : zML} :
    ∀ (n : Nat) (x2 : Int32) (x3 : Int32) (x4 : Int32) (x5 : Int32) (M M' : zMM) (v : Int32) , f_X8_canBe_107_p25 n x2 x3 x4 x5 M = some (v, M') → z_AW l mX8_canBe (d + 1) 0 0 25 [.ref 107, .null, .int x2, .int x3, .int x4, .int x5, .null] [] (z_L0 Ls, M, Lm) (.inl (some (.int v))) (z_L0 Ls, M', Lm) := by
  intro n
  induction n with
  | zero => intro x2 x3 x4 x5 M M' v h; cases h
  | succ n ih =>
    intro x2 x3 x4 x5 M M' v h
    replace h : (  if (M 107 32) ≤ x5 then
    some ((1 : Int32), M)
  else
    if ((x2 >>> (x5 &&& 31)) &&& (1 : Int32)) = 0 then
      f_X8_canBe_107_p25 n x2 x3 x4 (x5 + (1 : Int32)) M
    else
      if z_ib x5 4 = true then
        if z_ib x5 4 = true then
          if (M 136 x5.toNatClampNeg) < (M 107 29) then
            some ((0 : Int32), M)
          else
            z_bi (f_X8_hasWay_107 x3 (M 137 x5.toNatClampNeg) M) fun v9 M10 =>
            if v9 = 0 then
              some ((0 : Int32), M10)
            else
              if z_ib (((5 : Int32) * x3) + (M 137 x5.toNatClampNeg)) 25 = true then
                if z_ib x5 4 = true then
                  if (x4 + (M10 126 (((5 : Int32) * x3) + (M 137 x5.toNatClampNeg)).toNatClampNeg)) ≤ (M10 136 x5.toNatClampNeg) then
                    if z_ib x5 4 = true then
                      f_X8_canBe_107_p25 n x2 (M 137 x5.toNatClampNeg) (M10 136 x5.toNatClampNeg) (x5 + (1 : Int32)) M10
                    else none
                  else
                    some ((0 : Int32), M10)
                else none
              else none
        else none
      else none) = some (v, M') := h
    refine z_iload dX8_canBe_25 rfl ?_
    refine z_aload_n dX8_canBe_27 rfl ?_
    refine z_gI (v := (M 107 32)) fl_X8_292 dX8_canBe_28 en_107 rfl rfl ?_
    refine z_icmp_ge (tgt := 123) dX8_canBe_31 rfl (fun g3 => ?_) (fun g3 => ?_)
    · replace h := (if_pos g3).symm.trans h
      refine z_ic kc_p1 dX8_canBe_123 ?_
      cases h
      exact z_rZ dX8_canBe_124 rfl rfl
    · replace h := (if_neg g3).symm.trans h
      refine z_iload_n dX8_canBe_34 rfl ?_
      refine z_iload dX8_canBe_35 rfl ?_
      refine z_ishr dX8_canBe_37 ?_
      refine z_ic kc_p1 dX8_canBe_38 ?_
      refine z_iand dX8_canBe_39 ?_
      refine z_if_ne (tgt := 46) dX8_canBe_40 rfl (fun g4 => ?_) (fun g4 => ?_)
      · replace h := (if_pos g4).symm.trans h
        refine z_goto (tgt := 117) dX8_canBe_43 rfl ?_
        refine z_ii (ls' := [.ref 107, .null, .int x2, .int x3, .int x4, .int (x5 + (1 : Int32)), .null]) kc_p1 dX8_canBe_117 rfl (by decide) rfl ?_
        refine z_goto (tgt := 25) dX8_canBe_120 rfl ?_
        exact ih x2 x3 x4 (x5 + (1 : Int32)) _ _ _ h
      · replace h := (if_neg g4).symm.trans h
        refine z_aload_n dX8_canBe_46 rfl ?_
        refine z_getR (q := 137) fl_X8_113 dX8_canBe_47 en_107 rfl ?_
        refine z_iload dX8_canBe_50 rfl ?_
        obtain ⟨g5, h⟩ := z_ifn h
        refine z_al (v := (M 137 x5.toNatClampNeg)) dX8_canBe_52 en_137 rfl (z_ib_in g5) rfl ?_
        refine z_istore (ls' := [.ref 107, .null, .int x2, .int x3, .int x4, .int x5, .int (M 137 x5.toNatClampNeg)]) dX8_canBe_53 (by decide) rfl ?_
        refine z_aload_n dX8_canBe_55 rfl ?_
        refine z_getR (q := 136) fl_X8_110 dX8_canBe_56 en_107 rfl ?_
        refine z_iload dX8_canBe_59 rfl ?_
        obtain ⟨g6, h⟩ := z_ifn h
        refine z_al (v := (M 136 x5.toNatClampNeg)) dX8_canBe_61 en_136 rfl (z_ib_in g6) rfl ?_
        refine z_aload_n dX8_canBe_62 rfl ?_
        refine z_gI (v := (M 107 29)) fl_X8_282 dX8_canBe_63 en_107 rfl rfl ?_
        refine z_icmp_lt (tgt := 103) dX8_canBe_66 rfl (fun g7 => ?_) (fun g7 => ?_)
        · replace h := (if_pos g7).symm.trans h
          refine z_ic kc_p0 dX8_canBe_103 ?_
          cases h
          exact z_rZ dX8_canBe_104 rfl rfl
        · replace h := (if_neg g7).symm.trans h
          refine z_aload_n dX8_canBe_69 rfl ?_
          refine z_iload_n dX8_canBe_70 rfl ?_
          refine z_iload dX8_canBe_71 rfl ?_
          obtain ⟨v9, M10, c8, h⟩ := z_bi_c h
          refine z_cV (av := [.int x3, .int (M 137 x5.toNatClampNeg)]) (st := []) lk_X8_320 dX8_canBe_73 (A_X8_hasWay_107 (d := d + 0) hl c8) rfl rfl en_107 rfl (Nat.le_of_ble_eq_true rfl) rfl z_len rfl rfl ?_
          refine z_if_eq (tgt := 103) dX8_canBe_76 rfl (fun g11 => ?_) (fun g11 => ?_)
          · replace h := (if_pos g11).symm.trans h
            refine z_ic kc_p0 dX8_canBe_103 ?_
            cases h
            exact z_rZ dX8_canBe_104 rfl rfl
          · replace h := (if_neg g11).symm.trans h
            refine z_iload dX8_canBe_79 rfl ?_
            refine z_aload_n dX8_canBe_81 rfl ?_
            refine z_getR (q := 126) fl_X8_79 dX8_canBe_82 en_107 rfl ?_
            refine z_ic kc_p5 dX8_canBe_85 ?_
            refine z_iload_n dX8_canBe_86 rfl ?_
            refine z_imul dX8_canBe_87 ?_
            refine z_iload dX8_canBe_88 rfl ?_
            refine z_iadd dX8_canBe_90 ?_
            obtain ⟨g12, h⟩ := z_ifn h
            refine z_al (v := (M10 126 (((5 : Int32) * x3) + (M 137 x5.toNatClampNeg)).toNatClampNeg)) dX8_canBe_91 en_126 rfl (z_ib_in g12) rfl ?_
            refine z_iadd dX8_canBe_92 ?_
            refine z_aload_n dX8_canBe_93 rfl ?_
            refine z_getR (q := 136) fl_X8_110 dX8_canBe_94 en_107 rfl ?_
            refine z_iload dX8_canBe_97 rfl ?_
            obtain ⟨g13, h⟩ := z_ifn h
            refine z_al (v := (M10 136 x5.toNatClampNeg)) dX8_canBe_99 en_136 rfl (z_ib_in g13) rfl ?_
            refine z_icmp_le (tgt := 105) dX8_canBe_100 rfl (fun g14 => ?_) (fun g14 => ?_)
            · replace h := (if_pos g14).symm.trans h
              refine z_iload dX8_canBe_105 rfl ?_
              refine z_istore_n (ls' := [.ref 107, .null, .int x2, .int (M 137 x5.toNatClampNeg), .int x4, .int x5, .int (M 137 x5.toNatClampNeg)]) dX8_canBe_107 (by decide) rfl ?_
              refine z_aload_n dX8_canBe_108 rfl ?_
              refine z_getR (q := 136) fl_X8_110 dX8_canBe_109 en_107 rfl ?_
              refine z_iload dX8_canBe_112 rfl ?_
              obtain ⟨g15, h⟩ := z_ifn h
              refine z_al (v := (M10 136 x5.toNatClampNeg)) dX8_canBe_114 en_136 rfl (z_ib_in g15) rfl ?_
              refine z_istore (ls' := [.ref 107, .null, .int x2, .int (M 137 x5.toNatClampNeg), .int (M10 136 x5.toNatClampNeg), .int x5, .int (M 137 x5.toNatClampNeg)]) dX8_canBe_115 (by decide) rfl ?_
              refine z_ii (ls' := [.ref 107, .null, .int x2, .int (M 137 x5.toNatClampNeg), .int (M10 136 x5.toNatClampNeg), .int (x5 + (1 : Int32)), .int (M 137 x5.toNatClampNeg)]) kc_p1 dX8_canBe_117 rfl (by decide) rfl ?_
              refine z_goto (tgt := 25) dX8_canBe_120 rfl ?_
              refine z_fg (ls' := [.ref 107, .null, .int x2, .int (M 137 x5.toNatClampNeg), .int (M10 136 x5.toNatClampNeg), .int (x5 + (1 : Int32)), .null]) ⟨Or.inr rfl, Or.inl rfl, Or.inr rfl, Or.inr rfl, Or.inr rfl, Or.inr rfl, Or.inl rfl, trivial⟩ ?_
              exact ih x2 (M 137 x5.toNatClampNeg) (M10 136 x5.toNatClampNeg) (x5 + (1 : Int32)) _ _ _ h
            · replace h := (if_neg g14).symm.trans h
              refine z_ic kc_p0 dX8_canBe_103 ?_
              cases h
              exact z_rZ dX8_canBe_104 rfl rfl
theorem A_X8_canBe_107 {l : Launch} (hl : l.stackTraces = false) {Ls d : Nat} {Lm : zML} {x1 : Int32} {x2 : Int32} {M M' : zMM} {v : Int32} (h : f_X8_canBe_107 x1 x2 M = some (v, M')) : z_Ct l mX8_canBe (d + 1) 0 0 [.ref 107, .int x1, .int x2] (z_L0 Ls, M, Lm) (.inl (some (.int v))) (z_L0 Ls, M', Lm) := by
  replace h : (  if z_ib x1 5 = true then
    if z_ib x1 5 = true then
      f_X8_canBe_107_p25 z_fuel x2 (M 124 x1.toNatClampNeg) (z_max (M 107 29) (M 125 x1.toNatClampNeg)) (0 : Int32) M
    else none
  else none) = some (v, M') := h
  refine z_Ct.of hl (by decide) (Nat.le_of_ble_eq_true rfl) rfl ?_
  show z_AW l mX8_canBe (d + 1) 0 0 0 [.ref 107, .int x1, .int x2, .null, .null, .null, .null] [] (z_L0 Ls, M, Lm) (.inl (some (.int v))) (z_L0 Ls, M', Lm)
  refine z_aload_n dX8_canBe_0 rfl ?_
  refine z_getR (q := 124) fl_X8_73 dX8_canBe_1 en_107 rfl ?_
  refine z_iload_n dX8_canBe_4 rfl ?_
  obtain ⟨g1, h⟩ := z_ifn h
  refine z_al (v := (M 124 x1.toNatClampNeg)) dX8_canBe_5 en_124 rfl (z_ib_in g1) rfl ?_
  refine z_istore_n (ls' := [.ref 107, .int x1, .int x2, .int (M 124 x1.toNatClampNeg), .null, .null, .null]) dX8_canBe_6 (by decide) rfl ?_
  refine z_aload_n dX8_canBe_7 rfl ?_
  refine z_gI (v := (M 107 29)) fl_X8_282 dX8_canBe_8 en_107 rfl rfl ?_
  refine z_aload_n dX8_canBe_11 rfl ?_
  refine z_getR (q := 125) fl_X8_76 dX8_canBe_12 en_107 rfl ?_
  refine z_iload_n dX8_canBe_15 rfl ?_
  obtain ⟨g2, h⟩ := z_ifn h
  refine z_al (v := (M 125 x1.toNatClampNeg)) dX8_canBe_16 en_125 rfl (z_ib_in g2) rfl ?_
  refine z_mmax lk_X8_372 dX8_canBe_17 (Nat.le_of_ble_eq_true rfl) (by omega) ?_
  refine z_istore (ls' := [.ref 107, .int x1, .int x2, .int (M 124 x1.toNatClampNeg), .int (z_max (M 107 29) (M 125 x1.toNatClampNeg)), .null, .null]) dX8_canBe_20 (by decide) rfl ?_
  refine z_ic kc_p0 dX8_canBe_22 ?_
  refine z_istore (ls' := [.ref 107, .int x1, .int x2, .int (M 124 x1.toNatClampNeg), .int (z_max (M 107 29) (M 125 x1.toNatClampNeg)), .int (0 : Int32), .null]) dX8_canBe_23 (by decide) rfl ?_
  refine z_fg (ls' := [.ref 107, .null, .int x2, .int (M 124 x1.toNatClampNeg), .int (z_max (M 107 29) (M 125 x1.toNatClampNeg)), .int (0 : Int32), .null]) ⟨Or.inr rfl, Or.inl rfl, Or.inr rfl, Or.inr rfl, Or.inr rfl, Or.inr rfl, Or.inl rfl, trivial⟩ ?_
  exact A_X8_canBe_107_p25 hl z_fuel x2 (M 124 x1.toNatClampNeg) (z_max (M 107 29) (M 125 x1.toNatClampNeg)) (0 : Int32) _ _ _ h
