/-! X8_thingsOf 107 -/
def f_X8_thingsOf_107_p4 : Nat → Int32 → Int32 → Int32 → zMM → Option (Int32 × zMM)
  | 0, _, _, _, _ => none
  | n + 1, x1, x2, x3, M =>
  if (M 109 2) ≤ x3 then
    some (x2, M)
  else
    if z_ib x3 22 = true then
      if ((x1 >>> ((M 117 x3.toNatClampNeg) &&& 31)) &&& (1 : Int32)) = (1 : Int32) then
        f_X8_thingsOf_107_p4 n x1 (x2 ||| ((1 : Int32) <<< (x3 &&& 31))) (x3 + (1 : Int32)) M
      else
        f_X8_thingsOf_107_p4 n x1 (x2 ||| (0 : Int32)) (x3 + (1 : Int32)) M
    else none
def f_X8_thingsOf_107 (x1 : Int32) (M : zMM) : Option (Int32 × zMM) :=
  f_X8_thingsOf_107_p4 z_fuel x1 (0 : Int32) (0 : Int32) M
theorem A_X8_thingsOf_107_p4 {l : Launch} (hl : l.stackTraces = false) {Ls d : Nat} {Lm : zML} :
    ∀ (n : Nat) (x1 : Int32) (x2 : Int32) (x3 : Int32) (M M' : zMM) (v : Int32) , f_X8_thingsOf_107_p4 n x1 x2 x3 M = some (v, M') → z_AW l mX8_thingsOf (d + 0) 0 0 4 [.ref 107, .int x1, .int x2, .int x3] [] (z_L0 Ls, M, Lm) (.inl (some (.int v))) (z_L0 Ls, M', Lm) := by
  intro n
  induction n with
  | zero => intro x1 x2 x3 M M' v h; cases h
  | succ n ih =>
    intro x1 x2 x3 M M' v h
    replace h : (  if (M 109 2) ≤ x3 then
    some (x2, M)
  else
    if z_ib x3 22 = true then
      if ((x1 >>> ((M 117 x3.toNatClampNeg) &&& 31)) &&& (1 : Int32)) = (1 : Int32) then
        f_X8_thingsOf_107_p4 n x1 (x2 ||| ((1 : Int32) <<< (x3 &&& 31))) (x3 + (1 : Int32)) M
      else
        f_X8_thingsOf_107_p4 n x1 (x2 ||| (0 : Int32)) (x3 + (1 : Int32)) M
    else none) = some (v, M') := h
    refine z_iload_n dX8_thingsOf_4 rfl ?_
    refine z_aload_n dX8_thingsOf_5 rfl ?_
    refine z_getR (q := 109) fl_X8_23 dX8_thingsOf_6 en_107 rfl ?_
    refine z_ic kc_p2 dX8_thingsOf_9 ?_
    refine z_al (v := (M 109 2)) dX8_thingsOf_10 en_109 kn_p2 (z_ib_in rfl) rfl ?_
    refine z_icmp_ge (tgt := 44) dX8_thingsOf_11 rfl (fun g1 => ?_) (fun g1 => ?_)
    · replace h := (if_pos g1).symm.trans h
      refine z_iload_n dX8_thingsOf_44 rfl ?_
      cases h
      exact z_rI dX8_thingsOf_45 rfl
    · replace h := (if_neg g1).symm.trans h
      refine z_iload_n dX8_thingsOf_14 rfl ?_
      refine z_iload_n dX8_thingsOf_15 rfl ?_
      refine z_aload_n dX8_thingsOf_16 rfl ?_
      refine z_getR (q := 117) fl_X8_48 dX8_thingsOf_17 en_107 rfl ?_
      refine z_iload_n dX8_thingsOf_20 rfl ?_
      obtain ⟨g2, h⟩ := z_ifn h
      refine z_al (v := (M 117 x3.toNatClampNeg)) dX8_thingsOf_21 en_117 rfl (z_ib_in g2) rfl ?_
      refine z_ishr dX8_thingsOf_22 ?_
      refine z_ic kc_p1 dX8_thingsOf_23 ?_
      refine z_iand dX8_thingsOf_24 ?_
      refine z_ic kc_p1 dX8_thingsOf_25 ?_
      refine z_icmp_ne (tgt := 35) dX8_thingsOf_26 rfl (fun g3 => ?_) (fun g3 => ?_)
      · replace h := (if_pos g3).symm.trans h
        refine z_ic kc_p1 dX8_thingsOf_29 ?_
        refine z_iload_n dX8_thingsOf_30 rfl ?_
        refine z_ishl dX8_thingsOf_31 ?_
        refine z_goto (tgt := 36) dX8_thingsOf_32 rfl ?_
        refine z_ior dX8_thingsOf_36 ?_
        refine z_istore_n (ls' := [.ref 107, .int x1, .int (x2 ||| ((1 : Int32) <<< (x3 &&& 31))), .int x3]) dX8_thingsOf_37 (by decide) rfl ?_
        refine z_ii (ls' := [.ref 107, .int x1, .int (x2 ||| ((1 : Int32) <<< (x3 &&& 31))), .int (x3 + (1 : Int32))]) kc_p1 dX8_thingsOf_38 rfl (by decide) rfl ?_
        refine z_goto (tgt := 4) dX8_thingsOf_41 rfl ?_
        exact ih x1 (x2 ||| ((1 : Int32) <<< (x3 &&& 31))) (x3 + (1 : Int32)) _ _ _ h
      · replace h := (if_neg g3).symm.trans h
        refine z_ic kc_p0 dX8_thingsOf_35 ?_
        refine z_ior dX8_thingsOf_36 ?_
        refine z_istore_n (ls' := [.ref 107, .int x1, .int (x2 ||| (0 : Int32)), .int x3]) dX8_thingsOf_37 (by decide) rfl ?_
        refine z_ii (ls' := [.ref 107, .int x1, .int (x2 ||| (0 : Int32)), .int (x3 + (1 : Int32))]) kc_p1 dX8_thingsOf_38 rfl (by decide) rfl ?_
        refine z_goto (tgt := 4) dX8_thingsOf_41 rfl ?_
        exact ih x1 (x2 ||| (0 : Int32)) (x3 + (1 : Int32)) _ _ _ h
theorem A_X8_thingsOf_107 {l : Launch} (hl : l.stackTraces = false) {Ls d : Nat} {Lm : zML} {x1 : Int32} {M M' : zMM} {v : Int32} (h : f_X8_thingsOf_107 x1 M = some (v, M')) : z_Ct l mX8_thingsOf (d + 0) 0 0 [.ref 107, .int x1] (z_L0 Ls, M, Lm) (.inl (some (.int v))) (z_L0 Ls, M', Lm) := by
  replace h : (  f_X8_thingsOf_107_p4 z_fuel x1 (0 : Int32) (0 : Int32) M) = some (v, M') := h
  refine z_Ct.of hl (by decide) (Nat.le_of_ble_eq_true rfl) rfl ?_
  show z_AW l mX8_thingsOf (d + 0) 0 0 0 [.ref 107, .int x1, .null, .null] [] (z_L0 Ls, M, Lm) (.inl (some (.int v))) (z_L0 Ls, M', Lm)
  refine z_ic kc_p0 dX8_thingsOf_0 ?_
  refine z_istore_n (ls' := [.ref 107, .int x1, .int (0 : Int32), .null]) dX8_thingsOf_1 (by decide) rfl ?_
  refine z_ic kc_p0 dX8_thingsOf_2 ?_
  refine z_istore_n (ls' := [.ref 107, .int x1, .int (0 : Int32), .int (0 : Int32)]) dX8_thingsOf_3 (by decide) rfl ?_
  exact A_X8_thingsOf_107_p4 hl z_fuel x1 (0 : Int32) (0 : Int32) _ _ _ h
/-! X8_standsFor 107 -/
def f_X8_standsFor_107 (x1 : Int32) (x2 : Int32) (M : zMM) : Option (Int32 × zMM) :=
  if z_ib x1 22 = true then
    if (M 116 x1.toNatClampNeg) = x2 then
      some ((0 : Int32), M)
    else
      if z_ib x1 22 = true then
        if z_ib (((20 : Int32) * (M 116 x1.toNatClampNeg)) + x2) 800 = true then
          some ((M 121 (((20 : Int32) * (M 116 x1.toNatClampNeg)) + x2).toNatClampNeg), M)
        else none
      else none
  else none
theorem A_X8_standsFor_107 {l : Launch} (hl : l.stackTraces = false) {Ls d : Nat} {Lm : zML} {x1 : Int32} {x2 : Int32} {M M' : zMM} {v : Int32} (h : f_X8_standsFor_107 x1 x2 M = some (v, M')) : z_Ct l mX8_standsFor (d + 0) 0 0 [.ref 107, .int x1, .int x2] (z_L0 Ls, M, Lm) (.inl (some (.int v))) (z_L0 Ls, M', Lm) := by
  replace h : (  if z_ib x1 22 = true then
    if (M 116 x1.toNatClampNeg) = x2 then
      some ((0 : Int32), M)
    else
      if z_ib x1 22 = true then
        if z_ib (((20 : Int32) * (M 116 x1.toNatClampNeg)) + x2) 800 = true then
          some ((M 121 (((20 : Int32) * (M 116 x1.toNatClampNeg)) + x2).toNatClampNeg), M)
        else none
      else none
  else none) = some (v, M') := h
  refine z_Ct.of hl (by decide) (Nat.le_of_ble_eq_true rfl) rfl ?_
  show z_AW l mX8_standsFor (d + 0) 0 0 0 [.ref 107, .int x1, .int x2] [] (z_L0 Ls, M, Lm) (.inl (some (.int v))) (z_L0 Ls, M', Lm)
  refine z_aload_n dX8_standsFor_0 rfl ?_
  refine z_getR (q := 116) fl_X8_45 dX8_standsFor_1 en_107 rfl ?_
  refine z_iload_n dX8_standsFor_4 rfl ?_
  obtain ⟨g1, h⟩ := z_ifn h
  refine z_al (v := (M 116 x1.toNatClampNeg)) dX8_standsFor_5 en_116 rfl (z_ib_in g1) rfl ?_
  refine z_iload_n dX8_standsFor_6 rfl ?_
  refine z_icmp_ne (tgt := 14) dX8_standsFor_7 rfl (fun g2 => ?_) (fun g2 => ?_)
  · replace h := (if_pos g2).symm.trans h
    refine z_ic kc_p0 dX8_standsFor_10 ?_
    refine z_goto (tgt := 30) dX8_standsFor_11 rfl ?_
    cases h
    exact z_rI dX8_standsFor_30 rfl
  · replace h := (if_neg g2).symm.trans h
    refine z_aload_n dX8_standsFor_14 rfl ?_
    refine z_getR (q := 121) fl_X8_60 dX8_standsFor_15 en_107 rfl ?_
    refine z_bp kb_p20 dX8_standsFor_18 ?_
    refine z_aload_n dX8_standsFor_20 rfl ?_
    refine z_getR (q := 116) fl_X8_45 dX8_standsFor_21 en_107 rfl ?_
    refine z_iload_n dX8_standsFor_24 rfl ?_
    obtain ⟨g3, h⟩ := z_ifn h
    refine z_al (v := (M 116 x1.toNatClampNeg)) dX8_standsFor_25 en_116 rfl (z_ib_in g3) rfl ?_
    refine z_imul dX8_standsFor_26 ?_
    refine z_iload_n dX8_standsFor_27 rfl ?_
    refine z_iadd dX8_standsFor_28 ?_
    obtain ⟨g4, h⟩ := z_ifn h
    refine z_al (v := (M 121 (((20 : Int32) * (M 116 x1.toNatClampNeg)) + x2).toNatClampNeg)) dX8_standsFor_29 en_121 rfl (z_ib_in g4) rfl ?_
    cases h
    exact z_rI dX8_standsFor_30 rfl
/-! X8_fillOn 107 -/
def f_X8_fillOn_107_p29 (S : Int32 → Int32 → Int32 → Int32 → Int32 → Int32 → zMM → Option zMM) : Nat → Int32 → Int32 → zMM → Option zMM
  | 0, _, _, _ => none
  | n + 1, x3, x7, M =>
  if x3 ≤ x7 then
    some M
  else
    if z_ib x7 4 = true then
      if z_ib x7 4 = true then
        f_X8_fillOn_107_p29 S n x3 (x7 + (1 : Int32)) (z_up M 129 x7.toNatClampNeg (M 128 x7.toNatClampNeg))
      else none
    else none
def f_X8_fillOn_107_p59 (S : Int32 → Int32 → Int32 → Int32 → Int32 → Int32 → zMM → Option zMM) : Nat → Int32 → Int32 → Int32 → Int32 → Int32 → Int32 → Int32 → zMM → Option zMM
  | 0, _, _, _, _, _, _, _, _ => none
  | n + 1, x1, x2, x3, x4, x5, x6, x7, M =>
  if (10 : Int32) < x7 then
    if z_ib x2 10 = true then
      if x5 = (M 112 x2.toNatClampNeg) then
        some M
      else
        if z_ib x3 4 = true then
          if z_ib x2 10 = true then
            z_bv (S x1 x2 (x3 + (1 : Int32)) x4 (x5 + (1 : Int32)) (x6 + (M 113 x2.toNatClampNeg)) (z_up M 128 x3.toNatClampNeg (99 : Int32))) fun M14 =>
            some M14
          else none
        else none
    else none
  else
    if ((x4 >>> (x7 &&& 31)) &&& (1 : Int32)) = 0 then
      f_X8_fillOn_107_p59 S n x1 x2 x3 x4 x5 x6 (x7 + (1 : Int32)) M
    else
      if z_ib (((4 : Int32) * x1) + x3) 32 = true then
        z_bi (f_X8_standsFor_107 x7 (M 119 (((4 : Int32) * x1) + x3).toNatClampNeg) M) fun v18 M19 =>
        if v18 = (-1 : Int32) then
          f_X8_fillOn_107_p59 S n x1 x2 x3 x4 x5 x6 (x7 + (1 : Int32)) M19
        else
          if z_ib x3 4 = true then
            z_bv (S x1 x2 (x3 + (1 : Int32)) (x4 &&& (((1 : Int32) <<< (x7 &&& 31)) ^^^ (-1 : Int32))) x5 (x6 + v18) (z_up M19 128 x3.toNatClampNeg x7)) fun M24 =>
            f_X8_fillOn_107_p59 S n x1 x2 x3 x4 x5 x6 (x7 + (1 : Int32)) M24
          else none
      else none
def f_X8_fillOn_107 : Nat → Int32 → Int32 → Int32 → Int32 → Int32 → Int32 → zMM → Option zMM
  | 0, _, _, _, _, _, _, _ => none
  | D + 1, x1, x2, x3, x4, x5, x6, M =>
  if x6 < (M 107 38) then
    if z_ib x1 8 = true then
      if x3 = (M 120 x1.toNatClampNeg) then
        f_X8_fillOn_107_p29 (f_X8_fillOn_107 D) z_fuel x3 (0 : Int32) (z_up M 107 38 x6)
      else
        f_X8_fillOn_107_p59 (f_X8_fillOn_107 D) z_fuel x1 x2 x3 x4 x5 x6 (0 : Int32) M
    else none
  else
    some M
theorem A_X8_fillOn_107_p29 {l : Launch} (hl : l.stackTraces = false) {Ls d D : Nat} {Lm : zML} {S : Int32 → Int32 → Int32 → Int32 → Int32 → Int32 → zMM → Option zMM}
    (hS : ∀ (x1 : Int32) (x2 : Int32) (x3 : Int32) (x4 : Int32) (x5 : Int32) (x6 : Int32) (M M' : zMM) , S x1 x2 x3 x4 x5 x6 M = some M' → z_Ct l mX8_fillOn (d + D + 1) 0 0 [.ref 107, .int x1, .int x2, .int x3, .int x4, .int x5, .int x6] (z_L0 Ls, M, Lm) (.inl none) (z_L0 Ls, M', Lm)) :
    ∀ (n : Nat) (x3 : Int32) (x7 : Int32) (M M' : zMM) , f_X8_fillOn_107_p29 S n x3 x7 M = some M' → z_AW l mX8_fillOn (d + D + 2) 0 0 29 [.ref 107, .null, .null, .int x3, .null, .null, .null, .int x7, .null] [] (z_L0 Ls, M, Lm) (.inl none) (z_L0 Ls, M', Lm) := by
  intro n
  induction n with
  | zero => intro x3 x7 M M' h; cases h
  | succ n ih =>
    intro x3 x7 M M' h
    replace h : (  if x3 ≤ x7 then
    some M
  else
    if z_ib x7 4 = true then
      if z_ib x7 4 = true then
        f_X8_fillOn_107_p29 S n x3 (x7 + (1 : Int32)) (z_up M 129 x7.toNatClampNeg (M 128 x7.toNatClampNeg))
      else none
    else none) = some M' := h
    refine z_iload dX8_fillOn_29 rfl ?_
    refine z_iload_n dX8_fillOn_31 rfl ?_
    refine z_icmp_ge (tgt := 55) dX8_fillOn_32 rfl (fun g4 => ?_) (fun g4 => ?_)
    · replace h := (if_pos g4).symm.trans h
      cases h
      exact z_return dX8_fillOn_55 rfl
    · replace h := (if_neg g4).symm.trans h
      refine z_aload_n dX8_fillOn_35 rfl ?_
      refine z_getR (q := 129) fl_X8_88 dX8_fillOn_36 en_107 rfl ?_
      refine z_iload dX8_fillOn_39 rfl ?_
      refine z_aload_n dX8_fillOn_41 rfl ?_
      refine z_getR (q := 128) fl_X8_85 dX8_fillOn_42 en_107 rfl ?_
      refine z_iload dX8_fillOn_45 rfl ?_
      obtain ⟨g5, h⟩ := z_ifn h
      refine z_al (v := (M 128 x7.toNatClampNeg)) dX8_fillOn_47 en_128 rfl (z_ib_in g5) rfl ?_
      obtain ⟨g6, h⟩ := z_ifn h
      refine z_as dX8_fillOn_48 (by decide) en_129 rfl (z_ib_in g6) ?_
      refine z_ii (ls' := [.ref 107, .null, .null, .int x3, .null, .null, .null, .int (x7 + (1 : Int32)), .null]) kc_p1 dX8_fillOn_49 rfl (by decide) rfl ?_
      refine z_goto (tgt := 29) dX8_fillOn_52 rfl ?_
      exact ih x3 (x7 + (1 : Int32)) _ _ h
theorem A_X8_fillOn_107_p59 {l : Launch} (hl : l.stackTraces = false) {Ls d D : Nat} {Lm : zML} {S : Int32 → Int32 → Int32 → Int32 → Int32 → Int32 → zMM → Option zMM}
    (hS : ∀ (x1 : Int32) (x2 : Int32) (x3 : Int32) (x4 : Int32) (x5 : Int32) (x6 : Int32) (M M' : zMM) , S x1 x2 x3 x4 x5 x6 M = some M' → z_Ct l mX8_fillOn (d + D + 1) 0 0 [.ref 107, .int x1, .int x2, .int x3, .int x4, .int x5, .int x6] (z_L0 Ls, M, Lm) (.inl none) (z_L0 Ls, M', Lm)) :
    ∀ (n : Nat) (x1 : Int32) (x2 : Int32) (x3 : Int32) (x4 : Int32) (x5 : Int32) (x6 : Int32) (x7 : Int32) (M M' : zMM) , f_X8_fillOn_107_p59 S n x1 x2 x3 x4 x5 x6 x7 M = some M' → z_AW l mX8_fillOn (d + D + 2) 0 0 59 [.ref 107, .int x1, .int x2, .int x3, .int x4, .int x5, .int x6, .int x7, .null] [] (z_L0 Ls, M, Lm) (.inl none) (z_L0 Ls, M', Lm) := by
  intro n
  induction n with
  | zero => intro x1 x2 x3 x4 x5 x6 x7 M M' h; cases h
  | succ n ih =>
    intro x1 x2 x3 x4 x5 x6 x7 M M' h
    replace h : (  if (10 : Int32) < x7 then
    if z_ib x2 10 = true then
      if x5 = (M 112 x2.toNatClampNeg) then
        some M
      else
        if z_ib x3 4 = true then
          if z_ib x2 10 = true then
            z_bv (S x1 x2 (x3 + (1 : Int32)) x4 (x5 + (1 : Int32)) (x6 + (M 113 x2.toNatClampNeg)) (z_up M 128 x3.toNatClampNeg (99 : Int32))) fun M14 =>
            some M14
          else none
        else none
    else none
  else
    if ((x4 >>> (x7 &&& 31)) &&& (1 : Int32)) = 0 then
      f_X8_fillOn_107_p59 S n x1 x2 x3 x4 x5 x6 (x7 + (1 : Int32)) M
    else
      if z_ib (((4 : Int32) * x1) + x3) 32 = true then
        z_bi (f_X8_standsFor_107 x7 (M 119 (((4 : Int32) * x1) + x3).toNatClampNeg) M) fun v18 M19 =>
        if v18 = (-1 : Int32) then
          f_X8_fillOn_107_p59 S n x1 x2 x3 x4 x5 x6 (x7 + (1 : Int32)) M19
        else
          if z_ib x3 4 = true then
            z_bv (S x1 x2 (x3 + (1 : Int32)) (x4 &&& (((1 : Int32) <<< (x7 &&& 31)) ^^^ (-1 : Int32))) x5 (x6 + v18) (z_up M19 128 x3.toNatClampNeg x7)) fun M24 =>
            f_X8_fillOn_107_p59 S n x1 x2 x3 x4 x5 x6 (x7 + (1 : Int32)) M24
          else none
      else none) = some M' := h
    refine z_iload dX8_fillOn_59 rfl ?_
    refine z_bp kb_p10 dX8_fillOn_61 ?_
    refine z_icmp_gt (tgt := 145) dX8_fillOn_63 rfl (fun g7 => ?_) (fun g7 => ?_)
    · replace h := (if_pos g7).symm.trans h
      refine z_iload dX8_fillOn_145 rfl ?_
      refine z_aload_n dX8_fillOn_147 rfl ?_
      refine z_getR (q := 112) fl_X8_33 dX8_fillOn_148 en_107 rfl ?_
      refine z_iload_n dX8_fillOn_151 rfl ?_
      obtain ⟨g8, h⟩ := z_ifn h
      refine z_al (v := (M 112 x2.toNatClampNeg)) dX8_fillOn_152 en_112 rfl (z_ib_in g8) rfl ?_
      refine z_icmp_ne (tgt := 157) dX8_fillOn_153 rfl (fun g9 => ?_) (fun g9 => ?_)
      · replace h := (if_pos g9).symm.trans h
        cases h
        exact z_return dX8_fillOn_156 rfl
      · replace h := (if_neg g9).symm.trans h
        refine z_aload_n dX8_fillOn_157 rfl ?_
        refine z_getR (q := 128) fl_X8_85 dX8_fillOn_158 en_107 rfl ?_
        refine z_iload_n dX8_fillOn_161 rfl ?_
        refine z_bp kb_p99 dX8_fillOn_162 ?_
        obtain ⟨g10, h⟩ := z_ifn h
        refine z_as dX8_fillOn_164 (by decide) en_128 rfl (z_ib_in g10) ?_
        refine z_aload_n dX8_fillOn_165 rfl ?_
        refine z_iload_n dX8_fillOn_166 rfl ?_
        refine z_iload_n dX8_fillOn_167 rfl ?_
        refine z_iload_n dX8_fillOn_168 rfl ?_
        refine z_ic kc_p1 dX8_fillOn_169 ?_
        refine z_iadd dX8_fillOn_170 ?_
        refine z_iload dX8_fillOn_171 rfl ?_
        refine z_iload dX8_fillOn_173 rfl ?_
        refine z_ic kc_p1 dX8_fillOn_175 ?_
        refine z_iadd dX8_fillOn_176 ?_
        refine z_iload dX8_fillOn_177 rfl ?_
        refine z_aload_n dX8_fillOn_179 rfl ?_
        refine z_getR (q := 113) fl_X8_36 dX8_fillOn_180 en_107 rfl ?_
        refine z_iload_n dX8_fillOn_183 rfl ?_
        obtain ⟨g11, h⟩ := z_ifn h
        refine z_al (v := (M 113 x2.toNatClampNeg)) dX8_fillOn_184 en_113 rfl (z_ib_in g11) rfl ?_
        refine z_iadd dX8_fillOn_185 ?_
        obtain ⟨M14, c12, h⟩ := z_bv_c h
        refine z_cV (av := [.int x1, .int x2, .int (x3 + (1 : Int32)), .int x4, .int (x5 + (1 : Int32)), .int (x6 + (M 113 x2.toNatClampNeg))]) (st := []) lk_X8_352 dX8_fillOn_186 (hS x1 x2 (x3 + (1 : Int32)) x4 (x5 + (1 : Int32)) (x6 + (M 113 x2.toNatClampNeg)) _ _ c12) rfl rfl en_107 rfl (Nat.le_of_ble_eq_true rfl) rfl z_len rfl rfl ?_
        cases h
        exact z_return dX8_fillOn_189 rfl
    · replace h := (if_neg g7).symm.trans h
      refine z_iload dX8_fillOn_66 rfl ?_
      refine z_iload dX8_fillOn_68 rfl ?_
      refine z_ishr dX8_fillOn_70 ?_
      refine z_ic kc_p1 dX8_fillOn_71 ?_
      refine z_iand dX8_fillOn_72 ?_
      refine z_if_ne (tgt := 79) dX8_fillOn_73 rfl (fun g15 => ?_) (fun g15 => ?_)
      · replace h := (if_pos g15).symm.trans h
        refine z_goto (tgt := 139) dX8_fillOn_76 rfl ?_
        refine z_ii (ls' := [.ref 107, .int x1, .int x2, .int x3, .int x4, .int x5, .int x6, .int (x7 + (1 : Int32)), .null]) kc_p1 dX8_fillOn_139 rfl (by decide) rfl ?_
        refine z_goto (tgt := 59) dX8_fillOn_142 rfl ?_
        exact ih x1 x2 x3 x4 x5 x6 (x7 + (1 : Int32)) _ _ h
      · replace h := (if_neg g15).symm.trans h
        refine z_aload_n dX8_fillOn_79 rfl ?_
        refine z_iload dX8_fillOn_80 rfl ?_
        refine z_aload_n dX8_fillOn_82 rfl ?_
        refine z_getR (q := 119) fl_X8_54 dX8_fillOn_83 en_107 rfl ?_
        refine z_ic kc_p4 dX8_fillOn_86 ?_
        refine z_iload_n dX8_fillOn_87 rfl ?_
        refine z_imul dX8_fillOn_88 ?_
        refine z_iload_n dX8_fillOn_89 rfl ?_
        refine z_iadd dX8_fillOn_90 ?_
        obtain ⟨g16, h⟩ := z_ifn h
        refine z_al (v := (M 119 (((4 : Int32) * x1) + x3).toNatClampNeg)) dX8_fillOn_91 en_119 rfl (z_ib_in g16) rfl ?_
        obtain ⟨v18, M19, c17, h⟩ := z_bi_c h
        refine z_cV (av := [.int x7, .int (M 119 (((4 : Int32) * x1) + x3).toNatClampNeg)]) (st := []) lk_X8_349 dX8_fillOn_92 (A_X8_standsFor_107 (d := d + D + 1) hl c17) rfl rfl en_107 rfl (Nat.le_of_ble_eq_true rfl) rfl z_len rfl rfl ?_
        refine z_istore (ls' := [.ref 107, .int x1, .int x2, .int x3, .int x4, .int x5, .int x6, .int x7, .int v18]) dX8_fillOn_95 (by decide) rfl ?_
        refine z_iload dX8_fillOn_97 rfl ?_
        refine z_ic kc_m1 dX8_fillOn_99 ?_
        refine z_icmp_ne (tgt := 106) dX8_fillOn_100 rfl (fun g20 => ?_) (fun g20 => ?_)
        · replace h := (if_pos g20).symm.trans h
          refine z_goto (tgt := 139) dX8_fillOn_103 rfl ?_
          refine z_ii (ls' := [.ref 107, .int x1, .int x2, .int x3, .int x4, .int x5, .int x6, .int (x7 + (1 : Int32)), .int v18]) kc_p1 dX8_fillOn_139 rfl (by decide) rfl ?_
          refine z_goto (tgt := 59) dX8_fillOn_142 rfl ?_
          refine z_fg (ls' := [.ref 107, .int x1, .int x2, .int x3, .int x4, .int x5, .int x6, .int (x7 + (1 : Int32)), .null]) ⟨Or.inr rfl, Or.inr rfl, Or.inr rfl, Or.inr rfl, Or.inr rfl, Or.inr rfl, Or.inr rfl, Or.inr rfl, Or.inl rfl, trivial⟩ ?_
          exact ih x1 x2 x3 x4 x5 x6 (x7 + (1 : Int32)) _ _ h
        · replace h := (if_neg g20).symm.trans h
          refine z_aload_n dX8_fillOn_106 rfl ?_
          refine z_getR (q := 128) fl_X8_85 dX8_fillOn_107 en_107 rfl ?_
          refine z_iload_n dX8_fillOn_110 rfl ?_
          refine z_iload dX8_fillOn_111 rfl ?_
          obtain ⟨g21, h⟩ := z_ifn h
          refine z_as dX8_fillOn_113 (by decide) en_128 rfl (z_ib_in g21) ?_
          refine z_aload_n dX8_fillOn_114 rfl ?_
          refine z_iload_n dX8_fillOn_115 rfl ?_
          refine z_iload_n dX8_fillOn_116 rfl ?_
          refine z_iload_n dX8_fillOn_117 rfl ?_
          refine z_ic kc_p1 dX8_fillOn_118 ?_
          refine z_iadd dX8_fillOn_119 ?_
          refine z_iload dX8_fillOn_120 rfl ?_
          refine z_ic kc_p1 dX8_fillOn_122 ?_
          refine z_iload dX8_fillOn_123 rfl ?_
          refine z_ishl dX8_fillOn_125 ?_
          refine z_ic kc_m1 dX8_fillOn_126 ?_
          refine z_ixor dX8_fillOn_127 ?_
          refine z_iand dX8_fillOn_128 ?_
          refine z_iload dX8_fillOn_129 rfl ?_
          refine z_iload dX8_fillOn_131 rfl ?_
          refine z_iload dX8_fillOn_133 rfl ?_
          refine z_iadd dX8_fillOn_135 ?_
          obtain ⟨M24, c22, h⟩ := z_bv_c h
          refine z_cV (av := [.int x1, .int x2, .int (x3 + (1 : Int32)), .int (x4 &&& (((1 : Int32) <<< (x7 &&& 31)) ^^^ (-1 : Int32))), .int x5, .int (x6 + v18)]) (st := []) lk_X8_352 dX8_fillOn_136 (hS x1 x2 (x3 + (1 : Int32)) (x4 &&& (((1 : Int32) <<< (x7 &&& 31)) ^^^ (-1 : Int32))) x5 (x6 + v18) _ _ c22) rfl rfl en_107 rfl (Nat.le_of_ble_eq_true rfl) rfl z_len rfl rfl ?_
          refine z_ii (ls' := [.ref 107, .int x1, .int x2, .int x3, .int x4, .int x5, .int x6, .int (x7 + (1 : Int32)), .int v18]) kc_p1 dX8_fillOn_139 rfl (by decide) rfl ?_
          refine z_goto (tgt := 59) dX8_fillOn_142 rfl ?_
          refine z_fg (ls' := [.ref 107, .int x1, .int x2, .int x3, .int x4, .int x5, .int x6, .int (x7 + (1 : Int32)), .null]) ⟨Or.inr rfl, Or.inr rfl, Or.inr rfl, Or.inr rfl, Or.inr rfl, Or.inr rfl, Or.inr rfl, Or.inr rfl, Or.inl rfl, trivial⟩ ?_
          exact ih x1 x2 x3 x4 x5 x6 (x7 + (1 : Int32)) _ _ h
theorem A_X8_fillOn_107 {l : Launch} (hl : l.stackTraces = false) {Ls : Nat} {Lm : zML} : ∀ (D d : Nat) (x1 : Int32) (x2 : Int32) (x3 : Int32) (x4 : Int32) (x5 : Int32) (x6 : Int32) (M M' : zMM) , f_X8_fillOn_107 D x1 x2 x3 x4 x5 x6 M = some M' → z_Ct l mX8_fillOn (d + D + 1) 0 0 [.ref 107, .int x1, .int x2, .int x3, .int x4, .int x5, .int x6] (z_L0 Ls, M, Lm) (.inl none) (z_L0 Ls, M', Lm) := by
  intro D
  induction D with
  | zero => intro d x1 x2 x3 x4 x5 x6 M M' h; cases h
  | succ D ihD =>
    intro d x1 x2 x3 x4 x5 x6 M M' h
    replace h : (  if x6 < (M 107 38) then
    if z_ib x1 8 = true then
      if x3 = (M 120 x1.toNatClampNeg) then
        f_X8_fillOn_107_p29 (f_X8_fillOn_107 D) z_fuel x3 (0 : Int32) (z_up M 107 38 x6)
      else
        f_X8_fillOn_107_p59 (f_X8_fillOn_107 D) z_fuel x1 x2 x3 x4 x5 x6 (0 : Int32) M
    else none
  else
    some M) = some M' := h
    have hS := fun x1 x2 x3 x4 x5 x6 M M' h => ihD d x1 x2 x3 x4 x5 x6 M M' h
    refine z_Ct.of hl (by decide) (Nat.le_of_ble_eq_true rfl) rfl ?_
    show z_AW l mX8_fillOn (d + D + 2) 0 0 0 [.ref 107, .int x1, .int x2, .int x3, .int x4, .int x5, .int x6, .null, .null] [] (z_L0 Ls, M, Lm) (.inl none) (z_L0 Ls, M', Lm)
    refine z_iload dX8_fillOn_0 rfl ?_
    refine z_aload_n dX8_fillOn_2 rfl ?_
    refine z_gI (v := (M 107 38)) fl_X8_346 dX8_fillOn_3 en_107 rfl rfl ?_
    refine z_icmp_lt (tgt := 10) dX8_fillOn_6 rfl (fun g1 => ?_) (fun g1 => ?_)
    · replace h := (if_pos g1).symm.trans h
      refine z_iload_n dX8_fillOn_10 rfl ?_
      refine z_aload_n dX8_fillOn_11 rfl ?_
      refine z_getR (q := 120) fl_X8_57 dX8_fillOn_12 en_107 rfl ?_
      refine z_iload_n dX8_fillOn_15 rfl ?_
      obtain ⟨g2, h⟩ := z_ifn h
      refine z_al (v := (M 120 x1.toNatClampNeg)) dX8_fillOn_16 en_120 rfl (z_ib_in g2) rfl ?_
      refine z_icmp_ne (tgt := 56) dX8_fillOn_17 rfl (fun g3 => ?_) (fun g3 => ?_)
      · replace h := (if_pos g3).symm.trans h
        refine z_aload_n dX8_fillOn_20 rfl ?_
        refine z_iload dX8_fillOn_21 rfl ?_
        refine z_pI fp_X8_346 dX8_fillOn_23 (by decide) en_107 rfl ?_
        refine z_ic kc_p0 dX8_fillOn_26 ?_
        refine z_istore (ls' := [.ref 107, .int x1, .int x2, .int x3, .int x4, .int x5, .int x6, .int (0 : Int32), .null]) dX8_fillOn_27 (by decide) rfl ?_
        refine z_fg (ls' := [.ref 107, .null, .null, .int x3, .null, .null, .null, .int (0 : Int32), .null]) ⟨Or.inr rfl, Or.inl rfl, Or.inl rfl, Or.inr rfl, Or.inl rfl, Or.inl rfl, Or.inl rfl, Or.inr rfl, Or.inl rfl, trivial⟩ ?_
        exact A_X8_fillOn_107_p29 hl hS z_fuel x3 (0 : Int32) _ _ h
      · replace h := (if_neg g3).symm.trans h
        refine z_ic kc_p0 dX8_fillOn_56 ?_
        refine z_istore (ls' := [.ref 107, .int x1, .int x2, .int x3, .int x4, .int x5, .int x6, .int (0 : Int32), .null]) dX8_fillOn_57 (by decide) rfl ?_
        exact A_X8_fillOn_107_p59 hl hS z_fuel x1 x2 x3 x4 x5 x6 (0 : Int32) _ _ h
    · replace h := (if_neg g1).symm.trans h
      cases h
      exact z_return dX8_fillOn_9 rfl
/-! X8_priceOf 107 -/
def f_X8_priceOf_107 (x1 : Int32) (x2 : Int32) (x3 : Int32) (M : zMM) : Option (Int32 × zMM) :=
  z_bv (f_X8_fillOn_107 8 x1 x2 (0 : Int32) x3 (0 : Int32) (0 : Int32) (z_up M 107 38 (1000000 : Int32))) fun M3 =>
  if (M3 107 38) = (1000000 : Int32) then
    some ((-1 : Int32), M3)
  else
    some ((M3 107 38), M3)
theorem A_X8_priceOf_107 {l : Launch} (hl : l.stackTraces = false) {Ls d : Nat} {Lm : zML} {x1 : Int32} {x2 : Int32} {x3 : Int32} {M M' : zMM} {v : Int32} (h : f_X8_priceOf_107 x1 x2 x3 M = some (v, M')) : z_Ct l mX8_priceOf (d + 10) 0 0 [.ref 107, .int x1, .int x2, .int x3] (z_L0 Ls, M, Lm) (.inl (some (.int v))) (z_L0 Ls, M', Lm) := by
  replace h : (  z_bv (f_X8_fillOn_107 8 x1 x2 (0 : Int32) x3 (0 : Int32) (0 : Int32) (z_up M 107 38 (1000000 : Int32))) fun M3 =>
  if (M3 107 38) = (1000000 : Int32) then
    some ((-1 : Int32), M3)
  else
    some ((M3 107 38), M3)) = some (v, M') := h
  refine z_Ct.of hl (by decide) (Nat.le_of_ble_eq_true rfl) rfl ?_
  show z_AW l mX8_priceOf (d + 10) 0 0 0 [.ref 107, .int x1, .int x2, .int x3] [] (z_L0 Ls, M, Lm) (.inl (some (.int v))) (z_L0 Ls, M', Lm)
  refine z_aload_n dX8_priceOf_0 rfl ?_
  refine z_ldcw (v := (1000000 : Int32)) kc_X8_316 dX8_priceOf_1 ?_
  refine z_pI fp_X8_346 dX8_priceOf_4 (by decide) en_107 rfl ?_
  refine z_aload_n dX8_priceOf_7 rfl ?_
  refine z_iload_n dX8_priceOf_8 rfl ?_
  refine z_iload_n dX8_priceOf_9 rfl ?_
  refine z_ic kc_p0 dX8_priceOf_10 ?_
  refine z_iload_n dX8_priceOf_11 rfl ?_
  refine z_ic kc_p0 dX8_priceOf_12 ?_
  refine z_ic kc_p0 dX8_priceOf_13 ?_
  obtain ⟨M3, c1, h⟩ := z_bv_c h
  refine z_cV (av := [.int x1, .int x2, .int (0 : Int32), .int x3, .int (0 : Int32), .int (0 : Int32)]) (st := []) lk_X8_352 dX8_priceOf_14 (A_X8_fillOn_107 hl 8 (d + 0) x1 x2 (0 : Int32) x3 (0 : Int32) (0 : Int32) _ _ c1) rfl rfl en_107 rfl (Nat.le_of_ble_eq_true rfl) rfl z_len rfl rfl ?_
  refine z_aload_n dX8_priceOf_17 rfl ?_
  refine z_gI (v := (M3 107 38)) fl_X8_346 dX8_priceOf_18 en_107 rfl rfl ?_
  refine z_ldcw (v := (1000000 : Int32)) kc_X8_316 dX8_priceOf_21 ?_
  refine z_icmp_ne (tgt := 31) dX8_priceOf_24 rfl (fun g4 => ?_) (fun g4 => ?_)
  · replace h := (if_pos g4).symm.trans h
    refine z_ic kc_m1 dX8_priceOf_27 ?_
    refine z_goto (tgt := 35) dX8_priceOf_28 rfl ?_
    cases h
    exact z_rI dX8_priceOf_35 rfl
  · replace h := (if_neg g4).symm.trans h
    refine z_aload_n dX8_priceOf_31 rfl ?_
    refine z_gI (v := (M3 107 38)) fl_X8_346 dX8_priceOf_32 en_107 rfl rfl ?_
    cases h
    exact z_rI dX8_priceOf_35 rfl
/-! X8_both 107 -/
def f_X8_both_107_p184 (K45 : Int32 → Int32 → Int32 → Int32 → Int32 → Int32 → zMM → Option (Int32 × zMM)) (x1 : Int32) (x2 : Int32) (x3 : Int32) (x6 : Int32) (x7 : Int32) (x8 : Int32) (x9 : Int32) (x10 : Int32) (M : zMM) : Option (Int32 × zMM) :=
  K45 x1 x2 x3 (((8 : Int32) * x7) + x8) (x9 + x10) (x6 + (1 : Int32)) M
def f_X8_both_107_p45 : Nat → Int32 → Int32 → Int32 → Int32 → Int32 → Int32 → zMM → Option (Int32 × zMM)
  | 0, _, _, _, _, _, _, _ => none
  | n + 1, x1, x2, x3, x4, x5, x6, M =>
  if ((M 109 3) * (M 109 3)) ≤ x6 then
    if x3 = 0 then
      some (x4, M)
    else
      some (x5, M)
  else
    if x1 = x2 then
      if x3 = 0 then
        some (x4, M)
      else
        some (x5, M)
    else
      if ¬ (M 109 3) = 0 then
        if ¬ (M 109 3) = 0 then
          if z_ib (x6 / (M 109 3)) 8 = true then
            if z_ib (x6 - x6 / (M 109 3) * (M 109 3)) 8 = true then
              if ((M 118 (x6 / (M 109 3)).toNatClampNeg) + (M 118 (x6 - x6 / (M 109 3) * (M 109 3)).toNatClampNeg)) ≤ (M 109 4) then
                z_bi (f_X8_trunksAt_107 x1 M) fun v30 M31 =>
                z_bi (f_X8_thingsOf_107 v30 M31) fun v33 M34 =>
                z_bi (f_X8_priceOf_107 (x6 / (M 109 3)) x1 v33 M34) fun v36 M37 =>
                z_bi (f_X8_trunksAt_107 x2 M37) fun v39 M40 =>
                z_bi (f_X8_thingsOf_107 v39 M40) fun v42 M43 =>
                z_bi (f_X8_priceOf_107 (x6 - x6 / (M 109 3) * (M 109 3)) x2 v42 M43) fun v45 M46 =>
                if v36 = (-1 : Int32) then
                  f_X8_both_107_p45 n x1 x2 x3 x4 x5 (x6 + (1 : Int32)) M46
                else
                  if v45 = (-1 : Int32) then
                    f_X8_both_107_p45 n x1 x2 x3 x4 x5 (x6 + (1 : Int32)) M46
                  else
                    if x4 = (-1 : Int32) then
                      f_X8_both_107_p184 (f_X8_both_107_p45 n) x1 x2 x3 x6 (x6 / (M 109 3)) (x6 - x6 / (M 109 3) * (M 109 3)) v36 v45 M46
                    else
                      if (v36 + v45) < x5 then
                        f_X8_both_107_p184 (f_X8_both_107_p45 n) x1 x2 x3 x6 (x6 / (M 109 3)) (x6 - x6 / (M 109 3) * (M 109 3)) v36 v45 M46
                      else
                        f_X8_both_107_p45 n x1 x2 x3 x4 x5 (x6 + (1 : Int32)) M46
              else
                f_X8_both_107_p45 n x1 x2 x3 x4 x5 (x6 + (1 : Int32)) M
            else none
          else none
        else none
      else none
def f_X8_both_107 (x1 : Int32) (x2 : Int32) (x3 : Int32) (M : zMM) : Option (Int32 × zMM) :=
  z_bi (f_X8_isTown_107 x1 (z_up M 107 1 (0 : Int32))) fun v2 M3 =>
  if v2 = 0 then
    z_bi (f_X8_fail_107 (1 : Int32) M3) fun v6 M7 =>
    some (v6, M7)
  else
    z_bi (f_X8_isTown_107 x2 M3) fun v9 M10 =>
    if v9 = 0 then
      z_bi (f_X8_fail_107 (1 : Int32) M10) fun v13 M14 =>
      some (v13, M14)
    else
      if x3 < 0 then
        z_bi (f_X8_fail_107 (1 : Int32) M10) fun v17 M18 =>
        some (v17, M18)
      else
        if x3 ≤ (1 : Int32) then
          f_X8_both_107_p45 z_fuel x1 x2 x3 (-1 : Int32) (-1 : Int32) (0 : Int32) M10
        else
          z_bi (f_X8_fail_107 (1 : Int32) M10) fun v52 M53 =>
          some (v52, M53)
theorem A_X8_both_107_p184 {l : Launch} (hl : l.stackTraces = false) {Ls d : Nat} {Lm : zML} {K45 : Int32 → Int32 → Int32 → Int32 → Int32 → Int32 → zMM → Option (Int32 × zMM)}
    (hK45 : ∀ (x1 : Int32) (x2 : Int32) (x3 : Int32) (x4 : Int32) (x5 : Int32) (x6 : Int32) (M M' : zMM) (v : Int32) , K45 x1 x2 x3 x4 x5 x6 M = some (v, M') → z_AW l mX8_both (d + 11) 0 0 45 [.ref 107, .int x1, .int x2, .int x3, .int x4, .int x5, .int x6, .null, .null, .null, .null] [] (z_L0 Ls, M, Lm) (.inl (some (.int v))) (z_L0 Ls, M', Lm)) :
    ∀ (x1 : Int32) (x2 : Int32) (x3 : Int32) (x6 : Int32) (x7 : Int32) (x8 : Int32) (x9 : Int32) (x10 : Int32) (M M' : zMM) (v : Int32) , f_X8_both_107_p184 K45 x1 x2 x3 x6 x7 x8 x9 x10 M = some (v, M') → z_AW l mX8_both (d + 11) 0 0 184 [.ref 107, .int x1, .int x2, .int x3, .null, .null, .int x6, .int x7, .int x8, .int x9, .int x10] [] (z_L0 Ls, M, Lm) (.inl (some (.int v))) (z_L0 Ls, M', Lm) := by
  intro x1 x2 x3 x6 x7 x8 x9 x10 M M' v h
  replace h : (  K45 x1 x2 x3 (((8 : Int32) * x7) + x8) (x9 + x10) (x6 + (1 : Int32)) M) = some (v, M') := h
  refine z_bp kb_p8 dX8_both_184 ?_
  refine z_iload dX8_both_186 rfl ?_
  refine z_imul dX8_both_188 ?_
  refine z_iload dX8_both_189 rfl ?_
  refine z_iadd dX8_both_191 ?_
  refine z_istore (ls' := [.ref 107, .int x1, .int x2, .int x3, .int (((8 : Int32) * x7) + x8), .null, .int x6, .int x7, .int x8, .int x9, .int x10]) dX8_both_192 (by decide) rfl ?_
  refine z_iload dX8_both_194 rfl ?_
  refine z_iload dX8_both_196 rfl ?_
  refine z_iadd dX8_both_198 ?_
  refine z_istore (ls' := [.ref 107, .int x1, .int x2, .int x3, .int (((8 : Int32) * x7) + x8), .int (x9 + x10), .int x6, .int x7, .int x8, .int x9, .int x10]) dX8_both_199 (by decide) rfl ?_
  refine z_ii (ls' := [.ref 107, .int x1, .int x2, .int x3, .int (((8 : Int32) * x7) + x8), .int (x9 + x10), .int (x6 + (1 : Int32)), .int x7, .int x8, .int x9, .int x10]) kc_p1 dX8_both_201 rfl (by decide) rfl ?_
  refine z_goto (tgt := 45) dX8_both_204 rfl ?_
  refine z_fg (ls' := [.ref 107, .int x1, .int x2, .int x3, .int (((8 : Int32) * x7) + x8), .int (x9 + x10), .int (x6 + (1 : Int32)), .null, .null, .null, .null]) ⟨Or.inr rfl, Or.inr rfl, Or.inr rfl, Or.inr rfl, Or.inr rfl, Or.inr rfl, Or.inr rfl, Or.inl rfl, Or.inl rfl, Or.inl rfl, Or.inl rfl, trivial⟩ ?_
  exact hK45 x1 x2 x3 (((8 : Int32) * x7) + x8) (x9 + x10) (x6 + (1 : Int32)) _ _ _ h
theorem A_X8_both_107_p45 {l : Launch} (hl : l.stackTraces = false) {Ls d : Nat} {Lm : zML} :
    ∀ (n : Nat) (x1 : Int32) (x2 : Int32) (x3 : Int32) (x4 : Int32) (x5 : Int32) (x6 : Int32) (M M' : zMM) (v : Int32) , f_X8_both_107_p45 n x1 x2 x3 x4 x5 x6 M = some (v, M') → z_AW l mX8_both (d + 11) 0 0 45 [.ref 107, .int x1, .int x2, .int x3, .int x4, .int x5, .int x6, .null, .null, .null, .null] [] (z_L0 Ls, M, Lm) (.inl (some (.int v))) (z_L0 Ls, M', Lm) := by
  intro n
  induction n with
  | zero => intro x1 x2 x3 x4 x5 x6 M M' v h; cases h
  | succ n ih =>
    intro x1 x2 x3 x4 x5 x6 M M' v h
    replace h : (  if ((M 109 3) * (M 109 3)) ≤ x6 then
    if x3 = 0 then
      some (x4, M)
    else
      some (x5, M)
  else
    if x1 = x2 then
      if x3 = 0 then
        some (x4, M)
      else
        some (x5, M)
    else
      if ¬ (M 109 3) = 0 then
        if ¬ (M 109 3) = 0 then
          if z_ib (x6 / (M 109 3)) 8 = true then
            if z_ib (x6 - x6 / (M 109 3) * (M 109 3)) 8 = true then
              if ((M 118 (x6 / (M 109 3)).toNatClampNeg) + (M 118 (x6 - x6 / (M 109 3) * (M 109 3)).toNatClampNeg)) ≤ (M 109 4) then
                z_bi (f_X8_trunksAt_107 x1 M) fun v30 M31 =>
                z_bi (f_X8_thingsOf_107 v30 M31) fun v33 M34 =>
                z_bi (f_X8_priceOf_107 (x6 / (M 109 3)) x1 v33 M34) fun v36 M37 =>
                z_bi (f_X8_trunksAt_107 x2 M37) fun v39 M40 =>
                z_bi (f_X8_thingsOf_107 v39 M40) fun v42 M43 =>
                z_bi (f_X8_priceOf_107 (x6 - x6 / (M 109 3) * (M 109 3)) x2 v42 M43) fun v45 M46 =>
                if v36 = (-1 : Int32) then
                  f_X8_both_107_p45 n x1 x2 x3 x4 x5 (x6 + (1 : Int32)) M46
                else
                  if v45 = (-1 : Int32) then
                    f_X8_both_107_p45 n x1 x2 x3 x4 x5 (x6 + (1 : Int32)) M46
                  else
                    if x4 = (-1 : Int32) then
                      f_X8_both_107_p184 (f_X8_both_107_p45 n) x1 x2 x3 x6 (x6 / (M 109 3)) (x6 - x6 / (M 109 3) * (M 109 3)) v36 v45 M46
                    else
                      if (v36 + v45) < x5 then
                        f_X8_both_107_p184 (f_X8_both_107_p45 n) x1 x2 x3 x6 (x6 / (M 109 3)) (x6 - x6 / (M 109 3) * (M 109 3)) v36 v45 M46
                      else
                        f_X8_both_107_p45 n x1 x2 x3 x4 x5 (x6 + (1 : Int32)) M46
              else
                f_X8_both_107_p45 n x1 x2 x3 x4 x5 (x6 + (1 : Int32)) M
            else none
          else none
        else none
      else none) = some (v, M') := h
    refine z_iload dX8_both_45 rfl ?_
    refine z_aload_n dX8_both_47 rfl ?_
    refine z_getR (q := 109) fl_X8_23 dX8_both_48 en_107 rfl ?_
    refine z_ic kc_p3 dX8_both_51 ?_
    refine z_al (v := (M 109 3)) dX8_both_52 en_109 kn_p3 (z_ib_in rfl) rfl ?_
    refine z_aload_n dX8_both_53 rfl ?_
    refine z_getR (q := 109) fl_X8_23 dX8_both_54 en_107 rfl ?_
    refine z_ic kc_p3 dX8_both_57 ?_
    refine z_al (v := (M 109 3)) dX8_both_58 en_109 kn_p3 (z_ib_in rfl) rfl ?_
    refine z_imul dX8_both_59 ?_
    refine z_icmp_ge (tgt := 207) dX8_both_60 rfl (fun g20 => ?_) (fun g20 => ?_)
    · replace h := (if_pos g20).symm.trans h
      refine z_iload_n dX8_both_207 rfl ?_
      refine z_if_ne (tgt := 216) dX8_both_208 rfl (fun g21 => ?_) (fun g21 => ?_)
      · replace h := (if_pos g21).symm.trans h
        refine z_iload dX8_both_211 rfl ?_
        refine z_goto (tgt := 218) dX8_both_213 rfl ?_
        cases h
        exact z_rI dX8_both_218 rfl
      · replace h := (if_neg g21).symm.trans h
        refine z_iload dX8_both_216 rfl ?_
        cases h
        exact z_rI dX8_both_218 rfl
    · replace h := (if_neg g20).symm.trans h
      refine z_iload_n dX8_both_63 rfl ?_
      refine z_iload_n dX8_both_64 rfl ?_
      refine z_icmp_eq (tgt := 207) dX8_both_65 rfl (fun g22 => ?_) (fun g22 => ?_)
      · replace h := (if_pos g22).symm.trans h
        refine z_iload_n dX8_both_207 rfl ?_
        refine z_if_ne (tgt := 216) dX8_both_208 rfl (fun g23 => ?_) (fun g23 => ?_)
        · replace h := (if_pos g23).symm.trans h
          refine z_iload dX8_both_211 rfl ?_
          refine z_goto (tgt := 218) dX8_both_213 rfl ?_
          cases h
          exact z_rI dX8_both_218 rfl
        · replace h := (if_neg g23).symm.trans h
          refine z_iload dX8_both_216 rfl ?_
          cases h
          exact z_rI dX8_both_218 rfl
      · replace h := (if_neg g22).symm.trans h
        refine z_iload dX8_both_68 rfl ?_
        refine z_aload_n dX8_both_70 rfl ?_
        refine z_getR (q := 109) fl_X8_23 dX8_both_71 en_107 rfl ?_
        refine z_ic kc_p3 dX8_both_74 ?_
        refine z_al (v := (M 109 3)) dX8_both_75 en_109 kn_p3 (z_ib_in rfl) rfl ?_
        obtain ⟨g24, h⟩ := z_ifn h
        refine z_idiv dX8_both_76 g24 ?_
        refine z_istore (ls' := [.ref 107, .int x1, .int x2, .int x3, .int x4, .int x5, .int x6, .int (x6 / (M 109 3)), .null, .null, .null]) dX8_both_77 (by decide) rfl ?_
        refine z_iload dX8_both_79 rfl ?_
        refine z_aload_n dX8_both_81 rfl ?_
        refine z_getR (q := 109) fl_X8_23 dX8_both_82 en_107 rfl ?_
        refine z_ic kc_p3 dX8_both_85 ?_
        refine z_al (v := (M 109 3)) dX8_both_86 en_109 kn_p3 (z_ib_in rfl) rfl ?_
        obtain ⟨g25, h⟩ := z_ifn h
        refine z_irem dX8_both_87 g25 ?_
        refine z_istore (ls' := [.ref 107, .int x1, .int x2, .int x3, .int x4, .int x5, .int x6, .int (x6 / (M 109 3)), .int (x6 - x6 / (M 109 3) * (M 109 3)), .null, .null]) dX8_both_88 (by decide) rfl ?_
        refine z_aload_n dX8_both_90 rfl ?_
        refine z_getR (q := 118) fl_X8_51 dX8_both_91 en_107 rfl ?_
        refine z_iload dX8_both_94 rfl ?_
        obtain ⟨g26, h⟩ := z_ifn h
        refine z_al (v := (M 118 (x6 / (M 109 3)).toNatClampNeg)) dX8_both_96 en_118 rfl (z_ib_in g26) rfl ?_
        refine z_aload_n dX8_both_97 rfl ?_
        refine z_getR (q := 118) fl_X8_51 dX8_both_98 en_107 rfl ?_
        refine z_iload dX8_both_101 rfl ?_
        obtain ⟨g27, h⟩ := z_ifn h
        refine z_al (v := (M 118 (x6 - x6 / (M 109 3) * (M 109 3)).toNatClampNeg)) dX8_both_103 en_118 rfl (z_ib_in g27) rfl ?_
        refine z_iadd dX8_both_104 ?_
        refine z_aload_n dX8_both_105 rfl ?_
        refine z_getR (q := 109) fl_X8_23 dX8_both_106 en_107 rfl ?_
        refine z_ic kc_p4 dX8_both_109 ?_
        refine z_al (v := (M 109 4)) dX8_both_110 en_109 kn_p4 (z_ib_in rfl) rfl ?_
        refine z_icmp_le (tgt := 117) dX8_both_111 rfl (fun g28 => ?_) (fun g28 => ?_)
        · replace h := (if_pos g28).symm.trans h
          refine z_aload_n dX8_both_117 rfl ?_
          refine z_iload dX8_both_118 rfl ?_
          refine z_iload_n dX8_both_120 rfl ?_
          refine z_aload_n dX8_both_121 rfl ?_
          refine z_aload_n dX8_both_122 rfl ?_
          refine z_iload_n dX8_both_123 rfl ?_
          obtain ⟨v30, M31, c29, h⟩ := z_bi_c h
          refine z_cV (av := [.int x1]) (st := [.ref 107, .int x1, .int (x6 / (M 109 3)), .ref 107]) lk_X8_307 dX8_both_124 (A_X8_trunksAt_107 (d := d + 10) hl c29) rfl rfl en_107 rfl (Nat.le_of_ble_eq_true rfl) rfl z_len rfl rfl ?_
          obtain ⟨v33, M34, c32, h⟩ := z_bi_c h
          refine z_cV (av := [.int v30]) (st := [.int x1, .int (x6 / (M 109 3)), .ref 107]) lk_X8_310 dX8_both_127 (A_X8_thingsOf_107 (d := d + 10) hl c32) rfl rfl en_107 rfl (Nat.le_of_ble_eq_true rfl) rfl z_len rfl rfl ?_
          obtain ⟨v36, M37, c35, h⟩ := z_bi_c h
          refine z_cV (av := [.int (x6 / (M 109 3)), .int x1, .int v33]) (st := []) lk_X8_359 dX8_both_130 (A_X8_priceOf_107 (d := d + 0) hl c35) rfl rfl en_107 rfl (Nat.le_of_ble_eq_true rfl) rfl z_len rfl rfl ?_
          refine z_istore (ls' := [.ref 107, .int x1, .int x2, .int x3, .int x4, .int x5, .int x6, .int (x6 / (M 109 3)), .int (x6 - x6 / (M 109 3) * (M 109 3)), .int v36, .null]) dX8_both_133 (by decide) rfl ?_
          refine z_aload_n dX8_both_135 rfl ?_
          refine z_iload dX8_both_136 rfl ?_
          refine z_iload_n dX8_both_138 rfl ?_
          refine z_aload_n dX8_both_139 rfl ?_
          refine z_aload_n dX8_both_140 rfl ?_
          refine z_iload_n dX8_both_141 rfl ?_
          obtain ⟨v39, M40, c38, h⟩ := z_bi_c h
          refine z_cV (av := [.int x2]) (st := [.ref 107, .int x2, .int (x6 - x6 / (M 109 3) * (M 109 3)), .ref 107]) lk_X8_307 dX8_both_142 (A_X8_trunksAt_107 (d := d + 10) hl c38) rfl rfl en_107 rfl (Nat.le_of_ble_eq_true rfl) rfl z_len rfl rfl ?_
          obtain ⟨v42, M43, c41, h⟩ := z_bi_c h
          refine z_cV (av := [.int v39]) (st := [.int x2, .int (x6 - x6 / (M 109 3) * (M 109 3)), .ref 107]) lk_X8_310 dX8_both_145 (A_X8_thingsOf_107 (d := d + 10) hl c41) rfl rfl en_107 rfl (Nat.le_of_ble_eq_true rfl) rfl z_len rfl rfl ?_
          obtain ⟨v45, M46, c44, h⟩ := z_bi_c h
          refine z_cV (av := [.int (x6 - x6 / (M 109 3) * (M 109 3)), .int x2, .int v42]) (st := []) lk_X8_359 dX8_both_148 (A_X8_priceOf_107 (d := d + 0) hl c44) rfl rfl en_107 rfl (Nat.le_of_ble_eq_true rfl) rfl z_len rfl rfl ?_
          refine z_istore (ls' := [.ref 107, .int x1, .int x2, .int x3, .int x4, .int x5, .int x6, .int (x6 / (M 109 3)), .int (x6 - x6 / (M 109 3) * (M 109 3)), .int v36, .int v45]) dX8_both_151 (by decide) rfl ?_
          refine z_iload dX8_both_153 rfl ?_
          refine z_ic kc_m1 dX8_both_155 ?_
          refine z_icmp_eq (tgt := 201) dX8_both_156 rfl (fun g47 => ?_) (fun g47 => ?_)
          · replace h := (if_pos g47).symm.trans h
            refine z_ii (ls' := [.ref 107, .int x1, .int x2, .int x3, .int x4, .int x5, .int (x6 + (1 : Int32)), .int (x6 / (M 109 3)), .int (x6 - x6 / (M 109 3) * (M 109 3)), .int v36, .int v45]) kc_p1 dX8_both_201 rfl (by decide) rfl ?_
            refine z_goto (tgt := 45) dX8_both_204 rfl ?_
            refine z_fg (ls' := [.ref 107, .int x1, .int x2, .int x3, .int x4, .int x5, .int (x6 + (1 : Int32)), .null, .null, .null, .null]) ⟨Or.inr rfl, Or.inr rfl, Or.inr rfl, Or.inr rfl, Or.inr rfl, Or.inr rfl, Or.inr rfl, Or.inl rfl, Or.inl rfl, Or.inl rfl, Or.inl rfl, trivial⟩ ?_
            exact ih x1 x2 x3 x4 x5 (x6 + (1 : Int32)) _ _ _ h
          · replace h := (if_neg g47).symm.trans h
            refine z_iload dX8_both_159 rfl ?_
            refine z_ic kc_m1 dX8_both_161 ?_
            refine z_icmp_eq (tgt := 201) dX8_both_162 rfl (fun g48 => ?_) (fun g48 => ?_)
            · replace h := (if_pos g48).symm.trans h
              refine z_ii (ls' := [.ref 107, .int x1, .int x2, .int x3, .int x4, .int x5, .int (x6 + (1 : Int32)), .int (x6 / (M 109 3)), .int (x6 - x6 / (M 109 3) * (M 109 3)), .int v36, .int v45]) kc_p1 dX8_both_201 rfl (by decide) rfl ?_
              refine z_goto (tgt := 45) dX8_both_204 rfl ?_
              refine z_fg (ls' := [.ref 107, .int x1, .int x2, .int x3, .int x4, .int x5, .int (x6 + (1 : Int32)), .null, .null, .null, .null]) ⟨Or.inr rfl, Or.inr rfl, Or.inr rfl, Or.inr rfl, Or.inr rfl, Or.inr rfl, Or.inr rfl, Or.inl rfl, Or.inl rfl, Or.inl rfl, Or.inl rfl, trivial⟩ ?_
              exact ih x1 x2 x3 x4 x5 (x6 + (1 : Int32)) _ _ _ h
            · replace h := (if_neg g48).symm.trans h
              refine z_iload dX8_both_165 rfl ?_
              refine z_ic kc_m1 dX8_both_167 ?_
              refine z_icmp_eq (tgt := 184) dX8_both_168 rfl (fun g49 => ?_) (fun g49 => ?_)
              · replace h := (if_pos g49).symm.trans h
                refine z_fg (ls' := [.ref 107, .int x1, .int x2, .int x3, .null, .null, .int x6, .int (x6 / (M 109 3)), .int (x6 - x6 / (M 109 3) * (M 109 3)), .int v36, .int v45]) ⟨Or.inr rfl, Or.inr rfl, Or.inr rfl, Or.inr rfl, Or.inl rfl, Or.inl rfl, Or.inr rfl, Or.inr rfl, Or.inr rfl, Or.inr rfl, Or.inr rfl, trivial⟩ ?_
                exact A_X8_both_107_p184 hl ih x1 x2 x3 x6 (x6 / (M 109 3)) (x6 - x6 / (M 109 3) * (M 109 3)) v36 v45 _ _ _ h
              · replace h := (if_neg g49).symm.trans h
                refine z_iload dX8_both_171 rfl ?_
                refine z_iload dX8_both_173 rfl ?_
                refine z_iadd dX8_both_175 ?_
                refine z_iload dX8_both_176 rfl ?_
                refine z_icmp_lt (tgt := 184) dX8_both_178 rfl (fun g50 => ?_) (fun g50 => ?_)
                · replace h := (if_pos g50).symm.trans h
                  refine z_fg (ls' := [.ref 107, .int x1, .int x2, .int x3, .null, .null, .int x6, .int (x6 / (M 109 3)), .int (x6 - x6 / (M 109 3) * (M 109 3)), .int v36, .int v45]) ⟨Or.inr rfl, Or.inr rfl, Or.inr rfl, Or.inr rfl, Or.inl rfl, Or.inl rfl, Or.inr rfl, Or.inr rfl, Or.inr rfl, Or.inr rfl, Or.inr rfl, trivial⟩ ?_
                  exact A_X8_both_107_p184 hl ih x1 x2 x3 x6 (x6 / (M 109 3)) (x6 - x6 / (M 109 3) * (M 109 3)) v36 v45 _ _ _ h
                · replace h := (if_neg g50).symm.trans h
                  refine z_goto (tgt := 201) dX8_both_181 rfl ?_
                  refine z_ii (ls' := [.ref 107, .int x1, .int x2, .int x3, .int x4, .int x5, .int (x6 + (1 : Int32)), .int (x6 / (M 109 3)), .int (x6 - x6 / (M 109 3) * (M 109 3)), .int v36, .int v45]) kc_p1 dX8_both_201 rfl (by decide) rfl ?_
                  refine z_goto (tgt := 45) dX8_both_204 rfl ?_
                  refine z_fg (ls' := [.ref 107, .int x1, .int x2, .int x3, .int x4, .int x5, .int (x6 + (1 : Int32)), .null, .null, .null, .null]) ⟨Or.inr rfl, Or.inr rfl, Or.inr rfl, Or.inr rfl, Or.inr rfl, Or.inr rfl, Or.inr rfl, Or.inl rfl, Or.inl rfl, Or.inl rfl, Or.inl rfl, trivial⟩ ?_
                  exact ih x1 x2 x3 x4 x5 (x6 + (1 : Int32)) _ _ _ h
        · replace h := (if_neg g28).symm.trans h
          refine z_goto (tgt := 201) dX8_both_114 rfl ?_
          refine z_ii (ls' := [.ref 107, .int x1, .int x2, .int x3, .int x4, .int x5, .int (x6 + (1 : Int32)), .int (x6 / (M 109 3)), .int (x6 - x6 / (M 109 3) * (M 109 3)), .null, .null]) kc_p1 dX8_both_201 rfl (by decide) rfl ?_
          refine z_goto (tgt := 45) dX8_both_204 rfl ?_
          refine z_fg (ls' := [.ref 107, .int x1, .int x2, .int x3, .int x4, .int x5, .int (x6 + (1 : Int32)), .null, .null, .null, .null]) ⟨Or.inr rfl, Or.inr rfl, Or.inr rfl, Or.inr rfl, Or.inr rfl, Or.inr rfl, Or.inr rfl, Or.inl rfl, Or.inl rfl, Or.inl rfl, Or.inl rfl, trivial⟩ ?_
          exact ih x1 x2 x3 x4 x5 (x6 + (1 : Int32)) _ _ _ h
theorem A_X8_both_107 {l : Launch} (hl : l.stackTraces = false) {Ls d : Nat} {Lm : zML} {x1 : Int32} {x2 : Int32} {x3 : Int32} {M M' : zMM} {v : Int32} (h : f_X8_both_107 x1 x2 x3 M = some (v, M')) : z_Ct l mX8_both (d + 11) 0 0 [.ref 107, .int x1, .int x2, .int x3] (z_L0 Ls, M, Lm) (.inl (some (.int v))) (z_L0 Ls, M', Lm) := by
  replace h : (  z_bi (f_X8_isTown_107 x1 (z_up M 107 1 (0 : Int32))) fun v2 M3 =>
  if v2 = 0 then
    z_bi (f_X8_fail_107 (1 : Int32) M3) fun v6 M7 =>
    some (v6, M7)
  else
    z_bi (f_X8_isTown_107 x2 M3) fun v9 M10 =>
    if v9 = 0 then
      z_bi (f_X8_fail_107 (1 : Int32) M10) fun v13 M14 =>
      some (v13, M14)
    else
      if x3 < 0 then
        z_bi (f_X8_fail_107 (1 : Int32) M10) fun v17 M18 =>
        some (v17, M18)
      else
        if x3 ≤ (1 : Int32) then
          f_X8_both_107_p45 z_fuel x1 x2 x3 (-1 : Int32) (-1 : Int32) (0 : Int32) M10
        else
          z_bi (f_X8_fail_107 (1 : Int32) M10) fun v52 M53 =>
          some (v52, M53)) = some (v, M') := h
  refine z_Ct.of hl (by decide) (Nat.le_of_ble_eq_true rfl) rfl ?_
  show z_AW l mX8_both (d + 11) 0 0 0 [.ref 107, .int x1, .int x2, .int x3, .null, .null, .null, .null, .null, .null, .null] [] (z_L0 Ls, M, Lm) (.inl (some (.int v))) (z_L0 Ls, M', Lm)
  refine z_aload_n dX8_both_0 rfl ?_
  refine z_ic kc_p0 dX8_both_1 ?_
  refine z_pI fp_X8_149 dX8_both_2 (by decide) en_107 rfl ?_
  refine z_aload_n dX8_both_5 rfl ?_
  refine z_iload_n dX8_both_6 rfl ?_
  obtain ⟨v2, M3, c1, h⟩ := z_bi_c h
  refine z_cV (av := [.int x1]) (st := []) lk_X8_304 dX8_both_7 (A_X8_isTown_107 (d := d + 9) hl c1) rfl rfl en_107 rfl (Nat.le_of_ble_eq_true rfl) rfl z_len rfl rfl ?_
  refine z_if_eq (tgt := 30) dX8_both_10 rfl (fun g4 => ?_) (fun g4 => ?_)
  · replace h := (if_pos g4).symm.trans h
    refine z_aload_n dX8_both_30 rfl ?_
    refine z_ic kc_p1 dX8_both_31 ?_
    obtain ⟨v6, M7, c5, h⟩ := z_bi_c h
    refine z_cV (av := [.int (1 : Int32)]) (st := []) lk_X8_268 dX8_both_32 (A_X8_fail_107 (d := d + 10) hl c5) rfl rfl en_107 rfl (Nat.le_of_ble_eq_true rfl) rfl z_len rfl rfl ?_
    cases h
    exact z_rI dX8_both_35 rfl
  · replace h := (if_neg g4).symm.trans h
    refine z_aload_n dX8_both_13 rfl ?_
    refine z_iload_n dX8_both_14 rfl ?_
    obtain ⟨v9, M10, c8, h⟩ := z_bi_c h
    refine z_cV (av := [.int x2]) (st := []) lk_X8_304 dX8_both_15 (A_X8_isTown_107 (d := d + 9) hl c8) rfl rfl en_107 rfl (Nat.le_of_ble_eq_true rfl) rfl z_len rfl rfl ?_
    refine z_if_eq (tgt := 30) dX8_both_18 rfl (fun g11 => ?_) (fun g11 => ?_)
    · replace h := (if_pos g11).symm.trans h
      refine z_aload_n dX8_both_30 rfl ?_
      refine z_ic kc_p1 dX8_both_31 ?_
      obtain ⟨v13, M14, c12, h⟩ := z_bi_c h
      refine z_cV (av := [.int (1 : Int32)]) (st := []) lk_X8_268 dX8_both_32 (A_X8_fail_107 (d := d + 10) hl c12) rfl rfl en_107 rfl (Nat.le_of_ble_eq_true rfl) rfl z_len rfl rfl ?_
      cases h
      exact z_rI dX8_both_35 rfl
    · replace h := (if_neg g11).symm.trans h
      refine z_iload_n dX8_both_21 rfl ?_
      refine z_if_lt (tgt := 30) dX8_both_22 rfl (fun g15 => ?_) (fun g15 => ?_)
      · replace h := (if_pos g15).symm.trans h
        refine z_aload_n dX8_both_30 rfl ?_
        refine z_ic kc_p1 dX8_both_31 ?_
        obtain ⟨v17, M18, c16, h⟩ := z_bi_c h
        refine z_cV (av := [.int (1 : Int32)]) (st := []) lk_X8_268 dX8_both_32 (A_X8_fail_107 (d := d + 10) hl c16) rfl rfl en_107 rfl (Nat.le_of_ble_eq_true rfl) rfl z_len rfl rfl ?_
        cases h
        exact z_rI dX8_both_35 rfl
      · replace h := (if_neg g15).symm.trans h
        refine z_iload_n dX8_both_25 rfl ?_
        refine z_ic kc_p1 dX8_both_26 ?_
        refine z_icmp_le (tgt := 36) dX8_both_27 rfl (fun g19 => ?_) (fun g19 => ?_)
        · replace h := (if_pos g19).symm.trans h
          refine z_ic kc_m1 dX8_both_36 ?_
          refine z_istore (ls' := [.ref 107, .int x1, .int x2, .int x3, .int (-1 : Int32), .null, .null, .null, .null, .null, .null]) dX8_both_37 (by decide) rfl ?_
          refine z_ic kc_m1 dX8_both_39 ?_
          refine z_istore (ls' := [.ref 107, .int x1, .int x2, .int x3, .int (-1 : Int32), .int (-1 : Int32), .null, .null, .null, .null, .null]) dX8_both_40 (by decide) rfl ?_
          refine z_ic kc_p0 dX8_both_42 ?_
          refine z_istore (ls' := [.ref 107, .int x1, .int x2, .int x3, .int (-1 : Int32), .int (-1 : Int32), .int (0 : Int32), .null, .null, .null, .null]) dX8_both_43 (by decide) rfl ?_
          exact A_X8_both_107_p45 hl z_fuel x1 x2 x3 (-1 : Int32) (-1 : Int32) (0 : Int32) _ _ _ h
        · replace h := (if_neg g19).symm.trans h
          refine z_aload_n dX8_both_30 rfl ?_
          refine z_ic kc_p1 dX8_both_31 ?_
          obtain ⟨v52, M53, c51, h⟩ := z_bi_c h
          refine z_cV (av := [.int (1 : Int32)]) (st := []) lk_X8_268 dX8_both_32 (A_X8_fail_107 (d := d + 10) hl c51) rfl rfl en_107 rfl (Nat.le_of_ble_eq_true rfl) rfl z_len rfl rfl ?_
          cases h
          exact z_rI dX8_both_35 rfl
/-! X8_hasWay 107 -/
def f_X8_hasWay_107 (x1 : Int32) (x2 : Int32) (M : zMM) : Option (Int32 × zMM) :=
  if z_ib (((5 : Int32) * x1) + x2) 25 = true then
    if (1000000 : Int32) ≤ (M 126 (((5 : Int32) * x1) + x2).toNatClampNeg) then
      some ((0 : Int32), M)
    else
      some ((1 : Int32), M)
  else none
theorem A_X8_hasWay_107 {l : Launch} (hl : l.stackTraces = false) {Ls d : Nat} {Lm : zML} {x1 : Int32} {x2 : Int32} {M M' : zMM} {v : Int32} (h : f_X8_hasWay_107 x1 x2 M = some (v, M')) : z_Ct l mX8_hasWay (d + 0) 0 0 [.ref 107, .int x1, .int x2] (z_L0 Ls, M, Lm) (.inl (some (.int v))) (z_L0 Ls, M', Lm) := by
  replace h : (  if z_ib (((5 : Int32) * x1) + x2) 25 = true then
    if (1000000 : Int32) ≤ (M 126 (((5 : Int32) * x1) + x2).toNatClampNeg) then
      some ((0 : Int32), M)
    else
      some ((1 : Int32), M)
  else none) = some (v, M') := h
  refine z_Ct.of hl (by decide) (Nat.le_of_ble_eq_true rfl) rfl ?_
  show z_AW l mX8_hasWay (d + 0) 0 0 0 [.ref 107, .int x1, .int x2] [] (z_L0 Ls, M, Lm) (.inl (some (.int v))) (z_L0 Ls, M', Lm)
  refine z_aload_n dX8_hasWay_0 rfl ?_
  refine z_getR (q := 126) fl_X8_79 dX8_hasWay_1 en_107 rfl ?_
  refine z_ic kc_p5 dX8_hasWay_4 ?_
  refine z_iload_n dX8_hasWay_5 rfl ?_
  refine z_imul dX8_hasWay_6 ?_
  refine z_iload_n dX8_hasWay_7 rfl ?_
  refine z_iadd dX8_hasWay_8 ?_
  obtain ⟨g1, h⟩ := z_ifn h
  refine z_al (v := (M 126 (((5 : Int32) * x1) + x2).toNatClampNeg)) dX8_hasWay_9 en_126 rfl (z_ib_in g1) rfl ?_
  refine z_ldcw (v := (1000000 : Int32)) kc_X8_316 dX8_hasWay_10 ?_
  refine z_icmp_ge (tgt := 20) dX8_hasWay_13 rfl (fun g2 => ?_) (fun g2 => ?_)
  · replace h := (if_pos g2).symm.trans h
    refine z_ic kc_p0 dX8_hasWay_20 ?_
    cases h
    exact z_rZ dX8_hasWay_21 rfl rfl
  · replace h := (if_neg g2).symm.trans h
    refine z_ic kc_p1 dX8_hasWay_16 ?_
    refine z_goto (tgt := 21) dX8_hasWay_17 rfl ?_
    cases h
    exact z_rZ dX8_hasWay_21 rfl rfl
/-! X8_clerksOf 107 -/
def f_X8_clerksOf_107_p5 : Nat → Int32 → Int32 → Int32 → zMM → Option (Int32 × zMM)
  | 0, _, _, _, _ => none
  | n + 1, x2, x3, x4, M =>
  if x4 = x2 then
    some (x3, M)
  else
    if z_ib (((5 : Int32) * x4) + x2) 25 = true then
      f_X8_clerksOf_107_p5 n x2 (x3 + (1 : Int32)) (M 127 (((5 : Int32) * x4) + x2).toNatClampNeg) M
    else none
def f_X8_clerksOf_107 (x1 : Int32) (x2 : Int32) (M : zMM) : Option (Int32 × zMM) :=
  f_X8_clerksOf_107_p5 z_fuel x2 (0 : Int32) x1 M
theorem A_X8_clerksOf_107_p5 {l : Launch} (hl : l.stackTraces = false) {Ls d : Nat} {Lm : zML} :
    ∀ (n : Nat) (x2 : Int32) (x3 : Int32) (x4 : Int32) (M M' : zMM) (v : Int32) , f_X8_clerksOf_107_p5 n x2 x3 x4 M = some (v, M') → z_AW l mX8_clerksOf (d + 0) 0 0 5 [.ref 107, .null, .int x2, .int x3, .int x4] [] (z_L0 Ls, M, Lm) (.inl (some (.int v))) (z_L0 Ls, M', Lm) := by
  intro n
  induction n with
  | zero => intro x2 x3 x4 M M' v h; cases h
  | succ n ih =>
    intro x2 x3 x4 M M' v h
    replace h : (  if x4 = x2 then
    some (x3, M)
  else
    if z_ib (((5 : Int32) * x4) + x2) 25 = true then
      f_X8_clerksOf_107_p5 n x2 (x3 + (1 : Int32)) (M 127 (((5 : Int32) * x4) + x2).toNatClampNeg) M
    else none) = some (v, M') := h
    refine z_iload dX8_clerksOf_5 rfl ?_
    refine z_iload_n dX8_clerksOf_7 rfl ?_
    refine z_icmp_eq (tgt := 30) dX8_clerksOf_8 rfl (fun g1 => ?_) (fun g1 => ?_)
    · replace h := (if_pos g1).symm.trans h
      refine z_iload_n dX8_clerksOf_30 rfl ?_
      cases h
      exact z_rI dX8_clerksOf_31 rfl
    · replace h := (if_neg g1).symm.trans h
      refine z_ii (ls' := [.ref 107, .null, .int x2, .int (x3 + (1 : Int32)), .int x4]) kc_p1 dX8_clerksOf_11 rfl (by decide) rfl ?_
      refine z_aload_n dX8_clerksOf_14 rfl ?_
      refine z_getR (q := 127) fl_X8_82 dX8_clerksOf_15 en_107 rfl ?_
      refine z_ic kc_p5 dX8_clerksOf_18 ?_
      refine z_iload dX8_clerksOf_19 rfl ?_
      refine z_imul dX8_clerksOf_21 ?_
      refine z_iload_n dX8_clerksOf_22 rfl ?_
      refine z_iadd dX8_clerksOf_23 ?_
      obtain ⟨g2, h⟩ := z_ifn h
      refine z_al (v := (M 127 (((5 : Int32) * x4) + x2).toNatClampNeg)) dX8_clerksOf_24 en_127 rfl (z_ib_in g2) rfl ?_
      refine z_istore (ls' := [.ref 107, .null, .int x2, .int (x3 + (1 : Int32)), .int (M 127 (((5 : Int32) * x4) + x2).toNatClampNeg)]) dX8_clerksOf_25 (by decide) rfl ?_
      refine z_goto (tgt := 5) dX8_clerksOf_27 rfl ?_
      exact ih x2 (x3 + (1 : Int32)) (M 127 (((5 : Int32) * x4) + x2).toNatClampNeg) _ _ _ h
theorem A_X8_clerksOf_107 {l : Launch} (hl : l.stackTraces = false) {Ls d : Nat} {Lm : zML} {x1 : Int32} {x2 : Int32} {M M' : zMM} {v : Int32} (h : f_X8_clerksOf_107 x1 x2 M = some (v, M')) : z_Ct l mX8_clerksOf (d + 0) 0 0 [.ref 107, .int x1, .int x2] (z_L0 Ls, M, Lm) (.inl (some (.int v))) (z_L0 Ls, M', Lm) := by
  replace h : (  f_X8_clerksOf_107_p5 z_fuel x2 (0 : Int32) x1 M) = some (v, M') := h
  refine z_Ct.of hl (by decide) (Nat.le_of_ble_eq_true rfl) rfl ?_
  show z_AW l mX8_clerksOf (d + 0) 0 0 0 [.ref 107, .int x1, .int x2, .null, .null] [] (z_L0 Ls, M, Lm) (.inl (some (.int v))) (z_L0 Ls, M', Lm)
  refine z_ic kc_p0 dX8_clerksOf_0 ?_
  refine z_istore_n (ls' := [.ref 107, .int x1, .int x2, .int (0 : Int32), .null]) dX8_clerksOf_1 (by decide) rfl ?_
  refine z_iload_n dX8_clerksOf_2 rfl ?_
  refine z_istore (ls' := [.ref 107, .int x1, .int x2, .int (0 : Int32), .int x1]) dX8_clerksOf_3 (by decide) rfl ?_
  refine z_fg (ls' := [.ref 107, .null, .int x2, .int (0 : Int32), .int x1]) ⟨Or.inr rfl, Or.inl rfl, Or.inr rfl, Or.inr rfl, Or.inr rfl, trivial⟩ ?_
  exact A_X8_clerksOf_107_p5 hl z_fuel x2 (0 : Int32) x1 _ _ _ h
/-! X8_clerkAt 107 -/
def f_X8_clerkAt_107_p6 : Nat → Int32 → Int32 → Int32 → Int32 → zMM → Option (Int32 × zMM)
  | 0, _, _, _, _, _ => none
  | n + 1, x2, x3, x4, x5, M =>
  if x3 ≤ x5 then
    some (x4, M)
  else
    if z_ib (((5 : Int32) * x4) + x2) 25 = true then
      f_X8_clerkAt_107_p6 n x2 x3 (M 127 (((5 : Int32) * x4) + x2).toNatClampNeg) (x5 + (1 : Int32)) M
    else none
def f_X8_clerkAt_107 (x1 : Int32) (x2 : Int32) (x3 : Int32) (M : zMM) : Option (Int32 × zMM) :=
  f_X8_clerkAt_107_p6 z_fuel x2 x3 x1 (0 : Int32) M
theorem A_X8_clerkAt_107_p6 {l : Launch} (hl : l.stackTraces = false) {Ls d : Nat} {Lm : zML} :
    ∀ (n : Nat) (x2 : Int32) (x3 : Int32) (x4 : Int32) (x5 : Int32) (M M' : zMM) (v : Int32) , f_X8_clerkAt_107_p6 n x2 x3 x4 x5 M = some (v, M') → z_AW l mX8_clerkAt (d + 0) 0 0 6 [.ref 107, .null, .int x2, .int x3, .int x4, .int x5] [] (z_L0 Ls, M, Lm) (.inl (some (.int v))) (z_L0 Ls, M', Lm) := by
  intro n
  induction n with
  | zero => intro x2 x3 x4 x5 M M' v h; cases h
  | succ n ih =>
    intro x2 x3 x4 x5 M M' v h
    replace h : (  if x3 ≤ x5 then
    some (x4, M)
  else
    if z_ib (((5 : Int32) * x4) + x2) 25 = true then
      f_X8_clerkAt_107_p6 n x2 x3 (M 127 (((5 : Int32) * x4) + x2).toNatClampNeg) (x5 + (1 : Int32)) M
    else none) = some (v, M') := h
    refine z_iload dX8_clerkAt_6 rfl ?_
    refine z_iload_n dX8_clerkAt_8 rfl ?_
    refine z_icmp_ge (tgt := 31) dX8_clerkAt_9 rfl (fun g1 => ?_) (fun g1 => ?_)
    · replace h := (if_pos g1).symm.trans h
      refine z_iload dX8_clerkAt_31 rfl ?_
      cases h
      exact z_rI dX8_clerkAt_33 rfl
    · replace h := (if_neg g1).symm.trans h
      refine z_aload_n dX8_clerkAt_12 rfl ?_
      refine z_getR (q := 127) fl_X8_82 dX8_clerkAt_13 en_107 rfl ?_
      refine z_ic kc_p5 dX8_clerkAt_16 ?_
      refine z_iload dX8_clerkAt_17 rfl ?_
      refine z_imul dX8_clerkAt_19 ?_
      refine z_iload_n dX8_clerkAt_20 rfl ?_
      refine z_iadd dX8_clerkAt_21 ?_
      obtain ⟨g2, h⟩ := z_ifn h
      refine z_al (v := (M 127 (((5 : Int32) * x4) + x2).toNatClampNeg)) dX8_clerkAt_22 en_127 rfl (z_ib_in g2) rfl ?_
      refine z_istore (ls' := [.ref 107, .null, .int x2, .int x3, .int (M 127 (((5 : Int32) * x4) + x2).toNatClampNeg), .int x5]) dX8_clerkAt_23 (by decide) rfl ?_
      refine z_ii (ls' := [.ref 107, .null, .int x2, .int x3, .int (M 127 (((5 : Int32) * x4) + x2).toNatClampNeg), .int (x5 + (1 : Int32))]) kc_p1 dX8_clerkAt_25 rfl (by decide) rfl ?_
      refine z_goto (tgt := 6) dX8_clerkAt_28 rfl ?_
      exact ih x2 x3 (M 127 (((5 : Int32) * x4) + x2).toNatClampNeg) (x5 + (1 : Int32)) _ _ _ h
theorem A_X8_clerkAt_107 {l : Launch} (hl : l.stackTraces = false) {Ls d : Nat} {Lm : zML} {x1 : Int32} {x2 : Int32} {x3 : Int32} {M M' : zMM} {v : Int32} (h : f_X8_clerkAt_107 x1 x2 x3 M = some (v, M')) : z_Ct l mX8_clerkAt (d + 0) 0 0 [.ref 107, .int x1, .int x2, .int x3] (z_L0 Ls, M, Lm) (.inl (some (.int v))) (z_L0 Ls, M', Lm) := by
  replace h : (  f_X8_clerkAt_107_p6 z_fuel x2 x3 x1 (0 : Int32) M) = some (v, M') := h
  refine z_Ct.of hl (by decide) (Nat.le_of_ble_eq_true rfl) rfl ?_
  show z_AW l mX8_clerkAt (d + 0) 0 0 0 [.ref 107, .int x1, .int x2, .int x3, .null, .null] [] (z_L0 Ls, M, Lm) (.inl (some (.int v))) (z_L0 Ls, M', Lm)
  refine z_iload_n dX8_clerkAt_0 rfl ?_
  refine z_istore (ls' := [.ref 107, .int x1, .int x2, .int x3, .int x1, .null]) dX8_clerkAt_1 (by decide) rfl ?_
  refine z_ic kc_p0 dX8_clerkAt_3 ?_
  refine z_istore (ls' := [.ref 107, .int x1, .int x2, .int x3, .int x1, .int (0 : Int32)]) dX8_clerkAt_4 (by decide) rfl ?_
  refine z_fg (ls' := [.ref 107, .null, .int x2, .int x3, .int x1, .int (0 : Int32)]) ⟨Or.inr rfl, Or.inl rfl, Or.inr rfl, Or.inr rfl, Or.inr rfl, Or.inr rfl, trivial⟩ ?_
  exact A_X8_clerkAt_107_p6 hl z_fuel x2 x3 x1 (0 : Int32) _ _ _ h
/-! X8_clerk 107 -/
def f_X8_clerk_107 (x1 : Int32) (x2 : Int32) (x3 : Int32) (M : zMM) : Option (Int32 × zMM) :=
  z_bi (f_X8_isTown_107 x1 (z_up M 107 1 (0 : Int32))) fun v2 M3 =>
  if v2 = 0 then
    z_bi (f_X8_fail_107 (1 : Int32) M3) fun v6 M7 =>
    some (v6, M7)
  else
    z_bi (f_X8_isTown_107 x2 M3) fun v9 M10 =>
    if v9 = 0 then
      z_bi (f_X8_fail_107 (1 : Int32) M10) fun v13 M14 =>
      some (v13, M14)
    else
      z_bi (f_X8_hasWay_107 x1 x2 M10) fun v16 M17 =>
      if v16 = 0 then
        z_bi (f_X8_fail_107 (1 : Int32) M17) fun v20 M21 =>
        some (v20, M21)
      else
        z_bi (f_X8_clerksOf_107 x1 x2 M17) fun v23 M24 =>
        if x3 = (-1 : Int32) then
          some (v23, M24)
        else
          z_bi (f_X8_isIn x3 (0 : Int32) (v23 - (1 : Int32)) M24) fun v27 M28 =>
          if v27 = 0 then
            z_bi (f_X8_fail_107 (1 : Int32) M28) fun v31 M32 =>
            some (v31, M32)
          else
            z_bi (f_X8_clerkAt_107 x1 x2 x3 M28) fun v34 M35 =>
            some (v34, M35)
theorem A_X8_clerk_107 {l : Launch} (hl : l.stackTraces = false) {Ls d : Nat} {Lm : zML} {x1 : Int32} {x2 : Int32} {x3 : Int32} {M M' : zMM} {v : Int32} (h : f_X8_clerk_107 x1 x2 x3 M = some (v, M')) : z_Ct l mX8_clerk (d + 2) 0 0 [.ref 107, .int x1, .int x2, .int x3] (z_L0 Ls, M, Lm) (.inl (some (.int v))) (z_L0 Ls, M', Lm) := by
  replace h : (  z_bi (f_X8_isTown_107 x1 (z_up M 107 1 (0 : Int32))) fun v2 M3 =>
  if v2 = 0 then
    z_bi (f_X8_fail_107 (1 : Int32) M3) fun v6 M7 =>
    some (v6, M7)
  else
    z_bi (f_X8_isTown_107 x2 M3) fun v9 M10 =>
    if v9 = 0 then
      z_bi (f_X8_fail_107 (1 : Int32) M10) fun v13 M14 =>
      some (v13, M14)
    else
      z_bi (f_X8_hasWay_107 x1 x2 M10) fun v16 M17 =>
      if v16 = 0 then
        z_bi (f_X8_fail_107 (1 : Int32) M17) fun v20 M21 =>
        some (v20, M21)
      else
        z_bi (f_X8_clerksOf_107 x1 x2 M17) fun v23 M24 =>
        if x3 = (-1 : Int32) then
          some (v23, M24)
        else
          z_bi (f_X8_isIn x3 (0 : Int32) (v23 - (1 : Int32)) M24) fun v27 M28 =>
          if v27 = 0 then
            z_bi (f_X8_fail_107 (1 : Int32) M28) fun v31 M32 =>
            some (v31, M32)
          else
            z_bi (f_X8_clerkAt_107 x1 x2 x3 M28) fun v34 M35 =>
            some (v34, M35)) = some (v, M') := h
  refine z_Ct.of hl (by decide) (Nat.le_of_ble_eq_true rfl) rfl ?_
  show z_AW l mX8_clerk (d + 2) 0 0 0 [.ref 107, .int x1, .int x2, .int x3, .null] [] (z_L0 Ls, M, Lm) (.inl (some (.int v))) (z_L0 Ls, M', Lm)
  refine z_aload_n dX8_clerk_0 rfl ?_
  refine z_ic kc_p0 dX8_clerk_1 ?_
  refine z_pI fp_X8_149 dX8_clerk_2 (by decide) en_107 rfl ?_
  refine z_aload_n dX8_clerk_5 rfl ?_
  refine z_iload_n dX8_clerk_6 rfl ?_
  obtain ⟨v2, M3, c1, h⟩ := z_bi_c h
  refine z_cV (av := [.int x1]) (st := []) lk_X8_304 dX8_clerk_7 (A_X8_isTown_107 (d := d + 0) hl c1) rfl rfl en_107 rfl (Nat.le_of_ble_eq_true rfl) rfl z_len rfl rfl ?_
  refine z_if_eq (tgt := 30) dX8_clerk_10 rfl (fun g4 => ?_) (fun g4 => ?_)
  · replace h := (if_pos g4).symm.trans h
    refine z_aload_n dX8_clerk_30 rfl ?_
    refine z_ic kc_p1 dX8_clerk_31 ?_
    obtain ⟨v6, M7, c5, h⟩ := z_bi_c h
    refine z_cV (av := [.int (1 : Int32)]) (st := []) lk_X8_268 dX8_clerk_32 (A_X8_fail_107 (d := d + 1) hl c5) rfl rfl en_107 rfl (Nat.le_of_ble_eq_true rfl) rfl z_len rfl rfl ?_
    cases h
    exact z_rI dX8_clerk_35 rfl
  · replace h := (if_neg g4).symm.trans h
    refine z_aload_n dX8_clerk_13 rfl ?_
    refine z_iload_n dX8_clerk_14 rfl ?_
    obtain ⟨v9, M10, c8, h⟩ := z_bi_c h
    refine z_cV (av := [.int x2]) (st := []) lk_X8_304 dX8_clerk_15 (A_X8_isTown_107 (d := d + 0) hl c8) rfl rfl en_107 rfl (Nat.le_of_ble_eq_true rfl) rfl z_len rfl rfl ?_
    refine z_if_eq (tgt := 30) dX8_clerk_18 rfl (fun g11 => ?_) (fun g11 => ?_)
    · replace h := (if_pos g11).symm.trans h
      refine z_aload_n dX8_clerk_30 rfl ?_
      refine z_ic kc_p1 dX8_clerk_31 ?_
      obtain ⟨v13, M14, c12, h⟩ := z_bi_c h
      refine z_cV (av := [.int (1 : Int32)]) (st := []) lk_X8_268 dX8_clerk_32 (A_X8_fail_107 (d := d + 1) hl c12) rfl rfl en_107 rfl (Nat.le_of_ble_eq_true rfl) rfl z_len rfl rfl ?_
      cases h
      exact z_rI dX8_clerk_35 rfl
    · replace h := (if_neg g11).symm.trans h
      refine z_aload_n dX8_clerk_21 rfl ?_
      refine z_iload_n dX8_clerk_22 rfl ?_
      refine z_iload_n dX8_clerk_23 rfl ?_
      obtain ⟨v16, M17, c15, h⟩ := z_bi_c h
      refine z_cV (av := [.int x1, .int x2]) (st := []) lk_X8_320 dX8_clerk_24 (A_X8_hasWay_107 (d := d + 1) hl c15) rfl rfl en_107 rfl (Nat.le_of_ble_eq_true rfl) rfl z_len rfl rfl ?_
      refine z_if_ne (tgt := 36) dX8_clerk_27 rfl (fun g18 => ?_) (fun g18 => ?_)
      · replace h := (if_pos g18).symm.trans h
        refine z_aload_n dX8_clerk_30 rfl ?_
        refine z_ic kc_p1 dX8_clerk_31 ?_
        obtain ⟨v20, M21, c19, h⟩ := z_bi_c h
        refine z_cV (av := [.int (1 : Int32)]) (st := []) lk_X8_268 dX8_clerk_32 (A_X8_fail_107 (d := d + 1) hl c19) rfl rfl en_107 rfl (Nat.le_of_ble_eq_true rfl) rfl z_len rfl rfl ?_
        cases h
        exact z_rI dX8_clerk_35 rfl
      · replace h := (if_neg g18).symm.trans h
        refine z_aload_n dX8_clerk_36 rfl ?_
        refine z_iload_n dX8_clerk_37 rfl ?_
        refine z_iload_n dX8_clerk_38 rfl ?_
        obtain ⟨v23, M24, c22, h⟩ := z_bi_c h
        refine z_cV (av := [.int x1, .int x2]) (st := []) lk_X8_323 dX8_clerk_39 (A_X8_clerksOf_107 (d := d + 1) hl c22) rfl rfl en_107 rfl (Nat.le_of_ble_eq_true rfl) rfl z_len rfl rfl ?_
        refine z_istore (ls' := [.ref 107, .int x1, .int x2, .int x3, .int v23]) dX8_clerk_42 (by decide) rfl ?_
        refine z_iload_n dX8_clerk_44 rfl ?_
        refine z_ic kc_m1 dX8_clerk_45 ?_
        refine z_icmp_ne (tgt := 54) dX8_clerk_46 rfl (fun g25 => ?_) (fun g25 => ?_)
        · replace h := (if_pos g25).symm.trans h
          refine z_iload dX8_clerk_49 rfl ?_
          refine z_goto (tgt := 81) dX8_clerk_51 rfl ?_
          cases h
          exact z_rI dX8_clerk_81 rfl
        · replace h := (if_neg g25).symm.trans h
          refine z_iload_n dX8_clerk_54 rfl ?_
          refine z_ic kc_p0 dX8_clerk_55 ?_
          refine z_iload dX8_clerk_56 rfl ?_
          refine z_ic kc_p1 dX8_clerk_58 ?_
          refine z_isub dX8_clerk_59 ?_
          obtain ⟨v27, M28, c26, h⟩ := z_bi_c h
          refine z_cS (av := [.int x3, .int (0 : Int32), .int (v23 - (1 : Int32))]) (st := []) lk_X8_152 dX8_clerk_60 (A_X8_isIn (d := d + 1) hl c26) rfl rfl (Nat.le_of_ble_eq_true rfl) rfl z_len rfl rfl ?_
          refine z_if_eq (tgt := 76) dX8_clerk_63 rfl (fun g29 => ?_) (fun g29 => ?_)
          · replace h := (if_pos g29).symm.trans h
            refine z_aload_n dX8_clerk_76 rfl ?_
            refine z_ic kc_p1 dX8_clerk_77 ?_
            obtain ⟨v31, M32, c30, h⟩ := z_bi_c h
            refine z_cV (av := [.int (1 : Int32)]) (st := []) lk_X8_268 dX8_clerk_78 (A_X8_fail_107 (d := d + 1) hl c30) rfl rfl en_107 rfl (Nat.le_of_ble_eq_true rfl) rfl z_len rfl rfl ?_
            cases h
            exact z_rI dX8_clerk_81 rfl
          · replace h := (if_neg g29).symm.trans h
            refine z_aload_n dX8_clerk_66 rfl ?_
            refine z_iload_n dX8_clerk_67 rfl ?_
            refine z_iload_n dX8_clerk_68 rfl ?_
            refine z_iload_n dX8_clerk_69 rfl ?_
            obtain ⟨v34, M35, c33, h⟩ := z_bi_c h
            refine z_cV (av := [.int x1, .int x2, .int x3]) (st := []) lk_X8_326 dX8_clerk_70 (A_X8_clerkAt_107 (d := d + 1) hl c33) rfl rfl en_107 rfl (Nat.le_of_ble_eq_true rfl) rfl z_len rfl rfl ?_
            refine z_goto (tgt := 81) dX8_clerk_73 rfl ?_
            cases h
            exact z_rI dX8_clerk_81 rfl
/-! X8_count 107 -/
def f_X8_count_107 (x1 : Int32) (M : zMM) : Option (Int32 × zMM) :=
  z_bi (f_X8_isIn x1 (0 : Int32) (4 : Int32) (z_up M 107 1 (0 : Int32))) fun v2 M3 =>
  if v2 = 0 then
    if x1 = (5 : Int32) then
      some ((M3 107 29), M3)
    else
      if x1 = (6 : Int32) then
        some ((M3 107 32), M3)
      else
        if x1 = (7 : Int32) then
          some ((M3 107 31), M3)
        else
          if x1 = (8 : Int32) then
            if (M3 107 33) = 0 then
              some ((0 : Int32), M3)
            else
              some ((1 : Int32), M3)
          else
            if x1 = (9 : Int32) then
              some ((M3 107 17), M3)
            else
              if x1 = (10 : Int32) then
                if z_ib (x1 - (10 : Int32)) 3 = true then
                  some ((M3 122 (x1 - (10 : Int32)).toNatClampNeg), M3)
                else none
              else
                if x1 = (11 : Int32) then
                  if z_ib (x1 - (10 : Int32)) 3 = true then
                    some ((M3 122 (x1 - (10 : Int32)).toNatClampNeg), M3)
                  else none
                else
                  if x1 = (12 : Int32) then
                    if z_ib (x1 - (10 : Int32)) 3 = true then
                      some ((M3 122 (x1 - (10 : Int32)).toNatClampNeg), M3)
                    else none
                  else
                    z_bi (f_X8_fail_107 (1 : Int32) M3) fun v18 M19 =>
                    some (v18, M19)
  else
    if z_ib x1 10 = true then
      some ((M3 109 x1.toNatClampNeg), M3)
    else none
theorem A_X8_count_107 {l : Launch} (hl : l.stackTraces = false) {Ls d : Nat} {Lm : zML} {x1 : Int32} {M M' : zMM} {v : Int32} (h : f_X8_count_107 x1 M = some (v, M')) : z_Ct l mX8_count (d + 1) 0 0 [.ref 107, .int x1] (z_L0 Ls, M, Lm) (.inl (some (.int v))) (z_L0 Ls, M', Lm) := by
  replace h : (  z_bi (f_X8_isIn x1 (0 : Int32) (4 : Int32) (z_up M 107 1 (0 : Int32))) fun v2 M3 =>
  if v2 = 0 then
    if x1 = (5 : Int32) then
      some ((M3 107 29), M3)
    else
      if x1 = (6 : Int32) then
        some ((M3 107 32), M3)
      else
        if x1 = (7 : Int32) then
          some ((M3 107 31), M3)
        else
          if x1 = (8 : Int32) then
            if (M3 107 33) = 0 then
              some ((0 : Int32), M3)
            else
              some ((1 : Int32), M3)
          else
            if x1 = (9 : Int32) then
              some ((M3 107 17), M3)
            else
              if x1 = (10 : Int32) then
                if z_ib (x1 - (10 : Int32)) 3 = true then
                  some ((M3 122 (x1 - (10 : Int32)).toNatClampNeg), M3)
                else none
              else
                if x1 = (11 : Int32) then
                  if z_ib (x1 - (10 : Int32)) 3 = true then
                    some ((M3 122 (x1 - (10 : Int32)).toNatClampNeg), M3)
                  else none
                else
                  if x1 = (12 : Int32) then
                    if z_ib (x1 - (10 : Int32)) 3 = true then
                      some ((M3 122 (x1 - (10 : Int32)).toNatClampNeg), M3)
                    else none
                  else
                    z_bi (f_X8_fail_107 (1 : Int32) M3) fun v18 M19 =>
                    some (v18, M19)
  else
    if z_ib x1 10 = true then
      some ((M3 109 x1.toNatClampNeg), M3)
    else none) = some (v, M') := h
  refine z_Ct.of hl (by decide) (Nat.le_of_ble_eq_true rfl) rfl ?_
  show z_AW l mX8_count (d + 1) 0 0 0 [.ref 107, .int x1] [] (z_L0 Ls, M, Lm) (.inl (some (.int v))) (z_L0 Ls, M', Lm)
  refine z_aload_n dX8_count_0 rfl ?_
  refine z_ic kc_p0 dX8_count_1 ?_
  refine z_pI fp_X8_149 dX8_count_2 (by decide) en_107 rfl ?_
  refine z_iload_n dX8_count_5 rfl ?_
  refine z_ic kc_p0 dX8_count_6 ?_
  refine z_ic kc_p4 dX8_count_7 ?_
  obtain ⟨v2, M3, c1, h⟩ := z_bi_c h
  refine z_cS (av := [.int x1, .int (0 : Int32), .int (4 : Int32)]) (st := []) lk_X8_152 dX8_count_8 (A_X8_isIn (d := d + 0) hl c1) rfl rfl (Nat.le_of_ble_eq_true rfl) rfl z_len rfl rfl ?_
  refine z_if_eq (tgt := 21) dX8_count_11 rfl (fun g4 => ?_) (fun g4 => ?_)
  · replace h := (if_pos g4).symm.trans h
    refine z_iload_n dX8_count_21 rfl ?_
    by_cases g5 : x1 = (5 : Int32)
    · replace h := (if_pos g5).symm.trans h
      refine z_tswI (tgt := 68) dX8_count_22 g5 (by decide) (by decide) rfl rfl ?_
      refine z_aload_n dX8_count_68 rfl ?_
      refine z_gI (v := (M3 107 29)) fl_X8_282 dX8_count_69 en_107 rfl rfl ?_
      cases h
      exact z_rI dX8_count_72 rfl
    · replace h := (if_neg g5).symm.trans h
      by_cases g6 : x1 = (6 : Int32)
      · replace h := (if_pos g6).symm.trans h
        refine z_tswI (tgt := 73) dX8_count_22 g6 (by decide) (by decide) rfl rfl ?_
        refine z_aload_n dX8_count_73 rfl ?_
        refine z_gI (v := (M3 107 32)) fl_X8_292 dX8_count_74 en_107 rfl rfl ?_
        cases h
        exact z_rI dX8_count_77 rfl
      · replace h := (if_neg g6).symm.trans h
        by_cases g7 : x1 = (7 : Int32)
        · replace h := (if_pos g7).symm.trans h
          refine z_tswI (tgt := 78) dX8_count_22 g7 (by decide) (by decide) rfl rfl ?_
          refine z_aload_n dX8_count_78 rfl ?_
          refine z_gI (v := (M3 107 31)) fl_X8_289 dX8_count_79 en_107 rfl rfl ?_
          cases h
          exact z_rI dX8_count_82 rfl
        · replace h := (if_neg g7).symm.trans h
          by_cases g8 : x1 = (8 : Int32)
          · replace h := (if_pos g8).symm.trans h
            refine z_tswI (tgt := 83) dX8_count_22 g8 (by decide) (by decide) rfl rfl ?_
            refine z_aload_n dX8_count_83 rfl ?_
            refine z_gI (v := (M3 107 33)) fl_X8_285 dX8_count_84 en_107 rfl rfl ?_
            refine z_if_eq (tgt := 94) dX8_count_87 rfl (fun g9 => ?_) (fun g9 => ?_)
            · replace h := (if_pos g9).symm.trans h
              refine z_ic kc_p0 dX8_count_94 ?_
              cases h
              exact z_rI dX8_count_95 rfl
            · replace h := (if_neg g9).symm.trans h
              refine z_ic kc_p1 dX8_count_90 ?_
              refine z_goto (tgt := 95) dX8_count_91 rfl ?_
              cases h
              exact z_rI dX8_count_95 rfl
          · replace h := (if_neg g8).symm.trans h
            by_cases g10 : x1 = (9 : Int32)
            · replace h := (if_pos g10).symm.trans h
              refine z_tswI (tgt := 96) dX8_count_22 g10 (by decide) (by decide) rfl rfl ?_
              refine z_aload_n dX8_count_96 rfl ?_
              refine z_gI (v := (M3 107 17)) fl_X8_156 dX8_count_97 en_107 rfl rfl ?_
              cases h
              exact z_rI dX8_count_100 rfl
            · replace h := (if_neg g10).symm.trans h
              by_cases g11 : x1 = (10 : Int32)
              · replace h := (if_pos g11).symm.trans h
                refine z_tswI (tgt := 101) dX8_count_22 g11 (by decide) (by decide) rfl rfl ?_
                refine z_aload_n dX8_count_101 rfl ?_
                refine z_getR (q := 122) fl_X8_63 dX8_count_102 en_107 rfl ?_
                refine z_iload_n dX8_count_105 rfl ?_
                refine z_bp kb_p10 dX8_count_106 ?_
                refine z_isub dX8_count_108 ?_
                obtain ⟨g12, h⟩ := z_ifn h
                refine z_al (v := (M3 122 (x1 - (10 : Int32)).toNatClampNeg)) dX8_count_109 en_122 rfl (z_ib_in g12) rfl ?_
                cases h
                exact z_rI dX8_count_110 rfl
              · replace h := (if_neg g11).symm.trans h
                by_cases g13 : x1 = (11 : Int32)
                · replace h := (if_pos g13).symm.trans h
                  refine z_tswI (tgt := 101) dX8_count_22 g13 (by decide) (by decide) rfl rfl ?_
                  refine z_aload_n dX8_count_101 rfl ?_
                  refine z_getR (q := 122) fl_X8_63 dX8_count_102 en_107 rfl ?_
                  refine z_iload_n dX8_count_105 rfl ?_
                  refine z_bp kb_p10 dX8_count_106 ?_
                  refine z_isub dX8_count_108 ?_
                  obtain ⟨g14, h⟩ := z_ifn h
                  refine z_al (v := (M3 122 (x1 - (10 : Int32)).toNatClampNeg)) dX8_count_109 en_122 rfl (z_ib_in g14) rfl ?_
                  cases h
                  exact z_rI dX8_count_110 rfl
                · replace h := (if_neg g13).symm.trans h
                  by_cases g15 : x1 = (12 : Int32)
                  · replace h := (if_pos g15).symm.trans h
                    refine z_tswI (tgt := 101) dX8_count_22 g15 (by decide) (by decide) rfl rfl ?_
                    refine z_aload_n dX8_count_101 rfl ?_
                    refine z_getR (q := 122) fl_X8_63 dX8_count_102 en_107 rfl ?_
                    refine z_iload_n dX8_count_105 rfl ?_
                    refine z_bp kb_p10 dX8_count_106 ?_
                    refine z_isub dX8_count_108 ?_
                    obtain ⟨g16, h⟩ := z_ifn h
                    refine z_al (v := (M3 122 (x1 - (10 : Int32)).toNatClampNeg)) dX8_count_109 en_122 rfl (z_ib_in g16) rfl ?_
                    cases h
                    exact z_rI dX8_count_110 rfl
                  · replace h := (if_neg g15).symm.trans h
                    refine z_tswO (tgt := 111) dX8_count_22 [(5 : Int32), (6 : Int32), (7 : Int32), (8 : Int32), (9 : Int32), (10 : Int32), (11 : Int32), (12 : Int32)] (by simp only [List.mem_cons, List.not_mem_nil, or_false, forall_eq_or_imp, forall_eq]; exact ⟨g5, g6, g7, g8, g10, g11, g13, g15⟩) (by decide +kernel) rfl ?_
                    refine z_aload_n dX8_count_111 rfl ?_
                    refine z_ic kc_p1 dX8_count_112 ?_
                    obtain ⟨v18, M19, c17, h⟩ := z_bi_c h
                    refine z_cV (av := [.int (1 : Int32)]) (st := []) lk_X8_268 dX8_count_113 (A_X8_fail_107 (d := d + 0) hl c17) rfl rfl en_107 rfl (Nat.le_of_ble_eq_true rfl) rfl z_len rfl rfl ?_
                    cases h
                    exact z_rI dX8_count_116 rfl
  · replace h := (if_neg g4).symm.trans h
    refine z_aload_n dX8_count_14 rfl ?_
    refine z_getR (q := 109) fl_X8_23 dX8_count_15 en_107 rfl ?_
    refine z_iload_n dX8_count_18 rfl ?_
    obtain ⟨g20, h⟩ := z_ifn h
    refine z_al (v := (M3 109 x1.toNatClampNeg)) dX8_count_19 en_109 rfl (z_ib_in g20) rfl ?_
    cases h
    exact z_rI dX8_count_20 rfl
/-! X8_note 107 -/
def f_X8_note_107_p176 (a0 : Int32) (a1 : Int32) (M : zMM) : Option zMM :=
  if z_ib a1 100 = true then
    if z_ib (M 107 31) 100 = true then
      if z_ib (M 107 31) 100 = true then
        if z_zb (M 107 33) = true then
          if z_ib (M 107 31) 100 = true then
            some (z_up (z_up (z_up (z_up (z_up M 132 a1.toNatClampNeg a0) 133 (M 107 31).toNatClampNeg (M 107 29)) 134 (M 107 31).toNatClampNeg (M 107 30)) 135 (M 107 31).toNatClampNeg (M 107 33)) 107 31 ((M 107 31) + (1 : Int32)))
          else none
        else none
      else none
    else none
  else none
def f_X8_note_107_p152 (x1 : Int32) (a0 : Int32) (a1 : Int32) (M : zMM) : Option zMM :=
  if z_ib a1 100 = true then
    if x1 = (-1 : Int32) then
      f_X8_note_107_p176 (0 : Int32) (M 107 31) (z_up M 131 a1.toNatClampNeg a0)
    else
      if z_ib x1 5 = true then
        f_X8_note_107_p176 (M 125 x1.toNatClampNeg) (M 107 31) (z_up M 131 a1.toNatClampNeg a0)
      else none
  else none
def f_X8_note_107_p119 (x1 : Int32) (M : zMM) : Option zMM :=
  if z_ib (M 107 31) 100 = true then
    if x1 = (-1 : Int32) then
      f_X8_note_107_p152 x1 (0 : Int32) (M 107 31) (z_up M 130 (M 107 31).toNatClampNeg x1)
    else
      if z_ib x1 5 = true then
        f_X8_note_107_p152 x1 (M 124 x1.toNatClampNeg) (M 107 31) (z_up M 130 (M 107 31).toNatClampNeg x1)
      else none
  else none
def f_X8_note_107_p11 : Nat → Int32 → Int32 → zMM → Option zMM
  | 0, _, _, _ => none
  | n + 1, x1, x2, M =>
  if (100 : Int32) ≤ (x2 + (1 : Int32)) then
    f_X8_note_107_p119 x1 (z_up M 107 31 ((M 107 31) - (1 : Int32)))
  else
    if z_ib (x2 + (1 : Int32)) 100 = true then
      if z_ib x2 100 = true then
        if z_ib (x2 + (1 : Int32)) 100 = true then
          if z_ib x2 100 = true then
            if z_ib (x2 + (1 : Int32)) 100 = true then
              if z_ib x2 100 = true then
                if z_ib (x2 + (1 : Int32)) 100 = true then
                  if z_ib x2 100 = true then
                    if z_ib (x2 + (1 : Int32)) 100 = true then
                      if z_ib x2 100 = true then
                        if z_ib (x2 + (1 : Int32)) 100 = true then
                          if z_zb (M 135 (x2 + (1 : Int32)).toNatClampNeg) = true then
                            if z_ib x2 100 = true then
                              f_X8_note_107_p11 n x1 (x2 + (1 : Int32)) (z_up (z_up (z_up (z_up (z_up (z_up M 130 x2.toNatClampNeg (M 130 (x2 + (1 : Int32)).toNatClampNeg)) 131 x2.toNatClampNeg (M 131 (x2 + (1 : Int32)).toNatClampNeg)) 132 x2.toNatClampNeg (M 132 (x2 + (1 : Int32)).toNatClampNeg)) 133 x2.toNatClampNeg (M 133 (x2 + (1 : Int32)).toNatClampNeg)) 134 x2.toNatClampNeg (M 134 (x2 + (1 : Int32)).toNatClampNeg)) 135 x2.toNatClampNeg (M 135 (x2 + (1 : Int32)).toNatClampNeg))
                            else none
                          else none
                        else none
                      else none
                    else none
                  else none
                else none
              else none
            else none
          else none
        else none
      else none
    else none
def f_X8_note_107 (x1 : Int32) (M : zMM) : Option zMM :=
  if (M 107 31) = (100 : Int32) then
    f_X8_note_107_p11 z_fuel x1 (0 : Int32) M
  else
    f_X8_note_107_p119 x1 M
theorem A_X8_note_107_p176 {l : Launch} (hl : l.stackTraces = false) {Ls d : Nat} {Lm : zML} :
    ∀ (a0 : Int32) (a1 : Int32) (M M' : zMM) , f_X8_note_107_p176 a0 a1 M = some M' → z_AW l mX8_note (d + 0) 0 0 176 [.ref 107, .null, .null] [.int a0, .int a1, .ref 132] (z_L0 Ls, M, Lm) (.inl none) (z_L0 Ls, M', Lm) := by
  intro a0 a1 M M' h
  replace h : (  if z_ib a1 100 = true then
    if z_ib (M 107 31) 100 = true then
      if z_ib (M 107 31) 100 = true then
        if z_zb (M 107 33) = true then
          if z_ib (M 107 31) 100 = true then
            some (z_up (z_up (z_up (z_up (z_up M 132 a1.toNatClampNeg a0) 133 (M 107 31).toNatClampNeg (M 107 29)) 134 (M 107 31).toNatClampNeg (M 107 30)) 135 (M 107 31).toNatClampNeg (M 107 33)) 107 31 ((M 107 31) + (1 : Int32)))
          else none
        else none
      else none
    else none
  else none) = some M' := h
  obtain ⟨g7, h⟩ := z_ifn h
  refine z_as dX8_note_176 (by decide) en_132 rfl (z_ib_in g7) ?_
  refine z_aload_n dX8_note_177 rfl ?_
  refine z_getR (q := 133) fl_X8_100 dX8_note_178 en_107 rfl ?_
  refine z_aload_n dX8_note_181 rfl ?_
  refine z_gI (v := (M 107 31)) fl_X8_289 dX8_note_182 en_107 rfl rfl ?_
  refine z_aload_n dX8_note_185 rfl ?_
  refine z_gI (v := (M 107 29)) fl_X8_282 dX8_note_186 en_107 rfl rfl ?_
  obtain ⟨g8, h⟩ := z_ifn h
  refine z_as dX8_note_189 (by decide) en_133 rfl (z_ib_in g8) ?_
  refine z_aload_n dX8_note_190 rfl ?_
  refine z_getR (q := 134) fl_X8_103 dX8_note_191 en_107 rfl ?_
  refine z_aload_n dX8_note_194 rfl ?_
  refine z_gI (v := (M 107 31)) fl_X8_289 dX8_note_195 en_107 rfl rfl ?_
  refine z_aload_n dX8_note_198 rfl ?_
  refine z_gI (v := (M 107 30)) fl_X8_362 dX8_note_199 en_107 rfl rfl ?_
  obtain ⟨g9, h⟩ := z_ifn h
  refine z_as dX8_note_202 (by decide) en_134 rfl (z_ib_in g9) ?_
  refine z_aload_n dX8_note_203 rfl ?_
  refine z_getR (q := 135) fl_X8_106 dX8_note_204 en_107 rfl ?_
  refine z_aload_n dX8_note_207 rfl ?_
  refine z_gI (v := (M 107 31)) fl_X8_289 dX8_note_208 en_107 rfl rfl ?_
  refine z_aload_n dX8_note_211 rfl ?_
  refine z_gI (v := (M 107 33)) fl_X8_285 dX8_note_212 en_107 rfl rfl ?_
  obtain ⟨g10, h⟩ := z_ifn h
  obtain ⟨g11, h⟩ := z_ifn h
  refine z_zs dX8_note_215 (by decide) en_135 rfl (z_ib_in g11) g10 ?_
  refine z_aload_n dX8_note_216 rfl ?_
  refine z_dup dX8_note_217 rfl ?_
  refine z_gI (v := (M 107 31)) fl_X8_289 dX8_note_218 en_107 rfl rfl ?_
  refine z_ic kc_p1 dX8_note_221 ?_
  refine z_iadd dX8_note_222 ?_
  refine z_pI fp_X8_289 dX8_note_223 (by decide) en_107 rfl ?_
  cases h
  exact z_return dX8_note_226 rfl
theorem A_X8_note_107_p152 {l : Launch} (hl : l.stackTraces = false) {Ls d : Nat} {Lm : zML} :
    ∀ (x1 : Int32) (a0 : Int32) (a1 : Int32) (M M' : zMM) , f_X8_note_107_p152 x1 a0 a1 M = some M' → z_AW l mX8_note (d + 0) 0 0 152 [.ref 107, .int x1, .null] [.int a0, .int a1, .ref 131] (z_L0 Ls, M, Lm) (.inl none) (z_L0 Ls, M', Lm) := by
  intro x1 a0 a1 M M' h
  replace h : (  if z_ib a1 100 = true then
    if x1 = (-1 : Int32) then
      f_X8_note_107_p176 (0 : Int32) (M 107 31) (z_up M 131 a1.toNatClampNeg a0)
    else
      if z_ib x1 5 = true then
        f_X8_note_107_p176 (M 125 x1.toNatClampNeg) (M 107 31) (z_up M 131 a1.toNatClampNeg a0)
      else none
  else none) = some M' := h
  obtain ⟨g5, h⟩ := z_ifn h
  refine z_as dX8_note_152 (by decide) en_131 rfl (z_ib_in g5) ?_
  refine z_aload_n dX8_note_153 rfl ?_
  refine z_getR (q := 132) fl_X8_97 dX8_note_154 en_107 rfl ?_
  refine z_aload_n dX8_note_157 rfl ?_
  refine z_gI (v := (M 107 31)) fl_X8_289 dX8_note_158 en_107 rfl rfl ?_
  refine z_iload_n dX8_note_161 rfl ?_
  refine z_ic kc_m1 dX8_note_162 ?_
  refine z_icmp_ne (tgt := 170) dX8_note_163 rfl (fun g6 => ?_) (fun g6 => ?_)
  · replace h := (if_pos g6).symm.trans h
    refine z_ic kc_p0 dX8_note_166 ?_
    refine z_goto (tgt := 176) dX8_note_167 rfl ?_
    refine z_fg (ls' := [.ref 107, .null, .null]) ⟨Or.inr rfl, Or.inl rfl, Or.inl rfl, trivial⟩ ?_
    exact A_X8_note_107_p176 hl (0 : Int32) (M 107 31) _ _ h
  · replace h := (if_neg g6).symm.trans h
    refine z_aload_n dX8_note_170 rfl ?_
    refine z_getR (q := 125) fl_X8_76 dX8_note_171 en_107 rfl ?_
    refine z_iload_n dX8_note_174 rfl ?_
    obtain ⟨g12, h⟩ := z_ifn h
    refine z_al (v := (M 125 x1.toNatClampNeg)) dX8_note_175 en_125 rfl (z_ib_in g12) rfl ?_
    refine z_fg (ls' := [.ref 107, .null, .null]) ⟨Or.inr rfl, Or.inl rfl, Or.inl rfl, trivial⟩ ?_
    exact A_X8_note_107_p176 hl (M 125 x1.toNatClampNeg) (M 107 31) _ _ h
theorem A_X8_note_107_p119 {l : Launch} (hl : l.stackTraces = false) {Ls d : Nat} {Lm : zML} :
    ∀ (x1 : Int32) (M M' : zMM) , f_X8_note_107_p119 x1 M = some M' → z_AW l mX8_note (d + 0) 0 0 119 [.ref 107, .int x1, .null] [] (z_L0 Ls, M, Lm) (.inl none) (z_L0 Ls, M', Lm) := by
  intro x1 M M' h
  replace h : (  if z_ib (M 107 31) 100 = true then
    if x1 = (-1 : Int32) then
      f_X8_note_107_p152 x1 (0 : Int32) (M 107 31) (z_up M 130 (M 107 31).toNatClampNeg x1)
    else
      if z_ib x1 5 = true then
        f_X8_note_107_p152 x1 (M 124 x1.toNatClampNeg) (M 107 31) (z_up M 130 (M 107 31).toNatClampNeg x1)
      else none
  else none) = some M' := h
  refine z_aload_n dX8_note_119 rfl ?_
  refine z_getR (q := 130) fl_X8_91 dX8_note_120 en_107 rfl ?_
  refine z_aload_n dX8_note_123 rfl ?_
  refine z_gI (v := (M 107 31)) fl_X8_289 dX8_note_124 en_107 rfl rfl ?_
  refine z_iload_n dX8_note_127 rfl ?_
  obtain ⟨g3, h⟩ := z_ifn h
  refine z_as dX8_note_128 (by decide) en_130 rfl (z_ib_in g3) ?_
  refine z_aload_n dX8_note_129 rfl ?_
  refine z_getR (q := 131) fl_X8_94 dX8_note_130 en_107 rfl ?_
  refine z_aload_n dX8_note_133 rfl ?_
  refine z_gI (v := (M 107 31)) fl_X8_289 dX8_note_134 en_107 rfl rfl ?_
  refine z_iload_n dX8_note_137 rfl ?_
  refine z_ic kc_m1 dX8_note_138 ?_
  refine z_icmp_ne (tgt := 146) dX8_note_139 rfl (fun g4 => ?_) (fun g4 => ?_)
  · replace h := (if_pos g4).symm.trans h
    refine z_ic kc_p0 dX8_note_142 ?_
    refine z_goto (tgt := 152) dX8_note_143 rfl ?_
    exact A_X8_note_107_p152 hl x1 (0 : Int32) (M 107 31) _ _ h
  · replace h := (if_neg g4).symm.trans h
    refine z_aload_n dX8_note_146 rfl ?_
    refine z_getR (q := 124) fl_X8_73 dX8_note_147 en_107 rfl ?_
    refine z_iload_n dX8_note_150 rfl ?_
    obtain ⟨g13, h⟩ := z_ifn h
    refine z_al (v := (M 124 x1.toNatClampNeg)) dX8_note_151 en_124 rfl (z_ib_in g13) rfl ?_
    exact A_X8_note_107_p152 hl x1 (M 124 x1.toNatClampNeg) (M 107 31) _ _ h
theorem A_X8_note_107_p11 {l : Launch} (hl : l.stackTraces = false) {Ls d : Nat} {Lm : zML} :
    ∀ (n : Nat) (x1 : Int32) (x2 : Int32) (M M' : zMM) , f_X8_note_107_p11 n x1 x2 M = some M' → z_AW l mX8_note (d + 0) 0 0 11 [.ref 107, .int x1, .int x2] [] (z_L0 Ls, M, Lm) (.inl none) (z_L0 Ls, M', Lm) := by
  intro n
  induction n with
  | zero => intro x1 x2 M M' h; cases h
  | succ n ih =>
    intro x1 x2 M M' h
    replace h : (  if (100 : Int32) ≤ (x2 + (1 : Int32)) then
    f_X8_note_107_p119 x1 (z_up M 107 31 ((M 107 31) - (1 : Int32)))
  else
    if z_ib (x2 + (1 : Int32)) 100 = true then
      if z_ib x2 100 = true then
        if z_ib (x2 + (1 : Int32)) 100 = true then
          if z_ib x2 100 = true then
            if z_ib (x2 + (1 : Int32)) 100 = true then
              if z_ib x2 100 = true then
                if z_ib (x2 + (1 : Int32)) 100 = true then
                  if z_ib x2 100 = true then
                    if z_ib (x2 + (1 : Int32)) 100 = true then
                      if z_ib x2 100 = true then
                        if z_ib (x2 + (1 : Int32)) 100 = true then
                          if z_zb (M 135 (x2 + (1 : Int32)).toNatClampNeg) = true then
                            if z_ib x2 100 = true then
                              f_X8_note_107_p11 n x1 (x2 + (1 : Int32)) (z_up (z_up (z_up (z_up (z_up (z_up M 130 x2.toNatClampNeg (M 130 (x2 + (1 : Int32)).toNatClampNeg)) 131 x2.toNatClampNeg (M 131 (x2 + (1 : Int32)).toNatClampNeg)) 132 x2.toNatClampNeg (M 132 (x2 + (1 : Int32)).toNatClampNeg)) 133 x2.toNatClampNeg (M 133 (x2 + (1 : Int32)).toNatClampNeg)) 134 x2.toNatClampNeg (M 134 (x2 + (1 : Int32)).toNatClampNeg)) 135 x2.toNatClampNeg (M 135 (x2 + (1 : Int32)).toNatClampNeg))
                            else none
                          else none
                        else none
                      else none
                    else none
                  else none
                else none
              else none
            else none
          else none
        else none
      else none
    else none) = some M' := h
    refine z_iload_n dX8_note_11 rfl ?_
    refine z_ic kc_p1 dX8_note_12 ?_
    refine z_iadd dX8_note_13 ?_
    refine z_bp kb_p100 dX8_note_14 ?_
    refine z_icmp_ge (tgt := 109) dX8_note_16 rfl (fun g2 => ?_) (fun g2 => ?_)
    · replace h := (if_pos g2).symm.trans h
      refine z_aload_n dX8_note_109 rfl ?_
      refine z_dup dX8_note_110 rfl ?_
      refine z_gI (v := (M 107 31)) fl_X8_289 dX8_note_111 en_107 rfl rfl ?_
      refine z_ic kc_p1 dX8_note_114 ?_
      refine z_isub dX8_note_115 ?_
      refine z_pI fp_X8_289 dX8_note_116 (by decide) en_107 rfl ?_
      refine z_fg (ls' := [.ref 107, .int x1, .null]) ⟨Or.inr rfl, Or.inr rfl, Or.inl rfl, trivial⟩ ?_
      exact A_X8_note_107_p119 hl x1 _ _ h
    · replace h := (if_neg g2).symm.trans h
      refine z_aload_n dX8_note_19 rfl ?_
      refine z_getR (q := 130) fl_X8_91 dX8_note_20 en_107 rfl ?_
      refine z_iload_n dX8_note_23 rfl ?_
      refine z_aload_n dX8_note_24 rfl ?_
      refine z_getR (q := 130) fl_X8_91 dX8_note_25 en_107 rfl ?_
      refine z_iload_n dX8_note_28 rfl ?_
      refine z_ic kc_p1 dX8_note_29 ?_
      refine z_iadd dX8_note_30 ?_
      obtain ⟨g14, h⟩ := z_ifn h
      refine z_al (v := (M 130 (x2 + (1 : Int32)).toNatClampNeg)) dX8_note_31 en_130 rfl (z_ib_in g14) rfl ?_
      obtain ⟨g15, h⟩ := z_ifn h
      refine z_as dX8_note_32 (by decide) en_130 rfl (z_ib_in g15) ?_
      refine z_aload_n dX8_note_33 rfl ?_
      refine z_getR (q := 131) fl_X8_94 dX8_note_34 en_107 rfl ?_
      refine z_iload_n dX8_note_37 rfl ?_
      refine z_aload_n dX8_note_38 rfl ?_
      refine z_getR (q := 131) fl_X8_94 dX8_note_39 en_107 rfl ?_
      refine z_iload_n dX8_note_42 rfl ?_
      refine z_ic kc_p1 dX8_note_43 ?_
      refine z_iadd dX8_note_44 ?_
      obtain ⟨g16, h⟩ := z_ifn h
      refine z_al (v := (M 131 (x2 + (1 : Int32)).toNatClampNeg)) dX8_note_45 en_131 rfl (z_ib_in g16) rfl ?_
      obtain ⟨g17, h⟩ := z_ifn h
      refine z_as dX8_note_46 (by decide) en_131 rfl (z_ib_in g17) ?_
      refine z_aload_n dX8_note_47 rfl ?_
      refine z_getR (q := 132) fl_X8_97 dX8_note_48 en_107 rfl ?_
      refine z_iload_n dX8_note_51 rfl ?_
      refine z_aload_n dX8_note_52 rfl ?_
      refine z_getR (q := 132) fl_X8_97 dX8_note_53 en_107 rfl ?_
      refine z_iload_n dX8_note_56 rfl ?_
      refine z_ic kc_p1 dX8_note_57 ?_
      refine z_iadd dX8_note_58 ?_
      obtain ⟨g18, h⟩ := z_ifn h
      refine z_al (v := (M 132 (x2 + (1 : Int32)).toNatClampNeg)) dX8_note_59 en_132 rfl (z_ib_in g18) rfl ?_
      obtain ⟨g19, h⟩ := z_ifn h
      refine z_as dX8_note_60 (by decide) en_132 rfl (z_ib_in g19) ?_
      refine z_aload_n dX8_note_61 rfl ?_
      refine z_getR (q := 133) fl_X8_100 dX8_note_62 en_107 rfl ?_
      refine z_iload_n dX8_note_65 rfl ?_
      refine z_aload_n dX8_note_66 rfl ?_
      refine z_getR (q := 133) fl_X8_100 dX8_note_67 en_107 rfl ?_
      refine z_iload_n dX8_note_70 rfl ?_
      refine z_ic kc_p1 dX8_note_71 ?_
      refine z_iadd dX8_note_72 ?_
      obtain ⟨g20, h⟩ := z_ifn h
      refine z_al (v := (M 133 (x2 + (1 : Int32)).toNatClampNeg)) dX8_note_73 en_133 rfl (z_ib_in g20) rfl ?_
      obtain ⟨g21, h⟩ := z_ifn h
      refine z_as dX8_note_74 (by decide) en_133 rfl (z_ib_in g21) ?_
      refine z_aload_n dX8_note_75 rfl ?_
      refine z_getR (q := 134) fl_X8_103 dX8_note_76 en_107 rfl ?_
      refine z_iload_n dX8_note_79 rfl ?_
      refine z_aload_n dX8_note_80 rfl ?_
      refine z_getR (q := 134) fl_X8_103 dX8_note_81 en_107 rfl ?_
      refine z_iload_n dX8_note_84 rfl ?_
      refine z_ic kc_p1 dX8_note_85 ?_
      refine z_iadd dX8_note_86 ?_
      obtain ⟨g22, h⟩ := z_ifn h
      refine z_al (v := (M 134 (x2 + (1 : Int32)).toNatClampNeg)) dX8_note_87 en_134 rfl (z_ib_in g22) rfl ?_
      obtain ⟨g23, h⟩ := z_ifn h
      refine z_as dX8_note_88 (by decide) en_134 rfl (z_ib_in g23) ?_
      refine z_aload_n dX8_note_89 rfl ?_
      refine z_getR (q := 135) fl_X8_106 dX8_note_90 en_107 rfl ?_
      refine z_iload_n dX8_note_93 rfl ?_
      refine z_aload_n dX8_note_94 rfl ?_
      refine z_getR (q := 135) fl_X8_106 dX8_note_95 en_107 rfl ?_
      refine z_iload_n dX8_note_98 rfl ?_
      refine z_ic kc_p1 dX8_note_99 ?_
      refine z_iadd dX8_note_100 ?_
      obtain ⟨g24, h⟩ := z_ifn h
      refine z_zl (v := (M 135 (x2 + (1 : Int32)).toNatClampNeg)) dX8_note_101 en_135 rfl (z_ib_in g24) rfl ?_
      obtain ⟨g25, h⟩ := z_ifn h
      obtain ⟨g26, h⟩ := z_ifn h
      refine z_zs dX8_note_102 (by decide) en_135 rfl (z_ib_in g26) g25 ?_
      refine z_ii (ls' := [.ref 107, .int x1, .int (x2 + (1 : Int32))]) kc_p1 dX8_note_103 rfl (by decide) rfl ?_
      refine z_goto (tgt := 11) dX8_note_106 rfl ?_
      exact ih x1 (x2 + (1 : Int32)) _ _ h
theorem A_X8_note_107 {l : Launch} (hl : l.stackTraces = false) {Ls d : Nat} {Lm : zML} {x1 : Int32} {M M' : zMM} (h : f_X8_note_107 x1 M = some M') : z_Ct l mX8_note (d + 0) 0 0 [.ref 107, .int x1] (z_L0 Ls, M, Lm) (.inl none) (z_L0 Ls, M', Lm) := by
  replace h : (  if (M 107 31) = (100 : Int32) then
    f_X8_note_107_p11 z_fuel x1 (0 : Int32) M
  else
    f_X8_note_107_p119 x1 M) = some M' := h
  refine z_Ct.of hl (by decide) (Nat.le_of_ble_eq_true rfl) rfl ?_
  show z_AW l mX8_note (d + 0) 0 0 0 [.ref 107, .int x1, .null] [] (z_L0 Ls, M, Lm) (.inl none) (z_L0 Ls, M', Lm)
  refine z_aload_n dX8_note_0 rfl ?_
  refine z_gI (v := (M 107 31)) fl_X8_289 dX8_note_1 en_107 rfl rfl ?_
  refine z_bp kb_p100 dX8_note_4 ?_
  refine z_icmp_ne (tgt := 119) dX8_note_6 rfl (fun g1 => ?_) (fun g1 => ?_)
  · replace h := (if_pos g1).symm.trans h
    refine z_ic kc_p0 dX8_note_9 ?_
    refine z_istore_n (ls' := [.ref 107, .int x1, .int (0 : Int32)]) dX8_note_10 (by decide) rfl ?_
    exact A_X8_note_107_p11 hl z_fuel x1 (0 : Int32) _ _ h
  · replace h := (if_neg g1).symm.trans h
    exact A_X8_note_107_p119 hl x1 _ _ h
/-! X8_days 107 -/
def f_X8_days_107 (x1 : Int32) (M : zMM) : Option (Int32 × zMM) :=
  z_bi (f_X8_isIn x1 (0 : Int32) (99 : Int32) (z_up M 107 1 (0 : Int32))) fun v2 M3 =>
  if v2 = 0 then
    z_bi (f_X8_fail_107 (1 : Int32) M3) fun v6 M7 =>
    some (v6, M7)
  else
    z_bv (f_X8_note_107 (-1 : Int32) M3) fun M10 =>
    some (((M10 107 29) + x1), (z_up M10 107 29 ((M10 107 29) + x1)))
theorem A_X8_days_107 {l : Launch} (hl : l.stackTraces = false) {Ls d : Nat} {Lm : zML} {x1 : Int32} {M M' : zMM} {v : Int32} (h : f_X8_days_107 x1 M = some (v, M')) : z_Ct l mX8_days (d + 1) 0 0 [.ref 107, .int x1] (z_L0 Ls, M, Lm) (.inl (some (.int v))) (z_L0 Ls, M', Lm) := by
  replace h : (  z_bi (f_X8_isIn x1 (0 : Int32) (99 : Int32) (z_up M 107 1 (0 : Int32))) fun v2 M3 =>
  if v2 = 0 then
    z_bi (f_X8_fail_107 (1 : Int32) M3) fun v6 M7 =>
    some (v6, M7)
  else
    z_bv (f_X8_note_107 (-1 : Int32) M3) fun M10 =>
    some (((M10 107 29) + x1), (z_up M10 107 29 ((M10 107 29) + x1)))) = some (v, M') := h
  refine z_Ct.of hl (by decide) (Nat.le_of_ble_eq_true rfl) rfl ?_
  show z_AW l mX8_days (d + 1) 0 0 0 [.ref 107, .int x1] [] (z_L0 Ls, M, Lm) (.inl (some (.int v))) (z_L0 Ls, M', Lm)
  refine z_aload_n dX8_days_0 rfl ?_
  refine z_ic kc_p0 dX8_days_1 ?_
  refine z_pI fp_X8_149 dX8_days_2 (by decide) en_107 rfl ?_
  refine z_iload_n dX8_days_5 rfl ?_
  refine z_ic kc_p0 dX8_days_6 ?_
  refine z_bp kb_p99 dX8_days_7 ?_
  obtain ⟨v2, M3, c1, h⟩ := z_bi_c h
  refine z_cS (av := [.int x1, .int (0 : Int32), .int (99 : Int32)]) (st := []) lk_X8_152 dX8_days_9 (A_X8_isIn (d := d + 0) hl c1) rfl rfl (Nat.le_of_ble_eq_true rfl) rfl z_len rfl rfl ?_
  refine z_if_ne (tgt := 21) dX8_days_12 rfl (fun g4 => ?_) (fun g4 => ?_)
  · replace h := (if_pos g4).symm.trans h
    refine z_aload_n dX8_days_15 rfl ?_
    refine z_ic kc_p1 dX8_days_16 ?_
    obtain ⟨v6, M7, c5, h⟩ := z_bi_c h
    refine z_cV (av := [.int (1 : Int32)]) (st := []) lk_X8_268 dX8_days_17 (A_X8_fail_107 (d := d + 0) hl c5) rfl rfl en_107 rfl (Nat.le_of_ble_eq_true rfl) rfl z_len rfl rfl ?_
    cases h
    exact z_rI dX8_days_20 rfl
  · replace h := (if_neg g4).symm.trans h
    refine z_aload_n dX8_days_21 rfl ?_
    refine z_ic kc_m1 dX8_days_22 ?_
    obtain ⟨M10, c8, h⟩ := z_bv_c h
    refine z_cV (av := [.int (-1 : Int32)]) (st := []) lk_X8_366 dX8_days_23 (A_X8_note_107 (d := d + 0) hl c8) rfl rfl en_107 rfl (Nat.le_of_ble_eq_true rfl) rfl z_len rfl rfl ?_
    refine z_aload_n dX8_days_26 rfl ?_
    refine z_dup dX8_days_27 rfl ?_
    refine z_gI (v := (M10 107 29)) fl_X8_282 dX8_days_28 en_107 rfl rfl ?_
    refine z_iload_n dX8_days_31 rfl ?_
    refine z_iadd dX8_days_32 ?_
    refine z_pI fp_X8_282 dX8_days_33 (by decide) en_107 rfl ?_
    refine z_aload_n dX8_days_36 rfl ?_
    refine z_gI (v := ((M10 107 29) + x1)) fl_X8_282 dX8_days_37 en_107 rfl rfl ?_
    cases h
    exact z_rI dX8_days_40 rfl
/-! X8_fault 107 -/
def f_X8_fault_107  (M : zMM) : Option (Int32 × zMM) :=
  some ((M 107 26), (z_up M 107 1 (0 : Int32)))
theorem A_X8_fault_107 {l : Launch} (hl : l.stackTraces = false) {Ls d : Nat} {Lm : zML}  {M M' : zMM} {v : Int32} (h : f_X8_fault_107  M = some (v, M')) : z_Ct l mX8_fault (d + 0) 0 0 [.ref 107] (z_L0 Ls, M, Lm) (.inl (some (.int v))) (z_L0 Ls, M', Lm) := by
  replace h : (  some ((M 107 26), (z_up M 107 1 (0 : Int32)))) = some (v, M') := h
  refine z_Ct.of hl (by decide) (Nat.le_of_ble_eq_true rfl) rfl ?_
  show z_AW l mX8_fault (d + 0) 0 0 0 [.ref 107] [] (z_L0 Ls, M, Lm) (.inl (some (.int v))) (z_L0 Ls, M', Lm)
  refine z_aload_n dX8_fault_0 rfl ?_
  refine z_ic kc_p0 dX8_fault_1 ?_
  refine z_pI fp_X8_149 dX8_fault_2 (by decide) en_107 rfl ?_
  refine z_aload_n dX8_fault_5 rfl ?_
  refine z_gI (v := (M 107 26)) fl_X8_69 dX8_fault_6 en_107 rfl rfl ?_
  cases h
  exact z_rI dX8_fault_9 rfl
/-! X8_feed 107 -/
def f_X8_feed_107_p76 (K23 : Int32 → Int32 → Int32 → Int32 → Int32 → Int32 → zMM → Option (Int32 × zMM)) (x1 : Int32) (x2 : Int32) (x3 : Int32) (x4 : Int32) (x5 : Int32) (x6 : Int32) (a0 : Int32) (M : zMM) : Option (Int32 × zMM) :=
  if z_ib (M 107 17) 700 = true then
    K23 x1 x2 x3 x4 x5 (x6 + (1 : Int32)) (z_up (z_up M 123 (M 107 17).toNatClampNeg ((a0 >>> (((24 : Int32) - ((8 : Int32) * (x6 - x6 / (4 : Int32) * (4 : Int32)))) &&& 31)) &&& (255 : Int32))) 107 17 ((M 107 17) + (1 : Int32)))
  else none
def f_X8_feed_107_p23 : Nat → Int32 → Int32 → Int32 → Int32 → Int32 → Int32 → zMM → Option (Int32 × zMM)
  | 0, _, _, _, _, _, _, _ => none
  | n + 1, x1, x2, x3, x4, x5, x6, M =>
  if (20 : Int32) ≤ x6 then
    some ((M 107 17), M)
  else
    if (4 : Int32) ≤ x6 then
      if (8 : Int32) ≤ x6 then
        if (12 : Int32) ≤ x6 then
          if (16 : Int32) ≤ x6 then
            f_X8_feed_107_p76 (f_X8_feed_107_p23 n) x1 x2 x3 x4 x5 x6 x5 M
          else
            f_X8_feed_107_p76 (f_X8_feed_107_p23 n) x1 x2 x3 x4 x5 x6 x4 M
        else
          f_X8_feed_107_p76 (f_X8_feed_107_p23 n) x1 x2 x3 x4 x5 x6 x3 M
      else
        f_X8_feed_107_p76 (f_X8_feed_107_p23 n) x1 x2 x3 x4 x5 x6 x2 M
    else
      f_X8_feed_107_p76 (f_X8_feed_107_p23 n) x1 x2 x3 x4 x5 x6 x1 M
def f_X8_feed_107 (x1 : Int32) (x2 : Int32) (x3 : Int32) (x4 : Int32) (x5 : Int32) (M : zMM) : Option (Int32 × zMM) :=
  if ((M 107 17) + (20 : Int32)) ≤ (700 : Int32) then
    f_X8_feed_107_p23 z_fuel x1 x2 x3 x4 x5 (0 : Int32) (z_up M 107 1 (0 : Int32))
  else
    some ((-1 : Int32), (z_up M 107 1 (0 : Int32)))
theorem A_X8_feed_107_p76 {l : Launch} (hl : l.stackTraces = false) {Ls d : Nat} {Lm : zML} {K23 : Int32 → Int32 → Int32 → Int32 → Int32 → Int32 → zMM → Option (Int32 × zMM)}
    (hK23 : ∀ (x1 : Int32) (x2 : Int32) (x3 : Int32) (x4 : Int32) (x5 : Int32) (x6 : Int32) (M M' : zMM) (v : Int32) , K23 x1 x2 x3 x4 x5 x6 M = some (v, M') → z_AW l mX8_feed (d + 0) 0 0 23 [.ref 107, .int x1, .int x2, .int x3, .int x4, .int x5, .int x6, .null] [] (z_L0 Ls, M, Lm) (.inl (some (.int v))) (z_L0 Ls, M', Lm)) :
    ∀ (x1 : Int32) (x2 : Int32) (x3 : Int32) (x4 : Int32) (x5 : Int32) (x6 : Int32) (a0 : Int32) (M M' : zMM) (v : Int32) , f_X8_feed_107_p76 K23 x1 x2 x3 x4 x5 x6 a0 M = some (v, M') → z_AW l mX8_feed (d + 0) 0 0 76 [.ref 107, .int x1, .int x2, .int x3, .int x4, .int x5, .int x6, .null] [.int a0] (z_L0 Ls, M, Lm) (.inl (some (.int v))) (z_L0 Ls, M', Lm) := by
  intro x1 x2 x3 x4 x5 x6 a0 M M' v h
  replace h : (  if z_ib (M 107 17) 700 = true then
    K23 x1 x2 x3 x4 x5 (x6 + (1 : Int32)) (z_up (z_up M 123 (M 107 17).toNatClampNeg ((a0 >>> (((24 : Int32) - ((8 : Int32) * (x6 - x6 / (4 : Int32) * (4 : Int32)))) &&& 31)) &&& (255 : Int32))) 107 17 ((M 107 17) + (1 : Int32)))
  else none) = some (v, M') := h
  refine z_istore (ls' := [.ref 107, .int x1, .int x2, .int x3, .int x4, .int x5, .int x6, .int a0]) dX8_feed_76 (by decide) rfl ?_
  refine z_aload_n dX8_feed_78 rfl ?_
  refine z_getR (q := 123) fl_X8_66 dX8_feed_79 en_107 rfl ?_
  refine z_aload_n dX8_feed_82 rfl ?_
  refine z_gI (v := (M 107 17)) fl_X8_156 dX8_feed_83 en_107 rfl rfl ?_
  refine z_iload dX8_feed_86 rfl ?_
  refine z_bp kb_p24 dX8_feed_88 ?_
  refine z_bp kb_p8 dX8_feed_90 ?_
  refine z_iload dX8_feed_92 rfl ?_
  refine z_ic kc_p4 dX8_feed_94 ?_
  refine z_irem dX8_feed_95 (by decide) ?_
  refine z_imul dX8_feed_96 ?_
  refine z_isub dX8_feed_97 ?_
  refine z_ishr dX8_feed_98 ?_
  refine z_sp ks_p255 dX8_feed_99 ?_
  refine z_iand dX8_feed_102 ?_
  obtain ⟨g7, h⟩ := z_ifn h
  refine z_as dX8_feed_103 (by decide) en_123 rfl (z_ib_in g7) ?_
  refine z_aload_n dX8_feed_104 rfl ?_
  refine z_dup dX8_feed_105 rfl ?_
  refine z_gI (v := (M 107 17)) fl_X8_156 dX8_feed_106 en_107 rfl rfl ?_
  refine z_ic kc_p1 dX8_feed_109 ?_
  refine z_iadd dX8_feed_110 ?_
  refine z_pI fp_X8_156 dX8_feed_111 (by decide) en_107 rfl ?_
  refine z_ii (ls' := [.ref 107, .int x1, .int x2, .int x3, .int x4, .int x5, .int (x6 + (1 : Int32)), .int a0]) kc_p1 dX8_feed_114 rfl (by decide) rfl ?_
  refine z_goto (tgt := 23) dX8_feed_117 rfl ?_
  refine z_fg (ls' := [.ref 107, .int x1, .int x2, .int x3, .int x4, .int x5, .int (x6 + (1 : Int32)), .null]) ⟨Or.inr rfl, Or.inr rfl, Or.inr rfl, Or.inr rfl, Or.inr rfl, Or.inr rfl, Or.inr rfl, Or.inl rfl, trivial⟩ ?_
  exact hK23 x1 x2 x3 x4 x5 (x6 + (1 : Int32)) _ _ _ h
theorem A_X8_feed_107_p23 {l : Launch} (hl : l.stackTraces = false) {Ls d : Nat} {Lm : zML} :
    ∀ (n : Nat) (x1 : Int32) (x2 : Int32) (x3 : Int32) (x4 : Int32) (x5 : Int32) (x6 : Int32) (M M' : zMM) (v : Int32) , f_X8_feed_107_p23 n x1 x2 x3 x4 x5 x6 M = some (v, M') → z_AW l mX8_feed (d + 0) 0 0 23 [.ref 107, .int x1, .int x2, .int x3, .int x4, .int x5, .int x6, .null] [] (z_L0 Ls, M, Lm) (.inl (some (.int v))) (z_L0 Ls, M', Lm) := by
  intro n
  induction n with
  | zero => intro x1 x2 x3 x4 x5 x6 M M' v h; cases h
  | succ n ih =>
    intro x1 x2 x3 x4 x5 x6 M M' v h
    replace h : (  if (20 : Int32) ≤ x6 then
    some ((M 107 17), M)
  else
    if (4 : Int32) ≤ x6 then
      if (8 : Int32) ≤ x6 then
        if (12 : Int32) ≤ x6 then
          if (16 : Int32) ≤ x6 then
            f_X8_feed_107_p76 (f_X8_feed_107_p23 n) x1 x2 x3 x4 x5 x6 x5 M
          else
            f_X8_feed_107_p76 (f_X8_feed_107_p23 n) x1 x2 x3 x4 x5 x6 x4 M
        else
          f_X8_feed_107_p76 (f_X8_feed_107_p23 n) x1 x2 x3 x4 x5 x6 x3 M
      else
        f_X8_feed_107_p76 (f_X8_feed_107_p23 n) x1 x2 x3 x4 x5 x6 x2 M
    else
      f_X8_feed_107_p76 (f_X8_feed_107_p23 n) x1 x2 x3 x4 x5 x6 x1 M) = some (v, M') := h
    refine z_iload dX8_feed_23 rfl ?_
    refine z_bp kb_p20 dX8_feed_25 ?_
    refine z_icmp_ge (tgt := 120) dX8_feed_27 rfl (fun g2 => ?_) (fun g2 => ?_)
    · replace h := (if_pos g2).symm.trans h
      refine z_aload_n dX8_feed_120 rfl ?_
      refine z_gI (v := (M 107 17)) fl_X8_156 dX8_feed_121 en_107 rfl rfl ?_
      cases h
      exact z_rI dX8_feed_124 rfl
    · replace h := (if_neg g2).symm.trans h
      refine z_iload dX8_feed_30 rfl ?_
      refine z_ic kc_p4 dX8_feed_32 ?_
      refine z_icmp_ge (tgt := 40) dX8_feed_33 rfl (fun g3 => ?_) (fun g3 => ?_)
      · replace h := (if_pos g3).symm.trans h
        refine z_iload dX8_feed_40 rfl ?_
        refine z_bp kb_p8 dX8_feed_42 ?_
        refine z_icmp_ge (tgt := 51) dX8_feed_44 rfl (fun g4 => ?_) (fun g4 => ?_)
        · replace h := (if_pos g4).symm.trans h
          refine z_iload dX8_feed_51 rfl ?_
          refine z_bp kb_p12 dX8_feed_53 ?_
          refine z_icmp_ge (tgt := 62) dX8_feed_55 rfl (fun g5 => ?_) (fun g5 => ?_)
          · replace h := (if_pos g5).symm.trans h
            refine z_iload dX8_feed_62 rfl ?_
            refine z_bp kb_p16 dX8_feed_64 ?_
            refine z_icmp_ge (tgt := 74) dX8_feed_66 rfl (fun g6 => ?_) (fun g6 => ?_)
            · replace h := (if_pos g6).symm.trans h
              refine z_iload dX8_feed_74 rfl ?_
              exact A_X8_feed_107_p76 hl ih x1 x2 x3 x4 x5 x6 x5 _ _ _ h
            · replace h := (if_neg g6).symm.trans h
              refine z_iload dX8_feed_69 rfl ?_
              refine z_goto (tgt := 76) dX8_feed_71 rfl ?_
              exact A_X8_feed_107_p76 hl ih x1 x2 x3 x4 x5 x6 x4 _ _ _ h
          · replace h := (if_neg g5).symm.trans h
            refine z_iload_n dX8_feed_58 rfl ?_
            refine z_goto (tgt := 76) dX8_feed_59 rfl ?_
            exact A_X8_feed_107_p76 hl ih x1 x2 x3 x4 x5 x6 x3 _ _ _ h
        · replace h := (if_neg g4).symm.trans h
          refine z_iload_n dX8_feed_47 rfl ?_
          refine z_goto (tgt := 76) dX8_feed_48 rfl ?_
          exact A_X8_feed_107_p76 hl ih x1 x2 x3 x4 x5 x6 x2 _ _ _ h
      · replace h := (if_neg g3).symm.trans h
        refine z_iload_n dX8_feed_36 rfl ?_
        refine z_goto (tgt := 76) dX8_feed_37 rfl ?_
        exact A_X8_feed_107_p76 hl ih x1 x2 x3 x4 x5 x6 x1 _ _ _ h
theorem A_X8_feed_107 {l : Launch} (hl : l.stackTraces = false) {Ls d : Nat} {Lm : zML} {x1 : Int32} {x2 : Int32} {x3 : Int32} {x4 : Int32} {x5 : Int32} {M M' : zMM} {v : Int32} (h : f_X8_feed_107 x1 x2 x3 x4 x5 M = some (v, M')) : z_Ct l mX8_feed (d + 0) 0 0 [.ref 107, .int x1, .int x2, .int x3, .int x4, .int x5] (z_L0 Ls, M, Lm) (.inl (some (.int v))) (z_L0 Ls, M', Lm) := by
  replace h : (  if ((M 107 17) + (20 : Int32)) ≤ (700 : Int32) then
    f_X8_feed_107_p23 z_fuel x1 x2 x3 x4 x5 (0 : Int32) (z_up M 107 1 (0 : Int32))
  else
    some ((-1 : Int32), (z_up M 107 1 (0 : Int32)))) = some (v, M') := h
  refine z_Ct.of hl (by decide) (Nat.le_of_ble_eq_true rfl) rfl ?_
  show z_AW l mX8_feed (d + 0) 0 0 0 [.ref 107, .int x1, .int x2, .int x3, .int x4, .int x5, .null, .null] [] (z_L0 Ls, M, Lm) (.inl (some (.int v))) (z_L0 Ls, M', Lm)
  refine z_aload_n dX8_feed_0 rfl ?_
  refine z_ic kc_p0 dX8_feed_1 ?_
  refine z_pI fp_X8_149 dX8_feed_2 (by decide) en_107 rfl ?_
  refine z_aload_n dX8_feed_5 rfl ?_
  refine z_gI (v := (M 107 17)) fl_X8_156 dX8_feed_6 en_107 rfl rfl ?_
  refine z_bp kb_p20 dX8_feed_9 ?_
  refine z_iadd dX8_feed_11 ?_
  refine z_sp ks_p700 dX8_feed_12 ?_
  refine z_icmp_le (tgt := 20) dX8_feed_15 rfl (fun g1 => ?_) (fun g1 => ?_)
  · replace h := (if_pos g1).symm.trans h
    refine z_ic kc_p0 dX8_feed_20 ?_
    refine z_istore (ls' := [.ref 107, .int x1, .int x2, .int x3, .int x4, .int x5, .int (0 : Int32), .null]) dX8_feed_21 (by decide) rfl ?_
    exact A_X8_feed_107_p23 hl z_fuel x1 x2 x3 x4 x5 (0 : Int32) _ _ _ h
  · replace h := (if_neg g1).symm.trans h
    refine z_ic kc_m1 dX8_feed_18 ?_
    cases h
    exact z_rI dX8_feed_19 rfl
/-! X8_isPlay 107 -/
def f_X8_isPlay_107 (x1 : Int32) (M : zMM) : Option (Int32 × zMM) :=
  z_bi (f_X8_isIn x1 (0 : Int32) ((M 109 3) - (1 : Int32)) M) fun v2 M3 =>
  if z_zb v2 = true then some (v2, M3) else none
theorem A_X8_isPlay_107 {l : Launch} (hl : l.stackTraces = false) {Ls d : Nat} {Lm : zML} {x1 : Int32} {M M' : zMM} {v : Int32} (h : f_X8_isPlay_107 x1 M = some (v, M')) : z_Ct l mX8_isPlay (d + 1) 0 0 [.ref 107, .int x1] (z_L0 Ls, M, Lm) (.inl (some (.int v))) (z_L0 Ls, M', Lm) := by
  replace h : (  z_bi (f_X8_isIn x1 (0 : Int32) ((M 109 3) - (1 : Int32)) M) fun v2 M3 =>
  if z_zb v2 = true then some (v2, M3) else none) = some (v, M') := h
  refine z_Ct.of hl (by decide) (Nat.le_of_ble_eq_true rfl) rfl ?_
  show z_AW l mX8_isPlay (d + 1) 0 0 0 [.ref 107, .int x1] [] (z_L0 Ls, M, Lm) (.inl (some (.int v))) (z_L0 Ls, M', Lm)
  refine z_iload_n dX8_isPlay_0 rfl ?_
  refine z_ic kc_p0 dX8_isPlay_1 ?_
  refine z_aload_n dX8_isPlay_2 rfl ?_
  refine z_getR (q := 109) fl_X8_23 dX8_isPlay_3 en_107 rfl ?_
  refine z_ic kc_p3 dX8_isPlay_6 ?_
  refine z_al (v := (M 109 3)) dX8_isPlay_7 en_109 kn_p3 (z_ib_in rfl) rfl ?_
  refine z_ic kc_p1 dX8_isPlay_8 ?_
  refine z_isub dX8_isPlay_9 ?_
  obtain ⟨v2, M3, c1, h⟩ := z_bi_c h
  refine z_cS (av := [.int x1, .int (0 : Int32), .int ((M 109 3) - (1 : Int32))]) (st := []) lk_X8_152 dX8_isPlay_10 (A_X8_isIn (d := d + 0) hl c1) rfl rfl (Nat.le_of_ble_eq_true rfl) rfl z_len rfl rfl ?_
  obtain ⟨g4, h⟩ := z_ifn h
  cases h
  exact z_rZ dX8_isPlay_13 rfl g4
/-! X8_filled 107 -/
def f_X8_filled_107 (x1 : Int32) (x2 : Int32) (x3 : Int32) (M : zMM) : Option (Int32 × zMM) :=
  z_bi (f_X8_isPlay_107 x1 (z_up M 107 1 (0 : Int32))) fun v2 M3 =>
  if v2 = 0 then
    z_bi (f_X8_fail_107 (1 : Int32) M3) fun v6 M7 =>
    some (v6, M7)
  else
    z_bi (f_X8_isTown_107 x2 M3) fun v9 M10 =>
    if v9 = 0 then
      z_bi (f_X8_fail_107 (1 : Int32) M10) fun v13 M14 =>
      some (v13, M14)
    else
      if z_ib x1 8 = true then
        z_bi (f_X8_isIn x3 (0 : Int32) ((M10 120 x1.toNatClampNeg) - (1 : Int32)) M10) fun v17 M18 =>
        if v17 = 0 then
          z_bi (f_X8_fail_107 (1 : Int32) M18) fun v21 M22 =>
          some (v21, M22)
        else
          z_bi (f_X8_trunksAt_107 x2 M18) fun v24 M25 =>
          z_bi (f_X8_thingsOf_107 v24 M25) fun v27 M28 =>
          z_bi (f_X8_priceOf_107 x1 x2 v27 M28) fun v30 M31 =>
          if v30 = (-1 : Int32) then
            some ((-1 : Int32), M31)
          else
            if z_ib x3 4 = true then
              some ((M31 129 x3.toNatClampNeg), M31)
            else none
      else none
theorem A_X8_filled_107 {l : Launch} (hl : l.stackTraces = false) {Ls d : Nat} {Lm : zML} {x1 : Int32} {x2 : Int32} {x3 : Int32} {M M' : zMM} {v : Int32} (h : f_X8_filled_107 x1 x2 x3 M = some (v, M')) : z_Ct l mX8_filled (d + 11) 0 0 [.ref 107, .int x1, .int x2, .int x3] (z_L0 Ls, M, Lm) (.inl (some (.int v))) (z_L0 Ls, M', Lm) := by
  replace h : (  z_bi (f_X8_isPlay_107 x1 (z_up M 107 1 (0 : Int32))) fun v2 M3 =>
  if v2 = 0 then
    z_bi (f_X8_fail_107 (1 : Int32) M3) fun v6 M7 =>
    some (v6, M7)
  else
    z_bi (f_X8_isTown_107 x2 M3) fun v9 M10 =>
    if v9 = 0 then
      z_bi (f_X8_fail_107 (1 : Int32) M10) fun v13 M14 =>
      some (v13, M14)
    else
      if z_ib x1 8 = true then
        z_bi (f_X8_isIn x3 (0 : Int32) ((M10 120 x1.toNatClampNeg) - (1 : Int32)) M10) fun v17 M18 =>
        if v17 = 0 then
          z_bi (f_X8_fail_107 (1 : Int32) M18) fun v21 M22 =>
          some (v21, M22)
        else
          z_bi (f_X8_trunksAt_107 x2 M18) fun v24 M25 =>
          z_bi (f_X8_thingsOf_107 v24 M25) fun v27 M28 =>
          z_bi (f_X8_priceOf_107 x1 x2 v27 M28) fun v30 M31 =>
          if v30 = (-1 : Int32) then
            some ((-1 : Int32), M31)
          else
            if z_ib x3 4 = true then
              some ((M31 129 x3.toNatClampNeg), M31)
            else none
      else none) = some (v, M') := h
  refine z_Ct.of hl (by decide) (Nat.le_of_ble_eq_true rfl) rfl ?_
  show z_AW l mX8_filled (d + 11) 0 0 0 [.ref 107, .int x1, .int x2, .int x3] [] (z_L0 Ls, M, Lm) (.inl (some (.int v))) (z_L0 Ls, M', Lm)
  refine z_aload_n dX8_filled_0 rfl ?_
  refine z_ic kc_p0 dX8_filled_1 ?_
  refine z_pI fp_X8_149 dX8_filled_2 (by decide) en_107 rfl ?_
  refine z_aload_n dX8_filled_5 rfl ?_
  refine z_iload_n dX8_filled_6 rfl ?_
  obtain ⟨v2, M3, c1, h⟩ := z_bi_c h
  refine z_cV (av := [.int x1]) (st := []) lk_X8_356 dX8_filled_7 (A_X8_isPlay_107 (d := d + 9) hl c1) rfl rfl en_107 rfl (Nat.le_of_ble_eq_true rfl) rfl z_len rfl rfl ?_
  refine z_if_eq (tgt := 37) dX8_filled_10 rfl (fun g4 => ?_) (fun g4 => ?_)
  · replace h := (if_pos g4).symm.trans h
    refine z_aload_n dX8_filled_37 rfl ?_
    refine z_ic kc_p1 dX8_filled_38 ?_
    obtain ⟨v6, M7, c5, h⟩ := z_bi_c h
    refine z_cV (av := [.int (1 : Int32)]) (st := []) lk_X8_268 dX8_filled_39 (A_X8_fail_107 (d := d + 10) hl c5) rfl rfl en_107 rfl (Nat.le_of_ble_eq_true rfl) rfl z_len rfl rfl ?_
    cases h
    exact z_rI dX8_filled_42 rfl
  · replace h := (if_neg g4).symm.trans h
    refine z_aload_n dX8_filled_13 rfl ?_
    refine z_iload_n dX8_filled_14 rfl ?_
    obtain ⟨v9, M10, c8, h⟩ := z_bi_c h
    refine z_cV (av := [.int x2]) (st := []) lk_X8_304 dX8_filled_15 (A_X8_isTown_107 (d := d + 9) hl c8) rfl rfl en_107 rfl (Nat.le_of_ble_eq_true rfl) rfl z_len rfl rfl ?_
    refine z_if_eq (tgt := 37) dX8_filled_18 rfl (fun g11 => ?_) (fun g11 => ?_)
    · replace h := (if_pos g11).symm.trans h
      refine z_aload_n dX8_filled_37 rfl ?_
      refine z_ic kc_p1 dX8_filled_38 ?_
      obtain ⟨v13, M14, c12, h⟩ := z_bi_c h
      refine z_cV (av := [.int (1 : Int32)]) (st := []) lk_X8_268 dX8_filled_39 (A_X8_fail_107 (d := d + 10) hl c12) rfl rfl en_107 rfl (Nat.le_of_ble_eq_true rfl) rfl z_len rfl rfl ?_
      cases h
      exact z_rI dX8_filled_42 rfl
    · replace h := (if_neg g11).symm.trans h
      refine z_iload_n dX8_filled_21 rfl ?_
      refine z_ic kc_p0 dX8_filled_22 ?_
      refine z_aload_n dX8_filled_23 rfl ?_
      refine z_getR (q := 120) fl_X8_57 dX8_filled_24 en_107 rfl ?_
      refine z_iload_n dX8_filled_27 rfl ?_
      obtain ⟨g15, h⟩ := z_ifn h
      refine z_al (v := (M10 120 x1.toNatClampNeg)) dX8_filled_28 en_120 rfl (z_ib_in g15) rfl ?_
      refine z_ic kc_p1 dX8_filled_29 ?_
      refine z_isub dX8_filled_30 ?_
      obtain ⟨v17, M18, c16, h⟩ := z_bi_c h
      refine z_cS (av := [.int x3, .int (0 : Int32), .int ((M10 120 x1.toNatClampNeg) - (1 : Int32))]) (st := []) lk_X8_152 dX8_filled_31 (A_X8_isIn (d := d + 10) hl c16) rfl rfl (Nat.le_of_ble_eq_true rfl) rfl z_len rfl rfl ?_
      refine z_if_ne (tgt := 43) dX8_filled_34 rfl (fun g19 => ?_) (fun g19 => ?_)
      · replace h := (if_pos g19).symm.trans h
        refine z_aload_n dX8_filled_37 rfl ?_
        refine z_ic kc_p1 dX8_filled_38 ?_
        obtain ⟨v21, M22, c20, h⟩ := z_bi_c h
        refine z_cV (av := [.int (1 : Int32)]) (st := []) lk_X8_268 dX8_filled_39 (A_X8_fail_107 (d := d + 10) hl c20) rfl rfl en_107 rfl (Nat.le_of_ble_eq_true rfl) rfl z_len rfl rfl ?_
        cases h
        exact z_rI dX8_filled_42 rfl
      · replace h := (if_neg g19).symm.trans h
        refine z_aload_n dX8_filled_43 rfl ?_
        refine z_iload_n dX8_filled_44 rfl ?_
        refine z_iload_n dX8_filled_45 rfl ?_
        refine z_aload_n dX8_filled_46 rfl ?_
        refine z_aload_n dX8_filled_47 rfl ?_
        refine z_iload_n dX8_filled_48 rfl ?_
        obtain ⟨v24, M25, c23, h⟩ := z_bi_c h
        refine z_cV (av := [.int x2]) (st := [.ref 107, .int x2, .int x1, .ref 107]) lk_X8_307 dX8_filled_49 (A_X8_trunksAt_107 (d := d + 10) hl c23) rfl rfl en_107 rfl (Nat.le_of_ble_eq_true rfl) rfl z_len rfl rfl ?_
        obtain ⟨v27, M28, c26, h⟩ := z_bi_c h
        refine z_cV (av := [.int v24]) (st := [.int x2, .int x1, .ref 107]) lk_X8_310 dX8_filled_52 (A_X8_thingsOf_107 (d := d + 10) hl c26) rfl rfl en_107 rfl (Nat.le_of_ble_eq_true rfl) rfl z_len rfl rfl ?_
        obtain ⟨v30, M31, c29, h⟩ := z_bi_c h
        refine z_cV (av := [.int x1, .int x2, .int v27]) (st := []) lk_X8_359 dX8_filled_55 (A_X8_priceOf_107 (d := d + 0) hl c29) rfl rfl en_107 rfl (Nat.le_of_ble_eq_true rfl) rfl z_len rfl rfl ?_
        refine z_ic kc_m1 dX8_filled_58 ?_
        refine z_icmp_ne (tgt := 66) dX8_filled_59 rfl (fun g32 => ?_) (fun g32 => ?_)
        · replace h := (if_pos g32).symm.trans h
          refine z_ic kc_m1 dX8_filled_62 ?_
          refine z_goto (tgt := 72) dX8_filled_63 rfl ?_
          cases h
          exact z_rI dX8_filled_72 rfl
        · replace h := (if_neg g32).symm.trans h
          refine z_aload_n dX8_filled_66 rfl ?_
          refine z_getR (q := 129) fl_X8_88 dX8_filled_67 en_107 rfl ?_
          refine z_iload_n dX8_filled_70 rfl ?_
          obtain ⟨g33, h⟩ := z_ifn h
          refine z_al (v := (M31 129 x3.toNatClampNeg)) dX8_filled_71 en_129 rfl (z_ib_in g33) rfl ?_
          cases h
          exact z_rI dX8_filled_72 rfl
/-! X8_forget 107 -/
def f_X8_forget_107  (M : zMM) : Option zMM :=
  some (z_up (z_up M 107 1 (0 : Int32)) 107 32 (0 : Int32))
theorem A_X8_forget_107 {l : Launch} (hl : l.stackTraces = false) {Ls d : Nat} {Lm : zML}  {M M' : zMM} (h : f_X8_forget_107  M = some M') : z_Ct l mX8_forget (d + 0) 0 0 [.ref 107] (z_L0 Ls, M, Lm) (.inl none) (z_L0 Ls, M', Lm) := by
  replace h : (  some (z_up (z_up M 107 1 (0 : Int32)) 107 32 (0 : Int32))) = some M' := h
  refine z_Ct.of hl (by decide) (Nat.le_of_ble_eq_true rfl) rfl ?_
  show z_AW l mX8_forget (d + 0) 0 0 0 [.ref 107] [] (z_L0 Ls, M, Lm) (.inl none) (z_L0 Ls, M', Lm)
  refine z_aload_n dX8_forget_0 rfl ?_
  refine z_ic kc_p0 dX8_forget_1 ?_
  refine z_pI fp_X8_149 dX8_forget_2 (by decide) en_107 rfl ?_
  refine z_aload_n dX8_forget_5 rfl ?_
  refine z_ic kc_p0 dX8_forget_6 ?_
  refine z_pI fp_X8_292 dX8_forget_7 (by decide) en_107 rfl ?_
  cases h
  exact z_return dX8_forget_10 rfl
