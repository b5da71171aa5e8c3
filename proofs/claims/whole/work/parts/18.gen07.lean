/-! X8_tourOn 107 -/
def f_X8_tourOn_107_p127 (S : Int32 → Int32 → zMM → Option zMM) : Nat → Int32 → Int32 → zMM → Option zMM
  | 0, _, _, _ => none
  | n + 1, x1, x4, M =>
  if x1 ≤ x4 then
    some M
  else
    if z_ib x4 5 = true then
      if z_ib x4 5 = true then
        f_X8_tourOn_107_p127 S n x1 (x4 + (1 : Int32)) (z_up M 141 x4.toNatClampNeg (M 140 x4.toNatClampNeg))
      else none
    else none
def f_X8_tourOn_107_p30 (S : Int32 → Int32 → zMM → Option zMM) (K15 : Int32 → Int32 → Int32 → zMM → Option zMM) : Nat → Int32 → Int32 → Int32 → Int32 → Int32 → zMM → Option zMM
  | 0, _, _, _, _, _, _ => none
  | n + 1, x1, x3, x4, x5, x6, M =>
  if x1 ≤ x6 then
    if z_ib (((32 : Int32) * x4) + x5) 128 = true then
      if (M 139 (((32 : Int32) * x4) + x5).toNatClampNeg) = (-1 : Int32) then
        some M
      else
        if z_ib (((32 : Int32) * x4) + x5) 128 = true then
          K15 x1 (x3 + (M 139 (((32 : Int32) * x4) + x5).toNatClampNeg)) (x4 + (1 : Int32)) M
        else none
    else none
  else
    if z_ib x6 5 = true then
      f_X8_tourOn_107_p30 S K15 n x1 x3 x4 (x5 ||| ((((M 140 x6.toNatClampNeg) >>> (x4 &&& 31)) &&& (1 : Int32)) <<< (x6 &&& 31))) (x6 + (1 : Int32)) M
    else none
def f_X8_tourOn_107_p15 (S : Int32 → Int32 → zMM → Option zMM) : Nat → Int32 → Int32 → Int32 → zMM → Option zMM
  | 0, _, _, _, _ => none
  | n + 1, x1, x3, x4, M =>
  if (M 107 32) ≤ x4 then
    if (M 107 52) = (-1 : Int32) then
      f_X8_tourOn_107_p127 S z_fuel x1 (0 : Int32) (z_up M 107 52 x3)
    else
      if x3 < (M 107 52) then
        f_X8_tourOn_107_p127 S z_fuel x1 (0 : Int32) (z_up M 107 52 x3)
      else
        some M
  else
    f_X8_tourOn_107_p30 S (f_X8_tourOn_107_p15 S n) z_fuel x1 x3 x4 (0 : Int32) (0 : Int32) M
def f_X8_tourOn_107_p172 (S : Int32 → Int32 → zMM → Option zMM) (K156 : Int32 → Int32 → Int32 → zMM → Option zMM) (x1 : Int32) (x2 : Int32) (x3 : Int32) (a0 : Int32) (a1 : Int32) (M : zMM) : Option zMM :=
  if a0 ≤ a1 then
    some M
  else
    z_bi (f_X8_canBe_107 x1 x3 M) fun v16 M17 =>
    if v16 = 0 then
      K156 x1 x2 (x3 + (1 : Int32)) M17
    else
      if z_ib x1 5 = true then
        z_bv (S (x1 + (1 : Int32)) x2 (z_up M17 140 x1.toNatClampNeg x3)) fun M22 =>
        K156 x1 x2 (x3 + (1 : Int32)) M22
      else none
def f_X8_tourOn_107_p156 (S : Int32 → Int32 → zMM → Option zMM) : Nat → Int32 → Int32 → Int32 → zMM → Option zMM
  | 0, _, _, _, _ => none
  | n + 1, x1, x2, x3, M =>
  if x1 = x2 then
    f_X8_tourOn_107_p172 S (f_X8_tourOn_107_p156 S n) x1 x2 x3 (1 : Int32) x3 M
  else
    f_X8_tourOn_107_p172 S (f_X8_tourOn_107_p156 S n) x1 x2 x3 ((1 : Int32) <<< ((M 107 32) &&& 31)) x3 M
def f_X8_tourOn_107 : Nat → Int32 → Int32 → zMM → Option zMM
  | 0, _, _, _ => none
  | D + 1, x1, x2, M =>
  if x1 = (M 109 1) then
    f_X8_tourOn_107_p15 (f_X8_tourOn_107 D) z_fuel x1 (0 : Int32) (0 : Int32) M
  else
    f_X8_tourOn_107_p156 (f_X8_tourOn_107 D) z_fuel x1 x2 (0 : Int32) M
theorem A_X8_tourOn_107_p127 {l : Launch} (hl : l.stackTraces = false) {Ls d D : Nat} {Lm : zML} {S : Int32 → Int32 → zMM → Option zMM}
    (hS : ∀ (x1 : Int32) (x2 : Int32) (M M' : zMM) , S x1 x2 M = some M' → z_Ct l mX8_tourOn (d + D + 2) 0 0 [.ref 107, .int x1, .int x2] (z_L0 Ls, M, Lm) (.inl none) (z_L0 Ls, M', Lm)) :
    ∀ (n : Nat) (x1 : Int32) (x4 : Int32) (M M' : zMM) , f_X8_tourOn_107_p127 S n x1 x4 M = some M' → z_AW l mX8_tourOn (d + D + 3) 0 0 127 [.ref 107, .int x1, .null, .null, .int x4, .null, .null] [] (z_L0 Ls, M, Lm) (.inl none) (z_L0 Ls, M', Lm) := by
  intro n
  induction n with
  | zero => intro x1 x4 M M' h; cases h
  | succ n ih =>
    intro x1 x4 M M' h
    replace h : (  if x1 ≤ x4 then
    some M
  else
    if z_ib x4 5 = true then
      if z_ib x4 5 = true then
        f_X8_tourOn_107_p127 S n x1 (x4 + (1 : Int32)) (z_up M 141 x4.toNatClampNeg (M 140 x4.toNatClampNeg))
      else none
    else none) = some M' := h
    refine z_iload dX8_tourOn_127 rfl ?_
    refine z_iload_n dX8_tourOn_129 rfl ?_
    refine z_icmp_ge (tgt := 153) dX8_tourOn_130 rfl (fun g4 => ?_) (fun g4 => ?_)
    · replace h := (if_pos g4).symm.trans h
      cases h
      exact z_return dX8_tourOn_153 rfl
    · replace h := (if_neg g4).symm.trans h
      refine z_aload_n dX8_tourOn_133 rfl ?_
      refine z_getR (q := 141) fl_X8_125 dX8_tourOn_134 en_107 rfl ?_
      refine z_iload dX8_tourOn_137 rfl ?_
      refine z_aload_n dX8_tourOn_139 rfl ?_
      refine z_getR (q := 140) fl_X8_122 dX8_tourOn_140 en_107 rfl ?_
      refine z_iload dX8_tourOn_143 rfl ?_
      obtain ⟨g5, h⟩ := z_ifn h
      refine z_al (v := (M 140 x4.toNatClampNeg)) dX8_tourOn_145 en_140 rfl (z_ib_in g5) rfl ?_
      obtain ⟨g6, h⟩ := z_ifn h
      refine z_as dX8_tourOn_146 (by decide) en_141 rfl (z_ib_in g6) ?_
      refine z_ii (ls' := [.ref 107, .int x1, .null, .null, .int (x4 + (1 : Int32)), .null, .null]) kc_p1 dX8_tourOn_147 rfl (by decide) rfl ?_
      refine z_goto (tgt := 127) dX8_tourOn_150 rfl ?_
      exact ih x1 (x4 + (1 : Int32)) _ _ h
theorem A_X8_tourOn_107_p30 {l : Launch} (hl : l.stackTraces = false) {Ls d D : Nat} {Lm : zML} {S : Int32 → Int32 → zMM → Option zMM}
    (hS : ∀ (x1 : Int32) (x2 : Int32) (M M' : zMM) , S x1 x2 M = some M' → z_Ct l mX8_tourOn (d + D + 2) 0 0 [.ref 107, .int x1, .int x2] (z_L0 Ls, M, Lm) (.inl none) (z_L0 Ls, M', Lm)) {K15 : Int32 → Int32 → Int32 → zMM → Option zMM}
    (hK15 : ∀ (x1 : Int32) (x3 : Int32) (x4 : Int32) (M M' : zMM) , K15 x1 x3 x4 M = some M' → z_AW l mX8_tourOn (d + D + 3) 0 0 15 [.ref 107, .int x1, .null, .int x3, .int x4, .null, .null] [] (z_L0 Ls, M, Lm) (.inl none) (z_L0 Ls, M', Lm)) :
    ∀ (n : Nat) (x1 : Int32) (x3 : Int32) (x4 : Int32) (x5 : Int32) (x6 : Int32) (M M' : zMM) , f_X8_tourOn_107_p30 S K15 n x1 x3 x4 x5 x6 M = some M' → z_AW l mX8_tourOn (d + D + 3) 0 0 30 [.ref 107, .int x1, .null, .int x3, .int x4, .int x5, .int x6] [] (z_L0 Ls, M, Lm) (.inl none) (z_L0 Ls, M', Lm) := by
  intro n
  induction n with
  | zero => intro x1 x3 x4 x5 x6 M M' h; cases h
  | succ n ih =>
    intro x1 x3 x4 x5 x6 M M' h
    replace h : (  if x1 ≤ x6 then
    if z_ib (((32 : Int32) * x4) + x5) 128 = true then
      if (M 139 (((32 : Int32) * x4) + x5).toNatClampNeg) = (-1 : Int32) then
        some M
      else
        if z_ib (((32 : Int32) * x4) + x5) 128 = true then
          K15 x1 (x3 + (M 139 (((32 : Int32) * x4) + x5).toNatClampNeg)) (x4 + (1 : Int32)) M
        else none
    else none
  else
    if z_ib x6 5 = true then
      f_X8_tourOn_107_p30 S K15 n x1 x3 x4 (x5 ||| ((((M 140 x6.toNatClampNeg) >>> (x4 &&& 31)) &&& (1 : Int32)) <<< (x6 &&& 31))) (x6 + (1 : Int32)) M
    else none) = some M' := h
    refine z_iload dX8_tourOn_30 rfl ?_
    refine z_iload_n dX8_tourOn_32 rfl ?_
    refine z_icmp_ge (tgt := 62) dX8_tourOn_33 rfl (fun g8 => ?_) (fun g8 => ?_)
    · replace h := (if_pos g8).symm.trans h
      refine z_aload_n dX8_tourOn_62 rfl ?_
      refine z_getR (q := 139) fl_X8_119 dX8_tourOn_63 en_107 rfl ?_
      refine z_bp kb_p32 dX8_tourOn_66 ?_
      refine z_iload dX8_tourOn_68 rfl ?_
      refine z_imul dX8_tourOn_70 ?_
      refine z_iload dX8_tourOn_71 rfl ?_
      refine z_iadd dX8_tourOn_73 ?_
      obtain ⟨g9, h⟩ := z_ifn h
      refine z_al (v := (M 139 (((32 : Int32) * x4) + x5).toNatClampNeg)) dX8_tourOn_74 en_139 rfl (z_ib_in g9) rfl ?_
      refine z_ic kc_m1 dX8_tourOn_75 ?_
      refine z_icmp_ne (tgt := 80) dX8_tourOn_76 rfl (fun g10 => ?_) (fun g10 => ?_)
      · replace h := (if_pos g10).symm.trans h
        cases h
        exact z_return dX8_tourOn_79 rfl
      · replace h := (if_neg g10).symm.trans h
        refine z_iload_n dX8_tourOn_80 rfl ?_
        refine z_aload_n dX8_tourOn_81 rfl ?_
        refine z_getR (q := 139) fl_X8_119 dX8_tourOn_82 en_107 rfl ?_
        refine z_bp kb_p32 dX8_tourOn_85 ?_
        refine z_iload dX8_tourOn_87 rfl ?_
        refine z_imul dX8_tourOn_89 ?_
        refine z_iload dX8_tourOn_90 rfl ?_
        refine z_iadd dX8_tourOn_92 ?_
        obtain ⟨g11, h⟩ := z_ifn h
        refine z_al (v := (M 139 (((32 : Int32) * x4) + x5).toNatClampNeg)) dX8_tourOn_93 en_139 rfl (z_ib_in g11) rfl ?_
        refine z_iadd dX8_tourOn_94 ?_
        refine z_istore_n (ls' := [.ref 107, .int x1, .null, .int (x3 + (M 139 (((32 : Int32) * x4) + x5).toNatClampNeg)), .int x4, .int x5, .int x6]) dX8_tourOn_95 (by decide) rfl ?_
        refine z_ii (ls' := [.ref 107, .int x1, .null, .int (x3 + (M 139 (((32 : Int32) * x4) + x5).toNatClampNeg)), .int (x4 + (1 : Int32)), .int x5, .int x6]) kc_p1 dX8_tourOn_96 rfl (by decide) rfl ?_
        refine z_goto (tgt := 15) dX8_tourOn_99 rfl ?_
        refine z_fg (ls' := [.ref 107, .int x1, .null, .int (x3 + (M 139 (((32 : Int32) * x4) + x5).toNatClampNeg)), .int (x4 + (1 : Int32)), .null, .null]) ⟨Or.inr rfl, Or.inr rfl, Or.inl rfl, Or.inr rfl, Or.inr rfl, Or.inl rfl, Or.inl rfl, trivial⟩ ?_
        exact hK15 x1 (x3 + (M 139 (((32 : Int32) * x4) + x5).toNatClampNeg)) (x4 + (1 : Int32)) _ _ h
    · replace h := (if_neg g8).symm.trans h
      refine z_iload dX8_tourOn_36 rfl ?_
      refine z_aload_n dX8_tourOn_38 rfl ?_
      refine z_getR (q := 140) fl_X8_122 dX8_tourOn_39 en_107 rfl ?_
      refine z_iload dX8_tourOn_42 rfl ?_
      obtain ⟨g12, h⟩ := z_ifn h
      refine z_al (v := (M 140 x6.toNatClampNeg)) dX8_tourOn_44 en_140 rfl (z_ib_in g12) rfl ?_
      refine z_iload dX8_tourOn_45 rfl ?_
      refine z_ishr dX8_tourOn_47 ?_
      refine z_ic kc_p1 dX8_tourOn_48 ?_
      refine z_iand dX8_tourOn_49 ?_
      refine z_iload dX8_tourOn_50 rfl ?_
      refine z_ishl dX8_tourOn_52 ?_
      refine z_ior dX8_tourOn_53 ?_
      refine z_istore (ls' := [.ref 107, .int x1, .null, .int x3, .int x4, .int (x5 ||| ((((M 140 x6.toNatClampNeg) >>> (x4 &&& 31)) &&& (1 : Int32)) <<< (x6 &&& 31))), .int x6]) dX8_tourOn_54 (by decide) rfl ?_
      refine z_ii (ls' := [.ref 107, .int x1, .null, .int x3, .int x4, .int (x5 ||| ((((M 140 x6.toNatClampNeg) >>> (x4 &&& 31)) &&& (1 : Int32)) <<< (x6 &&& 31))), .int (x6 + (1 : Int32))]) kc_p1 dX8_tourOn_56 rfl (by decide) rfl ?_
      refine z_goto (tgt := 30) dX8_tourOn_59 rfl ?_
      exact ih x1 x3 x4 (x5 ||| ((((M 140 x6.toNatClampNeg) >>> (x4 &&& 31)) &&& (1 : Int32)) <<< (x6 &&& 31))) (x6 + (1 : Int32)) _ _ h
theorem A_X8_tourOn_107_p15 {l : Launch} (hl : l.stackTraces = false) {Ls d D : Nat} {Lm : zML} {S : Int32 → Int32 → zMM → Option zMM}
    (hS : ∀ (x1 : Int32) (x2 : Int32) (M M' : zMM) , S x1 x2 M = some M' → z_Ct l mX8_tourOn (d + D + 2) 0 0 [.ref 107, .int x1, .int x2] (z_L0 Ls, M, Lm) (.inl none) (z_L0 Ls, M', Lm)) :
    ∀ (n : Nat) (x1 : Int32) (x3 : Int32) (x4 : Int32) (M M' : zMM) , f_X8_tourOn_107_p15 S n x1 x3 x4 M = some M' → z_AW l mX8_tourOn (d + D + 3) 0 0 15 [.ref 107, .int x1, .null, .int x3, .int x4, .null, .null] [] (z_L0 Ls, M, Lm) (.inl none) (z_L0 Ls, M', Lm) := by
  intro n
  induction n with
  | zero => intro x1 x3 x4 M M' h; cases h
  | succ n ih =>
    intro x1 x3 x4 M M' h
    replace h : (  if (M 107 32) ≤ x4 then
    if (M 107 52) = (-1 : Int32) then
      f_X8_tourOn_107_p127 S z_fuel x1 (0 : Int32) (z_up M 107 52 x3)
    else
      if x3 < (M 107 52) then
        f_X8_tourOn_107_p127 S z_fuel x1 (0 : Int32) (z_up M 107 52 x3)
      else
        some M
  else
    f_X8_tourOn_107_p30 S (f_X8_tourOn_107_p15 S n) z_fuel x1 x3 x4 (0 : Int32) (0 : Int32) M) = some M' := h
    refine z_iload dX8_tourOn_15 rfl ?_
    refine z_aload_n dX8_tourOn_17 rfl ?_
    refine z_gI (v := (M 107 32)) fl_X8_292 dX8_tourOn_18 en_107 rfl rfl ?_
    refine z_icmp_ge (tgt := 102) dX8_tourOn_21 rfl (fun g2 => ?_) (fun g2 => ?_)
    · replace h := (if_pos g2).symm.trans h
      refine z_aload_n dX8_tourOn_102 rfl ?_
      refine z_gI (v := (M 107 52)) fl_X8_375 dX8_tourOn_103 en_107 rfl rfl ?_
      refine z_ic kc_m1 dX8_tourOn_106 ?_
      refine z_icmp_eq (tgt := 119) dX8_tourOn_107 rfl (fun g3 => ?_) (fun g3 => ?_)
      · replace h := (if_pos g3).symm.trans h
        refine z_aload_n dX8_tourOn_119 rfl ?_
        refine z_iload_n dX8_tourOn_120 rfl ?_
        refine z_pI fp_X8_375 dX8_tourOn_121 (by decide) en_107 rfl ?_
        refine z_ic kc_p0 dX8_tourOn_124 ?_
        refine z_istore (ls' := [.ref 107, .int x1, .null, .int x3, .int (0 : Int32), .null, .null]) dX8_tourOn_125 (by decide) rfl ?_
        refine z_fg (ls' := [.ref 107, .int x1, .null, .null, .int (0 : Int32), .null, .null]) ⟨Or.inr rfl, Or.inr rfl, Or.inl rfl, Or.inl rfl, Or.inr rfl, Or.inl rfl, Or.inl rfl, trivial⟩ ?_
        exact A_X8_tourOn_107_p127 hl hS z_fuel x1 (0 : Int32) _ _ h
      · replace h := (if_neg g3).symm.trans h
        refine z_iload_n dX8_tourOn_110 rfl ?_
        refine z_aload_n dX8_tourOn_111 rfl ?_
        refine z_gI (v := (M 107 52)) fl_X8_375 dX8_tourOn_112 en_107 rfl rfl ?_
        refine z_icmp_lt (tgt := 119) dX8_tourOn_115 rfl (fun g7 => ?_) (fun g7 => ?_)
        · replace h := (if_pos g7).symm.trans h
          refine z_aload_n dX8_tourOn_119 rfl ?_
          refine z_iload_n dX8_tourOn_120 rfl ?_
          refine z_pI fp_X8_375 dX8_tourOn_121 (by decide) en_107 rfl ?_
          refine z_ic kc_p0 dX8_tourOn_124 ?_
          refine z_istore (ls' := [.ref 107, .int x1, .null, .int x3, .int (0 : Int32), .null, .null]) dX8_tourOn_125 (by decide) rfl ?_
          refine z_fg (ls' := [.ref 107, .int x1, .null, .null, .int (0 : Int32), .null, .null]) ⟨Or.inr rfl, Or.inr rfl, Or.inl rfl, Or.inl rfl, Or.inr rfl, Or.inl rfl, Or.inl rfl, trivial⟩ ?_
          exact A_X8_tourOn_107_p127 hl hS z_fuel x1 (0 : Int32) _ _ h
        · replace h := (if_neg g7).symm.trans h
          cases h
          exact z_return dX8_tourOn_118 rfl
    · replace h := (if_neg g2).symm.trans h
      refine z_ic kc_p0 dX8_tourOn_24 ?_
      refine z_istore (ls' := [.ref 107, .int x1, .null, .int x3, .int x4, .int (0 : Int32), .null]) dX8_tourOn_25 (by decide) rfl ?_
      refine z_ic kc_p0 dX8_tourOn_27 ?_
      refine z_istore (ls' := [.ref 107, .int x1, .null, .int x3, .int x4, .int (0 : Int32), .int (0 : Int32)]) dX8_tourOn_28 (by decide) rfl ?_
      exact A_X8_tourOn_107_p30 hl hS ih z_fuel x1 x3 x4 (0 : Int32) (0 : Int32) _ _ h
theorem A_X8_tourOn_107_p172 {l : Launch} (hl : l.stackTraces = false) {Ls d D : Nat} {Lm : zML} {S : Int32 → Int32 → zMM → Option zMM}
    (hS : ∀ (x1 : Int32) (x2 : Int32) (M M' : zMM) , S x1 x2 M = some M' → z_Ct l mX8_tourOn (d + D + 2) 0 0 [.ref 107, .int x1, .int x2] (z_L0 Ls, M, Lm) (.inl none) (z_L0 Ls, M', Lm)) {K156 : Int32 → Int32 → Int32 → zMM → Option zMM}
    (hK156 : ∀ (x1 : Int32) (x2 : Int32) (x3 : Int32) (M M' : zMM) , K156 x1 x2 x3 M = some M' → z_AW l mX8_tourOn (d + D + 3) 0 0 156 [.ref 107, .int x1, .int x2, .int x3, .null, .null, .null] [] (z_L0 Ls, M, Lm) (.inl none) (z_L0 Ls, M', Lm)) :
    ∀ (x1 : Int32) (x2 : Int32) (x3 : Int32) (a0 : Int32) (a1 : Int32) (M M' : zMM) , f_X8_tourOn_107_p172 S K156 x1 x2 x3 a0 a1 M = some M' → z_AW l mX8_tourOn (d + D + 3) 0 0 172 [.ref 107, .int x1, .int x2, .int x3, .null, .null, .null] [.int a0, .int a1] (z_L0 Ls, M, Lm) (.inl none) (z_L0 Ls, M', Lm) := by
  intro x1 x2 x3 a0 a1 M M' h
  replace h : (  if a0 ≤ a1 then
    some M
  else
    z_bi (f_X8_canBe_107 x1 x3 M) fun v16 M17 =>
    if v16 = 0 then
      K156 x1 x2 (x3 + (1 : Int32)) M17
    else
      if z_ib x1 5 = true then
        z_bv (S (x1 + (1 : Int32)) x2 (z_up M17 140 x1.toNatClampNeg x3)) fun M22 =>
        K156 x1 x2 (x3 + (1 : Int32)) M22
      else none) = some M' := h
  refine z_icmp_ge (tgt := 208) dX8_tourOn_172 rfl (fun g14 => ?_) (fun g14 => ?_)
  · replace h := (if_pos g14).symm.trans h
    cases h
    exact z_return dX8_tourOn_208 rfl
  · replace h := (if_neg g14).symm.trans h
    refine z_aload_n dX8_tourOn_175 rfl ?_
    refine z_iload_n dX8_tourOn_176 rfl ?_
    refine z_iload_n dX8_tourOn_177 rfl ?_
    obtain ⟨v16, M17, c15, h⟩ := z_bi_c h
    refine z_cV (av := [.int x1, .int x3]) (st := []) lk_X8_378 dX8_tourOn_178 (A_X8_canBe_107 (d := d + D + 1) hl c15) rfl rfl en_107 rfl (Nat.le_of_ble_eq_true rfl) rfl z_len rfl rfl ?_
    refine z_if_ne (tgt := 187) dX8_tourOn_181 rfl (fun g18 => ?_) (fun g18 => ?_)
    · replace h := (if_pos g18).symm.trans h
      refine z_goto (tgt := 202) dX8_tourOn_184 rfl ?_
      refine z_ii (ls' := [.ref 107, .int x1, .int x2, .int (x3 + (1 : Int32)), .null, .null, .null]) kc_p1 dX8_tourOn_202 rfl (by decide) rfl ?_
      refine z_goto (tgt := 156) dX8_tourOn_205 rfl ?_
      exact hK156 x1 x2 (x3 + (1 : Int32)) _ _ h
    · replace h := (if_neg g18).symm.trans h
      refine z_aload_n dX8_tourOn_187 rfl ?_
      refine z_getR (q := 140) fl_X8_122 dX8_tourOn_188 en_107 rfl ?_
      refine z_iload_n dX8_tourOn_191 rfl ?_
      refine z_iload_n dX8_tourOn_192 rfl ?_
      obtain ⟨g19, h⟩ := z_ifn h
      refine z_as dX8_tourOn_193 (by decide) en_140 rfl (z_ib_in g19) ?_
      refine z_aload_n dX8_tourOn_194 rfl ?_
      refine z_iload_n dX8_tourOn_195 rfl ?_
      refine z_ic kc_p1 dX8_tourOn_196 ?_
      refine z_iadd dX8_tourOn_197 ?_
      refine z_iload_n dX8_tourOn_198 rfl ?_
      obtain ⟨M22, c20, h⟩ := z_bv_c h
      refine z_cV (av := [.int (x1 + (1 : Int32)), .int x2]) (st := []) lk_X8_381 dX8_tourOn_199 (hS (x1 + (1 : Int32)) x2 _ _ c20) rfl rfl en_107 rfl (Nat.le_of_ble_eq_true rfl) rfl z_len rfl rfl ?_
      refine z_ii (ls' := [.ref 107, .int x1, .int x2, .int (x3 + (1 : Int32)), .null, .null, .null]) kc_p1 dX8_tourOn_202 rfl (by decide) rfl ?_
      refine z_goto (tgt := 156) dX8_tourOn_205 rfl ?_
      exact hK156 x1 x2 (x3 + (1 : Int32)) _ _ h
theorem A_X8_tourOn_107_p156 {l : Launch} (hl : l.stackTraces = false) {Ls d D : Nat} {Lm : zML} {S : Int32 → Int32 → zMM → Option zMM}
    (hS : ∀ (x1 : Int32) (x2 : Int32) (M M' : zMM) , S x1 x2 M = some M' → z_Ct l mX8_tourOn (d + D + 2) 0 0 [.ref 107, .int x1, .int x2] (z_L0 Ls, M, Lm) (.inl none) (z_L0 Ls, M', Lm)) :
    ∀ (n : Nat) (x1 : Int32) (x2 : Int32) (x3 : Int32) (M M' : zMM) , f_X8_tourOn_107_p156 S n x1 x2 x3 M = some M' → z_AW l mX8_tourOn (d + D + 3) 0 0 156 [.ref 107, .int x1, .int x2, .int x3, .null, .null, .null] [] (z_L0 Ls, M, Lm) (.inl none) (z_L0 Ls, M', Lm) := by
  intro n
  induction n with
  | zero => intro x1 x2 x3 M M' h; cases h
  | succ n ih =>
    intro x1 x2 x3 M M' h
    replace h : (  if x1 = x2 then
    f_X8_tourOn_107_p172 S (f_X8_tourOn_107_p156 S n) x1 x2 x3 (1 : Int32) x3 M
  else
    f_X8_tourOn_107_p172 S (f_X8_tourOn_107_p156 S n) x1 x2 x3 ((1 : Int32) <<< ((M 107 32) &&& 31)) x3 M) = some M' := h
    refine z_iload_n dX8_tourOn_156 rfl ?_
    refine z_iload_n dX8_tourOn_157 rfl ?_
    refine z_iload_n dX8_tourOn_158 rfl ?_
    refine z_icmp_ne (tgt := 166) dX8_tourOn_159 rfl (fun g13 => ?_) (fun g13 => ?_)
    · replace h := (if_pos g13).symm.trans h
      refine z_ic kc_p1 dX8_tourOn_162 ?_
      refine z_goto (tgt := 172) dX8_tourOn_163 rfl ?_
      exact A_X8_tourOn_107_p172 hl hS ih x1 x2 x3 (1 : Int32) x3 _ _ h
    · replace h := (if_neg g13).symm.trans h
      refine z_ic kc_p1 dX8_tourOn_166 ?_
      refine z_aload_n dX8_tourOn_167 rfl ?_
      refine z_gI (v := (M 107 32)) fl_X8_292 dX8_tourOn_168 en_107 rfl rfl ?_
      refine z_ishl dX8_tourOn_171 ?_
      exact A_X8_tourOn_107_p172 hl hS ih x1 x2 x3 ((1 : Int32) <<< ((M 107 32) &&& 31)) x3 _ _ h
theorem A_X8_tourOn_107 {l : Launch} (hl : l.stackTraces = false) {Ls : Nat} {Lm : zML} : ∀ (D d : Nat) (x1 : Int32) (x2 : Int32) (M M' : zMM) , f_X8_tourOn_107 D x1 x2 M = some M' → z_Ct l mX8_tourOn (d + D + 2) 0 0 [.ref 107, .int x1, .int x2] (z_L0 Ls, M, Lm) (.inl none) (z_L0 Ls, M', Lm) := by
  intro D
  induction D with
  | zero => intro d x1 x2 M M' h; cases h
  | succ D ihD =>
    intro d x1 x2 M M' h
    replace h : (  if x1 = (M 109 1) then
    f_X8_tourOn_107_p15 (f_X8_tourOn_107 D) z_fuel x1 (0 : Int32) (0 : Int32) M
  else
    f_X8_tourOn_107_p156 (f_X8_tourOn_107 D) z_fuel x1 x2 (0 : Int32) M) = some M' := h
    have hS := fun x1 x2 M M' h => ihD d x1 x2 M M' h
    refine z_Ct.of hl (by decide) (Nat.le_of_ble_eq_true rfl) rfl ?_
    show z_AW l mX8_tourOn (d + D + 3) 0 0 0 [.ref 107, .int x1, .int x2, .null, .null, .null, .null] [] (z_L0 Ls, M, Lm) (.inl none) (z_L0 Ls, M', Lm)
    refine z_iload_n dX8_tourOn_0 rfl ?_
    refine z_aload_n dX8_tourOn_1 rfl ?_
    refine z_getR (q := 109) fl_X8_23 dX8_tourOn_2 en_107 rfl ?_
    refine z_ic kc_p1 dX8_tourOn_5 ?_
    refine z_al (v := (M 109 1)) dX8_tourOn_6 en_109 kn_p1 (z_ib_in rfl) rfl ?_
    refine z_icmp_ne (tgt := 154) dX8_tourOn_7 rfl (fun g1 => ?_) (fun g1 => ?_)
    · replace h := (if_pos g1).symm.trans h
      refine z_ic kc_p0 dX8_tourOn_10 ?_
      refine z_istore_n (ls' := [.ref 107, .int x1, .int x2, .int (0 : Int32), .null, .null, .null]) dX8_tourOn_11 (by decide) rfl ?_
      refine z_ic kc_p0 dX8_tourOn_12 ?_
      refine z_istore (ls' := [.ref 107, .int x1, .int x2, .int (0 : Int32), .int (0 : Int32), .null, .null]) dX8_tourOn_13 (by decide) rfl ?_
      refine z_fg (ls' := [.ref 107, .int x1, .null, .int (0 : Int32), .int (0 : Int32), .null, .null]) ⟨Or.inr rfl, Or.inr rfl, Or.inl rfl, Or.inr rfl, Or.inr rfl, Or.inl rfl, Or.inl rfl, trivial⟩ ?_
      exact A_X8_tourOn_107_p15 hl hS z_fuel x1 (0 : Int32) (0 : Int32) _ _ h
    · replace h := (if_neg g1).symm.trans h
      refine z_ic kc_p0 dX8_tourOn_154 ?_
      refine z_istore_n (ls' := [.ref 107, .int x1, .int x2, .int (0 : Int32), .null, .null, .null]) dX8_tourOn_155 (by decide) rfl ?_
      exact A_X8_tourOn_107_p156 hl hS z_fuel x1 x2 (0 : Int32) _ _ h
/-! X8_tourWithout 107 -/
def f_X8_tourWithout_107_p12 (K2 : Int32 → Int32 → zMM → Option (Int32 × zMM)) : Nat → Int32 → Int32 → Int32 → zMM → Option (Int32 × zMM)
  | 0, _, _, _, _ => none
  | n + 1, x1, x2, x3, M =>
  if ((1 : Int32) <<< ((M 109 1) &&& 31)) ≤ x3 then
    K2 x1 (x2 + (1 : Int32)) M
  else
    if z_ib x2 4 = true then
      if z_ib x2 4 = true then
        z_bi (f_X8_thingsOf_107 x3 M) fun v9 M10 =>
        z_bi (f_X8_priceOf_107 (M 138 x2.toNatClampNeg) (M 137 x2.toNatClampNeg) v9 M10) fun v12 M13 =>
        if z_ib (((32 : Int32) * x2) + x3) 128 = true then
          f_X8_tourWithout_107_p12 K2 n x1 x2 (x3 + (1 : Int32)) (z_up M13 139 (((32 : Int32) * x2) + x3).toNatClampNeg v12)
        else none
      else none
    else none
def f_X8_tourWithout_107_p2 : Nat → Int32 → Int32 → zMM → Option (Int32 × zMM)
  | 0, _, _, _ => none
  | n + 1, x1, x2, M =>
  if (M 107 32) ≤ x2 then
    z_bv (f_X8_tourOn_107 8 (0 : Int32) x1 (z_up M 107 52 (-1 : Int32))) fun M4 =>
    some ((M4 107 52), M4)
  else
    f_X8_tourWithout_107_p12 (f_X8_tourWithout_107_p2 n) z_fuel x1 x2 (0 : Int32) M
def f_X8_tourWithout_107 (x1 : Int32) (M : zMM) : Option (Int32 × zMM) :=
  f_X8_tourWithout_107_p2 z_fuel x1 (0 : Int32) M
theorem A_X8_tourWithout_107_p12 {l : Launch} (hl : l.stackTraces = false) {Ls d : Nat} {Lm : zML} {K2 : Int32 → Int32 → zMM → Option (Int32 × zMM)}
    (hK2 : ∀ (x1 : Int32) (x2 : Int32) (M M' : zMM) (v : Int32) , K2 x1 x2 M = some (v, M') → z_AW l mX8_tourWithout (d + 11) 0 0 2 [.ref 107, .int x1, .int x2, .null] [] (z_L0 Ls, M, Lm) (.inl (some (.int v))) (z_L0 Ls, M', Lm)) :
    ∀ (n : Nat) (x1 : Int32) (x2 : Int32) (x3 : Int32) (M M' : zMM) (v : Int32) , f_X8_tourWithout_107_p12 K2 n x1 x2 x3 M = some (v, M') → z_AW l mX8_tourWithout (d + 11) 0 0 12 [.ref 107, .int x1, .int x2, .int x3] [] (z_L0 Ls, M, Lm) (.inl (some (.int v))) (z_L0 Ls, M', Lm) := by
  intro n
  induction n with
  | zero => intro x1 x2 x3 M M' v h; cases h
  | succ n ih =>
    intro x1 x2 x3 M M' v h
    replace h : (  if ((1 : Int32) <<< ((M 109 1) &&& 31)) ≤ x3 then
    K2 x1 (x2 + (1 : Int32)) M
  else
    if z_ib x2 4 = true then
      if z_ib x2 4 = true then
        z_bi (f_X8_thingsOf_107 x3 M) fun v9 M10 =>
        z_bi (f_X8_priceOf_107 (M 138 x2.toNatClampNeg) (M 137 x2.toNatClampNeg) v9 M10) fun v12 M13 =>
        if z_ib (((32 : Int32) * x2) + x3) 128 = true then
          f_X8_tourWithout_107_p12 K2 n x1 x2 (x3 + (1 : Int32)) (z_up M13 139 (((32 : Int32) * x2) + x3).toNatClampNeg v12)
        else none
      else none
    else none) = some (v, M') := h
    refine z_iload_n dX8_tourWithout_12 rfl ?_
    refine z_ic kc_p1 dX8_tourWithout_13 ?_
    refine z_aload_n dX8_tourWithout_14 rfl ?_
    refine z_getR (q := 109) fl_X8_23 dX8_tourWithout_15 en_107 rfl ?_
    refine z_ic kc_p1 dX8_tourWithout_18 ?_
    refine z_al (v := (M 109 1)) dX8_tourWithout_19 en_109 kn_p1 (z_ib_in rfl) rfl ?_
    refine z_ishl dX8_tourWithout_20 ?_
    refine z_icmp_ge (tgt := 62) dX8_tourWithout_21 rfl (fun g5 => ?_) (fun g5 => ?_)
    · replace h := (if_pos g5).symm.trans h
      refine z_ii (ls' := [.ref 107, .int x1, .int (x2 + (1 : Int32)), .int x3]) kc_p1 dX8_tourWithout_62 rfl (by decide) rfl ?_
      refine z_goto (tgt := 2) dX8_tourWithout_65 rfl ?_
      refine z_fg (ls' := [.ref 107, .int x1, .int (x2 + (1 : Int32)), .null]) ⟨Or.inr rfl, Or.inr rfl, Or.inr rfl, Or.inl rfl, trivial⟩ ?_
      exact hK2 x1 (x2 + (1 : Int32)) _ _ _ h
    · replace h := (if_neg g5).symm.trans h
      refine z_aload_n dX8_tourWithout_24 rfl ?_
      refine z_getR (q := 139) fl_X8_119 dX8_tourWithout_25 en_107 rfl ?_
      refine z_bp kb_p32 dX8_tourWithout_28 ?_
      refine z_iload_n dX8_tourWithout_30 rfl ?_
      refine z_imul dX8_tourWithout_31 ?_
      refine z_iload_n dX8_tourWithout_32 rfl ?_
      refine z_iadd dX8_tourWithout_33 ?_
      refine z_aload_n dX8_tourWithout_34 rfl ?_
      refine z_aload_n dX8_tourWithout_35 rfl ?_
      refine z_getR (q := 138) fl_X8_116 dX8_tourWithout_36 en_107 rfl ?_
      refine z_iload_n dX8_tourWithout_39 rfl ?_
      obtain ⟨g6, h⟩ := z_ifn h
      refine z_al (v := (M 138 x2.toNatClampNeg)) dX8_tourWithout_40 en_138 rfl (z_ib_in g6) rfl ?_
      refine z_aload_n dX8_tourWithout_41 rfl ?_
      refine z_getR (q := 137) fl_X8_113 dX8_tourWithout_42 en_107 rfl ?_
      refine z_iload_n dX8_tourWithout_45 rfl ?_
      obtain ⟨g7, h⟩ := z_ifn h
      refine z_al (v := (M 137 x2.toNatClampNeg)) dX8_tourWithout_46 en_137 rfl (z_ib_in g7) rfl ?_
      refine z_aload_n dX8_tourWithout_47 rfl ?_
      refine z_iload_n dX8_tourWithout_48 rfl ?_
      obtain ⟨v9, M10, c8, h⟩ := z_bi_c h
      refine z_cV (av := [.int x3]) (st := [.int (M 137 x2.toNatClampNeg), .int (M 138 x2.toNatClampNeg), .ref 107, .int (((32 : Int32) * x2) + x3), .ref 139]) lk_X8_310 dX8_tourWithout_49 (A_X8_thingsOf_107 (d := d + 10) hl c8) rfl rfl en_107 rfl (Nat.le_of_ble_eq_true rfl) rfl z_len rfl rfl ?_
      obtain ⟨v12, M13, c11, h⟩ := z_bi_c h
      refine z_cV (av := [.int (M 138 x2.toNatClampNeg), .int (M 137 x2.toNatClampNeg), .int v9]) (st := [.int (((32 : Int32) * x2) + x3), .ref 139]) lk_X8_359 dX8_tourWithout_52 (A_X8_priceOf_107 (d := d + 0) hl c11) rfl rfl en_107 rfl (Nat.le_of_ble_eq_true rfl) rfl z_len rfl rfl ?_
      obtain ⟨g14, h⟩ := z_ifn h
      refine z_as dX8_tourWithout_55 (by decide) en_139 rfl (z_ib_in g14) ?_
      refine z_ii (ls' := [.ref 107, .int x1, .int x2, .int (x3 + (1 : Int32))]) kc_p1 dX8_tourWithout_56 rfl (by decide) rfl ?_
      refine z_goto (tgt := 12) dX8_tourWithout_59 rfl ?_
      exact ih x1 x2 (x3 + (1 : Int32)) _ _ _ h
theorem A_X8_tourWithout_107_p2 {l : Launch} (hl : l.stackTraces = false) {Ls d : Nat} {Lm : zML} :
    ∀ (n : Nat) (x1 : Int32) (x2 : Int32) (M M' : zMM) (v : Int32) , f_X8_tourWithout_107_p2 n x1 x2 M = some (v, M') → z_AW l mX8_tourWithout (d + 11) 0 0 2 [.ref 107, .int x1, .int x2, .null] [] (z_L0 Ls, M, Lm) (.inl (some (.int v))) (z_L0 Ls, M', Lm) := by
  intro n
  induction n with
  | zero => intro x1 x2 M M' v h; cases h
  | succ n ih =>
    intro x1 x2 M M' v h
    replace h : (  if (M 107 32) ≤ x2 then
    z_bv (f_X8_tourOn_107 8 (0 : Int32) x1 (z_up M 107 52 (-1 : Int32))) fun M4 =>
    some ((M4 107 52), M4)
  else
    f_X8_tourWithout_107_p12 (f_X8_tourWithout_107_p2 n) z_fuel x1 x2 (0 : Int32) M) = some (v, M') := h
    refine z_iload_n dX8_tourWithout_2 rfl ?_
    refine z_aload_n dX8_tourWithout_3 rfl ?_
    refine z_gI (v := (M 107 32)) fl_X8_292 dX8_tourWithout_4 en_107 rfl rfl ?_
    refine z_icmp_ge (tgt := 68) dX8_tourWithout_7 rfl (fun g1 => ?_) (fun g1 => ?_)
    · replace h := (if_pos g1).symm.trans h
      refine z_aload_n dX8_tourWithout_68 rfl ?_
      refine z_ic kc_m1 dX8_tourWithout_69 ?_
      refine z_pI fp_X8_375 dX8_tourWithout_70 (by decide) en_107 rfl ?_
      refine z_aload_n dX8_tourWithout_73 rfl ?_
      refine z_ic kc_p0 dX8_tourWithout_74 ?_
      refine z_iload_n dX8_tourWithout_75 rfl ?_
      obtain ⟨M4, c2, h⟩ := z_bv_c h
      refine z_cV (av := [.int (0 : Int32), .int x1]) (st := []) lk_X8_381 dX8_tourWithout_76 (A_X8_tourOn_107 hl 8 (d + 0) (0 : Int32) x1 _ _ c2) rfl rfl en_107 rfl (Nat.le_of_ble_eq_true rfl) rfl z_len rfl rfl ?_
      refine z_aload_n dX8_tourWithout_79 rfl ?_
      refine z_gI (v := (M4 107 52)) fl_X8_375 dX8_tourWithout_80 en_107 rfl rfl ?_
      cases h
      exact z_rI dX8_tourWithout_83 rfl
    · replace h := (if_neg g1).symm.trans h
      refine z_ic kc_p0 dX8_tourWithout_10 ?_
      refine z_istore_n (ls' := [.ref 107, .int x1, .int x2, .int (0 : Int32)]) dX8_tourWithout_11 (by decide) rfl ?_
      exact A_X8_tourWithout_107_p12 hl ih z_fuel x1 x2 (0 : Int32) _ _ _ h
theorem A_X8_tourWithout_107 {l : Launch} (hl : l.stackTraces = false) {Ls d : Nat} {Lm : zML} {x1 : Int32} {M M' : zMM} {v : Int32} (h : f_X8_tourWithout_107 x1 M = some (v, M')) : z_Ct l mX8_tourWithout (d + 11) 0 0 [.ref 107, .int x1] (z_L0 Ls, M, Lm) (.inl (some (.int v))) (z_L0 Ls, M', Lm) := by
  replace h : (  f_X8_tourWithout_107_p2 z_fuel x1 (0 : Int32) M) = some (v, M') := h
  refine z_Ct.of hl (by decide) (Nat.le_of_ble_eq_true rfl) rfl ?_
  show z_AW l mX8_tourWithout (d + 11) 0 0 0 [.ref 107, .int x1, .null, .null] [] (z_L0 Ls, M, Lm) (.inl (some (.int v))) (z_L0 Ls, M', Lm)
  refine z_ic kc_p0 dX8_tourWithout_0 ?_
  refine z_istore_n (ls' := [.ref 107, .int x1, .int (0 : Int32), .null]) dX8_tourWithout_1 (by decide) rfl ?_
  exact A_X8_tourWithout_107_p2 hl z_fuel x1 (0 : Int32) _ _ _ h
/-! X8_spared 107 -/
def f_X8_spared_107_p27 : Nat → Int32 → Int32 → Int32 → Int32 → zMM → Option (Int32 × zMM)
  | 0, _, _, _, _, _ => none
  | n + 1, x1, x2, x3, x4, M =>
  if (M 109 1) ≤ x4 then
    if x1 = 0 then
      some (x2, M)
    else
      some (x3, M)
  else
    z_bi (f_X8_tourWithout_107 x4 M) fun v9 M10 =>
    if v9 = (-1 : Int32) then
      f_X8_spared_107_p27 n x1 x2 x3 (x4 + (1 : Int32)) M10
    else
      if x2 = (-1 : Int32) then
        f_X8_spared_107_p27 n x1 x4 v9 (x4 + (1 : Int32)) M10
      else
        if v9 < x3 then
          f_X8_spared_107_p27 n x1 x4 v9 (x4 + (1 : Int32)) M10
        else
          f_X8_spared_107_p27 n x1 x2 x3 (x4 + (1 : Int32)) M10
def f_X8_spared_107 (x1 : Int32) (M : zMM) : Option (Int32 × zMM) :=
  if x1 < 0 then
    z_bi (f_X8_fail_107 (1 : Int32) (z_up M 107 1 (0 : Int32))) fun v3 M4 =>
    some (v3, M4)
  else
    if x1 ≤ (1 : Int32) then
      f_X8_spared_107_p27 z_fuel x1 (-1 : Int32) (-1 : Int32) (0 : Int32) (z_up M 107 1 (0 : Int32))
    else
      z_bi (f_X8_fail_107 (1 : Int32) (z_up M 107 1 (0 : Int32))) fun v15 M16 =>
      some (v15, M16)
theorem A_X8_spared_107_p27 {l : Launch} (hl : l.stackTraces = false) {Ls d : Nat} {Lm : zML} :
    ∀ (n : Nat) (x1 : Int32) (x2 : Int32) (x3 : Int32) (x4 : Int32) (M M' : zMM) (v : Int32) , f_X8_spared_107_p27 n x1 x2 x3 x4 M = some (v, M') → z_AW l mX8_spared (d + 12) 0 0 27 [.ref 107, .int x1, .int x2, .int x3, .int x4, .null] [] (z_L0 Ls, M, Lm) (.inl (some (.int v))) (z_L0 Ls, M', Lm) := by
  intro n
  induction n with
  | zero => intro x1 x2 x3 x4 M M' v h; cases h
  | succ n ih =>
    intro x1 x2 x3 x4 M M' v h
    replace h : (  if (M 109 1) ≤ x4 then
    if x1 = 0 then
      some (x2, M)
    else
      some (x3, M)
  else
    z_bi (f_X8_tourWithout_107 x4 M) fun v9 M10 =>
    if v9 = (-1 : Int32) then
      f_X8_spared_107_p27 n x1 x2 x3 (x4 + (1 : Int32)) M10
    else
      if x2 = (-1 : Int32) then
        f_X8_spared_107_p27 n x1 x4 v9 (x4 + (1 : Int32)) M10
      else
        if v9 < x3 then
          f_X8_spared_107_p27 n x1 x4 v9 (x4 + (1 : Int32)) M10
        else
          f_X8_spared_107_p27 n x1 x2 x3 (x4 + (1 : Int32)) M10) = some (v, M') := h
    refine z_iload dX8_spared_27 rfl ?_
    refine z_aload_n dX8_spared_29 rfl ?_
    refine z_getR (q := 109) fl_X8_23 dX8_spared_30 en_107 rfl ?_
    refine z_ic kc_p1 dX8_spared_33 ?_
    refine z_al (v := (M 109 1)) dX8_spared_34 en_109 kn_p1 (z_ib_in rfl) rfl ?_
    refine z_icmp_ge (tgt := 78) dX8_spared_35 rfl (fun g6 => ?_) (fun g6 => ?_)
    · replace h := (if_pos g6).symm.trans h
      refine z_iload_n dX8_spared_78 rfl ?_
      refine z_if_ne (tgt := 86) dX8_spared_79 rfl (fun g7 => ?_) (fun g7 => ?_)
      · replace h := (if_pos g7).symm.trans h
        refine z_iload_n dX8_spared_82 rfl ?_
        refine z_goto (tgt := 87) dX8_spared_83 rfl ?_
        cases h
        exact z_rI dX8_spared_87 rfl
      · replace h := (if_neg g7).symm.trans h
        refine z_iload_n dX8_spared_86 rfl ?_
        cases h
        exact z_rI dX8_spared_87 rfl
    · replace h := (if_neg g6).symm.trans h
      refine z_aload_n dX8_spared_38 rfl ?_
      refine z_iload dX8_spared_39 rfl ?_
      obtain ⟨v9, M10, c8, h⟩ := z_bi_c h
      refine z_cV (av := [.int x4]) (st := []) lk_X8_385 dX8_spared_41 (A_X8_tourWithout_107 (d := d + 0) hl c8) rfl rfl en_107 rfl (Nat.le_of_ble_eq_true rfl) rfl z_len rfl rfl ?_
      refine z_istore (ls' := [.ref 107, .int x1, .int x2, .int x3, .int x4, .int v9]) dX8_spared_44 (by decide) rfl ?_
      refine z_iload dX8_spared_46 rfl ?_
      refine z_ic kc_m1 dX8_spared_48 ?_
      refine z_icmp_eq (tgt := 72) dX8_spared_49 rfl (fun g11 => ?_) (fun g11 => ?_)
      · replace h := (if_pos g11).symm.trans h
        refine z_ii (ls' := [.ref 107, .int x1, .int x2, .int x3, .int (x4 + (1 : Int32)), .int v9]) kc_p1 dX8_spared_72 rfl (by decide) rfl ?_
        refine z_goto (tgt := 27) dX8_spared_75 rfl ?_
        refine z_fg (ls' := [.ref 107, .int x1, .int x2, .int x3, .int (x4 + (1 : Int32)), .null]) ⟨Or.inr rfl, Or.inr rfl, Or.inr rfl, Or.inr rfl, Or.inr rfl, Or.inl rfl, trivial⟩ ?_
        exact ih x1 x2 x3 (x4 + (1 : Int32)) _ _ _ h
      · replace h := (if_neg g11).symm.trans h
        refine z_iload_n dX8_spared_52 rfl ?_
        refine z_ic kc_m1 dX8_spared_53 ?_
        refine z_icmp_eq (tgt := 66) dX8_spared_54 rfl (fun g12 => ?_) (fun g12 => ?_)
        · replace h := (if_pos g12).symm.trans h
          refine z_iload dX8_spared_66 rfl ?_
          refine z_istore_n (ls' := [.ref 107, .int x1, .int x4, .int x3, .int x4, .int v9]) dX8_spared_68 (by decide) rfl ?_
          refine z_iload dX8_spared_69 rfl ?_
          refine z_istore_n (ls' := [.ref 107, .int x1, .int x4, .int v9, .int x4, .int v9]) dX8_spared_71 (by decide) rfl ?_
          refine z_ii (ls' := [.ref 107, .int x1, .int x4, .int v9, .int (x4 + (1 : Int32)), .int v9]) kc_p1 dX8_spared_72 rfl (by decide) rfl ?_
          refine z_goto (tgt := 27) dX8_spared_75 rfl ?_
          refine z_fg (ls' := [.ref 107, .int x1, .int x4, .int v9, .int (x4 + (1 : Int32)), .null]) ⟨Or.inr rfl, Or.inr rfl, Or.inr rfl, Or.inr rfl, Or.inr rfl, Or.inl rfl, trivial⟩ ?_
          exact ih x1 x4 v9 (x4 + (1 : Int32)) _ _ _ h
        · replace h := (if_neg g12).symm.trans h
          refine z_iload dX8_spared_57 rfl ?_
          refine z_iload_n dX8_spared_59 rfl ?_
          refine z_icmp_lt (tgt := 66) dX8_spared_60 rfl (fun g13 => ?_) (fun g13 => ?_)
          · replace h := (if_pos g13).symm.trans h
            refine z_iload dX8_spared_66 rfl ?_
            refine z_istore_n (ls' := [.ref 107, .int x1, .int x4, .int x3, .int x4, .int v9]) dX8_spared_68 (by decide) rfl ?_
            refine z_iload dX8_spared_69 rfl ?_
            refine z_istore_n (ls' := [.ref 107, .int x1, .int x4, .int v9, .int x4, .int v9]) dX8_spared_71 (by decide) rfl ?_
            refine z_ii (ls' := [.ref 107, .int x1, .int x4, .int v9, .int (x4 + (1 : Int32)), .int v9]) kc_p1 dX8_spared_72 rfl (by decide) rfl ?_
            refine z_goto (tgt := 27) dX8_spared_75 rfl ?_
            refine z_fg (ls' := [.ref 107, .int x1, .int x4, .int v9, .int (x4 + (1 : Int32)), .null]) ⟨Or.inr rfl, Or.inr rfl, Or.inr rfl, Or.inr rfl, Or.inr rfl, Or.inl rfl, trivial⟩ ?_
            exact ih x1 x4 v9 (x4 + (1 : Int32)) _ _ _ h
          · replace h := (if_neg g13).symm.trans h
            refine z_goto (tgt := 72) dX8_spared_63 rfl ?_
            refine z_ii (ls' := [.ref 107, .int x1, .int x2, .int x3, .int (x4 + (1 : Int32)), .int v9]) kc_p1 dX8_spared_72 rfl (by decide) rfl ?_
            refine z_goto (tgt := 27) dX8_spared_75 rfl ?_
            refine z_fg (ls' := [.ref 107, .int x1, .int x2, .int x3, .int (x4 + (1 : Int32)), .null]) ⟨Or.inr rfl, Or.inr rfl, Or.inr rfl, Or.inr rfl, Or.inr rfl, Or.inl rfl, trivial⟩ ?_
            exact ih x1 x2 x3 (x4 + (1 : Int32)) _ _ _ h
theorem A_X8_spared_107 {l : Launch} (hl : l.stackTraces = false) {Ls d : Nat} {Lm : zML} {x1 : Int32} {M M' : zMM} {v : Int32} (h : f_X8_spared_107 x1 M = some (v, M')) : z_Ct l mX8_spared (d + 12) 0 0 [.ref 107, .int x1] (z_L0 Ls, M, Lm) (.inl (some (.int v))) (z_L0 Ls, M', Lm) := by
  replace h : (  if x1 < 0 then
    z_bi (f_X8_fail_107 (1 : Int32) (z_up M 107 1 (0 : Int32))) fun v3 M4 =>
    some (v3, M4)
  else
    if x1 ≤ (1 : Int32) then
      f_X8_spared_107_p27 z_fuel x1 (-1 : Int32) (-1 : Int32) (0 : Int32) (z_up M 107 1 (0 : Int32))
    else
      z_bi (f_X8_fail_107 (1 : Int32) (z_up M 107 1 (0 : Int32))) fun v15 M16 =>
      some (v15, M16)) = some (v, M') := h
  refine z_Ct.of hl (by decide) (Nat.le_of_ble_eq_true rfl) rfl ?_
  show z_AW l mX8_spared (d + 12) 0 0 0 [.ref 107, .int x1, .null, .null, .null, .null] [] (z_L0 Ls, M, Lm) (.inl (some (.int v))) (z_L0 Ls, M', Lm)
  refine z_aload_n dX8_spared_0 rfl ?_
  refine z_ic kc_p0 dX8_spared_1 ?_
  refine z_pI fp_X8_149 dX8_spared_2 (by decide) en_107 rfl ?_
  refine z_iload_n dX8_spared_5 rfl ?_
  refine z_if_lt (tgt := 14) dX8_spared_6 rfl (fun g1 => ?_) (fun g1 => ?_)
  · replace h := (if_pos g1).symm.trans h
    refine z_aload_n dX8_spared_14 rfl ?_
    refine z_ic kc_p1 dX8_spared_15 ?_
    obtain ⟨v3, M4, c2, h⟩ := z_bi_c h
    refine z_cV (av := [.int (1 : Int32)]) (st := []) lk_X8_268 dX8_spared_16 (A_X8_fail_107 (d := d + 11) hl c2) rfl rfl en_107 rfl (Nat.le_of_ble_eq_true rfl) rfl z_len rfl rfl ?_
    cases h
    exact z_rI dX8_spared_19 rfl
  · replace h := (if_neg g1).symm.trans h
    refine z_iload_n dX8_spared_9 rfl ?_
    refine z_ic kc_p1 dX8_spared_10 ?_
    refine z_icmp_le (tgt := 20) dX8_spared_11 rfl (fun g5 => ?_) (fun g5 => ?_)
    · replace h := (if_pos g5).symm.trans h
      refine z_ic kc_m1 dX8_spared_20 ?_
      refine z_istore_n (ls' := [.ref 107, .int x1, .int (-1 : Int32), .null, .null, .null]) dX8_spared_21 (by decide) rfl ?_
      refine z_ic kc_m1 dX8_spared_22 ?_
      refine z_istore_n (ls' := [.ref 107, .int x1, .int (-1 : Int32), .int (-1 : Int32), .null, .null]) dX8_spared_23 (by decide) rfl ?_
      refine z_ic kc_p0 dX8_spared_24 ?_
      refine z_istore (ls' := [.ref 107, .int x1, .int (-1 : Int32), .int (-1 : Int32), .int (0 : Int32), .null]) dX8_spared_25 (by decide) rfl ?_
      exact A_X8_spared_107_p27 hl z_fuel x1 (-1 : Int32) (-1 : Int32) (0 : Int32) _ _ _ h
    · replace h := (if_neg g5).symm.trans h
      refine z_aload_n dX8_spared_14 rfl ?_
      refine z_ic kc_p1 dX8_spared_15 ?_
      obtain ⟨v15, M16, c14, h⟩ := z_bi_c h
      refine z_cV (av := [.int (1 : Int32)]) (st := []) lk_X8_268 dX8_spared_16 (A_X8_fail_107 (d := d + 11) hl c14) rfl rfl en_107 rfl (Nat.le_of_ble_eq_true rfl) rfl z_len rfl rfl ?_
      cases h
      exact z_rI dX8_spared_19 rfl
/-! X8_thrown 107 -/
def f_X8_thrown_107  (M : zMM) : Option (Int32 × zMM) :=
  some ((M 107 1), M)
theorem A_X8_thrown_107 {l : Launch} (hl : l.stackTraces = false) {Ls d : Nat} {Lm : zML}  {M M' : zMM} {v : Int32} (h : f_X8_thrown_107  M = some (v, M')) : z_Ct l mX8_thrown (d + 0) 0 0 [.ref 107] (z_L0 Ls, M, Lm) (.inl (some (.int v))) (z_L0 Ls, M', Lm) := by
  replace h : (  some ((M 107 1), M)) = some (v, M') := h
  refine z_Ct.of hl (by decide) (Nat.le_of_ble_eq_true rfl) rfl ?_
  show z_AW l mX8_thrown (d + 0) 0 0 0 [.ref 107] [] (z_L0 Ls, M, Lm) (.inl (some (.int v))) (z_L0 Ls, M', Lm)
  refine z_aload_n dX8_thrown_0 rfl ?_
  refine z_gI (v := (M 107 1)) fl_X8_149 dX8_thrown_1 en_107 rfl rfl ?_
  cases h
  exact z_rI dX8_thrown_4 rfl
/-! X8_byteAt 107 -/
def f_X8_byteAt_107 (x1 : Int32) (M : zMM) : Option (Int32 × zMM) :=
  if (M 107 19) ≤ x1 then
    some ((-1 : Int32), M)
  else
    if z_ib x1 700 = true then
      some ((M 123 x1.toNatClampNeg), M)
    else none
theorem A_X8_byteAt_107 {l : Launch} (hl : l.stackTraces = false) {Ls d : Nat} {Lm : zML} {x1 : Int32} {M M' : zMM} {v : Int32} (h : f_X8_byteAt_107 x1 M = some (v, M')) : z_Ct l mX8_byteAt (d + 0) 0 0 [.ref 107, .int x1] (z_L0 Ls, M, Lm) (.inl (some (.int v))) (z_L0 Ls, M', Lm) := by
  replace h : (  if (M 107 19) ≤ x1 then
    some ((-1 : Int32), M)
  else
    if z_ib x1 700 = true then
      some ((M 123 x1.toNatClampNeg), M)
    else none) = some (v, M') := h
  refine z_Ct.of hl (by decide) (Nat.le_of_ble_eq_true rfl) rfl ?_
  show z_AW l mX8_byteAt (d + 0) 0 0 0 [.ref 107, .int x1] [] (z_L0 Ls, M, Lm) (.inl (some (.int v))) (z_L0 Ls, M', Lm)
  refine z_iload_n dX8_byteAt_0 rfl ?_
  refine z_aload_n dX8_byteAt_1 rfl ?_
  refine z_gI (v := (M 107 19)) fl_X8_159 dX8_byteAt_2 en_107 rfl rfl ?_
  refine z_icmp_ge (tgt := 17) dX8_byteAt_5 rfl (fun g1 => ?_) (fun g1 => ?_)
  · replace h := (if_pos g1).symm.trans h
    refine z_ic kc_m1 dX8_byteAt_17 ?_
    cases h
    exact z_rI dX8_byteAt_18 rfl
  · replace h := (if_neg g1).symm.trans h
    refine z_aload_n dX8_byteAt_8 rfl ?_
    refine z_getR (q := 123) fl_X8_66 dX8_byteAt_9 en_107 rfl ?_
    refine z_iload_n dX8_byteAt_12 rfl ?_
    obtain ⟨g2, h⟩ := z_ifn h
    refine z_al (v := (M 123 x1.toNatClampNeg)) dX8_byteAt_13 en_123 rfl (z_ib_in g2) rfl ?_
    refine z_goto (tgt := 18) dX8_byteAt_14 rfl ?_
    cases h
    exact z_rI dX8_byteAt_18 rfl
/-! X8_isLetter  -/
def f_X8_isLetter (x0 : Int32) (M : zMM) : Option (Int32 × zMM) :=
  if x0 < (97 : Int32) then
    some ((0 : Int32), M)
  else
    if (122 : Int32) < x0 then
      some ((0 : Int32), M)
    else
      some ((1 : Int32), M)
theorem A_X8_isLetter {l : Launch} (hl : l.stackTraces = false) {Ls d : Nat} {Lm : zML} {x0 : Int32} {M M' : zMM} {v : Int32} (h : f_X8_isLetter x0 M = some (v, M')) : z_Ct l mX8_isLetter (d + 0) 0 0 [.int x0] (z_L0 Ls, M, Lm) (.inl (some (.int v))) (z_L0 Ls, M', Lm) := by
  replace h : (  if x0 < (97 : Int32) then
    some ((0 : Int32), M)
  else
    if (122 : Int32) < x0 then
      some ((0 : Int32), M)
    else
      some ((1 : Int32), M)) = some (v, M') := h
  refine z_Ct.of hl (by decide) (Nat.le_of_ble_eq_true rfl) rfl ?_
  show z_AW l mX8_isLetter (d + 0) 0 0 0 [.int x0] [] (z_L0 Ls, M, Lm) (.inl (some (.int v))) (z_L0 Ls, M', Lm)
  refine z_iload_n dX8_isLetter_0 rfl ?_
  refine z_bp kb_p97 dX8_isLetter_1 ?_
  refine z_icmp_lt (tgt := 16) dX8_isLetter_3 rfl (fun g1 => ?_) (fun g1 => ?_)
  · replace h := (if_pos g1).symm.trans h
    refine z_ic kc_p0 dX8_isLetter_16 ?_
    cases h
    exact z_rZ dX8_isLetter_17 rfl rfl
  · replace h := (if_neg g1).symm.trans h
    refine z_iload_n dX8_isLetter_6 rfl ?_
    refine z_bp kb_p122 dX8_isLetter_7 ?_
    refine z_icmp_gt (tgt := 16) dX8_isLetter_9 rfl (fun g2 => ?_) (fun g2 => ?_)
    · replace h := (if_pos g2).symm.trans h
      refine z_ic kc_p0 dX8_isLetter_16 ?_
      cases h
      exact z_rZ dX8_isLetter_17 rfl rfl
    · replace h := (if_neg g2).symm.trans h
      refine z_ic kc_p1 dX8_isLetter_12 ?_
      refine z_goto (tgt := 17) dX8_isLetter_13 rfl ?_
      cases h
      exact z_rZ dX8_isLetter_17 rfl rfl
/-! X8_isDigit  -/
def f_X8_isDigit (x0 : Int32) (M : zMM) : Option (Int32 × zMM) :=
  if x0 < (48 : Int32) then
    some ((0 : Int32), M)
  else
    if (57 : Int32) < x0 then
      some ((0 : Int32), M)
    else
      some ((1 : Int32), M)
theorem A_X8_isDigit {l : Launch} (hl : l.stackTraces = false) {Ls d : Nat} {Lm : zML} {x0 : Int32} {M M' : zMM} {v : Int32} (h : f_X8_isDigit x0 M = some (v, M')) : z_Ct l mX8_isDigit (d + 0) 0 0 [.int x0] (z_L0 Ls, M, Lm) (.inl (some (.int v))) (z_L0 Ls, M', Lm) := by
  replace h : (  if x0 < (48 : Int32) then
    some ((0 : Int32), M)
  else
    if (57 : Int32) < x0 then
      some ((0 : Int32), M)
    else
      some ((1 : Int32), M)) = some (v, M') := h
  refine z_Ct.of hl (by decide) (Nat.le_of_ble_eq_true rfl) rfl ?_
  show z_AW l mX8_isDigit (d + 0) 0 0 0 [.int x0] [] (z_L0 Ls, M, Lm) (.inl (some (.int v))) (z_L0 Ls, M', Lm)
  refine z_iload_n dX8_isDigit_0 rfl ?_
  refine z_bp kb_p48 dX8_isDigit_1 ?_
  refine z_icmp_lt (tgt := 16) dX8_isDigit_3 rfl (fun g1 => ?_) (fun g1 => ?_)
  · replace h := (if_pos g1).symm.trans h
    refine z_ic kc_p0 dX8_isDigit_16 ?_
    cases h
    exact z_rZ dX8_isDigit_17 rfl rfl
  · replace h := (if_neg g1).symm.trans h
    refine z_iload_n dX8_isDigit_6 rfl ?_
    refine z_bp kb_p57 dX8_isDigit_7 ?_
    refine z_icmp_gt (tgt := 16) dX8_isDigit_9 rfl (fun g2 => ?_) (fun g2 => ?_)
    · replace h := (if_pos g2).symm.trans h
      refine z_ic kc_p0 dX8_isDigit_16 ?_
      cases h
      exact z_rZ dX8_isDigit_17 rfl rfl
    · replace h := (if_neg g2).symm.trans h
      refine z_ic kc_p1 dX8_isDigit_12 ?_
      refine z_goto (tgt := 17) dX8_isDigit_13 rfl ?_
      cases h
      exact z_rZ dX8_isDigit_17 rfl rfl
/-! X8_stepOn 107 -/
def f_X8_stepOn_107_p123 : Nat → zMM → Option zMM
  | 0, _ => none
  | n + 1, M =>
  z_bi (f_X8_byteAt_107 (M 107 18) M) fun v23 M24 =>
  z_bi (f_X8_isDigit v23 M24) fun v26 M27 =>
  if v26 = 0 then
    some (z_up (z_up M27 107 20 (2 : Int32)) 107 23 (M27 107 18))
  else
    z_bi (f_X8_byteAt_107 (M27 107 18) M27) fun v30 M31 =>
    f_X8_stepOn_107_p123 n  (z_up (z_up M31 107 21 (z_min (100000 : Int32) ((((10 : Int32) * (M27 107 21)) + v30) - (48 : Int32)))) 107 18 ((M31 107 18) + (1 : Int32)))
def f_X8_stepOn_107_p76 : Nat → zMM → Option zMM
  | 0, _ => none
  | n + 1, M =>
  z_bi (f_X8_byteAt_107 (M 107 18) M) fun v33 M34 =>
  z_bi (f_X8_isLetter v33 M34) fun v36 M37 =>
  if v36 = 0 then
    some (z_up (z_up M37 107 20 (1 : Int32)) 107 23 (M37 107 18))
  else
    f_X8_stepOn_107_p76 n  (z_up M37 107 18 ((M37 107 18) + (1 : Int32)))
def f_X8_stepOn_107_p0 : Nat → zMM → Option zMM
  | 0, _ => none
  | n + 1, M =>
  z_bi (f_X8_byteAt_107 (M 107 18) M) fun v2 M3 =>
  if v2 = (32 : Int32) then
    f_X8_stepOn_107_p0 n  (z_up M3 107 18 ((M3 107 18) + (1 : Int32)))
  else
    z_bi (f_X8_byteAt_107 (M3 107 18) M3) fun v6 M7 =>
    if v6 = (10 : Int32) then
      f_X8_stepOn_107_p0 n  (z_up M7 107 18 ((M7 107 18) + (1 : Int32)))
    else
      z_bi (f_X8_byteAt_107 (M7 107 18) (z_up M7 107 22 (M7 107 18))) fun v10 M11 =>
      if v10 = (-1 : Int32) then
        some (z_up (z_up M11 107 20 (0 : Int32)) 107 23 (M11 107 18))
      else
        z_bi (f_X8_isLetter v10 M11) fun v14 M15 =>
        if v14 = 0 then
          z_bi (f_X8_isDigit v10 M15) fun v18 M19 =>
          if v18 = 0 then
            if v10 = (59 : Int32) then
              some (z_up (z_up (z_up M19 107 18 ((M19 107 18) + (1 : Int32))) 107 20 (3 : Int32)) 107 23 ((M19 107 18) + (1 : Int32)))
            else
              some (z_up (z_up (z_up M19 107 18 ((M19 107 18) + (1 : Int32))) 107 20 (4 : Int32)) 107 23 ((M19 107 18) + (1 : Int32)))
          else
            f_X8_stepOn_107_p123 z_fuel  (z_up M19 107 21 (0 : Int32))
        else
          f_X8_stepOn_107_p76 z_fuel  M15
def f_X8_stepOn_107  (M : zMM) : Option zMM :=
  f_X8_stepOn_107_p0 z_fuel  M
theorem A_X8_stepOn_107_p123 {l : Launch} (hl : l.stackTraces = false) {Ls d : Nat} {Lm : zML} :
    ∀ (n : Nat) (M M' : zMM) , f_X8_stepOn_107_p123 n  M = some M' → z_AW l mX8_stepOn (d + 1) 0 0 123 [.ref 107, .null] [] (z_L0 Ls, M, Lm) (.inl none) (z_L0 Ls, M', Lm) := by
  intro n
  induction n with
  | zero => intro  M M' h; cases h
  | succ n ih =>
    intro  M M' h
    replace h : (  z_bi (f_X8_byteAt_107 (M 107 18) M) fun v23 M24 =>
  z_bi (f_X8_isDigit v23 M24) fun v26 M27 =>
  if v26 = 0 then
    some (z_up (z_up M27 107 20 (2 : Int32)) 107 23 (M27 107 18))
  else
    z_bi (f_X8_byteAt_107 (M27 107 18) M27) fun v30 M31 =>
    f_X8_stepOn_107_p123 n  (z_up (z_up M31 107 21 (z_min (100000 : Int32) ((((10 : Int32) * (M27 107 21)) + v30) - (48 : Int32)))) 107 18 ((M31 107 18) + (1 : Int32)))) = some M' := h
    refine z_aload_n dX8_stepOn_123 rfl ?_
    refine z_aload_n dX8_stepOn_124 rfl ?_
    refine z_gI (v := (M 107 18)) fl_X8_162 dX8_stepOn_125 en_107 rfl rfl ?_
    obtain ⟨v23, M24, c22, h⟩ := z_bi_c h
    refine z_cV (av := [.int (M 107 18)]) (st := []) lk_X8_165 dX8_stepOn_128 (A_X8_byteAt_107 (d := d + 0) hl c22) rfl rfl en_107 rfl (Nat.le_of_ble_eq_true rfl) rfl z_len rfl rfl ?_
    obtain ⟨v26, M27, c25, h⟩ := z_bi_c h
    refine z_cS (av := [.int v23]) (st := []) lk_X8_179 dX8_stepOn_131 (A_X8_isDigit (d := d + 0) hl c25) rfl rfl (Nat.le_of_ble_eq_true rfl) rfl z_len rfl rfl ?_
    refine z_if_eq (tgt := 178) dX8_stepOn_134 rfl (fun g28 => ?_) (fun g28 => ?_)
    · replace h := (if_pos g28).symm.trans h
      refine z_aload_n dX8_stepOn_178 rfl ?_
      refine z_ic kc_p2 dX8_stepOn_179 ?_
      refine z_pI fp_X8_172 dX8_stepOn_180 (by decide) en_107 rfl ?_
      refine z_goto (tgt := 211) dX8_stepOn_183 rfl ?_
      refine z_aload_n dX8_stepOn_211 rfl ?_
      refine z_aload_n dX8_stepOn_212 rfl ?_
      refine z_gI (v := (M27 107 18)) fl_X8_162 dX8_stepOn_213 en_107 rfl rfl ?_
      refine z_pI fp_X8_192 dX8_stepOn_216 (by decide) en_107 rfl ?_
      cases h
      exact z_return dX8_stepOn_219 rfl
    · replace h := (if_neg g28).symm.trans h
      refine z_aload_n dX8_stepOn_137 rfl ?_
      refine z_ldc (v := (100000 : Int32)) kc_X8_185 dX8_stepOn_138 ?_
      refine z_bp kb_p10 dX8_stepOn_140 ?_
      refine z_aload_n dX8_stepOn_142 rfl ?_
      refine z_gI (v := (M27 107 21)) fl_X8_182 dX8_stepOn_143 en_107 rfl rfl ?_
      refine z_imul dX8_stepOn_146 ?_
      refine z_aload_n dX8_stepOn_147 rfl ?_
      refine z_aload_n dX8_stepOn_148 rfl ?_
      refine z_gI (v := (M27 107 18)) fl_X8_162 dX8_stepOn_149 en_107 rfl rfl ?_
      obtain ⟨v30, M31, c29, h⟩ := z_bi_c h
      refine z_cV (av := [.int (M27 107 18)]) (st := [.int ((10 : Int32) * (M27 107 21)), .int (100000 : Int32), .ref 107]) lk_X8_165 dX8_stepOn_152 (A_X8_byteAt_107 (d := d + 0) hl c29) rfl rfl en_107 rfl (Nat.le_of_ble_eq_true rfl) rfl z_len rfl rfl ?_
      refine z_iadd dX8_stepOn_155 ?_
      refine z_bp kb_p48 dX8_stepOn_156 ?_
      refine z_isub dX8_stepOn_158 ?_
      refine z_mmin lk_X8_186 dX8_stepOn_159 (Nat.le_of_ble_eq_true rfl) (by omega) ?_
      refine z_pI fp_X8_182 dX8_stepOn_162 (by decide) en_107 rfl ?_
      refine z_aload_n dX8_stepOn_165 rfl ?_
      refine z_dup dX8_stepOn_166 rfl ?_
      refine z_gI (v := (M31 107 18)) fl_X8_162 dX8_stepOn_167 en_107 rfl rfl ?_
      refine z_ic kc_p1 dX8_stepOn_170 ?_
      refine z_iadd dX8_stepOn_171 ?_
      refine z_pI fp_X8_162 dX8_stepOn_172 (by decide) en_107 rfl ?_
      refine z_goto (tgt := 123) dX8_stepOn_175 rfl ?_
      exact ih  _ _ h
theorem A_X8_stepOn_107_p76 {l : Launch} (hl : l.stackTraces = false) {Ls d : Nat} {Lm : zML} :
    ∀ (n : Nat) (M M' : zMM) , f_X8_stepOn_107_p76 n  M = some M' → z_AW l mX8_stepOn (d + 1) 0 0 76 [.ref 107, .null] [] (z_L0 Ls, M, Lm) (.inl none) (z_L0 Ls, M', Lm) := by
  intro n
  induction n with
  | zero => intro  M M' h; cases h
  | succ n ih =>
    intro  M M' h
    replace h : (  z_bi (f_X8_byteAt_107 (M 107 18) M) fun v33 M34 =>
  z_bi (f_X8_isLetter v33 M34) fun v36 M37 =>
  if v36 = 0 then
    some (z_up (z_up M37 107 20 (1 : Int32)) 107 23 (M37 107 18))
  else
    f_X8_stepOn_107_p76 n  (z_up M37 107 18 ((M37 107 18) + (1 : Int32)))) = some M' := h
    refine z_aload_n dX8_stepOn_76 rfl ?_
    refine z_aload_n dX8_stepOn_77 rfl ?_
    refine z_gI (v := (M 107 18)) fl_X8_162 dX8_stepOn_78 en_107 rfl rfl ?_
    obtain ⟨v33, M34, c32, h⟩ := z_bi_c h
    refine z_cV (av := [.int (M 107 18)]) (st := []) lk_X8_165 dX8_stepOn_81 (A_X8_byteAt_107 (d := d + 0) hl c32) rfl rfl en_107 rfl (Nat.le_of_ble_eq_true rfl) rfl z_len rfl rfl ?_
    obtain ⟨v36, M37, c35, h⟩ := z_bi_c h
    refine z_cS (av := [.int v33]) (st := []) lk_X8_175 dX8_stepOn_84 (A_X8_isLetter (d := d + 0) hl c35) rfl rfl (Nat.le_of_ble_eq_true rfl) rfl z_len rfl rfl ?_
    refine z_if_eq (tgt := 103) dX8_stepOn_87 rfl (fun g38 => ?_) (fun g38 => ?_)
    · replace h := (if_pos g38).symm.trans h
      refine z_aload_n dX8_stepOn_103 rfl ?_
      refine z_ic kc_p1 dX8_stepOn_104 ?_
      refine z_pI fp_X8_172 dX8_stepOn_105 (by decide) en_107 rfl ?_
      refine z_goto (tgt := 211) dX8_stepOn_108 rfl ?_
      refine z_aload_n dX8_stepOn_211 rfl ?_
      refine z_aload_n dX8_stepOn_212 rfl ?_
      refine z_gI (v := (M37 107 18)) fl_X8_162 dX8_stepOn_213 en_107 rfl rfl ?_
      refine z_pI fp_X8_192 dX8_stepOn_216 (by decide) en_107 rfl ?_
      cases h
      exact z_return dX8_stepOn_219 rfl
    · replace h := (if_neg g38).symm.trans h
      refine z_aload_n dX8_stepOn_90 rfl ?_
      refine z_dup dX8_stepOn_91 rfl ?_
      refine z_gI (v := (M37 107 18)) fl_X8_162 dX8_stepOn_92 en_107 rfl rfl ?_
      refine z_ic kc_p1 dX8_stepOn_95 ?_
      refine z_iadd dX8_stepOn_96 ?_
      refine z_pI fp_X8_162 dX8_stepOn_97 (by decide) en_107 rfl ?_
      refine z_goto (tgt := 76) dX8_stepOn_100 rfl ?_
      exact ih  _ _ h
theorem A_X8_stepOn_107_p0 {l : Launch} (hl : l.stackTraces = false) {Ls d : Nat} {Lm : zML} :
    ∀ (n : Nat) (M M' : zMM) , f_X8_stepOn_107_p0 n  M = some M' → z_AW l mX8_stepOn (d + 1) 0 0 0 [.ref 107, .null] [] (z_L0 Ls, M, Lm) (.inl none) (z_L0 Ls, M', Lm) := by
  intro n
  induction n with
  | zero => intro  M M' h; cases h
  | succ n ih =>
    intro  M M' h
    replace h : (  z_bi (f_X8_byteAt_107 (M 107 18) M) fun v2 M3 =>
  if v2 = (32 : Int32) then
    f_X8_stepOn_107_p0 n  (z_up M3 107 18 ((M3 107 18) + (1 : Int32)))
  else
    z_bi (f_X8_byteAt_107 (M3 107 18) M3) fun v6 M7 =>
    if v6 = (10 : Int32) then
      f_X8_stepOn_107_p0 n  (z_up M7 107 18 ((M7 107 18) + (1 : Int32)))
    else
      z_bi (f_X8_byteAt_107 (M7 107 18) (z_up M7 107 22 (M7 107 18))) fun v10 M11 =>
      if v10 = (-1 : Int32) then
        some (z_up (z_up M11 107 20 (0 : Int32)) 107 23 (M11 107 18))
      else
        z_bi (f_X8_isLetter v10 M11) fun v14 M15 =>
        if v14 = 0 then
          z_bi (f_X8_isDigit v10 M15) fun v18 M19 =>
          if v18 = 0 then
            if v10 = (59 : Int32) then
              some (z_up (z_up (z_up M19 107 18 ((M19 107 18) + (1 : Int32))) 107 20 (3 : Int32)) 107 23 ((M19 107 18) + (1 : Int32)))
            else
              some (z_up (z_up (z_up M19 107 18 ((M19 107 18) + (1 : Int32))) 107 20 (4 : Int32)) 107 23 ((M19 107 18) + (1 : Int32)))
          else
            f_X8_stepOn_107_p123 z_fuel  (z_up M19 107 21 (0 : Int32))
        else
          f_X8_stepOn_107_p76 z_fuel  M15) = some M' := h
    refine z_aload_n dX8_stepOn_0 rfl ?_
    refine z_aload_n dX8_stepOn_1 rfl ?_
    refine z_gI (v := (M 107 18)) fl_X8_162 dX8_stepOn_2 en_107 rfl rfl ?_
    obtain ⟨v2, M3, c1, h⟩ := z_bi_c h
    refine z_cV (av := [.int (M 107 18)]) (st := []) lk_X8_165 dX8_stepOn_5 (A_X8_byteAt_107 (d := d + 0) hl c1) rfl rfl en_107 rfl (Nat.le_of_ble_eq_true rfl) rfl z_len rfl rfl ?_
    refine z_bp kb_p32 dX8_stepOn_8 ?_
    refine z_icmp_eq (tgt := 26) dX8_stepOn_10 rfl (fun g4 => ?_) (fun g4 => ?_)
    · replace h := (if_pos g4).symm.trans h
      refine z_aload_n dX8_stepOn_26 rfl ?_
      refine z_dup dX8_stepOn_27 rfl ?_
      refine z_gI (v := (M3 107 18)) fl_X8_162 dX8_stepOn_28 en_107 rfl rfl ?_
      refine z_ic kc_p1 dX8_stepOn_31 ?_
      refine z_iadd dX8_stepOn_32 ?_
      refine z_pI fp_X8_162 dX8_stepOn_33 (by decide) en_107 rfl ?_
      refine z_goto (tgt := 0) dX8_stepOn_36 rfl ?_
      exact ih  _ _ h
    · replace h := (if_neg g4).symm.trans h
      refine z_aload_n dX8_stepOn_13 rfl ?_
      refine z_aload_n dX8_stepOn_14 rfl ?_
      refine z_gI (v := (M3 107 18)) fl_X8_162 dX8_stepOn_15 en_107 rfl rfl ?_
      obtain ⟨v6, M7, c5, h⟩ := z_bi_c h
      refine z_cV (av := [.int (M3 107 18)]) (st := []) lk_X8_165 dX8_stepOn_18 (A_X8_byteAt_107 (d := d + 0) hl c5) rfl rfl en_107 rfl (Nat.le_of_ble_eq_true rfl) rfl z_len rfl rfl ?_
      refine z_bp kb_p10 dX8_stepOn_21 ?_
      refine z_icmp_ne (tgt := 39) dX8_stepOn_23 rfl (fun g8 => ?_) (fun g8 => ?_)
      · replace h := (if_pos g8).symm.trans h
        refine z_aload_n dX8_stepOn_26 rfl ?_
        refine z_dup dX8_stepOn_27 rfl ?_
        refine z_gI (v := (M7 107 18)) fl_X8_162 dX8_stepOn_28 en_107 rfl rfl ?_
        refine z_ic kc_p1 dX8_stepOn_31 ?_
        refine z_iadd dX8_stepOn_32 ?_
        refine z_pI fp_X8_162 dX8_stepOn_33 (by decide) en_107 rfl ?_
        refine z_goto (tgt := 0) dX8_stepOn_36 rfl ?_
        exact ih  _ _ h
      · replace h := (if_neg g8).symm.trans h
        refine z_aload_n dX8_stepOn_39 rfl ?_
        refine z_aload_n dX8_stepOn_40 rfl ?_
        refine z_gI (v := (M7 107 18)) fl_X8_162 dX8_stepOn_41 en_107 rfl rfl ?_
        refine z_pI fp_X8_169 dX8_stepOn_44 (by decide) en_107 rfl ?_
        refine z_aload_n dX8_stepOn_47 rfl ?_
        refine z_aload_n dX8_stepOn_48 rfl ?_
        refine z_gI (v := (M7 107 18)) fl_X8_162 dX8_stepOn_49 en_107 rfl rfl ?_
        obtain ⟨v10, M11, c9, h⟩ := z_bi_c h
        refine z_cV (av := [.int (M7 107 18)]) (st := []) lk_X8_165 dX8_stepOn_52 (A_X8_byteAt_107 (d := d + 0) hl c9) rfl rfl en_107 rfl (Nat.le_of_ble_eq_true rfl) rfl z_len rfl rfl ?_
        refine z_istore_n (ls' := [.ref 107, .int v10]) dX8_stepOn_55 (by decide) rfl ?_
        refine z_iload_n dX8_stepOn_56 rfl ?_
        refine z_ic kc_m1 dX8_stepOn_57 ?_
        refine z_icmp_ne (tgt := 69) dX8_stepOn_58 rfl (fun g12 => ?_) (fun g12 => ?_)
        · replace h := (if_pos g12).symm.trans h
          refine z_aload_n dX8_stepOn_61 rfl ?_
          refine z_ic kc_p0 dX8_stepOn_62 ?_
          refine z_pI fp_X8_172 dX8_stepOn_63 (by decide) en_107 rfl ?_
          refine z_goto (tgt := 211) dX8_stepOn_66 rfl ?_
          refine z_aload_n dX8_stepOn_211 rfl ?_
          refine z_aload_n dX8_stepOn_212 rfl ?_
          refine z_gI (v := (M11 107 18)) fl_X8_162 dX8_stepOn_213 en_107 rfl rfl ?_
          refine z_pI fp_X8_192 dX8_stepOn_216 (by decide) en_107 rfl ?_
          cases h
          exact z_return dX8_stepOn_219 rfl
        · replace h := (if_neg g12).symm.trans h
          refine z_iload_n dX8_stepOn_69 rfl ?_
          obtain ⟨v14, M15, c13, h⟩ := z_bi_c h
          refine z_cS (av := [.int v10]) (st := []) lk_X8_175 dX8_stepOn_70 (A_X8_isLetter (d := d + 0) hl c13) rfl rfl (Nat.le_of_ble_eq_true rfl) rfl z_len rfl rfl ?_
          refine z_if_eq (tgt := 111) dX8_stepOn_73 rfl (fun g16 => ?_) (fun g16 => ?_)
          · replace h := (if_pos g16).symm.trans h
            refine z_iload_n dX8_stepOn_111 rfl ?_
            obtain ⟨v18, M19, c17, h⟩ := z_bi_c h
            refine z_cS (av := [.int v10]) (st := []) lk_X8_179 dX8_stepOn_112 (A_X8_isDigit (d := d + 0) hl c17) rfl rfl (Nat.le_of_ble_eq_true rfl) rfl z_len rfl rfl ?_
            refine z_if_eq (tgt := 186) dX8_stepOn_115 rfl (fun g20 => ?_) (fun g20 => ?_)
            · replace h := (if_pos g20).symm.trans h
              refine z_aload_n dX8_stepOn_186 rfl ?_
              refine z_dup dX8_stepOn_187 rfl ?_
              refine z_gI (v := (M19 107 18)) fl_X8_162 dX8_stepOn_188 en_107 rfl rfl ?_
              refine z_ic kc_p1 dX8_stepOn_191 ?_
              refine z_iadd dX8_stepOn_192 ?_
              refine z_pI fp_X8_162 dX8_stepOn_193 (by decide) en_107 rfl ?_
              refine z_aload_n dX8_stepOn_196 rfl ?_
              refine z_iload_n dX8_stepOn_197 rfl ?_
              refine z_bp kb_p59 dX8_stepOn_198 ?_
              refine z_icmp_ne (tgt := 207) dX8_stepOn_200 rfl (fun g21 => ?_) (fun g21 => ?_)
              · replace h := (if_pos g21).symm.trans h
                refine z_ic kc_p3 dX8_stepOn_203 ?_
                refine z_goto (tgt := 208) dX8_stepOn_204 rfl ?_
                refine z_pI fp_X8_172 dX8_stepOn_208 (by decide) en_107 rfl ?_
                refine z_aload_n dX8_stepOn_211 rfl ?_
                refine z_aload_n dX8_stepOn_212 rfl ?_
                refine z_gI (v := ((M19 107 18) + (1 : Int32))) fl_X8_162 dX8_stepOn_213 en_107 rfl rfl ?_
                refine z_pI fp_X8_192 dX8_stepOn_216 (by decide) en_107 rfl ?_
                cases h
                exact z_return dX8_stepOn_219 rfl
              · replace h := (if_neg g21).symm.trans h
                refine z_ic kc_p4 dX8_stepOn_207 ?_
                refine z_pI fp_X8_172 dX8_stepOn_208 (by decide) en_107 rfl ?_
                refine z_aload_n dX8_stepOn_211 rfl ?_
                refine z_aload_n dX8_stepOn_212 rfl ?_
                refine z_gI (v := ((M19 107 18) + (1 : Int32))) fl_X8_162 dX8_stepOn_213 en_107 rfl rfl ?_
                refine z_pI fp_X8_192 dX8_stepOn_216 (by decide) en_107 rfl ?_
                cases h
                exact z_return dX8_stepOn_219 rfl
            · replace h := (if_neg g20).symm.trans h
              refine z_aload_n dX8_stepOn_118 rfl ?_
              refine z_ic kc_p0 dX8_stepOn_119 ?_
              refine z_pI fp_X8_182 dX8_stepOn_120 (by decide) en_107 rfl ?_
              refine z_fg (ls' := [.ref 107, .null]) ⟨Or.inr rfl, Or.inl rfl, trivial⟩ ?_
              exact A_X8_stepOn_107_p123 hl z_fuel  _ _ h
          · replace h := (if_neg g16).symm.trans h
            refine z_fg (ls' := [.ref 107, .null]) ⟨Or.inr rfl, Or.inl rfl, trivial⟩ ?_
            exact A_X8_stepOn_107_p76 hl z_fuel  _ _ h
theorem A_X8_stepOn_107 {l : Launch} (hl : l.stackTraces = false) {Ls d : Nat} {Lm : zML}  {M M' : zMM} (h : f_X8_stepOn_107  M = some M') : z_Ct l mX8_stepOn (d + 1) 0 0 [.ref 107] (z_L0 Ls, M, Lm) (.inl none) (z_L0 Ls, M', Lm) := by
  replace h : (  f_X8_stepOn_107_p0 z_fuel  M) = some M' := h
  refine z_Ct.of hl (by decide) (Nat.le_of_ble_eq_true rfl) rfl ?_
  show z_AW l mX8_stepOn (d + 1) 0 0 0 [.ref 107, .null] [] (z_L0 Ls, M, Lm) (.inl none) (z_L0 Ls, M', Lm)
  exact A_X8_stepOn_107_p0 hl z_fuel  _ _ h
/-! X8_nextOf 107 -/
def f_X8_nextOf_107_p2 : Nat → Int32 → Int32 → Int32 → zMM → Option (Int32 × zMM)
  | 0, _, _, _, _ => none
  | n + 1, x1, x2, x3, M =>
  if (5 : Int32) ≤ x3 then
    some ((-1 : Int32), M)
  else
    if x1 = x2 then
      some ((-1 : Int32), M)
    else
      if z_ib (((5 : Int32) * x1) + x2) 25 = true then
        if (1000000 : Int32) ≤ (M 126 (((5 : Int32) * x1) + x2).toNatClampNeg) then
          some ((-1 : Int32), M)
        else
          if z_ib (((5 : Int32) * x1) + x3) 50 = true then
            if (M 114 (((5 : Int32) * x1) + x3).toNatClampNeg) ≤ 0 then
              f_X8_nextOf_107_p2 n x1 x2 (x3 + (1 : Int32)) M
            else
              if z_ib (((5 : Int32) * x1) + x3) 50 = true then
                if z_ib (((5 : Int32) * x3) + x2) 25 = true then
                  if z_ib (((5 : Int32) * x1) + x2) 25 = true then
                    if ((M 114 (((5 : Int32) * x1) + x3).toNatClampNeg) + (M 126 (((5 : Int32) * x3) + x2).toNatClampNeg)) = (M 126 (((5 : Int32) * x1) + x2).toNatClampNeg) then
                      some (x3, M)
                    else
                      f_X8_nextOf_107_p2 n x1 x2 (x3 + (1 : Int32)) M
                  else none
                else none
              else none
          else none
      else none
def f_X8_nextOf_107 (x1 : Int32) (x2 : Int32) (M : zMM) : Option (Int32 × zMM) :=
  f_X8_nextOf_107_p2 z_fuel x1 x2 (0 : Int32) M
theorem A_X8_nextOf_107_p2 {l : Launch} (hl : l.stackTraces = false) {Ls d : Nat} {Lm : zML} :
    ∀ (n : Nat) (x1 : Int32) (x2 : Int32) (x3 : Int32) (M M' : zMM) (v : Int32) , f_X8_nextOf_107_p2 n x1 x2 x3 M = some (v, M') → z_AW l mX8_nextOf (d + 0) 0 0 2 [.ref 107, .int x1, .int x2, .int x3] [] (z_L0 Ls, M, Lm) (.inl (some (.int v))) (z_L0 Ls, M', Lm) := by
  intro n
  induction n with
  | zero => intro x1 x2 x3 M M' v h; cases h
  | succ n ih =>
    intro x1 x2 x3 M M' v h
    replace h : (  if (5 : Int32) ≤ x3 then
    some ((-1 : Int32), M)
  else
    if x1 = x2 then
      some ((-1 : Int32), M)
    else
      if z_ib (((5 : Int32) * x1) + x2) 25 = true then
        if (1000000 : Int32) ≤ (M 126 (((5 : Int32) * x1) + x2).toNatClampNeg) then
          some ((-1 : Int32), M)
        else
          if z_ib (((5 : Int32) * x1) + x3) 50 = true then
            if (M 114 (((5 : Int32) * x1) + x3).toNatClampNeg) ≤ 0 then
              f_X8_nextOf_107_p2 n x1 x2 (x3 + (1 : Int32)) M
            else
              if z_ib (((5 : Int32) * x1) + x3) 50 = true then
                if z_ib (((5 : Int32) * x3) + x2) 25 = true then
                  if z_ib (((5 : Int32) * x1) + x2) 25 = true then
                    if ((M 114 (((5 : Int32) * x1) + x3).toNatClampNeg) + (M 126 (((5 : Int32) * x3) + x2).toNatClampNeg)) = (M 126 (((5 : Int32) * x1) + x2).toNatClampNeg) then
                      some (x3, M)
                    else
                      f_X8_nextOf_107_p2 n x1 x2 (x3 + (1 : Int32)) M
                  else none
                else none
              else none
          else none
      else none) = some (v, M') := h
    refine z_iload_n dX8_nextOf_2 rfl ?_
    refine z_ic kc_p5 dX8_nextOf_3 ?_
    refine z_icmp_ge (tgt := 83) dX8_nextOf_4 rfl (fun g1 => ?_) (fun g1 => ?_)
    · replace h := (if_pos g1).symm.trans h
      refine z_ic kc_m1 dX8_nextOf_83 ?_
      cases h
      exact z_rI dX8_nextOf_84 rfl
    · replace h := (if_neg g1).symm.trans h
      refine z_iload_n dX8_nextOf_7 rfl ?_
      refine z_iload_n dX8_nextOf_8 rfl ?_
      refine z_icmp_eq (tgt := 83) dX8_nextOf_9 rfl (fun g2 => ?_) (fun g2 => ?_)
      · replace h := (if_pos g2).symm.trans h
        refine z_ic kc_m1 dX8_nextOf_83 ?_
        cases h
        exact z_rI dX8_nextOf_84 rfl
      · replace h := (if_neg g2).symm.trans h
        refine z_aload_n dX8_nextOf_12 rfl ?_
        refine z_getR (q := 126) fl_X8_79 dX8_nextOf_13 en_107 rfl ?_
        refine z_ic kc_p5 dX8_nextOf_16 ?_
        refine z_iload_n dX8_nextOf_17 rfl ?_
        refine z_imul dX8_nextOf_18 ?_
        refine z_iload_n dX8_nextOf_19 rfl ?_
        refine z_iadd dX8_nextOf_20 ?_
        obtain ⟨g3, h⟩ := z_ifn h
        refine z_al (v := (M 126 (((5 : Int32) * x1) + x2).toNatClampNeg)) dX8_nextOf_21 en_126 rfl (z_ib_in g3) rfl ?_
        refine z_ldcw (v := (1000000 : Int32)) kc_X8_316 dX8_nextOf_22 ?_
        refine z_icmp_ge (tgt := 83) dX8_nextOf_25 rfl (fun g4 => ?_) (fun g4 => ?_)
        · replace h := (if_pos g4).symm.trans h
          refine z_ic kc_m1 dX8_nextOf_83 ?_
          cases h
          exact z_rI dX8_nextOf_84 rfl
        · replace h := (if_neg g4).symm.trans h
          refine z_aload_n dX8_nextOf_28 rfl ?_
          refine z_getR (q := 114) fl_X8_39 dX8_nextOf_29 en_107 rfl ?_
          refine z_ic kc_p5 dX8_nextOf_32 ?_
          refine z_iload_n dX8_nextOf_33 rfl ?_
          refine z_imul dX8_nextOf_34 ?_
          refine z_iload_n dX8_nextOf_35 rfl ?_
          refine z_iadd dX8_nextOf_36 ?_
          obtain ⟨g5, h⟩ := z_ifn h
          refine z_al (v := (M 114 (((5 : Int32) * x1) + x3).toNatClampNeg)) dX8_nextOf_37 en_114 rfl (z_ib_in g5) rfl ?_
          refine z_if_le (tgt := 77) dX8_nextOf_38 rfl (fun g6 => ?_) (fun g6 => ?_)
          · replace h := (if_pos g6).symm.trans h
            refine z_ii (ls' := [.ref 107, .int x1, .int x2, .int (x3 + (1 : Int32))]) kc_p1 dX8_nextOf_77 rfl (by decide) rfl ?_
            refine z_goto (tgt := 2) dX8_nextOf_80 rfl ?_
            exact ih x1 x2 (x3 + (1 : Int32)) _ _ _ h
          · replace h := (if_neg g6).symm.trans h
            refine z_aload_n dX8_nextOf_41 rfl ?_
            refine z_getR (q := 114) fl_X8_39 dX8_nextOf_42 en_107 rfl ?_
            refine z_ic kc_p5 dX8_nextOf_45 ?_
            refine z_iload_n dX8_nextOf_46 rfl ?_
            refine z_imul dX8_nextOf_47 ?_
            refine z_iload_n dX8_nextOf_48 rfl ?_
            refine z_iadd dX8_nextOf_49 ?_
            obtain ⟨g7, h⟩ := z_ifn h
            refine z_al (v := (M 114 (((5 : Int32) * x1) + x3).toNatClampNeg)) dX8_nextOf_50 en_114 rfl (z_ib_in g7) rfl ?_
            refine z_aload_n dX8_nextOf_51 rfl ?_
            refine z_getR (q := 126) fl_X8_79 dX8_nextOf_52 en_107 rfl ?_
            refine z_ic kc_p5 dX8_nextOf_55 ?_
            refine z_iload_n dX8_nextOf_56 rfl ?_
            refine z_imul dX8_nextOf_57 ?_
            refine z_iload_n dX8_nextOf_58 rfl ?_
            refine z_iadd dX8_nextOf_59 ?_
            obtain ⟨g8, h⟩ := z_ifn h
            refine z_al (v := (M 126 (((5 : Int32) * x3) + x2).toNatClampNeg)) dX8_nextOf_60 en_126 rfl (z_ib_in g8) rfl ?_
            refine z_iadd dX8_nextOf_61 ?_
            refine z_aload_n dX8_nextOf_62 rfl ?_
            refine z_getR (q := 126) fl_X8_79 dX8_nextOf_63 en_107 rfl ?_
            refine z_ic kc_p5 dX8_nextOf_66 ?_
            refine z_iload_n dX8_nextOf_67 rfl ?_
            refine z_imul dX8_nextOf_68 ?_
            refine z_iload_n dX8_nextOf_69 rfl ?_
            refine z_iadd dX8_nextOf_70 ?_
            obtain ⟨g9, h⟩ := z_ifn h
            refine z_al (v := (M 126 (((5 : Int32) * x1) + x2).toNatClampNeg)) dX8_nextOf_71 en_126 rfl (z_ib_in g9) rfl ?_
            refine z_icmp_ne (tgt := 77) dX8_nextOf_72 rfl (fun g10 => ?_) (fun g10 => ?_)
            · replace h := (if_pos g10).symm.trans h
              refine z_iload_n dX8_nextOf_75 rfl ?_
              cases h
              exact z_rI dX8_nextOf_76 rfl
            · replace h := (if_neg g10).symm.trans h
              refine z_ii (ls' := [.ref 107, .int x1, .int x2, .int (x3 + (1 : Int32))]) kc_p1 dX8_nextOf_77 rfl (by decide) rfl ?_
              refine z_goto (tgt := 2) dX8_nextOf_80 rfl ?_
              exact ih x1 x2 (x3 + (1 : Int32)) _ _ _ h
theorem A_X8_nextOf_107 {l : Launch} (hl : l.stackTraces = false) {Ls d : Nat} {Lm : zML} {x1 : Int32} {x2 : Int32} {M M' : zMM} {v : Int32} (h : f_X8_nextOf_107 x1 x2 M = some (v, M')) : z_Ct l mX8_nextOf (d + 0) 0 0 [.ref 107, .int x1, .int x2] (z_L0 Ls, M, Lm) (.inl (some (.int v))) (z_L0 Ls, M', Lm) := by
  replace h : (  f_X8_nextOf_107_p2 z_fuel x1 x2 (0 : Int32) M) = some (v, M') := h
  refine z_Ct.of hl (by decide) (Nat.le_of_ble_eq_true rfl) rfl ?_
  show z_AW l mX8_nextOf (d + 0) 0 0 0 [.ref 107, .int x1, .int x2, .null] [] (z_L0 Ls, M, Lm) (.inl (some (.int v))) (z_L0 Ls, M', Lm)
  refine z_ic kc_p0 dX8_nextOf_0 ?_
  refine z_istore_n (ls' := [.ref 107, .int x1, .int x2, .int (0 : Int32)]) dX8_nextOf_1 (by decide) rfl ?_
  exact A_X8_nextOf_107_p2 hl z_fuel x1 x2 (0 : Int32) _ _ _ h
/-! X8_tellWays 107 -/
def f_X8_tellWays_107_p166 (K159 : Int32 → zMM → Option zMM) : Nat → Int32 → Int32 → zMM → Option zMM
  | 0, _, _, _ => none
  | n + 1, x1, x2, M =>
  if (5 : Int32) ≤ x2 then
    K159 (x1 + (1 : Int32)) M
  else
    z_bi (f_X8_nextOf_107 x1 x2 M) fun v6 M7 =>
    if z_ib (((5 : Int32) * x1) + x2) 25 = true then
      f_X8_tellWays_107_p166 K159 n x1 (x2 + (1 : Int32)) (z_up M7 127 (((5 : Int32) * x1) + x2).toNatClampNeg v6)
    else none
def f_X8_tellWays_107_p159 : Nat → Int32 → zMM → Option zMM
  | 0, _, _ => none
  | n + 1, x1, M =>
  if (5 : Int32) ≤ x1 then
    some M
  else
    f_X8_tellWays_107_p166 (f_X8_tellWays_107_p159 n) z_fuel x1 (0 : Int32) M
def f_X8_tellWays_107_p90 (K76 : Int32 → zMM → Option zMM) (K83 : Int32 → Int32 → zMM → Option zMM) : Nat → Int32 → Int32 → Int32 → zMM → Option zMM
  | 0, _, _, _, _ => none
  | n + 1, x1, x2, x3, M =>
  if (5 : Int32) ≤ x3 then
    K83 x1 (x2 + (1 : Int32)) M
  else
    if z_ib (((5 : Int32) * x2) + x3) 25 = true then
      if z_ib (((5 : Int32) * x2) + x1) 25 = true then
        if z_ib (((5 : Int32) * x1) + x3) 25 = true then
          if z_ib (((5 : Int32) * x2) + x3) 25 = true then
            f_X8_tellWays_107_p90 K76 K83 n x1 x2 (x3 + (1 : Int32)) (z_up M 126 (((5 : Int32) * x2) + x3).toNatClampNeg (z_min (M 126 (((5 : Int32) * x2) + x3).toNatClampNeg) ((M 126 (((5 : Int32) * x2) + x1).toNatClampNeg) + (M 126 (((5 : Int32) * x1) + x3).toNatClampNeg))))
          else none
        else none
      else none
    else none
def f_X8_tellWays_107_p83 (K76 : Int32 → zMM → Option zMM) : Nat → Int32 → Int32 → zMM → Option zMM
  | 0, _, _, _ => none
  | n + 1, x1, x2, M =>
  if (5 : Int32) ≤ x2 then
    K76 (x1 + (1 : Int32)) M
  else
    f_X8_tellWays_107_p90 K76 (f_X8_tellWays_107_p83 K76 n) z_fuel x1 x2 (0 : Int32) M
def f_X8_tellWays_107_p76 : Nat → Int32 → zMM → Option zMM
  | 0, _, _ => none
  | n + 1, x1, M =>
  if (5 : Int32) ≤ x1 then
    f_X8_tellWays_107_p159 z_fuel (0 : Int32) M
  else
    f_X8_tellWays_107_p83 (f_X8_tellWays_107_p76 n) z_fuel x1 (0 : Int32) M
def f_X8_tellWays_107_p9 (K2 : Int32 → zMM → Option zMM) : Nat → Int32 → Int32 → zMM → Option zMM
  | 0, _, _, _ => none
  | n + 1, x1, x2, M =>
  if (5 : Int32) ≤ x2 then
    K2 (x1 + (1 : Int32)) M
  else
    if x1 = x2 then
      if z_ib (((5 : Int32) * x1) + x2) 25 = true then
        f_X8_tellWays_107_p9 K2 n x1 (x2 + (1 : Int32)) (z_up M 126 (((5 : Int32) * x1) + x2).toNatClampNeg (0 : Int32))
      else none
    else
      if z_ib (((5 : Int32) * x1) + x2) 50 = true then
        if (M 114 (((5 : Int32) * x1) + x2).toNatClampNeg) ≤ 0 then
          if z_ib (((5 : Int32) * x1) + x2) 25 = true then
            f_X8_tellWays_107_p9 K2 n x1 (x2 + (1 : Int32)) (z_up M 126 (((5 : Int32) * x1) + x2).toNatClampNeg (1000000 : Int32))
          else none
        else
          if z_ib (((5 : Int32) * x1) + x2) 50 = true then
            if z_ib (((5 : Int32) * x1) + x2) 25 = true then
              f_X8_tellWays_107_p9 K2 n x1 (x2 + (1 : Int32)) (z_up M 126 (((5 : Int32) * x1) + x2).toNatClampNeg (M 114 (((5 : Int32) * x1) + x2).toNatClampNeg))
            else none
          else none
      else none
def f_X8_tellWays_107_p2 : Nat → Int32 → zMM → Option zMM
  | 0, _, _ => none
  | n + 1, x1, M =>
  if (5 : Int32) ≤ x1 then
    f_X8_tellWays_107_p76 z_fuel (0 : Int32) M
  else
    f_X8_tellWays_107_p9 (f_X8_tellWays_107_p2 n) z_fuel x1 (0 : Int32) M
def f_X8_tellWays_107  (M : zMM) : Option zMM :=
  f_X8_tellWays_107_p2 z_fuel (0 : Int32) M
theorem A_X8_tellWays_107_p166 {l : Launch} (hl : l.stackTraces = false) {Ls d : Nat} {Lm : zML} {K159 : Int32 → zMM → Option zMM}
    (hK159 : ∀ (x1 : Int32) (M M' : zMM) , K159 x1 M = some M' → z_AW l mX8_tellWays (d + 1) 0 0 159 [.ref 107, .int x1, .null, .null] [] (z_L0 Ls, M, Lm) (.inl none) (z_L0 Ls, M', Lm)) :
    ∀ (n : Nat) (x1 : Int32) (x2 : Int32) (M M' : zMM) , f_X8_tellWays_107_p166 K159 n x1 x2 M = some M' → z_AW l mX8_tellWays (d + 1) 0 0 166 [.ref 107, .int x1, .int x2, .null] [] (z_L0 Ls, M, Lm) (.inl none) (z_L0 Ls, M', Lm) := by
  intro n
  induction n with
  | zero => intro x1 x2 M M' h; cases h
  | succ n ih =>
    intro x1 x2 M M' h
    replace h : (  if (5 : Int32) ≤ x2 then
    K159 (x1 + (1 : Int32)) M
  else
    z_bi (f_X8_nextOf_107 x1 x2 M) fun v6 M7 =>
    if z_ib (((5 : Int32) * x1) + x2) 25 = true then
      f_X8_tellWays_107_p166 K159 n x1 (x2 + (1 : Int32)) (z_up M7 127 (((5 : Int32) * x1) + x2).toNatClampNeg v6)
    else none) = some M' := h
    refine z_iload_n dX8_tellWays_166 rfl ?_
    refine z_ic kc_p5 dX8_tellWays_167 ?_
    refine z_icmp_ge (tgt := 193) dX8_tellWays_168 rfl (fun g4 => ?_) (fun g4 => ?_)
    · replace h := (if_pos g4).symm.trans h
      refine z_ii (ls' := [.ref 107, .int (x1 + (1 : Int32)), .int x2, .null]) kc_p1 dX8_tellWays_193 rfl (by decide) rfl ?_
      refine z_goto (tgt := 159) dX8_tellWays_196 rfl ?_
      refine z_fg (ls' := [.ref 107, .int (x1 + (1 : Int32)), .null, .null]) ⟨Or.inr rfl, Or.inr rfl, Or.inl rfl, Or.inl rfl, trivial⟩ ?_
      exact hK159 (x1 + (1 : Int32)) _ _ h
    · replace h := (if_neg g4).symm.trans h
      refine z_aload_n dX8_tellWays_171 rfl ?_
      refine z_getR (q := 127) fl_X8_82 dX8_tellWays_172 en_107 rfl ?_
      refine z_ic kc_p5 dX8_tellWays_175 ?_
      refine z_iload_n dX8_tellWays_176 rfl ?_
      refine z_imul dX8_tellWays_177 ?_
      refine z_iload_n dX8_tellWays_178 rfl ?_
      refine z_iadd dX8_tellWays_179 ?_
      refine z_aload_n dX8_tellWays_180 rfl ?_
      refine z_iload_n dX8_tellWays_181 rfl ?_
      refine z_iload_n dX8_tellWays_182 rfl ?_
      obtain ⟨v6, M7, c5, h⟩ := z_bi_c h
      refine z_cV (av := [.int x1, .int x2]) (st := [.int (((5 : Int32) * x1) + x2), .ref 127]) lk_X8_317 dX8_tellWays_183 (A_X8_nextOf_107 (d := d + 0) hl c5) rfl rfl en_107 rfl (Nat.le_of_ble_eq_true rfl) rfl z_len rfl rfl ?_
      obtain ⟨g8, h⟩ := z_ifn h
      refine z_as dX8_tellWays_186 (by decide) en_127 rfl (z_ib_in g8) ?_
      refine z_ii (ls' := [.ref 107, .int x1, .int (x2 + (1 : Int32)), .null]) kc_p1 dX8_tellWays_187 rfl (by decide) rfl ?_
      refine z_goto (tgt := 166) dX8_tellWays_190 rfl ?_
      exact ih x1 (x2 + (1 : Int32)) _ _ h
theorem A_X8_tellWays_107_p159 {l : Launch} (hl : l.stackTraces = false) {Ls d : Nat} {Lm : zML} :
    ∀ (n : Nat) (x1 : Int32) (M M' : zMM) , f_X8_tellWays_107_p159 n x1 M = some M' → z_AW l mX8_tellWays (d + 1) 0 0 159 [.ref 107, .int x1, .null, .null] [] (z_L0 Ls, M, Lm) (.inl none) (z_L0 Ls, M', Lm) := by
  intro n
  induction n with
  | zero => intro x1 M M' h; cases h
  | succ n ih =>
    intro x1 M M' h
    replace h : (  if (5 : Int32) ≤ x1 then
    some M
  else
    f_X8_tellWays_107_p166 (f_X8_tellWays_107_p159 n) z_fuel x1 (0 : Int32) M) = some M' := h
    refine z_iload_n dX8_tellWays_159 rfl ?_
    refine z_ic kc_p5 dX8_tellWays_160 ?_
    refine z_icmp_ge (tgt := 199) dX8_tellWays_161 rfl (fun g3 => ?_) (fun g3 => ?_)
    · replace h := (if_pos g3).symm.trans h
      cases h
      exact z_return dX8_tellWays_199 rfl
    · replace h := (if_neg g3).symm.trans h
      refine z_ic kc_p0 dX8_tellWays_164 ?_
      refine z_istore_n (ls' := [.ref 107, .int x1, .int (0 : Int32), .null]) dX8_tellWays_165 (by decide) rfl ?_
      exact A_X8_tellWays_107_p166 hl ih z_fuel x1 (0 : Int32) _ _ h
theorem A_X8_tellWays_107_p90 {l : Launch} (hl : l.stackTraces = false) {Ls d : Nat} {Lm : zML} {K76 : Int32 → zMM → Option zMM} {K83 : Int32 → Int32 → zMM → Option zMM}
    (hK76 : ∀ (x1 : Int32) (M M' : zMM) , K76 x1 M = some M' → z_AW l mX8_tellWays (d + 1) 0 0 76 [.ref 107, .int x1, .null, .null] [] (z_L0 Ls, M, Lm) (.inl none) (z_L0 Ls, M', Lm))
    (hK83 : ∀ (x1 : Int32) (x2 : Int32) (M M' : zMM) , K83 x1 x2 M = some M' → z_AW l mX8_tellWays (d + 1) 0 0 83 [.ref 107, .int x1, .int x2, .null] [] (z_L0 Ls, M, Lm) (.inl none) (z_L0 Ls, M', Lm)) :
    ∀ (n : Nat) (x1 : Int32) (x2 : Int32) (x3 : Int32) (M M' : zMM) , f_X8_tellWays_107_p90 K76 K83 n x1 x2 x3 M = some M' → z_AW l mX8_tellWays (d + 1) 0 0 90 [.ref 107, .int x1, .int x2, .int x3] [] (z_L0 Ls, M, Lm) (.inl none) (z_L0 Ls, M', Lm) := by
  intro n
  induction n with
  | zero => intro x1 x2 x3 M M' h; cases h
  | succ n ih =>
    intro x1 x2 x3 M M' h
    replace h : (  if (5 : Int32) ≤ x3 then
    K83 x1 (x2 + (1 : Int32)) M
  else
    if z_ib (((5 : Int32) * x2) + x3) 25 = true then
      if z_ib (((5 : Int32) * x2) + x1) 25 = true then
        if z_ib (((5 : Int32) * x1) + x3) 25 = true then
          if z_ib (((5 : Int32) * x2) + x3) 25 = true then
            f_X8_tellWays_107_p90 K76 K83 n x1 x2 (x3 + (1 : Int32)) (z_up M 126 (((5 : Int32) * x2) + x3).toNatClampNeg (z_min (M 126 (((5 : Int32) * x2) + x3).toNatClampNeg) ((M 126 (((5 : Int32) * x2) + x1).toNatClampNeg) + (M 126 (((5 : Int32) * x1) + x3).toNatClampNeg))))
          else none
        else none
      else none
    else none) = some M' := h
    refine z_iload_n dX8_tellWays_90 rfl ?_
    refine z_ic kc_p5 dX8_tellWays_91 ?_
    refine z_icmp_ge (tgt := 145) dX8_tellWays_92 rfl (fun g10 => ?_) (fun g10 => ?_)
    · replace h := (if_pos g10).symm.trans h
      refine z_ii (ls' := [.ref 107, .int x1, .int (x2 + (1 : Int32)), .int x3]) kc_p1 dX8_tellWays_145 rfl (by decide) rfl ?_
      refine z_goto (tgt := 83) dX8_tellWays_148 rfl ?_
      refine z_fg (ls' := [.ref 107, .int x1, .int (x2 + (1 : Int32)), .null]) ⟨Or.inr rfl, Or.inr rfl, Or.inr rfl, Or.inl rfl, trivial⟩ ?_
      exact hK83 x1 (x2 + (1 : Int32)) _ _ h
    · replace h := (if_neg g10).symm.trans h
      refine z_aload_n dX8_tellWays_95 rfl ?_
      refine z_getR (q := 126) fl_X8_79 dX8_tellWays_96 en_107 rfl ?_
      refine z_ic kc_p5 dX8_tellWays_99 ?_
      refine z_iload_n dX8_tellWays_100 rfl ?_
      refine z_imul dX8_tellWays_101 ?_
      refine z_iload_n dX8_tellWays_102 rfl ?_
      refine z_iadd dX8_tellWays_103 ?_
      refine z_aload_n dX8_tellWays_104 rfl ?_
      refine z_getR (q := 126) fl_X8_79 dX8_tellWays_105 en_107 rfl ?_
      refine z_ic kc_p5 dX8_tellWays_108 ?_
      refine z_iload_n dX8_tellWays_109 rfl ?_
      refine z_imul dX8_tellWays_110 ?_
      refine z_iload_n dX8_tellWays_111 rfl ?_
      refine z_iadd dX8_tellWays_112 ?_
      obtain ⟨g11, h⟩ := z_ifn h
      refine z_al (v := (M 126 (((5 : Int32) * x2) + x3).toNatClampNeg)) dX8_tellWays_113 en_126 rfl (z_ib_in g11) rfl ?_
      refine z_aload_n dX8_tellWays_114 rfl ?_
      refine z_getR (q := 126) fl_X8_79 dX8_tellWays_115 en_107 rfl ?_
      refine z_ic kc_p5 dX8_tellWays_118 ?_
      refine z_iload_n dX8_tellWays_119 rfl ?_
      refine z_imul dX8_tellWays_120 ?_
      refine z_iload_n dX8_tellWays_121 rfl ?_
      refine z_iadd dX8_tellWays_122 ?_
      obtain ⟨g12, h⟩ := z_ifn h
      refine z_al (v := (M 126 (((5 : Int32) * x2) + x1).toNatClampNeg)) dX8_tellWays_123 en_126 rfl (z_ib_in g12) rfl ?_
      refine z_aload_n dX8_tellWays_124 rfl ?_
      refine z_getR (q := 126) fl_X8_79 dX8_tellWays_125 en_107 rfl ?_
      refine z_ic kc_p5 dX8_tellWays_128 ?_
      refine z_iload_n dX8_tellWays_129 rfl ?_
      refine z_imul dX8_tellWays_130 ?_
      refine z_iload_n dX8_tellWays_131 rfl ?_
      refine z_iadd dX8_tellWays_132 ?_
      obtain ⟨g13, h⟩ := z_ifn h
      refine z_al (v := (M 126 (((5 : Int32) * x1) + x3).toNatClampNeg)) dX8_tellWays_133 en_126 rfl (z_ib_in g13) rfl ?_
      refine z_iadd dX8_tellWays_134 ?_
      refine z_mmin lk_X8_186 dX8_tellWays_135 (Nat.le_of_ble_eq_true rfl) (by omega) ?_
      obtain ⟨g14, h⟩ := z_ifn h
      refine z_as dX8_tellWays_138 (by decide) en_126 rfl (z_ib_in g14) ?_
      refine z_ii (ls' := [.ref 107, .int x1, .int x2, .int (x3 + (1 : Int32))]) kc_p1 dX8_tellWays_139 rfl (by decide) rfl ?_
      refine z_goto (tgt := 90) dX8_tellWays_142 rfl ?_
      exact ih x1 x2 (x3 + (1 : Int32)) _ _ h
theorem A_X8_tellWays_107_p83 {l : Launch} (hl : l.stackTraces = false) {Ls d : Nat} {Lm : zML} {K76 : Int32 → zMM → Option zMM}
    (hK76 : ∀ (x1 : Int32) (M M' : zMM) , K76 x1 M = some M' → z_AW l mX8_tellWays (d + 1) 0 0 76 [.ref 107, .int x1, .null, .null] [] (z_L0 Ls, M, Lm) (.inl none) (z_L0 Ls, M', Lm)) :
    ∀ (n : Nat) (x1 : Int32) (x2 : Int32) (M M' : zMM) , f_X8_tellWays_107_p83 K76 n x1 x2 M = some M' → z_AW l mX8_tellWays (d + 1) 0 0 83 [.ref 107, .int x1, .int x2, .null] [] (z_L0 Ls, M, Lm) (.inl none) (z_L0 Ls, M', Lm) := by
  intro n
  induction n with
  | zero => intro x1 x2 M M' h; cases h
  | succ n ih =>
    intro x1 x2 M M' h
    replace h : (  if (5 : Int32) ≤ x2 then
    K76 (x1 + (1 : Int32)) M
  else
    f_X8_tellWays_107_p90 K76 (f_X8_tellWays_107_p83 K76 n) z_fuel x1 x2 (0 : Int32) M) = some M' := h
    refine z_iload_n dX8_tellWays_83 rfl ?_
    refine z_ic kc_p5 dX8_tellWays_84 ?_
    refine z_icmp_ge (tgt := 151) dX8_tellWays_85 rfl (fun g9 => ?_) (fun g9 => ?_)
    · replace h := (if_pos g9).symm.trans h
      refine z_ii (ls' := [.ref 107, .int (x1 + (1 : Int32)), .int x2, .null]) kc_p1 dX8_tellWays_151 rfl (by decide) rfl ?_
      refine z_goto (tgt := 76) dX8_tellWays_154 rfl ?_
      refine z_fg (ls' := [.ref 107, .int (x1 + (1 : Int32)), .null, .null]) ⟨Or.inr rfl, Or.inr rfl, Or.inl rfl, Or.inl rfl, trivial⟩ ?_
      exact hK76 (x1 + (1 : Int32)) _ _ h
    · replace h := (if_neg g9).symm.trans h
      refine z_ic kc_p0 dX8_tellWays_88 ?_
      refine z_istore_n (ls' := [.ref 107, .int x1, .int x2, .int (0 : Int32)]) dX8_tellWays_89 (by decide) rfl ?_
      exact A_X8_tellWays_107_p90 hl hK76 ih z_fuel x1 x2 (0 : Int32) _ _ h
theorem A_X8_tellWays_107_p76 {l : Launch} (hl : l.stackTraces = false) {Ls d : Nat} {Lm : zML} :
    ∀ (n : Nat) (x1 : Int32) (M M' : zMM) , f_X8_tellWays_107_p76 n x1 M = some M' → z_AW l mX8_tellWays (d + 1) 0 0 76 [.ref 107, .int x1, .null, .null] [] (z_L0 Ls, M, Lm) (.inl none) (z_L0 Ls, M', Lm) := by
  intro n
  induction n with
  | zero => intro x1 M M' h; cases h
  | succ n ih =>
    intro x1 M M' h
    replace h : (  if (5 : Int32) ≤ x1 then
    f_X8_tellWays_107_p159 z_fuel (0 : Int32) M
  else
    f_X8_tellWays_107_p83 (f_X8_tellWays_107_p76 n) z_fuel x1 (0 : Int32) M) = some M' := h
    refine z_iload_n dX8_tellWays_76 rfl ?_
    refine z_ic kc_p5 dX8_tellWays_77 ?_
    refine z_icmp_ge (tgt := 157) dX8_tellWays_78 rfl (fun g2 => ?_) (fun g2 => ?_)
    · replace h := (if_pos g2).symm.trans h
      refine z_ic kc_p0 dX8_tellWays_157 ?_
      refine z_istore_n (ls' := [.ref 107, .int (0 : Int32), .null, .null]) dX8_tellWays_158 (by decide) rfl ?_
      exact A_X8_tellWays_107_p159 hl z_fuel (0 : Int32) _ _ h
    · replace h := (if_neg g2).symm.trans h
      refine z_ic kc_p0 dX8_tellWays_81 ?_
      refine z_istore_n (ls' := [.ref 107, .int x1, .int (0 : Int32), .null]) dX8_tellWays_82 (by decide) rfl ?_
      exact A_X8_tellWays_107_p83 hl ih z_fuel x1 (0 : Int32) _ _ h
theorem A_X8_tellWays_107_p9 {l : Launch} (hl : l.stackTraces = false) {Ls d : Nat} {Lm : zML} {K2 : Int32 → zMM → Option zMM}
    (hK2 : ∀ (x1 : Int32) (M M' : zMM) , K2 x1 M = some M' → z_AW l mX8_tellWays (d + 1) 0 0 2 [.ref 107, .int x1, .null, .null] [] (z_L0 Ls, M, Lm) (.inl none) (z_L0 Ls, M', Lm)) :
    ∀ (n : Nat) (x1 : Int32) (x2 : Int32) (M M' : zMM) , f_X8_tellWays_107_p9 K2 n x1 x2 M = some M' → z_AW l mX8_tellWays (d + 1) 0 0 9 [.ref 107, .int x1, .int x2, .null] [] (z_L0 Ls, M, Lm) (.inl none) (z_L0 Ls, M', Lm) := by
  intro n
  induction n with
  | zero => intro x1 x2 M M' h; cases h
  | succ n ih =>
    intro x1 x2 M M' h
    replace h : (  if (5 : Int32) ≤ x2 then
    K2 (x1 + (1 : Int32)) M
  else
    if x1 = x2 then
      if z_ib (((5 : Int32) * x1) + x2) 25 = true then
        f_X8_tellWays_107_p9 K2 n x1 (x2 + (1 : Int32)) (z_up M 126 (((5 : Int32) * x1) + x2).toNatClampNeg (0 : Int32))
      else none
    else
      if z_ib (((5 : Int32) * x1) + x2) 50 = true then
        if (M 114 (((5 : Int32) * x1) + x2).toNatClampNeg) ≤ 0 then
          if z_ib (((5 : Int32) * x1) + x2) 25 = true then
            f_X8_tellWays_107_p9 K2 n x1 (x2 + (1 : Int32)) (z_up M 126 (((5 : Int32) * x1) + x2).toNatClampNeg (1000000 : Int32))
          else none
        else
          if z_ib (((5 : Int32) * x1) + x2) 50 = true then
            if z_ib (((5 : Int32) * x1) + x2) 25 = true then
              f_X8_tellWays_107_p9 K2 n x1 (x2 + (1 : Int32)) (z_up M 126 (((5 : Int32) * x1) + x2).toNatClampNeg (M 114 (((5 : Int32) * x1) + x2).toNatClampNeg))
            else none
          else none
      else none) = some M' := h
    refine z_iload_n dX8_tellWays_9 rfl ?_
    refine z_ic kc_p5 dX8_tellWays_10 ?_
    refine z_icmp_ge (tgt := 68) dX8_tellWays_11 rfl (fun g15 => ?_) (fun g15 => ?_)
    · replace h := (if_pos g15).symm.trans h
      refine z_ii (ls' := [.ref 107, .int (x1 + (1 : Int32)), .int x2, .null]) kc_p1 dX8_tellWays_68 rfl (by decide) rfl ?_
      refine z_goto (tgt := 2) dX8_tellWays_71 rfl ?_
      refine z_fg (ls' := [.ref 107, .int (x1 + (1 : Int32)), .null, .null]) ⟨Or.inr rfl, Or.inr rfl, Or.inl rfl, Or.inl rfl, trivial⟩ ?_
      exact hK2 (x1 + (1 : Int32)) _ _ h
    · replace h := (if_neg g15).symm.trans h
      refine z_aload_n dX8_tellWays_14 rfl ?_
      refine z_getR (q := 126) fl_X8_79 dX8_tellWays_15 en_107 rfl ?_
      refine z_ic kc_p5 dX8_tellWays_18 ?_
      refine z_iload_n dX8_tellWays_19 rfl ?_
      refine z_imul dX8_tellWays_20 ?_
      refine z_iload_n dX8_tellWays_21 rfl ?_
      refine z_iadd dX8_tellWays_22 ?_
      refine z_iload_n dX8_tellWays_23 rfl ?_
      refine z_iload_n dX8_tellWays_24 rfl ?_
      refine z_icmp_ne (tgt := 32) dX8_tellWays_25 rfl (fun g16 => ?_) (fun g16 => ?_)
      · replace h := (if_pos g16).symm.trans h
        refine z_ic kc_p0 dX8_tellWays_28 ?_
        refine z_goto (tgt := 61) dX8_tellWays_29 rfl ?_
        obtain ⟨g17, h⟩ := z_ifn h
        refine z_as dX8_tellWays_61 (by decide) en_126 rfl (z_ib_in g17) ?_
        refine z_ii (ls' := [.ref 107, .int x1, .int (x2 + (1 : Int32)), .null]) kc_p1 dX8_tellWays_62 rfl (by decide) rfl ?_
        refine z_goto (tgt := 9) dX8_tellWays_65 rfl ?_
        exact ih x1 (x2 + (1 : Int32)) _ _ h
      · replace h := (if_neg g16).symm.trans h
        refine z_aload_n dX8_tellWays_32 rfl ?_
        refine z_getR (q := 114) fl_X8_39 dX8_tellWays_33 en_107 rfl ?_
        refine z_ic kc_p5 dX8_tellWays_36 ?_
        refine z_iload_n dX8_tellWays_37 rfl ?_
        refine z_imul dX8_tellWays_38 ?_
        refine z_iload_n dX8_tellWays_39 rfl ?_
        refine z_iadd dX8_tellWays_40 ?_
        obtain ⟨g18, h⟩ := z_ifn h
        refine z_al (v := (M 114 (((5 : Int32) * x1) + x2).toNatClampNeg)) dX8_tellWays_41 en_114 rfl (z_ib_in g18) rfl ?_
        refine z_if_le (tgt := 58) dX8_tellWays_42 rfl (fun g19 => ?_) (fun g19 => ?_)
        · replace h := (if_pos g19).symm.trans h
          refine z_ldcw (v := (1000000 : Int32)) kc_X8_316 dX8_tellWays_58 ?_
          obtain ⟨g20, h⟩ := z_ifn h
          refine z_as dX8_tellWays_61 (by decide) en_126 rfl (z_ib_in g20) ?_
          refine z_ii (ls' := [.ref 107, .int x1, .int (x2 + (1 : Int32)), .null]) kc_p1 dX8_tellWays_62 rfl (by decide) rfl ?_
          refine z_goto (tgt := 9) dX8_tellWays_65 rfl ?_
          exact ih x1 (x2 + (1 : Int32)) _ _ h
        · replace h := (if_neg g19).symm.trans h
          refine z_aload_n dX8_tellWays_45 rfl ?_
          refine z_getR (q := 114) fl_X8_39 dX8_tellWays_46 en_107 rfl ?_
          refine z_ic kc_p5 dX8_tellWays_49 ?_
          refine z_iload_n dX8_tellWays_50 rfl ?_
          refine z_imul dX8_tellWays_51 ?_
          refine z_iload_n dX8_tellWays_52 rfl ?_
          refine z_iadd dX8_tellWays_53 ?_
          obtain ⟨g21, h⟩ := z_ifn h
          refine z_al (v := (M 114 (((5 : Int32) * x1) + x2).toNatClampNeg)) dX8_tellWays_54 en_114 rfl (z_ib_in g21) rfl ?_
          refine z_goto (tgt := 61) dX8_tellWays_55 rfl ?_
          obtain ⟨g22, h⟩ := z_ifn h
          refine z_as dX8_tellWays_61 (by decide) en_126 rfl (z_ib_in g22) ?_
          refine z_ii (ls' := [.ref 107, .int x1, .int (x2 + (1 : Int32)), .null]) kc_p1 dX8_tellWays_62 rfl (by decide) rfl ?_
          refine z_goto (tgt := 9) dX8_tellWays_65 rfl ?_
          exact ih x1 (x2 + (1 : Int32)) _ _ h
theorem A_X8_tellWays_107_p2 {l : Launch} (hl : l.stackTraces = false) {Ls d : Nat} {Lm : zML} :
    ∀ (n : Nat) (x1 : Int32) (M M' : zMM) , f_X8_tellWays_107_p2 n x1 M = some M' → z_AW l mX8_tellWays (d + 1) 0 0 2 [.ref 107, .int x1, .null, .null] [] (z_L0 Ls, M, Lm) (.inl none) (z_L0 Ls, M', Lm) := by
  intro n
  induction n with
  | zero => intro x1 M M' h; cases h
  | succ n ih =>
    intro x1 M M' h
    replace h : (  if (5 : Int32) ≤ x1 then
    f_X8_tellWays_107_p76 z_fuel (0 : Int32) M
  else
    f_X8_tellWays_107_p9 (f_X8_tellWays_107_p2 n) z_fuel x1 (0 : Int32) M) = some M' := h
    refine z_iload_n dX8_tellWays_2 rfl ?_
    refine z_ic kc_p5 dX8_tellWays_3 ?_
    refine z_icmp_ge (tgt := 74) dX8_tellWays_4 rfl (fun g1 => ?_) (fun g1 => ?_)
    · replace h := (if_pos g1).symm.trans h
      refine z_ic kc_p0 dX8_tellWays_74 ?_
      refine z_istore_n (ls' := [.ref 107, .int (0 : Int32), .null, .null]) dX8_tellWays_75 (by decide) rfl ?_
      exact A_X8_tellWays_107_p76 hl z_fuel (0 : Int32) _ _ h
    · replace h := (if_neg g1).symm.trans h
      refine z_ic kc_p0 dX8_tellWays_7 ?_
      refine z_istore_n (ls' := [.ref 107, .int x1, .int (0 : Int32), .null]) dX8_tellWays_8 (by decide) rfl ?_
      exact A_X8_tellWays_107_p9 hl ih z_fuel x1 (0 : Int32) _ _ h
theorem A_X8_tellWays_107 {l : Launch} (hl : l.stackTraces = false) {Ls d : Nat} {Lm : zML}  {M M' : zMM} (h : f_X8_tellWays_107  M = some M') : z_Ct l mX8_tellWays (d + 1) 0 0 [.ref 107] (z_L0 Ls, M, Lm) (.inl none) (z_L0 Ls, M', Lm) := by
  replace h : (  f_X8_tellWays_107_p2 z_fuel (0 : Int32) M) = some M' := h
  refine z_Ct.of hl (by decide) (Nat.le_of_ble_eq_true rfl) rfl ?_
  show z_AW l mX8_tellWays (d + 1) 0 0 0 [.ref 107, .null, .null, .null] [] (z_L0 Ls, M, Lm) (.inl none) (z_L0 Ls, M', Lm)
  refine z_ic kc_p0 dX8_tellWays_0 ?_
  refine z_istore_n (ls' := [.ref 107, .int (0 : Int32), .null, .null]) dX8_tellWays_1 (by decide) rfl ?_
  exact A_X8_tellWays_107_p2 hl z_fuel (0 : Int32) _ _ h
/-! X8_take 107 -/
def f_X8_take_107_p86 : Nat → Int32 → zMM → Option zMM
  | 0, _, _ => none
  | n + 1, x1, M =>
  if (5 : Int32) ≤ x1 then
    z_bv (f_X8_tellWays_107  (z_up (z_up (z_up (z_up (z_up (z_up M 107 29 (0 : Int32)) 107 33 (0 : Int32)) 107 31 (0 : Int32)) 107 32 (0 : Int32)) 107 53 (0 : Int32)) 107 54 (0 : Int32))) fun M28 =>
    some M28
  else
    if (M 109 1) ≤ x1 then
      if z_ib x1 5 = true then
        if z_ib x1 5 = true then
          f_X8_take_107_p86 n (x1 + (1 : Int32)) (z_up (z_up M 124 x1.toNatClampNeg (0 : Int32)) 125 x1.toNatClampNeg (0 : Int32))
        else none
      else none
    else
      if z_ib x1 5 = true then
        if z_ib x1 5 = true then
          if z_ib x1 5 = true then
            f_X8_take_107_p86 n (x1 + (1 : Int32)) (z_up (z_up M 124 x1.toNatClampNeg (M 115 x1.toNatClampNeg)) 125 x1.toNatClampNeg (0 : Int32))
          else none
        else none
      else none
def f_X8_take_107  (M : zMM) : Option zMM :=
  z_bv (some (z_th M 109 0 5)) fun M2 =>
  z_bv (some (z_th M2 110 0 5)) fun M4 =>
  z_bv (some (z_th M4 111 0 5)) fun M6 =>
  z_bv (some (z_th M6 112 0 5)) fun M8 =>
  z_bv (some (z_th M8 113 0 5)) fun M10 =>
  z_bv (some (z_th M10 114 0 25)) fun M12 =>
  z_bv (some (z_th M12 116 0 11)) fun M14 =>
  z_bv (some (z_th M14 117 0 11)) fun M16 =>
  z_bv (some (z_th M16 118 0 4)) fun M18 =>
  z_bv (some (z_th M18 119 0 16)) fun M20 =>
  z_bv (some (z_th M20 120 0 4)) fun M22 =>
  z_bv (some (z_th M22 121 0 400)) fun M24 =>
  f_X8_take_107_p86 z_fuel (0 : Int32) M24
theorem A_X8_take_107_p86 {l : Launch} (hl : l.stackTraces = false) {Ls d : Nat} {Lm : zML} :
    ∀ (n : Nat) (x1 : Int32) (M M' : zMM) , f_X8_take_107_p86 n x1 M = some M' → z_AW l mX8_take (d + 2) 0 0 86 [.ref 107, .int x1] [] (z_L0 Ls, M, Lm) (.inl none) (z_L0 Ls, M', Lm) := by
  intro n
  induction n with
  | zero => intro x1 M M' h; cases h
  | succ n ih =>
    intro x1 M M' h
    replace h : (  if (5 : Int32) ≤ x1 then
    z_bv (f_X8_tellWays_107  (z_up (z_up (z_up (z_up (z_up (z_up M 107 29 (0 : Int32)) 107 33 (0 : Int32)) 107 31 (0 : Int32)) 107 32 (0 : Int32)) 107 53 (0 : Int32)) 107 54 (0 : Int32))) fun M28 =>
    some M28
  else
    if (M 109 1) ≤ x1 then
      if z_ib x1 5 = true then
        if z_ib x1 5 = true then
          f_X8_take_107_p86 n (x1 + (1 : Int32)) (z_up (z_up M 124 x1.toNatClampNeg (0 : Int32)) 125 x1.toNatClampNeg (0 : Int32))
        else none
      else none
    else
      if z_ib x1 5 = true then
        if z_ib x1 5 = true then
          if z_ib x1 5 = true then
            f_X8_take_107_p86 n (x1 + (1 : Int32)) (z_up (z_up M 124 x1.toNatClampNeg (M 115 x1.toNatClampNeg)) 125 x1.toNatClampNeg (0 : Int32))
          else none
        else none
      else none) = some M' := h
    refine z_iload_n dX8_take_86 rfl ?_
    refine z_ic kc_p5 dX8_take_87 ?_
    refine z_icmp_ge (tgt := 130) dX8_take_88 rfl (fun g25 => ?_) (fun g25 => ?_)
    · replace h := (if_pos g25).symm.trans h
      refine z_aload_n dX8_take_130 rfl ?_
      refine z_ic kc_p0 dX8_take_131 ?_
      refine z_pI fp_X8_282 dX8_take_132 (by decide) en_107 rfl ?_
      refine z_aload_n dX8_take_135 rfl ?_
      refine z_ic kc_p0 dX8_take_136 ?_
      refine z_pZ fp_X8_285 dX8_take_137 (by decide) en_107 rfl rfl ?_
      refine z_aload_n dX8_take_140 rfl ?_
      refine z_ic kc_p0 dX8_take_141 ?_
      refine z_pI fp_X8_289 dX8_take_142 (by decide) en_107 rfl ?_
      refine z_aload_n dX8_take_145 rfl ?_
      refine z_ic kc_p0 dX8_take_146 ?_
      refine z_pI fp_X8_292 dX8_take_147 (by decide) en_107 rfl ?_
      refine z_aload_n dX8_take_150 rfl ?_
      refine z_ic kc_p0 dX8_take_151 ?_
      refine z_pZ fp_X8_295 dX8_take_152 (by decide) en_107 rfl rfl ?_
      refine z_aload_n dX8_take_155 rfl ?_
      refine z_ic kc_p0 dX8_take_156 ?_
      refine z_pZ fp_X8_298 dX8_take_157 (by decide) en_107 rfl rfl ?_
      refine z_aload_n dX8_take_160 rfl ?_
      obtain ⟨M28, c26, h⟩ := z_bv_c h
      refine z_cV (av := []) (st := []) lk_X8_301 dX8_take_161 (A_X8_tellWays_107 (d := d + 0) hl c26) rfl rfl en_107 rfl (Nat.le_of_ble_eq_true rfl) rfl z_len rfl rfl ?_
      cases h
      exact z_return dX8_take_164 rfl
    · replace h := (if_neg g25).symm.trans h
      refine z_aload_n dX8_take_91 rfl ?_
      refine z_getR (q := 124) fl_X8_73 dX8_take_92 en_107 rfl ?_
      refine z_iload_n dX8_take_95 rfl ?_
      refine z_iload_n dX8_take_96 rfl ?_
      refine z_aload_n dX8_take_97 rfl ?_
      refine z_getR (q := 109) fl_X8_23 dX8_take_98 en_107 rfl ?_
      refine z_ic kc_p1 dX8_take_101 ?_
      refine z_al (v := (M 109 1)) dX8_take_102 en_109 kn_p1 (z_ib_in rfl) rfl ?_
      refine z_icmp_ge (tgt := 115) dX8_take_103 rfl (fun g29 => ?_) (fun g29 => ?_)
      · replace h := (if_pos g29).symm.trans h
        refine z_ic kc_p0 dX8_take_115 ?_
        obtain ⟨g30, h⟩ := z_ifn h
        refine z_as dX8_take_116 (by decide) en_124 rfl (z_ib_in g30) ?_
        refine z_aload_n dX8_take_117 rfl ?_
        refine z_getR (q := 125) fl_X8_76 dX8_take_118 en_107 rfl ?_
        refine z_iload_n dX8_take_121 rfl ?_
        refine z_ic kc_p0 dX8_take_122 ?_
        obtain ⟨g31, h⟩ := z_ifn h
        refine z_as dX8_take_123 (by decide) en_125 rfl (z_ib_in g31) ?_
        refine z_ii (ls' := [.ref 107, .int (x1 + (1 : Int32))]) kc_p1 dX8_take_124 rfl (by decide) rfl ?_
        refine z_goto (tgt := 86) dX8_take_127 rfl ?_
        exact ih (x1 + (1 : Int32)) _ _ h
      · replace h := (if_neg g29).symm.trans h
        refine z_aload_n dX8_take_106 rfl ?_
        refine z_getR (q := 115) fl_X8_42 dX8_take_107 en_107 rfl ?_
        refine z_iload_n dX8_take_110 rfl ?_
        obtain ⟨g32, h⟩ := z_ifn h
        refine z_al (v := (M 115 x1.toNatClampNeg)) dX8_take_111 en_115 rfl (z_ib_in g32) rfl ?_
        refine z_goto (tgt := 116) dX8_take_112 rfl ?_
        obtain ⟨g33, h⟩ := z_ifn h
        refine z_as dX8_take_116 (by decide) en_124 rfl (z_ib_in g33) ?_
        refine z_aload_n dX8_take_117 rfl ?_
        refine z_getR (q := 125) fl_X8_76 dX8_take_118 en_107 rfl ?_
        refine z_iload_n dX8_take_121 rfl ?_
        refine z_ic kc_p0 dX8_take_122 ?_
        obtain ⟨g34, h⟩ := z_ifn h
        refine z_as dX8_take_123 (by decide) en_125 rfl (z_ib_in g34) ?_
        refine z_ii (ls' := [.ref 107, .int (x1 + (1 : Int32))]) kc_p1 dX8_take_124 rfl (by decide) rfl ?_
        refine z_goto (tgt := 86) dX8_take_127 rfl ?_
        exact ih (x1 + (1 : Int32)) _ _ h
theorem A_X8_take_107 {l : Launch} (hl : l.stackTraces = false) {Ls d : Nat} {Lm : zML}  {M M' : zMM} (h : f_X8_take_107  M = some M') : z_Ct l mX8_take (d + 2) 0 0 [.ref 107] (z_L0 Ls, M, Lm) (.inl none) (z_L0 Ls, M', Lm) := by
  replace h : (  z_bv (some (z_th M 109 0 5)) fun M2 =>
  z_bv (some (z_th M2 110 0 5)) fun M4 =>
  z_bv (some (z_th M4 111 0 5)) fun M6 =>
  z_bv (some (z_th M6 112 0 5)) fun M8 =>
  z_bv (some (z_th M8 113 0 5)) fun M10 =>
  z_bv (some (z_th M10 114 0 25)) fun M12 =>
  z_bv (some (z_th M12 116 0 11)) fun M14 =>
  z_bv (some (z_th M14 117 0 11)) fun M16 =>
  z_bv (some (z_th M16 118 0 4)) fun M18 =>
  z_bv (some (z_th M18 119 0 16)) fun M20 =>
  z_bv (some (z_th M20 120 0 4)) fun M22 =>
  z_bv (some (z_th M22 121 0 400)) fun M24 =>
  f_X8_take_107_p86 z_fuel (0 : Int32) M24) = some M' := h
  refine z_Ct.of hl (by decide) (Nat.le_of_ble_eq_true rfl) rfl ?_
  show z_AW l mX8_take (d + 2) 0 0 0 [.ref 107, .null] [] (z_L0 Ls, M, Lm) (.inl none) (z_L0 Ls, M', Lm)
  refine z_aload_n dX8_take_0 rfl ?_
  refine z_getR (q := 109) fl_X8_23 dX8_take_1 en_107 rfl ?_
  obtain ⟨M2, c1, h⟩ := z_bv_c h
  refine z_cS (av := [.ref 109]) (st := []) lk_X8_278 dX8_take_4 (z_Ct.to (A_X8_takeHalf (d := d + 1) hl (by decide) (by decide) (by decide +kernel) (by decide) en_109) c1) rfl rfl (Nat.le_of_ble_eq_true rfl) rfl z_len rfl rfl ?_
  refine z_aload_n dX8_take_7 rfl ?_
  refine z_getR (q := 110) fl_X8_27 dX8_take_8 en_107 rfl ?_
  obtain ⟨M4, c3, h⟩ := z_bv_c h
  refine z_cS (av := [.ref 110]) (st := []) lk_X8_278 dX8_take_11 (z_Ct.to (A_X8_takeHalf (d := d + 1) hl (by decide) (by decide) (by decide +kernel) (by decide) en_110) c3) rfl rfl (Nat.le_of_ble_eq_true rfl) rfl z_len rfl rfl ?_
  refine z_aload_n dX8_take_14 rfl ?_
  refine z_getR (q := 111) fl_X8_30 dX8_take_15 en_107 rfl ?_
  obtain ⟨M6, c5, h⟩ := z_bv_c h
  refine z_cS (av := [.ref 111]) (st := []) lk_X8_278 dX8_take_18 (z_Ct.to (A_X8_takeHalf (d := d + 1) hl (by decide) (by decide) (by decide +kernel) (by decide) en_111) c5) rfl rfl (Nat.le_of_ble_eq_true rfl) rfl z_len rfl rfl ?_
  refine z_aload_n dX8_take_21 rfl ?_
  refine z_getR (q := 112) fl_X8_33 dX8_take_22 en_107 rfl ?_
  obtain ⟨M8, c7, h⟩ := z_bv_c h
  refine z_cS (av := [.ref 112]) (st := []) lk_X8_278 dX8_take_25 (z_Ct.to (A_X8_takeHalf (d := d + 1) hl (by decide) (by decide) (by decide +kernel) (by decide) en_112) c7) rfl rfl (Nat.le_of_ble_eq_true rfl) rfl z_len rfl rfl ?_
  refine z_aload_n dX8_take_28 rfl ?_
  refine z_getR (q := 113) fl_X8_36 dX8_take_29 en_107 rfl ?_
  obtain ⟨M10, c9, h⟩ := z_bv_c h
  refine z_cS (av := [.ref 113]) (st := []) lk_X8_278 dX8_take_32 (z_Ct.to (A_X8_takeHalf (d := d + 1) hl (by decide) (by decide) (by decide +kernel) (by decide) en_113) c9) rfl rfl (Nat.le_of_ble_eq_true rfl) rfl z_len rfl rfl ?_
  refine z_aload_n dX8_take_35 rfl ?_
  refine z_getR (q := 114) fl_X8_39 dX8_take_36 en_107 rfl ?_
  obtain ⟨M12, c11, h⟩ := z_bv_c h
  refine z_cS (av := [.ref 114]) (st := []) lk_X8_278 dX8_take_39 (z_Ct.to (A_X8_takeHalf (d := d + 1) hl (by decide) (by decide) (by decide +kernel) (by decide) en_114) c11) rfl rfl (Nat.le_of_ble_eq_true rfl) rfl z_len rfl rfl ?_
  refine z_aload_n dX8_take_42 rfl ?_
  refine z_getR (q := 116) fl_X8_45 dX8_take_43 en_107 rfl ?_
  obtain ⟨M14, c13, h⟩ := z_bv_c h
  refine z_cS (av := [.ref 116]) (st := []) lk_X8_278 dX8_take_46 (z_Ct.to (A_X8_takeHalf (d := d + 1) hl (by decide) (by decide) (by decide +kernel) (by decide) en_116) c13) rfl rfl (Nat.le_of_ble_eq_true rfl) rfl z_len rfl rfl ?_
  refine z_aload_n dX8_take_49 rfl ?_
  refine z_getR (q := 117) fl_X8_48 dX8_take_50 en_107 rfl ?_
  obtain ⟨M16, c15, h⟩ := z_bv_c h
  refine z_cS (av := [.ref 117]) (st := []) lk_X8_278 dX8_take_53 (z_Ct.to (A_X8_takeHalf (d := d + 1) hl (by decide) (by decide) (by decide +kernel) (by decide) en_117) c15) rfl rfl (Nat.le_of_ble_eq_true rfl) rfl z_len rfl rfl ?_
  refine z_aload_n dX8_take_56 rfl ?_
  refine z_getR (q := 118) fl_X8_51 dX8_take_57 en_107 rfl ?_
  obtain ⟨M18, c17, h⟩ := z_bv_c h
  refine z_cS (av := [.ref 118]) (st := []) lk_X8_278 dX8_take_60 (z_Ct.to (A_X8_takeHalf (d := d + 1) hl (by decide) (by decide) (by decide +kernel) (by decide) en_118) c17) rfl rfl (Nat.le_of_ble_eq_true rfl) rfl z_len rfl rfl ?_
  refine z_aload_n dX8_take_63 rfl ?_
  refine z_getR (q := 119) fl_X8_54 dX8_take_64 en_107 rfl ?_
  obtain ⟨M20, c19, h⟩ := z_bv_c h
  refine z_cS (av := [.ref 119]) (st := []) lk_X8_278 dX8_take_67 (z_Ct.to (A_X8_takeHalf (d := d + 1) hl (by decide) (by decide) (by decide +kernel) (by decide) en_119) c19) rfl rfl (Nat.le_of_ble_eq_true rfl) rfl z_len rfl rfl ?_
  refine z_aload_n dX8_take_70 rfl ?_
  refine z_getR (q := 120) fl_X8_57 dX8_take_71 en_107 rfl ?_
  obtain ⟨M22, c21, h⟩ := z_bv_c h
  refine z_cS (av := [.ref 120]) (st := []) lk_X8_278 dX8_take_74 (z_Ct.to (A_X8_takeHalf (d := d + 1) hl (by decide) (by decide) (by decide +kernel) (by decide) en_120) c21) rfl rfl (Nat.le_of_ble_eq_true rfl) rfl z_len rfl rfl ?_
  refine z_aload_n dX8_take_77 rfl ?_
  refine z_getR (q := 121) fl_X8_60 dX8_take_78 en_107 rfl ?_
  obtain ⟨M24, c23, h⟩ := z_bv_c h
  refine z_cS (av := [.ref 121]) (st := []) lk_X8_278 dX8_take_81 (z_Ct.to (A_X8_takeHalf (d := d + 1) hl (by decide) (by decide) (by decide +kernel) (by decide) en_121) c23) rfl rfl (Nat.le_of_ble_eq_true rfl) rfl z_len rfl rfl ?_
  refine z_ic kc_p0 dX8_take_84 ?_
  refine z_istore_n (ls' := [.ref 107, .int (0 : Int32)]) dX8_take_85 (by decide) rfl ?_
  exact A_X8_take_107_p86 hl z_fuel (0 : Int32) _ _ h
/-! X8_is 107 None -/
def f_X8_is_107_p39 (s : Nat) : Nat → Int32 → Int32 → zMM → Option (Int32 × zMM)
  | 0, _, _, _ => none
  | n + 1, x2, x3, M =>
  if x2 = 0 then
    if z_zb x2 = true then some (x2, M) else none
  else
    if (z_sl s) ≤ x3 then
      if z_zb x2 = true then some (x2, M) else none
    else
      if z_ib x3 (z_sn s) = true then
        if z_ib ((M 107 22) + x3) 700 = true then
          if (z_ch (M (s + 24) x3.toNatClampNeg)) = (M 123 ((M 107 22) + x3).toNatClampNeg) then
            f_X8_is_107_p39 s n (1 : Int32) (x3 + (1 : Int32)) M
          else
            f_X8_is_107_p39 s n (0 : Int32) (x3 + (1 : Int32)) M
        else none
      else none
def f_X8_is_107 (s : Nat) (M : zMM) : Option (Int32 × zMM) :=
  if 3 ≤ s ∧ s < 27 then
  if (M 107 24) = 0 then
    if (M 107 20) = (1 : Int32) then
      if (z_sl s) = ((M 107 23) - (M 107 22)) then
        f_X8_is_107_p39 s z_fuel (1 : Int32) (0 : Int32) M
      else
        f_X8_is_107_p39 s z_fuel (0 : Int32) (0 : Int32) M
    else
      f_X8_is_107_p39 s z_fuel (0 : Int32) (0 : Int32) M
  else
    f_X8_is_107_p39 s z_fuel (0 : Int32) (0 : Int32) M
  else none
theorem A_X8_is_107_p39 {l : Launch} (hl : l.stackTraces = false) {Ls d : Nat} {Lm : zML} {s : Nat} (hs : 3 ≤ s ∧ s < 27) :
    ∀ (n : Nat) (x2 : Int32) (x3 : Int32) (M M' : zMM) (v : Int32) , f_X8_is_107_p39 s n x2 x3 M = some (v, M') → z_AW l mX8_is (d + 4) 0 0 39 [.ref 107, .ref s, .int x2, .int x3] [] (z_L0 Ls, M, Lm) (.inl (some (.int v))) (z_L0 Ls, M', Lm) := by
  intro n
  induction n with
  | zero => intro x2 x3 M M' v h; cases h
  | succ n ih =>
    intro x2 x3 M M' v h
    replace h : (  if x2 = 0 then
    if z_zb x2 = true then some (x2, M) else none
  else
    if (z_sl s) ≤ x3 then
      if z_zb x2 = true then some (x2, M) else none
    else
      if z_ib x3 (z_sn s) = true then
        if z_ib ((M 107 22) + x3) 700 = true then
          if (z_ch (M (s + 24) x3.toNatClampNeg)) = (M 123 ((M 107 22) + x3).toNatClampNeg) then
            f_X8_is_107_p39 s n (1 : Int32) (x3 + (1 : Int32)) M
          else
            f_X8_is_107_p39 s n (0 : Int32) (x3 + (1 : Int32)) M
        else none
      else none) = some (v, M') := h
    refine z_iload_n dX8_is_39 rfl ?_
    refine z_if_eq (tgt := 82) dX8_is_40 rfl (fun g4 => ?_) (fun g4 => ?_)
    · replace h := (if_pos g4).symm.trans h
      refine z_iload_n dX8_is_82 rfl ?_
      obtain ⟨g5, h⟩ := z_ifn h
      cases h
      exact z_rZ dX8_is_83 rfl g5
    · replace h := (if_neg g4).symm.trans h
      refine z_iload_n dX8_is_43 rfl ?_
      refine z_aload_n dX8_is_44 rfl ?_
      refine z_cQ (av := []) (st := [.int x3]) lk_X8_201 rfl dX8_is_45 (A_J0_length_8abf5 (d := d + 2) hl (z_se hs) (z_sw hs) z_sl_ok (z_sb hs)) rfl rfl (z_se hs) (Nat.le_of_ble_eq_true rfl) rfl z_len (show z_rbB [.ref 107, .ref s, .int x2, .int x3, .int x3] 150 = true from (z_rb_c rfl (z_rb_c (z_sb1 hs) (z_rb_c rfl (z_rb_c rfl (z_rb_c rfl rfl)))))) rfl ?_
      refine z_icmp_ge (tgt := 82) dX8_is_48 rfl (fun g6 => ?_) (fun g6 => ?_)
      · replace h := (if_pos g6).symm.trans h
        refine z_iload_n dX8_is_82 rfl ?_
        obtain ⟨g7, h⟩ := z_ifn h
        cases h
        exact z_rZ dX8_is_83 rfl g7
      · replace h := (if_neg g6).symm.trans h
        refine z_aload_n dX8_is_51 rfl ?_
        refine z_iload_n dX8_is_52 rfl ?_
        obtain ⟨g8, h⟩ := z_ifn h
        refine z_cQ (av := [.int x3]) (st := []) lk_X8_205 rfl dX8_is_53 (A_J0_charAt_5068e (d := d + 0) hl (z_sn_lt _) (z_se hs) (z_sw hs) (z_ib_in g8) (z_sb2 hs)) rfl rfl (z_se hs) (Nat.le_of_ble_eq_true rfl) rfl z_len (show z_rbB [.ref 107, .ref s, .int x2, .int x3] 150 = true from (z_rb_c rfl (z_rb_c (z_sb1 hs) (z_rb_c rfl (z_rb_c rfl rfl))))) rfl ?_
        refine z_aload_n dX8_is_56 rfl ?_
        refine z_getR (q := 123) fl_X8_66 dX8_is_57 en_107 rfl ?_
        refine z_aload_n dX8_is_60 rfl ?_
        refine z_gI (v := (M 107 22)) fl_X8_169 dX8_is_61 en_107 rfl rfl ?_
        refine z_iload_n dX8_is_64 rfl ?_
        refine z_iadd dX8_is_65 ?_
        obtain ⟨g9, h⟩ := z_ifn h
        refine z_al (v := (M 123 ((M 107 22) + x3).toNatClampNeg)) dX8_is_66 en_123 rfl (z_ib_in g9) rfl ?_
        refine z_icmp_ne (tgt := 74) dX8_is_67 rfl (fun g10 => ?_) (fun g10 => ?_)
        · replace h := (if_pos g10).symm.trans h
          refine z_ic kc_p1 dX8_is_70 ?_
          refine z_goto (tgt := 75) dX8_is_71 rfl ?_
          refine z_istore_n (ls' := [.ref 107, .ref s, .int (1 : Int32), .int x3]) dX8_is_75 (by decide) rfl ?_
          refine z_ii (ls' := [.ref 107, .ref s, .int (1 : Int32), .int (x3 + (1 : Int32))]) kc_p1 dX8_is_76 rfl (by decide) rfl ?_
          refine z_goto (tgt := 39) dX8_is_79 rfl ?_
          exact ih (1 : Int32) (x3 + (1 : Int32)) _ _ _ h
        · replace h := (if_neg g10).symm.trans h
          refine z_ic kc_p0 dX8_is_74 ?_
          refine z_istore_n (ls' := [.ref 107, .ref s, .int (0 : Int32), .int x3]) dX8_is_75 (by decide) rfl ?_
          refine z_ii (ls' := [.ref 107, .ref s, .int (0 : Int32), .int (x3 + (1 : Int32))]) kc_p1 dX8_is_76 rfl (by decide) rfl ?_
          refine z_goto (tgt := 39) dX8_is_79 rfl ?_
          exact ih (0 : Int32) (x3 + (1 : Int32)) _ _ _ h
theorem A_X8_is_107 {l : Launch} (hl : l.stackTraces = false) {Ls d : Nat} {Lm : zML} {s : Nat} {M M' : zMM} {v : Int32} (h : f_X8_is_107 s M = some (v, M')) : z_Ct l mX8_is (d + 4) 0 0 [.ref 107, .ref s] (z_L0 Ls, M, Lm) (.inl (some (.int v))) (z_L0 Ls, M', Lm) := by
  replace h : (  if 3 ≤ s ∧ s < 27 then
  if (M 107 24) = 0 then
    if (M 107 20) = (1 : Int32) then
      if (z_sl s) = ((M 107 23) - (M 107 22)) then
        f_X8_is_107_p39 s z_fuel (1 : Int32) (0 : Int32) M
      else
        f_X8_is_107_p39 s z_fuel (0 : Int32) (0 : Int32) M
    else
      f_X8_is_107_p39 s z_fuel (0 : Int32) (0 : Int32) M
  else
    f_X8_is_107_p39 s z_fuel (0 : Int32) (0 : Int32) M
  else none) = some (v, M') := h
  obtain ⟨hs, h⟩ := z_ifn h
  refine z_Ct.of hl (by decide) (Nat.le_of_ble_eq_true rfl) rfl ?_
  show z_AW l mX8_is (d + 4) 0 0 0 [.ref 107, .ref s, .null, .null] [] (z_L0 Ls, M, Lm) (.inl (some (.int v))) (z_L0 Ls, M', Lm)
  refine z_aload_n dX8_is_0 rfl ?_
  refine z_gI (v := (M 107 24)) fl_X8_195 dX8_is_1 en_107 rfl rfl ?_
  refine z_if_ne (tgt := 35) dX8_is_4 rfl (fun g1 => ?_) (fun g1 => ?_)
  · replace h := (if_pos g1).symm.trans h
    refine z_aload_n dX8_is_7 rfl ?_
    refine z_gI (v := (M 107 20)) fl_X8_172 dX8_is_8 en_107 rfl rfl ?_
    refine z_ic kc_p1 dX8_is_11 ?_
    refine z_icmp_ne (tgt := 35) dX8_is_12 rfl (fun g2 => ?_) (fun g2 => ?_)
    · replace h := (if_pos g2).symm.trans h
      refine z_aload_n dX8_is_15 rfl ?_
      refine z_cQ (av := []) (st := []) lk_X8_201 rfl dX8_is_16 (A_J0_length_8abf5 (d := d + 2) hl (z_se hs) (z_sw hs) z_sl_ok (z_sb hs)) rfl rfl (z_se hs) (Nat.le_of_ble_eq_true rfl) rfl z_len (show z_rbB [.ref 107, .ref s, .null, .null] 150 = true from (z_rb_c rfl (z_rb_c (z_sb1 hs) (z_rb_c rfl (z_rb_c rfl rfl))))) rfl ?_
      refine z_aload_n dX8_is_19 rfl ?_
      refine z_gI (v := (M 107 23)) fl_X8_192 dX8_is_20 en_107 rfl rfl ?_
      refine z_aload_n dX8_is_23 rfl ?_
      refine z_gI (v := (M 107 22)) fl_X8_169 dX8_is_24 en_107 rfl rfl ?_
      refine z_isub dX8_is_27 ?_
      refine z_icmp_ne (tgt := 35) dX8_is_28 rfl (fun g3 => ?_) (fun g3 => ?_)
      · replace h := (if_pos g3).symm.trans h
        refine z_ic kc_p1 dX8_is_31 ?_
        refine z_goto (tgt := 36) dX8_is_32 rfl ?_
        refine z_istore_n (ls' := [.ref 107, .ref s, .int (1 : Int32), .null]) dX8_is_36 (by decide) rfl ?_
        refine z_ic kc_p0 dX8_is_37 ?_
        refine z_istore_n (ls' := [.ref 107, .ref s, .int (1 : Int32), .int (0 : Int32)]) dX8_is_38 (by decide) rfl ?_
        exact A_X8_is_107_p39 hl hs z_fuel (1 : Int32) (0 : Int32) _ _ _ h
      · replace h := (if_neg g3).symm.trans h
        refine z_ic kc_p0 dX8_is_35 ?_
        refine z_istore_n (ls' := [.ref 107, .ref s, .int (0 : Int32), .null]) dX8_is_36 (by decide) rfl ?_
        refine z_ic kc_p0 dX8_is_37 ?_
        refine z_istore_n (ls' := [.ref 107, .ref s, .int (0 : Int32), .int (0 : Int32)]) dX8_is_38 (by decide) rfl ?_
        exact A_X8_is_107_p39 hl hs z_fuel (0 : Int32) (0 : Int32) _ _ _ h
    · replace h := (if_neg g2).symm.trans h
      refine z_ic kc_p0 dX8_is_35 ?_
      refine z_istore_n (ls' := [.ref 107, .ref s, .int (0 : Int32), .null]) dX8_is_36 (by decide) rfl ?_
      refine z_ic kc_p0 dX8_is_37 ?_
      refine z_istore_n (ls' := [.ref 107, .ref s, .int (0 : Int32), .int (0 : Int32)]) dX8_is_38 (by decide) rfl ?_
      exact A_X8_is_107_p39 hl hs z_fuel (0 : Int32) (0 : Int32) _ _ _ h
  · replace h := (if_neg g1).symm.trans h
    refine z_ic kc_p0 dX8_is_35 ?_
    refine z_istore_n (ls' := [.ref 107, .ref s, .int (0 : Int32), .null]) dX8_is_36 (by decide) rfl ?_
    refine z_ic kc_p0 dX8_is_37 ?_
    refine z_istore_n (ls' := [.ref 107, .ref s, .int (0 : Int32), .int (0 : Int32)]) dX8_is_38 (by decide) rfl ?_
    exact A_X8_is_107_p39 hl hs z_fuel (0 : Int32) (0 : Int32) _ _ _ h
/-! X8_passes 107 21 -/
def f_X8_passes_107_21  (M : zMM) : Option (Int32 × zMM) :=
  z_bi (f_X8_is_107 21 M) fun v2 M3 =>
  if v2 = 0 then
    if z_zb v2 = true then some (v2, M3) else none
  else
    z_bv (f_X8_stepOn_107  M3) fun M8 =>
    if z_zb v2 = true then some (v2, M8) else none
theorem A_X8_passes_107_21 {l : Launch} (hl : l.stackTraces = false) {Ls d : Nat} {Lm : zML}  {M M' : zMM} {v : Int32} (h : f_X8_passes_107_21  M = some (v, M')) : z_Ct l mX8_passes (d + 5) 0 0 [.ref 107, .ref 21] (z_L0 Ls, M, Lm) (.inl (some (.int v))) (z_L0 Ls, M', Lm) := by
  replace h : (  z_bi (f_X8_is_107 21 M) fun v2 M3 =>
  if v2 = 0 then
    if z_zb v2 = true then some (v2, M3) else none
  else
    z_bv (f_X8_stepOn_107  M3) fun M8 =>
    if z_zb v2 = true then some (v2, M8) else none) = some (v, M') := h
  refine z_Ct.of hl (by decide) (Nat.le_of_ble_eq_true rfl) rfl ?_
  show z_AW l mX8_passes (d + 5) 0 0 0 [.ref 107, .ref 21, .null] [] (z_L0 Ls, M, Lm) (.inl (some (.int v))) (z_L0 Ls, M', Lm)
  refine z_aload_n dX8_passes_0 rfl ?_
  refine z_aload_n dX8_passes_1 rfl ?_
  obtain ⟨v2, M3, c1, h⟩ := z_bi_c h
  refine z_cV (av := [.ref 21]) (st := []) lk_X8_209 dX8_passes_2 (A_X8_is_107 (d := d + 0) hl c1) rfl rfl en_107 rfl (Nat.le_of_ble_eq_true rfl) rfl z_len rfl rfl ?_
  refine z_istore_n (ls' := [.ref 107, .ref 21, .int v2]) dX8_passes_5 (by decide) rfl ?_
  refine z_iload_n dX8_passes_6 rfl ?_
  refine z_if_eq (tgt := 14) dX8_passes_7 rfl (fun g4 => ?_) (fun g4 => ?_)
  · replace h := (if_pos g4).symm.trans h
    refine z_iload_n dX8_passes_14 rfl ?_
    obtain ⟨g5, h⟩ := z_ifn h
    cases h
    exact z_rZ dX8_passes_15 rfl g5
  · replace h := (if_neg g4).symm.trans h
    refine z_aload_n dX8_passes_10 rfl ?_
    obtain ⟨M8, c6, h⟩ := z_bv_c h
    refine z_cV (av := []) (st := []) lk_X8_213 dX8_passes_11 (A_X8_stepOn_107 (d := d + 3) hl c6) rfl rfl en_107 rfl (Nat.le_of_ble_eq_true rfl) rfl z_len rfl rfl ?_
    refine z_iload_n dX8_passes_14 rfl ?_
    obtain ⟨g9, h⟩ := z_ifn h
    cases h
    exact z_rZ dX8_passes_15 rfl g9
/-! X8_passes 107 25 -/
def f_X8_passes_107_25  (M : zMM) : Option (Int32 × zMM) :=
  z_bi (f_X8_is_107 25 M) fun v2 M3 =>
  if v2 = 0 then
    if z_zb v2 = true then some (v2, M3) else none
  else
    z_bv (f_X8_stepOn_107  M3) fun M8 =>
    if z_zb v2 = true then some (v2, M8) else none
theorem A_X8_passes_107_25 {l : Launch} (hl : l.stackTraces = false) {Ls d : Nat} {Lm : zML}  {M M' : zMM} {v : Int32} (h : f_X8_passes_107_25  M = some (v, M')) : z_Ct l mX8_passes (d + 5) 0 0 [.ref 107, .ref 25] (z_L0 Ls, M, Lm) (.inl (some (.int v))) (z_L0 Ls, M', Lm) := by
  replace h : (  z_bi (f_X8_is_107 25 M) fun v2 M3 =>
  if v2 = 0 then
    if z_zb v2 = true then some (v2, M3) else none
  else
    z_bv (f_X8_stepOn_107  M3) fun M8 =>
    if z_zb v2 = true then some (v2, M8) else none) = some (v, M') := h
  refine z_Ct.of hl (by decide) (Nat.le_of_ble_eq_true rfl) rfl ?_
  show z_AW l mX8_passes (d + 5) 0 0 0 [.ref 107, .ref 25, .null] [] (z_L0 Ls, M, Lm) (.inl (some (.int v))) (z_L0 Ls, M', Lm)
  refine z_aload_n dX8_passes_0 rfl ?_
  refine z_aload_n dX8_passes_1 rfl ?_
  obtain ⟨v2, M3, c1, h⟩ := z_bi_c h
  refine z_cV (av := [.ref 25]) (st := []) lk_X8_209 dX8_passes_2 (A_X8_is_107 (d := d + 0) hl c1) rfl rfl en_107 rfl (Nat.le_of_ble_eq_true rfl) rfl z_len rfl rfl ?_
  refine z_istore_n (ls' := [.ref 107, .ref 25, .int v2]) dX8_passes_5 (by decide) rfl ?_
  refine z_iload_n dX8_passes_6 rfl ?_
  refine z_if_eq (tgt := 14) dX8_passes_7 rfl (fun g4 => ?_) (fun g4 => ?_)
  · replace h := (if_pos g4).symm.trans h
    refine z_iload_n dX8_passes_14 rfl ?_
    obtain ⟨g5, h⟩ := z_ifn h
    cases h
    exact z_rZ dX8_passes_15 rfl g5
  · replace h := (if_neg g4).symm.trans h
    refine z_aload_n dX8_passes_10 rfl ?_
    obtain ⟨M8, c6, h⟩ := z_bv_c h
    refine z_cV (av := []) (st := []) lk_X8_213 dX8_passes_11 (A_X8_stepOn_107 (d := d + 3) hl c6) rfl rfl en_107 rfl (Nat.le_of_ble_eq_true rfl) rfl z_len rfl rfl ?_
    refine z_iload_n dX8_passes_14 rfl ?_
    obtain ⟨g9, h⟩ := z_ifn h
    cases h
    exact z_rZ dX8_passes_15 rfl g9
/-! X8_wrong 107 -/
def f_X8_wrong_107 (x1 : Int32) (M : zMM) : Option zMM :=
  if (M 107 24) = 0 then
    some (z_up (z_up M 107 24 x1) 107 25 (M 107 22))
  else
    some M
theorem A_X8_wrong_107 {l : Launch} (hl : l.stackTraces = false) {Ls d : Nat} {Lm : zML} {x1 : Int32} {M M' : zMM} (h : f_X8_wrong_107 x1 M = some M') : z_Ct l mX8_wrong (d + 0) 0 0 [.ref 107, .int x1] (z_L0 Ls, M, Lm) (.inl none) (z_L0 Ls, M', Lm) := by
  replace h : (  if (M 107 24) = 0 then
    some (z_up (z_up M 107 24 x1) 107 25 (M 107 22))
  else
    some M) = some M' := h
  refine z_Ct.of hl (by decide) (Nat.le_of_ble_eq_true rfl) rfl ?_
  show z_AW l mX8_wrong (d + 0) 0 0 0 [.ref 107, .int x1] [] (z_L0 Ls, M, Lm) (.inl none) (z_L0 Ls, M', Lm)
  refine z_aload_n dX8_wrong_0 rfl ?_
  refine z_gI (v := (M 107 24)) fl_X8_195 dX8_wrong_1 en_107 rfl rfl ?_
  refine z_if_eq (tgt := 8) dX8_wrong_4 rfl (fun g1 => ?_) (fun g1 => ?_)
  · replace h := (if_pos g1).symm.trans h
    refine z_aload_n dX8_wrong_8 rfl ?_
    refine z_iload_n dX8_wrong_9 rfl ?_
    refine z_pI fp_X8_195 dX8_wrong_10 (by decide) en_107 rfl ?_
    refine z_aload_n dX8_wrong_13 rfl ?_
    refine z_aload_n dX8_wrong_14 rfl ?_
    refine z_gI (v := (M 107 22)) fl_X8_169 dX8_wrong_15 en_107 rfl rfl ?_
    refine z_pI fp_X8_198 dX8_wrong_18 (by decide) en_107 rfl ?_
    cases h
    exact z_return dX8_wrong_21 rfl
  · replace h := (if_neg g1).symm.trans h
    cases h
    exact z_return dX8_wrong_7 rfl
/-! X8_numberNow 107 -/
def f_X8_numberNow_107_p54 (M : zMM) : Option (Int32 × zMM) :=
  z_bv (f_X8_wrong_107 (2 : Int32) M) fun M6 =>
  if (M6 107 24) = 0 then
    some ((M6 107 21), M6)
  else
    some ((0 : Int32), M6)
def f_X8_numberNow_107 (x1 : Int32) (x2 : Int32) (M : zMM) : Option (Int32 × zMM) :=
  if (M 107 24) = 0 then
    if (M 107 20) = (2 : Int32) then
      if (4 : Int32) < ((M 107 23) - (M 107 22)) then
        f_X8_numberNow_107_p54  M
      else
        if (M 107 21) < x1 then
          f_X8_numberNow_107_p54  M
        else
          if (M 107 21) ≤ x2 then
            if (M 107 24) = 0 then
              some ((M 107 21), M)
            else
              some ((0 : Int32), M)
          else
            f_X8_numberNow_107_p54  M
    else
      z_bv (f_X8_wrong_107 (1 : Int32) M) fun M13 =>
      if (M13 107 24) = 0 then
        some ((M13 107 21), M13)
      else
        some ((0 : Int32), M13)
  else
    some ((0 : Int32), M)
theorem A_X8_numberNow_107_p54 {l : Launch} (hl : l.stackTraces = false) {Ls d : Nat} {Lm : zML} :
    ∀ (M M' : zMM) (v : Int32) , f_X8_numberNow_107_p54  M = some (v, M') → z_AW l mX8_numberNow (d + 1) 0 0 54 [.ref 107, .null, .null] [] (z_L0 Ls, M, Lm) (.inl (some (.int v))) (z_L0 Ls, M', Lm) := by
  intro  M M' v h
  replace h : (  z_bv (f_X8_wrong_107 (2 : Int32) M) fun M6 =>
  if (M6 107 24) = 0 then
    some ((M6 107 21), M6)
  else
    some ((0 : Int32), M6)) = some (v, M') := h
  refine z_aload_n dX8_numberNow_54 rfl ?_
  refine z_ic kc_p2 dX8_numberNow_55 ?_
  obtain ⟨M6, c4, h⟩ := z_bv_c h
  refine z_cV (av := [.int (2 : Int32)]) (st := []) lk_X8_216 dX8_numberNow_56 (A_X8_wrong_107 (d := d + 0) hl c4) rfl rfl en_107 rfl (Nat.le_of_ble_eq_true rfl) rfl z_len rfl rfl ?_
  refine z_aload_n dX8_numberNow_59 rfl ?_
  refine z_gI (v := (M6 107 24)) fl_X8_195 dX8_numberNow_60 en_107 rfl rfl ?_
  refine z_if_ne (tgt := 73) dX8_numberNow_63 rfl (fun g7 => ?_) (fun g7 => ?_)
  · replace h := (if_pos g7).symm.trans h
    refine z_aload_n dX8_numberNow_66 rfl ?_
    refine z_gI (v := (M6 107 21)) fl_X8_182 dX8_numberNow_67 en_107 rfl rfl ?_
    refine z_goto (tgt := 74) dX8_numberNow_70 rfl ?_
    cases h
    exact z_rI dX8_numberNow_74 rfl
  · replace h := (if_neg g7).symm.trans h
    refine z_ic kc_p0 dX8_numberNow_73 ?_
    cases h
    exact z_rI dX8_numberNow_74 rfl
theorem A_X8_numberNow_107 {l : Launch} (hl : l.stackTraces = false) {Ls d : Nat} {Lm : zML} {x1 : Int32} {x2 : Int32} {M M' : zMM} {v : Int32} (h : f_X8_numberNow_107 x1 x2 M = some (v, M')) : z_Ct l mX8_numberNow (d + 1) 0 0 [.ref 107, .int x1, .int x2] (z_L0 Ls, M, Lm) (.inl (some (.int v))) (z_L0 Ls, M', Lm) := by
  replace h : (  if (M 107 24) = 0 then
    if (M 107 20) = (2 : Int32) then
      if (4 : Int32) < ((M 107 23) - (M 107 22)) then
        f_X8_numberNow_107_p54  M
      else
        if (M 107 21) < x1 then
          f_X8_numberNow_107_p54  M
        else
          if (M 107 21) ≤ x2 then
            if (M 107 24) = 0 then
              some ((M 107 21), M)
            else
              some ((0 : Int32), M)
          else
            f_X8_numberNow_107_p54  M
    else
      z_bv (f_X8_wrong_107 (1 : Int32) M) fun M13 =>
      if (M13 107 24) = 0 then
        some ((M13 107 21), M13)
      else
        some ((0 : Int32), M13)
  else
    some ((0 : Int32), M)) = some (v, M') := h
  refine z_Ct.of hl (by decide) (Nat.le_of_ble_eq_true rfl) rfl ?_
  show z_AW l mX8_numberNow (d + 1) 0 0 0 [.ref 107, .int x1, .int x2] [] (z_L0 Ls, M, Lm) (.inl (some (.int v))) (z_L0 Ls, M', Lm)
  refine z_aload_n dX8_numberNow_0 rfl ?_
  refine z_gI (v := (M 107 24)) fl_X8_195 dX8_numberNow_1 en_107 rfl rfl ?_
  refine z_if_eq (tgt := 9) dX8_numberNow_4 rfl (fun g1 => ?_) (fun g1 => ?_)
  · replace h := (if_pos g1).symm.trans h
    refine z_aload_n dX8_numberNow_9 rfl ?_
    refine z_gI (v := (M 107 20)) fl_X8_172 dX8_numberNow_10 en_107 rfl rfl ?_
    refine z_ic kc_p2 dX8_numberNow_13 ?_
    refine z_icmp_eq (tgt := 25) dX8_numberNow_14 rfl (fun g2 => ?_) (fun g2 => ?_)
    · replace h := (if_pos g2).symm.trans h
      refine z_aload_n dX8_numberNow_25 rfl ?_
      refine z_gI (v := (M 107 23)) fl_X8_192 dX8_numberNow_26 en_107 rfl rfl ?_
      refine z_aload_n dX8_numberNow_29 rfl ?_
      refine z_gI (v := (M 107 22)) fl_X8_169 dX8_numberNow_30 en_107 rfl rfl ?_
      refine z_isub dX8_numberNow_33 ?_
      refine z_ic kc_p4 dX8_numberNow_34 ?_
      refine z_icmp_gt (tgt := 54) dX8_numberNow_35 rfl (fun g3 => ?_) (fun g3 => ?_)
      · replace h := (if_pos g3).symm.trans h
        refine z_fg (ls' := [.ref 107, .null, .null]) ⟨Or.inr rfl, Or.inl rfl, Or.inl rfl, trivial⟩ ?_
        exact A_X8_numberNow_107_p54 hl  _ _ _ h
      · replace h := (if_neg g3).symm.trans h
        refine z_aload_n dX8_numberNow_38 rfl ?_
        refine z_gI (v := (M 107 21)) fl_X8_182 dX8_numberNow_39 en_107 rfl rfl ?_
        refine z_iload_n dX8_numberNow_42 rfl ?_
        refine z_icmp_lt (tgt := 54) dX8_numberNow_43 rfl (fun g8 => ?_) (fun g8 => ?_)
        · replace h := (if_pos g8).symm.trans h
          refine z_fg (ls' := [.ref 107, .null, .null]) ⟨Or.inr rfl, Or.inl rfl, Or.inl rfl, trivial⟩ ?_
          exact A_X8_numberNow_107_p54 hl  _ _ _ h
        · replace h := (if_neg g8).symm.trans h
          refine z_aload_n dX8_numberNow_46 rfl ?_
          refine z_gI (v := (M 107 21)) fl_X8_182 dX8_numberNow_47 en_107 rfl rfl ?_
          refine z_iload_n dX8_numberNow_50 rfl ?_
          refine z_icmp_le (tgt := 59) dX8_numberNow_51 rfl (fun g9 => ?_) (fun g9 => ?_)
          · replace h := (if_pos g9).symm.trans h
            refine z_aload_n dX8_numberNow_59 rfl ?_
            refine z_gI (v := (M 107 24)) fl_X8_195 dX8_numberNow_60 en_107 rfl rfl ?_
            refine z_if_ne (tgt := 73) dX8_numberNow_63 rfl (fun g10 => ?_) (fun g10 => ?_)
            · replace h := (if_pos g10).symm.trans h
              refine z_aload_n dX8_numberNow_66 rfl ?_
              refine z_gI (v := (M 107 21)) fl_X8_182 dX8_numberNow_67 en_107 rfl rfl ?_
              refine z_goto (tgt := 74) dX8_numberNow_70 rfl ?_
              cases h
              exact z_rI dX8_numberNow_74 rfl
            · replace h := (if_neg g10).symm.trans h
              refine z_ic kc_p0 dX8_numberNow_73 ?_
              cases h
              exact z_rI dX8_numberNow_74 rfl
          · replace h := (if_neg g9).symm.trans h
            refine z_fg (ls' := [.ref 107, .null, .null]) ⟨Or.inr rfl, Or.inl rfl, Or.inl rfl, trivial⟩ ?_
            exact A_X8_numberNow_107_p54 hl  _ _ _ h
    · replace h := (if_neg g2).symm.trans h
      refine z_aload_n dX8_numberNow_17 rfl ?_
      refine z_ic kc_p1 dX8_numberNow_18 ?_
      obtain ⟨M13, c11, h⟩ := z_bv_c h
      refine z_cV (av := [.int (1 : Int32)]) (st := []) lk_X8_216 dX8_numberNow_19 (A_X8_wrong_107 (d := d + 0) hl c11) rfl rfl en_107 rfl (Nat.le_of_ble_eq_true rfl) rfl z_len rfl rfl ?_
      refine z_goto (tgt := 59) dX8_numberNow_22 rfl ?_
      refine z_aload_n dX8_numberNow_59 rfl ?_
      refine z_gI (v := (M13 107 24)) fl_X8_195 dX8_numberNow_60 en_107 rfl rfl ?_
      refine z_if_ne (tgt := 73) dX8_numberNow_63 rfl (fun g14 => ?_) (fun g14 => ?_)
      · replace h := (if_pos g14).symm.trans h
        refine z_aload_n dX8_numberNow_66 rfl ?_
        refine z_gI (v := (M13 107 21)) fl_X8_182 dX8_numberNow_67 en_107 rfl rfl ?_
        refine z_goto (tgt := 74) dX8_numberNow_70 rfl ?_
        cases h
        exact z_rI dX8_numberNow_74 rfl
      · replace h := (if_neg g14).symm.trans h
        refine z_ic kc_p0 dX8_numberNow_73 ?_
        cases h
        exact z_rI dX8_numberNow_74 rfl
  · replace h := (if_neg g1).symm.trans h
    refine z_ic kc_p0 dX8_numberNow_7 ?_
    cases h
    exact z_rI dX8_numberNow_8 rfl
