/-! X0_size 101 -/
def f_X0_size_101  (M : zMM) : Option (Int32 × zMM) :=
  some ((M 101 2), M)
theorem A_X0_size_101 {l : Launch} (hl : l.stackTraces = false) {Ls d : Nat} {Lm : zML}  {M M' : zMM} {v : Int32} (h : f_X0_size_101  M = some (v, M')) : z_Ct l mX0_size (d + 0) 0 0 [.ref 101] (z_L0 Ls, M, Lm) (.inl (some (.int v))) (z_L0 Ls, M', Lm) := by
  replace h : (  some ((M 101 2), M)) = some (v, M') := h
  refine z_Ct.of hl (by decide) (Nat.le_of_ble_eq_true rfl) rfl ?_
  show z_AW l mX0_size (d + 0) 0 0 0 [.ref 101] [] (z_L0 Ls, M, Lm) (.inl (some (.int v))) (z_L0 Ls, M', Lm)
  refine z_aload_n dX0_size_0 rfl ?_
  refine z_gI (v := (M 101 2)) fl_X0_19 dX0_size_1 en_101 rfl rfl ?_
  cases h
  exact z_rI dX0_size_4 rfl
/-! X7_count 51 -/
def f_X7_count_51 (x1 : Int32) (M : zMM) : Option ((Int32 ⊕ Nat) × zMM) :=
  if x1 = (0 : Int32) then
    some (.inl (M 53 0), M)
  else
    if x1 = (1 : Int32) then
      some (.inl (M 53 6), M)
    else
      if x1 = (2 : Int32) then
        some (.inl (M 53 8), M)
      else
        if x1 = (3 : Int32) then
          some (.inl (M 53 11), M)
        else
          if x1 = (4 : Int32) then
            some (.inl (M 53 16), M)
          else
            if x1 = (5 : Int32) then
              some (.inl (M 87 2), M)
            else
              if x1 = (6 : Int32) then
                some (.inl (M 87 5), M)
              else
                if x1 = (7 : Int32) then
                  z_bi (f_X0_size_101  M) fun v10 M11 =>
                  some (.inl v10, M11)
                else
                  if x1 = (8 : Int32) then
                    if (M 87 3) = 0 then
                      some (.inl (0 : Int32), M)
                    else
                      some (.inl (1 : Int32), M)
                  else
                    if x1 = (9 : Int32) then
                      some (.inl (M 51 1), M)
                    else
                      if x1 = (10 : Int32) then
                        some (.inl (z_at M 93 3 (x1 - (10 : Int32))), M)
                      else
                        if x1 = (11 : Int32) then
                          some (.inl (z_at M 93 3 (x1 - (10 : Int32))), M)
                        else
                          if x1 = (12 : Int32) then
                            some (.inl (z_at M 93 3 (x1 - (10 : Int32))), M)
                          else
                            some (.inr 0, M)
theorem A_X7_count_51 {l : Launch} (hl : l.stackTraces = false) {Ls d : Nat} {Lm : zML} {x1 : Int32} {M M' : zMM} {v : Int32 ⊕ Nat} (h : f_X7_count_51 x1 M = some (v, M')) : z_Ct l mX7_count (d + 6) (z_bo v) (6 * z_bo v) [.ref 51, .int x1] (z_L0 Ls, M, Lm) (z_oi v) (z_L0 Ls, M', Lm) := by
  replace h : (  if x1 = (0 : Int32) then
    some (.inl (M 53 0), M)
  else
    if x1 = (1 : Int32) then
      some (.inl (M 53 6), M)
    else
      if x1 = (2 : Int32) then
        some (.inl (M 53 8), M)
      else
        if x1 = (3 : Int32) then
          some (.inl (M 53 11), M)
        else
          if x1 = (4 : Int32) then
            some (.inl (M 53 16), M)
          else
            if x1 = (5 : Int32) then
              some (.inl (M 87 2), M)
            else
              if x1 = (6 : Int32) then
                some (.inl (M 87 5), M)
              else
                if x1 = (7 : Int32) then
                  z_bi (f_X0_size_101  M) fun v10 M11 =>
                  some (.inl v10, M11)
                else
                  if x1 = (8 : Int32) then
                    if (M 87 3) = 0 then
                      some (.inl (0 : Int32), M)
                    else
                      some (.inl (1 : Int32), M)
                  else
                    if x1 = (9 : Int32) then
                      some (.inl (M 51 1), M)
                    else
                      if x1 = (10 : Int32) then
                        some (.inl (z_at M 93 3 (x1 - (10 : Int32))), M)
                      else
                        if x1 = (11 : Int32) then
                          some (.inl (z_at M 93 3 (x1 - (10 : Int32))), M)
                        else
                          if x1 = (12 : Int32) then
                            some (.inl (z_at M 93 3 (x1 - (10 : Int32))), M)
                          else
                            some (.inr 0, M)) = some (v, M') := h
  refine z_Ct.of hl (by decide) (Nat.le_of_ble_eq_true rfl) rfl ?_
  show z_AW l mX7_count (d + 6) (z_bo v) (6 * z_bo v) 0 [.ref 51, .int x1] [] (z_L0 Ls, M, Lm) (z_oi v) (z_L0 Ls, M', Lm)
  refine z_iload_n dX7_count_0 rfl ?_
  by_cases g1 : x1 = (0 : Int32)
  · replace h := (if_pos g1).symm.trans h
    refine z_tswI (tgt := 68) dX7_count_1 g1 (by decide) (by decide) rfl rfl ?_
    refine z_aload_n dX7_count_68 rfl ?_
    refine z_getR (q := 53) fl_X7_23 dX7_count_69 en_51 rfl ?_
    refine z_gI (v := (M 53 0)) fl_X7_122 dX7_count_72 en_53 rfl rfl ?_
    cases h
    exact z_rI dX7_count_75 rfl
  · replace h := (if_neg g1).symm.trans h
    by_cases g2 : x1 = (1 : Int32)
    · replace h := (if_pos g2).symm.trans h
      refine z_tswI (tgt := 76) dX7_count_1 g2 (by decide) (by decide) rfl rfl ?_
      refine z_aload_n dX7_count_76 rfl ?_
      refine z_getR (q := 53) fl_X7_23 dX7_count_77 en_51 rfl ?_
      refine z_gI (v := (M 53 6)) fl_X7_125 dX7_count_80 en_53 rfl rfl ?_
      cases h
      exact z_rI dX7_count_83 rfl
    · replace h := (if_neg g2).symm.trans h
      by_cases g3 : x1 = (2 : Int32)
      · replace h := (if_pos g3).symm.trans h
        refine z_tswI (tgt := 84) dX7_count_1 g3 (by decide) (by decide) rfl rfl ?_
        refine z_aload_n dX7_count_84 rfl ?_
        refine z_getR (q := 53) fl_X7_23 dX7_count_85 en_51 rfl ?_
        refine z_gI (v := (M 53 8)) fl_X7_128 dX7_count_88 en_53 rfl rfl ?_
        cases h
        exact z_rI dX7_count_91 rfl
      · replace h := (if_neg g3).symm.trans h
        by_cases g4 : x1 = (3 : Int32)
        · replace h := (if_pos g4).symm.trans h
          refine z_tswI (tgt := 92) dX7_count_1 g4 (by decide) (by decide) rfl rfl ?_
          refine z_aload_n dX7_count_92 rfl ?_
          refine z_getR (q := 53) fl_X7_23 dX7_count_93 en_51 rfl ?_
          refine z_gI (v := (M 53 11)) fl_X7_131 dX7_count_96 en_53 rfl rfl ?_
          cases h
          exact z_rI dX7_count_99 rfl
        · replace h := (if_neg g4).symm.trans h
          by_cases g5 : x1 = (4 : Int32)
          · replace h := (if_pos g5).symm.trans h
            refine z_tswI (tgt := 100) dX7_count_1 g5 (by decide) (by decide) rfl rfl ?_
            refine z_aload_n dX7_count_100 rfl ?_
            refine z_getR (q := 53) fl_X7_23 dX7_count_101 en_51 rfl ?_
            refine z_gI (v := (M 53 16)) fl_X7_134 dX7_count_104 en_53 rfl rfl ?_
            cases h
            exact z_rI dX7_count_107 rfl
          · replace h := (if_neg g5).symm.trans h
            by_cases g6 : x1 = (5 : Int32)
            · replace h := (if_pos g6).symm.trans h
              refine z_tswI (tgt := 108) dX7_count_1 g6 (by decide) (by decide) rfl rfl ?_
              refine z_aload_n dX7_count_108 rfl ?_
              refine z_getR (q := 87) fl_X7_58 dX7_count_109 en_51 rfl ?_
              refine z_gI (v := (M 87 2)) fl_X7_137 dX7_count_112 en_87 rfl rfl ?_
              cases h
              exact z_rI dX7_count_115 rfl
            · replace h := (if_neg g6).symm.trans h
              by_cases g7 : x1 = (6 : Int32)
              · replace h := (if_pos g7).symm.trans h
                refine z_tswI (tgt := 116) dX7_count_1 g7 (by decide) (by decide) rfl rfl ?_
                refine z_aload_n dX7_count_116 rfl ?_
                refine z_getR (q := 87) fl_X7_58 dX7_count_117 en_51 rfl ?_
                refine z_gI (v := (M 87 5)) fl_X7_140 dX7_count_120 en_87 rfl rfl ?_
                cases h
                exact z_rI dX7_count_123 rfl
              · replace h := (if_neg g7).symm.trans h
                by_cases g8 : x1 = (7 : Int32)
                · replace h := (if_pos g8).symm.trans h
                  refine z_tswI (tgt := 124) dX7_count_1 g8 (by decide) (by decide) rfl rfl ?_
                  refine z_aload_n dX7_count_124 rfl ?_
                  refine z_getR (q := 101) fl_X7_72 dX7_count_125 en_51 rfl ?_
                  obtain ⟨v10, M11, c9, h⟩ := z_bi_c h
                  refine z_cV (av := []) (st := []) lk_X7_143 dX7_count_128 (A_X0_size_101 (d := d + 5) hl c9) rfl rfl en_101 rfl (Nat.le_of_ble_eq_true rfl) rfl z_len rfl rfl ?_
                  cases h
                  exact z_rI dX7_count_131 rfl
                · replace h := (if_neg g8).symm.trans h
                  by_cases g12 : x1 = (8 : Int32)
                  · replace h := (if_pos g12).symm.trans h
                    refine z_tswI (tgt := 132) dX7_count_1 g12 (by decide) (by decide) rfl rfl ?_
                    refine z_aload_n dX7_count_132 rfl ?_
                    refine z_getR (q := 87) fl_X7_58 dX7_count_133 en_51 rfl ?_
                    refine z_gI (v := (M 87 3)) fl_X7_146 dX7_count_136 en_87 rfl rfl ?_
                    refine z_if_eq (tgt := 146) dX7_count_139 rfl (fun g13 => ?_) (fun g13 => ?_)
                    · replace h := (if_pos g13).symm.trans h
                      refine z_ic kc_p0 dX7_count_146 ?_
                      cases h
                      exact z_rI dX7_count_147 rfl
                    · replace h := (if_neg g13).symm.trans h
                      refine z_ic kc_p1 dX7_count_142 ?_
                      refine z_goto (tgt := 147) dX7_count_143 rfl ?_
                      cases h
                      exact z_rI dX7_count_147 rfl
                  · replace h := (if_neg g12).symm.trans h
                    by_cases g14 : x1 = (9 : Int32)
                    · replace h := (if_pos g14).symm.trans h
                      refine z_tswI (tgt := 148) dX7_count_1 g14 (by decide) (by decide) rfl rfl ?_
                      refine z_aload_n dX7_count_148 rfl ?_
                      refine z_gI (v := (M 51 1)) fl_X7_13 dX7_count_149 en_51 rfl rfl ?_
                      cases h
                      exact z_rI dX7_count_152 rfl
                    · replace h := (if_neg g14).symm.trans h
                      by_cases g15 : x1 = (10 : Int32)
                      · replace h := (if_pos g15).symm.trans h
                        refine z_tswI (tgt := 153) dX7_count_1 g15 (by decide) (by decide) rfl rfl ?_
                        refine z_aload_n dX7_count_153 rfl ?_
                        refine z_getR (q := 87) fl_X7_58 dX7_count_154 en_51 rfl ?_
                        refine z_getR (q := 93) fl_X7_149 dX7_count_157 en_87 rfl ?_
                        refine z_iload_n dX7_count_160 rfl ?_
                        refine z_bp kb_p10 dX7_count_161 ?_
                        refine z_isub dX7_count_163 ?_
                        refine z_cS (av := [.ref 93, .int (x1 - (10 : Int32))]) (st := []) (v := some (.int (z_at M 93 3 (x1 - (10 : Int32))))) lk_X7_153 dX7_count_164 (A_X7_at (d := d + 5) hl (by decide) en_93) rfl rfl (Nat.le_of_ble_eq_true rfl) rfl z_len rfl rfl ?_
                        cases h
                        exact z_rI dX7_count_167 rfl
                      · replace h := (if_neg g15).symm.trans h
                        by_cases g16 : x1 = (11 : Int32)
                        · replace h := (if_pos g16).symm.trans h
                          refine z_tswI (tgt := 153) dX7_count_1 g16 (by decide) (by decide) rfl rfl ?_
                          refine z_aload_n dX7_count_153 rfl ?_
                          refine z_getR (q := 87) fl_X7_58 dX7_count_154 en_51 rfl ?_
                          refine z_getR (q := 93) fl_X7_149 dX7_count_157 en_87 rfl ?_
                          refine z_iload_n dX7_count_160 rfl ?_
                          refine z_bp kb_p10 dX7_count_161 ?_
                          refine z_isub dX7_count_163 ?_
                          refine z_cS (av := [.ref 93, .int (x1 - (10 : Int32))]) (st := []) (v := some (.int (z_at M 93 3 (x1 - (10 : Int32))))) lk_X7_153 dX7_count_164 (A_X7_at (d := d + 5) hl (by decide) en_93) rfl rfl (Nat.le_of_ble_eq_true rfl) rfl z_len rfl rfl ?_
                          cases h
                          exact z_rI dX7_count_167 rfl
                        · replace h := (if_neg g16).symm.trans h
                          by_cases g17 : x1 = (12 : Int32)
                          · replace h := (if_pos g17).symm.trans h
                            refine z_tswI (tgt := 153) dX7_count_1 g17 (by decide) (by decide) rfl rfl ?_
                            refine z_aload_n dX7_count_153 rfl ?_
                            refine z_getR (q := 87) fl_X7_58 dX7_count_154 en_51 rfl ?_
                            refine z_getR (q := 93) fl_X7_149 dX7_count_157 en_87 rfl ?_
                            refine z_iload_n dX7_count_160 rfl ?_
                            refine z_bp kb_p10 dX7_count_161 ?_
                            refine z_isub dX7_count_163 ?_
                            refine z_cS (av := [.ref 93, .int (x1 - (10 : Int32))]) (st := []) (v := some (.int (z_at M 93 3 (x1 - (10 : Int32))))) lk_X7_153 dX7_count_164 (A_X7_at (d := d + 5) hl (by decide) en_93) rfl rfl (Nat.le_of_ble_eq_true rfl) rfl z_len rfl rfl ?_
                            cases h
                            exact z_rI dX7_count_167 rfl
                          · replace h := (if_neg g17).symm.trans h
                            refine z_tswO (tgt := 168) dX7_count_1 [(0 : Int32), (1 : Int32), (2 : Int32), (3 : Int32), (4 : Int32), (5 : Int32), (6 : Int32), (7 : Int32), (8 : Int32), (9 : Int32), (10 : Int32), (11 : Int32), (12 : Int32)] (by simp only [List.mem_cons, List.not_mem_nil, or_false, forall_eq_or_imp, forall_eq]; exact ⟨g1, g2, g3, g4, g5, g6, g7, g8, g12, g14, g15, g16, g17⟩) (by decide +kernel) rfl ?_
                            cases h
                            exact z_throw (text := "no such count") z_tpN (by decide +kernel) rfl (by omega) (Nat.le_of_ble_eq_true rfl) (Nat.le_refl _) (Nat.le_refl _) dX7_count_168 dX7_count_171 dX7_count_172 dX7_count_174 dX7_count_177
/-! X0_keep 101 87 -/
def f_X0_keep_101_87_p98 : Nat → Int32 → Int32 → zMM → Option zMM
  | 0, _, _, _ => none
  | n + 1, x2, x3, M =>
  if (5 : Int32) ≤ x3 then
    some M
  else
    z_bv (some (z_pt M 102 1300 ((x2 + (3 : Int32)) + ((2 : Int32) * x3)) (z_at M 88 5 x3))) fun M11 =>
    z_bv (some (z_pt M11 102 1300 ((x2 + (4 : Int32)) + ((2 : Int32) * x3)) (z_at M11 89 5 x3))) fun M13 =>
    f_X0_keep_101_87_p98 n x2 (x3 + (1 : Int32)) M13
def f_X0_keep_101_87_p79 (x2 : Int32) (a0 : Int32) (a1 : Int32) (M : zMM) : Option zMM :=
  z_bv (some (z_pt M 102 1300 a1 a0)) fun M6 =>
  z_bv (some (z_pt M6 102 1300 (x2 + (2 : Int32)) (M6 87 4))) fun M8 =>
  f_X0_keep_101_87_p98 z_fuel x2 (0 : Int32) M8
def f_X0_keep_101_87_p22 (a0 : Int32) (M : zMM) : Option zMM :=
  z_bv (some (z_pt (z_up (z_up M 101 1 a0) 101 2 (z_min ((M 101 2) + (1 : Int32)) (100 : Int32))) 102 1300 (a0 * (13 : Int32)) (M 87 2))) fun M3 =>
  if (M3 87 3) = 0 then
    f_X0_keep_101_87_p79 (a0 * (13 : Int32)) (0 : Int32) ((a0 * (13 : Int32)) + (1 : Int32)) M3
  else
    f_X0_keep_101_87_p79 (a0 * (13 : Int32)) (1 : Int32) ((a0 * (13 : Int32)) + (1 : Int32)) M3
def f_X0_keep_101_87  (M : zMM) : Option zMM :=
  if (100 : Int32) ≤ ((M 101 1) + (1 : Int32)) then
    f_X0_keep_101_87_p22 (0 : Int32) M
  else
    f_X0_keep_101_87_p22 ((M 101 1) + (1 : Int32)) M
theorem A_X0_keep_101_87_p98 {l : Launch} (hl : l.stackTraces = false) {Ls d : Nat} {Lm : zML} :
    ∀ (n : Nat) (x2 : Int32) (x3 : Int32) (M M' : zMM) , f_X0_keep_101_87_p98 n x2 x3 M = some M' → z_AW l mX0_keep (d + 1) 0 0 98 [.ref 101, .ref 87, .int x2, .int x3] [] (z_L0 Ls, M, Lm) (.inl none) (z_L0 Ls, M', Lm) := by
  intro n
  induction n with
  | zero => intro x2 x3 M M' h; cases h
  | succ n ih =>
    intro x2 x3 M M' h
    replace h : (  if (5 : Int32) ≤ x3 then
    some M
  else
    z_bv (some (z_pt M 102 1300 ((x2 + (3 : Int32)) + ((2 : Int32) * x3)) (z_at M 88 5 x3))) fun M11 =>
    z_bv (some (z_pt M11 102 1300 ((x2 + (4 : Int32)) + ((2 : Int32) * x3)) (z_at M11 89 5 x3))) fun M13 =>
    f_X0_keep_101_87_p98 n x2 (x3 + (1 : Int32)) M13) = some M' := h
    refine z_iload_n dX0_keep_98 rfl ?_
    refine z_ic kc_p5 dX0_keep_99 ?_
    refine z_icmp_ge (tgt := 153) dX0_keep_100 rfl (fun g9 => ?_) (fun g9 => ?_)
    · replace h := (if_pos g9).symm.trans h
      cases h
      exact z_return dX0_keep_153 rfl
    · replace h := (if_neg g9).symm.trans h
      refine z_aload_n dX0_keep_103 rfl ?_
      refine z_getR (q := 102) fl_X0_11 dX0_keep_104 en_101 rfl ?_
      refine z_iload_n dX0_keep_107 rfl ?_
      refine z_ic kc_p3 dX0_keep_108 ?_
      refine z_iadd dX0_keep_109 ?_
      refine z_ic kc_p2 dX0_keep_110 ?_
      refine z_iload_n dX0_keep_111 rfl ?_
      refine z_imul dX0_keep_112 ?_
      refine z_iadd dX0_keep_113 ?_
      refine z_aload_n dX0_keep_114 rfl ?_
      refine z_getR (q := 88) fl_X0_44 dX0_keep_115 en_87 rfl ?_
      refine z_iload_n dX0_keep_118 rfl ?_
      refine z_cN (av := [.ref 88, .int x3]) (st := [.int ((x2 + (3 : Int32)) + ((2 : Int32) * x3)), .ref 102]) (v := some (.int (z_at M 88 5 x3))) lk_X0_47 dX0_keep_119 (A_X7_at (d := d + 0) hl (by decide) en_88) rfl rfl (Nat.le_of_ble_eq_true rfl) rfl z_len rfl rfl ?_
      obtain ⟨M11, c10, h⟩ := z_bv_c h
      refine z_cN (av := [.ref 102, .int ((x2 + (3 : Int32)) + ((2 : Int32) * x3)), .int (z_at M 88 5 x3)]) (st := []) lk_X0_33 dX0_keep_122 (z_Ct.to (A_X7_put (d := d + 0) hl (by decide) (by decide) en_102) c10) rfl rfl (Nat.le_of_ble_eq_true rfl) rfl z_len rfl rfl ?_
      refine z_aload_n dX0_keep_125 rfl ?_
      refine z_getR (q := 102) fl_X0_11 dX0_keep_126 en_101 rfl ?_
      refine z_iload_n dX0_keep_129 rfl ?_
      refine z_ic kc_p4 dX0_keep_130 ?_
      refine z_iadd dX0_keep_131 ?_
      refine z_ic kc_p2 dX0_keep_132 ?_
      refine z_iload_n dX0_keep_133 rfl ?_
      refine z_imul dX0_keep_134 ?_
      refine z_iadd dX0_keep_135 ?_
      refine z_aload_n dX0_keep_136 rfl ?_
      refine z_getR (q := 89) fl_X0_51 dX0_keep_137 en_87 rfl ?_
      refine z_iload_n dX0_keep_140 rfl ?_
      refine z_cN (av := [.ref 89, .int x3]) (st := [.int ((x2 + (4 : Int32)) + ((2 : Int32) * x3)), .ref 102]) (v := some (.int (z_at M11 89 5 x3))) lk_X0_47 dX0_keep_141 (A_X7_at (d := d + 0) hl (by decide) en_89) rfl rfl (Nat.le_of_ble_eq_true rfl) rfl z_len rfl rfl ?_
      obtain ⟨M13, c12, h⟩ := z_bv_c h
      refine z_cN (av := [.ref 102, .int ((x2 + (4 : Int32)) + ((2 : Int32) * x3)), .int (z_at M11 89 5 x3)]) (st := []) lk_X0_33 dX0_keep_144 (z_Ct.to (A_X7_put (d := d + 0) hl (by decide) (by decide) en_102) c12) rfl rfl (Nat.le_of_ble_eq_true rfl) rfl z_len rfl rfl ?_
      refine z_ii (ls' := [.ref 101, .ref 87, .int x2, .int (x3 + (1 : Int32))]) kc_p1 dX0_keep_147 rfl (by decide) rfl ?_
      refine z_goto (tgt := 98) dX0_keep_150 rfl ?_
      exact ih x2 (x3 + (1 : Int32)) _ _ h
theorem A_X0_keep_101_87_p79 {l : Launch} (hl : l.stackTraces = false) {Ls d : Nat} {Lm : zML} :
    ∀ (x2 : Int32) (a0 : Int32) (a1 : Int32) (M M' : zMM) , f_X0_keep_101_87_p79 x2 a0 a1 M = some M' → z_AW l mX0_keep (d + 1) 0 0 79 [.ref 101, .ref 87, .int x2, .null] [.int a0, .int a1, .ref 102] (z_L0 Ls, M, Lm) (.inl none) (z_L0 Ls, M', Lm) := by
  intro x2 a0 a1 M M' h
  replace h : (  z_bv (some (z_pt M 102 1300 a1 a0)) fun M6 =>
  z_bv (some (z_pt M6 102 1300 (x2 + (2 : Int32)) (M6 87 4))) fun M8 =>
  f_X0_keep_101_87_p98 z_fuel x2 (0 : Int32) M8) = some M' := h
  obtain ⟨M6, c5, h⟩ := z_bv_c h
  refine z_cN (av := [.ref 102, .int a1, .int a0]) (st := []) lk_X0_33 dX0_keep_79 (z_Ct.to (A_X7_put (d := d + 0) hl (by decide) (by decide) en_102) c5) rfl rfl (Nat.le_of_ble_eq_true rfl) rfl z_len rfl rfl ?_
  refine z_aload_n dX0_keep_82 rfl ?_
  refine z_getR (q := 102) fl_X0_11 dX0_keep_83 en_101 rfl ?_
  refine z_iload_n dX0_keep_86 rfl ?_
  refine z_ic kc_p2 dX0_keep_87 ?_
  refine z_iadd dX0_keep_88 ?_
  refine z_aload_n dX0_keep_89 rfl ?_
  refine z_gI (v := (M6 87 4)) fl_X0_41 dX0_keep_90 en_87 rfl rfl ?_
  obtain ⟨M8, c7, h⟩ := z_bv_c h
  refine z_cN (av := [.ref 102, .int (x2 + (2 : Int32)), .int (M6 87 4)]) (st := []) lk_X0_33 dX0_keep_93 (z_Ct.to (A_X7_put (d := d + 0) hl (by decide) (by decide) en_102) c7) rfl rfl (Nat.le_of_ble_eq_true rfl) rfl z_len rfl rfl ?_
  refine z_ic kc_p0 dX0_keep_96 ?_
  refine z_istore_n (ls' := [.ref 101, .ref 87, .int x2, .int (0 : Int32)]) dX0_keep_97 (by decide) rfl ?_
  exact A_X0_keep_101_87_p98 hl z_fuel x2 (0 : Int32) _ _ h
theorem A_X0_keep_101_87_p22 {l : Launch} (hl : l.stackTraces = false) {Ls d : Nat} {Lm : zML} :
    ∀ (a0 : Int32) (M M' : zMM) , f_X0_keep_101_87_p22 a0 M = some M' → z_AW l mX0_keep (d + 1) 0 0 22 [.ref 101, .ref 87, .null, .null] [.int a0, .ref 101] (z_L0 Ls, M, Lm) (.inl none) (z_L0 Ls, M', Lm) := by
  intro a0 M M' h
  replace h : (  z_bv (some (z_pt (z_up (z_up M 101 1 a0) 101 2 (z_min ((M 101 2) + (1 : Int32)) (100 : Int32))) 102 1300 (a0 * (13 : Int32)) (M 87 2))) fun M3 =>
  if (M3 87 3) = 0 then
    f_X0_keep_101_87_p79 (a0 * (13 : Int32)) (0 : Int32) ((a0 * (13 : Int32)) + (1 : Int32)) M3
  else
    f_X0_keep_101_87_p79 (a0 * (13 : Int32)) (1 : Int32) ((a0 * (13 : Int32)) + (1 : Int32)) M3) = some M' := h
  refine z_pI fp_X0_15 dX0_keep_22 (by decide) en_101 rfl ?_
  refine z_aload_n dX0_keep_25 rfl ?_
  refine z_aload_n dX0_keep_26 rfl ?_
  refine z_gI (v := (M 101 2)) fl_X0_19 dX0_keep_27 en_101 rfl rfl ?_
  refine z_ic kc_p1 dX0_keep_30 ?_
  refine z_iadd dX0_keep_31 ?_
  refine z_bp kb_p100 dX0_keep_32 ?_
  refine z_mmin lk_X0_22 dX0_keep_34 (Nat.le_of_ble_eq_true rfl) (by omega) ?_
  refine z_pI fp_X0_19 dX0_keep_37 (by decide) en_101 rfl ?_
  refine z_aload_n dX0_keep_40 rfl ?_
  refine z_gI (v := a0) fl_X0_15 dX0_keep_41 en_101 rfl rfl ?_
  refine z_bp kb_p13 dX0_keep_44 ?_
  refine z_imul dX0_keep_46 ?_
  refine z_istore_n (ls' := [.ref 101, .ref 87, .int (a0 * (13 : Int32)), .null]) dX0_keep_47 (by decide) rfl ?_
  refine z_aload_n dX0_keep_48 rfl ?_
  refine z_getR (q := 102) fl_X0_11 dX0_keep_49 en_101 rfl ?_
  refine z_iload_n dX0_keep_52 rfl ?_
  refine z_aload_n dX0_keep_53 rfl ?_
  refine z_gI (v := (M 87 2)) fl_X0_28 dX0_keep_54 en_87 rfl rfl ?_
  obtain ⟨M3, c2, h⟩ := z_bv_c h
  refine z_cN (av := [.ref 102, .int (a0 * (13 : Int32)), .int (M 87 2)]) (st := []) lk_X0_33 dX0_keep_57 (z_Ct.to (A_X7_put (d := d + 0) hl (by decide) (by decide) en_102) c2) rfl rfl (Nat.le_of_ble_eq_true rfl) rfl z_len rfl rfl ?_
  refine z_aload_n dX0_keep_60 rfl ?_
  refine z_getR (q := 102) fl_X0_11 dX0_keep_61 en_101 rfl ?_
  refine z_iload_n dX0_keep_64 rfl ?_
  refine z_ic kc_p1 dX0_keep_65 ?_
  refine z_iadd dX0_keep_66 ?_
  refine z_aload_n dX0_keep_67 rfl ?_
  refine z_gI (v := (M3 87 3)) fl_X0_37 dX0_keep_68 en_87 rfl rfl ?_
  refine z_if_eq (tgt := 78) dX0_keep_71 rfl (fun g4 => ?_) (fun g4 => ?_)
  · replace h := (if_pos g4).symm.trans h
    refine z_ic kc_p0 dX0_keep_78 ?_
    exact A_X0_keep_101_87_p79 hl (a0 * (13 : Int32)) (0 : Int32) ((a0 * (13 : Int32)) + (1 : Int32)) _ _ h
  · replace h := (if_neg g4).symm.trans h
    refine z_ic kc_p1 dX0_keep_74 ?_
    refine z_goto (tgt := 79) dX0_keep_75 rfl ?_
    exact A_X0_keep_101_87_p79 hl (a0 * (13 : Int32)) (1 : Int32) ((a0 * (13 : Int32)) + (1 : Int32)) _ _ h
theorem A_X0_keep_101_87 {l : Launch} (hl : l.stackTraces = false) {Ls d : Nat} {Lm : zML}  {M M' : zMM} (h : f_X0_keep_101_87  M = some M') : z_Ct l mX0_keep (d + 1) 0 0 [.ref 101, .ref 87] (z_L0 Ls, M, Lm) (.inl none) (z_L0 Ls, M', Lm) := by
  replace h : (  if (100 : Int32) ≤ ((M 101 1) + (1 : Int32)) then
    f_X0_keep_101_87_p22 (0 : Int32) M
  else
    f_X0_keep_101_87_p22 ((M 101 1) + (1 : Int32)) M) = some M' := h
  refine z_Ct.of hl (by decide) (Nat.le_of_ble_eq_true rfl) rfl ?_
  show z_AW l mX0_keep (d + 1) 0 0 0 [.ref 101, .ref 87, .null, .null] [] (z_L0 Ls, M, Lm) (.inl none) (z_L0 Ls, M', Lm)
  refine z_aload_n dX0_keep_0 rfl ?_
  refine z_aload_n dX0_keep_1 rfl ?_
  refine z_gI (v := (M 101 1)) fl_X0_15 dX0_keep_2 en_101 rfl rfl ?_
  refine z_ic kc_p1 dX0_keep_5 ?_
  refine z_iadd dX0_keep_6 ?_
  refine z_bp kb_p100 dX0_keep_7 ?_
  refine z_icmp_ge (tgt := 21) dX0_keep_9 rfl (fun g1 => ?_) (fun g1 => ?_)
  · replace h := (if_pos g1).symm.trans h
    refine z_ic kc_p0 dX0_keep_21 ?_
    exact A_X0_keep_101_87_p22 hl (0 : Int32) _ _ h
  · replace h := (if_neg g1).symm.trans h
    refine z_aload_n dX0_keep_12 rfl ?_
    refine z_gI (v := (M 101 1)) fl_X0_15 dX0_keep_13 en_101 rfl rfl ?_
    refine z_ic kc_p1 dX0_keep_16 ?_
    refine z_iadd dX0_keep_17 ?_
    refine z_goto (tgt := 22) dX0_keep_18 rfl ?_
    exact A_X0_keep_101_87_p22 hl ((M 101 1) + (1 : Int32)) _ _ h
/-! X7_days 51 -/
def f_X7_days_51 (x1 : Int32) (M : zMM) : Option ((Int32 ⊕ Nat) × zMM) :=
  if x1 < 0 then
    some (.inr 1, M)
  else
    if x1 ≤ (99 : Int32) then
      z_bv (f_X0_keep_101_87  M) fun M5 =>
      some (.inl ((M5 87 2) + x1), (z_up M5 87 2 ((M5 87 2) + x1)))
    else
      some (.inr 1, M)
theorem A_X7_days_51 {l : Launch} (hl : l.stackTraces = false) {Ls d : Nat} {Lm : zML} {x1 : Int32} {M M' : zMM} {v : Int32 ⊕ Nat} (h : f_X7_days_51 x1 M = some (v, M')) : z_Ct l mX7_days (d + 6) (z_bo v) (6 * z_bo v) [.ref 51, .int x1] (z_L0 Ls, M, Lm) (z_oi v) (z_L0 Ls, M', Lm) := by
  replace h : (  if x1 < 0 then
    some (.inr 1, M)
  else
    if x1 ≤ (99 : Int32) then
      z_bv (f_X0_keep_101_87  M) fun M5 =>
      some (.inl ((M5 87 2) + x1), (z_up M5 87 2 ((M5 87 2) + x1)))
    else
      some (.inr 1, M)) = some (v, M') := h
  refine z_Ct.of hl (by decide) (Nat.le_of_ble_eq_true rfl) rfl ?_
  show z_AW l mX7_days (d + 6) (z_bo v) (6 * z_bo v) 0 [.ref 51, .int x1] [] (z_L0 Ls, M, Lm) (z_oi v) (z_L0 Ls, M', Lm)
  refine z_iload_n dX7_days_0 rfl ?_
  refine z_if_lt (tgt := 10) dX7_days_1 rfl (fun g1 => ?_) (fun g1 => ?_)
  · replace h := (if_pos g1).symm.trans h
    cases h
    exact z_throwW (text := "so many days can't go by") z_tpI (by decide +kernel) rfl (by omega) (Nat.le_of_ble_eq_true rfl) (Nat.le_refl _) (Nat.le_refl _) dX7_days_10 dX7_days_13 dX7_days_14 dX7_days_17 dX7_days_20
  · replace h := (if_neg g1).symm.trans h
    refine z_iload_n dX7_days_4 rfl ?_
    refine z_bp kb_p99 dX7_days_5 ?_
    refine z_icmp_le (tgt := 21) dX7_days_7 rfl (fun g2 => ?_) (fun g2 => ?_)
    · replace h := (if_pos g2).symm.trans h
      refine z_aload_n dX7_days_21 rfl ?_
      refine z_getR (q := 101) fl_X7_72 dX7_days_22 en_51 rfl ?_
      refine z_aload_n dX7_days_25 rfl ?_
      refine z_getR (q := 87) fl_X7_58 dX7_days_26 en_51 rfl ?_
      obtain ⟨M5, c3, h⟩ := z_bv_c h
      refine z_cV (av := [.ref 87]) (st := []) lk_X7_281 dX7_days_29 (A_X0_keep_101_87 (d := d + 4) hl c3) rfl rfl en_101 rfl (Nat.le_of_ble_eq_true rfl) rfl z_len rfl rfl ?_
      refine z_aload_n dX7_days_32 rfl ?_
      refine z_getR (q := 87) fl_X7_58 dX7_days_33 en_51 rfl ?_
      refine z_dup dX7_days_36 rfl ?_
      refine z_gI (v := (M5 87 2)) fl_X7_137 dX7_days_37 en_87 rfl rfl ?_
      refine z_iload_n dX7_days_40 rfl ?_
      refine z_iadd dX7_days_41 ?_
      refine z_pI fp_X7_137 dX7_days_42 (by decide) en_87 rfl ?_
      refine z_aload_n dX7_days_45 rfl ?_
      refine z_getR (q := 87) fl_X7_58 dX7_days_46 en_51 rfl ?_
      refine z_gI (v := ((M5 87 2) + x1)) fl_X7_137 dX7_days_49 en_87 rfl rfl ?_
      cases h
      exact z_rI dX7_days_52 rfl
    · replace h := (if_neg g2).symm.trans h
      cases h
      exact z_throwW (text := "so many days can't go by") z_tpI (by decide +kernel) rfl (by omega) (Nat.le_of_ble_eq_true rfl) (Nat.le_refl _) (Nat.le_refl _) dX7_days_10 dX7_days_13 dX7_days_14 dX7_days_17 dX7_days_20
/-! X7_fault 51 -/
def f_X7_fault_51  (M : zMM) : Option (Int32 × zMM) :=
  some ((M 51 2), M)
theorem A_X7_fault_51 {l : Launch} (hl : l.stackTraces = false) {Ls d : Nat} {Lm : zML}  {M M' : zMM} {v : Int32} (h : f_X7_fault_51  M = some (v, M')) : z_Ct l mX7_fault (d + 0) 0 0 [.ref 51] (z_L0 Ls, M, Lm) (.inl (some (.int v))) (z_L0 Ls, M', Lm) := by
  replace h : (  some ((M 51 2), M)) = some (v, M') := h
  refine z_Ct.of hl (by decide) (Nat.le_of_ble_eq_true rfl) rfl ?_
  show z_AW l mX7_fault (d + 0) 0 0 0 [.ref 51] [] (z_L0 Ls, M, Lm) (.inl (some (.int v))) (z_L0 Ls, M', Lm)
  refine z_aload_n dX7_fault_0 rfl ?_
  refine z_gI (v := (M 51 2)) fl_X7_17 dX7_fault_1 en_51 rfl rfl ?_
  cases h
  exact z_rI dX7_fault_4 rfl
/-! X7_putNumber 51 -/
def f_X7_putNumber_51_p3 : Nat → Int32 → Int32 → zMM → Option zMM
  | 0, _, _, _ => none
  | n + 1, x1, x2, M =>
  if x2 < 0 then
    some M
  else
    if (M 51 1) < 0 then
      f_X7_putNumber_51_p3 n x1 (x2 + (-8 : Int32)) M
    else
      if (700 : Int32) ≤ (M 51 1) then
        f_X7_putNumber_51_p3 n x1 (x2 + (-8 : Int32)) M
      else
        if z_ib (M 51 1) 700 = true then
          f_X7_putNumber_51_p3 n x1 (x2 + (-8 : Int32)) (z_up (z_up M 52 (M 51 1).toNatClampNeg (z_ush x1 x2).toInt8.toInt32.toInt8.toInt32) 51 1 ((M 51 1) + (1 : Int32)))
        else none
def f_X7_putNumber_51 (x1 : Int32) (M : zMM) : Option zMM :=
  f_X7_putNumber_51_p3 z_fuel x1 (24 : Int32) M
theorem A_X7_putNumber_51_p3 {l : Launch} (hl : l.stackTraces = false) {Ls d : Nat} {Lm : zML} :
    ∀ (n : Nat) (x1 : Int32) (x2 : Int32) (M M' : zMM) , f_X7_putNumber_51_p3 n x1 x2 M = some M' → z_AW l mX7_putNumber (d + 0) 0 0 3 [.ref 51, .int x1, .int x2] [] (z_L0 Ls, M, Lm) (.inl none) (z_L0 Ls, M', Lm) := by
  intro n
  induction n with
  | zero => intro x1 x2 M M' h; cases h
  | succ n ih =>
    intro x1 x2 M M' h
    replace h : (  if x2 < 0 then
    some M
  else
    if (M 51 1) < 0 then
      f_X7_putNumber_51_p3 n x1 (x2 + (-8 : Int32)) M
    else
      if (700 : Int32) ≤ (M 51 1) then
        f_X7_putNumber_51_p3 n x1 (x2 + (-8 : Int32)) M
      else
        if z_ib (M 51 1) 700 = true then
          f_X7_putNumber_51_p3 n x1 (x2 + (-8 : Int32)) (z_up (z_up M 52 (M 51 1).toNatClampNeg (z_ush x1 x2).toInt8.toInt32.toInt8.toInt32) 51 1 ((M 51 1) + (1 : Int32)))
        else none) = some M' := h
    refine z_iload_n dX7_putNumber_3 rfl ?_
    refine z_if_lt (tgt := 55) dX7_putNumber_4 rfl (fun g1 => ?_) (fun g1 => ?_)
    · replace h := (if_pos g1).symm.trans h
      cases h
      exact z_return dX7_putNumber_55 rfl
    · replace h := (if_neg g1).symm.trans h
      refine z_aload_n dX7_putNumber_7 rfl ?_
      refine z_gI (v := (M 51 1)) fl_X7_13 dX7_putNumber_8 en_51 rfl rfl ?_
      refine z_if_lt (tgt := 49) dX7_putNumber_11 rfl (fun g2 => ?_) (fun g2 => ?_)
      · replace h := (if_pos g2).symm.trans h
        refine z_ii (ls' := [.ref 51, .int x1, .int (x2 + (-8 : Int32))]) kc_m8 dX7_putNumber_49 rfl (by decide) rfl ?_
        refine z_goto (tgt := 3) dX7_putNumber_52 rfl ?_
        exact ih x1 (x2 + (-8 : Int32)) _ _ h
      · replace h := (if_neg g2).symm.trans h
        refine z_aload_n dX7_putNumber_14 rfl ?_
        refine z_gI (v := (M 51 1)) fl_X7_13 dX7_putNumber_15 en_51 rfl rfl ?_
        refine z_aload_n dX7_putNumber_18 rfl ?_
        refine z_getR (q := 52) fl_X7_9 dX7_putNumber_19 en_51 rfl ?_
        refine z_al9 dX7_putNumber_22 en_52 (by decide) ka_p700 ?_
        refine z_icmp_ge (tgt := 49) dX7_putNumber_23 rfl (fun g3 => ?_) (fun g3 => ?_)
        · replace h := (if_pos g3).symm.trans h
          refine z_ii (ls' := [.ref 51, .int x1, .int (x2 + (-8 : Int32))]) kc_m8 dX7_putNumber_49 rfl (by decide) rfl ?_
          refine z_goto (tgt := 3) dX7_putNumber_52 rfl ?_
          exact ih x1 (x2 + (-8 : Int32)) _ _ h
        · replace h := (if_neg g3).symm.trans h
          refine z_aload_n dX7_putNumber_26 rfl ?_
          refine z_getR (q := 52) fl_X7_9 dX7_putNumber_27 en_51 rfl ?_
          refine z_aload_n dX7_putNumber_30 rfl ?_
          refine z_gI (v := (M 51 1)) fl_X7_13 dX7_putNumber_31 en_51 rfl rfl ?_
          refine z_iload_n dX7_putNumber_34 rfl ?_
          refine z_iload_n dX7_putNumber_35 rfl ?_
          refine z_iushr dX7_putNumber_36 ?_
          refine z_i2b dX7_putNumber_37 ?_
          obtain ⟨g4, h⟩ := z_ifn h
          refine z_bs dX7_putNumber_38 (by decide) en_52 rfl (z_ib_in g4) ?_
          refine z_aload_n dX7_putNumber_39 rfl ?_
          refine z_dup dX7_putNumber_40 rfl ?_
          refine z_gI (v := (M 51 1)) fl_X7_13 dX7_putNumber_41 en_51 rfl rfl ?_
          refine z_ic kc_p1 dX7_putNumber_44 ?_
          refine z_iadd dX7_putNumber_45 ?_
          refine z_pI fp_X7_13 dX7_putNumber_46 (by decide) en_51 rfl ?_
          refine z_ii (ls' := [.ref 51, .int x1, .int (x2 + (-8 : Int32))]) kc_m8 dX7_putNumber_49 rfl (by decide) rfl ?_
          refine z_goto (tgt := 3) dX7_putNumber_52 rfl ?_
          exact ih x1 (x2 + (-8 : Int32)) _ _ h
theorem A_X7_putNumber_51 {l : Launch} (hl : l.stackTraces = false) {Ls d : Nat} {Lm : zML} {x1 : Int32} {M M' : zMM} (h : f_X7_putNumber_51 x1 M = some M') : z_Ct l mX7_putNumber (d + 0) 0 0 [.ref 51, .int x1] (z_L0 Ls, M, Lm) (.inl none) (z_L0 Ls, M', Lm) := by
  replace h : (  f_X7_putNumber_51_p3 z_fuel x1 (24 : Int32) M) = some M' := h
  refine z_Ct.of hl (by decide) (Nat.le_of_ble_eq_true rfl) rfl ?_
  show z_AW l mX7_putNumber (d + 0) 0 0 0 [.ref 51, .int x1, .null] [] (z_L0 Ls, M, Lm) (.inl none) (z_L0 Ls, M', Lm)
  refine z_bp kb_p24 dX7_putNumber_0 ?_
  refine z_istore_n (ls' := [.ref 51, .int x1, .int (24 : Int32)]) dX7_putNumber_2 (by decide) rfl ?_
  exact A_X7_putNumber_51_p3 hl z_fuel x1 (24 : Int32) _ _ h
/-! X7_feed 51 -/
def f_X7_feed_51 (x1 : Int32) (x2 : Int32) (x3 : Int32) (x4 : Int32) (x5 : Int32) (M : zMM) : Option (Int32 × zMM) :=
  if (M 51 1) ≤ (680 : Int32) then
    z_bv (f_X7_putNumber_51 x1 M) fun M4 =>
    z_bv (f_X7_putNumber_51 x2 M4) fun M7 =>
    z_bv (f_X7_putNumber_51 x3 M7) fun M10 =>
    z_bv (f_X7_putNumber_51 x4 M10) fun M13 =>
    z_bv (f_X7_putNumber_51 x5 M13) fun M16 =>
    some ((M16 51 1), M16)
  else
    some ((-1 : Int32), M)
theorem A_X7_feed_51 {l : Launch} (hl : l.stackTraces = false) {Ls d : Nat} {Lm : zML} {x1 : Int32} {x2 : Int32} {x3 : Int32} {x4 : Int32} {x5 : Int32} {M M' : zMM} {v : Int32} (h : f_X7_feed_51 x1 x2 x3 x4 x5 M = some (v, M')) : z_Ct l mX7_feed (d + 1) 0 0 [.ref 51, .int x1, .int x2, .int x3, .int x4, .int x5] (z_L0 Ls, M, Lm) (.inl (some (.int v))) (z_L0 Ls, M', Lm) := by
  replace h : (  if (M 51 1) ≤ (680 : Int32) then
    z_bv (f_X7_putNumber_51 x1 M) fun M4 =>
    z_bv (f_X7_putNumber_51 x2 M4) fun M7 =>
    z_bv (f_X7_putNumber_51 x3 M7) fun M10 =>
    z_bv (f_X7_putNumber_51 x4 M10) fun M13 =>
    z_bv (f_X7_putNumber_51 x5 M13) fun M16 =>
    some ((M16 51 1), M16)
  else
    some ((-1 : Int32), M)) = some (v, M') := h
  refine z_Ct.of hl (by decide) (Nat.le_of_ble_eq_true rfl) rfl ?_
  show z_AW l mX7_feed (d + 1) 0 0 0 [.ref 51, .int x1, .int x2, .int x3, .int x4, .int x5] [] (z_L0 Ls, M, Lm) (.inl (some (.int v))) (z_L0 Ls, M', Lm)
  refine z_aload_n dX7_feed_0 rfl ?_
  refine z_gI (v := (M 51 1)) fl_X7_13 dX7_feed_1 en_51 rfl rfl ?_
  refine z_sp ks_p680 dX7_feed_4 ?_
  refine z_icmp_le (tgt := 12) dX7_feed_7 rfl (fun g1 => ?_) (fun g1 => ?_)
  · replace h := (if_pos g1).symm.trans h
    refine z_aload_n dX7_feed_12 rfl ?_
    refine z_iload_n dX7_feed_13 rfl ?_
    obtain ⟨M4, c2, h⟩ := z_bv_c h
    refine z_cV (av := [.int x1]) (st := []) lk_X7_85 dX7_feed_14 (A_X7_putNumber_51 (d := d + 0) hl c2) rfl rfl en_51 rfl (Nat.le_of_ble_eq_true rfl) rfl z_len rfl rfl ?_
    refine z_aload_n dX7_feed_17 rfl ?_
    refine z_iload_n dX7_feed_18 rfl ?_
    obtain ⟨M7, c5, h⟩ := z_bv_c h
    refine z_cV (av := [.int x2]) (st := []) lk_X7_85 dX7_feed_19 (A_X7_putNumber_51 (d := d + 0) hl c5) rfl rfl en_51 rfl (Nat.le_of_ble_eq_true rfl) rfl z_len rfl rfl ?_
    refine z_aload_n dX7_feed_22 rfl ?_
    refine z_iload_n dX7_feed_23 rfl ?_
    obtain ⟨M10, c8, h⟩ := z_bv_c h
    refine z_cV (av := [.int x3]) (st := []) lk_X7_85 dX7_feed_24 (A_X7_putNumber_51 (d := d + 0) hl c8) rfl rfl en_51 rfl (Nat.le_of_ble_eq_true rfl) rfl z_len rfl rfl ?_
    refine z_aload_n dX7_feed_27 rfl ?_
    refine z_iload dX7_feed_28 rfl ?_
    obtain ⟨M13, c11, h⟩ := z_bv_c h
    refine z_cV (av := [.int x4]) (st := []) lk_X7_85 dX7_feed_30 (A_X7_putNumber_51 (d := d + 0) hl c11) rfl rfl en_51 rfl (Nat.le_of_ble_eq_true rfl) rfl z_len rfl rfl ?_
    refine z_aload_n dX7_feed_33 rfl ?_
    refine z_iload dX7_feed_34 rfl ?_
    obtain ⟨M16, c14, h⟩ := z_bv_c h
    refine z_cV (av := [.int x5]) (st := []) lk_X7_85 dX7_feed_36 (A_X7_putNumber_51 (d := d + 0) hl c14) rfl rfl en_51 rfl (Nat.le_of_ble_eq_true rfl) rfl z_len rfl rfl ?_
    refine z_aload_n dX7_feed_39 rfl ?_
    refine z_gI (v := (M16 51 1)) fl_X7_13 dX7_feed_40 en_51 rfl rfl ?_
    cases h
    exact z_rI dX7_feed_43 rfl
  · replace h := (if_neg g1).symm.trans h
    refine z_ic kc_m1 dX7_feed_10 ?_
    cases h
    exact z_rI dX7_feed_11 rfl
/-! X7_checkPlay 51 -/
def f_X7_checkPlay_51 (x1 : Int32) (M : zMM) : Option ((Unit ⊕ Nat) × zMM) :=
  if x1 < 0 then
    some (.inr 0, M)
  else
    if x1 < (M 53 11) then
      some (.inl (), M)
    else
      some (.inr 0, M)
theorem A_X7_checkPlay_51 {l : Launch} (hl : l.stackTraces = false) {Ls d : Nat} {Lm : zML} {x1 : Int32} {M M' : zMM} {v : Unit ⊕ Nat} (h : f_X7_checkPlay_51 x1 M = some (v, M')) : z_Ct l mX7_checkPlay (d + 6) (z_bo v) (6 * z_bo v) [.ref 51, .int x1] (z_L0 Ls, M, Lm) (z_ov v) (z_L0 Ls, M', Lm) := by
  replace h : (  if x1 < 0 then
    some (.inr 0, M)
  else
    if x1 < (M 53 11) then
      some (.inl (), M)
    else
      some (.inr 0, M)) = some (v, M') := h
  refine z_Ct.of hl (by decide) (Nat.le_of_ble_eq_true rfl) rfl ?_
  show z_AW l mX7_checkPlay (d + 6) (z_bo v) (6 * z_bo v) 0 [.ref 51, .int x1] [] (z_L0 Ls, M, Lm) (z_ov v) (z_L0 Ls, M', Lm)
  refine z_iload_n dX7_checkPlay_0 rfl ?_
  refine z_if_lt (tgt := 15) dX7_checkPlay_1 rfl (fun g1 => ?_) (fun g1 => ?_)
  · replace h := (if_pos g1).symm.trans h
    cases h
    exact z_throwW (text := "no such play") z_tpN (by decide +kernel) rfl (by omega) (Nat.le_of_ble_eq_true rfl) (Nat.le_refl _) (Nat.le_refl _) dX7_checkPlay_15 dX7_checkPlay_18 dX7_checkPlay_19 dX7_checkPlay_22 dX7_checkPlay_25
  · replace h := (if_neg g1).symm.trans h
    refine z_iload_n dX7_checkPlay_4 rfl ?_
    refine z_aload_n dX7_checkPlay_5 rfl ?_
    refine z_getR (q := 53) fl_X7_23 dX7_checkPlay_6 en_51 rfl ?_
    refine z_gI (v := (M 53 11)) fl_X7_131 dX7_checkPlay_9 en_53 rfl rfl ?_
    refine z_icmp_lt (tgt := 26) dX7_checkPlay_12 rfl (fun g2 => ?_) (fun g2 => ?_)
    · replace h := (if_pos g2).symm.trans h
      cases h
      exact z_return dX7_checkPlay_26 rfl
    · replace h := (if_neg g2).symm.trans h
      cases h
      exact z_throwW (text := "no such play") z_tpN (by decide +kernel) rfl (by omega) (Nat.le_of_ble_eq_true rfl) (Nat.le_refl _) (Nat.le_refl _) dX7_checkPlay_15 dX7_checkPlay_18 dX7_checkPlay_19 dX7_checkPlay_22 dX7_checkPlay_25
/-! X2_firstThing 83 -/
def f_X2_firstThing_83_p3 : Nat → Int32 → Int32 → Int32 → Int32 → Int32 → Int32 → Int32 → zMM → Option (Int32 × zMM)
  | 0, _, _, _, _, _, _, _, _ => none
  | n + 1, x1, x2, x3, x4, x5, x6, x7, M =>
  if (M 53 8) ≤ x7 then
    some ((-1 : Int32), M)
  else
    z_bi (f_X5_needOf_53 x1 x3 M) fun v3 M4 =>
    z_bi (f_X5_shameOf_53 (z_at M 60 10 x7) v3 M4) fun v6 M7 =>
    z_bi (f_X7_has x4 x7 M7) fun v9 M10 =>
    if v9 = 0 then
      f_X2_firstThing_83_p3 n x1 x2 x3 x4 x5 x6 (x7 + (1 : Int32)) M10
    else
      if v6 = (-1 : Int32) then
        f_X2_firstThing_83_p3 n x1 x2 x3 x4 x5 x6 (x7 + (1 : Int32)) M10
      else
        z_bi (f_X2_leastPrice_83 x1 x2 (x3 + (1 : Int32)) (x4 &&& (((1 : Int32) <<< (x7 &&& 31)) ^^^ (-1 : Int32))) (-1 : Int32) x5 M10) fun v14 M15 =>
        if v14 = (-1 : Int32) then
          f_X2_firstThing_83_p3 n x1 x2 x3 x4 x5 x6 (x7 + (1 : Int32)) M15
        else
          if (v6 + v14) = x6 then
            some (x7, M15)
          else
            f_X2_firstThing_83_p3 n x1 x2 x3 x4 x5 x6 (x7 + (1 : Int32)) M15
def f_X2_firstThing_83 (x1 : Int32) (x2 : Int32) (x3 : Int32) (x4 : Int32) (x5 : Int32) (x6 : Int32) (M : zMM) : Option (Int32 × zMM) :=
  f_X2_firstThing_83_p3 z_fuel x1 x2 x3 x4 x5 x6 (0 : Int32) M
theorem A_X2_firstThing_83_p3 {l : Launch} (hl : l.stackTraces = false) {Ls d : Nat} {Lm : zML} :
    ∀ (n : Nat) (x1 : Int32) (x2 : Int32) (x3 : Int32) (x4 : Int32) (x5 : Int32) (x6 : Int32) (x7 : Int32) (M M' : zMM) (v : Int32) , f_X2_firstThing_83_p3 n x1 x2 x3 x4 x5 x6 x7 M = some (v, M') → z_AW l mX2_firstThing (d + 4) 0 0 3 [.ref 83, .int x1, .int x2, .int x3, .int x4, .int x5, .int x6, .int x7, .null, .null] [] (z_L0 Ls, M, Lm) (.inl (some (.int v))) (z_L0 Ls, M', Lm) := by
  intro n
  induction n with
  | zero => intro x1 x2 x3 x4 x5 x6 x7 M M' v h; cases h
  | succ n ih =>
    intro x1 x2 x3 x4 x5 x6 x7 M M' v h
    replace h : (  if (M 53 8) ≤ x7 then
    some ((-1 : Int32), M)
  else
    z_bi (f_X5_needOf_53 x1 x3 M) fun v3 M4 =>
    z_bi (f_X5_shameOf_53 (z_at M 60 10 x7) v3 M4) fun v6 M7 =>
    z_bi (f_X7_has x4 x7 M7) fun v9 M10 =>
    if v9 = 0 then
      f_X2_firstThing_83_p3 n x1 x2 x3 x4 x5 x6 (x7 + (1 : Int32)) M10
    else
      if v6 = (-1 : Int32) then
        f_X2_firstThing_83_p3 n x1 x2 x3 x4 x5 x6 (x7 + (1 : Int32)) M10
      else
        z_bi (f_X2_leastPrice_83 x1 x2 (x3 + (1 : Int32)) (x4 &&& (((1 : Int32) <<< (x7 &&& 31)) ^^^ (-1 : Int32))) (-1 : Int32) x5 M10) fun v14 M15 =>
        if v14 = (-1 : Int32) then
          f_X2_firstThing_83_p3 n x1 x2 x3 x4 x5 x6 (x7 + (1 : Int32)) M15
        else
          if (v6 + v14) = x6 then
            some (x7, M15)
          else
            f_X2_firstThing_83_p3 n x1 x2 x3 x4 x5 x6 (x7 + (1 : Int32)) M15) = some (v, M') := h
    refine z_iload dX2_firstThing_3 rfl ?_
    refine z_aload_n dX2_firstThing_5 rfl ?_
    refine z_getR (q := 53) fl_X2_21 dX2_firstThing_6 en_83 rfl ?_
    refine z_gI (v := (M 53 8)) fl_X2_55 dX2_firstThing_9 en_53 rfl rfl ?_
    refine z_icmp_ge (tgt := 109) dX2_firstThing_12 rfl (fun g1 => ?_) (fun g1 => ?_)
    · replace h := (if_pos g1).symm.trans h
      refine z_ic kc_m1 dX2_firstThing_109 ?_
      cases h
      exact z_rI dX2_firstThing_110 rfl
    · replace h := (if_neg g1).symm.trans h
      refine z_aload_n dX2_firstThing_15 rfl ?_
      refine z_getR (q := 53) fl_X2_21 dX2_firstThing_16 en_83 rfl ?_
      refine z_aload_n dX2_firstThing_19 rfl ?_
      refine z_getR (q := 53) fl_X2_21 dX2_firstThing_20 en_83 rfl ?_
      refine z_getR (q := 60) fl_X2_63 dX2_firstThing_23 en_53 rfl ?_
      refine z_iload dX2_firstThing_26 rfl ?_
      refine z_cN (av := [.ref 60, .int x7]) (st := [.ref 53]) (v := some (.int (z_at M 60 10 x7))) lk_X2_34 dX2_firstThing_28 (A_X7_at (d := d + 3) hl (by decide) en_60) rfl rfl (Nat.le_of_ble_eq_true rfl) rfl z_len rfl rfl ?_
      refine z_aload_n dX2_firstThing_31 rfl ?_
      refine z_getR (q := 53) fl_X2_21 dX2_firstThing_32 en_83 rfl ?_
      refine z_iload_n dX2_firstThing_35 rfl ?_
      refine z_iload_n dX2_firstThing_36 rfl ?_
      obtain ⟨v3, M4, c2, h⟩ := z_bi_c h
      refine z_cV (av := [.int x1, .int x3]) (st := [.int (z_at M 60 10 x7), .ref 53]) lk_X2_80 dX2_firstThing_37 (A_X5_needOf_53 (d := d + 2) hl c2) rfl rfl en_53 rfl (Nat.le_of_ble_eq_true rfl) rfl z_len rfl rfl ?_
      obtain ⟨v6, M7, c5, h⟩ := z_bi_c h
      refine z_cV (av := [.int (z_at M 60 10 x7), .int v3]) (st := []) lk_X2_84 dX2_firstThing_40 (A_X5_shameOf_53 (d := d + 2) hl c5) rfl rfl en_53 rfl (Nat.le_of_ble_eq_true rfl) rfl z_len rfl rfl ?_
      refine z_istore (ls' := [.ref 83, .int x1, .int x2, .int x3, .int x4, .int x5, .int x6, .int x7, .int v6, .null]) dX2_firstThing_43 (by decide) rfl ?_
      refine z_iload dX2_firstThing_45 rfl ?_
      refine z_iload dX2_firstThing_47 rfl ?_
      obtain ⟨v9, M10, c8, h⟩ := z_bi_c h
      refine z_cN (av := [.int x4, .int x7]) (st := []) lk_X2_59 dX2_firstThing_49 (A_X7_has (d := d + 3) hl c8) rfl rfl (Nat.le_of_ble_eq_true rfl) rfl z_len rfl rfl ?_
      refine z_if_eq (tgt := 103) dX2_firstThing_52 rfl (fun g11 => ?_) (fun g11 => ?_)
      · replace h := (if_pos g11).symm.trans h
        refine z_ii (ls' := [.ref 83, .int x1, .int x2, .int x3, .int x4, .int x5, .int x6, .int (x7 + (1 : Int32)), .int v6, .null]) kc_p1 dX2_firstThing_103 rfl (by decide) rfl ?_
        refine z_goto (tgt := 3) dX2_firstThing_106 rfl ?_
        refine z_fg (ls' := [.ref 83, .int x1, .int x2, .int x3, .int x4, .int x5, .int x6, .int (x7 + (1 : Int32)), .null, .null]) ⟨Or.inr rfl, Or.inr rfl, Or.inr rfl, Or.inr rfl, Or.inr rfl, Or.inr rfl, Or.inr rfl, Or.inr rfl, Or.inl rfl, Or.inl rfl, trivial⟩ ?_
        exact ih x1 x2 x3 x4 x5 x6 (x7 + (1 : Int32)) _ _ _ h
      · replace h := (if_neg g11).symm.trans h
        refine z_iload dX2_firstThing_55 rfl ?_
        refine z_ic kc_m1 dX2_firstThing_57 ?_
        refine z_icmp_eq (tgt := 103) dX2_firstThing_58 rfl (fun g12 => ?_) (fun g12 => ?_)
        · replace h := (if_pos g12).symm.trans h
          refine z_ii (ls' := [.ref 83, .int x1, .int x2, .int x3, .int x4, .int x5, .int x6, .int (x7 + (1 : Int32)), .int v6, .null]) kc_p1 dX2_firstThing_103 rfl (by decide) rfl ?_
          refine z_goto (tgt := 3) dX2_firstThing_106 rfl ?_
          refine z_fg (ls' := [.ref 83, .int x1, .int x2, .int x3, .int x4, .int x5, .int x6, .int (x7 + (1 : Int32)), .null, .null]) ⟨Or.inr rfl, Or.inr rfl, Or.inr rfl, Or.inr rfl, Or.inr rfl, Or.inr rfl, Or.inr rfl, Or.inr rfl, Or.inl rfl, Or.inl rfl, trivial⟩ ?_
          exact ih x1 x2 x3 x4 x5 x6 (x7 + (1 : Int32)) _ _ _ h
        · replace h := (if_neg g12).symm.trans h
          refine z_aload_n dX2_firstThing_61 rfl ?_
          refine z_iload_n dX2_firstThing_62 rfl ?_
          refine z_iload_n dX2_firstThing_63 rfl ?_
          refine z_iload_n dX2_firstThing_64 rfl ?_
          refine z_ic kc_p1 dX2_firstThing_65 ?_
          refine z_iadd dX2_firstThing_66 ?_
          refine z_iload dX2_firstThing_67 rfl ?_
          refine z_ic kc_p1 dX2_firstThing_69 ?_
          refine z_iload dX2_firstThing_70 rfl ?_
          refine z_ishl dX2_firstThing_72 ?_
          refine z_ic kc_m1 dX2_firstThing_73 ?_
          refine z_ixor dX2_firstThing_74 ?_
          refine z_iand dX2_firstThing_75 ?_
          refine z_ic kc_m1 dX2_firstThing_76 ?_
          refine z_iload dX2_firstThing_77 rfl ?_
          obtain ⟨v14, M15, c13, h⟩ := z_bi_c h
          refine z_cV (av := [.int x1, .int x2, .int (x3 + (1 : Int32)), .int (x4 &&& (((1 : Int32) <<< (x7 &&& 31)) ^^^ (-1 : Int32))), .int (-1 : Int32), .int x5]) (st := []) lk_X2_47 dX2_firstThing_79 (A_X2_leastPrice_83 (d := d + 0) hl c13) rfl rfl en_83 rfl (Nat.le_of_ble_eq_true rfl) rfl z_len rfl rfl ?_
          refine z_istore (ls' := [.ref 83, .int x1, .int x2, .int x3, .int x4, .int x5, .int x6, .int x7, .int v6, .int v14]) dX2_firstThing_82 (by decide) rfl ?_
          refine z_iload dX2_firstThing_84 rfl ?_
          refine z_ic kc_m1 dX2_firstThing_86 ?_
          refine z_icmp_eq (tgt := 103) dX2_firstThing_87 rfl (fun g16 => ?_) (fun g16 => ?_)
          · replace h := (if_pos g16).symm.trans h
            refine z_ii (ls' := [.ref 83, .int x1, .int x2, .int x3, .int x4, .int x5, .int x6, .int (x7 + (1 : Int32)), .int v6, .int v14]) kc_p1 dX2_firstThing_103 rfl (by decide) rfl ?_
            refine z_goto (tgt := 3) dX2_firstThing_106 rfl ?_
            refine z_fg (ls' := [.ref 83, .int x1, .int x2, .int x3, .int x4, .int x5, .int x6, .int (x7 + (1 : Int32)), .null, .null]) ⟨Or.inr rfl, Or.inr rfl, Or.inr rfl, Or.inr rfl, Or.inr rfl, Or.inr rfl, Or.inr rfl, Or.inr rfl, Or.inl rfl, Or.inl rfl, trivial⟩ ?_
            exact ih x1 x2 x3 x4 x5 x6 (x7 + (1 : Int32)) _ _ _ h
          · replace h := (if_neg g16).symm.trans h
            refine z_iload dX2_firstThing_90 rfl ?_
            refine z_iload dX2_firstThing_92 rfl ?_
            refine z_iadd dX2_firstThing_94 ?_
            refine z_iload dX2_firstThing_95 rfl ?_
            refine z_icmp_ne (tgt := 103) dX2_firstThing_97 rfl (fun g17 => ?_) (fun g17 => ?_)
            · replace h := (if_pos g17).symm.trans h
              refine z_iload dX2_firstThing_100 rfl ?_
              cases h
              exact z_rI dX2_firstThing_102 rfl
            · replace h := (if_neg g17).symm.trans h
              refine z_ii (ls' := [.ref 83, .int x1, .int x2, .int x3, .int x4, .int x5, .int x6, .int (x7 + (1 : Int32)), .int v6, .int v14]) kc_p1 dX2_firstThing_103 rfl (by decide) rfl ?_
              refine z_goto (tgt := 3) dX2_firstThing_106 rfl ?_
              refine z_fg (ls' := [.ref 83, .int x1, .int x2, .int x3, .int x4, .int x5, .int x6, .int (x7 + (1 : Int32)), .null, .null]) ⟨Or.inr rfl, Or.inr rfl, Or.inr rfl, Or.inr rfl, Or.inr rfl, Or.inr rfl, Or.inr rfl, Or.inr rfl, Or.inl rfl, Or.inl rfl, trivial⟩ ?_
              exact ih x1 x2 x3 x4 x5 x6 (x7 + (1 : Int32)) _ _ _ h
theorem A_X2_firstThing_83 {l : Launch} (hl : l.stackTraces = false) {Ls d : Nat} {Lm : zML} {x1 : Int32} {x2 : Int32} {x3 : Int32} {x4 : Int32} {x5 : Int32} {x6 : Int32} {M M' : zMM} {v : Int32} (h : f_X2_firstThing_83 x1 x2 x3 x4 x5 x6 M = some (v, M')) : z_Ct l mX2_firstThing (d + 4) 0 0 [.ref 83, .int x1, .int x2, .int x3, .int x4, .int x5, .int x6] (z_L0 Ls, M, Lm) (.inl (some (.int v))) (z_L0 Ls, M', Lm) := by
  replace h : (  f_X2_firstThing_83_p3 z_fuel x1 x2 x3 x4 x5 x6 (0 : Int32) M) = some (v, M') := h
  refine z_Ct.of hl (by decide) (Nat.le_of_ble_eq_true rfl) rfl ?_
  show z_AW l mX2_firstThing (d + 4) 0 0 0 [.ref 83, .int x1, .int x2, .int x3, .int x4, .int x5, .int x6, .null, .null, .null] [] (z_L0 Ls, M, Lm) (.inl (some (.int v))) (z_L0 Ls, M', Lm)
  refine z_ic kc_p0 dX2_firstThing_0 ?_
  refine z_istore (ls' := [.ref 83, .int x1, .int x2, .int x3, .int x4, .int x5, .int x6, .int (0 : Int32), .null, .null]) dX2_firstThing_1 (by decide) rfl ?_
  exact A_X2_firstThing_83_p3 hl z_fuel x1 x2 x3 x4 x5 x6 (0 : Int32) _ _ _ h
/-! X2_filler 83 -/
def f_X2_filler_83_p43 : Nat → Int32 → Int32 → Int32 → Int32 → Int32 → Int32 → Int32 → Int32 → zMM → Option (Int32 × zMM)
  | 0, _, _, _, _, _, _, _, _, _ => none
  | n + 1, x1, x2, x4, x5, x6, x7, x8, x9, M =>
  if x4 < x9 then
    some (x8, M)
  else
    if (4 : Int32) ≤ x9 then
      some (x8, M)
    else
      z_bi (f_X2_firstThing_83 x1 x2 x9 x7 x5 x6 M) fun v8 M9 =>
      if v8 = (-1 : Int32) then
        f_X2_filler_83_p43 n x1 x2 x4 (x5 + (-1 : Int32)) (x6 - (z_at M9 57 5 x2)) x7 (99 : Int32) (x9 + (1 : Int32)) M9
      else
        z_bi (f_X5_needOf_53 x1 x9 M9) fun v12 M13 =>
        z_bi (f_X5_shameOf_53 (z_at M9 60 10 v8) v12 M13) fun v15 M16 =>
        f_X2_filler_83_p43 n x1 x2 x4 x5 (x6 - v15) (x7 &&& (((1 : Int32) <<< (v8 &&& 31)) ^^^ (-1 : Int32))) v8 (x9 + (1 : Int32)) M16
def f_X2_filler_83 (x1 : Int32) (x2 : Int32) (x3 : Int32) (x4 : Int32) (M : zMM) : Option (Int32 × zMM) :=
  z_bi (f_X2_leastPrice_83 x1 x2 (0 : Int32) x3 (-1 : Int32) (z_at M 56 5 x2) M) fun v2 M3 =>
  if v2 = (-1 : Int32) then
    some ((-1 : Int32), M3)
  else
    f_X2_filler_83_p43 z_fuel x1 x2 x4 (z_at M 56 5 x2) v2 x3 (-1 : Int32) (0 : Int32) M3
theorem A_X2_filler_83_p43 {l : Launch} (hl : l.stackTraces = false) {Ls d : Nat} {Lm : zML} :
    ∀ (n : Nat) (x1 : Int32) (x2 : Int32) (x4 : Int32) (x5 : Int32) (x6 : Int32) (x7 : Int32) (x8 : Int32) (x9 : Int32) (M M' : zMM) (v : Int32) , f_X2_filler_83_p43 n x1 x2 x4 x5 x6 x7 x8 x9 M = some (v, M') → z_AW l mX2_filler (d + 5) 0 0 43 [.ref 83, .int x1, .int x2, .null, .int x4, .int x5, .int x6, .int x7, .int x8, .int x9] [] (z_L0 Ls, M, Lm) (.inl (some (.int v))) (z_L0 Ls, M', Lm) := by
  intro n
  induction n with
  | zero => intro x1 x2 x4 x5 x6 x7 x8 x9 M M' v h; cases h
  | succ n ih =>
    intro x1 x2 x4 x5 x6 x7 x8 x9 M M' v h
    replace h : (  if x4 < x9 then
    some (x8, M)
  else
    if (4 : Int32) ≤ x9 then
      some (x8, M)
    else
      z_bi (f_X2_firstThing_83 x1 x2 x9 x7 x5 x6 M) fun v8 M9 =>
      if v8 = (-1 : Int32) then
        f_X2_filler_83_p43 n x1 x2 x4 (x5 + (-1 : Int32)) (x6 - (z_at M9 57 5 x2)) x7 (99 : Int32) (x9 + (1 : Int32)) M9
      else
        z_bi (f_X5_needOf_53 x1 x9 M9) fun v12 M13 =>
        z_bi (f_X5_shameOf_53 (z_at M9 60 10 v8) v12 M13) fun v15 M16 =>
        f_X2_filler_83_p43 n x1 x2 x4 x5 (x6 - v15) (x7 &&& (((1 : Int32) <<< (v8 &&& 31)) ^^^ (-1 : Int32))) v8 (x9 + (1 : Int32)) M16) = some (v, M') := h
    refine z_iload dX2_filler_43 rfl ?_
    refine z_iload dX2_filler_45 rfl ?_
    refine z_icmp_gt (tgt := 155) dX2_filler_47 rfl (fun g5 => ?_) (fun g5 => ?_)
    · replace h := (if_pos g5).symm.trans h
      refine z_iload dX2_filler_155 rfl ?_
      cases h
      exact z_rI dX2_filler_157 rfl
    · replace h := (if_neg g5).symm.trans h
      refine z_iload dX2_filler_50 rfl ?_
      refine z_ic kc_p4 dX2_filler_52 ?_
      refine z_icmp_ge (tgt := 155) dX2_filler_53 rfl (fun g6 => ?_) (fun g6 => ?_)
      · replace h := (if_pos g6).symm.trans h
        refine z_iload dX2_filler_155 rfl ?_
        cases h
        exact z_rI dX2_filler_157 rfl
      · replace h := (if_neg g6).symm.trans h
        refine z_aload_n dX2_filler_56 rfl ?_
        refine z_iload_n dX2_filler_57 rfl ?_
        refine z_iload_n dX2_filler_58 rfl ?_
        refine z_iload dX2_filler_59 rfl ?_
        refine z_iload dX2_filler_61 rfl ?_
        refine z_iload dX2_filler_63 rfl ?_
        refine z_iload dX2_filler_65 rfl ?_
        obtain ⟨v8, M9, c7, h⟩ := z_bi_c h
        refine z_cV (av := [.int x1, .int x2, .int x9, .int x7, .int x5, .int x6]) (st := []) lk_X2_102 dX2_filler_67 (A_X2_firstThing_83 (d := d + 0) hl c7) rfl rfl en_83 rfl (Nat.le_of_ble_eq_true rfl) rfl z_len rfl rfl ?_
        refine z_istore (ls' := [.ref 83, .int x1, .int x2, .null, .int x4, .int x5, .int x6, .int x7, .int v8, .int x9]) dX2_filler_70 (by decide) rfl ?_
        refine z_iload dX2_filler_72 rfl ?_
        refine z_ic kc_m1 dX2_filler_74 ?_
        refine z_icmp_ne (tgt := 104) dX2_filler_75 rfl (fun g10 => ?_) (fun g10 => ?_)
        · replace h := (if_pos g10).symm.trans h
          refine z_bp kb_p99 dX2_filler_78 ?_
          refine z_istore (ls' := [.ref 83, .int x1, .int x2, .null, .int x4, .int x5, .int x6, .int x7, .int (99 : Int32), .int x9]) dX2_filler_80 (by decide) rfl ?_
          refine z_ii (ls' := [.ref 83, .int x1, .int x2, .null, .int x4, .int (x5 + (-1 : Int32)), .int x6, .int x7, .int (99 : Int32), .int x9]) kc_m1 dX2_filler_82 rfl (by decide) rfl ?_
          refine z_iload dX2_filler_85 rfl ?_
          refine z_aload_n dX2_filler_87 rfl ?_
          refine z_getR (q := 53) fl_X2_21 dX2_filler_88 en_83 rfl ?_
          refine z_getR (q := 57) fl_X2_73 dX2_filler_91 en_53 rfl ?_
          refine z_iload_n dX2_filler_94 rfl ?_
          refine z_cN (av := [.ref 57, .int x2]) (st := [.int x6]) (v := some (.int (z_at M9 57 5 x2))) lk_X2_34 dX2_filler_95 (A_X7_at (d := d + 4) hl (by decide) en_57) rfl rfl (Nat.le_of_ble_eq_true rfl) rfl z_len rfl rfl ?_
          refine z_isub dX2_filler_98 ?_
          refine z_istore (ls' := [.ref 83, .int x1, .int x2, .null, .int x4, .int (x5 + (-1 : Int32)), .int (x6 - (z_at M9 57 5 x2)), .int x7, .int (99 : Int32), .int x9]) dX2_filler_99 (by decide) rfl ?_
          refine z_goto (tgt := 149) dX2_filler_101 rfl ?_
          refine z_ii (ls' := [.ref 83, .int x1, .int x2, .null, .int x4, .int (x5 + (-1 : Int32)), .int (x6 - (z_at M9 57 5 x2)), .int x7, .int (99 : Int32), .int (x9 + (1 : Int32))]) kc_p1 dX2_filler_149 rfl (by decide) rfl ?_
          refine z_goto (tgt := 43) dX2_filler_152 rfl ?_
          exact ih x1 x2 x4 (x5 + (-1 : Int32)) (x6 - (z_at M9 57 5 x2)) x7 (99 : Int32) (x9 + (1 : Int32)) _ _ _ h
        · replace h := (if_neg g10).symm.trans h
          refine z_iload dX2_filler_104 rfl ?_
          refine z_ic kc_p1 dX2_filler_106 ?_
          refine z_iload dX2_filler_107 rfl ?_
          refine z_ishl dX2_filler_109 ?_
          refine z_ic kc_m1 dX2_filler_110 ?_
          refine z_ixor dX2_filler_111 ?_
          refine z_iand dX2_filler_112 ?_
          refine z_istore (ls' := [.ref 83, .int x1, .int x2, .null, .int x4, .int x5, .int x6, .int (x7 &&& (((1 : Int32) <<< (v8 &&& 31)) ^^^ (-1 : Int32))), .int v8, .int x9]) dX2_filler_113 (by decide) rfl ?_
          refine z_iload dX2_filler_115 rfl ?_
          refine z_aload_n dX2_filler_117 rfl ?_
          refine z_getR (q := 53) fl_X2_21 dX2_filler_118 en_83 rfl ?_
          refine z_aload_n dX2_filler_121 rfl ?_
          refine z_getR (q := 53) fl_X2_21 dX2_filler_122 en_83 rfl ?_
          refine z_getR (q := 60) fl_X2_63 dX2_filler_125 en_53 rfl ?_
          refine z_iload dX2_filler_128 rfl ?_
          refine z_cN (av := [.ref 60, .int v8]) (st := [.ref 53, .int x6]) (v := some (.int (z_at M9 60 10 v8))) lk_X2_34 dX2_filler_130 (A_X7_at (d := d + 4) hl (by decide) en_60) rfl rfl (Nat.le_of_ble_eq_true rfl) rfl z_len rfl rfl ?_
          refine z_aload_n dX2_filler_133 rfl ?_
          refine z_getR (q := 53) fl_X2_21 dX2_filler_134 en_83 rfl ?_
          refine z_iload_n dX2_filler_137 rfl ?_
          refine z_iload dX2_filler_138 rfl ?_
          obtain ⟨v12, M13, c11, h⟩ := z_bi_c h
          refine z_cV (av := [.int x1, .int x9]) (st := [.int (z_at M9 60 10 v8), .ref 53, .int x6]) lk_X2_80 dX2_filler_140 (A_X5_needOf_53 (d := d + 3) hl c11) rfl rfl en_53 rfl (Nat.le_of_ble_eq_true rfl) rfl z_len rfl rfl ?_
          obtain ⟨v15, M16, c14, h⟩ := z_bi_c h
          refine z_cV (av := [.int (z_at M9 60 10 v8), .int v12]) (st := [.int x6]) lk_X2_84 dX2_filler_143 (A_X5_shameOf_53 (d := d + 3) hl c14) rfl rfl en_53 rfl (Nat.le_of_ble_eq_true rfl) rfl z_len rfl rfl ?_
          refine z_isub dX2_filler_146 ?_
          refine z_istore (ls' := [.ref 83, .int x1, .int x2, .null, .int x4, .int x5, .int (x6 - v15), .int (x7 &&& (((1 : Int32) <<< (v8 &&& 31)) ^^^ (-1 : Int32))), .int v8, .int x9]) dX2_filler_147 (by decide) rfl ?_
          refine z_ii (ls' := [.ref 83, .int x1, .int x2, .null, .int x4, .int x5, .int (x6 - v15), .int (x7 &&& (((1 : Int32) <<< (v8 &&& 31)) ^^^ (-1 : Int32))), .int v8, .int (x9 + (1 : Int32))]) kc_p1 dX2_filler_149 rfl (by decide) rfl ?_
          refine z_goto (tgt := 43) dX2_filler_152 rfl ?_
          exact ih x1 x2 x4 x5 (x6 - v15) (x7 &&& (((1 : Int32) <<< (v8 &&& 31)) ^^^ (-1 : Int32))) v8 (x9 + (1 : Int32)) _ _ _ h
theorem A_X2_filler_83 {l : Launch} (hl : l.stackTraces = false) {Ls d : Nat} {Lm : zML} {x1 : Int32} {x2 : Int32} {x3 : Int32} {x4 : Int32} {M M' : zMM} {v : Int32} (h : f_X2_filler_83 x1 x2 x3 x4 M = some (v, M')) : z_Ct l mX2_filler (d + 5) 0 0 [.ref 83, .int x1, .int x2, .int x3, .int x4] (z_L0 Ls, M, Lm) (.inl (some (.int v))) (z_L0 Ls, M', Lm) := by
  replace h : (  z_bi (f_X2_leastPrice_83 x1 x2 (0 : Int32) x3 (-1 : Int32) (z_at M 56 5 x2) M) fun v2 M3 =>
  if v2 = (-1 : Int32) then
    some ((-1 : Int32), M3)
  else
    f_X2_filler_83_p43 z_fuel x1 x2 x4 (z_at M 56 5 x2) v2 x3 (-1 : Int32) (0 : Int32) M3) = some (v, M') := h
  refine z_Ct.of hl (by decide) (Nat.le_of_ble_eq_true rfl) rfl ?_
  show z_AW l mX2_filler (d + 5) 0 0 0 [.ref 83, .int x1, .int x2, .int x3, .int x4, .null, .null, .null, .null, .null] [] (z_L0 Ls, M, Lm) (.inl (some (.int v))) (z_L0 Ls, M', Lm)
  refine z_aload_n dX2_filler_0 rfl ?_
  refine z_getR (q := 53) fl_X2_21 dX2_filler_1 en_83 rfl ?_
  refine z_getR (q := 56) fl_X2_44 dX2_filler_4 en_53 rfl ?_
  refine z_iload_n dX2_filler_7 rfl ?_
  refine z_cN (av := [.ref 56, .int x2]) (st := []) (v := some (.int (z_at M 56 5 x2))) lk_X2_34 dX2_filler_8 (A_X7_at (d := d + 4) hl (by decide) en_56) rfl rfl (Nat.le_of_ble_eq_true rfl) rfl z_len rfl rfl ?_
  refine z_istore (ls' := [.ref 83, .int x1, .int x2, .int x3, .int x4, .int (z_at M 56 5 x2), .null, .null, .null, .null]) dX2_filler_11 (by decide) rfl ?_
  refine z_aload_n dX2_filler_13 rfl ?_
  refine z_iload_n dX2_filler_14 rfl ?_
  refine z_iload_n dX2_filler_15 rfl ?_
  refine z_ic kc_p0 dX2_filler_16 ?_
  refine z_iload_n dX2_filler_17 rfl ?_
  refine z_ic kc_m1 dX2_filler_18 ?_
  refine z_iload dX2_filler_19 rfl ?_
  obtain ⟨v2, M3, c1, h⟩ := z_bi_c h
  refine z_cV (av := [.int x1, .int x2, .int (0 : Int32), .int x3, .int (-1 : Int32), .int (z_at M 56 5 x2)]) (st := []) lk_X2_47 dX2_filler_21 (A_X2_leastPrice_83 (d := d + 1) hl c1) rfl rfl en_83 rfl (Nat.le_of_ble_eq_true rfl) rfl z_len rfl rfl ?_
  refine z_istore (ls' := [.ref 83, .int x1, .int x2, .int x3, .int x4, .int (z_at M 56 5 x2), .int v2, .null, .null, .null]) dX2_filler_24 (by decide) rfl ?_
  refine z_iload dX2_filler_26 rfl ?_
  refine z_ic kc_m1 dX2_filler_28 ?_
  refine z_icmp_ne (tgt := 34) dX2_filler_29 rfl (fun g4 => ?_) (fun g4 => ?_)
  · replace h := (if_pos g4).symm.trans h
    refine z_ic kc_m1 dX2_filler_32 ?_
    cases h
    exact z_rI dX2_filler_33 rfl
  · replace h := (if_neg g4).symm.trans h
    refine z_iload_n dX2_filler_34 rfl ?_
    refine z_istore (ls' := [.ref 83, .int x1, .int x2, .int x3, .int x4, .int (z_at M 56 5 x2), .int v2, .int x3, .null, .null]) dX2_filler_35 (by decide) rfl ?_
    refine z_ic kc_m1 dX2_filler_37 ?_
    refine z_istore (ls' := [.ref 83, .int x1, .int x2, .int x3, .int x4, .int (z_at M 56 5 x2), .int v2, .int x3, .int (-1 : Int32), .null]) dX2_filler_38 (by decide) rfl ?_
    refine z_ic kc_p0 dX2_filler_40 ?_
    refine z_istore (ls' := [.ref 83, .int x1, .int x2, .int x3, .int x4, .int (z_at M 56 5 x2), .int v2, .int x3, .int (-1 : Int32), .int (0 : Int32)]) dX2_filler_41 (by decide) rfl ?_
    refine z_fg (ls' := [.ref 83, .int x1, .int x2, .null, .int x4, .int (z_at M 56 5 x2), .int v2, .int x3, .int (-1 : Int32), .int (0 : Int32)]) ⟨Or.inr rfl, Or.inr rfl, Or.inr rfl, Or.inl rfl, Or.inr rfl, Or.inr rfl, Or.inr rfl, Or.inr rfl, Or.inr rfl, Or.inr rfl, trivial⟩ ?_
    exact A_X2_filler_83_p43 hl z_fuel x1 x2 x4 (z_at M 56 5 x2) v2 x3 (-1 : Int32) (0 : Int32) _ _ _ h
/-! X7_filled 51 -/
def f_X7_filled_51 (x1 : Int32) (x2 : Int32) (x3 : Int32) (M : zMM) : Option ((Int32 ⊕ Nat) × zMM) :=
  z_bt (f_X7_checkPlay_51 x1 M) fun v2 M3 =>
    z_bt (f_X7_checkTown_51 x2 M3) fun v6 M7 =>
      if x3 < 0 then
        some (.inr 0, M7)
      else
        if x3 < (z_at M7 63 4 x1) then
          z_bi (f_X4_trunksIn_87 x2 M7) fun v12 M13 =>
          z_bi (f_X5_thingsOf_53 v12 M13) fun v15 M16 =>
          z_bi (f_X2_filler_83 x1 x2 v15 x3 M16) fun v18 M19 =>
          some (.inl v18, M19)
        else
          some (.inr 0, M7)
theorem A_X7_filled_51 {l : Launch} (hl : l.stackTraces = false) {Ls d : Nat} {Lm : zML} {x1 : Int32} {x2 : Int32} {x3 : Int32} {M M' : zMM} {v : Int32 ⊕ Nat} (h : f_X7_filled_51 x1 x2 x3 M = some (v, M')) : z_Ct l mX7_filled (d + 7) (z_bo v) (6 * z_bo v) [.ref 51, .int x1, .int x2, .int x3] (z_L0 Ls, M, Lm) (z_oi v) (z_L0 Ls, M', Lm) := by
  replace h : (  z_bt (f_X7_checkPlay_51 x1 M) fun v2 M3 =>
    z_bt (f_X7_checkTown_51 x2 M3) fun v6 M7 =>
      if x3 < 0 then
        some (.inr 0, M7)
      else
        if x3 < (z_at M7 63 4 x1) then
          z_bi (f_X4_trunksIn_87 x2 M7) fun v12 M13 =>
          z_bi (f_X5_thingsOf_53 v12 M13) fun v15 M16 =>
          z_bi (f_X2_filler_83 x1 x2 v15 x3 M16) fun v18 M19 =>
          some (.inl v18, M19)
        else
          some (.inr 0, M7)) = some (v, M') := h
  refine z_Ct.of hl (by decide) (Nat.le_of_ble_eq_true rfl) rfl ?_
  show z_AW l mX7_filled (d + 7) (z_bo v) (6 * z_bo v) 0 [.ref 51, .int x1, .int x2, .int x3] [] (z_L0 Ls, M, Lm) (z_oi v) (z_L0 Ls, M', Lm)
  refine z_aload_n dX7_filled_0 rfl ?_
  refine z_iload_n dX7_filled_1 rfl ?_
  rcases z_bt_c h with ⟨v2, M3, c1, h⟩ | ⟨e4, c1, rfl⟩
  · refine z_cV (av := [.int x1]) (st := []) lk_X7_200 dX7_filled_2 (z_tv (A_X7_checkPlay_51 (d := d + 0) hl c1)) rfl rfl en_51 rfl (Nat.le_of_ble_eq_true rfl) rfl z_len rfl rfl ?_
    refine z_aload_n dX7_filled_5 rfl ?_
    refine z_iload_n dX7_filled_6 rfl ?_
    rcases z_bt_c h with ⟨v6, M7, c5, h⟩ | ⟨e8, c5, rfl⟩
    · refine z_cV (av := [.int x2]) (st := []) lk_X7_162 dX7_filled_7 (z_tv (A_X7_checkTown_51 (d := d + 0) hl c5)) rfl rfl en_51 rfl (Nat.le_of_ble_eq_true rfl) rfl z_len rfl rfl ?_
      refine z_iload_n dX7_filled_10 rfl ?_
      refine z_if_lt (tgt := 29) dX7_filled_11 rfl (fun g9 => ?_) (fun g9 => ?_)
      · replace h := (if_pos g9).symm.trans h
        cases h
        exact z_throw (text := "no such need") z_tpN (by decide +kernel) rfl (by omega) (Nat.le_of_ble_eq_true rfl) (Nat.le_refl _) (Nat.le_refl _) dX7_filled_29 dX7_filled_32 dX7_filled_33 dX7_filled_35 dX7_filled_38
      · replace h := (if_neg g9).symm.trans h
        refine z_iload_n dX7_filled_14 rfl ?_
        refine z_aload_n dX7_filled_15 rfl ?_
        refine z_getR (q := 53) fl_X7_23 dX7_filled_16 en_51 rfl ?_
        refine z_getR (q := 63) fl_X7_212 dX7_filled_19 en_53 rfl ?_
        refine z_iload_n dX7_filled_22 rfl ?_
        refine z_cS (av := [.ref 63, .int x1]) (st := [.int x3]) (v := some (.int (z_at M7 63 4 x1))) lk_X7_153 dX7_filled_23 (A_X7_at (d := d + 6) hl (by decide) en_63) rfl rfl (Nat.le_of_ble_eq_true rfl) rfl z_len rfl rfl ?_
        refine z_icmp_lt (tgt := 39) dX7_filled_26 rfl (fun g10 => ?_) (fun g10 => ?_)
        · replace h := (if_pos g10).symm.trans h
          refine z_aload_n dX7_filled_39 rfl ?_
          refine z_getR (q := 83) fl_X7_51 dX7_filled_40 en_51 rfl ?_
          refine z_iload_n dX7_filled_43 rfl ?_
          refine z_iload_n dX7_filled_44 rfl ?_
          refine z_aload_n dX7_filled_45 rfl ?_
          refine z_getR (q := 53) fl_X7_23 dX7_filled_46 en_51 rfl ?_
          refine z_aload_n dX7_filled_49 rfl ?_
          refine z_getR (q := 87) fl_X7_58 dX7_filled_50 en_51 rfl ?_
          refine z_iload_n dX7_filled_53 rfl ?_
          obtain ⟨v12, M13, c11, h⟩ := z_bi_c h
          refine z_cV (av := [.int x2]) (st := [.ref 53, .int x2, .int x1, .ref 83]) lk_X7_177 dX7_filled_54 (A_X4_trunksIn_87 (d := d + 4) hl c11) rfl rfl en_87 rfl (Nat.le_of_ble_eq_true rfl) rfl z_len rfl rfl ?_
          obtain ⟨v15, M16, c14, h⟩ := z_bi_c h
          refine z_cV (av := [.int v12]) (st := [.int x2, .int x1, .ref 83]) lk_X7_180 dX7_filled_57 (A_X5_thingsOf_53 (d := d + 5) hl c14) rfl rfl en_53 rfl (Nat.le_of_ble_eq_true rfl) rfl z_len rfl rfl ?_
          refine z_iload_n dX7_filled_60 rfl ?_
          obtain ⟨v18, M19, c17, h⟩ := z_bi_c h
          refine z_cV (av := [.int x1, .int x2, .int v15, .int x3]) (st := []) lk_X7_217 dX7_filled_61 (A_X2_filler_83 (d := d + 1) hl c17) rfl rfl en_83 rfl (Nat.le_of_ble_eq_true rfl) rfl z_len rfl rfl ?_
          cases h
          exact z_rI dX7_filled_64 rfl
        · replace h := (if_neg g10).symm.trans h
          cases h
          exact z_throw (text := "no such need") z_tpN (by decide +kernel) rfl (by omega) (Nat.le_of_ble_eq_true rfl) (Nat.le_refl _) (Nat.le_refl _) dX7_filled_29 dX7_filled_32 dX7_filled_33 dX7_filled_35 dX7_filled_38
    · exact z_cVx (av := [.int x2]) (st := []) lk_X7_162 dX7_filled_7 (A_X7_checkTown_51 (d := d + 0) hl c5) rfl rfl en_51 rfl (Nat.le_of_ble_eq_true rfl) rfl z_len rfl rfl (Nat.le_refl _) (Nat.le_refl _)
  · exact z_cVx (av := [.int x1]) (st := []) lk_X7_200 dX7_filled_2 (A_X7_checkPlay_51 (d := d + 0) hl c1) rfl rfl en_51 rfl (Nat.le_of_ble_eq_true rfl) rfl z_len rfl rfl (Nat.le_refl _) (Nat.le_refl _)
/-! X7_forget 51 -/
def f_X7_forget_51  (M : zMM) : Option zMM :=
  some (z_up M 87 5 (0 : Int32))
theorem A_X7_forget_51 {l : Launch} (hl : l.stackTraces = false) {Ls d : Nat} {Lm : zML}  {M M' : zMM} (h : f_X7_forget_51  M = some M') : z_Ct l mX7_forget (d + 0) 0 0 [.ref 51] (z_L0 Ls, M, Lm) (.inl none) (z_L0 Ls, M', Lm) := by
  replace h : (  some (z_up M 87 5 (0 : Int32))) = some M' := h
  refine z_Ct.of hl (by decide) (Nat.le_of_ble_eq_true rfl) rfl ?_
  show z_AW l mX7_forget (d + 0) 0 0 0 [.ref 51] [] (z_L0 Ls, M, Lm) (.inl none) (z_L0 Ls, M', Lm)
  refine z_aload_n dX7_forget_0 rfl ?_
  refine z_getR (q := 87) fl_X7_58 dX7_forget_1 en_51 rfl ?_
  refine z_ic kc_p0 dX7_forget_4 ?_
  refine z_pI fp_X7_140 dX7_forget_5 (by decide) en_87 rfl ?_
  cases h
  exact z_return dX7_forget_8 rfl
/-! X4_takeFrom 94 87 -/
def f_X4_takeFrom_94_87  (M : zMM) : Option zMM :=
  z_bv (some (z_cp M 88 95 5)) fun M2 =>
  z_bv (some (z_cp M2 89 96 5)) fun M4 =>
  if z_zb (M4 87 3) = true then
    z_bv (some (z_cp (z_up (z_up (z_up (z_up M4 94 2 (M4 87 2)) 94 3 (M4 87 3)) 94 4 (M4 87 4)) 94 5 (M4 87 5)) 90 97 4)) fun M7 =>
    z_bv (some (z_cp M7 91 98 4)) fun M9 =>
    z_bv (some (z_cp M9 92 99 4)) fun M11 =>
    z_bv (some (z_cp M11 93 100 3)) fun M13 =>
    some M13
  else none
theorem A_X4_takeFrom_94_87 {l : Launch} (hl : l.stackTraces = false) {Ls d : Nat} {Lm : zML}  {M M' : zMM} (h : f_X4_takeFrom_94_87  M = some M') : z_Ct l mX4_takeFrom (d + 2) 0 0 [.ref 94, .ref 87] (z_L0 Ls, M, Lm) (.inl none) (z_L0 Ls, M', Lm) := by
  replace h : (  z_bv (some (z_cp M 88 95 5)) fun M2 =>
  z_bv (some (z_cp M2 89 96 5)) fun M4 =>
  if z_zb (M4 87 3) = true then
    z_bv (some (z_cp (z_up (z_up (z_up (z_up M4 94 2 (M4 87 2)) 94 3 (M4 87 3)) 94 4 (M4 87 4)) 94 5 (M4 87 5)) 90 97 4)) fun M7 =>
    z_bv (some (z_cp M7 91 98 4)) fun M9 =>
    z_bv (some (z_cp M9 92 99 4)) fun M11 =>
    z_bv (some (z_cp M11 93 100 3)) fun M13 =>
    some M13
  else none) = some M' := h
  refine z_Ct.of hl (by decide) (Nat.le_of_ble_eq_true rfl) rfl ?_
  show z_AW l mX4_takeFrom (d + 2) 0 0 0 [.ref 94, .ref 87] [] (z_L0 Ls, M, Lm) (.inl none) (z_L0 Ls, M', Lm)
  refine z_aload_n dX4_takeFrom_0 rfl ?_
  refine z_getR (q := 88) fl_X4_9 dX4_takeFrom_1 en_87 rfl ?_
  refine z_aload_n dX4_takeFrom_4 rfl ?_
  refine z_getR (q := 95) fl_X4_9 dX4_takeFrom_5 en_94 rfl ?_
  obtain ⟨M2, c1, h⟩ := z_bv_c h
  refine z_cN (av := [.ref 88, .ref 95]) (st := []) lk_X4_65 dX4_takeFrom_8 (z_Ct.to (A_X7_copy (d := d + 0) hl (by decide) en_88 en_95 (n := 5) (by decide) (by decide) (by decide) (by decide +kernel)) c1) rfl rfl (Nat.le_of_ble_eq_true rfl) rfl z_len rfl rfl ?_
  refine z_aload_n dX4_takeFrom_11 rfl ?_
  refine z_getR (q := 89) fl_X4_15 dX4_takeFrom_12 en_87 rfl ?_
  refine z_aload_n dX4_takeFrom_15 rfl ?_
  refine z_getR (q := 96) fl_X4_15 dX4_takeFrom_16 en_94 rfl ?_
  obtain ⟨M4, c3, h⟩ := z_bv_c h
  refine z_cN (av := [.ref 89, .ref 96]) (st := []) lk_X4_65 dX4_takeFrom_19 (z_Ct.to (A_X7_copy (d := d + 0) hl (by decide) en_89 en_96 (n := 5) (by decide) (by decide) (by decide) (by decide +kernel)) c3) rfl rfl (Nat.le_of_ble_eq_true rfl) rfl z_len rfl rfl ?_
  refine z_aload_n dX4_takeFrom_22 rfl ?_
  refine z_aload_n dX4_takeFrom_23 rfl ?_
  refine z_gI (v := (M4 87 2)) fl_X4_18 dX4_takeFrom_24 en_87 rfl rfl ?_
  refine z_pI fp_X4_18 dX4_takeFrom_27 (by decide) en_94 rfl ?_
  refine z_aload_n dX4_takeFrom_30 rfl ?_
  refine z_aload_n dX4_takeFrom_31 rfl ?_
  refine z_gI (v := (M4 87 3)) fl_X4_22 dX4_takeFrom_32 en_87 rfl rfl ?_
  obtain ⟨g5, h⟩ := z_ifn h
  refine z_pZ fp_X4_22 dX4_takeFrom_35 (by decide) en_94 rfl g5 ?_
  refine z_aload_n dX4_takeFrom_38 rfl ?_
  refine z_aload_n dX4_takeFrom_39 rfl ?_
  refine z_gI (v := (M4 87 4)) fl_X4_26 dX4_takeFrom_40 en_87 rfl rfl ?_
  refine z_pI fp_X4_26 dX4_takeFrom_43 (by decide) en_94 rfl ?_
  refine z_aload_n dX4_takeFrom_46 rfl ?_
  refine z_aload_n dX4_takeFrom_47 rfl ?_
  refine z_gI (v := (M4 87 5)) fl_X4_29 dX4_takeFrom_48 en_87 rfl rfl ?_
  refine z_pI fp_X4_29 dX4_takeFrom_51 (by decide) en_94 rfl ?_
  refine z_aload_n dX4_takeFrom_54 rfl ?_
  refine z_getR (q := 90) fl_X4_32 dX4_takeFrom_55 en_87 rfl ?_
  refine z_aload_n dX4_takeFrom_58 rfl ?_
  refine z_getR (q := 97) fl_X4_32 dX4_takeFrom_59 en_94 rfl ?_
  obtain ⟨M7, c6, h⟩ := z_bv_c h
  refine z_cN (av := [.ref 90, .ref 97]) (st := []) lk_X4_65 dX4_takeFrom_62 (z_Ct.to (A_X7_copy (d := d + 0) hl (by decide) en_90 en_97 (n := 4) (by decide) (by decide) (by decide) (by decide +kernel)) c6) rfl rfl (Nat.le_of_ble_eq_true rfl) rfl z_len rfl rfl ?_
  refine z_aload_n dX4_takeFrom_65 rfl ?_
  refine z_getR (q := 91) fl_X4_35 dX4_takeFrom_66 en_87 rfl ?_
  refine z_aload_n dX4_takeFrom_69 rfl ?_
  refine z_getR (q := 98) fl_X4_35 dX4_takeFrom_70 en_94 rfl ?_
  obtain ⟨M9, c8, h⟩ := z_bv_c h
  refine z_cN (av := [.ref 91, .ref 98]) (st := []) lk_X4_65 dX4_takeFrom_73 (z_Ct.to (A_X7_copy (d := d + 0) hl (by decide) en_91 en_98 (n := 4) (by decide) (by decide) (by decide) (by decide +kernel)) c8) rfl rfl (Nat.le_of_ble_eq_true rfl) rfl z_len rfl rfl ?_
  refine z_aload_n dX4_takeFrom_76 rfl ?_
  refine z_getR (q := 92) fl_X4_38 dX4_takeFrom_77 en_87 rfl ?_
  refine z_aload_n dX4_takeFrom_80 rfl ?_
  refine z_getR (q := 99) fl_X4_38 dX4_takeFrom_81 en_94 rfl ?_
  obtain ⟨M11, c10, h⟩ := z_bv_c h
  refine z_cN (av := [.ref 92, .ref 99]) (st := []) lk_X4_65 dX4_takeFrom_84 (z_Ct.to (A_X7_copy (d := d + 0) hl (by decide) en_92 en_99 (n := 4) (by decide) (by decide) (by decide) (by decide +kernel)) c10) rfl rfl (Nat.le_of_ble_eq_true rfl) rfl z_len rfl rfl ?_
  refine z_aload_n dX4_takeFrom_87 rfl ?_
  refine z_getR (q := 93) fl_X4_41 dX4_takeFrom_88 en_87 rfl ?_
  refine z_aload_n dX4_takeFrom_91 rfl ?_
  refine z_getR (q := 100) fl_X4_41 dX4_takeFrom_92 en_94 rfl ?_
  obtain ⟨M13, c12, h⟩ := z_bv_c h
  refine z_cN (av := [.ref 93, .ref 100]) (st := []) lk_X4_65 dX4_takeFrom_95 (z_Ct.to (A_X7_copy (d := d + 0) hl (by decide) en_93 en_100 (n := 3) (by decide) (by decide) (by decide) (by decide +kernel)) c12) rfl rfl (Nat.le_of_ble_eq_true rfl) rfl z_len rfl rfl ?_
  cases h
  exact z_return dX4_takeFrom_98 rfl
/-! X7_image 51 -/
def f_X7_image_51  (M : zMM) : Option zMM :=
  z_bv (f_X4_takeFrom_94_87  M) fun M3 =>
  some (z_up M3 51 10 (1 : Int32))
theorem A_X7_image_51 {l : Launch} (hl : l.stackTraces = false) {Ls d : Nat} {Lm : zML}  {M M' : zMM} (h : f_X7_image_51  M = some M') : z_Ct l mX7_image (d + 3) 0 0 [.ref 51] (z_L0 Ls, M, Lm) (.inl none) (z_L0 Ls, M', Lm) := by
  replace h : (  z_bv (f_X4_takeFrom_94_87  M) fun M3 =>
  some (z_up M3 51 10 (1 : Int32))) = some M' := h
  refine z_Ct.of hl (by decide) (Nat.le_of_ble_eq_true rfl) rfl ?_
  show z_AW l mX7_image (d + 3) 0 0 0 [.ref 51] [] (z_L0 Ls, M, Lm) (.inl none) (z_L0 Ls, M', Lm)
  refine z_aload_n dX7_image_0 rfl ?_
  refine z_getR (q := 94) fl_X7_62 dX7_image_1 en_51 rfl ?_
  refine z_aload_n dX7_image_4 rfl ?_
  refine z_getR (q := 87) fl_X7_58 dX7_image_5 en_51 rfl ?_
  obtain ⟨M3, c1, h⟩ := z_bv_c h
  refine z_cV (av := [.ref 87]) (st := []) lk_X7_334 dX7_image_8 (A_X4_takeFrom_94_87 (d := d + 0) hl c1) rfl rfl en_94 rfl (Nat.le_of_ble_eq_true rfl) rfl z_len rfl rfl ?_
  refine z_aload_n dX7_image_11 rfl ?_
  refine z_ic kc_p1 dX7_image_12 ?_
  refine z_pZ fp_X7_65 dX7_image_13 (by decide) en_51 rfl rfl ?_
  cases h
  exact z_return dX7_image_16 rfl
/-! X6_elsewhere 80 -/
def f_X6_elsewhere_80_p2 : Nat → Int32 → Int32 → Int32 → zMM → Option (Int32 × zMM)
  | 0, _, _, _, _ => none
  | n + 1, x1, x2, x3, M =>
  if (M 53 0) ≤ x3 then
    some ((-1 : Int32), M)
  else
    if x3 = x2 then
      f_X6_elsewhere_80_p2 n x1 x2 (x3 + (1 : Int32)) M
    else
      z_bi (f_X5_trainDays_53 x1 x3 M) fun v4 M5 =>
      if v4 = (-1 : Int32) then
        f_X6_elsewhere_80_p2 n x1 x2 (x3 + (1 : Int32)) M5
      else
        some (x3, M5)
def f_X6_elsewhere_80 (x1 : Int32) (x2 : Int32) (M : zMM) : Option (Int32 × zMM) :=
  f_X6_elsewhere_80_p2 z_fuel x1 x2 (0 : Int32) M
theorem A_X6_elsewhere_80_p2 {l : Launch} (hl : l.stackTraces = false) {Ls d : Nat} {Lm : zML} :
    ∀ (n : Nat) (x1 : Int32) (x2 : Int32) (x3 : Int32) (M M' : zMM) (v : Int32) , f_X6_elsewhere_80_p2 n x1 x2 x3 M = some (v, M') → z_AW l mX6_elsewhere (d + 2) 0 0 2 [.ref 80, .int x1, .int x2, .int x3] [] (z_L0 Ls, M, Lm) (.inl (some (.int v))) (z_L0 Ls, M', Lm) := by
  intro n
  induction n with
  | zero => intro x1 x2 x3 M M' v h; cases h
  | succ n ih =>
    intro x1 x2 x3 M M' v h
    replace h : (  if (M 53 0) ≤ x3 then
    some ((-1 : Int32), M)
  else
    if x3 = x2 then
      f_X6_elsewhere_80_p2 n x1 x2 (x3 + (1 : Int32)) M
    else
      z_bi (f_X5_trainDays_53 x1 x3 M) fun v4 M5 =>
      if v4 = (-1 : Int32) then
        f_X6_elsewhere_80_p2 n x1 x2 (x3 + (1 : Int32)) M5
      else
        some (x3, M5)) = some (v, M') := h
    refine z_iload_n dX6_elsewhere_2 rfl ?_
    refine z_aload_n dX6_elsewhere_3 rfl ?_
    refine z_getR (q := 53) fl_X6_18 dX6_elsewhere_4 en_80 rfl ?_
    refine z_gI (v := (M 53 0)) fl_X6_59 dX6_elsewhere_7 en_53 rfl rfl ?_
    refine z_icmp_ge (tgt := 39) dX6_elsewhere_10 rfl (fun g1 => ?_) (fun g1 => ?_)
    · replace h := (if_pos g1).symm.trans h
      refine z_ic kc_m1 dX6_elsewhere_39 ?_
      cases h
      exact z_rI dX6_elsewhere_40 rfl
    · replace h := (if_neg g1).symm.trans h
      refine z_iload_n dX6_elsewhere_13 rfl ?_
      refine z_iload_n dX6_elsewhere_14 rfl ?_
      refine z_icmp_eq (tgt := 33) dX6_elsewhere_15 rfl (fun g2 => ?_) (fun g2 => ?_)
      · replace h := (if_pos g2).symm.trans h
        refine z_ii (ls' := [.ref 80, .int x1, .int x2, .int (x3 + (1 : Int32))]) kc_p1 dX6_elsewhere_33 rfl (by decide) rfl ?_
        refine z_goto (tgt := 2) dX6_elsewhere_36 rfl ?_
        exact ih x1 x2 (x3 + (1 : Int32)) _ _ _ h
      · replace h := (if_neg g2).symm.trans h
        refine z_aload_n dX6_elsewhere_18 rfl ?_
        refine z_getR (q := 53) fl_X6_18 dX6_elsewhere_19 en_80 rfl ?_
        refine z_iload_n dX6_elsewhere_22 rfl ?_
        refine z_iload_n dX6_elsewhere_23 rfl ?_
        obtain ⟨v4, M5, c3, h⟩ := z_bi_c h
        refine z_cV (av := [.int x1, .int x3]) (st := []) lk_X6_63 dX6_elsewhere_24 (A_X5_trainDays_53 (d := d + 0) hl c3) rfl rfl en_53 rfl (Nat.le_of_ble_eq_true rfl) rfl z_len rfl rfl ?_
        refine z_ic kc_m1 dX6_elsewhere_27 ?_
        refine z_icmp_eq (tgt := 33) dX6_elsewhere_28 rfl (fun g6 => ?_) (fun g6 => ?_)
        · replace h := (if_pos g6).symm.trans h
          refine z_ii (ls' := [.ref 80, .int x1, .int x2, .int (x3 + (1 : Int32))]) kc_p1 dX6_elsewhere_33 rfl (by decide) rfl ?_
          refine z_goto (tgt := 2) dX6_elsewhere_36 rfl ?_
          exact ih x1 x2 (x3 + (1 : Int32)) _ _ _ h
        · replace h := (if_neg g6).symm.trans h
          refine z_iload_n dX6_elsewhere_31 rfl ?_
          cases h
          exact z_rI dX6_elsewhere_32 rfl
theorem A_X6_elsewhere_80 {l : Launch} (hl : l.stackTraces = false) {Ls d : Nat} {Lm : zML} {x1 : Int32} {x2 : Int32} {M M' : zMM} {v : Int32} (h : f_X6_elsewhere_80 x1 x2 M = some (v, M')) : z_Ct l mX6_elsewhere (d + 2) 0 0 [.ref 80, .int x1, .int x2] (z_L0 Ls, M, Lm) (.inl (some (.int v))) (z_L0 Ls, M', Lm) := by
  replace h : (  f_X6_elsewhere_80_p2 z_fuel x1 x2 (0 : Int32) M) = some (v, M') := h
  refine z_Ct.of hl (by decide) (Nat.le_of_ble_eq_true rfl) rfl ?_
  show z_AW l mX6_elsewhere (d + 2) 0 0 0 [.ref 80, .int x1, .int x2, .null] [] (z_L0 Ls, M, Lm) (.inl (some (.int v))) (z_L0 Ls, M', Lm)
  refine z_ic kc_p0 dX6_elsewhere_0 ?_
  refine z_istore_n (ls' := [.ref 80, .int x1, .int x2, .int (0 : Int32)]) dX6_elsewhere_1 (by decide) rfl ?_
  exact A_X6_elsewhere_80_p2 hl z_fuel x1 x2 (0 : Int32) _ _ _ h
/-! X6_loses 80 -/
def f_X6_loses_80_p49 (x2 : Int32) (a0 : Int32) (M : zMM) : Option (Int64 × zMM) :=
  if a0 = 0 then
    some ((0 : Int64), M)
  else
    some ((z_at M 55 5 x2).toInt64, M)
def f_X6_loses_80_p44 (x2 : Int32) (M : zMM) : Option (Int64 × zMM) :=
  f_X6_loses_80_p49 x2 (1 : Int32) M
def f_X6_loses_80_p48 (x2 : Int32) (M : zMM) : Option (Int64 × zMM) :=
  f_X6_loses_80_p49 x2 (0 : Int32) M
def f_X6_loses_80 (x1 : Int32) (M : zMM) : Option (Int64 × zMM) :=
  z_bi (f_X6_stop_80 x1 M) fun v2 M3 =>
  if (z_at M3 54 5 v2) = (3 : Int32) then
    f_X6_loses_80_p44 v2 M3
  else
    if (z_at M3 54 5 v2) = (1 : Int32) then
      z_bi (f_X6_stop_80 (x1 + (1 : Int32)) M3) fun v8 M9 =>
      z_bi (f_X6_elsewhere_80 v2 v8 M9) fun v11 M12 =>
      if v11 = (-1 : Int32) then
        f_X6_loses_80_p48 v2 M12
      else
        f_X6_loses_80_p44 v2 M12
    else
      f_X6_loses_80_p48 v2 M3
theorem A_X6_loses_80_p49 {l : Launch} (hl : l.stackTraces = false) {Ls d : Nat} {Lm : zML} :
    ∀ (x2 : Int32) (a0 : Int32) (M M' : zMM) (v : Int64) , f_X6_loses_80_p49 x2 a0 M = some (v, M') → z_AW l mX6_loses (d + 3) 0 0 49 [.ref 80, .null, .int x2, .null, .null] [.int a0] (z_L0 Ls, M, Lm) (.inl (some (.long v))) (z_L0 Ls, M', Lm) := by
  intro x2 a0 M M' v h
  replace h : (  if a0 = 0 then
    some ((0 : Int64), M)
  else
    some ((z_at M 55 5 x2).toInt64, M)) = some (v, M') := h
  refine z_istore (ls' := [.ref 80, .null, .int x2, .null, .int a0]) dX6_loses_49 (by decide) rfl ?_
  refine z_iload dX6_loses_51 rfl ?_
  refine z_if_eq (tgt := 71) dX6_loses_53 rfl (fun g5 => ?_) (fun g5 => ?_)
  · replace h := (if_pos g5).symm.trans h
    refine z_lc kl_p0 dX6_loses_71 ?_
    cases h
    exact z_lreturn dX6_loses_72 rfl
  · replace h := (if_neg g5).symm.trans h
    refine z_aload_n dX6_loses_56 rfl ?_
    refine z_getR (q := 53) fl_X6_18 dX6_loses_57 en_80 rfl ?_
    refine z_getR (q := 55) fl_X6_76 dX6_loses_60 en_53 rfl ?_
    refine z_iload_n dX6_loses_63 rfl ?_
    refine z_cN (av := [.ref 55, .int x2]) (st := []) (v := some (.int (z_at M 55 5 x2))) lk_X6_52 dX6_loses_64 (A_X7_at (d := d + 2) hl (by decide) en_55) rfl rfl (Nat.le_of_ble_eq_true rfl) rfl z_len rfl rfl ?_
    refine z_i2l dX6_loses_67 ?_
    refine z_goto (tgt := 72) dX6_loses_68 rfl ?_
    cases h
    exact z_lreturn dX6_loses_72 rfl
theorem A_X6_loses_80_p44 {l : Launch} (hl : l.stackTraces = false) {Ls d : Nat} {Lm : zML} :
    ∀ (x2 : Int32) (M M' : zMM) (v : Int64) , f_X6_loses_80_p44 x2 M = some (v, M') → z_AW l mX6_loses (d + 3) 0 0 44 [.ref 80, .null, .int x2, .null, .null] [] (z_L0 Ls, M, Lm) (.inl (some (.long v))) (z_L0 Ls, M', Lm) := by
  intro x2 M M' v h
  replace h : (  f_X6_loses_80_p49 x2 (1 : Int32) M) = some (v, M') := h
  refine z_ic kc_p1 dX6_loses_44 ?_
  refine z_goto (tgt := 49) dX6_loses_45 rfl ?_
  exact A_X6_loses_80_p49 hl x2 (1 : Int32) _ _ _ h
theorem A_X6_loses_80_p48 {l : Launch} (hl : l.stackTraces = false) {Ls d : Nat} {Lm : zML} :
    ∀ (x2 : Int32) (M M' : zMM) (v : Int64) , f_X6_loses_80_p48 x2 M = some (v, M') → z_AW l mX6_loses (d + 3) 0 0 48 [.ref 80, .null, .int x2, .null, .null] [] (z_L0 Ls, M, Lm) (.inl (some (.long v))) (z_L0 Ls, M', Lm) := by
  intro x2 M M' v h
  replace h : (  f_X6_loses_80_p49 x2 (0 : Int32) M) = some (v, M') := h
  refine z_ic kc_p0 dX6_loses_48 ?_
  exact A_X6_loses_80_p49 hl x2 (0 : Int32) _ _ _ h
theorem A_X6_loses_80 {l : Launch} (hl : l.stackTraces = false) {Ls d : Nat} {Lm : zML} {x1 : Int32} {M M' : zMM} {v : Int64} (h : f_X6_loses_80 x1 M = some (v, M')) : z_Ct l mX6_loses (d + 3) 0 0 [.ref 80, .int x1] (z_L0 Ls, M, Lm) (.inl (some (.long v))) (z_L0 Ls, M', Lm) := by
  replace h : (  z_bi (f_X6_stop_80 x1 M) fun v2 M3 =>
  if (z_at M3 54 5 v2) = (3 : Int32) then
    f_X6_loses_80_p44 v2 M3
  else
    if (z_at M3 54 5 v2) = (1 : Int32) then
      z_bi (f_X6_stop_80 (x1 + (1 : Int32)) M3) fun v8 M9 =>
      z_bi (f_X6_elsewhere_80 v2 v8 M9) fun v11 M12 =>
      if v11 = (-1 : Int32) then
        f_X6_loses_80_p48 v2 M12
      else
        f_X6_loses_80_p44 v2 M12
    else
      f_X6_loses_80_p48 v2 M3) = some (v, M') := h
  refine z_Ct.of hl (by decide) (Nat.le_of_ble_eq_true rfl) rfl ?_
  show z_AW l mX6_loses (d + 3) 0 0 0 [.ref 80, .int x1, .null, .null, .null] [] (z_L0 Ls, M, Lm) (.inl (some (.long v))) (z_L0 Ls, M', Lm)
  refine z_aload_n dX6_loses_0 rfl ?_
  refine z_iload_n dX6_loses_1 rfl ?_
  obtain ⟨v2, M3, c1, h⟩ := z_bi_c h
  refine z_cV (av := [.int x1]) (st := []) lk_X6_66 dX6_loses_2 (A_X6_stop_80 (d := d + 1) hl c1) rfl rfl en_80 rfl (Nat.le_of_ble_eq_true rfl) rfl z_len rfl rfl ?_
  refine z_istore_n (ls' := [.ref 80, .int x1, .int v2, .null, .null]) dX6_loses_5 (by decide) rfl ?_
  refine z_aload_n dX6_loses_6 rfl ?_
  refine z_getR (q := 53) fl_X6_18 dX6_loses_7 en_80 rfl ?_
  refine z_getR (q := 54) fl_X6_70 dX6_loses_10 en_53 rfl ?_
  refine z_iload_n dX6_loses_13 rfl ?_
  refine z_cN (av := [.ref 54, .int v2]) (st := []) (v := some (.int (z_at M3 54 5 v2))) lk_X6_52 dX6_loses_14 (A_X7_at (d := d + 2) hl (by decide) en_54) rfl rfl (Nat.le_of_ble_eq_true rfl) rfl z_len rfl rfl ?_
  refine z_istore_n (ls' := [.ref 80, .int x1, .int v2, .int (z_at M3 54 5 v2), .null]) dX6_loses_17 (by decide) rfl ?_
  refine z_iload_n dX6_loses_18 rfl ?_
  refine z_ic kc_p3 dX6_loses_19 ?_
  refine z_icmp_eq (tgt := 44) dX6_loses_20 rfl (fun g4 => ?_) (fun g4 => ?_)
  · replace h := (if_pos g4).symm.trans h
    refine z_fg (ls' := [.ref 80, .null, .int v2, .null, .null]) ⟨Or.inr rfl, Or.inl rfl, Or.inr rfl, Or.inl rfl, Or.inl rfl, trivial⟩ ?_
    exact A_X6_loses_80_p44 hl v2 _ _ _ h
  · replace h := (if_neg g4).symm.trans h
    refine z_iload_n dX6_loses_23 rfl ?_
    refine z_ic kc_p1 dX6_loses_24 ?_
    refine z_icmp_ne (tgt := 48) dX6_loses_25 rfl (fun g6 => ?_) (fun g6 => ?_)
    · replace h := (if_pos g6).symm.trans h
      refine z_aload_n dX6_loses_28 rfl ?_
      refine z_iload_n dX6_loses_29 rfl ?_
      refine z_aload_n dX6_loses_30 rfl ?_
      refine z_iload_n dX6_loses_31 rfl ?_
      refine z_ic kc_p1 dX6_loses_32 ?_
      refine z_iadd dX6_loses_33 ?_
      obtain ⟨v8, M9, c7, h⟩ := z_bi_c h
      refine z_cV (av := [.int (x1 + (1 : Int32))]) (st := [.int v2, .ref 80]) lk_X6_66 dX6_loses_34 (A_X6_stop_80 (d := d + 1) hl c7) rfl rfl en_80 rfl (Nat.le_of_ble_eq_true rfl) rfl z_len rfl rfl ?_
      obtain ⟨v11, M12, c10, h⟩ := z_bi_c h
      refine z_cV (av := [.int v2, .int v8]) (st := []) lk_X6_73 dX6_loses_37 (A_X6_elsewhere_80 (d := d + 0) hl c10) rfl rfl en_80 rfl (Nat.le_of_ble_eq_true rfl) rfl z_len rfl rfl ?_
      refine z_ic kc_m1 dX6_loses_40 ?_
      refine z_icmp_eq (tgt := 48) dX6_loses_41 rfl (fun g13 => ?_) (fun g13 => ?_)
      · replace h := (if_pos g13).symm.trans h
        refine z_fg (ls' := [.ref 80, .null, .int v2, .null, .null]) ⟨Or.inr rfl, Or.inl rfl, Or.inr rfl, Or.inl rfl, Or.inl rfl, trivial⟩ ?_
        exact A_X6_loses_80_p48 hl v2 _ _ _ h
      · replace h := (if_neg g13).symm.trans h
        refine z_fg (ls' := [.ref 80, .null, .int v2, .null, .null]) ⟨Or.inr rfl, Or.inl rfl, Or.inr rfl, Or.inl rfl, Or.inl rfl, trivial⟩ ?_
        exact A_X6_loses_80_p44 hl v2 _ _ _ h
    · replace h := (if_neg g6).symm.trans h
      refine z_fg (ls' := [.ref 80, .null, .int v2, .null, .null]) ⟨Or.inr rfl, Or.inl rfl, Or.inr rfl, Or.inl rfl, Or.inl rfl, trivial⟩ ?_
      exact A_X6_loses_80_p48 hl v2 _ _ _ h
/-! X6_lostShare 80 -/
def f_X6_lostShare_80_p5 : Nat → Int32 → Int32 → Int64 → Int32 → zMM → Option (Int64 × zMM)
  | 0, _, _, _, _, _ => none
  | n + 1, x1, x2, y3, x5, M =>
  if x2 ≤ x5 then
    some (y3, M)
  else
    if x1 ≤ x5 then
      if x5 = x1 then
        z_bi (f_X6_loses_80 x5 M) fun v5 M6 =>
        f_X6_lostShare_80_p5 n x1 x2 (y3 * v5) (x5 + (1 : Int32)) M6
      else
        f_X6_lostShare_80_p5 n x1 x2 (y3 * (1000 : Int64)) (x5 + (1 : Int32)) M
    else
      z_bi (f_X6_loses_80 x5 M) fun v8 M9 =>
      f_X6_lostShare_80_p5 n x1 x2 (y3 * ((1000 : Int64) - v8)) (x5 + (1 : Int32)) M9
def f_X6_lostShare_80 (x1 : Int32) (x2 : Int32) (M : zMM) : Option (Int64 × zMM) :=
  f_X6_lostShare_80_p5 z_fuel x1 x2 (1 : Int64) (0 : Int32) M
theorem A_X6_lostShare_80_p5 {l : Launch} (hl : l.stackTraces = false) {Ls d : Nat} {Lm : zML} :
    ∀ (n : Nat) (x1 : Int32) (x2 : Int32) (y3 : Int64) (x5 : Int32) (M M' : zMM) (v : Int64) , f_X6_lostShare_80_p5 n x1 x2 y3 x5 M = some (v, M') → z_AW l mX6_lostShare (d + 4) 0 0 5 [.ref 80, .int x1, .int x2, .long y3, .null, .int x5] [] (z_L0 Ls, M, Lm) (.inl (some (.long v))) (z_L0 Ls, M', Lm) := by
  intro n
  induction n with
  | zero => intro x1 x2 y3 x5 M M' v h; cases h
  | succ n ih =>
    intro x1 x2 y3 x5 M M' v h
    replace h : (  if x2 ≤ x5 then
    some (y3, M)
  else
    if x1 ≤ x5 then
      if x5 = x1 then
        z_bi (f_X6_loses_80 x5 M) fun v5 M6 =>
        f_X6_lostShare_80_p5 n x1 x2 (y3 * v5) (x5 + (1 : Int32)) M6
      else
        f_X6_lostShare_80_p5 n x1 x2 (y3 * (1000 : Int64)) (x5 + (1 : Int32)) M
    else
      z_bi (f_X6_loses_80 x5 M) fun v8 M9 =>
      f_X6_lostShare_80_p5 n x1 x2 (y3 * ((1000 : Int64) - v8)) (x5 + (1 : Int32)) M9) = some (v, M') := h
    refine z_iload dX6_lostShare_5 rfl ?_
    refine z_iload_n dX6_lostShare_7 rfl ?_
    refine z_icmp_ge (tgt := 60) dX6_lostShare_8 rfl (fun g1 => ?_) (fun g1 => ?_)
    · replace h := (if_pos g1).symm.trans h
      refine z_lload_n dX6_lostShare_60 rfl ?_
      cases h
      exact z_lreturn dX6_lostShare_61 rfl
    · replace h := (if_neg g1).symm.trans h
      refine z_iload dX6_lostShare_11 rfl ?_
      refine z_iload_n dX6_lostShare_13 rfl ?_
      refine z_icmp_ge (tgt := 33) dX6_lostShare_14 rfl (fun g2 => ?_) (fun g2 => ?_)
      · replace h := (if_pos g2).symm.trans h
        refine z_lload_n dX6_lostShare_33 rfl ?_
        refine z_iload dX6_lostShare_34 rfl ?_
        refine z_iload_n dX6_lostShare_36 rfl ?_
        refine z_icmp_ne (tgt := 49) dX6_lostShare_37 rfl (fun g3 => ?_) (fun g3 => ?_)
        · replace h := (if_pos g3).symm.trans h
          refine z_aload_n dX6_lostShare_40 rfl ?_
          refine z_iload dX6_lostShare_41 rfl ?_
          obtain ⟨v5, M6, c4, h⟩ := z_bi_c h
          refine z_cV (av := [.int x5]) (st := [.long y3]) lk_X6_81 dX6_lostShare_43 (A_X6_loses_80 (d := d + 0) hl c4) rfl rfl en_80 rfl (Nat.le_of_ble_eq_true rfl) rfl z_len rfl rfl ?_
          refine z_goto (tgt := 52) dX6_lostShare_46 rfl ?_
          refine z_lmul dX6_lostShare_52 ?_
          refine z_lstore_n (ls' := [.ref 80, .int x1, .int x2, .long (y3 * v5), .null, .int x5]) dX6_lostShare_53 (by decide) rfl ?_
          refine z_ii (ls' := [.ref 80, .int x1, .int x2, .long (y3 * v5), .null, .int (x5 + (1 : Int32))]) kc_p1 dX6_lostShare_54 rfl (by decide) rfl ?_
          refine z_goto (tgt := 5) dX6_lostShare_57 rfl ?_
          exact ih x1 x2 (y3 * v5) (x5 + (1 : Int32)) _ _ _ h
        · replace h := (if_neg g3).symm.trans h
          refine z_ldc2 (v := 1000) kl_X6_79 dX6_lostShare_49 ?_
          refine z_lmul dX6_lostShare_52 ?_
          refine z_lstore_n (ls' := [.ref 80, .int x1, .int x2, .long (y3 * (1000 : Int64)), .null, .int x5]) dX6_lostShare_53 (by decide) rfl ?_
          refine z_ii (ls' := [.ref 80, .int x1, .int x2, .long (y3 * (1000 : Int64)), .null, .int (x5 + (1 : Int32))]) kc_p1 dX6_lostShare_54 rfl (by decide) rfl ?_
          refine z_goto (tgt := 5) dX6_lostShare_57 rfl ?_
          exact ih x1 x2 (y3 * (1000 : Int64)) (x5 + (1 : Int32)) _ _ _ h
      · replace h := (if_neg g2).symm.trans h
        refine z_lload_n dX6_lostShare_17 rfl ?_
        refine z_ldc2 (v := 1000) kl_X6_79 dX6_lostShare_18 ?_
        refine z_aload_n dX6_lostShare_21 rfl ?_
        refine z_iload dX6_lostShare_22 rfl ?_
        obtain ⟨v8, M9, c7, h⟩ := z_bi_c h
        refine z_cV (av := [.int x5]) (st := [.long (1000 : Int64), .long y3]) lk_X6_81 dX6_lostShare_24 (A_X6_loses_80 (d := d + 0) hl c7) rfl rfl en_80 rfl (Nat.le_of_ble_eq_true rfl) rfl z_len rfl rfl ?_
        refine z_lsub dX6_lostShare_27 ?_
        refine z_lmul dX6_lostShare_28 ?_
        refine z_lstore_n (ls' := [.ref 80, .int x1, .int x2, .long (y3 * ((1000 : Int64) - v8)), .null, .int x5]) dX6_lostShare_29 (by decide) rfl ?_
        refine z_goto (tgt := 54) dX6_lostShare_30 rfl ?_
        refine z_ii (ls' := [.ref 80, .int x1, .int x2, .long (y3 * ((1000 : Int64) - v8)), .null, .int (x5 + (1 : Int32))]) kc_p1 dX6_lostShare_54 rfl (by decide) rfl ?_
        refine z_goto (tgt := 5) dX6_lostShare_57 rfl ?_
        exact ih x1 x2 (y3 * ((1000 : Int64) - v8)) (x5 + (1 : Int32)) _ _ _ h
theorem A_X6_lostShare_80 {l : Launch} (hl : l.stackTraces = false) {Ls d : Nat} {Lm : zML} {x1 : Int32} {x2 : Int32} {M M' : zMM} {v : Int64} (h : f_X6_lostShare_80 x1 x2 M = some (v, M')) : z_Ct l mX6_lostShare (d + 4) 0 0 [.ref 80, .int x1, .int x2] (z_L0 Ls, M, Lm) (.inl (some (.long v))) (z_L0 Ls, M', Lm) := by
  replace h : (  f_X6_lostShare_80_p5 z_fuel x1 x2 (1 : Int64) (0 : Int32) M) = some (v, M') := h
  refine z_Ct.of hl (by decide) (Nat.le_of_ble_eq_true rfl) rfl ?_
  show z_AW l mX6_lostShare (d + 4) 0 0 0 [.ref 80, .int x1, .int x2, .null, .null, .null] [] (z_L0 Ls, M, Lm) (.inl (some (.long v))) (z_L0 Ls, M', Lm)
  refine z_lc kl_p1 dX6_lostShare_0 ?_
  refine z_lstore_n (ls' := [.ref 80, .int x1, .int x2, .long (1 : Int64), .null, .null]) dX6_lostShare_1 (by decide) rfl ?_
  refine z_ic kc_p0 dX6_lostShare_2 ?_
  refine z_istore (ls' := [.ref 80, .int x1, .int x2, .long (1 : Int64), .null, .int (0 : Int32)]) dX6_lostShare_3 (by decide) rfl ?_
  exact A_X6_lostShare_80_p5 hl z_fuel x1 x2 (1 : Int64) (0 : Int32) _ _ _ h
/-! X6_lostWhole 80 -/
def f_X6_lostWhole_80_p8 : Nat → Int32 → Int64 → Int64 → Int32 → zMM → Option (Int64 × zMM)
  | 0, _, _, _, _, _ => none
  | n + 1, x1, y2, y4, x6, M =>
  if x1 ≤ x6 then
    some ((y2 - y4), M)
  else
    z_bi (f_X6_loses_80 x6 M) fun v3 M4 =>
    f_X6_lostWhole_80_p8 n x1 (y2 * (1000 : Int64)) (y4 * ((1000 : Int64) - v3)) (x6 + (1 : Int32)) M4
def f_X6_lostWhole_80 (x1 : Int32) (M : zMM) : Option (Int64 × zMM) :=
  f_X6_lostWhole_80_p8 z_fuel x1 (1 : Int64) (1 : Int64) (0 : Int32) M
theorem A_X6_lostWhole_80_p8 {l : Launch} (hl : l.stackTraces = false) {Ls d : Nat} {Lm : zML} :
    ∀ (n : Nat) (x1 : Int32) (y2 : Int64) (y4 : Int64) (x6 : Int32) (M M' : zMM) (v : Int64) , f_X6_lostWhole_80_p8 n x1 y2 y4 x6 M = some (v, M') → z_AW l mX6_lostWhole (d + 4) 0 0 8 [.ref 80, .int x1, .long y2, .null, .long y4, .null, .int x6] [] (z_L0 Ls, M, Lm) (.inl (some (.long v))) (z_L0 Ls, M', Lm) := by
  intro n
  induction n with
  | zero => intro x1 y2 y4 x6 M M' v h; cases h
  | succ n ih =>
    intro x1 y2 y4 x6 M M' v h
    replace h : (  if x1 ≤ x6 then
    some ((y2 - y4), M)
  else
    z_bi (f_X6_loses_80 x6 M) fun v3 M4 =>
    f_X6_lostWhole_80_p8 n x1 (y2 * (1000 : Int64)) (y4 * ((1000 : Int64) - v3)) (x6 + (1 : Int32)) M4) = some (v, M') := h
    refine z_iload dX6_lostWhole_8 rfl ?_
    refine z_iload_n dX6_lostWhole_10 rfl ?_
    refine z_icmp_ge (tgt := 41) dX6_lostWhole_11 rfl (fun g1 => ?_) (fun g1 => ?_)
    · replace h := (if_pos g1).symm.trans h
      refine z_lload_n dX6_lostWhole_41 rfl ?_
      refine z_lload dX6_lostWhole_42 rfl ?_
      refine z_lsub dX6_lostWhole_44 ?_
      cases h
      exact z_lreturn dX6_lostWhole_45 rfl
    · replace h := (if_neg g1).symm.trans h
      refine z_lload_n dX6_lostWhole_14 rfl ?_
      refine z_ldc2 (v := 1000) kl_X6_79 dX6_lostWhole_15 ?_
      refine z_lmul dX6_lostWhole_18 ?_
      refine z_lstore_n (ls' := [.ref 80, .int x1, .long (y2 * (1000 : Int64)), .null, .long y4, .null, .int x6]) dX6_lostWhole_19 (by decide) rfl ?_
      refine z_lload dX6_lostWhole_20 rfl ?_
      refine z_ldc2 (v := 1000) kl_X6_79 dX6_lostWhole_22 ?_
      refine z_aload_n dX6_lostWhole_25 rfl ?_
      refine z_iload dX6_lostWhole_26 rfl ?_
      obtain ⟨v3, M4, c2, h⟩ := z_bi_c h
      refine z_cV (av := [.int x6]) (st := [.long (1000 : Int64), .long y4]) lk_X6_81 dX6_lostWhole_28 (A_X6_loses_80 (d := d + 0) hl c2) rfl rfl en_80 rfl (Nat.le_of_ble_eq_true rfl) rfl z_len rfl rfl ?_
      refine z_lsub dX6_lostWhole_31 ?_
      refine z_lmul dX6_lostWhole_32 ?_
      refine z_lstore (ls' := [.ref 80, .int x1, .long (y2 * (1000 : Int64)), .null, .long (y4 * ((1000 : Int64) - v3)), .null, .int x6]) dX6_lostWhole_33 (by decide) rfl ?_
      refine z_ii (ls' := [.ref 80, .int x1, .long (y2 * (1000 : Int64)), .null, .long (y4 * ((1000 : Int64) - v3)), .null, .int (x6 + (1 : Int32))]) kc_p1 dX6_lostWhole_35 rfl (by decide) rfl ?_
      refine z_goto (tgt := 8) dX6_lostWhole_38 rfl ?_
      exact ih x1 (y2 * (1000 : Int64)) (y4 * ((1000 : Int64) - v3)) (x6 + (1 : Int32)) _ _ _ h
theorem A_X6_lostWhole_80 {l : Launch} (hl : l.stackTraces = false) {Ls d : Nat} {Lm : zML} {x1 : Int32} {M M' : zMM} {v : Int64} (h : f_X6_lostWhole_80 x1 M = some (v, M')) : z_Ct l mX6_lostWhole (d + 4) 0 0 [.ref 80, .int x1] (z_L0 Ls, M, Lm) (.inl (some (.long v))) (z_L0 Ls, M', Lm) := by
  replace h : (  f_X6_lostWhole_80_p8 z_fuel x1 (1 : Int64) (1 : Int64) (0 : Int32) M) = some (v, M') := h
  refine z_Ct.of hl (by decide) (Nat.le_of_ble_eq_true rfl) rfl ?_
  show z_AW l mX6_lostWhole (d + 4) 0 0 0 [.ref 80, .int x1, .null, .null, .null, .null, .null] [] (z_L0 Ls, M, Lm) (.inl (some (.long v))) (z_L0 Ls, M', Lm)
  refine z_lc kl_p1 dX6_lostWhole_0 ?_
  refine z_lstore_n (ls' := [.ref 80, .int x1, .long (1 : Int64), .null, .null, .null, .null]) dX6_lostWhole_1 (by decide) rfl ?_
  refine z_lc kl_p1 dX6_lostWhole_2 ?_
  refine z_lstore (ls' := [.ref 80, .int x1, .long (1 : Int64), .null, .long (1 : Int64), .null, .null]) dX6_lostWhole_3 (by decide) rfl ?_
  refine z_ic kc_p0 dX6_lostWhole_5 ?_
  refine z_istore (ls' := [.ref 80, .int x1, .long (1 : Int64), .null, .long (1 : Int64), .null, .int (0 : Int32)]) dX6_lostWhole_6 (by decide) rfl ?_
  exact A_X6_lostWhole_80_p8 hl z_fuel x1 (1 : Int64) (1 : Int64) (0 : Int32) _ _ _ h
/-! X7_commonDivisor  -/
def f_X7_commonDivisor_p3 : Nat → Int64 → Int64 → Int32 → zMM → Option (Int64 × zMM)
  | 0, _, _, _, _ => none
  | n + 1, y0, y2, x4, M =>
  if (100 : Int32) ≤ x4 then
    some (y0, M)
  else
    if (lg_cmp y2 (0 : Int64)) = 0 then
      some (y0, M)
    else
      if ¬ y2 = 0 then
        f_X7_commonDivisor_p3 n y2 (y0 - y0 / y2 * y2) (x4 + (1 : Int32)) M
      else none
def f_X7_commonDivisor (y0 : Int64) (y2 : Int64) (M : zMM) : Option (Int64 × zMM) :=
  f_X7_commonDivisor_p3 z_fuel y0 y2 (0 : Int32) M
theorem A_X7_commonDivisor_p3 {l : Launch} (hl : l.stackTraces = false) {Ls d : Nat} {Lm : zML} :
    ∀ (n : Nat) (y0 : Int64) (y2 : Int64) (x4 : Int32) (M M' : zMM) (v : Int64) , f_X7_commonDivisor_p3 n y0 y2 x4 M = some (v, M') → z_AW l mX7_commonDivisor (d + 0) 0 0 3 [.long y0, .null, .long y2, .null, .int x4, .null, .null] [] (z_L0 Ls, M, Lm) (.inl (some (.long v))) (z_L0 Ls, M', Lm) := by
  intro n
  induction n with
  | zero => intro y0 y2 x4 M M' v h; cases h
  | succ n ih =>
    intro y0 y2 x4 M M' v h
    replace h : (  if (100 : Int32) ≤ x4 then
    some (y0, M)
  else
    if (lg_cmp y2 (0 : Int64)) = 0 then
      some (y0, M)
    else
      if ¬ y2 = 0 then
        f_X7_commonDivisor_p3 n y2 (y0 - y0 / y2 * y2) (x4 + (1 : Int32)) M
      else none) = some (v, M') := h
    refine z_iload dX7_commonDivisor_3 rfl ?_
    refine z_bp kb_p100 dX7_commonDivisor_5 ?_
    refine z_icmp_ge (tgt := 32) dX7_commonDivisor_7 rfl (fun g1 => ?_) (fun g1 => ?_)
    · replace h := (if_pos g1).symm.trans h
      refine z_lload_n dX7_commonDivisor_32 rfl ?_
      cases h
      exact z_lreturn dX7_commonDivisor_33 rfl
    · replace h := (if_neg g1).symm.trans h
      refine z_lload_n dX7_commonDivisor_10 rfl ?_
      refine z_lc kl_p0 dX7_commonDivisor_11 ?_
      refine z_lcmp dX7_commonDivisor_12 ?_
      refine z_if_eq (tgt := 32) dX7_commonDivisor_13 rfl (fun g2 => ?_) (fun g2 => ?_)
      · replace h := (if_pos g2).symm.trans h
        refine z_lload_n dX7_commonDivisor_32 rfl ?_
        cases h
        exact z_lreturn dX7_commonDivisor_33 rfl
      · replace h := (if_neg g2).symm.trans h
        refine z_lload_n dX7_commonDivisor_16 rfl ?_
        refine z_lload_n dX7_commonDivisor_17 rfl ?_
        obtain ⟨g3, h⟩ := z_ifn h
        refine z_lrem dX7_commonDivisor_18 g3 ?_
        refine z_lstore (ls' := [.long y0, .null, .long y2, .null, .int x4, .long (y0 - y0 / y2 * y2), .null]) dX7_commonDivisor_19 (by decide) rfl ?_
        refine z_lload_n dX7_commonDivisor_21 rfl ?_
        refine z_lstore_n (ls' := [.long y2, .null, .long y2, .null, .int x4, .long (y0 - y0 / y2 * y2), .null]) dX7_commonDivisor_22 (by decide) rfl ?_
        refine z_lload dX7_commonDivisor_23 rfl ?_
        refine z_lstore_n (ls' := [.long y2, .null, .long (y0 - y0 / y2 * y2), .null, .int x4, .long (y0 - y0 / y2 * y2), .null]) dX7_commonDivisor_25 (by decide) rfl ?_
        refine z_ii (ls' := [.long y2, .null, .long (y0 - y0 / y2 * y2), .null, .int (x4 + (1 : Int32)), .long (y0 - y0 / y2 * y2), .null]) kc_p1 dX7_commonDivisor_26 rfl (by decide) rfl ?_
        refine z_goto (tgt := 3) dX7_commonDivisor_29 rfl ?_
        refine z_fg (ls' := [.long y2, .null, .long (y0 - y0 / y2 * y2), .null, .int (x4 + (1 : Int32)), .null, .null]) ⟨Or.inr rfl, Or.inl rfl, Or.inr rfl, Or.inl rfl, Or.inr rfl, Or.inl rfl, Or.inl rfl, trivial⟩ ?_
        exact ih y2 (y0 - y0 / y2 * y2) (x4 + (1 : Int32)) _ _ _ h
theorem A_X7_commonDivisor {l : Launch} (hl : l.stackTraces = false) {Ls d : Nat} {Lm : zML} {y0 : Int64} {y2 : Int64} {M M' : zMM} {v : Int64} (h : f_X7_commonDivisor y0 y2 M = some (v, M')) : z_Ct l mX7_commonDivisor (d + 0) 0 0 [.long y0, .long y2] (z_L0 Ls, M, Lm) (.inl (some (.long v))) (z_L0 Ls, M', Lm) := by
  replace h : (  f_X7_commonDivisor_p3 z_fuel y0 y2 (0 : Int32) M) = some (v, M') := h
  refine z_Ct.of hl (by decide) (Nat.le_of_ble_eq_true rfl) rfl ?_
  show z_AW l mX7_commonDivisor (d + 0) 0 0 0 [.long y0, .null, .long y2, .null, .null, .null, .null] [] (z_L0 Ls, M, Lm) (.inl (some (.long v))) (z_L0 Ls, M', Lm)
  refine z_ic kc_p0 dX7_commonDivisor_0 ?_
  refine z_istore (ls' := [.long y0, .null, .long y2, .null, .int (0 : Int32), .null, .null]) dX7_commonDivisor_1 (by decide) rfl ?_
  exact A_X7_commonDivisor_p3 hl z_fuel y0 y2 (0 : Int32) _ _ _ h
/-! X7_lost 51 -/
def f_X7_lost_51 (x1 : Int32) (x2 : Int32) (x3 : Int32) (x4 : Int32) (M : zMM) : Option ((Int64 ⊕ Nat) × zMM) :=
  z_bt (f_X7_clerksOf_51 x1 x2 M) fun v2 M3 =>
    z_bt (f_X7_checkClerk x3 v2 M3) fun v6 M7 =>
      z_bt (f_X7_checkPair x4 M7) fun v10 M11 =>
        z_bi (f_X6_lostShare_80 x3 v2 M11) fun v14 M15 =>
        z_bi (f_X6_lostWhole_80 v2 M15) fun v17 M18 =>
        z_bi (f_X7_commonDivisor v17 v14 M18) fun v20 M21 =>
        if (lg_cmp v20 (0 : Int64)) = 0 then
          if x4 = 0 then
            some (.inl (0 : Int64), M21)
          else
            some (.inl (1 : Int64), M21)
        else
          if x4 = 0 then
            if ¬ v20 = 0 then
              some (.inl (v14 / v20), M21)
            else none
          else
            if ¬ v20 = 0 then
              some (.inl (v17 / v20), M21)
            else none
theorem A_X7_lost_51 {l : Launch} (hl : l.stackTraces = false) {Ls d : Nat} {Lm : zML} {x1 : Int32} {x2 : Int32} {x3 : Int32} {x4 : Int32} {M M' : zMM} {v : Int64 ⊕ Nat} (h : f_X7_lost_51 x1 x2 x3 x4 M = some (v, M')) : z_Ct l mX7_lost (d + 8) (z_bo v) (6 * z_bo v) [.ref 51, .int x1, .int x2, .int x3, .int x4] (z_L0 Ls, M, Lm) (z_ol v) (z_L0 Ls, M', Lm) := by
  replace h : (  z_bt (f_X7_clerksOf_51 x1 x2 M) fun v2 M3 =>
    z_bt (f_X7_checkClerk x3 v2 M3) fun v6 M7 =>
      z_bt (f_X7_checkPair x4 M7) fun v10 M11 =>
        z_bi (f_X6_lostShare_80 x3 v2 M11) fun v14 M15 =>
        z_bi (f_X6_lostWhole_80 v2 M15) fun v17 M18 =>
        z_bi (f_X7_commonDivisor v17 v14 M18) fun v20 M21 =>
        if (lg_cmp v20 (0 : Int64)) = 0 then
          if x4 = 0 then
            some (.inl (0 : Int64), M21)
          else
            some (.inl (1 : Int64), M21)
        else
          if x4 = 0 then
            if ¬ v20 = 0 then
              some (.inl (v14 / v20), M21)
            else none
          else
            if ¬ v20 = 0 then
              some (.inl (v17 / v20), M21)
            else none) = some (v, M') := h
  refine z_Ct.of hl (by decide) (Nat.le_of_ble_eq_true rfl) rfl ?_
  show z_AW l mX7_lost (d + 8) (z_bo v) (6 * z_bo v) 0 [.ref 51, .int x1, .int x2, .int x3, .int x4, .null, .null, .null, .null, .null, .null, .null] [] (z_L0 Ls, M, Lm) (z_ol v) (z_L0 Ls, M', Lm)
  refine z_aload_n dX7_lost_0 rfl ?_
  refine z_iload_n dX7_lost_1 rfl ?_
  refine z_iload_n dX7_lost_2 rfl ?_
  rcases z_bt_c h with ⟨v2, M3, c1, h⟩ | ⟨e4, c1, rfl⟩
  · refine z_cV (av := [.int x1, .int x2]) (st := []) lk_X7_254 dX7_lost_3 (z_ti (A_X7_clerksOf_51 (d := d + 0) hl c1)) rfl rfl en_51 rfl (Nat.le_of_ble_eq_true rfl) rfl z_len rfl rfl ?_
    refine z_istore (ls' := [.ref 51, .int x1, .int x2, .int x3, .int x4, .int v2, .null, .null, .null, .null, .null, .null]) dX7_lost_6 (by decide) rfl ?_
    refine z_iload_n dX7_lost_8 rfl ?_
    refine z_iload dX7_lost_9 rfl ?_
    rcases z_bt_c h with ⟨v6, M7, c5, h⟩ | ⟨e8, c5, rfl⟩
    · refine z_cS (av := [.int x3, .int v2]) (st := []) lk_X7_257 dX7_lost_11 (z_tv (A_X7_checkClerk (d := d + 1) hl c5)) rfl rfl (Nat.le_of_ble_eq_true rfl) rfl z_len rfl rfl ?_
      refine z_iload dX7_lost_14 rfl ?_
      rcases z_bt_c h with ⟨v10, M11, c9, h⟩ | ⟨e12, c9, rfl⟩
      · refine z_cS (av := [.int x4]) (st := []) lk_X7_220 dX7_lost_16 (z_tv (A_X7_checkPair (d := d + 1) hl c9)) rfl rfl (Nat.le_of_ble_eq_true rfl) rfl z_len rfl rfl ?_
        refine z_aload_n dX7_lost_19 rfl ?_
        refine z_getR (q := 80) fl_X7_44 dX7_lost_20 en_51 rfl ?_
        refine z_iload_n dX7_lost_23 rfl ?_
        refine z_iload dX7_lost_24 rfl ?_
        obtain ⟨v14, M15, c13, h⟩ := z_bi_c h
        refine z_cV (av := [.int x3, .int v2]) (st := []) lk_X7_264 dX7_lost_26 (A_X6_lostShare_80 (d := d + 3) hl c13) rfl rfl en_80 rfl (Nat.le_of_ble_eq_true rfl) rfl z_len rfl rfl ?_
        refine z_lstore (ls' := [.ref 51, .int x1, .int x2, .int x3, .int x4, .int v2, .long v14, .null, .null, .null, .null, .null]) dX7_lost_29 (by decide) rfl ?_
        refine z_aload_n dX7_lost_31 rfl ?_
        refine z_getR (q := 80) fl_X7_44 dX7_lost_32 en_51 rfl ?_
        refine z_iload dX7_lost_35 rfl ?_
        obtain ⟨v17, M18, c16, h⟩ := z_bi_c h
        refine z_cV (av := [.int v2]) (st := []) lk_X7_268 dX7_lost_37 (A_X6_lostWhole_80 (d := d + 3) hl c16) rfl rfl en_80 rfl (Nat.le_of_ble_eq_true rfl) rfl z_len rfl rfl ?_
        refine z_lstore (ls' := [.ref 51, .int x1, .int x2, .int x3, .int x4, .int v2, .long v14, .null, .long v17, .null, .null, .null]) dX7_lost_40 (by decide) rfl ?_
        refine z_lload dX7_lost_42 rfl ?_
        refine z_lload dX7_lost_44 rfl ?_
        obtain ⟨v20, M21, c19, h⟩ := z_bi_c h
        refine z_cS (av := [.long v17, .long v14]) (st := []) lk_X7_272 dX7_lost_46 (A_X7_commonDivisor (d := d + 7) hl c19) rfl rfl (Nat.le_of_ble_eq_true rfl) rfl z_len rfl rfl ?_
        refine z_lstore (ls' := [.ref 51, .int x1, .int x2, .int x3, .int x4, .int v2, .long v14, .null, .long v17, .null, .long v20, .null]) dX7_lost_49 (by decide) rfl ?_
        refine z_lload dX7_lost_51 rfl ?_
        refine z_lc kl_p0 dX7_lost_53 ?_
        refine z_lcmp dX7_lost_54 ?_
        refine z_if_ne (tgt := 69) dX7_lost_55 rfl (fun g22 => ?_) (fun g22 => ?_)
        · replace h := (if_pos g22).symm.trans h
          refine z_iload dX7_lost_58 rfl ?_
          refine z_if_ne (tgt := 67) dX7_lost_60 rfl (fun g23 => ?_) (fun g23 => ?_)
          · replace h := (if_pos g23).symm.trans h
            refine z_lc kl_p0 dX7_lost_63 ?_
            refine z_goto (tgt := 68) dX7_lost_64 rfl ?_
            cases h
            exact z_lreturn dX7_lost_68 rfl
          · replace h := (if_neg g23).symm.trans h
            refine z_lc kl_p1 dX7_lost_67 ?_
            cases h
            exact z_lreturn dX7_lost_68 rfl
        · replace h := (if_neg g22).symm.trans h
          refine z_iload dX7_lost_69 rfl ?_
          refine z_if_ne (tgt := 82) dX7_lost_71 rfl (fun g24 => ?_) (fun g24 => ?_)
          · replace h := (if_pos g24).symm.trans h
            refine z_lload dX7_lost_74 rfl ?_
            refine z_lload dX7_lost_76 rfl ?_
            obtain ⟨g25, h⟩ := z_ifn h
            refine z_ldiv dX7_lost_78 g25 ?_
            refine z_goto (tgt := 87) dX7_lost_79 rfl ?_
            cases h
            exact z_lreturn dX7_lost_87 rfl
          · replace h := (if_neg g24).symm.trans h
            refine z_lload dX7_lost_82 rfl ?_
            refine z_lload dX7_lost_84 rfl ?_
            obtain ⟨g26, h⟩ := z_ifn h
            refine z_ldiv dX7_lost_86 g26 ?_
            cases h
            exact z_lreturn dX7_lost_87 rfl
      · exact z_cSx (av := [.int x4]) (st := []) lk_X7_220 dX7_lost_16 (A_X7_checkPair (d := d + 1) hl c9) rfl rfl (Nat.le_of_ble_eq_true rfl) rfl z_len rfl rfl (Nat.le_refl _) (Nat.le_refl _)
    · exact z_cSx (av := [.int x3, .int v2]) (st := []) lk_X7_257 dX7_lost_11 (A_X7_checkClerk (d := d + 1) hl c5) rfl rfl (Nat.le_of_ble_eq_true rfl) rfl z_len rfl rfl (Nat.le_refl _) (Nat.le_refl _)
  · exact z_cVx (av := [.int x1, .int x2]) (st := []) lk_X7_254 dX7_lost_3 (A_X7_clerksOf_51 (d := d + 0) hl c1) rfl rfl en_51 rfl (Nat.le_of_ble_eq_true rfl) rfl z_len rfl rfl (Nat.le_refl _) (Nat.le_refl _)
/-! X4_addNight 87 -/
def f_X4_addNight_87_p24 (x1 : Int32) (x2 : Int32) (x3 : Int32) (a0 : Int32) (M : zMM) : Option (Int32 × zMM) :=
  if (4 : Int32) ≤ (M 87 5) then
    some ((0 : Int32), M)
  else
    if x1 < a0 then
      some ((0 : Int32), M)
    else
      if x1 ≤ (99 : Int32) then
        z_bv (some (z_pt M 90 4 (M 87 5) x1)) fun M6 =>
        z_bv (some (z_pt M6 91 4 (M6 87 5) x2)) fun M8 =>
        z_bv (some (z_pt M8 92 4 (M8 87 5) x3)) fun M10 =>
        some ((1 : Int32), (z_up M10 87 5 ((M10 87 5) + (1 : Int32))))
      else
        some ((0 : Int32), M)
def f_X4_addNight_87 (x1 : Int32) (x2 : Int32) (x3 : Int32) (M : zMM) : Option (Int32 × zMM) :=
  if (M 87 5) ≤ 0 then
    f_X4_addNight_87_p24 x1 x2 x3 (0 : Int32) M
  else
    f_X4_addNight_87_p24 x1 x2 x3 (z_at M 90 4 ((M 87 5) - (1 : Int32))) M
theorem A_X4_addNight_87_p24 {l : Launch} (hl : l.stackTraces = false) {Ls d : Nat} {Lm : zML} :
    ∀ (x1 : Int32) (x2 : Int32) (x3 : Int32) (a0 : Int32) (M M' : zMM) (v : Int32) , f_X4_addNight_87_p24 x1 x2 x3 a0 M = some (v, M') → z_AW l mX4_addNight (d + 1) 0 0 24 [.ref 87, .int x1, .int x2, .int x3, .null] [.int a0] (z_L0 Ls, M, Lm) (.inl (some (.int v))) (z_L0 Ls, M', Lm) := by
  intro x1 x2 x3 a0 M M' v h
  replace h : (  if (4 : Int32) ≤ (M 87 5) then
    some ((0 : Int32), M)
  else
    if x1 < a0 then
      some ((0 : Int32), M)
    else
      if x1 ≤ (99 : Int32) then
        z_bv (some (z_pt M 90 4 (M 87 5) x1)) fun M6 =>
        z_bv (some (z_pt M6 91 4 (M6 87 5) x2)) fun M8 =>
        z_bv (some (z_pt M8 92 4 (M8 87 5) x3)) fun M10 =>
        some ((1 : Int32), (z_up M10 87 5 ((M10 87 5) + (1 : Int32))))
      else
        some ((0 : Int32), M)) = some (v, M') := h
  refine z_istore (ls' := [.ref 87, .int x1, .int x2, .int x3, .int a0]) dX4_addNight_24 (by decide) rfl ?_
  refine z_aload_n dX4_addNight_26 rfl ?_
  refine z_gI (v := (M 87 5)) fl_X4_29 dX4_addNight_27 en_87 rfl rfl ?_
  refine z_ic kc_p4 dX4_addNight_30 ?_
  refine z_icmp_ge (tgt := 46) dX4_addNight_31 rfl (fun g2 => ?_) (fun g2 => ?_)
  · replace h := (if_pos g2).symm.trans h
    refine z_ic kc_p0 dX4_addNight_46 ?_
    cases h
    exact z_rZ dX4_addNight_47 rfl rfl
  · replace h := (if_neg g2).symm.trans h
    refine z_iload_n dX4_addNight_34 rfl ?_
    refine z_iload dX4_addNight_35 rfl ?_
    refine z_icmp_lt (tgt := 46) dX4_addNight_37 rfl (fun g3 => ?_) (fun g3 => ?_)
    · replace h := (if_pos g3).symm.trans h
      refine z_ic kc_p0 dX4_addNight_46 ?_
      cases h
      exact z_rZ dX4_addNight_47 rfl rfl
    · replace h := (if_neg g3).symm.trans h
      refine z_iload_n dX4_addNight_40 rfl ?_
      refine z_bp kb_p99 dX4_addNight_41 ?_
      refine z_icmp_le (tgt := 48) dX4_addNight_43 rfl (fun g4 => ?_) (fun g4 => ?_)
      · replace h := (if_pos g4).symm.trans h
        refine z_aload_n dX4_addNight_48 rfl ?_
        refine z_getR (q := 90) fl_X4_32 dX4_addNight_49 en_87 rfl ?_
        refine z_aload_n dX4_addNight_52 rfl ?_
        refine z_gI (v := (M 87 5)) fl_X4_29 dX4_addNight_53 en_87 rfl rfl ?_
        refine z_iload_n dX4_addNight_56 rfl ?_
        obtain ⟨M6, c5, h⟩ := z_bv_c h
        refine z_cN (av := [.ref 90, .int (M 87 5), .int x1]) (st := []) lk_X4_69 dX4_addNight_57 (z_Ct.to (A_X7_put (d := d + 0) hl (by decide) (by decide) en_90) c5) rfl rfl (Nat.le_of_ble_eq_true rfl) rfl z_len rfl rfl ?_
        refine z_aload_n dX4_addNight_60 rfl ?_
        refine z_getR (q := 91) fl_X4_35 dX4_addNight_61 en_87 rfl ?_
        refine z_aload_n dX4_addNight_64 rfl ?_
        refine z_gI (v := (M6 87 5)) fl_X4_29 dX4_addNight_65 en_87 rfl rfl ?_
        refine z_iload_n dX4_addNight_68 rfl ?_
        obtain ⟨M8, c7, h⟩ := z_bv_c h
        refine z_cN (av := [.ref 91, .int (M6 87 5), .int x2]) (st := []) lk_X4_69 dX4_addNight_69 (z_Ct.to (A_X7_put (d := d + 0) hl (by decide) (by decide) en_91) c7) rfl rfl (Nat.le_of_ble_eq_true rfl) rfl z_len rfl rfl ?_
        refine z_aload_n dX4_addNight_72 rfl ?_
        refine z_getR (q := 92) fl_X4_38 dX4_addNight_73 en_87 rfl ?_
        refine z_aload_n dX4_addNight_76 rfl ?_
        refine z_gI (v := (M8 87 5)) fl_X4_29 dX4_addNight_77 en_87 rfl rfl ?_
        refine z_iload_n dX4_addNight_80 rfl ?_
        obtain ⟨M10, c9, h⟩ := z_bv_c h
        refine z_cN (av := [.ref 92, .int (M8 87 5), .int x3]) (st := []) lk_X4_69 dX4_addNight_81 (z_Ct.to (A_X7_put (d := d + 0) hl (by decide) (by decide) en_92) c9) rfl rfl (Nat.le_of_ble_eq_true rfl) rfl z_len rfl rfl ?_
        refine z_aload_n dX4_addNight_84 rfl ?_
        refine z_dup dX4_addNight_85 rfl ?_
        refine z_gI (v := (M10 87 5)) fl_X4_29 dX4_addNight_86 en_87 rfl rfl ?_
        refine z_ic kc_p1 dX4_addNight_89 ?_
        refine z_iadd dX4_addNight_90 ?_
        refine z_pI fp_X4_29 dX4_addNight_91 (by decide) en_87 rfl ?_
        refine z_ic kc_p1 dX4_addNight_94 ?_
        cases h
        exact z_rZ dX4_addNight_95 rfl rfl
      · replace h := (if_neg g4).symm.trans h
        refine z_ic kc_p0 dX4_addNight_46 ?_
        cases h
        exact z_rZ dX4_addNight_47 rfl rfl
theorem A_X4_addNight_87 {l : Launch} (hl : l.stackTraces = false) {Ls d : Nat} {Lm : zML} {x1 : Int32} {x2 : Int32} {x3 : Int32} {M M' : zMM} {v : Int32} (h : f_X4_addNight_87 x1 x2 x3 M = some (v, M')) : z_Ct l mX4_addNight (d + 1) 0 0 [.ref 87, .int x1, .int x2, .int x3] (z_L0 Ls, M, Lm) (.inl (some (.int v))) (z_L0 Ls, M', Lm) := by
  replace h : (  if (M 87 5) ≤ 0 then
    f_X4_addNight_87_p24 x1 x2 x3 (0 : Int32) M
  else
    f_X4_addNight_87_p24 x1 x2 x3 (z_at M 90 4 ((M 87 5) - (1 : Int32))) M) = some (v, M') := h
  refine z_Ct.of hl (by decide) (Nat.le_of_ble_eq_true rfl) rfl ?_
  show z_AW l mX4_addNight (d + 1) 0 0 0 [.ref 87, .int x1, .int x2, .int x3, .null] [] (z_L0 Ls, M, Lm) (.inl (some (.int v))) (z_L0 Ls, M', Lm)
  refine z_aload_n dX4_addNight_0 rfl ?_
  refine z_gI (v := (M 87 5)) fl_X4_29 dX4_addNight_1 en_87 rfl rfl ?_
  refine z_if_le (tgt := 23) dX4_addNight_4 rfl (fun g1 => ?_) (fun g1 => ?_)
  · replace h := (if_pos g1).symm.trans h
    refine z_ic kc_p0 dX4_addNight_23 ?_
    exact A_X4_addNight_87_p24 hl x1 x2 x3 (0 : Int32) _ _ _ h
  · replace h := (if_neg g1).symm.trans h
    refine z_aload_n dX4_addNight_7 rfl ?_
    refine z_getR (q := 90) fl_X4_32 dX4_addNight_8 en_87 rfl ?_
    refine z_aload_n dX4_addNight_11 rfl ?_
    refine z_gI (v := (M 87 5)) fl_X4_29 dX4_addNight_12 en_87 rfl rfl ?_
    refine z_ic kc_p1 dX4_addNight_15 ?_
    refine z_isub dX4_addNight_16 ?_
    refine z_cN (av := [.ref 90, .int ((M 87 5) - (1 : Int32))]) (st := []) (v := some (.int (z_at M 90 4 ((M 87 5) - (1 : Int32))))) lk_X4_58 dX4_addNight_17 (A_X7_at (d := d + 0) hl (by decide) en_90) rfl rfl (Nat.le_of_ble_eq_true rfl) rfl z_len rfl rfl ?_
    refine z_goto (tgt := 24) dX4_addNight_20 rfl ?_
    exact A_X4_addNight_87_p24 hl x1 x2 x3 (z_at M 90 4 ((M 87 5) - (1 : Int32))) _ _ _ h
/-! X4_refuse 87 -/
def f_X4_refuse_87 (x1 : Int32) (M : zMM) : Option zMM :=
  z_bv (some (z_pt M 93 3 x1 ((z_at M 93 3 x1) + (1 : Int32)))) fun M2 =>
  some M2
theorem A_X4_refuse_87 {l : Launch} (hl : l.stackTraces = false) {Ls d : Nat} {Lm : zML} {x1 : Int32} {M M' : zMM} (h : f_X4_refuse_87 x1 M = some M') : z_Ct l mX4_refuse (d + 1) 0 0 [.ref 87, .int x1] (z_L0 Ls, M, Lm) (.inl none) (z_L0 Ls, M', Lm) := by
  replace h : (  z_bv (some (z_pt M 93 3 x1 ((z_at M 93 3 x1) + (1 : Int32)))) fun M2 =>
  some M2) = some M' := h
  refine z_Ct.of hl (by decide) (Nat.le_of_ble_eq_true rfl) rfl ?_
  show z_AW l mX4_refuse (d + 1) 0 0 0 [.ref 87, .int x1] [] (z_L0 Ls, M, Lm) (.inl none) (z_L0 Ls, M', Lm)
  refine z_aload_n dX4_refuse_0 rfl ?_
  refine z_getR (q := 93) fl_X4_41 dX4_refuse_1 en_87 rfl ?_
  refine z_iload_n dX4_refuse_4 rfl ?_
  refine z_aload_n dX4_refuse_5 rfl ?_
  refine z_getR (q := 93) fl_X4_41 dX4_refuse_6 en_87 rfl ?_
  refine z_iload_n dX4_refuse_9 rfl ?_
  refine z_cN (av := [.ref 93, .int x1]) (st := [.int x1, .ref 93]) (v := some (.int (z_at M 93 3 x1))) lk_X4_58 dX4_refuse_10 (A_X7_at (d := d + 0) hl (by decide) en_93) rfl rfl (Nat.le_of_ble_eq_true rfl) rfl z_len rfl rfl ?_
  refine z_ic kc_p1 dX4_refuse_13 ?_
  refine z_iadd dX4_refuse_14 ?_
  obtain ⟨M2, c1, h⟩ := z_bv_c h
  refine z_cN (av := [.ref 93, .int x1, .int ((z_at M 93 3 x1) + (1 : Int32))]) (st := []) lk_X4_69 dX4_refuse_15 (z_Ct.to (A_X7_put (d := d + 0) hl (by decide) (by decide) en_93) c1) rfl rfl (Nat.le_of_ble_eq_true rfl) rfl z_len rfl rfl ?_
  cases h
  exact z_return dX4_refuse_18 rfl
/-! X7_night 51 -/
def f_X7_night_51 (x1 : Int32) (x2 : Int32) (x3 : Int32) (M : zMM) : Option ((Int32 ⊕ Nat) × zMM) :=
  z_bt (f_X7_checkTown_51 x2 M) fun v2 M3 =>
    z_bt (f_X7_checkPlay_51 x3 M3) fun v6 M7 =>
      z_bi (f_X4_addNight_87 x1 x2 x3 M7) fun v10 M11 =>
      if v10 = 0 then
        z_bv (f_X4_refuse_87 (2 : Int32) M11) fun M15 =>
        some (.inl (-1 : Int32), M15)
      else
        some (.inl (M11 87 5), M11)
theorem A_X7_night_51 {l : Launch} (hl : l.stackTraces = false) {Ls d : Nat} {Lm : zML} {x1 : Int32} {x2 : Int32} {x3 : Int32} {M M' : zMM} {v : Int32 ⊕ Nat} (h : f_X7_night_51 x1 x2 x3 M = some (v, M')) : z_Ct l mX7_night (d + 7) (z_bo v) (6 * z_bo v) [.ref 51, .int x1, .int x2, .int x3] (z_L0 Ls, M, Lm) (z_oi v) (z_L0 Ls, M', Lm) := by
  replace h : (  z_bt (f_X7_checkTown_51 x2 M) fun v2 M3 =>
    z_bt (f_X7_checkPlay_51 x3 M3) fun v6 M7 =>
      z_bi (f_X4_addNight_87 x1 x2 x3 M7) fun v10 M11 =>
      if v10 = 0 then
        z_bv (f_X4_refuse_87 (2 : Int32) M11) fun M15 =>
        some (.inl (-1 : Int32), M15)
      else
        some (.inl (M11 87 5), M11)) = some (v, M') := h
  refine z_Ct.of hl (by decide) (Nat.le_of_ble_eq_true rfl) rfl ?_
  show z_AW l mX7_night (d + 7) (z_bo v) (6 * z_bo v) 0 [.ref 51, .int x1, .int x2, .int x3] [] (z_L0 Ls, M, Lm) (z_oi v) (z_L0 Ls, M', Lm)
  refine z_aload_n dX7_night_0 rfl ?_
  refine z_iload_n dX7_night_1 rfl ?_
  rcases z_bt_c h with ⟨v2, M3, c1, h⟩ | ⟨e4, c1, rfl⟩
  · refine z_cV (av := [.int x2]) (st := []) lk_X7_162 dX7_night_2 (z_tv (A_X7_checkTown_51 (d := d + 0) hl c1)) rfl rfl en_51 rfl (Nat.le_of_ble_eq_true rfl) rfl z_len rfl rfl ?_
    refine z_aload_n dX7_night_5 rfl ?_
    refine z_iload_n dX7_night_6 rfl ?_
    rcases z_bt_c h with ⟨v6, M7, c5, h⟩ | ⟨e8, c5, rfl⟩
    · refine z_cV (av := [.int x3]) (st := []) lk_X7_200 dX7_night_7 (z_tv (A_X7_checkPlay_51 (d := d + 0) hl c5)) rfl rfl en_51 rfl (Nat.le_of_ble_eq_true rfl) rfl z_len rfl rfl ?_
      refine z_aload_n dX7_night_10 rfl ?_
      refine z_getR (q := 87) fl_X7_58 dX7_night_11 en_51 rfl ?_
      refine z_iload_n dX7_night_14 rfl ?_
      refine z_iload_n dX7_night_15 rfl ?_
      refine z_iload_n dX7_night_16 rfl ?_
      obtain ⟨v10, M11, c9, h⟩ := z_bi_c h
      refine z_cV (av := [.int x1, .int x2, .int x3]) (st := []) lk_X7_309 dX7_night_17 (A_X4_addNight_87 (d := d + 5) hl c9) rfl rfl en_87 rfl (Nat.le_of_ble_eq_true rfl) rfl z_len rfl rfl ?_
      refine z_if_ne (tgt := 33) dX7_night_20 rfl (fun g12 => ?_) (fun g12 => ?_)
      · replace h := (if_pos g12).symm.trans h
        refine z_aload_n dX7_night_23 rfl ?_
        refine z_getR (q := 87) fl_X7_58 dX7_night_24 en_51 rfl ?_
        refine z_ic kc_p2 dX7_night_27 ?_
        obtain ⟨M15, c13, h⟩ := z_bv_c h
        refine z_cV (av := [.int (2 : Int32)]) (st := []) lk_X7_103 dX7_night_28 (A_X4_refuse_87 (d := d + 5) hl c13) rfl rfl en_87 rfl (Nat.le_of_ble_eq_true rfl) rfl z_len rfl rfl ?_
        refine z_ic kc_m1 dX7_night_31 ?_
        cases h
        exact z_rI dX7_night_32 rfl
      · replace h := (if_neg g12).symm.trans h
        refine z_aload_n dX7_night_33 rfl ?_
        refine z_getR (q := 87) fl_X7_58 dX7_night_34 en_51 rfl ?_
        refine z_gI (v := (M11 87 5)) fl_X7_140 dX7_night_37 en_87 rfl rfl ?_
        cases h
        exact z_rI dX7_night_40 rfl
    · exact z_cVx (av := [.int x3]) (st := []) lk_X7_200 dX7_night_7 (A_X7_checkPlay_51 (d := d + 0) hl c5) rfl rfl en_51 rfl (Nat.le_of_ble_eq_true rfl) rfl z_len rfl rfl (Nat.le_refl _) (Nat.le_refl _)
  · exact z_cVx (av := [.int x2]) (st := []) lk_X7_162 dX7_night_2 (A_X7_checkTown_51 (d := d + 0) hl c1) rfl rfl en_51 rfl (Nat.le_of_ble_eq_true rfl) rfl z_len rfl rfl (Nat.le_refl _) (Nat.le_refl _)
