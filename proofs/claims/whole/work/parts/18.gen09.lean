/-! X8_town 107 -/
def f_X8_town_107 (x1 : Int32) (x2 : Int32) (M : zMM) : Option (Int32 × zMM) :=
  z_bi (f_X8_isTown_107 x1 (z_up M 107 1 (0 : Int32))) fun v2 M3 =>
  if v2 = 0 then
    z_bi (f_X8_fail_107 (1 : Int32) M3) fun v6 M7 =>
    some (v6, M7)
  else
    if x2 = (0 : Int32) then
      if z_ib x1 10 = true then
        some ((M3 110 x1.toNatClampNeg), M3)
      else none
    else
      if x2 = (1 : Int32) then
        if z_ib x1 10 = true then
          some ((M3 111 x1.toNatClampNeg), M3)
        else none
      else
        if x2 = (2 : Int32) then
          if z_ib x1 10 = true then
            some ((M3 112 x1.toNatClampNeg), M3)
          else none
        else
          if x2 = (3 : Int32) then
            if z_ib x1 10 = true then
              some ((M3 113 x1.toNatClampNeg), M3)
            else none
          else
            if x2 = (4 : Int32) then
              z_bi (f_X8_trunksAt_107 x1 M3) fun v18 M19 =>
              some (v18, M19)
            else
              if x2 = (5 : Int32) then
                z_bi (f_X8_trunksAt_107 x1 M3) fun v22 M23 =>
                z_bi (f_X8_thingsOf_107 v22 M23) fun v25 M26 =>
                some (v25, M26)
              else
                z_bi (f_X8_fail_107 (1 : Int32) M3) fun v28 M29 =>
                some (v28, M29)
theorem A_X8_town_107 {l : Launch} (hl : l.stackTraces = false) {Ls d : Nat} {Lm : zML} {x1 : Int32} {x2 : Int32} {M M' : zMM} {v : Int32} (h : f_X8_town_107 x1 x2 M = some (v, M')) : z_Ct l mX8_town (d + 2) 0 0 [.ref 107, .int x1, .int x2] (z_L0 Ls, M, Lm) (.inl (some (.int v))) (z_L0 Ls, M', Lm) := by
  replace h : (  z_bi (f_X8_isTown_107 x1 (z_up M 107 1 (0 : Int32))) fun v2 M3 =>
  if v2 = 0 then
    z_bi (f_X8_fail_107 (1 : Int32) M3) fun v6 M7 =>
    some (v6, M7)
  else
    if x2 = (0 : Int32) then
      if z_ib x1 10 = true then
        some ((M3 110 x1.toNatClampNeg), M3)
      else none
    else
      if x2 = (1 : Int32) then
        if z_ib x1 10 = true then
          some ((M3 111 x1.toNatClampNeg), M3)
        else none
      else
        if x2 = (2 : Int32) then
          if z_ib x1 10 = true then
            some ((M3 112 x1.toNatClampNeg), M3)
          else none
        else
          if x2 = (3 : Int32) then
            if z_ib x1 10 = true then
              some ((M3 113 x1.toNatClampNeg), M3)
            else none
          else
            if x2 = (4 : Int32) then
              z_bi (f_X8_trunksAt_107 x1 M3) fun v18 M19 =>
              some (v18, M19)
            else
              if x2 = (5 : Int32) then
                z_bi (f_X8_trunksAt_107 x1 M3) fun v22 M23 =>
                z_bi (f_X8_thingsOf_107 v22 M23) fun v25 M26 =>
                some (v25, M26)
              else
                z_bi (f_X8_fail_107 (1 : Int32) M3) fun v28 M29 =>
                some (v28, M29)) = some (v, M') := h
  refine z_Ct.of hl (by decide) (Nat.le_of_ble_eq_true rfl) rfl ?_
  show z_AW l mX8_town (d + 2) 0 0 0 [.ref 107, .int x1, .int x2] [] (z_L0 Ls, M, Lm) (.inl (some (.int v))) (z_L0 Ls, M', Lm)
  refine z_aload_n dX8_town_0 rfl ?_
  refine z_ic kc_p0 dX8_town_1 ?_
  refine z_pI fp_X8_149 dX8_town_2 (by decide) en_107 rfl ?_
  refine z_aload_n dX8_town_5 rfl ?_
  refine z_iload_n dX8_town_6 rfl ?_
  obtain ⟨v2, M3, c1, h⟩ := z_bi_c h
  refine z_cV (av := [.int x1]) (st := []) lk_X8_304 dX8_town_7 (A_X8_isTown_107 (d := d + 0) hl c1) rfl rfl en_107 rfl (Nat.le_of_ble_eq_true rfl) rfl z_len rfl rfl ?_
  refine z_if_ne (tgt := 19) dX8_town_10 rfl (fun g4 => ?_) (fun g4 => ?_)
  · replace h := (if_pos g4).symm.trans h
    refine z_aload_n dX8_town_13 rfl ?_
    refine z_ic kc_p1 dX8_town_14 ?_
    obtain ⟨v6, M7, c5, h⟩ := z_bi_c h
    refine z_cV (av := [.int (1 : Int32)]) (st := []) lk_X8_268 dX8_town_15 (A_X8_fail_107 (d := d + 1) hl c5) rfl rfl en_107 rfl (Nat.le_of_ble_eq_true rfl) rfl z_len rfl rfl ?_
    cases h
    exact z_rI dX8_town_18 rfl
  · replace h := (if_neg g4).symm.trans h
    refine z_iload_n dX8_town_19 rfl ?_
    by_cases g8 : x2 = (0 : Int32)
    · replace h := (if_pos g8).symm.trans h
      refine z_tswI (tgt := 60) dX8_town_20 g8 (by decide) (by decide) rfl rfl ?_
      refine z_aload_n dX8_town_60 rfl ?_
      refine z_getR (q := 110) fl_X8_27 dX8_town_61 en_107 rfl ?_
      refine z_iload_n dX8_town_64 rfl ?_
      obtain ⟨g9, h⟩ := z_ifn h
      refine z_al (v := (M3 110 x1.toNatClampNeg)) dX8_town_65 en_110 rfl (z_ib_in g9) rfl ?_
      cases h
      exact z_rI dX8_town_66 rfl
    · replace h := (if_neg g8).symm.trans h
      by_cases g10 : x2 = (1 : Int32)
      · replace h := (if_pos g10).symm.trans h
        refine z_tswI (tgt := 67) dX8_town_20 g10 (by decide) (by decide) rfl rfl ?_
        refine z_aload_n dX8_town_67 rfl ?_
        refine z_getR (q := 111) fl_X8_30 dX8_town_68 en_107 rfl ?_
        refine z_iload_n dX8_town_71 rfl ?_
        obtain ⟨g11, h⟩ := z_ifn h
        refine z_al (v := (M3 111 x1.toNatClampNeg)) dX8_town_72 en_111 rfl (z_ib_in g11) rfl ?_
        cases h
        exact z_rI dX8_town_73 rfl
      · replace h := (if_neg g10).symm.trans h
        by_cases g12 : x2 = (2 : Int32)
        · replace h := (if_pos g12).symm.trans h
          refine z_tswI (tgt := 74) dX8_town_20 g12 (by decide) (by decide) rfl rfl ?_
          refine z_aload_n dX8_town_74 rfl ?_
          refine z_getR (q := 112) fl_X8_33 dX8_town_75 en_107 rfl ?_
          refine z_iload_n dX8_town_78 rfl ?_
          obtain ⟨g13, h⟩ := z_ifn h
          refine z_al (v := (M3 112 x1.toNatClampNeg)) dX8_town_79 en_112 rfl (z_ib_in g13) rfl ?_
          cases h
          exact z_rI dX8_town_80 rfl
        · replace h := (if_neg g12).symm.trans h
          by_cases g14 : x2 = (3 : Int32)
          · replace h := (if_pos g14).symm.trans h
            refine z_tswI (tgt := 81) dX8_town_20 g14 (by decide) (by decide) rfl rfl ?_
            refine z_aload_n dX8_town_81 rfl ?_
            refine z_getR (q := 113) fl_X8_36 dX8_town_82 en_107 rfl ?_
            refine z_iload_n dX8_town_85 rfl ?_
            obtain ⟨g15, h⟩ := z_ifn h
            refine z_al (v := (M3 113 x1.toNatClampNeg)) dX8_town_86 en_113 rfl (z_ib_in g15) rfl ?_
            cases h
            exact z_rI dX8_town_87 rfl
          · replace h := (if_neg g14).symm.trans h
            by_cases g16 : x2 = (4 : Int32)
            · replace h := (if_pos g16).symm.trans h
              refine z_tswI (tgt := 88) dX8_town_20 g16 (by decide) (by decide) rfl rfl ?_
              refine z_aload_n dX8_town_88 rfl ?_
              refine z_iload_n dX8_town_89 rfl ?_
              obtain ⟨v18, M19, c17, h⟩ := z_bi_c h
              refine z_cV (av := [.int x1]) (st := []) lk_X8_307 dX8_town_90 (A_X8_trunksAt_107 (d := d + 1) hl c17) rfl rfl en_107 rfl (Nat.le_of_ble_eq_true rfl) rfl z_len rfl rfl ?_
              cases h
              exact z_rI dX8_town_93 rfl
            · replace h := (if_neg g16).symm.trans h
              by_cases g20 : x2 = (5 : Int32)
              · replace h := (if_pos g20).symm.trans h
                refine z_tswI (tgt := 94) dX8_town_20 g20 (by decide) (by decide) rfl rfl ?_
                refine z_aload_n dX8_town_94 rfl ?_
                refine z_aload_n dX8_town_95 rfl ?_
                refine z_iload_n dX8_town_96 rfl ?_
                obtain ⟨v22, M23, c21, h⟩ := z_bi_c h
                refine z_cV (av := [.int x1]) (st := [.ref 107]) lk_X8_307 dX8_town_97 (A_X8_trunksAt_107 (d := d + 1) hl c21) rfl rfl en_107 rfl (Nat.le_of_ble_eq_true rfl) rfl z_len rfl rfl ?_
                obtain ⟨v25, M26, c24, h⟩ := z_bi_c h
                refine z_cV (av := [.int v22]) (st := []) lk_X8_310 dX8_town_100 (A_X8_thingsOf_107 (d := d + 1) hl c24) rfl rfl en_107 rfl (Nat.le_of_ble_eq_true rfl) rfl z_len rfl rfl ?_
                cases h
                exact z_rI dX8_town_103 rfl
              · replace h := (if_neg g20).symm.trans h
                refine z_tswO (tgt := 104) dX8_town_20 [(0 : Int32), (1 : Int32), (2 : Int32), (3 : Int32), (4 : Int32), (5 : Int32)] (by simp only [List.mem_cons, List.not_mem_nil, or_false, forall_eq_or_imp, forall_eq]; exact ⟨g8, g10, g12, g14, g16, g20⟩) (by decide +kernel) rfl ?_
                refine z_aload_n dX8_town_104 rfl ?_
                refine z_ic kc_p1 dX8_town_105 ?_
                obtain ⟨v28, M29, c27, h⟩ := z_bi_c h
                refine z_cV (av := [.int (1 : Int32)]) (st := []) lk_X8_268 dX8_town_106 (A_X8_fail_107 (d := d + 1) hl c27) rfl rfl en_107 rfl (Nat.le_of_ble_eq_true rfl) rfl z_len rfl rfl ?_
                cases h
                exact z_rI dX8_town_109 rfl
/-! X8_trunk 107 -/
def f_X8_trunk_107 (x1 : Int32) (x2 : Int32) (M : zMM) : Option (Int32 × zMM) :=
  z_bi (f_X8_isTrunk_107 x1 (z_up M 107 1 (0 : Int32))) fun v2 M3 =>
  if v2 = 0 then
    z_bi (f_X8_fail_107 (1 : Int32) M3) fun v6 M7 =>
    some (v6, M7)
  else
    if x2 = (0 : Int32) then
      if z_ib x1 5 = true then
        if (M3 107 29) < (M3 125 x1.toNatClampNeg) then
          some ((-1 : Int32), M3)
        else
          if z_ib x1 5 = true then
            some ((M3 124 x1.toNatClampNeg), M3)
          else none
      else none
    else
      if x2 = (1 : Int32) then
        if z_ib x1 5 = true then
          some ((M3 124 x1.toNatClampNeg), M3)
        else none
      else
        if x2 = (2 : Int32) then
          if z_ib x1 5 = true then
            some ((M3 125 x1.toNatClampNeg), M3)
          else none
        else
          if x2 = (3 : Int32) then
            z_bi (f_X8_thingsOf_107 ((1 : Int32) <<< (x1 &&& 31)) M3) fun v18 M19 =>
            some (v18, M19)
          else
            z_bi (f_X8_fail_107 (1 : Int32) M3) fun v21 M22 =>
            some (v21, M22)
theorem A_X8_trunk_107 {l : Launch} (hl : l.stackTraces = false) {Ls d : Nat} {Lm : zML} {x1 : Int32} {x2 : Int32} {M M' : zMM} {v : Int32} (h : f_X8_trunk_107 x1 x2 M = some (v, M')) : z_Ct l mX8_trunk (d + 2) 0 0 [.ref 107, .int x1, .int x2] (z_L0 Ls, M, Lm) (.inl (some (.int v))) (z_L0 Ls, M', Lm) := by
  replace h : (  z_bi (f_X8_isTrunk_107 x1 (z_up M 107 1 (0 : Int32))) fun v2 M3 =>
  if v2 = 0 then
    z_bi (f_X8_fail_107 (1 : Int32) M3) fun v6 M7 =>
    some (v6, M7)
  else
    if x2 = (0 : Int32) then
      if z_ib x1 5 = true then
        if (M3 107 29) < (M3 125 x1.toNatClampNeg) then
          some ((-1 : Int32), M3)
        else
          if z_ib x1 5 = true then
            some ((M3 124 x1.toNatClampNeg), M3)
          else none
      else none
    else
      if x2 = (1 : Int32) then
        if z_ib x1 5 = true then
          some ((M3 124 x1.toNatClampNeg), M3)
        else none
      else
        if x2 = (2 : Int32) then
          if z_ib x1 5 = true then
            some ((M3 125 x1.toNatClampNeg), M3)
          else none
        else
          if x2 = (3 : Int32) then
            z_bi (f_X8_thingsOf_107 ((1 : Int32) <<< (x1 &&& 31)) M3) fun v18 M19 =>
            some (v18, M19)
          else
            z_bi (f_X8_fail_107 (1 : Int32) M3) fun v21 M22 =>
            some (v21, M22)) = some (v, M') := h
  refine z_Ct.of hl (by decide) (Nat.le_of_ble_eq_true rfl) rfl ?_
  show z_AW l mX8_trunk (d + 2) 0 0 0 [.ref 107, .int x1, .int x2] [] (z_L0 Ls, M, Lm) (.inl (some (.int v))) (z_L0 Ls, M', Lm)
  refine z_aload_n dX8_trunk_0 rfl ?_
  refine z_ic kc_p0 dX8_trunk_1 ?_
  refine z_pI fp_X8_149 dX8_trunk_2 (by decide) en_107 rfl ?_
  refine z_aload_n dX8_trunk_5 rfl ?_
  refine z_iload_n dX8_trunk_6 rfl ?_
  obtain ⟨v2, M3, c1, h⟩ := z_bi_c h
  refine z_cV (av := [.int x1]) (st := []) lk_X8_313 dX8_trunk_7 (A_X8_isTrunk_107 (d := d + 0) hl c1) rfl rfl en_107 rfl (Nat.le_of_ble_eq_true rfl) rfl z_len rfl rfl ?_
  refine z_if_ne (tgt := 19) dX8_trunk_10 rfl (fun g4 => ?_) (fun g4 => ?_)
  · replace h := (if_pos g4).symm.trans h
    refine z_aload_n dX8_trunk_13 rfl ?_
    refine z_ic kc_p1 dX8_trunk_14 ?_
    obtain ⟨v6, M7, c5, h⟩ := z_bi_c h
    refine z_cV (av := [.int (1 : Int32)]) (st := []) lk_X8_268 dX8_trunk_15 (A_X8_fail_107 (d := d + 1) hl c5) rfl rfl en_107 rfl (Nat.le_of_ble_eq_true rfl) rfl z_len rfl rfl ?_
    cases h
    exact z_rI dX8_trunk_18 rfl
  · replace h := (if_neg g4).symm.trans h
    refine z_iload_n dX8_trunk_19 rfl ?_
    by_cases g8 : x2 = (0 : Int32)
    · replace h := (if_pos g8).symm.trans h
      refine z_tswI (tgt := 52) dX8_trunk_20 g8 (by decide) (by decide) rfl rfl ?_
      refine z_aload_n dX8_trunk_52 rfl ?_
      refine z_getR (q := 125) fl_X8_76 dX8_trunk_53 en_107 rfl ?_
      refine z_iload_n dX8_trunk_56 rfl ?_
      obtain ⟨g9, h⟩ := z_ifn h
      refine z_al (v := (M3 125 x1.toNatClampNeg)) dX8_trunk_57 en_125 rfl (z_ib_in g9) rfl ?_
      refine z_aload_n dX8_trunk_58 rfl ?_
      refine z_gI (v := (M3 107 29)) fl_X8_282 dX8_trunk_59 en_107 rfl rfl ?_
      refine z_icmp_gt (tgt := 74) dX8_trunk_62 rfl (fun g10 => ?_) (fun g10 => ?_)
      · replace h := (if_pos g10).symm.trans h
        refine z_ic kc_m1 dX8_trunk_74 ?_
        cases h
        exact z_rI dX8_trunk_75 rfl
      · replace h := (if_neg g10).symm.trans h
        refine z_aload_n dX8_trunk_65 rfl ?_
        refine z_getR (q := 124) fl_X8_73 dX8_trunk_66 en_107 rfl ?_
        refine z_iload_n dX8_trunk_69 rfl ?_
        obtain ⟨g11, h⟩ := z_ifn h
        refine z_al (v := (M3 124 x1.toNatClampNeg)) dX8_trunk_70 en_124 rfl (z_ib_in g11) rfl ?_
        refine z_goto (tgt := 75) dX8_trunk_71 rfl ?_
        cases h
        exact z_rI dX8_trunk_75 rfl
    · replace h := (if_neg g8).symm.trans h
      by_cases g12 : x2 = (1 : Int32)
      · replace h := (if_pos g12).symm.trans h
        refine z_tswI (tgt := 76) dX8_trunk_20 g12 (by decide) (by decide) rfl rfl ?_
        refine z_aload_n dX8_trunk_76 rfl ?_
        refine z_getR (q := 124) fl_X8_73 dX8_trunk_77 en_107 rfl ?_
        refine z_iload_n dX8_trunk_80 rfl ?_
        obtain ⟨g13, h⟩ := z_ifn h
        refine z_al (v := (M3 124 x1.toNatClampNeg)) dX8_trunk_81 en_124 rfl (z_ib_in g13) rfl ?_
        cases h
        exact z_rI dX8_trunk_82 rfl
      · replace h := (if_neg g12).symm.trans h
        by_cases g14 : x2 = (2 : Int32)
        · replace h := (if_pos g14).symm.trans h
          refine z_tswI (tgt := 83) dX8_trunk_20 g14 (by decide) (by decide) rfl rfl ?_
          refine z_aload_n dX8_trunk_83 rfl ?_
          refine z_getR (q := 125) fl_X8_76 dX8_trunk_84 en_107 rfl ?_
          refine z_iload_n dX8_trunk_87 rfl ?_
          obtain ⟨g15, h⟩ := z_ifn h
          refine z_al (v := (M3 125 x1.toNatClampNeg)) dX8_trunk_88 en_125 rfl (z_ib_in g15) rfl ?_
          cases h
          exact z_rI dX8_trunk_89 rfl
        · replace h := (if_neg g14).symm.trans h
          by_cases g16 : x2 = (3 : Int32)
          · replace h := (if_pos g16).symm.trans h
            refine z_tswI (tgt := 90) dX8_trunk_20 g16 (by decide) (by decide) rfl rfl ?_
            refine z_aload_n dX8_trunk_90 rfl ?_
            refine z_ic kc_p1 dX8_trunk_91 ?_
            refine z_iload_n dX8_trunk_92 rfl ?_
            refine z_ishl dX8_trunk_93 ?_
            obtain ⟨v18, M19, c17, h⟩ := z_bi_c h
            refine z_cV (av := [.int ((1 : Int32) <<< (x1 &&& 31))]) (st := []) lk_X8_310 dX8_trunk_94 (A_X8_thingsOf_107 (d := d + 1) hl c17) rfl rfl en_107 rfl (Nat.le_of_ble_eq_true rfl) rfl z_len rfl rfl ?_
            cases h
            exact z_rI dX8_trunk_97 rfl
          · replace h := (if_neg g16).symm.trans h
            refine z_tswO (tgt := 98) dX8_trunk_20 [(0 : Int32), (1 : Int32), (2 : Int32), (3 : Int32)] (by simp only [List.mem_cons, List.not_mem_nil, or_false, forall_eq_or_imp, forall_eq]; exact ⟨g8, g12, g14, g16⟩) (by decide +kernel) rfl ?_
            refine z_aload_n dX8_trunk_98 rfl ?_
            refine z_ic kc_p1 dX8_trunk_99 ?_
            obtain ⟨v21, M22, c20, h⟩ := z_bi_c h
            refine z_cV (av := [.int (1 : Int32)]) (st := []) lk_X8_268 dX8_trunk_100 (A_X8_fail_107 (d := d + 1) hl c20) rfl rfl en_107 rfl (Nat.le_of_ble_eq_true rfl) rfl z_len rfl rfl ?_
            cases h
            exact z_rI dX8_trunk_103 rfl
/-! X8_undo 107 -/
def f_X8_undo_107_p69 (M : zMM) : Option (Int32 × zMM) :=
  if z_ib (M 107 31) 100 = true then
    if z_ib (M 107 31) 100 = true then
      if z_ib (M 107 31) 100 = true then
        if z_zb (M 135 (M 107 31).toNatClampNeg) = true then
          some ((1 : Int32), (z_up (z_up (z_up M 107 29 (M 133 (M 107 31).toNatClampNeg)) 107 30 (M 134 (M 107 31).toNatClampNeg)) 107 33 (M 135 (M 107 31).toNatClampNeg)))
        else none
      else none
    else none
  else none
def f_X8_undo_107  (M : zMM) : Option (Int32 × zMM) :=
  if (M 107 31) = 0 then
    some ((0 : Int32), (z_up M 107 1 (0 : Int32)))
  else
    if z_ib ((M 107 31) - (1 : Int32)) 100 = true then
      if (M 130 ((M 107 31) - (1 : Int32)).toNatClampNeg) = (-1 : Int32) then
        f_X8_undo_107_p69  (z_up (z_up M 107 1 (0 : Int32)) 107 31 ((M 107 31) - (1 : Int32)))
      else
        if z_ib ((M 107 31) - (1 : Int32)) 100 = true then
          if z_ib (M 130 ((M 107 31) - (1 : Int32)).toNatClampNeg) 5 = true then
            if z_ib ((M 107 31) - (1 : Int32)) 100 = true then
              if z_ib (M 130 ((M 107 31) - (1 : Int32)).toNatClampNeg) 5 = true then
                f_X8_undo_107_p69  (z_up (z_up (z_up (z_up M 107 1 (0 : Int32)) 107 31 ((M 107 31) - (1 : Int32))) 124 (M 130 ((M 107 31) - (1 : Int32)).toNatClampNeg).toNatClampNeg (M 131 ((M 107 31) - (1 : Int32)).toNatClampNeg)) 125 (M 130 ((M 107 31) - (1 : Int32)).toNatClampNeg).toNatClampNeg (M 132 ((M 107 31) - (1 : Int32)).toNatClampNeg))
              else none
            else none
          else none
        else none
    else none
theorem A_X8_undo_107_p69 {l : Launch} (hl : l.stackTraces = false) {Ls d : Nat} {Lm : zML} :
    ∀ (M M' : zMM) (v : Int32) , f_X8_undo_107_p69  M = some (v, M') → z_AW l mX8_undo (d + 0) 0 0 69 [.ref 107, .null] [] (z_L0 Ls, M, Lm) (.inl (some (.int v))) (z_L0 Ls, M', Lm) := by
  intro  M M' v h
  replace h : (  if z_ib (M 107 31) 100 = true then
    if z_ib (M 107 31) 100 = true then
      if z_ib (M 107 31) 100 = true then
        if z_zb (M 135 (M 107 31).toNatClampNeg) = true then
          some ((1 : Int32), (z_up (z_up (z_up M 107 29 (M 133 (M 107 31).toNatClampNeg)) 107 30 (M 134 (M 107 31).toNatClampNeg)) 107 33 (M 135 (M 107 31).toNatClampNeg)))
        else none
      else none
    else none
  else none) = some (v, M') := h
  refine z_aload_n dX8_undo_69 rfl ?_
  refine z_aload_n dX8_undo_70 rfl ?_
  refine z_getR (q := 133) fl_X8_100 dX8_undo_71 en_107 rfl ?_
  refine z_aload_n dX8_undo_74 rfl ?_
  refine z_gI (v := (M 107 31)) fl_X8_289 dX8_undo_75 en_107 rfl rfl ?_
  obtain ⟨g4, h⟩ := z_ifn h
  refine z_al (v := (M 133 (M 107 31).toNatClampNeg)) dX8_undo_78 en_133 rfl (z_ib_in g4) rfl ?_
  refine z_pI fp_X8_282 dX8_undo_79 (by decide) en_107 rfl ?_
  refine z_aload_n dX8_undo_82 rfl ?_
  refine z_aload_n dX8_undo_83 rfl ?_
  refine z_getR (q := 134) fl_X8_103 dX8_undo_84 en_107 rfl ?_
  refine z_aload_n dX8_undo_87 rfl ?_
  refine z_gI (v := (M 107 31)) fl_X8_289 dX8_undo_88 en_107 rfl rfl ?_
  obtain ⟨g5, h⟩ := z_ifn h
  refine z_al (v := (M 134 (M 107 31).toNatClampNeg)) dX8_undo_91 en_134 rfl (z_ib_in g5) rfl ?_
  refine z_pI fp_X8_362 dX8_undo_92 (by decide) en_107 rfl ?_
  refine z_aload_n dX8_undo_95 rfl ?_
  refine z_aload_n dX8_undo_96 rfl ?_
  refine z_getR (q := 135) fl_X8_106 dX8_undo_97 en_107 rfl ?_
  refine z_aload_n dX8_undo_100 rfl ?_
  refine z_gI (v := (M 107 31)) fl_X8_289 dX8_undo_101 en_107 rfl rfl ?_
  obtain ⟨g6, h⟩ := z_ifn h
  refine z_zl (v := (M 135 (M 107 31).toNatClampNeg)) dX8_undo_104 en_135 rfl (z_ib_in g6) rfl ?_
  obtain ⟨g7, h⟩ := z_ifn h
  refine z_pZ fp_X8_285 dX8_undo_105 (by decide) en_107 rfl g7 ?_
  refine z_ic kc_p1 dX8_undo_108 ?_
  cases h
  exact z_rZ dX8_undo_109 rfl rfl
theorem A_X8_undo_107 {l : Launch} (hl : l.stackTraces = false) {Ls d : Nat} {Lm : zML}  {M M' : zMM} {v : Int32} (h : f_X8_undo_107  M = some (v, M')) : z_Ct l mX8_undo (d + 0) 0 0 [.ref 107] (z_L0 Ls, M, Lm) (.inl (some (.int v))) (z_L0 Ls, M', Lm) := by
  replace h : (  if (M 107 31) = 0 then
    some ((0 : Int32), (z_up M 107 1 (0 : Int32)))
  else
    if z_ib ((M 107 31) - (1 : Int32)) 100 = true then
      if (M 130 ((M 107 31) - (1 : Int32)).toNatClampNeg) = (-1 : Int32) then
        f_X8_undo_107_p69  (z_up (z_up M 107 1 (0 : Int32)) 107 31 ((M 107 31) - (1 : Int32)))
      else
        if z_ib ((M 107 31) - (1 : Int32)) 100 = true then
          if z_ib (M 130 ((M 107 31) - (1 : Int32)).toNatClampNeg) 5 = true then
            if z_ib ((M 107 31) - (1 : Int32)) 100 = true then
              if z_ib (M 130 ((M 107 31) - (1 : Int32)).toNatClampNeg) 5 = true then
                f_X8_undo_107_p69  (z_up (z_up (z_up (z_up M 107 1 (0 : Int32)) 107 31 ((M 107 31) - (1 : Int32))) 124 (M 130 ((M 107 31) - (1 : Int32)).toNatClampNeg).toNatClampNeg (M 131 ((M 107 31) - (1 : Int32)).toNatClampNeg)) 125 (M 130 ((M 107 31) - (1 : Int32)).toNatClampNeg).toNatClampNeg (M 132 ((M 107 31) - (1 : Int32)).toNatClampNeg))
              else none
            else none
          else none
        else none
    else none) = some (v, M') := h
  refine z_Ct.of hl (by decide) (Nat.le_of_ble_eq_true rfl) rfl ?_
  show z_AW l mX8_undo (d + 0) 0 0 0 [.ref 107, .null] [] (z_L0 Ls, M, Lm) (.inl (some (.int v))) (z_L0 Ls, M', Lm)
  refine z_aload_n dX8_undo_0 rfl ?_
  refine z_ic kc_p0 dX8_undo_1 ?_
  refine z_pI fp_X8_149 dX8_undo_2 (by decide) en_107 rfl ?_
  refine z_aload_n dX8_undo_5 rfl ?_
  refine z_gI (v := (M 107 31)) fl_X8_289 dX8_undo_6 en_107 rfl rfl ?_
  refine z_if_ne (tgt := 14) dX8_undo_9 rfl (fun g1 => ?_) (fun g1 => ?_)
  · replace h := (if_pos g1).symm.trans h
    refine z_ic kc_p0 dX8_undo_12 ?_
    cases h
    exact z_rZ dX8_undo_13 rfl rfl
  · replace h := (if_neg g1).symm.trans h
    refine z_aload_n dX8_undo_14 rfl ?_
    refine z_dup dX8_undo_15 rfl ?_
    refine z_gI (v := (M 107 31)) fl_X8_289 dX8_undo_16 en_107 rfl rfl ?_
    refine z_ic kc_p1 dX8_undo_19 ?_
    refine z_isub dX8_undo_20 ?_
    refine z_pI fp_X8_289 dX8_undo_21 (by decide) en_107 rfl ?_
    refine z_aload_n dX8_undo_24 rfl ?_
    refine z_getR (q := 130) fl_X8_91 dX8_undo_25 en_107 rfl ?_
    refine z_aload_n dX8_undo_28 rfl ?_
    refine z_gI (v := ((M 107 31) - (1 : Int32))) fl_X8_289 dX8_undo_29 en_107 rfl rfl ?_
    obtain ⟨g2, h⟩ := z_ifn h
    refine z_al (v := (M 130 ((M 107 31) - (1 : Int32)).toNatClampNeg)) dX8_undo_32 en_130 rfl (z_ib_in g2) rfl ?_
    refine z_istore_n (ls' := [.ref 107, .int (M 130 ((M 107 31) - (1 : Int32)).toNatClampNeg)]) dX8_undo_33 (by decide) rfl ?_
    refine z_iload_n dX8_undo_34 rfl ?_
    refine z_ic kc_m1 dX8_undo_35 ?_
    refine z_icmp_eq (tgt := 69) dX8_undo_36 rfl (fun g3 => ?_) (fun g3 => ?_)
    · replace h := (if_pos g3).symm.trans h
      refine z_fg (ls' := [.ref 107, .null]) ⟨Or.inr rfl, Or.inl rfl, trivial⟩ ?_
      exact A_X8_undo_107_p69 hl  _ _ _ h
    · replace h := (if_neg g3).symm.trans h
      refine z_aload_n dX8_undo_39 rfl ?_
      refine z_getR (q := 124) fl_X8_73 dX8_undo_40 en_107 rfl ?_
      refine z_iload_n dX8_undo_43 rfl ?_
      refine z_aload_n dX8_undo_44 rfl ?_
      refine z_getR (q := 131) fl_X8_94 dX8_undo_45 en_107 rfl ?_
      refine z_aload_n dX8_undo_48 rfl ?_
      refine z_gI (v := ((M 107 31) - (1 : Int32))) fl_X8_289 dX8_undo_49 en_107 rfl rfl ?_
      obtain ⟨g8, h⟩ := z_ifn h
      refine z_al (v := (M 131 ((M 107 31) - (1 : Int32)).toNatClampNeg)) dX8_undo_52 en_131 rfl (z_ib_in g8) rfl ?_
      obtain ⟨g9, h⟩ := z_ifn h
      refine z_as dX8_undo_53 (by decide) en_124 rfl (z_ib_in g9) ?_
      refine z_aload_n dX8_undo_54 rfl ?_
      refine z_getR (q := 125) fl_X8_76 dX8_undo_55 en_107 rfl ?_
      refine z_iload_n dX8_undo_58 rfl ?_
      refine z_aload_n dX8_undo_59 rfl ?_
      refine z_getR (q := 132) fl_X8_97 dX8_undo_60 en_107 rfl ?_
      refine z_aload_n dX8_undo_63 rfl ?_
      refine z_gI (v := ((M 107 31) - (1 : Int32))) fl_X8_289 dX8_undo_64 en_107 rfl rfl ?_
      obtain ⟨g10, h⟩ := z_ifn h
      refine z_al (v := (M 132 ((M 107 31) - (1 : Int32)).toNatClampNeg)) dX8_undo_67 en_132 rfl (z_ib_in g10) rfl ?_
      obtain ⟨g11, h⟩ := z_ifn h
      refine z_as dX8_undo_68 (by decide) en_125 rfl (z_ib_in g11) ?_
      refine z_fg (ls' := [.ref 107, .null]) ⟨Or.inr rfl, Or.inl rfl, trivial⟩ ?_
      exact A_X8_undo_107_p69 hl  _ _ _ h
/-! X8_priceWith 107 -/
def f_X8_priceWith_107_p32 (x1 : Int32) (x2 : Int32) (x4 : Int32) (M : zMM) : Option (Int32 × zMM) :=
  z_bi (f_X8_priceOf_107 x1 x2 x4 M) fun v9 M10 =>
  if v9 = (-1 : Int32) then
    some ((1000 : Int32), M10)
  else
    some (v9, M10)
def f_X8_priceWith_107 (x1 : Int32) (x2 : Int32) (x3 : Int32) (M : zMM) : Option (Int32 × zMM) :=
  z_bi (f_X8_trunksAt_107 x2 M) fun v2 M3 =>
  z_bi (f_X8_thingsOf_107 v2 M3) fun v5 M6 =>
  if x3 = (-1 : Int32) then
    f_X8_priceWith_107_p32 x1 x2 v5 M6
  else
    f_X8_priceWith_107_p32 x1 x2 (v5 ||| (1024 : Int32)) (z_up M6 116 10 x3)
theorem A_X8_priceWith_107_p32 {l : Launch} (hl : l.stackTraces = false) {Ls d : Nat} {Lm : zML} :
    ∀ (x1 : Int32) (x2 : Int32) (x4 : Int32) (M M' : zMM) (v : Int32) , f_X8_priceWith_107_p32 x1 x2 x4 M = some (v, M') → z_AW l mX8_priceWith (d + 11) 0 0 32 [.ref 107, .int x1, .int x2, .null, .int x4, .null] [] (z_L0 Ls, M, Lm) (.inl (some (.int v))) (z_L0 Ls, M', Lm) := by
  intro x1 x2 x4 M M' v h
  replace h : (  z_bi (f_X8_priceOf_107 x1 x2 x4 M) fun v9 M10 =>
  if v9 = (-1 : Int32) then
    some ((1000 : Int32), M10)
  else
    some (v9, M10)) = some (v, M') := h
  refine z_aload_n dX8_priceWith_32 rfl ?_
  refine z_iload_n dX8_priceWith_33 rfl ?_
  refine z_iload_n dX8_priceWith_34 rfl ?_
  refine z_iload dX8_priceWith_35 rfl ?_
  obtain ⟨v9, M10, c8, h⟩ := z_bi_c h
  refine z_cV (av := [.int x1, .int x2, .int x4]) (st := []) lk_X8_359 dX8_priceWith_37 (A_X8_priceOf_107 (d := d + 0) hl c8) rfl rfl en_107 rfl (Nat.le_of_ble_eq_true rfl) rfl z_len rfl rfl ?_
  refine z_istore (ls' := [.ref 107, .int x1, .int x2, .null, .int x4, .int v9]) dX8_priceWith_40 (by decide) rfl ?_
  refine z_iload dX8_priceWith_42 rfl ?_
  refine z_ic kc_m1 dX8_priceWith_44 ?_
  refine z_icmp_ne (tgt := 54) dX8_priceWith_45 rfl (fun g11 => ?_) (fun g11 => ?_)
  · replace h := (if_pos g11).symm.trans h
    refine z_sp ks_p1000 dX8_priceWith_48 ?_
    refine z_goto (tgt := 56) dX8_priceWith_51 rfl ?_
    cases h
    exact z_rI dX8_priceWith_56 rfl
  · replace h := (if_neg g11).symm.trans h
    refine z_iload dX8_priceWith_54 rfl ?_
    cases h
    exact z_rI dX8_priceWith_56 rfl
theorem A_X8_priceWith_107 {l : Launch} (hl : l.stackTraces = false) {Ls d : Nat} {Lm : zML} {x1 : Int32} {x2 : Int32} {x3 : Int32} {M M' : zMM} {v : Int32} (h : f_X8_priceWith_107 x1 x2 x3 M = some (v, M')) : z_Ct l mX8_priceWith (d + 11) 0 0 [.ref 107, .int x1, .int x2, .int x3] (z_L0 Ls, M, Lm) (.inl (some (.int v))) (z_L0 Ls, M', Lm) := by
  replace h : (  z_bi (f_X8_trunksAt_107 x2 M) fun v2 M3 =>
  z_bi (f_X8_thingsOf_107 v2 M3) fun v5 M6 =>
  if x3 = (-1 : Int32) then
    f_X8_priceWith_107_p32 x1 x2 v5 M6
  else
    f_X8_priceWith_107_p32 x1 x2 (v5 ||| (1024 : Int32)) (z_up M6 116 10 x3)) = some (v, M') := h
  refine z_Ct.of hl (by decide) (Nat.le_of_ble_eq_true rfl) rfl ?_
  show z_AW l mX8_priceWith (d + 11) 0 0 0 [.ref 107, .int x1, .int x2, .int x3, .null, .null] [] (z_L0 Ls, M, Lm) (.inl (some (.int v))) (z_L0 Ls, M', Lm)
  refine z_aload_n dX8_priceWith_0 rfl ?_
  refine z_aload_n dX8_priceWith_1 rfl ?_
  refine z_iload_n dX8_priceWith_2 rfl ?_
  obtain ⟨v2, M3, c1, h⟩ := z_bi_c h
  refine z_cV (av := [.int x2]) (st := [.ref 107]) lk_X8_307 dX8_priceWith_3 (A_X8_trunksAt_107 (d := d + 10) hl c1) rfl rfl en_107 rfl (Nat.le_of_ble_eq_true rfl) rfl z_len rfl rfl ?_
  obtain ⟨v5, M6, c4, h⟩ := z_bi_c h
  refine z_cV (av := [.int v2]) (st := []) lk_X8_310 dX8_priceWith_6 (A_X8_thingsOf_107 (d := d + 10) hl c4) rfl rfl en_107 rfl (Nat.le_of_ble_eq_true rfl) rfl z_len rfl rfl ?_
  refine z_istore (ls' := [.ref 107, .int x1, .int x2, .int x3, .int v5, .null]) dX8_priceWith_9 (by decide) rfl ?_
  refine z_iload_n dX8_priceWith_11 rfl ?_
  refine z_ic kc_m1 dX8_priceWith_12 ?_
  refine z_icmp_eq (tgt := 32) dX8_priceWith_13 rfl (fun g7 => ?_) (fun g7 => ?_)
  · replace h := (if_pos g7).symm.trans h
    refine z_fg (ls' := [.ref 107, .int x1, .int x2, .null, .int v5, .null]) ⟨Or.inr rfl, Or.inr rfl, Or.inr rfl, Or.inl rfl, Or.inr rfl, Or.inl rfl, trivial⟩ ?_
    exact A_X8_priceWith_107_p32 hl x1 x2 v5 _ _ _ h
  · replace h := (if_neg g7).symm.trans h
    refine z_aload_n dX8_priceWith_16 rfl ?_
    refine z_getR (q := 116) fl_X8_45 dX8_priceWith_17 en_107 rfl ?_
    refine z_bp kb_p10 dX8_priceWith_20 ?_
    refine z_iload_n dX8_priceWith_22 rfl ?_
    refine z_as dX8_priceWith_23 (by decide) en_116 kn_p10 (z_ib_in rfl) ?_
    refine z_iload dX8_priceWith_24 rfl ?_
    refine z_sp ks_p1024 dX8_priceWith_26 ?_
    refine z_ior dX8_priceWith_29 ?_
    refine z_istore (ls' := [.ref 107, .int x1, .int x2, .int x3, .int (v5 ||| (1024 : Int32)), .null]) dX8_priceWith_30 (by decide) rfl ?_
    refine z_fg (ls' := [.ref 107, .int x1, .int x2, .null, .int (v5 ||| (1024 : Int32)), .null]) ⟨Or.inr rfl, Or.inr rfl, Or.inr rfl, Or.inl rfl, Or.inr rfl, Or.inl rfl, trivial⟩ ?_
    exact A_X8_priceWith_107_p32 hl x1 x2 (v5 ||| (1024 : Int32)) _ _ _ h
/-! X8_unopened 107 -/
def f_X8_unopened_107_p64 (K36 : Int32 → Int32 → Int32 → Int32 → Int32 → Int32 → Int32 → Int32 → zMM → Option (Int32 × zMM)) (x1 : Int32) (x2 : Int32) (x3 : Int32) (x4 : Int32) (x5 : Int32) (x6 : Int32) (x7 : Int32) (x8 : Int32) (a0 : Int32) (M : zMM) : Option (Int32 × zMM) :=
  z_bi (f_X8_isIn a0 (-1 : Int32) (1999 : Int32) M) fun v26 M27 =>
  if v26 = 0 then
    z_bi (f_X8_fail_107 (2 : Int32) M27) fun v30 M31 =>
    some (v30, M31)
  else
    if a0 = (-1 : Int32) then
      K36 x1 x2 x3 x4 x5 x6 x7 (x8 + (1 : Int32)) M27
    else
      z_bi (f_X8_priceWith_107 x1 x2 (a0 / (100 : Int32)) M27) fun v34 M35 =>
      K36 x1 x2 x3 x4 x5 (x6 + (a0 - a0 / (100 : Int32) * (100 : Int32))) (x7 + ((a0 - a0 / (100 : Int32) * (100 : Int32)) * v34)) (x8 + (1 : Int32)) M35
def f_X8_unopened_107_p36 : Nat → Int32 → Int32 → Int32 → Int32 → Int32 → Int32 → Int32 → Int32 → zMM → Option (Int32 × zMM)
  | 0, _, _, _, _, _, _, _, _, _ => none
  | n + 1, x1, x2, x3, x4, x5, x6, x7, x8, M =>
  if (3 : Int32) ≤ x8 then
    if x6 = 0 then
      z_bi (f_X8_fail_107 (2 : Int32) M) fun v18 M19 =>
      some (v18, M19)
    else
      z_bi (f_X8_priceWith_107 x1 x2 (-1 : Int32) M) fun v21 M22 =>
      if ¬ x6 = 0 then
        some ((v21 - (x7 / x6)), M22)
      else none
  else
    if x8 = 0 then
      f_X8_unopened_107_p64 (f_X8_unopened_107_p36 n) x1 x2 x3 x4 x5 x6 x7 x8 x3 M
    else
      if x8 = (1 : Int32) then
        f_X8_unopened_107_p64 (f_X8_unopened_107_p36 n) x1 x2 x3 x4 x5 x6 x7 x8 x4 M
      else
        f_X8_unopened_107_p64 (f_X8_unopened_107_p36 n) x1 x2 x3 x4 x5 x6 x7 x8 x5 M
def f_X8_unopened_107 (x1 : Int32) (x2 : Int32) (x3 : Int32) (x4 : Int32) (x5 : Int32) (M : zMM) : Option (Int32 × zMM) :=
  z_bi (f_X8_isPlay_107 x1 (z_up M 107 1 (0 : Int32))) fun v2 M3 =>
  if v2 = 0 then
    z_bi (f_X8_fail_107 (1 : Int32) M3) fun v6 M7 =>
    some (v6, M7)
  else
    z_bi (f_X8_isTown_107 x2 M3) fun v9 M10 =>
    if v9 = 0 then
      z_bi (f_X8_fail_107 (1 : Int32) M10) fun v13 M14 =>
      some (v13, M14)
    else
      f_X8_unopened_107_p36 z_fuel x1 x2 x3 x4 x5 (0 : Int32) (0 : Int32) (0 : Int32) M10
theorem A_X8_unopened_107_p64 {l : Launch} (hl : l.stackTraces = false) {Ls d : Nat} {Lm : zML} {K36 : Int32 → Int32 → Int32 → Int32 → Int32 → Int32 → Int32 → Int32 → zMM → Option (Int32 × zMM)}
    (hK36 : ∀ (x1 : Int32) (x2 : Int32) (x3 : Int32) (x4 : Int32) (x5 : Int32) (x6 : Int32) (x7 : Int32) (x8 : Int32) (M M' : zMM) (v : Int32) , K36 x1 x2 x3 x4 x5 x6 x7 x8 M = some (v, M') → z_AW l mX8_unopened (d + 12) 0 0 36 [.ref 107, .int x1, .int x2, .int x3, .int x4, .int x5, .int x6, .int x7, .int x8, .null] [] (z_L0 Ls, M, Lm) (.inl (some (.int v))) (z_L0 Ls, M', Lm)) :
    ∀ (x1 : Int32) (x2 : Int32) (x3 : Int32) (x4 : Int32) (x5 : Int32) (x6 : Int32) (x7 : Int32) (x8 : Int32) (a0 : Int32) (M M' : zMM) (v : Int32) , f_X8_unopened_107_p64 K36 x1 x2 x3 x4 x5 x6 x7 x8 a0 M = some (v, M') → z_AW l mX8_unopened (d + 12) 0 0 64 [.ref 107, .int x1, .int x2, .int x3, .int x4, .int x5, .int x6, .int x7, .int x8, .null] [.int a0] (z_L0 Ls, M, Lm) (.inl (some (.int v))) (z_L0 Ls, M', Lm) := by
  intro x1 x2 x3 x4 x5 x6 x7 x8 a0 M M' v h
  replace h : (  z_bi (f_X8_isIn a0 (-1 : Int32) (1999 : Int32) M) fun v26 M27 =>
  if v26 = 0 then
    z_bi (f_X8_fail_107 (2 : Int32) M27) fun v30 M31 =>
    some (v30, M31)
  else
    if a0 = (-1 : Int32) then
      K36 x1 x2 x3 x4 x5 x6 x7 (x8 + (1 : Int32)) M27
    else
      z_bi (f_X8_priceWith_107 x1 x2 (a0 / (100 : Int32)) M27) fun v34 M35 =>
      K36 x1 x2 x3 x4 x5 (x6 + (a0 - a0 / (100 : Int32) * (100 : Int32))) (x7 + ((a0 - a0 / (100 : Int32) * (100 : Int32)) * v34)) (x8 + (1 : Int32)) M35) = some (v, M') := h
  refine z_istore (ls' := [.ref 107, .int x1, .int x2, .int x3, .int x4, .int x5, .int x6, .int x7, .int x8, .int a0]) dX8_unopened_64 (by decide) rfl ?_
  refine z_iload dX8_unopened_66 rfl ?_
  refine z_ic kc_m1 dX8_unopened_68 ?_
  refine z_sp ks_p1999 dX8_unopened_69 ?_
  obtain ⟨v26, M27, c25, h⟩ := z_bi_c h
  refine z_cS (av := [.int a0, .int (-1 : Int32), .int (1999 : Int32)]) (st := []) lk_X8_152 dX8_unopened_72 (A_X8_isIn (d := d + 11) hl c25) rfl rfl (Nat.le_of_ble_eq_true rfl) rfl z_len rfl rfl ?_
  refine z_if_ne (tgt := 84) dX8_unopened_75 rfl (fun g28 => ?_) (fun g28 => ?_)
  · replace h := (if_pos g28).symm.trans h
    refine z_aload_n dX8_unopened_78 rfl ?_
    refine z_ic kc_p2 dX8_unopened_79 ?_
    obtain ⟨v30, M31, c29, h⟩ := z_bi_c h
    refine z_cV (av := [.int (2 : Int32)]) (st := []) lk_X8_268 dX8_unopened_80 (A_X8_fail_107 (d := d + 11) hl c29) rfl rfl en_107 rfl (Nat.le_of_ble_eq_true rfl) rfl z_len rfl rfl ?_
    cases h
    exact z_rI dX8_unopened_83 rfl
  · replace h := (if_neg g28).symm.trans h
    refine z_iload dX8_unopened_84 rfl ?_
    refine z_ic kc_m1 dX8_unopened_86 ?_
    refine z_icmp_ne (tgt := 93) dX8_unopened_87 rfl (fun g32 => ?_) (fun g32 => ?_)
    · replace h := (if_pos g32).symm.trans h
      refine z_goto (tgt := 125) dX8_unopened_90 rfl ?_
      refine z_ii (ls' := [.ref 107, .int x1, .int x2, .int x3, .int x4, .int x5, .int x6, .int x7, .int (x8 + (1 : Int32)), .int a0]) kc_p1 dX8_unopened_125 rfl (by decide) rfl ?_
      refine z_goto (tgt := 36) dX8_unopened_128 rfl ?_
      refine z_fg (ls' := [.ref 107, .int x1, .int x2, .int x3, .int x4, .int x5, .int x6, .int x7, .int (x8 + (1 : Int32)), .null]) ⟨Or.inr rfl, Or.inr rfl, Or.inr rfl, Or.inr rfl, Or.inr rfl, Or.inr rfl, Or.inr rfl, Or.inr rfl, Or.inr rfl, Or.inl rfl, trivial⟩ ?_
      exact hK36 x1 x2 x3 x4 x5 x6 x7 (x8 + (1 : Int32)) _ _ _ h
    · replace h := (if_neg g32).symm.trans h
      refine z_iload dX8_unopened_93 rfl ?_
      refine z_iload dX8_unopened_95 rfl ?_
      refine z_bp kb_p100 dX8_unopened_97 ?_
      refine z_irem dX8_unopened_99 (by decide) ?_
      refine z_iadd dX8_unopened_100 ?_
      refine z_istore (ls' := [.ref 107, .int x1, .int x2, .int x3, .int x4, .int x5, .int (x6 + (a0 - a0 / (100 : Int32) * (100 : Int32))), .int x7, .int x8, .int a0]) dX8_unopened_101 (by decide) rfl ?_
      refine z_iload dX8_unopened_103 rfl ?_
      refine z_iload dX8_unopened_105 rfl ?_
      refine z_bp kb_p100 dX8_unopened_107 ?_
      refine z_irem dX8_unopened_109 (by decide) ?_
      refine z_aload_n dX8_unopened_110 rfl ?_
      refine z_iload_n dX8_unopened_111 rfl ?_
      refine z_iload_n dX8_unopened_112 rfl ?_
      refine z_iload dX8_unopened_113 rfl ?_
      refine z_bp kb_p100 dX8_unopened_115 ?_
      refine z_idiv dX8_unopened_117 (by decide) ?_
      obtain ⟨v34, M35, c33, h⟩ := z_bi_c h
      refine z_cV (av := [.int x1, .int x2, .int (a0 / (100 : Int32))]) (st := [.int (a0 - a0 / (100 : Int32) * (100 : Int32)), .int x7]) lk_X8_388 dX8_unopened_118 (A_X8_priceWith_107 (d := d + 0) hl c33) rfl rfl en_107 rfl (Nat.le_of_ble_eq_true rfl) rfl z_len rfl rfl ?_
      refine z_imul dX8_unopened_121 ?_
      refine z_iadd dX8_unopened_122 ?_
      refine z_istore (ls' := [.ref 107, .int x1, .int x2, .int x3, .int x4, .int x5, .int (x6 + (a0 - a0 / (100 : Int32) * (100 : Int32))), .int (x7 + ((a0 - a0 / (100 : Int32) * (100 : Int32)) * v34)), .int x8, .int a0]) dX8_unopened_123 (by decide) rfl ?_
      refine z_ii (ls' := [.ref 107, .int x1, .int x2, .int x3, .int x4, .int x5, .int (x6 + (a0 - a0 / (100 : Int32) * (100 : Int32))), .int (x7 + ((a0 - a0 / (100 : Int32) * (100 : Int32)) * v34)), .int (x8 + (1 : Int32)), .int a0]) kc_p1 dX8_unopened_125 rfl (by decide) rfl ?_
      refine z_goto (tgt := 36) dX8_unopened_128 rfl ?_
      refine z_fg (ls' := [.ref 107, .int x1, .int x2, .int x3, .int x4, .int x5, .int (x6 + (a0 - a0 / (100 : Int32) * (100 : Int32))), .int (x7 + ((a0 - a0 / (100 : Int32) * (100 : Int32)) * v34)), .int (x8 + (1 : Int32)), .null]) ⟨Or.inr rfl, Or.inr rfl, Or.inr rfl, Or.inr rfl, Or.inr rfl, Or.inr rfl, Or.inr rfl, Or.inr rfl, Or.inr rfl, Or.inl rfl, trivial⟩ ?_
      exact hK36 x1 x2 x3 x4 x5 (x6 + (a0 - a0 / (100 : Int32) * (100 : Int32))) (x7 + ((a0 - a0 / (100 : Int32) * (100 : Int32)) * v34)) (x8 + (1 : Int32)) _ _ _ h
theorem A_X8_unopened_107_p36 {l : Launch} (hl : l.stackTraces = false) {Ls d : Nat} {Lm : zML} :
    ∀ (n : Nat) (x1 : Int32) (x2 : Int32) (x3 : Int32) (x4 : Int32) (x5 : Int32) (x6 : Int32) (x7 : Int32) (x8 : Int32) (M M' : zMM) (v : Int32) , f_X8_unopened_107_p36 n x1 x2 x3 x4 x5 x6 x7 x8 M = some (v, M') → z_AW l mX8_unopened (d + 12) 0 0 36 [.ref 107, .int x1, .int x2, .int x3, .int x4, .int x5, .int x6, .int x7, .int x8, .null] [] (z_L0 Ls, M, Lm) (.inl (some (.int v))) (z_L0 Ls, M', Lm) := by
  intro n
  induction n with
  | zero => intro x1 x2 x3 x4 x5 x6 x7 x8 M M' v h; cases h
  | succ n ih =>
    intro x1 x2 x3 x4 x5 x6 x7 x8 M M' v h
    replace h : (  if (3 : Int32) ≤ x8 then
    if x6 = 0 then
      z_bi (f_X8_fail_107 (2 : Int32) M) fun v18 M19 =>
      some (v18, M19)
    else
      z_bi (f_X8_priceWith_107 x1 x2 (-1 : Int32) M) fun v21 M22 =>
      if ¬ x6 = 0 then
        some ((v21 - (x7 / x6)), M22)
      else none
  else
    if x8 = 0 then
      f_X8_unopened_107_p64 (f_X8_unopened_107_p36 n) x1 x2 x3 x4 x5 x6 x7 x8 x3 M
    else
      if x8 = (1 : Int32) then
        f_X8_unopened_107_p64 (f_X8_unopened_107_p36 n) x1 x2 x3 x4 x5 x6 x7 x8 x4 M
      else
        f_X8_unopened_107_p64 (f_X8_unopened_107_p36 n) x1 x2 x3 x4 x5 x6 x7 x8 x5 M) = some (v, M') := h
    refine z_iload dX8_unopened_36 rfl ?_
    refine z_ic kc_p3 dX8_unopened_38 ?_
    refine z_icmp_ge (tgt := 131) dX8_unopened_39 rfl (fun g15 => ?_) (fun g15 => ?_)
    · replace h := (if_pos g15).symm.trans h
      refine z_iload dX8_unopened_131 rfl ?_
      refine z_if_ne (tgt := 144) dX8_unopened_133 rfl (fun g16 => ?_) (fun g16 => ?_)
      · replace h := (if_pos g16).symm.trans h
        refine z_aload_n dX8_unopened_136 rfl ?_
        refine z_ic kc_p2 dX8_unopened_137 ?_
        obtain ⟨v18, M19, c17, h⟩ := z_bi_c h
        refine z_cV (av := [.int (2 : Int32)]) (st := []) lk_X8_268 dX8_unopened_138 (A_X8_fail_107 (d := d + 11) hl c17) rfl rfl en_107 rfl (Nat.le_of_ble_eq_true rfl) rfl z_len rfl rfl ?_
        refine z_goto (tgt := 157) dX8_unopened_141 rfl ?_
        cases h
        exact z_rI dX8_unopened_157 rfl
      · replace h := (if_neg g16).symm.trans h
        refine z_aload_n dX8_unopened_144 rfl ?_
        refine z_iload_n dX8_unopened_145 rfl ?_
        refine z_iload_n dX8_unopened_146 rfl ?_
        refine z_ic kc_m1 dX8_unopened_147 ?_
        obtain ⟨v21, M22, c20, h⟩ := z_bi_c h
        refine z_cV (av := [.int x1, .int x2, .int (-1 : Int32)]) (st := []) lk_X8_388 dX8_unopened_148 (A_X8_priceWith_107 (d := d + 0) hl c20) rfl rfl en_107 rfl (Nat.le_of_ble_eq_true rfl) rfl z_len rfl rfl ?_
        refine z_iload dX8_unopened_151 rfl ?_
        refine z_iload dX8_unopened_153 rfl ?_
        obtain ⟨g23, h⟩ := z_ifn h
        refine z_idiv dX8_unopened_155 g23 ?_
        refine z_isub dX8_unopened_156 ?_
        cases h
        exact z_rI dX8_unopened_157 rfl
    · replace h := (if_neg g15).symm.trans h
      refine z_iload dX8_unopened_42 rfl ?_
      refine z_if_ne (tgt := 51) dX8_unopened_44 rfl (fun g24 => ?_) (fun g24 => ?_)
      · replace h := (if_pos g24).symm.trans h
        refine z_iload_n dX8_unopened_47 rfl ?_
        refine z_goto (tgt := 64) dX8_unopened_48 rfl ?_
        exact A_X8_unopened_107_p64 hl ih x1 x2 x3 x4 x5 x6 x7 x8 x3 _ _ _ h
      · replace h := (if_neg g24).symm.trans h
        refine z_iload dX8_unopened_51 rfl ?_
        refine z_ic kc_p1 dX8_unopened_53 ?_
        refine z_icmp_ne (tgt := 62) dX8_unopened_54 rfl (fun g36 => ?_) (fun g36 => ?_)
        · replace h := (if_pos g36).symm.trans h
          refine z_iload dX8_unopened_57 rfl ?_
          refine z_goto (tgt := 64) dX8_unopened_59 rfl ?_
          exact A_X8_unopened_107_p64 hl ih x1 x2 x3 x4 x5 x6 x7 x8 x4 _ _ _ h
        · replace h := (if_neg g36).symm.trans h
          refine z_iload dX8_unopened_62 rfl ?_
          exact A_X8_unopened_107_p64 hl ih x1 x2 x3 x4 x5 x6 x7 x8 x5 _ _ _ h
theorem A_X8_unopened_107 {l : Launch} (hl : l.stackTraces = false) {Ls d : Nat} {Lm : zML} {x1 : Int32} {x2 : Int32} {x3 : Int32} {x4 : Int32} {x5 : Int32} {M M' : zMM} {v : Int32} (h : f_X8_unopened_107 x1 x2 x3 x4 x5 M = some (v, M')) : z_Ct l mX8_unopened (d + 12) 0 0 [.ref 107, .int x1, .int x2, .int x3, .int x4, .int x5] (z_L0 Ls, M, Lm) (.inl (some (.int v))) (z_L0 Ls, M', Lm) := by
  replace h : (  z_bi (f_X8_isPlay_107 x1 (z_up M 107 1 (0 : Int32))) fun v2 M3 =>
  if v2 = 0 then
    z_bi (f_X8_fail_107 (1 : Int32) M3) fun v6 M7 =>
    some (v6, M7)
  else
    z_bi (f_X8_isTown_107 x2 M3) fun v9 M10 =>
    if v9 = 0 then
      z_bi (f_X8_fail_107 (1 : Int32) M10) fun v13 M14 =>
      some (v13, M14)
    else
      f_X8_unopened_107_p36 z_fuel x1 x2 x3 x4 x5 (0 : Int32) (0 : Int32) (0 : Int32) M10) = some (v, M') := h
  refine z_Ct.of hl (by decide) (Nat.le_of_ble_eq_true rfl) rfl ?_
  show z_AW l mX8_unopened (d + 12) 0 0 0 [.ref 107, .int x1, .int x2, .int x3, .int x4, .int x5, .null, .null, .null, .null] [] (z_L0 Ls, M, Lm) (.inl (some (.int v))) (z_L0 Ls, M', Lm)
  refine z_aload_n dX8_unopened_0 rfl ?_
  refine z_ic kc_p0 dX8_unopened_1 ?_
  refine z_pI fp_X8_149 dX8_unopened_2 (by decide) en_107 rfl ?_
  refine z_aload_n dX8_unopened_5 rfl ?_
  refine z_iload_n dX8_unopened_6 rfl ?_
  obtain ⟨v2, M3, c1, h⟩ := z_bi_c h
  refine z_cV (av := [.int x1]) (st := []) lk_X8_356 dX8_unopened_7 (A_X8_isPlay_107 (d := d + 10) hl c1) rfl rfl en_107 rfl (Nat.le_of_ble_eq_true rfl) rfl z_len rfl rfl ?_
  refine z_if_eq (tgt := 21) dX8_unopened_10 rfl (fun g4 => ?_) (fun g4 => ?_)
  · replace h := (if_pos g4).symm.trans h
    refine z_aload_n dX8_unopened_21 rfl ?_
    refine z_ic kc_p1 dX8_unopened_22 ?_
    obtain ⟨v6, M7, c5, h⟩ := z_bi_c h
    refine z_cV (av := [.int (1 : Int32)]) (st := []) lk_X8_268 dX8_unopened_23 (A_X8_fail_107 (d := d + 11) hl c5) rfl rfl en_107 rfl (Nat.le_of_ble_eq_true rfl) rfl z_len rfl rfl ?_
    cases h
    exact z_rI dX8_unopened_26 rfl
  · replace h := (if_neg g4).symm.trans h
    refine z_aload_n dX8_unopened_13 rfl ?_
    refine z_iload_n dX8_unopened_14 rfl ?_
    obtain ⟨v9, M10, c8, h⟩ := z_bi_c h
    refine z_cV (av := [.int x2]) (st := []) lk_X8_304 dX8_unopened_15 (A_X8_isTown_107 (d := d + 10) hl c8) rfl rfl en_107 rfl (Nat.le_of_ble_eq_true rfl) rfl z_len rfl rfl ?_
    refine z_if_ne (tgt := 27) dX8_unopened_18 rfl (fun g11 => ?_) (fun g11 => ?_)
    · replace h := (if_pos g11).symm.trans h
      refine z_aload_n dX8_unopened_21 rfl ?_
      refine z_ic kc_p1 dX8_unopened_22 ?_
      obtain ⟨v13, M14, c12, h⟩ := z_bi_c h
      refine z_cV (av := [.int (1 : Int32)]) (st := []) lk_X8_268 dX8_unopened_23 (A_X8_fail_107 (d := d + 11) hl c12) rfl rfl en_107 rfl (Nat.le_of_ble_eq_true rfl) rfl z_len rfl rfl ?_
      cases h
      exact z_rI dX8_unopened_26 rfl
    · replace h := (if_neg g11).symm.trans h
      refine z_ic kc_p0 dX8_unopened_27 ?_
      refine z_istore (ls' := [.ref 107, .int x1, .int x2, .int x3, .int x4, .int x5, .int (0 : Int32), .null, .null, .null]) dX8_unopened_28 (by decide) rfl ?_
      refine z_ic kc_p0 dX8_unopened_30 ?_
      refine z_istore (ls' := [.ref 107, .int x1, .int x2, .int x3, .int x4, .int x5, .int (0 : Int32), .int (0 : Int32), .null, .null]) dX8_unopened_31 (by decide) rfl ?_
      refine z_ic kc_p0 dX8_unopened_33 ?_
      refine z_istore (ls' := [.ref 107, .int x1, .int x2, .int x3, .int x4, .int x5, .int (0 : Int32), .int (0 : Int32), .int (0 : Int32), .null]) dX8_unopened_34 (by decide) rfl ?_
      exact A_X8_unopened_107_p36 hl z_fuel x1 x2 x3 x4 x5 (0 : Int32) (0 : Int32) (0 : Int32) _ _ _ h
/-! X8_way 107 -/
def f_X8_way_107 (x1 : Int32) (x2 : Int32) (M : zMM) : Option (Int32 × zMM) :=
  z_bi (f_X8_isTown_107 x1 (z_up M 107 1 (0 : Int32))) fun v2 M3 =>
  if v2 = 0 then
    z_bi (f_X8_fail_107 (1 : Int32) M3) fun v6 M7 =>
    some (v6, M7)
  else
    z_bi (f_X8_isTown_107 x2 M3) fun v9 M10 =>
    if v9 = 0 then
      z_bi (f_X8_fail_107 (1 : Int32) M10) fun v13 M14 =>
      some (v13, M14)
    else
      z_bi (f_X8_hasWay_107 x1 x2 M10) fun v16 M17 =>
      if v16 = 0 then
        some ((-1 : Int32), M17)
      else
        if z_ib (((5 : Int32) * x1) + x2) 25 = true then
          some ((M17 126 (((5 : Int32) * x1) + x2).toNatClampNeg), M17)
        else none
theorem A_X8_way_107 {l : Launch} (hl : l.stackTraces = false) {Ls d : Nat} {Lm : zML} {x1 : Int32} {x2 : Int32} {M M' : zMM} {v : Int32} (h : f_X8_way_107 x1 x2 M = some (v, M')) : z_Ct l mX8_way (d + 2) 0 0 [.ref 107, .int x1, .int x2] (z_L0 Ls, M, Lm) (.inl (some (.int v))) (z_L0 Ls, M', Lm) := by
  replace h : (  z_bi (f_X8_isTown_107 x1 (z_up M 107 1 (0 : Int32))) fun v2 M3 =>
  if v2 = 0 then
    z_bi (f_X8_fail_107 (1 : Int32) M3) fun v6 M7 =>
    some (v6, M7)
  else
    z_bi (f_X8_isTown_107 x2 M3) fun v9 M10 =>
    if v9 = 0 then
      z_bi (f_X8_fail_107 (1 : Int32) M10) fun v13 M14 =>
      some (v13, M14)
    else
      z_bi (f_X8_hasWay_107 x1 x2 M10) fun v16 M17 =>
      if v16 = 0 then
        some ((-1 : Int32), M17)
      else
        if z_ib (((5 : Int32) * x1) + x2) 25 = true then
          some ((M17 126 (((5 : Int32) * x1) + x2).toNatClampNeg), M17)
        else none) = some (v, M') := h
  refine z_Ct.of hl (by decide) (Nat.le_of_ble_eq_true rfl) rfl ?_
  show z_AW l mX8_way (d + 2) 0 0 0 [.ref 107, .int x1, .int x2] [] (z_L0 Ls, M, Lm) (.inl (some (.int v))) (z_L0 Ls, M', Lm)
  refine z_aload_n dX8_way_0 rfl ?_
  refine z_ic kc_p0 dX8_way_1 ?_
  refine z_pI fp_X8_149 dX8_way_2 (by decide) en_107 rfl ?_
  refine z_aload_n dX8_way_5 rfl ?_
  refine z_iload_n dX8_way_6 rfl ?_
  obtain ⟨v2, M3, c1, h⟩ := z_bi_c h
  refine z_cV (av := [.int x1]) (st := []) lk_X8_304 dX8_way_7 (A_X8_isTown_107 (d := d + 0) hl c1) rfl rfl en_107 rfl (Nat.le_of_ble_eq_true rfl) rfl z_len rfl rfl ?_
  refine z_if_eq (tgt := 47) dX8_way_10 rfl (fun g4 => ?_) (fun g4 => ?_)
  · replace h := (if_pos g4).symm.trans h
    refine z_aload_n dX8_way_47 rfl ?_
    refine z_ic kc_p1 dX8_way_48 ?_
    obtain ⟨v6, M7, c5, h⟩ := z_bi_c h
    refine z_cV (av := [.int (1 : Int32)]) (st := []) lk_X8_268 dX8_way_49 (A_X8_fail_107 (d := d + 1) hl c5) rfl rfl en_107 rfl (Nat.le_of_ble_eq_true rfl) rfl z_len rfl rfl ?_
    cases h
    exact z_rI dX8_way_52 rfl
  · replace h := (if_neg g4).symm.trans h
    refine z_aload_n dX8_way_13 rfl ?_
    refine z_iload_n dX8_way_14 rfl ?_
    obtain ⟨v9, M10, c8, h⟩ := z_bi_c h
    refine z_cV (av := [.int x2]) (st := []) lk_X8_304 dX8_way_15 (A_X8_isTown_107 (d := d + 0) hl c8) rfl rfl en_107 rfl (Nat.le_of_ble_eq_true rfl) rfl z_len rfl rfl ?_
    refine z_if_eq (tgt := 47) dX8_way_18 rfl (fun g11 => ?_) (fun g11 => ?_)
    · replace h := (if_pos g11).symm.trans h
      refine z_aload_n dX8_way_47 rfl ?_
      refine z_ic kc_p1 dX8_way_48 ?_
      obtain ⟨v13, M14, c12, h⟩ := z_bi_c h
      refine z_cV (av := [.int (1 : Int32)]) (st := []) lk_X8_268 dX8_way_49 (A_X8_fail_107 (d := d + 1) hl c12) rfl rfl en_107 rfl (Nat.le_of_ble_eq_true rfl) rfl z_len rfl rfl ?_
      cases h
      exact z_rI dX8_way_52 rfl
    · replace h := (if_neg g11).symm.trans h
      refine z_aload_n dX8_way_21 rfl ?_
      refine z_iload_n dX8_way_22 rfl ?_
      refine z_iload_n dX8_way_23 rfl ?_
      obtain ⟨v16, M17, c15, h⟩ := z_bi_c h
      refine z_cV (av := [.int x1, .int x2]) (st := []) lk_X8_320 dX8_way_24 (A_X8_hasWay_107 (d := d + 1) hl c15) rfl rfl en_107 rfl (Nat.le_of_ble_eq_true rfl) rfl z_len rfl rfl ?_
      refine z_if_eq (tgt := 43) dX8_way_27 rfl (fun g18 => ?_) (fun g18 => ?_)
      · replace h := (if_pos g18).symm.trans h
        refine z_ic kc_m1 dX8_way_43 ?_
        refine z_goto (tgt := 52) dX8_way_44 rfl ?_
        cases h
        exact z_rI dX8_way_52 rfl
      · replace h := (if_neg g18).symm.trans h
        refine z_aload_n dX8_way_30 rfl ?_
        refine z_getR (q := 126) fl_X8_79 dX8_way_31 en_107 rfl ?_
        refine z_ic kc_p5 dX8_way_34 ?_
        refine z_iload_n dX8_way_35 rfl ?_
        refine z_imul dX8_way_36 ?_
        refine z_iload_n dX8_way_37 rfl ?_
        refine z_iadd dX8_way_38 ?_
        obtain ⟨g19, h⟩ := z_ifn h
        refine z_al (v := (M17 126 (((5 : Int32) * x1) + x2).toNatClampNeg)) dX8_way_39 en_126 rfl (z_ib_in g19) rfl ?_
        refine z_goto (tgt := 52) dX8_way_40 rfl ?_
        cases h
        exact z_rI dX8_way_52 rfl
