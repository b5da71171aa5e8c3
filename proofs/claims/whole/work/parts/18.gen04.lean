/-! X3_read 79 -/
def f_X3_read_79_p46 : Nat → Int32 → zMM → Option (Int32 × zMM)
  | 0, _, _ => none
  | n + 1, x2, M =>
  if (M 79 2) < x2 then
    some ((M 79 9), M)
  else
    if (M 79 3) = 0 then
      some ((M 79 9), M)
    else
      if (M 79 9) = 0 then
        z_bv (f_X3_readLine_79  M) fun M12 =>
        f_X3_read_79_p46 n (x2 + (1 : Int32)) M12
      else
        some ((M 79 9), M)
def f_X3_read_79 (x1 : Int32) (M : zMM) : Option (Int32 × zMM) :=
  z_bv (f_X5_clear_66  (z_up (z_up (z_up (z_up (z_up M 79 2 (z_min x1 (700 : Int32))) 79 5 (0 : Int32)) 79 9 (0 : Int32)) 79 10 (-1 : Int32)) 79 8 (0 : Int32))) fun M3 =>
  z_bv (f_X3_step_79  M3) fun M6 =>
  f_X3_read_79_p46 z_fuel (0 : Int32) M6
theorem A_X3_read_79_p46 {l : Launch} (hl : l.stackTraces = false) {Ls d : Nat} {Lm : zML} :
    ∀ (n : Nat) (x2 : Int32) (M M' : zMM) (v : Int32) , f_X3_read_79_p46 n x2 M = some (v, M') → z_AW l mX3_read (d + 8) 0 0 46 [.ref 79, .null, .int x2] [] (z_L0 Ls, M, Lm) (.inl (some (.int v))) (z_L0 Ls, M', Lm) := by
  intro n
  induction n with
  | zero => intro x2 M M' v h; cases h
  | succ n ih =>
    intro x2 M M' v h
    replace h : (  if (M 79 2) < x2 then
    some ((M 79 9), M)
  else
    if (M 79 3) = 0 then
      some ((M 79 9), M)
    else
      if (M 79 9) = 0 then
        z_bv (f_X3_readLine_79  M) fun M12 =>
        f_X3_read_79_p46 n (x2 + (1 : Int32)) M12
      else
        some ((M 79 9), M)) = some (v, M') := h
    refine z_iload_n dX3_read_46 rfl ?_
    refine z_aload_n dX3_read_47 rfl ?_
    refine z_gI (v := (M 79 2)) fl_X3_9 dX3_read_48 en_79 rfl rfl ?_
    refine z_icmp_gt (tgt := 78) dX3_read_51 rfl (fun g7 => ?_) (fun g7 => ?_)
    · replace h := (if_pos g7).symm.trans h
      refine z_aload_n dX3_read_78 rfl ?_
      refine z_gI (v := (M 79 9)) fl_X3_34 dX3_read_79 en_79 rfl rfl ?_
      cases h
      exact z_rI dX3_read_82 rfl
    · replace h := (if_neg g7).symm.trans h
      refine z_aload_n dX3_read_54 rfl ?_
      refine z_gI (v := (M 79 3)) fl_X3_15 dX3_read_55 en_79 rfl rfl ?_
      refine z_if_eq (tgt := 78) dX3_read_58 rfl (fun g8 => ?_) (fun g8 => ?_)
      · replace h := (if_pos g8).symm.trans h
        refine z_aload_n dX3_read_78 rfl ?_
        refine z_gI (v := (M 79 9)) fl_X3_34 dX3_read_79 en_79 rfl rfl ?_
        cases h
        exact z_rI dX3_read_82 rfl
      · replace h := (if_neg g8).symm.trans h
        refine z_aload_n dX3_read_61 rfl ?_
        refine z_gI (v := (M 79 9)) fl_X3_34 dX3_read_62 en_79 rfl rfl ?_
        refine z_if_ne (tgt := 78) dX3_read_65 rfl (fun g9 => ?_) (fun g9 => ?_)
        · replace h := (if_pos g9).symm.trans h
          refine z_aload_n dX3_read_68 rfl ?_
          obtain ⟨M12, c10, h⟩ := z_bv_c h
          refine z_cV (av := []) (st := []) lk_X3_62 dX3_read_69 (A_X3_readLine_79 (d := d + 0) hl c10) rfl rfl en_79 rfl (Nat.le_of_ble_eq_true rfl) rfl z_len rfl rfl ?_
          refine z_ii (ls' := [.ref 79, .null, .int (x2 + (1 : Int32))]) kc_p1 dX3_read_72 rfl (by decide) rfl ?_
          refine z_goto (tgt := 46) dX3_read_75 rfl ?_
          exact ih (x2 + (1 : Int32)) _ _ _ h
        · replace h := (if_neg g9).symm.trans h
          refine z_aload_n dX3_read_78 rfl ?_
          refine z_gI (v := (M 79 9)) fl_X3_34 dX3_read_79 en_79 rfl rfl ?_
          cases h
          exact z_rI dX3_read_82 rfl
theorem A_X3_read_79 {l : Launch} (hl : l.stackTraces = false) {Ls d : Nat} {Lm : zML} {x1 : Int32} {M M' : zMM} {v : Int32} (h : f_X3_read_79 x1 M = some (v, M')) : z_Ct l mX3_read (d + 8) 0 0 [.ref 79, .int x1] (z_L0 Ls, M, Lm) (.inl (some (.int v))) (z_L0 Ls, M', Lm) := by
  replace h : (  z_bv (f_X5_clear_66  (z_up (z_up (z_up (z_up (z_up M 79 2 (z_min x1 (700 : Int32))) 79 5 (0 : Int32)) 79 9 (0 : Int32)) 79 10 (-1 : Int32)) 79 8 (0 : Int32))) fun M3 =>
  z_bv (f_X3_step_79  M3) fun M6 =>
  f_X3_read_79_p46 z_fuel (0 : Int32) M6) = some (v, M') := h
  refine z_Ct.of hl (by decide) (Nat.le_of_ble_eq_true rfl) rfl ?_
  show z_AW l mX3_read (d + 8) 0 0 0 [.ref 79, .int x1, .null] [] (z_L0 Ls, M, Lm) (.inl (some (.int v))) (z_L0 Ls, M', Lm)
  refine z_aload_n dX3_read_0 rfl ?_
  refine z_iload_n dX3_read_1 rfl ?_
  refine z_aload_n dX3_read_2 rfl ?_
  refine z_getR (q := 52) fl_X3_40 dX3_read_3 en_79 rfl ?_
  refine z_al9 dX3_read_6 en_52 (by decide) ka_p700 ?_
  refine z_mmin lk_X3_48 dX3_read_7 (Nat.le_of_ble_eq_true rfl) (by omega) ?_
  refine z_pI fp_X3_9 dX3_read_10 (by decide) en_79 rfl ?_
  refine z_aload_n dX3_read_13 rfl ?_
  refine z_ic kc_p0 dX3_read_14 ?_
  refine z_pI fp_X3_21 dX3_read_15 (by decide) en_79 rfl ?_
  refine z_aload_n dX3_read_18 rfl ?_
  refine z_ic kc_p0 dX3_read_19 ?_
  refine z_pI fp_X3_34 dX3_read_20 (by decide) en_79 rfl ?_
  refine z_aload_n dX3_read_23 rfl ?_
  refine z_ic kc_m1 dX3_read_24 ?_
  refine z_pI fp_X3_37 dX3_read_25 (by decide) en_79 rfl ?_
  refine z_aload_n dX3_read_28 rfl ?_
  refine z_ic kc_p0 dX3_read_29 ?_
  refine z_pZ fp_X3_30 dX3_read_30 (by decide) en_79 rfl rfl ?_
  refine z_aload_n dX3_read_33 rfl ?_
  refine z_getR (q := 66) fl_X3_44 dX3_read_34 en_79 rfl ?_
  obtain ⟨M3, c1, h⟩ := z_bv_c h
  refine z_cV (av := []) (st := []) lk_X3_54 dX3_read_37 (A_X5_clear_66 (d := d + 6) hl c1) rfl rfl en_66 rfl (Nat.le_of_ble_eq_true rfl) rfl z_len rfl rfl ?_
  refine z_aload_n dX3_read_40 rfl ?_
  obtain ⟨M6, c4, h⟩ := z_bv_c h
  refine z_cV (av := []) (st := []) lk_X3_59 dX3_read_41 (A_X3_step_79 (d := d + 6) hl c4) rfl rfl en_79 rfl (Nat.le_of_ble_eq_true rfl) rfl z_len rfl rfl ?_
  refine z_ic kc_p0 dX3_read_44 ?_
  refine z_istore_n (ls' := [.ref 79, .int x1, .int (0 : Int32)]) dX3_read_45 (by decide) rfl ?_
  refine z_fg (ls' := [.ref 79, .null, .int (0 : Int32)]) ⟨Or.inr rfl, Or.inl rfl, Or.inr rfl, trivial⟩ ?_
  exact A_X3_read_79_p46 hl z_fuel (0 : Int32) _ _ _ h
/-! X3_faultPlace 79 -/
def f_X3_faultPlace_79  (M : zMM) : Option (Int32 × zMM) :=
  some ((M 79 10), M)
theorem A_X3_faultPlace_79 {l : Launch} (hl : l.stackTraces = false) {Ls d : Nat} {Lm : zML}  {M M' : zMM} {v : Int32} (h : f_X3_faultPlace_79  M = some (v, M')) : z_Ct l mX3_faultPlace (d + 0) 0 0 [.ref 79] (z_L0 Ls, M, Lm) (.inl (some (.int v))) (z_L0 Ls, M', Lm) := by
  replace h : (  some ((M 79 10), M)) = some (v, M') := h
  refine z_Ct.of hl (by decide) (Nat.le_of_ble_eq_true rfl) rfl ?_
  show z_AW l mX3_faultPlace (d + 0) 0 0 0 [.ref 79] [] (z_L0 Ls, M, Lm) (.inl (some (.int v))) (z_L0 Ls, M', Lm)
  refine z_aload_n dX3_faultPlace_0 rfl ?_
  refine z_gI (v := (M 79 10)) fl_X3_37 dX3_faultPlace_1 en_79 rfl rfl ?_
  cases h
  exact z_rI dX3_faultPlace_4 rfl
/-! X5_takeFrom 53 66 -/
def f_X5_takeFrom_53_66  (M : zMM) : Option zMM :=
  z_bv (some (z_cp (z_up (z_up (z_up (z_up (z_up M 53 0 (M 66 0)) 53 6 (M 66 6)) 53 8 (M 66 8)) 53 11 (M 66 11)) 53 16 (M 66 16)) 67 54 5)) fun M2 =>
  z_bv (some (z_cp M2 68 55 5)) fun M4 =>
  z_bv (some (z_cp M4 69 56 5)) fun M6 =>
  z_bv (some (z_cp M6 70 57 5)) fun M8 =>
  z_bv (some (z_cp M8 71 58 25)) fun M10 =>
  z_bv (some (z_cp M10 72 59 5)) fun M12 =>
  z_bv (some (z_cp M12 73 60 10)) fun M14 =>
  z_bv (some (z_cp M14 74 61 10)) fun M16 =>
  z_bv (some (z_cp M16 75 62 4)) fun M18 =>
  z_bv (some (z_cp M18 76 63 4)) fun M20 =>
  z_bv (some (z_cp M20 77 64 16)) fun M22 =>
  z_bv (some (z_cp M22 78 65 400)) fun M24 =>
  some M24
theorem A_X5_takeFrom_53_66 {l : Launch} (hl : l.stackTraces = false) {Ls d : Nat} {Lm : zML}  {M M' : zMM} (h : f_X5_takeFrom_53_66  M = some M') : z_Ct l mX5_takeFrom (d + 2) 0 0 [.ref 53, .ref 66] (z_L0 Ls, M, Lm) (.inl none) (z_L0 Ls, M', Lm) := by
  replace h : (  z_bv (some (z_cp (z_up (z_up (z_up (z_up (z_up M 53 0 (M 66 0)) 53 6 (M 66 6)) 53 8 (M 66 8)) 53 11 (M 66 11)) 53 16 (M 66 16)) 67 54 5)) fun M2 =>
  z_bv (some (z_cp M2 68 55 5)) fun M4 =>
  z_bv (some (z_cp M4 69 56 5)) fun M6 =>
  z_bv (some (z_cp M6 70 57 5)) fun M8 =>
  z_bv (some (z_cp M8 71 58 25)) fun M10 =>
  z_bv (some (z_cp M10 72 59 5)) fun M12 =>
  z_bv (some (z_cp M12 73 60 10)) fun M14 =>
  z_bv (some (z_cp M14 74 61 10)) fun M16 =>
  z_bv (some (z_cp M16 75 62 4)) fun M18 =>
  z_bv (some (z_cp M18 76 63 4)) fun M20 =>
  z_bv (some (z_cp M20 77 64 16)) fun M22 =>
  z_bv (some (z_cp M22 78 65 400)) fun M24 =>
  some M24) = some M' := h
  refine z_Ct.of hl (by decide) (Nat.le_of_ble_eq_true rfl) rfl ?_
  show z_AW l mX5_takeFrom (d + 2) 0 0 0 [.ref 53, .ref 66] [] (z_L0 Ls, M, Lm) (.inl none) (z_L0 Ls, M', Lm)
  refine z_aload_n dX5_takeFrom_0 rfl ?_
  refine z_aload_n dX5_takeFrom_1 rfl ?_
  refine z_gI (v := (M 66 0)) fl_X5_51 dX5_takeFrom_2 en_66 rfl rfl ?_
  refine z_pI fp_X5_51 dX5_takeFrom_5 (by decide) en_53 rfl ?_
  refine z_aload_n dX5_takeFrom_8 rfl ?_
  refine z_aload_n dX5_takeFrom_9 rfl ?_
  refine z_gI (v := (M 66 6)) fl_X5_55 dX5_takeFrom_10 en_66 rfl rfl ?_
  refine z_pI fp_X5_55 dX5_takeFrom_13 (by decide) en_53 rfl ?_
  refine z_aload_n dX5_takeFrom_16 rfl ?_
  refine z_aload_n dX5_takeFrom_17 rfl ?_
  refine z_gI (v := (M 66 8)) fl_X5_58 dX5_takeFrom_18 en_66 rfl rfl ?_
  refine z_pI fp_X5_58 dX5_takeFrom_21 (by decide) en_53 rfl ?_
  refine z_aload_n dX5_takeFrom_24 rfl ?_
  refine z_aload_n dX5_takeFrom_25 rfl ?_
  refine z_gI (v := (M 66 11)) fl_X5_61 dX5_takeFrom_26 en_66 rfl rfl ?_
  refine z_pI fp_X5_61 dX5_takeFrom_29 (by decide) en_53 rfl ?_
  refine z_aload_n dX5_takeFrom_32 rfl ?_
  refine z_aload_n dX5_takeFrom_33 rfl ?_
  refine z_gI (v := (M 66 16)) fl_X5_64 dX5_takeFrom_34 en_66 rfl rfl ?_
  refine z_pI fp_X5_64 dX5_takeFrom_37 (by decide) en_53 rfl ?_
  refine z_aload_n dX5_takeFrom_40 rfl ?_
  refine z_getR (q := 67) fl_X5_9 dX5_takeFrom_41 en_66 rfl ?_
  refine z_aload_n dX5_takeFrom_44 rfl ?_
  refine z_getR (q := 54) fl_X5_9 dX5_takeFrom_45 en_53 rfl ?_
  obtain ⟨M2, c1, h⟩ := z_bv_c h
  refine z_cN (av := [.ref 67, .ref 54]) (st := []) lk_X5_77 dX5_takeFrom_48 (z_Ct.to (A_X7_copy (d := d + 0) hl (by decide) en_67 en_54 (n := 5) (by decide) (by decide) (by decide) (by decide +kernel)) c1) rfl rfl (Nat.le_of_ble_eq_true rfl) rfl z_len rfl rfl ?_
  refine z_aload_n dX5_takeFrom_51 rfl ?_
  refine z_getR (q := 68) fl_X5_15 dX5_takeFrom_52 en_66 rfl ?_
  refine z_aload_n dX5_takeFrom_55 rfl ?_
  refine z_getR (q := 55) fl_X5_15 dX5_takeFrom_56 en_53 rfl ?_
  obtain ⟨M4, c3, h⟩ := z_bv_c h
  refine z_cN (av := [.ref 68, .ref 55]) (st := []) lk_X5_77 dX5_takeFrom_59 (z_Ct.to (A_X7_copy (d := d + 0) hl (by decide) en_68 en_55 (n := 5) (by decide) (by decide) (by decide) (by decide +kernel)) c3) rfl rfl (Nat.le_of_ble_eq_true rfl) rfl z_len rfl rfl ?_
  refine z_aload_n dX5_takeFrom_62 rfl ?_
  refine z_getR (q := 69) fl_X5_18 dX5_takeFrom_63 en_66 rfl ?_
  refine z_aload_n dX5_takeFrom_66 rfl ?_
  refine z_getR (q := 56) fl_X5_18 dX5_takeFrom_67 en_53 rfl ?_
  obtain ⟨M6, c5, h⟩ := z_bv_c h
  refine z_cN (av := [.ref 69, .ref 56]) (st := []) lk_X5_77 dX5_takeFrom_70 (z_Ct.to (A_X7_copy (d := d + 0) hl (by decide) en_69 en_56 (n := 5) (by decide) (by decide) (by decide) (by decide +kernel)) c5) rfl rfl (Nat.le_of_ble_eq_true rfl) rfl z_len rfl rfl ?_
  refine z_aload_n dX5_takeFrom_73 rfl ?_
  refine z_getR (q := 70) fl_X5_21 dX5_takeFrom_74 en_66 rfl ?_
  refine z_aload_n dX5_takeFrom_77 rfl ?_
  refine z_getR (q := 57) fl_X5_21 dX5_takeFrom_78 en_53 rfl ?_
  obtain ⟨M8, c7, h⟩ := z_bv_c h
  refine z_cN (av := [.ref 70, .ref 57]) (st := []) lk_X5_77 dX5_takeFrom_81 (z_Ct.to (A_X7_copy (d := d + 0) hl (by decide) en_70 en_57 (n := 5) (by decide) (by decide) (by decide) (by decide +kernel)) c7) rfl rfl (Nat.le_of_ble_eq_true rfl) rfl z_len rfl rfl ?_
  refine z_aload_n dX5_takeFrom_84 rfl ?_
  refine z_getR (q := 71) fl_X5_24 dX5_takeFrom_85 en_66 rfl ?_
  refine z_aload_n dX5_takeFrom_88 rfl ?_
  refine z_getR (q := 58) fl_X5_24 dX5_takeFrom_89 en_53 rfl ?_
  obtain ⟨M10, c9, h⟩ := z_bv_c h
  refine z_cN (av := [.ref 71, .ref 58]) (st := []) lk_X5_77 dX5_takeFrom_92 (z_Ct.to (A_X7_copy (d := d + 0) hl (by decide) en_71 en_58 (n := 25) (by decide) (by decide) (by decide) (by decide +kernel)) c9) rfl rfl (Nat.le_of_ble_eq_true rfl) rfl z_len rfl rfl ?_
  refine z_aload_n dX5_takeFrom_95 rfl ?_
  refine z_getR (q := 72) fl_X5_27 dX5_takeFrom_96 en_66 rfl ?_
  refine z_aload_n dX5_takeFrom_99 rfl ?_
  refine z_getR (q := 59) fl_X5_27 dX5_takeFrom_100 en_53 rfl ?_
  obtain ⟨M12, c11, h⟩ := z_bv_c h
  refine z_cN (av := [.ref 72, .ref 59]) (st := []) lk_X5_77 dX5_takeFrom_103 (z_Ct.to (A_X7_copy (d := d + 0) hl (by decide) en_72 en_59 (n := 5) (by decide) (by decide) (by decide) (by decide +kernel)) c11) rfl rfl (Nat.le_of_ble_eq_true rfl) rfl z_len rfl rfl ?_
  refine z_aload_n dX5_takeFrom_106 rfl ?_
  refine z_getR (q := 73) fl_X5_30 dX5_takeFrom_107 en_66 rfl ?_
  refine z_aload_n dX5_takeFrom_110 rfl ?_
  refine z_getR (q := 60) fl_X5_30 dX5_takeFrom_111 en_53 rfl ?_
  obtain ⟨M14, c13, h⟩ := z_bv_c h
  refine z_cN (av := [.ref 73, .ref 60]) (st := []) lk_X5_77 dX5_takeFrom_114 (z_Ct.to (A_X7_copy (d := d + 0) hl (by decide) en_73 en_60 (n := 10) (by decide) (by decide) (by decide) (by decide +kernel)) c13) rfl rfl (Nat.le_of_ble_eq_true rfl) rfl z_len rfl rfl ?_
  refine z_aload_n dX5_takeFrom_117 rfl ?_
  refine z_getR (q := 74) fl_X5_33 dX5_takeFrom_118 en_66 rfl ?_
  refine z_aload_n dX5_takeFrom_121 rfl ?_
  refine z_getR (q := 61) fl_X5_33 dX5_takeFrom_122 en_53 rfl ?_
  obtain ⟨M16, c15, h⟩ := z_bv_c h
  refine z_cN (av := [.ref 74, .ref 61]) (st := []) lk_X5_77 dX5_takeFrom_125 (z_Ct.to (A_X7_copy (d := d + 0) hl (by decide) en_74 en_61 (n := 10) (by decide) (by decide) (by decide) (by decide +kernel)) c15) rfl rfl (Nat.le_of_ble_eq_true rfl) rfl z_len rfl rfl ?_
  refine z_aload_n dX5_takeFrom_128 rfl ?_
  refine z_getR (q := 75) fl_X5_36 dX5_takeFrom_129 en_66 rfl ?_
  refine z_aload_n dX5_takeFrom_132 rfl ?_
  refine z_getR (q := 62) fl_X5_36 dX5_takeFrom_133 en_53 rfl ?_
  obtain ⟨M18, c17, h⟩ := z_bv_c h
  refine z_cN (av := [.ref 75, .ref 62]) (st := []) lk_X5_77 dX5_takeFrom_136 (z_Ct.to (A_X7_copy (d := d + 0) hl (by decide) en_75 en_62 (n := 4) (by decide) (by decide) (by decide) (by decide +kernel)) c17) rfl rfl (Nat.le_of_ble_eq_true rfl) rfl z_len rfl rfl ?_
  refine z_aload_n dX5_takeFrom_139 rfl ?_
  refine z_getR (q := 76) fl_X5_39 dX5_takeFrom_140 en_66 rfl ?_
  refine z_aload_n dX5_takeFrom_143 rfl ?_
  refine z_getR (q := 63) fl_X5_39 dX5_takeFrom_144 en_53 rfl ?_
  obtain ⟨M20, c19, h⟩ := z_bv_c h
  refine z_cN (av := [.ref 76, .ref 63]) (st := []) lk_X5_77 dX5_takeFrom_147 (z_Ct.to (A_X7_copy (d := d + 0) hl (by decide) en_76 en_63 (n := 4) (by decide) (by decide) (by decide) (by decide +kernel)) c19) rfl rfl (Nat.le_of_ble_eq_true rfl) rfl z_len rfl rfl ?_
  refine z_aload_n dX5_takeFrom_150 rfl ?_
  refine z_getR (q := 77) fl_X5_42 dX5_takeFrom_151 en_66 rfl ?_
  refine z_aload_n dX5_takeFrom_154 rfl ?_
  refine z_getR (q := 64) fl_X5_42 dX5_takeFrom_155 en_53 rfl ?_
  obtain ⟨M22, c21, h⟩ := z_bv_c h
  refine z_cN (av := [.ref 77, .ref 64]) (st := []) lk_X5_77 dX5_takeFrom_158 (z_Ct.to (A_X7_copy (d := d + 0) hl (by decide) en_77 en_64 (n := 16) (by decide) (by decide) (by decide) (by decide +kernel)) c21) rfl rfl (Nat.le_of_ble_eq_true rfl) rfl z_len rfl rfl ?_
  refine z_aload_n dX5_takeFrom_161 rfl ?_
  refine z_getR (q := 78) fl_X5_45 dX5_takeFrom_162 en_66 rfl ?_
  refine z_aload_n dX5_takeFrom_165 rfl ?_
  refine z_getR (q := 65) fl_X5_45 dX5_takeFrom_166 en_53 rfl ?_
  obtain ⟨M24, c23, h⟩ := z_bv_c h
  refine z_cN (av := [.ref 78, .ref 65]) (st := []) lk_X5_77 dX5_takeFrom_169 (z_Ct.to (A_X7_copy (d := d + 0) hl (by decide) en_78 en_65 (n := 400) (by decide) (by decide) (by decide) (by decide +kernel)) c23) rfl rfl (Nat.le_of_ble_eq_true rfl) rfl z_len rfl rfl ?_
  cases h
  exact z_return dX5_takeFrom_172 rfl
/-! X6_measure 80 -/
def f_X6_measure_80_p56 (K42 : Int32 → zMM → Option zMM) (K49 : Int32 → Int32 → zMM → Option zMM) : Nat → Int32 → Int32 → Int32 → zMM → Option zMM
  | 0, _, _, _, _ => none
  | n + 1, x1, x2, x3, M =>
  if (5 : Int32) ≤ x3 then
    K49 x1 (x2 + (1 : Int32)) M
  else
    z_bi (f_X6_span_80 x2 x1 M) fun v8 M9 =>
    z_bi (f_X6_span_80 x1 x3 M9) fun v11 M12 =>
    z_bi (f_X6_joined v8 v11 M12) fun v14 M15 =>
    z_bi (f_X6_span_80 x2 x3 M15) fun v17 M18 =>
    z_bi (f_X7_isLess v14 v17 M18) fun v20 M21 =>
    if v20 = 0 then
      f_X6_measure_80_p56 K42 K49 n x1 x2 (x3 + (1 : Int32)) M21
    else
      z_bv (some (z_pt M21 81 25 ((x2 * (5 : Int32)) + x3) v14)) fun M24 =>
      f_X6_measure_80_p56 K42 K49 n x1 x2 (x3 + (1 : Int32)) M24
def f_X6_measure_80_p49 (K42 : Int32 → zMM → Option zMM) : Nat → Int32 → Int32 → zMM → Option zMM
  | 0, _, _, _ => none
  | n + 1, x1, x2, M =>
  if (5 : Int32) ≤ x2 then
    K42 (x1 + (1 : Int32)) M
  else
    f_X6_measure_80_p56 K42 (f_X6_measure_80_p49 K42 n) z_fuel x1 x2 (0 : Int32) M
def f_X6_measure_80_p42 : Nat → Int32 → zMM → Option zMM
  | 0, _, _ => none
  | n + 1, x1, M =>
  if (5 : Int32) ≤ x1 then
    some M
  else
    f_X6_measure_80_p49 (f_X6_measure_80_p42 n) z_fuel x1 (0 : Int32) M
def f_X6_measure_80_p16 : Nat → Int32 → zMM → Option zMM
  | 0, _, _ => none
  | n + 1, x1, M =>
  if (5 : Int32) ≤ x1 then
    f_X6_measure_80_p42 z_fuel (0 : Int32) M
  else
    z_bv (some (z_pt M 81 25 ((x1 * (5 : Int32)) + x1) (0 : Int32))) fun M26 =>
    f_X6_measure_80_p16 n (x1 + (1 : Int32)) M26
def f_X6_measure_80  (M : zMM) : Option zMM :=
  z_bv (some (z_cp M 58 81 25)) fun M2 =>
  f_X6_measure_80_p16 z_fuel (0 : Int32) M2
theorem A_X6_measure_80_p56 {l : Launch} (hl : l.stackTraces = false) {Ls d : Nat} {Lm : zML} {K42 : Int32 → zMM → Option zMM} {K49 : Int32 → Int32 → zMM → Option zMM}
    (hK42 : ∀ (x1 : Int32) (M M' : zMM) , K42 x1 M = some M' → z_AW l mX6_measure (d + 2) 0 0 42 [.ref 80, .int x1, .null, .null, .null] [] (z_L0 Ls, M, Lm) (.inl none) (z_L0 Ls, M', Lm))
    (hK49 : ∀ (x1 : Int32) (x2 : Int32) (M M' : zMM) , K49 x1 x2 M = some M' → z_AW l mX6_measure (d + 2) 0 0 49 [.ref 80, .int x1, .int x2, .null, .null] [] (z_L0 Ls, M, Lm) (.inl none) (z_L0 Ls, M', Lm)) :
    ∀ (n : Nat) (x1 : Int32) (x2 : Int32) (x3 : Int32) (M M' : zMM) , f_X6_measure_80_p56 K42 K49 n x1 x2 x3 M = some M' → z_AW l mX6_measure (d + 2) 0 0 56 [.ref 80, .int x1, .int x2, .int x3, .null] [] (z_L0 Ls, M, Lm) (.inl none) (z_L0 Ls, M', Lm) := by
  intro n
  induction n with
  | zero => intro x1 x2 x3 M M' h; cases h
  | succ n ih =>
    intro x1 x2 x3 M M' h
    replace h : (  if (5 : Int32) ≤ x3 then
    K49 x1 (x2 + (1 : Int32)) M
  else
    z_bi (f_X6_span_80 x2 x1 M) fun v8 M9 =>
    z_bi (f_X6_span_80 x1 x3 M9) fun v11 M12 =>
    z_bi (f_X6_joined v8 v11 M12) fun v14 M15 =>
    z_bi (f_X6_span_80 x2 x3 M15) fun v17 M18 =>
    z_bi (f_X7_isLess v14 v17 M18) fun v20 M21 =>
    if v20 = 0 then
      f_X6_measure_80_p56 K42 K49 n x1 x2 (x3 + (1 : Int32)) M21
    else
      z_bv (some (z_pt M21 81 25 ((x2 * (5 : Int32)) + x3) v14)) fun M24 =>
      f_X6_measure_80_p56 K42 K49 n x1 x2 (x3 + (1 : Int32)) M24) = some M' := h
    refine z_iload_n dX6_measure_56 rfl ?_
    refine z_ic kc_p5 dX6_measure_57 ?_
    refine z_icmp_ge (tgt := 112) dX6_measure_58 rfl (fun g6 => ?_) (fun g6 => ?_)
    · replace h := (if_pos g6).symm.trans h
      refine z_ii (ls' := [.ref 80, .int x1, .int (x2 + (1 : Int32)), .int x3, .null]) kc_p1 dX6_measure_112 rfl (by decide) rfl ?_
      refine z_goto (tgt := 49) dX6_measure_115 rfl ?_
      refine z_fg (ls' := [.ref 80, .int x1, .int (x2 + (1 : Int32)), .null, .null]) ⟨Or.inr rfl, Or.inr rfl, Or.inr rfl, Or.inl rfl, Or.inl rfl, trivial⟩ ?_
      exact hK49 x1 (x2 + (1 : Int32)) _ _ h
    · replace h := (if_neg g6).symm.trans h
      refine z_aload_n dX6_measure_61 rfl ?_
      refine z_iload_n dX6_measure_62 rfl ?_
      refine z_iload_n dX6_measure_63 rfl ?_
      obtain ⟨v8, M9, c7, h⟩ := z_bi_c h
      refine z_cV (av := [.int x2, .int x1]) (st := []) lk_X6_41 dX6_measure_64 (A_X6_span_80 (d := d + 0) hl c7) rfl rfl en_80 rfl (Nat.le_of_ble_eq_true rfl) rfl z_len rfl rfl ?_
      refine z_aload_n dX6_measure_67 rfl ?_
      refine z_iload_n dX6_measure_68 rfl ?_
      refine z_iload_n dX6_measure_69 rfl ?_
      obtain ⟨v11, M12, c10, h⟩ := z_bi_c h
      refine z_cV (av := [.int x1, .int x3]) (st := [.int v8]) lk_X6_41 dX6_measure_70 (A_X6_span_80 (d := d + 0) hl c10) rfl rfl en_80 rfl (Nat.le_of_ble_eq_true rfl) rfl z_len rfl rfl ?_
      obtain ⟨v14, M15, c13, h⟩ := z_bi_c h
      refine z_cS (av := [.int v8, .int v11]) (st := []) lk_X6_45 dX6_measure_73 (A_X6_joined (d := d + 1) hl c13) rfl rfl (Nat.le_of_ble_eq_true rfl) rfl z_len rfl rfl ?_
      refine z_istore (ls' := [.ref 80, .int x1, .int x2, .int x3, .int v14]) dX6_measure_76 (by decide) rfl ?_
      refine z_iload dX6_measure_78 rfl ?_
      refine z_aload_n dX6_measure_80 rfl ?_
      refine z_iload_n dX6_measure_81 rfl ?_
      refine z_iload_n dX6_measure_82 rfl ?_
      obtain ⟨v17, M18, c16, h⟩ := z_bi_c h
      refine z_cV (av := [.int x2, .int x3]) (st := [.int v14]) lk_X6_41 dX6_measure_83 (A_X6_span_80 (d := d + 0) hl c16) rfl rfl en_80 rfl (Nat.le_of_ble_eq_true rfl) rfl z_len rfl rfl ?_
      obtain ⟨v20, M21, c19, h⟩ := z_bi_c h
      refine z_cN (av := [.int v14, .int v17]) (st := []) lk_X6_48 dX6_measure_86 (A_X7_isLess (d := d + 1) hl c19) rfl rfl (Nat.le_of_ble_eq_true rfl) rfl z_len rfl rfl ?_
      refine z_if_eq (tgt := 106) dX6_measure_89 rfl (fun g22 => ?_) (fun g22 => ?_)
      · replace h := (if_pos g22).symm.trans h
        refine z_ii (ls' := [.ref 80, .int x1, .int x2, .int (x3 + (1 : Int32)), .int v14]) kc_p1 dX6_measure_106 rfl (by decide) rfl ?_
        refine z_goto (tgt := 56) dX6_measure_109 rfl ?_
        refine z_fg (ls' := [.ref 80, .int x1, .int x2, .int (x3 + (1 : Int32)), .null]) ⟨Or.inr rfl, Or.inr rfl, Or.inr rfl, Or.inr rfl, Or.inl rfl, trivial⟩ ?_
        exact ih x1 x2 (x3 + (1 : Int32)) _ _ h
      · replace h := (if_neg g22).symm.trans h
        refine z_aload_n dX6_measure_92 rfl ?_
        refine z_getR (q := 81) fl_X6_9 dX6_measure_93 en_80 rfl ?_
        refine z_iload_n dX6_measure_96 rfl ?_
        refine z_ic kc_p5 dX6_measure_97 ?_
        refine z_imul dX6_measure_98 ?_
        refine z_iload_n dX6_measure_99 rfl ?_
        refine z_iadd dX6_measure_100 ?_
        refine z_iload dX6_measure_101 rfl ?_
        obtain ⟨M24, c23, h⟩ := z_bv_c h
        refine z_cN (av := [.ref 81, .int ((x2 * (5 : Int32)) + x3), .int v14]) (st := []) lk_X6_37 dX6_measure_103 (z_Ct.to (A_X7_put (d := d + 1) hl (by decide) (by decide) en_81) c23) rfl rfl (Nat.le_of_ble_eq_true rfl) rfl z_len rfl rfl ?_
        refine z_ii (ls' := [.ref 80, .int x1, .int x2, .int (x3 + (1 : Int32)), .int v14]) kc_p1 dX6_measure_106 rfl (by decide) rfl ?_
        refine z_goto (tgt := 56) dX6_measure_109 rfl ?_
        refine z_fg (ls' := [.ref 80, .int x1, .int x2, .int (x3 + (1 : Int32)), .null]) ⟨Or.inr rfl, Or.inr rfl, Or.inr rfl, Or.inr rfl, Or.inl rfl, trivial⟩ ?_
        exact ih x1 x2 (x3 + (1 : Int32)) _ _ h
theorem A_X6_measure_80_p49 {l : Launch} (hl : l.stackTraces = false) {Ls d : Nat} {Lm : zML} {K42 : Int32 → zMM → Option zMM}
    (hK42 : ∀ (x1 : Int32) (M M' : zMM) , K42 x1 M = some M' → z_AW l mX6_measure (d + 2) 0 0 42 [.ref 80, .int x1, .null, .null, .null] [] (z_L0 Ls, M, Lm) (.inl none) (z_L0 Ls, M', Lm)) :
    ∀ (n : Nat) (x1 : Int32) (x2 : Int32) (M M' : zMM) , f_X6_measure_80_p49 K42 n x1 x2 M = some M' → z_AW l mX6_measure (d + 2) 0 0 49 [.ref 80, .int x1, .int x2, .null, .null] [] (z_L0 Ls, M, Lm) (.inl none) (z_L0 Ls, M', Lm) := by
  intro n
  induction n with
  | zero => intro x1 x2 M M' h; cases h
  | succ n ih =>
    intro x1 x2 M M' h
    replace h : (  if (5 : Int32) ≤ x2 then
    K42 (x1 + (1 : Int32)) M
  else
    f_X6_measure_80_p56 K42 (f_X6_measure_80_p49 K42 n) z_fuel x1 x2 (0 : Int32) M) = some M' := h
    refine z_iload_n dX6_measure_49 rfl ?_
    refine z_ic kc_p5 dX6_measure_50 ?_
    refine z_icmp_ge (tgt := 118) dX6_measure_51 rfl (fun g5 => ?_) (fun g5 => ?_)
    · replace h := (if_pos g5).symm.trans h
      refine z_ii (ls' := [.ref 80, .int (x1 + (1 : Int32)), .int x2, .null, .null]) kc_p1 dX6_measure_118 rfl (by decide) rfl ?_
      refine z_goto (tgt := 42) dX6_measure_121 rfl ?_
      refine z_fg (ls' := [.ref 80, .int (x1 + (1 : Int32)), .null, .null, .null]) ⟨Or.inr rfl, Or.inr rfl, Or.inl rfl, Or.inl rfl, Or.inl rfl, trivial⟩ ?_
      exact hK42 (x1 + (1 : Int32)) _ _ h
    · replace h := (if_neg g5).symm.trans h
      refine z_ic kc_p0 dX6_measure_54 ?_
      refine z_istore_n (ls' := [.ref 80, .int x1, .int x2, .int (0 : Int32), .null]) dX6_measure_55 (by decide) rfl ?_
      exact A_X6_measure_80_p56 hl hK42 ih z_fuel x1 x2 (0 : Int32) _ _ h
theorem A_X6_measure_80_p42 {l : Launch} (hl : l.stackTraces = false) {Ls d : Nat} {Lm : zML} :
    ∀ (n : Nat) (x1 : Int32) (M M' : zMM) , f_X6_measure_80_p42 n x1 M = some M' → z_AW l mX6_measure (d + 2) 0 0 42 [.ref 80, .int x1, .null, .null, .null] [] (z_L0 Ls, M, Lm) (.inl none) (z_L0 Ls, M', Lm) := by
  intro n
  induction n with
  | zero => intro x1 M M' h; cases h
  | succ n ih =>
    intro x1 M M' h
    replace h : (  if (5 : Int32) ≤ x1 then
    some M
  else
    f_X6_measure_80_p49 (f_X6_measure_80_p42 n) z_fuel x1 (0 : Int32) M) = some M' := h
    refine z_iload_n dX6_measure_42 rfl ?_
    refine z_ic kc_p5 dX6_measure_43 ?_
    refine z_icmp_ge (tgt := 124) dX6_measure_44 rfl (fun g4 => ?_) (fun g4 => ?_)
    · replace h := (if_pos g4).symm.trans h
      cases h
      exact z_return dX6_measure_124 rfl
    · replace h := (if_neg g4).symm.trans h
      refine z_ic kc_p0 dX6_measure_47 ?_
      refine z_istore_n (ls' := [.ref 80, .int x1, .int (0 : Int32), .null, .null]) dX6_measure_48 (by decide) rfl ?_
      exact A_X6_measure_80_p49 hl ih z_fuel x1 (0 : Int32) _ _ h
theorem A_X6_measure_80_p16 {l : Launch} (hl : l.stackTraces = false) {Ls d : Nat} {Lm : zML} :
    ∀ (n : Nat) (x1 : Int32) (M M' : zMM) , f_X6_measure_80_p16 n x1 M = some M' → z_AW l mX6_measure (d + 2) 0 0 16 [.ref 80, .int x1, .null, .null, .null] [] (z_L0 Ls, M, Lm) (.inl none) (z_L0 Ls, M', Lm) := by
  intro n
  induction n with
  | zero => intro x1 M M' h; cases h
  | succ n ih =>
    intro x1 M M' h
    replace h : (  if (5 : Int32) ≤ x1 then
    f_X6_measure_80_p42 z_fuel (0 : Int32) M
  else
    z_bv (some (z_pt M 81 25 ((x1 * (5 : Int32)) + x1) (0 : Int32))) fun M26 =>
    f_X6_measure_80_p16 n (x1 + (1 : Int32)) M26) = some M' := h
    refine z_iload_n dX6_measure_16 rfl ?_
    refine z_ic kc_p5 dX6_measure_17 ?_
    refine z_icmp_ge (tgt := 40) dX6_measure_18 rfl (fun g3 => ?_) (fun g3 => ?_)
    · replace h := (if_pos g3).symm.trans h
      refine z_ic kc_p0 dX6_measure_40 ?_
      refine z_istore_n (ls' := [.ref 80, .int (0 : Int32), .null, .null, .null]) dX6_measure_41 (by decide) rfl ?_
      exact A_X6_measure_80_p42 hl z_fuel (0 : Int32) _ _ h
    · replace h := (if_neg g3).symm.trans h
      refine z_aload_n dX6_measure_21 rfl ?_
      refine z_getR (q := 81) fl_X6_9 dX6_measure_22 en_80 rfl ?_
      refine z_iload_n dX6_measure_25 rfl ?_
      refine z_ic kc_p5 dX6_measure_26 ?_
      refine z_imul dX6_measure_27 ?_
      refine z_iload_n dX6_measure_28 rfl ?_
      refine z_iadd dX6_measure_29 ?_
      refine z_ic kc_p0 dX6_measure_30 ?_
      obtain ⟨M26, c25, h⟩ := z_bv_c h
      refine z_cN (av := [.ref 81, .int ((x1 * (5 : Int32)) + x1), .int (0 : Int32)]) (st := []) lk_X6_37 dX6_measure_31 (z_Ct.to (A_X7_put (d := d + 1) hl (by decide) (by decide) en_81) c25) rfl rfl (Nat.le_of_ble_eq_true rfl) rfl z_len rfl rfl ?_
      refine z_ii (ls' := [.ref 80, .int (x1 + (1 : Int32)), .null, .null, .null]) kc_p1 dX6_measure_34 rfl (by decide) rfl ?_
      refine z_goto (tgt := 16) dX6_measure_37 rfl ?_
      exact ih (x1 + (1 : Int32)) _ _ h
theorem A_X6_measure_80 {l : Launch} (hl : l.stackTraces = false) {Ls d : Nat} {Lm : zML}  {M M' : zMM} (h : f_X6_measure_80  M = some M') : z_Ct l mX6_measure (d + 2) 0 0 [.ref 80] (z_L0 Ls, M, Lm) (.inl none) (z_L0 Ls, M', Lm) := by
  replace h : (  z_bv (some (z_cp M 58 81 25)) fun M2 =>
  f_X6_measure_80_p16 z_fuel (0 : Int32) M2) = some M' := h
  refine z_Ct.of hl (by decide) (Nat.le_of_ble_eq_true rfl) rfl ?_
  show z_AW l mX6_measure (d + 2) 0 0 0 [.ref 80, .null, .null, .null, .null] [] (z_L0 Ls, M, Lm) (.inl none) (z_L0 Ls, M', Lm)
  refine z_aload_n dX6_measure_0 rfl ?_
  refine z_getR (q := 53) fl_X6_18 dX6_measure_1 en_80 rfl ?_
  refine z_getR (q := 58) fl_X6_28 dX6_measure_4 en_53 rfl ?_
  refine z_aload_n dX6_measure_7 rfl ?_
  refine z_getR (q := 81) fl_X6_9 dX6_measure_8 en_80 rfl ?_
  obtain ⟨M2, c1, h⟩ := z_bv_c h
  refine z_cN (av := [.ref 58, .ref 81]) (st := []) lk_X6_33 dX6_measure_11 (z_Ct.to (A_X7_copy (d := d + 0) hl (by decide) en_58 en_81 (n := 25) (by decide) (by decide) (by decide) (by decide +kernel)) c1) rfl rfl (Nat.le_of_ble_eq_true rfl) rfl z_len rfl rfl ?_
  refine z_ic kc_p0 dX6_measure_14 ?_
  refine z_istore_n (ls' := [.ref 80, .int (0 : Int32), .null, .null, .null]) dX6_measure_15 (by decide) rfl ?_
  exact A_X6_measure_80_p16 hl z_fuel (0 : Int32) _ _ h
/-! X2_clear 83 -/
def f_X2_clear_83  (M : zMM) : Option zMM :=
  z_bv (some (z_fl M 84 0 640 (-2 : Int32))) fun M2 =>
  some M2
theorem A_X2_clear_83 {l : Launch} (hl : l.stackTraces = false) {Ls d : Nat} {Lm : zML}  {M M' : zMM} (h : f_X2_clear_83  M = some M') : z_Ct l mX2_clear (d + 1) 0 0 [.ref 83] (z_L0 Ls, M, Lm) (.inl none) (z_L0 Ls, M', Lm) := by
  replace h : (  z_bv (some (z_fl M 84 0 640 (-2 : Int32))) fun M2 =>
  some M2) = some M' := h
  refine z_Ct.of hl (by decide) (Nat.le_of_ble_eq_true rfl) rfl ?_
  show z_AW l mX2_clear (d + 1) 0 0 0 [.ref 83] [] (z_L0 Ls, M, Lm) (.inl none) (z_L0 Ls, M', Lm)
  refine z_aload_n dX2_clear_0 rfl ?_
  refine z_getR (q := 84) fl_X2_9 dX2_clear_1 en_83 rfl ?_
  refine z_bp kb_m2 dX2_clear_4 ?_
  obtain ⟨M2, c1, h⟩ := z_bv_c h
  refine z_cS (av := [.ref 84, .int (-2 : Int32)]) (st := []) lk_X2_28 dX2_clear_6 (z_Ct.to (A_J7_fill_53178 (d := d + 0) hl (by decide) (by decide) en_84) c1) rfl rfl (Nat.le_of_ble_eq_true rfl) rfl z_len rfl rfl ?_
  cases h
  exact z_return dX2_clear_9 rfl
/-! X4_begin 87 53 -/
def f_X4_begin_87_53_p2 : Nat → Int32 → zMM → Option zMM
  | 0, _, _ => none
  | n + 1, x2, M =>
  if (5 : Int32) ≤ x2 then
    some (z_up (z_up (z_up (z_up M 87 2 (0 : Int32)) 87 3 (0 : Int32)) 87 4 (0 : Int32)) 87 5 (0 : Int32))
  else
    if (M 53 6) ≤ x2 then
      z_bv (f_X4_place_87 x2 (-1 : Int32) (0 : Int32) M) fun M5 =>
      f_X4_begin_87_53_p2 n (x2 + (1 : Int32)) M5
    else
      z_bv (f_X4_place_87 x2 (z_at M 59 5 x2) (0 : Int32) M) fun M8 =>
      f_X4_begin_87_53_p2 n (x2 + (1 : Int32)) M8
def f_X4_begin_87_53  (M : zMM) : Option zMM :=
  f_X4_begin_87_53_p2 z_fuel (0 : Int32) M
theorem A_X4_begin_87_53_p2 {l : Launch} (hl : l.stackTraces = false) {Ls d : Nat} {Lm : zML} :
    ∀ (n : Nat) (x2 : Int32) (M M' : zMM) , f_X4_begin_87_53_p2 n x2 M = some M' → z_AW l mX4_begin (d + 2) 0 0 2 [.ref 87, .ref 53, .int x2] [] (z_L0 Ls, M, Lm) (.inl none) (z_L0 Ls, M', Lm) := by
  intro n
  induction n with
  | zero => intro x2 M M' h; cases h
  | succ n ih =>
    intro x2 M M' h
    replace h : (  if (5 : Int32) ≤ x2 then
    some (z_up (z_up (z_up (z_up M 87 2 (0 : Int32)) 87 3 (0 : Int32)) 87 4 (0 : Int32)) 87 5 (0 : Int32))
  else
    if (M 53 6) ≤ x2 then
      z_bv (f_X4_place_87 x2 (-1 : Int32) (0 : Int32) M) fun M5 =>
      f_X4_begin_87_53_p2 n (x2 + (1 : Int32)) M5
    else
      z_bv (f_X4_place_87 x2 (z_at M 59 5 x2) (0 : Int32) M) fun M8 =>
      f_X4_begin_87_53_p2 n (x2 + (1 : Int32)) M8) = some M' := h
    refine z_iload_n dX4_begin_2 rfl ?_
    refine z_ic kc_p5 dX4_begin_3 ?_
    refine z_icmp_ge (tgt := 39) dX4_begin_4 rfl (fun g1 => ?_) (fun g1 => ?_)
    · replace h := (if_pos g1).symm.trans h
      refine z_aload_n dX4_begin_39 rfl ?_
      refine z_ic kc_p0 dX4_begin_40 ?_
      refine z_pI fp_X4_18 dX4_begin_41 (by decide) en_87 rfl ?_
      refine z_aload_n dX4_begin_44 rfl ?_
      refine z_ic kc_p0 dX4_begin_45 ?_
      refine z_pZ fp_X4_22 dX4_begin_46 (by decide) en_87 rfl rfl ?_
      refine z_aload_n dX4_begin_49 rfl ?_
      refine z_ic kc_p0 dX4_begin_50 ?_
      refine z_pI fp_X4_26 dX4_begin_51 (by decide) en_87 rfl ?_
      refine z_aload_n dX4_begin_54 rfl ?_
      refine z_ic kc_p0 dX4_begin_55 ?_
      refine z_pI fp_X4_29 dX4_begin_56 (by decide) en_87 rfl ?_
      cases h
      exact z_return dX4_begin_59 rfl
    · replace h := (if_neg g1).symm.trans h
      refine z_aload_n dX4_begin_7 rfl ?_
      refine z_iload_n dX4_begin_8 rfl ?_
      refine z_iload_n dX4_begin_9 rfl ?_
      refine z_aload_n dX4_begin_10 rfl ?_
      refine z_gI (v := (M 53 6)) fl_X4_50 dX4_begin_11 en_53 rfl rfl ?_
      refine z_icmp_ge (tgt := 28) dX4_begin_14 rfl (fun g2 => ?_) (fun g2 => ?_)
      · replace h := (if_pos g2).symm.trans h
        refine z_ic kc_m1 dX4_begin_28 ?_
        refine z_ic kc_p0 dX4_begin_29 ?_
        obtain ⟨M5, c3, h⟩ := z_bv_c h
        refine z_cV (av := [.int x2, .int (-1 : Int32), .int (0 : Int32)]) (st := []) lk_X4_62 dX4_begin_30 (A_X4_place_87 (d := d + 0) hl c3) rfl rfl en_87 rfl (Nat.le_of_ble_eq_true rfl) rfl z_len rfl rfl ?_
        refine z_ii (ls' := [.ref 87, .ref 53, .int (x2 + (1 : Int32))]) kc_p1 dX4_begin_33 rfl (by decide) rfl ?_
        refine z_goto (tgt := 2) dX4_begin_36 rfl ?_
        exact ih (x2 + (1 : Int32)) _ _ h
      · replace h := (if_neg g2).symm.trans h
        refine z_aload_n dX4_begin_17 rfl ?_
        refine z_getR (q := 59) fl_X4_55 dX4_begin_18 en_53 rfl ?_
        refine z_iload_n dX4_begin_21 rfl ?_
        refine z_cN (av := [.ref 59, .int x2]) (st := [.int x2, .ref 87]) (v := some (.int (z_at M 59 5 x2))) lk_X4_58 dX4_begin_22 (A_X7_at (d := d + 1) hl (by decide) en_59) rfl rfl (Nat.le_of_ble_eq_true rfl) rfl z_len rfl rfl ?_
        refine z_goto (tgt := 29) dX4_begin_25 rfl ?_
        refine z_ic kc_p0 dX4_begin_29 ?_
        obtain ⟨M8, c6, h⟩ := z_bv_c h
        refine z_cV (av := [.int x2, .int (z_at M 59 5 x2), .int (0 : Int32)]) (st := []) lk_X4_62 dX4_begin_30 (A_X4_place_87 (d := d + 0) hl c6) rfl rfl en_87 rfl (Nat.le_of_ble_eq_true rfl) rfl z_len rfl rfl ?_
        refine z_ii (ls' := [.ref 87, .ref 53, .int (x2 + (1 : Int32))]) kc_p1 dX4_begin_33 rfl (by decide) rfl ?_
        refine z_goto (tgt := 2) dX4_begin_36 rfl ?_
        exact ih (x2 + (1 : Int32)) _ _ h
theorem A_X4_begin_87_53 {l : Launch} (hl : l.stackTraces = false) {Ls d : Nat} {Lm : zML}  {M M' : zMM} (h : f_X4_begin_87_53  M = some M') : z_Ct l mX4_begin (d + 2) 0 0 [.ref 87, .ref 53] (z_L0 Ls, M, Lm) (.inl none) (z_L0 Ls, M', Lm) := by
  replace h : (  f_X4_begin_87_53_p2 z_fuel (0 : Int32) M) = some M' := h
  refine z_Ct.of hl (by decide) (Nat.le_of_ble_eq_true rfl) rfl ?_
  show z_AW l mX4_begin (d + 2) 0 0 0 [.ref 87, .ref 53, .null] [] (z_L0 Ls, M, Lm) (.inl none) (z_L0 Ls, M', Lm)
  refine z_ic kc_p0 dX4_begin_0 ?_
  refine z_istore_n (ls' := [.ref 87, .ref 53, .int (0 : Int32)]) dX4_begin_1 (by decide) rfl ?_
  exact A_X4_begin_87_53_p2 hl z_fuel (0 : Int32) _ _ h
/-! X1_drop 103 -/
def f_X1_drop_103  (M : zMM) : Option zMM :=
  some (z_up M 103 7 (0 : Int32))
theorem A_X1_drop_103 {l : Launch} (hl : l.stackTraces = false) {Ls d : Nat} {Lm : zML}  {M M' : zMM} (h : f_X1_drop_103  M = some M') : z_Ct l mX1_drop (d + 0) 0 0 [.ref 103] (z_L0 Ls, M, Lm) (.inl none) (z_L0 Ls, M', Lm) := by
  replace h : (  some (z_up M 103 7 (0 : Int32))) = some M' := h
  refine z_Ct.of hl (by decide) (Nat.le_of_ble_eq_true rfl) rfl ?_
  show z_AW l mX1_drop (d + 0) 0 0 0 [.ref 103] [] (z_L0 Ls, M, Lm) (.inl none) (z_L0 Ls, M', Lm)
  refine z_aload_n dX1_drop_0 rfl ?_
  refine z_ic kc_p0 dX1_drop_1 ?_
  refine z_pZ fp_X1_21 dX1_drop_2 (by decide) en_103 rfl rfl ?_
  cases h
  exact z_return dX1_drop_5 rfl
/-! X7_told 51 -/
def f_X7_told_51 (x1 : Int32) (M : zMM) : Option ((Int32 ⊕ Nat) × zMM) :=
  if x1 < 0 then
    some (.inr 1, M)
  else
    if x1 ≤ (M 51 1) then
      z_bi (f_X3_read_79 x1 M) fun v4 M5 =>
      z_bi (f_X3_faultPlace_79  (z_up M5 51 1 (0 : Int32))) fun v7 M8 =>
      if v4 = 0 then
        z_bv (f_X5_takeFrom_53_66  (z_up M8 51 2 v7)) fun M12 =>
        z_bv (f_X6_measure_80  M12) fun M15 =>
        z_bv (f_X2_clear_83  M15) fun M18 =>
        z_bv (f_X4_begin_87_53  M18) fun M21 =>
        z_bv (f_X0_clear_101  M21) fun M24 =>
        z_bv (f_X1_drop_103  M24) fun M27 =>
        some (.inl (0 : Int32), (z_up M27 51 10 (0 : Int32)))
      else
        z_bv (f_X4_refuse_87 (0 : Int32) (z_up M8 51 2 v7)) fun M30 =>
        some (.inl v4, M30)
    else
      some (.inr 1, M)
theorem A_X7_told_51 {l : Launch} (hl : l.stackTraces = false) {Ls d : Nat} {Lm : zML} {x1 : Int32} {M M' : zMM} {v : Int32 ⊕ Nat} (h : f_X7_told_51 x1 M = some (v, M')) : z_Ct l mX7_told (d + 9) (z_bo v) (6 * z_bo v) [.ref 51, .int x1] (z_L0 Ls, M, Lm) (z_oi v) (z_L0 Ls, M', Lm) := by
  replace h : (  if x1 < 0 then
    some (.inr 1, M)
  else
    if x1 ≤ (M 51 1) then
      z_bi (f_X3_read_79 x1 M) fun v4 M5 =>
      z_bi (f_X3_faultPlace_79  (z_up M5 51 1 (0 : Int32))) fun v7 M8 =>
      if v4 = 0 then
        z_bv (f_X5_takeFrom_53_66  (z_up M8 51 2 v7)) fun M12 =>
        z_bv (f_X6_measure_80  M12) fun M15 =>
        z_bv (f_X2_clear_83  M15) fun M18 =>
        z_bv (f_X4_begin_87_53  M18) fun M21 =>
        z_bv (f_X0_clear_101  M21) fun M24 =>
        z_bv (f_X1_drop_103  M24) fun M27 =>
        some (.inl (0 : Int32), (z_up M27 51 10 (0 : Int32)))
      else
        z_bv (f_X4_refuse_87 (0 : Int32) (z_up M8 51 2 v7)) fun M30 =>
        some (.inl v4, M30)
    else
      some (.inr 1, M)) = some (v, M') := h
  refine z_Ct.of hl (by decide) (Nat.le_of_ble_eq_true rfl) rfl ?_
  show z_AW l mX7_told (d + 9) (z_bo v) (6 * z_bo v) 0 [.ref 51, .int x1, .null] [] (z_L0 Ls, M, Lm) (z_oi v) (z_L0 Ls, M', Lm)
  refine z_iload_n dX7_told_0 rfl ?_
  refine z_if_lt (tgt := 12) dX7_told_1 rfl (fun g1 => ?_) (fun g1 => ?_)
  · replace h := (if_pos g1).symm.trans h
    cases h
    exact z_throw (text := "the tape has not so many bytes") z_tpI (by decide +kernel) rfl (by omega) (Nat.le_of_ble_eq_true rfl) (Nat.le_refl _) (Nat.le_refl _) dX7_told_12 dX7_told_15 dX7_told_16 dX7_told_18 dX7_told_21
  · replace h := (if_neg g1).symm.trans h
    refine z_iload_n dX7_told_4 rfl ?_
    refine z_aload_n dX7_told_5 rfl ?_
    refine z_gI (v := (M 51 1)) fl_X7_13 dX7_told_6 en_51 rfl rfl ?_
    refine z_icmp_le (tgt := 22) dX7_told_9 rfl (fun g2 => ?_) (fun g2 => ?_)
    · replace h := (if_pos g2).symm.trans h
      refine z_aload_n dX7_told_22 rfl ?_
      refine z_getR (q := 79) fl_X7_35 dX7_told_23 en_51 rfl ?_
      refine z_iload_n dX7_told_26 rfl ?_
      obtain ⟨v4, M5, c3, h⟩ := z_bi_c h
      refine z_cV (av := [.int x1]) (st := []) lk_X7_96 dX7_told_27 (A_X3_read_79 (d := d + 0) hl c3) rfl rfl en_79 rfl (Nat.le_of_ble_eq_true rfl) rfl z_len rfl rfl ?_
      refine z_istore_n (ls' := [.ref 51, .int x1, .int v4]) dX7_told_30 (by decide) rfl ?_
      refine z_aload_n dX7_told_31 rfl ?_
      refine z_ic kc_p0 dX7_told_32 ?_
      refine z_pI fp_X7_13 dX7_told_33 (by decide) en_51 rfl ?_
      refine z_aload_n dX7_told_36 rfl ?_
      refine z_aload_n dX7_told_37 rfl ?_
      refine z_getR (q := 79) fl_X7_35 dX7_told_38 en_51 rfl ?_
      obtain ⟨v7, M8, c6, h⟩ := z_bi_c h
      refine z_cV (av := []) (st := [.ref 51]) lk_X7_100 dX7_told_41 (A_X3_faultPlace_79 (d := d + 8) hl c6) rfl rfl en_79 rfl (Nat.le_of_ble_eq_true rfl) rfl z_len rfl rfl ?_
      refine z_pI fp_X7_17 dX7_told_44 (by decide) en_51 rfl ?_
      refine z_iload_n dX7_told_47 rfl ?_
      refine z_if_eq (tgt := 61) dX7_told_48 rfl (fun g9 => ?_) (fun g9 => ?_)
      · replace h := (if_pos g9).symm.trans h
        refine z_aload_n dX7_told_61 rfl ?_
        refine z_getR (q := 53) fl_X7_23 dX7_told_62 en_51 rfl ?_
        refine z_aload_n dX7_told_65 rfl ?_
        refine z_getR (q := 66) fl_X7_27 dX7_told_66 en_51 rfl ?_
        obtain ⟨M12, c10, h⟩ := z_bv_c h
        refine z_cV (av := [.ref 66]) (st := []) lk_X7_106 dX7_told_69 (A_X5_takeFrom_53_66 (d := d + 6) hl c10) rfl rfl en_53 rfl (Nat.le_of_ble_eq_true rfl) rfl z_len rfl rfl ?_
        refine z_aload_n dX7_told_72 rfl ?_
        refine z_getR (q := 80) fl_X7_44 dX7_told_73 en_51 rfl ?_
        obtain ⟨M15, c13, h⟩ := z_bv_c h
        refine z_cV (av := []) (st := []) lk_X7_109 dX7_told_76 (A_X6_measure_80 (d := d + 6) hl c13) rfl rfl en_80 rfl (Nat.le_of_ble_eq_true rfl) rfl z_len rfl rfl ?_
        refine z_aload_n dX7_told_79 rfl ?_
        refine z_getR (q := 83) fl_X7_51 dX7_told_80 en_51 rfl ?_
        obtain ⟨M18, c16, h⟩ := z_bv_c h
        refine z_cV (av := []) (st := []) lk_X7_112 dX7_told_83 (A_X2_clear_83 (d := d + 7) hl c16) rfl rfl en_83 rfl (Nat.le_of_ble_eq_true rfl) rfl z_len rfl rfl ?_
        refine z_aload_n dX7_told_86 rfl ?_
        refine z_getR (q := 87) fl_X7_58 dX7_told_87 en_51 rfl ?_
        refine z_aload_n dX7_told_90 rfl ?_
        refine z_getR (q := 53) fl_X7_23 dX7_told_91 en_51 rfl ?_
        obtain ⟨M21, c19, h⟩ := z_bv_c h
        refine z_cV (av := [.ref 53]) (st := []) lk_X7_115 dX7_told_94 (A_X4_begin_87_53 (d := d + 6) hl c19) rfl rfl en_87 rfl (Nat.le_of_ble_eq_true rfl) rfl z_len rfl rfl ?_
        refine z_aload_n dX7_told_97 rfl ?_
        refine z_getR (q := 101) fl_X7_72 dX7_told_98 en_51 rfl ?_
        obtain ⟨M24, c22, h⟩ := z_bv_c h
        refine z_cV (av := []) (st := []) lk_X7_118 dX7_told_101 (A_X0_clear_101 (d := d + 8) hl c22) rfl rfl en_101 rfl (Nat.le_of_ble_eq_true rfl) rfl z_len rfl rfl ?_
        refine z_aload_n dX7_told_104 rfl ?_
        refine z_getR (q := 103) fl_X7_81 dX7_told_105 en_51 rfl ?_
        obtain ⟨M27, c25, h⟩ := z_bv_c h
        refine z_cV (av := []) (st := []) lk_X7_119 dX7_told_108 (A_X1_drop_103 (d := d + 8) hl c25) rfl rfl en_103 rfl (Nat.le_of_ble_eq_true rfl) rfl z_len rfl rfl ?_
        refine z_aload_n dX7_told_111 rfl ?_
        refine z_ic kc_p0 dX7_told_112 ?_
        refine z_pZ fp_X7_65 dX7_told_113 (by decide) en_51 rfl rfl ?_
        refine z_ic kc_p0 dX7_told_116 ?_
        cases h
        exact z_rI dX7_told_117 rfl
      · replace h := (if_neg g9).symm.trans h
        refine z_aload_n dX7_told_51 rfl ?_
        refine z_getR (q := 87) fl_X7_58 dX7_told_52 en_51 rfl ?_
        refine z_ic kc_p0 dX7_told_55 ?_
        obtain ⟨M30, c28, h⟩ := z_bv_c h
        refine z_cV (av := [.int (0 : Int32)]) (st := []) lk_X7_103 dX7_told_56 (A_X4_refuse_87 (d := d + 7) hl c28) rfl rfl en_87 rfl (Nat.le_of_ble_eq_true rfl) rfl z_len rfl rfl ?_
        refine z_iload_n dX7_told_59 rfl ?_
        cases h
        exact z_rI dX7_told_60 rfl
    · replace h := (if_neg g2).symm.trans h
      cases h
      exact z_throw (text := "the tape has not so many bytes") z_tpI (by decide +kernel) rfl (by omega) (Nat.le_of_ble_eq_true rfl) (Nat.le_refl _) (Nat.le_refl _) dX7_told_12 dX7_told_15 dX7_told_16 dX7_told_18 dX7_told_21
/-! X7_tonight 51 -/
def f_X7_tonight_51_p27 : Nat → Int32 → Int32 → Int32 → Int32 → Int32 → Int32 → zMM → Option ((Int32 ⊕ Nat) × zMM)
  | 0, _, _, _, _, _, _, _ => none
  | n + 1, x1, x2, x3, x4, x5, x6, M =>
  if (M 53 11) ≤ x6 then
    if x2 = 0 then
      some (.inl x3, M)
    else
      some (.inl x4, M)
  else
    if (M 53 16) < (z_at M 62 4 x6) then
      f_X7_tonight_51_p27 n x1 x2 x3 x4 x5 (x6 + (1 : Int32)) M
    else
      z_bi (f_X2_byTrunks_83 x6 x1 x5 M) fun v16 M17 =>
      z_bi (f_X7_isLess v16 x4 M17) fun v19 M20 =>
      if v19 = 0 then
        f_X7_tonight_51_p27 n x1 x2 x3 x4 x5 (x6 + (1 : Int32)) M20
      else
        f_X7_tonight_51_p27 n x1 x2 x6 v16 x5 (x6 + (1 : Int32)) M20
def f_X7_tonight_51 (x1 : Int32) (x2 : Int32) (M : zMM) : Option ((Int32 ⊕ Nat) × zMM) :=
  z_bt (f_X7_checkTown_51 x1 M) fun v2 M3 =>
    z_bt (f_X7_checkPair x2 M3) fun v6 M7 =>
      z_bi (f_X4_trunksIn_87 x1 M7) fun v10 M11 =>
      f_X7_tonight_51_p27 z_fuel x1 x2 (-1 : Int32) (-1 : Int32) v10 (0 : Int32) M11
theorem A_X7_tonight_51_p27 {l : Launch} (hl : l.stackTraces = false) {Ls d : Nat} {Lm : zML} :
    ∀ (n : Nat) (x1 : Int32) (x2 : Int32) (x3 : Int32) (x4 : Int32) (x5 : Int32) (x6 : Int32) (M M' : zMM) (v : Int32 ⊕ Nat) , f_X7_tonight_51_p27 n x1 x2 x3 x4 x5 x6 M = some (v, M') → z_AW l mX7_tonight (d + 7) (z_bo v) (6 * z_bo v) 27 [.ref 51, .int x1, .int x2, .int x3, .int x4, .int x5, .int x6, .null] [] (z_L0 Ls, M, Lm) (z_oi v) (z_L0 Ls, M', Lm) := by
  intro n
  induction n with
  | zero => intro x1 x2 x3 x4 x5 x6 M M' v h; cases h
  | succ n ih =>
    intro x1 x2 x3 x4 x5 x6 M M' v h
    replace h : (  if (M 53 11) ≤ x6 then
    if x2 = 0 then
      some (.inl x3, M)
    else
      some (.inl x4, M)
  else
    if (M 53 16) < (z_at M 62 4 x6) then
      f_X7_tonight_51_p27 n x1 x2 x3 x4 x5 (x6 + (1 : Int32)) M
    else
      z_bi (f_X2_byTrunks_83 x6 x1 x5 M) fun v16 M17 =>
      z_bi (f_X7_isLess v16 x4 M17) fun v19 M20 =>
      if v19 = 0 then
        f_X7_tonight_51_p27 n x1 x2 x3 x4 x5 (x6 + (1 : Int32)) M20
      else
        f_X7_tonight_51_p27 n x1 x2 x6 v16 x5 (x6 + (1 : Int32)) M20) = some (v, M') := h
    refine z_iload dX7_tonight_27 rfl ?_
    refine z_aload_n dX7_tonight_29 rfl ?_
    refine z_getR (q := 53) fl_X7_23 dX7_tonight_30 en_51 rfl ?_
    refine z_gI (v := (M 53 11)) fl_X7_131 dX7_tonight_33 en_53 rfl rfl ?_
    refine z_icmp_ge (tgt := 98) dX7_tonight_36 rfl (fun g12 => ?_) (fun g12 => ?_)
    · replace h := (if_pos g12).symm.trans h
      refine z_iload_n dX7_tonight_98 rfl ?_
      refine z_if_ne (tgt := 106) dX7_tonight_99 rfl (fun g13 => ?_) (fun g13 => ?_)
      · replace h := (if_pos g13).symm.trans h
        refine z_iload_n dX7_tonight_102 rfl ?_
        refine z_goto (tgt := 108) dX7_tonight_103 rfl ?_
        cases h
        exact z_rI dX7_tonight_108 rfl
      · replace h := (if_neg g13).symm.trans h
        refine z_iload dX7_tonight_106 rfl ?_
        cases h
        exact z_rI dX7_tonight_108 rfl
    · replace h := (if_neg g12).symm.trans h
      refine z_aload_n dX7_tonight_39 rfl ?_
      refine z_getR (q := 53) fl_X7_23 dX7_tonight_40 en_51 rfl ?_
      refine z_getR (q := 62) fl_X7_223 dX7_tonight_43 en_53 rfl ?_
      refine z_iload dX7_tonight_46 rfl ?_
      refine z_cS (av := [.ref 62, .int x6]) (st := []) (v := some (.int (z_at M 62 4 x6))) lk_X7_153 dX7_tonight_48 (A_X7_at (d := d + 6) hl (by decide) en_62) rfl rfl (Nat.le_of_ble_eq_true rfl) rfl z_len rfl rfl ?_
      refine z_aload_n dX7_tonight_51 rfl ?_
      refine z_getR (q := 53) fl_X7_23 dX7_tonight_52 en_51 rfl ?_
      refine z_gI (v := (M 53 16)) fl_X7_134 dX7_tonight_55 en_53 rfl rfl ?_
      refine z_icmp_gt (tgt := 92) dX7_tonight_58 rfl (fun g14 => ?_) (fun g14 => ?_)
      · replace h := (if_pos g14).symm.trans h
        refine z_ii (ls' := [.ref 51, .int x1, .int x2, .int x3, .int x4, .int x5, .int (x6 + (1 : Int32)), .null]) kc_p1 dX7_tonight_92 rfl (by decide) rfl ?_
        refine z_goto (tgt := 27) dX7_tonight_95 rfl ?_
        exact ih x1 x2 x3 x4 x5 (x6 + (1 : Int32)) _ _ _ h
      · replace h := (if_neg g14).symm.trans h
        refine z_aload_n dX7_tonight_61 rfl ?_
        refine z_getR (q := 83) fl_X7_51 dX7_tonight_62 en_51 rfl ?_
        refine z_iload dX7_tonight_65 rfl ?_
        refine z_iload_n dX7_tonight_67 rfl ?_
        refine z_iload dX7_tonight_68 rfl ?_
        obtain ⟨v16, M17, c15, h⟩ := z_bi_c h
        refine z_cV (av := [.int x6, .int x1, .int x5]) (st := []) lk_X7_226 dX7_tonight_70 (A_X2_byTrunks_83 (d := d + 2) hl c15) rfl rfl en_83 rfl (Nat.le_of_ble_eq_true rfl) rfl z_len rfl rfl ?_
        refine z_istore (ls' := [.ref 51, .int x1, .int x2, .int x3, .int x4, .int x5, .int x6, .int v16]) dX7_tonight_73 (by decide) rfl ?_
        refine z_iload dX7_tonight_75 rfl ?_
        refine z_iload dX7_tonight_77 rfl ?_
        obtain ⟨v19, M20, c18, h⟩ := z_bi_c h
        refine z_cS (av := [.int v16, .int x4]) (st := []) lk_X7_230 dX7_tonight_79 (A_X7_isLess (d := d + 6) hl c18) rfl rfl (Nat.le_of_ble_eq_true rfl) rfl z_len rfl rfl ?_
        refine z_if_eq (tgt := 92) dX7_tonight_82 rfl (fun g21 => ?_) (fun g21 => ?_)
        · replace h := (if_pos g21).symm.trans h
          refine z_ii (ls' := [.ref 51, .int x1, .int x2, .int x3, .int x4, .int x5, .int (x6 + (1 : Int32)), .int v16]) kc_p1 dX7_tonight_92 rfl (by decide) rfl ?_
          refine z_goto (tgt := 27) dX7_tonight_95 rfl ?_
          refine z_fg (ls' := [.ref 51, .int x1, .int x2, .int x3, .int x4, .int x5, .int (x6 + (1 : Int32)), .null]) ⟨Or.inr rfl, Or.inr rfl, Or.inr rfl, Or.inr rfl, Or.inr rfl, Or.inr rfl, Or.inr rfl, Or.inl rfl, trivial⟩ ?_
          exact ih x1 x2 x3 x4 x5 (x6 + (1 : Int32)) _ _ _ h
        · replace h := (if_neg g21).symm.trans h
          refine z_iload dX7_tonight_85 rfl ?_
          refine z_istore (ls' := [.ref 51, .int x1, .int x2, .int x3, .int v16, .int x5, .int x6, .int v16]) dX7_tonight_87 (by decide) rfl ?_
          refine z_iload dX7_tonight_89 rfl ?_
          refine z_istore_n (ls' := [.ref 51, .int x1, .int x2, .int x6, .int v16, .int x5, .int x6, .int v16]) dX7_tonight_91 (by decide) rfl ?_
          refine z_ii (ls' := [.ref 51, .int x1, .int x2, .int x6, .int v16, .int x5, .int (x6 + (1 : Int32)), .int v16]) kc_p1 dX7_tonight_92 rfl (by decide) rfl ?_
          refine z_goto (tgt := 27) dX7_tonight_95 rfl ?_
          refine z_fg (ls' := [.ref 51, .int x1, .int x2, .int x6, .int v16, .int x5, .int (x6 + (1 : Int32)), .null]) ⟨Or.inr rfl, Or.inr rfl, Or.inr rfl, Or.inr rfl, Or.inr rfl, Or.inr rfl, Or.inr rfl, Or.inl rfl, trivial⟩ ?_
          exact ih x1 x2 x6 v16 x5 (x6 + (1 : Int32)) _ _ _ h
theorem A_X7_tonight_51 {l : Launch} (hl : l.stackTraces = false) {Ls d : Nat} {Lm : zML} {x1 : Int32} {x2 : Int32} {M M' : zMM} {v : Int32 ⊕ Nat} (h : f_X7_tonight_51 x1 x2 M = some (v, M')) : z_Ct l mX7_tonight (d + 7) (z_bo v) (6 * z_bo v) [.ref 51, .int x1, .int x2] (z_L0 Ls, M, Lm) (z_oi v) (z_L0 Ls, M', Lm) := by
  replace h : (  z_bt (f_X7_checkTown_51 x1 M) fun v2 M3 =>
    z_bt (f_X7_checkPair x2 M3) fun v6 M7 =>
      z_bi (f_X4_trunksIn_87 x1 M7) fun v10 M11 =>
      f_X7_tonight_51_p27 z_fuel x1 x2 (-1 : Int32) (-1 : Int32) v10 (0 : Int32) M11) = some (v, M') := h
  refine z_Ct.of hl (by decide) (Nat.le_of_ble_eq_true rfl) rfl ?_
  show z_AW l mX7_tonight (d + 7) (z_bo v) (6 * z_bo v) 0 [.ref 51, .int x1, .int x2, .null, .null, .null, .null, .null] [] (z_L0 Ls, M, Lm) (z_oi v) (z_L0 Ls, M', Lm)
  refine z_aload_n dX7_tonight_0 rfl ?_
  refine z_iload_n dX7_tonight_1 rfl ?_
  rcases z_bt_c h with ⟨v2, M3, c1, h⟩ | ⟨e4, c1, rfl⟩
  · refine z_cV (av := [.int x1]) (st := []) lk_X7_162 dX7_tonight_2 (z_tv (A_X7_checkTown_51 (d := d + 0) hl c1)) rfl rfl en_51 rfl (Nat.le_of_ble_eq_true rfl) rfl z_len rfl rfl ?_
    refine z_iload_n dX7_tonight_5 rfl ?_
    rcases z_bt_c h with ⟨v6, M7, c5, h⟩ | ⟨e8, c5, rfl⟩
    · refine z_cS (av := [.int x2]) (st := []) lk_X7_220 dX7_tonight_6 (z_tv (A_X7_checkPair (d := d + 0) hl c5)) rfl rfl (Nat.le_of_ble_eq_true rfl) rfl z_len rfl rfl ?_
      refine z_ic kc_m1 dX7_tonight_9 ?_
      refine z_istore_n (ls' := [.ref 51, .int x1, .int x2, .int (-1 : Int32), .null, .null, .null, .null]) dX7_tonight_10 (by decide) rfl ?_
      refine z_ic kc_m1 dX7_tonight_11 ?_
      refine z_istore (ls' := [.ref 51, .int x1, .int x2, .int (-1 : Int32), .int (-1 : Int32), .null, .null, .null]) dX7_tonight_12 (by decide) rfl ?_
      refine z_aload_n dX7_tonight_14 rfl ?_
      refine z_getR (q := 87) fl_X7_58 dX7_tonight_15 en_51 rfl ?_
      refine z_iload_n dX7_tonight_18 rfl ?_
      obtain ⟨v10, M11, c9, h⟩ := z_bi_c h
      refine z_cV (av := [.int x1]) (st := []) lk_X7_177 dX7_tonight_19 (A_X4_trunksIn_87 (d := d + 4) hl c9) rfl rfl en_87 rfl (Nat.le_of_ble_eq_true rfl) rfl z_len rfl rfl ?_
      refine z_istore (ls' := [.ref 51, .int x1, .int x2, .int (-1 : Int32), .int (-1 : Int32), .int v10, .null, .null]) dX7_tonight_22 (by decide) rfl ?_
      refine z_ic kc_p0 dX7_tonight_24 ?_
      refine z_istore (ls' := [.ref 51, .int x1, .int x2, .int (-1 : Int32), .int (-1 : Int32), .int v10, .int (0 : Int32), .null]) dX7_tonight_25 (by decide) rfl ?_
      exact A_X7_tonight_51_p27 hl z_fuel x1 x2 (-1 : Int32) (-1 : Int32) v10 (0 : Int32) _ _ _ h
    · exact z_cSx (av := [.int x2]) (st := []) lk_X7_220 dX7_tonight_6 (A_X7_checkPair (d := d + 0) hl c5) rfl rfl (Nat.le_of_ble_eq_true rfl) rfl z_len rfl rfl (Nat.le_refl _) (Nat.le_refl _)
  · exact z_cVx (av := [.int x1]) (st := []) lk_X7_162 dX7_tonight_2 (A_X7_checkTown_51 (d := d + 0) hl c1) rfl rfl en_51 rfl (Nat.le_of_ble_eq_true rfl) rfl z_len rfl rfl (Nat.le_refl _) (Nat.le_refl _)
/-! X1_firstSet 103 -/
def f_X1_firstSet_103_p3 : Nat → Int32 → Int32 → Int32 → Int32 → zMM → Option (Int32 × zMM)
  | 0, _, _, _, _, _ => none
  | n + 1, x1, x2, x3, x4, M =>
  if (16 : Int32) ≤ x4 then
    some ((0 : Int32), M)
  else
    z_bi (f_X1_fitOf_103 x1 x4 M) fun v3 M4 =>
    if v3 = 0 then
      f_X1_firstSet_103_p3 n x1 x2 x3 (x4 + (1 : Int32)) M4
    else
      z_bi (f_X1_spread x4 x1 M4) fun v7 M8 =>
      z_bi (f_X1_leastFrom_103 8 (x1 + (1 : Int32)) (x2 ||| v7) (-1 : Int32) M8) fun v10 M11 =>
      if v10 = x3 then
        some (x4, M11)
      else
        f_X1_firstSet_103_p3 n x1 x2 x3 (x4 + (1 : Int32)) M11
def f_X1_firstSet_103 (x1 : Int32) (x2 : Int32) (x3 : Int32) (M : zMM) : Option (Int32 × zMM) :=
  f_X1_firstSet_103_p3 z_fuel x1 x2 x3 (0 : Int32) M
theorem A_X1_firstSet_103_p3 {l : Launch} (hl : l.stackTraces = false) {Ls d : Nat} {Lm : zML} :
    ∀ (n : Nat) (x1 : Int32) (x2 : Int32) (x3 : Int32) (x4 : Int32) (M M' : zMM) (v : Int32) , f_X1_firstSet_103_p3 n x1 x2 x3 x4 M = some (v, M') → z_AW l mX1_firstSet (d + 11) 0 0 3 [.ref 103, .int x1, .int x2, .int x3, .int x4] [] (z_L0 Ls, M, Lm) (.inl (some (.int v))) (z_L0 Ls, M', Lm) := by
  intro n
  induction n with
  | zero => intro x1 x2 x3 x4 M M' v h; cases h
  | succ n ih =>
    intro x1 x2 x3 x4 M M' v h
    replace h : (  if (16 : Int32) ≤ x4 then
    some ((0 : Int32), M)
  else
    z_bi (f_X1_fitOf_103 x1 x4 M) fun v3 M4 =>
    if v3 = 0 then
      f_X1_firstSet_103_p3 n x1 x2 x3 (x4 + (1 : Int32)) M4
    else
      z_bi (f_X1_spread x4 x1 M4) fun v7 M8 =>
      z_bi (f_X1_leastFrom_103 8 (x1 + (1 : Int32)) (x2 ||| v7) (-1 : Int32) M8) fun v10 M11 =>
      if v10 = x3 then
        some (x4, M11)
      else
        f_X1_firstSet_103_p3 n x1 x2 x3 (x4 + (1 : Int32)) M11) = some (v, M') := h
    refine z_iload dX1_firstSet_3 rfl ?_
    refine z_bp kb_p16 dX1_firstSet_5 ?_
    refine z_icmp_ge (tgt := 49) dX1_firstSet_7 rfl (fun g1 => ?_) (fun g1 => ?_)
    · replace h := (if_pos g1).symm.trans h
      refine z_ic kc_p0 dX1_firstSet_49 ?_
      cases h
      exact z_rI dX1_firstSet_50 rfl
    · replace h := (if_neg g1).symm.trans h
      refine z_aload_n dX1_firstSet_10 rfl ?_
      refine z_iload_n dX1_firstSet_11 rfl ?_
      refine z_iload dX1_firstSet_12 rfl ?_
      obtain ⟨v3, M4, c2, h⟩ := z_bi_c h
      refine z_cV (av := [.int x1, .int x4]) (st := []) lk_X1_93 dX1_firstSet_14 (A_X1_fitOf_103 (d := d + 9) hl c2) rfl rfl en_103 rfl (Nat.le_of_ble_eq_true rfl) rfl z_len rfl rfl ?_
      refine z_if_eq (tgt := 43) dX1_firstSet_17 rfl (fun g5 => ?_) (fun g5 => ?_)
      · replace h := (if_pos g5).symm.trans h
        refine z_ii (ls' := [.ref 103, .int x1, .int x2, .int x3, .int (x4 + (1 : Int32))]) kc_p1 dX1_firstSet_43 rfl (by decide) rfl ?_
        refine z_goto (tgt := 3) dX1_firstSet_46 rfl ?_
        exact ih x1 x2 x3 (x4 + (1 : Int32)) _ _ _ h
      · replace h := (if_neg g5).symm.trans h
        refine z_aload_n dX1_firstSet_20 rfl ?_
        refine z_iload_n dX1_firstSet_21 rfl ?_
        refine z_ic kc_p1 dX1_firstSet_22 ?_
        refine z_iadd dX1_firstSet_23 ?_
        refine z_iload_n dX1_firstSet_24 rfl ?_
        refine z_iload dX1_firstSet_25 rfl ?_
        refine z_iload_n dX1_firstSet_27 rfl ?_
        obtain ⟨v7, M8, c6, h⟩ := z_bi_c h
        refine z_cS (av := [.int x4, .int x1]) (st := [.int x2, .int (x1 + (1 : Int32)), .ref 103]) lk_X1_74 dX1_firstSet_28 (A_X1_spread (d := d + 9) hl c6) rfl rfl (Nat.le_of_ble_eq_true rfl) rfl z_len rfl rfl ?_
        refine z_ior dX1_firstSet_31 ?_
        refine z_ic kc_m1 dX1_firstSet_32 ?_
        obtain ⟨v10, M11, c9, h⟩ := z_bi_c h
        refine z_cV (av := [.int (x1 + (1 : Int32)), .int (x2 ||| v7), .int (-1 : Int32)]) (st := []) lk_X1_58 dX1_firstSet_33 (A_X1_leastFrom_103 hl 8 (d + 0) (x1 + (1 : Int32)) (x2 ||| v7) (-1 : Int32) _ _ _ c9) rfl rfl en_103 rfl (Nat.le_of_ble_eq_true rfl) rfl z_len rfl rfl ?_
        refine z_iload_n dX1_firstSet_36 rfl ?_
        refine z_icmp_ne (tgt := 43) dX1_firstSet_37 rfl (fun g12 => ?_) (fun g12 => ?_)
        · replace h := (if_pos g12).symm.trans h
          refine z_iload dX1_firstSet_40 rfl ?_
          cases h
          exact z_rI dX1_firstSet_42 rfl
        · replace h := (if_neg g12).symm.trans h
          refine z_ii (ls' := [.ref 103, .int x1, .int x2, .int x3, .int (x4 + (1 : Int32))]) kc_p1 dX1_firstSet_43 rfl (by decide) rfl ?_
          refine z_goto (tgt := 3) dX1_firstSet_46 rfl ?_
          exact ih x1 x2 x3 (x4 + (1 : Int32)) _ _ _ h
theorem A_X1_firstSet_103 {l : Launch} (hl : l.stackTraces = false) {Ls d : Nat} {Lm : zML} {x1 : Int32} {x2 : Int32} {x3 : Int32} {M M' : zMM} {v : Int32} (h : f_X1_firstSet_103 x1 x2 x3 M = some (v, M')) : z_Ct l mX1_firstSet (d + 11) 0 0 [.ref 103, .int x1, .int x2, .int x3] (z_L0 Ls, M, Lm) (.inl (some (.int v))) (z_L0 Ls, M', Lm) := by
  replace h : (  f_X1_firstSet_103_p3 z_fuel x1 x2 x3 (0 : Int32) M) = some (v, M') := h
  refine z_Ct.of hl (by decide) (Nat.le_of_ble_eq_true rfl) rfl ?_
  show z_AW l mX1_firstSet (d + 11) 0 0 0 [.ref 103, .int x1, .int x2, .int x3, .null] [] (z_L0 Ls, M, Lm) (.inl (some (.int v))) (z_L0 Ls, M', Lm)
  refine z_ic kc_p0 dX1_firstSet_0 ?_
  refine z_istore (ls' := [.ref 103, .int x1, .int x2, .int x3, .int (0 : Int32)]) dX1_firstSet_1 (by decide) rfl ?_
  exact A_X1_firstSet_103_p3 hl z_fuel x1 x2 x3 (0 : Int32) _ _ _ h
/-! X1_plan 103 -/
def f_X1_plan_103_p27 : Nat → Int32 → Int32 → Int32 → zMM → Option (Int32 × zMM)
  | 0, _, _, _, _ => none
  | n + 1, x1, x2, x3, M =>
  if (M 53 6) ≤ x3 then
    some (x1, (z_up M 103 7 (1 : Int32)))
  else
    z_bi (f_X1_firstSet_103 x3 x2 x1 M) fun v13 M14 =>
    z_bv (some (z_pt M14 106 5 x3 v13)) fun M16 =>
    z_bi (f_X1_spread v13 x3 M16) fun v18 M19 =>
    f_X1_plan_103_p27 n x1 (x2 ||| v18) (x3 + (1 : Int32)) M19
def f_X1_plan_103  (M : zMM) : Option (Int32 × zMM) :=
  z_bv (f_X1_findFits_103  M) fun M3 =>
  z_bv (f_X1_findCosts_103  M3) fun M6 =>
  z_bi (f_X1_leastFrom_103 8 (0 : Int32) (0 : Int32) (-1 : Int32) M6) fun v8 M9 =>
  if v8 = (-1 : Int32) then
    some ((-1 : Int32), M9)
  else
    f_X1_plan_103_p27 z_fuel v8 (0 : Int32) (0 : Int32) M9
theorem A_X1_plan_103_p27 {l : Launch} (hl : l.stackTraces = false) {Ls d : Nat} {Lm : zML} :
    ∀ (n : Nat) (x1 : Int32) (x2 : Int32) (x3 : Int32) (M M' : zMM) (v : Int32) , f_X1_plan_103_p27 n x1 x2 x3 M = some (v, M') → z_AW l mX1_plan (d + 12) 0 0 27 [.ref 103, .int x1, .int x2, .int x3, .null] [] (z_L0 Ls, M, Lm) (.inl (some (.int v))) (z_L0 Ls, M', Lm) := by
  intro n
  induction n with
  | zero => intro x1 x2 x3 M M' v h; cases h
  | succ n ih =>
    intro x1 x2 x3 M M' v h
    replace h : (  if (M 53 6) ≤ x3 then
    some (x1, (z_up M 103 7 (1 : Int32)))
  else
    z_bi (f_X1_firstSet_103 x3 x2 x1 M) fun v13 M14 =>
    z_bv (some (z_pt M14 106 5 x3 v13)) fun M16 =>
    z_bi (f_X1_spread v13 x3 M16) fun v18 M19 =>
    f_X1_plan_103_p27 n x1 (x2 ||| v18) (x3 + (1 : Int32)) M19) = some (v, M') := h
    refine z_iload_n dX1_plan_27 rfl ?_
    refine z_aload_n dX1_plan_28 rfl ?_
    refine z_getR (q := 53) fl_X1_32 dX1_plan_29 en_103 rfl ?_
    refine z_gI (v := (M 53 6)) fl_X1_62 dX1_plan_32 en_53 rfl rfl ?_
    refine z_icmp_ge (tgt := 72) dX1_plan_35 rfl (fun g11 => ?_) (fun g11 => ?_)
    · replace h := (if_pos g11).symm.trans h
      refine z_aload_n dX1_plan_72 rfl ?_
      refine z_ic kc_p1 dX1_plan_73 ?_
      refine z_pZ fp_X1_21 dX1_plan_74 (by decide) en_103 rfl rfl ?_
      refine z_iload_n dX1_plan_77 rfl ?_
      cases h
      exact z_rI dX1_plan_78 rfl
    · replace h := (if_neg g11).symm.trans h
      refine z_aload_n dX1_plan_38 rfl ?_
      refine z_iload_n dX1_plan_39 rfl ?_
      refine z_iload_n dX1_plan_40 rfl ?_
      refine z_iload_n dX1_plan_41 rfl ?_
      obtain ⟨v13, M14, c12, h⟩ := z_bi_c h
      refine z_cV (av := [.int x3, .int x2, .int x1]) (st := []) lk_X1_67 dX1_plan_42 (A_X1_firstSet_103 (d := d + 0) hl c12) rfl rfl en_103 rfl (Nat.le_of_ble_eq_true rfl) rfl z_len rfl rfl ?_
      refine z_istore (ls' := [.ref 103, .int x1, .int x2, .int x3, .int v13]) dX1_plan_45 (by decide) rfl ?_
      refine z_aload_n dX1_plan_47 rfl ?_
      refine z_getR (q := 106) fl_X1_18 dX1_plan_48 en_103 rfl ?_
      refine z_iload_n dX1_plan_51 rfl ?_
      refine z_iload dX1_plan_52 rfl ?_
      obtain ⟨M16, c15, h⟩ := z_bv_c h
      refine z_cN (av := [.ref 106, .int x3, .int v13]) (st := []) lk_X1_70 dX1_plan_54 (z_Ct.to (A_X7_put (d := d + 11) hl (by decide) (by decide) en_106) c15) rfl rfl (Nat.le_of_ble_eq_true rfl) rfl z_len rfl rfl ?_
      refine z_iload_n dX1_plan_57 rfl ?_
      refine z_iload dX1_plan_58 rfl ?_
      refine z_iload_n dX1_plan_60 rfl ?_
      obtain ⟨v18, M19, c17, h⟩ := z_bi_c h
      refine z_cS (av := [.int v13, .int x3]) (st := [.int x2]) lk_X1_74 dX1_plan_61 (A_X1_spread (d := d + 10) hl c17) rfl rfl (Nat.le_of_ble_eq_true rfl) rfl z_len rfl rfl ?_
      refine z_ior dX1_plan_64 ?_
      refine z_istore_n (ls' := [.ref 103, .int x1, .int (x2 ||| v18), .int x3, .int v13]) dX1_plan_65 (by decide) rfl ?_
      refine z_ii (ls' := [.ref 103, .int x1, .int (x2 ||| v18), .int (x3 + (1 : Int32)), .int v13]) kc_p1 dX1_plan_66 rfl (by decide) rfl ?_
      refine z_goto (tgt := 27) dX1_plan_69 rfl ?_
      refine z_fg (ls' := [.ref 103, .int x1, .int (x2 ||| v18), .int (x3 + (1 : Int32)), .null]) ⟨Or.inr rfl, Or.inr rfl, Or.inr rfl, Or.inr rfl, Or.inl rfl, trivial⟩ ?_
      exact ih x1 (x2 ||| v18) (x3 + (1 : Int32)) _ _ _ h
theorem A_X1_plan_103 {l : Launch} (hl : l.stackTraces = false) {Ls d : Nat} {Lm : zML}  {M M' : zMM} {v : Int32} (h : f_X1_plan_103  M = some (v, M')) : z_Ct l mX1_plan (d + 12) 0 0 [.ref 103] (z_L0 Ls, M, Lm) (.inl (some (.int v))) (z_L0 Ls, M', Lm) := by
  replace h : (  z_bv (f_X1_findFits_103  M) fun M3 =>
  z_bv (f_X1_findCosts_103  M3) fun M6 =>
  z_bi (f_X1_leastFrom_103 8 (0 : Int32) (0 : Int32) (-1 : Int32) M6) fun v8 M9 =>
  if v8 = (-1 : Int32) then
    some ((-1 : Int32), M9)
  else
    f_X1_plan_103_p27 z_fuel v8 (0 : Int32) (0 : Int32) M9) = some (v, M') := h
  refine z_Ct.of hl (by decide) (Nat.le_of_ble_eq_true rfl) rfl ?_
  show z_AW l mX1_plan (d + 12) 0 0 0 [.ref 103, .null, .null, .null, .null] [] (z_L0 Ls, M, Lm) (.inl (some (.int v))) (z_L0 Ls, M', Lm)
  refine z_aload_n dX1_plan_0 rfl ?_
  obtain ⟨M3, c1, h⟩ := z_bv_c h
  refine z_cV (av := []) (st := []) lk_X1_52 dX1_plan_1 (A_X1_findFits_103 (d := d + 8) hl c1) rfl rfl en_103 rfl (Nat.le_of_ble_eq_true rfl) rfl z_len rfl rfl ?_
  refine z_aload_n dX1_plan_4 rfl ?_
  obtain ⟨M6, c4, h⟩ := z_bv_c h
  refine z_cV (av := []) (st := []) lk_X1_55 dX1_plan_5 (A_X1_findCosts_103 (d := d + 6) hl c4) rfl rfl en_103 rfl (Nat.le_of_ble_eq_true rfl) rfl z_len rfl rfl ?_
  refine z_aload_n dX1_plan_8 rfl ?_
  refine z_ic kc_p0 dX1_plan_9 ?_
  refine z_ic kc_p0 dX1_plan_10 ?_
  refine z_ic kc_m1 dX1_plan_11 ?_
  obtain ⟨v8, M9, c7, h⟩ := z_bi_c h
  refine z_cV (av := [.int (0 : Int32), .int (0 : Int32), .int (-1 : Int32)]) (st := []) lk_X1_58 dX1_plan_12 (A_X1_leastFrom_103 hl 8 (d + 1) (0 : Int32) (0 : Int32) (-1 : Int32) _ _ _ c7) rfl rfl en_103 rfl (Nat.le_of_ble_eq_true rfl) rfl z_len rfl rfl ?_
  refine z_istore_n (ls' := [.ref 103, .int v8, .null, .null, .null]) dX1_plan_15 (by decide) rfl ?_
  refine z_iload_n dX1_plan_16 rfl ?_
  refine z_ic kc_m1 dX1_plan_17 ?_
  refine z_icmp_ne (tgt := 23) dX1_plan_18 rfl (fun g10 => ?_) (fun g10 => ?_)
  · replace h := (if_pos g10).symm.trans h
    refine z_ic kc_m1 dX1_plan_21 ?_
    cases h
    exact z_rI dX1_plan_22 rfl
  · replace h := (if_neg g10).symm.trans h
    refine z_ic kc_p0 dX1_plan_23 ?_
    refine z_istore_n (ls' := [.ref 103, .int v8, .int (0 : Int32), .null, .null]) dX1_plan_24 (by decide) rfl ?_
    refine z_ic kc_p0 dX1_plan_25 ?_
    refine z_istore_n (ls' := [.ref 103, .int v8, .int (0 : Int32), .int (0 : Int32), .null]) dX1_plan_26 (by decide) rfl ?_
    exact A_X1_plan_103_p27 hl z_fuel v8 (0 : Int32) (0 : Int32) _ _ _ h
/-! X7_tour 51 -/
def f_X7_tour_51  (M : zMM) : Option (Int32 × zMM) :=
  z_bi (f_X1_plan_103  M) fun v2 M3 =>
  some (v2, M3)
theorem A_X7_tour_51 {l : Launch} (hl : l.stackTraces = false) {Ls d : Nat} {Lm : zML}  {M M' : zMM} {v : Int32} (h : f_X7_tour_51  M = some (v, M')) : z_Ct l mX7_tour (d + 13) 0 0 [.ref 51] (z_L0 Ls, M, Lm) (.inl (some (.int v))) (z_L0 Ls, M', Lm) := by
  replace h : (  z_bi (f_X1_plan_103  M) fun v2 M3 =>
  some (v2, M3)) = some (v, M') := h
  refine z_Ct.of hl (by decide) (Nat.le_of_ble_eq_true rfl) rfl ?_
  show z_AW l mX7_tour (d + 13) 0 0 0 [.ref 51] [] (z_L0 Ls, M, Lm) (.inl (some (.int v))) (z_L0 Ls, M', Lm)
  refine z_aload_n dX7_tour_0 rfl ?_
  refine z_getR (q := 103) fl_X7_81 dX7_tour_1 en_51 rfl ?_
  obtain ⟨v2, M3, c1, h⟩ := z_bi_c h
  refine z_cV (av := []) (st := []) lk_X7_313 dX7_tour_4 (A_X1_plan_103 (d := d + 0) hl c1) rfl rfl en_103 rfl (Nat.le_of_ble_eq_true rfl) rfl z_len rfl rfl ?_
  cases h
  exact z_rI dX7_tour_7 rfl
/-! X7_town 51 -/
def f_X7_town_51 (x1 : Int32) (x2 : Int32) (M : zMM) : Option ((Int32 ⊕ Nat) × zMM) :=
  z_bt (f_X7_checkTown_51 x1 M) fun v2 M3 =>
    if x2 = (0 : Int32) then
      some (.inl (z_at M3 54 5 x1), M3)
    else
      if x2 = (1 : Int32) then
        some (.inl (z_at M3 55 5 x1), M3)
      else
        if x2 = (2 : Int32) then
          some (.inl (z_at M3 56 5 x1), M3)
        else
          if x2 = (3 : Int32) then
            some (.inl (z_at M3 57 5 x1), M3)
          else
            if x2 = (4 : Int32) then
              z_bi (f_X4_trunksIn_87 x1 M3) fun v11 M12 =>
              some (.inl v11, M12)
            else
              if x2 = (5 : Int32) then
                z_bi (f_X4_trunksIn_87 x1 M3) fun v15 M16 =>
                z_bi (f_X5_thingsOf_53 v15 M16) fun v18 M19 =>
                some (.inl v18, M19)
              else
                some (.inr 0, M3)
theorem A_X7_town_51 {l : Launch} (hl : l.stackTraces = false) {Ls d : Nat} {Lm : zML} {x1 : Int32} {x2 : Int32} {M M' : zMM} {v : Int32 ⊕ Nat} (h : f_X7_town_51 x1 x2 M = some (v, M')) : z_Ct l mX7_town (d + 7) (z_bo v) (6 * z_bo v) [.ref 51, .int x1, .int x2] (z_L0 Ls, M, Lm) (z_oi v) (z_L0 Ls, M', Lm) := by
  replace h : (  z_bt (f_X7_checkTown_51 x1 M) fun v2 M3 =>
    if x2 = (0 : Int32) then
      some (.inl (z_at M3 54 5 x1), M3)
    else
      if x2 = (1 : Int32) then
        some (.inl (z_at M3 55 5 x1), M3)
      else
        if x2 = (2 : Int32) then
          some (.inl (z_at M3 56 5 x1), M3)
        else
          if x2 = (3 : Int32) then
            some (.inl (z_at M3 57 5 x1), M3)
          else
            if x2 = (4 : Int32) then
              z_bi (f_X4_trunksIn_87 x1 M3) fun v11 M12 =>
              some (.inl v11, M12)
            else
              if x2 = (5 : Int32) then
                z_bi (f_X4_trunksIn_87 x1 M3) fun v15 M16 =>
                z_bi (f_X5_thingsOf_53 v15 M16) fun v18 M19 =>
                some (.inl v18, M19)
              else
                some (.inr 0, M3)) = some (v, M') := h
  refine z_Ct.of hl (by decide) (Nat.le_of_ble_eq_true rfl) rfl ?_
  show z_AW l mX7_town (d + 7) (z_bo v) (6 * z_bo v) 0 [.ref 51, .int x1, .int x2] [] (z_L0 Ls, M, Lm) (z_oi v) (z_L0 Ls, M', Lm)
  refine z_aload_n dX7_town_0 rfl ?_
  refine z_iload_n dX7_town_1 rfl ?_
  rcases z_bt_c h with ⟨v2, M3, c1, h⟩ | ⟨e4, c1, rfl⟩
  · refine z_cV (av := [.int x1]) (st := []) lk_X7_162 dX7_town_2 (z_tv (A_X7_checkTown_51 (d := d + 0) hl c1)) rfl rfl en_51 rfl (Nat.le_of_ble_eq_true rfl) rfl z_len rfl rfl ?_
    refine z_iload_n dX7_town_5 rfl ?_
    by_cases g5 : x2 = (0 : Int32)
    · replace h := (if_pos g5).symm.trans h
      refine z_tswI (tgt := 44) dX7_town_6 g5 (by decide) (by decide) rfl rfl ?_
      refine z_aload_n dX7_town_44 rfl ?_
      refine z_getR (q := 53) fl_X7_23 dX7_town_45 en_51 rfl ?_
      refine z_getR (q := 54) fl_X7_165 dX7_town_48 en_53 rfl ?_
      refine z_iload_n dX7_town_51 rfl ?_
      refine z_cS (av := [.ref 54, .int x1]) (st := []) (v := some (.int (z_at M3 54 5 x1))) lk_X7_153 dX7_town_52 (A_X7_at (d := d + 6) hl (by decide) en_54) rfl rfl (Nat.le_of_ble_eq_true rfl) rfl z_len rfl rfl ?_
      cases h
      exact z_rI dX7_town_55 rfl
    · replace h := (if_neg g5).symm.trans h
      by_cases g6 : x2 = (1 : Int32)
      · replace h := (if_pos g6).symm.trans h
        refine z_tswI (tgt := 56) dX7_town_6 g6 (by decide) (by decide) rfl rfl ?_
        refine z_aload_n dX7_town_56 rfl ?_
        refine z_getR (q := 53) fl_X7_23 dX7_town_57 en_51 rfl ?_
        refine z_getR (q := 55) fl_X7_168 dX7_town_60 en_53 rfl ?_
        refine z_iload_n dX7_town_63 rfl ?_
        refine z_cS (av := [.ref 55, .int x1]) (st := []) (v := some (.int (z_at M3 55 5 x1))) lk_X7_153 dX7_town_64 (A_X7_at (d := d + 6) hl (by decide) en_55) rfl rfl (Nat.le_of_ble_eq_true rfl) rfl z_len rfl rfl ?_
        cases h
        exact z_rI dX7_town_67 rfl
      · replace h := (if_neg g6).symm.trans h
        by_cases g7 : x2 = (2 : Int32)
        · replace h := (if_pos g7).symm.trans h
          refine z_tswI (tgt := 68) dX7_town_6 g7 (by decide) (by decide) rfl rfl ?_
          refine z_aload_n dX7_town_68 rfl ?_
          refine z_getR (q := 53) fl_X7_23 dX7_town_69 en_51 rfl ?_
          refine z_getR (q := 56) fl_X7_171 dX7_town_72 en_53 rfl ?_
          refine z_iload_n dX7_town_75 rfl ?_
          refine z_cS (av := [.ref 56, .int x1]) (st := []) (v := some (.int (z_at M3 56 5 x1))) lk_X7_153 dX7_town_76 (A_X7_at (d := d + 6) hl (by decide) en_56) rfl rfl (Nat.le_of_ble_eq_true rfl) rfl z_len rfl rfl ?_
          cases h
          exact z_rI dX7_town_79 rfl
        · replace h := (if_neg g7).symm.trans h
          by_cases g8 : x2 = (3 : Int32)
          · replace h := (if_pos g8).symm.trans h
            refine z_tswI (tgt := 80) dX7_town_6 g8 (by decide) (by decide) rfl rfl ?_
            refine z_aload_n dX7_town_80 rfl ?_
            refine z_getR (q := 53) fl_X7_23 dX7_town_81 en_51 rfl ?_
            refine z_getR (q := 57) fl_X7_174 dX7_town_84 en_53 rfl ?_
            refine z_iload_n dX7_town_87 rfl ?_
            refine z_cS (av := [.ref 57, .int x1]) (st := []) (v := some (.int (z_at M3 57 5 x1))) lk_X7_153 dX7_town_88 (A_X7_at (d := d + 6) hl (by decide) en_57) rfl rfl (Nat.le_of_ble_eq_true rfl) rfl z_len rfl rfl ?_
            cases h
            exact z_rI dX7_town_91 rfl
          · replace h := (if_neg g8).symm.trans h
            by_cases g9 : x2 = (4 : Int32)
            · replace h := (if_pos g9).symm.trans h
              refine z_tswI (tgt := 92) dX7_town_6 g9 (by decide) (by decide) rfl rfl ?_
              refine z_aload_n dX7_town_92 rfl ?_
              refine z_getR (q := 87) fl_X7_58 dX7_town_93 en_51 rfl ?_
              refine z_iload_n dX7_town_96 rfl ?_
              obtain ⟨v11, M12, c10, h⟩ := z_bi_c h
              refine z_cV (av := [.int x1]) (st := []) lk_X7_177 dX7_town_97 (A_X4_trunksIn_87 (d := d + 4) hl c10) rfl rfl en_87 rfl (Nat.le_of_ble_eq_true rfl) rfl z_len rfl rfl ?_
              cases h
              exact z_rI dX7_town_100 rfl
            · replace h := (if_neg g9).symm.trans h
              by_cases g13 : x2 = (5 : Int32)
              · replace h := (if_pos g13).symm.trans h
                refine z_tswI (tgt := 101) dX7_town_6 g13 (by decide) (by decide) rfl rfl ?_
                refine z_aload_n dX7_town_101 rfl ?_
                refine z_getR (q := 53) fl_X7_23 dX7_town_102 en_51 rfl ?_
                refine z_aload_n dX7_town_105 rfl ?_
                refine z_getR (q := 87) fl_X7_58 dX7_town_106 en_51 rfl ?_
                refine z_iload_n dX7_town_109 rfl ?_
                obtain ⟨v15, M16, c14, h⟩ := z_bi_c h
                refine z_cV (av := [.int x1]) (st := [.ref 53]) lk_X7_177 dX7_town_110 (A_X4_trunksIn_87 (d := d + 4) hl c14) rfl rfl en_87 rfl (Nat.le_of_ble_eq_true rfl) rfl z_len rfl rfl ?_
                obtain ⟨v18, M19, c17, h⟩ := z_bi_c h
                refine z_cV (av := [.int v15]) (st := []) lk_X7_180 dX7_town_113 (A_X5_thingsOf_53 (d := d + 5) hl c17) rfl rfl en_53 rfl (Nat.le_of_ble_eq_true rfl) rfl z_len rfl rfl ?_
                cases h
                exact z_rI dX7_town_116 rfl
              · replace h := (if_neg g13).symm.trans h
                refine z_tswO (tgt := 117) dX7_town_6 [(0 : Int32), (1 : Int32), (2 : Int32), (3 : Int32), (4 : Int32), (5 : Int32)] (by simp only [List.mem_cons, List.not_mem_nil, or_false, forall_eq_or_imp, forall_eq]; exact ⟨g5, g6, g7, g8, g9, g13⟩) (by decide +kernel) rfl ?_
                cases h
                exact z_throw (text := "no such fact of a town") z_tpN (by decide +kernel) rfl (by omega) (Nat.le_of_ble_eq_true rfl) (Nat.le_refl _) (Nat.le_refl _) dX7_town_117 dX7_town_120 dX7_town_121 dX7_town_123 dX7_town_126
  · exact z_cVx (av := [.int x1]) (st := []) lk_X7_162 dX7_town_2 (A_X7_checkTown_51 (d := d + 0) hl c1) rfl rfl en_51 rfl (Nat.le_of_ble_eq_true rfl) rfl z_len rfl rfl (Nat.le_refl _) (Nat.le_refl _)
/-! X7_trunk 51 -/
def f_X7_trunk_51 (x1 : Int32) (x2 : Int32) (M : zMM) : Option ((Int32 ⊕ Nat) × zMM) :=
  z_bt (f_X7_checkTrunk_51 x1 M) fun v2 M3 =>
    if x2 = (0 : Int32) then
      z_bi (f_X4_isThere_87 x1 M3) fun v7 M8 =>
      if v7 = 0 then
        some (.inl (-1 : Int32), M8)
      else
        some (.inl (z_at M8 88 5 x1), M8)
    else
      if x2 = (1 : Int32) then
        some (.inl (z_at M3 88 5 x1), M3)
      else
        if x2 = (2 : Int32) then
          some (.inl (z_at M3 89 5 x1), M3)
        else
          if x2 = (3 : Int32) then
            z_bi (f_X5_thingsOf_53 ((1 : Int32) <<< (x1 &&& 31)) M3) fun v14 M15 =>
            some (.inl v14, M15)
          else
            some (.inr 0, M3)
theorem A_X7_trunk_51 {l : Launch} (hl : l.stackTraces = false) {Ls d : Nat} {Lm : zML} {x1 : Int32} {x2 : Int32} {M M' : zMM} {v : Int32 ⊕ Nat} (h : f_X7_trunk_51 x1 x2 M = some (v, M')) : z_Ct l mX7_trunk (d + 7) (z_bo v) (6 * z_bo v) [.ref 51, .int x1, .int x2] (z_L0 Ls, M, Lm) (z_oi v) (z_L0 Ls, M', Lm) := by
  replace h : (  z_bt (f_X7_checkTrunk_51 x1 M) fun v2 M3 =>
    if x2 = (0 : Int32) then
      z_bi (f_X4_isThere_87 x1 M3) fun v7 M8 =>
      if v7 = 0 then
        some (.inl (-1 : Int32), M8)
      else
        some (.inl (z_at M8 88 5 x1), M8)
    else
      if x2 = (1 : Int32) then
        some (.inl (z_at M3 88 5 x1), M3)
      else
        if x2 = (2 : Int32) then
          some (.inl (z_at M3 89 5 x1), M3)
        else
          if x2 = (3 : Int32) then
            z_bi (f_X5_thingsOf_53 ((1 : Int32) <<< (x1 &&& 31)) M3) fun v14 M15 =>
            some (.inl v14, M15)
          else
            some (.inr 0, M3)) = some (v, M') := h
  refine z_Ct.of hl (by decide) (Nat.le_of_ble_eq_true rfl) rfl ?_
  show z_AW l mX7_trunk (d + 7) (z_bo v) (6 * z_bo v) 0 [.ref 51, .int x1, .int x2] [] (z_L0 Ls, M, Lm) (z_oi v) (z_L0 Ls, M', Lm)
  refine z_aload_n dX7_trunk_0 rfl ?_
  refine z_iload_n dX7_trunk_1 rfl ?_
  rcases z_bt_c h with ⟨v2, M3, c1, h⟩ | ⟨e4, c1, rfl⟩
  · refine z_cV (av := [.int x1]) (st := []) lk_X7_185 dX7_trunk_2 (z_tv (A_X7_checkTrunk_51 (d := d + 0) hl c1)) rfl rfl en_51 rfl (Nat.le_of_ble_eq_true rfl) rfl z_len rfl rfl ?_
    refine z_iload_n dX7_trunk_5 rfl ?_
    by_cases g5 : x2 = (0 : Int32)
    · replace h := (if_pos g5).symm.trans h
      refine z_tswI (tgt := 36) dX7_trunk_6 g5 (by decide) (by decide) rfl rfl ?_
      refine z_aload_n dX7_trunk_36 rfl ?_
      refine z_getR (q := 87) fl_X7_58 dX7_trunk_37 en_51 rfl ?_
      refine z_iload_n dX7_trunk_40 rfl ?_
      obtain ⟨v7, M8, c6, h⟩ := z_bi_c h
      refine z_cV (av := [.int x1]) (st := []) lk_X7_188 dX7_trunk_41 (A_X4_isThere_87 (d := d + 5) hl c6) rfl rfl en_87 rfl (Nat.le_of_ble_eq_true rfl) rfl z_len rfl rfl ?_
      refine z_if_eq (tgt := 61) dX7_trunk_44 rfl (fun g9 => ?_) (fun g9 => ?_)
      · replace h := (if_pos g9).symm.trans h
        refine z_ic kc_m1 dX7_trunk_61 ?_
        cases h
        exact z_rI dX7_trunk_62 rfl
      · replace h := (if_neg g9).symm.trans h
        refine z_aload_n dX7_trunk_47 rfl ?_
        refine z_getR (q := 87) fl_X7_58 dX7_trunk_48 en_51 rfl ?_
        refine z_getR (q := 88) fl_X7_192 dX7_trunk_51 en_87 rfl ?_
        refine z_iload_n dX7_trunk_54 rfl ?_
        refine z_cS (av := [.ref 88, .int x1]) (st := []) (v := some (.int (z_at M8 88 5 x1))) lk_X7_153 dX7_trunk_55 (A_X7_at (d := d + 6) hl (by decide) en_88) rfl rfl (Nat.le_of_ble_eq_true rfl) rfl z_len rfl rfl ?_
        refine z_goto (tgt := 62) dX7_trunk_58 rfl ?_
        cases h
        exact z_rI dX7_trunk_62 rfl
    · replace h := (if_neg g5).symm.trans h
      by_cases g10 : x2 = (1 : Int32)
      · replace h := (if_pos g10).symm.trans h
        refine z_tswI (tgt := 63) dX7_trunk_6 g10 (by decide) (by decide) rfl rfl ?_
        refine z_aload_n dX7_trunk_63 rfl ?_
        refine z_getR (q := 87) fl_X7_58 dX7_trunk_64 en_51 rfl ?_
        refine z_getR (q := 88) fl_X7_192 dX7_trunk_67 en_87 rfl ?_
        refine z_iload_n dX7_trunk_70 rfl ?_
        refine z_cS (av := [.ref 88, .int x1]) (st := []) (v := some (.int (z_at M3 88 5 x1))) lk_X7_153 dX7_trunk_71 (A_X7_at (d := d + 6) hl (by decide) en_88) rfl rfl (Nat.le_of_ble_eq_true rfl) rfl z_len rfl rfl ?_
        cases h
        exact z_rI dX7_trunk_74 rfl
      · replace h := (if_neg g10).symm.trans h
        by_cases g11 : x2 = (2 : Int32)
        · replace h := (if_pos g11).symm.trans h
          refine z_tswI (tgt := 75) dX7_trunk_6 g11 (by decide) (by decide) rfl rfl ?_
          refine z_aload_n dX7_trunk_75 rfl ?_
          refine z_getR (q := 87) fl_X7_58 dX7_trunk_76 en_51 rfl ?_
          refine z_getR (q := 89) fl_X7_195 dX7_trunk_79 en_87 rfl ?_
          refine z_iload_n dX7_trunk_82 rfl ?_
          refine z_cS (av := [.ref 89, .int x1]) (st := []) (v := some (.int (z_at M3 89 5 x1))) lk_X7_153 dX7_trunk_83 (A_X7_at (d := d + 6) hl (by decide) en_89) rfl rfl (Nat.le_of_ble_eq_true rfl) rfl z_len rfl rfl ?_
          cases h
          exact z_rI dX7_trunk_86 rfl
        · replace h := (if_neg g11).symm.trans h
          by_cases g12 : x2 = (3 : Int32)
          · replace h := (if_pos g12).symm.trans h
            refine z_tswI (tgt := 87) dX7_trunk_6 g12 (by decide) (by decide) rfl rfl ?_
            refine z_aload_n dX7_trunk_87 rfl ?_
            refine z_getR (q := 53) fl_X7_23 dX7_trunk_88 en_51 rfl ?_
            refine z_ic kc_p1 dX7_trunk_91 ?_
            refine z_iload_n dX7_trunk_92 rfl ?_
            refine z_ishl dX7_trunk_93 ?_
            obtain ⟨v14, M15, c13, h⟩ := z_bi_c h
            refine z_cV (av := [.int ((1 : Int32) <<< (x1 &&& 31))]) (st := []) lk_X7_180 dX7_trunk_94 (A_X5_thingsOf_53 (d := d + 5) hl c13) rfl rfl en_53 rfl (Nat.le_of_ble_eq_true rfl) rfl z_len rfl rfl ?_
            cases h
            exact z_rI dX7_trunk_97 rfl
          · replace h := (if_neg g12).symm.trans h
            refine z_tswO (tgt := 98) dX7_trunk_6 [(0 : Int32), (1 : Int32), (2 : Int32), (3 : Int32)] (by simp only [List.mem_cons, List.not_mem_nil, or_false, forall_eq_or_imp, forall_eq]; exact ⟨g5, g10, g11, g12⟩) (by decide +kernel) rfl ?_
            cases h
            exact z_throw (text := "no such fact of a trunk") z_tpN (by decide +kernel) rfl (by omega) (Nat.le_of_ble_eq_true rfl) (Nat.le_refl _) (Nat.le_refl _) dX7_trunk_98 dX7_trunk_101 dX7_trunk_102 dX7_trunk_104 dX7_trunk_107
  · exact z_cVx (av := [.int x1]) (st := []) lk_X7_185 dX7_trunk_2 (A_X7_checkTrunk_51 (d := d + 0) hl c1) rfl rfl en_51 rfl (Nat.le_of_ble_eq_true rfl) rfl z_len rfl rfl (Nat.le_refl _) (Nat.le_refl _)
/-! X0_bringBack 101 87 -/
def f_X0_bringBack_101_87_p68 : Nat → Int32 → Int32 → zMM → Option (Int32 × zMM)
  | 0, _, _, _ => none
  | n + 1, x2, x3, M =>
  if (5 : Int32) ≤ x3 then
    if (M 101 1) ≤ 0 then
      some ((1 : Int32), (z_up (z_up M 101 1 (99 : Int32)) 101 2 ((M 101 2) - (1 : Int32))))
    else
      some ((1 : Int32), (z_up (z_up M 101 1 ((M 101 1) - (1 : Int32))) 101 2 ((M 101 2) - (1 : Int32))))
  else
    z_bv (f_X4_place_87 x3 (z_at M 102 1300 ((x2 + (3 : Int32)) + ((2 : Int32) * x3))) (z_at M 102 1300 ((x2 + (4 : Int32)) + ((2 : Int32) * x3))) M) fun M8 =>
    f_X0_bringBack_101_87_p68 n x2 (x3 + (1 : Int32)) M8
def f_X0_bringBack_101_87_p49 (x2 : Int32) (a0 : Int32) (M : zMM) : Option (Int32 × zMM) :=
  if z_zb a0 = true then
    f_X0_bringBack_101_87_p68 z_fuel x2 (0 : Int32) (z_up (z_up M 87 3 a0) 87 4 (z_at M 102 1300 (x2 + (2 : Int32))))
  else none
def f_X0_bringBack_101_87  (M : zMM) : Option (Int32 × zMM) :=
  if 0 < (M 101 2) then
    if (z_at M 102 1300 (((M 101 1) * (13 : Int32)) + (1 : Int32))) = (1 : Int32) then
      f_X0_bringBack_101_87_p49 ((M 101 1) * (13 : Int32)) (1 : Int32) (z_up M 87 2 (z_at M 102 1300 ((M 101 1) * (13 : Int32))))
    else
      f_X0_bringBack_101_87_p49 ((M 101 1) * (13 : Int32)) (0 : Int32) (z_up M 87 2 (z_at M 102 1300 ((M 101 1) * (13 : Int32))))
  else
    some ((0 : Int32), M)
theorem A_X0_bringBack_101_87_p68 {l : Launch} (hl : l.stackTraces = false) {Ls d : Nat} {Lm : zML} :
    ∀ (n : Nat) (x2 : Int32) (x3 : Int32) (M M' : zMM) (v : Int32) , f_X0_bringBack_101_87_p68 n x2 x3 M = some (v, M') → z_AW l mX0_bringBack (d + 2) 0 0 68 [.ref 101, .ref 87, .int x2, .int x3] [] (z_L0 Ls, M, Lm) (.inl (some (.int v))) (z_L0 Ls, M', Lm) := by
  intro n
  induction n with
  | zero => intro x2 x3 M M' v h; cases h
  | succ n ih =>
    intro x2 x3 M M' v h
    replace h : (  if (5 : Int32) ≤ x3 then
    if (M 101 1) ≤ 0 then
      some ((1 : Int32), (z_up (z_up M 101 1 (99 : Int32)) 101 2 ((M 101 2) - (1 : Int32))))
    else
      some ((1 : Int32), (z_up (z_up M 101 1 ((M 101 1) - (1 : Int32))) 101 2 ((M 101 2) - (1 : Int32))))
  else
    z_bv (f_X4_place_87 x3 (z_at M 102 1300 ((x2 + (3 : Int32)) + ((2 : Int32) * x3))) (z_at M 102 1300 ((x2 + (4 : Int32)) + ((2 : Int32) * x3))) M) fun M8 =>
    f_X0_bringBack_101_87_p68 n x2 (x3 + (1 : Int32)) M8) = some (v, M') := h
    refine z_iload_n dX0_bringBack_68 rfl ?_
    refine z_ic kc_p5 dX0_bringBack_69 ?_
    refine z_icmp_ge (tgt := 112) dX0_bringBack_70 rfl (fun g4 => ?_) (fun g4 => ?_)
    · replace h := (if_pos g4).symm.trans h
      refine z_aload_n dX0_bringBack_112 rfl ?_
      refine z_aload_n dX0_bringBack_113 rfl ?_
      refine z_gI (v := (M 101 1)) fl_X0_15 dX0_bringBack_114 en_101 rfl rfl ?_
      refine z_if_le (tgt := 129) dX0_bringBack_117 rfl (fun g5 => ?_) (fun g5 => ?_)
      · replace h := (if_pos g5).symm.trans h
        refine z_bp kb_p99 dX0_bringBack_129 ?_
        refine z_pI fp_X0_15 dX0_bringBack_131 (by decide) en_101 rfl ?_
        refine z_aload_n dX0_bringBack_134 rfl ?_
        refine z_dup dX0_bringBack_135 rfl ?_
        refine z_gI (v := (M 101 2)) fl_X0_19 dX0_bringBack_136 en_101 rfl rfl ?_
        refine z_ic kc_p1 dX0_bringBack_139 ?_
        refine z_isub dX0_bringBack_140 ?_
        refine z_pI fp_X0_19 dX0_bringBack_141 (by decide) en_101 rfl ?_
        refine z_ic kc_p1 dX0_bringBack_144 ?_
        cases h
        exact z_rZ dX0_bringBack_145 rfl rfl
      · replace h := (if_neg g5).symm.trans h
        refine z_aload_n dX0_bringBack_120 rfl ?_
        refine z_gI (v := (M 101 1)) fl_X0_15 dX0_bringBack_121 en_101 rfl rfl ?_
        refine z_ic kc_p1 dX0_bringBack_124 ?_
        refine z_isub dX0_bringBack_125 ?_
        refine z_goto (tgt := 131) dX0_bringBack_126 rfl ?_
        refine z_pI fp_X0_15 dX0_bringBack_131 (by decide) en_101 rfl ?_
        refine z_aload_n dX0_bringBack_134 rfl ?_
        refine z_dup dX0_bringBack_135 rfl ?_
        refine z_gI (v := (M 101 2)) fl_X0_19 dX0_bringBack_136 en_101 rfl rfl ?_
        refine z_ic kc_p1 dX0_bringBack_139 ?_
        refine z_isub dX0_bringBack_140 ?_
        refine z_pI fp_X0_19 dX0_bringBack_141 (by decide) en_101 rfl ?_
        refine z_ic kc_p1 dX0_bringBack_144 ?_
        cases h
        exact z_rZ dX0_bringBack_145 rfl rfl
    · replace h := (if_neg g4).symm.trans h
      refine z_aload_n dX0_bringBack_73 rfl ?_
      refine z_iload_n dX0_bringBack_74 rfl ?_
      refine z_aload_n dX0_bringBack_75 rfl ?_
      refine z_getR (q := 102) fl_X0_11 dX0_bringBack_76 en_101 rfl ?_
      refine z_iload_n dX0_bringBack_79 rfl ?_
      refine z_ic kc_p3 dX0_bringBack_80 ?_
      refine z_iadd dX0_bringBack_81 ?_
      refine z_ic kc_p2 dX0_bringBack_82 ?_
      refine z_iload_n dX0_bringBack_83 rfl ?_
      refine z_imul dX0_bringBack_84 ?_
      refine z_iadd dX0_bringBack_85 ?_
      refine z_cN (av := [.ref 102, .int ((x2 + (3 : Int32)) + ((2 : Int32) * x3))]) (st := [.int x3, .ref 87]) (v := some (.int (z_at M 102 1300 ((x2 + (3 : Int32)) + ((2 : Int32) * x3))))) lk_X0_47 dX0_bringBack_86 (A_X7_at (d := d + 1) hl (by decide) en_102) rfl rfl (Nat.le_of_ble_eq_true rfl) rfl z_len rfl rfl ?_
      refine z_aload_n dX0_bringBack_89 rfl ?_
      refine z_getR (q := 102) fl_X0_11 dX0_bringBack_90 en_101 rfl ?_
      refine z_iload_n dX0_bringBack_93 rfl ?_
      refine z_ic kc_p4 dX0_bringBack_94 ?_
      refine z_iadd dX0_bringBack_95 ?_
      refine z_ic kc_p2 dX0_bringBack_96 ?_
      refine z_iload_n dX0_bringBack_97 rfl ?_
      refine z_imul dX0_bringBack_98 ?_
      refine z_iadd dX0_bringBack_99 ?_
      refine z_cN (av := [.ref 102, .int ((x2 + (4 : Int32)) + ((2 : Int32) * x3))]) (st := [.int (z_at M 102 1300 ((x2 + (3 : Int32)) + ((2 : Int32) * x3))), .int x3, .ref 87]) (v := some (.int (z_at M 102 1300 ((x2 + (4 : Int32)) + ((2 : Int32) * x3))))) lk_X0_47 dX0_bringBack_100 (A_X7_at (d := d + 1) hl (by decide) en_102) rfl rfl (Nat.le_of_ble_eq_true rfl) rfl z_len rfl rfl ?_
      obtain ⟨M8, c6, h⟩ := z_bv_c h
      refine z_cV (av := [.int x3, .int (z_at M 102 1300 ((x2 + (3 : Int32)) + ((2 : Int32) * x3))), .int (z_at M 102 1300 ((x2 + (4 : Int32)) + ((2 : Int32) * x3)))]) (st := []) lk_X0_54 dX0_bringBack_103 (A_X4_place_87 (d := d + 0) hl c6) rfl rfl en_87 rfl (Nat.le_of_ble_eq_true rfl) rfl z_len rfl rfl ?_
      refine z_ii (ls' := [.ref 101, .ref 87, .int x2, .int (x3 + (1 : Int32))]) kc_p1 dX0_bringBack_106 rfl (by decide) rfl ?_
      refine z_goto (tgt := 68) dX0_bringBack_109 rfl ?_
      exact ih x2 (x3 + (1 : Int32)) _ _ _ h
theorem A_X0_bringBack_101_87_p49 {l : Launch} (hl : l.stackTraces = false) {Ls d : Nat} {Lm : zML} :
    ∀ (x2 : Int32) (a0 : Int32) (M M' : zMM) (v : Int32) , f_X0_bringBack_101_87_p49 x2 a0 M = some (v, M') → z_AW l mX0_bringBack (d + 2) 0 0 49 [.ref 101, .ref 87, .int x2, .null] [.int a0, .ref 87] (z_L0 Ls, M, Lm) (.inl (some (.int v))) (z_L0 Ls, M', Lm) := by
  intro x2 a0 M M' v h
  replace h : (  if z_zb a0 = true then
    f_X0_bringBack_101_87_p68 z_fuel x2 (0 : Int32) (z_up (z_up M 87 3 a0) 87 4 (z_at M 102 1300 (x2 + (2 : Int32))))
  else none) = some (v, M') := h
  obtain ⟨g3, h⟩ := z_ifn h
  refine z_pZ fp_X0_37 dX0_bringBack_49 (by decide) en_87 rfl g3 ?_
  refine z_aload_n dX0_bringBack_52 rfl ?_
  refine z_aload_n dX0_bringBack_53 rfl ?_
  refine z_getR (q := 102) fl_X0_11 dX0_bringBack_54 en_101 rfl ?_
  refine z_iload_n dX0_bringBack_57 rfl ?_
  refine z_ic kc_p2 dX0_bringBack_58 ?_
  refine z_iadd dX0_bringBack_59 ?_
  refine z_cN (av := [.ref 102, .int (x2 + (2 : Int32))]) (st := [.ref 87]) (v := some (.int (z_at M 102 1300 (x2 + (2 : Int32))))) lk_X0_47 dX0_bringBack_60 (A_X7_at (d := d + 1) hl (by decide) en_102) rfl rfl (Nat.le_of_ble_eq_true rfl) rfl z_len rfl rfl ?_
  refine z_pI fp_X0_41 dX0_bringBack_63 (by decide) en_87 rfl ?_
  refine z_ic kc_p0 dX0_bringBack_66 ?_
  refine z_istore_n (ls' := [.ref 101, .ref 87, .int x2, .int (0 : Int32)]) dX0_bringBack_67 (by decide) rfl ?_
  exact A_X0_bringBack_101_87_p68 hl z_fuel x2 (0 : Int32) _ _ _ h
theorem A_X0_bringBack_101_87 {l : Launch} (hl : l.stackTraces = false) {Ls d : Nat} {Lm : zML}  {M M' : zMM} {v : Int32} (h : f_X0_bringBack_101_87  M = some (v, M')) : z_Ct l mX0_bringBack (d + 2) 0 0 [.ref 101, .ref 87] (z_L0 Ls, M, Lm) (.inl (some (.int v))) (z_L0 Ls, M', Lm) := by
  replace h : (  if 0 < (M 101 2) then
    if (z_at M 102 1300 (((M 101 1) * (13 : Int32)) + (1 : Int32))) = (1 : Int32) then
      f_X0_bringBack_101_87_p49 ((M 101 1) * (13 : Int32)) (1 : Int32) (z_up M 87 2 (z_at M 102 1300 ((M 101 1) * (13 : Int32))))
    else
      f_X0_bringBack_101_87_p49 ((M 101 1) * (13 : Int32)) (0 : Int32) (z_up M 87 2 (z_at M 102 1300 ((M 101 1) * (13 : Int32))))
  else
    some ((0 : Int32), M)) = some (v, M') := h
  refine z_Ct.of hl (by decide) (Nat.le_of_ble_eq_true rfl) rfl ?_
  show z_AW l mX0_bringBack (d + 2) 0 0 0 [.ref 101, .ref 87, .null, .null] [] (z_L0 Ls, M, Lm) (.inl (some (.int v))) (z_L0 Ls, M', Lm)
  refine z_aload_n dX0_bringBack_0 rfl ?_
  refine z_gI (v := (M 101 2)) fl_X0_19 dX0_bringBack_1 en_101 rfl rfl ?_
  refine z_if_gt (tgt := 9) dX0_bringBack_4 rfl (fun g1 => ?_) (fun g1 => ?_)
  · replace h := (if_pos g1).symm.trans h
    refine z_aload_n dX0_bringBack_9 rfl ?_
    refine z_gI (v := (M 101 1)) fl_X0_15 dX0_bringBack_10 en_101 rfl rfl ?_
    refine z_bp kb_p13 dX0_bringBack_13 ?_
    refine z_imul dX0_bringBack_15 ?_
    refine z_istore_n (ls' := [.ref 101, .ref 87, .int ((M 101 1) * (13 : Int32)), .null]) dX0_bringBack_16 (by decide) rfl ?_
    refine z_aload_n dX0_bringBack_17 rfl ?_
    refine z_aload_n dX0_bringBack_18 rfl ?_
    refine z_getR (q := 102) fl_X0_11 dX0_bringBack_19 en_101 rfl ?_
    refine z_iload_n dX0_bringBack_22 rfl ?_
    refine z_cN (av := [.ref 102, .int ((M 101 1) * (13 : Int32))]) (st := [.ref 87]) (v := some (.int (z_at M 102 1300 ((M 101 1) * (13 : Int32))))) lk_X0_47 dX0_bringBack_23 (A_X7_at (d := d + 1) hl (by decide) en_102) rfl rfl (Nat.le_of_ble_eq_true rfl) rfl z_len rfl rfl ?_
    refine z_pI fp_X0_28 dX0_bringBack_26 (by decide) en_87 rfl ?_
    refine z_aload_n dX0_bringBack_29 rfl ?_
    refine z_aload_n dX0_bringBack_30 rfl ?_
    refine z_getR (q := 102) fl_X0_11 dX0_bringBack_31 en_101 rfl ?_
    refine z_iload_n dX0_bringBack_34 rfl ?_
    refine z_ic kc_p1 dX0_bringBack_35 ?_
    refine z_iadd dX0_bringBack_36 ?_
    refine z_cN (av := [.ref 102, .int (((M 101 1) * (13 : Int32)) + (1 : Int32))]) (st := [.ref 87]) (v := some (.int (z_at M 102 1300 (((M 101 1) * (13 : Int32)) + (1 : Int32))))) lk_X0_47 dX0_bringBack_37 (A_X7_at (d := d + 1) hl (by decide) en_102) rfl rfl (Nat.le_of_ble_eq_true rfl) rfl z_len rfl rfl ?_
    refine z_ic kc_p1 dX0_bringBack_40 ?_
    refine z_icmp_ne (tgt := 48) dX0_bringBack_41 rfl (fun g2 => ?_) (fun g2 => ?_)
    · replace h := (if_pos g2).symm.trans h
      refine z_ic kc_p1 dX0_bringBack_44 ?_
      refine z_goto (tgt := 49) dX0_bringBack_45 rfl ?_
      exact A_X0_bringBack_101_87_p49 hl ((M 101 1) * (13 : Int32)) (1 : Int32) _ _ _ h
    · replace h := (if_neg g2).symm.trans h
      refine z_ic kc_p0 dX0_bringBack_48 ?_
      exact A_X0_bringBack_101_87_p49 hl ((M 101 1) * (13 : Int32)) (0 : Int32) _ _ _ h
  · replace h := (if_neg g1).symm.trans h
    refine z_ic kc_p0 dX0_bringBack_7 ?_
    cases h
    exact z_rZ dX0_bringBack_8 rfl rfl
/-! X7_undo 51 -/
def f_X7_undo_51  (M : zMM) : Option (Int32 × zMM) :=
  z_bi (f_X0_bringBack_101_87  M) fun v2 M3 =>
  if z_zb v2 = true then some (v2, M3) else none
theorem A_X7_undo_51 {l : Launch} (hl : l.stackTraces = false) {Ls d : Nat} {Lm : zML}  {M M' : zMM} {v : Int32} (h : f_X7_undo_51  M = some (v, M')) : z_Ct l mX7_undo (d + 3) 0 0 [.ref 51] (z_L0 Ls, M, Lm) (.inl (some (.int v))) (z_L0 Ls, M', Lm) := by
  replace h : (  z_bi (f_X0_bringBack_101_87  M) fun v2 M3 =>
  if z_zb v2 = true then some (v2, M3) else none) = some (v, M') := h
  refine z_Ct.of hl (by decide) (Nat.le_of_ble_eq_true rfl) rfl ?_
  show z_AW l mX7_undo (d + 3) 0 0 0 [.ref 51] [] (z_L0 Ls, M, Lm) (.inl (some (.int v))) (z_L0 Ls, M', Lm)
  refine z_aload_n dX7_undo_0 rfl ?_
  refine z_getR (q := 101) fl_X7_72 dX7_undo_1 en_51 rfl ?_
  refine z_aload_n dX7_undo_4 rfl ?_
  refine z_getR (q := 87) fl_X7_58 dX7_undo_5 en_51 rfl ?_
  obtain ⟨v2, M3, c1, h⟩ := z_bi_c h
  refine z_cV (av := [.ref 87]) (st := []) lk_X7_305 dX7_undo_8 (A_X0_bringBack_101_87 (d := d + 0) hl c1) rfl rfl en_101 rfl (Nat.le_of_ble_eq_true rfl) rfl z_len rfl rfl ?_
  obtain ⟨g4, h⟩ := z_ifn h
  cases h
  exact z_rZ dX7_undo_11 rfl g4
/-! X7_weightOf  -/
def f_X7_weightOf (x0 : Int32) (M : zMM) : Option ((Int32 ⊕ Nat) × zMM) :=
  if x0 < (-1 : Int32) then
    some (.inr 1, M)
  else
    if x0 < (2000 : Int32) then
      if x0 = (-1 : Int32) then
        some (.inl (0 : Int32), M)
      else
        some (.inl (x0 - x0 / (100 : Int32) * (100 : Int32)), M)
    else
      some (.inr 1, M)
theorem A_X7_weightOf {l : Launch} (hl : l.stackTraces = false) {Ls d : Nat} {Lm : zML} {x0 : Int32} {M M' : zMM} {v : Int32 ⊕ Nat} (h : f_X7_weightOf x0 M = some (v, M')) : z_Ct l mX7_weightOf (d + 6) (z_bo v) (6 * z_bo v) [.int x0] (z_L0 Ls, M, Lm) (z_oi v) (z_L0 Ls, M', Lm) := by
  replace h : (  if x0 < (-1 : Int32) then
    some (.inr 1, M)
  else
    if x0 < (2000 : Int32) then
      if x0 = (-1 : Int32) then
        some (.inl (0 : Int32), M)
      else
        some (.inl (x0 - x0 / (100 : Int32) * (100 : Int32)), M)
    else
      some (.inr 1, M)) = some (v, M') := h
  refine z_Ct.of hl (by decide) (Nat.le_of_ble_eq_true rfl) rfl ?_
  show z_AW l mX7_weightOf (d + 6) (z_bo v) (6 * z_bo v) 0 [.int x0] [] (z_L0 Ls, M, Lm) (z_oi v) (z_L0 Ls, M', Lm)
  refine z_iload_n dX7_weightOf_0 rfl ?_
  refine z_ic kc_m1 dX7_weightOf_1 ?_
  refine z_icmp_lt (tgt := 12) dX7_weightOf_2 rfl (fun g1 => ?_) (fun g1 => ?_)
  · replace h := (if_pos g1).symm.trans h
    cases h
    exact z_throw (text := "no sort and weight") z_tpI (by decide +kernel) rfl (by omega) (Nat.le_of_ble_eq_true rfl) (Nat.le_refl _) (Nat.le_refl _) dX7_weightOf_12 dX7_weightOf_15 dX7_weightOf_16 dX7_weightOf_18 dX7_weightOf_21
  · replace h := (if_neg g1).symm.trans h
    refine z_iload_n dX7_weightOf_5 rfl ?_
    refine z_sp ks_p2000 dX7_weightOf_6 ?_
    refine z_icmp_lt (tgt := 22) dX7_weightOf_9 rfl (fun g2 => ?_) (fun g2 => ?_)
    · replace h := (if_pos g2).symm.trans h
      refine z_iload_n dX7_weightOf_22 rfl ?_
      refine z_ic kc_m1 dX7_weightOf_23 ?_
      refine z_icmp_ne (tgt := 31) dX7_weightOf_24 rfl (fun g3 => ?_) (fun g3 => ?_)
      · replace h := (if_pos g3).symm.trans h
        refine z_ic kc_p0 dX7_weightOf_27 ?_
        refine z_goto (tgt := 35) dX7_weightOf_28 rfl ?_
        cases h
        exact z_rI dX7_weightOf_35 rfl
      · replace h := (if_neg g3).symm.trans h
        refine z_iload_n dX7_weightOf_31 rfl ?_
        refine z_bp kb_p100 dX7_weightOf_32 ?_
        refine z_irem dX7_weightOf_34 (by decide) ?_
        cases h
        exact z_rI dX7_weightOf_35 rfl
    · replace h := (if_neg g2).symm.trans h
      cases h
      exact z_throw (text := "no sort and weight") z_tpI (by decide +kernel) rfl (by omega) (Nat.le_of_ble_eq_true rfl) (Nat.le_refl _) (Nat.le_refl _) dX7_weightOf_12 dX7_weightOf_15 dX7_weightOf_16 dX7_weightOf_18 dX7_weightOf_21
/-! X7_orThousand  -/
def f_X7_orThousand (x0 : Int32) (M : zMM) : Option (Int32 × zMM) :=
  if x0 = (-1 : Int32) then
    some ((1000 : Int32), M)
  else
    some (x0, M)
theorem A_X7_orThousand {l : Launch} (hl : l.stackTraces = false) {Ls d : Nat} {Lm : zML} {x0 : Int32} {M M' : zMM} {v : Int32} (h : f_X7_orThousand x0 M = some (v, M')) : z_Ct l mX7_orThousand (d + 0) 0 0 [.int x0] (z_L0 Ls, M, Lm) (.inl (some (.int v))) (z_L0 Ls, M', Lm) := by
  replace h : (  if x0 = (-1 : Int32) then
    some ((1000 : Int32), M)
  else
    some (x0, M)) = some (v, M') := h
  refine z_Ct.of hl (by decide) (Nat.le_of_ble_eq_true rfl) rfl ?_
  show z_AW l mX7_orThousand (d + 0) 0 0 0 [.int x0] [] (z_L0 Ls, M, Lm) (.inl (some (.int v))) (z_L0 Ls, M', Lm)
  refine z_iload_n dX7_orThousand_0 rfl ?_
  refine z_ic kc_m1 dX7_orThousand_1 ?_
  refine z_icmp_ne (tgt := 11) dX7_orThousand_2 rfl (fun g1 => ?_) (fun g1 => ?_)
  · replace h := (if_pos g1).symm.trans h
    refine z_sp ks_p1000 dX7_orThousand_5 ?_
    refine z_goto (tgt := 12) dX7_orThousand_8 rfl ?_
    cases h
    exact z_rI dX7_orThousand_12 rfl
  · replace h := (if_neg g1).symm.trans h
    refine z_iload_n dX7_orThousand_11 rfl ?_
    cases h
    exact z_rI dX7_orThousand_12 rfl
/-! X7_weighed 51 -/
def f_X7_weighed_51 (x1 : Int32) (x2 : Int32) (x3 : Int32) (x4 : Int32) (M : zMM) : Option (Int32 × zMM) :=
  if x4 = (-1 : Int32) then
    some ((0 : Int32), M)
  else
    z_bi (f_X2_byThings_83 x1 x2 x3 (x4 / (100 : Int32)) M) fun v3 M4 =>
    z_bi (f_X7_orThousand v3 M4) fun v6 M7 =>
    some (((x4 - x4 / (100 : Int32) * (100 : Int32)) * v6), M7)
theorem A_X7_weighed_51 {l : Launch} (hl : l.stackTraces = false) {Ls d : Nat} {Lm : zML} {x1 : Int32} {x2 : Int32} {x3 : Int32} {x4 : Int32} {M M' : zMM} {v : Int32} (h : f_X7_weighed_51 x1 x2 x3 x4 M = some (v, M')) : z_Ct l mX7_weighed (d + 5) 0 0 [.ref 51, .int x1, .int x2, .int x3, .int x4] (z_L0 Ls, M, Lm) (.inl (some (.int v))) (z_L0 Ls, M', Lm) := by
  replace h : (  if x4 = (-1 : Int32) then
    some ((0 : Int32), M)
  else
    z_bi (f_X2_byThings_83 x1 x2 x3 (x4 / (100 : Int32)) M) fun v3 M4 =>
    z_bi (f_X7_orThousand v3 M4) fun v6 M7 =>
    some (((x4 - x4 / (100 : Int32) * (100 : Int32)) * v6), M7)) = some (v, M') := h
  refine z_Ct.of hl (by decide) (Nat.le_of_ble_eq_true rfl) rfl ?_
  show z_AW l mX7_weighed (d + 5) 0 0 0 [.ref 51, .int x1, .int x2, .int x3, .int x4] [] (z_L0 Ls, M, Lm) (.inl (some (.int v))) (z_L0 Ls, M', Lm)
  refine z_iload dX7_weighed_0 rfl ?_
  refine z_ic kc_m1 dX7_weighed_2 ?_
  refine z_icmp_ne (tgt := 8) dX7_weighed_3 rfl (fun g1 => ?_) (fun g1 => ?_)
  · replace h := (if_pos g1).symm.trans h
    refine z_ic kc_p0 dX7_weighed_6 ?_
    cases h
    exact z_rI dX7_weighed_7 rfl
  · replace h := (if_neg g1).symm.trans h
    refine z_iload dX7_weighed_8 rfl ?_
    refine z_bp kb_p100 dX7_weighed_10 ?_
    refine z_irem dX7_weighed_12 (by decide) ?_
    refine z_aload_n dX7_weighed_13 rfl ?_
    refine z_getR (q := 83) fl_X7_51 dX7_weighed_14 en_51 rfl ?_
    refine z_iload_n dX7_weighed_17 rfl ?_
    refine z_iload_n dX7_weighed_18 rfl ?_
    refine z_iload_n dX7_weighed_19 rfl ?_
    refine z_iload dX7_weighed_20 rfl ?_
    refine z_bp kb_p100 dX7_weighed_22 ?_
    refine z_idiv dX7_weighed_24 (by decide) ?_
    obtain ⟨v3, M4, c2, h⟩ := z_bi_c h
    refine z_cV (av := [.int x1, .int x2, .int x3, .int (x4 / (100 : Int32))]) (st := [.int (x4 - x4 / (100 : Int32) * (100 : Int32))]) lk_X7_208 dX7_weighed_25 (A_X2_byThings_83 (d := d + 0) hl c2) rfl rfl en_83 rfl (Nat.le_of_ble_eq_true rfl) rfl z_len rfl rfl ?_
    obtain ⟨v6, M7, c5, h⟩ := z_bi_c h
    refine z_cS (av := [.int v3]) (st := [.int (x4 - x4 / (100 : Int32) * (100 : Int32))]) lk_X7_242 dX7_weighed_28 (A_X7_orThousand (d := d + 4) hl c5) rfl rfl (Nat.le_of_ble_eq_true rfl) rfl z_len rfl rfl ?_
    refine z_imul dX7_weighed_31 ?_
    cases h
    exact z_rI dX7_weighed_32 rfl
/-! X7_unopened 51 -/
def f_X7_unopened_51 (x1 : Int32) (x2 : Int32) (x3 : Int32) (x4 : Int32) (x5 : Int32) (M : zMM) : Option ((Int32 ⊕ Nat) × zMM) :=
  z_bt (f_X7_checkPlay_51 x1 M) fun v2 M3 =>
    z_bt (f_X7_checkTown_51 x2 M3) fun v6 M7 =>
      z_bt (f_X7_weightOf x3 M7) fun v10 M11 =>
        z_bt (f_X7_weightOf x4 M11) fun v14 M15 =>
          z_bt (f_X7_weightOf x5 M15) fun v18 M19 =>
            if 0 < ((v10 + v14) + v18) then
              z_bi (f_X4_trunksIn_87 x2 M19) fun v23 M24 =>
              z_bi (f_X5_thingsOf_53 v23 M24) fun v26 M27 =>
              z_bi (f_X2_byThings_83 x1 x2 v26 (-1 : Int32) M27) fun v29 M30 =>
              z_bi (f_X7_orThousand v29 M30) fun v32 M33 =>
              z_bi (f_X7_weighed_51 x1 x2 v26 x3 M33) fun v35 M36 =>
              z_bi (f_X7_weighed_51 x1 x2 v26 x4 M36) fun v38 M39 =>
              z_bi (f_X7_weighed_51 x1 x2 v26 x5 M39) fun v41 M42 =>
              if ¬ ((v10 + v14) + v18) = 0 then
                some (.inl (v32 - (((v35 + v38) + v41) / ((v10 + v14) + v18))), M42)
              else none
            else
              some (.inr 1, M19)
theorem A_X7_unopened_51 {l : Launch} (hl : l.stackTraces = false) {Ls d : Nat} {Lm : zML} {x1 : Int32} {x2 : Int32} {x3 : Int32} {x4 : Int32} {x5 : Int32} {M M' : zMM} {v : Int32 ⊕ Nat} (h : f_X7_unopened_51 x1 x2 x3 x4 x5 M = some (v, M')) : z_Ct l mX7_unopened (d + 7) (z_bo v) (6 * z_bo v) [.ref 51, .int x1, .int x2, .int x3, .int x4, .int x5] (z_L0 Ls, M, Lm) (z_oi v) (z_L0 Ls, M', Lm) := by
  replace h : (  z_bt (f_X7_checkPlay_51 x1 M) fun v2 M3 =>
    z_bt (f_X7_checkTown_51 x2 M3) fun v6 M7 =>
      z_bt (f_X7_weightOf x3 M7) fun v10 M11 =>
        z_bt (f_X7_weightOf x4 M11) fun v14 M15 =>
          z_bt (f_X7_weightOf x5 M15) fun v18 M19 =>
            if 0 < ((v10 + v14) + v18) then
              z_bi (f_X4_trunksIn_87 x2 M19) fun v23 M24 =>
              z_bi (f_X5_thingsOf_53 v23 M24) fun v26 M27 =>
              z_bi (f_X2_byThings_83 x1 x2 v26 (-1 : Int32) M27) fun v29 M30 =>
              z_bi (f_X7_orThousand v29 M30) fun v32 M33 =>
              z_bi (f_X7_weighed_51 x1 x2 v26 x3 M33) fun v35 M36 =>
              z_bi (f_X7_weighed_51 x1 x2 v26 x4 M36) fun v38 M39 =>
              z_bi (f_X7_weighed_51 x1 x2 v26 x5 M39) fun v41 M42 =>
              if ¬ ((v10 + v14) + v18) = 0 then
                some (.inl (v32 - (((v35 + v38) + v41) / ((v10 + v14) + v18))), M42)
              else none
            else
              some (.inr 1, M19)) = some (v, M') := h
  refine z_Ct.of hl (by decide) (Nat.le_of_ble_eq_true rfl) rfl ?_
  show z_AW l mX7_unopened (d + 7) (z_bo v) (6 * z_bo v) 0 [.ref 51, .int x1, .int x2, .int x3, .int x4, .int x5, .null, .null, .null, .null] [] (z_L0 Ls, M, Lm) (z_oi v) (z_L0 Ls, M', Lm)
  refine z_aload_n dX7_unopened_0 rfl ?_
  refine z_iload_n dX7_unopened_1 rfl ?_
  rcases z_bt_c h with ⟨v2, M3, c1, h⟩ | ⟨e4, c1, rfl⟩
  · refine z_cV (av := [.int x1]) (st := []) lk_X7_200 dX7_unopened_2 (z_tv (A_X7_checkPlay_51 (d := d + 0) hl c1)) rfl rfl en_51 rfl (Nat.le_of_ble_eq_true rfl) rfl z_len rfl rfl ?_
    refine z_aload_n dX7_unopened_5 rfl ?_
    refine z_iload_n dX7_unopened_6 rfl ?_
    rcases z_bt_c h with ⟨v6, M7, c5, h⟩ | ⟨e8, c5, rfl⟩
    · refine z_cV (av := [.int x2]) (st := []) lk_X7_162 dX7_unopened_7 (z_tv (A_X7_checkTown_51 (d := d + 0) hl c5)) rfl rfl en_51 rfl (Nat.le_of_ble_eq_true rfl) rfl z_len rfl rfl ?_
      refine z_iload_n dX7_unopened_10 rfl ?_
      rcases z_bt_c h with ⟨v10, M11, c9, h⟩ | ⟨e12, c9, rfl⟩
      · refine z_cS (av := [.int x3]) (st := []) lk_X7_237 dX7_unopened_11 (z_ti (A_X7_weightOf (d := d + 0) hl c9)) rfl rfl (Nat.le_of_ble_eq_true rfl) rfl z_len rfl rfl ?_
        refine z_iload dX7_unopened_14 rfl ?_
        rcases z_bt_c h with ⟨v14, M15, c13, h⟩ | ⟨e16, c13, rfl⟩
        · refine z_cS (av := [.int x4]) (st := [.int v10]) lk_X7_237 dX7_unopened_16 (z_ti (A_X7_weightOf (d := d + 0) hl c13)) rfl rfl (Nat.le_of_ble_eq_true rfl) rfl z_len rfl rfl ?_
          refine z_iadd dX7_unopened_19 ?_
          refine z_iload dX7_unopened_20 rfl ?_
          rcases z_bt_c h with ⟨v18, M19, c17, h⟩ | ⟨e20, c17, rfl⟩
          · refine z_cS (av := [.int x5]) (st := [.int (v10 + v14)]) lk_X7_237 dX7_unopened_22 (z_ti (A_X7_weightOf (d := d + 0) hl c17)) rfl rfl (Nat.le_of_ble_eq_true rfl) rfl z_len rfl rfl ?_
            refine z_iadd dX7_unopened_25 ?_
            refine z_istore (ls' := [.ref 51, .int x1, .int x2, .int x3, .int x4, .int x5, .int ((v10 + v14) + v18), .null, .null, .null]) dX7_unopened_26 (by decide) rfl ?_
            refine z_iload dX7_unopened_28 rfl ?_
            refine z_if_gt (tgt := 43) dX7_unopened_30 rfl (fun g21 => ?_) (fun g21 => ?_)
            · replace h := (if_pos g21).symm.trans h
              refine z_aload_n dX7_unopened_43 rfl ?_
              refine z_getR (q := 53) fl_X7_23 dX7_unopened_44 en_51 rfl ?_
              refine z_aload_n dX7_unopened_47 rfl ?_
              refine z_getR (q := 87) fl_X7_58 dX7_unopened_48 en_51 rfl ?_
              refine z_iload_n dX7_unopened_51 rfl ?_
              obtain ⟨v23, M24, c22, h⟩ := z_bi_c h
              refine z_cV (av := [.int x2]) (st := [.ref 53]) lk_X7_177 dX7_unopened_52 (A_X4_trunksIn_87 (d := d + 4) hl c22) rfl rfl en_87 rfl (Nat.le_of_ble_eq_true rfl) rfl z_len rfl rfl ?_
              obtain ⟨v26, M27, c25, h⟩ := z_bi_c h
              refine z_cV (av := [.int v23]) (st := []) lk_X7_180 dX7_unopened_55 (A_X5_thingsOf_53 (d := d + 5) hl c25) rfl rfl en_53 rfl (Nat.le_of_ble_eq_true rfl) rfl z_len rfl rfl ?_
              refine z_istore (ls' := [.ref 51, .int x1, .int x2, .int x3, .int x4, .int x5, .int ((v10 + v14) + v18), .int v26, .null, .null]) dX7_unopened_58 (by decide) rfl ?_
              refine z_aload_n dX7_unopened_60 rfl ?_
              refine z_getR (q := 83) fl_X7_51 dX7_unopened_61 en_51 rfl ?_
              refine z_iload_n dX7_unopened_64 rfl ?_
              refine z_iload_n dX7_unopened_65 rfl ?_
              refine z_iload dX7_unopened_66 rfl ?_
              refine z_ic kc_m1 dX7_unopened_68 ?_
              obtain ⟨v29, M30, c28, h⟩ := z_bi_c h
              refine z_cV (av := [.int x1, .int x2, .int v26, .int (-1 : Int32)]) (st := []) lk_X7_208 dX7_unopened_69 (A_X2_byThings_83 (d := d + 2) hl c28) rfl rfl en_83 rfl (Nat.le_of_ble_eq_true rfl) rfl z_len rfl rfl ?_
              obtain ⟨v32, M33, c31, h⟩ := z_bi_c h
              refine z_cS (av := [.int v29]) (st := []) lk_X7_242 dX7_unopened_72 (A_X7_orThousand (d := d + 6) hl c31) rfl rfl (Nat.le_of_ble_eq_true rfl) rfl z_len rfl rfl ?_
              refine z_istore (ls' := [.ref 51, .int x1, .int x2, .int x3, .int x4, .int x5, .int ((v10 + v14) + v18), .int v26, .int v32, .null]) dX7_unopened_75 (by decide) rfl ?_
              refine z_aload_n dX7_unopened_77 rfl ?_
              refine z_iload_n dX7_unopened_78 rfl ?_
              refine z_iload_n dX7_unopened_79 rfl ?_
              refine z_iload dX7_unopened_80 rfl ?_
              refine z_iload_n dX7_unopened_82 rfl ?_
              obtain ⟨v35, M36, c34, h⟩ := z_bi_c h
              refine z_cV (av := [.int x1, .int x2, .int v26, .int x3]) (st := []) lk_X7_245 dX7_unopened_83 (A_X7_weighed_51 (d := d + 1) hl c34) rfl rfl en_51 rfl (Nat.le_of_ble_eq_true rfl) rfl z_len rfl rfl ?_
              refine z_aload_n dX7_unopened_86 rfl ?_
              refine z_iload_n dX7_unopened_87 rfl ?_
              refine z_iload_n dX7_unopened_88 rfl ?_
              refine z_iload dX7_unopened_89 rfl ?_
              refine z_iload dX7_unopened_91 rfl ?_
              obtain ⟨v38, M39, c37, h⟩ := z_bi_c h
              refine z_cV (av := [.int x1, .int x2, .int v26, .int x4]) (st := [.int v35]) lk_X7_245 dX7_unopened_93 (A_X7_weighed_51 (d := d + 1) hl c37) rfl rfl en_51 rfl (Nat.le_of_ble_eq_true rfl) rfl z_len rfl rfl ?_
              refine z_iadd dX7_unopened_96 ?_
              refine z_aload_n dX7_unopened_97 rfl ?_
              refine z_iload_n dX7_unopened_98 rfl ?_
              refine z_iload_n dX7_unopened_99 rfl ?_
              refine z_iload dX7_unopened_100 rfl ?_
              refine z_iload dX7_unopened_102 rfl ?_
              obtain ⟨v41, M42, c40, h⟩ := z_bi_c h
              refine z_cV (av := [.int x1, .int x2, .int v26, .int x5]) (st := [.int (v35 + v38)]) lk_X7_245 dX7_unopened_104 (A_X7_weighed_51 (d := d + 1) hl c40) rfl rfl en_51 rfl (Nat.le_of_ble_eq_true rfl) rfl z_len rfl rfl ?_
              refine z_iadd dX7_unopened_107 ?_
              refine z_istore (ls' := [.ref 51, .int x1, .int x2, .int x3, .int x4, .int x5, .int ((v10 + v14) + v18), .int v26, .int v32, .int ((v35 + v38) + v41)]) dX7_unopened_108 (by decide) rfl ?_
              refine z_iload dX7_unopened_110 rfl ?_
              refine z_iload dX7_unopened_112 rfl ?_
              refine z_iload dX7_unopened_114 rfl ?_
              obtain ⟨g43, h⟩ := z_ifn h
              refine z_idiv dX7_unopened_116 g43 ?_
              refine z_isub dX7_unopened_117 ?_
              cases h
              exact z_rI dX7_unopened_118 rfl
            · replace h := (if_neg g21).symm.trans h
              cases h
              exact z_throw (text := "no weight at all") z_tpI (by decide +kernel) rfl (by omega) (Nat.le_of_ble_eq_true rfl) (Nat.le_refl _) (Nat.le_refl _) dX7_unopened_33 dX7_unopened_36 dX7_unopened_37 dX7_unopened_39 dX7_unopened_42
          · exact z_cSx (av := [.int x5]) (st := [.int (v10 + v14)]) lk_X7_237 dX7_unopened_22 (A_X7_weightOf (d := d + 0) hl c17) rfl rfl (Nat.le_of_ble_eq_true rfl) rfl z_len rfl rfl (Nat.le_refl _) (Nat.le_refl _)
        · exact z_cSx (av := [.int x4]) (st := [.int v10]) lk_X7_237 dX7_unopened_16 (A_X7_weightOf (d := d + 0) hl c13) rfl rfl (Nat.le_of_ble_eq_true rfl) rfl z_len rfl rfl (Nat.le_refl _) (Nat.le_refl _)
      · exact z_cSx (av := [.int x3]) (st := []) lk_X7_237 dX7_unopened_11 (A_X7_weightOf (d := d + 0) hl c9) rfl rfl (Nat.le_of_ble_eq_true rfl) rfl z_len rfl rfl (Nat.le_refl _) (Nat.le_refl _)
    · exact z_cVx (av := [.int x2]) (st := []) lk_X7_162 dX7_unopened_7 (A_X7_checkTown_51 (d := d + 0) hl c5) rfl rfl en_51 rfl (Nat.le_of_ble_eq_true rfl) rfl z_len rfl rfl (Nat.le_refl _) (Nat.le_refl _)
  · exact z_cVx (av := [.int x1]) (st := []) lk_X7_200 dX7_unopened_2 (A_X7_checkPlay_51 (d := d + 0) hl c1) rfl rfl en_51 rfl (Nat.le_of_ble_eq_true rfl) rfl z_len rfl rfl (Nat.le_refl _) (Nat.le_refl _)
/-! X7_way 51 -/
def f_X7_way_51 (x1 : Int32) (x2 : Int32) (M : zMM) : Option ((Int32 ⊕ Nat) × zMM) :=
  z_bt (f_X7_checkTown_51 x1 M) fun v2 M3 =>
    z_bt (f_X7_checkTown_51 x2 M3) fun v6 M7 =>
      z_bi (f_X6_span_80 x1 x2 M7) fun v10 M11 =>
      some (.inl v10, M11)
theorem A_X7_way_51 {l : Launch} (hl : l.stackTraces = false) {Ls d : Nat} {Lm : zML} {x1 : Int32} {x2 : Int32} {M M' : zMM} {v : Int32 ⊕ Nat} (h : f_X7_way_51 x1 x2 M = some (v, M')) : z_Ct l mX7_way (d + 7) (z_bo v) (6 * z_bo v) [.ref 51, .int x1, .int x2] (z_L0 Ls, M, Lm) (z_oi v) (z_L0 Ls, M', Lm) := by
  replace h : (  z_bt (f_X7_checkTown_51 x1 M) fun v2 M3 =>
    z_bt (f_X7_checkTown_51 x2 M3) fun v6 M7 =>
      z_bi (f_X6_span_80 x1 x2 M7) fun v10 M11 =>
      some (.inl v10, M11)) = some (v, M') := h
  refine z_Ct.of hl (by decide) (Nat.le_of_ble_eq_true rfl) rfl ?_
  show z_AW l mX7_way (d + 7) (z_bo v) (6 * z_bo v) 0 [.ref 51, .int x1, .int x2] [] (z_L0 Ls, M, Lm) (z_oi v) (z_L0 Ls, M', Lm)
  refine z_aload_n dX7_way_0 rfl ?_
  refine z_iload_n dX7_way_1 rfl ?_
  rcases z_bt_c h with ⟨v2, M3, c1, h⟩ | ⟨e4, c1, rfl⟩
  · refine z_cV (av := [.int x1]) (st := []) lk_X7_162 dX7_way_2 (z_tv (A_X7_checkTown_51 (d := d + 0) hl c1)) rfl rfl en_51 rfl (Nat.le_of_ble_eq_true rfl) rfl z_len rfl rfl ?_
    refine z_aload_n dX7_way_5 rfl ?_
    refine z_iload_n dX7_way_6 rfl ?_
    rcases z_bt_c h with ⟨v6, M7, c5, h⟩ | ⟨e8, c5, rfl⟩
    · refine z_cV (av := [.int x2]) (st := []) lk_X7_162 dX7_way_7 (z_tv (A_X7_checkTown_51 (d := d + 0) hl c5)) rfl rfl en_51 rfl (Nat.le_of_ble_eq_true rfl) rfl z_len rfl rfl ?_
      refine z_aload_n dX7_way_10 rfl ?_
      refine z_getR (q := 80) fl_X7_44 dX7_way_11 en_51 rfl ?_
      refine z_iload_n dX7_way_14 rfl ?_
      refine z_iload_n dX7_way_15 rfl ?_
      obtain ⟨v10, M11, c9, h⟩ := z_bi_c h
      refine z_cV (av := [.int x1, .int x2]) (st := []) lk_X7_250 dX7_way_16 (A_X6_span_80 (d := d + 5) hl c9) rfl rfl en_80 rfl (Nat.le_of_ble_eq_true rfl) rfl z_len rfl rfl ?_
      cases h
      exact z_rI dX7_way_19 rfl
    · exact z_cVx (av := [.int x2]) (st := []) lk_X7_162 dX7_way_7 (A_X7_checkTown_51 (d := d + 0) hl c5) rfl rfl en_51 rfl (Nat.le_of_ble_eq_true rfl) rfl z_len rfl rfl (Nat.le_refl _) (Nat.le_refl _)
  · exact z_cVx (av := [.int x1]) (st := []) lk_X7_162 dX7_way_2 (A_X7_checkTown_51 (d := d + 0) hl c1) rfl rfl en_51 rfl (Nat.le_of_ble_eq_true rfl) rfl z_len rfl rfl (Nat.le_refl _) (Nat.le_refl _)
/-! X8_isIn  -/
def f_X8_isIn (x0 : Int32) (x1 : Int32) (x2 : Int32) (M : zMM) : Option (Int32 × zMM) :=
  if x0 < x1 then
    some ((0 : Int32), M)
  else
    if x2 < x0 then
      some ((0 : Int32), M)
    else
      some ((1 : Int32), M)
theorem A_X8_isIn {l : Launch} (hl : l.stackTraces = false) {Ls d : Nat} {Lm : zML} {x0 : Int32} {x1 : Int32} {x2 : Int32} {M M' : zMM} {v : Int32} (h : f_X8_isIn x0 x1 x2 M = some (v, M')) : z_Ct l mX8_isIn (d + 0) 0 0 [.int x0, .int x1, .int x2] (z_L0 Ls, M, Lm) (.inl (some (.int v))) (z_L0 Ls, M', Lm) := by
  replace h : (  if x0 < x1 then
    some ((0 : Int32), M)
  else
    if x2 < x0 then
      some ((0 : Int32), M)
    else
      some ((1 : Int32), M)) = some (v, M') := h
  refine z_Ct.of hl (by decide) (Nat.le_of_ble_eq_true rfl) rfl ?_
  show z_AW l mX8_isIn (d + 0) 0 0 0 [.int x0, .int x1, .int x2] [] (z_L0 Ls, M, Lm) (.inl (some (.int v))) (z_L0 Ls, M', Lm)
  refine z_iload_n dX8_isIn_0 rfl ?_
  refine z_iload_n dX8_isIn_1 rfl ?_
  refine z_icmp_lt (tgt := 14) dX8_isIn_2 rfl (fun g1 => ?_) (fun g1 => ?_)
  · replace h := (if_pos g1).symm.trans h
    refine z_ic kc_p0 dX8_isIn_14 ?_
    cases h
    exact z_rZ dX8_isIn_15 rfl rfl
  · replace h := (if_neg g1).symm.trans h
    refine z_iload_n dX8_isIn_5 rfl ?_
    refine z_iload_n dX8_isIn_6 rfl ?_
    refine z_icmp_gt (tgt := 14) dX8_isIn_7 rfl (fun g2 => ?_) (fun g2 => ?_)
    · replace h := (if_pos g2).symm.trans h
      refine z_ic kc_p0 dX8_isIn_14 ?_
      cases h
      exact z_rZ dX8_isIn_15 rfl rfl
    · replace h := (if_neg g2).symm.trans h
      refine z_ic kc_p1 dX8_isIn_10 ?_
      refine z_goto (tgt := 15) dX8_isIn_11 rfl ?_
      cases h
      exact z_rZ dX8_isIn_15 rfl rfl
/-! X8_isTown 107 -/
def f_X8_isTown_107 (x1 : Int32) (M : zMM) : Option (Int32 × zMM) :=
  z_bi (f_X8_isIn x1 (0 : Int32) ((M 109 0) - (1 : Int32)) M) fun v2 M3 =>
  if z_zb v2 = true then some (v2, M3) else none
theorem A_X8_isTown_107 {l : Launch} (hl : l.stackTraces = false) {Ls d : Nat} {Lm : zML} {x1 : Int32} {M M' : zMM} {v : Int32} (h : f_X8_isTown_107 x1 M = some (v, M')) : z_Ct l mX8_isTown (d + 1) 0 0 [.ref 107, .int x1] (z_L0 Ls, M, Lm) (.inl (some (.int v))) (z_L0 Ls, M', Lm) := by
  replace h : (  z_bi (f_X8_isIn x1 (0 : Int32) ((M 109 0) - (1 : Int32)) M) fun v2 M3 =>
  if z_zb v2 = true then some (v2, M3) else none) = some (v, M') := h
  refine z_Ct.of hl (by decide) (Nat.le_of_ble_eq_true rfl) rfl ?_
  show z_AW l mX8_isTown (d + 1) 0 0 0 [.ref 107, .int x1] [] (z_L0 Ls, M, Lm) (.inl (some (.int v))) (z_L0 Ls, M', Lm)
  refine z_iload_n dX8_isTown_0 rfl ?_
  refine z_ic kc_p0 dX8_isTown_1 ?_
  refine z_aload_n dX8_isTown_2 rfl ?_
  refine z_getR (q := 109) fl_X8_23 dX8_isTown_3 en_107 rfl ?_
  refine z_ic kc_p0 dX8_isTown_6 ?_
  refine z_al (v := (M 109 0)) dX8_isTown_7 en_109 kn_p0 (z_ib_in rfl) rfl ?_
  refine z_ic kc_p1 dX8_isTown_8 ?_
  refine z_isub dX8_isTown_9 ?_
  obtain ⟨v2, M3, c1, h⟩ := z_bi_c h
  refine z_cS (av := [.int x1, .int (0 : Int32), .int ((M 109 0) - (1 : Int32))]) (st := []) lk_X8_152 dX8_isTown_10 (A_X8_isIn (d := d + 0) hl c1) rfl rfl (Nat.le_of_ble_eq_true rfl) rfl z_len rfl rfl ?_
  obtain ⟨g4, h⟩ := z_ifn h
  cases h
  exact z_rZ dX8_isTown_13 rfl g4
/-! X8_fail 107 -/
def f_X8_fail_107 (x1 : Int32) (M : zMM) : Option (Int32 × zMM) :=
  some ((0 : Int32), (z_up M 107 1 x1))
theorem A_X8_fail_107 {l : Launch} (hl : l.stackTraces = false) {Ls d : Nat} {Lm : zML} {x1 : Int32} {M M' : zMM} {v : Int32} (h : f_X8_fail_107 x1 M = some (v, M')) : z_Ct l mX8_fail (d + 0) 0 0 [.ref 107, .int x1] (z_L0 Ls, M, Lm) (.inl (some (.int v))) (z_L0 Ls, M', Lm) := by
  replace h : (  some ((0 : Int32), (z_up M 107 1 x1))) = some (v, M') := h
  refine z_Ct.of hl (by decide) (Nat.le_of_ble_eq_true rfl) rfl ?_
  show z_AW l mX8_fail (d + 0) 0 0 0 [.ref 107, .int x1] [] (z_L0 Ls, M, Lm) (.inl (some (.int v))) (z_L0 Ls, M', Lm)
  refine z_aload_n dX8_fail_0 rfl ?_
  refine z_iload_n dX8_fail_1 rfl ?_
  refine z_pI fp_X8_149 dX8_fail_2 (by decide) en_107 rfl ?_
  refine z_ic kc_p0 dX8_fail_5 ?_
  cases h
  exact z_rI dX8_fail_6 rfl
/-! X8_trunksAt 107 -/
def f_X8_trunksAt_107_p4 : Nat → Int32 → Int32 → Int32 → zMM → Option (Int32 × zMM)
  | 0, _, _, _, _ => none
  | n + 1, x1, x2, x3, M =>
  if (M 109 1) ≤ x3 then
    some (x2, M)
  else
    if z_ib x3 5 = true then
      if (M 124 x3.toNatClampNeg) = x1 then
        if z_ib x3 5 = true then
          if (M 107 29) < (M 125 x3.toNatClampNeg) then
            f_X8_trunksAt_107_p4 n x1 (x2 ||| (0 : Int32)) (x3 + (1 : Int32)) M
          else
            f_X8_trunksAt_107_p4 n x1 (x2 ||| ((1 : Int32) <<< (x3 &&& 31))) (x3 + (1 : Int32)) M
        else none
      else
        f_X8_trunksAt_107_p4 n x1 (x2 ||| (0 : Int32)) (x3 + (1 : Int32)) M
    else none
def f_X8_trunksAt_107 (x1 : Int32) (M : zMM) : Option (Int32 × zMM) :=
  f_X8_trunksAt_107_p4 z_fuel x1 (0 : Int32) (0 : Int32) M
theorem A_X8_trunksAt_107_p4 {l : Launch} (hl : l.stackTraces = false) {Ls d : Nat} {Lm : zML} :
    ∀ (n : Nat) (x1 : Int32) (x2 : Int32) (x3 : Int32) (M M' : zMM) (v : Int32) , f_X8_trunksAt_107_p4 n x1 x2 x3 M = some (v, M') → z_AW l mX8_trunksAt (d + 0) 0 0 4 [.ref 107, .int x1, .int x2, .int x3] [] (z_L0 Ls, M, Lm) (.inl (some (.int v))) (z_L0 Ls, M', Lm) := by
  intro n
  induction n with
  | zero => intro x1 x2 x3 M M' v h; cases h
  | succ n ih =>
    intro x1 x2 x3 M M' v h
    replace h : (  if (M 109 1) ≤ x3 then
    some (x2, M)
  else
    if z_ib x3 5 = true then
      if (M 124 x3.toNatClampNeg) = x1 then
        if z_ib x3 5 = true then
          if (M 107 29) < (M 125 x3.toNatClampNeg) then
            f_X8_trunksAt_107_p4 n x1 (x2 ||| (0 : Int32)) (x3 + (1 : Int32)) M
          else
            f_X8_trunksAt_107_p4 n x1 (x2 ||| ((1 : Int32) <<< (x3 &&& 31))) (x3 + (1 : Int32)) M
        else none
      else
        f_X8_trunksAt_107_p4 n x1 (x2 ||| (0 : Int32)) (x3 + (1 : Int32)) M
    else none) = some (v, M') := h
    refine z_iload_n dX8_trunksAt_4 rfl ?_
    refine z_aload_n dX8_trunksAt_5 rfl ?_
    refine z_getR (q := 109) fl_X8_23 dX8_trunksAt_6 en_107 rfl ?_
    refine z_ic kc_p1 dX8_trunksAt_9 ?_
    refine z_al (v := (M 109 1)) dX8_trunksAt_10 en_109 kn_p1 (z_ib_in rfl) rfl ?_
    refine z_icmp_ge (tgt := 53) dX8_trunksAt_11 rfl (fun g1 => ?_) (fun g1 => ?_)
    · replace h := (if_pos g1).symm.trans h
      refine z_iload_n dX8_trunksAt_53 rfl ?_
      cases h
      exact z_rI dX8_trunksAt_54 rfl
    · replace h := (if_neg g1).symm.trans h
      refine z_iload_n dX8_trunksAt_14 rfl ?_
      refine z_aload_n dX8_trunksAt_15 rfl ?_
      refine z_getR (q := 124) fl_X8_73 dX8_trunksAt_16 en_107 rfl ?_
      refine z_iload_n dX8_trunksAt_19 rfl ?_
      obtain ⟨g2, h⟩ := z_ifn h
      refine z_al (v := (M 124 x3.toNatClampNeg)) dX8_trunksAt_20 en_124 rfl (z_ib_in g2) rfl ?_
      refine z_iload_n dX8_trunksAt_21 rfl ?_
      refine z_icmp_ne (tgt := 44) dX8_trunksAt_22 rfl (fun g3 => ?_) (fun g3 => ?_)
      · replace h := (if_pos g3).symm.trans h
        refine z_aload_n dX8_trunksAt_25 rfl ?_
        refine z_getR (q := 125) fl_X8_76 dX8_trunksAt_26 en_107 rfl ?_
        refine z_iload_n dX8_trunksAt_29 rfl ?_
        obtain ⟨g4, h⟩ := z_ifn h
        refine z_al (v := (M 125 x3.toNatClampNeg)) dX8_trunksAt_30 en_125 rfl (z_ib_in g4) rfl ?_
        refine z_aload_n dX8_trunksAt_31 rfl ?_
        refine z_gI (v := (M 107 29)) fl_X8_282 dX8_trunksAt_32 en_107 rfl rfl ?_
        refine z_icmp_gt (tgt := 44) dX8_trunksAt_35 rfl (fun g5 => ?_) (fun g5 => ?_)
        · replace h := (if_pos g5).symm.trans h
          refine z_ic kc_p0 dX8_trunksAt_44 ?_
          refine z_ior dX8_trunksAt_45 ?_
          refine z_istore_n (ls' := [.ref 107, .int x1, .int (x2 ||| (0 : Int32)), .int x3]) dX8_trunksAt_46 (by decide) rfl ?_
          refine z_ii (ls' := [.ref 107, .int x1, .int (x2 ||| (0 : Int32)), .int (x3 + (1 : Int32))]) kc_p1 dX8_trunksAt_47 rfl (by decide) rfl ?_
          refine z_goto (tgt := 4) dX8_trunksAt_50 rfl ?_
          exact ih x1 (x2 ||| (0 : Int32)) (x3 + (1 : Int32)) _ _ _ h
        · replace h := (if_neg g5).symm.trans h
          refine z_ic kc_p1 dX8_trunksAt_38 ?_
          refine z_iload_n dX8_trunksAt_39 rfl ?_
          refine z_ishl dX8_trunksAt_40 ?_
          refine z_goto (tgt := 45) dX8_trunksAt_41 rfl ?_
          refine z_ior dX8_trunksAt_45 ?_
          refine z_istore_n (ls' := [.ref 107, .int x1, .int (x2 ||| ((1 : Int32) <<< (x3 &&& 31))), .int x3]) dX8_trunksAt_46 (by decide) rfl ?_
          refine z_ii (ls' := [.ref 107, .int x1, .int (x2 ||| ((1 : Int32) <<< (x3 &&& 31))), .int (x3 + (1 : Int32))]) kc_p1 dX8_trunksAt_47 rfl (by decide) rfl ?_
          refine z_goto (tgt := 4) dX8_trunksAt_50 rfl ?_
          exact ih x1 (x2 ||| ((1 : Int32) <<< (x3 &&& 31))) (x3 + (1 : Int32)) _ _ _ h
      · replace h := (if_neg g3).symm.trans h
        refine z_ic kc_p0 dX8_trunksAt_44 ?_
        refine z_ior dX8_trunksAt_45 ?_
        refine z_istore_n (ls' := [.ref 107, .int x1, .int (x2 ||| (0 : Int32)), .int x3]) dX8_trunksAt_46 (by decide) rfl ?_
        refine z_ii (ls' := [.ref 107, .int x1, .int (x2 ||| (0 : Int32)), .int (x3 + (1 : Int32))]) kc_p1 dX8_trunksAt_47 rfl (by decide) rfl ?_
        refine z_goto (tgt := 4) dX8_trunksAt_50 rfl ?_
        exact ih x1 (x2 ||| (0 : Int32)) (x3 + (1 : Int32)) _ _ _ h
theorem A_X8_trunksAt_107 {l : Launch} (hl : l.stackTraces = false) {Ls d : Nat} {Lm : zML} {x1 : Int32} {M M' : zMM} {v : Int32} (h : f_X8_trunksAt_107 x1 M = some (v, M')) : z_Ct l mX8_trunksAt (d + 0) 0 0 [.ref 107, .int x1] (z_L0 Ls, M, Lm) (.inl (some (.int v))) (z_L0 Ls, M', Lm) := by
  replace h : (  f_X8_trunksAt_107_p4 z_fuel x1 (0 : Int32) (0 : Int32) M) = some (v, M') := h
  refine z_Ct.of hl (by decide) (Nat.le_of_ble_eq_true rfl) rfl ?_
  show z_AW l mX8_trunksAt (d + 0) 0 0 0 [.ref 107, .int x1, .null, .null] [] (z_L0 Ls, M, Lm) (.inl (some (.int v))) (z_L0 Ls, M', Lm)
  refine z_ic kc_p0 dX8_trunksAt_0 ?_
  refine z_istore_n (ls' := [.ref 107, .int x1, .int (0 : Int32), .null]) dX8_trunksAt_1 (by decide) rfl ?_
  refine z_ic kc_p0 dX8_trunksAt_2 ?_
  refine z_istore_n (ls' := [.ref 107, .int x1, .int (0 : Int32), .int (0 : Int32)]) dX8_trunksAt_3 (by decide) rfl ?_
  exact A_X8_trunksAt_107_p4 hl z_fuel x1 (0 : Int32) (0 : Int32) _ _ _ h
