/-! X2_byThings 83 -/
def f_X2_byThings_83 (x1 : Int32) (x2 : Int32) (x3 : Int32) (x4 : Int32) (M : zMM) : Option (Int32 × zMM) :=
  z_bi (f_X2_leastPrice_83 x1 x2 (0 : Int32) x3 x4 (z_at M 56 5 x2) M) fun v2 M3 =>
  some (v2, M3)
theorem A_X2_byThings_83 {l : Launch} (hl : l.stackTraces = false) {Ls d : Nat} {Lm : zML} {x1 : Int32} {x2 : Int32} {x3 : Int32} {x4 : Int32} {M M' : zMM} {v : Int32} (h : f_X2_byThings_83 x1 x2 x3 x4 M = some (v, M')) : z_Ct l mX2_byThings (d + 4) 0 0 [.ref 83, .int x1, .int x2, .int x3, .int x4] (z_L0 Ls, M, Lm) (.inl (some (.int v))) (z_L0 Ls, M', Lm) := by
  replace h : (  z_bi (f_X2_leastPrice_83 x1 x2 (0 : Int32) x3 x4 (z_at M 56 5 x2) M) fun v2 M3 =>
  some (v2, M3)) = some (v, M') := h
  refine z_Ct.of hl (by decide) (Nat.le_of_ble_eq_true rfl) rfl ?_
  show z_AW l mX2_byThings (d + 4) 0 0 0 [.ref 83, .int x1, .int x2, .int x3, .int x4] [] (z_L0 Ls, M, Lm) (.inl (some (.int v))) (z_L0 Ls, M', Lm)
  refine z_aload_n dX2_byThings_0 rfl ?_
  refine z_iload_n dX2_byThings_1 rfl ?_
  refine z_iload_n dX2_byThings_2 rfl ?_
  refine z_ic kc_p0 dX2_byThings_3 ?_
  refine z_iload_n dX2_byThings_4 rfl ?_
  refine z_iload dX2_byThings_5 rfl ?_
  refine z_aload_n dX2_byThings_7 rfl ?_
  refine z_getR (q := 53) fl_X2_21 dX2_byThings_8 en_83 rfl ?_
  refine z_getR (q := 56) fl_X2_44 dX2_byThings_11 en_53 rfl ?_
  refine z_iload_n dX2_byThings_14 rfl ?_
  refine z_cN (av := [.ref 56, .int x2]) (st := [.int x4, .int x3, .int (0 : Int32), .int x2, .int x1, .ref 83]) (v := some (.int (z_at M 56 5 x2))) lk_X2_34 dX2_byThings_15 (A_X7_at (d := d + 3) hl (by decide) en_56) rfl rfl (Nat.le_of_ble_eq_true rfl) rfl z_len rfl rfl ?_
  obtain ⟨v2, M3, c1, h⟩ := z_bi_c h
  refine z_cV (av := [.int x1, .int x2, .int (0 : Int32), .int x3, .int x4, .int (z_at M 56 5 x2)]) (st := []) lk_X2_47 dX2_byThings_18 (A_X2_leastPrice_83 (d := d + 0) hl c1) rfl rfl en_83 rfl (Nat.le_of_ble_eq_true rfl) rfl z_len rfl rfl ?_
  cases h
  exact z_rI dX2_byThings_21 rfl
/-! X7_price 51 -/
def f_X7_price_51 (x1 : Int32) (x2 : Int32) (x3 : Int32) (M : zMM) : Option ((Int32 ⊕ Nat) × zMM) :=
  z_bt (f_X7_checkPlay_51 x1 M) fun v2 M3 =>
    z_bt (f_X7_checkTown_51 x2 M3) fun v6 M7 =>
      z_bi (f_X7_lowBits (M7 53 8) M7) fun v10 M11 =>
      if (x3 &&& (v10 ^^^ (-1 : Int32))) = 0 then
        z_bi (f_X2_byThings_83 x1 x2 x3 (-1 : Int32) M11) fun v14 M15 =>
        some (.inl v14, M15)
      else
        some (.inr 1, M11)
theorem A_X7_price_51 {l : Launch} (hl : l.stackTraces = false) {Ls d : Nat} {Lm : zML} {x1 : Int32} {x2 : Int32} {x3 : Int32} {M M' : zMM} {v : Int32 ⊕ Nat} (h : f_X7_price_51 x1 x2 x3 M = some (v, M')) : z_Ct l mX7_price (d + 7) (z_bo v) (6 * z_bo v) [.ref 51, .int x1, .int x2, .int x3] (z_L0 Ls, M, Lm) (z_oi v) (z_L0 Ls, M', Lm) := by
  replace h : (  z_bt (f_X7_checkPlay_51 x1 M) fun v2 M3 =>
    z_bt (f_X7_checkTown_51 x2 M3) fun v6 M7 =>
      z_bi (f_X7_lowBits (M7 53 8) M7) fun v10 M11 =>
      if (x3 &&& (v10 ^^^ (-1 : Int32))) = 0 then
        z_bi (f_X2_byThings_83 x1 x2 x3 (-1 : Int32) M11) fun v14 M15 =>
        some (.inl v14, M15)
      else
        some (.inr 1, M11)) = some (v, M') := h
  refine z_Ct.of hl (by decide) (Nat.le_of_ble_eq_true rfl) rfl ?_
  show z_AW l mX7_price (d + 7) (z_bo v) (6 * z_bo v) 0 [.ref 51, .int x1, .int x2, .int x3] [] (z_L0 Ls, M, Lm) (z_oi v) (z_L0 Ls, M', Lm)
  refine z_aload_n dX7_price_0 rfl ?_
  refine z_iload_n dX7_price_1 rfl ?_
  rcases z_bt_c h with ⟨v2, M3, c1, h⟩ | ⟨e4, c1, rfl⟩
  · refine z_cV (av := [.int x1]) (st := []) lk_X7_200 dX7_price_2 (z_tv (A_X7_checkPlay_51 (d := d + 0) hl c1)) rfl rfl en_51 rfl (Nat.le_of_ble_eq_true rfl) rfl z_len rfl rfl ?_
    refine z_aload_n dX7_price_5 rfl ?_
    refine z_iload_n dX7_price_6 rfl ?_
    rcases z_bt_c h with ⟨v6, M7, c5, h⟩ | ⟨e8, c5, rfl⟩
    · refine z_cV (av := [.int x2]) (st := []) lk_X7_162 dX7_price_7 (z_tv (A_X7_checkTown_51 (d := d + 0) hl c5)) rfl rfl en_51 rfl (Nat.le_of_ble_eq_true rfl) rfl z_len rfl rfl ?_
      refine z_iload_n dX7_price_10 rfl ?_
      refine z_aload_n dX7_price_11 rfl ?_
      refine z_getR (q := 53) fl_X7_23 dX7_price_12 en_51 rfl ?_
      refine z_gI (v := (M7 53 8)) fl_X7_128 dX7_price_15 en_53 rfl rfl ?_
      obtain ⟨v10, M11, c9, h⟩ := z_bi_c h
      refine z_cS (av := [.int (M7 53 8)]) (st := [.int x3]) lk_X7_203 dX7_price_18 (A_X7_lowBits (d := d + 6) hl c9) rfl rfl (Nat.le_of_ble_eq_true rfl) rfl z_len rfl rfl ?_
      refine z_ic kc_m1 dX7_price_21 ?_
      refine z_ixor dX7_price_22 ?_
      refine z_iand dX7_price_23 ?_
      refine z_if_eq (tgt := 37) dX7_price_24 rfl (fun g12 => ?_) (fun g12 => ?_)
      · replace h := (if_pos g12).symm.trans h
        refine z_aload_n dX7_price_37 rfl ?_
        refine z_getR (q := 83) fl_X7_51 dX7_price_38 en_51 rfl ?_
        refine z_iload_n dX7_price_41 rfl ?_
        refine z_iload_n dX7_price_42 rfl ?_
        refine z_iload_n dX7_price_43 rfl ?_
        refine z_ic kc_m1 dX7_price_44 ?_
        obtain ⟨v14, M15, c13, h⟩ := z_bi_c h
        refine z_cV (av := [.int x1, .int x2, .int x3, .int (-1 : Int32)]) (st := []) lk_X7_208 dX7_price_45 (A_X2_byThings_83 (d := d + 2) hl c13) rfl rfl en_83 rfl (Nat.le_of_ble_eq_true rfl) rfl z_len rfl rfl ?_
        cases h
        exact z_rI dX7_price_48 rfl
      · replace h := (if_neg g12).symm.trans h
        cases h
        exact z_throw (text := "no such things") z_tpI (by decide +kernel) rfl (by omega) (Nat.le_of_ble_eq_true rfl) (Nat.le_refl _) (Nat.le_refl _) dX7_price_27 dX7_price_30 dX7_price_31 dX7_price_33 dX7_price_36
    · exact z_cVx (av := [.int x2]) (st := []) lk_X7_162 dX7_price_7 (A_X7_checkTown_51 (d := d + 0) hl c5) rfl rfl en_51 rfl (Nat.le_of_ble_eq_true rfl) rfl z_len rfl rfl (Nat.le_refl _) (Nat.le_refl _)
  · exact z_cVx (av := [.int x1]) (st := []) lk_X7_200 dX7_price_2 (A_X7_checkPlay_51 (d := d + 0) hl c1) rfl rfl en_51 rfl (Nat.le_of_ble_eq_true rfl) rfl z_len rfl rfl (Nat.le_refl _) (Nat.le_refl _)
/-! X4_takeFrom 87 94 -/
def f_X4_takeFrom_87_94  (M : zMM) : Option zMM :=
  z_bv (some (z_cp M 95 88 5)) fun M2 =>
  z_bv (some (z_cp M2 96 89 5)) fun M4 =>
  if z_zb (M4 94 3) = true then
    z_bv (some (z_cp (z_up (z_up (z_up (z_up M4 87 2 (M4 94 2)) 87 3 (M4 94 3)) 87 4 (M4 94 4)) 87 5 (M4 94 5)) 97 90 4)) fun M7 =>
    z_bv (some (z_cp M7 98 91 4)) fun M9 =>
    z_bv (some (z_cp M9 99 92 4)) fun M11 =>
    z_bv (some (z_cp M11 100 93 3)) fun M13 =>
    some M13
  else none
theorem A_X4_takeFrom_87_94 {l : Launch} (hl : l.stackTraces = false) {Ls d : Nat} {Lm : zML}  {M M' : zMM} (h : f_X4_takeFrom_87_94  M = some M') : z_Ct l mX4_takeFrom (d + 2) 0 0 [.ref 87, .ref 94] (z_L0 Ls, M, Lm) (.inl none) (z_L0 Ls, M', Lm) := by
  replace h : (  z_bv (some (z_cp M 95 88 5)) fun M2 =>
  z_bv (some (z_cp M2 96 89 5)) fun M4 =>
  if z_zb (M4 94 3) = true then
    z_bv (some (z_cp (z_up (z_up (z_up (z_up M4 87 2 (M4 94 2)) 87 3 (M4 94 3)) 87 4 (M4 94 4)) 87 5 (M4 94 5)) 97 90 4)) fun M7 =>
    z_bv (some (z_cp M7 98 91 4)) fun M9 =>
    z_bv (some (z_cp M9 99 92 4)) fun M11 =>
    z_bv (some (z_cp M11 100 93 3)) fun M13 =>
    some M13
  else none) = some M' := h
  refine z_Ct.of hl (by decide) (Nat.le_of_ble_eq_true rfl) rfl ?_
  show z_AW l mX4_takeFrom (d + 2) 0 0 0 [.ref 87, .ref 94] [] (z_L0 Ls, M, Lm) (.inl none) (z_L0 Ls, M', Lm)
  refine z_aload_n dX4_takeFrom_0 rfl ?_
  refine z_getR (q := 95) fl_X4_9 dX4_takeFrom_1 en_94 rfl ?_
  refine z_aload_n dX4_takeFrom_4 rfl ?_
  refine z_getR (q := 88) fl_X4_9 dX4_takeFrom_5 en_87 rfl ?_
  obtain ⟨M2, c1, h⟩ := z_bv_c h
  refine z_cN (av := [.ref 95, .ref 88]) (st := []) lk_X4_65 dX4_takeFrom_8 (z_Ct.to (A_X7_copy (d := d + 0) hl (by decide) en_95 en_88 (n := 5) (by decide) (by decide) (by decide) (by decide +kernel)) c1) rfl rfl (Nat.le_of_ble_eq_true rfl) rfl z_len rfl rfl ?_
  refine z_aload_n dX4_takeFrom_11 rfl ?_
  refine z_getR (q := 96) fl_X4_15 dX4_takeFrom_12 en_94 rfl ?_
  refine z_aload_n dX4_takeFrom_15 rfl ?_
  refine z_getR (q := 89) fl_X4_15 dX4_takeFrom_16 en_87 rfl ?_
  obtain ⟨M4, c3, h⟩ := z_bv_c h
  refine z_cN (av := [.ref 96, .ref 89]) (st := []) lk_X4_65 dX4_takeFrom_19 (z_Ct.to (A_X7_copy (d := d + 0) hl (by decide) en_96 en_89 (n := 5) (by decide) (by decide) (by decide) (by decide +kernel)) c3) rfl rfl (Nat.le_of_ble_eq_true rfl) rfl z_len rfl rfl ?_
  refine z_aload_n dX4_takeFrom_22 rfl ?_
  refine z_aload_n dX4_takeFrom_23 rfl ?_
  refine z_gI (v := (M4 94 2)) fl_X4_18 dX4_takeFrom_24 en_94 rfl rfl ?_
  refine z_pI fp_X4_18 dX4_takeFrom_27 (by decide) en_87 rfl ?_
  refine z_aload_n dX4_takeFrom_30 rfl ?_
  refine z_aload_n dX4_takeFrom_31 rfl ?_
  refine z_gI (v := (M4 94 3)) fl_X4_22 dX4_takeFrom_32 en_94 rfl rfl ?_
  obtain ⟨g5, h⟩ := z_ifn h
  refine z_pZ fp_X4_22 dX4_takeFrom_35 (by decide) en_87 rfl g5 ?_
  refine z_aload_n dX4_takeFrom_38 rfl ?_
  refine z_aload_n dX4_takeFrom_39 rfl ?_
  refine z_gI (v := (M4 94 4)) fl_X4_26 dX4_takeFrom_40 en_94 rfl rfl ?_
  refine z_pI fp_X4_26 dX4_takeFrom_43 (by decide) en_87 rfl ?_
  refine z_aload_n dX4_takeFrom_46 rfl ?_
  refine z_aload_n dX4_takeFrom_47 rfl ?_
  refine z_gI (v := (M4 94 5)) fl_X4_29 dX4_takeFrom_48 en_94 rfl rfl ?_
  refine z_pI fp_X4_29 dX4_takeFrom_51 (by decide) en_87 rfl ?_
  refine z_aload_n dX4_takeFrom_54 rfl ?_
  refine z_getR (q := 97) fl_X4_32 dX4_takeFrom_55 en_94 rfl ?_
  refine z_aload_n dX4_takeFrom_58 rfl ?_
  refine z_getR (q := 90) fl_X4_32 dX4_takeFrom_59 en_87 rfl ?_
  obtain ⟨M7, c6, h⟩ := z_bv_c h
  refine z_cN (av := [.ref 97, .ref 90]) (st := []) lk_X4_65 dX4_takeFrom_62 (z_Ct.to (A_X7_copy (d := d + 0) hl (by decide) en_97 en_90 (n := 4) (by decide) (by decide) (by decide) (by decide +kernel)) c6) rfl rfl (Nat.le_of_ble_eq_true rfl) rfl z_len rfl rfl ?_
  refine z_aload_n dX4_takeFrom_65 rfl ?_
  refine z_getR (q := 98) fl_X4_35 dX4_takeFrom_66 en_94 rfl ?_
  refine z_aload_n dX4_takeFrom_69 rfl ?_
  refine z_getR (q := 91) fl_X4_35 dX4_takeFrom_70 en_87 rfl ?_
  obtain ⟨M9, c8, h⟩ := z_bv_c h
  refine z_cN (av := [.ref 98, .ref 91]) (st := []) lk_X4_65 dX4_takeFrom_73 (z_Ct.to (A_X7_copy (d := d + 0) hl (by decide) en_98 en_91 (n := 4) (by decide) (by decide) (by decide) (by decide +kernel)) c8) rfl rfl (Nat.le_of_ble_eq_true rfl) rfl z_len rfl rfl ?_
  refine z_aload_n dX4_takeFrom_76 rfl ?_
  refine z_getR (q := 99) fl_X4_38 dX4_takeFrom_77 en_94 rfl ?_
  refine z_aload_n dX4_takeFrom_80 rfl ?_
  refine z_getR (q := 92) fl_X4_38 dX4_takeFrom_81 en_87 rfl ?_
  obtain ⟨M11, c10, h⟩ := z_bv_c h
  refine z_cN (av := [.ref 99, .ref 92]) (st := []) lk_X4_65 dX4_takeFrom_84 (z_Ct.to (A_X7_copy (d := d + 0) hl (by decide) en_99 en_92 (n := 4) (by decide) (by decide) (by decide) (by decide +kernel)) c10) rfl rfl (Nat.le_of_ble_eq_true rfl) rfl z_len rfl rfl ?_
  refine z_aload_n dX4_takeFrom_87 rfl ?_
  refine z_getR (q := 100) fl_X4_41 dX4_takeFrom_88 en_94 rfl ?_
  refine z_aload_n dX4_takeFrom_91 rfl ?_
  refine z_getR (q := 93) fl_X4_41 dX4_takeFrom_92 en_87 rfl ?_
  obtain ⟨M13, c12, h⟩ := z_bv_c h
  refine z_cN (av := [.ref 100, .ref 93]) (st := []) lk_X4_65 dX4_takeFrom_95 (z_Ct.to (A_X7_copy (d := d + 0) hl (by decide) en_100 en_93 (n := 3) (by decide) (by decide) (by decide) (by decide +kernel)) c12) rfl rfl (Nat.le_of_ble_eq_true rfl) rfl z_len rfl rfl ?_
  cases h
  exact z_return dX4_takeFrom_98 rfl
/-! X0_clear 101 -/
def f_X0_clear_101  (M : zMM) : Option zMM :=
  some (z_up M 101 2 (0 : Int32))
theorem A_X0_clear_101 {l : Launch} (hl : l.stackTraces = false) {Ls d : Nat} {Lm : zML}  {M M' : zMM} (h : f_X0_clear_101  M = some M') : z_Ct l mX0_clear (d + 0) 0 0 [.ref 101] (z_L0 Ls, M, Lm) (.inl none) (z_L0 Ls, M', Lm) := by
  replace h : (  some (z_up M 101 2 (0 : Int32))) = some M' := h
  refine z_Ct.of hl (by decide) (Nat.le_of_ble_eq_true rfl) rfl ?_
  show z_AW l mX0_clear (d + 0) 0 0 0 [.ref 101] [] (z_L0 Ls, M, Lm) (.inl none) (z_L0 Ls, M', Lm)
  refine z_aload_n dX0_clear_0 rfl ?_
  refine z_ic kc_p0 dX0_clear_1 ?_
  refine z_pI fp_X0_19 dX0_clear_2 (by decide) en_101 rfl ?_
  cases h
  exact z_return dX0_clear_5 rfl
/-! X7_restore 51 -/
def f_X7_restore_51  (M : zMM) : Option (Int32 × zMM) :=
  if (M 51 10) = 0 then
    some ((0 : Int32), M)
  else
    z_bv (f_X4_takeFrom_87_94  M) fun M4 =>
    z_bv (f_X0_clear_101  M4) fun M7 =>
    some ((1 : Int32), M7)
theorem A_X7_restore_51 {l : Launch} (hl : l.stackTraces = false) {Ls d : Nat} {Lm : zML}  {M M' : zMM} {v : Int32} (h : f_X7_restore_51  M = some (v, M')) : z_Ct l mX7_restore (d + 3) 0 0 [.ref 51] (z_L0 Ls, M, Lm) (.inl (some (.int v))) (z_L0 Ls, M', Lm) := by
  replace h : (  if (M 51 10) = 0 then
    some ((0 : Int32), M)
  else
    z_bv (f_X4_takeFrom_87_94  M) fun M4 =>
    z_bv (f_X0_clear_101  M4) fun M7 =>
    some ((1 : Int32), M7)) = some (v, M') := h
  refine z_Ct.of hl (by decide) (Nat.le_of_ble_eq_true rfl) rfl ?_
  show z_AW l mX7_restore (d + 3) 0 0 0 [.ref 51] [] (z_L0 Ls, M, Lm) (.inl (some (.int v))) (z_L0 Ls, M', Lm)
  refine z_aload_n dX7_restore_0 rfl ?_
  refine z_gI (v := (M 51 10)) fl_X7_65 dX7_restore_1 en_51 rfl rfl ?_
  refine z_if_ne (tgt := 9) dX7_restore_4 rfl (fun g1 => ?_) (fun g1 => ?_)
  · replace h := (if_pos g1).symm.trans h
    refine z_ic kc_p0 dX7_restore_7 ?_
    cases h
    exact z_rZ dX7_restore_8 rfl rfl
  · replace h := (if_neg g1).symm.trans h
    refine z_aload_n dX7_restore_9 rfl ?_
    refine z_getR (q := 87) fl_X7_58 dX7_restore_10 en_51 rfl ?_
    refine z_aload_n dX7_restore_13 rfl ?_
    refine z_getR (q := 94) fl_X7_62 dX7_restore_14 en_51 rfl ?_
    obtain ⟨M4, c2, h⟩ := z_bv_c h
    refine z_cV (av := [.ref 94]) (st := []) lk_X7_334 dX7_restore_17 (A_X4_takeFrom_87_94 (d := d + 0) hl c2) rfl rfl en_87 rfl (Nat.le_of_ble_eq_true rfl) rfl z_len rfl rfl ?_
    refine z_aload_n dX7_restore_20 rfl ?_
    refine z_getR (q := 101) fl_X7_72 dX7_restore_21 en_51 rfl ?_
    obtain ⟨M7, c5, h⟩ := z_bv_c h
    refine z_cV (av := []) (st := []) lk_X7_118 dX7_restore_24 (A_X0_clear_101 (d := d + 2) hl c5) rfl rfl en_101 rfl (Nat.le_of_ble_eq_true rfl) rfl z_len rfl rfl ?_
    refine z_ic kc_p1 dX7_restore_27 ?_
    cases h
    exact z_rZ dX7_restore_28 rfl rfl
/-! X7_checkTrunk 51 -/
def f_X7_checkTrunk_51 (x1 : Int32) (M : zMM) : Option ((Unit ⊕ Nat) × zMM) :=
  if x1 < 0 then
    some (.inr 0, M)
  else
    if x1 < (M 53 6) then
      some (.inl (), M)
    else
      some (.inr 0, M)
theorem A_X7_checkTrunk_51 {l : Launch} (hl : l.stackTraces = false) {Ls d : Nat} {Lm : zML} {x1 : Int32} {M M' : zMM} {v : Unit ⊕ Nat} (h : f_X7_checkTrunk_51 x1 M = some (v, M')) : z_Ct l mX7_checkTrunk (d + 6) (z_bo v) (6 * z_bo v) [.ref 51, .int x1] (z_L0 Ls, M, Lm) (z_ov v) (z_L0 Ls, M', Lm) := by
  replace h : (  if x1 < 0 then
    some (.inr 0, M)
  else
    if x1 < (M 53 6) then
      some (.inl (), M)
    else
      some (.inr 0, M)) = some (v, M') := h
  refine z_Ct.of hl (by decide) (Nat.le_of_ble_eq_true rfl) rfl ?_
  show z_AW l mX7_checkTrunk (d + 6) (z_bo v) (6 * z_bo v) 0 [.ref 51, .int x1] [] (z_L0 Ls, M, Lm) (z_ov v) (z_L0 Ls, M', Lm)
  refine z_iload_n dX7_checkTrunk_0 rfl ?_
  refine z_if_lt (tgt := 15) dX7_checkTrunk_1 rfl (fun g1 => ?_) (fun g1 => ?_)
  · replace h := (if_pos g1).symm.trans h
    cases h
    exact z_throwW (text := "no such trunk") z_tpN (by decide +kernel) rfl (by omega) (Nat.le_of_ble_eq_true rfl) (Nat.le_refl _) (Nat.le_refl _) dX7_checkTrunk_15 dX7_checkTrunk_18 dX7_checkTrunk_19 dX7_checkTrunk_22 dX7_checkTrunk_25
  · replace h := (if_neg g1).symm.trans h
    refine z_iload_n dX7_checkTrunk_4 rfl ?_
    refine z_aload_n dX7_checkTrunk_5 rfl ?_
    refine z_getR (q := 53) fl_X7_23 dX7_checkTrunk_6 en_51 rfl ?_
    refine z_gI (v := (M 53 6)) fl_X7_125 dX7_checkTrunk_9 en_53 rfl rfl ?_
    refine z_icmp_lt (tgt := 26) dX7_checkTrunk_12 rfl (fun g2 => ?_) (fun g2 => ?_)
    · replace h := (if_pos g2).symm.trans h
      cases h
      exact z_return dX7_checkTrunk_26 rfl
    · replace h := (if_neg g2).symm.trans h
      cases h
      exact z_throwW (text := "no such trunk") z_tpN (by decide +kernel) rfl (by omega) (Nat.le_of_ble_eq_true rfl) (Nat.le_refl _) (Nat.le_refl _) dX7_checkTrunk_15 dX7_checkTrunk_18 dX7_checkTrunk_19 dX7_checkTrunk_22 dX7_checkTrunk_25
/-! X1_hasPlan 103 -/
def f_X1_hasPlan_103  (M : zMM) : Option (Int32 × zMM) :=
  if z_zb (M 103 7) = true then some ((M 103 7), M) else none
theorem A_X1_hasPlan_103 {l : Launch} (hl : l.stackTraces = false) {Ls d : Nat} {Lm : zML}  {M M' : zMM} {v : Int32} (h : f_X1_hasPlan_103  M = some (v, M')) : z_Ct l mX1_hasPlan (d + 0) 0 0 [.ref 103] (z_L0 Ls, M, Lm) (.inl (some (.int v))) (z_L0 Ls, M', Lm) := by
  replace h : (  if z_zb (M 103 7) = true then some ((M 103 7), M) else none) = some (v, M') := h
  refine z_Ct.of hl (by decide) (Nat.le_of_ble_eq_true rfl) rfl ?_
  show z_AW l mX1_hasPlan (d + 0) 0 0 0 [.ref 103] [] (z_L0 Ls, M, Lm) (.inl (some (.int v))) (z_L0 Ls, M', Lm)
  refine z_aload_n dX1_hasPlan_0 rfl ?_
  refine z_gI (v := (M 103 7)) fl_X1_21 dX1_hasPlan_1 en_103 rfl rfl ?_
  obtain ⟨g1, h⟩ := z_ifn h
  cases h
  exact z_rZ dX1_hasPlan_4 rfl g1
/-! X1_nightsOf 103 -/
def f_X1_nightsOf_103 (x1 : Int32) (M : zMM) : Option (Int32 × zMM) :=
  some ((z_at M 106 5 x1), M)
theorem A_X1_nightsOf_103 {l : Launch} (hl : l.stackTraces = false) {Ls d : Nat} {Lm : zML} {x1 : Int32} {M M' : zMM} {v : Int32} (h : f_X1_nightsOf_103 x1 M = some (v, M')) : z_Ct l mX1_nightsOf (d + 1) 0 0 [.ref 103, .int x1] (z_L0 Ls, M, Lm) (.inl (some (.int v))) (z_L0 Ls, M', Lm) := by
  replace h : (  some ((z_at M 106 5 x1), M)) = some (v, M') := h
  refine z_Ct.of hl (by decide) (Nat.le_of_ble_eq_true rfl) rfl ?_
  show z_AW l mX1_nightsOf (d + 1) 0 0 0 [.ref 103, .int x1] [] (z_L0 Ls, M, Lm) (.inl (some (.int v))) (z_L0 Ls, M', Lm)
  refine z_aload_n dX1_nightsOf_0 rfl ?_
  refine z_getR (q := 106) fl_X1_18 dX1_nightsOf_1 en_103 rfl ?_
  refine z_iload_n dX1_nightsOf_4 rfl ?_
  refine z_cN (av := [.ref 106, .int x1]) (st := []) (v := some (.int (z_at M 106 5 x1))) lk_X1_48 dX1_nightsOf_5 (A_X7_at (d := d + 0) hl (by decide) en_106) rfl rfl (Nat.le_of_ble_eq_true rfl) rfl z_len rfl rfl ?_
  cases h
  exact z_rI dX1_nightsOf_8 rfl
/-! X7_rides 51 -/
def f_X7_rides_51 (x1 : Int32) (M : zMM) : Option ((Int32 ⊕ Nat) × zMM) :=
  z_bt (f_X7_checkTrunk_51 x1 M) fun v2 M3 =>
    z_bi (f_X1_hasPlan_103  M3) fun v6 M7 =>
    if v6 = 0 then
      some (.inr 0, M7)
    else
      z_bi (f_X1_nightsOf_103 x1 M7) fun v10 M11 =>
      some (.inl v10, M11)
theorem A_X7_rides_51 {l : Launch} (hl : l.stackTraces = false) {Ls d : Nat} {Lm : zML} {x1 : Int32} {M M' : zMM} {v : Int32 ⊕ Nat} (h : f_X7_rides_51 x1 M = some (v, M')) : z_Ct l mX7_rides (d + 7) (z_bo v) (6 * z_bo v) [.ref 51, .int x1] (z_L0 Ls, M, Lm) (z_oi v) (z_L0 Ls, M', Lm) := by
  replace h : (  z_bt (f_X7_checkTrunk_51 x1 M) fun v2 M3 =>
    z_bi (f_X1_hasPlan_103  M3) fun v6 M7 =>
    if v6 = 0 then
      some (.inr 0, M7)
    else
      z_bi (f_X1_nightsOf_103 x1 M7) fun v10 M11 =>
      some (.inl v10, M11)) = some (v, M') := h
  refine z_Ct.of hl (by decide) (Nat.le_of_ble_eq_true rfl) rfl ?_
  show z_AW l mX7_rides (d + 7) (z_bo v) (6 * z_bo v) 0 [.ref 51, .int x1] [] (z_L0 Ls, M, Lm) (z_oi v) (z_L0 Ls, M', Lm)
  refine z_aload_n dX7_rides_0 rfl ?_
  refine z_iload_n dX7_rides_1 rfl ?_
  rcases z_bt_c h with ⟨v2, M3, c1, h⟩ | ⟨e4, c1, rfl⟩
  · refine z_cV (av := [.int x1]) (st := []) lk_X7_185 dX7_rides_2 (z_tv (A_X7_checkTrunk_51 (d := d + 0) hl c1)) rfl rfl en_51 rfl (Nat.le_of_ble_eq_true rfl) rfl z_len rfl rfl ?_
    refine z_aload_n dX7_rides_5 rfl ?_
    refine z_getR (q := 103) fl_X7_81 dX7_rides_6 en_51 rfl ?_
    obtain ⟨v6, M7, c5, h⟩ := z_bi_c h
    refine z_cV (av := []) (st := []) lk_X7_316 dX7_rides_9 (A_X1_hasPlan_103 (d := d + 6) hl c5) rfl rfl en_103 rfl (Nat.le_of_ble_eq_true rfl) rfl z_len rfl rfl ?_
    refine z_if_ne (tgt := 26) dX7_rides_12 rfl (fun g8 => ?_) (fun g8 => ?_)
    · replace h := (if_pos g8).symm.trans h
      cases h
      exact z_throwW (text := "no tour is kept") z_tpN (by decide +kernel) rfl (by omega) (Nat.le_of_ble_eq_true rfl) (Nat.le_refl _) (Nat.le_refl _) dX7_rides_15 dX7_rides_18 dX7_rides_19 dX7_rides_22 dX7_rides_25
    · replace h := (if_neg g8).symm.trans h
      refine z_aload_n dX7_rides_26 rfl ?_
      refine z_getR (q := 103) fl_X7_81 dX7_rides_27 en_51 rfl ?_
      refine z_iload_n dX7_rides_30 rfl ?_
      obtain ⟨v10, M11, c9, h⟩ := z_bi_c h
      refine z_cV (av := [.int x1]) (st := []) lk_X7_322 dX7_rides_31 (A_X1_nightsOf_103 (d := d + 5) hl c9) rfl rfl en_103 rfl (Nat.le_of_ble_eq_true rfl) rfl z_len rfl rfl ?_
      cases h
      exact z_rI dX7_rides_34 rfl
  · exact z_cVx (av := [.int x1]) (st := []) lk_X7_185 dX7_rides_2 (A_X7_checkTrunk_51 (d := d + 0) hl c1) rfl rfl en_51 rfl (Nat.le_of_ble_eq_true rfl) rfl z_len rfl rfl (Nat.le_refl _) (Nat.le_refl _)
/-! X7_seed 51 -/
def f_X7_seed_51 (x1 : Int32) (M : zMM) : Option zMM :=
  some (z_up (z_up M 87 3 (1 : Int32)) 87 4 x1)
theorem A_X7_seed_51 {l : Launch} (hl : l.stackTraces = false) {Ls d : Nat} {Lm : zML} {x1 : Int32} {M M' : zMM} (h : f_X7_seed_51 x1 M = some M') : z_Ct l mX7_seed (d + 0) 0 0 [.ref 51, .int x1] (z_L0 Ls, M, Lm) (.inl none) (z_L0 Ls, M', Lm) := by
  replace h : (  some (z_up (z_up M 87 3 (1 : Int32)) 87 4 x1)) = some M' := h
  refine z_Ct.of hl (by decide) (Nat.le_of_ble_eq_true rfl) rfl ?_
  show z_AW l mX7_seed (d + 0) 0 0 0 [.ref 51, .int x1] [] (z_L0 Ls, M, Lm) (.inl none) (z_L0 Ls, M', Lm)
  refine z_aload_n dX7_seed_0 rfl ?_
  refine z_getR (q := 87) fl_X7_58 dX7_seed_1 en_51 rfl ?_
  refine z_ic kc_p1 dX7_seed_4 ?_
  refine z_pZ fp_X7_146 dX7_seed_5 (by decide) en_87 rfl rfl ?_
  refine z_aload_n dX7_seed_8 rfl ?_
  refine z_getR (q := 87) fl_X7_58 dX7_seed_9 en_51 rfl ?_
  refine z_iload_n dX7_seed_12 rfl ?_
  refine z_pI fp_X7_300 dX7_seed_13 (by decide) en_87 rfl ?_
  cases h
  exact z_return dX7_seed_16 rfl
/-! X4_place 87 -/
def f_X4_place_87 (x1 : Int32) (x2 : Int32) (x3 : Int32) (M : zMM) : Option zMM :=
  z_bv (some (z_pt M 88 5 x1 x2)) fun M2 =>
  z_bv (some (z_pt M2 89 5 x1 x3)) fun M4 =>
  some M4
theorem A_X4_place_87 {l : Launch} (hl : l.stackTraces = false) {Ls d : Nat} {Lm : zML} {x1 : Int32} {x2 : Int32} {x3 : Int32} {M M' : zMM} (h : f_X4_place_87 x1 x2 x3 M = some M') : z_Ct l mX4_place (d + 1) 0 0 [.ref 87, .int x1, .int x2, .int x3] (z_L0 Ls, M, Lm) (.inl none) (z_L0 Ls, M', Lm) := by
  replace h : (  z_bv (some (z_pt M 88 5 x1 x2)) fun M2 =>
  z_bv (some (z_pt M2 89 5 x1 x3)) fun M4 =>
  some M4) = some M' := h
  refine z_Ct.of hl (by decide) (Nat.le_of_ble_eq_true rfl) rfl ?_
  show z_AW l mX4_place (d + 1) 0 0 0 [.ref 87, .int x1, .int x2, .int x3] [] (z_L0 Ls, M, Lm) (.inl none) (z_L0 Ls, M', Lm)
  refine z_aload_n dX4_place_0 rfl ?_
  refine z_getR (q := 88) fl_X4_9 dX4_place_1 en_87 rfl ?_
  refine z_iload_n dX4_place_4 rfl ?_
  refine z_iload_n dX4_place_5 rfl ?_
  obtain ⟨M2, c1, h⟩ := z_bv_c h
  refine z_cN (av := [.ref 88, .int x1, .int x2]) (st := []) lk_X4_69 dX4_place_6 (z_Ct.to (A_X7_put (d := d + 0) hl (by decide) (by decide) en_88) c1) rfl rfl (Nat.le_of_ble_eq_true rfl) rfl z_len rfl rfl ?_
  refine z_aload_n dX4_place_9 rfl ?_
  refine z_getR (q := 89) fl_X4_15 dX4_place_10 en_87 rfl ?_
  refine z_iload_n dX4_place_13 rfl ?_
  refine z_iload_n dX4_place_14 rfl ?_
  obtain ⟨M4, c3, h⟩ := z_bv_c h
  refine z_cN (av := [.ref 89, .int x1, .int x3]) (st := []) lk_X4_69 dX4_place_15 (z_Ct.to (A_X7_put (d := d + 0) hl (by decide) (by decide) en_89) c3) rfl rfl (Nat.le_of_ble_eq_true rfl) rfl z_len rfl rfl ?_
  cases h
  exact z_return dX4_place_18 rfl
/-! X4_draw 87 -/
def f_X4_draw_87 (x1 : Int32) (M : zMM) : Option (Int32 × zMM) :=
  if x1 ≤ 0 then
    some ((0 : Int32), (z_up M 87 4 (((M 87 4) * (1103515245 : Int32)) + (12345 : Int32))))
  else
    if ¬ x1 = 0 then
      some ((((z_ush (((M 87 4) * (1103515245 : Int32)) + (12345 : Int32)) (16 : Int32)) &&& (32767 : Int32)) - ((z_ush (((M 87 4) * (1103515245 : Int32)) + (12345 : Int32)) (16 : Int32)) &&& (32767 : Int32)) / x1 * x1), (z_up M 87 4 (((M 87 4) * (1103515245 : Int32)) + (12345 : Int32))))
    else none
theorem A_X4_draw_87 {l : Launch} (hl : l.stackTraces = false) {Ls d : Nat} {Lm : zML} {x1 : Int32} {M M' : zMM} {v : Int32} (h : f_X4_draw_87 x1 M = some (v, M')) : z_Ct l mX4_draw (d + 0) 0 0 [.ref 87, .int x1] (z_L0 Ls, M, Lm) (.inl (some (.int v))) (z_L0 Ls, M', Lm) := by
  replace h : (  if x1 ≤ 0 then
    some ((0 : Int32), (z_up M 87 4 (((M 87 4) * (1103515245 : Int32)) + (12345 : Int32))))
  else
    if ¬ x1 = 0 then
      some ((((z_ush (((M 87 4) * (1103515245 : Int32)) + (12345 : Int32)) (16 : Int32)) &&& (32767 : Int32)) - ((z_ush (((M 87 4) * (1103515245 : Int32)) + (12345 : Int32)) (16 : Int32)) &&& (32767 : Int32)) / x1 * x1), (z_up M 87 4 (((M 87 4) * (1103515245 : Int32)) + (12345 : Int32))))
    else none) = some (v, M') := h
  refine z_Ct.of hl (by decide) (Nat.le_of_ble_eq_true rfl) rfl ?_
  show z_AW l mX4_draw (d + 0) 0 0 0 [.ref 87, .int x1] [] (z_L0 Ls, M, Lm) (.inl (some (.int v))) (z_L0 Ls, M', Lm)
  refine z_aload_n dX4_draw_0 rfl ?_
  refine z_aload_n dX4_draw_1 rfl ?_
  refine z_gI (v := (M 87 4)) fl_X4_26 dX4_draw_2 en_87 rfl rfl ?_
  refine z_ldc (v := (1103515245 : Int32)) kc_X4_77 dX4_draw_5 ?_
  refine z_imul dX4_draw_7 ?_
  refine z_sp ks_p12345 dX4_draw_8 ?_
  refine z_iadd dX4_draw_11 ?_
  refine z_pI fp_X4_26 dX4_draw_12 (by decide) en_87 rfl ?_
  refine z_iload_n dX4_draw_15 rfl ?_
  refine z_if_le (tgt := 35) dX4_draw_16 rfl (fun g1 => ?_) (fun g1 => ?_)
  · replace h := (if_pos g1).symm.trans h
    refine z_ic kc_p0 dX4_draw_35 ?_
    cases h
    exact z_rI dX4_draw_36 rfl
  · replace h := (if_neg g1).symm.trans h
    refine z_aload_n dX4_draw_19 rfl ?_
    refine z_gI (v := (((M 87 4) * (1103515245 : Int32)) + (12345 : Int32))) fl_X4_26 dX4_draw_20 en_87 rfl rfl ?_
    refine z_bp kb_p16 dX4_draw_23 ?_
    refine z_iushr dX4_draw_25 ?_
    refine z_sp ks_p32767 dX4_draw_26 ?_
    refine z_iand dX4_draw_29 ?_
    refine z_iload_n dX4_draw_30 rfl ?_
    obtain ⟨g2, h⟩ := z_ifn h
    refine z_irem dX4_draw_31 g2 ?_
    refine z_goto (tgt := 36) dX4_draw_32 rfl ?_
    cases h
    exact z_rI dX4_draw_36 rfl
/-! X7_ride 51 -/
def f_X7_ride_51_p115 (K11 : Int32 → Int32 → Int32 → Int32 → zMM → Option zMM) (x1 : Int32) (x2 : Int32) (x3 : Int32) (x4 : Int32) (x5 : Int32) (x6 : Int32) (x7 : Int32) (a0 : Int32) (M : zMM) : Option zMM :=
  if x7 = (3 : Int32) then
    z_bv (f_X4_place_87 x1 x5 x3 M) fun M22 =>
    some M22
  else
    if a0 = (-1 : Int32) then
      z_bi (f_X5_trainDays_53 x5 x6 M) fun v25 M26 =>
      if x7 = (2 : Int32) then
        K11 x1 x2 (x3 + (v25 + (1 : Int32))) (x4 + (1 : Int32)) M26
      else
        K11 x1 x2 (x3 + (v25 + (0 : Int32))) (x4 + (1 : Int32)) M26
    else
      z_bi (f_X5_trainDays_53 x5 a0 M) fun v29 M30 =>
      z_bv (f_X4_place_87 x1 a0 (x3 + v29) M30) fun M33 =>
      some M33
def f_X7_ride_51_p92 (K11 : Int32 → Int32 → Int32 → Int32 → zMM → Option zMM) (x1 : Int32) (x2 : Int32) (x3 : Int32) (x4 : Int32) (x5 : Int32) (x6 : Int32) (a0 : Int32) (M : zMM) : Option zMM :=
  if a0 = (1 : Int32) then
    z_bi (f_X6_elsewhere_80 x5 x6 M) fun v17 M18 =>
    f_X7_ride_51_p115 K11 x1 x2 x3 x4 x5 x6 a0 v17 M18
  else
    f_X7_ride_51_p115 K11 x1 x2 x3 x4 x5 x6 a0 (-1 : Int32) M
def f_X7_ride_51_p91 (K11 : Int32 → Int32 → Int32 → Int32 → zMM → Option zMM) (x1 : Int32) (x2 : Int32) (x3 : Int32) (x4 : Int32) (x5 : Int32) (x6 : Int32) (M : zMM) : Option zMM :=
  f_X7_ride_51_p92 K11 x1 x2 x3 x4 x5 x6 (0 : Int32) M
def f_X7_ride_51_p11 : Nat → Int32 → Int32 → Int32 → Int32 → zMM → Option zMM
  | 0, _, _, _, _, _ => none
  | n + 1, x1, x2, x3, x4, M =>
  if x2 ≤ x4 then
    z_bi (f_X6_stop_80 x2 M) fun v3 M4 =>
    z_bv (f_X4_place_87 x1 v3 x3 M4) fun M7 =>
    some M7
  else
    z_bi (f_X6_stop_80 x4 M) fun v9 M10 =>
    z_bi (f_X6_stop_80 (x4 + (1 : Int32)) M10) fun v12 M13 =>
    if (M13 87 3) = 0 then
      f_X7_ride_51_p91 (f_X7_ride_51_p11 n) x1 x2 x3 x4 v9 v12 M13
    else
      z_bi (f_X4_draw_87 (1000 : Int32) M13) fun v35 M36 =>
      if (z_at M36 55 5 v9) ≤ v35 then
        f_X7_ride_51_p91 (f_X7_ride_51_p11 n) x1 x2 x3 x4 v9 v12 M36
      else
        f_X7_ride_51_p92 (f_X7_ride_51_p11 n) x1 x2 x3 x4 v9 v12 (z_at M36 54 5 v9) M36
def f_X7_ride_51 (x1 : Int32) (x2 : Int32) (M : zMM) : Option zMM :=
  f_X7_ride_51_p11 z_fuel x1 x2 (M 87 2) (0 : Int32) M
theorem A_X7_ride_51_p115 {l : Launch} (hl : l.stackTraces = false) {Ls d : Nat} {Lm : zML} {K11 : Int32 → Int32 → Int32 → Int32 → zMM → Option zMM}
    (hK11 : ∀ (x1 : Int32) (x2 : Int32) (x3 : Int32) (x4 : Int32) (M M' : zMM) , K11 x1 x2 x3 x4 M = some M' → z_AW l mX7_ride (d + 3) 0 0 11 [.ref 51, .int x1, .int x2, .int x3, .int x4, .null, .null, .null, .null] [] (z_L0 Ls, M, Lm) (.inl none) (z_L0 Ls, M', Lm)) :
    ∀ (x1 : Int32) (x2 : Int32) (x3 : Int32) (x4 : Int32) (x5 : Int32) (x6 : Int32) (x7 : Int32) (a0 : Int32) (M M' : zMM) , f_X7_ride_51_p115 K11 x1 x2 x3 x4 x5 x6 x7 a0 M = some M' → z_AW l mX7_ride (d + 3) 0 0 115 [.ref 51, .int x1, .int x2, .int x3, .int x4, .int x5, .int x6, .int x7, .null] [.int a0] (z_L0 Ls, M, Lm) (.inl none) (z_L0 Ls, M', Lm) := by
  intro x1 x2 x3 x4 x5 x6 x7 a0 M M' h
  replace h : (  if x7 = (3 : Int32) then
    z_bv (f_X4_place_87 x1 x5 x3 M) fun M22 =>
    some M22
  else
    if a0 = (-1 : Int32) then
      z_bi (f_X5_trainDays_53 x5 x6 M) fun v25 M26 =>
      if x7 = (2 : Int32) then
        K11 x1 x2 (x3 + (v25 + (1 : Int32))) (x4 + (1 : Int32)) M26
      else
        K11 x1 x2 (x3 + (v25 + (0 : Int32))) (x4 + (1 : Int32)) M26
    else
      z_bi (f_X5_trainDays_53 x5 a0 M) fun v29 M30 =>
      z_bv (f_X4_place_87 x1 a0 (x3 + v29) M30) fun M33 =>
      some M33) = some M' := h
  refine z_istore (ls' := [.ref 51, .int x1, .int x2, .int x3, .int x4, .int x5, .int x6, .int x7, .int a0]) dX7_ride_115 (by decide) rfl ?_
  refine z_iload dX7_ride_117 rfl ?_
  refine z_ic kc_p3 dX7_ride_119 ?_
  refine z_icmp_ne (tgt := 135) dX7_ride_120 rfl (fun g19 => ?_) (fun g19 => ?_)
  · replace h := (if_pos g19).symm.trans h
    refine z_aload_n dX7_ride_123 rfl ?_
    refine z_getR (q := 87) fl_X7_58 dX7_ride_124 en_51 rfl ?_
    refine z_iload_n dX7_ride_127 rfl ?_
    refine z_iload dX7_ride_128 rfl ?_
    refine z_iload_n dX7_ride_130 rfl ?_
    obtain ⟨M22, c20, h⟩ := z_bv_c h
    refine z_cV (av := [.int x1, .int x5, .int x3]) (st := []) lk_X7_294 dX7_ride_131 (A_X4_place_87 (d := d + 1) hl c20) rfl rfl en_87 rfl (Nat.le_of_ble_eq_true rfl) rfl z_len rfl rfl ?_
    cases h
    exact z_return dX7_ride_134 rfl
  · replace h := (if_neg g19).symm.trans h
    refine z_iload dX7_ride_135 rfl ?_
    refine z_ic kc_m1 dX7_ride_137 ?_
    refine z_icmp_eq (tgt := 165) dX7_ride_138 rfl (fun g23 => ?_) (fun g23 => ?_)
    · replace h := (if_pos g23).symm.trans h
      refine z_iload_n dX7_ride_165 rfl ?_
      refine z_aload_n dX7_ride_166 rfl ?_
      refine z_getR (q := 53) fl_X7_23 dX7_ride_167 en_51 rfl ?_
      refine z_iload dX7_ride_170 rfl ?_
      refine z_iload dX7_ride_172 rfl ?_
      obtain ⟨v25, M26, c24, h⟩ := z_bi_c h
      refine z_cV (av := [.int x5, .int x6]) (st := [.int x3]) lk_X7_297 dX7_ride_174 (A_X5_trainDays_53 (d := d + 1) hl c24) rfl rfl en_53 rfl (Nat.le_of_ble_eq_true rfl) rfl z_len rfl rfl ?_
      refine z_iload dX7_ride_177 rfl ?_
      refine z_ic kc_p2 dX7_ride_179 ?_
      refine z_icmp_ne (tgt := 187) dX7_ride_180 rfl (fun g27 => ?_) (fun g27 => ?_)
      · replace h := (if_pos g27).symm.trans h
        refine z_ic kc_p1 dX7_ride_183 ?_
        refine z_goto (tgt := 188) dX7_ride_184 rfl ?_
        refine z_iadd dX7_ride_188 ?_
        refine z_iadd dX7_ride_189 ?_
        refine z_istore_n (ls' := [.ref 51, .int x1, .int x2, .int (x3 + (v25 + (1 : Int32))), .int x4, .int x5, .int x6, .int x7, .int a0]) dX7_ride_190 (by decide) rfl ?_
        refine z_ii (ls' := [.ref 51, .int x1, .int x2, .int (x3 + (v25 + (1 : Int32))), .int (x4 + (1 : Int32)), .int x5, .int x6, .int x7, .int a0]) kc_p1 dX7_ride_191 rfl (by decide) rfl ?_
        refine z_goto (tgt := 11) dX7_ride_194 rfl ?_
        refine z_fg (ls' := [.ref 51, .int x1, .int x2, .int (x3 + (v25 + (1 : Int32))), .int (x4 + (1 : Int32)), .null, .null, .null, .null]) ⟨Or.inr rfl, Or.inr rfl, Or.inr rfl, Or.inr rfl, Or.inr rfl, Or.inl rfl, Or.inl rfl, Or.inl rfl, Or.inl rfl, trivial⟩ ?_
        exact hK11 x1 x2 (x3 + (v25 + (1 : Int32))) (x4 + (1 : Int32)) _ _ h
      · replace h := (if_neg g27).symm.trans h
        refine z_ic kc_p0 dX7_ride_187 ?_
        refine z_iadd dX7_ride_188 ?_
        refine z_iadd dX7_ride_189 ?_
        refine z_istore_n (ls' := [.ref 51, .int x1, .int x2, .int (x3 + (v25 + (0 : Int32))), .int x4, .int x5, .int x6, .int x7, .int a0]) dX7_ride_190 (by decide) rfl ?_
        refine z_ii (ls' := [.ref 51, .int x1, .int x2, .int (x3 + (v25 + (0 : Int32))), .int (x4 + (1 : Int32)), .int x5, .int x6, .int x7, .int a0]) kc_p1 dX7_ride_191 rfl (by decide) rfl ?_
        refine z_goto (tgt := 11) dX7_ride_194 rfl ?_
        refine z_fg (ls' := [.ref 51, .int x1, .int x2, .int (x3 + (v25 + (0 : Int32))), .int (x4 + (1 : Int32)), .null, .null, .null, .null]) ⟨Or.inr rfl, Or.inr rfl, Or.inr rfl, Or.inr rfl, Or.inr rfl, Or.inl rfl, Or.inl rfl, Or.inl rfl, Or.inl rfl, trivial⟩ ?_
        exact hK11 x1 x2 (x3 + (v25 + (0 : Int32))) (x4 + (1 : Int32)) _ _ h
    · replace h := (if_neg g23).symm.trans h
      refine z_aload_n dX7_ride_141 rfl ?_
      refine z_getR (q := 87) fl_X7_58 dX7_ride_142 en_51 rfl ?_
      refine z_iload_n dX7_ride_145 rfl ?_
      refine z_iload dX7_ride_146 rfl ?_
      refine z_iload_n dX7_ride_148 rfl ?_
      refine z_aload_n dX7_ride_149 rfl ?_
      refine z_getR (q := 53) fl_X7_23 dX7_ride_150 en_51 rfl ?_
      refine z_iload dX7_ride_153 rfl ?_
      refine z_iload dX7_ride_155 rfl ?_
      obtain ⟨v29, M30, c28, h⟩ := z_bi_c h
      refine z_cV (av := [.int x5, .int a0]) (st := [.int x3, .int a0, .int x1, .ref 87]) lk_X7_297 dX7_ride_157 (A_X5_trainDays_53 (d := d + 1) hl c28) rfl rfl en_53 rfl (Nat.le_of_ble_eq_true rfl) rfl z_len rfl rfl ?_
      refine z_iadd dX7_ride_160 ?_
      obtain ⟨M33, c31, h⟩ := z_bv_c h
      refine z_cV (av := [.int x1, .int a0, .int (x3 + v29)]) (st := []) lk_X7_294 dX7_ride_161 (A_X4_place_87 (d := d + 1) hl c31) rfl rfl en_87 rfl (Nat.le_of_ble_eq_true rfl) rfl z_len rfl rfl ?_
      cases h
      exact z_return dX7_ride_164 rfl
theorem A_X7_ride_51_p92 {l : Launch} (hl : l.stackTraces = false) {Ls d : Nat} {Lm : zML} {K11 : Int32 → Int32 → Int32 → Int32 → zMM → Option zMM}
    (hK11 : ∀ (x1 : Int32) (x2 : Int32) (x3 : Int32) (x4 : Int32) (M M' : zMM) , K11 x1 x2 x3 x4 M = some M' → z_AW l mX7_ride (d + 3) 0 0 11 [.ref 51, .int x1, .int x2, .int x3, .int x4, .null, .null, .null, .null] [] (z_L0 Ls, M, Lm) (.inl none) (z_L0 Ls, M', Lm)) :
    ∀ (x1 : Int32) (x2 : Int32) (x3 : Int32) (x4 : Int32) (x5 : Int32) (x6 : Int32) (a0 : Int32) (M M' : zMM) , f_X7_ride_51_p92 K11 x1 x2 x3 x4 x5 x6 a0 M = some M' → z_AW l mX7_ride (d + 3) 0 0 92 [.ref 51, .int x1, .int x2, .int x3, .int x4, .int x5, .int x6, .null, .null] [.int a0] (z_L0 Ls, M, Lm) (.inl none) (z_L0 Ls, M', Lm) := by
  intro x1 x2 x3 x4 x5 x6 a0 M M' h
  replace h : (  if a0 = (1 : Int32) then
    z_bi (f_X6_elsewhere_80 x5 x6 M) fun v17 M18 =>
    f_X7_ride_51_p115 K11 x1 x2 x3 x4 x5 x6 a0 v17 M18
  else
    f_X7_ride_51_p115 K11 x1 x2 x3 x4 x5 x6 a0 (-1 : Int32) M) = some M' := h
  refine z_istore (ls' := [.ref 51, .int x1, .int x2, .int x3, .int x4, .int x5, .int x6, .int a0, .null]) dX7_ride_92 (by decide) rfl ?_
  refine z_iload dX7_ride_94 rfl ?_
  refine z_ic kc_p1 dX7_ride_96 ?_
  refine z_icmp_ne (tgt := 114) dX7_ride_97 rfl (fun g15 => ?_) (fun g15 => ?_)
  · replace h := (if_pos g15).symm.trans h
    refine z_aload_n dX7_ride_100 rfl ?_
    refine z_getR (q := 80) fl_X7_44 dX7_ride_101 en_51 rfl ?_
    refine z_iload dX7_ride_104 rfl ?_
    refine z_iload dX7_ride_106 rfl ?_
    obtain ⟨v17, M18, c16, h⟩ := z_bi_c h
    refine z_cV (av := [.int x5, .int x6]) (st := []) lk_X7_291 dX7_ride_108 (A_X6_elsewhere_80 (d := d + 0) hl c16) rfl rfl en_80 rfl (Nat.le_of_ble_eq_true rfl) rfl z_len rfl rfl ?_
    refine z_goto (tgt := 115) dX7_ride_111 rfl ?_
    exact A_X7_ride_51_p115 hl hK11 x1 x2 x3 x4 x5 x6 a0 v17 _ _ h
  · replace h := (if_neg g15).symm.trans h
    refine z_ic kc_m1 dX7_ride_114 ?_
    exact A_X7_ride_51_p115 hl hK11 x1 x2 x3 x4 x5 x6 a0 (-1 : Int32) _ _ h
theorem A_X7_ride_51_p91 {l : Launch} (hl : l.stackTraces = false) {Ls d : Nat} {Lm : zML} {K11 : Int32 → Int32 → Int32 → Int32 → zMM → Option zMM}
    (hK11 : ∀ (x1 : Int32) (x2 : Int32) (x3 : Int32) (x4 : Int32) (M M' : zMM) , K11 x1 x2 x3 x4 M = some M' → z_AW l mX7_ride (d + 3) 0 0 11 [.ref 51, .int x1, .int x2, .int x3, .int x4, .null, .null, .null, .null] [] (z_L0 Ls, M, Lm) (.inl none) (z_L0 Ls, M', Lm)) :
    ∀ (x1 : Int32) (x2 : Int32) (x3 : Int32) (x4 : Int32) (x5 : Int32) (x6 : Int32) (M M' : zMM) , f_X7_ride_51_p91 K11 x1 x2 x3 x4 x5 x6 M = some M' → z_AW l mX7_ride (d + 3) 0 0 91 [.ref 51, .int x1, .int x2, .int x3, .int x4, .int x5, .int x6, .null, .null] [] (z_L0 Ls, M, Lm) (.inl none) (z_L0 Ls, M', Lm) := by
  intro x1 x2 x3 x4 x5 x6 M M' h
  replace h : (  f_X7_ride_51_p92 K11 x1 x2 x3 x4 x5 x6 (0 : Int32) M) = some M' := h
  refine z_ic kc_p0 dX7_ride_91 ?_
  exact A_X7_ride_51_p92 hl hK11 x1 x2 x3 x4 x5 x6 (0 : Int32) _ _ h
theorem A_X7_ride_51_p11 {l : Launch} (hl : l.stackTraces = false) {Ls d : Nat} {Lm : zML} :
    ∀ (n : Nat) (x1 : Int32) (x2 : Int32) (x3 : Int32) (x4 : Int32) (M M' : zMM) , f_X7_ride_51_p11 n x1 x2 x3 x4 M = some M' → z_AW l mX7_ride (d + 3) 0 0 11 [.ref 51, .int x1, .int x2, .int x3, .int x4, .null, .null, .null, .null] [] (z_L0 Ls, M, Lm) (.inl none) (z_L0 Ls, M', Lm) := by
  intro n
  induction n with
  | zero => intro x1 x2 x3 x4 M M' h; cases h
  | succ n ih =>
    intro x1 x2 x3 x4 M M' h
    replace h : (  if x2 ≤ x4 then
    z_bi (f_X6_stop_80 x2 M) fun v3 M4 =>
    z_bv (f_X4_place_87 x1 v3 x3 M4) fun M7 =>
    some M7
  else
    z_bi (f_X6_stop_80 x4 M) fun v9 M10 =>
    z_bi (f_X6_stop_80 (x4 + (1 : Int32)) M10) fun v12 M13 =>
    if (M13 87 3) = 0 then
      f_X7_ride_51_p91 (f_X7_ride_51_p11 n) x1 x2 x3 x4 v9 v12 M13
    else
      z_bi (f_X4_draw_87 (1000 : Int32) M13) fun v35 M36 =>
      if (z_at M36 55 5 v9) ≤ v35 then
        f_X7_ride_51_p91 (f_X7_ride_51_p11 n) x1 x2 x3 x4 v9 v12 M36
      else
        f_X7_ride_51_p92 (f_X7_ride_51_p11 n) x1 x2 x3 x4 v9 v12 (z_at M36 54 5 v9) M36) = some M' := h
    refine z_iload dX7_ride_11 rfl ?_
    refine z_iload_n dX7_ride_13 rfl ?_
    refine z_icmp_ge (tgt := 197) dX7_ride_14 rfl (fun g1 => ?_) (fun g1 => ?_)
    · replace h := (if_pos g1).symm.trans h
      refine z_aload_n dX7_ride_197 rfl ?_
      refine z_getR (q := 87) fl_X7_58 dX7_ride_198 en_51 rfl ?_
      refine z_iload_n dX7_ride_201 rfl ?_
      refine z_aload_n dX7_ride_202 rfl ?_
      refine z_getR (q := 80) fl_X7_44 dX7_ride_203 en_51 rfl ?_
      refine z_iload_n dX7_ride_206 rfl ?_
      obtain ⟨v3, M4, c2, h⟩ := z_bi_c h
      refine z_cV (av := [.int x2]) (st := [.int x1, .ref 87]) lk_X7_261 dX7_ride_207 (A_X6_stop_80 (d := d + 1) hl c2) rfl rfl en_80 rfl (Nat.le_of_ble_eq_true rfl) rfl z_len rfl rfl ?_
      refine z_iload_n dX7_ride_210 rfl ?_
      obtain ⟨M7, c5, h⟩ := z_bv_c h
      refine z_cV (av := [.int x1, .int v3, .int x3]) (st := []) lk_X7_294 dX7_ride_211 (A_X4_place_87 (d := d + 1) hl c5) rfl rfl en_87 rfl (Nat.le_of_ble_eq_true rfl) rfl z_len rfl rfl ?_
      cases h
      exact z_return dX7_ride_214 rfl
    · replace h := (if_neg g1).symm.trans h
      refine z_aload_n dX7_ride_17 rfl ?_
      refine z_getR (q := 80) fl_X7_44 dX7_ride_18 en_51 rfl ?_
      refine z_iload dX7_ride_21 rfl ?_
      obtain ⟨v9, M10, c8, h⟩ := z_bi_c h
      refine z_cV (av := [.int x4]) (st := []) lk_X7_261 dX7_ride_23 (A_X6_stop_80 (d := d + 1) hl c8) rfl rfl en_80 rfl (Nat.le_of_ble_eq_true rfl) rfl z_len rfl rfl ?_
      refine z_istore (ls' := [.ref 51, .int x1, .int x2, .int x3, .int x4, .int v9, .null, .null, .null]) dX7_ride_26 (by decide) rfl ?_
      refine z_aload_n dX7_ride_28 rfl ?_
      refine z_getR (q := 80) fl_X7_44 dX7_ride_29 en_51 rfl ?_
      refine z_iload dX7_ride_32 rfl ?_
      refine z_ic kc_p1 dX7_ride_34 ?_
      refine z_iadd dX7_ride_35 ?_
      obtain ⟨v12, M13, c11, h⟩ := z_bi_c h
      refine z_cV (av := [.int (x4 + (1 : Int32))]) (st := []) lk_X7_261 dX7_ride_36 (A_X6_stop_80 (d := d + 1) hl c11) rfl rfl en_80 rfl (Nat.le_of_ble_eq_true rfl) rfl z_len rfl rfl ?_
      refine z_istore (ls' := [.ref 51, .int x1, .int x2, .int x3, .int x4, .int v9, .int v12, .null, .null]) dX7_ride_39 (by decide) rfl ?_
      refine z_aload_n dX7_ride_41 rfl ?_
      refine z_getR (q := 87) fl_X7_58 dX7_ride_42 en_51 rfl ?_
      refine z_gI (v := (M13 87 3)) fl_X7_146 dX7_ride_45 en_87 rfl rfl ?_
      refine z_if_eq (tgt := 91) dX7_ride_48 rfl (fun g14 => ?_) (fun g14 => ?_)
      · replace h := (if_pos g14).symm.trans h
        exact A_X7_ride_51_p91 hl ih x1 x2 x3 x4 v9 v12 _ _ h
      · replace h := (if_neg g14).symm.trans h
        refine z_aload_n dX7_ride_51 rfl ?_
        refine z_getR (q := 87) fl_X7_58 dX7_ride_52 en_51 rfl ?_
        refine z_sp ks_p1000 dX7_ride_55 ?_
        obtain ⟨v35, M36, c34, h⟩ := z_bi_c h
        refine z_cV (av := [.int (1000 : Int32)]) (st := []) lk_X7_288 dX7_ride_58 (A_X4_draw_87 (d := d + 2) hl c34) rfl rfl en_87 rfl (Nat.le_of_ble_eq_true rfl) rfl z_len rfl rfl ?_
        refine z_aload_n dX7_ride_61 rfl ?_
        refine z_getR (q := 53) fl_X7_23 dX7_ride_62 en_51 rfl ?_
        refine z_getR (q := 55) fl_X7_168 dX7_ride_65 en_53 rfl ?_
        refine z_iload dX7_ride_68 rfl ?_
        refine z_cS (av := [.ref 55, .int v9]) (st := [.int v35]) (v := some (.int (z_at M36 55 5 v9))) lk_X7_153 dX7_ride_70 (A_X7_at (d := d + 2) hl (by decide) en_55) rfl rfl (Nat.le_of_ble_eq_true rfl) rfl z_len rfl rfl ?_
        refine z_icmp_ge (tgt := 91) dX7_ride_73 rfl (fun g37 => ?_) (fun g37 => ?_)
        · replace h := (if_pos g37).symm.trans h
          exact A_X7_ride_51_p91 hl ih x1 x2 x3 x4 v9 v12 _ _ h
        · replace h := (if_neg g37).symm.trans h
          refine z_aload_n dX7_ride_76 rfl ?_
          refine z_getR (q := 53) fl_X7_23 dX7_ride_77 en_51 rfl ?_
          refine z_getR (q := 54) fl_X7_165 dX7_ride_80 en_53 rfl ?_
          refine z_iload dX7_ride_83 rfl ?_
          refine z_cS (av := [.ref 54, .int v9]) (st := []) (v := some (.int (z_at M36 54 5 v9))) lk_X7_153 dX7_ride_85 (A_X7_at (d := d + 2) hl (by decide) en_54) rfl rfl (Nat.le_of_ble_eq_true rfl) rfl z_len rfl rfl ?_
          refine z_goto (tgt := 92) dX7_ride_88 rfl ?_
          exact A_X7_ride_51_p92 hl ih x1 x2 x3 x4 v9 v12 (z_at M36 54 5 v9) _ _ h
theorem A_X7_ride_51 {l : Launch} (hl : l.stackTraces = false) {Ls d : Nat} {Lm : zML} {x1 : Int32} {x2 : Int32} {M M' : zMM} (h : f_X7_ride_51 x1 x2 M = some M') : z_Ct l mX7_ride (d + 3) 0 0 [.ref 51, .int x1, .int x2] (z_L0 Ls, M, Lm) (.inl none) (z_L0 Ls, M', Lm) := by
  replace h : (  f_X7_ride_51_p11 z_fuel x1 x2 (M 87 2) (0 : Int32) M) = some M' := h
  refine z_Ct.of hl (by decide) (Nat.le_of_ble_eq_true rfl) rfl ?_
  show z_AW l mX7_ride (d + 3) 0 0 0 [.ref 51, .int x1, .int x2, .null, .null, .null, .null, .null, .null] [] (z_L0 Ls, M, Lm) (.inl none) (z_L0 Ls, M', Lm)
  refine z_aload_n dX7_ride_0 rfl ?_
  refine z_getR (q := 87) fl_X7_58 dX7_ride_1 en_51 rfl ?_
  refine z_gI (v := (M 87 2)) fl_X7_137 dX7_ride_4 en_87 rfl rfl ?_
  refine z_istore_n (ls' := [.ref 51, .int x1, .int x2, .int (M 87 2), .null, .null, .null, .null, .null]) dX7_ride_7 (by decide) rfl ?_
  refine z_ic kc_p0 dX7_ride_8 ?_
  refine z_istore (ls' := [.ref 51, .int x1, .int x2, .int (M 87 2), .int (0 : Int32), .null, .null, .null, .null]) dX7_ride_9 (by decide) rfl ?_
  exact A_X7_ride_51_p11 hl z_fuel x1 x2 (M 87 2) (0 : Int32) _ _ h
/-! X7_send 51 -/
def f_X7_send_51_p51 (x1 : Int32) (a0 : Int32) (M : zMM) : Option ((Int32 ⊕ Nat) × zMM) :=
  if a0 = (-1 : Int32) then
    z_bv (f_X4_refuse_87 (1 : Int32) M) fun M16 =>
    some (.inl (-1 : Int32), M16)
  else
    z_bv (f_X0_keep_101_87  M) fun M19 =>
    z_bv (f_X7_ride_51 x1 a0 M19) fun M22 =>
    some (.inl (z_at M22 89 5 x1), M22)
def f_X7_send_51_p50 (x1 : Int32) (M : zMM) : Option ((Int32 ⊕ Nat) × zMM) :=
  f_X7_send_51_p51 x1 (-1 : Int32) M
def f_X7_send_51 (x1 : Int32) (x2 : Int32) (M : zMM) : Option ((Int32 ⊕ Nat) × zMM) :=
  z_bt (f_X7_checkTrunk_51 x1 M) fun v2 M3 =>
    z_bt (f_X7_checkTown_51 x2 M3) fun v6 M7 =>
      z_bi (f_X4_isThere_87 x1 M7) fun v10 M11 =>
      if v10 = 0 then
        f_X7_send_51_p50 x1 M11
      else
        if (z_at M7 88 5 x1) = x2 then
          f_X7_send_51_p50 x1 M11
        else
          z_bi (f_X6_lay_80 (z_at M7 88 5 x1) x2 M11) fun v25 M26 =>
          f_X7_send_51_p51 x1 v25 M26
theorem A_X7_send_51_p51 {l : Launch} (hl : l.stackTraces = false) {Ls d : Nat} {Lm : zML} :
    ∀ (x1 : Int32) (a0 : Int32) (M M' : zMM) (v : Int32 ⊕ Nat) , f_X7_send_51_p51 x1 a0 M = some (v, M') → z_AW l mX7_send (d + 7) (z_bo v) (6 * z_bo v) 51 [.ref 51, .int x1, .null, .null, .null] [.int a0] (z_L0 Ls, M, Lm) (z_oi v) (z_L0 Ls, M', Lm) := by
  intro x1 a0 M M' v h
  replace h : (  if a0 = (-1 : Int32) then
    z_bv (f_X4_refuse_87 (1 : Int32) M) fun M16 =>
    some (.inl (-1 : Int32), M16)
  else
    z_bv (f_X0_keep_101_87  M) fun M19 =>
    z_bv (f_X7_ride_51 x1 a0 M19) fun M22 =>
    some (.inl (z_at M22 89 5 x1), M22)) = some (v, M') := h
  refine z_istore (ls' := [.ref 51, .int x1, .null, .null, .int a0]) dX7_send_51 (by decide) rfl ?_
  refine z_iload dX7_send_53 rfl ?_
  refine z_ic kc_m1 dX7_send_55 ?_
  refine z_icmp_ne (tgt := 69) dX7_send_56 rfl (fun g13 => ?_) (fun g13 => ?_)
  · replace h := (if_pos g13).symm.trans h
    refine z_aload_n dX7_send_59 rfl ?_
    refine z_getR (q := 87) fl_X7_58 dX7_send_60 en_51 rfl ?_
    refine z_ic kc_p1 dX7_send_63 ?_
    obtain ⟨M16, c14, h⟩ := z_bv_c h
    refine z_cV (av := [.int (1 : Int32)]) (st := []) lk_X7_103 dX7_send_64 (A_X4_refuse_87 (d := d + 5) hl c14) rfl rfl en_87 rfl (Nat.le_of_ble_eq_true rfl) rfl z_len rfl rfl ?_
    refine z_ic kc_m1 dX7_send_67 ?_
    cases h
    exact z_rI dX7_send_68 rfl
  · replace h := (if_neg g13).symm.trans h
    refine z_aload_n dX7_send_69 rfl ?_
    refine z_getR (q := 101) fl_X7_72 dX7_send_70 en_51 rfl ?_
    refine z_aload_n dX7_send_73 rfl ?_
    refine z_getR (q := 87) fl_X7_58 dX7_send_74 en_51 rfl ?_
    obtain ⟨M19, c17, h⟩ := z_bv_c h
    refine z_cV (av := [.ref 87]) (st := []) lk_X7_281 dX7_send_77 (A_X0_keep_101_87 (d := d + 5) hl c17) rfl rfl en_101 rfl (Nat.le_of_ble_eq_true rfl) rfl z_len rfl rfl ?_
    refine z_aload_n dX7_send_80 rfl ?_
    refine z_iload_n dX7_send_81 rfl ?_
    refine z_iload dX7_send_82 rfl ?_
    obtain ⟨M22, c20, h⟩ := z_bv_c h
    refine z_cV (av := [.int x1, .int a0]) (st := []) lk_X7_285 dX7_send_84 (A_X7_ride_51 (d := d + 3) hl c20) rfl rfl en_51 rfl (Nat.le_of_ble_eq_true rfl) rfl z_len rfl rfl ?_
    refine z_aload_n dX7_send_87 rfl ?_
    refine z_getR (q := 87) fl_X7_58 dX7_send_88 en_51 rfl ?_
    refine z_getR (q := 89) fl_X7_195 dX7_send_91 en_87 rfl ?_
    refine z_iload_n dX7_send_94 rfl ?_
    refine z_cS (av := [.ref 89, .int x1]) (st := []) (v := some (.int (z_at M22 89 5 x1))) lk_X7_153 dX7_send_95 (A_X7_at (d := d + 6) hl (by decide) en_89) rfl rfl (Nat.le_of_ble_eq_true rfl) rfl z_len rfl rfl ?_
    cases h
    exact z_rI dX7_send_98 rfl
theorem A_X7_send_51_p50 {l : Launch} (hl : l.stackTraces = false) {Ls d : Nat} {Lm : zML} :
    ∀ (x1 : Int32) (M M' : zMM) (v : Int32 ⊕ Nat) , f_X7_send_51_p50 x1 M = some (v, M') → z_AW l mX7_send (d + 7) (z_bo v) (6 * z_bo v) 50 [.ref 51, .int x1, .null, .null, .null] [] (z_L0 Ls, M, Lm) (z_oi v) (z_L0 Ls, M', Lm) := by
  intro x1 M M' v h
  replace h : (  f_X7_send_51_p51 x1 (-1 : Int32) M) = some (v, M') := h
  refine z_ic kc_m1 dX7_send_50 ?_
  exact A_X7_send_51_p51 hl x1 (-1 : Int32) _ _ _ h
theorem A_X7_send_51 {l : Launch} (hl : l.stackTraces = false) {Ls d : Nat} {Lm : zML} {x1 : Int32} {x2 : Int32} {M M' : zMM} {v : Int32 ⊕ Nat} (h : f_X7_send_51 x1 x2 M = some (v, M')) : z_Ct l mX7_send (d + 7) (z_bo v) (6 * z_bo v) [.ref 51, .int x1, .int x2] (z_L0 Ls, M, Lm) (z_oi v) (z_L0 Ls, M', Lm) := by
  replace h : (  z_bt (f_X7_checkTrunk_51 x1 M) fun v2 M3 =>
    z_bt (f_X7_checkTown_51 x2 M3) fun v6 M7 =>
      z_bi (f_X4_isThere_87 x1 M7) fun v10 M11 =>
      if v10 = 0 then
        f_X7_send_51_p50 x1 M11
      else
        if (z_at M7 88 5 x1) = x2 then
          f_X7_send_51_p50 x1 M11
        else
          z_bi (f_X6_lay_80 (z_at M7 88 5 x1) x2 M11) fun v25 M26 =>
          f_X7_send_51_p51 x1 v25 M26) = some (v, M') := h
  refine z_Ct.of hl (by decide) (Nat.le_of_ble_eq_true rfl) rfl ?_
  show z_AW l mX7_send (d + 7) (z_bo v) (6 * z_bo v) 0 [.ref 51, .int x1, .int x2, .null, .null] [] (z_L0 Ls, M, Lm) (z_oi v) (z_L0 Ls, M', Lm)
  refine z_aload_n dX7_send_0 rfl ?_
  refine z_iload_n dX7_send_1 rfl ?_
  rcases z_bt_c h with ⟨v2, M3, c1, h⟩ | ⟨e4, c1, rfl⟩
  · refine z_cV (av := [.int x1]) (st := []) lk_X7_185 dX7_send_2 (z_tv (A_X7_checkTrunk_51 (d := d + 0) hl c1)) rfl rfl en_51 rfl (Nat.le_of_ble_eq_true rfl) rfl z_len rfl rfl ?_
    refine z_aload_n dX7_send_5 rfl ?_
    refine z_iload_n dX7_send_6 rfl ?_
    rcases z_bt_c h with ⟨v6, M7, c5, h⟩ | ⟨e8, c5, rfl⟩
    · refine z_cV (av := [.int x2]) (st := []) lk_X7_162 dX7_send_7 (z_tv (A_X7_checkTown_51 (d := d + 0) hl c5)) rfl rfl en_51 rfl (Nat.le_of_ble_eq_true rfl) rfl z_len rfl rfl ?_
      refine z_aload_n dX7_send_10 rfl ?_
      refine z_getR (q := 87) fl_X7_58 dX7_send_11 en_51 rfl ?_
      refine z_getR (q := 88) fl_X7_192 dX7_send_14 en_87 rfl ?_
      refine z_iload_n dX7_send_17 rfl ?_
      refine z_cS (av := [.ref 88, .int x1]) (st := []) (v := some (.int (z_at M7 88 5 x1))) lk_X7_153 dX7_send_18 (A_X7_at (d := d + 6) hl (by decide) en_88) rfl rfl (Nat.le_of_ble_eq_true rfl) rfl z_len rfl rfl ?_
      refine z_istore_n (ls' := [.ref 51, .int x1, .int x2, .int (z_at M7 88 5 x1), .null]) dX7_send_21 (by decide) rfl ?_
      refine z_aload_n dX7_send_22 rfl ?_
      refine z_getR (q := 87) fl_X7_58 dX7_send_23 en_51 rfl ?_
      refine z_iload_n dX7_send_26 rfl ?_
      obtain ⟨v10, M11, c9, h⟩ := z_bi_c h
      refine z_cV (av := [.int x1]) (st := []) lk_X7_188 dX7_send_27 (A_X4_isThere_87 (d := d + 5) hl c9) rfl rfl en_87 rfl (Nat.le_of_ble_eq_true rfl) rfl z_len rfl rfl ?_
      refine z_if_eq (tgt := 50) dX7_send_30 rfl (fun g12 => ?_) (fun g12 => ?_)
      · replace h := (if_pos g12).symm.trans h
        refine z_fg (ls' := [.ref 51, .int x1, .null, .null, .null]) ⟨Or.inr rfl, Or.inr rfl, Or.inl rfl, Or.inl rfl, Or.inl rfl, trivial⟩ ?_
        exact A_X7_send_51_p50 hl x1 _ _ _ h
      · replace h := (if_neg g12).symm.trans h
        refine z_iload_n dX7_send_33 rfl ?_
        refine z_iload_n dX7_send_34 rfl ?_
        refine z_icmp_eq (tgt := 50) dX7_send_35 rfl (fun g23 => ?_) (fun g23 => ?_)
        · replace h := (if_pos g23).symm.trans h
          refine z_fg (ls' := [.ref 51, .int x1, .null, .null, .null]) ⟨Or.inr rfl, Or.inr rfl, Or.inl rfl, Or.inl rfl, Or.inl rfl, trivial⟩ ?_
          exact A_X7_send_51_p50 hl x1 _ _ _ h
        · replace h := (if_neg g23).symm.trans h
          refine z_aload_n dX7_send_38 rfl ?_
          refine z_getR (q := 80) fl_X7_44 dX7_send_39 en_51 rfl ?_
          refine z_iload_n dX7_send_42 rfl ?_
          refine z_iload_n dX7_send_43 rfl ?_
          obtain ⟨v25, M26, c24, h⟩ := z_bi_c h
          refine z_cV (av := [.int (z_at M7 88 5 x1), .int x2]) (st := []) lk_X7_276 dX7_send_44 (A_X6_lay_80 (d := d + 3) hl c24) rfl rfl en_80 rfl (Nat.le_of_ble_eq_true rfl) rfl z_len rfl rfl ?_
          refine z_goto (tgt := 51) dX7_send_47 rfl ?_
          refine z_fg (ls' := [.ref 51, .int x1, .null, .null, .null]) ⟨Or.inr rfl, Or.inr rfl, Or.inl rfl, Or.inl rfl, Or.inl rfl, trivial⟩ ?_
          exact A_X7_send_51_p51 hl x1 v25 _ _ _ h
    · exact z_cVx (av := [.int x2]) (st := []) lk_X7_162 dX7_send_7 (A_X7_checkTown_51 (d := d + 0) hl c5) rfl rfl en_51 rfl (Nat.le_of_ble_eq_true rfl) rfl z_len rfl rfl (Nat.le_refl _) (Nat.le_refl _)
  · exact z_cVx (av := [.int x1]) (st := []) lk_X7_185 dX7_send_2 (A_X7_checkTrunk_51 (d := d + 0) hl c1) rfl rfl en_51 rfl (Nat.le_of_ble_eq_true rfl) rfl z_len rfl rfl (Nat.le_refl _) (Nat.le_refl _)
/-! X1_canBeThere 103 -/
def f_X1_canBeThere_103_p38 : Nat → Int32 → Int32 → Int32 → Int32 → zMM → Option (Int32 × zMM)
  | 0, _, _, _, _, _ => none
  | n + 1, x2, x3, x4, x5, M =>
  if (4 : Int32) ≤ x5 then
    some ((1 : Int32), M)
  else
    z_bi (f_X7_has x2 x5 M) fun v3 M4 =>
    if v3 = 0 then
      f_X1_canBeThere_103_p38 n x2 x3 x4 (x5 + (1 : Int32)) M4
    else
      z_bi (f_X6_span_80 x3 (z_at M4 91 4 x5) M4) fun v7 M8 =>
      if (M8 87 5) ≤ x5 then
        some ((0 : Int32), M8)
      else
        if v7 = (-1 : Int32) then
          some ((0 : Int32), M8)
        else
          if (x4 + v7) ≤ (z_at M8 90 4 x5) then
            f_X1_canBeThere_103_p38 n x2 (z_at M8 91 4 x5) (z_at M8 90 4 x5) (x5 + (1 : Int32)) M8
          else
            some ((0 : Int32), M8)
def f_X1_canBeThere_103 (x1 : Int32) (x2 : Int32) (M : zMM) : Option (Int32 × zMM) :=
  f_X1_canBeThere_103_p38 z_fuel x2 (z_at M 88 5 x1) (z_max (M 87 2) (z_at M 89 5 x1)) (0 : Int32) M
theorem A_X1_canBeThere_103_p38 {l : Launch} (hl : l.stackTraces = false) {Ls d : Nat} {Lm : zML} :
    ∀ (n : Nat) (x2 : Int32) (x3 : Int32) (x4 : Int32) (x5 : Int32) (M M' : zMM) (v : Int32) , f_X1_canBeThere_103_p38 n x2 x3 x4 x5 M = some (v, M') → z_AW l mX1_canBeThere (d + 2) 0 0 38 [.ref 103, .null, .int x2, .int x3, .int x4, .int x5, .null] [] (z_L0 Ls, M, Lm) (.inl (some (.int v))) (z_L0 Ls, M', Lm) := by
  intro n
  induction n with
  | zero => intro x2 x3 x4 x5 M M' v h; cases h
  | succ n ih =>
    intro x2 x3 x4 x5 M M' v h
    replace h : (  if (4 : Int32) ≤ x5 then
    some ((1 : Int32), M)
  else
    z_bi (f_X7_has x2 x5 M) fun v3 M4 =>
    if v3 = 0 then
      f_X1_canBeThere_103_p38 n x2 x3 x4 (x5 + (1 : Int32)) M4
    else
      z_bi (f_X6_span_80 x3 (z_at M4 91 4 x5) M4) fun v7 M8 =>
      if (M8 87 5) ≤ x5 then
        some ((0 : Int32), M8)
      else
        if v7 = (-1 : Int32) then
          some ((0 : Int32), M8)
        else
          if (x4 + v7) ≤ (z_at M8 90 4 x5) then
            f_X1_canBeThere_103_p38 n x2 (z_at M8 91 4 x5) (z_at M8 90 4 x5) (x5 + (1 : Int32)) M8
          else
            some ((0 : Int32), M8)) = some (v, M') := h
    refine z_iload dX1_canBeThere_38 rfl ?_
    refine z_ic kc_p4 dX1_canBeThere_40 ?_
    refine z_icmp_ge (tgt := 148) dX1_canBeThere_41 rfl (fun g1 => ?_) (fun g1 => ?_)
    · replace h := (if_pos g1).symm.trans h
      refine z_ic kc_p1 dX1_canBeThere_148 ?_
      cases h
      exact z_rZ dX1_canBeThere_149 rfl rfl
    · replace h := (if_neg g1).symm.trans h
      refine z_iload_n dX1_canBeThere_44 rfl ?_
      refine z_iload dX1_canBeThere_45 rfl ?_
      obtain ⟨v3, M4, c2, h⟩ := z_bi_c h
      refine z_cN (av := [.int x2, .int x5]) (st := []) lk_X1_121 dX1_canBeThere_47 (A_X7_has (d := d + 1) hl c2) rfl rfl (Nat.le_of_ble_eq_true rfl) rfl z_len rfl rfl ?_
      refine z_if_eq (tgt := 142) dX1_canBeThere_50 rfl (fun g5 => ?_) (fun g5 => ?_)
      · replace h := (if_pos g5).symm.trans h
        refine z_ii (ls' := [.ref 103, .null, .int x2, .int x3, .int x4, .int (x5 + (1 : Int32)), .null]) kc_p1 dX1_canBeThere_142 rfl (by decide) rfl ?_
        refine z_goto (tgt := 38) dX1_canBeThere_145 rfl ?_
        exact ih x2 x3 x4 (x5 + (1 : Int32)) _ _ _ h
      · replace h := (if_neg g5).symm.trans h
        refine z_aload_n dX1_canBeThere_53 rfl ?_
        refine z_getR (q := 80) fl_X1_36 dX1_canBeThere_54 en_103 rfl ?_
        refine z_iload_n dX1_canBeThere_57 rfl ?_
        refine z_aload_n dX1_canBeThere_58 rfl ?_
        refine z_getR (q := 87) fl_X1_44 dX1_canBeThere_59 en_103 rfl ?_
        refine z_getR (q := 91) fl_X1_99 dX1_canBeThere_62 en_87 rfl ?_
        refine z_iload dX1_canBeThere_65 rfl ?_
        refine z_cN (av := [.ref 91, .int x5]) (st := [.int x3, .ref 80]) (v := some (.int (z_at M4 91 4 x5))) lk_X1_48 dX1_canBeThere_67 (A_X7_at (d := d + 1) hl (by decide) en_91) rfl rfl (Nat.le_of_ble_eq_true rfl) rfl z_len rfl rfl ?_
        obtain ⟨v7, M8, c6, h⟩ := z_bi_c h
        refine z_cV (av := [.int x3, .int (z_at M4 91 4 x5)]) (st := []) lk_X1_124 dX1_canBeThere_70 (A_X6_span_80 (d := d + 0) hl c6) rfl rfl en_80 rfl (Nat.le_of_ble_eq_true rfl) rfl z_len rfl rfl ?_
        refine z_istore (ls' := [.ref 103, .null, .int x2, .int x3, .int x4, .int x5, .int v7]) dX1_canBeThere_73 (by decide) rfl ?_
        refine z_iload dX1_canBeThere_75 rfl ?_
        refine z_aload_n dX1_canBeThere_77 rfl ?_
        refine z_getR (q := 87) fl_X1_44 dX1_canBeThere_78 en_103 rfl ?_
        refine z_gI (v := (M8 87 5)) fl_X1_88 dX1_canBeThere_81 en_87 rfl rfl ?_
        refine z_icmp_ge (tgt := 113) dX1_canBeThere_84 rfl (fun g9 => ?_) (fun g9 => ?_)
        · replace h := (if_pos g9).symm.trans h
          refine z_ic kc_p0 dX1_canBeThere_113 ?_
          cases h
          exact z_rZ dX1_canBeThere_114 rfl rfl
        · replace h := (if_neg g9).symm.trans h
          refine z_iload dX1_canBeThere_87 rfl ?_
          refine z_ic kc_m1 dX1_canBeThere_89 ?_
          refine z_icmp_eq (tgt := 113) dX1_canBeThere_90 rfl (fun g10 => ?_) (fun g10 => ?_)
          · replace h := (if_pos g10).symm.trans h
            refine z_ic kc_p0 dX1_canBeThere_113 ?_
            cases h
            exact z_rZ dX1_canBeThere_114 rfl rfl
          · replace h := (if_neg g10).symm.trans h
            refine z_iload dX1_canBeThere_93 rfl ?_
            refine z_iload dX1_canBeThere_95 rfl ?_
            refine z_iadd dX1_canBeThere_97 ?_
            refine z_aload_n dX1_canBeThere_98 rfl ?_
            refine z_getR (q := 87) fl_X1_44 dX1_canBeThere_99 en_103 rfl ?_
            refine z_getR (q := 90) fl_X1_129 dX1_canBeThere_102 en_87 rfl ?_
            refine z_iload dX1_canBeThere_105 rfl ?_
            refine z_cN (av := [.ref 90, .int x5]) (st := [.int (x4 + v7)]) (v := some (.int (z_at M8 90 4 x5))) lk_X1_48 dX1_canBeThere_107 (A_X7_at (d := d + 1) hl (by decide) en_90) rfl rfl (Nat.le_of_ble_eq_true rfl) rfl z_len rfl rfl ?_
            refine z_icmp_le (tgt := 115) dX1_canBeThere_110 rfl (fun g11 => ?_) (fun g11 => ?_)
            · replace h := (if_pos g11).symm.trans h
              refine z_aload_n dX1_canBeThere_115 rfl ?_
              refine z_getR (q := 87) fl_X1_44 dX1_canBeThere_116 en_103 rfl ?_
              refine z_getR (q := 91) fl_X1_99 dX1_canBeThere_119 en_87 rfl ?_
              refine z_iload dX1_canBeThere_122 rfl ?_
              refine z_cN (av := [.ref 91, .int x5]) (st := []) (v := some (.int (z_at M8 91 4 x5))) lk_X1_48 dX1_canBeThere_124 (A_X7_at (d := d + 1) hl (by decide) en_91) rfl rfl (Nat.le_of_ble_eq_true rfl) rfl z_len rfl rfl ?_
              refine z_istore_n (ls' := [.ref 103, .null, .int x2, .int (z_at M8 91 4 x5), .int x4, .int x5, .int v7]) dX1_canBeThere_127 (by decide) rfl ?_
              refine z_aload_n dX1_canBeThere_128 rfl ?_
              refine z_getR (q := 87) fl_X1_44 dX1_canBeThere_129 en_103 rfl ?_
              refine z_getR (q := 90) fl_X1_129 dX1_canBeThere_132 en_87 rfl ?_
              refine z_iload dX1_canBeThere_135 rfl ?_
              refine z_cN (av := [.ref 90, .int x5]) (st := []) (v := some (.int (z_at M8 90 4 x5))) lk_X1_48 dX1_canBeThere_137 (A_X7_at (d := d + 1) hl (by decide) en_90) rfl rfl (Nat.le_of_ble_eq_true rfl) rfl z_len rfl rfl ?_
              refine z_istore (ls' := [.ref 103, .null, .int x2, .int (z_at M8 91 4 x5), .int (z_at M8 90 4 x5), .int x5, .int v7]) dX1_canBeThere_140 (by decide) rfl ?_
              refine z_ii (ls' := [.ref 103, .null, .int x2, .int (z_at M8 91 4 x5), .int (z_at M8 90 4 x5), .int (x5 + (1 : Int32)), .int v7]) kc_p1 dX1_canBeThere_142 rfl (by decide) rfl ?_
              refine z_goto (tgt := 38) dX1_canBeThere_145 rfl ?_
              refine z_fg (ls' := [.ref 103, .null, .int x2, .int (z_at M8 91 4 x5), .int (z_at M8 90 4 x5), .int (x5 + (1 : Int32)), .null]) ⟨Or.inr rfl, Or.inl rfl, Or.inr rfl, Or.inr rfl, Or.inr rfl, Or.inr rfl, Or.inl rfl, trivial⟩ ?_
              exact ih x2 (z_at M8 91 4 x5) (z_at M8 90 4 x5) (x5 + (1 : Int32)) _ _ _ h
            · replace h := (if_neg g11).symm.trans h
              refine z_ic kc_p0 dX1_canBeThere_113 ?_
              cases h
              exact z_rZ dX1_canBeThere_114 rfl rfl
theorem A_X1_canBeThere_103 {l : Launch} (hl : l.stackTraces = false) {Ls d : Nat} {Lm : zML} {x1 : Int32} {x2 : Int32} {M M' : zMM} {v : Int32} (h : f_X1_canBeThere_103 x1 x2 M = some (v, M')) : z_Ct l mX1_canBeThere (d + 2) 0 0 [.ref 103, .int x1, .int x2] (z_L0 Ls, M, Lm) (.inl (some (.int v))) (z_L0 Ls, M', Lm) := by
  replace h : (  f_X1_canBeThere_103_p38 z_fuel x2 (z_at M 88 5 x1) (z_max (M 87 2) (z_at M 89 5 x1)) (0 : Int32) M) = some (v, M') := h
  refine z_Ct.of hl (by decide) (Nat.le_of_ble_eq_true rfl) rfl ?_
  show z_AW l mX1_canBeThere (d + 2) 0 0 0 [.ref 103, .int x1, .int x2, .null, .null, .null, .null] [] (z_L0 Ls, M, Lm) (.inl (some (.int v))) (z_L0 Ls, M', Lm)
  refine z_aload_n dX1_canBeThere_0 rfl ?_
  refine z_getR (q := 87) fl_X1_44 dX1_canBeThere_1 en_103 rfl ?_
  refine z_getR (q := 88) fl_X1_107 dX1_canBeThere_4 en_87 rfl ?_
  refine z_iload_n dX1_canBeThere_7 rfl ?_
  refine z_cN (av := [.ref 88, .int x1]) (st := []) (v := some (.int (z_at M 88 5 x1))) lk_X1_48 dX1_canBeThere_8 (A_X7_at (d := d + 1) hl (by decide) en_88) rfl rfl (Nat.le_of_ble_eq_true rfl) rfl z_len rfl rfl ?_
  refine z_istore_n (ls' := [.ref 103, .int x1, .int x2, .int (z_at M 88 5 x1), .null, .null, .null]) dX1_canBeThere_11 (by decide) rfl ?_
  refine z_aload_n dX1_canBeThere_12 rfl ?_
  refine z_getR (q := 87) fl_X1_44 dX1_canBeThere_13 en_103 rfl ?_
  refine z_gI (v := (M 87 2)) fl_X1_110 dX1_canBeThere_16 en_87 rfl rfl ?_
  refine z_aload_n dX1_canBeThere_19 rfl ?_
  refine z_getR (q := 87) fl_X1_44 dX1_canBeThere_20 en_103 rfl ?_
  refine z_getR (q := 89) fl_X1_113 dX1_canBeThere_23 en_87 rfl ?_
  refine z_iload_n dX1_canBeThere_26 rfl ?_
  refine z_cN (av := [.ref 89, .int x1]) (st := [.int (M 87 2)]) (v := some (.int (z_at M 89 5 x1))) lk_X1_48 dX1_canBeThere_27 (A_X7_at (d := d + 1) hl (by decide) en_89) rfl rfl (Nat.le_of_ble_eq_true rfl) rfl z_len rfl rfl ?_
  refine z_mmax lk_X1_116 dX1_canBeThere_30 (Nat.le_of_ble_eq_true rfl) (by omega) ?_
  refine z_istore (ls' := [.ref 103, .int x1, .int x2, .int (z_at M 88 5 x1), .int (z_max (M 87 2) (z_at M 89 5 x1)), .null, .null]) dX1_canBeThere_33 (by decide) rfl ?_
  refine z_ic kc_p0 dX1_canBeThere_35 ?_
  refine z_istore (ls' := [.ref 103, .int x1, .int x2, .int (z_at M 88 5 x1), .int (z_max (M 87 2) (z_at M 89 5 x1)), .int (0 : Int32), .null]) dX1_canBeThere_36 (by decide) rfl ?_
  refine z_fg (ls' := [.ref 103, .null, .int x2, .int (z_at M 88 5 x1), .int (z_max (M 87 2) (z_at M 89 5 x1)), .int (0 : Int32), .null]) ⟨Or.inr rfl, Or.inl rfl, Or.inr rfl, Or.inr rfl, Or.inr rfl, Or.inr rfl, Or.inl rfl, trivial⟩ ?_
  exact A_X1_canBeThere_103_p38 hl z_fuel x2 (z_at M 88 5 x1) (z_max (M 87 2) (z_at M 89 5 x1)) (0 : Int32) _ _ _ h
/-! X1_fitOf 103 -/
def f_X1_fitOf_103 (x1 : Int32) (x2 : Int32) (M : zMM) : Option (Int32 × zMM) :=
  some ((z_at M 104 80 ((x1 * (16 : Int32)) + x2)), M)
theorem A_X1_fitOf_103 {l : Launch} (hl : l.stackTraces = false) {Ls d : Nat} {Lm : zML} {x1 : Int32} {x2 : Int32} {M M' : zMM} {v : Int32} (h : f_X1_fitOf_103 x1 x2 M = some (v, M')) : z_Ct l mX1_fitOf (d + 1) 0 0 [.ref 103, .int x1, .int x2] (z_L0 Ls, M, Lm) (.inl (some (.int v))) (z_L0 Ls, M', Lm) := by
  replace h : (  some ((z_at M 104 80 ((x1 * (16 : Int32)) + x2)), M)) = some (v, M') := h
  refine z_Ct.of hl (by decide) (Nat.le_of_ble_eq_true rfl) rfl ?_
  show z_AW l mX1_fitOf (d + 1) 0 0 0 [.ref 103, .int x1, .int x2] [] (z_L0 Ls, M, Lm) (.inl (some (.int v))) (z_L0 Ls, M', Lm)
  refine z_aload_n dX1_fitOf_0 rfl ?_
  refine z_getR (q := 104) fl_X1_11 dX1_fitOf_1 en_103 rfl ?_
  refine z_iload_n dX1_fitOf_4 rfl ?_
  refine z_bp kb_p16 dX1_fitOf_5 ?_
  refine z_imul dX1_fitOf_7 ?_
  refine z_iload_n dX1_fitOf_8 rfl ?_
  refine z_iadd dX1_fitOf_9 ?_
  refine z_cN (av := [.ref 104, .int ((x1 * (16 : Int32)) + x2)]) (st := []) (v := some (.int (z_at M 104 80 ((x1 * (16 : Int32)) + x2)))) lk_X1_48 dX1_fitOf_10 (A_X7_at (d := d + 0) hl (by decide) en_104) rfl rfl (Nat.le_of_ble_eq_true rfl) rfl z_len rfl rfl ?_
  cases h
  exact z_rI dX1_fitOf_13 rfl
/-! X1_fitsWithMore 103 -/
def f_X1_fitsWithMore_103_p2 : Nat → Int32 → Int32 → Int32 → zMM → Option (Int32 × zMM)
  | 0, _, _, _, _ => none
  | n + 1, x1, x2, x3, M =>
  if (4 : Int32) ≤ x3 then
    some ((0 : Int32), M)
  else
    if (x2 ||| ((1 : Int32) <<< (x3 &&& 31))) = x2 then
      f_X1_fitsWithMore_103_p2 n x1 x2 (x3 + (1 : Int32)) M
    else
      z_bi (f_X1_fitOf_103 x1 (x2 ||| ((1 : Int32) <<< (x3 &&& 31))) M) fun v4 M5 =>
      if v4 = 0 then
        f_X1_fitsWithMore_103_p2 n x1 x2 (x3 + (1 : Int32)) M5
      else
        some ((1 : Int32), M5)
def f_X1_fitsWithMore_103 (x1 : Int32) (x2 : Int32) (M : zMM) : Option (Int32 × zMM) :=
  f_X1_fitsWithMore_103_p2 z_fuel x1 x2 (0 : Int32) M
theorem A_X1_fitsWithMore_103_p2 {l : Launch} (hl : l.stackTraces = false) {Ls d : Nat} {Lm : zML} :
    ∀ (n : Nat) (x1 : Int32) (x2 : Int32) (x3 : Int32) (M M' : zMM) (v : Int32) , f_X1_fitsWithMore_103_p2 n x1 x2 x3 M = some (v, M') → z_AW l mX1_fitsWithMore (d + 2) 0 0 2 [.ref 103, .int x1, .int x2, .int x3, .null] [] (z_L0 Ls, M, Lm) (.inl (some (.int v))) (z_L0 Ls, M', Lm) := by
  intro n
  induction n with
  | zero => intro x1 x2 x3 M M' v h; cases h
  | succ n ih =>
    intro x1 x2 x3 M M' v h
    replace h : (  if (4 : Int32) ≤ x3 then
    some ((0 : Int32), M)
  else
    if (x2 ||| ((1 : Int32) <<< (x3 &&& 31))) = x2 then
      f_X1_fitsWithMore_103_p2 n x1 x2 (x3 + (1 : Int32)) M
    else
      z_bi (f_X1_fitOf_103 x1 (x2 ||| ((1 : Int32) <<< (x3 &&& 31))) M) fun v4 M5 =>
      if v4 = 0 then
        f_X1_fitsWithMore_103_p2 n x1 x2 (x3 + (1 : Int32)) M5
      else
        some ((1 : Int32), M5)) = some (v, M') := h
    refine z_iload_n dX1_fitsWithMore_2 rfl ?_
    refine z_ic kc_p4 dX1_fitsWithMore_3 ?_
    refine z_icmp_ge (tgt := 38) dX1_fitsWithMore_4 rfl (fun g1 => ?_) (fun g1 => ?_)
    · replace h := (if_pos g1).symm.trans h
      refine z_ic kc_p0 dX1_fitsWithMore_38 ?_
      cases h
      exact z_rZ dX1_fitsWithMore_39 rfl rfl
    · replace h := (if_neg g1).symm.trans h
      refine z_iload_n dX1_fitsWithMore_7 rfl ?_
      refine z_ic kc_p1 dX1_fitsWithMore_8 ?_
      refine z_iload_n dX1_fitsWithMore_9 rfl ?_
      refine z_ishl dX1_fitsWithMore_10 ?_
      refine z_ior dX1_fitsWithMore_11 ?_
      refine z_istore (ls' := [.ref 103, .int x1, .int x2, .int x3, .int (x2 ||| ((1 : Int32) <<< (x3 &&& 31)))]) dX1_fitsWithMore_12 (by decide) rfl ?_
      refine z_iload dX1_fitsWithMore_14 rfl ?_
      refine z_iload_n dX1_fitsWithMore_16 rfl ?_
      refine z_icmp_eq (tgt := 32) dX1_fitsWithMore_17 rfl (fun g2 => ?_) (fun g2 => ?_)
      · replace h := (if_pos g2).symm.trans h
        refine z_ii (ls' := [.ref 103, .int x1, .int x2, .int (x3 + (1 : Int32)), .int (x2 ||| ((1 : Int32) <<< (x3 &&& 31)))]) kc_p1 dX1_fitsWithMore_32 rfl (by decide) rfl ?_
        refine z_goto (tgt := 2) dX1_fitsWithMore_35 rfl ?_
        refine z_fg (ls' := [.ref 103, .int x1, .int x2, .int (x3 + (1 : Int32)), .null]) ⟨Or.inr rfl, Or.inr rfl, Or.inr rfl, Or.inr rfl, Or.inl rfl, trivial⟩ ?_
        exact ih x1 x2 (x3 + (1 : Int32)) _ _ _ h
      · replace h := (if_neg g2).symm.trans h
        refine z_aload_n dX1_fitsWithMore_20 rfl ?_
        refine z_iload_n dX1_fitsWithMore_21 rfl ?_
        refine z_iload dX1_fitsWithMore_22 rfl ?_
        obtain ⟨v4, M5, c3, h⟩ := z_bi_c h
        refine z_cV (av := [.int x1, .int (x2 ||| ((1 : Int32) <<< (x3 &&& 31)))]) (st := []) lk_X1_93 dX1_fitsWithMore_24 (A_X1_fitOf_103 (d := d + 0) hl c3) rfl rfl en_103 rfl (Nat.le_of_ble_eq_true rfl) rfl z_len rfl rfl ?_
        refine z_if_eq (tgt := 32) dX1_fitsWithMore_27 rfl (fun g6 => ?_) (fun g6 => ?_)
        · replace h := (if_pos g6).symm.trans h
          refine z_ii (ls' := [.ref 103, .int x1, .int x2, .int (x3 + (1 : Int32)), .int (x2 ||| ((1 : Int32) <<< (x3 &&& 31)))]) kc_p1 dX1_fitsWithMore_32 rfl (by decide) rfl ?_
          refine z_goto (tgt := 2) dX1_fitsWithMore_35 rfl ?_
          refine z_fg (ls' := [.ref 103, .int x1, .int x2, .int (x3 + (1 : Int32)), .null]) ⟨Or.inr rfl, Or.inr rfl, Or.inr rfl, Or.inr rfl, Or.inl rfl, trivial⟩ ?_
          exact ih x1 x2 (x3 + (1 : Int32)) _ _ _ h
        · replace h := (if_neg g6).symm.trans h
          refine z_ic kc_p1 dX1_fitsWithMore_30 ?_
          cases h
          exact z_rZ dX1_fitsWithMore_31 rfl rfl
theorem A_X1_fitsWithMore_103 {l : Launch} (hl : l.stackTraces = false) {Ls d : Nat} {Lm : zML} {x1 : Int32} {x2 : Int32} {M M' : zMM} {v : Int32} (h : f_X1_fitsWithMore_103 x1 x2 M = some (v, M')) : z_Ct l mX1_fitsWithMore (d + 2) 0 0 [.ref 103, .int x1, .int x2] (z_L0 Ls, M, Lm) (.inl (some (.int v))) (z_L0 Ls, M', Lm) := by
  replace h : (  f_X1_fitsWithMore_103_p2 z_fuel x1 x2 (0 : Int32) M) = some (v, M') := h
  refine z_Ct.of hl (by decide) (Nat.le_of_ble_eq_true rfl) rfl ?_
  show z_AW l mX1_fitsWithMore (d + 2) 0 0 0 [.ref 103, .int x1, .int x2, .null, .null] [] (z_L0 Ls, M, Lm) (.inl (some (.int v))) (z_L0 Ls, M', Lm)
  refine z_ic kc_p0 dX1_fitsWithMore_0 ?_
  refine z_istore_n (ls' := [.ref 103, .int x1, .int x2, .int (0 : Int32), .null]) dX1_fitsWithMore_1 (by decide) rfl ?_
  exact A_X1_fitsWithMore_103_p2 hl z_fuel x1 x2 (0 : Int32) _ _ _ h
/-! X1_findFits 103 -/
def f_X1_findFits_103_p46 (K2 : Int32 → zMM → Option zMM) (K16 : Int32 → Int32 → zMM → Option zMM) (x1 : Int32) (x2 : Int32) (x3 : Int32) (M : zMM) : Option zMM :=
  z_bv (some (z_pt M 104 80 ((x1 * (16 : Int32)) + x2) x3)) fun M8 =>
  K16 x1 (x2 + (-1 : Int32)) M8
def f_X1_findFits_103_p45 (K2 : Int32 → zMM → Option zMM) (K16 : Int32 → Int32 → zMM → Option zMM) (x1 : Int32) (x2 : Int32) (a0 : Int32) (M : zMM) : Option zMM :=
  f_X1_findFits_103_p46 K2 K16 x1 x2 a0 M
def f_X1_findFits_103_p16 (K2 : Int32 → zMM → Option zMM) : Nat → Int32 → Int32 → zMM → Option zMM
  | 0, _, _, _ => none
  | n + 1, x1, x2, M =>
  if x2 < 0 then
    K2 (x1 + (1 : Int32)) M
  else
    z_bi (f_X1_canBeThere_103 x1 x2 M) fun v4 M5 =>
    if v4 = 0 then
      f_X1_findFits_103_p46 K2 (f_X1_findFits_103_p16 K2 n) x1 x2 (0 : Int32) M5
    else
      z_bi (f_X1_fitsWithMore_103 x1 x2 M5) fun v10 M11 =>
      if v10 = 0 then
        f_X1_findFits_103_p45 K2 (f_X1_findFits_103_p16 K2 n) x1 x2 (2 : Int32) M11
      else
        f_X1_findFits_103_p45 K2 (f_X1_findFits_103_p16 K2 n) x1 x2 (1 : Int32) M11
def f_X1_findFits_103_p2 : Nat → Int32 → zMM → Option zMM
  | 0, _, _ => none
  | n + 1, x1, M =>
  if (M 53 6) ≤ x1 then
    some M
  else
    f_X1_findFits_103_p16 (f_X1_findFits_103_p2 n) z_fuel x1 (15 : Int32) M
def f_X1_findFits_103  (M : zMM) : Option zMM :=
  f_X1_findFits_103_p2 z_fuel (0 : Int32) M
theorem A_X1_findFits_103_p46 {l : Launch} (hl : l.stackTraces = false) {Ls d : Nat} {Lm : zML} {K2 : Int32 → zMM → Option zMM} {K16 : Int32 → Int32 → zMM → Option zMM}
    (hK2 : ∀ (x1 : Int32) (M M' : zMM) , K2 x1 M = some M' → z_AW l mX1_findFits (d + 3) 0 0 2 [.ref 103, .int x1, .null, .null] [] (z_L0 Ls, M, Lm) (.inl none) (z_L0 Ls, M', Lm))
    (hK16 : ∀ (x1 : Int32) (x2 : Int32) (M M' : zMM) , K16 x1 x2 M = some M' → z_AW l mX1_findFits (d + 3) 0 0 16 [.ref 103, .int x1, .int x2, .null] [] (z_L0 Ls, M, Lm) (.inl none) (z_L0 Ls, M', Lm)) :
    ∀ (x1 : Int32) (x2 : Int32) (x3 : Int32) (M M' : zMM) , f_X1_findFits_103_p46 K2 K16 x1 x2 x3 M = some M' → z_AW l mX1_findFits (d + 3) 0 0 46 [.ref 103, .int x1, .int x2, .int x3] [] (z_L0 Ls, M, Lm) (.inl none) (z_L0 Ls, M', Lm) := by
  intro x1 x2 x3 M M' h
  replace h : (  z_bv (some (z_pt M 104 80 ((x1 * (16 : Int32)) + x2) x3)) fun M8 =>
  K16 x1 (x2 + (-1 : Int32)) M8) = some M' := h
  refine z_aload_n dX1_findFits_46 rfl ?_
  refine z_getR (q := 104) fl_X1_11 dX1_findFits_47 en_103 rfl ?_
  refine z_iload_n dX1_findFits_50 rfl ?_
  refine z_bp kb_p16 dX1_findFits_51 ?_
  refine z_imul dX1_findFits_53 ?_
  refine z_iload_n dX1_findFits_54 rfl ?_
  refine z_iadd dX1_findFits_55 ?_
  refine z_iload_n dX1_findFits_56 rfl ?_
  obtain ⟨M8, c7, h⟩ := z_bv_c h
  refine z_cN (av := [.ref 104, .int ((x1 * (16 : Int32)) + x2), .int x3]) (st := []) lk_X1_70 dX1_findFits_57 (z_Ct.to (A_X7_put (d := d + 2) hl (by decide) (by decide) en_104) c7) rfl rfl (Nat.le_of_ble_eq_true rfl) rfl z_len rfl rfl ?_
  refine z_ii (ls' := [.ref 103, .int x1, .int (x2 + (-1 : Int32)), .int x3]) kc_m1 dX1_findFits_60 rfl (by decide) rfl ?_
  refine z_goto (tgt := 16) dX1_findFits_63 rfl ?_
  refine z_fg (ls' := [.ref 103, .int x1, .int (x2 + (-1 : Int32)), .null]) ⟨Or.inr rfl, Or.inr rfl, Or.inr rfl, Or.inl rfl, trivial⟩ ?_
  exact hK16 x1 (x2 + (-1 : Int32)) _ _ h
theorem A_X1_findFits_103_p45 {l : Launch} (hl : l.stackTraces = false) {Ls d : Nat} {Lm : zML} {K2 : Int32 → zMM → Option zMM} {K16 : Int32 → Int32 → zMM → Option zMM}
    (hK2 : ∀ (x1 : Int32) (M M' : zMM) , K2 x1 M = some M' → z_AW l mX1_findFits (d + 3) 0 0 2 [.ref 103, .int x1, .null, .null] [] (z_L0 Ls, M, Lm) (.inl none) (z_L0 Ls, M', Lm))
    (hK16 : ∀ (x1 : Int32) (x2 : Int32) (M M' : zMM) , K16 x1 x2 M = some M' → z_AW l mX1_findFits (d + 3) 0 0 16 [.ref 103, .int x1, .int x2, .null] [] (z_L0 Ls, M, Lm) (.inl none) (z_L0 Ls, M', Lm)) :
    ∀ (x1 : Int32) (x2 : Int32) (a0 : Int32) (M M' : zMM) , f_X1_findFits_103_p45 K2 K16 x1 x2 a0 M = some M' → z_AW l mX1_findFits (d + 3) 0 0 45 [.ref 103, .int x1, .int x2, .null] [.int a0] (z_L0 Ls, M, Lm) (.inl none) (z_L0 Ls, M', Lm) := by
  intro x1 x2 a0 M M' h
  replace h : (  f_X1_findFits_103_p46 K2 K16 x1 x2 a0 M) = some M' := h
  refine z_istore_n (ls' := [.ref 103, .int x1, .int x2, .int a0]) dX1_findFits_45 (by decide) rfl ?_
  exact A_X1_findFits_103_p46 hl hK2 hK16 x1 x2 a0 _ _ h
theorem A_X1_findFits_103_p16 {l : Launch} (hl : l.stackTraces = false) {Ls d : Nat} {Lm : zML} {K2 : Int32 → zMM → Option zMM}
    (hK2 : ∀ (x1 : Int32) (M M' : zMM) , K2 x1 M = some M' → z_AW l mX1_findFits (d + 3) 0 0 2 [.ref 103, .int x1, .null, .null] [] (z_L0 Ls, M, Lm) (.inl none) (z_L0 Ls, M', Lm)) :
    ∀ (n : Nat) (x1 : Int32) (x2 : Int32) (M M' : zMM) , f_X1_findFits_103_p16 K2 n x1 x2 M = some M' → z_AW l mX1_findFits (d + 3) 0 0 16 [.ref 103, .int x1, .int x2, .null] [] (z_L0 Ls, M, Lm) (.inl none) (z_L0 Ls, M', Lm) := by
  intro n
  induction n with
  | zero => intro x1 x2 M M' h; cases h
  | succ n ih =>
    intro x1 x2 M M' h
    replace h : (  if x2 < 0 then
    K2 (x1 + (1 : Int32)) M
  else
    z_bi (f_X1_canBeThere_103 x1 x2 M) fun v4 M5 =>
    if v4 = 0 then
      f_X1_findFits_103_p46 K2 (f_X1_findFits_103_p16 K2 n) x1 x2 (0 : Int32) M5
    else
      z_bi (f_X1_fitsWithMore_103 x1 x2 M5) fun v10 M11 =>
      if v10 = 0 then
        f_X1_findFits_103_p45 K2 (f_X1_findFits_103_p16 K2 n) x1 x2 (2 : Int32) M11
      else
        f_X1_findFits_103_p45 K2 (f_X1_findFits_103_p16 K2 n) x1 x2 (1 : Int32) M11) = some M' := h
    refine z_iload_n dX1_findFits_16 rfl ?_
    refine z_if_lt (tgt := 66) dX1_findFits_17 rfl (fun g2 => ?_) (fun g2 => ?_)
    · replace h := (if_pos g2).symm.trans h
      refine z_ii (ls' := [.ref 103, .int (x1 + (1 : Int32)), .int x2, .null]) kc_p1 dX1_findFits_66 rfl (by decide) rfl ?_
      refine z_goto (tgt := 2) dX1_findFits_69 rfl ?_
      refine z_fg (ls' := [.ref 103, .int (x1 + (1 : Int32)), .null, .null]) ⟨Or.inr rfl, Or.inr rfl, Or.inl rfl, Or.inl rfl, trivial⟩ ?_
      exact hK2 (x1 + (1 : Int32)) _ _ h
    · replace h := (if_neg g2).symm.trans h
      refine z_ic kc_p0 dX1_findFits_20 ?_
      refine z_istore_n (ls' := [.ref 103, .int x1, .int x2, .int (0 : Int32)]) dX1_findFits_21 (by decide) rfl ?_
      refine z_aload_n dX1_findFits_22 rfl ?_
      refine z_iload_n dX1_findFits_23 rfl ?_
      refine z_iload_n dX1_findFits_24 rfl ?_
      obtain ⟨v4, M5, c3, h⟩ := z_bi_c h
      refine z_cV (av := [.int x1, .int x2]) (st := []) lk_X1_82 dX1_findFits_25 (A_X1_canBeThere_103 (d := d + 0) hl c3) rfl rfl en_103 rfl (Nat.le_of_ble_eq_true rfl) rfl z_len rfl rfl ?_
      refine z_if_eq (tgt := 46) dX1_findFits_28 rfl (fun g6 => ?_) (fun g6 => ?_)
      · replace h := (if_pos g6).symm.trans h
        exact A_X1_findFits_103_p46 hl hK2 ih x1 x2 (0 : Int32) _ _ h
      · replace h := (if_neg g6).symm.trans h
        refine z_aload_n dX1_findFits_31 rfl ?_
        refine z_iload_n dX1_findFits_32 rfl ?_
        refine z_iload_n dX1_findFits_33 rfl ?_
        obtain ⟨v10, M11, c9, h⟩ := z_bi_c h
        refine z_cV (av := [.int x1, .int x2]) (st := []) lk_X1_85 dX1_findFits_34 (A_X1_fitsWithMore_103 (d := d + 0) hl c9) rfl rfl en_103 rfl (Nat.le_of_ble_eq_true rfl) rfl z_len rfl rfl ?_
        refine z_if_eq (tgt := 44) dX1_findFits_37 rfl (fun g12 => ?_) (fun g12 => ?_)
        · replace h := (if_pos g12).symm.trans h
          refine z_ic kc_p2 dX1_findFits_44 ?_
          refine z_fg (ls' := [.ref 103, .int x1, .int x2, .null]) ⟨Or.inr rfl, Or.inr rfl, Or.inr rfl, Or.inl rfl, trivial⟩ ?_
          exact A_X1_findFits_103_p45 hl hK2 ih x1 x2 (2 : Int32) _ _ h
        · replace h := (if_neg g12).symm.trans h
          refine z_ic kc_p1 dX1_findFits_40 ?_
          refine z_goto (tgt := 45) dX1_findFits_41 rfl ?_
          refine z_fg (ls' := [.ref 103, .int x1, .int x2, .null]) ⟨Or.inr rfl, Or.inr rfl, Or.inr rfl, Or.inl rfl, trivial⟩ ?_
          exact A_X1_findFits_103_p45 hl hK2 ih x1 x2 (1 : Int32) _ _ h
theorem A_X1_findFits_103_p2 {l : Launch} (hl : l.stackTraces = false) {Ls d : Nat} {Lm : zML} :
    ∀ (n : Nat) (x1 : Int32) (M M' : zMM) , f_X1_findFits_103_p2 n x1 M = some M' → z_AW l mX1_findFits (d + 3) 0 0 2 [.ref 103, .int x1, .null, .null] [] (z_L0 Ls, M, Lm) (.inl none) (z_L0 Ls, M', Lm) := by
  intro n
  induction n with
  | zero => intro x1 M M' h; cases h
  | succ n ih =>
    intro x1 M M' h
    replace h : (  if (M 53 6) ≤ x1 then
    some M
  else
    f_X1_findFits_103_p16 (f_X1_findFits_103_p2 n) z_fuel x1 (15 : Int32) M) = some M' := h
    refine z_iload_n dX1_findFits_2 rfl ?_
    refine z_aload_n dX1_findFits_3 rfl ?_
    refine z_getR (q := 53) fl_X1_32 dX1_findFits_4 en_103 rfl ?_
    refine z_gI (v := (M 53 6)) fl_X1_62 dX1_findFits_7 en_53 rfl rfl ?_
    refine z_icmp_ge (tgt := 72) dX1_findFits_10 rfl (fun g1 => ?_) (fun g1 => ?_)
    · replace h := (if_pos g1).symm.trans h
      cases h
      exact z_return dX1_findFits_72 rfl
    · replace h := (if_neg g1).symm.trans h
      refine z_bp kb_p15 dX1_findFits_13 ?_
      refine z_istore_n (ls' := [.ref 103, .int x1, .int (15 : Int32), .null]) dX1_findFits_15 (by decide) rfl ?_
      exact A_X1_findFits_103_p16 hl ih z_fuel x1 (15 : Int32) _ _ h
theorem A_X1_findFits_103 {l : Launch} (hl : l.stackTraces = false) {Ls d : Nat} {Lm : zML}  {M M' : zMM} (h : f_X1_findFits_103  M = some M') : z_Ct l mX1_findFits (d + 3) 0 0 [.ref 103] (z_L0 Ls, M, Lm) (.inl none) (z_L0 Ls, M', Lm) := by
  replace h : (  f_X1_findFits_103_p2 z_fuel (0 : Int32) M) = some M' := h
  refine z_Ct.of hl (by decide) (Nat.le_of_ble_eq_true rfl) rfl ?_
  show z_AW l mX1_findFits (d + 3) 0 0 0 [.ref 103, .null, .null, .null] [] (z_L0 Ls, M, Lm) (.inl none) (z_L0 Ls, M', Lm)
  refine z_ic kc_p0 dX1_findFits_0 ?_
  refine z_istore_n (ls' := [.ref 103, .int (0 : Int32), .null, .null]) dX1_findFits_1 (by decide) rfl ?_
  exact A_X1_findFits_103_p2 hl z_fuel (0 : Int32) _ _ h
/-! X1_findCosts 103 -/
def f_X1_findCosts_103_p57 (K2 : Int32 → zMM → Option zMM) : Nat → Int32 → Int32 → Int32 → zMM → Option zMM
  | 0, _, _, _, _ => none
  | n + 1, x1, x2, x3, M =>
  if (32 : Int32) ≤ x3 then
    K2 (x1 + (1 : Int32)) M
  else
    if (x3 &&& (x2 ^^^ (-1 : Int32))) = 0 then
      z_bi (f_X2_byTrunks_83 (z_at M 92 4 x1) (z_at M 91 4 x1) x3 M) fun v6 M7 =>
      z_bv (some (z_pt M7 105 128 ((x1 * (32 : Int32)) + x3) v6)) fun M9 =>
      f_X1_findCosts_103_p57 K2 n x1 x2 (x3 + (1 : Int32)) M9
    else
      f_X1_findCosts_103_p57 K2 n x1 x2 (x3 + (1 : Int32)) M
def f_X1_findCosts_103_p17 (K2 : Int32 → zMM → Option zMM) : Nat → Int32 → Int32 → Int32 → zMM → Option zMM
  | 0, _, _, _, _ => none
  | n + 1, x1, x2, x3, M =>
  if (M 53 6) ≤ x3 then
    f_X1_findCosts_103_p57 K2 z_fuel x1 x2 (0 : Int32) M
  else
    z_bi (f_X1_fitOf_103 x3 ((1 : Int32) <<< (x1 &&& 31)) M) fun v11 M12 =>
    if v11 = 0 then
      f_X1_findCosts_103_p17 K2 n x1 (x2 ||| (0 : Int32)) (x3 + (1 : Int32)) M12
    else
      f_X1_findCosts_103_p17 K2 n x1 (x2 ||| ((1 : Int32) <<< (x3 &&& 31))) (x3 + (1 : Int32)) M12
def f_X1_findCosts_103_p2 : Nat → Int32 → zMM → Option zMM
  | 0, _, _ => none
  | n + 1, x1, M =>
  if (M 87 5) ≤ x1 then
    some M
  else
    f_X1_findCosts_103_p17 (f_X1_findCosts_103_p2 n) z_fuel x1 (0 : Int32) (0 : Int32) M
def f_X1_findCosts_103  (M : zMM) : Option zMM :=
  f_X1_findCosts_103_p2 z_fuel (0 : Int32) M
theorem A_X1_findCosts_103_p57 {l : Launch} (hl : l.stackTraces = false) {Ls d : Nat} {Lm : zML} {K2 : Int32 → zMM → Option zMM}
    (hK2 : ∀ (x1 : Int32) (M M' : zMM) , K2 x1 M = some M' → z_AW l mX1_findCosts (d + 5) 0 0 2 [.ref 103, .int x1, .null, .null, .null] [] (z_L0 Ls, M, Lm) (.inl none) (z_L0 Ls, M', Lm)) :
    ∀ (n : Nat) (x1 : Int32) (x2 : Int32) (x3 : Int32) (M M' : zMM) , f_X1_findCosts_103_p57 K2 n x1 x2 x3 M = some M' → z_AW l mX1_findCosts (d + 5) 0 0 57 [.ref 103, .int x1, .int x2, .int x3, .null] [] (z_L0 Ls, M, Lm) (.inl none) (z_L0 Ls, M', Lm) := by
  intro n
  induction n with
  | zero => intro x1 x2 x3 M M' h; cases h
  | succ n ih =>
    intro x1 x2 x3 M M' h
    replace h : (  if (32 : Int32) ≤ x3 then
    K2 (x1 + (1 : Int32)) M
  else
    if (x3 &&& (x2 ^^^ (-1 : Int32))) = 0 then
      z_bi (f_X2_byTrunks_83 (z_at M 92 4 x1) (z_at M 91 4 x1) x3 M) fun v6 M7 =>
      z_bv (some (z_pt M7 105 128 ((x1 * (32 : Int32)) + x3) v6)) fun M9 =>
      f_X1_findCosts_103_p57 K2 n x1 x2 (x3 + (1 : Int32)) M9
    else
      f_X1_findCosts_103_p57 K2 n x1 x2 (x3 + (1 : Int32)) M) = some M' := h
    refine z_iload_n dX1_findCosts_57 rfl ?_
    refine z_bp kb_p32 dX1_findCosts_58 ?_
    refine z_icmp_ge (tgt := 124) dX1_findCosts_60 rfl (fun g3 => ?_) (fun g3 => ?_)
    · replace h := (if_pos g3).symm.trans h
      refine z_ii (ls' := [.ref 103, .int (x1 + (1 : Int32)), .int x2, .int x3, .null]) kc_p1 dX1_findCosts_124 rfl (by decide) rfl ?_
      refine z_goto (tgt := 2) dX1_findCosts_127 rfl ?_
      refine z_fg (ls' := [.ref 103, .int (x1 + (1 : Int32)), .null, .null, .null]) ⟨Or.inr rfl, Or.inr rfl, Or.inl rfl, Or.inl rfl, Or.inl rfl, trivial⟩ ?_
      exact hK2 (x1 + (1 : Int32)) _ _ h
    · replace h := (if_neg g3).symm.trans h
      refine z_iload_n dX1_findCosts_63 rfl ?_
      refine z_iload_n dX1_findCosts_64 rfl ?_
      refine z_ic kc_m1 dX1_findCosts_65 ?_
      refine z_ixor dX1_findCosts_66 ?_
      refine z_iand dX1_findCosts_67 ?_
      refine z_if_ne (tgt := 118) dX1_findCosts_68 rfl (fun g4 => ?_) (fun g4 => ?_)
      · replace h := (if_pos g4).symm.trans h
        refine z_aload_n dX1_findCosts_71 rfl ?_
        refine z_getR (q := 83) fl_X1_40 dX1_findCosts_72 en_103 rfl ?_
        refine z_aload_n dX1_findCosts_75 rfl ?_
        refine z_getR (q := 87) fl_X1_44 dX1_findCosts_76 en_103 rfl ?_
        refine z_getR (q := 92) fl_X1_96 dX1_findCosts_79 en_87 rfl ?_
        refine z_iload_n dX1_findCosts_82 rfl ?_
        refine z_cN (av := [.ref 92, .int x1]) (st := [.ref 83]) (v := some (.int (z_at M 92 4 x1))) lk_X1_48 dX1_findCosts_83 (A_X7_at (d := d + 4) hl (by decide) en_92) rfl rfl (Nat.le_of_ble_eq_true rfl) rfl z_len rfl rfl ?_
        refine z_aload_n dX1_findCosts_86 rfl ?_
        refine z_getR (q := 87) fl_X1_44 dX1_findCosts_87 en_103 rfl ?_
        refine z_getR (q := 91) fl_X1_99 dX1_findCosts_90 en_87 rfl ?_
        refine z_iload_n dX1_findCosts_93 rfl ?_
        refine z_cN (av := [.ref 91, .int x1]) (st := [.int (z_at M 92 4 x1), .ref 83]) (v := some (.int (z_at M 91 4 x1))) lk_X1_48 dX1_findCosts_94 (A_X7_at (d := d + 4) hl (by decide) en_91) rfl rfl (Nat.le_of_ble_eq_true rfl) rfl z_len rfl rfl ?_
        refine z_iload_n dX1_findCosts_97 rfl ?_
        obtain ⟨v6, M7, c5, h⟩ := z_bi_c h
        refine z_cV (av := [.int (z_at M 92 4 x1), .int (z_at M 91 4 x1), .int x3]) (st := []) lk_X1_102 dX1_findCosts_98 (A_X2_byTrunks_83 (d := d + 0) hl c5) rfl rfl en_83 rfl (Nat.le_of_ble_eq_true rfl) rfl z_len rfl rfl ?_
        refine z_istore (ls' := [.ref 103, .int x1, .int x2, .int x3, .int v6]) dX1_findCosts_101 (by decide) rfl ?_
        refine z_aload_n dX1_findCosts_103 rfl ?_
        refine z_getR (q := 105) fl_X1_15 dX1_findCosts_104 en_103 rfl ?_
        refine z_iload_n dX1_findCosts_107 rfl ?_
        refine z_bp kb_p32 dX1_findCosts_108 ?_
        refine z_imul dX1_findCosts_110 ?_
        refine z_iload_n dX1_findCosts_111 rfl ?_
        refine z_iadd dX1_findCosts_112 ?_
        refine z_iload dX1_findCosts_113 rfl ?_
        obtain ⟨M9, c8, h⟩ := z_bv_c h
        refine z_cN (av := [.ref 105, .int ((x1 * (32 : Int32)) + x3), .int v6]) (st := []) lk_X1_70 dX1_findCosts_115 (z_Ct.to (A_X7_put (d := d + 4) hl (by decide) (by decide) en_105) c8) rfl rfl (Nat.le_of_ble_eq_true rfl) rfl z_len rfl rfl ?_
        refine z_ii (ls' := [.ref 103, .int x1, .int x2, .int (x3 + (1 : Int32)), .int v6]) kc_p1 dX1_findCosts_118 rfl (by decide) rfl ?_
        refine z_goto (tgt := 57) dX1_findCosts_121 rfl ?_
        refine z_fg (ls' := [.ref 103, .int x1, .int x2, .int (x3 + (1 : Int32)), .null]) ⟨Or.inr rfl, Or.inr rfl, Or.inr rfl, Or.inr rfl, Or.inl rfl, trivial⟩ ?_
        exact ih x1 x2 (x3 + (1 : Int32)) _ _ h
      · replace h := (if_neg g4).symm.trans h
        refine z_ii (ls' := [.ref 103, .int x1, .int x2, .int (x3 + (1 : Int32)), .null]) kc_p1 dX1_findCosts_118 rfl (by decide) rfl ?_
        refine z_goto (tgt := 57) dX1_findCosts_121 rfl ?_
        exact ih x1 x2 (x3 + (1 : Int32)) _ _ h
theorem A_X1_findCosts_103_p17 {l : Launch} (hl : l.stackTraces = false) {Ls d : Nat} {Lm : zML} {K2 : Int32 → zMM → Option zMM}
    (hK2 : ∀ (x1 : Int32) (M M' : zMM) , K2 x1 M = some M' → z_AW l mX1_findCosts (d + 5) 0 0 2 [.ref 103, .int x1, .null, .null, .null] [] (z_L0 Ls, M, Lm) (.inl none) (z_L0 Ls, M', Lm)) :
    ∀ (n : Nat) (x1 : Int32) (x2 : Int32) (x3 : Int32) (M M' : zMM) , f_X1_findCosts_103_p17 K2 n x1 x2 x3 M = some M' → z_AW l mX1_findCosts (d + 5) 0 0 17 [.ref 103, .int x1, .int x2, .int x3, .null] [] (z_L0 Ls, M, Lm) (.inl none) (z_L0 Ls, M', Lm) := by
  intro n
  induction n with
  | zero => intro x1 x2 x3 M M' h; cases h
  | succ n ih =>
    intro x1 x2 x3 M M' h
    replace h : (  if (M 53 6) ≤ x3 then
    f_X1_findCosts_103_p57 K2 z_fuel x1 x2 (0 : Int32) M
  else
    z_bi (f_X1_fitOf_103 x3 ((1 : Int32) <<< (x1 &&& 31)) M) fun v11 M12 =>
    if v11 = 0 then
      f_X1_findCosts_103_p17 K2 n x1 (x2 ||| (0 : Int32)) (x3 + (1 : Int32)) M12
    else
      f_X1_findCosts_103_p17 K2 n x1 (x2 ||| ((1 : Int32) <<< (x3 &&& 31))) (x3 + (1 : Int32)) M12) = some M' := h
    refine z_iload_n dX1_findCosts_17 rfl ?_
    refine z_aload_n dX1_findCosts_18 rfl ?_
    refine z_getR (q := 53) fl_X1_32 dX1_findCosts_19 en_103 rfl ?_
    refine z_gI (v := (M 53 6)) fl_X1_62 dX1_findCosts_22 en_53 rfl rfl ?_
    refine z_icmp_ge (tgt := 55) dX1_findCosts_25 rfl (fun g2 => ?_) (fun g2 => ?_)
    · replace h := (if_pos g2).symm.trans h
      refine z_ic kc_p0 dX1_findCosts_55 ?_
      refine z_istore_n (ls' := [.ref 103, .int x1, .int x2, .int (0 : Int32), .null]) dX1_findCosts_56 (by decide) rfl ?_
      exact A_X1_findCosts_103_p57 hl hK2 z_fuel x1 x2 (0 : Int32) _ _ h
    · replace h := (if_neg g2).symm.trans h
      refine z_iload_n dX1_findCosts_28 rfl ?_
      refine z_aload_n dX1_findCosts_29 rfl ?_
      refine z_iload_n dX1_findCosts_30 rfl ?_
      refine z_ic kc_p1 dX1_findCosts_31 ?_
      refine z_iload_n dX1_findCosts_32 rfl ?_
      refine z_ishl dX1_findCosts_33 ?_
      obtain ⟨v11, M12, c10, h⟩ := z_bi_c h
      refine z_cV (av := [.int x3, .int ((1 : Int32) <<< (x1 &&& 31))]) (st := [.int x2]) lk_X1_93 dX1_findCosts_34 (A_X1_fitOf_103 (d := d + 3) hl c10) rfl rfl en_103 rfl (Nat.le_of_ble_eq_true rfl) rfl z_len rfl rfl ?_
      refine z_if_ne (tgt := 44) dX1_findCosts_37 rfl (fun g13 => ?_) (fun g13 => ?_)
      · replace h := (if_pos g13).symm.trans h
        refine z_ic kc_p0 dX1_findCosts_40 ?_
        refine z_goto (tgt := 47) dX1_findCosts_41 rfl ?_
        refine z_ior dX1_findCosts_47 ?_
        refine z_istore_n (ls' := [.ref 103, .int x1, .int (x2 ||| (0 : Int32)), .int x3, .null]) dX1_findCosts_48 (by decide) rfl ?_
        refine z_ii (ls' := [.ref 103, .int x1, .int (x2 ||| (0 : Int32)), .int (x3 + (1 : Int32)), .null]) kc_p1 dX1_findCosts_49 rfl (by decide) rfl ?_
        refine z_goto (tgt := 17) dX1_findCosts_52 rfl ?_
        exact ih x1 (x2 ||| (0 : Int32)) (x3 + (1 : Int32)) _ _ h
      · replace h := (if_neg g13).symm.trans h
        refine z_ic kc_p1 dX1_findCosts_44 ?_
        refine z_iload_n dX1_findCosts_45 rfl ?_
        refine z_ishl dX1_findCosts_46 ?_
        refine z_ior dX1_findCosts_47 ?_
        refine z_istore_n (ls' := [.ref 103, .int x1, .int (x2 ||| ((1 : Int32) <<< (x3 &&& 31))), .int x3, .null]) dX1_findCosts_48 (by decide) rfl ?_
        refine z_ii (ls' := [.ref 103, .int x1, .int (x2 ||| ((1 : Int32) <<< (x3 &&& 31))), .int (x3 + (1 : Int32)), .null]) kc_p1 dX1_findCosts_49 rfl (by decide) rfl ?_
        refine z_goto (tgt := 17) dX1_findCosts_52 rfl ?_
        exact ih x1 (x2 ||| ((1 : Int32) <<< (x3 &&& 31))) (x3 + (1 : Int32)) _ _ h
theorem A_X1_findCosts_103_p2 {l : Launch} (hl : l.stackTraces = false) {Ls d : Nat} {Lm : zML} :
    ∀ (n : Nat) (x1 : Int32) (M M' : zMM) , f_X1_findCosts_103_p2 n x1 M = some M' → z_AW l mX1_findCosts (d + 5) 0 0 2 [.ref 103, .int x1, .null, .null, .null] [] (z_L0 Ls, M, Lm) (.inl none) (z_L0 Ls, M', Lm) := by
  intro n
  induction n with
  | zero => intro x1 M M' h; cases h
  | succ n ih =>
    intro x1 M M' h
    replace h : (  if (M 87 5) ≤ x1 then
    some M
  else
    f_X1_findCosts_103_p17 (f_X1_findCosts_103_p2 n) z_fuel x1 (0 : Int32) (0 : Int32) M) = some M' := h
    refine z_iload_n dX1_findCosts_2 rfl ?_
    refine z_aload_n dX1_findCosts_3 rfl ?_
    refine z_getR (q := 87) fl_X1_44 dX1_findCosts_4 en_103 rfl ?_
    refine z_gI (v := (M 87 5)) fl_X1_88 dX1_findCosts_7 en_87 rfl rfl ?_
    refine z_icmp_ge (tgt := 130) dX1_findCosts_10 rfl (fun g1 => ?_) (fun g1 => ?_)
    · replace h := (if_pos g1).symm.trans h
      cases h
      exact z_return dX1_findCosts_130 rfl
    · replace h := (if_neg g1).symm.trans h
      refine z_ic kc_p0 dX1_findCosts_13 ?_
      refine z_istore_n (ls' := [.ref 103, .int x1, .int (0 : Int32), .null, .null]) dX1_findCosts_14 (by decide) rfl ?_
      refine z_ic kc_p0 dX1_findCosts_15 ?_
      refine z_istore_n (ls' := [.ref 103, .int x1, .int (0 : Int32), .int (0 : Int32), .null]) dX1_findCosts_16 (by decide) rfl ?_
      exact A_X1_findCosts_103_p17 hl ih z_fuel x1 (0 : Int32) (0 : Int32) _ _ h
theorem A_X1_findCosts_103 {l : Launch} (hl : l.stackTraces = false) {Ls d : Nat} {Lm : zML}  {M M' : zMM} (h : f_X1_findCosts_103  M = some M') : z_Ct l mX1_findCosts (d + 5) 0 0 [.ref 103] (z_L0 Ls, M, Lm) (.inl none) (z_L0 Ls, M', Lm) := by
  replace h : (  f_X1_findCosts_103_p2 z_fuel (0 : Int32) M) = some M' := h
  refine z_Ct.of hl (by decide) (Nat.le_of_ble_eq_true rfl) rfl ?_
  show z_AW l mX1_findCosts (d + 5) 0 0 0 [.ref 103, .null, .null, .null, .null] [] (z_L0 Ls, M, Lm) (.inl none) (z_L0 Ls, M', Lm)
  refine z_ic kc_p0 dX1_findCosts_0 ?_
  refine z_istore_n (ls' := [.ref 103, .int (0 : Int32), .null, .null, .null]) dX1_findCosts_1 (by decide) rfl ?_
  exact A_X1_findCosts_103_p2 hl z_fuel (0 : Int32) _ _ h
/-! X1_priceOf 103 -/
def f_X1_priceOf_103_p4 : Nat → Int32 → Int32 → Int32 → zMM → Option (Int32 × zMM)
  | 0, _, _, _, _ => none
  | n + 1, x1, x2, x3, M =>
  if (M 87 5) ≤ x3 then
    some (x2, M)
  else
    if (z_at M 105 128 ((x3 * (32 : Int32)) + ((z_ush x1 (x3 * (8 : Int32))) &&& (31 : Int32)))) = (-1 : Int32) then
      some ((-1 : Int32), M)
    else
      f_X1_priceOf_103_p4 n x1 (x2 + (z_at M 105 128 ((x3 * (32 : Int32)) + ((z_ush x1 (x3 * (8 : Int32))) &&& (31 : Int32))))) (x3 + (1 : Int32)) M
def f_X1_priceOf_103 (x1 : Int32) (M : zMM) : Option (Int32 × zMM) :=
  f_X1_priceOf_103_p4 z_fuel x1 (0 : Int32) (0 : Int32) M
theorem A_X1_priceOf_103_p4 {l : Launch} (hl : l.stackTraces = false) {Ls d : Nat} {Lm : zML} :
    ∀ (n : Nat) (x1 : Int32) (x2 : Int32) (x3 : Int32) (M M' : zMM) (v : Int32) , f_X1_priceOf_103_p4 n x1 x2 x3 M = some (v, M') → z_AW l mX1_priceOf (d + 1) 0 0 4 [.ref 103, .int x1, .int x2, .int x3, .null, .null] [] (z_L0 Ls, M, Lm) (.inl (some (.int v))) (z_L0 Ls, M', Lm) := by
  intro n
  induction n with
  | zero => intro x1 x2 x3 M M' v h; cases h
  | succ n ih =>
    intro x1 x2 x3 M M' v h
    replace h : (  if (M 87 5) ≤ x3 then
    some (x2, M)
  else
    if (z_at M 105 128 ((x3 * (32 : Int32)) + ((z_ush x1 (x3 * (8 : Int32))) &&& (31 : Int32)))) = (-1 : Int32) then
      some ((-1 : Int32), M)
    else
      f_X1_priceOf_103_p4 n x1 (x2 + (z_at M 105 128 ((x3 * (32 : Int32)) + ((z_ush x1 (x3 * (8 : Int32))) &&& (31 : Int32))))) (x3 + (1 : Int32)) M) = some (v, M') := h
    refine z_iload_n dX1_priceOf_4 rfl ?_
    refine z_aload_n dX1_priceOf_5 rfl ?_
    refine z_getR (q := 87) fl_X1_44 dX1_priceOf_6 en_103 rfl ?_
    refine z_gI (v := (M 87 5)) fl_X1_88 dX1_priceOf_9 en_87 rfl rfl ?_
    refine z_icmp_ge (tgt := 61) dX1_priceOf_12 rfl (fun g1 => ?_) (fun g1 => ?_)
    · replace h := (if_pos g1).symm.trans h
      refine z_iload_n dX1_priceOf_61 rfl ?_
      cases h
      exact z_rI dX1_priceOf_62 rfl
    · replace h := (if_neg g1).symm.trans h
      refine z_iload_n dX1_priceOf_15 rfl ?_
      refine z_iload_n dX1_priceOf_16 rfl ?_
      refine z_bp kb_p8 dX1_priceOf_17 ?_
      refine z_imul dX1_priceOf_19 ?_
      refine z_iushr dX1_priceOf_20 ?_
      refine z_bp kb_p31 dX1_priceOf_21 ?_
      refine z_iand dX1_priceOf_23 ?_
      refine z_istore (ls' := [.ref 103, .int x1, .int x2, .int x3, .int ((z_ush x1 (x3 * (8 : Int32))) &&& (31 : Int32)), .null]) dX1_priceOf_24 (by decide) rfl ?_
      refine z_aload_n dX1_priceOf_26 rfl ?_
      refine z_getR (q := 105) fl_X1_15 dX1_priceOf_27 en_103 rfl ?_
      refine z_iload_n dX1_priceOf_30 rfl ?_
      refine z_bp kb_p32 dX1_priceOf_31 ?_
      refine z_imul dX1_priceOf_33 ?_
      refine z_iload dX1_priceOf_34 rfl ?_
      refine z_iadd dX1_priceOf_36 ?_
      refine z_cN (av := [.ref 105, .int ((x3 * (32 : Int32)) + ((z_ush x1 (x3 * (8 : Int32))) &&& (31 : Int32)))]) (st := []) (v := some (.int (z_at M 105 128 ((x3 * (32 : Int32)) + ((z_ush x1 (x3 * (8 : Int32))) &&& (31 : Int32)))))) lk_X1_48 dX1_priceOf_37 (A_X7_at (d := d + 0) hl (by decide) en_105) rfl rfl (Nat.le_of_ble_eq_true rfl) rfl z_len rfl rfl ?_
      refine z_istore (ls' := [.ref 103, .int x1, .int x2, .int x3, .int ((z_ush x1 (x3 * (8 : Int32))) &&& (31 : Int32)), .int (z_at M 105 128 ((x3 * (32 : Int32)) + ((z_ush x1 (x3 * (8 : Int32))) &&& (31 : Int32))))]) dX1_priceOf_40 (by decide) rfl ?_
      refine z_iload dX1_priceOf_42 rfl ?_
      refine z_ic kc_m1 dX1_priceOf_44 ?_
      refine z_icmp_ne (tgt := 50) dX1_priceOf_45 rfl (fun g2 => ?_) (fun g2 => ?_)
      · replace h := (if_pos g2).symm.trans h
        refine z_ic kc_m1 dX1_priceOf_48 ?_
        cases h
        exact z_rI dX1_priceOf_49 rfl
      · replace h := (if_neg g2).symm.trans h
        refine z_iload_n dX1_priceOf_50 rfl ?_
        refine z_iload dX1_priceOf_51 rfl ?_
        refine z_iadd dX1_priceOf_53 ?_
        refine z_istore_n (ls' := [.ref 103, .int x1, .int (x2 + (z_at M 105 128 ((x3 * (32 : Int32)) + ((z_ush x1 (x3 * (8 : Int32))) &&& (31 : Int32))))), .int x3, .int ((z_ush x1 (x3 * (8 : Int32))) &&& (31 : Int32)), .int (z_at M 105 128 ((x3 * (32 : Int32)) + ((z_ush x1 (x3 * (8 : Int32))) &&& (31 : Int32))))]) dX1_priceOf_54 (by decide) rfl ?_
        refine z_ii (ls' := [.ref 103, .int x1, .int (x2 + (z_at M 105 128 ((x3 * (32 : Int32)) + ((z_ush x1 (x3 * (8 : Int32))) &&& (31 : Int32))))), .int (x3 + (1 : Int32)), .int ((z_ush x1 (x3 * (8 : Int32))) &&& (31 : Int32)), .int (z_at M 105 128 ((x3 * (32 : Int32)) + ((z_ush x1 (x3 * (8 : Int32))) &&& (31 : Int32))))]) kc_p1 dX1_priceOf_55 rfl (by decide) rfl ?_
        refine z_goto (tgt := 4) dX1_priceOf_58 rfl ?_
        refine z_fg (ls' := [.ref 103, .int x1, .int (x2 + (z_at M 105 128 ((x3 * (32 : Int32)) + ((z_ush x1 (x3 * (8 : Int32))) &&& (31 : Int32))))), .int (x3 + (1 : Int32)), .null, .null]) ⟨Or.inr rfl, Or.inr rfl, Or.inr rfl, Or.inr rfl, Or.inl rfl, Or.inl rfl, trivial⟩ ?_
        exact ih x1 (x2 + (z_at M 105 128 ((x3 * (32 : Int32)) + ((z_ush x1 (x3 * (8 : Int32))) &&& (31 : Int32))))) (x3 + (1 : Int32)) _ _ _ h
theorem A_X1_priceOf_103 {l : Launch} (hl : l.stackTraces = false) {Ls d : Nat} {Lm : zML} {x1 : Int32} {M M' : zMM} {v : Int32} (h : f_X1_priceOf_103 x1 M = some (v, M')) : z_Ct l mX1_priceOf (d + 1) 0 0 [.ref 103, .int x1] (z_L0 Ls, M, Lm) (.inl (some (.int v))) (z_L0 Ls, M', Lm) := by
  replace h : (  f_X1_priceOf_103_p4 z_fuel x1 (0 : Int32) (0 : Int32) M) = some (v, M') := h
  refine z_Ct.of hl (by decide) (Nat.le_of_ble_eq_true rfl) rfl ?_
  show z_AW l mX1_priceOf (d + 1) 0 0 0 [.ref 103, .int x1, .null, .null, .null, .null] [] (z_L0 Ls, M, Lm) (.inl (some (.int v))) (z_L0 Ls, M', Lm)
  refine z_ic kc_p0 dX1_priceOf_0 ?_
  refine z_istore_n (ls' := [.ref 103, .int x1, .int (0 : Int32), .null, .null, .null]) dX1_priceOf_1 (by decide) rfl ?_
  refine z_ic kc_p0 dX1_priceOf_2 ?_
  refine z_istore_n (ls' := [.ref 103, .int x1, .int (0 : Int32), .int (0 : Int32), .null, .null]) dX1_priceOf_3 (by decide) rfl ?_
  exact A_X1_priceOf_103_p4 hl z_fuel x1 (0 : Int32) (0 : Int32) _ _ _ h
/-! X1_spread  -/
def f_X1_spread (x0 : Int32) (x1 : Int32) (M : zMM) : Option (Int32 × zMM) :=
  some (((z_at M 1 16 x0) <<< (x1 &&& 31)), M)
theorem A_X1_spread {l : Launch} (hl : l.stackTraces = false) {Ls d : Nat} {Lm : zML} {x0 : Int32} {x1 : Int32} {M M' : zMM} {v : Int32} (h : f_X1_spread x0 x1 M = some (v, M')) : z_Ct l mX1_spread (d + 1) 0 0 [.int x0, .int x1] (z_L0 Ls, M, Lm) (.inl (some (.int v))) (z_L0 Ls, M', Lm) := by
  replace h : (  some (((z_at M 1 16 x0) <<< (x1 &&& 31)), M)) = some (v, M') := h
  refine z_Ct.of hl (by decide) (Nat.le_of_ble_eq_true rfl) rfl ?_
  show z_AW l mX1_spread (d + 1) 0 0 0 [.int x0, .int x1] [] (z_L0 Ls, M, Lm) (.inl (some (.int v))) (z_L0 Ls, M', Lm)
  refine z_getsS ks_X1_136 dX1_spread_0 ?_
  refine z_iload_n dX1_spread_3 rfl ?_
  refine z_cN (av := [.ref 1, .int x0]) (st := []) (v := some (.int (z_at M 1 16 x0))) lk_X1_48 dX1_spread_4 (A_X7_at (d := d + 0) hl (by decide) en_1) rfl rfl (Nat.le_of_ble_eq_true rfl) rfl z_len rfl rfl ?_
  refine z_iload_n dX1_spread_7 rfl ?_
  refine z_ishl dX1_spread_8 ?_
  cases h
  exact z_rI dX1_spread_9 rfl
/-! X1_leastFrom 103 -/
def f_X1_leastFrom_103_p43 (S : Int32 → Int32 → Int32 → zMM → Option (Int32 × zMM)) : Nat → Int32 → Int32 → Int32 → Int32 → Int32 → zMM → Option (Int32 × zMM)
  | 0, _, _, _, _, _, _ => none
  | n + 1, x1, x2, x3, x4, x5, M =>
  if (16 : Int32) ≤ x5 then
    some (x4, M)
  else
    z_bi (f_X1_fitOf_103 x1 x5 M) fun v12 M13 =>
    if v12 = (2 : Int32) then
      z_bi (f_X1_spread x5 x1 M13) fun v16 M17 =>
      z_bi (S (x1 + (1 : Int32)) (x2 ||| v16) x3 M17) fun v19 M20 =>
      z_bi (f_X7_isLess v19 x4 M20) fun v22 M23 =>
      if v22 = 0 then
        f_X1_leastFrom_103_p43 S n x1 x2 x3 x4 (x5 + (1 : Int32)) M23
      else
        f_X1_leastFrom_103_p43 S n x1 x2 x3 v19 (x5 + (1 : Int32)) M23
    else
      f_X1_leastFrom_103_p43 S n x1 x2 x3 x4 (x5 + (1 : Int32)) M13
def f_X1_leastFrom_103 : Nat → Int32 → Int32 → Int32 → zMM → Option (Int32 × zMM)
  | 0, _, _, _, _ => none
  | D + 1, x1, x2, x3, M =>
  if (M 53 6) ≤ x1 then
    z_bi (f_X1_priceOf_103 x2 M) fun v3 M4 =>
    some (v3, M4)
  else
    if x1 < (5 : Int32) then
      if x1 = x3 then
        z_bi (f_X1_leastFrom_103 D (x1 + (1 : Int32)) x2 x3 M) fun v8 M9 =>
        some (v8, M9)
      else
        f_X1_leastFrom_103_p43 (f_X1_leastFrom_103 D) z_fuel x1 x2 x3 (-1 : Int32) (0 : Int32) M
    else
      z_bi (f_X1_priceOf_103 x2 M) fun v26 M27 =>
      some (v26, M27)
theorem A_X1_leastFrom_103_p43 {l : Launch} (hl : l.stackTraces = false) {Ls d D : Nat} {Lm : zML} {S : Int32 → Int32 → Int32 → zMM → Option (Int32 × zMM)}
    (hS : ∀ (x1 : Int32) (x2 : Int32) (x3 : Int32) (M M' : zMM) (v : Int32) , S x1 x2 x3 M = some (v, M') → z_Ct l mX1_leastFrom (d + D + 2) 0 0 [.ref 103, .int x1, .int x2, .int x3] (z_L0 Ls, M, Lm) (.inl (some (.int v))) (z_L0 Ls, M', Lm)) :
    ∀ (n : Nat) (x1 : Int32) (x2 : Int32) (x3 : Int32) (x4 : Int32) (x5 : Int32) (M M' : zMM) (v : Int32) , f_X1_leastFrom_103_p43 S n x1 x2 x3 x4 x5 M = some (v, M') → z_AW l mX1_leastFrom (d + D + 3) 0 0 43 [.ref 103, .int x1, .int x2, .int x3, .int x4, .int x5, .null] [] (z_L0 Ls, M, Lm) (.inl (some (.int v))) (z_L0 Ls, M', Lm) := by
  intro n
  induction n with
  | zero => intro x1 x2 x3 x4 x5 M M' v h; cases h
  | succ n ih =>
    intro x1 x2 x3 x4 x5 M M' v h
    replace h : (  if (16 : Int32) ≤ x5 then
    some (x4, M)
  else
    z_bi (f_X1_fitOf_103 x1 x5 M) fun v12 M13 =>
    if v12 = (2 : Int32) then
      z_bi (f_X1_spread x5 x1 M13) fun v16 M17 =>
      z_bi (S (x1 + (1 : Int32)) (x2 ||| v16) x3 M17) fun v19 M20 =>
      z_bi (f_X7_isLess v19 x4 M20) fun v22 M23 =>
      if v22 = 0 then
        f_X1_leastFrom_103_p43 S n x1 x2 x3 x4 (x5 + (1 : Int32)) M23
      else
        f_X1_leastFrom_103_p43 S n x1 x2 x3 v19 (x5 + (1 : Int32)) M23
    else
      f_X1_leastFrom_103_p43 S n x1 x2 x3 x4 (x5 + (1 : Int32)) M13) = some (v, M') := h
    refine z_iload dX1_leastFrom_43 rfl ?_
    refine z_bp kb_p16 dX1_leastFrom_45 ?_
    refine z_icmp_ge (tgt := 99) dX1_leastFrom_47 rfl (fun g10 => ?_) (fun g10 => ?_)
    · replace h := (if_pos g10).symm.trans h
      refine z_iload dX1_leastFrom_99 rfl ?_
      cases h
      exact z_rI dX1_leastFrom_101 rfl
    · replace h := (if_neg g10).symm.trans h
      refine z_aload_n dX1_leastFrom_50 rfl ?_
      refine z_iload_n dX1_leastFrom_51 rfl ?_
      refine z_iload dX1_leastFrom_52 rfl ?_
      obtain ⟨v12, M13, c11, h⟩ := z_bi_c h
      refine z_cV (av := [.int x1, .int x5]) (st := []) lk_X1_93 dX1_leastFrom_54 (A_X1_fitOf_103 (d := d + D + 1) hl c11) rfl rfl en_103 rfl (Nat.le_of_ble_eq_true rfl) rfl z_len rfl rfl ?_
      refine z_ic kc_p2 dX1_leastFrom_57 ?_
      refine z_icmp_ne (tgt := 93) dX1_leastFrom_58 rfl (fun g14 => ?_) (fun g14 => ?_)
      · replace h := (if_pos g14).symm.trans h
        refine z_aload_n dX1_leastFrom_61 rfl ?_
        refine z_iload_n dX1_leastFrom_62 rfl ?_
        refine z_ic kc_p1 dX1_leastFrom_63 ?_
        refine z_iadd dX1_leastFrom_64 ?_
        refine z_iload_n dX1_leastFrom_65 rfl ?_
        refine z_iload dX1_leastFrom_66 rfl ?_
        refine z_iload_n dX1_leastFrom_68 rfl ?_
        obtain ⟨v16, M17, c15, h⟩ := z_bi_c h
        refine z_cS (av := [.int x5, .int x1]) (st := [.int x2, .int (x1 + (1 : Int32)), .ref 103]) lk_X1_74 dX1_leastFrom_69 (A_X1_spread (d := d + D + 1) hl c15) rfl rfl (Nat.le_of_ble_eq_true rfl) rfl z_len rfl rfl ?_
        refine z_ior dX1_leastFrom_72 ?_
        refine z_iload_n dX1_leastFrom_73 rfl ?_
        obtain ⟨v19, M20, c18, h⟩ := z_bi_c h
        refine z_cV (av := [.int (x1 + (1 : Int32)), .int (x2 ||| v16), .int x3]) (st := []) lk_X1_58 dX1_leastFrom_74 (hS (x1 + (1 : Int32)) (x2 ||| v16) x3 _ _ _ c18) rfl rfl en_103 rfl (Nat.le_of_ble_eq_true rfl) rfl z_len rfl rfl ?_
        refine z_istore (ls' := [.ref 103, .int x1, .int x2, .int x3, .int x4, .int x5, .int v19]) dX1_leastFrom_77 (by decide) rfl ?_
        refine z_iload dX1_leastFrom_79 rfl ?_
        refine z_iload dX1_leastFrom_81 rfl ?_
        obtain ⟨v22, M23, c21, h⟩ := z_bi_c h
        refine z_cN (av := [.int v19, .int x4]) (st := []) lk_X1_78 dX1_leastFrom_83 (A_X7_isLess (d := d + D + 2) hl c21) rfl rfl (Nat.le_of_ble_eq_true rfl) rfl z_len rfl rfl ?_
        refine z_if_eq (tgt := 93) dX1_leastFrom_86 rfl (fun g24 => ?_) (fun g24 => ?_)
        · replace h := (if_pos g24).symm.trans h
          refine z_ii (ls' := [.ref 103, .int x1, .int x2, .int x3, .int x4, .int (x5 + (1 : Int32)), .int v19]) kc_p1 dX1_leastFrom_93 rfl (by decide) rfl ?_
          refine z_goto (tgt := 43) dX1_leastFrom_96 rfl ?_
          refine z_fg (ls' := [.ref 103, .int x1, .int x2, .int x3, .int x4, .int (x5 + (1 : Int32)), .null]) ⟨Or.inr rfl, Or.inr rfl, Or.inr rfl, Or.inr rfl, Or.inr rfl, Or.inr rfl, Or.inl rfl, trivial⟩ ?_
          exact ih x1 x2 x3 x4 (x5 + (1 : Int32)) _ _ _ h
        · replace h := (if_neg g24).symm.trans h
          refine z_iload dX1_leastFrom_89 rfl ?_
          refine z_istore (ls' := [.ref 103, .int x1, .int x2, .int x3, .int v19, .int x5, .int v19]) dX1_leastFrom_91 (by decide) rfl ?_
          refine z_ii (ls' := [.ref 103, .int x1, .int x2, .int x3, .int v19, .int (x5 + (1 : Int32)), .int v19]) kc_p1 dX1_leastFrom_93 rfl (by decide) rfl ?_
          refine z_goto (tgt := 43) dX1_leastFrom_96 rfl ?_
          refine z_fg (ls' := [.ref 103, .int x1, .int x2, .int x3, .int v19, .int (x5 + (1 : Int32)), .null]) ⟨Or.inr rfl, Or.inr rfl, Or.inr rfl, Or.inr rfl, Or.inr rfl, Or.inr rfl, Or.inl rfl, trivial⟩ ?_
          exact ih x1 x2 x3 v19 (x5 + (1 : Int32)) _ _ _ h
      · replace h := (if_neg g14).symm.trans h
        refine z_ii (ls' := [.ref 103, .int x1, .int x2, .int x3, .int x4, .int (x5 + (1 : Int32)), .null]) kc_p1 dX1_leastFrom_93 rfl (by decide) rfl ?_
        refine z_goto (tgt := 43) dX1_leastFrom_96 rfl ?_
        exact ih x1 x2 x3 x4 (x5 + (1 : Int32)) _ _ _ h
theorem A_X1_leastFrom_103 {l : Launch} (hl : l.stackTraces = false) {Ls : Nat} {Lm : zML} : ∀ (D d : Nat) (x1 : Int32) (x2 : Int32) (x3 : Int32) (M M' : zMM) (v : Int32) , f_X1_leastFrom_103 D x1 x2 x3 M = some (v, M') → z_Ct l mX1_leastFrom (d + D + 2) 0 0 [.ref 103, .int x1, .int x2, .int x3] (z_L0 Ls, M, Lm) (.inl (some (.int v))) (z_L0 Ls, M', Lm) := by
  intro D
  induction D with
  | zero => intro d x1 x2 x3 M M' v h; cases h
  | succ D ihD =>
    intro d x1 x2 x3 M M' v h
    replace h : (  if (M 53 6) ≤ x1 then
    z_bi (f_X1_priceOf_103 x2 M) fun v3 M4 =>
    some (v3, M4)
  else
    if x1 < (5 : Int32) then
      if x1 = x3 then
        z_bi (f_X1_leastFrom_103 D (x1 + (1 : Int32)) x2 x3 M) fun v8 M9 =>
        some (v8, M9)
      else
        f_X1_leastFrom_103_p43 (f_X1_leastFrom_103 D) z_fuel x1 x2 x3 (-1 : Int32) (0 : Int32) M
    else
      z_bi (f_X1_priceOf_103 x2 M) fun v26 M27 =>
      some (v26, M27)) = some (v, M') := h
    have hS := fun x1 x2 x3 M M' v h => ihD d x1 x2 x3 M M' v h
    refine z_Ct.of hl (by decide) (Nat.le_of_ble_eq_true rfl) rfl ?_
    show z_AW l mX1_leastFrom (d + D + 3) 0 0 0 [.ref 103, .int x1, .int x2, .int x3, .null, .null, .null] [] (z_L0 Ls, M, Lm) (.inl (some (.int v))) (z_L0 Ls, M', Lm)
    refine z_iload_n dX1_leastFrom_0 rfl ?_
    refine z_aload_n dX1_leastFrom_1 rfl ?_
    refine z_getR (q := 53) fl_X1_32 dX1_leastFrom_2 en_103 rfl ?_
    refine z_gI (v := (M 53 6)) fl_X1_62 dX1_leastFrom_5 en_53 rfl rfl ?_
    refine z_icmp_ge (tgt := 16) dX1_leastFrom_8 rfl (fun g1 => ?_) (fun g1 => ?_)
    · replace h := (if_pos g1).symm.trans h
      refine z_aload_n dX1_leastFrom_16 rfl ?_
      refine z_iload_n dX1_leastFrom_17 rfl ?_
      obtain ⟨v3, M4, c2, h⟩ := z_bi_c h
      refine z_cV (av := [.int x2]) (st := []) lk_X1_132 dX1_leastFrom_18 (A_X1_priceOf_103 (d := d + D + 1) hl c2) rfl rfl en_103 rfl (Nat.le_of_ble_eq_true rfl) rfl z_len rfl rfl ?_
      cases h
      exact z_rI dX1_leastFrom_21 rfl
    · replace h := (if_neg g1).symm.trans h
      refine z_iload_n dX1_leastFrom_11 rfl ?_
      refine z_ic kc_p5 dX1_leastFrom_12 ?_
      refine z_icmp_lt (tgt := 22) dX1_leastFrom_13 rfl (fun g5 => ?_) (fun g5 => ?_)
      · replace h := (if_pos g5).symm.trans h
        refine z_iload_n dX1_leastFrom_22 rfl ?_
        refine z_iload_n dX1_leastFrom_23 rfl ?_
        refine z_icmp_ne (tgt := 37) dX1_leastFrom_24 rfl (fun g6 => ?_) (fun g6 => ?_)
        · replace h := (if_pos g6).symm.trans h
          refine z_aload_n dX1_leastFrom_27 rfl ?_
          refine z_iload_n dX1_leastFrom_28 rfl ?_
          refine z_ic kc_p1 dX1_leastFrom_29 ?_
          refine z_iadd dX1_leastFrom_30 ?_
          refine z_iload_n dX1_leastFrom_31 rfl ?_
          refine z_iload_n dX1_leastFrom_32 rfl ?_
          obtain ⟨v8, M9, c7, h⟩ := z_bi_c h
          refine z_cV (av := [.int (x1 + (1 : Int32)), .int x2, .int x3]) (st := []) lk_X1_58 dX1_leastFrom_33 (hS (x1 + (1 : Int32)) x2 x3 _ _ _ c7) rfl rfl en_103 rfl (Nat.le_of_ble_eq_true rfl) rfl z_len rfl rfl ?_
          cases h
          exact z_rI dX1_leastFrom_36 rfl
        · replace h := (if_neg g6).symm.trans h
          refine z_ic kc_m1 dX1_leastFrom_37 ?_
          refine z_istore (ls' := [.ref 103, .int x1, .int x2, .int x3, .int (-1 : Int32), .null, .null]) dX1_leastFrom_38 (by decide) rfl ?_
          refine z_ic kc_p0 dX1_leastFrom_40 ?_
          refine z_istore (ls' := [.ref 103, .int x1, .int x2, .int x3, .int (-1 : Int32), .int (0 : Int32), .null]) dX1_leastFrom_41 (by decide) rfl ?_
          exact A_X1_leastFrom_103_p43 hl hS z_fuel x1 x2 x3 (-1 : Int32) (0 : Int32) _ _ _ h
      · replace h := (if_neg g5).symm.trans h
        refine z_aload_n dX1_leastFrom_16 rfl ?_
        refine z_iload_n dX1_leastFrom_17 rfl ?_
        obtain ⟨v26, M27, c25, h⟩ := z_bi_c h
        refine z_cV (av := [.int x2]) (st := []) lk_X1_132 dX1_leastFrom_18 (A_X1_priceOf_103 (d := d + D + 1) hl c25) rfl rfl en_103 rfl (Nat.le_of_ble_eq_true rfl) rfl z_len rfl rfl ?_
        cases h
        exact z_rI dX1_leastFrom_21 rfl
/-! X1_findSpared 103 -/
def f_X1_findSpared_103_p20 : Nat → Int32 → zMM → Option zMM
  | 0, _, _ => none
  | n + 1, x1, M =>
  if (M 53 6) ≤ x1 then
    some M
  else
    z_bi (f_X1_leastFrom_103 8 (0 : Int32) (0 : Int32) x1 M) fun v9 M10 =>
    z_bi (f_X7_isLess v9 (M10 103 9) M10) fun v12 M13 =>
    if v12 = 0 then
      f_X1_findSpared_103_p20 n (x1 + (1 : Int32)) M13
    else
      f_X1_findSpared_103_p20 n (x1 + (1 : Int32)) (z_up (z_up M13 103 9 v9) 103 8 x1)
def f_X1_findSpared_103  (M : zMM) : Option zMM :=
  z_bv (f_X1_findFits_103  M) fun M3 =>
  z_bv (f_X1_findCosts_103  M3) fun M6 =>
  f_X1_findSpared_103_p20 z_fuel (0 : Int32) (z_up (z_up M6 103 8 (-1 : Int32)) 103 9 (-1 : Int32))
theorem A_X1_findSpared_103_p20 {l : Launch} (hl : l.stackTraces = false) {Ls d : Nat} {Lm : zML} :
    ∀ (n : Nat) (x1 : Int32) (M M' : zMM) , f_X1_findSpared_103_p20 n x1 M = some M' → z_AW l mX1_findSpared (d + 11) 0 0 20 [.ref 103, .int x1, .null] [] (z_L0 Ls, M, Lm) (.inl none) (z_L0 Ls, M', Lm) := by
  intro n
  induction n with
  | zero => intro x1 M M' h; cases h
  | succ n ih =>
    intro x1 M M' h
    replace h : (  if (M 53 6) ≤ x1 then
    some M
  else
    z_bi (f_X1_leastFrom_103 8 (0 : Int32) (0 : Int32) x1 M) fun v9 M10 =>
    z_bi (f_X7_isLess v9 (M10 103 9) M10) fun v12 M13 =>
    if v12 = 0 then
      f_X1_findSpared_103_p20 n (x1 + (1 : Int32)) M13
    else
      f_X1_findSpared_103_p20 n (x1 + (1 : Int32)) (z_up (z_up M13 103 9 v9) 103 8 x1)) = some M' := h
    refine z_iload_n dX1_findSpared_20 rfl ?_
    refine z_aload_n dX1_findSpared_21 rfl ?_
    refine z_getR (q := 53) fl_X1_32 dX1_findSpared_22 en_103 rfl ?_
    refine z_gI (v := (M 53 6)) fl_X1_62 dX1_findSpared_25 en_53 rfl rfl ?_
    refine z_icmp_ge (tgt := 66) dX1_findSpared_28 rfl (fun g7 => ?_) (fun g7 => ?_)
    · replace h := (if_pos g7).symm.trans h
      cases h
      exact z_return dX1_findSpared_66 rfl
    · replace h := (if_neg g7).symm.trans h
      refine z_aload_n dX1_findSpared_31 rfl ?_
      refine z_ic kc_p0 dX1_findSpared_32 ?_
      refine z_ic kc_p0 dX1_findSpared_33 ?_
      refine z_iload_n dX1_findSpared_34 rfl ?_
      obtain ⟨v9, M10, c8, h⟩ := z_bi_c h
      refine z_cV (av := [.int (0 : Int32), .int (0 : Int32), .int x1]) (st := []) lk_X1_58 dX1_findSpared_35 (A_X1_leastFrom_103 hl 8 (d + 0) (0 : Int32) (0 : Int32) x1 _ _ _ c8) rfl rfl en_103 rfl (Nat.le_of_ble_eq_true rfl) rfl z_len rfl rfl ?_
      refine z_istore_n (ls' := [.ref 103, .int x1, .int v9]) dX1_findSpared_38 (by decide) rfl ?_
      refine z_iload_n dX1_findSpared_39 rfl ?_
      refine z_aload_n dX1_findSpared_40 rfl ?_
      refine z_gI (v := (M10 103 9)) fl_X1_29 dX1_findSpared_41 en_103 rfl rfl ?_
      obtain ⟨v12, M13, c11, h⟩ := z_bi_c h
      refine z_cN (av := [.int v9, .int (M10 103 9)]) (st := []) lk_X1_78 dX1_findSpared_44 (A_X7_isLess (d := d + 10) hl c11) rfl rfl (Nat.le_of_ble_eq_true rfl) rfl z_len rfl rfl ?_
      refine z_if_eq (tgt := 60) dX1_findSpared_47 rfl (fun g14 => ?_) (fun g14 => ?_)
      · replace h := (if_pos g14).symm.trans h
        refine z_ii (ls' := [.ref 103, .int (x1 + (1 : Int32)), .int v9]) kc_p1 dX1_findSpared_60 rfl (by decide) rfl ?_
        refine z_goto (tgt := 20) dX1_findSpared_63 rfl ?_
        refine z_fg (ls' := [.ref 103, .int (x1 + (1 : Int32)), .null]) ⟨Or.inr rfl, Or.inr rfl, Or.inl rfl, trivial⟩ ?_
        exact ih (x1 + (1 : Int32)) _ _ h
      · replace h := (if_neg g14).symm.trans h
        refine z_aload_n dX1_findSpared_50 rfl ?_
        refine z_iload_n dX1_findSpared_51 rfl ?_
        refine z_pI fp_X1_29 dX1_findSpared_52 (by decide) en_103 rfl ?_
        refine z_aload_n dX1_findSpared_55 rfl ?_
        refine z_iload_n dX1_findSpared_56 rfl ?_
        refine z_pI fp_X1_25 dX1_findSpared_57 (by decide) en_103 rfl ?_
        refine z_ii (ls' := [.ref 103, .int (x1 + (1 : Int32)), .int v9]) kc_p1 dX1_findSpared_60 rfl (by decide) rfl ?_
        refine z_goto (tgt := 20) dX1_findSpared_63 rfl ?_
        refine z_fg (ls' := [.ref 103, .int (x1 + (1 : Int32)), .null]) ⟨Or.inr rfl, Or.inr rfl, Or.inl rfl, trivial⟩ ?_
        exact ih (x1 + (1 : Int32)) _ _ h
theorem A_X1_findSpared_103 {l : Launch} (hl : l.stackTraces = false) {Ls d : Nat} {Lm : zML}  {M M' : zMM} (h : f_X1_findSpared_103  M = some M') : z_Ct l mX1_findSpared (d + 11) 0 0 [.ref 103] (z_L0 Ls, M, Lm) (.inl none) (z_L0 Ls, M', Lm) := by
  replace h : (  z_bv (f_X1_findFits_103  M) fun M3 =>
  z_bv (f_X1_findCosts_103  M3) fun M6 =>
  f_X1_findSpared_103_p20 z_fuel (0 : Int32) (z_up (z_up M6 103 8 (-1 : Int32)) 103 9 (-1 : Int32))) = some M' := h
  refine z_Ct.of hl (by decide) (Nat.le_of_ble_eq_true rfl) rfl ?_
  show z_AW l mX1_findSpared (d + 11) 0 0 0 [.ref 103, .null, .null] [] (z_L0 Ls, M, Lm) (.inl none) (z_L0 Ls, M', Lm)
  refine z_aload_n dX1_findSpared_0 rfl ?_
  obtain ⟨M3, c1, h⟩ := z_bv_c h
  refine z_cV (av := []) (st := []) lk_X1_52 dX1_findSpared_1 (A_X1_findFits_103 (d := d + 7) hl c1) rfl rfl en_103 rfl (Nat.le_of_ble_eq_true rfl) rfl z_len rfl rfl ?_
  refine z_aload_n dX1_findSpared_4 rfl ?_
  obtain ⟨M6, c4, h⟩ := z_bv_c h
  refine z_cV (av := []) (st := []) lk_X1_55 dX1_findSpared_5 (A_X1_findCosts_103 (d := d + 5) hl c4) rfl rfl en_103 rfl (Nat.le_of_ble_eq_true rfl) rfl z_len rfl rfl ?_
  refine z_aload_n dX1_findSpared_8 rfl ?_
  refine z_ic kc_m1 dX1_findSpared_9 ?_
  refine z_pI fp_X1_25 dX1_findSpared_10 (by decide) en_103 rfl ?_
  refine z_aload_n dX1_findSpared_13 rfl ?_
  refine z_ic kc_m1 dX1_findSpared_14 ?_
  refine z_pI fp_X1_29 dX1_findSpared_15 (by decide) en_103 rfl ?_
  refine z_ic kc_p0 dX1_findSpared_18 ?_
  refine z_istore_n (ls' := [.ref 103, .int (0 : Int32), .null]) dX1_findSpared_19 (by decide) rfl ?_
  exact A_X1_findSpared_103_p20 hl z_fuel (0 : Int32) _ _ h
/-! X1_sparedTrunk 103 -/
def f_X1_sparedTrunk_103  (M : zMM) : Option (Int32 × zMM) :=
  some ((M 103 8), M)
theorem A_X1_sparedTrunk_103 {l : Launch} (hl : l.stackTraces = false) {Ls d : Nat} {Lm : zML}  {M M' : zMM} {v : Int32} (h : f_X1_sparedTrunk_103  M = some (v, M')) : z_Ct l mX1_sparedTrunk (d + 0) 0 0 [.ref 103] (z_L0 Ls, M, Lm) (.inl (some (.int v))) (z_L0 Ls, M', Lm) := by
  replace h : (  some ((M 103 8), M)) = some (v, M') := h
  refine z_Ct.of hl (by decide) (Nat.le_of_ble_eq_true rfl) rfl ?_
  show z_AW l mX1_sparedTrunk (d + 0) 0 0 0 [.ref 103] [] (z_L0 Ls, M, Lm) (.inl (some (.int v))) (z_L0 Ls, M', Lm)
  refine z_aload_n dX1_sparedTrunk_0 rfl ?_
  refine z_gI (v := (M 103 8)) fl_X1_25 dX1_sparedTrunk_1 en_103 rfl rfl ?_
  cases h
  exact z_rI dX1_sparedTrunk_4 rfl
/-! X1_sparedPrice 103 -/
def f_X1_sparedPrice_103  (M : zMM) : Option (Int32 × zMM) :=
  some ((M 103 9), M)
theorem A_X1_sparedPrice_103 {l : Launch} (hl : l.stackTraces = false) {Ls d : Nat} {Lm : zML}  {M M' : zMM} {v : Int32} (h : f_X1_sparedPrice_103  M = some (v, M')) : z_Ct l mX1_sparedPrice (d + 0) 0 0 [.ref 103] (z_L0 Ls, M, Lm) (.inl (some (.int v))) (z_L0 Ls, M', Lm) := by
  replace h : (  some ((M 103 9), M)) = some (v, M') := h
  refine z_Ct.of hl (by decide) (Nat.le_of_ble_eq_true rfl) rfl ?_
  show z_AW l mX1_sparedPrice (d + 0) 0 0 0 [.ref 103] [] (z_L0 Ls, M, Lm) (.inl (some (.int v))) (z_L0 Ls, M', Lm)
  refine z_aload_n dX1_sparedPrice_0 rfl ?_
  refine z_gI (v := (M 103 9)) fl_X1_29 dX1_sparedPrice_1 en_103 rfl rfl ?_
  cases h
  exact z_rI dX1_sparedPrice_4 rfl
/-! X7_spared 51 -/
def f_X7_spared_51 (x1 : Int32) (M : zMM) : Option ((Int32 ⊕ Nat) × zMM) :=
  z_bt (f_X7_checkPair x1 M) fun v2 M3 =>
    z_bv (f_X1_findSpared_103  M3) fun M7 =>
    if x1 = 0 then
      z_bi (f_X1_sparedTrunk_103  M7) fun v10 M11 =>
      some (.inl v10, M11)
    else
      z_bi (f_X1_sparedPrice_103  M7) fun v13 M14 =>
      some (.inl v13, M14)
theorem A_X7_spared_51 {l : Launch} (hl : l.stackTraces = false) {Ls d : Nat} {Lm : zML} {x1 : Int32} {M M' : zMM} {v : Int32 ⊕ Nat} (h : f_X7_spared_51 x1 M = some (v, M')) : z_Ct l mX7_spared (d + 12) (z_bo v) (6 * z_bo v) [.ref 51, .int x1] (z_L0 Ls, M, Lm) (z_oi v) (z_L0 Ls, M', Lm) := by
  replace h : (  z_bt (f_X7_checkPair x1 M) fun v2 M3 =>
    z_bv (f_X1_findSpared_103  M3) fun M7 =>
    if x1 = 0 then
      z_bi (f_X1_sparedTrunk_103  M7) fun v10 M11 =>
      some (.inl v10, M11)
    else
      z_bi (f_X1_sparedPrice_103  M7) fun v13 M14 =>
      some (.inl v13, M14)) = some (v, M') := h
  refine z_Ct.of hl (by decide) (Nat.le_of_ble_eq_true rfl) rfl ?_
  show z_AW l mX7_spared (d + 12) (z_bo v) (6 * z_bo v) 0 [.ref 51, .int x1] [] (z_L0 Ls, M, Lm) (z_oi v) (z_L0 Ls, M', Lm)
  refine z_iload_n dX7_spared_0 rfl ?_
  rcases z_bt_c h with ⟨v2, M3, c1, h⟩ | ⟨e4, c1, rfl⟩
  · refine z_cS (av := [.int x1]) (st := []) lk_X7_220 dX7_spared_1 (z_tv (A_X7_checkPair (d := d + 5) hl c1)) rfl rfl (Nat.le_of_ble_eq_true rfl) rfl z_len rfl rfl ?_
    refine z_aload_n dX7_spared_4 rfl ?_
    refine z_getR (q := 103) fl_X7_81 dX7_spared_5 en_51 rfl ?_
    obtain ⟨M7, c5, h⟩ := z_bv_c h
    refine z_cV (av := []) (st := []) lk_X7_325 dX7_spared_8 (A_X1_findSpared_103 (d := d + 0) hl c5) rfl rfl en_103 rfl (Nat.le_of_ble_eq_true rfl) rfl z_len rfl rfl ?_
    refine z_iload_n dX7_spared_11 rfl ?_
    refine z_if_ne (tgt := 25) dX7_spared_12 rfl (fun g8 => ?_) (fun g8 => ?_)
    · replace h := (if_pos g8).symm.trans h
      refine z_aload_n dX7_spared_15 rfl ?_
      refine z_getR (q := 103) fl_X7_81 dX7_spared_16 en_51 rfl ?_
      obtain ⟨v10, M11, c9, h⟩ := z_bi_c h
      refine z_cV (av := []) (st := []) lk_X7_328 dX7_spared_19 (A_X1_sparedTrunk_103 (d := d + 11) hl c9) rfl rfl en_103 rfl (Nat.le_of_ble_eq_true rfl) rfl z_len rfl rfl ?_
      refine z_goto (tgt := 32) dX7_spared_22 rfl ?_
      cases h
      exact z_rI dX7_spared_32 rfl
    · replace h := (if_neg g8).symm.trans h
      refine z_aload_n dX7_spared_25 rfl ?_
      refine z_getR (q := 103) fl_X7_81 dX7_spared_26 en_51 rfl ?_
      obtain ⟨v13, M14, c12, h⟩ := z_bi_c h
      refine z_cV (av := []) (st := []) lk_X7_331 dX7_spared_29 (A_X1_sparedPrice_103 (d := d + 11) hl c12) rfl rfl en_103 rfl (Nat.le_of_ble_eq_true rfl) rfl z_len rfl rfl ?_
      cases h
      exact z_rI dX7_spared_32 rfl
  · exact z_cSx (av := [.int x1]) (st := []) lk_X7_220 dX7_spared_1 (A_X7_checkPair (d := d + 5) hl c1) rfl rfl (Nat.le_of_ble_eq_true rfl) rfl z_len rfl rfl (Nat.le_refl _) (Nat.le_refl _)
