/-! X7_checkTown 51 -/
def f_X7_checkTown_51 (x1 : Int32) (M : zMM) : Option ((Unit ⊕ Nat) × zMM) :=
  if x1 < 0 then
    some (.inr 0, M)
  else
    if x1 < (M 53 0) then
      some (.inl (), M)
    else
      some (.inr 0, M)
theorem A_X7_checkTown_51 {l : Launch} (hl : l.stackTraces = false) {Ls d : Nat} {Lm : zML} {x1 : Int32} {M M' : zMM} {v : Unit ⊕ Nat} (h : f_X7_checkTown_51 x1 M = some (v, M')) : z_Ct l mX7_checkTown (d + 6) (z_bo v) (6 * z_bo v) [.ref 51, .int x1] (z_L0 Ls, M, Lm) (z_ov v) (z_L0 Ls, M', Lm) := by
  replace h : (  if x1 < 0 then
    some (.inr 0, M)
  else
    if x1 < (M 53 0) then
      some (.inl (), M)
    else
      some (.inr 0, M)) = some (v, M') := h
  refine z_Ct.of hl (by decide) (Nat.le_of_ble_eq_true rfl) rfl ?_
  show z_AW l mX7_checkTown (d + 6) (z_bo v) (6 * z_bo v) 0 [.ref 51, .int x1] [] (z_L0 Ls, M, Lm) (z_ov v) (z_L0 Ls, M', Lm)
  refine z_iload_n dX7_checkTown_0 rfl ?_
  refine z_if_lt (tgt := 15) dX7_checkTown_1 rfl (fun g1 => ?_) (fun g1 => ?_)
  · replace h := (if_pos g1).symm.trans h
    cases h
    exact z_throwW (text := "no such town") z_tpN (by decide +kernel) rfl (by omega) (Nat.le_of_ble_eq_true rfl) (Nat.le_refl _) (Nat.le_refl _) dX7_checkTown_15 dX7_checkTown_18 dX7_checkTown_19 dX7_checkTown_22 dX7_checkTown_25
  · replace h := (if_neg g1).symm.trans h
    refine z_iload_n dX7_checkTown_4 rfl ?_
    refine z_aload_n dX7_checkTown_5 rfl ?_
    refine z_getR (q := 53) fl_X7_23 dX7_checkTown_6 en_51 rfl ?_
    refine z_gI (v := (M 53 0)) fl_X7_122 dX7_checkTown_9 en_53 rfl rfl ?_
    refine z_icmp_lt (tgt := 26) dX7_checkTown_12 rfl (fun g2 => ?_) (fun g2 => ?_)
    · replace h := (if_pos g2).symm.trans h
      cases h
      exact z_return dX7_checkTown_26 rfl
    · replace h := (if_neg g2).symm.trans h
      cases h
      exact z_throwW (text := "no such town") z_tpN (by decide +kernel) rfl (by omega) (Nat.le_of_ble_eq_true rfl) (Nat.le_refl _) (Nat.le_refl _) dX7_checkTown_15 dX7_checkTown_18 dX7_checkTown_19 dX7_checkTown_22 dX7_checkTown_25
/-! X7_checkPair  -/
def f_X7_checkPair (x0 : Int32) (M : zMM) : Option ((Unit ⊕ Nat) × zMM) :=
  if x0 = 0 then
    some (.inl (), M)
  else
    if x0 = (1 : Int32) then
      some (.inl (), M)
    else
      some (.inr 0, M)
theorem A_X7_checkPair {l : Launch} (hl : l.stackTraces = false) {Ls d : Nat} {Lm : zML} {x0 : Int32} {M M' : zMM} {v : Unit ⊕ Nat} (h : f_X7_checkPair x0 M = some (v, M')) : z_Ct l mX7_checkPair (d + 6) (z_bo v) (6 * z_bo v) [.int x0] (z_L0 Ls, M, Lm) (z_ov v) (z_L0 Ls, M', Lm) := by
  replace h : (  if x0 = 0 then
    some (.inl (), M)
  else
    if x0 = (1 : Int32) then
      some (.inl (), M)
    else
      some (.inr 0, M)) = some (v, M') := h
  refine z_Ct.of hl (by decide) (Nat.le_of_ble_eq_true rfl) rfl ?_
  show z_AW l mX7_checkPair (d + 6) (z_bo v) (6 * z_bo v) 0 [.int x0] [] (z_L0 Ls, M, Lm) (z_ov v) (z_L0 Ls, M', Lm)
  refine z_iload_n dX7_checkPair_0 rfl ?_
  refine z_if_eq (tgt := 20) dX7_checkPair_1 rfl (fun g1 => ?_) (fun g1 => ?_)
  · replace h := (if_pos g1).symm.trans h
    cases h
    exact z_return dX7_checkPair_20 rfl
  · replace h := (if_neg g1).symm.trans h
    refine z_iload_n dX7_checkPair_4 rfl ?_
    refine z_ic kc_p1 dX7_checkPair_5 ?_
    refine z_icmp_eq (tgt := 20) dX7_checkPair_6 rfl (fun g2 => ?_) (fun g2 => ?_)
    · replace h := (if_pos g2).symm.trans h
      cases h
      exact z_return dX7_checkPair_20 rfl
    · replace h := (if_neg g2).symm.trans h
      cases h
      exact z_throwW (text := "no such answer") z_tpN (by decide +kernel) rfl (by omega) (Nat.le_of_ble_eq_true rfl) (Nat.le_refl _) (Nat.le_refl _) dX7_checkPair_9 dX7_checkPair_12 dX7_checkPair_13 dX7_checkPair_16 dX7_checkPair_19
/-! X4_isThere 87 -/
def f_X4_isThere_87 (x1 : Int32) (M : zMM) : Option (Int32 × zMM) :=
  if (M 87 2) < (z_at M 89 5 x1) then
    some ((0 : Int32), M)
  else
    some ((1 : Int32), M)
theorem A_X4_isThere_87 {l : Launch} (hl : l.stackTraces = false) {Ls d : Nat} {Lm : zML} {x1 : Int32} {M M' : zMM} {v : Int32} (h : f_X4_isThere_87 x1 M = some (v, M')) : z_Ct l mX4_isThere (d + 1) 0 0 [.ref 87, .int x1] (z_L0 Ls, M, Lm) (.inl (some (.int v))) (z_L0 Ls, M', Lm) := by
  replace h : (  if (M 87 2) < (z_at M 89 5 x1) then
    some ((0 : Int32), M)
  else
    some ((1 : Int32), M)) = some (v, M') := h
  refine z_Ct.of hl (by decide) (Nat.le_of_ble_eq_true rfl) rfl ?_
  show z_AW l mX4_isThere (d + 1) 0 0 0 [.ref 87, .int x1] [] (z_L0 Ls, M, Lm) (.inl (some (.int v))) (z_L0 Ls, M', Lm)
  refine z_aload_n dX4_isThere_0 rfl ?_
  refine z_getR (q := 89) fl_X4_15 dX4_isThere_1 en_87 rfl ?_
  refine z_iload_n dX4_isThere_4 rfl ?_
  refine z_cN (av := [.ref 89, .int x1]) (st := []) (v := some (.int (z_at M 89 5 x1))) lk_X4_58 dX4_isThere_5 (A_X7_at (d := d + 0) hl (by decide) en_89) rfl rfl (Nat.le_of_ble_eq_true rfl) rfl z_len rfl rfl ?_
  refine z_aload_n dX4_isThere_8 rfl ?_
  refine z_gI (v := (M 87 2)) fl_X4_18 dX4_isThere_9 en_87 rfl rfl ?_
  refine z_icmp_gt (tgt := 19) dX4_isThere_12 rfl (fun g1 => ?_) (fun g1 => ?_)
  · replace h := (if_pos g1).symm.trans h
    refine z_ic kc_p0 dX4_isThere_19 ?_
    cases h
    exact z_rZ dX4_isThere_20 rfl rfl
  · replace h := (if_neg g1).symm.trans h
    refine z_ic kc_p1 dX4_isThere_15 ?_
    refine z_goto (tgt := 20) dX4_isThere_16 rfl ?_
    cases h
    exact z_rZ dX4_isThere_20 rfl rfl
/-! X4_trunksIn 87 -/
def f_X4_trunksIn_87_p4 : Nat → Int32 → Int32 → Int32 → zMM → Option (Int32 × zMM)
  | 0, _, _, _, _ => none
  | n + 1, x1, x2, x3, M =>
  if (5 : Int32) ≤ x3 then
    some (x2, M)
  else
    if (z_at M 88 5 x3) = x1 then
      z_bi (f_X4_isThere_87 x3 M) fun v4 M5 =>
      if v4 = 0 then
        f_X4_trunksIn_87_p4 n x1 x2 (x3 + (1 : Int32)) M5
      else
        f_X4_trunksIn_87_p4 n x1 (x2 ||| ((1 : Int32) <<< (x3 &&& 31))) (x3 + (1 : Int32)) M5
    else
      f_X4_trunksIn_87_p4 n x1 x2 (x3 + (1 : Int32)) M
def f_X4_trunksIn_87 (x1 : Int32) (M : zMM) : Option (Int32 × zMM) :=
  f_X4_trunksIn_87_p4 z_fuel x1 (0 : Int32) (0 : Int32) M
theorem A_X4_trunksIn_87_p4 {l : Launch} (hl : l.stackTraces = false) {Ls d : Nat} {Lm : zML} :
    ∀ (n : Nat) (x1 : Int32) (x2 : Int32) (x3 : Int32) (M M' : zMM) (v : Int32) , f_X4_trunksIn_87_p4 n x1 x2 x3 M = some (v, M') → z_AW l mX4_trunksIn (d + 2) 0 0 4 [.ref 87, .int x1, .int x2, .int x3] [] (z_L0 Ls, M, Lm) (.inl (some (.int v))) (z_L0 Ls, M', Lm) := by
  intro n
  induction n with
  | zero => intro x1 x2 x3 M M' v h; cases h
  | succ n ih =>
    intro x1 x2 x3 M M' v h
    replace h : (  if (5 : Int32) ≤ x3 then
    some (x2, M)
  else
    if (z_at M 88 5 x3) = x1 then
      z_bi (f_X4_isThere_87 x3 M) fun v4 M5 =>
      if v4 = 0 then
        f_X4_trunksIn_87_p4 n x1 x2 (x3 + (1 : Int32)) M5
      else
        f_X4_trunksIn_87_p4 n x1 (x2 ||| ((1 : Int32) <<< (x3 &&& 31))) (x3 + (1 : Int32)) M5
    else
      f_X4_trunksIn_87_p4 n x1 x2 (x3 + (1 : Int32)) M) = some (v, M') := h
    refine z_iload_n dX4_trunksIn_4 rfl ?_
    refine z_ic kc_p5 dX4_trunksIn_5 ?_
    refine z_icmp_ge (tgt := 41) dX4_trunksIn_6 rfl (fun g1 => ?_) (fun g1 => ?_)
    · replace h := (if_pos g1).symm.trans h
      refine z_iload_n dX4_trunksIn_41 rfl ?_
      cases h
      exact z_rI dX4_trunksIn_42 rfl
    · replace h := (if_neg g1).symm.trans h
      refine z_aload_n dX4_trunksIn_9 rfl ?_
      refine z_getR (q := 88) fl_X4_9 dX4_trunksIn_10 en_87 rfl ?_
      refine z_iload_n dX4_trunksIn_13 rfl ?_
      refine z_cN (av := [.ref 88, .int x3]) (st := []) (v := some (.int (z_at M 88 5 x3))) lk_X4_58 dX4_trunksIn_14 (A_X7_at (d := d + 1) hl (by decide) en_88) rfl rfl (Nat.le_of_ble_eq_true rfl) rfl z_len rfl rfl ?_
      refine z_iload_n dX4_trunksIn_17 rfl ?_
      refine z_icmp_ne (tgt := 35) dX4_trunksIn_18 rfl (fun g2 => ?_) (fun g2 => ?_)
      · replace h := (if_pos g2).symm.trans h
        refine z_aload_n dX4_trunksIn_21 rfl ?_
        refine z_iload_n dX4_trunksIn_22 rfl ?_
        obtain ⟨v4, M5, c3, h⟩ := z_bi_c h
        refine z_cV (av := [.int x3]) (st := []) lk_X4_73 dX4_trunksIn_23 (A_X4_isThere_87 (d := d + 0) hl c3) rfl rfl en_87 rfl (Nat.le_of_ble_eq_true rfl) rfl z_len rfl rfl ?_
        refine z_if_eq (tgt := 35) dX4_trunksIn_26 rfl (fun g6 => ?_) (fun g6 => ?_)
        · replace h := (if_pos g6).symm.trans h
          refine z_ii (ls' := [.ref 87, .int x1, .int x2, .int (x3 + (1 : Int32))]) kc_p1 dX4_trunksIn_35 rfl (by decide) rfl ?_
          refine z_goto (tgt := 4) dX4_trunksIn_38 rfl ?_
          exact ih x1 x2 (x3 + (1 : Int32)) _ _ _ h
        · replace h := (if_neg g6).symm.trans h
          refine z_iload_n dX4_trunksIn_29 rfl ?_
          refine z_ic kc_p1 dX4_trunksIn_30 ?_
          refine z_iload_n dX4_trunksIn_31 rfl ?_
          refine z_ishl dX4_trunksIn_32 ?_
          refine z_ior dX4_trunksIn_33 ?_
          refine z_istore_n (ls' := [.ref 87, .int x1, .int (x2 ||| ((1 : Int32) <<< (x3 &&& 31))), .int x3]) dX4_trunksIn_34 (by decide) rfl ?_
          refine z_ii (ls' := [.ref 87, .int x1, .int (x2 ||| ((1 : Int32) <<< (x3 &&& 31))), .int (x3 + (1 : Int32))]) kc_p1 dX4_trunksIn_35 rfl (by decide) rfl ?_
          refine z_goto (tgt := 4) dX4_trunksIn_38 rfl ?_
          exact ih x1 (x2 ||| ((1 : Int32) <<< (x3 &&& 31))) (x3 + (1 : Int32)) _ _ _ h
      · replace h := (if_neg g2).symm.trans h
        refine z_ii (ls' := [.ref 87, .int x1, .int x2, .int (x3 + (1 : Int32))]) kc_p1 dX4_trunksIn_35 rfl (by decide) rfl ?_
        refine z_goto (tgt := 4) dX4_trunksIn_38 rfl ?_
        exact ih x1 x2 (x3 + (1 : Int32)) _ _ _ h
theorem A_X4_trunksIn_87 {l : Launch} (hl : l.stackTraces = false) {Ls d : Nat} {Lm : zML} {x1 : Int32} {M M' : zMM} {v : Int32} (h : f_X4_trunksIn_87 x1 M = some (v, M')) : z_Ct l mX4_trunksIn (d + 2) 0 0 [.ref 87, .int x1] (z_L0 Ls, M, Lm) (.inl (some (.int v))) (z_L0 Ls, M', Lm) := by
  replace h : (  f_X4_trunksIn_87_p4 z_fuel x1 (0 : Int32) (0 : Int32) M) = some (v, M') := h
  refine z_Ct.of hl (by decide) (Nat.le_of_ble_eq_true rfl) rfl ?_
  show z_AW l mX4_trunksIn (d + 2) 0 0 0 [.ref 87, .int x1, .null, .null] [] (z_L0 Ls, M, Lm) (.inl (some (.int v))) (z_L0 Ls, M', Lm)
  refine z_ic kc_p0 dX4_trunksIn_0 ?_
  refine z_istore_n (ls' := [.ref 87, .int x1, .int (0 : Int32), .null]) dX4_trunksIn_1 (by decide) rfl ?_
  refine z_ic kc_p0 dX4_trunksIn_2 ?_
  refine z_istore_n (ls' := [.ref 87, .int x1, .int (0 : Int32), .int (0 : Int32)]) dX4_trunksIn_3 (by decide) rfl ?_
  exact A_X4_trunksIn_87_p4 hl z_fuel x1 (0 : Int32) (0 : Int32) _ _ _ h
/-! X7_has  -/
def f_X7_has (x0 : Int32) (x1 : Int32) (M : zMM) : Option (Int32 × zMM) :=
  if ((z_ush x0 x1) &&& (1 : Int32)) = 0 then
    some ((0 : Int32), M)
  else
    some ((1 : Int32), M)
theorem A_X7_has {l : Launch} (hl : l.stackTraces = false) {Ls d : Nat} {Lm : zML} {x0 : Int32} {x1 : Int32} {M M' : zMM} {v : Int32} (h : f_X7_has x0 x1 M = some (v, M')) : z_Ct l mX7_has (d + 0) 0 0 [.int x0, .int x1] (z_L0 Ls, M, Lm) (.inl (some (.int v))) (z_L0 Ls, M', Lm) := by
  replace h : (  if ((z_ush x0 x1) &&& (1 : Int32)) = 0 then
    some ((0 : Int32), M)
  else
    some ((1 : Int32), M)) = some (v, M') := h
  refine z_Ct.of hl (by decide) (Nat.le_of_ble_eq_true rfl) rfl ?_
  show z_AW l mX7_has (d + 0) 0 0 0 [.int x0, .int x1] [] (z_L0 Ls, M, Lm) (.inl (some (.int v))) (z_L0 Ls, M', Lm)
  refine z_iload_n dX7_has_0 rfl ?_
  refine z_iload_n dX7_has_1 rfl ?_
  refine z_iushr dX7_has_2 ?_
  refine z_ic kc_p1 dX7_has_3 ?_
  refine z_iand dX7_has_4 ?_
  refine z_if_eq (tgt := 12) dX7_has_5 rfl (fun g1 => ?_) (fun g1 => ?_)
  · replace h := (if_pos g1).symm.trans h
    refine z_ic kc_p0 dX7_has_12 ?_
    cases h
    exact z_rZ dX7_has_13 rfl rfl
  · replace h := (if_neg g1).symm.trans h
    refine z_ic kc_p1 dX7_has_8 ?_
    refine z_goto (tgt := 13) dX7_has_9 rfl ?_
    cases h
    exact z_rZ dX7_has_13 rfl rfl
/-! X5_thingsOf 53 -/
def f_X5_thingsOf_53_p4 : Nat → Int32 → Int32 → Int32 → zMM → Option (Int32 × zMM)
  | 0, _, _, _, _ => none
  | n + 1, x1, x2, x3, M =>
  if (M 53 8) ≤ x3 then
    some (x2, M)
  else
    z_bi (f_X7_has x1 (z_at M 61 10 x3) M) fun v3 M4 =>
    if v3 = 0 then
      f_X5_thingsOf_53_p4 n x1 x2 (x3 + (1 : Int32)) M4
    else
      f_X5_thingsOf_53_p4 n x1 (x2 ||| ((1 : Int32) <<< (x3 &&& 31))) (x3 + (1 : Int32)) M4
def f_X5_thingsOf_53 (x1 : Int32) (M : zMM) : Option (Int32 × zMM) :=
  f_X5_thingsOf_53_p4 z_fuel x1 (0 : Int32) (0 : Int32) M
theorem A_X5_thingsOf_53_p4 {l : Launch} (hl : l.stackTraces = false) {Ls d : Nat} {Lm : zML} :
    ∀ (n : Nat) (x1 : Int32) (x2 : Int32) (x3 : Int32) (M M' : zMM) (v : Int32) , f_X5_thingsOf_53_p4 n x1 x2 x3 M = some (v, M') → z_AW l mX5_thingsOf (d + 1) 0 0 4 [.ref 53, .int x1, .int x2, .int x3] [] (z_L0 Ls, M, Lm) (.inl (some (.int v))) (z_L0 Ls, M', Lm) := by
  intro n
  induction n with
  | zero => intro x1 x2 x3 M M' v h; cases h
  | succ n ih =>
    intro x1 x2 x3 M M' v h
    replace h : (  if (M 53 8) ≤ x3 then
    some (x2, M)
  else
    z_bi (f_X7_has x1 (z_at M 61 10 x3) M) fun v3 M4 =>
    if v3 = 0 then
      f_X5_thingsOf_53_p4 n x1 x2 (x3 + (1 : Int32)) M4
    else
      f_X5_thingsOf_53_p4 n x1 (x2 ||| ((1 : Int32) <<< (x3 &&& 31))) (x3 + (1 : Int32)) M4) = some (v, M') := h
    refine z_iload_n dX5_thingsOf_4 rfl ?_
    refine z_aload_n dX5_thingsOf_5 rfl ?_
    refine z_gI (v := (M 53 8)) fl_X5_58 dX5_thingsOf_6 en_53 rfl rfl ?_
    refine z_icmp_ge (tgt := 39) dX5_thingsOf_9 rfl (fun g1 => ?_) (fun g1 => ?_)
    · replace h := (if_pos g1).symm.trans h
      refine z_iload_n dX5_thingsOf_39 rfl ?_
      cases h
      exact z_rI dX5_thingsOf_40 rfl
    · replace h := (if_neg g1).symm.trans h
      refine z_iload_n dX5_thingsOf_12 rfl ?_
      refine z_aload_n dX5_thingsOf_13 rfl ?_
      refine z_getR (q := 61) fl_X5_33 dX5_thingsOf_14 en_53 rfl ?_
      refine z_iload_n dX5_thingsOf_17 rfl ?_
      refine z_cN (av := [.ref 61, .int x3]) (st := [.int x1]) (v := some (.int (z_at M 61 10 x3))) lk_X5_81 dX5_thingsOf_18 (A_X7_at (d := d + 0) hl (by decide) en_61) rfl rfl (Nat.le_of_ble_eq_true rfl) rfl z_len rfl rfl ?_
      obtain ⟨v3, M4, c2, h⟩ := z_bi_c h
      refine z_cN (av := [.int x1, .int (z_at M 61 10 x3)]) (st := []) lk_X5_85 dX5_thingsOf_21 (A_X7_has (d := d + 0) hl c2) rfl rfl (Nat.le_of_ble_eq_true rfl) rfl z_len rfl rfl ?_
      refine z_if_eq (tgt := 33) dX5_thingsOf_24 rfl (fun g5 => ?_) (fun g5 => ?_)
      · replace h := (if_pos g5).symm.trans h
        refine z_ii (ls' := [.ref 53, .int x1, .int x2, .int (x3 + (1 : Int32))]) kc_p1 dX5_thingsOf_33 rfl (by decide) rfl ?_
        refine z_goto (tgt := 4) dX5_thingsOf_36 rfl ?_
        exact ih x1 x2 (x3 + (1 : Int32)) _ _ _ h
      · replace h := (if_neg g5).symm.trans h
        refine z_iload_n dX5_thingsOf_27 rfl ?_
        refine z_ic kc_p1 dX5_thingsOf_28 ?_
        refine z_iload_n dX5_thingsOf_29 rfl ?_
        refine z_ishl dX5_thingsOf_30 ?_
        refine z_ior dX5_thingsOf_31 ?_
        refine z_istore_n (ls' := [.ref 53, .int x1, .int (x2 ||| ((1 : Int32) <<< (x3 &&& 31))), .int x3]) dX5_thingsOf_32 (by decide) rfl ?_
        refine z_ii (ls' := [.ref 53, .int x1, .int (x2 ||| ((1 : Int32) <<< (x3 &&& 31))), .int (x3 + (1 : Int32))]) kc_p1 dX5_thingsOf_33 rfl (by decide) rfl ?_
        refine z_goto (tgt := 4) dX5_thingsOf_36 rfl ?_
        exact ih x1 (x2 ||| ((1 : Int32) <<< (x3 &&& 31))) (x3 + (1 : Int32)) _ _ _ h
theorem A_X5_thingsOf_53 {l : Launch} (hl : l.stackTraces = false) {Ls d : Nat} {Lm : zML} {x1 : Int32} {M M' : zMM} {v : Int32} (h : f_X5_thingsOf_53 x1 M = some (v, M')) : z_Ct l mX5_thingsOf (d + 1) 0 0 [.ref 53, .int x1] (z_L0 Ls, M, Lm) (.inl (some (.int v))) (z_L0 Ls, M', Lm) := by
  replace h : (  f_X5_thingsOf_53_p4 z_fuel x1 (0 : Int32) (0 : Int32) M) = some (v, M') := h
  refine z_Ct.of hl (by decide) (Nat.le_of_ble_eq_true rfl) rfl ?_
  show z_AW l mX5_thingsOf (d + 1) 0 0 0 [.ref 53, .int x1, .null, .null] [] (z_L0 Ls, M, Lm) (.inl (some (.int v))) (z_L0 Ls, M', Lm)
  refine z_ic kc_p0 dX5_thingsOf_0 ?_
  refine z_istore_n (ls' := [.ref 53, .int x1, .int (0 : Int32), .null]) dX5_thingsOf_1 (by decide) rfl ?_
  refine z_ic kc_p0 dX5_thingsOf_2 ?_
  refine z_istore_n (ls' := [.ref 53, .int x1, .int (0 : Int32), .int (0 : Int32)]) dX5_thingsOf_3 (by decide) rfl ?_
  exact A_X5_thingsOf_53_p4 hl z_fuel x1 (0 : Int32) (0 : Int32) _ _ _ h
/-! X7_lowBits  -/
def f_X7_lowBits (x0 : Int32) (M : zMM) : Option (Int32 × zMM) :=
  some ((((1 : Int32) <<< (x0 &&& 31)) - (1 : Int32)), M)
theorem A_X7_lowBits {l : Launch} (hl : l.stackTraces = false) {Ls d : Nat} {Lm : zML} {x0 : Int32} {M M' : zMM} {v : Int32} (h : f_X7_lowBits x0 M = some (v, M')) : z_Ct l mX7_lowBits (d + 0) 0 0 [.int x0] (z_L0 Ls, M, Lm) (.inl (some (.int v))) (z_L0 Ls, M', Lm) := by
  replace h : (  some ((((1 : Int32) <<< (x0 &&& 31)) - (1 : Int32)), M)) = some (v, M') := h
  refine z_Ct.of hl (by decide) (Nat.le_of_ble_eq_true rfl) rfl ?_
  show z_AW l mX7_lowBits (d + 0) 0 0 0 [.int x0] [] (z_L0 Ls, M, Lm) (.inl (some (.int v))) (z_L0 Ls, M', Lm)
  refine z_ic kc_p1 dX7_lowBits_0 ?_
  refine z_iload_n dX7_lowBits_1 rfl ?_
  refine z_ishl dX7_lowBits_2 ?_
  refine z_ic kc_p1 dX7_lowBits_3 ?_
  refine z_isub dX7_lowBits_4 ?_
  cases h
  exact z_rI dX7_lowBits_5 rfl
/-! J6_bitCount_0f7a4  -/
def f_J6_bitCount_0f7a4 (x0 : Int32) (M : zMM) : Option (Int32 × zMM) :=
  some (((((((((x0 - ((z_ush x0 (1 : Int32)) &&& (1431655765 : Int32))) &&& (858993459 : Int32)) + ((z_ush (x0 - ((z_ush x0 (1 : Int32)) &&& (1431655765 : Int32))) (2 : Int32)) &&& (858993459 : Int32))) + (z_ush (((x0 - ((z_ush x0 (1 : Int32)) &&& (1431655765 : Int32))) &&& (858993459 : Int32)) + ((z_ush (x0 - ((z_ush x0 (1 : Int32)) &&& (1431655765 : Int32))) (2 : Int32)) &&& (858993459 : Int32))) (4 : Int32))) &&& (252645135 : Int32)) + (z_ush (((((x0 - ((z_ush x0 (1 : Int32)) &&& (1431655765 : Int32))) &&& (858993459 : Int32)) + ((z_ush (x0 - ((z_ush x0 (1 : Int32)) &&& (1431655765 : Int32))) (2 : Int32)) &&& (858993459 : Int32))) + (z_ush (((x0 - ((z_ush x0 (1 : Int32)) &&& (1431655765 : Int32))) &&& (858993459 : Int32)) + ((z_ush (x0 - ((z_ush x0 (1 : Int32)) &&& (1431655765 : Int32))) (2 : Int32)) &&& (858993459 : Int32))) (4 : Int32))) &&& (252645135 : Int32)) (8 : Int32))) + (z_ush ((((((x0 - ((z_ush x0 (1 : Int32)) &&& (1431655765 : Int32))) &&& (858993459 : Int32)) + ((z_ush (x0 - ((z_ush x0 (1 : Int32)) &&& (1431655765 : Int32))) (2 : Int32)) &&& (858993459 : Int32))) + (z_ush (((x0 - ((z_ush x0 (1 : Int32)) &&& (1431655765 : Int32))) &&& (858993459 : Int32)) + ((z_ush (x0 - ((z_ush x0 (1 : Int32)) &&& (1431655765 : Int32))) (2 : Int32)) &&& (858993459 : Int32))) (4 : Int32))) &&& (252645135 : Int32)) + (z_ush (((((x0 - ((z_ush x0 (1 : Int32)) &&& (1431655765 : Int32))) &&& (858993459 : Int32)) + ((z_ush (x0 - ((z_ush x0 (1 : Int32)) &&& (1431655765 : Int32))) (2 : Int32)) &&& (858993459 : Int32))) + (z_ush (((x0 - ((z_ush x0 (1 : Int32)) &&& (1431655765 : Int32))) &&& (858993459 : Int32)) + ((z_ush (x0 - ((z_ush x0 (1 : Int32)) &&& (1431655765 : Int32))) (2 : Int32)) &&& (858993459 : Int32))) (4 : Int32))) &&& (252645135 : Int32)) (8 : Int32))) (16 : Int32))) &&& (63 : Int32)), M)
theorem A_J6_bitCount_0f7a4 {l : Launch} (hl : l.stackTraces = false) {Ls d : Nat} {Lm : zML} {x0 : Int32} {M M' : zMM} {v : Int32} (h : f_J6_bitCount_0f7a4 x0 M = some (v, M')) : z_Ct l mJ6_bitCount_0f7a4 (d + 0) 0 0 [.int x0] (z_L0 Ls, M, Lm) (.inl (some (.int v))) (z_L0 Ls, M', Lm) := by
  replace h : (  some (((((((((x0 - ((z_ush x0 (1 : Int32)) &&& (1431655765 : Int32))) &&& (858993459 : Int32)) + ((z_ush (x0 - ((z_ush x0 (1 : Int32)) &&& (1431655765 : Int32))) (2 : Int32)) &&& (858993459 : Int32))) + (z_ush (((x0 - ((z_ush x0 (1 : Int32)) &&& (1431655765 : Int32))) &&& (858993459 : Int32)) + ((z_ush (x0 - ((z_ush x0 (1 : Int32)) &&& (1431655765 : Int32))) (2 : Int32)) &&& (858993459 : Int32))) (4 : Int32))) &&& (252645135 : Int32)) + (z_ush (((((x0 - ((z_ush x0 (1 : Int32)) &&& (1431655765 : Int32))) &&& (858993459 : Int32)) + ((z_ush (x0 - ((z_ush x0 (1 : Int32)) &&& (1431655765 : Int32))) (2 : Int32)) &&& (858993459 : Int32))) + (z_ush (((x0 - ((z_ush x0 (1 : Int32)) &&& (1431655765 : Int32))) &&& (858993459 : Int32)) + ((z_ush (x0 - ((z_ush x0 (1 : Int32)) &&& (1431655765 : Int32))) (2 : Int32)) &&& (858993459 : Int32))) (4 : Int32))) &&& (252645135 : Int32)) (8 : Int32))) + (z_ush ((((((x0 - ((z_ush x0 (1 : Int32)) &&& (1431655765 : Int32))) &&& (858993459 : Int32)) + ((z_ush (x0 - ((z_ush x0 (1 : Int32)) &&& (1431655765 : Int32))) (2 : Int32)) &&& (858993459 : Int32))) + (z_ush (((x0 - ((z_ush x0 (1 : Int32)) &&& (1431655765 : Int32))) &&& (858993459 : Int32)) + ((z_ush (x0 - ((z_ush x0 (1 : Int32)) &&& (1431655765 : Int32))) (2 : Int32)) &&& (858993459 : Int32))) (4 : Int32))) &&& (252645135 : Int32)) + (z_ush (((((x0 - ((z_ush x0 (1 : Int32)) &&& (1431655765 : Int32))) &&& (858993459 : Int32)) + ((z_ush (x0 - ((z_ush x0 (1 : Int32)) &&& (1431655765 : Int32))) (2 : Int32)) &&& (858993459 : Int32))) + (z_ush (((x0 - ((z_ush x0 (1 : Int32)) &&& (1431655765 : Int32))) &&& (858993459 : Int32)) + ((z_ush (x0 - ((z_ush x0 (1 : Int32)) &&& (1431655765 : Int32))) (2 : Int32)) &&& (858993459 : Int32))) (4 : Int32))) &&& (252645135 : Int32)) (8 : Int32))) (16 : Int32))) &&& (63 : Int32)), M)) = some (v, M') := h
  refine z_Ct.of hl (by decide) (Nat.le_of_ble_eq_true rfl) rfl ?_
  show z_AW l mJ6_bitCount_0f7a4 (d + 0) 0 0 0 [.int x0] [] (z_L0 Ls, M, Lm) (.inl (some (.int v))) (z_L0 Ls, M', Lm)
  refine z_iload_n dJ6_bitCount_0f7a4_0 rfl ?_
  refine z_iload_n dJ6_bitCount_0f7a4_1 rfl ?_
  refine z_ic kc_p1 dJ6_bitCount_0f7a4_2 ?_
  refine z_iushr dJ6_bitCount_0f7a4_3 ?_
  refine z_ldcw (v := (1431655765 : Int32)) kc_J6_265 dJ6_bitCount_0f7a4_4 ?_
  refine z_iand dJ6_bitCount_0f7a4_7 ?_
  refine z_isub dJ6_bitCount_0f7a4_8 ?_
  refine z_istore_n (ls' := [.int (x0 - ((z_ush x0 (1 : Int32)) &&& (1431655765 : Int32)))]) dJ6_bitCount_0f7a4_9 (by decide) rfl ?_
  refine z_iload_n dJ6_bitCount_0f7a4_10 rfl ?_
  refine z_ldcw (v := (858993459 : Int32)) kc_J6_266 dJ6_bitCount_0f7a4_11 ?_
  refine z_iand dJ6_bitCount_0f7a4_14 ?_
  refine z_iload_n dJ6_bitCount_0f7a4_15 rfl ?_
  refine z_ic kc_p2 dJ6_bitCount_0f7a4_16 ?_
  refine z_iushr dJ6_bitCount_0f7a4_17 ?_
  refine z_ldcw (v := (858993459 : Int32)) kc_J6_266 dJ6_bitCount_0f7a4_18 ?_
  refine z_iand dJ6_bitCount_0f7a4_21 ?_
  refine z_iadd dJ6_bitCount_0f7a4_22 ?_
  refine z_istore_n (ls' := [.int (((x0 - ((z_ush x0 (1 : Int32)) &&& (1431655765 : Int32))) &&& (858993459 : Int32)) + ((z_ush (x0 - ((z_ush x0 (1 : Int32)) &&& (1431655765 : Int32))) (2 : Int32)) &&& (858993459 : Int32)))]) dJ6_bitCount_0f7a4_23 (by decide) rfl ?_
  refine z_iload_n dJ6_bitCount_0f7a4_24 rfl ?_
  refine z_iload_n dJ6_bitCount_0f7a4_25 rfl ?_
  refine z_ic kc_p4 dJ6_bitCount_0f7a4_26 ?_
  refine z_iushr dJ6_bitCount_0f7a4_27 ?_
  refine z_iadd dJ6_bitCount_0f7a4_28 ?_
  refine z_ldcw (v := (252645135 : Int32)) kc_J6_267 dJ6_bitCount_0f7a4_29 ?_
  refine z_iand dJ6_bitCount_0f7a4_32 ?_
  refine z_istore_n (ls' := [.int (((((x0 - ((z_ush x0 (1 : Int32)) &&& (1431655765 : Int32))) &&& (858993459 : Int32)) + ((z_ush (x0 - ((z_ush x0 (1 : Int32)) &&& (1431655765 : Int32))) (2 : Int32)) &&& (858993459 : Int32))) + (z_ush (((x0 - ((z_ush x0 (1 : Int32)) &&& (1431655765 : Int32))) &&& (858993459 : Int32)) + ((z_ush (x0 - ((z_ush x0 (1 : Int32)) &&& (1431655765 : Int32))) (2 : Int32)) &&& (858993459 : Int32))) (4 : Int32))) &&& (252645135 : Int32))]) dJ6_bitCount_0f7a4_33 (by decide) rfl ?_
  refine z_iload_n dJ6_bitCount_0f7a4_34 rfl ?_
  refine z_iload_n dJ6_bitCount_0f7a4_35 rfl ?_
  refine z_bp kb_p8 dJ6_bitCount_0f7a4_36 ?_
  refine z_iushr dJ6_bitCount_0f7a4_38 ?_
  refine z_iadd dJ6_bitCount_0f7a4_39 ?_
  refine z_istore_n (ls' := [.int ((((((x0 - ((z_ush x0 (1 : Int32)) &&& (1431655765 : Int32))) &&& (858993459 : Int32)) + ((z_ush (x0 - ((z_ush x0 (1 : Int32)) &&& (1431655765 : Int32))) (2 : Int32)) &&& (858993459 : Int32))) + (z_ush (((x0 - ((z_ush x0 (1 : Int32)) &&& (1431655765 : Int32))) &&& (858993459 : Int32)) + ((z_ush (x0 - ((z_ush x0 (1 : Int32)) &&& (1431655765 : Int32))) (2 : Int32)) &&& (858993459 : Int32))) (4 : Int32))) &&& (252645135 : Int32)) + (z_ush (((((x0 - ((z_ush x0 (1 : Int32)) &&& (1431655765 : Int32))) &&& (858993459 : Int32)) + ((z_ush (x0 - ((z_ush x0 (1 : Int32)) &&& (1431655765 : Int32))) (2 : Int32)) &&& (858993459 : Int32))) + (z_ush (((x0 - ((z_ush x0 (1 : Int32)) &&& (1431655765 : Int32))) &&& (858993459 : Int32)) + ((z_ush (x0 - ((z_ush x0 (1 : Int32)) &&& (1431655765 : Int32))) (2 : Int32)) &&& (858993459 : Int32))) (4 : Int32))) &&& (252645135 : Int32)) (8 : Int32)))]) dJ6_bitCount_0f7a4_40 (by decide) rfl ?_
  refine z_iload_n dJ6_bitCount_0f7a4_41 rfl ?_
  refine z_iload_n dJ6_bitCount_0f7a4_42 rfl ?_
  refine z_bp kb_p16 dJ6_bitCount_0f7a4_43 ?_
  refine z_iushr dJ6_bitCount_0f7a4_45 ?_
  refine z_iadd dJ6_bitCount_0f7a4_46 ?_
  refine z_istore_n (ls' := [.int (((((((x0 - ((z_ush x0 (1 : Int32)) &&& (1431655765 : Int32))) &&& (858993459 : Int32)) + ((z_ush (x0 - ((z_ush x0 (1 : Int32)) &&& (1431655765 : Int32))) (2 : Int32)) &&& (858993459 : Int32))) + (z_ush (((x0 - ((z_ush x0 (1 : Int32)) &&& (1431655765 : Int32))) &&& (858993459 : Int32)) + ((z_ush (x0 - ((z_ush x0 (1 : Int32)) &&& (1431655765 : Int32))) (2 : Int32)) &&& (858993459 : Int32))) (4 : Int32))) &&& (252645135 : Int32)) + (z_ush (((((x0 - ((z_ush x0 (1 : Int32)) &&& (1431655765 : Int32))) &&& (858993459 : Int32)) + ((z_ush (x0 - ((z_ush x0 (1 : Int32)) &&& (1431655765 : Int32))) (2 : Int32)) &&& (858993459 : Int32))) + (z_ush (((x0 - ((z_ush x0 (1 : Int32)) &&& (1431655765 : Int32))) &&& (858993459 : Int32)) + ((z_ush (x0 - ((z_ush x0 (1 : Int32)) &&& (1431655765 : Int32))) (2 : Int32)) &&& (858993459 : Int32))) (4 : Int32))) &&& (252645135 : Int32)) (8 : Int32))) + (z_ush ((((((x0 - ((z_ush x0 (1 : Int32)) &&& (1431655765 : Int32))) &&& (858993459 : Int32)) + ((z_ush (x0 - ((z_ush x0 (1 : Int32)) &&& (1431655765 : Int32))) (2 : Int32)) &&& (858993459 : Int32))) + (z_ush (((x0 - ((z_ush x0 (1 : Int32)) &&& (1431655765 : Int32))) &&& (858993459 : Int32)) + ((z_ush (x0 - ((z_ush x0 (1 : Int32)) &&& (1431655765 : Int32))) (2 : Int32)) &&& (858993459 : Int32))) (4 : Int32))) &&& (252645135 : Int32)) + (z_ush (((((x0 - ((z_ush x0 (1 : Int32)) &&& (1431655765 : Int32))) &&& (858993459 : Int32)) + ((z_ush (x0 - ((z_ush x0 (1 : Int32)) &&& (1431655765 : Int32))) (2 : Int32)) &&& (858993459 : Int32))) + (z_ush (((x0 - ((z_ush x0 (1 : Int32)) &&& (1431655765 : Int32))) &&& (858993459 : Int32)) + ((z_ush (x0 - ((z_ush x0 (1 : Int32)) &&& (1431655765 : Int32))) (2 : Int32)) &&& (858993459 : Int32))) (4 : Int32))) &&& (252645135 : Int32)) (8 : Int32))) (16 : Int32)))]) dJ6_bitCount_0f7a4_47 (by decide) rfl ?_
  refine z_iload_n dJ6_bitCount_0f7a4_48 rfl ?_
  refine z_bp kb_p63 dJ6_bitCount_0f7a4_49 ?_
  refine z_iand dJ6_bitCount_0f7a4_51 ?_
  cases h
  exact z_rI dJ6_bitCount_0f7a4_52 rfl
/-! X7_isLess  -/
def f_X7_isLess (x0 : Int32) (x1 : Int32) (M : zMM) : Option (Int32 × zMM) :=
  if x0 = (-1 : Int32) then
    some ((0 : Int32), M)
  else
    if x1 = (-1 : Int32) then
      some ((1 : Int32), M)
    else
      if x1 ≤ x0 then
        some ((0 : Int32), M)
      else
        some ((1 : Int32), M)
theorem A_X7_isLess {l : Launch} (hl : l.stackTraces = false) {Ls d : Nat} {Lm : zML} {x0 : Int32} {x1 : Int32} {M M' : zMM} {v : Int32} (h : f_X7_isLess x0 x1 M = some (v, M')) : z_Ct l mX7_isLess (d + 0) 0 0 [.int x0, .int x1] (z_L0 Ls, M, Lm) (.inl (some (.int v))) (z_L0 Ls, M', Lm) := by
  replace h : (  if x0 = (-1 : Int32) then
    some ((0 : Int32), M)
  else
    if x1 = (-1 : Int32) then
      some ((1 : Int32), M)
    else
      if x1 ≤ x0 then
        some ((0 : Int32), M)
      else
        some ((1 : Int32), M)) = some (v, M') := h
  refine z_Ct.of hl (by decide) (Nat.le_of_ble_eq_true rfl) rfl ?_
  show z_AW l mX7_isLess (d + 0) 0 0 0 [.int x0, .int x1] [] (z_L0 Ls, M, Lm) (.inl (some (.int v))) (z_L0 Ls, M', Lm)
  refine z_iload_n dX7_isLess_0 rfl ?_
  refine z_ic kc_m1 dX7_isLess_1 ?_
  refine z_icmp_eq (tgt := 19) dX7_isLess_2 rfl (fun g1 => ?_) (fun g1 => ?_)
  · replace h := (if_pos g1).symm.trans h
    refine z_ic kc_p0 dX7_isLess_19 ?_
    cases h
    exact z_rZ dX7_isLess_20 rfl rfl
  · replace h := (if_neg g1).symm.trans h
    refine z_iload_n dX7_isLess_5 rfl ?_
    refine z_ic kc_m1 dX7_isLess_6 ?_
    refine z_icmp_eq (tgt := 15) dX7_isLess_7 rfl (fun g2 => ?_) (fun g2 => ?_)
    · replace h := (if_pos g2).symm.trans h
      refine z_ic kc_p1 dX7_isLess_15 ?_
      refine z_goto (tgt := 20) dX7_isLess_16 rfl ?_
      cases h
      exact z_rZ dX7_isLess_20 rfl rfl
    · replace h := (if_neg g2).symm.trans h
      refine z_iload_n dX7_isLess_10 rfl ?_
      refine z_iload_n dX7_isLess_11 rfl ?_
      refine z_icmp_ge (tgt := 19) dX7_isLess_12 rfl (fun g3 => ?_) (fun g3 => ?_)
      · replace h := (if_pos g3).symm.trans h
        refine z_ic kc_p0 dX7_isLess_19 ?_
        cases h
        exact z_rZ dX7_isLess_20 rfl rfl
      · replace h := (if_neg g3).symm.trans h
        refine z_ic kc_p1 dX7_isLess_15 ?_
        refine z_goto (tgt := 20) dX7_isLess_16 rfl ?_
        cases h
        exact z_rZ dX7_isLess_20 rfl rfl
/-! X2_withLent 83 -/
def f_X2_withLent_83_p6 : Nat → Int32 → Int32 → Int32 → Int32 → Int32 → zMM → Option (Int32 × zMM)
  | 0, _, _, _, _, _, _ => none
  | n + 1, x1, x2, x3, x4, x5, M =>
  z_bi (f_X7_lowBits x1 M) fun v2 M3 =>
  if v2 < x5 then
    some (x4, M3)
  else
    z_bi (f_J6_bitCount_0f7a4 x5 M3) fun v6 M7 =>
    if (z_at M7 85 16 x5) = (-1 : Int32) then
      f_X2_withLent_83_p6 n x1 x2 x3 x4 (x5 + (1 : Int32)) M7
    else
      if x2 < (x1 - v6) then
        f_X2_withLent_83_p6 n x1 x2 x3 x4 (x5 + (1 : Int32)) M7
      else
        z_bi (f_X7_isLess ((z_at M7 85 16 x5) + ((x1 - v6) * x3)) x4 M7) fun v11 M12 =>
        if v11 = 0 then
          f_X2_withLent_83_p6 n x1 x2 x3 x4 (x5 + (1 : Int32)) M12
        else
          f_X2_withLent_83_p6 n x1 x2 x3 ((z_at M7 85 16 x5) + ((x1 - v6) * x3)) (x5 + (1 : Int32)) M12
def f_X2_withLent_83 (x1 : Int32) (x2 : Int32) (x3 : Int32) (M : zMM) : Option (Int32 × zMM) :=
  f_X2_withLent_83_p6 z_fuel x1 x2 x3 (-1 : Int32) (0 : Int32) M
theorem A_X2_withLent_83_p6 {l : Launch} (hl : l.stackTraces = false) {Ls d : Nat} {Lm : zML} :
    ∀ (n : Nat) (x1 : Int32) (x2 : Int32) (x3 : Int32) (x4 : Int32) (x5 : Int32) (M M' : zMM) (v : Int32) , f_X2_withLent_83_p6 n x1 x2 x3 x4 x5 M = some (v, M') → z_AW l mX2_withLent (d + 1) 0 0 6 [.ref 83, .int x1, .int x2, .int x3, .int x4, .int x5, .null, .null] [] (z_L0 Ls, M, Lm) (.inl (some (.int v))) (z_L0 Ls, M', Lm) := by
  intro n
  induction n with
  | zero => intro x1 x2 x3 x4 x5 M M' v h; cases h
  | succ n ih =>
    intro x1 x2 x3 x4 x5 M M' v h
    replace h : (  z_bi (f_X7_lowBits x1 M) fun v2 M3 =>
  if v2 < x5 then
    some (x4, M3)
  else
    z_bi (f_J6_bitCount_0f7a4 x5 M3) fun v6 M7 =>
    if (z_at M7 85 16 x5) = (-1 : Int32) then
      f_X2_withLent_83_p6 n x1 x2 x3 x4 (x5 + (1 : Int32)) M7
    else
      if x2 < (x1 - v6) then
        f_X2_withLent_83_p6 n x1 x2 x3 x4 (x5 + (1 : Int32)) M7
      else
        z_bi (f_X7_isLess ((z_at M7 85 16 x5) + ((x1 - v6) * x3)) x4 M7) fun v11 M12 =>
        if v11 = 0 then
          f_X2_withLent_83_p6 n x1 x2 x3 x4 (x5 + (1 : Int32)) M12
        else
          f_X2_withLent_83_p6 n x1 x2 x3 ((z_at M7 85 16 x5) + ((x1 - v6) * x3)) (x5 + (1 : Int32)) M12) = some (v, M') := h
    refine z_iload dX2_withLent_6 rfl ?_
    refine z_iload_n dX2_withLent_8 rfl ?_
    obtain ⟨v2, M3, c1, h⟩ := z_bi_c h
    refine z_cN (av := [.int x1]) (st := [.int x5]) lk_X2_91 dX2_withLent_9 (A_X7_lowBits (d := d + 0) hl c1) rfl rfl (Nat.le_of_ble_eq_true rfl) rfl z_len rfl rfl ?_
    refine z_icmp_gt (tgt := 77) dX2_withLent_12 rfl (fun g4 => ?_) (fun g4 => ?_)
    · replace h := (if_pos g4).symm.trans h
      refine z_iload dX2_withLent_77 rfl ?_
      cases h
      exact z_rI dX2_withLent_79 rfl
    · replace h := (if_neg g4).symm.trans h
      refine z_iload_n dX2_withLent_15 rfl ?_
      refine z_iload dX2_withLent_16 rfl ?_
      obtain ⟨v6, M7, c5, h⟩ := z_bi_c h
      refine z_cS (av := [.int x5]) (st := [.int x1]) lk_X2_97 dX2_withLent_18 (A_J6_bitCount_0f7a4 (d := d + 0) hl c5) rfl rfl (Nat.le_of_ble_eq_true rfl) rfl z_len rfl rfl ?_
      refine z_isub dX2_withLent_21 ?_
      refine z_istore (ls' := [.ref 83, .int x1, .int x2, .int x3, .int x4, .int x5, .int (x1 - v6), .null]) dX2_withLent_22 (by decide) rfl ?_
      refine z_aload_n dX2_withLent_24 rfl ?_
      refine z_getR (q := 85) fl_X2_15 dX2_withLent_25 en_83 rfl ?_
      refine z_iload dX2_withLent_28 rfl ?_
      refine z_cN (av := [.ref 85, .int x5]) (st := []) (v := some (.int (z_at M7 85 16 x5))) lk_X2_34 dX2_withLent_30 (A_X7_at (d := d + 0) hl (by decide) en_85) rfl rfl (Nat.le_of_ble_eq_true rfl) rfl z_len rfl rfl ?_
      refine z_istore (ls' := [.ref 83, .int x1, .int x2, .int x3, .int x4, .int x5, .int (x1 - v6), .int (z_at M7 85 16 x5)]) dX2_withLent_33 (by decide) rfl ?_
      refine z_iload dX2_withLent_35 rfl ?_
      refine z_ic kc_m1 dX2_withLent_37 ?_
      refine z_icmp_eq (tgt := 71) dX2_withLent_38 rfl (fun g8 => ?_) (fun g8 => ?_)
      · replace h := (if_pos g8).symm.trans h
        refine z_ii (ls' := [.ref 83, .int x1, .int x2, .int x3, .int x4, .int (x5 + (1 : Int32)), .int (x1 - v6), .int (z_at M7 85 16 x5)]) kc_p1 dX2_withLent_71 rfl (by decide) rfl ?_
        refine z_goto (tgt := 6) dX2_withLent_74 rfl ?_
        refine z_fg (ls' := [.ref 83, .int x1, .int x2, .int x3, .int x4, .int (x5 + (1 : Int32)), .null, .null]) ⟨Or.inr rfl, Or.inr rfl, Or.inr rfl, Or.inr rfl, Or.inr rfl, Or.inr rfl, Or.inl rfl, Or.inl rfl, trivial⟩ ?_
        exact ih x1 x2 x3 x4 (x5 + (1 : Int32)) _ _ _ h
      · replace h := (if_neg g8).symm.trans h
        refine z_iload dX2_withLent_41 rfl ?_
        refine z_iload_n dX2_withLent_43 rfl ?_
        refine z_icmp_gt (tgt := 71) dX2_withLent_44 rfl (fun g9 => ?_) (fun g9 => ?_)
        · replace h := (if_pos g9).symm.trans h
          refine z_ii (ls' := [.ref 83, .int x1, .int x2, .int x3, .int x4, .int (x5 + (1 : Int32)), .int (x1 - v6), .int (z_at M7 85 16 x5)]) kc_p1 dX2_withLent_71 rfl (by decide) rfl ?_
          refine z_goto (tgt := 6) dX2_withLent_74 rfl ?_
          refine z_fg (ls' := [.ref 83, .int x1, .int x2, .int x3, .int x4, .int (x5 + (1 : Int32)), .null, .null]) ⟨Or.inr rfl, Or.inr rfl, Or.inr rfl, Or.inr rfl, Or.inr rfl, Or.inr rfl, Or.inl rfl, Or.inl rfl, trivial⟩ ?_
          exact ih x1 x2 x3 x4 (x5 + (1 : Int32)) _ _ _ h
        · replace h := (if_neg g9).symm.trans h
          refine z_iload dX2_withLent_47 rfl ?_
          refine z_iload dX2_withLent_49 rfl ?_
          refine z_iload_n dX2_withLent_51 rfl ?_
          refine z_imul dX2_withLent_52 ?_
          refine z_iadd dX2_withLent_53 ?_
          refine z_iload dX2_withLent_54 rfl ?_
          obtain ⟨v11, M12, c10, h⟩ := z_bi_c h
          refine z_cN (av := [.int ((z_at M7 85 16 x5) + ((x1 - v6) * x3)), .int x4]) (st := []) lk_X2_94 dX2_withLent_56 (A_X7_isLess (d := d + 0) hl c10) rfl rfl (Nat.le_of_ble_eq_true rfl) rfl z_len rfl rfl ?_
          refine z_if_eq (tgt := 71) dX2_withLent_59 rfl (fun g13 => ?_) (fun g13 => ?_)
          · replace h := (if_pos g13).symm.trans h
            refine z_ii (ls' := [.ref 83, .int x1, .int x2, .int x3, .int x4, .int (x5 + (1 : Int32)), .int (x1 - v6), .int (z_at M7 85 16 x5)]) kc_p1 dX2_withLent_71 rfl (by decide) rfl ?_
            refine z_goto (tgt := 6) dX2_withLent_74 rfl ?_
            refine z_fg (ls' := [.ref 83, .int x1, .int x2, .int x3, .int x4, .int (x5 + (1 : Int32)), .null, .null]) ⟨Or.inr rfl, Or.inr rfl, Or.inr rfl, Or.inr rfl, Or.inr rfl, Or.inr rfl, Or.inl rfl, Or.inl rfl, trivial⟩ ?_
            exact ih x1 x2 x3 x4 (x5 + (1 : Int32)) _ _ _ h
          · replace h := (if_neg g13).symm.trans h
            refine z_iload dX2_withLent_62 rfl ?_
            refine z_iload dX2_withLent_64 rfl ?_
            refine z_iload_n dX2_withLent_66 rfl ?_
            refine z_imul dX2_withLent_67 ?_
            refine z_iadd dX2_withLent_68 ?_
            refine z_istore (ls' := [.ref 83, .int x1, .int x2, .int x3, .int ((z_at M7 85 16 x5) + ((x1 - v6) * x3)), .int x5, .int (x1 - v6), .int (z_at M7 85 16 x5)]) dX2_withLent_69 (by decide) rfl ?_
            refine z_ii (ls' := [.ref 83, .int x1, .int x2, .int x3, .int ((z_at M7 85 16 x5) + ((x1 - v6) * x3)), .int (x5 + (1 : Int32)), .int (x1 - v6), .int (z_at M7 85 16 x5)]) kc_p1 dX2_withLent_71 rfl (by decide) rfl ?_
            refine z_goto (tgt := 6) dX2_withLent_74 rfl ?_
            refine z_fg (ls' := [.ref 83, .int x1, .int x2, .int x3, .int ((z_at M7 85 16 x5) + ((x1 - v6) * x3)), .int (x5 + (1 : Int32)), .null, .null]) ⟨Or.inr rfl, Or.inr rfl, Or.inr rfl, Or.inr rfl, Or.inr rfl, Or.inr rfl, Or.inl rfl, Or.inl rfl, trivial⟩ ?_
            exact ih x1 x2 x3 ((z_at M7 85 16 x5) + ((x1 - v6) * x3)) (x5 + (1 : Int32)) _ _ _ h
theorem A_X2_withLent_83 {l : Launch} (hl : l.stackTraces = false) {Ls d : Nat} {Lm : zML} {x1 : Int32} {x2 : Int32} {x3 : Int32} {M M' : zMM} {v : Int32} (h : f_X2_withLent_83 x1 x2 x3 M = some (v, M')) : z_Ct l mX2_withLent (d + 1) 0 0 [.ref 83, .int x1, .int x2, .int x3] (z_L0 Ls, M, Lm) (.inl (some (.int v))) (z_L0 Ls, M', Lm) := by
  replace h : (  f_X2_withLent_83_p6 z_fuel x1 x2 x3 (-1 : Int32) (0 : Int32) M) = some (v, M') := h
  refine z_Ct.of hl (by decide) (Nat.le_of_ble_eq_true rfl) rfl ?_
  show z_AW l mX2_withLent (d + 1) 0 0 0 [.ref 83, .int x1, .int x2, .int x3, .null, .null, .null, .null] [] (z_L0 Ls, M, Lm) (.inl (some (.int v))) (z_L0 Ls, M', Lm)
  refine z_ic kc_m1 dX2_withLent_0 ?_
  refine z_istore (ls' := [.ref 83, .int x1, .int x2, .int x3, .int (-1 : Int32), .null, .null, .null]) dX2_withLent_1 (by decide) rfl ?_
  refine z_ic kc_p0 dX2_withLent_3 ?_
  refine z_istore (ls' := [.ref 83, .int x1, .int x2, .int x3, .int (-1 : Int32), .int (0 : Int32), .null, .null]) dX2_withLent_4 (by decide) rfl ?_
  exact A_X2_withLent_83_p6 hl z_fuel x1 x2 x3 (-1 : Int32) (0 : Int32) _ _ _ h
/-! X2_fillBy 83 -/
def f_X2_fillBy_83_p21 (K5 : Int32 → Int32 → zMM → Option zMM) : Nat → Int32 → Int32 → Int32 → Int32 → zMM → Option zMM
  | 0, _, _, _, _, _ => none
  | n + 1, x1, x2, x3, x4, M =>
  if x1 ≤ x4 then
    K5 x1 (x2 + (-1 : Int32)) M
  else
    if x3 = (-1 : Int32) then
      K5 x1 (x2 + (-1 : Int32)) M
    else
      if (x2 ||| ((1 : Int32) <<< (x4 &&& 31))) = x2 then
        f_X2_fillBy_83_p21 K5 n x1 x2 x3 (x4 + (1 : Int32)) M
      else
        if (z_at M 86 4 x4) = (-1 : Int32) then
          f_X2_fillBy_83_p21 K5 n x1 x2 x3 (x4 + (1 : Int32)) M
        else
          z_bi (f_X7_isLess (x3 + (z_at M 86 4 x4)) (z_at M 85 16 (x2 ||| ((1 : Int32) <<< (x4 &&& 31)))) M) fun v10 M11 =>
          if v10 = 0 then
            f_X2_fillBy_83_p21 K5 n x1 x2 x3 (x4 + (1 : Int32)) M11
          else
            z_bv (some (z_pt M11 85 16 (x2 ||| ((1 : Int32) <<< (x4 &&& 31))) (x3 + (z_at M 86 4 x4)))) fun M14 =>
            f_X2_fillBy_83_p21 K5 n x1 x2 x3 (x4 + (1 : Int32)) M14
def f_X2_fillBy_83_p5 : Nat → Int32 → Int32 → zMM → Option zMM
  | 0, _, _, _ => none
  | n + 1, x1, x2, M =>
  if x2 < 0 then
    some M
  else
    f_X2_fillBy_83_p21 (f_X2_fillBy_83_p5 n) z_fuel x1 x2 (z_at M 85 16 x2) (0 : Int32) M
def f_X2_fillBy_83 (x1 : Int32) (M : zMM) : Option zMM :=
  z_bi (f_X7_lowBits x1 M) fun v2 M3 =>
  f_X2_fillBy_83_p5 z_fuel x1 v2 M3
theorem A_X2_fillBy_83_p21 {l : Launch} (hl : l.stackTraces = false) {Ls d : Nat} {Lm : zML} {K5 : Int32 → Int32 → zMM → Option zMM}
    (hK5 : ∀ (x1 : Int32) (x2 : Int32) (M M' : zMM) , K5 x1 x2 M = some M' → z_AW l mX2_fillBy (d + 1) 0 0 5 [.ref 83, .int x1, .int x2, .null, .null, .null, .null] [] (z_L0 Ls, M, Lm) (.inl none) (z_L0 Ls, M', Lm)) :
    ∀ (n : Nat) (x1 : Int32) (x2 : Int32) (x3 : Int32) (x4 : Int32) (M M' : zMM) , f_X2_fillBy_83_p21 K5 n x1 x2 x3 x4 M = some M' → z_AW l mX2_fillBy (d + 1) 0 0 21 [.ref 83, .int x1, .int x2, .int x3, .int x4, .null, .null] [] (z_L0 Ls, M, Lm) (.inl none) (z_L0 Ls, M', Lm) := by
  intro n
  induction n with
  | zero => intro x1 x2 x3 x4 M M' h; cases h
  | succ n ih =>
    intro x1 x2 x3 x4 M M' h
    replace h : (  if x1 ≤ x4 then
    K5 x1 (x2 + (-1 : Int32)) M
  else
    if x3 = (-1 : Int32) then
      K5 x1 (x2 + (-1 : Int32)) M
    else
      if (x2 ||| ((1 : Int32) <<< (x4 &&& 31))) = x2 then
        f_X2_fillBy_83_p21 K5 n x1 x2 x3 (x4 + (1 : Int32)) M
      else
        if (z_at M 86 4 x4) = (-1 : Int32) then
          f_X2_fillBy_83_p21 K5 n x1 x2 x3 (x4 + (1 : Int32)) M
        else
          z_bi (f_X7_isLess (x3 + (z_at M 86 4 x4)) (z_at M 85 16 (x2 ||| ((1 : Int32) <<< (x4 &&& 31)))) M) fun v10 M11 =>
          if v10 = 0 then
            f_X2_fillBy_83_p21 K5 n x1 x2 x3 (x4 + (1 : Int32)) M11
          else
            z_bv (some (z_pt M11 85 16 (x2 ||| ((1 : Int32) <<< (x4 &&& 31))) (x3 + (z_at M 86 4 x4)))) fun M14 =>
            f_X2_fillBy_83_p21 K5 n x1 x2 x3 (x4 + (1 : Int32)) M14) = some M' := h
    refine z_iload dX2_fillBy_21 rfl ?_
    refine z_iload_n dX2_fillBy_23 rfl ?_
    refine z_icmp_ge (tgt := 101) dX2_fillBy_24 rfl (fun g5 => ?_) (fun g5 => ?_)
    · replace h := (if_pos g5).symm.trans h
      refine z_ii (ls' := [.ref 83, .int x1, .int (x2 + (-1 : Int32)), .int x3, .int x4, .null, .null]) kc_m1 dX2_fillBy_101 rfl (by decide) rfl ?_
      refine z_goto (tgt := 5) dX2_fillBy_104 rfl ?_
      refine z_fg (ls' := [.ref 83, .int x1, .int (x2 + (-1 : Int32)), .null, .null, .null, .null]) ⟨Or.inr rfl, Or.inr rfl, Or.inr rfl, Or.inl rfl, Or.inl rfl, Or.inl rfl, Or.inl rfl, trivial⟩ ?_
      exact hK5 x1 (x2 + (-1 : Int32)) _ _ h
    · replace h := (if_neg g5).symm.trans h
      refine z_iload_n dX2_fillBy_27 rfl ?_
      refine z_ic kc_m1 dX2_fillBy_28 ?_
      refine z_icmp_eq (tgt := 101) dX2_fillBy_29 rfl (fun g6 => ?_) (fun g6 => ?_)
      · replace h := (if_pos g6).symm.trans h
        refine z_ii (ls' := [.ref 83, .int x1, .int (x2 + (-1 : Int32)), .int x3, .int x4, .null, .null]) kc_m1 dX2_fillBy_101 rfl (by decide) rfl ?_
        refine z_goto (tgt := 5) dX2_fillBy_104 rfl ?_
        refine z_fg (ls' := [.ref 83, .int x1, .int (x2 + (-1 : Int32)), .null, .null, .null, .null]) ⟨Or.inr rfl, Or.inr rfl, Or.inr rfl, Or.inl rfl, Or.inl rfl, Or.inl rfl, Or.inl rfl, trivial⟩ ?_
        exact hK5 x1 (x2 + (-1 : Int32)) _ _ h
      · replace h := (if_neg g6).symm.trans h
        refine z_aload_n dX2_fillBy_32 rfl ?_
        refine z_getR (q := 86) fl_X2_18 dX2_fillBy_33 en_83 rfl ?_
        refine z_iload dX2_fillBy_36 rfl ?_
        refine z_cN (av := [.ref 86, .int x4]) (st := []) (v := some (.int (z_at M 86 4 x4))) lk_X2_34 dX2_fillBy_38 (A_X7_at (d := d + 0) hl (by decide) en_86) rfl rfl (Nat.le_of_ble_eq_true rfl) rfl z_len rfl rfl ?_
        refine z_istore (ls' := [.ref 83, .int x1, .int x2, .int x3, .int x4, .int (z_at M 86 4 x4), .null]) dX2_fillBy_41 (by decide) rfl ?_
        refine z_iload_n dX2_fillBy_43 rfl ?_
        refine z_ic kc_p1 dX2_fillBy_44 ?_
        refine z_iload dX2_fillBy_45 rfl ?_
        refine z_ishl dX2_fillBy_47 ?_
        refine z_ior dX2_fillBy_48 ?_
        refine z_istore (ls' := [.ref 83, .int x1, .int x2, .int x3, .int x4, .int (z_at M 86 4 x4), .int (x2 ||| ((1 : Int32) <<< (x4 &&& 31)))]) dX2_fillBy_49 (by decide) rfl ?_
        refine z_iload dX2_fillBy_51 rfl ?_
        refine z_iload_n dX2_fillBy_53 rfl ?_
        refine z_icmp_eq (tgt := 95) dX2_fillBy_54 rfl (fun g7 => ?_) (fun g7 => ?_)
        · replace h := (if_pos g7).symm.trans h
          refine z_ii (ls' := [.ref 83, .int x1, .int x2, .int x3, .int (x4 + (1 : Int32)), .int (z_at M 86 4 x4), .int (x2 ||| ((1 : Int32) <<< (x4 &&& 31)))]) kc_p1 dX2_fillBy_95 rfl (by decide) rfl ?_
          refine z_goto (tgt := 21) dX2_fillBy_98 rfl ?_
          refine z_fg (ls' := [.ref 83, .int x1, .int x2, .int x3, .int (x4 + (1 : Int32)), .null, .null]) ⟨Or.inr rfl, Or.inr rfl, Or.inr rfl, Or.inr rfl, Or.inr rfl, Or.inl rfl, Or.inl rfl, trivial⟩ ?_
          exact ih x1 x2 x3 (x4 + (1 : Int32)) _ _ h
        · replace h := (if_neg g7).symm.trans h
          refine z_iload dX2_fillBy_57 rfl ?_
          refine z_ic kc_m1 dX2_fillBy_59 ?_
          refine z_icmp_eq (tgt := 95) dX2_fillBy_60 rfl (fun g8 => ?_) (fun g8 => ?_)
          · replace h := (if_pos g8).symm.trans h
            refine z_ii (ls' := [.ref 83, .int x1, .int x2, .int x3, .int (x4 + (1 : Int32)), .int (z_at M 86 4 x4), .int (x2 ||| ((1 : Int32) <<< (x4 &&& 31)))]) kc_p1 dX2_fillBy_95 rfl (by decide) rfl ?_
            refine z_goto (tgt := 21) dX2_fillBy_98 rfl ?_
            refine z_fg (ls' := [.ref 83, .int x1, .int x2, .int x3, .int (x4 + (1 : Int32)), .null, .null]) ⟨Or.inr rfl, Or.inr rfl, Or.inr rfl, Or.inr rfl, Or.inr rfl, Or.inl rfl, Or.inl rfl, trivial⟩ ?_
            exact ih x1 x2 x3 (x4 + (1 : Int32)) _ _ h
          · replace h := (if_neg g8).symm.trans h
            refine z_iload_n dX2_fillBy_63 rfl ?_
            refine z_iload dX2_fillBy_64 rfl ?_
            refine z_iadd dX2_fillBy_66 ?_
            refine z_aload_n dX2_fillBy_67 rfl ?_
            refine z_getR (q := 85) fl_X2_15 dX2_fillBy_68 en_83 rfl ?_
            refine z_iload dX2_fillBy_71 rfl ?_
            refine z_cN (av := [.ref 85, .int (x2 ||| ((1 : Int32) <<< (x4 &&& 31)))]) (st := [.int (x3 + (z_at M 86 4 x4))]) (v := some (.int (z_at M 85 16 (x2 ||| ((1 : Int32) <<< (x4 &&& 31)))))) lk_X2_34 dX2_fillBy_73 (A_X7_at (d := d + 0) hl (by decide) en_85) rfl rfl (Nat.le_of_ble_eq_true rfl) rfl z_len rfl rfl ?_
            obtain ⟨v10, M11, c9, h⟩ := z_bi_c h
            refine z_cN (av := [.int (x3 + (z_at M 86 4 x4)), .int (z_at M 85 16 (x2 ||| ((1 : Int32) <<< (x4 &&& 31))))]) (st := []) lk_X2_94 dX2_fillBy_76 (A_X7_isLess (d := d + 0) hl c9) rfl rfl (Nat.le_of_ble_eq_true rfl) rfl z_len rfl rfl ?_
            refine z_if_eq (tgt := 95) dX2_fillBy_79 rfl (fun g12 => ?_) (fun g12 => ?_)
            · replace h := (if_pos g12).symm.trans h
              refine z_ii (ls' := [.ref 83, .int x1, .int x2, .int x3, .int (x4 + (1 : Int32)), .int (z_at M 86 4 x4), .int (x2 ||| ((1 : Int32) <<< (x4 &&& 31)))]) kc_p1 dX2_fillBy_95 rfl (by decide) rfl ?_
              refine z_goto (tgt := 21) dX2_fillBy_98 rfl ?_
              refine z_fg (ls' := [.ref 83, .int x1, .int x2, .int x3, .int (x4 + (1 : Int32)), .null, .null]) ⟨Or.inr rfl, Or.inr rfl, Or.inr rfl, Or.inr rfl, Or.inr rfl, Or.inl rfl, Or.inl rfl, trivial⟩ ?_
              exact ih x1 x2 x3 (x4 + (1 : Int32)) _ _ h
            · replace h := (if_neg g12).symm.trans h
              refine z_aload_n dX2_fillBy_82 rfl ?_
              refine z_getR (q := 85) fl_X2_15 dX2_fillBy_83 en_83 rfl ?_
              refine z_iload dX2_fillBy_86 rfl ?_
              refine z_iload_n dX2_fillBy_88 rfl ?_
              refine z_iload dX2_fillBy_89 rfl ?_
              refine z_iadd dX2_fillBy_91 ?_
              obtain ⟨M14, c13, h⟩ := z_bv_c h
              refine z_cN (av := [.ref 85, .int (x2 ||| ((1 : Int32) <<< (x4 &&& 31))), .int (x3 + (z_at M 86 4 x4))]) (st := []) lk_X2_51 dX2_fillBy_92 (z_Ct.to (A_X7_put (d := d + 0) hl (by decide) (by decide) en_85) c13) rfl rfl (Nat.le_of_ble_eq_true rfl) rfl z_len rfl rfl ?_
              refine z_ii (ls' := [.ref 83, .int x1, .int x2, .int x3, .int (x4 + (1 : Int32)), .int (z_at M 86 4 x4), .int (x2 ||| ((1 : Int32) <<< (x4 &&& 31)))]) kc_p1 dX2_fillBy_95 rfl (by decide) rfl ?_
              refine z_goto (tgt := 21) dX2_fillBy_98 rfl ?_
              refine z_fg (ls' := [.ref 83, .int x1, .int x2, .int x3, .int (x4 + (1 : Int32)), .null, .null]) ⟨Or.inr rfl, Or.inr rfl, Or.inr rfl, Or.inr rfl, Or.inr rfl, Or.inl rfl, Or.inl rfl, trivial⟩ ?_
              exact ih x1 x2 x3 (x4 + (1 : Int32)) _ _ h
theorem A_X2_fillBy_83_p5 {l : Launch} (hl : l.stackTraces = false) {Ls d : Nat} {Lm : zML} :
    ∀ (n : Nat) (x1 : Int32) (x2 : Int32) (M M' : zMM) , f_X2_fillBy_83_p5 n x1 x2 M = some M' → z_AW l mX2_fillBy (d + 1) 0 0 5 [.ref 83, .int x1, .int x2, .null, .null, .null, .null] [] (z_L0 Ls, M, Lm) (.inl none) (z_L0 Ls, M', Lm) := by
  intro n
  induction n with
  | zero => intro x1 x2 M M' h; cases h
  | succ n ih =>
    intro x1 x2 M M' h
    replace h : (  if x2 < 0 then
    some M
  else
    f_X2_fillBy_83_p21 (f_X2_fillBy_83_p5 n) z_fuel x1 x2 (z_at M 85 16 x2) (0 : Int32) M) = some M' := h
    refine z_iload_n dX2_fillBy_5 rfl ?_
    refine z_if_lt (tgt := 107) dX2_fillBy_6 rfl (fun g4 => ?_) (fun g4 => ?_)
    · replace h := (if_pos g4).symm.trans h
      cases h
      exact z_return dX2_fillBy_107 rfl
    · replace h := (if_neg g4).symm.trans h
      refine z_aload_n dX2_fillBy_9 rfl ?_
      refine z_getR (q := 85) fl_X2_15 dX2_fillBy_10 en_83 rfl ?_
      refine z_iload_n dX2_fillBy_13 rfl ?_
      refine z_cN (av := [.ref 85, .int x2]) (st := []) (v := some (.int (z_at M 85 16 x2))) lk_X2_34 dX2_fillBy_14 (A_X7_at (d := d + 0) hl (by decide) en_85) rfl rfl (Nat.le_of_ble_eq_true rfl) rfl z_len rfl rfl ?_
      refine z_istore_n (ls' := [.ref 83, .int x1, .int x2, .int (z_at M 85 16 x2), .null, .null, .null]) dX2_fillBy_17 (by decide) rfl ?_
      refine z_ic kc_p0 dX2_fillBy_18 ?_
      refine z_istore (ls' := [.ref 83, .int x1, .int x2, .int (z_at M 85 16 x2), .int (0 : Int32), .null, .null]) dX2_fillBy_19 (by decide) rfl ?_
      exact A_X2_fillBy_83_p21 hl ih z_fuel x1 x2 (z_at M 85 16 x2) (0 : Int32) _ _ h
theorem A_X2_fillBy_83 {l : Launch} (hl : l.stackTraces = false) {Ls d : Nat} {Lm : zML} {x1 : Int32} {M M' : zMM} (h : f_X2_fillBy_83 x1 M = some M') : z_Ct l mX2_fillBy (d + 1) 0 0 [.ref 83, .int x1] (z_L0 Ls, M, Lm) (.inl none) (z_L0 Ls, M', Lm) := by
  replace h : (  z_bi (f_X7_lowBits x1 M) fun v2 M3 =>
  f_X2_fillBy_83_p5 z_fuel x1 v2 M3) = some M' := h
  refine z_Ct.of hl (by decide) (Nat.le_of_ble_eq_true rfl) rfl ?_
  show z_AW l mX2_fillBy (d + 1) 0 0 0 [.ref 83, .int x1, .null, .null, .null, .null, .null] [] (z_L0 Ls, M, Lm) (.inl none) (z_L0 Ls, M', Lm)
  refine z_iload_n dX2_fillBy_0 rfl ?_
  obtain ⟨v2, M3, c1, h⟩ := z_bi_c h
  refine z_cN (av := [.int x1]) (st := []) lk_X2_91 dX2_fillBy_1 (A_X7_lowBits (d := d + 0) hl c1) rfl rfl (Nat.le_of_ble_eq_true rfl) rfl z_len rfl rfl ?_
  refine z_istore_n (ls' := [.ref 83, .int x1, .int v2, .null, .null, .null, .null]) dX2_fillBy_4 (by decide) rfl ?_
  exact A_X2_fillBy_83_p5 hl z_fuel x1 v2 _ _ h
/-! X5_needOf 53 -/
def f_X5_needOf_53 (x1 : Int32) (x2 : Int32) (M : zMM) : Option (Int32 × zMM) :=
  some ((z_at M 64 16 ((x1 * (4 : Int32)) + x2)), M)
theorem A_X5_needOf_53 {l : Launch} (hl : l.stackTraces = false) {Ls d : Nat} {Lm : zML} {x1 : Int32} {x2 : Int32} {M M' : zMM} {v : Int32} (h : f_X5_needOf_53 x1 x2 M = some (v, M')) : z_Ct l mX5_needOf (d + 1) 0 0 [.ref 53, .int x1, .int x2] (z_L0 Ls, M, Lm) (.inl (some (.int v))) (z_L0 Ls, M', Lm) := by
  replace h : (  some ((z_at M 64 16 ((x1 * (4 : Int32)) + x2)), M)) = some (v, M') := h
  refine z_Ct.of hl (by decide) (Nat.le_of_ble_eq_true rfl) rfl ?_
  show z_AW l mX5_needOf (d + 1) 0 0 0 [.ref 53, .int x1, .int x2] [] (z_L0 Ls, M, Lm) (.inl (some (.int v))) (z_L0 Ls, M', Lm)
  refine z_aload_n dX5_needOf_0 rfl ?_
  refine z_getR (q := 64) fl_X5_42 dX5_needOf_1 en_53 rfl ?_
  refine z_iload_n dX5_needOf_4 rfl ?_
  refine z_ic kc_p4 dX5_needOf_5 ?_
  refine z_imul dX5_needOf_6 ?_
  refine z_iload_n dX5_needOf_7 rfl ?_
  refine z_iadd dX5_needOf_8 ?_
  refine z_cN (av := [.ref 64, .int ((x1 * (4 : Int32)) + x2)]) (st := []) (v := some (.int (z_at M 64 16 ((x1 * (4 : Int32)) + x2)))) lk_X5_81 dX5_needOf_9 (A_X7_at (d := d + 0) hl (by decide) en_64) rfl rfl (Nat.le_of_ble_eq_true rfl) rfl z_len rfl rfl ?_
  cases h
  exact z_rI dX5_needOf_12 rfl
/-! X5_shameOf 53 -/
def f_X5_shameOf_53 (x1 : Int32) (x2 : Int32) (M : zMM) : Option (Int32 × zMM) :=
  some ((z_at M 65 400 ((x1 * (20 : Int32)) + x2)), M)
theorem A_X5_shameOf_53 {l : Launch} (hl : l.stackTraces = false) {Ls d : Nat} {Lm : zML} {x1 : Int32} {x2 : Int32} {M M' : zMM} {v : Int32} (h : f_X5_shameOf_53 x1 x2 M = some (v, M')) : z_Ct l mX5_shameOf (d + 1) 0 0 [.ref 53, .int x1, .int x2] (z_L0 Ls, M, Lm) (.inl (some (.int v))) (z_L0 Ls, M', Lm) := by
  replace h : (  some ((z_at M 65 400 ((x1 * (20 : Int32)) + x2)), M)) = some (v, M') := h
  refine z_Ct.of hl (by decide) (Nat.le_of_ble_eq_true rfl) rfl ?_
  show z_AW l mX5_shameOf (d + 1) 0 0 0 [.ref 53, .int x1, .int x2] [] (z_L0 Ls, M, Lm) (.inl (some (.int v))) (z_L0 Ls, M', Lm)
  refine z_aload_n dX5_shameOf_0 rfl ?_
  refine z_getR (q := 65) fl_X5_45 dX5_shameOf_1 en_53 rfl ?_
  refine z_iload_n dX5_shameOf_4 rfl ?_
  refine z_bp kb_p20 dX5_shameOf_5 ?_
  refine z_imul dX5_shameOf_7 ?_
  refine z_iload_n dX5_shameOf_8 rfl ?_
  refine z_iadd dX5_shameOf_9 ?_
  refine z_cN (av := [.ref 65, .int ((x1 * (20 : Int32)) + x2)]) (st := []) (v := some (.int (z_at M 65 400 ((x1 * (20 : Int32)) + x2)))) lk_X5_81 dX5_shameOf_10 (A_X7_at (d := d + 0) hl (by decide) en_65) rfl rfl (Nat.le_of_ble_eq_true rfl) rfl z_len rfl rfl ?_
  cases h
  exact z_rI dX5_shameOf_13 rfl
/-! X2_useSort 83 -/
def f_X2_useSort_83_p21 : Nat → Int32 → Int32 → Int32 → Int32 → Int32 → Int32 → zMM → Option zMM
  | 0, _, _, _, _, _, _, _ => none
  | n + 1, x1, x2, x3, x4, x5, x6, M =>
  if x4 ≤ x6 then
    if x5 = 0 then
      some M
    else
      z_bv (f_X2_fillBy_83 x4 M) fun M5 =>
      some M5
  else
    z_bi (f_X5_needOf_53 x1 (x2 + x6) M) fun v7 M8 =>
    z_bi (f_X5_shameOf_53 x3 v7 M8) fun v10 M11 =>
    z_bv (some (z_pt M11 86 4 x6 v10)) fun M13 =>
    if x5 = 0 then
      if v10 = (-1 : Int32) then
        f_X2_useSort_83_p21 n x1 x2 x3 x4 (0 : Int32) (x6 + (1 : Int32)) M13
      else
        f_X2_useSort_83_p21 n x1 x2 x3 x4 (1 : Int32) (x6 + (1 : Int32)) M13
    else
      f_X2_useSort_83_p21 n x1 x2 x3 x4 (1 : Int32) (x6 + (1 : Int32)) M13
def f_X2_useSort_83 (x1 : Int32) (x2 : Int32) (x3 : Int32) (M : zMM) : Option zMM :=
  f_X2_useSort_83_p21 z_fuel x1 x2 x3 ((z_at M 63 4 x1) - x2) (0 : Int32) (0 : Int32) M
theorem A_X2_useSort_83_p21 {l : Launch} (hl : l.stackTraces = false) {Ls d : Nat} {Lm : zML} :
    ∀ (n : Nat) (x1 : Int32) (x2 : Int32) (x3 : Int32) (x4 : Int32) (x5 : Int32) (x6 : Int32) (M M' : zMM) , f_X2_useSort_83_p21 n x1 x2 x3 x4 x5 x6 M = some M' → z_AW l mX2_useSort (d + 2) 0 0 21 [.ref 83, .int x1, .int x2, .int x3, .int x4, .int x5, .int x6, .null] [] (z_L0 Ls, M, Lm) (.inl none) (z_L0 Ls, M', Lm) := by
  intro n
  induction n with
  | zero => intro x1 x2 x3 x4 x5 x6 M M' h; cases h
  | succ n ih =>
    intro x1 x2 x3 x4 x5 x6 M M' h
    replace h : (  if x4 ≤ x6 then
    if x5 = 0 then
      some M
    else
      z_bv (f_X2_fillBy_83 x4 M) fun M5 =>
      some M5
  else
    z_bi (f_X5_needOf_53 x1 (x2 + x6) M) fun v7 M8 =>
    z_bi (f_X5_shameOf_53 x3 v7 M8) fun v10 M11 =>
    z_bv (some (z_pt M11 86 4 x6 v10)) fun M13 =>
    if x5 = 0 then
      if v10 = (-1 : Int32) then
        f_X2_useSort_83_p21 n x1 x2 x3 x4 (0 : Int32) (x6 + (1 : Int32)) M13
      else
        f_X2_useSort_83_p21 n x1 x2 x3 x4 (1 : Int32) (x6 + (1 : Int32)) M13
    else
      f_X2_useSort_83_p21 n x1 x2 x3 x4 (1 : Int32) (x6 + (1 : Int32)) M13) = some M' := h
    refine z_iload dX2_useSort_21 rfl ?_
    refine z_iload dX2_useSort_23 rfl ?_
    refine z_icmp_ge (tgt := 85) dX2_useSort_25 rfl (fun g1 => ?_) (fun g1 => ?_)
    · replace h := (if_pos g1).symm.trans h
      refine z_iload dX2_useSort_85 rfl ?_
      refine z_if_eq (tgt := 96) dX2_useSort_87 rfl (fun g2 => ?_) (fun g2 => ?_)
      · replace h := (if_pos g2).symm.trans h
        cases h
        exact z_return dX2_useSort_96 rfl
      · replace h := (if_neg g2).symm.trans h
        refine z_aload_n dX2_useSort_90 rfl ?_
        refine z_iload dX2_useSort_91 rfl ?_
        obtain ⟨M5, c3, h⟩ := z_bv_c h
        refine z_cV (av := [.int x4]) (st := []) lk_X2_87 dX2_useSort_93 (A_X2_fillBy_83 (d := d + 0) hl c3) rfl rfl en_83 rfl (Nat.le_of_ble_eq_true rfl) rfl z_len rfl rfl ?_
        cases h
        exact z_return dX2_useSort_96 rfl
    · replace h := (if_neg g1).symm.trans h
      refine z_aload_n dX2_useSort_28 rfl ?_
      refine z_getR (q := 53) fl_X2_21 dX2_useSort_29 en_83 rfl ?_
      refine z_iload_n dX2_useSort_32 rfl ?_
      refine z_aload_n dX2_useSort_33 rfl ?_
      refine z_getR (q := 53) fl_X2_21 dX2_useSort_34 en_83 rfl ?_
      refine z_iload_n dX2_useSort_37 rfl ?_
      refine z_iload_n dX2_useSort_38 rfl ?_
      refine z_iload dX2_useSort_39 rfl ?_
      refine z_iadd dX2_useSort_41 ?_
      obtain ⟨v7, M8, c6, h⟩ := z_bi_c h
      refine z_cV (av := [.int x1, .int (x2 + x6)]) (st := [.int x3, .ref 53]) lk_X2_80 dX2_useSort_42 (A_X5_needOf_53 (d := d + 0) hl c6) rfl rfl en_53 rfl (Nat.le_of_ble_eq_true rfl) rfl z_len rfl rfl ?_
      obtain ⟨v10, M11, c9, h⟩ := z_bi_c h
      refine z_cV (av := [.int x3, .int v7]) (st := []) lk_X2_84 dX2_useSort_45 (A_X5_shameOf_53 (d := d + 0) hl c9) rfl rfl en_53 rfl (Nat.le_of_ble_eq_true rfl) rfl z_len rfl rfl ?_
      refine z_istore (ls' := [.ref 83, .int x1, .int x2, .int x3, .int x4, .int x5, .int x6, .int v10]) dX2_useSort_48 (by decide) rfl ?_
      refine z_aload_n dX2_useSort_50 rfl ?_
      refine z_getR (q := 86) fl_X2_18 dX2_useSort_51 en_83 rfl ?_
      refine z_iload dX2_useSort_54 rfl ?_
      refine z_iload dX2_useSort_56 rfl ?_
      obtain ⟨M13, c12, h⟩ := z_bv_c h
      refine z_cN (av := [.ref 86, .int x6, .int v10]) (st := []) lk_X2_51 dX2_useSort_58 (z_Ct.to (A_X7_put (d := d + 1) hl (by decide) (by decide) en_86) c12) rfl rfl (Nat.le_of_ble_eq_true rfl) rfl z_len rfl rfl ?_
      refine z_iload dX2_useSort_61 rfl ?_
      refine z_if_ne (tgt := 72) dX2_useSort_63 rfl (fun g14 => ?_) (fun g14 => ?_)
      · replace h := (if_pos g14).symm.trans h
        refine z_iload dX2_useSort_66 rfl ?_
        refine z_ic kc_m1 dX2_useSort_68 ?_
        refine z_icmp_eq (tgt := 76) dX2_useSort_69 rfl (fun g15 => ?_) (fun g15 => ?_)
        · replace h := (if_pos g15).symm.trans h
          refine z_ic kc_p0 dX2_useSort_76 ?_
          refine z_istore (ls' := [.ref 83, .int x1, .int x2, .int x3, .int x4, .int (0 : Int32), .int x6, .int v10]) dX2_useSort_77 (by decide) rfl ?_
          refine z_ii (ls' := [.ref 83, .int x1, .int x2, .int x3, .int x4, .int (0 : Int32), .int (x6 + (1 : Int32)), .int v10]) kc_p1 dX2_useSort_79 rfl (by decide) rfl ?_
          refine z_goto (tgt := 21) dX2_useSort_82 rfl ?_
          refine z_fg (ls' := [.ref 83, .int x1, .int x2, .int x3, .int x4, .int (0 : Int32), .int (x6 + (1 : Int32)), .null]) ⟨Or.inr rfl, Or.inr rfl, Or.inr rfl, Or.inr rfl, Or.inr rfl, Or.inr rfl, Or.inr rfl, Or.inl rfl, trivial⟩ ?_
          exact ih x1 x2 x3 x4 (0 : Int32) (x6 + (1 : Int32)) _ _ h
        · replace h := (if_neg g15).symm.trans h
          refine z_ic kc_p1 dX2_useSort_72 ?_
          refine z_goto (tgt := 77) dX2_useSort_73 rfl ?_
          refine z_istore (ls' := [.ref 83, .int x1, .int x2, .int x3, .int x4, .int (1 : Int32), .int x6, .int v10]) dX2_useSort_77 (by decide) rfl ?_
          refine z_ii (ls' := [.ref 83, .int x1, .int x2, .int x3, .int x4, .int (1 : Int32), .int (x6 + (1 : Int32)), .int v10]) kc_p1 dX2_useSort_79 rfl (by decide) rfl ?_
          refine z_goto (tgt := 21) dX2_useSort_82 rfl ?_
          refine z_fg (ls' := [.ref 83, .int x1, .int x2, .int x3, .int x4, .int (1 : Int32), .int (x6 + (1 : Int32)), .null]) ⟨Or.inr rfl, Or.inr rfl, Or.inr rfl, Or.inr rfl, Or.inr rfl, Or.inr rfl, Or.inr rfl, Or.inl rfl, trivial⟩ ?_
          exact ih x1 x2 x3 x4 (1 : Int32) (x6 + (1 : Int32)) _ _ h
      · replace h := (if_neg g14).symm.trans h
        refine z_ic kc_p1 dX2_useSort_72 ?_
        refine z_goto (tgt := 77) dX2_useSort_73 rfl ?_
        refine z_istore (ls' := [.ref 83, .int x1, .int x2, .int x3, .int x4, .int (1 : Int32), .int x6, .int v10]) dX2_useSort_77 (by decide) rfl ?_
        refine z_ii (ls' := [.ref 83, .int x1, .int x2, .int x3, .int x4, .int (1 : Int32), .int (x6 + (1 : Int32)), .int v10]) kc_p1 dX2_useSort_79 rfl (by decide) rfl ?_
        refine z_goto (tgt := 21) dX2_useSort_82 rfl ?_
        refine z_fg (ls' := [.ref 83, .int x1, .int x2, .int x3, .int x4, .int (1 : Int32), .int (x6 + (1 : Int32)), .null]) ⟨Or.inr rfl, Or.inr rfl, Or.inr rfl, Or.inr rfl, Or.inr rfl, Or.inr rfl, Or.inr rfl, Or.inl rfl, trivial⟩ ?_
        exact ih x1 x2 x3 x4 (1 : Int32) (x6 + (1 : Int32)) _ _ h
theorem A_X2_useSort_83 {l : Launch} (hl : l.stackTraces = false) {Ls d : Nat} {Lm : zML} {x1 : Int32} {x2 : Int32} {x3 : Int32} {M M' : zMM} (h : f_X2_useSort_83 x1 x2 x3 M = some M') : z_Ct l mX2_useSort (d + 2) 0 0 [.ref 83, .int x1, .int x2, .int x3] (z_L0 Ls, M, Lm) (.inl none) (z_L0 Ls, M', Lm) := by
  replace h : (  f_X2_useSort_83_p21 z_fuel x1 x2 x3 ((z_at M 63 4 x1) - x2) (0 : Int32) (0 : Int32) M) = some M' := h
  refine z_Ct.of hl (by decide) (Nat.le_of_ble_eq_true rfl) rfl ?_
  show z_AW l mX2_useSort (d + 2) 0 0 0 [.ref 83, .int x1, .int x2, .int x3, .null, .null, .null, .null] [] (z_L0 Ls, M, Lm) (.inl none) (z_L0 Ls, M', Lm)
  refine z_aload_n dX2_useSort_0 rfl ?_
  refine z_getR (q := 53) fl_X2_21 dX2_useSort_1 en_83 rfl ?_
  refine z_getR (q := 63) fl_X2_70 dX2_useSort_4 en_53 rfl ?_
  refine z_iload_n dX2_useSort_7 rfl ?_
  refine z_cN (av := [.ref 63, .int x1]) (st := []) (v := some (.int (z_at M 63 4 x1))) lk_X2_34 dX2_useSort_8 (A_X7_at (d := d + 1) hl (by decide) en_63) rfl rfl (Nat.le_of_ble_eq_true rfl) rfl z_len rfl rfl ?_
  refine z_iload_n dX2_useSort_11 rfl ?_
  refine z_isub dX2_useSort_12 ?_
  refine z_istore (ls' := [.ref 83, .int x1, .int x2, .int x3, .int ((z_at M 63 4 x1) - x2), .null, .null, .null]) dX2_useSort_13 (by decide) rfl ?_
  refine z_ic kc_p0 dX2_useSort_15 ?_
  refine z_istore (ls' := [.ref 83, .int x1, .int x2, .int x3, .int ((z_at M 63 4 x1) - x2), .int (0 : Int32), .null, .null]) dX2_useSort_16 (by decide) rfl ?_
  refine z_ic kc_p0 dX2_useSort_18 ?_
  refine z_istore (ls' := [.ref 83, .int x1, .int x2, .int x3, .int ((z_at M 63 4 x1) - x2), .int (0 : Int32), .int (0 : Int32), .null]) dX2_useSort_19 (by decide) rfl ?_
  exact A_X2_useSort_83_p21 hl z_fuel x1 x2 x3 ((z_at M 63 4 x1) - x2) (0 : Int32) (0 : Int32) _ _ h
/-! X2_leastPrice 83 -/
def f_X2_leastPrice_83_p80 (x1 : Int32) (x2 : Int32) (x3 : Int32) (x6 : Int32) (M : zMM) : Option (Int32 × zMM) :=
  z_bi (f_X2_withLent_83 ((z_at M 63 4 x1) - x3) x6 (z_at M 57 5 x2) M) fun v8 M9 =>
  some (v8, M9)
def f_X2_leastPrice_83_p20 : Nat → Int32 → Int32 → Int32 → Int32 → Int32 → Int32 → Int32 → zMM → Option (Int32 × zMM)
  | 0, _, _, _, _, _, _, _, _ => none
  | n + 1, x1, x2, x3, x4, x5, x6, x7, M =>
  if (M 53 8) ≤ x7 then
    if x5 = (-1 : Int32) then
      f_X2_leastPrice_83_p80 x1 x2 x3 x6 M
    else
      z_bv (f_X2_useSort_83 x1 x3 x5 M) fun M12 =>
      f_X2_leastPrice_83_p80 x1 x2 x3 x6 M12
  else
    z_bi (f_X7_has x4 x7 M) fun v14 M15 =>
    if v14 = 0 then
      f_X2_leastPrice_83_p20 n x1 x2 x3 x4 x5 x6 (x7 + (1 : Int32)) M15
    else
      z_bv (f_X2_useSort_83 x1 x3 (z_at M15 60 10 x7) M15) fun M19 =>
      f_X2_leastPrice_83_p20 n x1 x2 x3 x4 x5 x6 (x7 + (1 : Int32)) M19
def f_X2_leastPrice_83 (x1 : Int32) (x2 : Int32) (x3 : Int32) (x4 : Int32) (x5 : Int32) (x6 : Int32) (M : zMM) : Option (Int32 × zMM) :=
  z_bv (some (z_fl M 85 0 16 (-1 : Int32))) fun M2 =>
  z_bv (some (z_pt M2 85 16 (0 : Int32) (0 : Int32))) fun M4 =>
  f_X2_leastPrice_83_p20 z_fuel x1 x2 x3 x4 x5 x6 (0 : Int32) M4
theorem A_X2_leastPrice_83_p80 {l : Launch} (hl : l.stackTraces = false) {Ls d : Nat} {Lm : zML} :
    ∀ (x1 : Int32) (x2 : Int32) (x3 : Int32) (x6 : Int32) (M M' : zMM) (v : Int32) , f_X2_leastPrice_83_p80 x1 x2 x3 x6 M = some (v, M') → z_AW l mX2_leastPrice (d + 3) 0 0 80 [.ref 83, .int x1, .int x2, .int x3, .null, .null, .int x6, .null] [] (z_L0 Ls, M, Lm) (.inl (some (.int v))) (z_L0 Ls, M', Lm) := by
  intro x1 x2 x3 x6 M M' v h
  replace h : (  z_bi (f_X2_withLent_83 ((z_at M 63 4 x1) - x3) x6 (z_at M 57 5 x2) M) fun v8 M9 =>
  some (v8, M9)) = some (v, M') := h
  refine z_aload_n dX2_leastPrice_80 rfl ?_
  refine z_aload_n dX2_leastPrice_81 rfl ?_
  refine z_getR (q := 53) fl_X2_21 dX2_leastPrice_82 en_83 rfl ?_
  refine z_getR (q := 63) fl_X2_70 dX2_leastPrice_85 en_53 rfl ?_
  refine z_iload_n dX2_leastPrice_88 rfl ?_
  refine z_cN (av := [.ref 63, .int x1]) (st := [.ref 83]) (v := some (.int (z_at M 63 4 x1))) lk_X2_34 dX2_leastPrice_89 (A_X7_at (d := d + 2) hl (by decide) en_63) rfl rfl (Nat.le_of_ble_eq_true rfl) rfl z_len rfl rfl ?_
  refine z_iload_n dX2_leastPrice_92 rfl ?_
  refine z_isub dX2_leastPrice_93 ?_
  refine z_iload dX2_leastPrice_94 rfl ?_
  refine z_aload_n dX2_leastPrice_96 rfl ?_
  refine z_getR (q := 53) fl_X2_21 dX2_leastPrice_97 en_83 rfl ?_
  refine z_getR (q := 57) fl_X2_73 dX2_leastPrice_100 en_53 rfl ?_
  refine z_iload_n dX2_leastPrice_103 rfl ?_
  refine z_cN (av := [.ref 57, .int x2]) (st := [.int x6, .int ((z_at M 63 4 x1) - x3), .ref 83]) (v := some (.int (z_at M 57 5 x2))) lk_X2_34 dX2_leastPrice_104 (A_X7_at (d := d + 2) hl (by decide) en_57) rfl rfl (Nat.le_of_ble_eq_true rfl) rfl z_len rfl rfl ?_
  obtain ⟨v8, M9, c7, h⟩ := z_bi_c h
  refine z_cV (av := [.int ((z_at M 63 4 x1) - x3), .int x6, .int (z_at M 57 5 x2)]) (st := []) lk_X2_76 dX2_leastPrice_107 (A_X2_withLent_83 (d := d + 1) hl c7) rfl rfl en_83 rfl (Nat.le_of_ble_eq_true rfl) rfl z_len rfl rfl ?_
  cases h
  exact z_rI dX2_leastPrice_110 rfl
theorem A_X2_leastPrice_83_p20 {l : Launch} (hl : l.stackTraces = false) {Ls d : Nat} {Lm : zML} :
    ∀ (n : Nat) (x1 : Int32) (x2 : Int32) (x3 : Int32) (x4 : Int32) (x5 : Int32) (x6 : Int32) (x7 : Int32) (M M' : zMM) (v : Int32) , f_X2_leastPrice_83_p20 n x1 x2 x3 x4 x5 x6 x7 M = some (v, M') → z_AW l mX2_leastPrice (d + 3) 0 0 20 [.ref 83, .int x1, .int x2, .int x3, .int x4, .int x5, .int x6, .int x7] [] (z_L0 Ls, M, Lm) (.inl (some (.int v))) (z_L0 Ls, M', Lm) := by
  intro n
  induction n with
  | zero => intro x1 x2 x3 x4 x5 x6 x7 M M' v h; cases h
  | succ n ih =>
    intro x1 x2 x3 x4 x5 x6 x7 M M' v h
    replace h : (  if (M 53 8) ≤ x7 then
    if x5 = (-1 : Int32) then
      f_X2_leastPrice_83_p80 x1 x2 x3 x6 M
    else
      z_bv (f_X2_useSort_83 x1 x3 x5 M) fun M12 =>
      f_X2_leastPrice_83_p80 x1 x2 x3 x6 M12
  else
    z_bi (f_X7_has x4 x7 M) fun v14 M15 =>
    if v14 = 0 then
      f_X2_leastPrice_83_p20 n x1 x2 x3 x4 x5 x6 (x7 + (1 : Int32)) M15
    else
      z_bv (f_X2_useSort_83 x1 x3 (z_at M15 60 10 x7) M15) fun M19 =>
      f_X2_leastPrice_83_p20 n x1 x2 x3 x4 x5 x6 (x7 + (1 : Int32)) M19) = some (v, M') := h
    refine z_iload dX2_leastPrice_20 rfl ?_
    refine z_aload_n dX2_leastPrice_22 rfl ?_
    refine z_getR (q := 53) fl_X2_21 dX2_leastPrice_23 en_83 rfl ?_
    refine z_gI (v := (M 53 8)) fl_X2_55 dX2_leastPrice_26 en_53 rfl rfl ?_
    refine z_icmp_ge (tgt := 66) dX2_leastPrice_29 rfl (fun g5 => ?_) (fun g5 => ?_)
    · replace h := (if_pos g5).symm.trans h
      refine z_iload dX2_leastPrice_66 rfl ?_
      refine z_ic kc_m1 dX2_leastPrice_68 ?_
      refine z_icmp_eq (tgt := 80) dX2_leastPrice_69 rfl (fun g6 => ?_) (fun g6 => ?_)
      · replace h := (if_pos g6).symm.trans h
        refine z_fg (ls' := [.ref 83, .int x1, .int x2, .int x3, .null, .null, .int x6, .null]) ⟨Or.inr rfl, Or.inr rfl, Or.inr rfl, Or.inr rfl, Or.inl rfl, Or.inl rfl, Or.inr rfl, Or.inl rfl, trivial⟩ ?_
        exact A_X2_leastPrice_83_p80 hl x1 x2 x3 x6 _ _ _ h
      · replace h := (if_neg g6).symm.trans h
        refine z_aload_n dX2_leastPrice_72 rfl ?_
        refine z_iload_n dX2_leastPrice_73 rfl ?_
        refine z_iload_n dX2_leastPrice_74 rfl ?_
        refine z_iload dX2_leastPrice_75 rfl ?_
        obtain ⟨M12, c10, h⟩ := z_bv_c h
        refine z_cV (av := [.int x1, .int x3, .int x5]) (st := []) lk_X2_66 dX2_leastPrice_77 (A_X2_useSort_83 (d := d + 0) hl c10) rfl rfl en_83 rfl (Nat.le_of_ble_eq_true rfl) rfl z_len rfl rfl ?_
        refine z_fg (ls' := [.ref 83, .int x1, .int x2, .int x3, .null, .null, .int x6, .null]) ⟨Or.inr rfl, Or.inr rfl, Or.inr rfl, Or.inr rfl, Or.inl rfl, Or.inl rfl, Or.inr rfl, Or.inl rfl, trivial⟩ ?_
        exact A_X2_leastPrice_83_p80 hl x1 x2 x3 x6 _ _ _ h
    · replace h := (if_neg g5).symm.trans h
      refine z_iload dX2_leastPrice_32 rfl ?_
      refine z_iload dX2_leastPrice_34 rfl ?_
      obtain ⟨v14, M15, c13, h⟩ := z_bi_c h
      refine z_cN (av := [.int x4, .int x7]) (st := []) lk_X2_59 dX2_leastPrice_36 (A_X7_has (d := d + 2) hl c13) rfl rfl (Nat.le_of_ble_eq_true rfl) rfl z_len rfl rfl ?_
      refine z_if_eq (tgt := 60) dX2_leastPrice_39 rfl (fun g16 => ?_) (fun g16 => ?_)
      · replace h := (if_pos g16).symm.trans h
        refine z_ii (ls' := [.ref 83, .int x1, .int x2, .int x3, .int x4, .int x5, .int x6, .int (x7 + (1 : Int32))]) kc_p1 dX2_leastPrice_60 rfl (by decide) rfl ?_
        refine z_goto (tgt := 20) dX2_leastPrice_63 rfl ?_
        exact ih x1 x2 x3 x4 x5 x6 (x7 + (1 : Int32)) _ _ _ h
      · replace h := (if_neg g16).symm.trans h
        refine z_aload_n dX2_leastPrice_42 rfl ?_
        refine z_iload_n dX2_leastPrice_43 rfl ?_
        refine z_iload_n dX2_leastPrice_44 rfl ?_
        refine z_aload_n dX2_leastPrice_45 rfl ?_
        refine z_getR (q := 53) fl_X2_21 dX2_leastPrice_46 en_83 rfl ?_
        refine z_getR (q := 60) fl_X2_63 dX2_leastPrice_49 en_53 rfl ?_
        refine z_iload dX2_leastPrice_52 rfl ?_
        refine z_cN (av := [.ref 60, .int x7]) (st := [.int x3, .int x1, .ref 83]) (v := some (.int (z_at M15 60 10 x7))) lk_X2_34 dX2_leastPrice_54 (A_X7_at (d := d + 2) hl (by decide) en_60) rfl rfl (Nat.le_of_ble_eq_true rfl) rfl z_len rfl rfl ?_
        obtain ⟨M19, c17, h⟩ := z_bv_c h
        refine z_cV (av := [.int x1, .int x3, .int (z_at M15 60 10 x7)]) (st := []) lk_X2_66 dX2_leastPrice_57 (A_X2_useSort_83 (d := d + 0) hl c17) rfl rfl en_83 rfl (Nat.le_of_ble_eq_true rfl) rfl z_len rfl rfl ?_
        refine z_ii (ls' := [.ref 83, .int x1, .int x2, .int x3, .int x4, .int x5, .int x6, .int (x7 + (1 : Int32))]) kc_p1 dX2_leastPrice_60 rfl (by decide) rfl ?_
        refine z_goto (tgt := 20) dX2_leastPrice_63 rfl ?_
        exact ih x1 x2 x3 x4 x5 x6 (x7 + (1 : Int32)) _ _ _ h
theorem A_X2_leastPrice_83 {l : Launch} (hl : l.stackTraces = false) {Ls d : Nat} {Lm : zML} {x1 : Int32} {x2 : Int32} {x3 : Int32} {x4 : Int32} {x5 : Int32} {x6 : Int32} {M M' : zMM} {v : Int32} (h : f_X2_leastPrice_83 x1 x2 x3 x4 x5 x6 M = some (v, M')) : z_Ct l mX2_leastPrice (d + 3) 0 0 [.ref 83, .int x1, .int x2, .int x3, .int x4, .int x5, .int x6] (z_L0 Ls, M, Lm) (.inl (some (.int v))) (z_L0 Ls, M', Lm) := by
  replace h : (  z_bv (some (z_fl M 85 0 16 (-1 : Int32))) fun M2 =>
  z_bv (some (z_pt M2 85 16 (0 : Int32) (0 : Int32))) fun M4 =>
  f_X2_leastPrice_83_p20 z_fuel x1 x2 x3 x4 x5 x6 (0 : Int32) M4) = some (v, M') := h
  refine z_Ct.of hl (by decide) (Nat.le_of_ble_eq_true rfl) rfl ?_
  show z_AW l mX2_leastPrice (d + 3) 0 0 0 [.ref 83, .int x1, .int x2, .int x3, .int x4, .int x5, .int x6, .null] [] (z_L0 Ls, M, Lm) (.inl (some (.int v))) (z_L0 Ls, M', Lm)
  refine z_aload_n dX2_leastPrice_0 rfl ?_
  refine z_getR (q := 85) fl_X2_15 dX2_leastPrice_1 en_83 rfl ?_
  refine z_ic kc_m1 dX2_leastPrice_4 ?_
  obtain ⟨M2, c1, h⟩ := z_bv_c h
  refine z_cS (av := [.ref 85, .int (-1 : Int32)]) (st := []) lk_X2_28 dX2_leastPrice_5 (z_Ct.to (A_J7_fill_53178 (d := d + 2) hl (by decide) (by decide) en_85) c1) rfl rfl (Nat.le_of_ble_eq_true rfl) rfl z_len rfl rfl ?_
  refine z_aload_n dX2_leastPrice_8 rfl ?_
  refine z_getR (q := 85) fl_X2_15 dX2_leastPrice_9 en_83 rfl ?_
  refine z_ic kc_p0 dX2_leastPrice_12 ?_
  refine z_ic kc_p0 dX2_leastPrice_13 ?_
  obtain ⟨M4, c3, h⟩ := z_bv_c h
  refine z_cN (av := [.ref 85, .int (0 : Int32), .int (0 : Int32)]) (st := []) lk_X2_51 dX2_leastPrice_14 (z_Ct.to (A_X7_put (d := d + 2) hl (by decide) (by decide) en_85) c3) rfl rfl (Nat.le_of_ble_eq_true rfl) rfl z_len rfl rfl ?_
  refine z_ic kc_p0 dX2_leastPrice_17 ?_
  refine z_istore (ls' := [.ref 83, .int x1, .int x2, .int x3, .int x4, .int x5, .int x6, .int (0 : Int32)]) dX2_leastPrice_18 (by decide) rfl ?_
  exact A_X2_leastPrice_83_p20 hl z_fuel x1 x2 x3 x4 x5 x6 (0 : Int32) _ _ _ h
/-! X2_byTrunks 83 -/
def f_X2_byTrunks_83 (x1 : Int32) (x2 : Int32) (x3 : Int32) (M : zMM) : Option (Int32 × zMM) :=
  if (z_at M 84 640 ((((x1 * (5 : Int32)) + x2) * (32 : Int32)) + x3)) = (-2 : Int32) then
    z_bi (f_X5_thingsOf_53 x3 M) fun v3 M4 =>
    z_bi (f_X2_leastPrice_83 x1 x2 (0 : Int32) v3 (-1 : Int32) (z_at M4 56 5 x2) M4) fun v6 M7 =>
    z_bv (some (z_pt M7 84 640 ((((x1 * (5 : Int32)) + x2) * (32 : Int32)) + x3) v6)) fun M9 =>
    some (v6, M9)
  else
    some ((z_at M 84 640 ((((x1 * (5 : Int32)) + x2) * (32 : Int32)) + x3)), M)
theorem A_X2_byTrunks_83 {l : Launch} (hl : l.stackTraces = false) {Ls d : Nat} {Lm : zML} {x1 : Int32} {x2 : Int32} {x3 : Int32} {M M' : zMM} {v : Int32} (h : f_X2_byTrunks_83 x1 x2 x3 M = some (v, M')) : z_Ct l mX2_byTrunks (d + 4) 0 0 [.ref 83, .int x1, .int x2, .int x3] (z_L0 Ls, M, Lm) (.inl (some (.int v))) (z_L0 Ls, M', Lm) := by
  replace h : (  if (z_at M 84 640 ((((x1 * (5 : Int32)) + x2) * (32 : Int32)) + x3)) = (-2 : Int32) then
    z_bi (f_X5_thingsOf_53 x3 M) fun v3 M4 =>
    z_bi (f_X2_leastPrice_83 x1 x2 (0 : Int32) v3 (-1 : Int32) (z_at M4 56 5 x2) M4) fun v6 M7 =>
    z_bv (some (z_pt M7 84 640 ((((x1 * (5 : Int32)) + x2) * (32 : Int32)) + x3) v6)) fun M9 =>
    some (v6, M9)
  else
    some ((z_at M 84 640 ((((x1 * (5 : Int32)) + x2) * (32 : Int32)) + x3)), M)) = some (v, M') := h
  refine z_Ct.of hl (by decide) (Nat.le_of_ble_eq_true rfl) rfl ?_
  show z_AW l mX2_byTrunks (d + 4) 0 0 0 [.ref 83, .int x1, .int x2, .int x3, .null, .null] [] (z_L0 Ls, M, Lm) (.inl (some (.int v))) (z_L0 Ls, M', Lm)
  refine z_iload_n dX2_byTrunks_0 rfl ?_
  refine z_ic kc_p5 dX2_byTrunks_1 ?_
  refine z_imul dX2_byTrunks_2 ?_
  refine z_iload_n dX2_byTrunks_3 rfl ?_
  refine z_iadd dX2_byTrunks_4 ?_
  refine z_bp kb_p32 dX2_byTrunks_5 ?_
  refine z_imul dX2_byTrunks_7 ?_
  refine z_iload_n dX2_byTrunks_8 rfl ?_
  refine z_iadd dX2_byTrunks_9 ?_
  refine z_istore (ls' := [.ref 83, .int x1, .int x2, .int x3, .int ((((x1 * (5 : Int32)) + x2) * (32 : Int32)) + x3), .null]) dX2_byTrunks_10 (by decide) rfl ?_
  refine z_aload_n dX2_byTrunks_12 rfl ?_
  refine z_getR (q := 84) fl_X2_9 dX2_byTrunks_13 en_83 rfl ?_
  refine z_iload dX2_byTrunks_16 rfl ?_
  refine z_cN (av := [.ref 84, .int ((((x1 * (5 : Int32)) + x2) * (32 : Int32)) + x3)]) (st := []) (v := some (.int (z_at M 84 640 ((((x1 * (5 : Int32)) + x2) * (32 : Int32)) + x3)))) lk_X2_34 dX2_byTrunks_18 (A_X7_at (d := d + 3) hl (by decide) en_84) rfl rfl (Nat.le_of_ble_eq_true rfl) rfl z_len rfl rfl ?_
  refine z_istore (ls' := [.ref 83, .int x1, .int x2, .int x3, .int ((((x1 * (5 : Int32)) + x2) * (32 : Int32)) + x3), .int (z_at M 84 640 ((((x1 * (5 : Int32)) + x2) * (32 : Int32)) + x3))]) dX2_byTrunks_21 (by decide) rfl ?_
  refine z_iload dX2_byTrunks_23 rfl ?_
  refine z_bp kb_m2 dX2_byTrunks_25 ?_
  refine z_icmp_ne (tgt := 70) dX2_byTrunks_27 rfl (fun g1 => ?_) (fun g1 => ?_)
  · replace h := (if_pos g1).symm.trans h
    refine z_aload_n dX2_byTrunks_30 rfl ?_
    refine z_iload_n dX2_byTrunks_31 rfl ?_
    refine z_iload_n dX2_byTrunks_32 rfl ?_
    refine z_ic kc_p0 dX2_byTrunks_33 ?_
    refine z_aload_n dX2_byTrunks_34 rfl ?_
    refine z_getR (q := 53) fl_X2_21 dX2_byTrunks_35 en_83 rfl ?_
    refine z_iload_n dX2_byTrunks_38 rfl ?_
    obtain ⟨v3, M4, c2, h⟩ := z_bi_c h
    refine z_cV (av := [.int x3]) (st := [.int (0 : Int32), .int x2, .int x1, .ref 83]) lk_X2_38 dX2_byTrunks_39 (A_X5_thingsOf_53 (d := d + 2) hl c2) rfl rfl en_53 rfl (Nat.le_of_ble_eq_true rfl) rfl z_len rfl rfl ?_
    refine z_ic kc_m1 dX2_byTrunks_42 ?_
    refine z_aload_n dX2_byTrunks_43 rfl ?_
    refine z_getR (q := 53) fl_X2_21 dX2_byTrunks_44 en_83 rfl ?_
    refine z_getR (q := 56) fl_X2_44 dX2_byTrunks_47 en_53 rfl ?_
    refine z_iload_n dX2_byTrunks_50 rfl ?_
    refine z_cN (av := [.ref 56, .int x2]) (st := [.int (-1 : Int32), .int v3, .int (0 : Int32), .int x2, .int x1, .ref 83]) (v := some (.int (z_at M4 56 5 x2))) lk_X2_34 dX2_byTrunks_51 (A_X7_at (d := d + 3) hl (by decide) en_56) rfl rfl (Nat.le_of_ble_eq_true rfl) rfl z_len rfl rfl ?_
    obtain ⟨v6, M7, c5, h⟩ := z_bi_c h
    refine z_cV (av := [.int x1, .int x2, .int (0 : Int32), .int v3, .int (-1 : Int32), .int (z_at M4 56 5 x2)]) (st := []) lk_X2_47 dX2_byTrunks_54 (A_X2_leastPrice_83 (d := d + 0) hl c5) rfl rfl en_83 rfl (Nat.le_of_ble_eq_true rfl) rfl z_len rfl rfl ?_
    refine z_istore (ls' := [.ref 83, .int x1, .int x2, .int x3, .int ((((x1 * (5 : Int32)) + x2) * (32 : Int32)) + x3), .int v6]) dX2_byTrunks_57 (by decide) rfl ?_
    refine z_aload_n dX2_byTrunks_59 rfl ?_
    refine z_getR (q := 84) fl_X2_9 dX2_byTrunks_60 en_83 rfl ?_
    refine z_iload dX2_byTrunks_63 rfl ?_
    refine z_iload dX2_byTrunks_65 rfl ?_
    obtain ⟨M9, c8, h⟩ := z_bv_c h
    refine z_cN (av := [.ref 84, .int ((((x1 * (5 : Int32)) + x2) * (32 : Int32)) + x3), .int v6]) (st := []) lk_X2_51 dX2_byTrunks_67 (z_Ct.to (A_X7_put (d := d + 3) hl (by decide) (by decide) en_84) c8) rfl rfl (Nat.le_of_ble_eq_true rfl) rfl z_len rfl rfl ?_
    refine z_iload dX2_byTrunks_70 rfl ?_
    cases h
    exact z_rI dX2_byTrunks_72 rfl
  · replace h := (if_neg g1).symm.trans h
    refine z_iload dX2_byTrunks_70 rfl ?_
    cases h
    exact z_rI dX2_byTrunks_72 rfl
/-! X7_priceOfBoth 51 -/
def f_X7_priceOfBoth_51 (x1 : Int32) (x2 : Int32) (x3 : Int32) (x4 : Int32) (M : zMM) : Option (Int32 × zMM) :=
  if ((z_at M 62 4 x1) + (z_at M 62 4 x3)) ≤ (M 53 16) then
    z_bi (f_X4_trunksIn_87 x2 M) fun v3 M4 =>
    z_bi (f_X2_byTrunks_83 x1 x2 v3 M4) fun v6 M7 =>
    z_bi (f_X4_trunksIn_87 x4 M7) fun v9 M10 =>
    z_bi (f_X2_byTrunks_83 x3 x4 v9 M10) fun v12 M13 =>
    if v6 = (-1 : Int32) then
      some ((-1 : Int32), M13)
    else
      if v12 = (-1 : Int32) then
        some ((-1 : Int32), M13)
      else
        some ((v6 + v12), M13)
  else
    some ((-1 : Int32), M)
theorem A_X7_priceOfBoth_51 {l : Launch} (hl : l.stackTraces = false) {Ls d : Nat} {Lm : zML} {x1 : Int32} {x2 : Int32} {x3 : Int32} {x4 : Int32} {M M' : zMM} {v : Int32} (h : f_X7_priceOfBoth_51 x1 x2 x3 x4 M = some (v, M')) : z_Ct l mX7_priceOfBoth (d + 5) 0 0 [.ref 51, .int x1, .int x2, .int x3, .int x4] (z_L0 Ls, M, Lm) (.inl (some (.int v))) (z_L0 Ls, M', Lm) := by
  replace h : (  if ((z_at M 62 4 x1) + (z_at M 62 4 x3)) ≤ (M 53 16) then
    z_bi (f_X4_trunksIn_87 x2 M) fun v3 M4 =>
    z_bi (f_X2_byTrunks_83 x1 x2 v3 M4) fun v6 M7 =>
    z_bi (f_X4_trunksIn_87 x4 M7) fun v9 M10 =>
    z_bi (f_X2_byTrunks_83 x3 x4 v9 M10) fun v12 M13 =>
    if v6 = (-1 : Int32) then
      some ((-1 : Int32), M13)
    else
      if v12 = (-1 : Int32) then
        some ((-1 : Int32), M13)
      else
        some ((v6 + v12), M13)
  else
    some ((-1 : Int32), M)) = some (v, M') := h
  refine z_Ct.of hl (by decide) (Nat.le_of_ble_eq_true rfl) rfl ?_
  show z_AW l mX7_priceOfBoth (d + 5) 0 0 0 [.ref 51, .int x1, .int x2, .int x3, .int x4, .null, .null] [] (z_L0 Ls, M, Lm) (.inl (some (.int v))) (z_L0 Ls, M', Lm)
  refine z_aload_n dX7_priceOfBoth_0 rfl ?_
  refine z_getR (q := 53) fl_X7_23 dX7_priceOfBoth_1 en_51 rfl ?_
  refine z_getR (q := 62) fl_X7_223 dX7_priceOfBoth_4 en_53 rfl ?_
  refine z_iload_n dX7_priceOfBoth_7 rfl ?_
  refine z_cS (av := [.ref 62, .int x1]) (st := []) (v := some (.int (z_at M 62 4 x1))) lk_X7_153 dX7_priceOfBoth_8 (A_X7_at (d := d + 4) hl (by decide) en_62) rfl rfl (Nat.le_of_ble_eq_true rfl) rfl z_len rfl rfl ?_
  refine z_aload_n dX7_priceOfBoth_11 rfl ?_
  refine z_getR (q := 53) fl_X7_23 dX7_priceOfBoth_12 en_51 rfl ?_
  refine z_getR (q := 62) fl_X7_223 dX7_priceOfBoth_15 en_53 rfl ?_
  refine z_iload_n dX7_priceOfBoth_18 rfl ?_
  refine z_cS (av := [.ref 62, .int x3]) (st := [.int (z_at M 62 4 x1)]) (v := some (.int (z_at M 62 4 x3))) lk_X7_153 dX7_priceOfBoth_19 (A_X7_at (d := d + 4) hl (by decide) en_62) rfl rfl (Nat.le_of_ble_eq_true rfl) rfl z_len rfl rfl ?_
  refine z_iadd dX7_priceOfBoth_22 ?_
  refine z_aload_n dX7_priceOfBoth_23 rfl ?_
  refine z_getR (q := 53) fl_X7_23 dX7_priceOfBoth_24 en_51 rfl ?_
  refine z_gI (v := (M 53 16)) fl_X7_134 dX7_priceOfBoth_27 en_53 rfl rfl ?_
  refine z_icmp_le (tgt := 35) dX7_priceOfBoth_30 rfl (fun g1 => ?_) (fun g1 => ?_)
  · replace h := (if_pos g1).symm.trans h
    refine z_aload_n dX7_priceOfBoth_35 rfl ?_
    refine z_getR (q := 83) fl_X7_51 dX7_priceOfBoth_36 en_51 rfl ?_
    refine z_iload_n dX7_priceOfBoth_39 rfl ?_
    refine z_iload_n dX7_priceOfBoth_40 rfl ?_
    refine z_aload_n dX7_priceOfBoth_41 rfl ?_
    refine z_getR (q := 87) fl_X7_58 dX7_priceOfBoth_42 en_51 rfl ?_
    refine z_iload_n dX7_priceOfBoth_45 rfl ?_
    obtain ⟨v3, M4, c2, h⟩ := z_bi_c h
    refine z_cV (av := [.int x2]) (st := [.int x2, .int x1, .ref 83]) lk_X7_177 dX7_priceOfBoth_46 (A_X4_trunksIn_87 (d := d + 2) hl c2) rfl rfl en_87 rfl (Nat.le_of_ble_eq_true rfl) rfl z_len rfl rfl ?_
    obtain ⟨v6, M7, c5, h⟩ := z_bi_c h
    refine z_cV (av := [.int x1, .int x2, .int v3]) (st := []) lk_X7_226 dX7_priceOfBoth_49 (A_X2_byTrunks_83 (d := d + 0) hl c5) rfl rfl en_83 rfl (Nat.le_of_ble_eq_true rfl) rfl z_len rfl rfl ?_
    refine z_istore (ls' := [.ref 51, .int x1, .int x2, .int x3, .int x4, .int v6, .null]) dX7_priceOfBoth_52 (by decide) rfl ?_
    refine z_aload_n dX7_priceOfBoth_54 rfl ?_
    refine z_getR (q := 83) fl_X7_51 dX7_priceOfBoth_55 en_51 rfl ?_
    refine z_iload_n dX7_priceOfBoth_58 rfl ?_
    refine z_iload dX7_priceOfBoth_59 rfl ?_
    refine z_aload_n dX7_priceOfBoth_61 rfl ?_
    refine z_getR (q := 87) fl_X7_58 dX7_priceOfBoth_62 en_51 rfl ?_
    refine z_iload dX7_priceOfBoth_65 rfl ?_
    obtain ⟨v9, M10, c8, h⟩ := z_bi_c h
    refine z_cV (av := [.int x4]) (st := [.int x4, .int x3, .ref 83]) lk_X7_177 dX7_priceOfBoth_67 (A_X4_trunksIn_87 (d := d + 2) hl c8) rfl rfl en_87 rfl (Nat.le_of_ble_eq_true rfl) rfl z_len rfl rfl ?_
    obtain ⟨v12, M13, c11, h⟩ := z_bi_c h
    refine z_cV (av := [.int x3, .int x4, .int v9]) (st := []) lk_X7_226 dX7_priceOfBoth_70 (A_X2_byTrunks_83 (d := d + 0) hl c11) rfl rfl en_83 rfl (Nat.le_of_ble_eq_true rfl) rfl z_len rfl rfl ?_
    refine z_istore (ls' := [.ref 51, .int x1, .int x2, .int x3, .int x4, .int v6, .int v12]) dX7_priceOfBoth_73 (by decide) rfl ?_
    refine z_iload dX7_priceOfBoth_75 rfl ?_
    refine z_ic kc_m1 dX7_priceOfBoth_77 ?_
    refine z_icmp_eq (tgt := 87) dX7_priceOfBoth_78 rfl (fun g14 => ?_) (fun g14 => ?_)
    · replace h := (if_pos g14).symm.trans h
      refine z_ic kc_m1 dX7_priceOfBoth_87 ?_
      refine z_goto (tgt := 96) dX7_priceOfBoth_88 rfl ?_
      cases h
      exact z_rI dX7_priceOfBoth_96 rfl
    · replace h := (if_neg g14).symm.trans h
      refine z_iload dX7_priceOfBoth_81 rfl ?_
      refine z_ic kc_m1 dX7_priceOfBoth_83 ?_
      refine z_icmp_ne (tgt := 91) dX7_priceOfBoth_84 rfl (fun g15 => ?_) (fun g15 => ?_)
      · replace h := (if_pos g15).symm.trans h
        refine z_ic kc_m1 dX7_priceOfBoth_87 ?_
        refine z_goto (tgt := 96) dX7_priceOfBoth_88 rfl ?_
        cases h
        exact z_rI dX7_priceOfBoth_96 rfl
      · replace h := (if_neg g15).symm.trans h
        refine z_iload dX7_priceOfBoth_91 rfl ?_
        refine z_iload dX7_priceOfBoth_93 rfl ?_
        refine z_iadd dX7_priceOfBoth_95 ?_
        cases h
        exact z_rI dX7_priceOfBoth_96 rfl
  · replace h := (if_neg g1).symm.trans h
    refine z_ic kc_m1 dX7_priceOfBoth_33 ?_
    cases h
    exact z_rI dX7_priceOfBoth_34 rfl
/-! X7_both 51 -/
def f_X7_both_51_p45 (K30 : Int32 → Int32 → Int32 → Int32 → Int32 → Int32 → zMM → Option ((Int32 ⊕ Nat) × zMM)) : Nat → Int32 → Int32 → Int32 → Int32 → Int32 → Int32 → Int32 → zMM → Option ((Int32 ⊕ Nat) × zMM)
  | 0, _, _, _, _, _, _, _, _ => none
  | n + 1, x1, x2, x3, x4, x5, x6, x7, M =>
  if (M 53 11) ≤ x7 then
    K30 x1 x2 x3 x4 x5 (x6 + (1 : Int32)) M
  else
    z_bi (f_X7_priceOfBoth_51 x6 x1 x7 x2 M) fun v18 M19 =>
    z_bi (f_X7_isLess v18 x5 M19) fun v21 M22 =>
    if v21 = 0 then
      f_X7_both_51_p45 K30 n x1 x2 x3 x4 x5 x6 (x7 + (1 : Int32)) M22
    else
      f_X7_both_51_p45 K30 n x1 x2 x3 (((8 : Int32) * x6) + x7) v18 x6 (x7 + (1 : Int32)) M22
def f_X7_both_51_p30 : Nat → Int32 → Int32 → Int32 → Int32 → Int32 → Int32 → zMM → Option ((Int32 ⊕ Nat) × zMM)
  | 0, _, _, _, _, _, _, _ => none
  | n + 1, x1, x2, x3, x4, x5, x6, M =>
  if (M 53 11) ≤ x6 then
    if x3 = 0 then
      some (.inl x4, M)
    else
      some (.inl x5, M)
  else
    f_X7_both_51_p45 (f_X7_both_51_p30 n) z_fuel x1 x2 x3 x4 x5 x6 (0 : Int32) M
def f_X7_both_51 (x1 : Int32) (x2 : Int32) (x3 : Int32) (M : zMM) : Option ((Int32 ⊕ Nat) × zMM) :=
  z_bt (f_X7_checkTown_51 x1 M) fun v2 M3 =>
    z_bt (f_X7_checkTown_51 x2 M3) fun v6 M7 =>
      z_bt (f_X7_checkPair x3 M7) fun v10 M11 =>
        if x1 = x2 then
          some (.inl (-1 : Int32), M11)
        else
          f_X7_both_51_p30 z_fuel x1 x2 x3 (-1 : Int32) (-1 : Int32) (0 : Int32) M11
theorem A_X7_both_51_p45 {l : Launch} (hl : l.stackTraces = false) {Ls d : Nat} {Lm : zML} {K30 : Int32 → Int32 → Int32 → Int32 → Int32 → Int32 → zMM → Option ((Int32 ⊕ Nat) × zMM)}
    (hK30 : ∀ (x1 : Int32) (x2 : Int32) (x3 : Int32) (x4 : Int32) (x5 : Int32) (x6 : Int32) (M M' : zMM) (v : Int32 ⊕ Nat) , K30 x1 x2 x3 x4 x5 x6 M = some (v, M') → z_AW l mX7_both (d + 7) (z_bo v) (6 * z_bo v) 30 [.ref 51, .int x1, .int x2, .int x3, .int x4, .int x5, .int x6, .null, .null] [] (z_L0 Ls, M, Lm) (z_oi v) (z_L0 Ls, M', Lm)) :
    ∀ (n : Nat) (x1 : Int32) (x2 : Int32) (x3 : Int32) (x4 : Int32) (x5 : Int32) (x6 : Int32) (x7 : Int32) (M M' : zMM) (v : Int32 ⊕ Nat) , f_X7_both_51_p45 K30 n x1 x2 x3 x4 x5 x6 x7 M = some (v, M') → z_AW l mX7_both (d + 7) (z_bo v) (6 * z_bo v) 45 [.ref 51, .int x1, .int x2, .int x3, .int x4, .int x5, .int x6, .int x7, .null] [] (z_L0 Ls, M, Lm) (z_oi v) (z_L0 Ls, M', Lm) := by
  intro n
  induction n with
  | zero => intro x1 x2 x3 x4 x5 x6 x7 M M' v h; cases h
  | succ n ih =>
    intro x1 x2 x3 x4 x5 x6 x7 M M' v h
    replace h : (  if (M 53 11) ≤ x7 then
    K30 x1 x2 x3 x4 x5 (x6 + (1 : Int32)) M
  else
    z_bi (f_X7_priceOfBoth_51 x6 x1 x7 x2 M) fun v18 M19 =>
    z_bi (f_X7_isLess v18 x5 M19) fun v21 M22 =>
    if v21 = 0 then
      f_X7_both_51_p45 K30 n x1 x2 x3 x4 x5 x6 (x7 + (1 : Int32)) M22
    else
      f_X7_both_51_p45 K30 n x1 x2 x3 (((8 : Int32) * x6) + x7) v18 x6 (x7 + (1 : Int32)) M22) = some (v, M') := h
    refine z_iload dX7_both_45 rfl ?_
    refine z_aload_n dX7_both_47 rfl ?_
    refine z_getR (q := 53) fl_X7_23 dX7_both_48 en_51 rfl ?_
    refine z_gI (v := (M 53 11)) fl_X7_131 dX7_both_51 en_53 rfl rfl ?_
    refine z_icmp_ge (tgt := 99) dX7_both_54 rfl (fun g16 => ?_) (fun g16 => ?_)
    · replace h := (if_pos g16).symm.trans h
      refine z_ii (ls' := [.ref 51, .int x1, .int x2, .int x3, .int x4, .int x5, .int (x6 + (1 : Int32)), .int x7, .null]) kc_p1 dX7_both_99 rfl (by decide) rfl ?_
      refine z_goto (tgt := 30) dX7_both_102 rfl ?_
      refine z_fg (ls' := [.ref 51, .int x1, .int x2, .int x3, .int x4, .int x5, .int (x6 + (1 : Int32)), .null, .null]) ⟨Or.inr rfl, Or.inr rfl, Or.inr rfl, Or.inr rfl, Or.inr rfl, Or.inr rfl, Or.inr rfl, Or.inl rfl, Or.inl rfl, trivial⟩ ?_
      exact hK30 x1 x2 x3 x4 x5 (x6 + (1 : Int32)) _ _ _ h
    · replace h := (if_neg g16).symm.trans h
      refine z_aload_n dX7_both_57 rfl ?_
      refine z_iload dX7_both_58 rfl ?_
      refine z_iload_n dX7_both_60 rfl ?_
      refine z_iload dX7_both_61 rfl ?_
      refine z_iload_n dX7_both_63 rfl ?_
      obtain ⟨v18, M19, c17, h⟩ := z_bi_c h
      refine z_cV (av := [.int x6, .int x1, .int x7, .int x2]) (st := []) lk_X7_234 dX7_both_64 (A_X7_priceOfBoth_51 (d := d + 1) hl c17) rfl rfl en_51 rfl (Nat.le_of_ble_eq_true rfl) rfl z_len rfl rfl ?_
      refine z_istore (ls' := [.ref 51, .int x1, .int x2, .int x3, .int x4, .int x5, .int x6, .int x7, .int v18]) dX7_both_67 (by decide) rfl ?_
      refine z_iload dX7_both_69 rfl ?_
      refine z_iload dX7_both_71 rfl ?_
      obtain ⟨v21, M22, c20, h⟩ := z_bi_c h
      refine z_cS (av := [.int v18, .int x5]) (st := []) lk_X7_230 dX7_both_73 (A_X7_isLess (d := d + 6) hl c20) rfl rfl (Nat.le_of_ble_eq_true rfl) rfl z_len rfl rfl ?_
      refine z_if_eq (tgt := 93) dX7_both_76 rfl (fun g23 => ?_) (fun g23 => ?_)
      · replace h := (if_pos g23).symm.trans h
        refine z_ii (ls' := [.ref 51, .int x1, .int x2, .int x3, .int x4, .int x5, .int x6, .int (x7 + (1 : Int32)), .int v18]) kc_p1 dX7_both_93 rfl (by decide) rfl ?_
        refine z_goto (tgt := 45) dX7_both_96 rfl ?_
        refine z_fg (ls' := [.ref 51, .int x1, .int x2, .int x3, .int x4, .int x5, .int x6, .int (x7 + (1 : Int32)), .null]) ⟨Or.inr rfl, Or.inr rfl, Or.inr rfl, Or.inr rfl, Or.inr rfl, Or.inr rfl, Or.inr rfl, Or.inr rfl, Or.inl rfl, trivial⟩ ?_
        exact ih x1 x2 x3 x4 x5 x6 (x7 + (1 : Int32)) _ _ _ h
      · replace h := (if_neg g23).symm.trans h
        refine z_iload dX7_both_79 rfl ?_
        refine z_istore (ls' := [.ref 51, .int x1, .int x2, .int x3, .int x4, .int v18, .int x6, .int x7, .int v18]) dX7_both_81 (by decide) rfl ?_
        refine z_bp kb_p8 dX7_both_83 ?_
        refine z_iload dX7_both_85 rfl ?_
        refine z_imul dX7_both_87 ?_
        refine z_iload dX7_both_88 rfl ?_
        refine z_iadd dX7_both_90 ?_
        refine z_istore (ls' := [.ref 51, .int x1, .int x2, .int x3, .int (((8 : Int32) * x6) + x7), .int v18, .int x6, .int x7, .int v18]) dX7_both_91 (by decide) rfl ?_
        refine z_ii (ls' := [.ref 51, .int x1, .int x2, .int x3, .int (((8 : Int32) * x6) + x7), .int v18, .int x6, .int (x7 + (1 : Int32)), .int v18]) kc_p1 dX7_both_93 rfl (by decide) rfl ?_
        refine z_goto (tgt := 45) dX7_both_96 rfl ?_
        refine z_fg (ls' := [.ref 51, .int x1, .int x2, .int x3, .int (((8 : Int32) * x6) + x7), .int v18, .int x6, .int (x7 + (1 : Int32)), .null]) ⟨Or.inr rfl, Or.inr rfl, Or.inr rfl, Or.inr rfl, Or.inr rfl, Or.inr rfl, Or.inr rfl, Or.inr rfl, Or.inl rfl, trivial⟩ ?_
        exact ih x1 x2 x3 (((8 : Int32) * x6) + x7) v18 x6 (x7 + (1 : Int32)) _ _ _ h
theorem A_X7_both_51_p30 {l : Launch} (hl : l.stackTraces = false) {Ls d : Nat} {Lm : zML} :
    ∀ (n : Nat) (x1 : Int32) (x2 : Int32) (x3 : Int32) (x4 : Int32) (x5 : Int32) (x6 : Int32) (M M' : zMM) (v : Int32 ⊕ Nat) , f_X7_both_51_p30 n x1 x2 x3 x4 x5 x6 M = some (v, M') → z_AW l mX7_both (d + 7) (z_bo v) (6 * z_bo v) 30 [.ref 51, .int x1, .int x2, .int x3, .int x4, .int x5, .int x6, .null, .null] [] (z_L0 Ls, M, Lm) (z_oi v) (z_L0 Ls, M', Lm) := by
  intro n
  induction n with
  | zero => intro x1 x2 x3 x4 x5 x6 M M' v h; cases h
  | succ n ih =>
    intro x1 x2 x3 x4 x5 x6 M M' v h
    replace h : (  if (M 53 11) ≤ x6 then
    if x3 = 0 then
      some (.inl x4, M)
    else
      some (.inl x5, M)
  else
    f_X7_both_51_p45 (f_X7_both_51_p30 n) z_fuel x1 x2 x3 x4 x5 x6 (0 : Int32) M) = some (v, M') := h
    refine z_iload dX7_both_30 rfl ?_
    refine z_aload_n dX7_both_32 rfl ?_
    refine z_getR (q := 53) fl_X7_23 dX7_both_33 en_51 rfl ?_
    refine z_gI (v := (M 53 11)) fl_X7_131 dX7_both_36 en_53 rfl rfl ?_
    refine z_icmp_ge (tgt := 105) dX7_both_39 rfl (fun g14 => ?_) (fun g14 => ?_)
    · replace h := (if_pos g14).symm.trans h
      refine z_iload_n dX7_both_105 rfl ?_
      refine z_if_ne (tgt := 114) dX7_both_106 rfl (fun g15 => ?_) (fun g15 => ?_)
      · replace h := (if_pos g15).symm.trans h
        refine z_iload dX7_both_109 rfl ?_
        refine z_goto (tgt := 116) dX7_both_111 rfl ?_
        cases h
        exact z_rI dX7_both_116 rfl
      · replace h := (if_neg g15).symm.trans h
        refine z_iload dX7_both_114 rfl ?_
        cases h
        exact z_rI dX7_both_116 rfl
    · replace h := (if_neg g14).symm.trans h
      refine z_ic kc_p0 dX7_both_42 ?_
      refine z_istore (ls' := [.ref 51, .int x1, .int x2, .int x3, .int x4, .int x5, .int x6, .int (0 : Int32), .null]) dX7_both_43 (by decide) rfl ?_
      exact A_X7_both_51_p45 hl ih z_fuel x1 x2 x3 x4 x5 x6 (0 : Int32) _ _ _ h
theorem A_X7_both_51 {l : Launch} (hl : l.stackTraces = false) {Ls d : Nat} {Lm : zML} {x1 : Int32} {x2 : Int32} {x3 : Int32} {M M' : zMM} {v : Int32 ⊕ Nat} (h : f_X7_both_51 x1 x2 x3 M = some (v, M')) : z_Ct l mX7_both (d + 7) (z_bo v) (6 * z_bo v) [.ref 51, .int x1, .int x2, .int x3] (z_L0 Ls, M, Lm) (z_oi v) (z_L0 Ls, M', Lm) := by
  replace h : (  z_bt (f_X7_checkTown_51 x1 M) fun v2 M3 =>
    z_bt (f_X7_checkTown_51 x2 M3) fun v6 M7 =>
      z_bt (f_X7_checkPair x3 M7) fun v10 M11 =>
        if x1 = x2 then
          some (.inl (-1 : Int32), M11)
        else
          f_X7_both_51_p30 z_fuel x1 x2 x3 (-1 : Int32) (-1 : Int32) (0 : Int32) M11) = some (v, M') := h
  refine z_Ct.of hl (by decide) (Nat.le_of_ble_eq_true rfl) rfl ?_
  show z_AW l mX7_both (d + 7) (z_bo v) (6 * z_bo v) 0 [.ref 51, .int x1, .int x2, .int x3, .null, .null, .null, .null, .null] [] (z_L0 Ls, M, Lm) (z_oi v) (z_L0 Ls, M', Lm)
  refine z_aload_n dX7_both_0 rfl ?_
  refine z_iload_n dX7_both_1 rfl ?_
  rcases z_bt_c h with ⟨v2, M3, c1, h⟩ | ⟨e4, c1, rfl⟩
  · refine z_cV (av := [.int x1]) (st := []) lk_X7_162 dX7_both_2 (z_tv (A_X7_checkTown_51 (d := d + 0) hl c1)) rfl rfl en_51 rfl (Nat.le_of_ble_eq_true rfl) rfl z_len rfl rfl ?_
    refine z_aload_n dX7_both_5 rfl ?_
    refine z_iload_n dX7_both_6 rfl ?_
    rcases z_bt_c h with ⟨v6, M7, c5, h⟩ | ⟨e8, c5, rfl⟩
    · refine z_cV (av := [.int x2]) (st := []) lk_X7_162 dX7_both_7 (z_tv (A_X7_checkTown_51 (d := d + 0) hl c5)) rfl rfl en_51 rfl (Nat.le_of_ble_eq_true rfl) rfl z_len rfl rfl ?_
      refine z_iload_n dX7_both_10 rfl ?_
      rcases z_bt_c h with ⟨v10, M11, c9, h⟩ | ⟨e12, c9, rfl⟩
      · refine z_cS (av := [.int x3]) (st := []) lk_X7_220 dX7_both_11 (z_tv (A_X7_checkPair (d := d + 0) hl c9)) rfl rfl (Nat.le_of_ble_eq_true rfl) rfl z_len rfl rfl ?_
        refine z_iload_n dX7_both_14 rfl ?_
        refine z_iload_n dX7_both_15 rfl ?_
        refine z_icmp_ne (tgt := 21) dX7_both_16 rfl (fun g13 => ?_) (fun g13 => ?_)
        · replace h := (if_pos g13).symm.trans h
          refine z_ic kc_m1 dX7_both_19 ?_
          cases h
          exact z_rI dX7_both_20 rfl
        · replace h := (if_neg g13).symm.trans h
          refine z_ic kc_m1 dX7_both_21 ?_
          refine z_istore (ls' := [.ref 51, .int x1, .int x2, .int x3, .int (-1 : Int32), .null, .null, .null, .null]) dX7_both_22 (by decide) rfl ?_
          refine z_ic kc_m1 dX7_both_24 ?_
          refine z_istore (ls' := [.ref 51, .int x1, .int x2, .int x3, .int (-1 : Int32), .int (-1 : Int32), .null, .null, .null]) dX7_both_25 (by decide) rfl ?_
          refine z_ic kc_p0 dX7_both_27 ?_
          refine z_istore (ls' := [.ref 51, .int x1, .int x2, .int x3, .int (-1 : Int32), .int (-1 : Int32), .int (0 : Int32), .null, .null]) dX7_both_28 (by decide) rfl ?_
          exact A_X7_both_51_p30 hl z_fuel x1 x2 x3 (-1 : Int32) (-1 : Int32) (0 : Int32) _ _ _ h
      · exact z_cSx (av := [.int x3]) (st := []) lk_X7_220 dX7_both_11 (A_X7_checkPair (d := d + 0) hl c9) rfl rfl (Nat.le_of_ble_eq_true rfl) rfl z_len rfl rfl (Nat.le_refl _) (Nat.le_refl _)
    · exact z_cVx (av := [.int x2]) (st := []) lk_X7_162 dX7_both_7 (A_X7_checkTown_51 (d := d + 0) hl c5) rfl rfl en_51 rfl (Nat.le_of_ble_eq_true rfl) rfl z_len rfl rfl (Nat.le_refl _) (Nat.le_refl _)
  · exact z_cVx (av := [.int x1]) (st := []) lk_X7_162 dX7_both_2 (A_X7_checkTown_51 (d := d + 0) hl c1) rfl rfl en_51 rfl (Nat.le_of_ble_eq_true rfl) rfl z_len rfl rfl (Nat.le_refl _) (Nat.le_refl _)
/-! X6_span 80 -/
def f_X6_span_80 (x1 : Int32) (x2 : Int32) (M : zMM) : Option (Int32 × zMM) :=
  some ((z_at M 81 25 ((x1 * (5 : Int32)) + x2)), M)
theorem A_X6_span_80 {l : Launch} (hl : l.stackTraces = false) {Ls d : Nat} {Lm : zML} {x1 : Int32} {x2 : Int32} {M M' : zMM} {v : Int32} (h : f_X6_span_80 x1 x2 M = some (v, M')) : z_Ct l mX6_span (d + 1) 0 0 [.ref 80, .int x1, .int x2] (z_L0 Ls, M, Lm) (.inl (some (.int v))) (z_L0 Ls, M', Lm) := by
  replace h : (  some ((z_at M 81 25 ((x1 * (5 : Int32)) + x2)), M)) = some (v, M') := h
  refine z_Ct.of hl (by decide) (Nat.le_of_ble_eq_true rfl) rfl ?_
  show z_AW l mX6_span (d + 1) 0 0 0 [.ref 80, .int x1, .int x2] [] (z_L0 Ls, M, Lm) (.inl (some (.int v))) (z_L0 Ls, M', Lm)
  refine z_aload_n dX6_span_0 rfl ?_
  refine z_getR (q := 81) fl_X6_9 dX6_span_1 en_80 rfl ?_
  refine z_iload_n dX6_span_4 rfl ?_
  refine z_ic kc_p5 dX6_span_5 ?_
  refine z_imul dX6_span_6 ?_
  refine z_iload_n dX6_span_7 rfl ?_
  refine z_iadd dX6_span_8 ?_
  refine z_cN (av := [.ref 81, .int ((x1 * (5 : Int32)) + x2)]) (st := []) (v := some (.int (z_at M 81 25 ((x1 * (5 : Int32)) + x2)))) lk_X6_52 dX6_span_9 (A_X7_at (d := d + 0) hl (by decide) en_81) rfl rfl (Nat.le_of_ble_eq_true rfl) rfl z_len rfl rfl ?_
  cases h
  exact z_rI dX6_span_12 rfl
/-! X5_trainDays 53 -/
def f_X5_trainDays_53 (x1 : Int32) (x2 : Int32) (M : zMM) : Option (Int32 × zMM) :=
  some ((z_at M 58 25 ((x1 * (5 : Int32)) + x2)), M)
theorem A_X5_trainDays_53 {l : Launch} (hl : l.stackTraces = false) {Ls d : Nat} {Lm : zML} {x1 : Int32} {x2 : Int32} {M M' : zMM} {v : Int32} (h : f_X5_trainDays_53 x1 x2 M = some (v, M')) : z_Ct l mX5_trainDays (d + 1) 0 0 [.ref 53, .int x1, .int x2] (z_L0 Ls, M, Lm) (.inl (some (.int v))) (z_L0 Ls, M', Lm) := by
  replace h : (  some ((z_at M 58 25 ((x1 * (5 : Int32)) + x2)), M)) = some (v, M') := h
  refine z_Ct.of hl (by decide) (Nat.le_of_ble_eq_true rfl) rfl ?_
  show z_AW l mX5_trainDays (d + 1) 0 0 0 [.ref 53, .int x1, .int x2] [] (z_L0 Ls, M, Lm) (.inl (some (.int v))) (z_L0 Ls, M', Lm)
  refine z_aload_n dX5_trainDays_0 rfl ?_
  refine z_getR (q := 58) fl_X5_24 dX5_trainDays_1 en_53 rfl ?_
  refine z_iload_n dX5_trainDays_4 rfl ?_
  refine z_ic kc_p5 dX5_trainDays_5 ?_
  refine z_imul dX5_trainDays_6 ?_
  refine z_iload_n dX5_trainDays_7 rfl ?_
  refine z_iadd dX5_trainDays_8 ?_
  refine z_cN (av := [.ref 58, .int ((x1 * (5 : Int32)) + x2)]) (st := []) (v := some (.int (z_at M 58 25 ((x1 * (5 : Int32)) + x2)))) lk_X5_81 dX5_trainDays_9 (A_X7_at (d := d + 0) hl (by decide) en_58) rfl rfl (Nat.le_of_ble_eq_true rfl) rfl z_len rfl rfl ?_
  cases h
  exact z_rI dX5_trainDays_12 rfl
/-! X6_joined  -/
def f_X6_joined (x0 : Int32) (x1 : Int32) (M : zMM) : Option (Int32 × zMM) :=
  if x0 = (-1 : Int32) then
    some ((-1 : Int32), M)
  else
    if x1 = (-1 : Int32) then
      some ((-1 : Int32), M)
    else
      some ((x0 + x1), M)
theorem A_X6_joined {l : Launch} (hl : l.stackTraces = false) {Ls d : Nat} {Lm : zML} {x0 : Int32} {x1 : Int32} {M M' : zMM} {v : Int32} (h : f_X6_joined x0 x1 M = some (v, M')) : z_Ct l mX6_joined (d + 0) 0 0 [.int x0, .int x1] (z_L0 Ls, M, Lm) (.inl (some (.int v))) (z_L0 Ls, M', Lm) := by
  replace h : (  if x0 = (-1 : Int32) then
    some ((-1 : Int32), M)
  else
    if x1 = (-1 : Int32) then
      some ((-1 : Int32), M)
    else
      some ((x0 + x1), M)) = some (v, M') := h
  refine z_Ct.of hl (by decide) (Nat.le_of_ble_eq_true rfl) rfl ?_
  show z_AW l mX6_joined (d + 0) 0 0 0 [.int x0, .int x1] [] (z_L0 Ls, M, Lm) (.inl (some (.int v))) (z_L0 Ls, M', Lm)
  refine z_iload_n dX6_joined_0 rfl ?_
  refine z_ic kc_m1 dX6_joined_1 ?_
  refine z_icmp_eq (tgt := 10) dX6_joined_2 rfl (fun g1 => ?_) (fun g1 => ?_)
  · replace h := (if_pos g1).symm.trans h
    refine z_ic kc_m1 dX6_joined_10 ?_
    refine z_goto (tgt := 17) dX6_joined_11 rfl ?_
    cases h
    exact z_rI dX6_joined_17 rfl
  · replace h := (if_neg g1).symm.trans h
    refine z_iload_n dX6_joined_5 rfl ?_
    refine z_ic kc_m1 dX6_joined_6 ?_
    refine z_icmp_ne (tgt := 14) dX6_joined_7 rfl (fun g2 => ?_) (fun g2 => ?_)
    · replace h := (if_pos g2).symm.trans h
      refine z_ic kc_m1 dX6_joined_10 ?_
      refine z_goto (tgt := 17) dX6_joined_11 rfl ?_
      cases h
      exact z_rI dX6_joined_17 rfl
    · replace h := (if_neg g2).symm.trans h
      refine z_iload_n dX6_joined_14 rfl ?_
      refine z_iload_n dX6_joined_15 rfl ?_
      refine z_iadd dX6_joined_16 ?_
      cases h
      exact z_rI dX6_joined_17 rfl
/-! X6_nextStop 80 -/
def f_X6_nextStop_80_p2 : Nat → Int32 → Int32 → Int32 → zMM → Option (Int32 × zMM)
  | 0, _, _, _, _ => none
  | n + 1, x1, x2, x3, M =>
  if (M 53 0) ≤ x3 then
    some (x2, M)
  else
    z_bi (f_X5_trainDays_53 x1 x3 M) fun v3 M4 =>
    z_bi (f_X6_span_80 x3 x2 M4) fun v6 M7 =>
    z_bi (f_X6_joined v3 v6 M7) fun v9 M10 =>
    if v9 = (-1 : Int32) then
      f_X6_nextStop_80_p2 n x1 x2 (x3 + (1 : Int32)) M10
    else
      z_bi (f_X6_span_80 x1 x2 M10) fun v13 M14 =>
      if v9 = v13 then
        some (x3, M14)
      else
        f_X6_nextStop_80_p2 n x1 x2 (x3 + (1 : Int32)) M14
def f_X6_nextStop_80 (x1 : Int32) (x2 : Int32) (M : zMM) : Option (Int32 × zMM) :=
  f_X6_nextStop_80_p2 z_fuel x1 x2 (0 : Int32) M
theorem A_X6_nextStop_80_p2 {l : Launch} (hl : l.stackTraces = false) {Ls d : Nat} {Lm : zML} :
    ∀ (n : Nat) (x1 : Int32) (x2 : Int32) (x3 : Int32) (M M' : zMM) (v : Int32) , f_X6_nextStop_80_p2 n x1 x2 x3 M = some (v, M') → z_AW l mX6_nextStop (d + 2) 0 0 2 [.ref 80, .int x1, .int x2, .int x3, .null] [] (z_L0 Ls, M, Lm) (.inl (some (.int v))) (z_L0 Ls, M', Lm) := by
  intro n
  induction n with
  | zero => intro x1 x2 x3 M M' v h; cases h
  | succ n ih =>
    intro x1 x2 x3 M M' v h
    replace h : (  if (M 53 0) ≤ x3 then
    some (x2, M)
  else
    z_bi (f_X5_trainDays_53 x1 x3 M) fun v3 M4 =>
    z_bi (f_X6_span_80 x3 x2 M4) fun v6 M7 =>
    z_bi (f_X6_joined v3 v6 M7) fun v9 M10 =>
    if v9 = (-1 : Int32) then
      f_X6_nextStop_80_p2 n x1 x2 (x3 + (1 : Int32)) M10
    else
      z_bi (f_X6_span_80 x1 x2 M10) fun v13 M14 =>
      if v9 = v13 then
        some (x3, M14)
      else
        f_X6_nextStop_80_p2 n x1 x2 (x3 + (1 : Int32)) M14) = some (v, M') := h
    refine z_iload_n dX6_nextStop_2 rfl ?_
    refine z_aload_n dX6_nextStop_3 rfl ?_
    refine z_getR (q := 53) fl_X6_18 dX6_nextStop_4 en_80 rfl ?_
    refine z_gI (v := (M 53 0)) fl_X6_59 dX6_nextStop_7 en_53 rfl rfl ?_
    refine z_icmp_ge (tgt := 58) dX6_nextStop_10 rfl (fun g1 => ?_) (fun g1 => ?_)
    · replace h := (if_pos g1).symm.trans h
      refine z_iload_n dX6_nextStop_58 rfl ?_
      cases h
      exact z_rI dX6_nextStop_59 rfl
    · replace h := (if_neg g1).symm.trans h
      refine z_aload_n dX6_nextStop_13 rfl ?_
      refine z_getR (q := 53) fl_X6_18 dX6_nextStop_14 en_80 rfl ?_
      refine z_iload_n dX6_nextStop_17 rfl ?_
      refine z_iload_n dX6_nextStop_18 rfl ?_
      obtain ⟨v3, M4, c2, h⟩ := z_bi_c h
      refine z_cV (av := [.int x1, .int x3]) (st := []) lk_X6_63 dX6_nextStop_19 (A_X5_trainDays_53 (d := d + 0) hl c2) rfl rfl en_53 rfl (Nat.le_of_ble_eq_true rfl) rfl z_len rfl rfl ?_
      refine z_aload_n dX6_nextStop_22 rfl ?_
      refine z_iload_n dX6_nextStop_23 rfl ?_
      refine z_iload_n dX6_nextStop_24 rfl ?_
      obtain ⟨v6, M7, c5, h⟩ := z_bi_c h
      refine z_cV (av := [.int x3, .int x2]) (st := [.int v3]) lk_X6_41 dX6_nextStop_25 (A_X6_span_80 (d := d + 0) hl c5) rfl rfl en_80 rfl (Nat.le_of_ble_eq_true rfl) rfl z_len rfl rfl ?_
      obtain ⟨v9, M10, c8, h⟩ := z_bi_c h
      refine z_cS (av := [.int v3, .int v6]) (st := []) lk_X6_45 dX6_nextStop_28 (A_X6_joined (d := d + 1) hl c8) rfl rfl (Nat.le_of_ble_eq_true rfl) rfl z_len rfl rfl ?_
      refine z_istore (ls' := [.ref 80, .int x1, .int x2, .int x3, .int v9]) dX6_nextStop_31 (by decide) rfl ?_
      refine z_iload dX6_nextStop_33 rfl ?_
      refine z_ic kc_m1 dX6_nextStop_35 ?_
      refine z_icmp_eq (tgt := 52) dX6_nextStop_36 rfl (fun g11 => ?_) (fun g11 => ?_)
      · replace h := (if_pos g11).symm.trans h
        refine z_ii (ls' := [.ref 80, .int x1, .int x2, .int (x3 + (1 : Int32)), .int v9]) kc_p1 dX6_nextStop_52 rfl (by decide) rfl ?_
        refine z_goto (tgt := 2) dX6_nextStop_55 rfl ?_
        refine z_fg (ls' := [.ref 80, .int x1, .int x2, .int (x3 + (1 : Int32)), .null]) ⟨Or.inr rfl, Or.inr rfl, Or.inr rfl, Or.inr rfl, Or.inl rfl, trivial⟩ ?_
        exact ih x1 x2 (x3 + (1 : Int32)) _ _ _ h
      · replace h := (if_neg g11).symm.trans h
        refine z_iload dX6_nextStop_39 rfl ?_
        refine z_aload_n dX6_nextStop_41 rfl ?_
        refine z_iload_n dX6_nextStop_42 rfl ?_
        refine z_iload_n dX6_nextStop_43 rfl ?_
        obtain ⟨v13, M14, c12, h⟩ := z_bi_c h
        refine z_cV (av := [.int x1, .int x2]) (st := [.int v9]) lk_X6_41 dX6_nextStop_44 (A_X6_span_80 (d := d + 0) hl c12) rfl rfl en_80 rfl (Nat.le_of_ble_eq_true rfl) rfl z_len rfl rfl ?_
        refine z_icmp_ne (tgt := 52) dX6_nextStop_47 rfl (fun g15 => ?_) (fun g15 => ?_)
        · replace h := (if_pos g15).symm.trans h
          refine z_iload_n dX6_nextStop_50 rfl ?_
          cases h
          exact z_rI dX6_nextStop_51 rfl
        · replace h := (if_neg g15).symm.trans h
          refine z_ii (ls' := [.ref 80, .int x1, .int x2, .int (x3 + (1 : Int32)), .int v9]) kc_p1 dX6_nextStop_52 rfl (by decide) rfl ?_
          refine z_goto (tgt := 2) dX6_nextStop_55 rfl ?_
          refine z_fg (ls' := [.ref 80, .int x1, .int x2, .int (x3 + (1 : Int32)), .null]) ⟨Or.inr rfl, Or.inr rfl, Or.inr rfl, Or.inr rfl, Or.inl rfl, trivial⟩ ?_
          exact ih x1 x2 (x3 + (1 : Int32)) _ _ _ h
theorem A_X6_nextStop_80 {l : Launch} (hl : l.stackTraces = false) {Ls d : Nat} {Lm : zML} {x1 : Int32} {x2 : Int32} {M M' : zMM} {v : Int32} (h : f_X6_nextStop_80 x1 x2 M = some (v, M')) : z_Ct l mX6_nextStop (d + 2) 0 0 [.ref 80, .int x1, .int x2] (z_L0 Ls, M, Lm) (.inl (some (.int v))) (z_L0 Ls, M', Lm) := by
  replace h : (  f_X6_nextStop_80_p2 z_fuel x1 x2 (0 : Int32) M) = some (v, M') := h
  refine z_Ct.of hl (by decide) (Nat.le_of_ble_eq_true rfl) rfl ?_
  show z_AW l mX6_nextStop (d + 2) 0 0 0 [.ref 80, .int x1, .int x2, .null, .null] [] (z_L0 Ls, M, Lm) (.inl (some (.int v))) (z_L0 Ls, M', Lm)
  refine z_ic kc_p0 dX6_nextStop_0 ?_
  refine z_istore_n (ls' := [.ref 80, .int x1, .int x2, .int (0 : Int32), .null]) dX6_nextStop_1 (by decide) rfl ?_
  exact A_X6_nextStop_80_p2 hl z_fuel x1 x2 (0 : Int32) _ _ _ h
/-! X6_lay 80 -/
def f_X6_lay_80_p26 : Nat → Int32 → Int32 → Int32 → zMM → Option (Int32 × zMM)
  | 0, _, _, _, _ => none
  | n + 1, x2, x3, x4, M =>
  if x3 = x2 then
    some (x4, M)
  else
    if (4 : Int32) ≤ x4 then
      some (x4, M)
    else
      z_bi (f_X6_nextStop_80 x3 x2 M) fun v10 M11 =>
      z_bv (some (z_pt M11 82 5 (x4 + (1 : Int32)) v10)) fun M13 =>
      f_X6_lay_80_p26 n x2 v10 (x4 + (1 : Int32)) M13
def f_X6_lay_80 (x1 : Int32) (x2 : Int32) (M : zMM) : Option (Int32 × zMM) :=
  z_bi (f_X6_span_80 x1 x2 M) fun v2 M3 =>
  if v2 = (-1 : Int32) then
    some ((-1 : Int32), M3)
  else
    z_bv (some (z_pt M3 82 5 (0 : Int32) x1)) fun M6 =>
    f_X6_lay_80_p26 z_fuel x2 x1 (0 : Int32) M6
theorem A_X6_lay_80_p26 {l : Launch} (hl : l.stackTraces = false) {Ls d : Nat} {Lm : zML} :
    ∀ (n : Nat) (x2 : Int32) (x3 : Int32) (x4 : Int32) (M M' : zMM) (v : Int32) , f_X6_lay_80_p26 n x2 x3 x4 M = some (v, M') → z_AW l mX6_lay (d + 3) 0 0 26 [.ref 80, .null, .int x2, .int x3, .int x4] [] (z_L0 Ls, M, Lm) (.inl (some (.int v))) (z_L0 Ls, M', Lm) := by
  intro n
  induction n with
  | zero => intro x2 x3 x4 M M' v h; cases h
  | succ n ih =>
    intro x2 x3 x4 M M' v h
    replace h : (  if x3 = x2 then
    some (x4, M)
  else
    if (4 : Int32) ≤ x4 then
      some (x4, M)
    else
      z_bi (f_X6_nextStop_80 x3 x2 M) fun v10 M11 =>
      z_bv (some (z_pt M11 82 5 (x4 + (1 : Int32)) v10)) fun M13 =>
      f_X6_lay_80_p26 n x2 v10 (x4 + (1 : Int32)) M13) = some (v, M') := h
    refine z_iload_n dX6_lay_26 rfl ?_
    refine z_iload_n dX6_lay_27 rfl ?_
    refine z_icmp_eq (tgt := 60) dX6_lay_28 rfl (fun g7 => ?_) (fun g7 => ?_)
    · replace h := (if_pos g7).symm.trans h
      refine z_iload dX6_lay_60 rfl ?_
      cases h
      exact z_rI dX6_lay_62 rfl
    · replace h := (if_neg g7).symm.trans h
      refine z_iload dX6_lay_31 rfl ?_
      refine z_ic kc_p4 dX6_lay_33 ?_
      refine z_icmp_ge (tgt := 60) dX6_lay_34 rfl (fun g8 => ?_) (fun g8 => ?_)
      · replace h := (if_pos g8).symm.trans h
        refine z_iload dX6_lay_60 rfl ?_
        cases h
        exact z_rI dX6_lay_62 rfl
      · replace h := (if_neg g8).symm.trans h
        refine z_aload_n dX6_lay_37 rfl ?_
        refine z_iload_n dX6_lay_38 rfl ?_
        refine z_iload_n dX6_lay_39 rfl ?_
        obtain ⟨v10, M11, c9, h⟩ := z_bi_c h
        refine z_cV (av := [.int x3, .int x2]) (st := []) lk_X6_56 dX6_lay_40 (A_X6_nextStop_80 (d := d + 0) hl c9) rfl rfl en_80 rfl (Nat.le_of_ble_eq_true rfl) rfl z_len rfl rfl ?_
        refine z_istore_n (ls' := [.ref 80, .null, .int x2, .int v10, .int x4]) dX6_lay_43 (by decide) rfl ?_
        refine z_ii (ls' := [.ref 80, .null, .int x2, .int v10, .int (x4 + (1 : Int32))]) kc_p1 dX6_lay_44 rfl (by decide) rfl ?_
        refine z_aload_n dX6_lay_47 rfl ?_
        refine z_getR (q := 82) fl_X6_15 dX6_lay_48 en_80 rfl ?_
        refine z_iload dX6_lay_51 rfl ?_
        refine z_iload_n dX6_lay_53 rfl ?_
        obtain ⟨M13, c12, h⟩ := z_bv_c h
        refine z_cN (av := [.ref 82, .int (x4 + (1 : Int32)), .int v10]) (st := []) lk_X6_37 dX6_lay_54 (z_Ct.to (A_X7_put (d := d + 2) hl (by decide) (by decide) en_82) c12) rfl rfl (Nat.le_of_ble_eq_true rfl) rfl z_len rfl rfl ?_
        refine z_goto (tgt := 26) dX6_lay_57 rfl ?_
        exact ih x2 v10 (x4 + (1 : Int32)) _ _ _ h
theorem A_X6_lay_80 {l : Launch} (hl : l.stackTraces = false) {Ls d : Nat} {Lm : zML} {x1 : Int32} {x2 : Int32} {M M' : zMM} {v : Int32} (h : f_X6_lay_80 x1 x2 M = some (v, M')) : z_Ct l mX6_lay (d + 3) 0 0 [.ref 80, .int x1, .int x2] (z_L0 Ls, M, Lm) (.inl (some (.int v))) (z_L0 Ls, M', Lm) := by
  replace h : (  z_bi (f_X6_span_80 x1 x2 M) fun v2 M3 =>
  if v2 = (-1 : Int32) then
    some ((-1 : Int32), M3)
  else
    z_bv (some (z_pt M3 82 5 (0 : Int32) x1)) fun M6 =>
    f_X6_lay_80_p26 z_fuel x2 x1 (0 : Int32) M6) = some (v, M') := h
  refine z_Ct.of hl (by decide) (Nat.le_of_ble_eq_true rfl) rfl ?_
  show z_AW l mX6_lay (d + 3) 0 0 0 [.ref 80, .int x1, .int x2, .null, .null] [] (z_L0 Ls, M, Lm) (.inl (some (.int v))) (z_L0 Ls, M', Lm)
  refine z_aload_n dX6_lay_0 rfl ?_
  refine z_iload_n dX6_lay_1 rfl ?_
  refine z_iload_n dX6_lay_2 rfl ?_
  obtain ⟨v2, M3, c1, h⟩ := z_bi_c h
  refine z_cV (av := [.int x1, .int x2]) (st := []) lk_X6_41 dX6_lay_3 (A_X6_span_80 (d := d + 1) hl c1) rfl rfl en_80 rfl (Nat.le_of_ble_eq_true rfl) rfl z_len rfl rfl ?_
  refine z_ic kc_m1 dX6_lay_6 ?_
  refine z_icmp_ne (tgt := 12) dX6_lay_7 rfl (fun g4 => ?_) (fun g4 => ?_)
  · replace h := (if_pos g4).symm.trans h
    refine z_ic kc_m1 dX6_lay_10 ?_
    cases h
    exact z_rI dX6_lay_11 rfl
  · replace h := (if_neg g4).symm.trans h
    refine z_aload_n dX6_lay_12 rfl ?_
    refine z_getR (q := 82) fl_X6_15 dX6_lay_13 en_80 rfl ?_
    refine z_ic kc_p0 dX6_lay_16 ?_
    refine z_iload_n dX6_lay_17 rfl ?_
    obtain ⟨M6, c5, h⟩ := z_bv_c h
    refine z_cN (av := [.ref 82, .int (0 : Int32), .int x1]) (st := []) lk_X6_37 dX6_lay_18 (z_Ct.to (A_X7_put (d := d + 2) hl (by decide) (by decide) en_82) c5) rfl rfl (Nat.le_of_ble_eq_true rfl) rfl z_len rfl rfl ?_
    refine z_iload_n dX6_lay_21 rfl ?_
    refine z_istore_n (ls' := [.ref 80, .int x1, .int x2, .int x1, .null]) dX6_lay_22 (by decide) rfl ?_
    refine z_ic kc_p0 dX6_lay_23 ?_
    refine z_istore (ls' := [.ref 80, .int x1, .int x2, .int x1, .int (0 : Int32)]) dX6_lay_24 (by decide) rfl ?_
    refine z_fg (ls' := [.ref 80, .null, .int x2, .int x1, .int (0 : Int32)]) ⟨Or.inr rfl, Or.inl rfl, Or.inr rfl, Or.inr rfl, Or.inr rfl, trivial⟩ ?_
    exact A_X6_lay_80_p26 hl z_fuel x2 x1 (0 : Int32) _ _ _ h
/-! X7_clerksOf 51 -/
def f_X7_clerksOf_51 (x1 : Int32) (x2 : Int32) (M : zMM) : Option ((Int32 ⊕ Nat) × zMM) :=
  z_bt (f_X7_checkTown_51 x1 M) fun v2 M3 =>
    z_bt (f_X7_checkTown_51 x2 M3) fun v6 M7 =>
      z_bi (f_X6_lay_80 x1 x2 M7) fun v10 M11 =>
      if v10 = (-1 : Int32) then
        some (.inr 0, M11)
      else
        some (.inl v10, M11)
theorem A_X7_clerksOf_51 {l : Launch} (hl : l.stackTraces = false) {Ls d : Nat} {Lm : zML} {x1 : Int32} {x2 : Int32} {M M' : zMM} {v : Int32 ⊕ Nat} (h : f_X7_clerksOf_51 x1 x2 M = some (v, M')) : z_Ct l mX7_clerksOf (d + 7) (z_bo v) (6 * z_bo v) [.ref 51, .int x1, .int x2] (z_L0 Ls, M, Lm) (z_oi v) (z_L0 Ls, M', Lm) := by
  replace h : (  z_bt (f_X7_checkTown_51 x1 M) fun v2 M3 =>
    z_bt (f_X7_checkTown_51 x2 M3) fun v6 M7 =>
      z_bi (f_X6_lay_80 x1 x2 M7) fun v10 M11 =>
      if v10 = (-1 : Int32) then
        some (.inr 0, M11)
      else
        some (.inl v10, M11)) = some (v, M') := h
  refine z_Ct.of hl (by decide) (Nat.le_of_ble_eq_true rfl) rfl ?_
  show z_AW l mX7_clerksOf (d + 7) (z_bo v) (6 * z_bo v) 0 [.ref 51, .int x1, .int x2, .null] [] (z_L0 Ls, M, Lm) (z_oi v) (z_L0 Ls, M', Lm)
  refine z_aload_n dX7_clerksOf_0 rfl ?_
  refine z_iload_n dX7_clerksOf_1 rfl ?_
  rcases z_bt_c h with ⟨v2, M3, c1, h⟩ | ⟨e4, c1, rfl⟩
  · refine z_cV (av := [.int x1]) (st := []) lk_X7_162 dX7_clerksOf_2 (z_tv (A_X7_checkTown_51 (d := d + 0) hl c1)) rfl rfl en_51 rfl (Nat.le_of_ble_eq_true rfl) rfl z_len rfl rfl ?_
    refine z_aload_n dX7_clerksOf_5 rfl ?_
    refine z_iload_n dX7_clerksOf_6 rfl ?_
    rcases z_bt_c h with ⟨v6, M7, c5, h⟩ | ⟨e8, c5, rfl⟩
    · refine z_cV (av := [.int x2]) (st := []) lk_X7_162 dX7_clerksOf_7 (z_tv (A_X7_checkTown_51 (d := d + 0) hl c5)) rfl rfl en_51 rfl (Nat.le_of_ble_eq_true rfl) rfl z_len rfl rfl ?_
      refine z_aload_n dX7_clerksOf_10 rfl ?_
      refine z_getR (q := 80) fl_X7_44 dX7_clerksOf_11 en_51 rfl ?_
      refine z_iload_n dX7_clerksOf_14 rfl ?_
      refine z_iload_n dX7_clerksOf_15 rfl ?_
      obtain ⟨v10, M11, c9, h⟩ := z_bi_c h
      refine z_cV (av := [.int x1, .int x2]) (st := []) lk_X7_276 dX7_clerksOf_16 (A_X6_lay_80 (d := d + 3) hl c9) rfl rfl en_80 rfl (Nat.le_of_ble_eq_true rfl) rfl z_len rfl rfl ?_
      refine z_istore_n (ls' := [.ref 51, .int x1, .int x2, .int v10]) dX7_clerksOf_19 (by decide) rfl ?_
      refine z_iload_n dX7_clerksOf_20 rfl ?_
      refine z_ic kc_m1 dX7_clerksOf_21 ?_
      refine z_icmp_ne (tgt := 36) dX7_clerksOf_22 rfl (fun g12 => ?_) (fun g12 => ?_)
      · replace h := (if_pos g12).symm.trans h
        cases h
        exact z_throwW (text := "no way") z_tpN (by decide +kernel) rfl (by omega) (Nat.le_of_ble_eq_true rfl) (Nat.le_refl _) (Nat.le_refl _) dX7_clerksOf_25 dX7_clerksOf_28 dX7_clerksOf_29 dX7_clerksOf_32 dX7_clerksOf_35
      · replace h := (if_neg g12).symm.trans h
        refine z_iload_n dX7_clerksOf_36 rfl ?_
        cases h
        exact z_rI dX7_clerksOf_37 rfl
    · exact z_cVx (av := [.int x2]) (st := []) lk_X7_162 dX7_clerksOf_7 (A_X7_checkTown_51 (d := d + 0) hl c5) rfl rfl en_51 rfl (Nat.le_of_ble_eq_true rfl) rfl z_len rfl rfl (Nat.le_refl _) (Nat.le_refl _)
  · exact z_cVx (av := [.int x1]) (st := []) lk_X7_162 dX7_clerksOf_2 (A_X7_checkTown_51 (d := d + 0) hl c1) rfl rfl en_51 rfl (Nat.le_of_ble_eq_true rfl) rfl z_len rfl rfl (Nat.le_refl _) (Nat.le_refl _)
/-! X7_checkClerk  -/
def f_X7_checkClerk (x0 : Int32) (x1 : Int32) (M : zMM) : Option ((Unit ⊕ Nat) × zMM) :=
  if x0 < 0 then
    some (.inr 0, M)
  else
    if x0 < x1 then
      some (.inl (), M)
    else
      some (.inr 0, M)
theorem A_X7_checkClerk {l : Launch} (hl : l.stackTraces = false) {Ls d : Nat} {Lm : zML} {x0 : Int32} {x1 : Int32} {M M' : zMM} {v : Unit ⊕ Nat} (h : f_X7_checkClerk x0 x1 M = some (v, M')) : z_Ct l mX7_checkClerk (d + 6) (z_bo v) (6 * z_bo v) [.int x0, .int x1] (z_L0 Ls, M, Lm) (z_ov v) (z_L0 Ls, M', Lm) := by
  replace h : (  if x0 < 0 then
    some (.inr 0, M)
  else
    if x0 < x1 then
      some (.inl (), M)
    else
      some (.inr 0, M)) = some (v, M') := h
  refine z_Ct.of hl (by decide) (Nat.le_of_ble_eq_true rfl) rfl ?_
  show z_AW l mX7_checkClerk (d + 6) (z_bo v) (6 * z_bo v) 0 [.int x0, .int x1] [] (z_L0 Ls, M, Lm) (z_ov v) (z_L0 Ls, M', Lm)
  refine z_iload_n dX7_checkClerk_0 rfl ?_
  refine z_if_lt (tgt := 9) dX7_checkClerk_1 rfl (fun g1 => ?_) (fun g1 => ?_)
  · replace h := (if_pos g1).symm.trans h
    cases h
    exact z_throwW (text := "no such clerk") z_tpN (by decide +kernel) rfl (by omega) (Nat.le_of_ble_eq_true rfl) (Nat.le_refl _) (Nat.le_refl _) dX7_checkClerk_9 dX7_checkClerk_12 dX7_checkClerk_13 dX7_checkClerk_16 dX7_checkClerk_19
  · replace h := (if_neg g1).symm.trans h
    refine z_iload_n dX7_checkClerk_4 rfl ?_
    refine z_iload_n dX7_checkClerk_5 rfl ?_
    refine z_icmp_lt (tgt := 20) dX7_checkClerk_6 rfl (fun g2 => ?_) (fun g2 => ?_)
    · replace h := (if_pos g2).symm.trans h
      cases h
      exact z_return dX7_checkClerk_20 rfl
    · replace h := (if_neg g2).symm.trans h
      cases h
      exact z_throwW (text := "no such clerk") z_tpN (by decide +kernel) rfl (by omega) (Nat.le_of_ble_eq_true rfl) (Nat.le_refl _) (Nat.le_refl _) dX7_checkClerk_9 dX7_checkClerk_12 dX7_checkClerk_13 dX7_checkClerk_16 dX7_checkClerk_19
/-! X6_stop 80 -/
def f_X6_stop_80 (x1 : Int32) (M : zMM) : Option (Int32 × zMM) :=
  some ((z_at M 82 5 x1), M)
theorem A_X6_stop_80 {l : Launch} (hl : l.stackTraces = false) {Ls d : Nat} {Lm : zML} {x1 : Int32} {M M' : zMM} {v : Int32} (h : f_X6_stop_80 x1 M = some (v, M')) : z_Ct l mX6_stop (d + 1) 0 0 [.ref 80, .int x1] (z_L0 Ls, M, Lm) (.inl (some (.int v))) (z_L0 Ls, M', Lm) := by
  replace h : (  some ((z_at M 82 5 x1), M)) = some (v, M') := h
  refine z_Ct.of hl (by decide) (Nat.le_of_ble_eq_true rfl) rfl ?_
  show z_AW l mX6_stop (d + 1) 0 0 0 [.ref 80, .int x1] [] (z_L0 Ls, M, Lm) (.inl (some (.int v))) (z_L0 Ls, M', Lm)
  refine z_aload_n dX6_stop_0 rfl ?_
  refine z_getR (q := 82) fl_X6_15 dX6_stop_1 en_80 rfl ?_
  refine z_iload_n dX6_stop_4 rfl ?_
  refine z_cN (av := [.ref 82, .int x1]) (st := []) (v := some (.int (z_at M 82 5 x1))) lk_X6_52 dX6_stop_5 (A_X7_at (d := d + 0) hl (by decide) en_82) rfl rfl (Nat.le_of_ble_eq_true rfl) rfl z_len rfl rfl ?_
  cases h
  exact z_rI dX6_stop_8 rfl
/-! X7_clerk 51 -/
def f_X7_clerk_51 (x1 : Int32) (x2 : Int32) (x3 : Int32) (M : zMM) : Option ((Int32 ⊕ Nat) × zMM) :=
  z_bt (f_X7_clerksOf_51 x1 x2 M) fun v2 M3 =>
    if x3 = (-1 : Int32) then
      some (.inl v2, M3)
    else
      z_bt (f_X7_checkClerk x3 v2 M3) fun v7 M8 =>
        z_bi (f_X6_stop_80 x3 M8) fun v11 M12 =>
        some (.inl v11, M12)
theorem A_X7_clerk_51 {l : Launch} (hl : l.stackTraces = false) {Ls d : Nat} {Lm : zML} {x1 : Int32} {x2 : Int32} {x3 : Int32} {M M' : zMM} {v : Int32 ⊕ Nat} (h : f_X7_clerk_51 x1 x2 x3 M = some (v, M')) : z_Ct l mX7_clerk (d + 8) (z_bo v) (6 * z_bo v) [.ref 51, .int x1, .int x2, .int x3] (z_L0 Ls, M, Lm) (z_oi v) (z_L0 Ls, M', Lm) := by
  replace h : (  z_bt (f_X7_clerksOf_51 x1 x2 M) fun v2 M3 =>
    if x3 = (-1 : Int32) then
      some (.inl v2, M3)
    else
      z_bt (f_X7_checkClerk x3 v2 M3) fun v7 M8 =>
        z_bi (f_X6_stop_80 x3 M8) fun v11 M12 =>
        some (.inl v11, M12)) = some (v, M') := h
  refine z_Ct.of hl (by decide) (Nat.le_of_ble_eq_true rfl) rfl ?_
  show z_AW l mX7_clerk (d + 8) (z_bo v) (6 * z_bo v) 0 [.ref 51, .int x1, .int x2, .int x3, .null] [] (z_L0 Ls, M, Lm) (z_oi v) (z_L0 Ls, M', Lm)
  refine z_aload_n dX7_clerk_0 rfl ?_
  refine z_iload_n dX7_clerk_1 rfl ?_
  refine z_iload_n dX7_clerk_2 rfl ?_
  rcases z_bt_c h with ⟨v2, M3, c1, h⟩ | ⟨e4, c1, rfl⟩
  · refine z_cV (av := [.int x1, .int x2]) (st := []) lk_X7_254 dX7_clerk_3 (z_ti (A_X7_clerksOf_51 (d := d + 0) hl c1)) rfl rfl en_51 rfl (Nat.le_of_ble_eq_true rfl) rfl z_len rfl rfl ?_
    refine z_istore (ls' := [.ref 51, .int x1, .int x2, .int x3, .int v2]) dX7_clerk_6 (by decide) rfl ?_
    refine z_iload_n dX7_clerk_8 rfl ?_
    refine z_ic kc_m1 dX7_clerk_9 ?_
    refine z_icmp_ne (tgt := 16) dX7_clerk_10 rfl (fun g5 => ?_) (fun g5 => ?_)
    · replace h := (if_pos g5).symm.trans h
      refine z_iload dX7_clerk_13 rfl ?_
      cases h
      exact z_rI dX7_clerk_15 rfl
    · replace h := (if_neg g5).symm.trans h
      refine z_iload_n dX7_clerk_16 rfl ?_
      refine z_iload dX7_clerk_17 rfl ?_
      rcases z_bt_c h with ⟨v7, M8, c6, h⟩ | ⟨e9, c6, rfl⟩
      · refine z_cS (av := [.int x3, .int v2]) (st := []) lk_X7_257 dX7_clerk_19 (z_tv (A_X7_checkClerk (d := d + 1) hl c6)) rfl rfl (Nat.le_of_ble_eq_true rfl) rfl z_len rfl rfl ?_
        refine z_aload_n dX7_clerk_22 rfl ?_
        refine z_getR (q := 80) fl_X7_44 dX7_clerk_23 en_51 rfl ?_
        refine z_iload_n dX7_clerk_26 rfl ?_
        obtain ⟨v11, M12, c10, h⟩ := z_bi_c h
        refine z_cV (av := [.int x3]) (st := []) lk_X7_261 dX7_clerk_27 (A_X6_stop_80 (d := d + 6) hl c10) rfl rfl en_80 rfl (Nat.le_of_ble_eq_true rfl) rfl z_len rfl rfl ?_
        cases h
        exact z_rI dX7_clerk_30 rfl
      · exact z_cSx (av := [.int x3, .int v2]) (st := []) lk_X7_257 dX7_clerk_19 (A_X7_checkClerk (d := d + 1) hl c6) rfl rfl (Nat.le_of_ble_eq_true rfl) rfl z_len rfl rfl (Nat.le_refl _) (Nat.le_refl _)
  · exact z_cVx (av := [.int x1, .int x2]) (st := []) lk_X7_254 dX7_clerk_3 (A_X7_clerksOf_51 (d := d + 0) hl c1) rfl rfl en_51 rfl (Nat.le_of_ble_eq_true rfl) rfl z_len rfl rfl (Nat.le_refl _) (Nat.le_refl _)
