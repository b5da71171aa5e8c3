/-! ===== frames: what each function leaves alone ===== -/
abbrev zWs : Type := List (Nat × Nat) × List Nat
def z_ok (w : zWs) (a b : Nat) : Bool := !(w.2.contains a) && !(w.1.contains (a, b))
def z_fr (w : zWs) (M M' : zMM) : Prop := ∀ a b, z_ok w a b = true → M' a b = M a b
theorem z_fr.refl {w : zWs} {M : zMM} : z_fr w M M := fun _ _ _ => rfl
theorem z_fr.trans {w : zWs} {M M1 M2 : zMM} (h : z_fr w M M1) (k : z_fr w M1 M2) : z_fr w M M2 := fun a b hab => (k a b hab).trans (h a b hab)
theorem z_fr.up {w : zWs} {M M1 : zMM} {r i : Nat} {v : Int32} (h : z_fr w M M1) (hw : z_ok w r i = false) : z_fr w M (z_up M1 r i v) := by
  intro a b hab
  rw [← h a b hab]
  unfold z_up
  by_cases ha : a = r
  · subst ha
    by_cases hb : b = i
    · subst hb; rw [hw] at hab; cases hab
    · rw [if_pos rfl, if_neg hb]
  · rw [if_neg ha]
theorem z_ok_arr {w : zWs} {r a b : Nat} (hw : w.2.contains r = true) (hab : z_ok w a b = true) : a ≠ r := by
  intro e
  subst e
  unfold z_ok at hab
  rw [hw] at hab
  cases hab
theorem z_fr.pt {w : zWs} {M M1 : zMM} {r N : Nat} {i v : Int32} (h : z_fr w M M1) (hw : w.2.contains r = true) : z_fr w M (z_pt M1 r N i v) := by
  intro a b hab
  rw [← h a b hab]
  unfold z_pt
  split
  · rfl
  · split
    · rfl
    · exact z_up_o (z_ok_arr hw hab)
theorem z_fr.fl {w : zWs} {M M1 : zMM} {r j N : Nat} {v : Int32} (h : z_fr w M M1) (hw : w.2.contains r = true) : z_fr w M (z_fl M1 r j N v) := by
  intro a b hab
  rw [← h a b hab]
  exact if_neg (z_ok_arr hw hab)
theorem z_fr.th {w : zWs} {M M1 : zMM} {r j K : Nat} (h : z_fr w M M1) (hw : w.2.contains r = true) : z_fr w M (z_th M1 r j K) := by
  intro a b hab
  rw [← h a b hab]
  exact if_neg (z_ok_arr hw hab)
theorem z_fr.cp {w : zWs} {M M1 : zMM} {s r n : Nat} (h : z_fr w M M1) (hw : w.2.contains r = true) : z_fr w M (z_cp M1 s r n) := by
  intro a b hab
  rw [← h a b hab]
  exact if_neg (z_ok_arr hw hab)
def z_sub (v w : zWs) : Bool := v.1.all (fun p => w.1.contains p || w.2.contains p.1) && v.2.all (fun c => w.2.contains c)
theorem z_fr.sub {v w : zWs} {M M1 M2 : zMM} (h : z_fr w M M1) (k : z_fr v M1 M2) (hs : z_sub v w = true) : z_fr w M M2 := by
  intro a b hab
  rw [← h a b hab]
  apply k
  unfold z_sub at hs
  unfold z_ok at hab ⊢
  simp only [Bool.and_eq_true, List.all_eq_true, Bool.or_eq_true, Bool.not_eq_true', List.contains_eq_mem, decide_eq_false_iff_not, decide_eq_true_eq] at hs hab ⊢
  refine ⟨fun q => hab.1 (hs.2 a q), fun q => ?_⟩
  rcases hs.1 (a, b) q with z | z
  · exact hab.2 z
  · exact hab.1 z
def w_X7_checkTown_51 : zWs := ([], [])
theorem R_X7_checkTown_51 {x1 : Int32} {M M' : zMM} {v : (Unit ⊕ Nat)} (h : f_X7_checkTown_51 x1 M = some (v, M')) : z_fr w_X7_checkTown_51 M M' := by
  replace h : (  if x1 < 0 then
    some (.inr 0, M)
  else
    if x1 < (M 53 0) then
      some (.inl (), M)
    else
      some (.inr 0, M)) = some (v, M') := h
  by_cases g1 : x1 < 0
  · replace h := (if_pos g1).symm.trans h
    cases h
    exact z_fr.refl
  · replace h := (if_neg g1).symm.trans h
    by_cases g2 : x1 < (M 53 0)
    · replace h := (if_pos g2).symm.trans h
      cases h
      exact z_fr.refl
    · replace h := (if_neg g2).symm.trans h
      cases h
      exact z_fr.refl
def w_X7_checkPair : zWs := ([], [])
theorem R_X7_checkPair {x0 : Int32} {M M' : zMM} {v : (Unit ⊕ Nat)} (h : f_X7_checkPair x0 M = some (v, M')) : z_fr w_X7_checkPair M M' := by
  replace h : (  if x0 = 0 then
    some (.inl (), M)
  else
    if x0 = (1 : Int32) then
      some (.inl (), M)
    else
      some (.inr 0, M)) = some (v, M') := h
  by_cases g1 : x0 = 0
  · replace h := (if_pos g1).symm.trans h
    cases h
    exact z_fr.refl
  · replace h := (if_neg g1).symm.trans h
    by_cases g2 : x0 = (1 : Int32)
    · replace h := (if_pos g2).symm.trans h
      cases h
      exact z_fr.refl
    · replace h := (if_neg g2).symm.trans h
      cases h
      exact z_fr.refl
def w_X4_isThere_87 : zWs := ([], [])
theorem R_X4_isThere_87 {x1 : Int32} {M M' : zMM} {v : Int32} (h : f_X4_isThere_87 x1 M = some (v, M')) : z_fr w_X4_isThere_87 M M' := by
  replace h : (  if (M 87 2) < (z_at M 89 5 x1) then
    some ((0 : Int32), M)
  else
    some ((1 : Int32), M)) = some (v, M') := h
  by_cases g1 : (M 87 2) < (z_at M 89 5 x1)
  · replace h := (if_pos g1).symm.trans h
    cases h
    exact z_fr.refl
  · replace h := (if_neg g1).symm.trans h
    cases h
    exact z_fr.refl
def w_X4_trunksIn_87 : zWs := ([], [])
theorem R0_X4_trunksIn_87_p4 : ∀ (n : Nat) (x1 : Int32) (x2 : Int32) (x3 : Int32) (M M' : zMM) (v : Int32), f_X4_trunksIn_87_p4  n x1 x2 x3 M = some (v, M') → z_fr w_X4_trunksIn_87 M M' := by
  intro n
  induction n with
  | zero => intro x1 x2 x3 M M' v h; cases h
  | succ n ih =>
    intro x1 x2 x3 M M' v h
    replace h : (  if (5 : Int32) ≤ x3 then
    some (x2, M)
  else
    if (z_at M 88 5 x3) = x1 then
      z_bi (f_X4_isThere_87 x3 M) fun v4 M5 =>
      if v4 = 0 then
        f_X4_trunksIn_87_p4 n x1 x2 (x3 + (1 : Int32)) M5
      else
        f_X4_trunksIn_87_p4 n x1 (x2 ||| ((1 : Int32) <<< (x3 &&& 31))) (x3 + (1 : Int32)) M5
    else
      f_X4_trunksIn_87_p4 n x1 x2 (x3 + (1 : Int32)) M) = some (v, M') := h
    by_cases g1 : (5 : Int32) ≤ x3
    · replace h := (if_pos g1).symm.trans h
      cases h
      exact z_fr.refl
    · replace h := (if_neg g1).symm.trans h
      by_cases g2 : (z_at M 88 5 x3) = x1
      · replace h := (if_pos g2).symm.trans h
        obtain ⟨v4, M5, c3, h⟩ := z_bi_c h
        have q3 : z_fr w_X4_trunksIn_87 M M5 := z_fr.refl.sub (R_X4_isThere_87 c3) (by decide)
        by_cases g4 : v4 = 0
        · replace h := (if_pos g4).symm.trans h
          exact q3.trans (ih _ _ _ _ _ _ h)
        · replace h := (if_neg g4).symm.trans h
          exact q3.trans (ih _ _ _ _ _ _ h)
      · replace h := (if_neg g2).symm.trans h
        exact z_fr.refl.trans (ih _ _ _ _ _ _ h)
theorem R_X4_trunksIn_87_p4 {n : Nat} {x1 : Int32} {x2 : Int32} {x3 : Int32} {M M' : zMM} {v : Int32} (h : f_X4_trunksIn_87_p4  n x1 x2 x3 M = some (v, M')) : z_fr w_X4_trunksIn_87 M M' := R0_X4_trunksIn_87_p4 _ _ _ _ _ _ _ h
theorem R_X4_trunksIn_87 {x1 : Int32} {M M' : zMM} {v : Int32} (h : f_X4_trunksIn_87 x1 M = some (v, M')) : z_fr w_X4_trunksIn_87 M M' := by
  replace h : (  f_X4_trunksIn_87_p4 z_fuel x1 (0 : Int32) (0 : Int32) M) = some (v, M') := h
  exact z_fr.refl.trans (R_X4_trunksIn_87_p4 h)
def w_X7_has : zWs := ([], [])
theorem R_X7_has {x0 : Int32} {x1 : Int32} {M M' : zMM} {v : Int32} (h : f_X7_has x0 x1 M = some (v, M')) : z_fr w_X7_has M M' := by
  replace h : (  if ((z_ush x0 x1) &&& (1 : Int32)) = 0 then
    some ((0 : Int32), M)
  else
    some ((1 : Int32), M)) = some (v, M') := h
  by_cases g1 : ((z_ush x0 x1) &&& (1 : Int32)) = 0
  · replace h := (if_pos g1).symm.trans h
    cases h
    exact z_fr.refl
  · replace h := (if_neg g1).symm.trans h
    cases h
    exact z_fr.refl
def w_X5_thingsOf_53 : zWs := ([], [])
theorem R0_X5_thingsOf_53_p4 : ∀ (n : Nat) (x1 : Int32) (x2 : Int32) (x3 : Int32) (M M' : zMM) (v : Int32), f_X5_thingsOf_53_p4  n x1 x2 x3 M = some (v, M') → z_fr w_X5_thingsOf_53 M M' := by
  intro n
  induction n with
  | zero => intro x1 x2 x3 M M' v h; cases h
  | succ n ih =>
    intro x1 x2 x3 M M' v h
    replace h : (  if (M 53 8) ≤ x3 then
    some (x2, M)
  else
    z_bi (f_X7_has x1 (z_at M 61 10 x3) M) fun v3 M4 =>
    if v3 = 0 then
      f_X5_thingsOf_53_p4 n x1 x2 (x3 + (1 : Int32)) M4
    else
      f_X5_thingsOf_53_p4 n x1 (x2 ||| ((1 : Int32) <<< (x3 &&& 31))) (x3 + (1 : Int32)) M4) = some (v, M') := h
    by_cases g1 : (M 53 8) ≤ x3
    · replace h := (if_pos g1).symm.trans h
      cases h
      exact z_fr.refl
    · replace h := (if_neg g1).symm.trans h
      obtain ⟨v3, M4, c2, h⟩ := z_bi_c h
      have q2 : z_fr w_X5_thingsOf_53 M M4 := z_fr.refl.sub (R_X7_has c2) (by decide)
      by_cases g3 : v3 = 0
      · replace h := (if_pos g3).symm.trans h
        exact q2.trans (ih _ _ _ _ _ _ h)
      · replace h := (if_neg g3).symm.trans h
        exact q2.trans (ih _ _ _ _ _ _ h)
theorem R_X5_thingsOf_53_p4 {n : Nat} {x1 : Int32} {x2 : Int32} {x3 : Int32} {M M' : zMM} {v : Int32} (h : f_X5_thingsOf_53_p4  n x1 x2 x3 M = some (v, M')) : z_fr w_X5_thingsOf_53 M M' := R0_X5_thingsOf_53_p4 _ _ _ _ _ _ _ h
theorem R_X5_thingsOf_53 {x1 : Int32} {M M' : zMM} {v : Int32} (h : f_X5_thingsOf_53 x1 M = some (v, M')) : z_fr w_X5_thingsOf_53 M M' := by
  replace h : (  f_X5_thingsOf_53_p4 z_fuel x1 (0 : Int32) (0 : Int32) M) = some (v, M') := h
  exact z_fr.refl.trans (R_X5_thingsOf_53_p4 h)
def w_X7_lowBits : zWs := ([], [])
theorem R_X7_lowBits {x0 : Int32} {M M' : zMM} {v : Int32} (h : f_X7_lowBits x0 M = some (v, M')) : z_fr w_X7_lowBits M M' := by
  replace h : (  some ((((1 : Int32) <<< (x0 &&& 31)) - (1 : Int32)), M)) = some (v, M') := h
  cases h
  exact z_fr.refl
def w_J6_bitCount_0f7a4 : zWs := ([], [])
theorem R_J6_bitCount_0f7a4 {x0 : Int32} {M M' : zMM} {v : Int32} (h : f_J6_bitCount_0f7a4 x0 M = some (v, M')) : z_fr w_J6_bitCount_0f7a4 M M' := by
  replace h : (  some (((((((((x0 - ((z_ush x0 (1 : Int32)) &&& (1431655765 : Int32))) &&& (858993459 : Int32)) + ((z_ush (x0 - ((z_ush x0 (1 : Int32)) &&& (1431655765 : Int32))) (2 : Int32)) &&& (858993459 : Int32))) + (z_ush (((x0 - ((z_ush x0 (1 : Int32)) &&& (1431655765 : Int32))) &&& (858993459 : Int32)) + ((z_ush (x0 - ((z_ush x0 (1 : Int32)) &&& (1431655765 : Int32))) (2 : Int32)) &&& (858993459 : Int32))) (4 : Int32))) &&& (252645135 : Int32)) + (z_ush (((((x0 - ((z_ush x0 (1 : Int32)) &&& (1431655765 : Int32))) &&& (858993459 : Int32)) + ((z_ush (x0 - ((z_ush x0 (1 : Int32)) &&& (1431655765 : Int32))) (2 : Int32)) &&& (858993459 : Int32))) + (z_ush (((x0 - ((z_ush x0 (1 : Int32)) &&& (1431655765 : Int32))) &&& (858993459 : Int32)) + ((z_ush (x0 - ((z_ush x0 (1 : Int32)) &&& (1431655765 : Int32))) (2 : Int32)) &&& (858993459 : Int32))) (4 : Int32))) &&& (252645135 : Int32)) (8 : Int32))) + (z_ush ((((((x0 - ((z_ush x0 (1 : Int32)) &&& (1431655765 : Int32))) &&& (858993459 : Int32)) + ((z_ush (x0 - ((z_ush x0 (1 : Int32)) &&& (1431655765 : Int32))) (2 : Int32)) &&& (858993459 : Int32))) + (z_ush (((x0 - ((z_ush x0 (1 : Int32)) &&& (1431655765 : Int32))) &&& (858993459 : Int32)) + ((z_ush (x0 - ((z_ush x0 (1 : Int32)) &&& (1431655765 : Int32))) (2 : Int32)) &&& (858993459 : Int32))) (4 : Int32))) &&& (252645135 : Int32)) + (z_ush (((((x0 - ((z_ush x0 (1 : Int32)) &&& (1431655765 : Int32))) &&& (858993459 : Int32)) + ((z_ush (x0 - ((z_ush x0 (1 : Int32)) &&& (1431655765 : Int32))) (2 : Int32)) &&& (858993459 : Int32))) + (z_ush (((x0 - ((z_ush x0 (1 : Int32)) &&& (1431655765 : Int32))) &&& (858993459 : Int32)) + ((z_ush (x0 - ((z_ush x0 (1 : Int32)) &&& (1431655765 : Int32))) (2 : Int32)) &&& (858993459 : Int32))) (4 : Int32))) &&& (252645135 : Int32)) (8 : Int32))) (16 : Int32))) &&& (63 : Int32)), M)) = some (v, M') := h
  cases h
  exact z_fr.refl
def w_X7_isLess : zWs := ([], [])
theorem R_X7_isLess {x0 : Int32} {x1 : Int32} {M M' : zMM} {v : Int32} (h : f_X7_isLess x0 x1 M = some (v, M')) : z_fr w_X7_isLess M M' := by
  replace h : (  if x0 = (-1 : Int32) then
    some ((0 : Int32), M)
  else
    if x1 = (-1 : Int32) then
      some ((1 : Int32), M)
    else
      if x1 ≤ x0 then
        some ((0 : Int32), M)
      else
        some ((1 : Int32), M)) = some (v, M') := h
  by_cases g1 : x0 = (-1 : Int32)
  · replace h := (if_pos g1).symm.trans h
    cases h
    exact z_fr.refl
  · replace h := (if_neg g1).symm.trans h
    by_cases g2 : x1 = (-1 : Int32)
    · replace h := (if_pos g2).symm.trans h
      cases h
      exact z_fr.refl
    · replace h := (if_neg g2).symm.trans h
      by_cases g3 : x1 ≤ x0
      · replace h := (if_pos g3).symm.trans h
        cases h
        exact z_fr.refl
      · replace h := (if_neg g3).symm.trans h
        cases h
        exact z_fr.refl
def w_X2_withLent_83 : zWs := ([], [])
theorem R0_X2_withLent_83_p6 : ∀ (n : Nat) (x1 : Int32) (x2 : Int32) (x3 : Int32) (x4 : Int32) (x5 : Int32) (M M' : zMM) (v : Int32), f_X2_withLent_83_p6  n x1 x2 x3 x4 x5 M = some (v, M') → z_fr w_X2_withLent_83 M M' := by
  intro n
  induction n with
  | zero => intro x1 x2 x3 x4 x5 M M' v h; cases h
  | succ n ih =>
    intro x1 x2 x3 x4 x5 M M' v h
    replace h : (  z_bi (f_X7_lowBits x1 M) fun v2 M3 =>
  if v2 < x5 then
    some (x4, M3)
  else
    z_bi (f_J6_bitCount_0f7a4 x5 M3) fun v6 M7 =>
    if (z_at M7 85 16 x5) = (-1 : Int32) then
      f_X2_withLent_83_p6 n x1 x2 x3 x4 (x5 + (1 : Int32)) M7
    else
      if x2 < (x1 - v6) then
        f_X2_withLent_83_p6 n x1 x2 x3 x4 (x5 + (1 : Int32)) M7
      else
        z_bi (f_X7_isLess ((z_at M7 85 16 x5) + ((x1 - v6) * x3)) x4 M7) fun v11 M12 =>
        if v11 = 0 then
          f_X2_withLent_83_p6 n x1 x2 x3 x4 (x5 + (1 : Int32)) M12
        else
          f_X2_withLent_83_p6 n x1 x2 x3 ((z_at M7 85 16 x5) + ((x1 - v6) * x3)) (x5 + (1 : Int32)) M12) = some (v, M') := h
    obtain ⟨v2, M3, c1, h⟩ := z_bi_c h
    have q1 : z_fr w_X2_withLent_83 M M3 := z_fr.refl.sub (R_X7_lowBits c1) (by decide)
    by_cases g2 : v2 < x5
    · replace h := (if_pos g2).symm.trans h
      cases h
      exact q1
    · replace h := (if_neg g2).symm.trans h
      obtain ⟨v6, M7, c3, h⟩ := z_bi_c h
      have q3 : z_fr w_X2_withLent_83 M M7 := q1.sub (R_J6_bitCount_0f7a4 c3) (by decide)
      by_cases g4 : (z_at M7 85 16 x5) = (-1 : Int32)
      · replace h := (if_pos g4).symm.trans h
        exact q3.trans (ih _ _ _ _ _ _ _ _ h)
      · replace h := (if_neg g4).symm.trans h
        by_cases g5 : x2 < (x1 - v6)
        · replace h := (if_pos g5).symm.trans h
          exact q3.trans (ih _ _ _ _ _ _ _ _ h)
        · replace h := (if_neg g5).symm.trans h
          obtain ⟨v11, M12, c6, h⟩ := z_bi_c h
          have q6 : z_fr w_X2_withLent_83 M M12 := q3.sub (R_X7_isLess c6) (by decide)
          by_cases g7 : v11 = 0
          · replace h := (if_pos g7).symm.trans h
            exact q6.trans (ih _ _ _ _ _ _ _ _ h)
          · replace h := (if_neg g7).symm.trans h
            exact q6.trans (ih _ _ _ _ _ _ _ _ h)
theorem R_X2_withLent_83_p6 {n : Nat} {x1 : Int32} {x2 : Int32} {x3 : Int32} {x4 : Int32} {x5 : Int32} {M M' : zMM} {v : Int32} (h : f_X2_withLent_83_p6  n x1 x2 x3 x4 x5 M = some (v, M')) : z_fr w_X2_withLent_83 M M' := R0_X2_withLent_83_p6 _ _ _ _ _ _ _ _ _ h
theorem R_X2_withLent_83 {x1 : Int32} {x2 : Int32} {x3 : Int32} {M M' : zMM} {v : Int32} (h : f_X2_withLent_83 x1 x2 x3 M = some (v, M')) : z_fr w_X2_withLent_83 M M' := by
  replace h : (  f_X2_withLent_83_p6 z_fuel x1 x2 x3 (-1 : Int32) (0 : Int32) M) = some (v, M') := h
  exact z_fr.refl.trans (R_X2_withLent_83_p6 h)
def w_X2_fillBy_83 : zWs := ([], [85])
theorem R0_X2_fillBy_83_p21 {K5 : Int32 → Int32 → zMM → Option zMM}
    (hK5 : ∀ (a0 : Int32) (a1 : Int32) (M M' : zMM), K5 a0 a1 M = some M' → z_fr w_X2_fillBy_83 M M') : ∀ (n : Nat) (x1 : Int32) (x2 : Int32) (x3 : Int32) (x4 : Int32) (M M' : zMM) , f_X2_fillBy_83_p21 K5 n x1 x2 x3 x4 M = some M' → z_fr w_X2_fillBy_83 M M' := by
  intro n
  induction n with
  | zero => intro x1 x2 x3 x4 M M' h; cases h
  | succ n ih =>
    intro x1 x2 x3 x4 M M' h
    replace h : (  if x1 ≤ x4 then
    K5 x1 (x2 + (-1 : Int32)) M
  else
    if x3 = (-1 : Int32) then
      K5 x1 (x2 + (-1 : Int32)) M
    else
      if (x2 ||| ((1 : Int32) <<< (x4 &&& 31))) = x2 then
        f_X2_fillBy_83_p21 K5 n x1 x2 x3 (x4 + (1 : Int32)) M
      else
        if (z_at M 86 4 x4) = (-1 : Int32) then
          f_X2_fillBy_83_p21 K5 n x1 x2 x3 (x4 + (1 : Int32)) M
        else
          z_bi (f_X7_isLess (x3 + (z_at M 86 4 x4)) (z_at M 85 16 (x2 ||| ((1 : Int32) <<< (x4 &&& 31)))) M) fun v10 M11 =>
          if v10 = 0 then
            f_X2_fillBy_83_p21 K5 n x1 x2 x3 (x4 + (1 : Int32)) M11
          else
            z_bv (some (z_pt M11 85 16 (x2 ||| ((1 : Int32) <<< (x4 &&& 31))) (x3 + (z_at M 86 4 x4)))) fun M14 =>
            f_X2_fillBy_83_p21 K5 n x1 x2 x3 (x4 + (1 : Int32)) M14) = some M' := h
    by_cases g1 : x1 ≤ x4
    · replace h := (if_pos g1).symm.trans h
      exact z_fr.refl.trans (hK5 _ _ _ _ h)
    · replace h := (if_neg g1).symm.trans h
      by_cases g2 : x3 = (-1 : Int32)
      · replace h := (if_pos g2).symm.trans h
        exact z_fr.refl.trans (hK5 _ _ _ _ h)
      · replace h := (if_neg g2).symm.trans h
        by_cases g3 : (x2 ||| ((1 : Int32) <<< (x4 &&& 31))) = x2
        · replace h := (if_pos g3).symm.trans h
          exact z_fr.refl.trans (ih _ _ _ _ _ _ h)
        · replace h := (if_neg g3).symm.trans h
          by_cases g4 : (z_at M 86 4 x4) = (-1 : Int32)
          · replace h := (if_pos g4).symm.trans h
            exact z_fr.refl.trans (ih _ _ _ _ _ _ h)
          · replace h := (if_neg g4).symm.trans h
            obtain ⟨v10, M11, c5, h⟩ := z_bi_c h
            have q5 : z_fr w_X2_fillBy_83 M M11 := z_fr.refl.sub (R_X7_isLess c5) (by decide)
            by_cases g6 : v10 = 0
            · replace h := (if_pos g6).symm.trans h
              exact q5.trans (ih _ _ _ _ _ _ h)
            · replace h := (if_neg g6).symm.trans h
              obtain ⟨M14, c7, h⟩ := z_bv_c h
              have q7 : z_fr w_X2_fillBy_83 M M14 := Option.some.inj c7 ▸ (q5.pt rfl)
              exact q7.trans (ih _ _ _ _ _ _ h)
theorem R_X2_fillBy_83_p21 {K5 : Int32 → Int32 → zMM → Option zMM}
    (hK5 : ∀ (a0 : Int32) (a1 : Int32) (M M' : zMM), K5 a0 a1 M = some M' → z_fr w_X2_fillBy_83 M M') {n : Nat} {x1 : Int32} {x2 : Int32} {x3 : Int32} {x4 : Int32} {M M' : zMM} (h : f_X2_fillBy_83_p21 K5 n x1 x2 x3 x4 M = some M') : z_fr w_X2_fillBy_83 M M' := R0_X2_fillBy_83_p21 hK5 _ _ _ _ _ _ _ h
theorem R0_X2_fillBy_83_p5 : ∀ (n : Nat) (x1 : Int32) (x2 : Int32) (M M' : zMM) , f_X2_fillBy_83_p5  n x1 x2 M = some M' → z_fr w_X2_fillBy_83 M M' := by
  intro n
  induction n with
  | zero => intro x1 x2 M M' h; cases h
  | succ n ih =>
    intro x1 x2 M M' h
    replace h : (  if x2 < 0 then
    some M
  else
    f_X2_fillBy_83_p21 (f_X2_fillBy_83_p5 n) z_fuel x1 x2 (z_at M 85 16 x2) (0 : Int32) M) = some M' := h
    by_cases g1 : x2 < 0
    · replace h := (if_pos g1).symm.trans h
      cases h
      exact z_fr.refl
    · replace h := (if_neg g1).symm.trans h
      exact z_fr.refl.trans (R_X2_fillBy_83_p21 ih h)
theorem R_X2_fillBy_83_p5 {n : Nat} {x1 : Int32} {x2 : Int32} {M M' : zMM} (h : f_X2_fillBy_83_p5  n x1 x2 M = some M') : z_fr w_X2_fillBy_83 M M' := R0_X2_fillBy_83_p5 _ _ _ _ _ h
theorem R_X2_fillBy_83 {x1 : Int32} {M M' : zMM} (h : f_X2_fillBy_83 x1 M = some M') : z_fr w_X2_fillBy_83 M M' := by
  replace h : (  z_bi (f_X7_lowBits x1 M) fun v2 M3 =>
  f_X2_fillBy_83_p5 z_fuel x1 v2 M3) = some M' := h
  obtain ⟨v2, M3, c1, h⟩ := z_bi_c h
  have q1 : z_fr w_X2_fillBy_83 M M3 := z_fr.refl.sub (R_X7_lowBits c1) (by decide)
  exact q1.trans (R_X2_fillBy_83_p5 h)
def w_X5_needOf_53 : zWs := ([], [])
theorem R_X5_needOf_53 {x1 : Int32} {x2 : Int32} {M M' : zMM} {v : Int32} (h : f_X5_needOf_53 x1 x2 M = some (v, M')) : z_fr w_X5_needOf_53 M M' := by
  replace h : (  some ((z_at M 64 16 ((x1 * (4 : Int32)) + x2)), M)) = some (v, M') := h
  cases h
  exact z_fr.refl
def w_X5_shameOf_53 : zWs := ([], [])
theorem R_X5_shameOf_53 {x1 : Int32} {x2 : Int32} {M M' : zMM} {v : Int32} (h : f_X5_shameOf_53 x1 x2 M = some (v, M')) : z_fr w_X5_shameOf_53 M M' := by
  replace h : (  some ((z_at M 65 400 ((x1 * (20 : Int32)) + x2)), M)) = some (v, M') := h
  cases h
  exact z_fr.refl
def w_X2_useSort_83 : zWs := ([], [85, 86])
theorem R0_X2_useSort_83_p21 : ∀ (n : Nat) (x1 : Int32) (x2 : Int32) (x3 : Int32) (x4 : Int32) (x5 : Int32) (x6 : Int32) (M M' : zMM) , f_X2_useSort_83_p21  n x1 x2 x3 x4 x5 x6 M = some M' → z_fr w_X2_useSort_83 M M' := by
  intro n
  induction n with
  | zero => intro x1 x2 x3 x4 x5 x6 M M' h; cases h
  | succ n ih =>
    intro x1 x2 x3 x4 x5 x6 M M' h
    replace h : (  if x4 ≤ x6 then
    if x5 = 0 then
      some M
    else
      z_bv (f_X2_fillBy_83 x4 M) fun M5 =>
      some M5
  else
    z_bi (f_X5_needOf_53 x1 (x2 + x6) M) fun v7 M8 =>
    z_bi (f_X5_shameOf_53 x3 v7 M8) fun v10 M11 =>
    z_bv (some (z_pt M11 86 4 x6 v10)) fun M13 =>
    if x5 = 0 then
      if v10 = (-1 : Int32) then
        f_X2_useSort_83_p21 n x1 x2 x3 x4 (0 : Int32) (x6 + (1 : Int32)) M13
      else
        f_X2_useSort_83_p21 n x1 x2 x3 x4 (1 : Int32) (x6 + (1 : Int32)) M13
    else
      f_X2_useSort_83_p21 n x1 x2 x3 x4 (1 : Int32) (x6 + (1 : Int32)) M13) = some M' := h
    by_cases g1 : x4 ≤ x6
    · replace h := (if_pos g1).symm.trans h
      by_cases g2 : x5 = 0
      · replace h := (if_pos g2).symm.trans h
        cases h
        exact z_fr.refl
      · replace h := (if_neg g2).symm.trans h
        obtain ⟨M5, c3, h⟩ := z_bv_c h
        have q3 : z_fr w_X2_useSort_83 M M5 := z_fr.refl.sub (R_X2_fillBy_83 c3) (by decide)
        cases h
        exact q3
    · replace h := (if_neg g1).symm.trans h
      obtain ⟨v7, M8, c4, h⟩ := z_bi_c h
      have q4 : z_fr w_X2_useSort_83 M M8 := z_fr.refl.sub (R_X5_needOf_53 c4) (by decide)
      obtain ⟨v10, M11, c5, h⟩ := z_bi_c h
      have q5 : z_fr w_X2_useSort_83 M M11 := q4.sub (R_X5_shameOf_53 c5) (by decide)
      obtain ⟨M13, c6, h⟩ := z_bv_c h
      have q6 : z_fr w_X2_useSort_83 M M13 := Option.some.inj c6 ▸ (q5.pt rfl)
      by_cases g7 : x5 = 0
      · replace h := (if_pos g7).symm.trans h
        by_cases g8 : v10 = (-1 : Int32)
        · replace h := (if_pos g8).symm.trans h
          exact q6.trans (ih _ _ _ _ _ _ _ _ h)
        · replace h := (if_neg g8).symm.trans h
          exact q6.trans (ih _ _ _ _ _ _ _ _ h)
      · replace h := (if_neg g7).symm.trans h
        exact q6.trans (ih _ _ _ _ _ _ _ _ h)
theorem R_X2_useSort_83_p21 {n : Nat} {x1 : Int32} {x2 : Int32} {x3 : Int32} {x4 : Int32} {x5 : Int32} {x6 : Int32} {M M' : zMM} (h : f_X2_useSort_83_p21  n x1 x2 x3 x4 x5 x6 M = some M') : z_fr w_X2_useSort_83 M M' := R0_X2_useSort_83_p21 _ _ _ _ _ _ _ _ _ h
theorem R_X2_useSort_83 {x1 : Int32} {x2 : Int32} {x3 : Int32} {M M' : zMM} (h : f_X2_useSort_83 x1 x2 x3 M = some M') : z_fr w_X2_useSort_83 M M' := by
  replace h : (  f_X2_useSort_83_p21 z_fuel x1 x2 x3 ((z_at M 63 4 x1) - x2) (0 : Int32) (0 : Int32) M) = some M' := h
  exact z_fr.refl.trans (R_X2_useSort_83_p21 h)
def w_X2_leastPrice_83 : zWs := ([], [85, 86])
theorem R_X2_leastPrice_83_p80 {x1 : Int32} {x2 : Int32} {x3 : Int32} {x6 : Int32} {M M' : zMM} {v : Int32} (h : f_X2_leastPrice_83_p80 x1 x2 x3 x6 M = some (v, M')) : z_fr w_X2_leastPrice_83 M M' := by
  replace h : (  z_bi (f_X2_withLent_83 ((z_at M 63 4 x1) - x3) x6 (z_at M 57 5 x2) M) fun v8 M9 =>
  some (v8, M9)) = some (v, M') := h
  obtain ⟨v8, M9, c1, h⟩ := z_bi_c h
  have q1 : z_fr w_X2_leastPrice_83 M M9 := z_fr.refl.sub (R_X2_withLent_83 c1) (by decide)
  cases h
  exact q1
theorem R0_X2_leastPrice_83_p20 : ∀ (n : Nat) (x1 : Int32) (x2 : Int32) (x3 : Int32) (x4 : Int32) (x5 : Int32) (x6 : Int32) (x7 : Int32) (M M' : zMM) (v : Int32), f_X2_leastPrice_83_p20  n x1 x2 x3 x4 x5 x6 x7 M = some (v, M') → z_fr w_X2_leastPrice_83 M M' := by
  intro n
  induction n with
  | zero => intro x1 x2 x3 x4 x5 x6 x7 M M' v h; cases h
  | succ n ih =>
    intro x1 x2 x3 x4 x5 x6 x7 M M' v h
    replace h : (  if (M 53 8) ≤ x7 then
    if x5 = (-1 : Int32) then
      f_X2_leastPrice_83_p80 x1 x2 x3 x6 M
    else
      z_bv (f_X2_useSort_83 x1 x3 x5 M) fun M12 =>
      f_X2_leastPrice_83_p80 x1 x2 x3 x6 M12
  else
    z_bi (f_X7_has x4 x7 M) fun v14 M15 =>
    if v14 = 0 then
      f_X2_leastPrice_83_p20 n x1 x2 x3 x4 x5 x6 (x7 + (1 : Int32)) M15
    else
      z_bv (f_X2_useSort_83 x1 x3 (z_at M15 60 10 x7) M15) fun M19 =>
      f_X2_leastPrice_83_p20 n x1 x2 x3 x4 x5 x6 (x7 + (1 : Int32)) M19) = some (v, M') := h
    by_cases g1 : (M 53 8) ≤ x7
    · replace h := (if_pos g1).symm.trans h
      by_cases g2 : x5 = (-1 : Int32)
      · replace h := (if_pos g2).symm.trans h
        exact z_fr.refl.trans (R_X2_leastPrice_83_p80 h)
      · replace h := (if_neg g2).symm.trans h
        obtain ⟨M12, c3, h⟩ := z_bv_c h
        have q3 : z_fr w_X2_leastPrice_83 M M12 := z_fr.refl.sub (R_X2_useSort_83 c3) (by decide)
        exact q3.trans (R_X2_leastPrice_83_p80 h)
    · replace h := (if_neg g1).symm.trans h
      obtain ⟨v14, M15, c4, h⟩ := z_bi_c h
      have q4 : z_fr w_X2_leastPrice_83 M M15 := z_fr.refl.sub (R_X7_has c4) (by decide)
      by_cases g5 : v14 = 0
      · replace h := (if_pos g5).symm.trans h
        exact q4.trans (ih _ _ _ _ _ _ _ _ _ _ h)
      · replace h := (if_neg g5).symm.trans h
        obtain ⟨M19, c6, h⟩ := z_bv_c h
        have q6 : z_fr w_X2_leastPrice_83 M M19 := q4.sub (R_X2_useSort_83 c6) (by decide)
        exact q6.trans (ih _ _ _ _ _ _ _ _ _ _ h)
theorem R_X2_leastPrice_83_p20 {n : Nat} {x1 : Int32} {x2 : Int32} {x3 : Int32} {x4 : Int32} {x5 : Int32} {x6 : Int32} {x7 : Int32} {M M' : zMM} {v : Int32} (h : f_X2_leastPrice_83_p20  n x1 x2 x3 x4 x5 x6 x7 M = some (v, M')) : z_fr w_X2_leastPrice_83 M M' := R0_X2_leastPrice_83_p20 _ _ _ _ _ _ _ _ _ _ _ h
theorem R_X2_leastPrice_83 {x1 : Int32} {x2 : Int32} {x3 : Int32} {x4 : Int32} {x5 : Int32} {x6 : Int32} {M M' : zMM} {v : Int32} (h : f_X2_leastPrice_83 x1 x2 x3 x4 x5 x6 M = some (v, M')) : z_fr w_X2_leastPrice_83 M M' := by
  replace h : (  z_bv (some (z_fl M 85 0 16 (-1 : Int32))) fun M2 =>
  z_bv (some (z_pt M2 85 16 (0 : Int32) (0 : Int32))) fun M4 =>
  f_X2_leastPrice_83_p20 z_fuel x1 x2 x3 x4 x5 x6 (0 : Int32) M4) = some (v, M') := h
  obtain ⟨M2, c1, h⟩ := z_bv_c h
  have q1 : z_fr w_X2_leastPrice_83 M M2 := Option.some.inj c1 ▸ (z_fr.refl.fl rfl)
  obtain ⟨M4, c2, h⟩ := z_bv_c h
  have q2 : z_fr w_X2_leastPrice_83 M M4 := Option.some.inj c2 ▸ (q1.pt rfl)
  exact q2.trans (R_X2_leastPrice_83_p20 h)
def w_X2_byTrunks_83 : zWs := ([], [84, 85, 86])
theorem R_X2_byTrunks_83 {x1 : Int32} {x2 : Int32} {x3 : Int32} {M M' : zMM} {v : Int32} (h : f_X2_byTrunks_83 x1 x2 x3 M = some (v, M')) : z_fr w_X2_byTrunks_83 M M' := by
  replace h : (  if (z_at M 84 640 ((((x1 * (5 : Int32)) + x2) * (32 : Int32)) + x3)) = (-2 : Int32) then
    z_bi (f_X5_thingsOf_53 x3 M) fun v3 M4 =>
    z_bi (f_X2_leastPrice_83 x1 x2 (0 : Int32) v3 (-1 : Int32) (z_at M4 56 5 x2) M4) fun v6 M7 =>
    z_bv (some (z_pt M7 84 640 ((((x1 * (5 : Int32)) + x2) * (32 : Int32)) + x3) v6)) fun M9 =>
    some (v6, M9)
  else
    some ((z_at M 84 640 ((((x1 * (5 : Int32)) + x2) * (32 : Int32)) + x3)), M)) = some (v, M') := h
  by_cases g1 : (z_at M 84 640 ((((x1 * (5 : Int32)) + x2) * (32 : Int32)) + x3)) = (-2 : Int32)
  · replace h := (if_pos g1).symm.trans h
    obtain ⟨v3, M4, c2, h⟩ := z_bi_c h
    have q2 : z_fr w_X2_byTrunks_83 M M4 := z_fr.refl.sub (R_X5_thingsOf_53 c2) (by decide)
    obtain ⟨v6, M7, c3, h⟩ := z_bi_c h
    have q3 : z_fr w_X2_byTrunks_83 M M7 := q2.sub (R_X2_leastPrice_83 c3) (by decide)
    obtain ⟨M9, c4, h⟩ := z_bv_c h
    have q4 : z_fr w_X2_byTrunks_83 M M9 := Option.some.inj c4 ▸ (q3.pt rfl)
    cases h
    exact q4
  · replace h := (if_neg g1).symm.trans h
    cases h
    exact z_fr.refl
def w_X7_priceOfBoth_51 : zWs := ([], [84, 85, 86])
theorem R_X7_priceOfBoth_51 {x1 : Int32} {x2 : Int32} {x3 : Int32} {x4 : Int32} {M M' : zMM} {v : Int32} (h : f_X7_priceOfBoth_51 x1 x2 x3 x4 M = some (v, M')) : z_fr w_X7_priceOfBoth_51 M M' := by
  replace h : (  if ((z_at M 62 4 x1) + (z_at M 62 4 x3)) ≤ (M 53 16) then
    z_bi (f_X4_trunksIn_87 x2 M) fun v3 M4 =>
    z_bi (f_X2_byTrunks_83 x1 x2 v3 M4) fun v6 M7 =>
    z_bi (f_X4_trunksIn_87 x4 M7) fun v9 M10 =>
    z_bi (f_X2_byTrunks_83 x3 x4 v9 M10) fun v12 M13 =>
    if v6 = (-1 : Int32) then
      some ((-1 : Int32), M13)
    else
      if v12 = (-1 : Int32) then
        some ((-1 : Int32), M13)
      else
        some ((v6 + v12), M13)
  else
    some ((-1 : Int32), M)) = some (v, M') := h
  by_cases g1 : ((z_at M 62 4 x1) + (z_at M 62 4 x3)) ≤ (M 53 16)
  · replace h := (if_pos g1).symm.trans h
    obtain ⟨v3, M4, c2, h⟩ := z_bi_c h
    have q2 : z_fr w_X7_priceOfBoth_51 M M4 := z_fr.refl.sub (R_X4_trunksIn_87 c2) (by decide)
    obtain ⟨v6, M7, c3, h⟩ := z_bi_c h
    have q3 : z_fr w_X7_priceOfBoth_51 M M7 := q2.sub (R_X2_byTrunks_83 c3) (by decide)
    obtain ⟨v9, M10, c4, h⟩ := z_bi_c h
    have q4 : z_fr w_X7_priceOfBoth_51 M M10 := q3.sub (R_X4_trunksIn_87 c4) (by decide)
    obtain ⟨v12, M13, c5, h⟩ := z_bi_c h
    have q5 : z_fr w_X7_priceOfBoth_51 M M13 := q4.sub (R_X2_byTrunks_83 c5) (by decide)
    by_cases g6 : v6 = (-1 : Int32)
    · replace h := (if_pos g6).symm.trans h
      cases h
      exact q5
    · replace h := (if_neg g6).symm.trans h
      by_cases g7 : v12 = (-1 : Int32)
      · replace h := (if_pos g7).symm.trans h
        cases h
        exact q5
      · replace h := (if_neg g7).symm.trans h
        cases h
        exact q5
  · replace h := (if_neg g1).symm.trans h
    cases h
    exact z_fr.refl
def w_X7_both_51 : zWs := ([], [84, 85, 86])
theorem R0_X7_both_51_p45 {K30 : Int32 → Int32 → Int32 → Int32 → Int32 → Int32 → zMM → Option ((Int32 ⊕ Nat) × zMM)}
    (hK30 : ∀ (a0 : Int32) (a1 : Int32) (a2 : Int32) (a3 : Int32) (a4 : Int32) (a5 : Int32) (M M' : zMM) (v : (Int32 ⊕ Nat)), K30 a0 a1 a2 a3 a4 a5 M = some (v, M') → z_fr w_X7_both_51 M M') : ∀ (n : Nat) (x1 : Int32) (x2 : Int32) (x3 : Int32) (x4 : Int32) (x5 : Int32) (x6 : Int32) (x7 : Int32) (M M' : zMM) (v : (Int32 ⊕ Nat)), f_X7_both_51_p45 K30 n x1 x2 x3 x4 x5 x6 x7 M = some (v, M') → z_fr w_X7_both_51 M M' := by
  intro n
  induction n with
  | zero => intro x1 x2 x3 x4 x5 x6 x7 M M' v h; cases h
  | succ n ih =>
    intro x1 x2 x3 x4 x5 x6 x7 M M' v h
    replace h : (  if (M 53 11) ≤ x7 then
    K30 x1 x2 x3 x4 x5 (x6 + (1 : Int32)) M
  else
    z_bi (f_X7_priceOfBoth_51 x6 x1 x7 x2 M) fun v18 M19 =>
    z_bi (f_X7_isLess v18 x5 M19) fun v21 M22 =>
    if v21 = 0 then
      f_X7_both_51_p45 K30 n x1 x2 x3 x4 x5 x6 (x7 + (1 : Int32)) M22
    else
      f_X7_both_51_p45 K30 n x1 x2 x3 (((8 : Int32) * x6) + x7) v18 x6 (x7 + (1 : Int32)) M22) = some (v, M') := h
    by_cases g1 : (M 53 11) ≤ x7
    · replace h := (if_pos g1).symm.trans h
      exact z_fr.refl.trans (hK30 _ _ _ _ _ _ _ _ _ h)
    · replace h := (if_neg g1).symm.trans h
      obtain ⟨v18, M19, c2, h⟩ := z_bi_c h
      have q2 : z_fr w_X7_both_51 M M19 := z_fr.refl.sub (R_X7_priceOfBoth_51 c2) (by decide)
      obtain ⟨v21, M22, c3, h⟩ := z_bi_c h
      have q3 : z_fr w_X7_both_51 M M22 := q2.sub (R_X7_isLess c3) (by decide)
      by_cases g4 : v21 = 0
      · replace h := (if_pos g4).symm.trans h
        exact q3.trans (ih _ _ _ _ _ _ _ _ _ _ h)
      · replace h := (if_neg g4).symm.trans h
        exact q3.trans (ih _ _ _ _ _ _ _ _ _ _ h)
theorem R_X7_both_51_p45 {K30 : Int32 → Int32 → Int32 → Int32 → Int32 → Int32 → zMM → Option ((Int32 ⊕ Nat) × zMM)}
    (hK30 : ∀ (a0 : Int32) (a1 : Int32) (a2 : Int32) (a3 : Int32) (a4 : Int32) (a5 : Int32) (M M' : zMM) (v : (Int32 ⊕ Nat)), K30 a0 a1 a2 a3 a4 a5 M = some (v, M') → z_fr w_X7_both_51 M M') {n : Nat} {x1 : Int32} {x2 : Int32} {x3 : Int32} {x4 : Int32} {x5 : Int32} {x6 : Int32} {x7 : Int32} {M M' : zMM} {v : (Int32 ⊕ Nat)} (h : f_X7_both_51_p45 K30 n x1 x2 x3 x4 x5 x6 x7 M = some (v, M')) : z_fr w_X7_both_51 M M' := R0_X7_both_51_p45 hK30 _ _ _ _ _ _ _ _ _ _ _ h
theorem R0_X7_both_51_p30 : ∀ (n : Nat) (x1 : Int32) (x2 : Int32) (x3 : Int32) (x4 : Int32) (x5 : Int32) (x6 : Int32) (M M' : zMM) (v : (Int32 ⊕ Nat)), f_X7_both_51_p30  n x1 x2 x3 x4 x5 x6 M = some (v, M') → z_fr w_X7_both_51 M M' := by
  intro n
  induction n with
  | zero => intro x1 x2 x3 x4 x5 x6 M M' v h; cases h
  | succ n ih =>
    intro x1 x2 x3 x4 x5 x6 M M' v h
    replace h : (  if (M 53 11) ≤ x6 then
    if x3 = 0 then
      some (.inl x4, M)
    else
      some (.inl x5, M)
  else
    f_X7_both_51_p45 (f_X7_both_51_p30 n) z_fuel x1 x2 x3 x4 x5 x6 (0 : Int32) M) = some (v, M') := h
    by_cases g1 : (M 53 11) ≤ x6
    · replace h := (if_pos g1).symm.trans h
      by_cases g2 : x3 = 0
      · replace h := (if_pos g2).symm.trans h
        cases h
        exact z_fr.refl
      · replace h := (if_neg g2).symm.trans h
        cases h
        exact z_fr.refl
    · replace h := (if_neg g1).symm.trans h
      exact z_fr.refl.trans (R_X7_both_51_p45 ih h)
theorem R_X7_both_51_p30 {n : Nat} {x1 : Int32} {x2 : Int32} {x3 : Int32} {x4 : Int32} {x5 : Int32} {x6 : Int32} {M M' : zMM} {v : (Int32 ⊕ Nat)} (h : f_X7_both_51_p30  n x1 x2 x3 x4 x5 x6 M = some (v, M')) : z_fr w_X7_both_51 M M' := R0_X7_both_51_p30 _ _ _ _ _ _ _ _ _ _ h
theorem R_X7_both_51 {x1 : Int32} {x2 : Int32} {x3 : Int32} {M M' : zMM} {v : (Int32 ⊕ Nat)} (h : f_X7_both_51 x1 x2 x3 M = some (v, M')) : z_fr w_X7_both_51 M M' := by
  replace h : (  z_bt (f_X7_checkTown_51 x1 M) fun v2 M3 =>
    z_bt (f_X7_checkTown_51 x2 M3) fun v6 M7 =>
      z_bt (f_X7_checkPair x3 M7) fun v10 M11 =>
        if x1 = x2 then
          some (.inl (-1 : Int32), M11)
        else
          f_X7_both_51_p30 z_fuel x1 x2 x3 (-1 : Int32) (-1 : Int32) (0 : Int32) M11) = some (v, M') := h
  rcases z_bt_c h with ⟨v2, M3, c1, h⟩ | ⟨e, c1, -⟩
  · have q1 : z_fr w_X7_both_51 M M3 := z_fr.refl.sub (R_X7_checkTown_51 c1) (by decide)
    rcases z_bt_c h with ⟨v6, M7, c2, h⟩ | ⟨e, c2, -⟩
    · have q2 : z_fr w_X7_both_51 M M7 := q1.sub (R_X7_checkTown_51 c2) (by decide)
      rcases z_bt_c h with ⟨v10, M11, c3, h⟩ | ⟨e, c3, -⟩
      · have q3 : z_fr w_X7_both_51 M M11 := q2.sub (R_X7_checkPair c3) (by decide)
        by_cases g4 : x1 = x2
        · replace h := (if_pos g4).symm.trans h
          cases h
          exact q3
        · replace h := (if_neg g4).symm.trans h
          exact q3.trans (R_X7_both_51_p30 h)
      · exact q2.sub (R_X7_checkPair c3) (by decide)
    · exact q1.sub (R_X7_checkTown_51 c2) (by decide)
  · exact z_fr.refl.sub (R_X7_checkTown_51 c1) (by decide)
def w_X6_span_80 : zWs := ([], [])
theorem R_X6_span_80 {x1 : Int32} {x2 : Int32} {M M' : zMM} {v : Int32} (h : f_X6_span_80 x1 x2 M = some (v, M')) : z_fr w_X6_span_80 M M' := by
  replace h : (  some ((z_at M 81 25 ((x1 * (5 : Int32)) + x2)), M)) = some (v, M') := h
  cases h
  exact z_fr.refl
def w_X5_trainDays_53 : zWs := ([], [])
theorem R_X5_trainDays_53 {x1 : Int32} {x2 : Int32} {M M' : zMM} {v : Int32} (h : f_X5_trainDays_53 x1 x2 M = some (v, M')) : z_fr w_X5_trainDays_53 M M' := by
  replace h : (  some ((z_at M 58 25 ((x1 * (5 : Int32)) + x2)), M)) = some (v, M') := h
  cases h
  exact z_fr.refl
def w_X6_joined : zWs := ([], [])
theorem R_X6_joined {x0 : Int32} {x1 : Int32} {M M' : zMM} {v : Int32} (h : f_X6_joined x0 x1 M = some (v, M')) : z_fr w_X6_joined M M' := by
  replace h : (  if x0 = (-1 : Int32) then
    some ((-1 : Int32), M)
  else
    if x1 = (-1 : Int32) then
      some ((-1 : Int32), M)
    else
      some ((x0 + x1), M)) = some (v, M') := h
  by_cases g1 : x0 = (-1 : Int32)
  · replace h := (if_pos g1).symm.trans h
    cases h
    exact z_fr.refl
  · replace h := (if_neg g1).symm.trans h
    by_cases g2 : x1 = (-1 : Int32)
    · replace h := (if_pos g2).symm.trans h
      cases h
      exact z_fr.refl
    · replace h := (if_neg g2).symm.trans h
      cases h
      exact z_fr.refl
def w_X6_nextStop_80 : zWs := ([], [])
theorem R0_X6_nextStop_80_p2 : ∀ (n : Nat) (x1 : Int32) (x2 : Int32) (x3 : Int32) (M M' : zMM) (v : Int32), f_X6_nextStop_80_p2  n x1 x2 x3 M = some (v, M') → z_fr w_X6_nextStop_80 M M' := by
  intro n
  induction n with
  | zero => intro x1 x2 x3 M M' v h; cases h
  | succ n ih =>
    intro x1 x2 x3 M M' v h
    replace h : (  if (M 53 0) ≤ x3 then
    some (x2, M)
  else
    z_bi (f_X5_trainDays_53 x1 x3 M) fun v3 M4 =>
    z_bi (f_X6_span_80 x3 x2 M4) fun v6 M7 =>
    z_bi (f_X6_joined v3 v6 M7) fun v9 M10 =>
    if v9 = (-1 : Int32) then
      f_X6_nextStop_80_p2 n x1 x2 (x3 + (1 : Int32)) M10
    else
      z_bi (f_X6_span_80 x1 x2 M10) fun v13 M14 =>
      if v9 = v13 then
        some (x3, M14)
      else
        f_X6_nextStop_80_p2 n x1 x2 (x3 + (1 : Int32)) M14) = some (v, M') := h
    by_cases g1 : (M 53 0) ≤ x3
    · replace h := (if_pos g1).symm.trans h
      cases h
      exact z_fr.refl
    · replace h := (if_neg g1).symm.trans h
      obtain ⟨v3, M4, c2, h⟩ := z_bi_c h
      have q2 : z_fr w_X6_nextStop_80 M M4 := z_fr.refl.sub (R_X5_trainDays_53 c2) (by decide)
      obtain ⟨v6, M7, c3, h⟩ := z_bi_c h
      have q3 : z_fr w_X6_nextStop_80 M M7 := q2.sub (R_X6_span_80 c3) (by decide)
      obtain ⟨v9, M10, c4, h⟩ := z_bi_c h
      have q4 : z_fr w_X6_nextStop_80 M M10 := q3.sub (R_X6_joined c4) (by decide)
      by_cases g5 : v9 = (-1 : Int32)
      · replace h := (if_pos g5).symm.trans h
        exact q4.trans (ih _ _ _ _ _ _ h)
      · replace h := (if_neg g5).symm.trans h
        obtain ⟨v13, M14, c6, h⟩ := z_bi_c h
        have q6 : z_fr w_X6_nextStop_80 M M14 := q4.sub (R_X6_span_80 c6) (by decide)
        by_cases g7 : v9 = v13
        · replace h := (if_pos g7).symm.trans h
          cases h
          exact q6
        · replace h := (if_neg g7).symm.trans h
          exact q6.trans (ih _ _ _ _ _ _ h)
theorem R_X6_nextStop_80_p2 {n : Nat} {x1 : Int32} {x2 : Int32} {x3 : Int32} {M M' : zMM} {v : Int32} (h : f_X6_nextStop_80_p2  n x1 x2 x3 M = some (v, M')) : z_fr w_X6_nextStop_80 M M' := R0_X6_nextStop_80_p2 _ _ _ _ _ _ _ h
theorem R_X6_nextStop_80 {x1 : Int32} {x2 : Int32} {M M' : zMM} {v : Int32} (h : f_X6_nextStop_80 x1 x2 M = some (v, M')) : z_fr w_X6_nextStop_80 M M' := by
  replace h : (  f_X6_nextStop_80_p2 z_fuel x1 x2 (0 : Int32) M) = some (v, M') := h
  exact z_fr.refl.trans (R_X6_nextStop_80_p2 h)
def w_X6_lay_80 : zWs := ([], [82])
theorem R0_X6_lay_80_p26 : ∀ (n : Nat) (x2 : Int32) (x3 : Int32) (x4 : Int32) (M M' : zMM) (v : Int32), f_X6_lay_80_p26  n x2 x3 x4 M = some (v, M') → z_fr w_X6_lay_80 M M' := by
  intro n
  induction n with
  | zero => intro x2 x3 x4 M M' v h; cases h
  | succ n ih =>
    intro x2 x3 x4 M M' v h
    replace h : (  if x3 = x2 then
    some (x4, M)
  else
    if (4 : Int32) ≤ x4 then
      some (x4, M)
    else
      z_bi (f_X6_nextStop_80 x3 x2 M) fun v10 M11 =>
      z_bv (some (z_pt M11 82 5 (x4 + (1 : Int32)) v10)) fun M13 =>
      f_X6_lay_80_p26 n x2 v10 (x4 + (1 : Int32)) M13) = some (v, M') := h
    by_cases g1 : x3 = x2
    · replace h := (if_pos g1).symm.trans h
      cases h
      exact z_fr.refl
    · replace h := (if_neg g1).symm.trans h
      by_cases g2 : (4 : Int32) ≤ x4
      · replace h := (if_pos g2).symm.trans h
        cases h
        exact z_fr.refl
      · replace h := (if_neg g2).symm.trans h
        obtain ⟨v10, M11, c3, h⟩ := z_bi_c h
        have q3 : z_fr w_X6_lay_80 M M11 := z_fr.refl.sub (R_X6_nextStop_80 c3) (by decide)
        obtain ⟨M13, c4, h⟩ := z_bv_c h
        have q4 : z_fr w_X6_lay_80 M M13 := Option.some.inj c4 ▸ (q3.pt rfl)
        exact q4.trans (ih _ _ _ _ _ _ h)
theorem R_X6_lay_80_p26 {n : Nat} {x2 : Int32} {x3 : Int32} {x4 : Int32} {M M' : zMM} {v : Int32} (h : f_X6_lay_80_p26  n x2 x3 x4 M = some (v, M')) : z_fr w_X6_lay_80 M M' := R0_X6_lay_80_p26 _ _ _ _ _ _ _ h
theorem R_X6_lay_80 {x1 : Int32} {x2 : Int32} {M M' : zMM} {v : Int32} (h : f_X6_lay_80 x1 x2 M = some (v, M')) : z_fr w_X6_lay_80 M M' := by
  replace h : (  z_bi (f_X6_span_80 x1 x2 M) fun v2 M3 =>
  if v2 = (-1 : Int32) then
    some ((-1 : Int32), M3)
  else
    z_bv (some (z_pt M3 82 5 (0 : Int32) x1)) fun M6 =>
    f_X6_lay_80_p26 z_fuel x2 x1 (0 : Int32) M6) = some (v, M') := h
  obtain ⟨v2, M3, c1, h⟩ := z_bi_c h
  have q1 : z_fr w_X6_lay_80 M M3 := z_fr.refl.sub (R_X6_span_80 c1) (by decide)
  by_cases g2 : v2 = (-1 : Int32)
  · replace h := (if_pos g2).symm.trans h
    cases h
    exact q1
  · replace h := (if_neg g2).symm.trans h
    obtain ⟨M6, c3, h⟩ := z_bv_c h
    have q3 : z_fr w_X6_lay_80 M M6 := Option.some.inj c3 ▸ (q1.pt rfl)
    exact q3.trans (R_X6_lay_80_p26 h)
def w_X7_clerksOf_51 : zWs := ([], [82])
theorem R_X7_clerksOf_51 {x1 : Int32} {x2 : Int32} {M M' : zMM} {v : (Int32 ⊕ Nat)} (h : f_X7_clerksOf_51 x1 x2 M = some (v, M')) : z_fr w_X7_clerksOf_51 M M' := by
  replace h : (  z_bt (f_X7_checkTown_51 x1 M) fun v2 M3 =>
    z_bt (f_X7_checkTown_51 x2 M3) fun v6 M7 =>
      z_bi (f_X6_lay_80 x1 x2 M7) fun v10 M11 =>
      if v10 = (-1 : Int32) then
        some (.inr 0, M11)
      else
        some (.inl v10, M11)) = some (v, M') := h
  rcases z_bt_c h with ⟨v2, M3, c1, h⟩ | ⟨e, c1, -⟩
  · have q1 : z_fr w_X7_clerksOf_51 M M3 := z_fr.refl.sub (R_X7_checkTown_51 c1) (by decide)
    rcases z_bt_c h with ⟨v6, M7, c2, h⟩ | ⟨e, c2, -⟩
    · have q2 : z_fr w_X7_clerksOf_51 M M7 := q1.sub (R_X7_checkTown_51 c2) (by decide)
      obtain ⟨v10, M11, c3, h⟩ := z_bi_c h
      have q3 : z_fr w_X7_clerksOf_51 M M11 := q2.sub (R_X6_lay_80 c3) (by decide)
      by_cases g4 : v10 = (-1 : Int32)
      · replace h := (if_pos g4).symm.trans h
        cases h
        exact q3
      · replace h := (if_neg g4).symm.trans h
        cases h
        exact q3
    · exact q1.sub (R_X7_checkTown_51 c2) (by decide)
  · exact z_fr.refl.sub (R_X7_checkTown_51 c1) (by decide)
def w_X7_checkClerk : zWs := ([], [])
theorem R_X7_checkClerk {x0 : Int32} {x1 : Int32} {M M' : zMM} {v : (Unit ⊕ Nat)} (h : f_X7_checkClerk x0 x1 M = some (v, M')) : z_fr w_X7_checkClerk M M' := by
  replace h : (  if x0 < 0 then
    some (.inr 0, M)
  else
    if x0 < x1 then
      some (.inl (), M)
    else
      some (.inr 0, M)) = some (v, M') := h
  by_cases g1 : x0 < 0
  · replace h := (if_pos g1).symm.trans h
    cases h
    exact z_fr.refl
  · replace h := (if_neg g1).symm.trans h
    by_cases g2 : x0 < x1
    · replace h := (if_pos g2).symm.trans h
      cases h
      exact z_fr.refl
    · replace h := (if_neg g2).symm.trans h
      cases h
      exact z_fr.refl
def w_X6_stop_80 : zWs := ([], [])
theorem R_X6_stop_80 {x1 : Int32} {M M' : zMM} {v : Int32} (h : f_X6_stop_80 x1 M = some (v, M')) : z_fr w_X6_stop_80 M M' := by
  replace h : (  some ((z_at M 82 5 x1), M)) = some (v, M') := h
  cases h
  exact z_fr.refl
def w_X7_clerk_51 : zWs := ([], [82])
theorem R_X7_clerk_51 {x1 : Int32} {x2 : Int32} {x3 : Int32} {M M' : zMM} {v : (Int32 ⊕ Nat)} (h : f_X7_clerk_51 x1 x2 x3 M = some (v, M')) : z_fr w_X7_clerk_51 M M' := by
  replace h : (  z_bt (f_X7_clerksOf_51 x1 x2 M) fun v2 M3 =>
    if x3 = (-1 : Int32) then
      some (.inl v2, M3)
    else
      z_bt (f_X7_checkClerk x3 v2 M3) fun v7 M8 =>
        z_bi (f_X6_stop_80 x3 M8) fun v11 M12 =>
        some (.inl v11, M12)) = some (v, M') := h
  rcases z_bt_c h with ⟨v2, M3, c1, h⟩ | ⟨e, c1, -⟩
  · have q1 : z_fr w_X7_clerk_51 M M3 := z_fr.refl.sub (R_X7_clerksOf_51 c1) (by decide)
    by_cases g2 : x3 = (-1 : Int32)
    · replace h := (if_pos g2).symm.trans h
      cases h
      exact q1
    · replace h := (if_neg g2).symm.trans h
      rcases z_bt_c h with ⟨v7, M8, c3, h⟩ | ⟨e, c3, -⟩
      · have q3 : z_fr w_X7_clerk_51 M M8 := q1.sub (R_X7_checkClerk c3) (by decide)
        obtain ⟨v11, M12, c4, h⟩ := z_bi_c h
        have q4 : z_fr w_X7_clerk_51 M M12 := q3.sub (R_X6_stop_80 c4) (by decide)
        cases h
        exact q4
      · exact q1.sub (R_X7_checkClerk c3) (by decide)
  · exact z_fr.refl.sub (R_X7_clerksOf_51 c1) (by decide)
def w_X0_size_101 : zWs := ([], [])
theorem R_X0_size_101 {M M' : zMM} {v : Int32} (h : f_X0_size_101 M = some (v, M')) : z_fr w_X0_size_101 M M' := by
  replace h : (  some ((M 101 2), M)) = some (v, M') := h
  cases h
  exact z_fr.refl
def w_X7_count_51 : zWs := ([], [])
theorem R_X7_count_51 {x1 : Int32} {M M' : zMM} {v : (Int32 ⊕ Nat)} (h : f_X7_count_51 x1 M = some (v, M')) : z_fr w_X7_count_51 M M' := by
  replace h : (  if x1 = (0 : Int32) then
    some (.inl (M 53 0), M)
  else
    if x1 = (1 : Int32) then
      some (.inl (M 53 6), M)
    else
      if x1 = (2 : Int32) then
        some (.inl (M 53 8), M)
      else
        if x1 = (3 : Int32) then
          some (.inl (M 53 11), M)
        else
          if x1 = (4 : Int32) then
            some (.inl (M 53 16), M)
          else
            if x1 = (5 : Int32) then
              some (.inl (M 87 2), M)
            else
              if x1 = (6 : Int32) then
                some (.inl (M 87 5), M)
              else
                if x1 = (7 : Int32) then
                  z_bi (f_X0_size_101  M) fun v10 M11 =>
                  some (.inl v10, M11)
                else
                  if x1 = (8 : Int32) then
                    if (M 87 3) = 0 then
                      some (.inl (0 : Int32), M)
                    else
                      some (.inl (1 : Int32), M)
                  else
                    if x1 = (9 : Int32) then
                      some (.inl (M 51 1), M)
                    else
                      if x1 = (10 : Int32) then
                        some (.inl (z_at M 93 3 (x1 - (10 : Int32))), M)
                      else
                        if x1 = (11 : Int32) then
                          some (.inl (z_at M 93 3 (x1 - (10 : Int32))), M)
                        else
                          if x1 = (12 : Int32) then
                            some (.inl (z_at M 93 3 (x1 - (10 : Int32))), M)
                          else
                            some (.inr 0, M)) = some (v, M') := h
  by_cases g1 : x1 = (0 : Int32)
  · replace h := (if_pos g1).symm.trans h
    cases h
    exact z_fr.refl
  · replace h := (if_neg g1).symm.trans h
    by_cases g2 : x1 = (1 : Int32)
    · replace h := (if_pos g2).symm.trans h
      cases h
      exact z_fr.refl
    · replace h := (if_neg g2).symm.trans h
      by_cases g3 : x1 = (2 : Int32)
      · replace h := (if_pos g3).symm.trans h
        cases h
        exact z_fr.refl
      · replace h := (if_neg g3).symm.trans h
        by_cases g4 : x1 = (3 : Int32)
        · replace h := (if_pos g4).symm.trans h
          cases h
          exact z_fr.refl
        · replace h := (if_neg g4).symm.trans h
          by_cases g5 : x1 = (4 : Int32)
          · replace h := (if_pos g5).symm.trans h
            cases h
            exact z_fr.refl
          · replace h := (if_neg g5).symm.trans h
            by_cases g6 : x1 = (5 : Int32)
            · replace h := (if_pos g6).symm.trans h
              cases h
              exact z_fr.refl
            · replace h := (if_neg g6).symm.trans h
              by_cases g7 : x1 = (6 : Int32)
              · replace h := (if_pos g7).symm.trans h
                cases h
                exact z_fr.refl
              · replace h := (if_neg g7).symm.trans h
                by_cases g8 : x1 = (7 : Int32)
                · replace h := (if_pos g8).symm.trans h
                  obtain ⟨v10, M11, c9, h⟩ := z_bi_c h
                  have q9 : z_fr w_X7_count_51 M M11 := z_fr.refl.sub (R_X0_size_101 c9) (by decide)
                  cases h
                  exact q9
                · replace h := (if_neg g8).symm.trans h
                  by_cases g10 : x1 = (8 : Int32)
                  · replace h := (if_pos g10).symm.trans h
                    by_cases g11 : (M 87 3) = 0
                    · replace h := (if_pos g11).symm.trans h
                      cases h
                      exact z_fr.refl
                    · replace h := (if_neg g11).symm.trans h
                      cases h
                      exact z_fr.refl
                  · replace h := (if_neg g10).symm.trans h
                    by_cases g12 : x1 = (9 : Int32)
                    · replace h := (if_pos g12).symm.trans h
                      cases h
                      exact z_fr.refl
                    · replace h := (if_neg g12).symm.trans h
                      by_cases g13 : x1 = (10 : Int32)
                      · replace h := (if_pos g13).symm.trans h
                        cases h
                        exact z_fr.refl
                      · replace h := (if_neg g13).symm.trans h
                        by_cases g14 : x1 = (11 : Int32)
                        · replace h := (if_pos g14).symm.trans h
                          cases h
                          exact z_fr.refl
                        · replace h := (if_neg g14).symm.trans h
                          by_cases g15 : x1 = (12 : Int32)
                          · replace h := (if_pos g15).symm.trans h
                            cases h
                            exact z_fr.refl
                          · replace h := (if_neg g15).symm.trans h
                            cases h
                            exact z_fr.refl
def w_X0_keep_101_87 : zWs := ([(101, 1), (101, 2)], [102])
theorem R0_X0_keep_101_87_p98 : ∀ (n : Nat) (x2 : Int32) (x3 : Int32) (M M' : zMM) , f_X0_keep_101_87_p98  n x2 x3 M = some M' → z_fr w_X0_keep_101_87 M M' := by
  intro n
  induction n with
  | zero => intro x2 x3 M M' h; cases h
  | succ n ih =>
    intro x2 x3 M M' h
    replace h : (  if (5 : Int32) ≤ x3 then
    some M
  else
    z_bv (some (z_pt M 102 1300 ((x2 + (3 : Int32)) + ((2 : Int32) * x3)) (z_at M 88 5 x3))) fun M11 =>
    z_bv (some (z_pt M11 102 1300 ((x2 + (4 : Int32)) + ((2 : Int32) * x3)) (z_at M11 89 5 x3))) fun M13 =>
    f_X0_keep_101_87_p98 n x2 (x3 + (1 : Int32)) M13) = some M' := h
    by_cases g1 : (5 : Int32) ≤ x3
    · replace h := (if_pos g1).symm.trans h
      cases h
      exact z_fr.refl
    · replace h := (if_neg g1).symm.trans h
      obtain ⟨M11, c2, h⟩ := z_bv_c h
      have q2 : z_fr w_X0_keep_101_87 M M11 := Option.some.inj c2 ▸ (z_fr.refl.pt rfl)
      obtain ⟨M13, c3, h⟩ := z_bv_c h
      have q3 : z_fr w_X0_keep_101_87 M M13 := Option.some.inj c3 ▸ (q2.pt rfl)
      exact q3.trans (ih _ _ _ _ h)
theorem R_X0_keep_101_87_p98 {n : Nat} {x2 : Int32} {x3 : Int32} {M M' : zMM} (h : f_X0_keep_101_87_p98  n x2 x3 M = some M') : z_fr w_X0_keep_101_87 M M' := R0_X0_keep_101_87_p98 _ _ _ _ _ h
theorem R_X0_keep_101_87_p79 {x2 : Int32} {a0 : Int32} {a1 : Int32} {M M' : zMM} (h : f_X0_keep_101_87_p79 x2 a0 a1 M = some M') : z_fr w_X0_keep_101_87 M M' := by
  replace h : (  z_bv (some (z_pt M 102 1300 a1 a0)) fun M6 =>
  z_bv (some (z_pt M6 102 1300 (x2 + (2 : Int32)) (M6 87 4))) fun M8 =>
  f_X0_keep_101_87_p98 z_fuel x2 (0 : Int32) M8) = some M' := h
  obtain ⟨M6, c1, h⟩ := z_bv_c h
  have q1 : z_fr w_X0_keep_101_87 M M6 := Option.some.inj c1 ▸ (z_fr.refl.pt rfl)
  obtain ⟨M8, c2, h⟩ := z_bv_c h
  have q2 : z_fr w_X0_keep_101_87 M M8 := Option.some.inj c2 ▸ (q1.pt rfl)
  exact q2.trans (R_X0_keep_101_87_p98 h)
theorem R_X0_keep_101_87_p22 {a0 : Int32} {M M' : zMM} (h : f_X0_keep_101_87_p22 a0 M = some M') : z_fr w_X0_keep_101_87 M M' := by
  replace h : (  z_bv (some (z_pt (z_up (z_up M 101 1 a0) 101 2 (z_min ((M 101 2) + (1 : Int32)) (100 : Int32))) 102 1300 (a0 * (13 : Int32)) (M 87 2))) fun M3 =>
  if (M3 87 3) = 0 then
    f_X0_keep_101_87_p79 (a0 * (13 : Int32)) (0 : Int32) ((a0 * (13 : Int32)) + (1 : Int32)) M3
  else
    f_X0_keep_101_87_p79 (a0 * (13 : Int32)) (1 : Int32) ((a0 * (13 : Int32)) + (1 : Int32)) M3) = some M' := h
  obtain ⟨M3, c1, h⟩ := z_bv_c h
  have q1 : z_fr w_X0_keep_101_87 M M3 := Option.some.inj c1 ▸ (((z_fr.refl.up rfl).up rfl).pt rfl)
  by_cases g2 : (M3 87 3) = 0
  · replace h := (if_pos g2).symm.trans h
    exact q1.trans (R_X0_keep_101_87_p79 h)
  · replace h := (if_neg g2).symm.trans h
    exact q1.trans (R_X0_keep_101_87_p79 h)
theorem R_X0_keep_101_87 {M M' : zMM} (h : f_X0_keep_101_87 M = some M') : z_fr w_X0_keep_101_87 M M' := by
  replace h : (  if (100 : Int32) ≤ ((M 101 1) + (1 : Int32)) then
    f_X0_keep_101_87_p22 (0 : Int32) M
  else
    f_X0_keep_101_87_p22 ((M 101 1) + (1 : Int32)) M) = some M' := h
  by_cases g1 : (100 : Int32) ≤ ((M 101 1) + (1 : Int32))
  · replace h := (if_pos g1).symm.trans h
    exact z_fr.refl.trans (R_X0_keep_101_87_p22 h)
  · replace h := (if_neg g1).symm.trans h
    exact z_fr.refl.trans (R_X0_keep_101_87_p22 h)
def w_X7_days_51 : zWs := ([(87, 2), (101, 1), (101, 2)], [102])
theorem R_X7_days_51 {x1 : Int32} {M M' : zMM} {v : (Int32 ⊕ Nat)} (h : f_X7_days_51 x1 M = some (v, M')) : z_fr w_X7_days_51 M M' := by
  replace h : (  if x1 < 0 then
    some (.inr 1, M)
  else
    if x1 ≤ (99 : Int32) then
      z_bv (f_X0_keep_101_87  M) fun M5 =>
      some (.inl ((M5 87 2) + x1), (z_up M5 87 2 ((M5 87 2) + x1)))
    else
      some (.inr 1, M)) = some (v, M') := h
  by_cases g1 : x1 < 0
  · replace h := (if_pos g1).symm.trans h
    cases h
    exact z_fr.refl
  · replace h := (if_neg g1).symm.trans h
    by_cases g2 : x1 ≤ (99 : Int32)
    · replace h := (if_pos g2).symm.trans h
      obtain ⟨M5, c3, h⟩ := z_bv_c h
      have q3 : z_fr w_X7_days_51 M M5 := z_fr.refl.sub (R_X0_keep_101_87 c3) (by decide)
      cases h
      exact (q3.up rfl)
    · replace h := (if_neg g2).symm.trans h
      cases h
      exact z_fr.refl
def w_X7_fault_51 : zWs := ([], [])
theorem R_X7_fault_51 {M M' : zMM} {v : Int32} (h : f_X7_fault_51 M = some (v, M')) : z_fr w_X7_fault_51 M M' := by
  replace h : (  some ((M 51 2), M)) = some (v, M') := h
  cases h
  exact z_fr.refl
def w_X7_putNumber_51 : zWs := ([(51, 1)], [52])
theorem R0_X7_putNumber_51_p3 : ∀ (n : Nat) (x1 : Int32) (x2 : Int32) (M M' : zMM) , f_X7_putNumber_51_p3  n x1 x2 M = some M' → z_fr w_X7_putNumber_51 M M' := by
  intro n
  induction n with
  | zero => intro x1 x2 M M' h; cases h
  | succ n ih =>
    intro x1 x2 M M' h
    replace h : (  if x2 < 0 then
    some M
  else
    if (M 51 1) < 0 then
      f_X7_putNumber_51_p3 n x1 (x2 + (-8 : Int32)) M
    else
      if (700 : Int32) ≤ (M 51 1) then
        f_X7_putNumber_51_p3 n x1 (x2 + (-8 : Int32)) M
      else
        if z_ib (M 51 1) 700 = true then
          f_X7_putNumber_51_p3 n x1 (x2 + (-8 : Int32)) (z_up (z_up M 52 (M 51 1).toNatClampNeg (z_ush x1 x2).toInt8.toInt32.toInt8.toInt32) 51 1 ((M 51 1) + (1 : Int32)))
        else none) = some M' := h
    by_cases g1 : x2 < 0
    · replace h := (if_pos g1).symm.trans h
      cases h
      exact z_fr.refl
    · replace h := (if_neg g1).symm.trans h
      by_cases g2 : (M 51 1) < 0
      · replace h := (if_pos g2).symm.trans h
        exact z_fr.refl.trans (ih _ _ _ _ h)
      · replace h := (if_neg g2).symm.trans h
        by_cases g3 : (700 : Int32) ≤ (M 51 1)
        · replace h := (if_pos g3).symm.trans h
          exact z_fr.refl.trans (ih _ _ _ _ h)
        · replace h := (if_neg g3).symm.trans h
          obtain ⟨g4, h⟩ := z_ifn h
          exact ((z_fr.refl.up rfl).up rfl).trans (ih _ _ _ _ h)
theorem R_X7_putNumber_51_p3 {n : Nat} {x1 : Int32} {x2 : Int32} {M M' : zMM} (h : f_X7_putNumber_51_p3  n x1 x2 M = some M') : z_fr w_X7_putNumber_51 M M' := R0_X7_putNumber_51_p3 _ _ _ _ _ h
theorem R_X7_putNumber_51 {x1 : Int32} {M M' : zMM} (h : f_X7_putNumber_51 x1 M = some M') : z_fr w_X7_putNumber_51 M M' := by
  replace h : (  f_X7_putNumber_51_p3 z_fuel x1 (24 : Int32) M) = some M' := h
  exact z_fr.refl.trans (R_X7_putNumber_51_p3 h)
def w_X7_feed_51 : zWs := ([(51, 1)], [52])
theorem R_X7_feed_51 {x1 : Int32} {x2 : Int32} {x3 : Int32} {x4 : Int32} {x5 : Int32} {M M' : zMM} {v : Int32} (h : f_X7_feed_51 x1 x2 x3 x4 x5 M = some (v, M')) : z_fr w_X7_feed_51 M M' := by
  replace h : (  if (M 51 1) ≤ (680 : Int32) then
    z_bv (f_X7_putNumber_51 x1 M) fun M4 =>
    z_bv (f_X7_putNumber_51 x2 M4) fun M7 =>
    z_bv (f_X7_putNumber_51 x3 M7) fun M10 =>
    z_bv (f_X7_putNumber_51 x4 M10) fun M13 =>
    z_bv (f_X7_putNumber_51 x5 M13) fun M16 =>
    some ((M16 51 1), M16)
  else
    some ((-1 : Int32), M)) = some (v, M') := h
  by_cases g1 : (M 51 1) ≤ (680 : Int32)
  · replace h := (if_pos g1).symm.trans h
    obtain ⟨M4, c2, h⟩ := z_bv_c h
    have q2 : z_fr w_X7_feed_51 M M4 := z_fr.refl.sub (R_X7_putNumber_51 c2) (by decide)
    obtain ⟨M7, c3, h⟩ := z_bv_c h
    have q3 : z_fr w_X7_feed_51 M M7 := q2.sub (R_X7_putNumber_51 c3) (by decide)
    obtain ⟨M10, c4, h⟩ := z_bv_c h
    have q4 : z_fr w_X7_feed_51 M M10 := q3.sub (R_X7_putNumber_51 c4) (by decide)
    obtain ⟨M13, c5, h⟩ := z_bv_c h
    have q5 : z_fr w_X7_feed_51 M M13 := q4.sub (R_X7_putNumber_51 c5) (by decide)
    obtain ⟨M16, c6, h⟩ := z_bv_c h
    have q6 : z_fr w_X7_feed_51 M M16 := q5.sub (R_X7_putNumber_51 c6) (by decide)
    cases h
    exact q6
  · replace h := (if_neg g1).symm.trans h
    cases h
    exact z_fr.refl
def w_X7_checkPlay_51 : zWs := ([], [])
theorem R_X7_checkPlay_51 {x1 : Int32} {M M' : zMM} {v : (Unit ⊕ Nat)} (h : f_X7_checkPlay_51 x1 M = some (v, M')) : z_fr w_X7_checkPlay_51 M M' := by
  replace h : (  if x1 < 0 then
    some (.inr 0, M)
  else
    if x1 < (M 53 11) then
      some (.inl (), M)
    else
      some (.inr 0, M)) = some (v, M') := h
  by_cases g1 : x1 < 0
  · replace h := (if_pos g1).symm.trans h
    cases h
    exact z_fr.refl
  · replace h := (if_neg g1).symm.trans h
    by_cases g2 : x1 < (M 53 11)
    · replace h := (if_pos g2).symm.trans h
      cases h
      exact z_fr.refl
    · replace h := (if_neg g2).symm.trans h
      cases h
      exact z_fr.refl
def w_X2_firstThing_83 : zWs := ([], [85, 86])
theorem R0_X2_firstThing_83_p3 : ∀ (n : Nat) (x1 : Int32) (x2 : Int32) (x3 : Int32) (x4 : Int32) (x5 : Int32) (x6 : Int32) (x7 : Int32) (M M' : zMM) (v : Int32), f_X2_firstThing_83_p3  n x1 x2 x3 x4 x5 x6 x7 M = some (v, M') → z_fr w_X2_firstThing_83 M M' := by
  intro n
  induction n with
  | zero => intro x1 x2 x3 x4 x5 x6 x7 M M' v h; cases h
  | succ n ih =>
    intro x1 x2 x3 x4 x5 x6 x7 M M' v h
    replace h : (  if (M 53 8) ≤ x7 then
    some ((-1 : Int32), M)
  else
    z_bi (f_X5_needOf_53 x1 x3 M) fun v3 M4 =>
    z_bi (f_X5_shameOf_53 (z_at M 60 10 x7) v3 M4) fun v6 M7 =>
    z_bi (f_X7_has x4 x7 M7) fun v9 M10 =>
    if v9 = 0 then
      f_X2_firstThing_83_p3 n x1 x2 x3 x4 x5 x6 (x7 + (1 : Int32)) M10
    else
      if v6 = (-1 : Int32) then
        f_X2_firstThing_83_p3 n x1 x2 x3 x4 x5 x6 (x7 + (1 : Int32)) M10
      else
        z_bi (f_X2_leastPrice_83 x1 x2 (x3 + (1 : Int32)) (x4 &&& (((1 : Int32) <<< (x7 &&& 31)) ^^^ (-1 : Int32))) (-1 : Int32) x5 M10) fun v14 M15 =>
        if v14 = (-1 : Int32) then
          f_X2_firstThing_83_p3 n x1 x2 x3 x4 x5 x6 (x7 + (1 : Int32)) M15
        else
          if (v6 + v14) = x6 then
            some (x7, M15)
          else
            f_X2_firstThing_83_p3 n x1 x2 x3 x4 x5 x6 (x7 + (1 : Int32)) M15) = some (v, M') := h
    by_cases g1 : (M 53 8) ≤ x7
    · replace h := (if_pos g1).symm.trans h
      cases h
      exact z_fr.refl
    · replace h := (if_neg g1).symm.trans h
      obtain ⟨v3, M4, c2, h⟩ := z_bi_c h
      have q2 : z_fr w_X2_firstThing_83 M M4 := z_fr.refl.sub (R_X5_needOf_53 c2) (by decide)
      obtain ⟨v6, M7, c3, h⟩ := z_bi_c h
      have q3 : z_fr w_X2_firstThing_83 M M7 := q2.sub (R_X5_shameOf_53 c3) (by decide)
      obtain ⟨v9, M10, c4, h⟩ := z_bi_c h
      have q4 : z_fr w_X2_firstThing_83 M M10 := q3.sub (R_X7_has c4) (by decide)
      by_cases g5 : v9 = 0
      · replace h := (if_pos g5).symm.trans h
        exact q4.trans (ih _ _ _ _ _ _ _ _ _ _ h)
      · replace h := (if_neg g5).symm.trans h
        by_cases g6 : v6 = (-1 : Int32)
        · replace h := (if_pos g6).symm.trans h
          exact q4.trans (ih _ _ _ _ _ _ _ _ _ _ h)
        · replace h := (if_neg g6).symm.trans h
          obtain ⟨v14, M15, c7, h⟩ := z_bi_c h
          have q7 : z_fr w_X2_firstThing_83 M M15 := q4.sub (R_X2_leastPrice_83 c7) (by decide)
          by_cases g8 : v14 = (-1 : Int32)
          · replace h := (if_pos g8).symm.trans h
            exact q7.trans (ih _ _ _ _ _ _ _ _ _ _ h)
          · replace h := (if_neg g8).symm.trans h
            by_cases g9 : (v6 + v14) = x6
            · replace h := (if_pos g9).symm.trans h
              cases h
              exact q7
            · replace h := (if_neg g9).symm.trans h
              exact q7.trans (ih _ _ _ _ _ _ _ _ _ _ h)
theorem R_X2_firstThing_83_p3 {n : Nat} {x1 : Int32} {x2 : Int32} {x3 : Int32} {x4 : Int32} {x5 : Int32} {x6 : Int32} {x7 : Int32} {M M' : zMM} {v : Int32} (h : f_X2_firstThing_83_p3  n x1 x2 x3 x4 x5 x6 x7 M = some (v, M')) : z_fr w_X2_firstThing_83 M M' := R0_X2_firstThing_83_p3 _ _ _ _ _ _ _ _ _ _ _ h
theorem R_X2_firstThing_83 {x1 : Int32} {x2 : Int32} {x3 : Int32} {x4 : Int32} {x5 : Int32} {x6 : Int32} {M M' : zMM} {v : Int32} (h : f_X2_firstThing_83 x1 x2 x3 x4 x5 x6 M = some (v, M')) : z_fr w_X2_firstThing_83 M M' := by
  replace h : (  f_X2_firstThing_83_p3 z_fuel x1 x2 x3 x4 x5 x6 (0 : Int32) M) = some (v, M') := h
  exact z_fr.refl.trans (R_X2_firstThing_83_p3 h)
def w_X2_filler_83 : zWs := ([], [85, 86])
theorem R0_X2_filler_83_p43 : ∀ (n : Nat) (x1 : Int32) (x2 : Int32) (x4 : Int32) (x5 : Int32) (x6 : Int32) (x7 : Int32) (x8 : Int32) (x9 : Int32) (M M' : zMM) (v : Int32), f_X2_filler_83_p43  n x1 x2 x4 x5 x6 x7 x8 x9 M = some (v, M') → z_fr w_X2_filler_83 M M' := by
  intro n
  induction n with
  | zero => intro x1 x2 x4 x5 x6 x7 x8 x9 M M' v h; cases h
  | succ n ih =>
    intro x1 x2 x4 x5 x6 x7 x8 x9 M M' v h
    replace h : (  if x4 < x9 then
    some (x8, M)
  else
    if (4 : Int32) ≤ x9 then
      some (x8, M)
    else
      z_bi (f_X2_firstThing_83 x1 x2 x9 x7 x5 x6 M) fun v8 M9 =>
      if v8 = (-1 : Int32) then
        f_X2_filler_83_p43 n x1 x2 x4 (x5 + (-1 : Int32)) (x6 - (z_at M9 57 5 x2)) x7 (99 : Int32) (x9 + (1 : Int32)) M9
      else
        z_bi (f_X5_needOf_53 x1 x9 M9) fun v12 M13 =>
        z_bi (f_X5_shameOf_53 (z_at M9 60 10 v8) v12 M13) fun v15 M16 =>
        f_X2_filler_83_p43 n x1 x2 x4 x5 (x6 - v15) (x7 &&& (((1 : Int32) <<< (v8 &&& 31)) ^^^ (-1 : Int32))) v8 (x9 + (1 : Int32)) M16) = some (v, M') := h
    by_cases g1 : x4 < x9
    · replace h := (if_pos g1).symm.trans h
      cases h
      exact z_fr.refl
    · replace h := (if_neg g1).symm.trans h
      by_cases g2 : (4 : Int32) ≤ x9
      · replace h := (if_pos g2).symm.trans h
        cases h
        exact z_fr.refl
      · replace h := (if_neg g2).symm.trans h
        obtain ⟨v8, M9, c3, h⟩ := z_bi_c h
        have q3 : z_fr w_X2_filler_83 M M9 := z_fr.refl.sub (R_X2_firstThing_83 c3) (by decide)
        by_cases g4 : v8 = (-1 : Int32)
        · replace h := (if_pos g4).symm.trans h
          exact q3.trans (ih _ _ _ _ _ _ _ _ _ _ _ h)
        · replace h := (if_neg g4).symm.trans h
          obtain ⟨v12, M13, c5, h⟩ := z_bi_c h
          have q5 : z_fr w_X2_filler_83 M M13 := q3.sub (R_X5_needOf_53 c5) (by decide)
          obtain ⟨v15, M16, c6, h⟩ := z_bi_c h
          have q6 : z_fr w_X2_filler_83 M M16 := q5.sub (R_X5_shameOf_53 c6) (by decide)
          exact q6.trans (ih _ _ _ _ _ _ _ _ _ _ _ h)
theorem R_X2_filler_83_p43 {n : Nat} {x1 : Int32} {x2 : Int32} {x4 : Int32} {x5 : Int32} {x6 : Int32} {x7 : Int32} {x8 : Int32} {x9 : Int32} {M M' : zMM} {v : Int32} (h : f_X2_filler_83_p43  n x1 x2 x4 x5 x6 x7 x8 x9 M = some (v, M')) : z_fr w_X2_filler_83 M M' := R0_X2_filler_83_p43 _ _ _ _ _ _ _ _ _ _ _ _ h
theorem R_X2_filler_83 {x1 : Int32} {x2 : Int32} {x3 : Int32} {x4 : Int32} {M M' : zMM} {v : Int32} (h : f_X2_filler_83 x1 x2 x3 x4 M = some (v, M')) : z_fr w_X2_filler_83 M M' := by
  replace h : (  z_bi (f_X2_leastPrice_83 x1 x2 (0 : Int32) x3 (-1 : Int32) (z_at M 56 5 x2) M) fun v2 M3 =>
  if v2 = (-1 : Int32) then
    some ((-1 : Int32), M3)
  else
    f_X2_filler_83_p43 z_fuel x1 x2 x4 (z_at M 56 5 x2) v2 x3 (-1 : Int32) (0 : Int32) M3) = some (v, M') := h
  obtain ⟨v2, M3, c1, h⟩ := z_bi_c h
  have q1 : z_fr w_X2_filler_83 M M3 := z_fr.refl.sub (R_X2_leastPrice_83 c1) (by decide)
  by_cases g2 : v2 = (-1 : Int32)
  · replace h := (if_pos g2).symm.trans h
    cases h
    exact q1
  · replace h := (if_neg g2).symm.trans h
    exact q1.trans (R_X2_filler_83_p43 h)
def w_X7_filled_51 : zWs := ([], [85, 86])
theorem R_X7_filled_51 {x1 : Int32} {x2 : Int32} {x3 : Int32} {M M' : zMM} {v : (Int32 ⊕ Nat)} (h : f_X7_filled_51 x1 x2 x3 M = some (v, M')) : z_fr w_X7_filled_51 M M' := by
  replace h : (  z_bt (f_X7_checkPlay_51 x1 M) fun v2 M3 =>
    z_bt (f_X7_checkTown_51 x2 M3) fun v6 M7 =>
      if x3 < 0 then
        some (.inr 0, M7)
      else
        if x3 < (z_at M7 63 4 x1) then
          z_bi (f_X4_trunksIn_87 x2 M7) fun v12 M13 =>
          z_bi (f_X5_thingsOf_53 v12 M13) fun v15 M16 =>
          z_bi (f_X2_filler_83 x1 x2 v15 x3 M16) fun v18 M19 =>
          some (.inl v18, M19)
        else
          some (.inr 0, M7)) = some (v, M') := h
  rcases z_bt_c h with ⟨v2, M3, c1, h⟩ | ⟨e, c1, -⟩
  · have q1 : z_fr w_X7_filled_51 M M3 := z_fr.refl.sub (R_X7_checkPlay_51 c1) (by decide)
    rcases z_bt_c h with ⟨v6, M7, c2, h⟩ | ⟨e, c2, -⟩
    · have q2 : z_fr w_X7_filled_51 M M7 := q1.sub (R_X7_checkTown_51 c2) (by decide)
      by_cases g3 : x3 < 0
      · replace h := (if_pos g3).symm.trans h
        cases h
        exact q2
      · replace h := (if_neg g3).symm.trans h
        by_cases g4 : x3 < (z_at M7 63 4 x1)
        · replace h := (if_pos g4).symm.trans h
          obtain ⟨v12, M13, c5, h⟩ := z_bi_c h
          have q5 : z_fr w_X7_filled_51 M M13 := q2.sub (R_X4_trunksIn_87 c5) (by decide)
          obtain ⟨v15, M16, c6, h⟩ := z_bi_c h
          have q6 : z_fr w_X7_filled_51 M M16 := q5.sub (R_X5_thingsOf_53 c6) (by decide)
          obtain ⟨v18, M19, c7, h⟩ := z_bi_c h
          have q7 : z_fr w_X7_filled_51 M M19 := q6.sub (R_X2_filler_83 c7) (by decide)
          cases h
          exact q7
        · replace h := (if_neg g4).symm.trans h
          cases h
          exact q2
    · exact q1.sub (R_X7_checkTown_51 c2) (by decide)
  · exact z_fr.refl.sub (R_X7_checkPlay_51 c1) (by decide)
def w_X7_forget_51 : zWs := ([(87, 5)], [])
theorem R_X7_forget_51 {M M' : zMM} (h : f_X7_forget_51 M = some M') : z_fr w_X7_forget_51 M M' := by
  replace h : (  some (z_up M 87 5 (0 : Int32))) = some M' := h
  cases h
  exact (z_fr.refl.up rfl)
def w_X4_takeFrom_94_87 : zWs := ([(94, 2), (94, 3), (94, 4), (94, 5)], [95, 96, 97, 98, 99, 100])
theorem R_X4_takeFrom_94_87 {M M' : zMM} (h : f_X4_takeFrom_94_87 M = some M') : z_fr w_X4_takeFrom_94_87 M M' := by
  replace h : (  z_bv (some (z_cp M 88 95 5)) fun M2 =>
  z_bv (some (z_cp M2 89 96 5)) fun M4 =>
  if z_zb (M4 87 3) = true then
    z_bv (some (z_cp (z_up (z_up (z_up (z_up M4 94 2 (M4 87 2)) 94 3 (M4 87 3)) 94 4 (M4 87 4)) 94 5 (M4 87 5)) 90 97 4)) fun M7 =>
    z_bv (some (z_cp M7 91 98 4)) fun M9 =>
    z_bv (some (z_cp M9 92 99 4)) fun M11 =>
    z_bv (some (z_cp M11 93 100 3)) fun M13 =>
    some M13
  else none) = some M' := h
  obtain ⟨M2, c1, h⟩ := z_bv_c h
  have q1 : z_fr w_X4_takeFrom_94_87 M M2 := Option.some.inj c1 ▸ (z_fr.refl.cp rfl)
  obtain ⟨M4, c2, h⟩ := z_bv_c h
  have q2 : z_fr w_X4_takeFrom_94_87 M M4 := Option.some.inj c2 ▸ (q1.cp rfl)
  obtain ⟨g3, h⟩ := z_ifn h
  obtain ⟨M7, c4, h⟩ := z_bv_c h
  have q4 : z_fr w_X4_takeFrom_94_87 M M7 := Option.some.inj c4 ▸ (((((q2.up rfl).up rfl).up rfl).up rfl).cp rfl)
  obtain ⟨M9, c5, h⟩ := z_bv_c h
  have q5 : z_fr w_X4_takeFrom_94_87 M M9 := Option.some.inj c5 ▸ (q4.cp rfl)
  obtain ⟨M11, c6, h⟩ := z_bv_c h
  have q6 : z_fr w_X4_takeFrom_94_87 M M11 := Option.some.inj c6 ▸ (q5.cp rfl)
  obtain ⟨M13, c7, h⟩ := z_bv_c h
  have q7 : z_fr w_X4_takeFrom_94_87 M M13 := Option.some.inj c7 ▸ (q6.cp rfl)
  cases h
  exact q7
def w_X7_image_51 : zWs := ([(51, 10), (94, 2), (94, 3), (94, 4), (94, 5)], [95, 96, 97, 98, 99, 100])
theorem R_X7_image_51 {M M' : zMM} (h : f_X7_image_51 M = some M') : z_fr w_X7_image_51 M M' := by
  replace h : (  z_bv (f_X4_takeFrom_94_87  M) fun M3 =>
  some (z_up M3 51 10 (1 : Int32))) = some M' := h
  obtain ⟨M3, c1, h⟩ := z_bv_c h
  have q1 : z_fr w_X7_image_51 M M3 := z_fr.refl.sub (R_X4_takeFrom_94_87 c1) (by decide)
  cases h
  exact (q1.up rfl)
def w_X6_elsewhere_80 : zWs := ([], [])
theorem R0_X6_elsewhere_80_p2 : ∀ (n : Nat) (x1 : Int32) (x2 : Int32) (x3 : Int32) (M M' : zMM) (v : Int32), f_X6_elsewhere_80_p2  n x1 x2 x3 M = some (v, M') → z_fr w_X6_elsewhere_80 M M' := by
  intro n
  induction n with
  | zero => intro x1 x2 x3 M M' v h; cases h
  | succ n ih =>
    intro x1 x2 x3 M M' v h
    replace h : (  if (M 53 0) ≤ x3 then
    some ((-1 : Int32), M)
  else
    if x3 = x2 then
      f_X6_elsewhere_80_p2 n x1 x2 (x3 + (1 : Int32)) M
    else
      z_bi (f_X5_trainDays_53 x1 x3 M) fun v4 M5 =>
      if v4 = (-1 : Int32) then
        f_X6_elsewhere_80_p2 n x1 x2 (x3 + (1 : Int32)) M5
      else
        some (x3, M5)) = some (v, M') := h
    by_cases g1 : (M 53 0) ≤ x3
    · replace h := (if_pos g1).symm.trans h
      cases h
      exact z_fr.refl
    · replace h := (if_neg g1).symm.trans h
      by_cases g2 : x3 = x2
      · replace h := (if_pos g2).symm.trans h
        exact z_fr.refl.trans (ih _ _ _ _ _ _ h)
      · replace h := (if_neg g2).symm.trans h
        obtain ⟨v4, M5, c3, h⟩ := z_bi_c h
        have q3 : z_fr w_X6_elsewhere_80 M M5 := z_fr.refl.sub (R_X5_trainDays_53 c3) (by decide)
        by_cases g4 : v4 = (-1 : Int32)
        · replace h := (if_pos g4).symm.trans h
          exact q3.trans (ih _ _ _ _ _ _ h)
        · replace h := (if_neg g4).symm.trans h
          cases h
          exact q3
theorem R_X6_elsewhere_80_p2 {n : Nat} {x1 : Int32} {x2 : Int32} {x3 : Int32} {M M' : zMM} {v : Int32} (h : f_X6_elsewhere_80_p2  n x1 x2 x3 M = some (v, M')) : z_fr w_X6_elsewhere_80 M M' := R0_X6_elsewhere_80_p2 _ _ _ _ _ _ _ h
theorem R_X6_elsewhere_80 {x1 : Int32} {x2 : Int32} {M M' : zMM} {v : Int32} (h : f_X6_elsewhere_80 x1 x2 M = some (v, M')) : z_fr w_X6_elsewhere_80 M M' := by
  replace h : (  f_X6_elsewhere_80_p2 z_fuel x1 x2 (0 : Int32) M) = some (v, M') := h
  exact z_fr.refl.trans (R_X6_elsewhere_80_p2 h)
def w_X6_loses_80 : zWs := ([], [])
theorem R_X6_loses_80_p49 {x2 : Int32} {a0 : Int32} {M M' : zMM} {v : Int64} (h : f_X6_loses_80_p49 x2 a0 M = some (v, M')) : z_fr w_X6_loses_80 M M' := by
  replace h : (  if a0 = 0 then
    some ((0 : Int64), M)
  else
    some ((z_at M 55 5 x2).toInt64, M)) = some (v, M') := h
  by_cases g1 : a0 = 0
  · replace h := (if_pos g1).symm.trans h
    cases h
    exact z_fr.refl
  · replace h := (if_neg g1).symm.trans h
    cases h
    exact z_fr.refl
theorem R_X6_loses_80_p44 {x2 : Int32} {M M' : zMM} {v : Int64} (h : f_X6_loses_80_p44 x2 M = some (v, M')) : z_fr w_X6_loses_80 M M' := by
  replace h : (  f_X6_loses_80_p49 x2 (1 : Int32) M) = some (v, M') := h
  exact z_fr.refl.trans (R_X6_loses_80_p49 h)
theorem R_X6_loses_80_p48 {x2 : Int32} {M M' : zMM} {v : Int64} (h : f_X6_loses_80_p48 x2 M = some (v, M')) : z_fr w_X6_loses_80 M M' := by
  replace h : (  f_X6_loses_80_p49 x2 (0 : Int32) M) = some (v, M') := h
  exact z_fr.refl.trans (R_X6_loses_80_p49 h)
theorem R_X6_loses_80 {x1 : Int32} {M M' : zMM} {v : Int64} (h : f_X6_loses_80 x1 M = some (v, M')) : z_fr w_X6_loses_80 M M' := by
  replace h : (  z_bi (f_X6_stop_80 x1 M) fun v2 M3 =>
  if (z_at M3 54 5 v2) = (3 : Int32) then
    f_X6_loses_80_p44 v2 M3
  else
    if (z_at M3 54 5 v2) = (1 : Int32) then
      z_bi (f_X6_stop_80 (x1 + (1 : Int32)) M3) fun v8 M9 =>
      z_bi (f_X6_elsewhere_80 v2 v8 M9) fun v11 M12 =>
      if v11 = (-1 : Int32) then
        f_X6_loses_80_p48 v2 M12
      else
        f_X6_loses_80_p44 v2 M12
    else
      f_X6_loses_80_p48 v2 M3) = some (v, M') := h
  obtain ⟨v2, M3, c1, h⟩ := z_bi_c h
  have q1 : z_fr w_X6_loses_80 M M3 := z_fr.refl.sub (R_X6_stop_80 c1) (by decide)
  by_cases g2 : (z_at M3 54 5 v2) = (3 : Int32)
  · replace h := (if_pos g2).symm.trans h
    exact q1.trans (R_X6_loses_80_p44 h)
  · replace h := (if_neg g2).symm.trans h
    by_cases g3 : (z_at M3 54 5 v2) = (1 : Int32)
    · replace h := (if_pos g3).symm.trans h
      obtain ⟨v8, M9, c4, h⟩ := z_bi_c h
      have q4 : z_fr w_X6_loses_80 M M9 := q1.sub (R_X6_stop_80 c4) (by decide)
      obtain ⟨v11, M12, c5, h⟩ := z_bi_c h
      have q5 : z_fr w_X6_loses_80 M M12 := q4.sub (R_X6_elsewhere_80 c5) (by decide)
      by_cases g6 : v11 = (-1 : Int32)
      · replace h := (if_pos g6).symm.trans h
        exact q5.trans (R_X6_loses_80_p48 h)
      · replace h := (if_neg g6).symm.trans h
        exact q5.trans (R_X6_loses_80_p44 h)
    · replace h := (if_neg g3).symm.trans h
      exact q1.trans (R_X6_loses_80_p48 h)
def w_X6_lostShare_80 : zWs := ([], [])
theorem R0_X6_lostShare_80_p5 : ∀ (n : Nat) (x1 : Int32) (x2 : Int32) (y3 : Int64) (x5 : Int32) (M M' : zMM) (v : Int64), f_X6_lostShare_80_p5  n x1 x2 y3 x5 M = some (v, M') → z_fr w_X6_lostShare_80 M M' := by
  intro n
  induction n with
  | zero => intro x1 x2 y3 x5 M M' v h; cases h
  | succ n ih =>
    intro x1 x2 y3 x5 M M' v h
    replace h : (  if x2 ≤ x5 then
    some (y3, M)
  else
    if x1 ≤ x5 then
      if x5 = x1 then
        z_bi (f_X6_loses_80 x5 M) fun v5 M6 =>
        f_X6_lostShare_80_p5 n x1 x2 (y3 * v5) (x5 + (1 : Int32)) M6
      else
        f_X6_lostShare_80_p5 n x1 x2 (y3 * (1000 : Int64)) (x5 + (1 : Int32)) M
    else
      z_bi (f_X6_loses_80 x5 M) fun v8 M9 =>
      f_X6_lostShare_80_p5 n x1 x2 (y3 * ((1000 : Int64) - v8)) (x5 + (1 : Int32)) M9) = some (v, M') := h
    by_cases g1 : x2 ≤ x5
    · replace h := (if_pos g1).symm.trans h
      cases h
      exact z_fr.refl
    · replace h := (if_neg g1).symm.trans h
      by_cases g2 : x1 ≤ x5
      · replace h := (if_pos g2).symm.trans h
        by_cases g3 : x5 = x1
        · replace h := (if_pos g3).symm.trans h
          obtain ⟨v5, M6, c4, h⟩ := z_bi_c h
          have q4 : z_fr w_X6_lostShare_80 M M6 := z_fr.refl.sub (R_X6_loses_80 c4) (by decide)
          exact q4.trans (ih _ _ _ _ _ _ _ h)
        · replace h := (if_neg g3).symm.trans h
          exact z_fr.refl.trans (ih _ _ _ _ _ _ _ h)
      · replace h := (if_neg g2).symm.trans h
        obtain ⟨v8, M9, c5, h⟩ := z_bi_c h
        have q5 : z_fr w_X6_lostShare_80 M M9 := z_fr.refl.sub (R_X6_loses_80 c5) (by decide)
        exact q5.trans (ih _ _ _ _ _ _ _ h)
theorem R_X6_lostShare_80_p5 {n : Nat} {x1 : Int32} {x2 : Int32} {y3 : Int64} {x5 : Int32} {M M' : zMM} {v : Int64} (h : f_X6_lostShare_80_p5  n x1 x2 y3 x5 M = some (v, M')) : z_fr w_X6_lostShare_80 M M' := R0_X6_lostShare_80_p5 _ _ _ _ _ _ _ _ h
theorem R_X6_lostShare_80 {x1 : Int32} {x2 : Int32} {M M' : zMM} {v : Int64} (h : f_X6_lostShare_80 x1 x2 M = some (v, M')) : z_fr w_X6_lostShare_80 M M' := by
  replace h : (  f_X6_lostShare_80_p5 z_fuel x1 x2 (1 : Int64) (0 : Int32) M) = some (v, M') := h
  exact z_fr.refl.trans (R_X6_lostShare_80_p5 h)
def w_X6_lostWhole_80 : zWs := ([], [])
theorem R0_X6_lostWhole_80_p8 : ∀ (n : Nat) (x1 : Int32) (y2 : Int64) (y4 : Int64) (x6 : Int32) (M M' : zMM) (v : Int64), f_X6_lostWhole_80_p8  n x1 y2 y4 x6 M = some (v, M') → z_fr w_X6_lostWhole_80 M M' := by
  intro n
  induction n with
  | zero => intro x1 y2 y4 x6 M M' v h; cases h
  | succ n ih =>
    intro x1 y2 y4 x6 M M' v h
    replace h : (  if x1 ≤ x6 then
    some ((y2 - y4), M)
  else
    z_bi (f_X6_loses_80 x6 M) fun v3 M4 =>
    f_X6_lostWhole_80_p8 n x1 (y2 * (1000 : Int64)) (y4 * ((1000 : Int64) - v3)) (x6 + (1 : Int32)) M4) = some (v, M') := h
    by_cases g1 : x1 ≤ x6
    · replace h := (if_pos g1).symm.trans h
      cases h
      exact z_fr.refl
    · replace h := (if_neg g1).symm.trans h
      obtain ⟨v3, M4, c2, h⟩ := z_bi_c h
      have q2 : z_fr w_X6_lostWhole_80 M M4 := z_fr.refl.sub (R_X6_loses_80 c2) (by decide)
      exact q2.trans (ih _ _ _ _ _ _ _ h)
theorem R_X6_lostWhole_80_p8 {n : Nat} {x1 : Int32} {y2 : Int64} {y4 : Int64} {x6 : Int32} {M M' : zMM} {v : Int64} (h : f_X6_lostWhole_80_p8  n x1 y2 y4 x6 M = some (v, M')) : z_fr w_X6_lostWhole_80 M M' := R0_X6_lostWhole_80_p8 _ _ _ _ _ _ _ _ h
theorem R_X6_lostWhole_80 {x1 : Int32} {M M' : zMM} {v : Int64} (h : f_X6_lostWhole_80 x1 M = some (v, M')) : z_fr w_X6_lostWhole_80 M M' := by
  replace h : (  f_X6_lostWhole_80_p8 z_fuel x1 (1 : Int64) (1 : Int64) (0 : Int32) M) = some (v, M') := h
  exact z_fr.refl.trans (R_X6_lostWhole_80_p8 h)
def w_X7_commonDivisor : zWs := ([], [])
theorem R0_X7_commonDivisor_p3 : ∀ (n : Nat) (y0 : Int64) (y2 : Int64) (x4 : Int32) (M M' : zMM) (v : Int64), f_X7_commonDivisor_p3  n y0 y2 x4 M = some (v, M') → z_fr w_X7_commonDivisor M M' := by
  intro n
  induction n with
  | zero => intro y0 y2 x4 M M' v h; cases h
  | succ n ih =>
    intro y0 y2 x4 M M' v h
    replace h : (  if (100 : Int32) ≤ x4 then
    some (y0, M)
  else
    if (lg_cmp y2 (0 : Int64)) = 0 then
      some (y0, M)
    else
      if ¬ y2 = 0 then
        f_X7_commonDivisor_p3 n y2 (y0 - y0 / y2 * y2) (x4 + (1 : Int32)) M
      else none) = some (v, M') := h
    by_cases g1 : (100 : Int32) ≤ x4
    · replace h := (if_pos g1).symm.trans h
      cases h
      exact z_fr.refl
    · replace h := (if_neg g1).symm.trans h
      by_cases g2 : (lg_cmp y2 (0 : Int64)) = 0
      · replace h := (if_pos g2).symm.trans h
        cases h
        exact z_fr.refl
      · replace h := (if_neg g2).symm.trans h
        obtain ⟨g3, h⟩ := z_ifn h
        exact z_fr.refl.trans (ih _ _ _ _ _ _ h)
theorem R_X7_commonDivisor_p3 {n : Nat} {y0 : Int64} {y2 : Int64} {x4 : Int32} {M M' : zMM} {v : Int64} (h : f_X7_commonDivisor_p3  n y0 y2 x4 M = some (v, M')) : z_fr w_X7_commonDivisor M M' := R0_X7_commonDivisor_p3 _ _ _ _ _ _ _ h
theorem R_X7_commonDivisor {y0 : Int64} {y2 : Int64} {M M' : zMM} {v : Int64} (h : f_X7_commonDivisor y0 y2 M = some (v, M')) : z_fr w_X7_commonDivisor M M' := by
  replace h : (  f_X7_commonDivisor_p3 z_fuel y0 y2 (0 : Int32) M) = some (v, M') := h
  exact z_fr.refl.trans (R_X7_commonDivisor_p3 h)
def w_X7_lost_51 : zWs := ([], [82])
theorem R_X7_lost_51 {x1 : Int32} {x2 : Int32} {x3 : Int32} {x4 : Int32} {M M' : zMM} {v : (Int64 ⊕ Nat)} (h : f_X7_lost_51 x1 x2 x3 x4 M = some (v, M')) : z_fr w_X7_lost_51 M M' := by
  replace h : (  z_bt (f_X7_clerksOf_51 x1 x2 M) fun v2 M3 =>
    z_bt (f_X7_checkClerk x3 v2 M3) fun v6 M7 =>
      z_bt (f_X7_checkPair x4 M7) fun v10 M11 =>
        z_bi (f_X6_lostShare_80 x3 v2 M11) fun v14 M15 =>
        z_bi (f_X6_lostWhole_80 v2 M15) fun v17 M18 =>
        z_bi (f_X7_commonDivisor v17 v14 M18) fun v20 M21 =>
        if (lg_cmp v20 (0 : Int64)) = 0 then
          if x4 = 0 then
            some (.inl (0 : Int64), M21)
          else
            some (.inl (1 : Int64), M21)
        else
          if x4 = 0 then
            if ¬ v20 = 0 then
              some (.inl (v14 / v20), M21)
            else none
          else
            if ¬ v20 = 0 then
              some (.inl (v17 / v20), M21)
            else none) = some (v, M') := h
  rcases z_bt_c h with ⟨v2, M3, c1, h⟩ | ⟨e, c1, -⟩
  · have q1 : z_fr w_X7_lost_51 M M3 := z_fr.refl.sub (R_X7_clerksOf_51 c1) (by decide)
    rcases z_bt_c h with ⟨v6, M7, c2, h⟩ | ⟨e, c2, -⟩
    · have q2 : z_fr w_X7_lost_51 M M7 := q1.sub (R_X7_checkClerk c2) (by decide)
      rcases z_bt_c h with ⟨v10, M11, c3, h⟩ | ⟨e, c3, -⟩
      · have q3 : z_fr w_X7_lost_51 M M11 := q2.sub (R_X7_checkPair c3) (by decide)
        obtain ⟨v14, M15, c4, h⟩ := z_bi_c h
        have q4 : z_fr w_X7_lost_51 M M15 := q3.sub (R_X6_lostShare_80 c4) (by decide)
        obtain ⟨v17, M18, c5, h⟩ := z_bi_c h
        have q5 : z_fr w_X7_lost_51 M M18 := q4.sub (R_X6_lostWhole_80 c5) (by decide)
        obtain ⟨v20, M21, c6, h⟩ := z_bi_c h
        have q6 : z_fr w_X7_lost_51 M M21 := q5.sub (R_X7_commonDivisor c6) (by decide)
        by_cases g7 : (lg_cmp v20 (0 : Int64)) = 0
        · replace h := (if_pos g7).symm.trans h
          by_cases g8 : x4 = 0
          · replace h := (if_pos g8).symm.trans h
            cases h
            exact q6
          · replace h := (if_neg g8).symm.trans h
            cases h
            exact q6
        · replace h := (if_neg g7).symm.trans h
          by_cases g9 : x4 = 0
          · replace h := (if_pos g9).symm.trans h
            obtain ⟨g10, h⟩ := z_ifn h
            cases h
            exact q6
          · replace h := (if_neg g9).symm.trans h
            obtain ⟨g11, h⟩ := z_ifn h
            cases h
            exact q6
      · exact q2.sub (R_X7_checkPair c3) (by decide)
    · exact q1.sub (R_X7_checkClerk c2) (by decide)
  · exact z_fr.refl.sub (R_X7_clerksOf_51 c1) (by decide)
def w_X4_addNight_87 : zWs := ([(87, 5)], [90, 91, 92])
theorem R_X4_addNight_87_p24 {x1 : Int32} {x2 : Int32} {x3 : Int32} {a0 : Int32} {M M' : zMM} {v : Int32} (h : f_X4_addNight_87_p24 x1 x2 x3 a0 M = some (v, M')) : z_fr w_X4_addNight_87 M M' := by
  replace h : (  if (4 : Int32) ≤ (M 87 5) then
    some ((0 : Int32), M)
  else
    if x1 < a0 then
      some ((0 : Int32), M)
    else
      if x1 ≤ (99 : Int32) then
        z_bv (some (z_pt M 90 4 (M 87 5) x1)) fun M6 =>
        z_bv (some (z_pt M6 91 4 (M6 87 5) x2)) fun M8 =>
        z_bv (some (z_pt M8 92 4 (M8 87 5) x3)) fun M10 =>
        some ((1 : Int32), (z_up M10 87 5 ((M10 87 5) + (1 : Int32))))
      else
        some ((0 : Int32), M)) = some (v, M') := h
  by_cases g1 : (4 : Int32) ≤ (M 87 5)
  · replace h := (if_pos g1).symm.trans h
    cases h
    exact z_fr.refl
  · replace h := (if_neg g1).symm.trans h
    by_cases g2 : x1 < a0
    · replace h := (if_pos g2).symm.trans h
      cases h
      exact z_fr.refl
    · replace h := (if_neg g2).symm.trans h
      by_cases g3 : x1 ≤ (99 : Int32)
      · replace h := (if_pos g3).symm.trans h
        obtain ⟨M6, c4, h⟩ := z_bv_c h
        have q4 : z_fr w_X4_addNight_87 M M6 := Option.some.inj c4 ▸ (z_fr.refl.pt rfl)
        obtain ⟨M8, c5, h⟩ := z_bv_c h
        have q5 : z_fr w_X4_addNight_87 M M8 := Option.some.inj c5 ▸ (q4.pt rfl)
        obtain ⟨M10, c6, h⟩ := z_bv_c h
        have q6 : z_fr w_X4_addNight_87 M M10 := Option.some.inj c6 ▸ (q5.pt rfl)
        cases h
        exact (q6.up rfl)
      · replace h := (if_neg g3).symm.trans h
        cases h
        exact z_fr.refl
theorem R_X4_addNight_87 {x1 : Int32} {x2 : Int32} {x3 : Int32} {M M' : zMM} {v : Int32} (h : f_X4_addNight_87 x1 x2 x3 M = some (v, M')) : z_fr w_X4_addNight_87 M M' := by
  replace h : (  if (M 87 5) ≤ 0 then
    f_X4_addNight_87_p24 x1 x2 x3 (0 : Int32) M
  else
    f_X4_addNight_87_p24 x1 x2 x3 (z_at M 90 4 ((M 87 5) - (1 : Int32))) M) = some (v, M') := h
  by_cases g1 : (M 87 5) ≤ 0
  · replace h := (if_pos g1).symm.trans h
    exact z_fr.refl.trans (R_X4_addNight_87_p24 h)
  · replace h := (if_neg g1).symm.trans h
    exact z_fr.refl.trans (R_X4_addNight_87_p24 h)
def w_X4_refuse_87 : zWs := ([], [93])
theorem R_X4_refuse_87 {x1 : Int32} {M M' : zMM} (h : f_X4_refuse_87 x1 M = some M') : z_fr w_X4_refuse_87 M M' := by
  replace h : (  z_bv (some (z_pt M 93 3 x1 ((z_at M 93 3 x1) + (1 : Int32)))) fun M2 =>
  some M2) = some M' := h
  obtain ⟨M2, c1, h⟩ := z_bv_c h
  have q1 : z_fr w_X4_refuse_87 M M2 := Option.some.inj c1 ▸ (z_fr.refl.pt rfl)
  cases h
  exact q1
def w_X7_night_51 : zWs := ([(87, 5)], [90, 91, 92, 93])
theorem R_X7_night_51 {x1 : Int32} {x2 : Int32} {x3 : Int32} {M M' : zMM} {v : (Int32 ⊕ Nat)} (h : f_X7_night_51 x1 x2 x3 M = some (v, M')) : z_fr w_X7_night_51 M M' := by
  replace h : (  z_bt (f_X7_checkTown_51 x2 M) fun v2 M3 =>
    z_bt (f_X7_checkPlay_51 x3 M3) fun v6 M7 =>
      z_bi (f_X4_addNight_87 x1 x2 x3 M7) fun v10 M11 =>
      if v10 = 0 then
        z_bv (f_X4_refuse_87 (2 : Int32) M11) fun M15 =>
        some (.inl (-1 : Int32), M15)
      else
        some (.inl (M11 87 5), M11)) = some (v, M') := h
  rcases z_bt_c h with ⟨v2, M3, c1, h⟩ | ⟨e, c1, -⟩
  · have q1 : z_fr w_X7_night_51 M M3 := z_fr.refl.sub (R_X7_checkTown_51 c1) (by decide)
    rcases z_bt_c h with ⟨v6, M7, c2, h⟩ | ⟨e, c2, -⟩
    · have q2 : z_fr w_X7_night_51 M M7 := q1.sub (R_X7_checkPlay_51 c2) (by decide)
      obtain ⟨v10, M11, c3, h⟩ := z_bi_c h
      have q3 : z_fr w_X7_night_51 M M11 := q2.sub (R_X4_addNight_87 c3) (by decide)
      by_cases g4 : v10 = 0
      · replace h := (if_pos g4).symm.trans h
        obtain ⟨M15, c5, h⟩ := z_bv_c h
        have q5 : z_fr w_X7_night_51 M M15 := q3.sub (R_X4_refuse_87 c5) (by decide)
        cases h
        exact q5
      · replace h := (if_neg g4).symm.trans h
        cases h
        exact q3
    · exact q1.sub (R_X7_checkPlay_51 c2) (by decide)
  · exact z_fr.refl.sub (R_X7_checkTown_51 c1) (by decide)
def w_X2_byThings_83 : zWs := ([], [85, 86])
theorem R_X2_byThings_83 {x1 : Int32} {x2 : Int32} {x3 : Int32} {x4 : Int32} {M M' : zMM} {v : Int32} (h : f_X2_byThings_83 x1 x2 x3 x4 M = some (v, M')) : z_fr w_X2_byThings_83 M M' := by
  replace h : (  z_bi (f_X2_leastPrice_83 x1 x2 (0 : Int32) x3 x4 (z_at M 56 5 x2) M) fun v2 M3 =>
  some (v2, M3)) = some (v, M') := h
  obtain ⟨v2, M3, c1, h⟩ := z_bi_c h
  have q1 : z_fr w_X2_byThings_83 M M3 := z_fr.refl.sub (R_X2_leastPrice_83 c1) (by decide)
  cases h
  exact q1
def w_X7_price_51 : zWs := ([], [85, 86])
theorem R_X7_price_51 {x1 : Int32} {x2 : Int32} {x3 : Int32} {M M' : zMM} {v : (Int32 ⊕ Nat)} (h : f_X7_price_51 x1 x2 x3 M = some (v, M')) : z_fr w_X7_price_51 M M' := by
  replace h : (  z_bt (f_X7_checkPlay_51 x1 M) fun v2 M3 =>
    z_bt (f_X7_checkTown_51 x2 M3) fun v6 M7 =>
      z_bi (f_X7_lowBits (M7 53 8) M7) fun v10 M11 =>
      if (x3 &&& (v10 ^^^ (-1 : Int32))) = 0 then
        z_bi (f_X2_byThings_83 x1 x2 x3 (-1 : Int32) M11) fun v14 M15 =>
        some (.inl v14, M15)
      else
        some (.inr 1, M11)) = some (v, M') := h
  rcases z_bt_c h with ⟨v2, M3, c1, h⟩ | ⟨e, c1, -⟩
  · have q1 : z_fr w_X7_price_51 M M3 := z_fr.refl.sub (R_X7_checkPlay_51 c1) (by decide)
    rcases z_bt_c h with ⟨v6, M7, c2, h⟩ | ⟨e, c2, -⟩
    · have q2 : z_fr w_X7_price_51 M M7 := q1.sub (R_X7_checkTown_51 c2) (by decide)
      obtain ⟨v10, M11, c3, h⟩ := z_bi_c h
      have q3 : z_fr w_X7_price_51 M M11 := q2.sub (R_X7_lowBits c3) (by decide)
      by_cases g4 : (x3 &&& (v10 ^^^ (-1 : Int32))) = 0
      · replace h := (if_pos g4).symm.trans h
        obtain ⟨v14, M15, c5, h⟩ := z_bi_c h
        have q5 : z_fr w_X7_price_51 M M15 := q3.sub (R_X2_byThings_83 c5) (by decide)
        cases h
        exact q5
      · replace h := (if_neg g4).symm.trans h
        cases h
        exact q3
    · exact q1.sub (R_X7_checkTown_51 c2) (by decide)
  · exact z_fr.refl.sub (R_X7_checkPlay_51 c1) (by decide)
def w_X4_takeFrom_87_94 : zWs := ([(87, 2), (87, 3), (87, 4), (87, 5)], [88, 89, 90, 91, 92, 93])
theorem R_X4_takeFrom_87_94 {M M' : zMM} (h : f_X4_takeFrom_87_94 M = some M') : z_fr w_X4_takeFrom_87_94 M M' := by
  replace h : (  z_bv (some (z_cp M 95 88 5)) fun M2 =>
  z_bv (some (z_cp M2 96 89 5)) fun M4 =>
  if z_zb (M4 94 3) = true then
    z_bv (some (z_cp (z_up (z_up (z_up (z_up M4 87 2 (M4 94 2)) 87 3 (M4 94 3)) 87 4 (M4 94 4)) 87 5 (M4 94 5)) 97 90 4)) fun M7 =>
    z_bv (some (z_cp M7 98 91 4)) fun M9 =>
    z_bv (some (z_cp M9 99 92 4)) fun M11 =>
    z_bv (some (z_cp M11 100 93 3)) fun M13 =>
    some M13
  else none) = some M' := h
  obtain ⟨M2, c1, h⟩ := z_bv_c h
  have q1 : z_fr w_X4_takeFrom_87_94 M M2 := Option.some.inj c1 ▸ (z_fr.refl.cp rfl)
  obtain ⟨M4, c2, h⟩ := z_bv_c h
  have q2 : z_fr w_X4_takeFrom_87_94 M M4 := Option.some.inj c2 ▸ (q1.cp rfl)
  obtain ⟨g3, h⟩ := z_ifn h
  obtain ⟨M7, c4, h⟩ := z_bv_c h
  have q4 : z_fr w_X4_takeFrom_87_94 M M7 := Option.some.inj c4 ▸ (((((q2.up rfl).up rfl).up rfl).up rfl).cp rfl)
  obtain ⟨M9, c5, h⟩ := z_bv_c h
  have q5 : z_fr w_X4_takeFrom_87_94 M M9 := Option.some.inj c5 ▸ (q4.cp rfl)
  obtain ⟨M11, c6, h⟩ := z_bv_c h
  have q6 : z_fr w_X4_takeFrom_87_94 M M11 := Option.some.inj c6 ▸ (q5.cp rfl)
  obtain ⟨M13, c7, h⟩ := z_bv_c h
  have q7 : z_fr w_X4_takeFrom_87_94 M M13 := Option.some.inj c7 ▸ (q6.cp rfl)
  cases h
  exact q7
def w_X0_clear_101 : zWs := ([(101, 2)], [])
theorem R_X0_clear_101 {M M' : zMM} (h : f_X0_clear_101 M = some M') : z_fr w_X0_clear_101 M M' := by
  replace h : (  some (z_up M 101 2 (0 : Int32))) = some M' := h
  cases h
  exact (z_fr.refl.up rfl)
def w_X7_restore_51 : zWs := ([(87, 2), (87, 3), (87, 4), (87, 5), (101, 2)], [88, 89, 90, 91, 92, 93])
theorem R_X7_restore_51 {M M' : zMM} {v : Int32} (h : f_X7_restore_51 M = some (v, M')) : z_fr w_X7_restore_51 M M' := by
  replace h : (  if (M 51 10) = 0 then
    some ((0 : Int32), M)
  else
    z_bv (f_X4_takeFrom_87_94  M) fun M4 =>
    z_bv (f_X0_clear_101  M4) fun M7 =>
    some ((1 : Int32), M7)) = some (v, M') := h
  by_cases g1 : (M 51 10) = 0
  · replace h := (if_pos g1).symm.trans h
    cases h
    exact z_fr.refl
  · replace h := (if_neg g1).symm.trans h
    obtain ⟨M4, c2, h⟩ := z_bv_c h
    have q2 : z_fr w_X7_restore_51 M M4 := z_fr.refl.sub (R_X4_takeFrom_87_94 c2) (by decide)
    obtain ⟨M7, c3, h⟩ := z_bv_c h
    have q3 : z_fr w_X7_restore_51 M M7 := q2.sub (R_X0_clear_101 c3) (by decide)
    cases h
    exact q3
def w_X7_checkTrunk_51 : zWs := ([], [])
theorem R_X7_checkTrunk_51 {x1 : Int32} {M M' : zMM} {v : (Unit ⊕ Nat)} (h : f_X7_checkTrunk_51 x1 M = some (v, M')) : z_fr w_X7_checkTrunk_51 M M' := by
  replace h : (  if x1 < 0 then
    some (.inr 0, M)
  else
    if x1 < (M 53 6) then
      some (.inl (), M)
    else
      some (.inr 0, M)) = some (v, M') := h
  by_cases g1 : x1 < 0
  · replace h := (if_pos g1).symm.trans h
    cases h
    exact z_fr.refl
  · replace h := (if_neg g1).symm.trans h
    by_cases g2 : x1 < (M 53 6)
    · replace h := (if_pos g2).symm.trans h
      cases h
      exact z_fr.refl
    · replace h := (if_neg g2).symm.trans h
      cases h
      exact z_fr.refl
def w_X1_hasPlan_103 : zWs := ([], [])
theorem R_X1_hasPlan_103 {M M' : zMM} {v : Int32} (h : f_X1_hasPlan_103 M = some (v, M')) : z_fr w_X1_hasPlan_103 M M' := by
  replace h : (  if z_zb (M 103 7) = true then some ((M 103 7), M) else none) = some (v, M') := h
  obtain ⟨g1, h⟩ := z_ifn h
  cases h
  exact z_fr.refl
def w_X1_nightsOf_103 : zWs := ([], [])
theorem R_X1_nightsOf_103 {x1 : Int32} {M M' : zMM} {v : Int32} (h : f_X1_nightsOf_103 x1 M = some (v, M')) : z_fr w_X1_nightsOf_103 M M' := by
  replace h : (  some ((z_at M 106 5 x1), M)) = some (v, M') := h
  cases h
  exact z_fr.refl
def w_X7_rides_51 : zWs := ([], [])
theorem R_X7_rides_51 {x1 : Int32} {M M' : zMM} {v : (Int32 ⊕ Nat)} (h : f_X7_rides_51 x1 M = some (v, M')) : z_fr w_X7_rides_51 M M' := by
  replace h : (  z_bt (f_X7_checkTrunk_51 x1 M) fun v2 M3 =>
    z_bi (f_X1_hasPlan_103  M3) fun v6 M7 =>
    if v6 = 0 then
      some (.inr 0, M7)
    else
      z_bi (f_X1_nightsOf_103 x1 M7) fun v10 M11 =>
      some (.inl v10, M11)) = some (v, M') := h
  rcases z_bt_c h with ⟨v2, M3, c1, h⟩ | ⟨e, c1, -⟩
  · have q1 : z_fr w_X7_rides_51 M M3 := z_fr.refl.sub (R_X7_checkTrunk_51 c1) (by decide)
    obtain ⟨v6, M7, c2, h⟩ := z_bi_c h
    have q2 : z_fr w_X7_rides_51 M M7 := q1.sub (R_X1_hasPlan_103 c2) (by decide)
    by_cases g3 : v6 = 0
    · replace h := (if_pos g3).symm.trans h
      cases h
      exact q2
    · replace h := (if_neg g3).symm.trans h
      obtain ⟨v10, M11, c4, h⟩ := z_bi_c h
      have q4 : z_fr w_X7_rides_51 M M11 := q2.sub (R_X1_nightsOf_103 c4) (by decide)
      cases h
      exact q4
  · exact z_fr.refl.sub (R_X7_checkTrunk_51 c1) (by decide)
def w_X7_seed_51 : zWs := ([(87, 3), (87, 4)], [])
theorem R_X7_seed_51 {x1 : Int32} {M M' : zMM} (h : f_X7_seed_51 x1 M = some M') : z_fr w_X7_seed_51 M M' := by
  replace h : (  some (z_up (z_up M 87 3 (1 : Int32)) 87 4 x1)) = some M' := h
  cases h
  exact ((z_fr.refl.up rfl).up rfl)
def w_X4_place_87 : zWs := ([], [88, 89])
theorem R_X4_place_87 {x1 : Int32} {x2 : Int32} {x3 : Int32} {M M' : zMM} (h : f_X4_place_87 x1 x2 x3 M = some M') : z_fr w_X4_place_87 M M' := by
  replace h : (  z_bv (some (z_pt M 88 5 x1 x2)) fun M2 =>
  z_bv (some (z_pt M2 89 5 x1 x3)) fun M4 =>
  some M4) = some M' := h
  obtain ⟨M2, c1, h⟩ := z_bv_c h
  have q1 : z_fr w_X4_place_87 M M2 := Option.some.inj c1 ▸ (z_fr.refl.pt rfl)
  obtain ⟨M4, c2, h⟩ := z_bv_c h
  have q2 : z_fr w_X4_place_87 M M4 := Option.some.inj c2 ▸ (q1.pt rfl)
  cases h
  exact q2
def w_X4_draw_87 : zWs := ([(87, 4)], [])
theorem R_X4_draw_87 {x1 : Int32} {M M' : zMM} {v : Int32} (h : f_X4_draw_87 x1 M = some (v, M')) : z_fr w_X4_draw_87 M M' := by
  replace h : (  if x1 ≤ 0 then
    some ((0 : Int32), (z_up M 87 4 (((M 87 4) * (1103515245 : Int32)) + (12345 : Int32))))
  else
    if ¬ x1 = 0 then
      some ((((z_ush (((M 87 4) * (1103515245 : Int32)) + (12345 : Int32)) (16 : Int32)) &&& (32767 : Int32)) - ((z_ush (((M 87 4) * (1103515245 : Int32)) + (12345 : Int32)) (16 : Int32)) &&& (32767 : Int32)) / x1 * x1), (z_up M 87 4 (((M 87 4) * (1103515245 : Int32)) + (12345 : Int32))))
    else none) = some (v, M') := h
  by_cases g1 : x1 ≤ 0
  · replace h := (if_pos g1).symm.trans h
    cases h
    exact (z_fr.refl.up rfl)
  · replace h := (if_neg g1).symm.trans h
    obtain ⟨g2, h⟩ := z_ifn h
    cases h
    exact (z_fr.refl.up rfl)
def w_X7_ride_51 : zWs := ([(87, 4)], [88, 89])
theorem R_X7_ride_51_p115 {K11 : Int32 → Int32 → Int32 → Int32 → zMM → Option zMM} {x1 : Int32} {x2 : Int32} {x3 : Int32} {x4 : Int32} {x5 : Int32} {x6 : Int32} {x7 : Int32} {a0 : Int32}
    (hK11 : ∀ (a0 : Int32) (a1 : Int32) (a2 : Int32) (a3 : Int32) (M M' : zMM), K11 a0 a1 a2 a3 M = some M' → z_fr w_X7_ride_51 M M') {M M' : zMM} (h : f_X7_ride_51_p115 K11 x1 x2 x3 x4 x5 x6 x7 a0 M = some M') : z_fr w_X7_ride_51 M M' := by
  replace h : (  if x7 = (3 : Int32) then
    z_bv (f_X4_place_87 x1 x5 x3 M) fun M22 =>
    some M22
  else
    if a0 = (-1 : Int32) then
      z_bi (f_X5_trainDays_53 x5 x6 M) fun v25 M26 =>
      if x7 = (2 : Int32) then
        K11 x1 x2 (x3 + (v25 + (1 : Int32))) (x4 + (1 : Int32)) M26
      else
        K11 x1 x2 (x3 + (v25 + (0 : Int32))) (x4 + (1 : Int32)) M26
    else
      z_bi (f_X5_trainDays_53 x5 a0 M) fun v29 M30 =>
      z_bv (f_X4_place_87 x1 a0 (x3 + v29) M30) fun M33 =>
      some M33) = some M' := h
  by_cases g1 : x7 = (3 : Int32)
  · replace h := (if_pos g1).symm.trans h
    obtain ⟨M22, c2, h⟩ := z_bv_c h
    have q2 : z_fr w_X7_ride_51 M M22 := z_fr.refl.sub (R_X4_place_87 c2) (by decide)
    cases h
    exact q2
  · replace h := (if_neg g1).symm.trans h
    by_cases g3 : a0 = (-1 : Int32)
    · replace h := (if_pos g3).symm.trans h
      obtain ⟨v25, M26, c4, h⟩ := z_bi_c h
      have q4 : z_fr w_X7_ride_51 M M26 := z_fr.refl.sub (R_X5_trainDays_53 c4) (by decide)
      by_cases g5 : x7 = (2 : Int32)
      · replace h := (if_pos g5).symm.trans h
        exact q4.trans (hK11 _ _ _ _ _ _ h)
      · replace h := (if_neg g5).symm.trans h
        exact q4.trans (hK11 _ _ _ _ _ _ h)
    · replace h := (if_neg g3).symm.trans h
      obtain ⟨v29, M30, c6, h⟩ := z_bi_c h
      have q6 : z_fr w_X7_ride_51 M M30 := z_fr.refl.sub (R_X5_trainDays_53 c6) (by decide)
      obtain ⟨M33, c7, h⟩ := z_bv_c h
      have q7 : z_fr w_X7_ride_51 M M33 := q6.sub (R_X4_place_87 c7) (by decide)
      cases h
      exact q7
theorem R_X7_ride_51_p92 {K11 : Int32 → Int32 → Int32 → Int32 → zMM → Option zMM} {x1 : Int32} {x2 : Int32} {x3 : Int32} {x4 : Int32} {x5 : Int32} {x6 : Int32} {a0 : Int32}
    (hK11 : ∀ (a0 : Int32) (a1 : Int32) (a2 : Int32) (a3 : Int32) (M M' : zMM), K11 a0 a1 a2 a3 M = some M' → z_fr w_X7_ride_51 M M') {M M' : zMM} (h : f_X7_ride_51_p92 K11 x1 x2 x3 x4 x5 x6 a0 M = some M') : z_fr w_X7_ride_51 M M' := by
  replace h : (  if a0 = (1 : Int32) then
    z_bi (f_X6_elsewhere_80 x5 x6 M) fun v17 M18 =>
    f_X7_ride_51_p115 K11 x1 x2 x3 x4 x5 x6 a0 v17 M18
  else
    f_X7_ride_51_p115 K11 x1 x2 x3 x4 x5 x6 a0 (-1 : Int32) M) = some M' := h
  by_cases g1 : a0 = (1 : Int32)
  · replace h := (if_pos g1).symm.trans h
    obtain ⟨v17, M18, c2, h⟩ := z_bi_c h
    have q2 : z_fr w_X7_ride_51 M M18 := z_fr.refl.sub (R_X6_elsewhere_80 c2) (by decide)
    exact q2.trans (R_X7_ride_51_p115 hK11 h)
  · replace h := (if_neg g1).symm.trans h
    exact z_fr.refl.trans (R_X7_ride_51_p115 hK11 h)
theorem R_X7_ride_51_p91 {K11 : Int32 → Int32 → Int32 → Int32 → zMM → Option zMM} {x1 : Int32} {x2 : Int32} {x3 : Int32} {x4 : Int32} {x5 : Int32} {x6 : Int32}
    (hK11 : ∀ (a0 : Int32) (a1 : Int32) (a2 : Int32) (a3 : Int32) (M M' : zMM), K11 a0 a1 a2 a3 M = some M' → z_fr w_X7_ride_51 M M') {M M' : zMM} (h : f_X7_ride_51_p91 K11 x1 x2 x3 x4 x5 x6 M = some M') : z_fr w_X7_ride_51 M M' := by
  replace h : (  f_X7_ride_51_p92 K11 x1 x2 x3 x4 x5 x6 (0 : Int32) M) = some M' := h
  exact z_fr.refl.trans (R_X7_ride_51_p92 hK11 h)
theorem R0_X7_ride_51_p11 : ∀ (n : Nat) (x1 : Int32) (x2 : Int32) (x3 : Int32) (x4 : Int32) (M M' : zMM) , f_X7_ride_51_p11  n x1 x2 x3 x4 M = some M' → z_fr w_X7_ride_51 M M' := by
  intro n
  induction n with
  | zero => intro x1 x2 x3 x4 M M' h; cases h
  | succ n ih =>
    intro x1 x2 x3 x4 M M' h
    replace h : (  if x2 ≤ x4 then
    z_bi (f_X6_stop_80 x2 M) fun v3 M4 =>
    z_bv (f_X4_place_87 x1 v3 x3 M4) fun M7 =>
    some M7
  else
    z_bi (f_X6_stop_80 x4 M) fun v9 M10 =>
    z_bi (f_X6_stop_80 (x4 + (1 : Int32)) M10) fun v12 M13 =>
    if (M13 87 3) = 0 then
      f_X7_ride_51_p91 (f_X7_ride_51_p11 n) x1 x2 x3 x4 v9 v12 M13
    else
      z_bi (f_X4_draw_87 (1000 : Int32) M13) fun v35 M36 =>
      if (z_at M36 55 5 v9) ≤ v35 then
        f_X7_ride_51_p91 (f_X7_ride_51_p11 n) x1 x2 x3 x4 v9 v12 M36
      else
        f_X7_ride_51_p92 (f_X7_ride_51_p11 n) x1 x2 x3 x4 v9 v12 (z_at M36 54 5 v9) M36) = some M' := h
    by_cases g1 : x2 ≤ x4
    · replace h := (if_pos g1).symm.trans h
      obtain ⟨v3, M4, c2, h⟩ := z_bi_c h
      have q2 : z_fr w_X7_ride_51 M M4 := z_fr.refl.sub (R_X6_stop_80 c2) (by decide)
      obtain ⟨M7, c3, h⟩ := z_bv_c h
      have q3 : z_fr w_X7_ride_51 M M7 := q2.sub (R_X4_place_87 c3) (by decide)
      cases h
      exact q3
    · replace h := (if_neg g1).symm.trans h
      obtain ⟨v9, M10, c4, h⟩ := z_bi_c h
      have q4 : z_fr w_X7_ride_51 M M10 := z_fr.refl.sub (R_X6_stop_80 c4) (by decide)
      obtain ⟨v12, M13, c5, h⟩ := z_bi_c h
      have q5 : z_fr w_X7_ride_51 M M13 := q4.sub (R_X6_stop_80 c5) (by decide)
      by_cases g6 : (M13 87 3) = 0
      · replace h := (if_pos g6).symm.trans h
        exact q5.trans (R_X7_ride_51_p91 ih h)
      · replace h := (if_neg g6).symm.trans h
        obtain ⟨v35, M36, c7, h⟩ := z_bi_c h
        have q7 : z_fr w_X7_ride_51 M M36 := q5.sub (R_X4_draw_87 c7) (by decide)
        by_cases g8 : (z_at M36 55 5 v9) ≤ v35
        · replace h := (if_pos g8).symm.trans h
          exact q7.trans (R_X7_ride_51_p91 ih h)
        · replace h := (if_neg g8).symm.trans h
          exact q7.trans (R_X7_ride_51_p92 ih h)
theorem R_X7_ride_51_p11 {n : Nat} {x1 : Int32} {x2 : Int32} {x3 : Int32} {x4 : Int32} {M M' : zMM} (h : f_X7_ride_51_p11  n x1 x2 x3 x4 M = some M') : z_fr w_X7_ride_51 M M' := R0_X7_ride_51_p11 _ _ _ _ _ _ _ h
theorem R_X7_ride_51 {x1 : Int32} {x2 : Int32} {M M' : zMM} (h : f_X7_ride_51 x1 x2 M = some M') : z_fr w_X7_ride_51 M M' := by
  replace h : (  f_X7_ride_51_p11 z_fuel x1 x2 (M 87 2) (0 : Int32) M) = some M' := h
  exact z_fr.refl.trans (R_X7_ride_51_p11 h)
def w_X7_send_51 : zWs := ([(87, 4), (101, 1), (101, 2)], [82, 88, 89, 93, 102])
theorem R_X7_send_51_p51 {x1 : Int32} {a0 : Int32} {M M' : zMM} {v : (Int32 ⊕ Nat)} (h : f_X7_send_51_p51 x1 a0 M = some (v, M')) : z_fr w_X7_send_51 M M' := by
  replace h : (  if a0 = (-1 : Int32) then
    z_bv (f_X4_refuse_87 (1 : Int32) M) fun M16 =>
    some (.inl (-1 : Int32), M16)
  else
    z_bv (f_X0_keep_101_87  M) fun M19 =>
    z_bv (f_X7_ride_51 x1 a0 M19) fun M22 =>
    some (.inl (z_at M22 89 5 x1), M22)) = some (v, M') := h
  by_cases g1 : a0 = (-1 : Int32)
  · replace h := (if_pos g1).symm.trans h
    obtain ⟨M16, c2, h⟩ := z_bv_c h
    have q2 : z_fr w_X7_send_51 M M16 := z_fr.refl.sub (R_X4_refuse_87 c2) (by decide)
    cases h
    exact q2
  · replace h := (if_neg g1).symm.trans h
    obtain ⟨M19, c3, h⟩ := z_bv_c h
    have q3 : z_fr w_X7_send_51 M M19 := z_fr.refl.sub (R_X0_keep_101_87 c3) (by decide)
    obtain ⟨M22, c4, h⟩ := z_bv_c h
    have q4 : z_fr w_X7_send_51 M M22 := q3.sub (R_X7_ride_51 c4) (by decide)
    cases h
    exact q4
theorem R_X7_send_51_p50 {x1 : Int32} {M M' : zMM} {v : (Int32 ⊕ Nat)} (h : f_X7_send_51_p50 x1 M = some (v, M')) : z_fr w_X7_send_51 M M' := by
  replace h : (  f_X7_send_51_p51 x1 (-1 : Int32) M) = some (v, M') := h
  exact z_fr.refl.trans (R_X7_send_51_p51 h)
theorem R_X7_send_51 {x1 : Int32} {x2 : Int32} {M M' : zMM} {v : (Int32 ⊕ Nat)} (h : f_X7_send_51 x1 x2 M = some (v, M')) : z_fr w_X7_send_51 M M' := by
  replace h : (  z_bt (f_X7_checkTrunk_51 x1 M) fun v2 M3 =>
    z_bt (f_X7_checkTown_51 x2 M3) fun v6 M7 =>
      z_bi (f_X4_isThere_87 x1 M7) fun v10 M11 =>
      if v10 = 0 then
        f_X7_send_51_p50 x1 M11
      else
        if (z_at M7 88 5 x1) = x2 then
          f_X7_send_51_p50 x1 M11
        else
          z_bi (f_X6_lay_80 (z_at M7 88 5 x1) x2 M11) fun v25 M26 =>
          f_X7_send_51_p51 x1 v25 M26) = some (v, M') := h
  rcases z_bt_c h with ⟨v2, M3, c1, h⟩ | ⟨e, c1, -⟩
  · have q1 : z_fr w_X7_send_51 M M3 := z_fr.refl.sub (R_X7_checkTrunk_51 c1) (by decide)
    rcases z_bt_c h with ⟨v6, M7, c2, h⟩ | ⟨e, c2, -⟩
    · have q2 : z_fr w_X7_send_51 M M7 := q1.sub (R_X7_checkTown_51 c2) (by decide)
      obtain ⟨v10, M11, c3, h⟩ := z_bi_c h
      have q3 : z_fr w_X7_send_51 M M11 := q2.sub (R_X4_isThere_87 c3) (by decide)
      by_cases g4 : v10 = 0
      · replace h := (if_pos g4).symm.trans h
        exact q3.trans (R_X7_send_51_p50 h)
      · replace h := (if_neg g4).symm.trans h
        by_cases g5 : (z_at M7 88 5 x1) = x2
        · replace h := (if_pos g5).symm.trans h
          exact q3.trans (R_X7_send_51_p50 h)
        · replace h := (if_neg g5).symm.trans h
          obtain ⟨v25, M26, c6, h⟩ := z_bi_c h
          have q6 : z_fr w_X7_send_51 M M26 := q3.sub (R_X6_lay_80 c6) (by decide)
          exact q6.trans (R_X7_send_51_p51 h)
    · exact q1.sub (R_X7_checkTown_51 c2) (by decide)
  · exact z_fr.refl.sub (R_X7_checkTrunk_51 c1) (by decide)
def w_X1_canBeThere_103 : zWs := ([], [])
theorem R0_X1_canBeThere_103_p38 : ∀ (n : Nat) (x2 : Int32) (x3 : Int32) (x4 : Int32) (x5 : Int32) (M M' : zMM) (v : Int32), f_X1_canBeThere_103_p38  n x2 x3 x4 x5 M = some (v, M') → z_fr w_X1_canBeThere_103 M M' := by
  intro n
  induction n with
  | zero => intro x2 x3 x4 x5 M M' v h; cases h
  | succ n ih =>
    intro x2 x3 x4 x5 M M' v h
    replace h : (  if (4 : Int32) ≤ x5 then
    some ((1 : Int32), M)
  else
    z_bi (f_X7_has x2 x5 M) fun v3 M4 =>
    if v3 = 0 then
      f_X1_canBeThere_103_p38 n x2 x3 x4 (x5 + (1 : Int32)) M4
    else
      z_bi (f_X6_span_80 x3 (z_at M4 91 4 x5) M4) fun v7 M8 =>
      if (M8 87 5) ≤ x5 then
        some ((0 : Int32), M8)
      else
        if v7 = (-1 : Int32) then
          some ((0 : Int32), M8)
        else
          if (x4 + v7) ≤ (z_at M8 90 4 x5) then
            f_X1_canBeThere_103_p38 n x2 (z_at M8 91 4 x5) (z_at M8 90 4 x5) (x5 + (1 : Int32)) M8
          else
            some ((0 : Int32), M8)) = some (v, M') := h
    by_cases g1 : (4 : Int32) ≤ x5
    · replace h := (if_pos g1).symm.trans h
      cases h
      exact z_fr.refl
    · replace h := (if_neg g1).symm.trans h
      obtain ⟨v3, M4, c2, h⟩ := z_bi_c h
      have q2 : z_fr w_X1_canBeThere_103 M M4 := z_fr.refl.sub (R_X7_has c2) (by decide)
      by_cases g3 : v3 = 0
      · replace h := (if_pos g3).symm.trans h
        exact q2.trans (ih _ _ _ _ _ _ _ h)
      · replace h := (if_neg g3).symm.trans h
        obtain ⟨v7, M8, c4, h⟩ := z_bi_c h
        have q4 : z_fr w_X1_canBeThere_103 M M8 := q2.sub (R_X6_span_80 c4) (by decide)
        by_cases g5 : (M8 87 5) ≤ x5
        · replace h := (if_pos g5).symm.trans h
          cases h
          exact q4
        · replace h := (if_neg g5).symm.trans h
          by_cases g6 : v7 = (-1 : Int32)
          · replace h := (if_pos g6).symm.trans h
            cases h
            exact q4
          · replace h := (if_neg g6).symm.trans h
            by_cases g7 : (x4 + v7) ≤ (z_at M8 90 4 x5)
            · replace h := (if_pos g7).symm.trans h
              exact q4.trans (ih _ _ _ _ _ _ _ h)
            · replace h := (if_neg g7).symm.trans h
              cases h
              exact q4
theorem R_X1_canBeThere_103_p38 {n : Nat} {x2 : Int32} {x3 : Int32} {x4 : Int32} {x5 : Int32} {M M' : zMM} {v : Int32} (h : f_X1_canBeThere_103_p38  n x2 x3 x4 x5 M = some (v, M')) : z_fr w_X1_canBeThere_103 M M' := R0_X1_canBeThere_103_p38 _ _ _ _ _ _ _ _ h
theorem R_X1_canBeThere_103 {x1 : Int32} {x2 : Int32} {M M' : zMM} {v : Int32} (h : f_X1_canBeThere_103 x1 x2 M = some (v, M')) : z_fr w_X1_canBeThere_103 M M' := by
  replace h : (  f_X1_canBeThere_103_p38 z_fuel x2 (z_at M 88 5 x1) (z_max (M 87 2) (z_at M 89 5 x1)) (0 : Int32) M) = some (v, M') := h
  exact z_fr.refl.trans (R_X1_canBeThere_103_p38 h)
def w_X1_fitOf_103 : zWs := ([], [])
theorem R_X1_fitOf_103 {x1 : Int32} {x2 : Int32} {M M' : zMM} {v : Int32} (h : f_X1_fitOf_103 x1 x2 M = some (v, M')) : z_fr w_X1_fitOf_103 M M' := by
  replace h : (  some ((z_at M 104 80 ((x1 * (16 : Int32)) + x2)), M)) = some (v, M') := h
  cases h
  exact z_fr.refl
def w_X1_fitsWithMore_103 : zWs := ([], [])
theorem R0_X1_fitsWithMore_103_p2 : ∀ (n : Nat) (x1 : Int32) (x2 : Int32) (x3 : Int32) (M M' : zMM) (v : Int32), f_X1_fitsWithMore_103_p2  n x1 x2 x3 M = some (v, M') → z_fr w_X1_fitsWithMore_103 M M' := by
  intro n
  induction n with
  | zero => intro x1 x2 x3 M M' v h; cases h
  | succ n ih =>
    intro x1 x2 x3 M M' v h
    replace h : (  if (4 : Int32) ≤ x3 then
    some ((0 : Int32), M)
  else
    if (x2 ||| ((1 : Int32) <<< (x3 &&& 31))) = x2 then
      f_X1_fitsWithMore_103_p2 n x1 x2 (x3 + (1 : Int32)) M
    else
      z_bi (f_X1_fitOf_103 x1 (x2 ||| ((1 : Int32) <<< (x3 &&& 31))) M) fun v4 M5 =>
      if v4 = 0 then
        f_X1_fitsWithMore_103_p2 n x1 x2 (x3 + (1 : Int32)) M5
      else
        some ((1 : Int32), M5)) = some (v, M') := h
    by_cases g1 : (4 : Int32) ≤ x3
    · replace h := (if_pos g1).symm.trans h
      cases h
      exact z_fr.refl
    · replace h := (if_neg g1).symm.trans h
      by_cases g2 : (x2 ||| ((1 : Int32) <<< (x3 &&& 31))) = x2
      · replace h := (if_pos g2).symm.trans h
        exact z_fr.refl.trans (ih _ _ _ _ _ _ h)
      · replace h := (if_neg g2).symm.trans h
        obtain ⟨v4, M5, c3, h⟩ := z_bi_c h
        have q3 : z_fr w_X1_fitsWithMore_103 M M5 := z_fr.refl.sub (R_X1_fitOf_103 c3) (by decide)
        by_cases g4 : v4 = 0
        · replace h := (if_pos g4).symm.trans h
          exact q3.trans (ih _ _ _ _ _ _ h)
        · replace h := (if_neg g4).symm.trans h
          cases h
          exact q3
theorem R_X1_fitsWithMore_103_p2 {n : Nat} {x1 : Int32} {x2 : Int32} {x3 : Int32} {M M' : zMM} {v : Int32} (h : f_X1_fitsWithMore_103_p2  n x1 x2 x3 M = some (v, M')) : z_fr w_X1_fitsWithMore_103 M M' := R0_X1_fitsWithMore_103_p2 _ _ _ _ _ _ _ h
theorem R_X1_fitsWithMore_103 {x1 : Int32} {x2 : Int32} {M M' : zMM} {v : Int32} (h : f_X1_fitsWithMore_103 x1 x2 M = some (v, M')) : z_fr w_X1_fitsWithMore_103 M M' := by
  replace h : (  f_X1_fitsWithMore_103_p2 z_fuel x1 x2 (0 : Int32) M) = some (v, M') := h
  exact z_fr.refl.trans (R_X1_fitsWithMore_103_p2 h)
def w_X1_findFits_103 : zWs := ([], [104])
theorem R_X1_findFits_103_p46 {K2 : Int32 → zMM → Option zMM} {K16 : Int32 → Int32 → zMM → Option zMM} {x1 : Int32} {x2 : Int32} {x3 : Int32}
    (hK2 : ∀ (a0 : Int32) (M M' : zMM), K2 a0 M = some M' → z_fr w_X1_findFits_103 M M')
    (hK16 : ∀ (a0 : Int32) (a1 : Int32) (M M' : zMM), K16 a0 a1 M = some M' → z_fr w_X1_findFits_103 M M') {M M' : zMM} (h : f_X1_findFits_103_p46 K2 K16 x1 x2 x3 M = some M') : z_fr w_X1_findFits_103 M M' := by
  replace h : (  z_bv (some (z_pt M 104 80 ((x1 * (16 : Int32)) + x2) x3)) fun M8 =>
  K16 x1 (x2 + (-1 : Int32)) M8) = some M' := h
  obtain ⟨M8, c1, h⟩ := z_bv_c h
  have q1 : z_fr w_X1_findFits_103 M M8 := Option.some.inj c1 ▸ (z_fr.refl.pt rfl)
  exact q1.trans (hK16 _ _ _ _ h)
theorem R_X1_findFits_103_p45 {K2 : Int32 → zMM → Option zMM} {K16 : Int32 → Int32 → zMM → Option zMM} {x1 : Int32} {x2 : Int32} {a0 : Int32}
    (hK2 : ∀ (a0 : Int32) (M M' : zMM), K2 a0 M = some M' → z_fr w_X1_findFits_103 M M')
    (hK16 : ∀ (a0 : Int32) (a1 : Int32) (M M' : zMM), K16 a0 a1 M = some M' → z_fr w_X1_findFits_103 M M') {M M' : zMM} (h : f_X1_findFits_103_p45 K2 K16 x1 x2 a0 M = some M') : z_fr w_X1_findFits_103 M M' := by
  replace h : (  f_X1_findFits_103_p46 K2 K16 x1 x2 a0 M) = some M' := h
  exact z_fr.refl.trans (R_X1_findFits_103_p46 hK2 hK16 h)
theorem R0_X1_findFits_103_p16 {K2 : Int32 → zMM → Option zMM}
    (hK2 : ∀ (a0 : Int32) (M M' : zMM), K2 a0 M = some M' → z_fr w_X1_findFits_103 M M') : ∀ (n : Nat) (x1 : Int32) (x2 : Int32) (M M' : zMM) , f_X1_findFits_103_p16 K2 n x1 x2 M = some M' → z_fr w_X1_findFits_103 M M' := by
  intro n
  induction n with
  | zero => intro x1 x2 M M' h; cases h
  | succ n ih =>
    intro x1 x2 M M' h
    replace h : (  if x2 < 0 then
    K2 (x1 + (1 : Int32)) M
  else
    z_bi (f_X1_canBeThere_103 x1 x2 M) fun v4 M5 =>
    if v4 = 0 then
      f_X1_findFits_103_p46 K2 (f_X1_findFits_103_p16 K2 n) x1 x2 (0 : Int32) M5
    else
      z_bi (f_X1_fitsWithMore_103 x1 x2 M5) fun v10 M11 =>
      if v10 = 0 then
        f_X1_findFits_103_p45 K2 (f_X1_findFits_103_p16 K2 n) x1 x2 (2 : Int32) M11
      else
        f_X1_findFits_103_p45 K2 (f_X1_findFits_103_p16 K2 n) x1 x2 (1 : Int32) M11) = some M' := h
    by_cases g1 : x2 < 0
    · replace h := (if_pos g1).symm.trans h
      exact z_fr.refl.trans (hK2 _ _ _ h)
    · replace h := (if_neg g1).symm.trans h
      obtain ⟨v4, M5, c2, h⟩ := z_bi_c h
      have q2 : z_fr w_X1_findFits_103 M M5 := z_fr.refl.sub (R_X1_canBeThere_103 c2) (by decide)
      by_cases g3 : v4 = 0
      · replace h := (if_pos g3).symm.trans h
        exact q2.trans (R_X1_findFits_103_p46 hK2 ih h)
      · replace h := (if_neg g3).symm.trans h
        obtain ⟨v10, M11, c4, h⟩ := z_bi_c h
        have q4 : z_fr w_X1_findFits_103 M M11 := q2.sub (R_X1_fitsWithMore_103 c4) (by decide)
        by_cases g5 : v10 = 0
        · replace h := (if_pos g5).symm.trans h
          exact q4.trans (R_X1_findFits_103_p45 hK2 ih h)
        · replace h := (if_neg g5).symm.trans h
          exact q4.trans (R_X1_findFits_103_p45 hK2 ih h)
theorem R_X1_findFits_103_p16 {K2 : Int32 → zMM → Option zMM}
    (hK2 : ∀ (a0 : Int32) (M M' : zMM), K2 a0 M = some M' → z_fr w_X1_findFits_103 M M') {n : Nat} {x1 : Int32} {x2 : Int32} {M M' : zMM} (h : f_X1_findFits_103_p16 K2 n x1 x2 M = some M') : z_fr w_X1_findFits_103 M M' := R0_X1_findFits_103_p16 hK2 _ _ _ _ _ h
theorem R0_X1_findFits_103_p2 : ∀ (n : Nat) (x1 : Int32) (M M' : zMM) , f_X1_findFits_103_p2  n x1 M = some M' → z_fr w_X1_findFits_103 M M' := by
  intro n
  induction n with
  | zero => intro x1 M M' h; cases h
  | succ n ih =>
    intro x1 M M' h
    replace h : (  if (M 53 6) ≤ x1 then
    some M
  else
    f_X1_findFits_103_p16 (f_X1_findFits_103_p2 n) z_fuel x1 (15 : Int32) M) = some M' := h
    by_cases g1 : (M 53 6) ≤ x1
    · replace h := (if_pos g1).symm.trans h
      cases h
      exact z_fr.refl
    · replace h := (if_neg g1).symm.trans h
      exact z_fr.refl.trans (R_X1_findFits_103_p16 ih h)
theorem R_X1_findFits_103_p2 {n : Nat} {x1 : Int32} {M M' : zMM} (h : f_X1_findFits_103_p2  n x1 M = some M') : z_fr w_X1_findFits_103 M M' := R0_X1_findFits_103_p2 _ _ _ _ h
theorem R_X1_findFits_103 {M M' : zMM} (h : f_X1_findFits_103 M = some M') : z_fr w_X1_findFits_103 M M' := by
  replace h : (  f_X1_findFits_103_p2 z_fuel (0 : Int32) M) = some M' := h
  exact z_fr.refl.trans (R_X1_findFits_103_p2 h)
def w_X1_findCosts_103 : zWs := ([], [84, 85, 86, 105])
theorem R0_X1_findCosts_103_p57 {K2 : Int32 → zMM → Option zMM}
    (hK2 : ∀ (a0 : Int32) (M M' : zMM), K2 a0 M = some M' → z_fr w_X1_findCosts_103 M M') : ∀ (n : Nat) (x1 : Int32) (x2 : Int32) (x3 : Int32) (M M' : zMM) , f_X1_findCosts_103_p57 K2 n x1 x2 x3 M = some M' → z_fr w_X1_findCosts_103 M M' := by
  intro n
  induction n with
  | zero => intro x1 x2 x3 M M' h; cases h
  | succ n ih =>
    intro x1 x2 x3 M M' h
    replace h : (  if (32 : Int32) ≤ x3 then
    K2 (x1 + (1 : Int32)) M
  else
    if (x3 &&& (x2 ^^^ (-1 : Int32))) = 0 then
      z_bi (f_X2_byTrunks_83 (z_at M 92 4 x1) (z_at M 91 4 x1) x3 M) fun v6 M7 =>
      z_bv (some (z_pt M7 105 128 ((x1 * (32 : Int32)) + x3) v6)) fun M9 =>
      f_X1_findCosts_103_p57 K2 n x1 x2 (x3 + (1 : Int32)) M9
    else
      f_X1_findCosts_103_p57 K2 n x1 x2 (x3 + (1 : Int32)) M) = some M' := h
    by_cases g1 : (32 : Int32) ≤ x3
    · replace h := (if_pos g1).symm.trans h
      exact z_fr.refl.trans (hK2 _ _ _ h)
    · replace h := (if_neg g1).symm.trans h
      by_cases g2 : (x3 &&& (x2 ^^^ (-1 : Int32))) = 0
      · replace h := (if_pos g2).symm.trans h
        obtain ⟨v6, M7, c3, h⟩ := z_bi_c h
        have q3 : z_fr w_X1_findCosts_103 M M7 := z_fr.refl.sub (R_X2_byTrunks_83 c3) (by decide)
        obtain ⟨M9, c4, h⟩ := z_bv_c h
        have q4 : z_fr w_X1_findCosts_103 M M9 := Option.some.inj c4 ▸ (q3.pt rfl)
        exact q4.trans (ih _ _ _ _ _ h)
      · replace h := (if_neg g2).symm.trans h
        exact z_fr.refl.trans (ih _ _ _ _ _ h)
theorem R_X1_findCosts_103_p57 {K2 : Int32 → zMM → Option zMM}
    (hK2 : ∀ (a0 : Int32) (M M' : zMM), K2 a0 M = some M' → z_fr w_X1_findCosts_103 M M') {n : Nat} {x1 : Int32} {x2 : Int32} {x3 : Int32} {M M' : zMM} (h : f_X1_findCosts_103_p57 K2 n x1 x2 x3 M = some M') : z_fr w_X1_findCosts_103 M M' := R0_X1_findCosts_103_p57 hK2 _ _ _ _ _ _ h
theorem R0_X1_findCosts_103_p17 {K2 : Int32 → zMM → Option zMM}
    (hK2 : ∀ (a0 : Int32) (M M' : zMM), K2 a0 M = some M' → z_fr w_X1_findCosts_103 M M') : ∀ (n : Nat) (x1 : Int32) (x2 : Int32) (x3 : Int32) (M M' : zMM) , f_X1_findCosts_103_p17 K2 n x1 x2 x3 M = some M' → z_fr w_X1_findCosts_103 M M' := by
  intro n
  induction n with
  | zero => intro x1 x2 x3 M M' h; cases h
  | succ n ih =>
    intro x1 x2 x3 M M' h
    replace h : (  if (M 53 6) ≤ x3 then
    f_X1_findCosts_103_p57 K2 z_fuel x1 x2 (0 : Int32) M
  else
    z_bi (f_X1_fitOf_103 x3 ((1 : Int32) <<< (x1 &&& 31)) M) fun v11 M12 =>
    if v11 = 0 then
      f_X1_findCosts_103_p17 K2 n x1 (x2 ||| (0 : Int32)) (x3 + (1 : Int32)) M12
    else
      f_X1_findCosts_103_p17 K2 n x1 (x2 ||| ((1 : Int32) <<< (x3 &&& 31))) (x3 + (1 : Int32)) M12) = some M' := h
    by_cases g1 : (M 53 6) ≤ x3
    · replace h := (if_pos g1).symm.trans h
      exact z_fr.refl.trans (R_X1_findCosts_103_p57 hK2 h)
    · replace h := (if_neg g1).symm.trans h
      obtain ⟨v11, M12, c2, h⟩ := z_bi_c h
      have q2 : z_fr w_X1_findCosts_103 M M12 := z_fr.refl.sub (R_X1_fitOf_103 c2) (by decide)
      by_cases g3 : v11 = 0
      · replace h := (if_pos g3).symm.trans h
        exact q2.trans (ih _ _ _ _ _ h)
      · replace h := (if_neg g3).symm.trans h
        exact q2.trans (ih _ _ _ _ _ h)
theorem R_X1_findCosts_103_p17 {K2 : Int32 → zMM → Option zMM}
    (hK2 : ∀ (a0 : Int32) (M M' : zMM), K2 a0 M = some M' → z_fr w_X1_findCosts_103 M M') {n : Nat} {x1 : Int32} {x2 : Int32} {x3 : Int32} {M M' : zMM} (h : f_X1_findCosts_103_p17 K2 n x1 x2 x3 M = some M') : z_fr w_X1_findCosts_103 M M' := R0_X1_findCosts_103_p17 hK2 _ _ _ _ _ _ h
theorem R0_X1_findCosts_103_p2 : ∀ (n : Nat) (x1 : Int32) (M M' : zMM) , f_X1_findCosts_103_p2  n x1 M = some M' → z_fr w_X1_findCosts_103 M M' := by
  intro n
  induction n with
  | zero => intro x1 M M' h; cases h
  | succ n ih =>
    intro x1 M M' h
    replace h : (  if (M 87 5) ≤ x1 then
    some M
  else
    f_X1_findCosts_103_p17 (f_X1_findCosts_103_p2 n) z_fuel x1 (0 : Int32) (0 : Int32) M) = some M' := h
    by_cases g1 : (M 87 5) ≤ x1
    · replace h := (if_pos g1).symm.trans h
      cases h
      exact z_fr.refl
    · replace h := (if_neg g1).symm.trans h
      exact z_fr.refl.trans (R_X1_findCosts_103_p17 ih h)
theorem R_X1_findCosts_103_p2 {n : Nat} {x1 : Int32} {M M' : zMM} (h : f_X1_findCosts_103_p2  n x1 M = some M') : z_fr w_X1_findCosts_103 M M' := R0_X1_findCosts_103_p2 _ _ _ _ h
theorem R_X1_findCosts_103 {M M' : zMM} (h : f_X1_findCosts_103 M = some M') : z_fr w_X1_findCosts_103 M M' := by
  replace h : (  f_X1_findCosts_103_p2 z_fuel (0 : Int32) M) = some M' := h
  exact z_fr.refl.trans (R_X1_findCosts_103_p2 h)
def w_X1_priceOf_103 : zWs := ([], [])
theorem R0_X1_priceOf_103_p4 : ∀ (n : Nat) (x1 : Int32) (x2 : Int32) (x3 : Int32) (M M' : zMM) (v : Int32), f_X1_priceOf_103_p4  n x1 x2 x3 M = some (v, M') → z_fr w_X1_priceOf_103 M M' := by
  intro n
  induction n with
  | zero => intro x1 x2 x3 M M' v h; cases h
  | succ n ih =>
    intro x1 x2 x3 M M' v h
    replace h : (  if (M 87 5) ≤ x3 then
    some (x2, M)
  else
    if (z_at M 105 128 ((x3 * (32 : Int32)) + ((z_ush x1 (x3 * (8 : Int32))) &&& (31 : Int32)))) = (-1 : Int32) then
      some ((-1 : Int32), M)
    else
      f_X1_priceOf_103_p4 n x1 (x2 + (z_at M 105 128 ((x3 * (32 : Int32)) + ((z_ush x1 (x3 * (8 : Int32))) &&& (31 : Int32))))) (x3 + (1 : Int32)) M) = some (v, M') := h
    by_cases g1 : (M 87 5) ≤ x3
    · replace h := (if_pos g1).symm.trans h
      cases h
      exact z_fr.refl
    · replace h := (if_neg g1).symm.trans h
      by_cases g2 : (z_at M 105 128 ((x3 * (32 : Int32)) + ((z_ush x1 (x3 * (8 : Int32))) &&& (31 : Int32)))) = (-1 : Int32)
      · replace h := (if_pos g2).symm.trans h
        cases h
        exact z_fr.refl
      · replace h := (if_neg g2).symm.trans h
        exact z_fr.refl.trans (ih _ _ _ _ _ _ h)
theorem R_X1_priceOf_103_p4 {n : Nat} {x1 : Int32} {x2 : Int32} {x3 : Int32} {M M' : zMM} {v : Int32} (h : f_X1_priceOf_103_p4  n x1 x2 x3 M = some (v, M')) : z_fr w_X1_priceOf_103 M M' := R0_X1_priceOf_103_p4 _ _ _ _ _ _ _ h
theorem R_X1_priceOf_103 {x1 : Int32} {M M' : zMM} {v : Int32} (h : f_X1_priceOf_103 x1 M = some (v, M')) : z_fr w_X1_priceOf_103 M M' := by
  replace h : (  f_X1_priceOf_103_p4 z_fuel x1 (0 : Int32) (0 : Int32) M) = some (v, M') := h
  exact z_fr.refl.trans (R_X1_priceOf_103_p4 h)
def w_X1_spread : zWs := ([], [])
theorem R_X1_spread {x0 : Int32} {x1 : Int32} {M M' : zMM} {v : Int32} (h : f_X1_spread x0 x1 M = some (v, M')) : z_fr w_X1_spread M M' := by
  replace h : (  some (((z_at M 1 16 x0) <<< (x1 &&& 31)), M)) = some (v, M') := h
  cases h
  exact z_fr.refl
def w_X1_leastFrom_103 : zWs := ([], [])
theorem R0_X1_leastFrom_103_p43 {S : Int32 → Int32 → Int32 → zMM → Option (Int32 × zMM)}
    (hS : ∀ (a0 : Int32) (a1 : Int32) (a2 : Int32) (M M' : zMM) (v : Int32), S a0 a1 a2 M = some (v, M') → z_fr w_X1_leastFrom_103 M M') : ∀ (n : Nat) (x1 : Int32) (x2 : Int32) (x3 : Int32) (x4 : Int32) (x5 : Int32) (M M' : zMM) (v : Int32), f_X1_leastFrom_103_p43 S n x1 x2 x3 x4 x5 M = some (v, M') → z_fr w_X1_leastFrom_103 M M' := by
  intro n
  induction n with
  | zero => intro x1 x2 x3 x4 x5 M M' v h; cases h
  | succ n ih =>
    intro x1 x2 x3 x4 x5 M M' v h
    replace h : (  if (16 : Int32) ≤ x5 then
    some (x4, M)
  else
    z_bi (f_X1_fitOf_103 x1 x5 M) fun v12 M13 =>
    if v12 = (2 : Int32) then
      z_bi (f_X1_spread x5 x1 M13) fun v16 M17 =>
      z_bi (S (x1 + (1 : Int32)) (x2 ||| v16) x3 M17) fun v19 M20 =>
      z_bi (f_X7_isLess v19 x4 M20) fun v22 M23 =>
      if v22 = 0 then
        f_X1_leastFrom_103_p43 S n x1 x2 x3 x4 (x5 + (1 : Int32)) M23
      else
        f_X1_leastFrom_103_p43 S n x1 x2 x3 v19 (x5 + (1 : Int32)) M23
    else
      f_X1_leastFrom_103_p43 S n x1 x2 x3 x4 (x5 + (1 : Int32)) M13) = some (v, M') := h
    by_cases g1 : (16 : Int32) ≤ x5
    · replace h := (if_pos g1).symm.trans h
      cases h
      exact z_fr.refl
    · replace h := (if_neg g1).symm.trans h
      obtain ⟨v12, M13, c2, h⟩ := z_bi_c h
      have q2 : z_fr w_X1_leastFrom_103 M M13 := z_fr.refl.sub (R_X1_fitOf_103 c2) (by decide)
      by_cases g3 : v12 = (2 : Int32)
      · replace h := (if_pos g3).symm.trans h
        obtain ⟨v16, M17, c4, h⟩ := z_bi_c h
        have q4 : z_fr w_X1_leastFrom_103 M M17 := q2.sub (R_X1_spread c4) (by decide)
        obtain ⟨v19, M20, c5, h⟩ := z_bi_c h
        have q5 : z_fr w_X1_leastFrom_103 M M20 := q4.trans (hS _ _ _ _ _ _ c5)
        obtain ⟨v22, M23, c6, h⟩ := z_bi_c h
        have q6 : z_fr w_X1_leastFrom_103 M M23 := q5.sub (R_X7_isLess c6) (by decide)
        by_cases g7 : v22 = 0
        · replace h := (if_pos g7).symm.trans h
          exact q6.trans (ih _ _ _ _ _ _ _ _ h)
        · replace h := (if_neg g7).symm.trans h
          exact q6.trans (ih _ _ _ _ _ _ _ _ h)
      · replace h := (if_neg g3).symm.trans h
        exact q2.trans (ih _ _ _ _ _ _ _ _ h)
theorem R_X1_leastFrom_103_p43 {S : Int32 → Int32 → Int32 → zMM → Option (Int32 × zMM)}
    (hS : ∀ (a0 : Int32) (a1 : Int32) (a2 : Int32) (M M' : zMM) (v : Int32), S a0 a1 a2 M = some (v, M') → z_fr w_X1_leastFrom_103 M M') {n : Nat} {x1 : Int32} {x2 : Int32} {x3 : Int32} {x4 : Int32} {x5 : Int32} {M M' : zMM} {v : Int32} (h : f_X1_leastFrom_103_p43 S n x1 x2 x3 x4 x5 M = some (v, M')) : z_fr w_X1_leastFrom_103 M M' := R0_X1_leastFrom_103_p43 hS _ _ _ _ _ _ _ _ _ h
theorem R0_X1_leastFrom_103 : ∀ (D : Nat) (x1 : Int32) (x2 : Int32) (x3 : Int32) (M M' : zMM) (v : Int32), f_X1_leastFrom_103  D x1 x2 x3 M = some (v, M') → z_fr w_X1_leastFrom_103 M M' := by
  intro D
  induction D with
  | zero => intro x1 x2 x3 M M' v h; cases h
  | succ D ihD =>
    intro x1 x2 x3 M M' v h
    replace h : (  if (M 53 6) ≤ x1 then
    z_bi (f_X1_priceOf_103 x2 M) fun v3 M4 =>
    some (v3, M4)
  else
    if x1 < (5 : Int32) then
      if x1 = x3 then
        z_bi (f_X1_leastFrom_103 D (x1 + (1 : Int32)) x2 x3 M) fun v8 M9 =>
        some (v8, M9)
      else
        f_X1_leastFrom_103_p43 (f_X1_leastFrom_103 D) z_fuel x1 x2 x3 (-1 : Int32) (0 : Int32) M
    else
      z_bi (f_X1_priceOf_103 x2 M) fun v26 M27 =>
      some (v26, M27)) = some (v, M') := h
    by_cases g1 : (M 53 6) ≤ x1
    · replace h := (if_pos g1).symm.trans h
      obtain ⟨v3, M4, c2, h⟩ := z_bi_c h
      have q2 : z_fr w_X1_leastFrom_103 M M4 := z_fr.refl.sub (R_X1_priceOf_103 c2) (by decide)
      cases h
      exact q2
    · replace h := (if_neg g1).symm.trans h
      by_cases g3 : x1 < (5 : Int32)
      · replace h := (if_pos g3).symm.trans h
        by_cases g4 : x1 = x3
        · replace h := (if_pos g4).symm.trans h
          obtain ⟨v8, M9, c5, h⟩ := z_bi_c h
          have q5 : z_fr w_X1_leastFrom_103 M M9 := z_fr.refl.trans (ihD _ _ _ _ _ _ c5)
          cases h
          exact q5
        · replace h := (if_neg g4).symm.trans h
          exact z_fr.refl.trans (R_X1_leastFrom_103_p43 ihD h)
      · replace h := (if_neg g3).symm.trans h
        obtain ⟨v26, M27, c6, h⟩ := z_bi_c h
        have q6 : z_fr w_X1_leastFrom_103 M M27 := z_fr.refl.sub (R_X1_priceOf_103 c6) (by decide)
        cases h
        exact q6
theorem R_X1_leastFrom_103 {D : Nat} {x1 : Int32} {x2 : Int32} {x3 : Int32} {M M' : zMM} {v : Int32} (h : f_X1_leastFrom_103  D x1 x2 x3 M = some (v, M')) : z_fr w_X1_leastFrom_103 M M' := R0_X1_leastFrom_103 _ _ _ _ _ _ _ h
def w_X1_findSpared_103 : zWs := ([(103, 8), (103, 9)], [84, 85, 86, 104, 105])
theorem R0_X1_findSpared_103_p20 : ∀ (n : Nat) (x1 : Int32) (M M' : zMM) , f_X1_findSpared_103_p20  n x1 M = some M' → z_fr w_X1_findSpared_103 M M' := by
  intro n
  induction n with
  | zero => intro x1 M M' h; cases h
  | succ n ih =>
    intro x1 M M' h
    replace h : (  if (M 53 6) ≤ x1 then
    some M
  else
    z_bi (f_X1_leastFrom_103 8 (0 : Int32) (0 : Int32) x1 M) fun v9 M10 =>
    z_bi (f_X7_isLess v9 (M10 103 9) M10) fun v12 M13 =>
    if v12 = 0 then
      f_X1_findSpared_103_p20 n (x1 + (1 : Int32)) M13
    else
      f_X1_findSpared_103_p20 n (x1 + (1 : Int32)) (z_up (z_up M13 103 9 v9) 103 8 x1)) = some M' := h
    by_cases g1 : (M 53 6) ≤ x1
    · replace h := (if_pos g1).symm.trans h
      cases h
      exact z_fr.refl
    · replace h := (if_neg g1).symm.trans h
      obtain ⟨v9, M10, c2, h⟩ := z_bi_c h
      have q2 : z_fr w_X1_findSpared_103 M M10 := z_fr.refl.sub (R_X1_leastFrom_103 c2) (by decide)
      obtain ⟨v12, M13, c3, h⟩ := z_bi_c h
      have q3 : z_fr w_X1_findSpared_103 M M13 := q2.sub (R_X7_isLess c3) (by decide)
      by_cases g4 : v12 = 0
      · replace h := (if_pos g4).symm.trans h
        exact q3.trans (ih _ _ _ h)
      · replace h := (if_neg g4).symm.trans h
        exact ((q3.up rfl).up rfl).trans (ih _ _ _ h)
theorem R_X1_findSpared_103_p20 {n : Nat} {x1 : Int32} {M M' : zMM} (h : f_X1_findSpared_103_p20  n x1 M = some M') : z_fr w_X1_findSpared_103 M M' := R0_X1_findSpared_103_p20 _ _ _ _ h
theorem R_X1_findSpared_103 {M M' : zMM} (h : f_X1_findSpared_103 M = some M') : z_fr w_X1_findSpared_103 M M' := by
  replace h : (  z_bv (f_X1_findFits_103  M) fun M3 =>
  z_bv (f_X1_findCosts_103  M3) fun M6 =>
  f_X1_findSpared_103_p20 z_fuel (0 : Int32) (z_up (z_up M6 103 8 (-1 : Int32)) 103 9 (-1 : Int32))) = some M' := h
  obtain ⟨M3, c1, h⟩ := z_bv_c h
  have q1 : z_fr w_X1_findSpared_103 M M3 := z_fr.refl.sub (R_X1_findFits_103 c1) (by decide)
  obtain ⟨M6, c2, h⟩ := z_bv_c h
  have q2 : z_fr w_X1_findSpared_103 M M6 := q1.sub (R_X1_findCosts_103 c2) (by decide)
  exact ((q2.up rfl).up rfl).trans (R_X1_findSpared_103_p20 h)
def w_X1_sparedTrunk_103 : zWs := ([], [])
theorem R_X1_sparedTrunk_103 {M M' : zMM} {v : Int32} (h : f_X1_sparedTrunk_103 M = some (v, M')) : z_fr w_X1_sparedTrunk_103 M M' := by
  replace h : (  some ((M 103 8), M)) = some (v, M') := h
  cases h
  exact z_fr.refl
def w_X1_sparedPrice_103 : zWs := ([], [])
theorem R_X1_sparedPrice_103 {M M' : zMM} {v : Int32} (h : f_X1_sparedPrice_103 M = some (v, M')) : z_fr w_X1_sparedPrice_103 M M' := by
  replace h : (  some ((M 103 9), M)) = some (v, M') := h
  cases h
  exact z_fr.refl
def w_X7_spared_51 : zWs := ([(103, 8), (103, 9)], [84, 85, 86, 104, 105])
theorem R_X7_spared_51 {x1 : Int32} {M M' : zMM} {v : (Int32 ⊕ Nat)} (h : f_X7_spared_51 x1 M = some (v, M')) : z_fr w_X7_spared_51 M M' := by
  replace h : (  z_bt (f_X7_checkPair x1 M) fun v2 M3 =>
    z_bv (f_X1_findSpared_103  M3) fun M7 =>
    if x1 = 0 then
      z_bi (f_X1_sparedTrunk_103  M7) fun v10 M11 =>
      some (.inl v10, M11)
    else
      z_bi (f_X1_sparedPrice_103  M7) fun v13 M14 =>
      some (.inl v13, M14)) = some (v, M') := h
  rcases z_bt_c h with ⟨v2, M3, c1, h⟩ | ⟨e, c1, -⟩
  · have q1 : z_fr w_X7_spared_51 M M3 := z_fr.refl.sub (R_X7_checkPair c1) (by decide)
    obtain ⟨M7, c2, h⟩ := z_bv_c h
    have q2 : z_fr w_X7_spared_51 M M7 := q1.sub (R_X1_findSpared_103 c2) (by decide)
    by_cases g3 : x1 = 0
    · replace h := (if_pos g3).symm.trans h
      obtain ⟨v10, M11, c4, h⟩ := z_bi_c h
      have q4 : z_fr w_X7_spared_51 M M11 := q2.sub (R_X1_sparedTrunk_103 c4) (by decide)
      cases h
      exact q4
    · replace h := (if_neg g3).symm.trans h
      obtain ⟨v13, M14, c5, h⟩ := z_bi_c h
      have q5 : z_fr w_X7_spared_51 M M14 := q2.sub (R_X1_sparedPrice_103 c5) (by decide)
      cases h
      exact q5
  · exact z_fr.refl.sub (R_X7_checkPair c1) (by decide)
def w_X5_clear_66 : zWs := ([(66, 0), (66, 6), (66, 8), (66, 11), (66, 16)], [71, 78])
theorem R0_X5_clear_66_p44 : ∀ (n : Nat) (x1 : Int32) (M M' : zMM) , f_X5_clear_66_p44  n x1 M = some M' → z_fr w_X5_clear_66 M M' := by
  intro n
  induction n with
  | zero => intro x1 M M' h; cases h
  | succ n ih =>
    intro x1 M M' h
    replace h : (  if (20 : Int32) ≤ x1 then
    some M
  else
    z_bv (some (z_pt M 78 400 ((x1 * (20 : Int32)) + x1) (0 : Int32))) fun M7 =>
    f_X5_clear_66_p44 n (x1 + (1 : Int32)) M7) = some M' := h
    by_cases g1 : (20 : Int32) ≤ x1
    · replace h := (if_pos g1).symm.trans h
      cases h
      exact z_fr.refl
    · replace h := (if_neg g1).symm.trans h
      obtain ⟨M7, c2, h⟩ := z_bv_c h
      have q2 : z_fr w_X5_clear_66 M M7 := Option.some.inj c2 ▸ (z_fr.refl.pt rfl)
      exact q2.trans (ih _ _ _ h)
theorem R_X5_clear_66_p44 {n : Nat} {x1 : Int32} {M M' : zMM} (h : f_X5_clear_66_p44  n x1 M = some M') : z_fr w_X5_clear_66 M M' := R0_X5_clear_66_p44 _ _ _ _ h
theorem R_X5_clear_66 {M M' : zMM} (h : f_X5_clear_66 M = some M') : z_fr w_X5_clear_66 M M' := by
  replace h : (  z_bv (some (z_fl (z_up (z_up (z_up (z_up (z_up M 66 0 (0 : Int32)) 66 6 (0 : Int32)) 66 8 (0 : Int32)) 66 11 (0 : Int32)) 66 16 (11 : Int32)) 71 0 25 (-1 : Int32))) fun M2 =>
  z_bv (some (z_fl M2 78 0 400 (-1 : Int32))) fun M4 =>
  f_X5_clear_66_p44 z_fuel (0 : Int32) M4) = some M' := h
  obtain ⟨M2, c1, h⟩ := z_bv_c h
  have q1 : z_fr w_X5_clear_66 M M2 := Option.some.inj c1 ▸ ((((((z_fr.refl.up rfl).up rfl).up rfl).up rfl).up rfl).fl rfl)
  obtain ⟨M4, c2, h⟩ := z_bv_c h
  have q2 : z_fr w_X5_clear_66 M M4 := Option.some.inj c2 ▸ (q1.fl rfl)
  exact q2.trans (R_X5_clear_66_p44 h)
def w_X3_byteAt_79 : zWs := ([], [])
theorem R_X3_byteAt_79 {x1 : Int32} {M M' : zMM} {v : Int32} (h : f_X3_byteAt_79 x1 M = some (v, M')) : z_fr w_X3_byteAt_79 M M' := by
  replace h : (  if x1 < 0 then
    some ((-1 : Int32), M)
  else
    if (700 : Int32) ≤ x1 then
      some ((-1 : Int32), M)
    else
      if z_ib x1 700 = true then
        some ((M 52 x1.toNatClampNeg), M)
      else none) = some (v, M') := h
  by_cases g1 : x1 < 0
  · replace h := (if_pos g1).symm.trans h
    cases h
    exact z_fr.refl
  · replace h := (if_neg g1).symm.trans h
    by_cases g2 : (700 : Int32) ≤ x1
    · replace h := (if_pos g2).symm.trans h
      cases h
      exact z_fr.refl
    · replace h := (if_neg g2).symm.trans h
      obtain ⟨g3, h⟩ := z_ifn h
      cases h
      exact z_fr.refl
def w_X3_isLetter : zWs := ([], [])
theorem R_X3_isLetter {x0 : Int32} {M M' : zMM} {v : Int32} (h : f_X3_isLetter x0 M = some (v, M')) : z_fr w_X3_isLetter M M' := by
  replace h : (  if x0 < (97 : Int32) then
    some ((0 : Int32), M)
  else
    if (122 : Int32) < x0 then
      some ((0 : Int32), M)
    else
      some ((1 : Int32), M)) = some (v, M') := h
  by_cases g1 : x0 < (97 : Int32)
  · replace h := (if_pos g1).symm.trans h
    cases h
    exact z_fr.refl
  · replace h := (if_neg g1).symm.trans h
    by_cases g2 : (122 : Int32) < x0
    · replace h := (if_pos g2).symm.trans h
      cases h
      exact z_fr.refl
    · replace h := (if_neg g2).symm.trans h
      cases h
      exact z_fr.refl
def w_X3_isDigit : zWs := ([], [])
theorem R_X3_isDigit {x0 : Int32} {M M' : zMM} {v : Int32} (h : f_X3_isDigit x0 M = some (v, M')) : z_fr w_X3_isDigit M M' := by
  replace h : (  if x0 < (48 : Int32) then
    some ((0 : Int32), M)
  else
    if (57 : Int32) < x0 then
      some ((0 : Int32), M)
    else
      some ((1 : Int32), M)) = some (v, M') := h
  by_cases g1 : x0 < (48 : Int32)
  · replace h := (if_pos g1).symm.trans h
    cases h
    exact z_fr.refl
  · replace h := (if_neg g1).symm.trans h
    by_cases g2 : (57 : Int32) < x0
    · replace h := (if_pos g2).symm.trans h
      cases h
      exact z_fr.refl
    · replace h := (if_neg g2).symm.trans h
      cases h
      exact z_fr.refl
def w_X3_isBlank : zWs := ([], [])
theorem R_X3_isBlank {x0 : Int32} {M M' : zMM} {v : Int32} (h : f_X3_isBlank x0 M = some (v, M')) : z_fr w_X3_isBlank M M' := by
  replace h : (  if x0 = (32 : Int32) then
    some ((1 : Int32), M)
  else
    if x0 = (10 : Int32) then
      some ((1 : Int32), M)
    else
      some ((0 : Int32), M)) = some (v, M') := h
  by_cases g1 : x0 = (32 : Int32)
  · replace h := (if_pos g1).symm.trans h
    cases h
    exact z_fr.refl
  · replace h := (if_neg g1).symm.trans h
    by_cases g2 : x0 = (10 : Int32)
    · replace h := (if_pos g2).symm.trans h
      cases h
      exact z_fr.refl
    · replace h := (if_neg g2).symm.trans h
      cases h
      exact z_fr.refl
def w_X3_step_79 : zWs := ([(79, 3), (79, 4), (79, 5), (79, 6)], [])
theorem R0_X3_step_79_p141 : ∀ (n : Nat)  (M M' : zMM) , f_X3_step_79_p141  n  M = some M' → z_fr w_X3_step_79 M M' := by
  intro n
  induction n with
  | zero => intro  M M' h; cases h
  | succ n ih =>
    intro  M M' h
    replace h : (  if (M 79 2) ≤ (M 79 5) then
    some M
  else
    z_bi (f_X3_byteAt_79 (M 79 5) M) fun v17 M18 =>
    z_bi (f_X3_isDigit v17 M18) fun v20 M21 =>
    if v20 = 0 then
      some M21
    else
      if (4 : Int32) ≤ ((M21 79 5) - (M21 79 4)) then
        f_X3_step_79_p141 n  (z_up (z_up M21 79 6 (M21 79 6)) 79 5 ((M21 79 5) + (1 : Int32)))
      else
        z_bi (f_X3_byteAt_79 (M21 79 5) M21) fun v25 M26 =>
        f_X3_step_79_p141 n  (z_up (z_up M26 79 6 ((((M21 79 6) * (10 : Int32)) + v25) - (48 : Int32))) 79 5 ((M26 79 5) + (1 : Int32)))) = some M' := h
    by_cases g1 : (M 79 2) ≤ (M 79 5)
    · replace h := (if_pos g1).symm.trans h
      cases h
      exact z_fr.refl
    · replace h := (if_neg g1).symm.trans h
      obtain ⟨v17, M18, c2, h⟩ := z_bi_c h
      have q2 : z_fr w_X3_step_79 M M18 := z_fr.refl.sub (R_X3_byteAt_79 c2) (by decide)
      obtain ⟨v20, M21, c3, h⟩ := z_bi_c h
      have q3 : z_fr w_X3_step_79 M M21 := q2.sub (R_X3_isDigit c3) (by decide)
      by_cases g4 : v20 = 0
      · replace h := (if_pos g4).symm.trans h
        cases h
        exact q3
      · replace h := (if_neg g4).symm.trans h
        by_cases g5 : (4 : Int32) ≤ ((M21 79 5) - (M21 79 4))
        · replace h := (if_pos g5).symm.trans h
          exact ((q3.up rfl).up rfl).trans (ih _ _ h)
        · replace h := (if_neg g5).symm.trans h
          obtain ⟨v25, M26, c6, h⟩ := z_bi_c h
          have q6 : z_fr w_X3_step_79 M M26 := q3.sub (R_X3_byteAt_79 c6) (by decide)
          exact ((q6.up rfl).up rfl).trans (ih _ _ h)
theorem R_X3_step_79_p141 {n : Nat}  {M M' : zMM} (h : f_X3_step_79_p141  n  M = some M') : z_fr w_X3_step_79 M M' := R0_X3_step_79_p141 _ _ _ h
theorem R0_X3_step_79_p91 : ∀ (n : Nat)  (M M' : zMM) , f_X3_step_79_p91  n  M = some M' → z_fr w_X3_step_79 M M' := by
  intro n
  induction n with
  | zero => intro  M M' h; cases h
  | succ n ih =>
    intro  M M' h
    replace h : (  if (M 79 2) ≤ (M 79 5) then
    some M
  else
    z_bi (f_X3_byteAt_79 (M 79 5) M) fun v29 M30 =>
    z_bi (f_X3_isLetter v29 M30) fun v32 M33 =>
    if v32 = 0 then
      some M33
    else
      f_X3_step_79_p91 n  (z_up M33 79 5 ((M33 79 5) + (1 : Int32)))) = some M' := h
    by_cases g1 : (M 79 2) ≤ (M 79 5)
    · replace h := (if_pos g1).symm.trans h
      cases h
      exact z_fr.refl
    · replace h := (if_neg g1).symm.trans h
      obtain ⟨v29, M30, c2, h⟩ := z_bi_c h
      have q2 : z_fr w_X3_step_79 M M30 := z_fr.refl.sub (R_X3_byteAt_79 c2) (by decide)
      obtain ⟨v32, M33, c3, h⟩ := z_bi_c h
      have q3 : z_fr w_X3_step_79 M M33 := q2.sub (R_X3_isLetter c3) (by decide)
      by_cases g4 : v32 = 0
      · replace h := (if_pos g4).symm.trans h
        cases h
        exact q3
      · replace h := (if_neg g4).symm.trans h
        exact (q3.up rfl).trans (ih _ _ h)
theorem R_X3_step_79_p91 {n : Nat}  {M M' : zMM} (h : f_X3_step_79_p91  n  M = some M') : z_fr w_X3_step_79 M M' := R0_X3_step_79_p91 _ _ _ h
theorem R_X3_step_79_p38 {M M' : zMM} (h : f_X3_step_79_p38 M = some M') : z_fr w_X3_step_79 M M' := by
  replace h : (  z_bi (f_X3_byteAt_79 (M 79 5) (z_up M 79 4 (M 79 5))) fun v3 M4 =>
  if (M4 79 5) < (M4 79 2) then
    z_bi (f_X3_isLetter v3 (z_up M4 79 6 (0 : Int32))) fun v7 M8 =>
    if v7 = 0 then
      z_bi (f_X3_isDigit v3 M8) fun v11 M12 =>
      if v11 = 0 then
        if v3 = (59 : Int32) then
          some (z_up (z_up M12 79 3 (3 : Int32)) 79 5 ((M12 79 5) + (1 : Int32)))
        else
          some (z_up (z_up M12 79 3 (4 : Int32)) 79 5 ((M12 79 5) + (1 : Int32)))
      else
        f_X3_step_79_p141 z_fuel  (z_up M12 79 3 (2 : Int32))
    else
      f_X3_step_79_p91 z_fuel  (z_up M8 79 3 (1 : Int32))
  else
    some (z_up (z_up M4 79 6 (0 : Int32)) 79 3 (0 : Int32))) = some M' := h
  obtain ⟨v3, M4, c1, h⟩ := z_bi_c h
  have q1 : z_fr w_X3_step_79 M M4 := (z_fr.refl.up rfl).sub (R_X3_byteAt_79 c1) (by decide)
  by_cases g2 : (M4 79 5) < (M4 79 2)
  · replace h := (if_pos g2).symm.trans h
    obtain ⟨v7, M8, c3, h⟩ := z_bi_c h
    have q3 : z_fr w_X3_step_79 M M8 := (q1.up rfl).sub (R_X3_isLetter c3) (by decide)
    by_cases g4 : v7 = 0
    · replace h := (if_pos g4).symm.trans h
      obtain ⟨v11, M12, c5, h⟩ := z_bi_c h
      have q5 : z_fr w_X3_step_79 M M12 := q3.sub (R_X3_isDigit c5) (by decide)
      by_cases g6 : v11 = 0
      · replace h := (if_pos g6).symm.trans h
        by_cases g7 : v3 = (59 : Int32)
        · replace h := (if_pos g7).symm.trans h
          cases h
          exact ((q5.up rfl).up rfl)
        · replace h := (if_neg g7).symm.trans h
          cases h
          exact ((q5.up rfl).up rfl)
      · replace h := (if_neg g6).symm.trans h
        exact (q5.up rfl).trans (R_X3_step_79_p141 h)
    · replace h := (if_neg g4).symm.trans h
      exact (q3.up rfl).trans (R_X3_step_79_p91 h)
  · replace h := (if_neg g2).symm.trans h
    cases h
    exact ((q1.up rfl).up rfl)
theorem R0_X3_step_79_p0 : ∀ (n : Nat)  (M M' : zMM) , f_X3_step_79_p0  n  M = some M' → z_fr w_X3_step_79 M M' := by
  intro n
  induction n with
  | zero => intro  M M' h; cases h
  | succ n ih =>
    intro  M M' h
    replace h : (  if (M 79 2) ≤ (M 79 5) then
    f_X3_step_79_p38  M
  else
    z_bi (f_X3_byteAt_79 (M 79 5) M) fun v36 M37 =>
    z_bi (f_X3_isBlank v36 M37) fun v39 M40 =>
    if v39 = 0 then
      f_X3_step_79_p38  M40
    else
      f_X3_step_79_p0 n  (z_up M40 79 5 ((M40 79 5) + (1 : Int32)))) = some M' := h
    by_cases g1 : (M 79 2) ≤ (M 79 5)
    · replace h := (if_pos g1).symm.trans h
      exact z_fr.refl.trans (R_X3_step_79_p38 h)
    · replace h := (if_neg g1).symm.trans h
      obtain ⟨v36, M37, c2, h⟩ := z_bi_c h
      have q2 : z_fr w_X3_step_79 M M37 := z_fr.refl.sub (R_X3_byteAt_79 c2) (by decide)
      obtain ⟨v39, M40, c3, h⟩ := z_bi_c h
      have q3 : z_fr w_X3_step_79 M M40 := q2.sub (R_X3_isBlank c3) (by decide)
      by_cases g4 : v39 = 0
      · replace h := (if_pos g4).symm.trans h
        exact q3.trans (R_X3_step_79_p38 h)
      · replace h := (if_neg g4).symm.trans h
        exact (q3.up rfl).trans (ih _ _ h)
theorem R_X3_step_79_p0 {n : Nat}  {M M' : zMM} (h : f_X3_step_79_p0  n  M = some M') : z_fr w_X3_step_79 M M' := R0_X3_step_79_p0 _ _ _ h
theorem R_X3_step_79 {M M' : zMM} (h : f_X3_step_79 M = some M') : z_fr w_X3_step_79 M M' := by
  replace h : (  f_X3_step_79_p0 z_fuel  M) = some M' := h
  exact z_fr.refl.trans (R_X3_step_79_p0 h)
def w_X3_isWord_79 : zWs := ([], [])
theorem R0_X3_isWord_79_p28 {s : Nat} : ∀ (n : Nat) (x2 : Int32) (M M' : zMM) (v : Int32), f_X3_isWord_79_p28 s n x2 M = some (v, M') → z_fr w_X3_isWord_79 M M' := by
  intro n
  induction n with
  | zero => intro x2 M M' v h; cases h
  | succ n ih =>
    intro x2 M M' v h
    replace h : (  if (z_sl s) ≤ x2 then
    some ((1 : Int32), M)
  else
    z_bi (f_X3_byteAt_79 ((M 79 4) + x2) M) fun v5 M6 =>
    if z_ib x2 (z_sn s) = true then
      if v5 = (z_ch (M6 (s + 24) x2.toNatClampNeg)) then
        f_X3_isWord_79_p28 s n (x2 + (1 : Int32)) M6
      else
        some ((0 : Int32), M6)
    else none) = some (v, M') := h
    by_cases g1 : (z_sl s) ≤ x2
    · replace h := (if_pos g1).symm.trans h
      cases h
      exact z_fr.refl
    · replace h := (if_neg g1).symm.trans h
      obtain ⟨v5, M6, c2, h⟩ := z_bi_c h
      have q2 : z_fr w_X3_isWord_79 M M6 := z_fr.refl.sub (R_X3_byteAt_79 c2) (by decide)
      obtain ⟨g3, h⟩ := z_ifn h
      by_cases g4 : v5 = (z_ch (M6 (s + 24) x2.toNatClampNeg))
      · replace h := (if_pos g4).symm.trans h
        exact q2.trans (ih _ _ _ _ h)
      · replace h := (if_neg g4).symm.trans h
        cases h
        exact q2
theorem R_X3_isWord_79_p28 {s : Nat} {n : Nat} {x2 : Int32} {M M' : zMM} {v : Int32} (h : f_X3_isWord_79_p28 s n x2 M = some (v, M')) : z_fr w_X3_isWord_79 M M' := R0_X3_isWord_79_p28 _ _ _ _ _ h
theorem R_X3_isWord_79 {s : Nat} {M M' : zMM} {v : Int32} (h : f_X3_isWord_79 s M = some (v, M')) : z_fr w_X3_isWord_79 M M' := by
  replace h : (  if 3 ≤ s ∧ s < 27 then
  if (M 79 3) = (1 : Int32) then
    if ((M 79 5) - (M 79 4)) = (z_sl s) then
      f_X3_isWord_79_p28 s z_fuel (0 : Int32) M
    else
      some ((0 : Int32), M)
  else
    some ((0 : Int32), M)
  else none) = some (v, M') := h
  obtain ⟨g1, h⟩ := z_ifn h
  by_cases g2 : (M 79 3) = (1 : Int32)
  · replace h := (if_pos g2).symm.trans h
    by_cases g3 : ((M 79 5) - (M 79 4)) = (z_sl s)
    · replace h := (if_pos g3).symm.trans h
      exact z_fr.refl.trans (R_X3_isWord_79_p28 h)
    · replace h := (if_neg g3).symm.trans h
      cases h
      exact z_fr.refl
  · replace h := (if_neg g2).symm.trans h
    cases h
    exact z_fr.refl
def w_X3_fail_79 : zWs := ([(79, 9), (79, 10)], [])
theorem R_X3_fail_79 {x1 : Int32} {x2 : Int32} {M M' : zMM} (h : f_X3_fail_79 x1 x2 M = some M') : z_fr w_X3_fail_79 M M' := by
  replace h : (  if (M 79 9) = 0 then
    some (z_up (z_up M 79 9 x1) 79 10 x2)
  else
    some M) = some M' := h
  by_cases g1 : (M 79 9) = 0
  · replace h := (if_pos g1).symm.trans h
    cases h
    exact ((z_fr.refl.up rfl).up rfl)
  · replace h := (if_neg g1).symm.trans h
    cases h
    exact z_fr.refl
def w_X3_takeNumber_79 : zWs := ([(79, 3), (79, 4), (79, 5), (79, 6), (79, 7), (79, 9), (79, 10)], [])
theorem R_X3_takeNumber_79 {x1 : Int32} {x2 : Int32} {M M' : zMM} {v : Int32} (h : f_X3_takeNumber_79 x1 x2 M = some (v, M')) : z_fr w_X3_takeNumber_79 M M' := by
  replace h : (  if (M 79 3) = (2 : Int32) then
    if (4 : Int32) < ((M 79 5) - (M 79 4)) then
      z_bv (f_X3_fail_79 (2 : Int32) (M 79 4) M) fun M5 =>
      some ((-1 : Int32), M5)
    else
      if (M 79 6) < x1 then
        z_bv (f_X3_fail_79 (2 : Int32) (M 79 4) M) fun M9 =>
        some ((-1 : Int32), M9)
      else
        if (M 79 6) ≤ x2 then
          z_bv (f_X3_step_79  (z_up M 79 7 (M 79 4))) fun M13 =>
          some ((M 79 6), M13)
        else
          z_bv (f_X3_fail_79 (2 : Int32) (M 79 4) M) fun M16 =>
          some ((-1 : Int32), M16)
  else
    z_bv (f_X3_fail_79 (1 : Int32) (M 79 4) M) fun M19 =>
    some ((-1 : Int32), M19)) = some (v, M') := h
  by_cases g1 : (M 79 3) = (2 : Int32)
  · replace h := (if_pos g1).symm.trans h
    by_cases g2 : (4 : Int32) < ((M 79 5) - (M 79 4))
    · replace h := (if_pos g2).symm.trans h
      obtain ⟨M5, c3, h⟩ := z_bv_c h
      have q3 : z_fr w_X3_takeNumber_79 M M5 := z_fr.refl.sub (R_X3_fail_79 c3) (by decide)
      cases h
      exact q3
    · replace h := (if_neg g2).symm.trans h
      by_cases g4 : (M 79 6) < x1
      · replace h := (if_pos g4).symm.trans h
        obtain ⟨M9, c5, h⟩ := z_bv_c h
        have q5 : z_fr w_X3_takeNumber_79 M M9 := z_fr.refl.sub (R_X3_fail_79 c5) (by decide)
        cases h
        exact q5
      · replace h := (if_neg g4).symm.trans h
        by_cases g6 : (M 79 6) ≤ x2
        · replace h := (if_pos g6).symm.trans h
          obtain ⟨M13, c7, h⟩ := z_bv_c h
          have q7 : z_fr w_X3_takeNumber_79 M M13 := (z_fr.refl.up rfl).sub (R_X3_step_79 c7) (by decide)
          cases h
          exact q7
        · replace h := (if_neg g6).symm.trans h
          obtain ⟨M16, c8, h⟩ := z_bv_c h
          have q8 : z_fr w_X3_takeNumber_79 M M16 := z_fr.refl.sub (R_X3_fail_79 c8) (by decide)
          cases h
          exact q8
  · replace h := (if_neg g1).symm.trans h
    obtain ⟨M19, c9, h⟩ := z_bv_c h
    have q9 : z_fr w_X3_takeNumber_79 M M19 := z_fr.refl.sub (R_X3_fail_79 c9) (by decide)
    cases h
    exact q9
def w_X3_endsWell_79 : zWs := ([(79, 3), (79, 4), (79, 5), (79, 6), (79, 9), (79, 10)], [])
theorem R_X3_endsWell_79 {M M' : zMM} {v : Int32} (h : f_X3_endsWell_79 M = some (v, M')) : z_fr w_X3_endsWell_79 M M' := by
  replace h : (  if (M 79 3) = (3 : Int32) then
    z_bv (f_X3_step_79  M) fun M4 =>
    if (M4 79 9) = 0 then
      some ((1 : Int32), M4)
    else
      some ((0 : Int32), M4)
  else
    z_bv (f_X3_fail_79 (1 : Int32) (M 79 4) M) fun M8 =>
    z_bv (f_X3_step_79  M8) fun M11 =>
    if (M11 79 9) = 0 then
      some ((1 : Int32), M11)
    else
      some ((0 : Int32), M11)) = some (v, M') := h
  by_cases g1 : (M 79 3) = (3 : Int32)
  · replace h := (if_pos g1).symm.trans h
    obtain ⟨M4, c2, h⟩ := z_bv_c h
    have q2 : z_fr w_X3_endsWell_79 M M4 := z_fr.refl.sub (R_X3_step_79 c2) (by decide)
    by_cases g3 : (M4 79 9) = 0
    · replace h := (if_pos g3).symm.trans h
      cases h
      exact q2
    · replace h := (if_neg g3).symm.trans h
      cases h
      exact q2
  · replace h := (if_neg g1).symm.trans h
    obtain ⟨M8, c4, h⟩ := z_bv_c h
    have q4 : z_fr w_X3_endsWell_79 M M8 := z_fr.refl.sub (R_X3_fail_79 c4) (by decide)
    obtain ⟨M11, c5, h⟩ := z_bv_c h
    have q5 : z_fr w_X3_endsWell_79 M M11 := q4.sub (R_X3_step_79 c5) (by decide)
    by_cases g6 : (M11 79 9) = 0
    · replace h := (if_pos g6).symm.trans h
      cases h
      exact q5
    · replace h := (if_neg g6).symm.trans h
      cases h
      exact q5
def w_X3_readTroupe_79 : zWs := ([(66, 16), (79, 3), (79, 4), (79, 5), (79, 6), (79, 7), (79, 8), (79, 9), (79, 10)], [])
theorem R_X3_readTroupe_79_p16 {M M' : zMM} (h : f_X3_readTroupe_79_p16 M = some M') : z_fr w_X3_readTroupe_79 M M' := by
  replace h : (  z_bv (f_X3_step_79  M) fun M4 =>
  z_bi (f_X3_takeNumber_79 (1 : Int32) (40 : Int32) M4) fun v6 M7 =>
  z_bi (f_X3_endsWell_79  M7) fun v9 M10 =>
  if v9 = 0 then
    some M10
  else
    some (z_up (z_up M10 66 16 v6) 79 8 (1 : Int32))) = some M' := h
  obtain ⟨M4, c1, h⟩ := z_bv_c h
  have q1 : z_fr w_X3_readTroupe_79 M M4 := z_fr.refl.sub (R_X3_step_79 c1) (by decide)
  obtain ⟨v6, M7, c2, h⟩ := z_bi_c h
  have q2 : z_fr w_X3_readTroupe_79 M M7 := q1.sub (R_X3_takeNumber_79 c2) (by decide)
  obtain ⟨v9, M10, c3, h⟩ := z_bi_c h
  have q3 : z_fr w_X3_readTroupe_79 M M10 := q2.sub (R_X3_endsWell_79 c3) (by decide)
  by_cases g4 : v9 = 0
  · replace h := (if_pos g4).symm.trans h
    cases h
    exact q3
  · replace h := (if_neg g4).symm.trans h
    cases h
    exact ((q3.up rfl).up rfl)
theorem R_X3_readTroupe_79 {M M' : zMM} (h : f_X3_readTroupe_79 M = some M') : z_fr w_X3_readTroupe_79 M M' := by
  replace h : (  if (M 79 8) = 0 then
    f_X3_readTroupe_79_p16  M
  else
    z_bv (f_X3_fail_79 (5 : Int32) (M 79 4) M) fun M14 =>
    f_X3_readTroupe_79_p16  M14) = some M' := h
  by_cases g1 : (M 79 8) = 0
  · replace h := (if_pos g1).symm.trans h
    exact z_fr.refl.trans (R_X3_readTroupe_79_p16 h)
  · replace h := (if_neg g1).symm.trans h
    obtain ⟨M14, c2, h⟩ := z_bv_c h
    have q2 : z_fr w_X3_readTroupe_79 M M14 := z_fr.refl.sub (R_X3_fail_79 c2) (by decide)
    exact q2.trans (R_X3_readTroupe_79_p16 h)
def w_X5_shameOf_66 : zWs := ([], [])
theorem R_X5_shameOf_66 {x1 : Int32} {x2 : Int32} {M M' : zMM} {v : Int32} (h : f_X5_shameOf_66 x1 x2 M = some (v, M')) : z_fr w_X5_shameOf_66 M M' := by
  replace h : (  some ((z_at M 78 400 ((x1 * (20 : Int32)) + x2)), M)) = some (v, M') := h
  cases h
  exact z_fr.refl
def w_X3_readLike_79 : zWs := ([(79, 3), (79, 4), (79, 5), (79, 6), (79, 7), (79, 9), (79, 10)], [78])
theorem R_X3_readLike_79_p42 {x1 : Int32} {x2 : Int32} {M M' : zMM} (h : f_X3_readLike_79_p42 x1 x2 M = some M') : z_fr w_X3_readLike_79 M M' := by
  replace h : (  z_bi (f_X3_takeNumber_79 (0 : Int32) (99 : Int32) M) fun v15 M16 =>
  z_bi (f_X3_endsWell_79  M16) fun v18 M19 =>
  if v18 = 0 then
    some M19
  else
    z_bv (some (z_pt M19 78 400 ((x1 * (20 : Int32)) + x2) v15)) fun M22 =>
    some M22) = some M' := h
  obtain ⟨v15, M16, c1, h⟩ := z_bi_c h
  have q1 : z_fr w_X3_readLike_79 M M16 := z_fr.refl.sub (R_X3_takeNumber_79 c1) (by decide)
  obtain ⟨v18, M19, c2, h⟩ := z_bi_c h
  have q2 : z_fr w_X3_readLike_79 M M19 := q1.sub (R_X3_endsWell_79 c2) (by decide)
  by_cases g3 : v18 = 0
  · replace h := (if_pos g3).symm.trans h
    cases h
    exact q2
  · replace h := (if_neg g3).symm.trans h
    obtain ⟨M22, c4, h⟩ := z_bv_c h
    have q4 : z_fr w_X3_readLike_79 M M22 := Option.some.inj c4 ▸ (q2.pt rfl)
    cases h
    exact q4
theorem R_X3_readLike_79 {M M' : zMM} (h : f_X3_readLike_79 M = some M') : z_fr w_X3_readLike_79 M M' := by
  replace h : (  z_bv (f_X3_step_79  M) fun M3 =>
  z_bi (f_X3_takeNumber_79 (0 : Int32) (19 : Int32) M3) fun v5 M6 =>
  z_bi (f_X3_takeNumber_79 (0 : Int32) (19 : Int32) M6) fun v8 M9 =>
  z_bi (f_X5_shameOf_66 v5 v8 M9) fun v11 M12 =>
  if v11 = (-1 : Int32) then
    f_X3_readLike_79_p42 v5 v8 M12
  else
    z_bv (f_X3_fail_79 (4 : Int32) (M12 79 7) M12) fun M25 =>
    f_X3_readLike_79_p42 v5 v8 M25) = some M' := h
  obtain ⟨M3, c1, h⟩ := z_bv_c h
  have q1 : z_fr w_X3_readLike_79 M M3 := z_fr.refl.sub (R_X3_step_79 c1) (by decide)
  obtain ⟨v5, M6, c2, h⟩ := z_bi_c h
  have q2 : z_fr w_X3_readLike_79 M M6 := q1.sub (R_X3_takeNumber_79 c2) (by decide)
  obtain ⟨v8, M9, c3, h⟩ := z_bi_c h
  have q3 : z_fr w_X3_readLike_79 M M9 := q2.sub (R_X3_takeNumber_79 c3) (by decide)
  obtain ⟨v11, M12, c4, h⟩ := z_bi_c h
  have q4 : z_fr w_X3_readLike_79 M M12 := q3.sub (R_X5_shameOf_66 c4) (by decide)
  by_cases g5 : v11 = (-1 : Int32)
  · replace h := (if_pos g5).symm.trans h
    exact q4.trans (R_X3_readLike_79_p42 h)
  · replace h := (if_neg g5).symm.trans h
    obtain ⟨M25, c6, h⟩ := z_bv_c h
    have q6 : z_fr w_X3_readLike_79 M M25 := q4.sub (R_X3_fail_79 c6) (by decide)
    exact q6.trans (R_X3_readLike_79_p42 h)
def w_X3_takeHead_79 : zWs := ([(79, 3), (79, 4), (79, 5), (79, 6), (79, 9), (79, 10)], [])
theorem R_X3_takeHead_79 {x1 : Int32} {x2 : Int32} {M M' : zMM} (h : f_X3_takeHead_79 x1 x2 M = some M') : z_fr w_X3_takeHead_79 M M' := by
  replace h : (  if x1 < x2 then
    z_bv (f_X3_step_79  M) fun M4 =>
    some M4
  else
    z_bv (f_X3_fail_79 (2 : Int32) (M 79 4) M) fun M7 =>
    z_bv (f_X3_step_79  M7) fun M10 =>
    some M10) = some M' := h
  by_cases g1 : x1 < x2
  · replace h := (if_pos g1).symm.trans h
    obtain ⟨M4, c2, h⟩ := z_bv_c h
    have q2 : z_fr w_X3_takeHead_79 M M4 := z_fr.refl.sub (R_X3_step_79 c2) (by decide)
    cases h
    exact q2
  · replace h := (if_neg g1).symm.trans h
    obtain ⟨M7, c3, h⟩ := z_bv_c h
    have q3 : z_fr w_X3_takeHead_79 M M7 := z_fr.refl.sub (R_X3_fail_79 c3) (by decide)
    obtain ⟨M10, c4, h⟩ := z_bv_c h
    have q4 : z_fr w_X3_takeHead_79 M M10 := q3.sub (R_X3_step_79 c4) (by decide)
    cases h
    exact q4
def w_X3_readPlay_79 : zWs := ([(66, 11), (79, 3), (79, 4), (79, 5), (79, 6), (79, 7), (79, 9), (79, 10)], [75, 76, 77])
theorem R_X3_readPlay_79_p83 {x1 : Int32} {x2 : Int32} {M M' : zMM} (h : f_X3_readPlay_79_p83 x1 x2 M = some M') : z_fr w_X3_readPlay_79 M M' := by
  replace h : (  z_bi (f_X3_endsWell_79  M) fun v18 M19 =>
  if v18 = 0 then
    some M19
  else
    z_bv (some (z_pt M19 75 4 (M19 66 11) x1)) fun M22 =>
    z_bv (some (z_pt M22 76 4 (M22 66 11) x2)) fun M24 =>
    some (z_up M24 66 11 ((M24 66 11) + (1 : Int32)))) = some M' := h
  obtain ⟨v18, M19, c1, h⟩ := z_bi_c h
  have q1 : z_fr w_X3_readPlay_79 M M19 := z_fr.refl.sub (R_X3_endsWell_79 c1) (by decide)
  by_cases g2 : v18 = 0
  · replace h := (if_pos g2).symm.trans h
    cases h
    exact q1
  · replace h := (if_neg g2).symm.trans h
    obtain ⟨M22, c3, h⟩ := z_bv_c h
    have q3 : z_fr w_X3_readPlay_79 M M22 := Option.some.inj c3 ▸ (q1.pt rfl)
    obtain ⟨M24, c4, h⟩ := z_bv_c h
    have q4 : z_fr w_X3_readPlay_79 M M24 := Option.some.inj c4 ▸ (q3.pt rfl)
    cases h
    exact (q4.up rfl)
theorem R_X3_readPlay_79_p66 {x1 : Int32} {x2 : Int32} {M M' : zMM} (h : f_X3_readPlay_79_p66 x1 x2 M = some M') : z_fr w_X3_readPlay_79 M M' := by
  replace h : (  if (M 79 3) = (2 : Int32) then
    z_bv (f_X3_fail_79 (2 : Int32) (M 79 4) M) fun M16 =>
    f_X3_readPlay_79_p83 x1 x2 M16
  else
    f_X3_readPlay_79_p83 x1 x2 M) = some M' := h
  by_cases g1 : (M 79 3) = (2 : Int32)
  · replace h := (if_pos g1).symm.trans h
    obtain ⟨M16, c2, h⟩ := z_bv_c h
    have q2 : z_fr w_X3_readPlay_79 M M16 := z_fr.refl.sub (R_X3_fail_79 c2) (by decide)
    exact q2.trans (R_X3_readPlay_79_p83 h)
  · replace h := (if_neg g1).symm.trans h
    exact z_fr.refl.trans (R_X3_readPlay_79_p83 h)
theorem R0_X3_readPlay_79_p22 : ∀ (n : Nat) (x1 : Int32) (x2 : Int32) (M M' : zMM) , f_X3_readPlay_79_p22  n x1 x2 M = some M' → z_fr w_X3_readPlay_79 M M' := by
  intro n
  induction n with
  | zero => intro x1 x2 M M' h; cases h
  | succ n ih =>
    intro x1 x2 M M' h
    replace h : (  z_bi (f_X3_takeNumber_79 (0 : Int32) (19 : Int32) M) fun v8 M9 =>
  z_bv (some (z_pt M9 77 16 (((M 66 11) * (4 : Int32)) + x2) v8)) fun M11 =>
  if (4 : Int32) ≤ (x2 + (1 : Int32)) then
    f_X3_readPlay_79_p66 x1 (x2 + (1 : Int32)) M11
  else
    if (M11 79 3) = (2 : Int32) then
      f_X3_readPlay_79_p22 n x1 (x2 + (1 : Int32)) M11
    else
      f_X3_readPlay_79_p66 x1 (x2 + (1 : Int32)) M11) = some M' := h
    obtain ⟨v8, M9, c1, h⟩ := z_bi_c h
    have q1 : z_fr w_X3_readPlay_79 M M9 := z_fr.refl.sub (R_X3_takeNumber_79 c1) (by decide)
    obtain ⟨M11, c2, h⟩ := z_bv_c h
    have q2 : z_fr w_X3_readPlay_79 M M11 := Option.some.inj c2 ▸ (q1.pt rfl)
    by_cases g3 : (4 : Int32) ≤ (x2 + (1 : Int32))
    · replace h := (if_pos g3).symm.trans h
      exact q2.trans (R_X3_readPlay_79_p66 h)
    · replace h := (if_neg g3).symm.trans h
      by_cases g4 : (M11 79 3) = (2 : Int32)
      · replace h := (if_pos g4).symm.trans h
        exact q2.trans (ih _ _ _ _ h)
      · replace h := (if_neg g4).symm.trans h
        exact q2.trans (R_X3_readPlay_79_p66 h)
theorem R_X3_readPlay_79_p22 {n : Nat} {x1 : Int32} {x2 : Int32} {M M' : zMM} (h : f_X3_readPlay_79_p22  n x1 x2 M = some M') : z_fr w_X3_readPlay_79 M M' := R0_X3_readPlay_79_p22 _ _ _ _ _ h
theorem R_X3_readPlay_79 {M M' : zMM} (h : f_X3_readPlay_79 M = some M') : z_fr w_X3_readPlay_79 M M' := by
  replace h : (  z_bv (f_X3_takeHead_79 (M 66 11) (4 : Int32) M) fun M3 =>
  z_bi (f_X3_takeNumber_79 (1 : Int32) (20 : Int32) M3) fun v5 M6 =>
  f_X3_readPlay_79_p22 z_fuel v5 (0 : Int32) M6) = some M' := h
  obtain ⟨M3, c1, h⟩ := z_bv_c h
  have q1 : z_fr w_X3_readPlay_79 M M3 := z_fr.refl.sub (R_X3_takeHead_79 c1) (by decide)
  obtain ⟨v5, M6, c2, h⟩ := z_bi_c h
  have q2 : z_fr w_X3_readPlay_79 M M6 := q1.sub (R_X3_takeNumber_79 c2) (by decide)
  exact q2.trans (R_X3_readPlay_79_p22 h)
def w_X3_checkTold_79 : zWs := ([(79, 9), (79, 10)], [])
theorem R_X3_checkTold_79 {x1 : Int32} {x2 : Int32} {M M' : zMM} (h : f_X3_checkTold_79 x1 x2 M = some M') : z_fr w_X3_checkTold_79 M M' := by
  replace h : (  if x1 < x2 then
    some M
  else
    z_bv (f_X3_fail_79 (3 : Int32) (M 79 7) M) fun M4 =>
    some M4) = some M' := h
  by_cases g1 : x1 < x2
  · replace h := (if_pos g1).symm.trans h
    cases h
    exact z_fr.refl
  · replace h := (if_neg g1).symm.trans h
    obtain ⟨M4, c2, h⟩ := z_bv_c h
    have q2 : z_fr w_X3_checkTold_79 M M4 := z_fr.refl.sub (R_X3_fail_79 c2) (by decide)
    cases h
    exact q2
def w_X3_readThing_79 : zWs := ([(66, 8), (79, 3), (79, 4), (79, 5), (79, 6), (79, 7), (79, 9), (79, 10)], [73, 74])
theorem R_X3_readThing_79 {M M' : zMM} (h : f_X3_readThing_79 M = some M') : z_fr w_X3_readThing_79 M M' := by
  replace h : (  z_bv (f_X3_takeHead_79 (M 66 8) (10 : Int32) M) fun M3 =>
  z_bi (f_X3_takeNumber_79 (0 : Int32) (19 : Int32) M3) fun v5 M6 =>
  z_bi (f_X3_takeNumber_79 (0 : Int32) (9999 : Int32) M6) fun v8 M9 =>
  z_bv (f_X3_checkTold_79 v8 (M9 66 6) M9) fun M12 =>
  z_bi (f_X3_endsWell_79  M12) fun v14 M15 =>
  if v14 = 0 then
    some M15
  else
    z_bv (some (z_pt M15 73 10 (M15 66 8) v5)) fun M18 =>
    z_bv (some (z_pt M18 74 10 (M18 66 8) v8)) fun M20 =>
    some (z_up M20 66 8 ((M20 66 8) + (1 : Int32)))) = some M' := h
  obtain ⟨M3, c1, h⟩ := z_bv_c h
  have q1 : z_fr w_X3_readThing_79 M M3 := z_fr.refl.sub (R_X3_takeHead_79 c1) (by decide)
  obtain ⟨v5, M6, c2, h⟩ := z_bi_c h
  have q2 : z_fr w_X3_readThing_79 M M6 := q1.sub (R_X3_takeNumber_79 c2) (by decide)
  obtain ⟨v8, M9, c3, h⟩ := z_bi_c h
  have q3 : z_fr w_X3_readThing_79 M M9 := q2.sub (R_X3_takeNumber_79 c3) (by decide)
  obtain ⟨M12, c4, h⟩ := z_bv_c h
  have q4 : z_fr w_X3_readThing_79 M M12 := q3.sub (R_X3_checkTold_79 c4) (by decide)
  obtain ⟨v14, M15, c5, h⟩ := z_bi_c h
  have q5 : z_fr w_X3_readThing_79 M M15 := q4.sub (R_X3_endsWell_79 c5) (by decide)
  by_cases g6 : v14 = 0
  · replace h := (if_pos g6).symm.trans h
    cases h
    exact q5
  · replace h := (if_neg g6).symm.trans h
    obtain ⟨M18, c7, h⟩ := z_bv_c h
    have q7 : z_fr w_X3_readThing_79 M M18 := Option.some.inj c7 ▸ (q5.pt rfl)
    obtain ⟨M20, c8, h⟩ := z_bv_c h
    have q8 : z_fr w_X3_readThing_79 M M20 := Option.some.inj c8 ▸ (q7.pt rfl)
    cases h
    exact (q8.up rfl)
def w_X3_readTrunk_79 : zWs := ([(66, 6), (79, 3), (79, 4), (79, 5), (79, 6), (79, 7), (79, 9), (79, 10)], [72])
theorem R_X3_readTrunk_79 {M M' : zMM} (h : f_X3_readTrunk_79 M = some M') : z_fr w_X3_readTrunk_79 M M' := by
  replace h : (  z_bv (f_X3_takeHead_79 (M 66 6) (5 : Int32) M) fun M3 =>
  z_bi (f_X3_takeNumber_79 (0 : Int32) (9999 : Int32) M3) fun v5 M6 =>
  z_bv (f_X3_checkTold_79 v5 (M6 66 0) M6) fun M9 =>
  z_bi (f_X3_endsWell_79  M9) fun v11 M12 =>
  if v11 = 0 then
    some M12
  else
    z_bv (some (z_pt M12 72 5 (M12 66 6) v5)) fun M15 =>
    some (z_up M15 66 6 ((M15 66 6) + (1 : Int32)))) = some M' := h
  obtain ⟨M3, c1, h⟩ := z_bv_c h
  have q1 : z_fr w_X3_readTrunk_79 M M3 := z_fr.refl.sub (R_X3_takeHead_79 c1) (by decide)
  obtain ⟨v5, M6, c2, h⟩ := z_bi_c h
  have q2 : z_fr w_X3_readTrunk_79 M M6 := q1.sub (R_X3_takeNumber_79 c2) (by decide)
  obtain ⟨M9, c3, h⟩ := z_bv_c h
  have q3 : z_fr w_X3_readTrunk_79 M M9 := q2.sub (R_X3_checkTold_79 c3) (by decide)
  obtain ⟨v11, M12, c4, h⟩ := z_bi_c h
  have q4 : z_fr w_X3_readTrunk_79 M M12 := q3.sub (R_X3_endsWell_79 c4) (by decide)
  by_cases g5 : v11 = 0
  · replace h := (if_pos g5).symm.trans h
    cases h
    exact q4
  · replace h := (if_neg g5).symm.trans h
    obtain ⟨M15, c6, h⟩ := z_bv_c h
    have q6 : z_fr w_X3_readTrunk_79 M M15 := Option.some.inj c6 ▸ (q4.pt rfl)
    cases h
    exact (q6.up rfl)
def w_X5_trainDays_66 : zWs := ([], [])
theorem R_X5_trainDays_66 {x1 : Int32} {x2 : Int32} {M M' : zMM} {v : Int32} (h : f_X5_trainDays_66 x1 x2 M = some (v, M')) : z_fr w_X5_trainDays_66 M M' := by
  replace h : (  some ((z_at M 71 25 ((x1 * (5 : Int32)) + x2)), M)) = some (v, M') := h
  cases h
  exact z_fr.refl
