/-! ===== told: both drafts are cleared, and all is read ===== -/
theorem c66v (M : zMM) : ∃ M', f_X5_clear_66 M = some M' ∧ (∀ a b, a ≠ 78 → a ≠ 66 → a ≠ 71 → M' a b = M a b) ∧ M' 66 0 = 0 ∧ M' 66 6 = 0 ∧ M' 66 8 = 0 ∧ M' 66 11 = 0 ∧ M' 66 16 = 11 ∧ (∀ i, i < 25 → M' 71 i = -1) ∧ (∀ a, a < 20 → ∀ b, b < 20 → M' 78 (20 * a + b) = if a = b then 0 else -1) := by
  have h66 : ∀ n x M, f_X5_clear_66_p44 (n + 1) x M = if (20 : Int32) ≤ x then some M else z_bv (some (z_pt M 78 400 ((x * (20 : Int32)) + x) (0 : Int32))) fun M7 => f_X5_clear_66_p44 n (x + (1 : Int32)) M7 := fun n x M => rfl
  obtain ⟨M', e1, e2, e3, e4⟩ := e_clr h66 20 0 (by omega) z_fuel (z_fl (z_fl (z_up (z_up (z_up (z_up (z_up M 66 0 (0 : Int32)) 66 6 (0 : Int32)) 66 8 (0 : Int32)) 66 11 (0 : Int32)) 66 16 (11 : Int32)) 71 0 25 (-1 : Int32)) 78 0 400 (-1 : Int32)) (by decide)
  refine ⟨M', (by unfold f_X5_clear_66; rw [z_bv_s, z_bv_s]; exact e1), fun a b h1 h2 h3 => ?_, e2 66 0 (by decide), e2 66 6 (by decide), e2 66 8 (by decide), e2 66 11 (by decide), e2 66 16 (by decide), fun i hi => ?_, fun a ha b hb => ?_⟩
  · rw [e2 a b h1]
    unfold z_fl
    rw [if_neg h1, if_neg h3, z_up_o h2, z_up_o h2, z_up_o h2, z_up_o h2, z_up_o h2]
  · rw [e2 71 i (by decide)]
    show (if 0 ≤ i ∧ i < 25 then (-1 : Int32) else _) = -1
    rw [if_pos (by omega)]
  · by_cases hab : a = b
    · rw [if_pos hab, ← hab, show 20 * a + a = 21 * a by omega]
      exact e3 a (by omega) ha
    · rw [if_neg hab, e4 _ (fun q _ _ => by omega)]
      show (if 0 ≤ 20 * a + b ∧ 20 * a + b < 400 then (-1 : Int32) else _) = -1
      rw [if_pos (by omega)]
theorem q_p50 : ∀ k i, i + k = 10 → 5 ≤ i → ∀ fu M, k < fu → ∃ M', f_X8_told_107_p50 fu (nI i) M = f_X8_told_107_p82 z_fuel 0 M' ∧ (∀ a b, a ≠ 109 → M' a b = M a b) ∧ (∀ b, i ≤ b → b < 10 → M' 109 b = if b = 9 then 11 else 0) ∧ (∀ b, b < i → M' 109 b = M 109 b) := by
  intro k
  induction k with
  | zero =>
    intro i hi h5 fu M hfu
    obtain ⟨fu, rfl⟩ : ∃ y, fu = y + 1 := ⟨fu - 1, by omega⟩
    refine ⟨M, ?_, fun _ _ _ => rfl, fun b h1 h2 => by omega, fun _ _ => rfl⟩
    unfold f_X8_told_107_p50
    rw [if_pos (show (10 : Int32) ≤ nI i from nI_le (a := 10) (by omega) (by omega))]
  | succ k ih =>
    intro i hi h5 fu M hfu
    obtain ⟨fu, rfl⟩ : ∃ y, fu = y + 1 := ⟨fu - 1, by omega⟩
    have e : f_X8_told_107_p50 (fu + 1) (nI i) M = f_X8_told_107_p50 fu (nI (i + 1)) (z_up M 109 i (if i = 9 then 11 else 0)) := by
      show (if (10 : Int32) ≤ nI i then _ else _) = _
      rw [if_neg (show ¬ (10 : Int32) ≤ nI i from nI_ge (b := 10) (by omega) (by decide)), z_ib_n (n := i) (N := 10) (by decide) (by omega), if_pos rfl, if_pos rfl, nI_clamp (by omega), nI_1]
      by_cases h9 : i = 9
      · rw [if_pos (show nI i = (9 : Int32) by rw [h9]; rfl), if_pos h9]
      · rw [if_neg (show ¬ nI i = (9 : Int32) from fun z => h9 ((nI_eq (b := 9) (by omega) (by decide)).mp z)), if_neg h9]
    obtain ⟨M', m1, m2, m3, m4⟩ := ih (i + 1) (by omega) (by omega) fu (z_up M 109 i (if i = 9 then 11 else 0)) (by omega)
    refine ⟨M', e.trans m1, fun a b hab => (m2 a b hab).trans (z_up_o hab), fun b h1 h2 => ?_, fun b hb => ?_⟩
    · by_cases hbi : b = i
      · rw [hbi, m4 i (by omega), z_up_s]
      · exact m3 b (by omega) h2
    · rw [m4 b (by omega), z_up_n (by omega)]
theorem q_p82 : ∀ k i, i + k = 25 → ∀ fu M, k < fu → ∃ M', f_X8_told_107_p82 fu (nI i) M = f_X8_told_107_p106 z_fuel 0 M' ∧ (∀ a b, a ≠ 114 → M' a b = M a b) ∧ (∀ b, i ≤ b → b < 25 → M' 114 (25 + b) = 0) ∧ (∀ b, b < 25 + i → M' 114 b = M 114 b) := by
  intro k
  induction k with
  | zero =>
    intro i hi fu M hfu
    obtain ⟨fu, rfl⟩ : ∃ y, fu = y + 1 := ⟨fu - 1, by omega⟩
    refine ⟨M, ?_, fun _ _ _ => rfl, fun b h1 h2 => by omega, fun _ _ => rfl⟩
    unfold f_X8_told_107_p82
    rw [if_pos (show (25 : Int32) ≤ nI i from nI_le (a := 25) (by omega) (by omega))]
  | succ k ih =>
    intro i hi fu M hfu
    obtain ⟨fu, rfl⟩ : ∃ y, fu = y + 1 := ⟨fu - 1, by omega⟩
    have e : f_X8_told_107_p82 (fu + 1) (nI i) M = f_X8_told_107_p82 fu (nI (i + 1)) (z_up M 114 (25 + i) 0) := by
      show (if (25 : Int32) ≤ nI i then _ else _) = _
      rw [if_neg (show ¬ (25 : Int32) ≤ nI i from nI_ge (b := 25) (by omega) (by decide)), show (25 : Int32) + nI i = nI (25 + i) from nI_add 25 i, if_pos (z_ib_n (by decide) (by omega)), nI_clamp (by omega), nI_1]
    obtain ⟨M', m1, m2, m3, m4⟩ := ih (i + 1) (by omega) fu (z_up M 114 (25 + i) 0) (by omega)
    refine ⟨M', e.trans m1, fun a b hab => (m2 a b hab).trans (z_up_o hab), fun b h1 h2 => ?_, fun b hb => ?_⟩
    · by_cases hbi : b = i
      · rw [hbi, m4 (25 + i) (by omega), z_up_s]
      · exact m3 b (by omega) h2
    · rw [m4 b (by omega), z_up_n (by omega)]
theorem q_p106 : ∀ k i, i + k = 400 → ∀ fu M, k < fu → ∃ M', f_X8_told_107_p106 fu (nI i) M = (z_bv (f_X8_stepOn_107 M') fun M11 => f_X8_told_107_p136 z_fuel (0 : Int32) M11) ∧ (∀ a b, a ≠ 121 → M' a b = M a b) ∧ (∀ b, i ≤ b → b < 400 → M' 121 (400 + b) = -1) ∧ (∀ b, b < 400 + i → M' 121 b = M 121 b) := by
  intro k
  induction k with
  | zero =>
    intro i hi fu M hfu
    obtain ⟨fu, rfl⟩ : ∃ y, fu = y + 1 := ⟨fu - 1, by omega⟩
    refine ⟨M, ?_, fun _ _ _ => rfl, fun b h1 h2 => by omega, fun _ _ => rfl⟩
    unfold f_X8_told_107_p106
    rw [if_pos (show (400 : Int32) ≤ nI i from nI_le (a := 400) (by omega) (by omega))]
  | succ k ih =>
    intro i hi fu M hfu
    obtain ⟨fu, rfl⟩ : ∃ y, fu = y + 1 := ⟨fu - 1, by omega⟩
    have e : f_X8_told_107_p106 (fu + 1) (nI i) M = f_X8_told_107_p106 fu (nI (i + 1)) (z_up M 121 (400 + i) (-1)) := by
      show (if (400 : Int32) ≤ nI i then _ else _) = _
      rw [if_neg (show ¬ (400 : Int32) ≤ nI i from nI_ge (b := 400) (by omega) (by decide)), show (400 : Int32) + nI i = nI (400 + i) from nI_add 400 i, if_pos (z_ib_n (by decide) (by omega)), nI_clamp (by omega), nI_1]
    obtain ⟨M', m1, m2, m3, m4⟩ := ih (i + 1) (by omega) fu (z_up M 121 (400 + i) (-1)) (by omega)
    refine ⟨M', e.trans m1, fun a b hab => (m2 a b hab).trans (z_up_o hab), fun b h1 h2 => ?_, fun b hb => ?_⟩
    · by_cases hbi : b = i
      · rw [hbi, m4 (400 + i) (by omega), z_up_s]
      · exact m3 b (by omega) h2
    · rw [m4 b (by omega), z_up_n (by omega)]
/-- the model's start: what stands in its draft -/
theorem q_told {n : Nat} {M : zMM} (hn : n ≤ 700) (h17 : ∃ m, M 107 17 = nI m ∧ n ≤ m ∧ m ≤ 700) : ∃ M', f_X8_told_107 (nI n) M = (z_bv (f_X8_stepOn_107 M') fun M11 => f_X8_told_107_p136 z_fuel (0 : Int32) M11) ∧ (∀ a b, a ≠ 107 → a ≠ 109 → a ≠ 114 → a ≠ 121 → M' a b = M a b) ∧ (∀ b, b ≠ 1 → b ≠ 17 → b ≠ 19 → b ≠ 18 → b ≠ 24 → b ≠ 26 → M' 107 b = M 107 b) ∧ M' 107 1 = 0 ∧ M' 107 17 = 0 ∧ M' 107 19 = nI n ∧ M' 107 18 = 0 ∧ M' 107 24 = 0 ∧ M' 107 26 = -1 ∧ M' 109 5 = 0 ∧ M' 109 6 = 0 ∧ M' 109 7 = 0 ∧ M' 109 8 = 0 ∧ M' 109 9 = 11 ∧ (∀ i, i < 25 → M' 114 (25 + i) = 0) ∧ (∀ i, i < 400 → M' 121 (400 + i) = -1) ∧ LOq M M' := by
  obtain ⟨m, h1, h2, h3⟩ := h17
  obtain ⟨A, a1, a2, a3, a4⟩ := q_p50 5 5 (by decide) (by decide) z_fuel (z_up (z_up (z_up (z_up (z_up (z_up M 107 1 (0 : Int32)) 107 17 (0 : Int32)) 107 19 (nI n)) 107 18 (0 : Int32)) 107 24 (0 : Int32)) 107 26 (-1 : Int32)) (by decide)
  obtain ⟨B, b1, b2, b3, b4⟩ := q_p82 25 0 (by decide) z_fuel A (by decide)
  obtain ⟨E, e1, e2, e3, e4⟩ := q_p106 400 0 (by decide) z_fuel B (by decide)
  have r : ∀ b, E 107 b = A 107 b := fun b => (e2 107 b (by decide)).trans (b2 107 b (by decide))
  have r9 : ∀ b, E 109 b = A 109 b := fun b => (e2 109 b (by decide)).trans (b2 109 b (by decide))
  refine ⟨E, ?_, fun a b h107 h109 h114 h121 => ?_, fun b q1 q2 q3 q4 q5 q6 => ?_, ?_, ?_, ?_, ?_, ?_, ?_, ?_, ?_, ?_, ?_, ?_, fun i hi => ?_, fun i hi => e3 i (by omega) hi, fun a b hab => ?_⟩
  · unfold f_X8_told_107
    rw [if_neg (nI_pos (by omega)), h1, if_pos (nI_le h2 (by omega))]
    exact a1.trans (b1.trans e1)
  · rw [e2 a b h121, b2 a b h114, a2 a b h109, z_up_o h107, z_up_o h107, z_up_o h107, z_up_o h107, z_up_o h107, z_up_o h107]
  · rw [r, a2 107 b (by decide), z_up_n q6, z_up_n q5, z_up_n q4, z_up_n q3, z_up_n q2, z_up_n q1]
  · rw [r, a2 107 1 (by decide)]; rfl
  · rw [r, a2 107 17 (by decide)]; rfl
  · rw [r, a2 107 19 (by decide)]; rfl
  · rw [r, a2 107 18 (by decide)]; rfl
  · rw [r, a2 107 24 (by decide)]; rfl
  · rw [r, a2 107 26 (by decide)]; rfl
  · rw [r9, a3 5 (by decide) (by decide)]; rfl
  · rw [r9, a3 6 (by decide) (by decide)]; rfl
  · rw [r9, a3 7 (by decide) (by decide)]; rfl
  · rw [r9, a3 8 (by decide) (by decide)]; rfl
  · rw [r9, a3 9 (by decide) (by decide)]; rfl
  · rw [e2 114 _ (by decide)]
    exact b3 i (by omega) hi
  · have e0 : ∀ a b, a ≠ 107 → z_up (z_up (z_up (z_up (z_up (z_up M 107 1 (0 : Int32)) 107 17 (0 : Int32)) 107 19 (nI n)) 107 18 (0 : Int32)) 107 24 (0 : Int32)) 107 26 (-1 : Int32) a b = M a b := by
      intro a b h107
      rw [z_up_o h107, z_up_o h107, z_up_o h107, z_up_o h107, z_up_o h107, z_up_o h107]
    unfold prq at hab
    have h7 : a ≠ 107 := by omega
    by_cases h121 : a = 121
    · rw [h121, e4 b (by omega), b2 121 b (by decide), a2 121 b (by decide), e0 121 b (by decide)]
    · rw [e2 a b h121]
      by_cases h114 : a = 114
      · rw [h114, b4 b (by omega), a2 114 b (by decide), e0 114 b (by decide)]
      · rw [b2 a b h114]
        by_cases h109 : a = 109
        · rw [h109, a4 b (by omega), e0 109 b (by decide)]
        · rw [a2 a b h109, e0 a b h7]
def w_rd : zWs := ([(107, 1), (107, 17), (107, 18), (107, 19), (107, 20), (107, 21), (107, 22), (107, 23), (107, 24), (107, 25), (107, 26)], [109, 110, 111, 112, 113, 114, 115, 116, 117, 118, 119, 120, 121])
def RDq (u : Nat → Nat) (n : Nat) (M M' : zMM) : Prop :=
  (∃ e b t r w k g p q C D Mc Mm, f_X3_read_79 (nI n) M = some ((0 : Int32), Mc) ∧ f_X8_told_107 (nI n) M' = f_X8_told_107_p159 Mm ∧ GD u n e b t r C D Mc Mm ∧ DR w k g p q C D ∧ z_fr w_rd M' Mm ∧ LOq M' Mm ∧ Mm 107 1 = 0 ∧ Mm 107 17 = 0 ∧ Mm 107 26 = -1) ∨
  (∃ f pp Mc Mm, f_X3_read_79 (nI n) M = some (f, Mc) ∧ f_X8_told_107 (nI n) M' = f_X8_told_107_p159 Mm ∧ CJ u n f pp Mc ∧ MJ f pp Mm ∧ z_fr w_rd M' Mm ∧ LOq M' Mm ∧ Mm 107 1 = 0 ∧ Mm 107 17 = 0)
theorem T_read {u : Nat → Nat} {n : Nat} {M M' : zMM} (hn : n ≤ 700) (hc : cB u n M) (hm : mB u n M') (s1 : stq M) (s2 : stq M') (h17 : ∃ m, M' 107 17 = nI m ∧ n ≤ m ∧ m ≤ 700) : RDq u n M M' := by
  obtain ⟨A, a1, a2, a3, a4, a5, a6, a7, a8, a9⟩ := c66v (z_up (z_up (z_up (z_up (z_up M 79 2 (nI n)) 79 5 (0 : Int32)) 79 9 (0 : Int32)) 79 10 (-1 : Int32)) 79 8 (0 : Int32))
  obtain ⟨E, e1, e2, e3, x1, x17, x19, x18, x24, x26, x5, x6, x7, x8, x9, y1, y2, y3⟩ := q_told (M := M') hn h17
  have rA : ∀ a b, a ≠ 78 → a ≠ 66 → a ≠ 71 → a ≠ 79 → A a b = M a b := by
    intro a b h1 h2 h3 h4
    rw [a2 a b h1 h2 h3, z_up_o h4, z_up_o h4, z_up_o h4, z_up_o h4, z_up_o h4]
  have cA : cB u n A := cB_fr hc (fun b => rA 52 b (by decide) (by decide) (by decide) (by decide))
  have mE : mB u n E := mB_fr hm (fun b => e2 123 b (by decide) (by decide) (by decide) (by decide))
  have A2 : A 79 2 = nI n := a2 79 2 (by decide) (by decide) (by decide)
  have A5 : A 79 5 = nI 0 := a2 79 5 (by decide) (by decide) (by decide)
  have A9 : A 79 9 = 0 := a2 79 9 (by decide) (by decide) (by decide)
  have A10 : A 79 10 = -1 := a2 79 10 (by decide) (by decide) (by decide)
  have A8 : A 79 8 = 0 := a2 79 8 (by decide) (by decide) (by decide)
  obtain ⟨b, t, r, Bc, b1, b2, b3, b4, b5, b6⟩ := e_step7 hn (Nat.zero_le n) cA A2 A5
  obtain ⟨b', t', r', Bm, d1, d2, d3, d4, d5, d6, d7⟩ := e_step8 hn (Nat.zero_le n) mE x19 x18
  obtain ⟨q1, q2, q3⟩ := tk_inj b2 d2
  have fc := R_X3_step_79 b1
  have fm := R_X8_stepOn_107 d1
  rw [← q1, ← q2, ← q3] at d7
  rw [← q2] at d3
  rw [← q1] at d4
  rw [← q3] at d5 d6
  have gc : ∀ a b, a ≠ 79 → Bc a b = A a b := by
    intro a b h
    apply fc
    unfold z_ok w_X3_step_79
    simp [h]
  have gm : ∀ a b, a ≠ 107 → Bm a b = E a b := by
    intro a b h
    apply fm
    unfold z_ok w_X8_stepOn_107
    simp [h]
  have hG : GD u n 0 b t r Bc Bm Bc Bm := by
    refine ⟨⟨hn, Nat.zero_le n, b2, ⟨(fc 79 2 rfl).trans A2, b3, b4, b5, b6, (fc 79 9 rfl).trans A9, cB_fr cA (fun b => gc 52 b (by decide))⟩, ⟨(fm 107 19 rfl).trans x19, d3, d4, d5, d6, d7, (fm 107 24 rfl).trans x24, mB_fr mE (fun b => gm 123 b (by decide))⟩⟩, ⟨?_, (fc 79 10 rfl).trans A10⟩, ?_, fun _ _ _ _ => rfl, fun _ _ _ _ => rfl⟩
    · exact stq_fr s1 (fun a b h1 h2 => (gc a b (by omega)).trans (rA a b (by omega) (by omega) (by omega) (by omega)))
    · exact stq_fr s2 (fun a b h1 h2 => (gm a b (by omega)).trans (e2 a b (by omega) (by omega) (by omega) (by omega)))
  have hD : DR 0 0 0 0 11 Bc Bm := by
    refine ⟨⟨by decide, ?_, ?_⟩, ⟨by decide, ?_, ?_⟩, ⟨by decide, ?_, ?_⟩, ⟨by decide, ?_, ?_⟩, ⟨by decide, by decide, ?_, ?_⟩, fun i hi => absurd hi (by omega), fun i hi => Or.inl ⟨?_, ?_⟩, fun i hi => absurd hi (by omega), fun i hi => absurd hi (by omega), fun i hi => absurd hi (by omega), fun x hx y hy => ?_⟩
    · rw [gc 66 0 (by decide)]; exact a3
    · rw [gm 109 5 (by decide)]; exact x5
    · rw [gc 66 6 (by decide)]; exact a4
    · rw [gm 109 6 (by decide)]; exact x6
    · rw [gc 66 8 (by decide)]; exact a5
    · rw [gm 109 7 (by decide)]; exact x7
    · rw [gc 66 11 (by decide)]; exact a6
    · rw [gm 109 8 (by decide)]; exact x8
    · rw [gc 66 16 (by decide)]; exact a7
    · rw [gm 109 9 (by decide)]; exact x9
    · rw [gc 71 i (by decide)]; exact a8 i hi
    · rw [gm 114 _ (by decide)]; exact y1 i hi
    · rw [gc 78 _ (by decide), gm 121 _ (by decide), a9 x hx y hy, show 400 + 20 * x + y = 400 + (20 * x + y) by omega, y2 (20 * x + y) (by omega)]
      by_cases hxy : x = y
      · rw [if_pos hxy]; exact Or.inl ⟨hxy, rfl, rfl⟩
      · rw [if_neg hxy]; exact Or.inr (Or.inl ⟨hxy, rfl, rfl⟩)
  have B8 : Bc 79 8 = 0 := (fc 79 8 rfl).trans A8
  have eR : f_X3_read_79 (nI n) M = f_X3_read_79_p46 z_fuel (nI 0) Bc := by
    unfold f_X3_read_79
    rw [show z_min (nI n) (700 : Int32) = nI n by unfold z_min; rw [if_neg (show ¬ (700 : Int32) < nI n from nI_nlt (a := 700) hn (by decide))], a1, z_bv_s, b1, z_bv_s]
    rfl
  have eT : f_X8_told_107 (nI n) M' = f_X8_told_107_p136 z_fuel (0 : Int32) Bm := by
    rw [e1, d1, z_bv_s]
  have hE : z_fr w_rd M' E := by
    intro a b hok
    have n9 : a ≠ 109 := fun z => by
      rw [z] at hok
      exact absurd hok (by rw [show z_ok w_rd 109 b = false from rfl]; decide)
    have n14 : a ≠ 114 := fun z => by
      rw [z] at hok
      exact absurd hok (by rw [show z_ok w_rd 114 b = false from rfl]; decide)
    have n21 : a ≠ 121 := fun z => by
      rw [z] at hok
      exact absurd hok (by rw [show z_ok w_rd 121 b = false from rfl]; decide)
    by_cases h7 : a = 107
    · rw [h7] at hok ⊢
      exact e3 b (fun z => by rw [z] at hok; exact absurd hok (by decide)) (fun z => by rw [z] at hok; exact absurd hok (by decide)) (fun z => by rw [z] at hok; exact absurd hok (by decide)) (fun z => by rw [z] at hok; exact absurd hok (by decide)) (fun z => by rw [z] at hok; exact absurd hok (by decide)) (fun z => by rw [z] at hok; exact absurd hok (by decide))
    · exact e2 a b h7 n9 n14 n21
  have hfr : ∀ X, z_fr w_X8_readLine_107 Bm X → z_fr w_rd M' X := fun X hX => (hE.sub fm (by decide)).sub hX (by decide)
  have hlo : LOq M' Bm := LO_tr y3 (LO_fr (by decide) fm)
  rcases L_main n z_fuel z_fuel 0 0 b t r 0 0 0 0 11 Bc Bm Bc Bm 0 (by omega) (by unfold z_fuel; omega) (by unfold z_fuel; omega) (by decide) hG hD (by decide) B8 with ⟨e0, b0, t0, r0, w0, k0, g0, p0, q0, C0, D0, Mc, Mm, v1, v2, v3, v4, v5, v6⟩ | ⟨f, pp, Mc, Mm, v1, v2, v3, v4, v5, v6⟩
  · left
    exact ⟨e0, b0, t0, r0, w0, k0, g0, p0, q0, C0, D0, Mc, Mm, eR.trans v1, eT.trans v2, v3, v4, hfr _ v5, LO_tr hlo v6, (v5 107 1 rfl).trans ((fm 107 1 rfl).trans x1), (v5 107 17 rfl).trans ((fm 107 17 rfl).trans x17), (v5 107 26 rfl).trans ((fm 107 26 rfl).trans x26)⟩
  · right
    exact ⟨f, pp, Mc, Mm, eR.trans v1, eT.trans v2, v3, v4, hfr _ v5, LO_tr hlo v6, (v5 107 1 rfl).trans ((fm 107 1 rfl).trans x1), (v5 107 17 rfl).trans ((fm 107 17 rfl).trans x17)⟩
