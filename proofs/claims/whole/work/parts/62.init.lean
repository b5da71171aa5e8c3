/-! ===== the start: a new object on both sides ===== -/
theorem e_clr {c : Nat} {f : Nat → Int32 → zMM → Option zMM} (hf : ∀ n x M, f (n + 1) x M = if (20 : Int32) ≤ x then some M else z_bv (some (z_pt M c 400 ((x * (20 : Int32)) + x) (0 : Int32))) fun M7 => f n (x + (1 : Int32)) M7) : ∀ k q, q + k = 20 → ∀ fu M, k < fu → ∃ M', f fu (nI q) M = some M' ∧ (∀ a b, a ≠ c → M' a b = M a b) ∧ (∀ r, q ≤ r → r < 20 → M' c (21 * r) = 0) ∧ (∀ b, (∀ r, q ≤ r → r < 20 → b ≠ 21 * r) → M' c b = M c b) := by
  intro k
  induction k with
  | zero =>
    intro q hq fu M hfu
    obtain ⟨fu, rfl⟩ : ∃ m, fu = m + 1 := ⟨fu - 1, by omega⟩
    rw [hf, if_pos (show (20 : Int32) ≤ nI q from nI_le (a := 20) (by omega) (by omega))]
    exact ⟨M, rfl, fun _ _ _ => rfl, fun r h1 h2 => by omega, fun _ _ => rfl⟩
  | succ k ih =>
    intro q hq fu M hfu
    obtain ⟨fu, rfl⟩ : ∃ m, fu = m + 1 := ⟨fu - 1, by omega⟩
    rw [hf, if_neg (show ¬ (20 : Int32) ≤ nI q from nI_ge (b := 20) (by omega) (by decide)), show nI q * (20 : Int32) = nI (q * 20) from nI_mul q 20, nI_add, z_pt_nI (by decide) (by omega), z_bv_s, nI_1]
    obtain ⟨M', e1, e2, e3, e4⟩ := ih (q + 1) (by omega) fu (z_up M c (q * 20 + q) 0) (by omega)
    refine ⟨M', e1, fun a b hab => (e2 a b hab).trans (z_up_o hab), fun r h1 h2 => ?_, fun b hb => ?_⟩
    · by_cases hr : r = q
      · rw [hr, e4 (21 * q) (fun r' h3 h4 => by omega), show q * 20 + q = 21 * q by omega, z_up_s]
      · exact e3 r (by omega) h2
    · rw [e4 b (fun r h1 h2 => hb r (by omega) h2), z_up_n (by have := hb q (by omega) (by omega); omega)]
theorem c53q (M : zMM) : ∃ M', f_X5_clear_53 M = some M' ∧ (∀ a b, a ≠ 65 → a ≠ 53 → a ≠ 58 → M' a b = M a b) ∧ M' 53 0 = 0 ∧ M' 53 6 = 0 ∧ M' 53 8 = 0 ∧ M' 53 11 = 0 ∧ M' 53 16 = 11 ∧ ∀ i, i < 25 → M' 58 i = -1 := by
  have h53 : ∀ n x M, f_X5_clear_53_p44 (n + 1) x M = if (20 : Int32) ≤ x then some M else z_bv (some (z_pt M 65 400 ((x * (20 : Int32)) + x) (0 : Int32))) fun M7 => f_X5_clear_53_p44 n (x + (1 : Int32)) M7 := fun n x M => rfl
  obtain ⟨M', e1, e2, -, -⟩ := e_clr h53 20 0 (by omega) z_fuel (z_fl (z_fl (z_up (z_up (z_up (z_up (z_up M 53 0 (0 : Int32)) 53 6 (0 : Int32)) 53 8 (0 : Int32)) 53 11 (0 : Int32)) 53 16 (11 : Int32)) 58 0 25 (-1 : Int32)) 65 0 400 (-1 : Int32)) (by decide)
  refine ⟨M', (by unfold f_X5_clear_53; rw [z_bv_s, z_bv_s]; exact e1), fun a b h1 h2 h3 => ?_, e2 53 0 (by decide), e2 53 6 (by decide), e2 53 8 (by decide), e2 53 11 (by decide), e2 53 16 (by decide), fun i hi => ?_⟩
  · rw [e2 a b h1]
    unfold z_fl
    rw [if_neg h1, if_neg h3, z_up_o h2, z_up_o h2, z_up_o h2, z_up_o h2, z_up_o h2]
  · rw [e2 58 i (by decide)]
    show (if 0 ≤ i ∧ i < 25 then (-1 : Int32) else _) = -1
    rw [if_pos (by omega)]
theorem c66q (M : zMM) : ∃ M', f_X5_clear_66 M = some M' ∧ (∀ a b, a ≠ 78 → a ≠ 66 → a ≠ 71 → M' a b = M a b) := by
  have h66 : ∀ n x M, f_X5_clear_66_p44 (n + 1) x M = if (20 : Int32) ≤ x then some M else z_bv (some (z_pt M 78 400 ((x * (20 : Int32)) + x) (0 : Int32))) fun M7 => f_X5_clear_66_p44 n (x + (1 : Int32)) M7 := fun n x M => rfl
  obtain ⟨M', e1, e2, -, -⟩ := e_clr h66 20 0 (by omega) z_fuel (z_fl (z_fl (z_up (z_up (z_up (z_up (z_up M 66 0 (0 : Int32)) 66 6 (0 : Int32)) 66 8 (0 : Int32)) 66 11 (0 : Int32)) 66 16 (11 : Int32)) 71 0 25 (-1 : Int32)) 78 0 400 (-1 : Int32)) (by decide)
  refine ⟨M', (by unfold f_X5_clear_66; rw [z_bv_s, z_bv_s]; exact e1), fun a b h1 h2 h3 => ?_⟩
  rw [e2 a b h1]
  unfold z_fl
  rw [if_neg h1, if_neg h3, z_up_o h2, z_up_o h2, z_up_o h2, z_up_o h2, z_up_o h2]
theorem I_start0 (xs : Nat → Int32) : ∃ M2, f_L_law_0 (z_Mst xs) = some M2 ∧ (∀ a b, a < 51 → M2 a b = z_Mst xs a b) ∧ M2 51 1 = 0 ∧ M2 51 2 = -1 ∧ M2 51 10 = 0 ∧ (M2 53 0 = 0 ∧ M2 53 6 = 0 ∧ M2 53 8 = 0 ∧ M2 53 11 = 0 ∧ M2 53 16 = 11) ∧ (∀ i, i < 25 → M2 58 i = -1) ∧ M2 87 2 = 0 ∧ M2 87 3 = 0 ∧ M2 87 5 = 0 ∧ (∀ t, t < 5 → M2 88 t = -1) ∧ (∀ b, M2 93 b = 0) ∧ M2 101 1 = 0 ∧ M2 101 2 = 0 ∧ M2 103 7 = 0 ∧ M2 107 17 = 0 ∧ M2 107 26 = -1 ∧ M2 107 29 = 0 ∧ M2 107 31 = 0 ∧ M2 107 32 = 0 ∧ M2 107 33 = 0 ∧ M2 107 53 = 0 ∧ M2 107 54 = 0 ∧ M2 109 0 = 0 ∧ M2 109 1 = 0 ∧ M2 109 2 = 0 ∧ M2 109 3 = 0 ∧ M2 109 4 = 11 ∧ (∀ b, M2 114 b = 0) ∧ (∀ b, M2 122 b = 0) := by
  obtain ⟨A, a1, a2, a3, a4, a5, a6, a7, a8⟩ := c53q (z_zM (z_zM (z_zM (z_zM (z_zM (z_zM (z_zM (z_zM (z_zM (z_zM (z_zM (z_zM (z_zM (z_up (z_up (z_zM (z_zM (z_Mst xs) 51) 52) 51 1 (0 : Int32)) 51 2 (-1 : Int32)) 53) 54) 55) 56) 57) 58) 59) 60) 61) 62) 63) 64) 65)
  obtain ⟨B, b1, b2⟩ := c66q (z_zM (z_zM (z_zM (z_zM (z_zM (z_zM (z_zM (z_zM (z_zM (z_zM (z_zM (z_zM (z_zM A 66) 67) 68) 69) 70) 71) 72) 73) 74) 75) 76) 77) 78)
  have e1 : ∀ X, f_X7_init_51 X = (z_bv (some (z_zM X 52)) fun M2 => z_bv (some (z_up M2 51 1 (0 : Int32))) fun M4 => z_bv (some (z_up M4 51 2 (-1 : Int32))) fun M6 => z_bv (some (z_zM M6 53)) fun M8 => z_bv (f_X5_init_53 M8) fun M10 => z_bv (some (z_zM M10 66)) fun M12 => z_bv (f_X5_init_66 M12) fun M14 => z_bv (some (z_zM M14 79)) fun M16 => z_bv (f_X3_init_79_52_66 M16) fun M18 => z_bv (some (z_zM M18 80)) fun M20 => z_bv (f_X6_init_80_53 M20) fun M22 => z_bv (some (z_zM M22 83)) fun M24 => z_bv (f_X2_init_83_53 M24) fun M26 => z_bv (some (z_zM M26 87)) fun M28 => z_bv (f_X4_init_87 M28) fun M30 => z_bv (some (z_zM M30 94)) fun M32 => z_bv (f_X4_init_94 M32) fun M34 => z_bv (some (z_up M34 51 10 (0 : Int32))) fun M36 => z_bv (some (z_zM M36 101)) fun M38 => z_bv (f_X0_init_101 M38) fun M40 => z_bv (some (z_zM M40 103)) fun M42 => z_bv (f_X1_init_103_53_80_83_87 M42) fun M44 => some M44) := fun X => rfl
  have e53 : f_X5_init_53 (z_zM (z_up (z_up (z_zM (z_zM (z_Mst xs) 51) 52) 51 1 (0 : Int32)) 51 2 (-1 : Int32)) 53) = some A := by
    unfold f_X5_init_53
    simp only [z_bv_s]
    rw [a1, z_bv_s]
  have e66 : f_X5_init_66 (z_zM A 66) = some B := by
    unfold f_X5_init_66
    simp only [z_bv_s]
    rw [b1, z_bv_s]
  unfold f_L_law_0
  rw [z_bv_s, e1, z_bv_s, z_bv_s, z_bv_s, z_bv_s, e53, z_bv_s, z_bv_s, e66, z_bv_s, z_bv_s]
  unfold f_X3_init_79_52_66 f_X6_init_80_53 f_X2_init_83_53 f_X2_clear_83 f_X4_init_87 f_X4_init_94 f_X0_init_101 f_X1_init_103_53_80_83_87 f_X8_init_107
  simp only [z_bv_s]
  have hB : ∀ a b, a ≠ 78 → a ≠ 66 → a ≠ 71 → a ≠ 67 → a ≠ 68 → a ≠ 69 → a ≠ 70 → a ≠ 72 → a ≠ 73 → a ≠ 74 → a ≠ 75 → a ≠ 76 → a ≠ 77 → B a b = A a b := by
    intro a b h1 h2 h3 h4 h5 h6 h7 h8 h9 h10 h11 h12 h13
    rw [b2 a b h1 h2 h3]
    unfold z_zM
    rw [if_neg h1, if_neg h13, if_neg h12, if_neg h11, if_neg h10, if_neg h9, if_neg h8, if_neg h3, if_neg h7, if_neg h6, if_neg h5, if_neg h4, if_neg h2]
  have hA : ∀ a b, a < 51 → A a b = z_Mst xs a b := by
    intro a b h
    rw [a2 a b (by omega) (by omega) (by omega)]
    simp only [z_zM, z_up, if_neg (show ¬ a = 51 by omega), if_neg (show ¬ a = 52 by omega), if_neg (show ¬ a = 53 by omega), if_neg (show ¬ a = 54 by omega), if_neg (show ¬ a = 55 by omega), if_neg (show ¬ a = 56 by omega), if_neg (show ¬ a = 57 by omega), if_neg (show ¬ a = 58 by omega), if_neg (show ¬ a = 59 by omega), if_neg (show ¬ a = 60 by omega), if_neg (show ¬ a = 61 by omega), if_neg (show ¬ a = 62 by omega), if_neg (show ¬ a = 63 by omega), if_neg (show ¬ a = 64 by omega), if_neg (show ¬ a = 65 by omega)]
  have hA51 : A 51 1 = 0 ∧ A 51 2 = -1 := ⟨(a2 51 1 (by decide) (by decide) (by decide)).trans rfl, (a2 51 2 (by decide) (by decide) (by decide)).trans rfl⟩
  have hB2 : ∀ a b, a < 66 → B a b = A a b := fun a b h => hB a b (by omega) (by omega) (by omega) (by omega) (by omega) (by omega) (by omega) (by omega) (by omega) (by omega) (by omega) (by omega) (by omega)
  refine ⟨_, rfl, fun a b h => ?_, (hB2 51 1 (by decide)).trans hA51.1, (hB2 51 2 (by decide)).trans hA51.2, rfl, ⟨(hB2 53 0 (by decide)).trans a3, (hB2 53 6 (by decide)).trans a4, (hB2 53 8 (by decide)).trans a5, (hB2 53 11 (by decide)).trans a6, (hB2 53 16 (by decide)).trans a7⟩, fun i hi => (hB2 58 i (by decide)).trans (a8 i hi), rfl, rfl, rfl, fun t ht => ?_, fun _ => rfl, rfl, rfl, rfl, rfl, rfl, rfl, rfl, rfl, rfl, rfl, rfl, rfl, rfl, rfl, rfl, rfl, fun _ => rfl, fun _ => rfl⟩
  · rw [← hA a b h, ← hB2 a b (by omega)]
    simp only [z_zM, z_up, z_fl]
    repeat rw [if_neg (by omega)]
  · show (if 0 ≤ t ∧ t < 5 then (-1 : Int32) else _) = -1
    rw [if_pos (by omega)]
theorem I_start (xs : Nat → Int32) : ∃ M2, f_L_law_0 (z_Mst xs) = some M2 ∧ z_I 0 M2 := by
  obtain ⟨M2, q0, q1, q2, q3, q4, q5, q6, q7, q8, q9, q10, q11, q12, q13, q14, q15, q16, q17, q18, q19, q20, q21, q22, q23, q24, q25, q26, q27, q28, q29⟩ := I_start0 xs
  have etw : tw M2 = 0 := by unfold tw; rw [q23]; rfl
  have etk : tk M2 = 0 := by unfold tk; rw [q24]; rfl
  have etg : tg M2 = 0 := by unfold tg; rw [q25]; rfl
  have etp : tp M2 = 0 := by unfold tp; rw [q26]; rfl
  have eni : ni M2 = 0 := by unfold ni; rw [q19]; rfl
  have bd0 : ∀ hi : Int, 0 ≤ hi → z_bd 0 0 hi := fun hi h => ⟨by decide, h⟩
  have zz : z_zb (0 : Int32) = true := rfl
  have o10 : ¬ (0 : Int32) = 1 := by decide
  refine ⟨M2, q0, ⟨?_, ?_, ?_, ?_, ?_, ?_, ?_, ?_, ?_, ?_, ?_, ?_, ?_, ?_, ?_, ?_, ?_, ?_, ?_, ?_⟩⟩
  · refine ⟨by rw [q2, q15], by rw [q15]; exact bd0 700 (by decide), fun i hi => ?_⟩
    rw [q15] at hi; exact absurd hi (Nat.not_lt_zero i)
  · show M2 51 2 = M2 107 26
    rw [q3, q16]
  · refine ⟨by rw [q5.1, q23], by rw [q5.2.1, q24], by rw [q5.2.2.1, q25], by rw [q5.2.2.2.1, q26], by rw [q5.2.2.2.2, q27], by rw [q23]; exact bd0 5 (by decide), by rw [q24]; exact bd0 5 (by decide), by rw [q25]; exact bd0 10 (by decide), by rw [q26]; exact bd0 4 (by decide), by rw [q27]; exact ⟨by decide, by decide⟩⟩
  · intro i hi; omega
  · intro i hi; exact Or.inl ⟨q6 i hi, q28 i⟩
  · intro i hi; omega
  · intro i hi; omega
  · intro h; omega
  · exact ⟨by rw [q7, q17], by rw [q17]; exact bd0 _ (by omega)⟩
  · exact ⟨by rw [q8, q20], by rw [q20]; exact zz, fun h => by rw [q20] at h; exact absurd h o10⟩
  · exact ⟨fun t ht => by omega, fun t _ ht => q10 t ht⟩
  · exact ⟨by rw [q9, q19], by rw [q19]; exact bd0 4 (by decide), fun n hn => by omega, fun n hn => by omega⟩
  · intro i hi; rw [q11, q29]
  · exact ⟨by rw [q14, q21], by rw [q21]; exact zz, fun h => by rw [q21] at h; exact absurd h o10⟩
  · intro i hi; rw [q1 1 i (by decide)]; rfl
  · exact ⟨(fun j _ => by rw [q1 27 j (by decide)]; rfl), (fun j _ => by rw [q1 28 j (by decide)]; rfl), (fun j _ => by rw [q1 29 j (by decide)]; rfl), (fun j _ => by rw [q1 30 j (by decide)]; rfl), (fun j _ => by rw [q1 31 j (by decide)]; rfl), (fun j _ => by rw [q1 32 j (by decide)]; rfl), (fun j _ => by rw [q1 33 j (by decide)]; rfl), (fun j _ => by rw [q1 34 j (by decide)]; rfl), (fun j _ => by rw [q1 35 j (by decide)]; rfl), (fun j _ => by rw [q1 36 j (by decide)]; rfl), (fun j _ => by rw [q1 37 j (by decide)]; rfl), (fun j _ => by rw [q1 38 j (by decide)]; rfl), (fun j _ => by rw [q1 39 j (by decide)]; rfl), (fun j _ => by rw [q1 40 j (by decide)]; rfl), (fun j _ => by rw [q1 41 j (by decide)]; rfl), (fun j _ => by rw [q1 42 j (by decide)]; rfl), (fun j _ => by rw [q1 43 j (by decide)]; rfl), (fun j _ => by rw [q1 44 j (by decide)]; rfl), (fun j _ => by rw [q1 45 j (by decide)]; rfl), (fun j _ => by rw [q1 46 j (by decide)]; rfl), (fun j _ => by rw [q1 47 j (by decide)]; rfl), (fun j _ => by rw [q1 48 j (by decide)]; rfl), (fun j _ => by rw [q1 49 j (by decide)]; rfl), (fun j _ => by rw [q1 50 j (by decide)]; rfl)⟩
  · exact ⟨by rw [q4, q22], by rw [q22]; exact zz, fun h => by rw [q22] at h; exact absurd h o10⟩
  · refine ⟨by rw [q13, q18], by rw [q18]; exact bd0 100 (by decide), by rw [q12]; exact bd0 99 (by decide), fun i hi => ?_⟩
    unfold un at hi
    rw [q18] at hi; exact absurd hi (Nat.not_lt_zero i)
  · intro h; omega
  · intro p hp; omega
