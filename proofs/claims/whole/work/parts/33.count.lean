/-! ===== count ===== -/
theorem B_count : z_op_count := by
  intro k M a1 hk hI
  obtain ⟨c0, c1, c2, c3, c4, -⟩ := hI.j_cnt
  have hM : z_I (k + 1) (z_up M 107 1 (0 : Int32)) := hI.code (z_fr.refl.up rfl)
  by_cases g0 : a1 = (0 : Int32)
  · subst g0
    exact ⟨.inl (M 53 0), M, M 109 0, z_up M 107 1 (0 : Int32), rfl, rfl, ⟨rfl, c0⟩, hM⟩
  by_cases g1 : a1 = (1 : Int32)
  · subst g1
    exact ⟨.inl (M 53 6), M, M 109 1, z_up M 107 1 (0 : Int32), rfl, rfl, ⟨rfl, c1⟩, hM⟩
  by_cases g2 : a1 = (2 : Int32)
  · subst g2
    exact ⟨.inl (M 53 8), M, M 109 2, z_up M 107 1 (0 : Int32), rfl, rfl, ⟨rfl, c2⟩, hM⟩
  by_cases g3 : a1 = (3 : Int32)
  · subst g3
    exact ⟨.inl (M 53 11), M, M 109 3, z_up M 107 1 (0 : Int32), rfl, rfl, ⟨rfl, c3⟩, hM⟩
  by_cases g4 : a1 = (4 : Int32)
  · subst g4
    exact ⟨.inl (M 53 16), M, M 109 4, z_up M 107 1 (0 : Int32), rfl, rfl, ⟨rfl, c4⟩, hM⟩
  by_cases g5 : a1 = (5 : Int32)
  · subst g5
    exact ⟨.inl (M 87 2), M, M 107 29, z_up M 107 1 (0 : Int32), rfl, rfl, ⟨rfl, hI.j_day.1⟩, hM⟩
  by_cases g6 : a1 = (6 : Int32)
  · subst g6
    exact ⟨.inl (M 87 5), M, M 107 32, z_up M 107 1 (0 : Int32), rfl, rfl, ⟨rfl, hI.j_night.1⟩, hM⟩
  by_cases g7 : a1 = (7 : Int32)
  · subst g7
    exact ⟨.inl (M 101 2), M, M 107 31, z_up M 107 1 (0 : Int32), rfl, rfl, ⟨rfl, hI.j_past.1⟩, hM⟩
  by_cases g8 : a1 = (8 : Int32)
  · subst g8
    have e := hI.j_seed.1
    by_cases h : M 107 33 = 0
    · refine ⟨.inl (0 : Int32), M, (0 : Int32), z_up M 107 1 (0 : Int32), ?_, ?_, ⟨rfl, rfl⟩, hM⟩
      · show (if M 87 3 = 0 then some (Sum.inl (0 : Int32), M) else some (Sum.inl (1 : Int32), M)) = _
        rw [e, if_pos h]
      · show (if M 107 33 = 0 then some ((0 : Int32), z_up M 107 1 (0 : Int32)) else some ((1 : Int32), z_up M 107 1 (0 : Int32))) = _
        rw [if_pos h]
    · refine ⟨.inl (1 : Int32), M, (1 : Int32), z_up M 107 1 (0 : Int32), ?_, ?_, ⟨rfl, rfl⟩, hM⟩
      · show (if M 87 3 = 0 then some (Sum.inl (0 : Int32), M) else some (Sum.inl (1 : Int32), M)) = _
        rw [e, if_neg h]
      · show (if M 107 33 = 0 then some ((0 : Int32), z_up M 107 1 (0 : Int32)) else some ((1 : Int32), z_up M 107 1 (0 : Int32))) = _
        rw [if_neg h]
  by_cases g9 : a1 = (9 : Int32)
  · subst g9
    exact ⟨.inl (M 51 1), M, M 107 17, z_up M 107 1 (0 : Int32), rfl, rfl, ⟨rfl, hI.j_tape.1⟩, hM⟩
  by_cases g10 : a1 = (10 : Int32)
  · subst g10
    exact ⟨.inl (M 93 0), M, M 122 0, z_up M 107 1 (0 : Int32), rfl, rfl, ⟨rfl, hI.j_stat 0 (by decide)⟩, hM⟩
  by_cases g11 : a1 = (11 : Int32)
  · subst g11
    exact ⟨.inl (M 93 1), M, M 122 1, z_up M 107 1 (0 : Int32), rfl, rfl, ⟨rfl, hI.j_stat 1 (by decide)⟩, hM⟩
  by_cases g12 : a1 = (12 : Int32)
  · subst g12
    exact ⟨.inl (M 93 2), M, M 122 2, z_up M 107 1 (0 : Int32), rfl, rfl, ⟨rfl, hI.j_stat 2 (by decide)⟩, hM⟩
  refine ⟨.inr 0, M, 0, z_up (z_up M 107 1 (0 : Int32)) 107 1 (1 : Int32), ?_, ?_, ⟨1, rfl, rfl, by decide⟩, hI.code ((z_fr.refl.up rfl).up rfl)⟩
  · unfold f_X7_count_51
    rw [if_neg g0, if_neg g1, if_neg g2, if_neg g3, if_neg g4, if_neg g5, if_neg g6, if_neg g7, if_neg g8, if_neg g9, if_neg g10, if_neg g11, if_neg g12]
  · have e : f_X8_isIn a1 (0 : Int32) (4 : Int32) (z_up M 107 1 (0 : Int32)) = some ((0 : Int32), z_up M 107 1 (0 : Int32)) := by
      unfold f_X8_isIn
      by_cases h0 : a1 < 0
      · rw [if_pos h0]
      · rw [if_neg h0]
        by_cases h1 : (4 : Int32) < a1
        · rw [if_pos h1]
        · exfalso
          obtain ⟨n, hn, rfl⟩ := nI_of h0
          have h2 : n ≤ 4 := by
            by_cases h3 : 4 < n
            · exact absurd (nI_lt h3 hn) h1
            · omega
          have : n = 0 ∨ n = 1 ∨ n = 2 ∨ n = 3 ∨ n = 4 := by omega
          rcases this with rfl | rfl | rfl | rfl | rfl
          · exact g0 rfl
          · exact g1 rfl
          · exact g2 rfl
          · exact g3 rfl
          · exact g4 rfl
    unfold f_X8_count_107
    rw [e, z_bi_s, if_pos rfl, if_neg g5, if_neg g6, if_neg g7, if_neg g8, if_neg g9, if_neg g10, if_neg g11, if_neg g12]
    rfl
