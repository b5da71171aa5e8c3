/-! ===== told: where all begins ===== -/
theorem c_begin : ∀ m i, i + m = 5 → ∀ fu M kk, m < fu → M 53 6 = nI kk → kk ≤ 5 → ∃ M', f_X4_begin_87_53_p2 fu (nI i) M = some (z_up (z_up (z_up (z_up M' 87 2 (0 : Int32)) 87 3 (0 : Int32)) 87 4 (0 : Int32)) 87 5 (0 : Int32)) ∧ (∀ c d, c ≠ 88 → c ≠ 89 → M' c d = M c d) ∧ (∀ t, i ≤ t → t < 5 → M' 88 t = (if t < kk then M 59 t else -1) ∧ M' 89 t = 0) ∧ (∀ t, t < i → M' 88 t = M 88 t ∧ M' 89 t = M 89 t) := by
  intro m
  induction m with
  | zero =>
    intro i hi fu M kk hfu h6 hk
    obtain ⟨fu, rfl⟩ : ∃ y, fu = y + 1 := ⟨fu - 1, by omega⟩
    refine ⟨M, ?_, fun _ _ _ _ => rfl, fun t h1 h2 => by omega, fun _ _ => ⟨rfl, rfl⟩⟩
    show (if (5 : Int32) ≤ nI i then _ else _) = _
    rw [if_pos (show (5 : Int32) ≤ nI i from nI_le (a := 5) (by omega) (by omega))]
  | succ m ih =>
    intro i hi fu M kk hfu h6 hk
    obtain ⟨fu, rfl⟩ : ∃ y, fu = y + 1 := ⟨fu - 1, by omega⟩
    have e : f_X4_begin_87_53_p2 (fu + 1) (nI i) M = f_X4_begin_87_53_p2 fu (nI (i + 1)) (z_up (z_up M 88 i (if i < kk then M 59 i else -1)) 89 i 0) := by
      show (if (5 : Int32) ≤ nI i then _ else _) = _
      rw [if_neg (show ¬ (5 : Int32) ≤ nI i from nI_ge (b := 5) (by omega) (by decide)), h6]
      unfold f_X4_place_87
      by_cases hik : i < kk
      · rw [if_neg (nI_ge hik (by omega)), z_at_nI (by decide) (by omega), z_bv_s, z_pt_nI (by decide) (by omega), z_bv_s, z_pt_nI (by decide) (by omega), z_bv_s, if_pos hik, nI_1]
      · rw [if_pos (nI_le (by omega) (by omega)), z_pt_nI (by decide) (by omega), z_bv_s, z_pt_nI (by decide) (by omega), z_bv_s, z_bv_s, if_neg hik, nI_1]
    obtain ⟨M', m1, m2, m3, m4⟩ := ih (i + 1) (by omega) fu (z_up (z_up M 88 i (if i < kk then M 59 i else -1)) 89 i 0) kk (by omega) h6 hk
    refine ⟨M', e.trans m1, fun c d h8 h9 => ?_, fun t h1 h2 => ?_, fun t ht => ?_⟩
    · rw [m2 c d h8 h9, z_up_o h9, z_up_o h8]
    · by_cases hti : t = i
      · rw [hti, (m4 i (by omega)).1, (m4 i (by omega)).2, z_up_s, z_up_o (by decide), z_up_s]
        exact ⟨rfl, rfl⟩
      · exact m3 t (by omega) h2
    · rw [(m4 t (by omega)).1, (m4 t (by omega)).2, z_up_o (by decide), z_up_n (by omega), z_up_n (by omega), z_up_o (by decide)]
      exact ⟨rfl, rfl⟩
theorem m_begin : ∀ m i, i + m = 5 → ∀ fu M kk, m < fu → M 109 1 = nI kk → kk ≤ 5 → ∃ M', f_X8_take_107_p86 fu (nI i) M = (z_bv (f_X8_tellWays_107 (z_up (z_up (z_up (z_up (z_up (z_up M' 107 29 (0 : Int32)) 107 33 (0 : Int32)) 107 31 (0 : Int32)) 107 32 (0 : Int32)) 107 53 (0 : Int32)) 107 54 (0 : Int32))) fun M28 => some M28) ∧ (∀ c d, c ≠ 124 → c ≠ 125 → M' c d = M c d) ∧ (∀ t, i ≤ t → t < 5 → M' 124 t = (if t < kk then M 115 t else 0) ∧ M' 125 t = 0) ∧ (∀ t, t < i → M' 124 t = M 124 t ∧ M' 125 t = M 125 t) := by
  intro m
  induction m with
  | zero =>
    intro i hi fu M kk hfu h6 hk
    obtain ⟨fu, rfl⟩ : ∃ y, fu = y + 1 := ⟨fu - 1, by omega⟩
    refine ⟨M, ?_, fun _ _ _ _ => rfl, fun t h1 h2 => by omega, fun _ _ => ⟨rfl, rfl⟩⟩
    show (if (5 : Int32) ≤ nI i then _ else _) = _
    rw [if_pos (show (5 : Int32) ≤ nI i from nI_le (a := 5) (by omega) (by omega))]
  | succ m ih =>
    intro i hi fu M kk hfu h6 hk
    obtain ⟨fu, rfl⟩ : ∃ y, fu = y + 1 := ⟨fu - 1, by omega⟩
    have e : f_X8_take_107_p86 (fu + 1) (nI i) M = f_X8_take_107_p86 fu (nI (i + 1)) (z_up (z_up M 124 i (if i < kk then M 115 i else 0)) 125 i 0) := by
      show (if (5 : Int32) ≤ nI i then _ else _) = _
      rw [if_neg (show ¬ (5 : Int32) ≤ nI i from nI_ge (b := 5) (by omega) (by decide)), h6, z_ib_n (n := i) (N := 5) (by decide) (by omega), if_pos rfl, if_pos rfl, if_pos rfl, if_pos rfl, if_pos rfl, nI_clamp (by omega), nI_1]
      by_cases hik : i < kk
      · rw [if_neg (nI_ge hik (by omega)), if_pos hik]
      · rw [if_pos (nI_le (by omega) (by omega)), if_neg hik]
    obtain ⟨M', m1, m2, m3, m4⟩ := ih (i + 1) (by omega) fu (z_up (z_up M 124 i (if i < kk then M 115 i else 0)) 125 i 0) kk (by omega) h6 hk
    refine ⟨M', e.trans m1, fun c d h8 h9 => ?_, fun t h1 h2 => ?_, fun t ht => ?_⟩
    · rw [m2 c d h8 h9, z_up_o h9, z_up_o h8]
    · by_cases hti : t = i
      · rw [hti, (m4 i (by omega)).1, (m4 i (by omega)).2, z_up_s, z_up_o (by decide), z_up_s]
        exact ⟨rfl, rfl⟩
      · exact m3 t (by omega) h2
    · rw [(m4 t (by omega)).1, (m4 t (by omega)).2, z_up_o (by decide), z_up_n (by omega), z_up_n (by omega), z_up_o (by decide)]
      exact ⟨rfl, rfl⟩
