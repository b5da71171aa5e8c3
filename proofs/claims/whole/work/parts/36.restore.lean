/-! ===== restore ===== -/
def rs_p (M : zMM) : zMM := z_up (z_cp (z_cp (z_cp (z_cp (z_up (z_up (z_up (z_up (z_cp (z_cp M 95 88 5) 96 89 5) 87 2 (M 94 2)) 87 3 (M 94 3)) 87 4 (M 94 4)) 87 5 (M 94 5)) 97 90 4) 98 91 4) 99 92 4) 100 93 3) 101 2 (0 : Int32)
def rs_m (M : zMM) : zMM := z_cp (z_cp (z_cp (z_cp (z_cp (z_cp (z_up (z_up (z_up (z_up (z_up (z_up M 107 1 (0 : Int32)) 107 33 (M 107 55)) 107 29 (M 107 56)) 107 30 (M 107 57)) 107 32 (M 107 58)) 107 31 (0 : Int32)) 143 124 5) 144 125 5) 145 136 4) 146 137 4) 147 138 4) 148 122 3
theorem e_rs_p {M : zMM} (h0 : ¬ M 51 10 = 0) (h : z_zb (M 94 3) = true) : f_X7_restore_51 M = some ((1 : Int32), rs_p M) := by
  unfold f_X7_restore_51 f_X4_takeFrom_87_94
  rw [if_neg h0, z_bv_s, z_bv_s, if_pos (show z_zb (z_cp (z_cp M 95 88 5) 96 89 5 94 3) = true from h)]
  rfl
theorem e_rs_m {M : zMM} (h0 : ¬ M 107 54 = 0) (h : z_zb (M 107 55) = true) : f_X8_restore_107 M = some ((1 : Int32), rs_m M) := by
  unfold f_X8_restore_107
  rw [if_neg h0, if_pos h]
  rfl
theorem B_c24 : z_Cs f_L_c24 := by
  intro k K Ls j M Lm hk hL hj hI
  obtain ⟨g1, g2, g3⟩ := hI.j_img
  by_cases h0 : M 107 54 = 0
  · refine ⟨z_up M 107 1 (0 : Int32), Lm, ?_, hI.code (z_fr.refl.up rfl)⟩
    unfold f_L_c24
    have e1 : f_X7_restore_51 M = some ((0 : Int32), M) := if_pos (g1.trans h0)
    have e2 : f_X8_restore_107 M = some ((0 : Int32), z_up M 107 1 (0 : Int32)) := if_pos h0
    rw [e1, z_bi_s, e2, z_bi_s, if_pos rfl]
  have h1 : M 107 54 = 1 := by
    simp only [z_zb, Bool.or_eq_true, decide_eq_true_eq] at g2
    rcases g2 with q | q
    · exact absurd q h0
    · exact q
  obtain ⟨d1, d2, s1, s2, s3, n1, n2, p1, p2, n3, n4, st⟩ := g3 h1
  have e1 : f_X7_restore_51 M = some ((1 : Int32), rs_p M) := e_rs_p (by rw [g1]; exact h0) (by rw [s1]; exact s2)
  have e2 : f_X8_restore_107 (rs_p M) = some ((1 : Int32), rs_m (rs_p M)) := e_rs_m h0 s2
  refine ⟨rs_m (rs_p M), Lm, ?_, ?_⟩
  · unfold f_L_c24
    rw [e1, z_bi_s, e2, z_bi_s, if_pos rfl]
  have hf : z_fr ([(87, 2), (87, 3), (87, 4), (87, 5), (101, 2), (107, 1), (107, 29), (107, 30), (107, 31), (107, 32), (107, 33)], [88, 89, 90, 91, 92, 93, 122, 124, 125, 136, 137, 138]) M (rs_m (rs_p M)) := (z_fr.refl.sub (R_X7_restore_51 e1) (by decide)).sub (R_X8_restore_107 e2) (by decide)
  have hn4 : (M 107 58).toNatClampNeg ≤ 4 := by
    obtain ⟨m, q1, q2, q3, q4⟩ := n2.nI
    rw [q3]; omega
  have jd : j_day k (rs_m (rs_p M)) := ⟨d1, d2⟩
  have js : j_seed (rs_m (rs_p M)) := ⟨s1, s2, s3⟩
  have jp : j_place k (rs_m (rs_p M)) := by
    refine ⟨fun t ht => ?_, fun t ht ht5 => ?_⟩
    · replace ht : t < tk M := ht
      have h5 : t < 5 := Nat.lt_of_lt_of_le ht (tk_le hI.j_cnt)
      show (if t < 5 then M 95 t else M 88 t) = (if t < 5 then M 143 t else M 124 t) ∧ 0 ≤ (if t < 5 then M 143 t else M 124 t).toInt ∧ (if t < 5 then M 143 t else M 124 t).toNatClampNeg < tw M ∧ (if t < 5 then M 96 t else M 89 t) = (if t < 5 then M 144 t else M 125 t) ∧ z_bd (if t < 5 then M 144 t else M 125 t) 0 (100 * k + 100)
      simp only [if_pos h5]
      exact p1 t ht
    · show (if t < 5 then M 95 t else M 88 t) = -1
      rw [if_pos ht5]
      exact p2 t ht ht5
  have jn : j_night (rs_m (rs_p M)) := by
    refine ⟨n1, n2, fun n hn => ?_, fun n hn => ?_⟩
    · replace hn : n < (M 107 58).toNatClampNeg := hn
      have h4 : n < 4 := Nat.lt_of_lt_of_le hn hn4
      show (if n < 4 then M 97 n else M 90 n) = (if n < 4 then M 145 n else M 136 n) ∧ z_bd (if n < 4 then M 145 n else M 136 n) 0 99 ∧ (if n < 4 then M 98 n else M 91 n) = (if n < 4 then M 146 n else M 137 n) ∧ 0 ≤ (if n < 4 then M 146 n else M 137 n).toInt ∧ (if n < 4 then M 146 n else M 137 n).toNatClampNeg < tw M ∧ (if n < 4 then M 99 n else M 92 n) = (if n < 4 then M 147 n else M 138 n) ∧ 0 ≤ (if n < 4 then M 147 n else M 138 n).toInt ∧ (if n < 4 then M 147 n else M 138 n).toNatClampNeg < tp M
      simp only [if_pos h4]
      exact n3 n hn
    · replace hn : n + 1 < (M 107 58).toNatClampNeg := hn
      have h4 : n + 1 < 4 := Nat.lt_of_lt_of_le hn hn4
      show (if n < 4 then M 145 n else M 136 n).toInt ≤ (if n + 1 < 4 then M 145 (n + 1) else M 136 (n + 1)).toInt
      rw [if_pos (by omega), if_pos h4]
      exact n4 n hn
  have jt : j_stat (rs_m (rs_p M)) := by
    intro i hi
    show (if i < 3 then M 100 i else M 93 i) = (if i < 3 then M 148 i else M 122 i)
    rw [if_pos hi, if_pos hi]
    exact st i hi
  have ja : j_past k (rs_m (rs_p M)) := ⟨rfl, ⟨show (0 : Int) ≤ (0 : Int32).toInt by decide, show (0 : Int32).toInt ≤ 100 by decide⟩, hI.j_past.2.2.1, fun i hi => absurd (show i < 0 from hi) (Nat.not_lt_zero i)⟩
  exact ⟨(hI.j_tape.fr (by decide) hf), (hI.j_fault.fr (by decide) hf), (hI.j_cnt.fr (by decide) hf), (hI.j_town.fr (by decide) hf), (hI.j_train.fr (by decide) hf), (hI.j_thing.fr (by decide) hf), (hI.j_play.fr (by decide) hf), (hI.j_like.fr (by decide) hf), jd.mono, js, jp.mono, jn, jt, (hI.j_plan.fr (by decide) hf), (hI.j_st1.fr (by decide) hf), (hI.j_st2.fr (by decide) hf), (hI.j_img.fr (by decide) hf).mono, ja.mono, (hI.j_ways.fr (by decide) hf), (hI.j_known.fr (by decide) hf)⟩
