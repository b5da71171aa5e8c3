/-! ===== image ===== -/
def im_p (M : zMM) : zMM := z_up (z_cp (z_cp (z_cp (z_cp (z_up (z_up (z_up (z_up (z_cp (z_cp M 88 95 5) 89 96 5) 94 2 (M 87 2)) 94 3 (M 87 3)) 94 4 (M 87 4)) 94 5 (M 87 5)) 90 97 4) 91 98 4) 92 99 4) 93 100 3) 51 10 (1 : Int32)
def im_m (M : zMM) : zMM := z_cp (z_cp (z_cp (z_cp (z_cp (z_cp (z_up (z_up (z_up (z_up (z_up (z_up M 107 1 (0 : Int32)) 107 54 (1 : Int32)) 107 55 (M 107 33)) 107 56 (M 107 29)) 107 57 (M 107 30)) 107 58 (M 107 32)) 124 143 5) 125 144 5) 136 145 4) 137 146 4) 138 147 4) 122 148 3
theorem e_im_p {M : zMM} (h : z_zb (M 87 3) = true) : f_X7_image_51 M = some (im_p M) := by
  unfold f_X7_image_51 f_X4_takeFrom_94_87
  rw [z_bv_s, z_bv_s, if_pos (show z_zb (z_cp (z_cp M 88 95 5) 89 96 5 87 3) = true from h)]
  rfl
theorem e_im_m {M : zMM} (h : z_zb (M 107 33) = true) : f_X8_image_107 M = some (im_m M) := by
  unfold f_X8_image_107
  rw [if_pos h]
  rfl
theorem tk_le {M : zMM} (h : j_cnt M) : tk M ≤ 5 := by
  obtain ⟨m, h1, h2, h3, h4⟩ := h.2.2.2.2.2.2.1.nI
  unfold tk
  rw [h3]
  omega
theorem tw_le {M : zMM} (h : j_cnt M) : tw M ≤ 5 := by
  obtain ⟨m, h1, h2, h3, h4⟩ := h.2.2.2.2.2.1.nI
  unfold tw
  rw [h3]
  omega
theorem ni_le {M : zMM} (h : j_night M) : ni M ≤ 4 := by
  obtain ⟨m, h1, h2, h3, h4⟩ := h.2.1.nI
  unfold ni
  rw [h3]
  omega
theorem B_c23 : z_Cs f_L_c23 := by
  intro k K Ls j M Lm hk hL hj hI
  obtain ⟨s1, s2, s3⟩ := hI.j_seed
  obtain ⟨p1, p2⟩ := hI.j_place
  obtain ⟨n1, n2, n3, n4⟩ := hI.j_night
  have h1 : f_X7_image_51 M = some (im_p M) := e_im_p (by rw [s1]; exact s2)
  have h2 : f_X8_image_107 (im_p M) = some (im_m (im_p M)) := e_im_m s2
  refine ⟨im_m (im_p M), Lm, ?_, ?_⟩
  · unfold f_L_c23
    rw [h1, z_bv_s, h2, z_bv_s]
  have hf : z_fr ([(51, 10), (94, 2), (94, 3), (94, 4), (94, 5), (107, 1), (107, 54), (107, 55), (107, 56), (107, 57), (107, 58)], [95, 96, 97, 98, 99, 100, 143, 144, 145, 146, 147, 148]) M (im_m (im_p M)) := (z_fr.refl.sub (R_X7_image_51 h1) (by decide)).sub (R_X8_image_107 h2) (by decide)
  have hJ : j_img k (im_m (im_p M)) := by
    refine ⟨rfl, rfl, fun _ => ⟨hI.j_day.1, hI.j_day.2, s1, s2, s3, n1, n2, fun t ht => ?_, fun t ht ht5 => ?_, fun n hn => ?_, fun n hn => ?_, fun i hi => ?_⟩⟩
    · replace ht : t < tk M := ht
      have h5 : t < 5 := Nat.lt_of_lt_of_le ht (tk_le hI.j_cnt)
      show (if t < 5 then M 88 t else M 95 t) = (if t < 5 then M 124 t else M 143 t) ∧ 0 ≤ (if t < 5 then M 124 t else M 143 t).toInt ∧ (if t < 5 then M 124 t else M 143 t).toNatClampNeg < tw M ∧ (if t < 5 then M 89 t else M 96 t) = (if t < 5 then M 125 t else M 144 t) ∧ z_bd (if t < 5 then M 125 t else M 144 t) 0 (100 * k + 100)
      simp only [if_pos h5]
      exact p1 t ht
    · show (if t < 5 then M 88 t else M 95 t) = -1
      rw [if_pos ht5]
      exact p2 t ht ht5
    · replace hn : n < ni M := hn
      have h4 : n < 4 := Nat.lt_of_lt_of_le hn (ni_le hI.j_night)
      show (if n < 4 then M 90 n else M 97 n) = (if n < 4 then M 136 n else M 145 n) ∧ z_bd (if n < 4 then M 136 n else M 145 n) 0 99 ∧ (if n < 4 then M 91 n else M 98 n) = (if n < 4 then M 137 n else M 146 n) ∧ 0 ≤ (if n < 4 then M 137 n else M 146 n).toInt ∧ (if n < 4 then M 137 n else M 146 n).toNatClampNeg < tw M ∧ (if n < 4 then M 92 n else M 99 n) = (if n < 4 then M 138 n else M 147 n) ∧ 0 ≤ (if n < 4 then M 138 n else M 147 n).toInt ∧ (if n < 4 then M 138 n else M 147 n).toNatClampNeg < tp M
      simp only [if_pos h4]
      exact n3 n hn
    · replace hn : n + 1 < ni M := hn
      have h4 : n + 1 < 4 := Nat.lt_of_lt_of_le hn (ni_le hI.j_night)
      show (if n < 4 then M 136 n else M 145 n).toInt ≤ (if n + 1 < 4 then M 136 (n + 1) else M 145 (n + 1)).toInt
      rw [if_pos (by omega), if_pos h4]
      exact n4 n hn
    · show (if i < 3 then M 93 i else M 100 i) = (if i < 3 then M 122 i else M 148 i)
      rw [if_pos hi, if_pos hi]
      exact hI.j_stat i hi
  exact ⟨(hI.j_tape.fr (by decide) hf), (hI.j_fault.fr (by decide) hf), (hI.j_cnt.fr (by decide) hf), (hI.j_town.fr (by decide) hf), (hI.j_train.fr (by decide) hf), (hI.j_thing.fr (by decide) hf), (hI.j_play.fr (by decide) hf), (hI.j_like.fr (by decide) hf), (hI.j_day.fr (by decide) hf).mono, (hI.j_seed.fr (by decide) hf), (hI.j_place.fr (by decide) hf).mono, (hI.j_night.fr (by decide) hf), (hI.j_stat.fr (by decide) hf), (hI.j_plan.fr (by decide) hf), (hI.j_st1.fr (by decide) hf), (hI.j_st2.fr (by decide) hf), hJ.mono, (hI.j_past.fr (by decide) hf).mono, (hI.j_ways.fr (by decide) hf), (hI.j_known.fr (by decide) hf)⟩
