/-! ===== days ===== -/
theorem z_addI {x y : Int32} (h1 : -2147483648 ≤ x.toInt + y.toInt) (h2 : x.toInt + y.toInt < 2147483648) : (x + y).toInt = x.toInt + y.toInt := by
  rw [Int32.toInt_add, Int.bmod_eq_of_le (by omega) (by omega)]
theorem B_days : z_op_days := by
  intro k M a1 hk hI
  by_cases hb : a1 < 0 ∨ (99 : Int32) < a1
  · refine ⟨.inr 1, M, 0, z_up (z_up M 107 1 (0 : Int32)) 107 1 (1 : Int32), ?_, ?_, ⟨1, rfl, rfl, by decide⟩, hI.code ((z_fr.refl.up rfl).up rfl)⟩
    · unfold f_X7_days_51
      rcases hb with h | h
      · exact if_pos h
      · by_cases h0 : a1 < 0
        · exact if_pos h0
        · rw [if_neg h0, if_neg (fun q => (z_le_nlt _ _).mp q h)]
    · unfold f_X8_days_107
      rw [e_isIn]
      rcases hb with h | h
      · rw [if_pos h]; rfl
      · by_cases h0 : a1 < 0
        · rw [if_pos h0]; rfl
        · rw [if_neg h0, if_pos h]; rfl
  have h0 : ¬ a1 < 0 := fun q => hb (Or.inl q)
  have h1 : ¬ (99 : Int32) < a1 := fun q => hb (Or.inr q)
  obtain ⟨w, wl, hw, -, hw9⟩ := hI.j_past.2.2.1.nI
  obtain ⟨u, ul, hu, hu2, hu9⟩ := hI.j_past.2.1.nI
  have hs : M 101 2 = nI u := hI.j_past.1.trans hu
  obtain ⟨Mk, r, k1, hr, a1', a2', b0, b1, b2, b3, b4⟩ := e_keep hw (by omega) hs (by omega)
  have fk := R_X0_keep_101_87 k1
  obtain ⟨S1, S2, S3⟩ := hI.j_seed
  have kd : Mk 87 2 = M 87 2 := fk 87 2 rfl
  have hM1 : f_X7_days_51 a1 M = some (.inl (M 87 2 + a1), z_up Mk 87 2 (M 87 2 + a1)) := by
    unfold f_X7_days_51
    rw [if_neg h0, if_pos ((z_le_nlt _ _).mpr h1), k1, z_bv_s, kd]
  have g31 : z_up (z_up Mk 87 2 (M 87 2 + a1)) 107 1 (0 : Int32) 107 31 = nI u := (fk 107 31 rfl).trans hu
  have g33 : z_up (z_up Mk 87 2 (M 87 2 + a1)) 107 1 (0 : Int32) 107 33 = M 107 33 := fk 107 33 rfl
  have g29 : z_up (z_up Mk 87 2 (M 87 2 + a1)) 107 1 (0 : Int32) 107 29 = M 107 29 := fk 107 29 rfl
  have g30 : z_up (z_up Mk 87 2 (M 87 2 + a1)) 107 1 (0 : Int32) 107 30 = M 107 30 := fk 107 30 rfl
  have gw : ∀ c, 130 ≤ c ∧ c ≤ 135 → ∀ b, z_up (z_up Mk 87 2 (M 87 2 + a1)) 107 1 (0 : Int32) c b = M c b := by
    intro c hc b
    rw [z_up_o (by omega), z_up_o (by omega)]
    have : c = 130 ∨ c = 131 ∨ c = 132 ∨ c = 133 ∨ c = 134 ∨ c = 135 := by omega
    rcases this with rfl | rfl | rfl | rfl | rfl | rfl
    all_goals exact fk _ b rfl
  obtain ⟨Mn, e, n1, he, n31, n130, n131, n132, n133, n134, n135, nold⟩ := e_note (M := z_up (z_up Mk 87 2 (M 87 2 + a1)) 107 1 (0 : Int32)) (u := u) (x := -1) g31 (by omega) (by rw [g33]; exact S2) (fun h100 i hi => by
    rw [gw 135 (by decide)]
    have := hI.j_past.2.2.2 (99 - i) (by unfold un; rw [hu2]; omega)
    have := this.2.2.2.1
    unfold un at this
    rw [hu2, show u - 1 - (99 - i) = i by omega] at this
    exact this) (Or.inl rfl)
  have fn := R_X8_note_107 n1
  have m29 : Mn 107 29 = M 107 29 := (fn 107 29 rfl).trans g29
  have hM2 : f_X8_days_107 a1 (z_up Mk 87 2 (M 87 2 + a1)) = some (M 107 29 + a1, z_up Mn 107 29 (M 107 29 + a1)) := by
    unfold f_X8_days_107
    rw [e_isIn, if_neg h0, if_neg h1, z_bi_s, if_neg (by decide), n1, z_bv_s, m29]
  refine ⟨_, _, _, _, hM1, hM2, ⟨?_, by rw [hI.j_day.1]⟩, ?_⟩
  · show Mn 107 1 = 0
    exact fn 107 1 rfl
  have hf : z_fr ([(87, 2), (101, 1), (101, 2), (107, 1), (107, 29), (107, 31)], [102, 130, 131, 132, 133, 134, 135]) M (z_up Mn 107 29 (M 107 29 + a1)) := ((((z_fr.refl.sub fk (by decide)).up rfl).up rfl).sub fn (by decide)).up rfl
  have r102 : ∀ b, z_up Mn 107 29 (M 107 29 + a1) 102 b = Mk 102 b := fun b => fn 102 b rfl
  have jd : j_day (k + 1) (z_up Mn 107 29 (M 107 29 + a1)) := by
    obtain ⟨d1, d2, d3⟩ := hI.j_day
    have ha : 0 ≤ a1.toInt ∧ a1.toInt ≤ 99 := by
      rw [Int32.lt_iff_toInt_lt] at h0 h1
      have e1 : (99 : Int32).toInt = 99 := rfl
      have e2 : (0 : Int32).toInt = 0 := rfl
      omega
    refine ⟨?_, ?_⟩
    · show Mn 87 2 = M 107 29 + a1
      rw [show Mn 87 2 = M 87 2 + a1 from fn 87 2 rfl, d1]
    · show z_bd (M 107 29 + a1) 0 (100 * ((k + 1 : Nat) : Int))
      unfold z_bd
      rw [z_addI (by omega) (by omega)]
      omega
  have jp : j_past k (z_up Mn 107 29 (M 107 29 + a1)) := by
    refine hI.j_past.push (M2 := z_up Mn 107 29 (M 107 29 + a1)) (x := -1) (w := w) (u := u) (r := r) (e := e) hI.j_day hI.j_seed hI.j_place hI.j_cnt hw (by omega) hu (by omega) hr he ?_ ?_ n31 ?_ ?_ ?_ ?_ ?_ n130 n131 n132 ?_ ?_ ?_ ?_ ?_ ?_
    · exact (fn 101 1 rfl).trans a1'
    · exact (fn 101 2 rfl).trans a2'
    · rw [r102]; exact b0
    · rw [r102]; exact b1
    · rw [r102]; exact b2
    · intro t ht; rw [r102, r102]; exact b3 t ht
    · intro b hb; rw [r102]; exact b4 b hb
    · exact n133.trans g29
    · exact n134.trans g30
    · exact n135.trans g33
    · intro c hc i hi
      have := nold c hc i hi
      rw [gw c hc] at this
      rw [← this]
      exact z_up_o (by omega)
    · intro b
      exact (fn 109 b rfl).trans (fk 109 b rfl)
    · exact Or.inl ⟨rfl, fun t ht => ⟨(fn 88 t rfl).trans (fk 88 t rfl), (fn 89 t rfl).trans (fk 89 t rfl)⟩⟩
  exact ⟨(hI.j_tape.fr (by decide) hf), (hI.j_fault.fr (by decide) hf), (hI.j_cnt.fr (by decide) hf), (hI.j_town.fr (by decide) hf), (hI.j_train.fr (by decide) hf), (hI.j_thing.fr (by decide) hf), (hI.j_play.fr (by decide) hf), (hI.j_like.fr (by decide) hf), jd, (hI.j_seed.fr (by decide) hf), (hI.j_place.fr (by decide) hf).mono, (hI.j_night.fr (by decide) hf), (hI.j_stat.fr (by decide) hf), (hI.j_plan.fr (by decide) hf), (hI.j_st1.fr (by decide) hf), (hI.j_st2.fr (by decide) hf), (hI.j_img.fr (by decide) hf).mono, jp.mono, (hI.j_ways.fr (by decide) hf), (hI.j_known.fr (by decide) hf)⟩
