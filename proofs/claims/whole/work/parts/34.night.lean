/-! ===== night ===== -/
theorem z_pt_nI {M : zMM} {r N n : Nat} {v : Int32} (hN : N < 2 ^ 31) (h : n < N) : z_pt M r N (nI n) v = z_up M r n v := by
  unfold z_pt
  rw [if_neg (nI_pos (by omega)), if_neg (nI_ge h hN), nI_clamp (by omega)]
theorem e_isIn (x a b : Int32) (M : zMM) : f_X8_isIn x a b M = some ((if x < a then (0 : Int32) else if b < x then (0 : Int32) else (1 : Int32)), M) := by
  unfold f_X8_isIn
  by_cases h : x < a
  · rw [if_pos h, if_pos h]
  · rw [if_neg h, if_neg h]
    by_cases h2 : b < x
    · rw [if_pos h2, if_pos h2]
    · rw [if_neg h2, if_neg h2]
theorem z_le_nlt (x y : Int32) : x ≤ y ↔ ¬ y < x := by
  rw [Int32.le_iff_toInt_le, Int32.lt_iff_toInt_lt]
  omega
theorem B_night : z_op_night := by
  intro k M a1 a2 a3 hk hI
  obtain ⟨qT, qK, qG, qP, qR, bT, bK, bG, bP, bR⟩ := hI.j_cnt
  obtain ⟨n1, n2, n3, n4⟩ := hI.j_night
  have hfail : f_X7_night_51 a1 a2 a3 M = some (.inr 0, M) → f_X8_night_107 a1 a2 a3 M = some ((0 : Int32), z_up (z_up M 107 1 (0 : Int32)) 107 1 (1 : Int32)) → ∃ (o : Int32 ⊕ Nat) (M1 : zMM) (b : Int32) (M2 : zMM), f_X7_night_51 a1 a2 a3 M = some (o, M1) ∧ f_X8_night_107 a1 a2 a3 M1 = some (b, M2) ∧ z_ag o b (M2 107 1) (some 1) none ∧ z_I (k + 1) M2 := by
    intro h1 h3
    exact ⟨.inr 0, M, 0, _, h1, h3, ⟨1, rfl, rfl, by decide⟩, hI.code ((z_fr.refl.up rfl).up rfl)⟩
  have cT : (a2 < 0 ∨ (¬ a2 < 0 ∧ ¬ a2 < M 109 0)) ∨ ∃ t, t < tw M ∧ a2 = nI t ∧ ¬ a2 < 0 ∧ a2 < M 109 0 := by
    rcases z_ix a2 bT with h | h | h
    · exact Or.inl (Or.inl h)
    · exact Or.inl (Or.inr h)
    · exact Or.inr h
  have cP : (a3 < 0 ∨ (¬ a3 < 0 ∧ ¬ a3 < M 109 3)) ∨ ∃ t, t < tp M ∧ a3 = nI t ∧ ¬ a3 < 0 ∧ a3 < M 109 3 := by
    rcases z_ix a3 bP with h | h | h
    · exact Or.inl (Or.inl h)
    · exact Or.inl (Or.inr h)
    · exact Or.inr h
  rcases cT with hT | ⟨t, ht, et, ht0, ht1⟩
  · refine hfail ?_ ?_
    · unfold f_X7_night_51; rw [e_pTown0 qT hT]; rfl
    · unfold f_X8_night_107; rw [e_mTown0 (M := z_up M 107 1 (0 : Int32)) bT hT]; rfl
  rcases cP with hP | ⟨p, hp, ep, hp0, hp1⟩
  · refine hfail ?_ ?_
    · unfold f_X7_night_51; rw [e_pTown1 qT ht0 ht1, z_bt_l, e_pPlay0 qP hP]; rfl
    · unfold f_X8_night_107; rw [e_mTown1 (M := z_up M 107 1 (0 : Int32)) bT ht0 ht1, z_bi_s, if_neg (by decide), e_mPlay0 (M := z_up M 107 1 (0 : Int32)) bP hP]; rfl
  obtain ⟨n, hn, en, ec, hn4⟩ := n2.nI
  have hni : ni M = n := ec
  have e5 : M 87 5 = nI n := n1.trans en
  -- the day ahead
  obtain ⟨A, hA1, hA2, hA3⟩ : ∃ A : Int32, (∀ M' : zMM, M' 87 5 = M 87 5 → (∀ b, M' 90 b = M 90 b) → f_X4_addNight_87 a1 a2 a3 M' = f_X4_addNight_87_p24 a1 a2 a3 A M') ∧ (∀ M' : zMM, M' 107 32 = M 107 32 → (∀ b, M' 136 b = M 136 b) → n < 4 → (if (M' 107 32) = 0 then f_X8_night_107_p58 a1 a2 a3 (0 : Int32) a1 M' else if z_ib ((M' 107 32) - (1 : Int32)) 4 = true then f_X8_night_107_p58 a1 a2 a3 (M' 136 ((M' 107 32) - (1 : Int32)).toNatClampNeg) a1 M' else none) = f_X8_night_107_p58 a1 a2 a3 A a1 M') ∧ (0 ≤ A.toInt ∧ (0 < n → A = M 136 (n - 1))) := by
    by_cases hz : n = 0
    · subst hz
      refine ⟨0, fun M' h1 h2 => ?_, fun M' h1 h2 _ => ?_, by decide, fun h => absurd h (by decide)⟩
      · unfold f_X4_addNight_87
        rw [if_pos (by rw [h1, e5]; decide)]
      · rw [if_pos (by rw [h1, en]; decide)]
    · obtain ⟨m, rfl⟩ : ∃ m, n = m + 1 := ⟨n - 1, by omega⟩
      have hm := n3 m (by rw [hni]; omega)
      refine ⟨M 136 m, fun M' h1 h2 => ?_, fun M' h1 h2 h4 => ?_, hm.2.1.1, fun _ => rfl⟩
      · unfold f_X4_addNight_87
        rw [h1, e5, if_neg (nI_nle (by omega) hn), nI_pred, z_at_nI (by decide) (by omega), h2, hm.1]
      · rw [h1, en, if_neg (nI_ne0 (by omega) hn), nI_pred, if_pos (z_ib_n (by decide) (by omega)), nI_clamp (by omega), h2]
  have hprog : f_X7_night_51 a1 a2 a3 M = z_bi (f_X4_addNight_87_p24 a1 a2 a3 A M) fun v10 M11 => if v10 = 0 then z_bv (f_X4_refuse_87 (2 : Int32) M11) fun M15 => some (.inl (-1 : Int32), M15) else some (.inl (M11 87 5), M11) := by
    unfold f_X7_night_51
    rw [e_pTown1 qT ht0 ht1, z_bt_l, e_pPlay1 qP hp0 hp1, z_bt_l, hA1 M rfl (fun _ => rfl)]
  have hmod : ∀ M1 : zMM, M1 109 0 = M 109 0 → M1 109 3 = M 109 3 → M1 107 32 = M 107 32 → (∀ b, M1 136 b = M 136 b) → f_X8_night_107 a1 a2 a3 M1 = if n = 4 then f_X8_night_107_p66 (z_up M1 107 1 (0 : Int32)) else f_X8_night_107_p58 a1 a2 a3 A a1 (z_up M1 107 1 (0 : Int32)) := by
    intro M1 h1 h2 h3 h4
    unfold f_X8_night_107
    rw [e_mTown1 (M := z_up M1 107 1 (0 : Int32)) (show z_bd (M1 109 0) 0 5 by rw [h1]; exact bT) ht0 (show a2 < M1 109 0 by rw [h1]; exact ht1), z_bi_s, if_neg (by decide), e_mPlay1 (M := z_up M1 107 1 (0 : Int32)) (show z_bd (M1 109 3) 0 4 by rw [h2]; exact bP) hp0 (show a3 < M1 109 3 by rw [h2]; exact hp1), z_bi_s, if_neg (by decide)]
    by_cases h : n = 4
    · rw [if_pos h, if_pos (show z_up M1 107 1 (0 : Int32) 107 32 = (4 : Int32) by show M1 107 32 = _; rw [h3, en, h]; rfl)]
    · rw [if_neg h, if_neg (show ¬ z_up M1 107 1 (0 : Int32) 107 32 = (4 : Int32) by
        show ¬ M1 107 32 = _
        rw [h3, en]
        intro q
        exact h ((nI_eq hn (by decide)).mp (q.trans (show (4 : Int32) = nI 4 from rfl))))]
      exact hA2 _ h3 h4 (by omega)
  by_cases hok : n < 4 ∧ ¬ a1 < A ∧ ¬ (99 : Int32) < a1
  · obtain ⟨o1, o2, o3⟩ := hok
    have hP : f_X7_night_51 a1 a2 a3 M = some (.inl (nI (n + 1)), z_up (z_up (z_up (z_up M 90 n a1) 91 n a2) 92 n a3) 87 5 (nI (n + 1))) := by
      rw [hprog]
      unfold f_X4_addNight_87_p24
      rw [e5, if_neg (show ¬ (4 : Int32) ≤ nI n from nI_ge o1 (by decide)), if_neg o2, if_pos ((z_le_nlt _ _).mpr o3), z_pt_nI (by decide) o1, z_bv_s, show z_up M 90 n a1 87 5 = nI n from e5, z_pt_nI (by decide) o1, z_bv_s, show z_up (z_up M 90 n a1) 91 n a2 87 5 = nI n from e5, z_pt_nI (by decide) o1, z_bv_s, show z_up (z_up (z_up M 90 n a1) 91 n a2) 92 n a3 87 5 = nI n from e5, nI_1, z_bi_s, if_neg (by decide)]
      rfl
    have hQ : f_X8_night_107 a1 a2 a3 (z_up (z_up (z_up (z_up M 90 n a1) 91 n a2) 92 n a3) 87 5 (nI (n + 1))) = some (nI (n + 1), z_up (z_up (z_up (z_up (z_up (z_up (z_up (z_up (z_up M 90 n a1) 91 n a2) 92 n a3) 87 5 (nI (n + 1))) 107 1 (0 : Int32)) 136 n a1) 137 n a2) 138 n a3) 107 32 (nI (n + 1))) := by
      rw [hmod (z_up (z_up (z_up (z_up M 90 n a1) 91 n a2) 92 n a3) 87 5 (nI (n + 1))) rfl rfl rfl (fun _ => rfl), if_neg (by omega)]
      unfold f_X8_night_107_p58
      rw [e_isIn, if_neg o2, if_neg o3, z_bi_s, if_neg (by decide)]
      rw [show ∀ X : zMM, z_up (z_up X 87 5 (nI (n + 1))) 107 1 (0 : Int32) 107 32 = X 107 32 from fun _ => rfl, show z_up (z_up (z_up M 90 n a1) 91 n a2) 92 n a3 107 32 = nI n from en, if_pos (z_ib_n (by decide) o1), if_pos (z_ib_n (by decide) o1), if_pos (z_ib_n (by decide) o1), nI_clamp hn, nI_1]
    refine ⟨_, _, _, _, hP, hQ, ⟨rfl, rfl⟩, ?_⟩
    have hf : z_fr ([(87, 5), (107, 1), (107, 32)], [90, 91, 92, 136, 137, 138]) M (z_up (z_up (z_up (z_up (z_up (z_up (z_up (z_up (z_up M 90 n a1) 91 n a2) 92 n a3) 87 5 (nI (n + 1))) 107 1 (0 : Int32)) 136 n a1) 137 n a2) 138 n a3) 107 32 (nI (n + 1))) := ((((((((z_fr.refl.up rfl).up rfl).up rfl).up rfl).up rfl).up rfl).up rfl).up rfl).up rfl
    have hJ : j_night (z_up (z_up (z_up (z_up (z_up (z_up (z_up (z_up (z_up M 90 n a1) 91 n a2) 92 n a3) 87 5 (nI (n + 1))) 107 1 (0 : Int32)) 136 n a1) 137 n a2) 138 n a3) 107 32 (nI (n + 1))) := by
      have hc1 : (nI (n + 1)).toNatClampNeg = n + 1 := nI_clamp (by omega)
      have ha1 : 0 ≤ a1.toInt ∧ a1.toInt ≤ 99 := by
        rw [Int32.lt_iff_toInt_lt] at o2 o3
        have : (99 : Int32).toInt = 99 := rfl
        omega
      refine ⟨rfl, ⟨show 0 ≤ (nI (n + 1)).toInt by rw [nI_toInt (by omega)]; omega, show (nI (n + 1)).toInt ≤ 4 by rw [nI_toInt (by omega)]; omega⟩, fun m hm => ?_, fun m hm => ?_⟩
      · replace hm : m < (nI (n + 1)).toNatClampNeg := hm
        rw [hc1] at hm
        by_cases hmn : m = n
        · subst hmn
          refine ⟨?_, ?_⟩
          · show (if m = m then a1 else M 90 m) = (if m = m then a1 else M 136 m)
            rw [if_pos rfl, if_pos rfl]
          · refine ⟨?_, ?_, ?_, ?_, ?_, ?_, ?_⟩
            · show z_bd (if m = m then a1 else M 136 m) 0 99
              rw [if_pos rfl]; exact ha1
            · show (if m = m then a2 else M 91 m) = (if m = m then a2 else M 137 m)
              rw [if_pos rfl, if_pos rfl]
            · show 0 ≤ (if m = m then a2 else M 137 m).toInt
              rw [if_pos rfl, et, nI_toInt (by have := bT.nI; obtain ⟨w, h1, h2, h3, h4⟩ := this; unfold tw at ht; rw [h3] at ht; omega)]; omega
            · show (if m = m then a2 else M 137 m).toNatClampNeg < tw M
              rw [if_pos rfl, et, nI_clamp (by have := bT.nI; obtain ⟨w, h1, h2, h3, h4⟩ := this; unfold tw at ht; rw [h3] at ht; omega)]; exact ht
            · show (if m = m then a3 else M 92 m) = (if m = m then a3 else M 138 m)
              rw [if_pos rfl, if_pos rfl]
            · show 0 ≤ (if m = m then a3 else M 138 m).toInt
              rw [if_pos rfl, ep, nI_toInt (by have := bP.nI; obtain ⟨w, h1, h2, h3, h4⟩ := this; unfold tp at hp; rw [h3] at hp; omega)]; omega
            · show (if m = m then a3 else M 138 m).toNatClampNeg < tp M
              rw [if_pos rfl, ep, nI_clamp (by have := bP.nI; obtain ⟨w, h1, h2, h3, h4⟩ := this; unfold tp at hp; rw [h3] at hp; omega)]; exact hp
        · have old := n3 m (by rw [hni]; omega)
          show (if m = n then a1 else M 90 m) = (if m = n then a1 else M 136 m) ∧ z_bd (if m = n then a1 else M 136 m) 0 99 ∧ (if m = n then a2 else M 91 m) = (if m = n then a2 else M 137 m) ∧ 0 ≤ (if m = n then a2 else M 137 m).toInt ∧ (if m = n then a2 else M 137 m).toNatClampNeg < tw M ∧ (if m = n then a3 else M 92 m) = (if m = n then a3 else M 138 m) ∧ 0 ≤ (if m = n then a3 else M 138 m).toInt ∧ (if m = n then a3 else M 138 m).toNatClampNeg < tp M
          simp only [if_neg hmn]
          exact old
      · replace hm : m + 1 < (nI (n + 1)).toNatClampNeg := hm
        rw [hc1] at hm
        show (if m = n then a1 else M 136 m).toInt ≤ (if m + 1 = n then a1 else M 136 (m + 1)).toInt
        rw [if_neg (by omega)]
        by_cases hmn : m + 1 = n
        · rw [if_pos hmn]
          have := hA3.2 (by omega)
          rw [show n - 1 = m by omega] at this
          rw [← this]
          rw [Int32.lt_iff_toInt_lt] at o2
          omega
        · rw [if_neg hmn]
          exact n4 m (by rw [hni]; omega)
    exact ⟨(hI.j_tape.fr (by decide) hf), (hI.j_fault.fr (by decide) hf), (hI.j_cnt.fr (by decide) hf), (hI.j_town.fr (by decide) hf), (hI.j_train.fr (by decide) hf), (hI.j_thing.fr (by decide) hf), (hI.j_play.fr (by decide) hf), (hI.j_like.fr (by decide) hf), (hI.j_day.fr (by decide) hf).mono, (hI.j_seed.fr (by decide) hf), (hI.j_place.fr (by decide) hf).mono, hJ, (hI.j_stat.fr (by decide) hf), (hI.j_plan.fr (by decide) hf), (hI.j_st1.fr (by decide) hf), (hI.j_st2.fr (by decide) hf), (hI.j_img.fr (by decide) hf).mono, (hI.j_past.fr (by decide) hf).mono, (hI.j_ways.fr (by decide) hf), (hI.j_known.fr (by decide) hf)⟩
  · have hP : f_X7_night_51 a1 a2 a3 M = some (.inl (-1 : Int32), z_up M 93 2 (M 93 2 + 1)) := by
      rw [hprog]
      have : f_X4_addNight_87_p24 a1 a2 a3 A M = some ((0 : Int32), M) := by
        unfold f_X4_addNight_87_p24
        rw [e5]
        by_cases h1 : n < 4
        · rw [if_neg (show ¬ (4 : Int32) ≤ nI n from nI_ge h1 (by decide))]
          by_cases h2 : a1 < A
          · rw [if_pos h2]
          · rw [if_neg h2, if_neg (fun q => hok ⟨h1, h2, (z_le_nlt _ _).mp q⟩)]
        · rw [if_pos (show (4 : Int32) ≤ nI n from nI_le (a := 4) (by omega) hn)]
      rw [this]
      rfl
    have hQ : f_X8_night_107 a1 a2 a3 (z_up M 93 2 (M 93 2 + 1)) = some ((-1 : Int32), z_up (z_up (z_up M 93 2 (M 93 2 + 1)) 107 1 (0 : Int32)) 122 2 (M 122 2 + 1)) := by
      rw [hmod (z_up M 93 2 (M 93 2 + 1)) rfl rfl rfl (fun _ => rfl)]
      by_cases h1 : n = 4
      · rw [if_pos h1]; rfl
      · rw [if_neg h1]
        unfold f_X8_night_107_p58
        rw [e_isIn]
        by_cases h2 : a1 < A
        · rw [if_pos h2]; rfl
        · by_cases h3 : (99 : Int32) < a1
          · rw [if_neg h2, if_pos h3]; rfl
          · exact absurd ⟨by omega, h2, h3⟩ hok
    refine ⟨_, _, _, _, hP, hQ, ⟨rfl, rfl⟩, ?_⟩
    have hf : z_fr ([(107, 1)], [93, 122]) M (z_up (z_up (z_up M 93 2 (M 93 2 + 1)) 107 1 (0 : Int32)) 122 2 (M 122 2 + 1)) := ((z_fr.refl.up rfl).up rfl).up rfl
    have hJ : j_stat (z_up (z_up (z_up M 93 2 (M 93 2 + 1)) 107 1 (0 : Int32)) 122 2 (M 122 2 + 1)) := by
      intro i hi
      have old := hI.j_stat i hi
      have hs : M 93 2 = M 122 2 := hI.j_stat 2 (by decide)
      show (if i = 2 then M 93 2 + 1 else M 93 i) = (if i = 2 then M 122 2 + 1 else M 122 i)
      by_cases h2 : i = 2
      · rw [if_pos h2, if_pos h2, hs]
      · rw [if_neg h2, if_neg h2, old]
    exact ⟨(hI.j_tape.fr (by decide) hf), (hI.j_fault.fr (by decide) hf), (hI.j_cnt.fr (by decide) hf), (hI.j_town.fr (by decide) hf), (hI.j_train.fr (by decide) hf), (hI.j_thing.fr (by decide) hf), (hI.j_play.fr (by decide) hf), (hI.j_like.fr (by decide) hf), (hI.j_day.fr (by decide) hf).mono, (hI.j_seed.fr (by decide) hf), (hI.j_place.fr (by decide) hf).mono, (hI.j_night.fr (by decide) hf), hJ, (hI.j_plan.fr (by decide) hf), (hI.j_st1.fr (by decide) hf), (hI.j_st2.fr (by decide) hf), (hI.j_img.fr (by decide) hf).mono, (hI.j_past.fr (by decide) hf).mono, (hI.j_ways.fr (by decide) hf), (hI.j_known.fr (by decide) hf)⟩
