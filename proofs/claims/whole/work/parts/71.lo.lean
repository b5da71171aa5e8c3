/-! ===== told: the model's reader writes second halves only ===== -/
theorem U_151 {a : Int32} {j : Nat} {M M' : zMM} (hj : 5 ≤ j ∧ j < 2 ^ 31) (h : f_X8_readTown_107_p151 a (nI j) M = some M') : LOq M M' := by
  unfold f_X8_readTown_107_p151 at h
  obtain ⟨-, h⟩ := z_ifn h
  rw [nI_clamp hj.2] at h
  rw [← Option.some.inj h]
  exact LO_up (LO_up LO_refl (by unfold prq; omega)) (by unfold prq; omega)
theorem U_130 {a x3 : Int32} {j : Nat} {M M' : zMM} (hj : 5 ≤ j ∧ j < 2 ^ 31) (h : f_X8_readTown_107_p130 (nI j) x3 a (nI j) M = some M') : LOq M M' := by
  unfold f_X8_readTown_107_p130 at h
  obtain ⟨-, h⟩ := z_ifn h
  rw [nI_clamp hj.2] at h
  have q : LOq M (z_up M 112 j a) := LO_up LO_refl (by unfold prq; omega)
  split at h
  · exact LO_tr q (U_151 hj h)
  · obtain ⟨v, A, c, h⟩ := z_bi_c h
    exact LO_tr q (LO_tr (LO_fr (by decide) (R_X8_readNumber_107 c)) (U_151 hj h))
theorem U_102 {a : Int32} {j : Nat} {M M' : zMM} (hj : 5 ≤ j ∧ j < 2 ^ 31) (h : f_X8_readTown_107_p102 (nI j) a (nI j) M = some M') : LOq M M' := by
  unfold f_X8_readTown_107_p102 at h
  obtain ⟨-, h⟩ := z_ifn h
  rw [nI_clamp hj.2] at h
  have q : LOq M (z_up M 111 j a) := LO_up LO_refl (by unfold prq; omega)
  obtain ⟨v, A, c, h⟩ := z_bi_c h
  have q2 := LO_tr q (LO_fr (by decide) (R_X8_passes_107_20 c))
  split at h
  · exact LO_tr q2 (U_130 hj h)
  · obtain ⟨v, B, c, h⟩ := z_bi_c h
    exact LO_tr q2 (LO_tr (LO_fr (by decide) (R_X8_readNumber_107 c)) (U_130 hj h))
theorem U_74 {a : Int32} {j : Nat} {M M' : zMM} (hj : 5 ≤ j ∧ j < 2 ^ 31) (h : f_X8_readTown_107_p74 (nI j) a M = some M') : LOq M M' := by
  unfold f_X8_readTown_107_p74 at h
  obtain ⟨-, h⟩ := z_ifn h
  rw [nI_clamp hj.2] at h
  have q : LOq M (z_up M 110 j a) := LO_up LO_refl (by unfold prq; omega)
  split at h
  · exact LO_tr q (U_102 hj h)
  · obtain ⟨v, B, c, h⟩ := z_bi_c h
    exact LO_tr q (LO_tr (LO_fr (by decide) (R_X8_readNumber_107 c)) (U_102 hj h))
theorem U_63 {a : Int32} {j : Nat} {M M' : zMM} (hj : 5 ≤ j ∧ j < 2 ^ 31) (h : f_X8_readTown_107_p63 (nI j) a M = some M') : LOq M M' := by
  unfold f_X8_readTown_107_p63 at h
  split at h
  · obtain ⟨A, c, h⟩ := z_bv_c h
    exact LO_tr (LO_fr (by decide) (R_X8_stepOn_107 c)) (U_74 hj h)
  · exact U_74 hj h
theorem U_23 {j : Nat} (hj : 5 ≤ j ∧ j < 2 ^ 31) : ∀ fu x2 x3 M M', f_X8_readTown_107_p23 fu (nI j) x2 x3 M = some M' → LOq M M' := by
  intro fu
  induction fu with
  | zero => intro x2 x3 M M' h; exact absurd h (by unfold f_X8_readTown_107_p23; exact fun z => nomatch z)
  | succ fu ih =>
    intro x2 x3 M M' h
    unfold f_X8_readTown_107_p23 at h
    split at h
    · split at h
      · obtain ⟨A, c, h⟩ := z_bv_c h
        exact LO_tr (LO_fr (by decide) (R_X8_wrong_107 c)) (U_63 hj h)
      · exact U_63 hj h
    · obtain ⟨-, h⟩ := z_ifn h
      obtain ⟨v, A, c, h⟩ := z_bi_c h
      have q : LOq M A := LO_fr (by decide) (R_X8_is_107 c)
      split at h
      · exact LO_tr q (ih _ _ _ _ h)
      · exact LO_tr q (ih _ _ _ _ h)
theorem U_town {w : Nat} {M M' : zMM} (hw : w ≤ 10) (e : M 109 5 = nI w) (h : f_X8_readTown_107 M = some M') : LOq M M' := by
  unfold f_X8_readTown_107 at h
  obtain ⟨v, A, c, h⟩ := z_bi_c h
  have q : LOq M A := LO_fr (by decide) (R_X8_begin_107 c)
  split at h
  · rw [← Option.some.inj h]; exact q
  · rw [show A 109 5 = nI w from (out_fr (lo := 109) (hi := 121) (by decide) (R_X8_begin_107 c) 109 5 (by decide) (by decide)).trans e, show (5 : Int32) + nI w = nI (5 + w) from nI_add 5 w] at h
    exact LO_tr q (U_23 (by omega) _ _ _ _ _ h)
theorem U_47 {j : Nat} {M M' : zMM} (hj : 25 ≤ j ∧ j < 2 ^ 31) (h : f_X8_readTrain_107_p47 (nI j) M = some M') : LOq M M' := by
  unfold f_X8_readTrain_107_p47 at h
  split at h
  · obtain ⟨A, c, h⟩ := z_bv_c h
    obtain ⟨v, B, c2, h⟩ := z_bi_c h
    obtain ⟨-, h⟩ := z_ifn h
    rw [nI_clamp hj.2] at h
    rw [← Option.some.inj h]
    exact LO_up (LO_tr (LO_fr (by decide) (R_X8_stepOn_107 c)) (LO_fr (by decide) (R_X8_readNumber_107 c2))) (by unfold prq; omega)
  · rw [← Option.some.inj h]; exact LO_refl
theorem U_42 {j : Nat} {M M' : zMM} (hj : 25 ≤ j ∧ j < 2 ^ 31) (h : f_X8_readTrain_107_p42 (nI j) M = some M') : LOq M M' := by
  unfold f_X8_readTrain_107_p42 at h
  obtain ⟨A, c, h⟩ := z_bv_c h
  exact LO_tr (LO_fr (by decide) (R_X8_wrong_107 c)) (U_47 hj h)
theorem U_train {M M' : zMM} (h : f_X8_readTrain_107 M = some M') : LOq M M' := by
  unfold f_X8_readTrain_107 at h
  obtain ⟨v2, A, c, h⟩ := z_bi_c h
  obtain ⟨v5, B, c2, h⟩ := z_bi_c h
  have q : LOq M B := LO_tr (LO_fr (by decide) (R_X8_readOne_107 c)) (LO_fr (by decide) (R_X8_oneNow_107 c2))
  obtain ⟨a, ha, ea⟩ := U_one c
  obtain ⟨b, hb, eb⟩ := U_onow c2
  rw [ea, eb, iq25] at h
  have hj : 25 ≤ 25 + 5 * a + b ∧ 25 + 5 * a + b < 2 ^ 31 := by omega
  split at h
  · split at h
    · exact LO_tr q (U_42 hj h)
    · obtain ⟨-, h⟩ := z_ifn h
      split at h
      · exact LO_tr q (U_47 hj h)
      · exact LO_tr q (U_42 hj h)
  · exact LO_tr q (U_47 hj h)
theorem U_54 {j : Nat} {M M' : zMM} (hj : 400 ≤ j ∧ j < 2 ^ 31) (h : f_X8_readLike_107_p54 (nI j) M = some M') : LOq M M' := by
  unfold f_X8_readLike_107_p54 at h
  split at h
  · obtain ⟨A, c, h⟩ := z_bv_c h
    obtain ⟨v, B, c2, h⟩ := z_bi_c h
    obtain ⟨-, h⟩ := z_ifn h
    rw [nI_clamp hj.2] at h
    rw [← Option.some.inj h]
    exact LO_up (LO_tr (LO_fr (by decide) (R_X8_stepOn_107 c)) (LO_fr (by decide) (R_X8_readNumber_107 c2))) (by unfold prq; omega)
  · rw [← Option.some.inj h]; exact LO_refl
theorem U_49 {j : Nat} {M M' : zMM} (hj : 400 ≤ j ∧ j < 2 ^ 31) (h : f_X8_readLike_107_p49 (nI j) M = some M') : LOq M M' := by
  unfold f_X8_readLike_107_p49 at h
  obtain ⟨A, c, h⟩ := z_bv_c h
  exact LO_tr (LO_fr (by decide) (R_X8_wrong_107 c)) (U_54 hj h)
theorem U_like {M M' : zMM} (h : f_X8_readLike_107 M = some M') : LOq M M' := by
  unfold f_X8_readLike_107 at h
  obtain ⟨v2, A, c, h⟩ := z_bi_c h
  obtain ⟨v5, B, c2, h⟩ := z_bi_c h
  have q : LOq M B := LO_tr (LO_fr (by decide) (R_X8_readNumber_107 c)) (LO_fr (by decide) (R_X8_numberNow_107 c2))
  obtain ⟨a, ha, ea⟩ := U_num (lo := 0) (hi := 19) (by decide) (by decide) c
  obtain ⟨b, hb, eb⟩ := U_now (lo := 0) (hi := 19) (by decide) (by decide) c2
  rw [ea, eb, iq400] at h
  have hj : 400 ≤ 400 + 20 * a + b ∧ 400 + 20 * a + b < 2 ^ 31 := by omega
  split at h
  · split at h
    · exact LO_tr q (U_49 hj h)
    · obtain ⟨-, h⟩ := z_ifn h
      split at h
      · exact LO_tr q (U_54 hj h)
      · exact LO_tr q (U_49 hj h)
  · exact LO_tr q (U_54 hj h)
theorem U_thing {g : Nat} {M M' : zMM} (hg : g ≤ 10) (e : M 109 7 = nI g) (h : f_X8_readThing_107 M = some M') : LOq M M' := by
  unfold f_X8_readThing_107 at h
  obtain ⟨v, A, c, h⟩ := z_bi_c h
  have q : LOq M A := LO_fr (by decide) (R_X8_begin_107 c)
  split at h
  · rw [← Option.some.inj h]; exact q
  · rw [show A 109 7 = nI g from (out_fr (lo := 109) (hi := 121) (by decide) (R_X8_begin_107 c) 109 7 (by decide) (by decide)).trans e, show (11 : Int32) + nI g = nI (11 + g) from nI_add 11 g, nI_clamp (by omega)] at h
    obtain ⟨v1, B, c1, h⟩ := z_bi_c h
    obtain ⟨-, h⟩ := z_ifn h
    obtain ⟨v3, E, c3, h⟩ := z_bi_c h
    obtain ⟨-, h⟩ := z_ifn h
    rw [← Option.some.inj h]
    exact LO_up (LO_up (LO_tr (LO_up (LO_tr q (LO_fr (by decide) (R_X8_readNumber_107 c1))) (by unfold prq; omega)) (LO_fr (by decide) (R_X8_readOne_107 c3))) (by unfold prq; omega)) (by unfold prq; omega)
