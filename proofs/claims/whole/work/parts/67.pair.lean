/-! ===== told: train, like, troupe ===== -/
theorem iq20 (v y : Nat) : nI v * (20 : Int32) + nI y = nI (20 * v + y) := by
  rw [show nI v * (20 : Int32) = nI (v * 20) from nI_mul v 20, nI_add, Nat.mul_comm]
theorem iq400 (v y : Nat) : ((400 : Int32) + ((20 : Int32) * nI v)) + nI y = nI (400 + 20 * v + y) := by
  rw [show (20 : Int32) * nI v = nI (20 * v) from nI_mul 20 v, show (400 : Int32) + nI (20 * v) = nI (400 + 20 * v) from nI_add 400 _, nI_add]
theorem iq25 (v y : Nat) : ((25 : Int32) + ((5 : Int32) * nI v)) + nI y = nI (25 + 5 * v + y) := by
  rw [show (5 : Int32) * nI v = nI (5 * v) from nI_mul 5 v, show (25 : Int32) + nI (5 * v) = nI (25 + 5 * v) from nI_add 25 _, nI_add]
theorem J_like42 {u : Nat → Nat} {n : Nat} {f p a c : Int32} {M : zMM} (h : CJ u n f p M) : ∃ M', f_X3_readLike_79_p42 a c M = some M' ∧ CJ u n f p M' := by
  obtain ⟨v, A, j1, j2⟩ := J_num (x := 0) (y := 99) h
  obtain ⟨E, j3, j4⟩ := J_end j2
  refine ⟨E, ?_, j4⟩
  unfold f_X3_readLike_79_p42
  rw [j1, z_bi_s, j3, z_bi_s, if_pos rfl]
theorem J_likeR {u : Nat → Nat} {n : Nat} {f p a c : Int32} {M : zMM} (h : CJ u n f p M) : ∃ M', (z_bi (f_X5_shameOf_66 a c M) fun v11 M12 => if v11 = (-1 : Int32) then f_X3_readLike_79_p42 a c M12 else z_bv (f_X3_fail_79 (4 : Int32) (M12 79 7) M12) fun M25 => f_X3_readLike_79_p42 a c M25) = some M' ∧ CJ u n f p M' := by
  obtain ⟨E, j1, j2⟩ := J_like42 (a := a) (c := c) h
  refine ⟨E, ?_, j2⟩
  unfold f_X5_shameOf_66
  rw [z_bi_s, J_fail h, z_bv_s, j1]
  split <;> rfl
theorem N_like54 {x : Int32} {M : zMM} (h : ¬ M 107 24 = 0) : f_X8_readLike_107_p54 x M = some M := by
  unfold f_X8_readLike_107_p54
  rw [if_neg h]
theorem T_like {u : Nat → Nat} {n e b t r w k g p q : Nat} {C D Mc Mm Mm1 : zMM} {x : Int32} (h : GD u n e b t r C D Mc Mm) (hd : DR w k g p q C D) (hx : z_zb x = true) (hfl : Mc 79 8 = x) (hs : f_X8_stepOn_107 Mm = some Mm1) : RSq u n r (f_X3_readLike_79 Mc) (z_bv (f_X8_readLike_107 Mm1) fun M => f_X8_readLine_107_p187 x M) x := by
  obtain ⟨hw, hk, hg, hp, hq, t1, t2, t3, t4, t5, t6⟩ := hd
  obtain ⟨b1, tt1, r1, Ac, Am, a1, a2, a3⟩ := G_step h
  have hAm : Mm1 = Am := Option.some.inj (hs.symm.trans a2)
  rw [hAm]
  have hle1 := (GD_0 a3).2.2.2.2.2
  unfold f_X8_readLike_107
  rcases G_num (lo := 0) (hi := 19) a3 (by decide) (by decide) with ⟨v, b2, tt2, r2, Bc, Bm, s1, s2, s3, s4, s5⟩ | ⟨f, pp, Bc, Bm, s1, s2, s3⟩
  · have s3 : f_X3_takeNumber_79 (0 : Int32) (19 : Int32) Ac = some (nI v, Bc) := s3
    have s4 : f_X8_readNumber_107 (0 : Int32) (19 : Int32) Am = some (nI v, Bm) := s4
    have hle2 := (GD_0 s5).2.2.2.2.2
    rw [s4, z_bi_s]
    rcases G_now (lo := 0) (hi := 19) s5 (by decide) (by decide) with ⟨y, b3, tt3, r3, Xc, Xm, d1, d2, d3, d4, d5, d6, d7, d8, d9⟩ | ⟨f, pp, Xc, Xm, d1, d2, d3⟩
    · have d3 : f_X3_takeNumber_79 (0 : Int32) (19 : Int32) Bc = some (nI y, Xc) := d3
      have d4 : f_X8_numberNow_107 (0 : Int32) (19 : Int32) Bm = some (nI y, Bm) := d4
      have hle3 := (GD_0 d6).2.2.2.2.2
      have eC : Xc 78 (20 * v + y) = C 78 (20 * v + y) := d6.2.2.2.1 78 _ (by decide) (by decide)
      have eD : Bm 121 (400 + 20 * v + y) = D 121 (400 + 20 * v + y) := s5.2.2.2.2 121 _ (by decide) (by decide)
      rw [d4, z_bi_s, if_pos d9, iq400, z_ib_n (n := 400 + 20 * v + y) (N := 800) (by decide) (by omega), if_pos rfl, nI_clamp (by omega), eD]
      have hcl : ∀ R, (z_bi (f_X5_shameOf_66 (nI v) (nI y) Xc) fun v11 M12 => if v11 = (-1 : Int32) then f_X3_readLike_79_p42 (nI v) (nI y) M12 else z_bv (f_X3_fail_79 (4 : Int32) (M12 79 7) M12) fun M25 => f_X3_readLike_79_p42 (nI v) (nI y) M25) = R → f_X3_readLike_79 Mc = R := by
        intro R hR
        unfold f_X3_readLike_79
        rw [a1, z_bv_s, s3, z_bi_s, d3, z_bi_s]
        exact hR
      have hsh : f_X5_shameOf_66 (nI v) (nI y) Xc = some (C 78 (20 * v + y), Xc) := by
        unfold f_X5_shameOf_66
        rw [iq20, z_at_nI (by decide) (by omega), eC]
      have dup : C 78 (20 * v + y) ≠ -1 → RSq u n r (f_X3_readLike_79 Mc) (z_bv (f_X8_readLike_107_p49 (nI (400 + 20 * v + y)) Bm) fun M => f_X8_readLine_107_p187 x M) x := by
        intro hne
        right
        obtain ⟨q1, q2⟩ := G_fail (f := 4) (p := nI b2) d6 (by decide)
        obtain ⟨w1, w2, w3⟩ := G_wrong (f := 4) s5.2.2.2.2 d9 d8
        obtain ⟨E, j1, j2⟩ := J_like42 (a := nI v) (c := nI y) q2
        have hb := MJ_bad q2 w2
        refine ⟨4, nI b2, x, E, _, hcl _ ?_, ?_, j2, w2⟩
        · rw [hsh, z_bi_s, if_neg hne, d7, q1, z_bv_s, j1]
        · unfold f_X8_readLike_107_p49
          rw [w1, z_bv_s, N_like54 hb, z_bv_s, B_end hb hx]
      rcases t6 v (by omega) y (by omega) with ⟨z1, z2, z3⟩ | ⟨z1, z2, z3⟩ | ⟨z1, s, z2, z3, z4⟩
      · rw [if_pos (by rw [z1])]
        exact dup (by rw [z2]; decide)
      · rw [if_neg (fun z => z1 ((nI_eq (by omega) (by omega)).mp z)), if_pos z3]
        unfold f_X8_readLike_107_p54
        rw [if_pos d9, d5, z_bv_s, z_ib_n (n := 400 + 20 * v + y) (N := 800) (by decide) (by omega), nI_clamp (by omega)]
        rcases G_num (lo := 0) (hi := 99) d6 (by decide) (by decide) with ⟨s, b4, tt4, r4, Yc, Ym, y1, y2, y3, y4, y5⟩ | ⟨f, pp, Yc, Ym, y1, y2, y3⟩
        · have y3 : f_X3_takeNumber_79 (0 : Int32) (99 : Int32) Xc = some (nI s, Yc) := y3
          have y4 : f_X8_readNumber_107 (0 : Int32) (99 : Int32) Xm = some (nI s, Ym) := y4
          have hle4 := (GD_0 y5).2.2.2.2.2
          rw [y4, z_bi_s, if_pos rfl, z_bv_s]
          rcases G_end (x := x) (GD_mu (a := 121) (i := 400 + 20 * v + y) (v := nI s) y5 (by decide)) hx with ⟨b5, tt5, r5, Ec, Em, e1, e2, e3⟩ | ⟨f, pp, Ec, Em, e1, e2, e3⟩
          · left
            have rcx : f_X3_readLike_79 Mc = some (z_up Ec 78 (20 * v + y) (nI s)) := by
              apply hcl
              rw [hsh, z_bi_s, if_pos z2]
              unfold f_X3_readLike_79_p42
              rw [y3, z_bi_s, e1, z_bi_s, if_neg (by decide), iq20, z_pt_nI (by decide) (by omega), z_bv_s]
            refine ⟨_, _, _, _, _, _, w, k, g, p, q, _, _, rcx, e2, GD_cu e3 (by decide), ?_, by omega, (R_X3_readLike_79 rcx 79 8 rfl).trans hfl⟩
            refine ⟨hw, hk, hg, hp, hq, t1, t2, t3, t4, t5, ?_⟩
            intro a ha c hc
            by_cases hav : a = v ∧ c = y
            · rw [hav.1, hav.2]
              exact Or.inr (Or.inr ⟨z1, s, y2, z_up_s, z_up_s⟩)
            · rw [z_up_n (show 20 * a + c ≠ 20 * v + y by omega), z_up_n (show 400 + 20 * a + c ≠ 400 + 20 * v + y by omega)]
              exact t6 a ha c hc
          · right
            refine ⟨f, pp, x, Ec, Em, hcl _ ?_, e2, e3.1, e3.2.1⟩
            rw [hsh, z_bi_s, if_pos z2]
            unfold f_X3_readLike_79_p42
            rw [y3, z_bi_s, e1, z_bi_s, if_pos rfl]
        · right
          have y1 : f_X3_takeNumber_79 (0 : Int32) (99 : Int32) Xc = some (-1, Yc) := y1
          have y2 : f_X8_readNumber_107 (0 : Int32) (99 : Int32) Xm = some ((0 : Int32), Ym) := y2
          have hb := BJ_bad y3
          obtain ⟨E, j1, j2⟩ := J_end y3.1
          rw [y2, z_bi_s, if_pos rfl, z_bv_s]
          refine ⟨f, pp, x, E, _, hcl _ ?_, B_end (M := z_up Ym 121 (400 + 20 * v + y) (0 : Int32)) hb hx, j2, y3.2.1⟩
          rw [hsh, z_bi_s, if_pos z2]
          unfold f_X3_readLike_79_p42
          rw [y1, z_bi_s, j1, z_bi_s, if_pos rfl]
      · rw [if_neg (fun z => z1 ((nI_eq (by omega) (by omega)).mp z)), z4, if_neg (nI_m1 (by omega))]
        exact dup (by rw [z3]; exact nI_m1 (by omega))
    · right
      have d1 : f_X3_takeNumber_79 (0 : Int32) (19 : Int32) Bc = some (-1, Xc) := d1
      have d2 : f_X8_numberNow_107 (0 : Int32) (19 : Int32) Bm = some ((0 : Int32), Xm) := d2
      have hb := BJ_bad d3
      obtain ⟨E, j1, j2⟩ := J_likeR (a := nI v) (c := -1) d3.1
      rw [d2, z_bi_s, if_neg hb, N_like54 hb, z_bv_s]
      refine ⟨f, pp, x, E, _, ?_, B_end hb hx, j2, d3.2.1⟩
      unfold f_X3_readLike_79
      rw [a1, z_bv_s, s3, z_bi_s, d1, z_bi_s]
      exact j1
  · right
    have s1 : f_X3_takeNumber_79 (0 : Int32) (19 : Int32) Ac = some (-1, Bc) := s1
    have s2 : f_X8_readNumber_107 (0 : Int32) (19 : Int32) Am = some ((0 : Int32), Bm) := s2
    have hb := BJ_bad s3
    obtain ⟨v, A, i1, i2⟩ := J_num (x := 0) (y := 19) s3.1
    obtain ⟨E, j1, j2⟩ := J_likeR (a := -1) (c := v) i2
    rw [s2, z_bi_s, N_bad_now hb, z_bi_s, if_neg hb, N_like54 hb, z_bv_s]
    refine ⟨f, pp, x, E, _, ?_, B_end hb hx, j2, s3.2.1⟩
    unfold f_X3_readLike_79
    rw [a1, z_bv_s, s1, z_bi_s, i1, z_bi_s]
    exact j1
theorem J_train73 {u : Nat → Nat} {n : Nat} {f p a c : Int32} {M : zMM} (h : CJ u n f p M) : ∃ M', f_X3_readTrain_79_p73 a c M = some M' ∧ f_X3_readTrain_79_p64 a c M = some M' ∧ CJ u n f p M' := by
  obtain ⟨v, A, j1, j2⟩ := J_num (x := 1) (y := 9) h
  obtain ⟨E, j3, j4⟩ := J_end j2
  have e : f_X3_readTrain_79_p73 a c M = some E := by
    unfold f_X3_readTrain_79_p73
    rw [j1, z_bi_s, j3, z_bi_s, if_pos rfl]
  refine ⟨E, e, ?_, j4⟩
  unfold f_X3_readTrain_79_p64
  rw [J_fail h, z_bv_s, e]
theorem J_trainR {u : Nat → Nat} {n : Nat} {f p a c : Int32} {M : zMM} (h : CJ u n f p M) : ∃ M', (if a = c then f_X3_readTrain_79_p64 a c M else z_bi (f_X5_trainDays_66 a c M) fun v30 M31 => if v30 = (-1 : Int32) then f_X3_readTrain_79_p73 a c M31 else f_X3_readTrain_79_p64 a c M31) = some M' ∧ CJ u n f p M' := by
  obtain ⟨E, j1, j2, j3⟩ := J_train73 (a := a) (c := c) h
  refine ⟨E, ?_, j3⟩
  unfold f_X5_trainDays_66
  rw [z_bi_s, j1, j2]
  split
  · rfl
  · split <;> rfl
theorem N_train47 {x : Int32} {M : zMM} (h : ¬ M 107 24 = 0) : f_X8_readTrain_107_p47 x M = some M := by
  unfold f_X8_readTrain_107_p47
  rw [if_neg h]
theorem T_train {u : Nat → Nat} {n e b t r w k g p q : Nat} {C D Mc Mm Mm1 : zMM} {x : Int32} (h : GD u n e b t r C D Mc Mm) (hd : DR w k g p q C D) (hx : z_zb x = true) (hfl : Mc 79 8 = x) (hs : f_X8_stepOn_107 Mm = some Mm1) : RSq u n r (f_X3_readTrain_79 Mc) (z_bv (f_X8_readTrain_107 Mm1) fun M => f_X8_readLine_107_p187 x M) x := by
  obtain ⟨⟨w1, w2, w3⟩, hk, hg, hp, hq, t1, t2, t3, t4, t5, t6⟩ := hd
  obtain ⟨b1, tt1, r1, Ac, Am, a1, a2, a3⟩ := G_step h
  have hAm : Mm1 = Am := Option.some.inj (hs.symm.trans a2)
  rw [hAm]
  have hle1 := (GD_0 a3).2.2.2.2.2
  unfold f_X8_readTrain_107
  rcases G_one (x := 0) (j := 0) a3 (by decide) w2 w3 (by omega) with ⟨v, b2, tt2, r2, Bc, Bm, s1, s2, s3, s4, s5⟩ | ⟨f, pp, v, Bc, Bc2, Bm, s1, s2, s3, s4⟩
  · have s4 : f_X8_readOne_107 (0 : Int32) Am = some (nI v, Bm) := s4
    have hle2 := (GD_0 s5).2.2.2.2.2
    rw [s4, z_bi_s]
    rcases G_onow (x := 0) (j := 0) s5 (by decide) w2 w3 (by omega) with ⟨y, b3, tt3, r3, Xc, Xm, d1, d2, d3, d4, d5, d6, d7, d8, d9⟩ | ⟨f, pp, y, Xc, Xc2, Xm, d1, d2, d3, d4⟩
    · have d4 : f_X8_oneNow_107 (0 : Int32) Bm = some (nI y, Bm) := d4
      have hle3 := (GD_0 d6).2.2.2.2.2
      have eC : Xc 71 (5 * v + y) = C 71 (5 * v + y) := d6.2.2.2.1 71 _ (by decide) (by decide)
      have eD : Bm 114 (25 + (5 * v + y)) = D 114 (25 + (5 * v + y)) := s5.2.2.2.2 114 _ (by decide) (by decide)
      rw [d4, z_bi_s, if_pos d9, iq25, show 25 + 5 * v + y = 25 + (5 * v + y) by omega, z_ib_n (n := 25 + (5 * v + y)) (N := 50) (by decide) (by omega), if_pos rfl, nI_clamp (by omega), eD]
      have hcl : ∀ R, (if nI v = nI y then f_X3_readTrain_79_p64 (nI v) (nI y) Xc else z_bi (f_X5_trainDays_66 (nI v) (nI y) Xc) fun v30 M31 => if v30 = (-1 : Int32) then f_X3_readTrain_79_p73 (nI v) (nI y) M31 else f_X3_readTrain_79_p64 (nI v) (nI y) M31) = R → f_X3_readTrain_79 Mc = R := by
        intro R hR
        unfold f_X3_readTrain_79
        rw [a1, z_bv_s, s2, z_bi_s, s3, z_bv_s, d2, z_bi_s, d3, z_bv_s]
        exact hR
      have hsh : f_X5_trainDays_66 (nI v) (nI y) Xc = some (C 71 (5 * v + y), Xc) := by
        unfold f_X5_trainDays_66
        rw [nI_51, z_at_nI (by decide) (by omega), eC]
      have dup : (v = y ∨ C 71 (5 * v + y) ≠ -1) → RSq u n r (f_X3_readTrain_79 Mc) (z_bv (f_X8_readTrain_107_p42 (nI (25 + (5 * v + y))) Bm) fun M => f_X8_readLine_107_p187 x M) x := by
        intro hne
        right
        obtain ⟨q1, q2⟩ := G_fail (f := 4) (p := nI b2) d6 (by decide)
        obtain ⟨w1, w2, w3⟩ := G_wrong (f := 4) s5.2.2.2.2 d9 d8
        obtain ⟨E, j1, -, j2⟩ := J_train73 (a := nI v) (c := nI y) q2
        have hb := MJ_bad q2 w2
        have e64 : f_X3_readTrain_79_p64 (nI v) (nI y) Xc = some E := by
          unfold f_X3_readTrain_79_p64
          rw [d7, q1, z_bv_s, j1]
        refine ⟨4, nI b2, x, E, _, hcl _ ?_, ?_, j2, w2⟩
        · rw [hsh, z_bi_s, e64]
          rcases hne with hne | hne
          · rw [if_pos (by rw [hne])]
          · rw [if_neg hne]
            split <;> rfl
        · unfold f_X8_readTrain_107_p42
          rw [w1, z_bv_s, N_train47 hb, z_bv_s, B_end hb hx]
      by_cases hvy : v = y
      · rw [if_pos (by rw [hvy])]
        exact dup (Or.inl hvy)
      · have hvn : ¬ nI v = nI y := fun z => hvy ((nI_eq (by omega) (by omega)).mp z)
        rw [if_neg hvn]
        rcases t2 (5 * v + y) (by omega) with ⟨z2, z3⟩ | ⟨d, z1, z2, z3, z4, -⟩
        · rw [z3, if_pos (by decide)]
          unfold f_X8_readTrain_107_p47
          rw [if_pos d9, d5, z_bv_s, z_ib_n (n := 25 + (5 * v + y)) (N := 50) (by decide) (by omega), nI_clamp (by omega)]
          rcases G_num (lo := 1) (hi := 9) d6 (by decide) (by decide) with ⟨s, b4, tt4, r4, Yc, Ym, y1, y2, y3, y4, y5⟩ | ⟨f, pp, Yc, Ym, y1, y2, y3⟩
          · have y3 : f_X3_takeNumber_79 (1 : Int32) (9 : Int32) Xc = some (nI s, Yc) := y3
            have y4 : f_X8_readNumber_107 (1 : Int32) (9 : Int32) Xm = some (nI s, Ym) := y4
            have hle4 := (GD_0 y5).2.2.2.2.2
            rw [y4, z_bi_s, if_pos rfl, z_bv_s]
            rcases G_end (x := x) (GD_mu (a := 114) (i := 25 + (5 * v + y)) (v := nI s) y5 (by decide)) hx with ⟨b5, tt5, r5, Ec, Em, e1, e2, e3⟩ | ⟨f, pp, Ec, Em, e1, e2, e3⟩
            · left
              have rcx : f_X3_readTrain_79 Mc = some (z_up Ec 71 (5 * v + y) (nI s)) := by
                apply hcl
                rw [if_neg hvn, hsh, z_bi_s, if_pos z2]
                unfold f_X3_readTrain_79_p73
                rw [y3, z_bi_s, e1, z_bi_s, if_neg (by decide), nI_51, z_pt_nI (by decide) (by omega), z_bv_s]
              refine ⟨_, _, _, _, _, _, w, k, g, p, q, _, _, rcx, e2, GD_cu e3 (by decide), ?_, by omega, (R_X3_readTrain_79 rcx 79 8 rfl).trans hfl⟩
              refine ⟨⟨w1, w2, w3⟩, hk, hg, hp, hq, t1, ?_, t3, t4, t5, t6⟩
              intro i hi
              by_cases hav : i = 5 * v + y
              · rw [hav]
                exact Or.inr ⟨s, y1, y2, z_up_s, z_up_s, by omega, by omega, by omega⟩
              · rw [z_up_n hav, z_up_n (show 25 + i ≠ 25 + (5 * v + y) by omega)]
                exact t2 i hi
            · right
              refine ⟨f, pp, x, Ec, Em, hcl _ ?_, e2, e3.1, e3.2.1⟩
              rw [if_neg hvn, hsh, z_bi_s, if_pos z2]
              unfold f_X3_readTrain_79_p73
              rw [y3, z_bi_s, e1, z_bi_s, if_pos rfl]
          · right
            have y1 : f_X3_takeNumber_79 (1 : Int32) (9 : Int32) Xc = some (-1, Yc) := y1
            have y2 : f_X8_readNumber_107 (1 : Int32) (9 : Int32) Xm = some ((0 : Int32), Ym) := y2
            have hb := BJ_bad y3
            obtain ⟨E, j1, j2⟩ := J_end y3.1
            rw [y2, z_bi_s, if_pos rfl, z_bv_s]
            refine ⟨f, pp, x, E, _, hcl _ ?_, B_end (M := z_up Ym 114 (25 + (5 * v + y)) (0 : Int32)) hb hx, j2, y3.2.1⟩
            rw [if_neg hvn, hsh, z_bi_s, if_pos z2]
            unfold f_X3_readTrain_79_p73
            rw [y1, z_bi_s, j1, z_bi_s, if_pos rfl]
        · rw [z4, if_neg (show ¬ nI d ≤ (0 : Int32) from nI_ge (b := d) (a := 0) (by omega) (by omega))]
          exact dup (Or.inr (by rw [z3]; exact nI_m1 (by omega)))
    · right
      have d3 : f_X8_oneNow_107 (0 : Int32) Bm = some ((0 : Int32), Xm) := d3
      have hb := BJ_bad d4
      obtain ⟨E, j1, j2⟩ := J_trainR (a := nI v) (c := y) d4.1
      rw [d3, z_bi_s, if_neg hb, N_train47 hb, z_bv_s]
      refine ⟨f, pp, x, E, _, ?_, B_end hb hx, j2, d4.2.1⟩
      unfold f_X3_readTrain_79
      rw [a1, z_bv_s, s2, z_bi_s, s3, z_bv_s, d1, z_bi_s, d2, z_bv_s]
      exact j1
  · right
    have s3 : f_X8_readOne_107 (0 : Int32) Am = some ((0 : Int32), Bm) := s3
    have hb := BJ_bad s4
    obtain ⟨y, A, i1, i2⟩ := J_num (x := 0) (y := 9999) s4.1
    obtain ⟨E, j1, j2⟩ := J_trainR (a := v) (c := y) i2
    rw [s3, z_bi_s, (N_bad_one hb).1, z_bi_s, if_neg hb, N_train47 hb, z_bv_s]
    refine ⟨f, pp, x, E, _, ?_, B_end hb hx, j2, s4.2.1⟩
    unfold f_X3_readTrain_79
    rw [a1, z_bv_s, s1, z_bi_s, s2, z_bv_s, i1, z_bi_s, J_told i2, z_bv_s]
    exact j1
