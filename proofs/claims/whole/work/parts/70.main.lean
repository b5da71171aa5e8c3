/-! ===== told: any line, all lines ===== -/
theorem DR_pl {w k g p q m : Nat} {C D : zMM} {v v' v2 : Int32} (hd : DR w k g p q C D) (hm : m < 4) : DR w k g p q (z_up C 77 (4 * p + m) v) (z_up (z_up D 119 (16 + 4 * p + m) v') 120 (4 + p) v2) := by
  obtain ⟨hw, hk, hg, hp, hq, t1, t2, t3, t4, t5, t6⟩ := hd
  refine ⟨hw, hk, hg, hp, hq, t1, t2, t3, t4, ?_, t6⟩
  intro i hi
  obtain ⟨c', m', x1, x2, x3, x4, x5, x6, x7, x8, x9⟩ := t5 i hi
  refine ⟨c', m', x1, x2, x3, x4, x5, x6, x7, ?_, ?_⟩
  · rw [z_up_n (by omega), z_up_o (by decide)]; exact x8
  · intro j hj
    obtain ⟨s, y1, y2, y3⟩ := x9 j hj
    refine ⟨s, y1, ?_, ?_⟩
    · rw [z_up_n (by omega)]; exact y2
    · rw [z_up_o (by decide), z_up_n (by omega)]; exact y3
theorem DR_p0 {w k g p q : Nat} {C D : zMM} {v v2 : Int32} (hd : DR w k g p q C D) : DR w k g p q C (z_up (z_up D 118 (4 + p) v) 120 (4 + p) v2) := by
  obtain ⟨hw, hk, hg, hp, hq, t1, t2, t3, t4, t5, t6⟩ := hd
  refine ⟨hw, hk, hg, hp, hq, t1, t2, t3, t4, ?_, t6⟩
  intro i hi
  obtain ⟨c', m', x1, x2, x3, x4, x5, x6, x7, x8, x9⟩ := t5 i hi
  refine ⟨c', m', x1, x2, x3, x4, x5, ?_, x7, ?_, x9⟩
  · rw [z_up_o (by decide), z_up_n (by omega)]; exact x6
  · rw [z_up_n (by omega), z_up_o (by decide)]; exact x8
theorem N_p70 {K : Int32 → zMM → Option zMM} {x1 : Int32} {M : zMM} (h : ¬ M 107 24 = 0) : f_X8_readPlay_107_p70 K x1 M = some M := by
  unfold f_X8_readPlay_107_p70
  rw [N_bad_num h, z_bi_s, if_neg h]
theorem N_p40 {x1 : Int32} {fu : Nat} {M : zMM} (hf : 0 < fu) (h : ¬ M 107 24 = 0) : f_X8_readPlay_107_p40 fu x1 M = some M := by
  obtain ⟨fu, rfl⟩ : ∃ m, fu = m + 1 := ⟨fu - 1, by omega⟩
  unfold f_X8_readPlay_107_p40
  rw [if_neg h, N_p70 h]
theorem T_22 {u : Nat → Nat} {n w k g p q c : Nat} {x : Int32} (hp4 : p < 4) (hx : z_zb x = true) : ∀ l m, m + l = 4 → 0 < l → ∀ fu1 fu2 e b t r C D Mc Mm, l < fu1 → l < fu2 → GD u n e b t r C D Mc Mm → DR w k g p q C D → PLq p c m C D → (m = 0 ∨ t = 2) → Mc 79 8 = x → RSq u n e (f_X3_readPlay_79_p22 fu1 (nI c) (nI m) Mc) (z_bv (f_X8_readPlay_107_p40 fu2 (nI (4 + p)) Mm) fun M => f_X8_readLine_107_p187 x M) x := by
  intro l
  induction l with
  | zero => intro m _ h; exact absurd h (by decide)
  | succ l ih =>
    intro m hm _ fu1 fu2 e b t r C D Mc Mm h1 h2 h hd hpl hmt hfl
    obtain ⟨fu1, rfl⟩ : ∃ y, fu1 = y + 1 := ⟨fu1 - 1, by omega⟩
    obtain ⟨fu2, rfl⟩ : ∃ y, fu2 = y + 1 := ⟨fu2 - 1, by omega⟩
    obtain ⟨z0, z22, z4, z20, z3, hle⟩ := GD_0 h
    have hp := hd.2.2.2.1
    have eM : Mm 120 (4 + p) = nI m := (h.2.2.2.2 120 _ (by decide) (by decide)).trans hpl.2.2.2.1
    have eC : Mc 66 11 = nI p := (h.2.2.2.1 66 11 (by decide) (by decide)).trans hp.2.1
    have e40 : f_X8_readPlay_107_p40 (fu2 + 1) (nI (4 + p)) Mm = f_X8_readPlay_107_p70 (f_X8_readPlay_107_p40 fu2) (nI (4 + p)) Mm := by
      show (if (Mm 107 24) = 0 then _ else _) = _
      rw [if_pos z0]
      split
      · rw [if_pos (z_ib_n (by decide) (by omega)), nI_clamp (by omega), eM, if_neg (show ¬ nI m = (4 : Int32) from fun z => by have := (nI_eq (b := 4) (by omega) (by decide)).mp z; omega)]
      · rfl
    rw [e40]
    unfold f_X8_readPlay_107_p70 f_X3_readPlay_79_p22
    rw [eC, show nI p * (4 : Int32) = nI (p * 4) from nI_mul p 4, nI_add, show p * 4 + m = 4 * p + m by omega, nI_1]
    rcases G_num (lo := 0) (hi := 19) h (by decide) (by decide) with ⟨s, b2, t2, r2, Bc, Bm, s1, s2, s3, s4, s5⟩ | ⟨f, pp, Bc, Bm, s1, s2, s3⟩
    · have s3 : f_X3_takeNumber_79 (0 : Int32) (19 : Int32) Mc = some (nI s, Bc) := s3
      have s4 : f_X8_readNumber_107 (0 : Int32) (19 : Int32) Mm = some (nI s, Bm) := s4
      obtain ⟨y0, y22, y4, y20, y3, hle2⟩ := GD_0 s5
      have eB : Bm 120 (4 + p) = nI m := (s5.2.2.2.2 120 _ (by decide) (by decide)).trans hpl.2.2.2.1
      have eB8 : Bm 109 8 = nI p := (s5.2.2.2.2 109 8 (by decide) (by decide)).trans hp.2.2
      have fB : Bc 79 8 = x := (R_X3_takeNumber_79 s3 79 8 rfl).trans hfl
      have hz8 : z_ib (nI (4 + p)) 8 = true := z_ib_n (by decide) (by omega)
      have ei : (4 : Int32) * nI (4 + p) + nI m = nI (16 + 4 * p + m) := by
        rw [show (4 : Int32) * nI (4 + p) = nI (4 * (4 + p)) from nI_mul 4 _, nI_add, show 4 * (4 + p) + m = 16 + 4 * p + m by omega]
      rw [s3, z_bi_s, s4, z_bi_s, if_pos y0, hz8, if_pos rfl, if_pos rfl, if_pos rfl, nI_clamp (show 4 + p < 2 ^ 31 by omega), eB, ei, if_pos (z_ib_n (by decide) (by omega)), nI_clamp (show 16 + 4 * p + m < 2 ^ 31 by omega), y20, eB8, nI_1, nI_1, z_pt_nI (by decide) (by omega), z_bv_s, show z_up Bc 77 (4 * p + m) (nI s) 79 3 = nI t2 from y3]
      have g1 := GD_cu (a := 77) (i := 4 * p + m) (v := nI s) (GD_mu (a := 120) (i := 4 + p) (v := nI (m + 1)) (GD_mu (a := 119) (i := 16 + 4 * p + m) (v := nI s) s5 (by decide)) (by decide)) (by decide)
      have g2 : DR w k g p q (z_up C 77 (4 * p + m) (nI s)) (z_up (z_up D 119 (16 + 4 * p + m) (nI s)) 120 (4 + p) (nI (m + 1))) := DR_pl hd (by omega)
      have g3 : PLq p c (m + 1) (z_up C 77 (4 * p + m) (nI s)) (z_up (z_up D 119 (16 + 4 * p + m) (nI s)) 120 (4 + p) (nI (m + 1))) := by
        obtain ⟨x1, x2, x3, x4, x5⟩ := hpl
        refine ⟨x1, x2, x3, z_up_s, ?_⟩
        intro j hj
        by_cases hjm : j = m
        · rw [hjm]
          exact ⟨s, s2, z_up_s, (z_up_o (by decide)).trans z_up_s⟩
        · obtain ⟨s', w1, w2, w3⟩ := x5 j (by omega)
          refine ⟨s', w1, ?_, ?_⟩
          · rw [z_up_n (by omega)]; exact w2
          · rw [z_up_o (by decide), z_up_n (by omega)]; exact w3
      by_cases ht : t2 = 2
      · have et : nI t2 = (2 : Int32) := by rw [ht]; rfl
        rw [if_pos et, if_pos et]
        by_cases hm4 : m + 1 = 4
        · right
          rw [if_pos (show (4 : Int32) ≤ nI (m + 1) by rw [hm4]; decide)]
          obtain ⟨q1, q2⟩ := G_fail (f := 2) (p := nI b2) g1 (by decide)
          obtain ⟨w1, w2, w3⟩ := G_wrong (f := 2) (Mm := z_up (z_up Bm 119 (16 + 4 * p + m) (nI s)) 120 (4 + p) (nI (m + 1))) g1.2.2.2.2 y0 y22
          have hb := MJ_bad q2 w2
          obtain ⟨E, j1, -, j2⟩ := J_p83 (a := nI c) (c := nI (m + 1)) q2
          have ec : f_X3_readPlay_79_p66 (nI c) (nI (m + 1)) (z_up Bc 77 (4 * p + m) (nI s)) = some E := by
            unfold f_X3_readPlay_79_p66
            rw [if_pos (show z_up Bc 77 (4 * p + m) (nI s) 79 3 = (2 : Int32) from y3.trans et), show z_up Bc 77 (4 * p + m) (nI s) 79 4 = nI b2 from y4, q1, z_bv_s, j1]
          obtain ⟨fu2, rfl⟩ : ∃ y, fu2 = y + 1 := ⟨fu2 - 1, by omega⟩
          have em : f_X8_readPlay_107_p40 (fu2 + 1) (nI (4 + p)) (z_up (z_up Bm 119 (16 + 4 * p + m) (nI s)) 120 (4 + p) (nI (m + 1))) = some (z_up (z_up (z_up (z_up Bm 119 (16 + 4 * p + m) (nI s)) 120 (4 + p) (nI (m + 1))) 107 24 2) 107 25 (nI b2)) := by
            show (if (z_up (z_up Bm 119 (16 + 4 * p + m) (nI s)) 120 (4 + p) (nI (m + 1)) 107 24) = 0 then _ else _) = _
            rw [if_pos (show z_up (z_up Bm 119 (16 + 4 * p + m) (nI s)) 120 (4 + p) (nI (m + 1)) 107 24 = 0 from y0), if_pos (show z_up (z_up Bm 119 (16 + 4 * p + m) (nI s)) 120 (4 + p) (nI (m + 1)) 107 20 = 2 from y20.trans et), hz8, if_pos rfl, nI_clamp (by omega), z_up_s, if_pos (show nI (m + 1) = (4 : Int32) by rw [hm4]; rfl), w1, z_bv_s, N_p70 hb]
          rw [ec, em, z_bv_s]
          exact ⟨2, nI b2, x, E, _, rfl, B_end hb hx, j2, w2⟩
        · rw [if_neg (show ¬ (4 : Int32) ≤ nI (m + 1) from nI_ge (b := 4) (by omega) (by decide))]
          exact RSq_le (ih (m + 1) (by omega) (by omega) fu1 fu2 _ _ _ _ _ _ _ _ (by omega) (by omega) g1 g2 g3 (Or.inr ht) fB) (by omega)
      · have et : ¬ nI t2 = (2 : Int32) := fun z => ht ((nI_eq (b := 2) (by omega) (by decide)).mp z)
        have ec : f_X3_readPlay_79_p66 (nI c) (nI (m + 1)) (z_up Bc 77 (4 * p + m) (nI s)) = f_X3_readPlay_79_p83 (nI c) (nI (m + 1)) (z_up Bc 77 (4 * p + m) (nI s)) := by
          unfold f_X3_readPlay_79_p66
          rw [if_neg (show ¬ z_up Bc 77 (4 * p + m) (nI s) 79 3 = (2 : Int32) from fun z => et (y3.symm.trans z))]
        rw [if_neg et, if_neg et, ec, z_bv_s]
        have fin := RSq_le (r0 := e) (T_83 g1 g2 hp4 (by omega) g3 hx fB) (by omega)
        split
        · exact fin
        · exact fin
    · right
      have s1 : f_X3_takeNumber_79 (0 : Int32) (19 : Int32) Mc = some (-1, Bc) := s1
      have s2 : f_X8_readNumber_107 (0 : Int32) (19 : Int32) Mm = some ((0 : Int32), Bm) := s2
      have hb := BJ_bad s3
      have j3 : CJ u n f pp (z_pt Bc 77 16 (nI (4 * p + m)) (-1)) := J_pt77 s3.1
      obtain ⟨E, e1, e2, e3⟩ := J_p83 (a := nI c) (c := nI (m + 1)) j3
      rw [s1, z_bi_s, z_bv_s, s2, z_bi_s, if_neg hb, z_bv_s, e2]
      by_cases h4 : (4 : Int32) ≤ nI (m + 1)
      · rw [if_pos h4]; exact ⟨f, pp, x, E, Bm, rfl, B_end hb hx, e3, s3.2.1⟩
      · rw [if_neg h4]
        split
        · have hlt : m + 1 < 4 := by
            apply Nat.not_le.mp
            intro z
            exact h4 (nI_le (a := 4) z (by omega))
          obtain ⟨F, f1, f2⟩ := J_p22 (u := u) (n := n) (f := f) (p := pp) l (m + 1) (by omega) (by omega) fu1 (nI c) _ (by omega) j3
          exact ⟨f, pp, x, F, Bm, f1, B_end hb hx, f2, s3.2.1⟩
        · exact ⟨f, pp, x, E, Bm, rfl, B_end hb hx, e3, s3.2.1⟩
theorem T_play {u : Nat → Nat} {n e b t r w k g p q : Nat} {C D Mc Mm : zMM} {x : Int32} (h : GD u n e b t r C D Mc Mm) (hd : DR w k g p q C D) (hx : z_zb x = true) (hfl : Mc 79 8 = x) : RSq u n r (f_X3_readPlay_79 Mc) (z_bv (f_X8_readPlay_107 Mm) fun M => f_X8_readLine_107_p187 x M) x := by
  obtain ⟨p1, p2, p3⟩ := hd.2.2.2.1
  unfold f_X3_readPlay_79 f_X8_readPlay_107
  rcases G_head (x := 3) (j := 11) (most := 4) h (by decide) p2 p3 (by decide) p1 with ⟨b1, tt1, r1, Ac, Am, a0, a1, a2, a3⟩ | ⟨f, pp, Ac, Am, a1, a2, a3⟩
  · have a1 : f_X3_takeHead_79 (Mc 66 11) (4 : Int32) Mc = some Ac := a1
    have a2 : f_X8_begin_107 (3 : Int32) (4 : Int32) Mm = some ((1 : Int32), Am) := a2
    have hle1 := (GD_0 a3).2.2.2.2.2
    have fA : Ac 79 8 = x := (R_X3_takeHead_79 a1 79 8 rfl).trans hfl
    have eA : Am 109 8 = nI p := (a3.2.2.2.2 109 8 (by decide) (by decide)).trans p3
    rw [a1, z_bv_s, a2, z_bi_s, if_neg (show ¬ (1 : Int32) = 0 by decide), eA, show (4 : Int32) + nI p = nI (4 + p) from nI_add 4 p, show z_ib (nI (4 + p)) 8 = true from z_ib_n (by decide) (by omega), nI_clamp (by omega)]
    rcases G_num (lo := 1) (hi := 20) a3 (by decide) (by decide) with ⟨c, b2, t2, r2, Bc, Bm, s1, s2, s3, s4, s5⟩ | ⟨f, pp, Bc, Bm, s1, s2, s3⟩
    · have s3 : f_X3_takeNumber_79 (1 : Int32) (20 : Int32) Ac = some (nI c, Bc) := s3
      have s4 : f_X8_readNumber_107 (1 : Int32) (20 : Int32) Am = some (nI c, Bm) := s4
      have hle2 := (GD_0 s5).2.2.2.2.2
      have fB : Bc 79 8 = x := (R_X3_takeNumber_79 s3 79 8 rfl).trans fA
      rw [s3, z_bi_s, s4, z_bi_s, if_pos rfl, if_pos rfl]
      have g1 := GD_mu (a := 120) (i := 4 + p) (v := nI 0) (GD_mu (a := 118) (i := 4 + p) (v := nI c) s5 (by decide)) (by decide)
      exact RSq_le (T_22 a0 hx 4 0 (by decide) (by decide) z_fuel z_fuel _ _ _ _ _ _ _ _ (by decide) (by decide) g1 (DR_p0 hd) ⟨s1, s2, (z_up_o (by decide)).trans z_up_s, z_up_s, fun j hj => absurd hj (by omega)⟩ (Or.inl rfl) fB) (by omega)
    · right
      have s1 : f_X3_takeNumber_79 (1 : Int32) (20 : Int32) Ac = some (-1, Bc) := s1
      have s2 : f_X8_readNumber_107 (1 : Int32) (20 : Int32) Am = some ((0 : Int32), Bm) := s2
      have hb := BJ_bad s3
      obtain ⟨E, j1, j2⟩ := J_p22 (u := u) (n := n) (f := f) (p := pp) 4 0 (by decide) (by decide) z_fuel (-1) Bc (by decide) s3.1
      have j1 : f_X3_readPlay_79_p22 z_fuel (-1 : Int32) (0 : Int32) Bc = some E := j1
      rw [s1, z_bi_s, s2, z_bi_s, if_pos rfl, if_pos rfl, N_p40 (M := z_up (z_up Bm 118 (4 + p) (0 : Int32)) 120 (4 + p) (0 : Int32)) (by decide) hb, z_bv_s]
      exact ⟨f, pp, x, E, _, j1, B_end (M := z_up (z_up Bm 118 (4 + p) (0 : Int32)) 120 (4 + p) (0 : Int32)) hb hx, j2, s3.2.1⟩
  · right
    have a1 : f_X3_takeHead_79 (Mc 66 11) (4 : Int32) Mc = some Ac := a1
    have a2 : f_X8_begin_107 (3 : Int32) (4 : Int32) Mm = some ((0 : Int32), Am) := a2
    obtain ⟨v, A, i1, i2⟩ := J_num (x := 1) (y := 20) a3.1
    obtain ⟨E, j1, j2⟩ := J_p22 (u := u) (n := n) (f := f) (p := pp) 4 0 (by decide) (by decide) z_fuel v A (by decide) i2
    rw [a1, z_bv_s, a2, z_bi_s, if_pos rfl, z_bv_s, i1, z_bi_s]
    exact ⟨f, pp, x, E, Am, j1, B_end (BJ_bad a3) hx, j2, a3.2.1⟩
theorem T_line {u : Nat → Nat} {n e b t r w k g p q : Nat} {C D Mc Mm : zMM} {x : Int32} (h : GD u n e b t r C D Mc Mm) (hd : DR w k g p q C D) (hx : z_zb x = true) (hfl : Mc 79 8 = x) : ∃ x', z_zb x' = true ∧ RSq u n r (f_X3_readLine_79 Mc) (f_X8_readLine_107 x Mm) x' := by
  obtain ⟨w3, w9, w10, w11, w12, w13, w14, -⟩ := wsq_all
  obtain ⟨z0, z22, z4, -⟩ := GD_0 h
  obtain ⟨b1, tt1, r1, Ac, Am, a1, a2, a3⟩ := G_step h
  have un : ∀ R : Option zMM, (z_bv R fun M => some M) = R := by
    intro R
    cases R <;> rfl
  unfold f_X3_readLine_79 f_X8_readLine_107
  simp only [un]
  rcases G_word h w3 with ⟨-, c1, c2⟩ | ⟨-, c1, c2⟩
  · rw [c1, z_bi_s, if_neg (show ¬ (1 : Int32) = 0 by decide), c2, z_bi_s, if_neg (show ¬ (1 : Int32) = 0 by decide)]
    exact ⟨x, hx, T_town h hd hx hfl⟩
  rw [c1, z_bi_s, if_pos rfl, c2, z_bi_s, if_pos rfl]
  rcases G_word h w9 with ⟨-, c1, c2⟩ | ⟨-, c1, c2⟩
  · have ep : f_X8_passes_107_21 Mm = some ((1 : Int32), Am) := by
      unfold f_X8_passes_107_21
      rw [c2, z_bi_s, if_neg (by decide), a2, z_bv_s, if_pos (by decide)]
    rw [c1, z_bi_s, if_neg (show ¬ (1 : Int32) = 0 by decide), ep, z_bi_s, if_neg (show ¬ (1 : Int32) = 0 by decide)]
    exact ⟨x, hx, T_train h hd hx hfl a2⟩
  have ep : f_X8_passes_107_21 Mm = some ((0 : Int32), Mm) := by
    unfold f_X8_passes_107_21
    rw [c2, z_bi_s, if_pos rfl, if_pos (by decide)]
  rw [c1, z_bi_s, if_pos rfl, ep, z_bi_s, if_pos rfl]
  rcases G_word h w10 with ⟨-, c1, c2⟩ | ⟨-, c1, c2⟩
  · rw [c1, z_bi_s, if_neg (show ¬ (1 : Int32) = 0 by decide), c2, z_bi_s, if_neg (show ¬ (1 : Int32) = 0 by decide)]
    exact ⟨x, hx, T_trunk h hd hx hfl⟩
  rw [c1, z_bi_s, if_pos rfl, c2, z_bi_s, if_pos rfl]
  rcases G_word h w11 with ⟨-, c1, c2⟩ | ⟨-, c1, c2⟩
  · rw [c1, z_bi_s, if_neg (show ¬ (1 : Int32) = 0 by decide), c2, z_bi_s, if_neg (show ¬ (1 : Int32) = 0 by decide)]
    exact ⟨x, hx, T_thing h hd hx hfl⟩
  rw [c1, z_bi_s, if_pos rfl, c2, z_bi_s, if_pos rfl]
  rcases G_word h w12 with ⟨-, c1, c2⟩ | ⟨-, c1, c2⟩
  · rw [c1, z_bi_s, if_neg (show ¬ (1 : Int32) = 0 by decide), c2, z_bi_s, if_neg (show ¬ (1 : Int32) = 0 by decide)]
    exact ⟨x, hx, T_play h hd hx hfl⟩
  rw [c1, z_bi_s, if_pos rfl, c2, z_bi_s, if_pos rfl]
  rcases G_word h w13 with ⟨-, c1, c2⟩ | ⟨-, c1, c2⟩
  · have ep : f_X8_passes_107_25 Mm = some ((1 : Int32), Am) := by
      unfold f_X8_passes_107_25
      rw [c2, z_bi_s, if_neg (by decide), a2, z_bv_s, if_pos (by decide)]
    rw [c1, z_bi_s, if_neg (show ¬ (1 : Int32) = 0 by decide), ep, z_bi_s, if_neg (show ¬ (1 : Int32) = 0 by decide)]
    exact ⟨x, hx, T_like h hd hx hfl a2⟩
  have ep : f_X8_passes_107_25 Mm = some ((0 : Int32), Mm) := by
    unfold f_X8_passes_107_25
    rw [c2, z_bi_s, if_pos rfl, if_pos (by decide)]
  rw [c1, z_bi_s, if_pos rfl, ep, z_bi_s, if_pos rfl]
  rcases G_word h w14 with ⟨-, c1, c2⟩ | ⟨-, c1, c2⟩
  · rw [c1, z_bi_s, if_neg (show ¬ (1 : Int32) = 0 by decide), c2, z_bi_s, if_neg (show ¬ (1 : Int32) = 0 by decide)]
    exact ⟨1, by decide, T_troupe h hd hfl⟩
  rw [c1, z_bi_s, if_pos rfl, c2, z_bi_s, if_pos rfl]
  obtain ⟨q1, q2⟩ := G_fail (f := 1) (p := nI b) h (by decide)
  obtain ⟨y1, y2, y3⟩ := G_wrong (f := 1) h.2.2.2.2 z0 z22
  obtain ⟨F, f1, f2, f3⟩ := N_t171 (MJ_bad q2 y2) y2
  rw [z4, q1, y1, z_bv_s, f2]
  exact ⟨1, by decide, Or.inr ⟨1, nI b, 1, _, F, rfl, rfl, q2, f3⟩⟩
/-! what the model's reader leaves alone: the first halves -/
def prq (a b : Nat) : Prop := (a = 109 ∧ b < 5) ∨ (110 ≤ a ∧ a ≤ 113 ∧ b < 5) ∨ (a = 114 ∧ b < 25) ∨ ((a = 116 ∨ a = 117) ∧ b < 11) ∨ ((a = 118 ∨ a = 120) ∧ b < 4) ∨ (a = 119 ∧ b < 16) ∨ (a = 121 ∧ b < 400)
def LOq (M M' : zMM) : Prop := ∀ a b, prq a b → M' a b = M a b
theorem LO_refl {M : zMM} : LOq M M := fun _ _ _ => rfl
theorem LO_tr {M M1 M2 : zMM} (h : LOq M M1) (k : LOq M1 M2) : LOq M M2 := fun a b hab => (k a b hab).trans (h a b hab)
theorem LO_up {M M1 : zMM} {r i : Nat} {v : Int32} (h : LOq M M1) (hn : ¬ prq r i) : LOq M (z_up M1 r i v) := by
  intro a b hab
  rw [← h a b hab]
  by_cases hr : a = r
  · rw [hr]
    by_cases hi : b = i
    · rw [hr, hi] at hab; exact absurd hab hn
    · exact z_up_n hi
  · exact z_up_o hr
theorem LO_fr {w : zWs} {M M' : zMM} (hw : outq w 109 121 = true) (h : z_fr w M M') : LOq M M' := by
  intro a b hab
  have : 109 ≤ a ∧ a ≤ 121 := by
    unfold prq at hab
    omega
  exact out_fr hw h a b this.1 this.2
theorem sm_eq {a b : Int32} {A B : zMM} (h : some (a, A) = some (b, B)) : b = a ∧ B = A := by
  have e := Option.some.inj h
  exact ⟨(congrArg Prod.fst e).symm, (congrArg Prod.snd e).symm⟩
def nnq (v : Int32) : Prop := ∃ j : Nat, j ≤ 9999 ∧ v = nI j
theorem nn_0 : nnq 0 := ⟨0, by decide, rfl⟩
theorem U_now {lo hi : Nat} {v : Int32} {M M' : zMM} (hl : lo < 2 ^ 31) (hh : hi ≤ 9999) (h : f_X8_numberNow_107 (nI lo) (nI hi) M = some (v, M')) : nnq v := by
  have w0 : ∀ f : Int32, f ≠ 0 → ∀ M M1, f_X8_wrong_107 f M = some M1 → ¬ M1 107 24 = 0 := by
    intro f hf M M1 hw
    unfold f_X8_wrong_107 at hw
    split at hw
    · rw [← Option.some.inj hw]
      show ¬ f = 0
      exact hf
    · rename_i hz
      rw [← Option.some.inj hw]; exact hz
  have p54 : ∀ v M', f_X8_numberNow_107_p54 M = some (v, M') → v = 0 := by
    intro v M' hp
    unfold f_X8_numberNow_107_p54 at hp
    obtain ⟨M6, c1, hp⟩ := z_bv_c hp
    rw [if_neg (w0 2 (by decide) _ _ c1)] at hp
    have := Option.some.inj hp
    exact (congrArg Prod.fst this).symm
  unfold f_X8_numberNow_107 at h
  split at h
  · split at h
    · split at h
      · rw [p54 _ _ h]; exact nn_0
      · split at h
        · rw [p54 _ _ h]; exact nn_0
        · rename_i h1
          split at h
          · rename_i h2
            · rw [(sm_eq h).1]
              have hlo : ¬ M 107 21 < 0 := by
                intro z
                apply h1
                rw [Int32.lt_iff_toInt_lt] at z ⊢
                rw [nI_toInt hl]
                have e0 : (0 : Int32).toInt = 0 := rfl
                omega
              obtain ⟨j, hj, ej⟩ := nI_of hlo
              rw [ej] at h2 ⊢
              refine ⟨j, ?_, rfl⟩
              have : j ≤ hi := by
                apply Nat.not_lt.mp
                intro z
                exact nI_ge (a := hi) (b := j) z hj h2
              omega
          · rw [p54 _ _ h]; exact nn_0
    · obtain ⟨M13, c1, h⟩ := z_bv_c h
      rw [if_neg (w0 1 (by decide) _ _ c1)] at h
      rw [(sm_eq h).1]; exact nn_0
  · rw [(sm_eq h).1]; exact nn_0
theorem U_num {lo hi : Nat} {v : Int32} {M M' : zMM} (hl : lo < 2 ^ 31) (hh : hi ≤ 9999) (h : f_X8_readNumber_107 (nI lo) (nI hi) M = some (v, M')) : nnq v := by
  unfold f_X8_readNumber_107 at h
  obtain ⟨v2, M3, c1, h⟩ := z_bi_c h
  have hv := U_now hl hh c1
  split at h
  · obtain ⟨M7, c2, h⟩ := z_bv_c h
    rw [(sm_eq h).1]; exact hv
  · rw [(sm_eq h).1]; exact hv
theorem U_onow {x v : Int32} {M M' : zMM} (h : f_X8_oneNow_107 x M = some (v, M')) : nnq v := by
  unfold f_X8_oneNow_107 at h
  obtain ⟨v2, M3, c1, h⟩ := z_bi_c h
  have hv := U_now (lo := 0) (hi := 9999) (by decide) (by decide) c1
  split at h
  · obtain ⟨-, h⟩ := z_ifn h
    split at h
    · rw [(sm_eq h).1]; exact hv
    · obtain ⟨M10, c2, h⟩ := z_bv_c h
      split at h
      · rw [(sm_eq h).1]; exact hv
      · rw [(sm_eq h).1]; exact nn_0
  · rw [(sm_eq h).1]; exact nn_0
theorem U_one {x v : Int32} {M M' : zMM} (h : f_X8_readOne_107 x M = some (v, M')) : nnq v := by
  unfold f_X8_readOne_107 at h
  obtain ⟨v2, M3, c1, h⟩ := z_bi_c h
  have hv := U_onow c1
  split at h
  · obtain ⟨M7, c2, h⟩ := z_bv_c h
    rw [(sm_eq h).1]; exact hv
  · rw [(sm_eq h).1]; exact hv
theorem U_187 {x v : Int32} {M M' : zMM} (h : f_X8_readLine_107_p187 x M = some (v, M')) : LOq M M' := by
  have fin : ∀ A, (if z_zb x = true then some (x, A) else none) = some (v, M') → M' = A := by
    intro A hA
    obtain ⟨-, hA⟩ := z_ifn hA
    exact (congrArg Prod.snd (Option.some.inj hA)).symm
  unfold f_X8_readLine_107_p187 at h
  split at h
  · split at h
    · obtain ⟨A, c1, h⟩ := z_bv_c h
      rw [fin _ h]
      exact LO_fr (by decide) (R_X8_stepOn_107 c1)
    · obtain ⟨B, c2, h⟩ := z_bv_c h
      have q := LO_fr (by decide) (R_X8_wrong_107 c2)
      split at h
      · obtain ⟨A, c1, h⟩ := z_bv_c h
        rw [fin _ h]
        exact LO_tr q (LO_fr (by decide) (R_X8_stepOn_107 c1))
      · rw [fin _ h]; exact q
  · rw [fin _ h]; exact LO_refl
